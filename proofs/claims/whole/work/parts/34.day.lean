/-! ===== contracts: a day ===== -/
/-- what i says of o behind a day -/
def nt (S : xS) (i o : Nat) : Int32 := hel (S.1 4 (8 * i + o) + lg1 S (tn (kd S i) (S.2 4) (S.1 2 o) (S.1 4 (8 * i + o))) (S.1 4 (8 * i + o)) (S.2 4 - S.2 4 / 7 * 7)) 0 99
/-- words turned before row i, column o -/
def tk (S : xS) (n i o : Nat) : Nat → Int32 := fun c => if (c / 8 < i ∨ (c / 8 = i ∧ c % 8 < o)) ∧ c % 8 < n ∧ c / 8 ≠ c % 8 then nt S (c / 8) (c % 8) else S.1 4 c
theorem c88 {i o : Nat} (ho : o < 8) : (8 * i + o) / 8 = i ∧ (8 * i + o) % 8 = o := by omega
theorem tk_at {S : xS} {n i o : Nat} (ho : o < 8) : tk S n i o (8 * i + o) = S.1 4 (8 * i + o) := by
  unfold tk
  obtain ⟨h1, h2⟩ := c88 (i := i) ho
  rw [h1, h2]
  exact if_neg (fun h => by omega)
theorem tk_step {S : xS} {n i o : Nat} (hn : n ≤ 8) (ho : o < n) (h : i ≠ o) : upd (tk S n i o) (8 * i + o) (nt S i o) = tk S n i (o + 1) := by
  funext c
  unfold upd
  obtain ⟨h1, h2⟩ := c88 (i := i) (o := o) (by omega)
  by_cases hc : c = 8 * i + o
  · rw [if_pos hc, hc]
    unfold tk
    rw [h1, h2, if_pos (by omega)]
  · rw [if_neg hc]
    unfold tk
    have e : ((c / 8 < i ∨ (c / 8 = i ∧ c % 8 < o)) ∧ c % 8 < n ∧ c / 8 ≠ c % 8) ↔ ((c / 8 < i ∨ (c / 8 = i ∧ c % 8 < o + 1)) ∧ c % 8 < n ∧ c / 8 ≠ c % 8) := by omega
    by_cases hp : (c / 8 < i ∨ (c / 8 = i ∧ c % 8 < o)) ∧ c % 8 < n ∧ c / 8 ≠ c % 8
    · rw [if_pos hp, if_pos (e.mp hp)]
    · rw [if_neg hp, if_neg (fun z => hp (e.mpr z))]
theorem tk_skip {S : xS} {n i : Nat} : tk S n i i = tk S n i (i + 1) := by
  funext c
  unfold tk
  have e : ((c / 8 < i ∨ (c / 8 = i ∧ c % 8 < i)) ∧ c % 8 < n ∧ c / 8 ≠ c % 8) ↔ ((c / 8 < i ∨ (c / 8 = i ∧ c % 8 < i + 1)) ∧ c % 8 < n ∧ c / 8 ≠ c % 8) := by omega
  by_cases hp : (c / 8 < i ∨ (c / 8 = i ∧ c % 8 < i)) ∧ c % 8 < n ∧ c / 8 ≠ c % 8
  · rw [if_pos hp, if_pos (e.mp hp)]
  · rw [if_neg hp, if_neg (fun z => hp (e.mpr z))]
theorem tk_row {S : xS} {n i : Nat} : tk S n i n = tk S n (i + 1) 0 := by
  funext c
  unfold tk
  have e : ((c / 8 < i ∨ (c / 8 = i ∧ c % 8 < n)) ∧ c % 8 < n ∧ c / 8 ≠ c % 8) ↔ ((c / 8 < i + 1 ∨ (c / 8 = i + 1 ∧ c % 8 < 0)) ∧ c % 8 < n ∧ c / 8 ≠ c % 8) := by omega
  by_cases hp : (c / 8 < i ∨ (c / 8 = i ∧ c % 8 < n)) ∧ c % 8 < n ∧ c / 8 ≠ c % 8
  · rw [if_pos hp, if_pos (e.mp hp)]
  · rw [if_neg hp, if_neg (fun z => hp (e.mpr z))]
theorem tk_0 {S : xS} {n : Nat} : tk S n 0 0 = S.1 4 := by
  funext c
  unfold tk
  exact if_neg (fun h => by omega)
def sT (S : xS) (f : Nat → Int32) : xS := (u2 S.1 4 f, S.2)
theorem sT_sT (S : xS) (f g : Nat → Int32) : (u2 (sT S f).1 4 g, (sT S f).2) = sT S g := by
  unfold sT
  rw [u2_u2]
section ShDay
variable {X : xX} {d : Nat} {σ : xW} {b : Nat} {S : xS}
theorem l_Sh_tw1 (hS : okS S) {i : Nat} (hi : i < cn S) : ∀ (k o : Nat) (l3 l4 : Value) (Z : xS), o + k = cn S → ∃ (Z' : xS) (l3' l4' : Value),
    xrun (X, xcall X (d + 3)) j_Sh_turnWords 12 [.ref (sh b 0), .int (nI i), .int (nI o), l3, l4] [] (ub σ b (shC b (sT S (tk S (cn S) i o)) Z)) =
      xrun (X, xcall X (d + 3)) j_Sh_turnWords 2 [.ref (sh b 0), .int (nI (i + 1)), .int (nI (cn S)), l3', l4'] [] (ub σ b (shC b (sT S (tk S (cn S) (i + 1) 0)) Z')) := by
  intro k
  obtain ⟨hc1, hc2⟩ := hS.1
  induction k with
  | zero =>
    intro o l3 l4 Z ho
    refine ⟨Z, l3, l4, ?_⟩
    have ho' : o = cn S := by omega
    subst ho'
    have h1 : nI (cn S) ≤ nI (cn S) := (nI_le_iff (by omega) (by omega)).mpr (by omega)
    have hcn : (sT S (tk S (cn S) i (cn S))).2 0 = nI (cn S) := hc1
    rw [s_Sh_turnWords_12]
    simp only [Option.bind_some, Option.bind_none, Option.toList_some, Option.toList_none, List.cons_append, List.nil_append, List.append_nil, bg_0_9, hcn, s_Sh_turnWords_17, if_pos h1, s_Sh_turnWords_88, nI_add1]
    rw [tk_row]
  | succ k ih =>
    intro o l3 l4 Z ho
    have h1 : ¬ nI (cn S) ≤ nI o := fun h => absurd ((nI_le_iff (by omega) (by omega)).mp h) (by omega)
    have ho8 : o < 8 := by omega
    have hi8 : i < 8 := by omega
    have hcn : (sT S (tk S (cn S) i o)).2 0 = nI (cn S) := hc1
    rw [s_Sh_turnWords_12]
    simp only [Option.bind_some, Option.bind_none, Option.toList_some, Option.toList_none, List.cons_append, List.nil_append, List.append_nil, bg_0_9, hcn, s_Sh_turnWords_17, if_neg h1, s_Sh_turnWords_20, nI_inj (a := i) (b := o) (by omega) (by omega)]
    by_cases hio : i = o
    · rw [if_pos hio, s_Sh_turnWords_82, nI_add1, ← hio, tk_skip]
      obtain ⟨Z', l3', l4', h⟩ := ih (i + 1) l3 l4 Z (by omega)
      exact ⟨Z', l3', l4', h⟩
    · rw [if_neg hio]
      have hk := hS.2.1 i hi8
      have hSt : okS (sT S (tk S (cn S) i o)) := hS
      have hsaid : (sT S (tk S (cn S) i o)).1 4 (8 * i + o) = S.1 4 (8 * i + o) := tk_at ho8
      have e2 : (sT S (tk S (cn S) i o)).1 2 o = S.1 2 o := rfl
      have e4 : (sT S (tk S (cn S) i o)).2 4 = S.2 4 := rfl
      obtain ⟨Z1, hl⟩ := c_Sh_lawGives1 (X := X) (d := d) (σ := σ) (b := b) hSt Z (tn (kd S i) (S.2 4) (S.1 2 o) (S.1 4 (8 * i + o))) (S.1 4 (8 * i + o)) (S.2 4 - S.2 4 / 7 * 7)
      have hsay := c_Sh_say (X := X) (d := d + 2) (σ := σ) (b := b) (S := sT S (tk S (cn S) i o)) (Z := Z1) hi8 ho8 (nt S i o)
      rw [sT_sT] at hsay
      have hup : upd ((sT S (tk S (cn S) i o)).1 4) (8 * i + o) (nt S i o) = tk S (cn S) i (o + 1) := tk_step hc2 (by omega) hio
      rw [hup] at hsay
      have hkof := c_Sh_kindOf (X := X) (d := d + 1) (σ := σ) (b := b) (S := sT S (tk S (cn S) i o)) (Z := Z) hi8 hk.2 hk.1
      simp only [Option.bind_some, Option.bind_none, Option.toList_some, Option.toList_none, List.cons_append, List.nil_append, List.append_nil, s_Sh_turnWords_25, bv_0, c_Sh_said hi8 ho8, hsaid, s_Sh_turnWords_31, hkof, s_Sh_turnWords_37, bg_0_13, e4, s_Sh_turnWords_42, bg_0_3, s_Sh_turnWords_46, br_11 ho8, e2, s_Sh_turnWords_48]
      rw [disp_turns _ hk.2]
      simp only [Option.bind_some, Option.bind_none, Option.toList_some, Option.toList_none, List.cons_append, List.nil_append, List.append_nil, s_Sh_turnWords_51, bg_0_13, e4, s_Sh_turnWords_66, bv_0, hl, s_Sh_turnWords_72, c_R_held, s_Sh_turnWords_79]
      have hnt : hel (S.1 4 (8 * i + o) + lg1 (sT S (tk S (cn S) i o)) (tn (kd S i) (S.2 4) (S.1 2 o) (S.1 4 (8 * i + o))) (S.1 4 (8 * i + o)) (S.2 4 - S.2 4 / 7 * 7)) 0 99 = nt S i o := rfl
      simp only [hnt, hsay, Option.bind_some, Option.bind_none, Option.toList_some, Option.toList_none, List.cons_append, List.nil_append, List.append_nil, s_Sh_turnWords_82, nI_add1]
      exact ih (o + 1) _ _ Z1 (by omega)
theorem l_Sh_tw2 (hS : okS S) : ∀ (k i : Nat) (l2 l3 l4 : Value) (Z : xS), i + k = cn S → ∃ Z' : xS,
    xrun (X, xcall X (d + 3)) j_Sh_turnWords 2 [.ref (sh b 0), .int (nI i), l2, l3, l4] [] (ub σ b (shC b (sT S (tk S (cn S) i 0)) Z)) = some (none, ub σ b (shC b (sT S (tk S (cn S) (cn S) 0)) Z')) := by
  intro k
  obtain ⟨hc1, hc2⟩ := hS.1
  induction k with
  | zero =>
    intro i l2 l3 l4 Z hi
    refine ⟨Z, ?_⟩
    have hi' : i = cn S := by omega
    subst hi'
    have h1 : nI (cn S) ≤ nI (cn S) := (nI_le_iff (by omega) (by omega)).mpr (by omega)
    have hcn : (sT S (tk S (cn S) (cn S) 0)).2 0 = nI (cn S) := hc1
    rw [s_Sh_turnWords_2]
    simp only [Option.bind_some, Option.bind_none, Option.toList_some, Option.toList_none, List.cons_append, List.nil_append, List.append_nil, bg_0_9, hcn, s_Sh_turnWords_7, if_pos h1, s_Sh_turnWords_94]
  | succ k ih =>
    intro i l2 l3 l4 Z hi
    have h1 : ¬ nI (cn S) ≤ nI i := fun h => absurd ((nI_le_iff (by omega) (by omega)).mp h) (by omega)
    have hcn : (sT S (tk S (cn S) i 0)).2 0 = nI (cn S) := hc1
    rw [s_Sh_turnWords_2]
    simp only [Option.bind_some, Option.bind_none, Option.toList_some, Option.toList_none, List.cons_append, List.nil_append, List.append_nil, bg_0_9, hcn, s_Sh_turnWords_7, if_neg h1, s_Sh_turnWords_10]
    obtain ⟨Z1, l3', l4', h⟩ := l_Sh_tw1 (X := X) (d := d) (σ := σ) (b := b) hS (i := i) (by omega) (cn S) 0 l3 l4 Z (by omega)
    have h : xrun (X, xcall X (d + 3)) j_Sh_turnWords 12 [.ref (sh b 0), .int (nI i), .int (0 : Int32), l3, l4] [] (ub σ b (shC b (sT S (tk S (cn S) i 0)) Z)) = _ := h
    rw [h]
    exact ih (i + 1) _ _ _ Z1 (by omega)
theorem c_Sh_turnWords (hS : okS S) (Z : xS) : ∃ Z', xcall X (d + 4) j_Sh_turnWords [.ref (sh b 0)] (ub σ b (shC b S Z)) = some (none, ub σ b (shC b (sT S (tk S (cn S) (cn S) 0)) Z')) := by
  rw [e_Sh_turnWords, s_Sh_turnWords_0]
  have h := l_Sh_tw2 (X := X) (d := d) (σ := σ) (b := b) hS (cn S) 0 .null .null .null Z (by omega)
  rw [tk_0] at h
  have hs : sT S (S.1 4) = S := by unfold sT; rw [u2_self]
  rw [hs] at h
  exact h
/-! who gets lost -/
theorem or_bit : ∀ i : Nat, i < 8 → ∀ m : Nat, m < 256 → nI m ||| ((1 : Int32) <<< (nI i &&& 31)) = nI (m ||| 2 ^ i) := by decide +kernel
theorem and_bit : ∀ i : Nat, i < 8 → ∀ m : Nat, m < 256 → (nI m &&& ((1 : Int32) <<< (nI i &&& 31)) = 0 ↔ m.testBit i = false) := by decide +kernel
def dd (S : xS) (i : Nat) : Prop := 0 < S.1 2 i ∧ S.1 3 i = 0 ∧ ro S i < S.1 2 i + 5 * S.2 3
noncomputable def gs (S : xS) : Nat → Nat
  | 0 => 0
  | i + 1 => @ite _ (dd S i) (Classical.propDecidable _) (gs S i ||| 2 ^ i) (gs S i)
theorem gs_lt (S : xS) : ∀ i : Nat, gs S i < 2 ^ i
  | 0 => by show 0 < 1; omega
  | i + 1 => by
    have h := gs_lt S i
    have h2 : 2 ^ i < 2 ^ (i + 1) := Nat.pow_lt_pow_right (by omega) (by omega)
    unfold gs
    split
    · exact Nat.or_lt_two_pow (by omega) h2
    · omega
theorem gs_256 (S : xS) {i : Nat} (h : i ≤ 8) : gs S i < 256 := Nat.lt_of_lt_of_le (gs_lt S i) (Nat.pow_le_pow_right (n := 2) (by omega) h)
theorem l_Sh_dg1 (hS : okS S) : ∀ (k i : Nat) (Z : xS), i + k = cn S → ∃ Z' : xS,
    xrun (X, xcall X (d + 5)) j_Sh_dayGoesBy 4 [.ref (sh b 0), .int (nI (gs S i)), .int (nI i)] [] (ub σ b (shC b S Z)) = xrun (X, xcall X (d + 5)) j_Sh_dayGoesBy 63 [.ref (sh b 0), .int (nI (gs S (cn S))), .int (nI (cn S))] [] (ub σ b (shC b S Z')) := by
  intro k
  obtain ⟨hc1, hc2⟩ := hS.1
  induction k with
  | zero =>
    intro i Z hi
    refine ⟨Z, ?_⟩
    have hi' : i = cn S := by omega
    subst hi'
    have h1 : nI (cn S) ≤ nI (cn S) := (nI_le_iff (by omega) (by omega)).mpr (by omega)
    rw [s_Sh_dayGoesBy_4]
    simp only [Option.bind_some, Option.bind_none, Option.toList_some, Option.toList_none, List.cons_append, List.nil_append, List.append_nil, bg_0_9, hc1, s_Sh_dayGoesBy_9, if_pos h1]
  | succ k ih =>
    intro i Z hi
    have h1 : ¬ nI (cn S) ≤ nI i := fun h => absurd ((nI_le_iff (by omega) (by omega)).mp h) (by omega)
    have hi8 : i < 8 := by omega
    rw [s_Sh_dayGoesBy_4]
    have skip : ∀ Z1 : xS, ¬ dd S i → ∃ Z' : xS, xrun (X, xcall X (d + 5)) j_Sh_dayGoesBy 57 [.ref (sh b 0), .int (nI (gs S i)), .int (nI i)] [] (ub σ b (shC b S Z1)) = xrun (X, xcall X (d + 5)) j_Sh_dayGoesBy 63 [.ref (sh b 0), .int (nI (gs S (cn S))), .int (nI (cn S))] [] (ub σ b (shC b S Z')) := by
      intro Z1 hd
      have hg : gs S (i + 1) = gs S i := by
        show @ite _ (dd S i) (Classical.propDecidable _) (gs S i ||| 2 ^ i) (gs S i) = _
        rw [if_neg hd]
      rw [s_Sh_dayGoesBy_57, nI_add1, ← hg]
      exact ih (i + 1) Z1 (by omega)
    simp only [Option.bind_some, Option.bind_none, Option.toList_some, Option.toList_none, List.cons_append, List.nil_append, List.append_nil, bg_0_9, hc1, s_Sh_dayGoesBy_9, if_neg h1, s_Sh_dayGoesBy_12, bg_0_3, s_Sh_dayGoesBy_16, br_11 hi8, s_Sh_dayGoesBy_18]
    by_cases ho : S.1 2 i ≤ 0
    · rw [if_pos ho]
      exact skip Z (fun h => i32_nle.mpr h.1 ho)
    · rw [if_neg ho]
      simp only [Option.bind_some, Option.bind_none, Option.toList_some, Option.toList_none, List.cons_append, List.nil_append, List.append_nil, s_Sh_dayGoesBy_21, bg_0_4, s_Sh_dayGoesBy_25, br_12 hi8, s_Sh_dayGoesBy_27]
      by_cases hl : S.1 3 i = 0
      · rw [if_pos hl]
        obtain ⟨Z1, hr⟩ := c_Sh_ropeOf (X := X) (d := d) (σ := σ) (b := b) hS Z hi8
        simp only [Option.bind_some, Option.bind_none, Option.toList_some, Option.toList_none, List.cons_append, List.nil_append, List.append_nil, s_Sh_dayGoesBy_30, bg_0_3, s_Sh_dayGoesBy_34, br_11 hi8, s_Sh_dayGoesBy_36, bg_0_12, s_Sh_dayGoesBy_41, bv_0, hr, s_Sh_dayGoesBy_48]
        by_cases hro : S.1 2 i + 5 * S.2 3 ≤ ro S i
        · rw [if_pos hro]
          exact skip Z1 (fun h => i32_nle.mpr h.2.2 hro)
        · rw [if_neg hro, s_Sh_dayGoesBy_51, or_bit i hi8 (gs S i) (gs_256 S (by omega)), s_Sh_dayGoesBy_57, nI_add1]
          have hd : dd S i := ⟨i32_nle.mp ho, hl, i32_nle.mp hro⟩
          have hg : gs S (i + 1) = gs S i ||| 2 ^ i := by
            show @ite _ (dd S i) (Classical.propDecidable _) (gs S i ||| 2 ^ i) (gs S i) = _
            rw [if_pos hd]
          rw [← hg]
          exact ih (i + 1) Z1 (by omega)
      · rw [if_neg hl]
        exact skip Z (fun h => hl h.2.1)
/-- the lost, before i looked at -/
noncomputable def lsS (S : xS) (i : Nat) : Nat → Int32 := fun p => if p < i then (if S.1 3 p = 0 then (if (gs S (cn S)).testBit p = false then 0 else 1) else 1) else S.1 3 p
noncomputable def sL (S : xS) (i : Nat) : xS := (u2 S.1 3 (lsS S i), S.2)
theorem lsS_at {S : xS} {i : Nat} : lsS S i i = S.1 3 i := if_neg (Nat.lt_irrefl i)
theorem lsS_step {S : xS} {i : Nat} : upd (lsS S i) i (if S.1 3 i = 0 then (if (gs S (cn S)).testBit i = false then 0 else 1) else 1) = lsS S (i + 1) := by
  funext p
  unfold upd
  by_cases h : p = i
  · subst h
    rw [if_pos rfl]
    unfold lsS
    rw [if_pos (Nat.lt_succ_self p)]
  · rw [if_neg h]
    unfold lsS
    by_cases h2 : p < i
    · rw [if_pos h2, if_pos (show p < i + 1 by omega)]
    · rw [if_neg h2, if_neg (show ¬ p < i + 1 by omega)]
theorem sL_up (S : xS) (i : Nat) (f : Nat → Int32) : (u2 (sL S i).1 3 f, (sL S i).2) = (u2 S.1 3 f, S.2) := by
  unfold sL
  rw [u2_u2]
theorem l_Sh_dg2 (hS : okS S) : ∀ (k i : Nat) (Z : xS), i + k = cn S →
    xrun (X, xcall X (d + 5)) j_Sh_dayGoesBy 65 [.ref (sh b 0), .int (nI (gs S (cn S))), .int (nI i)] [] (ub σ b (shC b (sL S i) Z)) = xrun (X, xcall X (d + 5)) j_Sh_dayGoesBy 107 [.ref (sh b 0), .int (nI (gs S (cn S))), .int (nI (cn S))] [] (ub σ b (shC b (sL S (cn S)) Z)) := by
  intro k
  obtain ⟨hc1, hc2⟩ := hS.1
  induction k with
  | zero =>
    intro i Z hi
    have hi' : i = cn S := by omega
    subst hi'
    have h1 : nI (cn S) ≤ nI (cn S) := (nI_le_iff (by omega) (by omega)).mpr (by omega)
    have hcn : (sL S (cn S)).2 0 = nI (cn S) := hc1
    rw [s_Sh_dayGoesBy_65]
    simp only [Option.bind_some, Option.bind_none, Option.toList_some, Option.toList_none, List.cons_append, List.nil_append, List.append_nil, bg_0_9, hcn, s_Sh_dayGoesBy_70, if_pos h1]
  | succ k ih =>
    intro i Z hi
    have h1 : ¬ nI (cn S) ≤ nI i := fun h => absurd ((nI_le_iff (by omega) (by omega)).mp h) (by omega)
    have hi8 : i < 8 := by omega
    have hcn : (sL S i).2 0 = nI (cn S) := hc1
    have hl : (sL S i).1 3 i = S.1 3 i := lsS_at
    have hw : ∀ x : Int32, xnw 2 x = x → xwr (ub σ b (shC b (sL S i) Z)) [1, 2] (sh b 12) (nI i) x = some (ub σ b (shC b (u2 S.1 3 (upd (lsS S i) i x), S.2) Z)) := by
      intro x hx
      rw [bw_12 hi8, hx, sL_up]
      rfl
    rw [s_Sh_dayGoesBy_65]
    simp only [Option.bind_some, Option.bind_none, Option.toList_some, Option.toList_none, List.cons_append, List.nil_append, List.append_nil, bg_0_9, hcn, s_Sh_dayGoesBy_70, if_neg h1, s_Sh_dayGoesBy_73, bg_0_4, s_Sh_dayGoesBy_77, s_Sh_dayGoesBy_82, br_12 hi8, hl, s_Sh_dayGoesBy_84]
    have hfin : ∀ x : Int32, xnw 2 x = x → x = (if S.1 3 i = 0 then (if (gs S (cn S)).testBit i = false then 0 else 1) else 1) → xrun (X, xcall X (d + 5)) j_Sh_dayGoesBy 100 [.ref (sh b 0), .int (nI (gs S (cn S))), .int (nI i)] [.int x, .int (nI i), .ref (sh b 12)] (ub σ b (shC b (sL S i) Z)) = xrun (X, xcall X (d + 5)) j_Sh_dayGoesBy 107 [.ref (sh b 0), .int (nI (gs S (cn S))), .int (nI (cn S))] [] (ub σ b (shC b (sL S (cn S)) Z)) := by
      intro x hx hv
      rw [s_Sh_dayGoesBy_100, hw x hx, hv, lsS_step]
      simp only [Option.bind_some, Option.bind_none, Option.toList_some, Option.toList_none, List.cons_append, List.nil_append, List.append_nil, s_Sh_dayGoesBy_101, nI_add1]
      exact ih (i + 1) Z (by omega)
    by_cases h3 : S.1 3 i = 0
    · rw [if_pos h3, s_Sh_dayGoesBy_87]
      by_cases hb : (gs S (cn S)).testBit i = false
      · rw [if_pos ((and_bit i hi8 _ (gs_256 S hc2)).mpr hb), s_Sh_dayGoesBy_99]
        exact hfin 0 rfl (by rw [if_pos h3, if_pos hb])
      · rw [if_neg (fun e => hb ((and_bit i hi8 _ (gs_256 S hc2)).mp e)), s_Sh_dayGoesBy_95]
        exact hfin 1 rfl (by rw [if_pos h3, if_neg hb])
    · rw [if_neg h3, s_Sh_dayGoesBy_95]
      exact hfin 1 rfl (by rw [if_neg h3])
/-- the state behind a day -/
noncomputable def dyS (S : xS) : xS := ((sT (sL S (cn S)) (tk (sL S (cn S)) (cn S) (cn S) 0)).1, u1 S.2 4 (S.2 4 + 1))
theorem c_Sh_dayGoesBy (hS : okS S) (Z : xS) : ∃ Z', xcall X (d + 6) j_Sh_dayGoesBy [.ref (sh b 0)] (ub σ b (shC b S Z)) = some (some (.int (bct (nI (gs S (cn S))))), ub σ b (shC b (dyS S) Z')) := by
  rw [e_Sh_dayGoesBy, s_Sh_dayGoesBy_0]
  obtain ⟨Z1, h1⟩ := l_Sh_dg1 (X := X) (d := d) (σ := σ) (b := b) hS (cn S) 0 Z (by omega)
  have h1 : xrun (X, xcall X (d + 5)) j_Sh_dayGoesBy 4 [.ref (sh b 0), .int (0 : Int32), .int (0 : Int32)] [] (ub σ b (shC b S Z)) = _ := h1
  rw [h1, s_Sh_dayGoesBy_63]
  have h2 := l_Sh_dg2 (X := X) (d := d) (σ := σ) (b := b) hS (cn S) 0 Z1 (by omega)
  have hs0 : sL S 0 = S := by
    unfold sL
    have : lsS S 0 = S.1 3 := by
      funext p
      exact if_neg (Nat.not_lt_zero p)
    rw [this, u2_self]
  rw [hs0] at h2
  have h2 : xrun (X, xcall X (d + 5)) j_Sh_dayGoesBy 65 [.ref (sh b 0), .int (nI (gs S (cn S))), .int (0 : Int32)] [] (ub σ b (shC b S Z1)) = _ := h2
  have hSL : okS (sL S (cn S)) := hS
  obtain ⟨Z2, h3⟩ := c_Sh_turnWords (X := X) (d := d + 1) (σ := σ) (b := b) hSL Z1
  refine ⟨Z2, ?_⟩
  rw [h2]
  simp only [Option.bind_some, Option.bind_none, Option.toList_some, Option.toList_none, List.cons_append, List.nil_append, List.append_nil, s_Sh_dayGoesBy_107, bv_0, h3, s_Sh_dayGoesBy_111, bg_0_13, s_Sh_dayGoesBy_116, bp_0_13, s_Sh_dayGoesBy_121, c_Integer_bitCount, s_Sh_dayGoesBy_125]
  rfl
end ShDay
