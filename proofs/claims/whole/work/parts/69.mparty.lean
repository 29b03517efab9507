/-! ===== the model: calls, 6: party ===== -/
/-- who isn't lost, as a set -/
def alS (S : xS) : Nat → Nat
  | 0 => 0
  | i + 1 => if S.1 3 i = 0 then alS S i ||| 2 ^ i else alS S i
theorem alS_lt (S : xS) : ∀ i : Nat, alS S i < 2 ^ i
  | 0 => by show 0 < 1; omega
  | i + 1 => by
    have h := alS_lt S i
    have h2 : 2 ^ i < 2 ^ (i + 1) := Nat.pow_lt_pow_right (by omega) (by omega)
    unfold alS
    split
    · exact Nat.or_lt_two_pow (by omega) h2
    · omega
theorem alS_256 (S : xS) {i : Nat} (h : i ≤ 8) : alS S i < 256 := Nat.lt_of_lt_of_le (alS_lt S i) (Nat.pow_le_pow_right (n := 2) (by omega) h)
theorem alS_bit (S : xS) : ∀ n i : Nat, (alS S n).testBit i = true ↔ i < n ∧ S.1 3 i = 0
  | 0, i => by
    show (0 : Nat).testBit i = true ↔ _
    rw [Nat.zero_testBit]
    constructor
    · intro h; exact absurd h (by decide)
    · intro h; omega
  | n + 1, i => by
    have ih := alS_bit S n i
    unfold alS
    split
    · next hc =>
      rw [Nat.testBit_or, Bool.or_eq_true, ih, Nat.testBit_two_pow]
      constructor
      · rintro (h | h)
        · exact ⟨by omega, h.2⟩
        · have e : n = i := of_decide_eq_true h
          subst e
          exact ⟨by omega, hc⟩
      · rintro ⟨h1, h2⟩
        by_cases e : n = i
        · exact Or.inr (decide_eq_true e)
        · exact Or.inl ⟨by omega, h2⟩
    · next hc =>
      rw [ih]
      constructor
      · rintro ⟨h1, h2⟩; exact ⟨by omega, h2⟩
      · rintro ⟨h1, h2⟩
        by_cases e : i = n
        · subst e; exact absurd h2 hc
        · exact ⟨by omega, h2⟩
def caL (S : xS) (s A : Nat) (need : Int32) : Nat → Nat → Bool
  | 0, _ => true
  | n + 1, o => if s.testBit o = true ∧ rsL S (dif A s) o (cn S) 0 0 < need then false else caL S s A need n (o + 1)
theorem so_rs (S : xS) {s o : Nat} (hs : s < 256) (hc : cn S ≤ 8) (ho : s.testBit o = true) : ∀ (n i : Nat) (acc : Int32), i + n = cn S → soL S s o n i acc = rsL S (dif (alS S (cn S)) s) o n i acc
  | 0, _, _, _ => rfl
  | n + 1, i, acc, h => by
    unfold soL rsL
    have hb := dif_bit (alS_256 S hc) hs i
    rw [so_rs S hs hc ho n (i + 1) _ (by omega)]
    congr 1
    cases hx : s.testBit i with
    | true =>
      rw [hx] at hb
      rw [if_neg (by decide), if_neg (by rw [hb]; simp), Int32.add_zero]
    | false =>
      have hio : i ≠ o := fun e => by rw [e, ho] at hx; exact absurd hx (by decide)
      rw [if_pos rfl]
      unfold ropv
      have ha := alS_bit S (cn S) i
      rw [hx] at hb
      by_cases hl : S.1 3 i = 0
      · have h1 := ha.mpr ⟨by omega, hl⟩
        rw [if_pos ⟨hio, hl⟩, if_pos (by rw [hb, h1]; rfl)]
      · have h1 : ¬ (alS S (cn S)).testBit i = true := fun e => hl (ha.mp e).2
        rw [if_neg (fun e => hl e.2), if_neg (by rw [hb]; intro e; exact h1 (by simpa using e))]
theorem cb_ca (S : xS) {s : Nat} (hs : s < 256) (hc : cn S ≤ 8) (hsub : ∀ i, s.testBit i = true → (alS S (cn S)).testBit i = true) (need : Int32) : ∀ (n o : Nat), o + n = cn S → cbL S s need n o = caL S s (alS S (cn S)) need n o
  | 0, _, _ => rfl
  | n + 1, o, h => by
    unfold cbL caL
    rw [cb_ca S hs hc hsub need n (o + 1) (by omega)]
    by_cases hb : s.testBit o = true
    · have hl : S.1 3 o = 0 := ((alS_bit S (cn S) o).mp (hsub o hb)).2
      rw [so_rs S hs hc hb (cn S) 0 0 (by omega)]
      by_cases hq : rsL S (dif (alS S (cn S)) s) o (cn S) 0 0 < need
      · rw [if_pos ⟨hb, Or.inr hq⟩, if_pos ⟨hb, hq⟩]
      · rw [if_neg (fun e => e.2.elim (fun z => z hl) hq), if_neg (fun e => hq e.2)]
    · rw [if_neg (fun e => hb e.1), if_neg (fun e => hb e.1)]
theorem cb_sub (S : xS) {s : Nat} (need : Int32) : ∀ (n o : Nat), o + n = cn S → cbL S s need n o = true → ∀ i, o ≤ i → i < cn S → s.testBit i = true → S.1 3 i = 0
  | 0, _, h, _, i, h1, h2, _ => by omega
  | n + 1, o, h, hc, i, h1, h2, hb => by
    unfold cbL at hc
    by_cases c : s.testBit o = true ∧ (¬ S.1 3 o = 0 ∨ soL S s o (cn S) 0 0 < need)
    · rw [if_pos c] at hc
      exact absurd hc (by decide)
    · rw [if_neg c] at hc
      by_cases e : i = o
      · subst e
        by_cases z : S.1 3 i = 0
        · exact z
        · exact absurd ⟨hb, Or.inl z⟩ c
      · exact cb_sub S need n (o + 1) (by omega) hc i (by omega) h2 hb
theorem ptL_add (P : Nat → Bool) : ∀ (k j s b : Nat), ptL P (k + j) s b = ptL P j (s + k) (ptL P k s b)
  | 0, j, s, b => by rw [Nat.zero_add]; rfl
  | k + 1, j, s, b => by
    rw [show k + 1 + j = (k + j) + 1 by omega]
    unfold ptL
    rw [ptL_add P k j (s + 1), show s + 1 + k = s + (k + 1) by omega]
    cases j <;> rfl
theorem ptL_no (P : Nat → Bool) : ∀ (k s b : Nat), (∀ t, s ≤ t → t < s + k → P t = false) → ptL P k s b = b
  | 0, _, _, _ => rfl
  | k + 1, s, b, h => by
    unfold ptL
    rw [if_neg (fun e => by rw [h s (by omega) (by omega)] at e; exact absurd e.2 (by decide))]
    exact ptL_no P k (s + 1) b (fun t h1 h2 => h t (by omega) (by omega))
theorem par_A {S : xS} (hc : cn S ≤ 8) (far : Int32) : parB S far = ptL (fun s => cbL S s (far + 5 * S.2 3) (cn S) 0) (alS S (cn S)) 1 0 := by
  unfold parB
  have h1 := alS_lt S (cn S)
  have h2 := pow_256 hc
  rw [show 2 ^ cn S - 1 = alS S (cn S) + (2 ^ cn S - 1 - alS S (cn S)) by omega, ptL_add]
  refine ptL_no _ _ _ _ fun t ht1 ht2 => ?_
  cases hx : cbL S t (far + 5 * S.2 3) (cn S) 0 with
  | false => rfl
  | true =>
    exfalso
    have hs := cb_sub S (far + 5 * S.2 3) (cn S) 0 (by omega) hx
    have : t &&& alS S (cn S) = t := by
      apply Nat.eq_of_testBit_eq
      intro i
      rw [Nat.testBit_and]
      cases hy : t.testBit i with
      | false => rfl
      | true =>
        have hi : i < cn S := by
          by_cases z : i < cn S
          · exact z
          · rw [Nat.testBit_lt_two_pow (Nat.lt_of_lt_of_le (show t < 2 ^ cn S by omega) (Nat.pow_le_pow_right (by omega) (by omega)))] at hy
            exact absurd hy (by decide)
        rw [(alS_bit S (cn S) i).mpr ⟨hi, hs i (Nat.zero_le i) hi hy⟩]
        rfl
    have : t ≤ alS S (cn S) := by rw [← this]; exact Nat.and_le_right
    omega
section MParty
variable {X : xX} {d : Nat} {M R S K : xS} {σ : xW}
theorem l_M_can (hI : okI S) {s A : Nat} (hs : s < 256) (hA : A < 256) (far : Int32) : ∀ (k o : Nat) (M : xS), RS (M.1 0) S → o + k = cn S → ∃ N : xS, SF M N ∧
    xrun (X, xcall X (d + 6)) j_M_canAll 6 [.ref (sh 4 0), .int (nI s), .int (nI A), .int far, .int (1 : Int32), .int (nI o)] [] (ub σ 4 (mdC M)) = some (some (.int (if caL S s A (far + 5 * S.2 3) k o = true then 1 else 0)), ub σ 4 (mdC N)) := by
  intro k
  obtain ⟨hc1, hc2⟩ := hI.1.1
  induction k with
  | zero =>
    intro o M h ho
    have ho' : o = cn S := by omega
    subst ho'
    have h1 : nI (cn S) ≤ nI (cn S) := Int32.le_refl _
    have hct : M.1 0 2 = nI (cn S) := h.ct.trans hc1
    refine ⟨M, SF.rfl' M, ?_⟩
    rw [s_M_canAll_6]
    simp only [s_M_canAll_12, s_M_canAll_14, Option.bind_some, Option.bind_none, Option.toList_some, Option.toList_none, List.cons_append, List.nil_append, List.append_nil, mv_0, mg_0_0, mg_0_1, mg_0_2, mg_0_3, mg_0_4, mg_0_5, mg_0_6, mg_0_7, mg_0_8, mg_0_9, mg_0_10, mg_0_11, mg_0_12, mg_0_13, mg_0_14, mg_0_15, mg_0_16, mg_0_17, mg_0_18, mg_0_19, mg_0_20, mrc_2, hct, if_pos h1, s_M_canAll_68, xz1, if_true]
    rfl
  | succ k ih =>
    intro o M h ho
    have h1 : ¬ nI (cn S) ≤ nI o := fun e => absurd ((nI_le_iff (by omega) (by omega)).mp e) (by omega)
    have ho8 : o < 8 := by omega
    have hct : M.1 0 2 = nI (cn S) := h.ct.trans hc1
    have hse : M.1 0 3 = S.2 3 := h.se
    have z10 : ¬ (1 : Int32) = 0 := by decide
    have go : ∀ M' : xS, SF M M' → ∃ N : xS, SF M N ∧ xrun (X, xcall X (d + 6)) j_M_canAll 55 [.ref (sh 4 0), .int (nI s), .int (nI A), .int far, .int (1 : Int32), .int (nI o)] [] (ub σ 4 (mdC M')) = some (some (.int (if caL S s A (far + 5 * S.2 3) k (o + 1) = true then 1 else 0)), ub σ 4 (mdC N)) := by
      intro M' hM
      obtain ⟨N, hN, hx⟩ := ih (o + 1) M' (by rw [hM.row]; exact h) (by omega)
      refine ⟨N, SF.trans hM hN, ?_⟩
      rw [s_M_canAll_55, s_M_canAll_60, nI_add1]
      exact hx
    rw [s_M_canAll_6]
    unfold caL
    simp only [s_M_canAll_12, s_M_canAll_14, Option.bind_some, Option.bind_none, Option.toList_some, Option.toList_none, List.cons_append, List.nil_append, List.append_nil, mv_0, mg_0_0, mg_0_1, mg_0_2, mg_0_3, mg_0_4, mg_0_5, mg_0_6, mg_0_7, mg_0_8, mg_0_9, mg_0_10, mg_0_11, mg_0_12, mg_0_13, mg_0_14, mg_0_15, mg_0_16, mg_0_17, mg_0_18, mg_0_19, mg_0_20, mrc_2, hct, if_neg h1, s_M_canAll_17, if_neg z10, s_M_canAll_22, shr_bit0 o ho8 s hs]
    cases hb : s.testBit o with
    | false =>
      rw [if_pos rfl, if_neg (show ¬ (false = true ∧ rsL S (dif A s) o (cn S) 0 0 < far + 5 * S.2 3) from fun e => absurd e.1 (by decide))]
      exact go M (SF.rfl' M)
    | true =>
      rw [if_neg (show ¬ true = false by decide)]
      have hd : dif A s < 256 := Nat.lt_of_le_of_lt (dif_le A s) hA
      obtain ⟨N1, hN1, hx1⟩ := c_M_ropeOfBy (X := X) (d := d) (σ := σ) hI h hd ho8
      have hse1 : N1.1 0 3 = S.2 3 := by rw [hN1.row]; exact hse
      simp only [s_M_canAll_31, s_M_canAll_42, s_M_canAll_48, s_M_canAll_50, Option.bind_some, Option.bind_none, Option.toList_some, Option.toList_none, List.cons_append, List.nil_append, List.append_nil, mv_0, mg_0_0, mg_0_1, mg_0_2, mg_0_3, mg_0_4, mg_0_5, mg_0_6, mg_0_7, mg_0_8, mg_0_9, mg_0_10, mg_0_11, mg_0_12, mg_0_13, mg_0_14, mg_0_15, mg_0_16, mg_0_17, mg_0_18, mg_0_19, mg_0_20, and_not hA hs, hx1, mrc_3, hse1]
      by_cases hq : rsL S (dif A s) o (cn S) 0 0 < far + 5 * S.2 3
      · rw [if_pos hq, if_pos (⟨trivial, hq⟩ : True ∧ rsL S (dif A s) o (cn S) 0 0 < far + 5 * S.2 3)]
        refine ⟨N1, hN1, ?_⟩
        have hct1 : N1.1 0 2 = nI (cn S) := by rw [hN1.row]; exact hct
        have z01 : ¬ false = true := by decide
        rw [s_M_canAll_59, s_M_canAll_60, s_M_canAll_6, if_neg z01]
        simp only [s_M_canAll_12, s_M_canAll_14, Option.bind_some, Option.bind_none, Option.toList_some, Option.toList_none, List.cons_append, List.nil_append, List.append_nil, mv_0, mg_0_0, mg_0_1, mg_0_2, mg_0_3, mg_0_4, mg_0_5, mg_0_6, mg_0_7, mg_0_8, mg_0_9, mg_0_10, mg_0_11, mg_0_12, mg_0_13, mg_0_14, mg_0_15, mg_0_16, mg_0_17, mg_0_18, mg_0_19, mg_0_20, mrc_2, hct1, s_M_canAll_17, if_true, s_M_canAll_68, xz0]
        split <;> rfl
      · rw [if_neg hq, if_neg (fun e : True ∧ rsL S (dif A s) o (cn S) 0 0 < far + 5 * S.2 3 => hq e.2)]
        exact go N1 hN1
theorem c_M_can (hI : okI S) (h : RS (M.1 0) S) {s A : Nat} (hs : s < 256) (hA : A < 256) (far : Int32) : ∃ N : xS, SF M N ∧
    xcall X (d + 7) j_M_canAll [.ref (sh 4 0), .int (nI s), .int (nI A), .int far] (ub σ 4 (mdC M)) = some (some (.int (if caL S s A (far + 5 * S.2 3) (cn S) 0 = true then 1 else 0)), ub σ 4 (mdC N)) := by
  obtain ⟨N, hN, hx⟩ := l_M_can (X := X) (d := d) (σ := σ) hI hs hA far (cn S) 0 M h (by omega)
  refine ⟨N, hN, ?_⟩
  rw [e_M_canAll, s_M_canAll_0]
  exact hx
theorem l_M_alive (hI : okI S) (h : RS (M.1 0) S) (far w : Int32) (l5 l6 : Value) : ∀ (k i : Nat), i + k = cn S →
    xrun (X, xcall X (d + 7)) j_M_party 32 [.ref (sh 4 0), .int far, .int w, .int (nI (alS S i)), .int (nI i), l5, l6] [] (ub σ 4 (mdC M)) = xrun (X, xcall X (d + 7)) j_M_party 70 [.ref (sh 4 0), .int far, .int w, .int (nI (alS S (cn S))), .int (nI (cn S)), l5, l6] [] (ub σ 4 (mdC M)) := by
  intro k
  obtain ⟨hc1, hc2⟩ := hI.1.1
  have hct : M.1 0 2 = nI (cn S) := h.ct.trans hc1
  induction k with
  | zero =>
    intro i hi
    have hi' : i = cn S := by omega
    subst hi'
    have h1 : nI (cn S) ≤ nI (cn S) := Int32.le_refl _
    rw [s_M_party_32]
    simp only [s_M_party_38, s_M_party_40, Option.bind_some, Option.bind_none, Option.toList_some, Option.toList_none, List.cons_append, List.nil_append, List.append_nil, mv_0, mg_0_0, mg_0_1, mg_0_2, mg_0_3, mg_0_4, mg_0_5, mg_0_6, mg_0_7, mg_0_8, mg_0_9, mg_0_10, mg_0_11, mg_0_12, mg_0_13, mg_0_14, mg_0_15, mg_0_16, mg_0_17, mg_0_18, mg_0_19, mg_0_20, mrc_2, hct, if_pos h1]
  | succ k ih =>
    intro i hi
    have h1 : ¬ nI (cn S) ≤ nI i := fun e => absurd ((nI_le_iff (by omega) (by omega)).mp e) (by omega)
    have hi8 : i < 8 := by omega
    rw [← ih (i + 1) (by omega), s_M_party_32]
    simp only [s_M_party_38, s_M_party_40, Option.bind_some, Option.bind_none, Option.toList_some, Option.toList_none, List.cons_append, List.nil_append, List.append_nil, mv_0, mg_0_0, mg_0_1, mg_0_2, mg_0_3, mg_0_4, mg_0_5, mg_0_6, mg_0_7, mg_0_8, mg_0_9, mg_0_10, mg_0_11, mg_0_12, mg_0_13, mg_0_14, mg_0_15, mg_0_16, mg_0_17, mg_0_18, mg_0_19, mg_0_20, mrc_2, hct, if_neg h1, s_M_party_43, c_M_of3 (d := d + 6) h hi8, s_M_party_51]
    by_cases hl : S.1 3 i = 0
    · have e : alS S (i + 1) = alS S i ||| 2 ^ i := if_pos hl
      rw [if_pos hl, s_M_party_54, s_M_party_62, nI_add1, or_bit i hi8 _ (alS_256 S (by omega)), e]
    · have e : alS S (i + 1) = alS S i := if_neg hl
      have e0 : nI (alS S i) ||| 0 = nI (alS S i) := Int32.or_zero
      rw [if_neg hl, s_M_party_61, s_M_party_62, nI_add1, e0, e]
theorem l_M_party (hI : okI S) (far w : Int32) {A : Nat} (hAA : A = alS S (cn S)) : ∀ (k s b : Nat) (l6 : Value) (M : xS), RS (M.1 0) S → s + k = A + 1 → b < 256 → ∃ (N : xS) (l6' : Value), SF M N ∧
    xrun (X, xcall X (d + 7)) j_M_party 76 [.ref (sh 4 0), .int far, .int w, .int (nI A), .int (nI b), .int (nI s), l6] [] (ub σ 4 (mdC M)) = xrun (X, xcall X (d + 7)) j_M_party 142 [.ref (sh 4 0), .int far, .int w, .int (nI A), .int (nI (ptL (fun s => cbL S s (far + 5 * S.2 3) (cn S) 0) k s b)), .int (nI (A + 1)), l6'] [] (ub σ 4 (mdC N)) := by
  have hc2 := hI.1.1.2
  have hA : A < 256 := by rw [hAA]; exact alS_256 S hc2
  intro k
  induction k with
  | zero =>
    intro s b l6 M h hs hb
    have e : s = A + 1 := by omega
    subst e
    have g1 : nI A < nI (A + 1) := (nI_lt_iff (by omega) (by omega)).mpr (by omega)
    refine ⟨M, l6, SF.rfl' M, ?_⟩
    rw [s_M_party_76, if_pos g1]
    rfl
  | succ k ih =>
    intro s b l6 M h hs hb
    have g1 : ¬ nI A < nI s := fun e => absurd ((nI_lt_iff (by omega) (by omega)).mp e) (by omega)
    have hs2 : s < 256 := by omega
    have z10 : ¬ (1 : Int32) = 0 := by decide
    have q0 : nI (dif s A) = 0 ↔ dif s A = 0 := by
      have := dif_le s A
      exact nI_inj (b := 0) (by omega) (by omega)
    have skip : ∀ (M' : xS) (l6 : Int32), SF M M' → ¬ (pcN 8 b < pcN 8 s ∧ cbL S s (far + 5 * S.2 3) (cn S) 0 = true) → ∃ (N : xS) (l6' : Value), SF M N ∧ xrun (X, xcall X (d + 7)) j_M_party 132 [.ref (sh 4 0), .int far, .int w, .int (nI A), .int (nI b), .int (nI s), .int l6] [] (ub σ 4 (mdC M')) = xrun (X, xcall X (d + 7)) j_M_party 142 [.ref (sh 4 0), .int far, .int w, .int (nI A), .int (nI (ptL (fun s => cbL S s (far + 5 * S.2 3) (cn S) 0) (k + 1) s b)), .int (nI (A + 1)), l6'] [] (ub σ 4 (mdC N)) := by
      intro M' l6 hM hn
      obtain ⟨N, l6', hN, hx⟩ := ih (s + 1) b (.int l6) M' (by rw [hM.row]; exact h) (by omega) hb
      have e : ptL (fun s => cbL S s (far + 5 * S.2 3) (cn S) 0) (k + 1) s b = ptL (fun s => cbL S s (far + 5 * S.2 3) (cn S) 0) k (s + 1) b := by
        show ptL _ k (s + 1) (if pcN 8 b < pcN 8 s ∧ cbL S s (far + 5 * S.2 3) (cn S) 0 = true then s else b) = _
        rw [if_neg hn]
      refine ⟨N, l6', SF.trans hM hN, ?_⟩
      rw [e, ← hx, s_M_party_132, s_M_party_134, nI_add1]
    rw [s_M_party_76, if_neg g1, s_M_party_82, and_not hs2 hA]
    by_cases c1 : dif s A = 0
    · rw [if_pos (q0.mpr c1)]
      simp only [s_M_party_91, s_M_party_96, s_M_party_101, Option.bind_some, Option.bind_none, Option.toList_some, Option.toList_none, List.cons_append, List.nil_append, List.append_nil, c_M_bits hs2, c_M_bits hb]
      have p1 := pcN_le 8 s
      have p2 := pcN_le 8 b
      by_cases c2 : pcN 8 s ≤ pcN 8 b
      · rw [if_pos ((nI_le_iff (by omega) (by omega)).mpr c2), s_M_party_108, s_M_party_109, if_pos rfl]
        exact skip M 0 (SF.rfl' M) (fun e => by omega)
      · rw [if_neg (fun e => c2 ((nI_le_iff (by omega) (by omega)).mp e)), s_M_party_104, s_M_party_109, if_neg z10]
        obtain ⟨N1, hN1, hx1⟩ := c_M_can (X := X) (d := d) (σ := σ) hI h hs2 hA far
        have hsub := (dif_0 hs2 hA).mp c1
        have ec : caL S s A (far + 5 * S.2 3) (cn S) 0 = cbL S s (far + 5 * S.2 3) (cn S) 0 := by
          rw [hAA]
          rw [hAA] at hsub
          exact (cb_ca S hs2 hc2 hsub _ (cn S) 0 (by omega)).symm
        rw [ec] at hx1
        simp only [s_M_party_116, s_M_party_124, Option.bind_some, Option.bind_none, Option.toList_some, Option.toList_none, List.cons_append, List.nil_append, List.append_nil, mv_0, hx1]
        by_cases c3 : cbL S s (far + 5 * S.2 3) (cn S) 0 = true
        · rw [if_pos c3, if_neg z10]
          obtain ⟨N, l6', hN, hx⟩ := ih (s + 1) s (.int 1) N1 (by rw [hN1.row]; exact h) (by omega) hs2
          have e : ptL (fun s => cbL S s (far + 5 * S.2 3) (cn S) 0) (k + 1) s b = ptL (fun s => cbL S s (far + 5 * S.2 3) (cn S) 0) k (s + 1) s := by
            show ptL _ k (s + 1) (if pcN 8 b < pcN 8 s ∧ cbL S s (far + 5 * S.2 3) (cn S) 0 = true then s else b) = _
            rw [if_pos ⟨by omega, c3⟩]
          refine ⟨N, l6', SF.trans hN1 hN, ?_⟩
          rw [e, ← hx, s_M_party_127, s_M_party_134, nI_add1]
        · rw [if_neg c3, if_pos rfl]
          exact skip N1 1 hN1 (fun e => c3 e.2)
    · rw [if_neg (fun e => c1 (q0.mp e)), s_M_party_108, s_M_party_109, if_pos rfl]
      refine skip M 0 (SF.rfl' M) (fun e => c1 ((dif_0 hs2 hA).mpr fun i hi => ?_))
      rw [hAA]
      have hi8 : i < cn S := by
        have hlt := alS_lt S (cn S)
        by_cases z : i < cn S
        · exact z
        · rw [Nat.testBit_lt_two_pow (Nat.lt_of_lt_of_le (show s < 2 ^ cn S by omega) (Nat.pow_le_pow_right (by omega) (by omega)))] at hi
          exact absurd hi (by decide)
      exact (alS_bit S (cn S) i).mpr ⟨hi8, cb_sub S (far + 5 * S.2 3) (cn S) 0 (by omega) e.2 i (Nat.zero_le i) hi8 hi⟩
theorem m_party (hI : okI S) (hM : RM M R S K) (far w : Int32) : MC X (d + 8) j_M_party [.int far, .int w] M (sp_party R S K far w) := by
  intro σ
  have h := hM.row
  have hc2 := hI.1.1.2
  have ee : ∃ N : xS, RM N (er R 1) S K ∧ xrun (X, xcall X (d + 7)) j_M_party 20 [.ref (sh 4 0), .int far, .int w, .null, .null, .null, .null] [] (ub σ 4 (mdC M)) = some (some (.int (lw 1)), ub σ 4 (mdC N)) := by
    obtain ⟨N, hN, hx⟩ := c_M_error1 (X := X) (d := d + 6) (σ := σ) hM
    refine ⟨N, hN, ?_⟩
    simp only [s_M_party_20, s_M_party_26, Option.bind_some, Option.bind_none, Option.toList_some, Option.toList_none, List.cons_append, List.nil_append, List.append_nil, mv_0, hx]
  rw [e_M_party]
  unfold sp_party
  simp only [s_M_party_0, s_M_party_8, Option.bind_some, Option.bind_none, Option.toList_some, Option.toList_none, List.cons_append, List.nil_append, List.append_nil, c_M_in, z1_0]
  by_cases h1 : 1 ≤ far ∧ far ≤ 500
  · rw [if_neg (not_not_intro h1)]
    simp only [s_M_party_11, s_M_party_17, Option.bind_some, Option.bind_none, Option.toList_some, Option.toList_none, List.cons_append, List.nil_append, List.append_nil, c_M_in, z1_0]
    by_cases h2 : 0 ≤ w ∧ w ≤ 1
    · rw [if_neg (not_not_intro h2), if_neg (not_not_intro (⟨h1, h2⟩ : (1 ≤ far ∧ far ≤ 500) ∧ (0 ≤ w ∧ w ≤ 1)))]
      have hx0 := l_M_alive (X := X) (d := d) (σ := σ) hI h far w .null .null (cn S) 0 (by omega)
      have hx0' : xrun (X, xcall X (d + 7)) j_M_party 32 [.ref (sh 4 0), .int far, .int w, .int (0 : Int32), .int (0 : Int32), .null, .null] [] (ub σ 4 (mdC M)) = _ := hx0
      obtain ⟨N, l6, hN, hx⟩ := l_M_party (X := X) (d := d) (σ := σ) hI far w (A := alS S (cn S)) rfl (alS S (cn S)) 1 0 .null M h (by omega) (by omega)
      rw [← par_A hc2] at hx
      have hx' : xrun (X, xcall X (d + 7)) j_M_party 76 [.ref (sh 4 0), .int far, .int w, .int (nI (alS S (cn S))), .int (0 : Int32), .int (1 : Int32), .null] [] (ub σ 4 (mdC M)) = _ := hx
      have h256 := pow_256 hc2
      have hlt : parB S far < 256 := ptL_lt _ _ _ _ (by omega) (by omega)
      refine ⟨N, hN.rm hM, ?_⟩
      rw [s_M_party_27, hx0', s_M_party_70, hx', s_M_party_142]
      by_cases hw : w = 0
      · rw [if_pos hw, if_pos hw]
        simp only [s_M_party_146, s_M_party_151, s_M_party_156, Option.bind_some, Option.bind_none, Option.toList_some, Option.toList_none, List.cons_append, List.nil_append, List.append_nil, c_M_bits hlt]
      · rw [if_neg hw, if_neg hw, s_M_party_154, s_M_party_156]
    · rw [if_pos h2, if_pos (fun e : (1 ≤ far ∧ far ≤ 500) ∧ (0 ≤ w ∧ w ≤ 1) => h2 e.2)]
      exact ee
  · rw [if_pos h1, if_pos (fun e : (1 ≤ far ∧ far ≤ 500) ∧ (0 ≤ w ∧ w ≤ 1) => h1 e.1)]
    exact ee
end MParty
