/-! ===== contracts: what one gives, ropes ===== -/
/-- a text's code is well formed: n steps from i on, on a stack of t numbers -/
def wfT (f : Nat → Int32) : Nat → Nat → Nat → Bool
  | 0, _, t => decide (1 ≤ t)
  | n + 1, i, t => if ¬ f i < -3 then decide (t < 60) && wfT f n (i + 1) (t + 1) else if f i = -33 then decide (1 ≤ t) && wfT f n (i + 1) t else decide (2 ≤ t) && wfT f n (i + 1) (t - 1)
theorem tstep_push {a b c s : Int32} {K : Nat → Int32} {t : Nat} (h3 : ¬ s < -3) (h : t < 60) : tstep a b c s K t = (upd K t (pshv a b c s), t + 1) := if_pos ⟨h3, h⟩
theorem tstep_deny {a b c s : Int32} {K : Nat → Int32} {t : Nat} (h3 : s < -3) (h33 : s = -33) (h : 1 ≤ t) : tstep a b c s K t = (upd K (t - 1) (if K (t - 1) = 0 then 1 else 0), t) := by
  unfold tstep
  rw [if_neg (fun e : ¬ s < -3 ∧ t < 60 => e.1 h3)]
  exact if_pos ⟨h33, h⟩
theorem tstep_op {a b c s : Int32} {K : Nat → Int32} {t : Nat} (h3 : s < -3) (h33 : ¬ s = -33) (h : 2 ≤ t) : tstep a b c s K t = (upd K (t - 2) (wk (-s) (K (t - 2)) (K (t - 1))), t - 1) := by
  unfold tstep
  rw [if_neg (fun e : ¬ s < -3 ∧ t < 60 => e.1 h3), if_neg (fun e : s = -33 ∧ 1 ≤ t => h33 e.1)]
  exact if_pos h
theorem trun_ind (f : Nat → Int32) (a b c : Int32) : ∀ (n i t : Nat) (K K' : Nat → Int32), wfT f n i t = true → (∀ j, j < t → K j = K' j) → (trun f a b c n i K t).1 0 = (trun f a b c n i K' t).1 0 := by
  intro n
  induction n with
  | zero =>
    intro i t K K' h hK
    have h1 : 1 ≤ t := of_decide_eq_true h
    exact hK 0 h1
  | succ n ih =>
    intro i t K K' h hK
    unfold wfT at h
    unfold trun
    by_cases h3 : f i < -3
    · rw [if_neg (fun e => e h3)] at h
      by_cases h33 : f i = -33
      · rw [if_pos h33, Bool.and_eq_true] at h
        have h1 : 1 ≤ t := of_decide_eq_true h.1
        rw [tstep_deny h3 h33 h1, tstep_deny h3 h33 h1]
        refine ih _ _ _ _ h.2 fun j hj => ?_
        show upd K (t - 1) _ j = upd K' (t - 1) _ j
        unfold upd
        rw [hK (t - 1) (by omega)]
        by_cases e : j = t - 1
        · rw [if_pos e, if_pos e]
        · rw [if_neg e, if_neg e]; exact hK j hj
      · rw [if_neg h33, Bool.and_eq_true] at h
        have h2 : 2 ≤ t := of_decide_eq_true h.1
        rw [tstep_op h3 h33 h2, tstep_op h3 h33 h2]
        refine ih _ _ _ _ h.2 fun j hj => ?_
        have hj : j < t - 1 := hj
        show upd K (t - 2) _ j = upd K' (t - 2) _ j
        unfold upd
        rw [hK (t - 1) (by omega), hK (t - 2) (by omega)]
        by_cases e : j = t - 2
        · rw [if_pos e, if_pos e]
        · rw [if_neg e, if_neg e]; exact hK j (by omega)
    · rw [if_pos h3, Bool.and_eq_true] at h
      have h2 : t < 60 := of_decide_eq_true h.1
      rw [tstep_push h3 h2, tstep_push h3 h2]
      refine ih _ _ _ _ h.2 fun j hj => ?_
      have hj : j < t + 1 := hj
      show upd K t _ j = upd K' t _ j
      unfold upd
      by_cases e : j = t
      · rw [if_pos e, if_pos e]
      · rw [if_neg e, if_neg e]; exact hK j (by omega)
/-- the value of a well-formed text -/
def tval (f : Nat → Int32) (n : Nat) (a b c : Int32) : Int32 := (trun f a b c n 0 (fun _ => 0) 0).1 0
def cn (S : xS) : Nat := (S.2 0).toNatClampNeg
def kd (S : xS) (p : Nat) : Nat := (S.1 0 p).toNatClampNeg
def ln0 (S : xS) : Nat := (S.2 6).toNatClampNeg
def ln1 (S : xS) : Nat := (S.2 7).toNatClampNeg
def okS (S : xS) : Prop := (S.2 0 = nI (cn S) ∧ cn S ≤ 8) ∧ (∀ p, p < 8 → S.1 0 p = nI (kd S p) ∧ kd S p < 7) ∧
  (S.2 6 = nI (ln0 S) ∧ ln0 S ≤ 60 ∧ (0 < ln0 S → wfT (S.1 5) (ln0 S) 0 0 = true)) ∧ (S.2 7 = nI (ln1 S) ∧ ln1 S ≤ 60 ∧ (0 < ln1 S → wfT (S.1 6) (ln1 S) 0 0 = true))
/-- law(0, ..), law(1, ..) -/
def lg0 (S : xS) (a b c : Int32) : Int32 := hel (if 0 < ln0 S then tval (S.1 5) (ln0 S) a b c else a) 0 199
def lg1 (S : xS) (a b c : Int32) : Int32 := hel (if 0 < ln1 S then tval (S.1 6) (ln1 S) a b c else a) (-9) 9
/-- ROPE by p for o, of whom he says t -/
def rb (S : xS) (p o : Nat) (t : Int32) : Int32 := lg0 S (gv (kd S p) (S.1 1 p) (S.2 3) (S.1 2 o) t) t (S.2 3)
def ash (S : xS) (p : Nat) : Prop := S.1 2 p = 0 ∧ S.1 3 p = 0
noncomputable def roL (S : xS) (o : Nat) : Nat → Nat → Int32 → Int32
  | 0, _, acc => acc
  | n + 1, i, acc => roL S o n (i + 1) (@ite _ (i ≠ o ∧ ash S i) (Classical.propDecidable _) (acc + rb S i o (S.1 4 (8 * i + o))) acc)
noncomputable def ro (S : xS) (o : Nat) : Int32 := roL S o (cn S) 0 0
section ShRope
variable {X : xX} {d : Nat} {σ : xW} {b : Nat} {S : xS}
theorem c_Sh_lawGives0 (hS : okS S) (Z : xS) (a c e : Int32) : ∃ Z', xcall X (d + 3) j_Sh_lawGives [.ref (sh b 0), .int (0 : Int32), .int a, .int c, .int e] (ub σ b (shC b S Z)) = some (some (.int (lg0 S a c e)), ub σ b (shC b S Z')) := by
  obtain ⟨h1, h2, h3⟩ := hS.2.2.1
  have hq : xrr (ub σ b (shC b S Z)) (sh b 14) (0 : Int32) = some (sh b 15) := bq_14 (k := 0) (by decide)
  have z10 : ¬ (1 : Int32) = 0 := by decide
  have z00 : (0 : Int32) = 0 := rfl
  unfold lg0
  rw [e_Sh_lawGives]
  by_cases hl : 0 < ln0 S
  · have hi : 0 < S.2 (6 + 0) := by
      show 0 < S.2 (6 + 0)
      rw [show S.2 (6 + 0) = nI (ln0 S) from h1]
      exact nI_lt (a := 0) hl (by omega)
    have hv := c_Tx_value0 (X := X) (d := d) (σ := σ) (b := b) (S := S) (Z := Z) (ln0 S) h2 h1 a c e
    have ht := trun_ind (S.1 5) a c e (ln0 S) 0 0 (Z.1 0) (fun _ => 0) (h3 hl) (fun j hj => absurd hj (by omega))
    refine ⟨(u2 Z.1 0 (trun (S.1 (5 + 0)) a c e (ln0 S) 0 (Z.1 0) 0).1, Z.2), ?_⟩
    simp only [s_Sh_lawGives_0, s_Sh_lawGives_28, s_Sh_lawGives_29, s_Sh_lawGives_47, s_Sh_lawGives_56, s_Sh_lawGives_4, s_Sh_lawGives_35, s_Sh_lawGives_6, s_Sh_lawGives_44, s_Sh_lawGives_9, s_Sh_lawGives_12, s_Sh_lawGives_16, s_Sh_lawGives_18, s_Sh_lawGives_25, Option.bind_some, Option.bind_none, Option.toList_some, Option.toList_none, List.cons_append, List.nil_append, List.append_nil, bg_0_6, hq, bv_15, c_Tx_isThere0, z1_t hi, z10, z00, if_false, if_true, hv, c_R_held, if_pos hl]
    rw [show (trun (S.1 (5 + 0)) a c e (ln0 S) 0 (Z.1 0) 0).1 0 = tval (S.1 5) (ln0 S) a c e from ht]
  · have hi : ¬ 0 < S.2 (6 + 0) := by
      show ¬ 0 < S.2 (6 + 0)
      rw [show S.2 (6 + 0) = nI (ln0 S) from h1]
      have h0 : ln0 S = 0 := by omega
      rw [h0]; decide
    refine ⟨Z, ?_⟩
    simp only [s_Sh_lawGives_0, s_Sh_lawGives_28, s_Sh_lawGives_29, s_Sh_lawGives_47, s_Sh_lawGives_56, s_Sh_lawGives_4, s_Sh_lawGives_35, s_Sh_lawGives_6, s_Sh_lawGives_44, s_Sh_lawGives_9, s_Sh_lawGives_12, s_Sh_lawGives_16, s_Sh_lawGives_18, s_Sh_lawGives_25, Option.bind_some, Option.bind_none, Option.toList_some, Option.toList_none, List.cons_append, List.nil_append, List.append_nil, bg_0_6, hq, bv_15, c_Tx_isThere0, z1_f hi, z10, z00, if_false, if_true, c_R_held, if_neg hl]
theorem c_Sh_lawGives1 (hS : okS S) (Z : xS) (a c e : Int32) : ∃ Z', xcall X (d + 3) j_Sh_lawGives [.ref (sh b 0), .int (1 : Int32), .int a, .int c, .int e] (ub σ b (shC b S Z)) = some (some (.int (lg1 S a c e)), ub σ b (shC b S Z')) := by
  obtain ⟨h1, h2, h3⟩ := hS.2.2.2
  have hq : xrr (ub σ b (shC b S Z)) (sh b 14) (1 : Int32) = some (sh b 19) := bq_14 (k := 1) (by decide)
  have z10 : ¬ (1 : Int32) = 0 := by decide
  have z00 : (0 : Int32) = 0 := rfl
  unfold lg1
  rw [e_Sh_lawGives]
  by_cases hl : 0 < ln1 S
  · have hi : 0 < S.2 (6 + 1) := by
      show 0 < S.2 (6 + 1)
      rw [show S.2 (6 + 1) = nI (ln1 S) from h1]
      exact nI_lt (a := 0) hl (by omega)
    have hv := c_Tx_value1 (X := X) (d := d) (σ := σ) (b := b) (S := S) (Z := Z) (ln1 S) h2 h1 a c e
    have ht := trun_ind (S.1 6) a c e (ln1 S) 0 0 (Z.1 1) (fun _ => 0) (h3 hl) (fun j hj => absurd hj (by omega))
    refine ⟨(u2 Z.1 1 (trun (S.1 (5 + 1)) a c e (ln1 S) 0 (Z.1 1) 0).1, Z.2), ?_⟩
    simp only [s_Sh_lawGives_0, s_Sh_lawGives_28, s_Sh_lawGives_29, s_Sh_lawGives_47, s_Sh_lawGives_56, s_Sh_lawGives_4, s_Sh_lawGives_35, s_Sh_lawGives_6, s_Sh_lawGives_44, s_Sh_lawGives_9, s_Sh_lawGives_12, s_Sh_lawGives_16, s_Sh_lawGives_18, s_Sh_lawGives_25, Option.bind_some, Option.bind_none, Option.toList_some, Option.toList_none, List.cons_append, List.nil_append, List.append_nil, bg_0_6, hq, bv_19, c_Tx_isThere1, z1_t hi, z10, z00, if_false, if_true, hv, c_R_held, if_pos hl]
    rw [show (trun (S.1 (5 + 1)) a c e (ln1 S) 0 (Z.1 1) 0).1 0 = tval (S.1 6) (ln1 S) a c e from ht]
  · have hi : ¬ 0 < S.2 (6 + 1) := by
      show ¬ 0 < S.2 (6 + 1)
      rw [show S.2 (6 + 1) = nI (ln1 S) from h1]
      have h0 : ln1 S = 0 := by omega
      rw [h0]; decide
    refine ⟨Z, ?_⟩
    simp only [s_Sh_lawGives_0, s_Sh_lawGives_28, s_Sh_lawGives_29, s_Sh_lawGives_47, s_Sh_lawGives_56, s_Sh_lawGives_4, s_Sh_lawGives_35, s_Sh_lawGives_6, s_Sh_lawGives_44, s_Sh_lawGives_9, s_Sh_lawGives_12, s_Sh_lawGives_16, s_Sh_lawGives_18, s_Sh_lawGives_25, Option.bind_some, Option.bind_none, Option.toList_some, Option.toList_none, List.cons_append, List.nil_append, List.append_nil, bg_0_6, hq, bv_19, c_Tx_isThere1, z1_f hi, z10, z00, if_false, if_true, c_R_held, if_neg hl]
theorem disp_gives {β : Type} (F : xQ → Option β) {Z : xS} {k : Nat} (hk : k < 7) (t m s o : Int32) :
    ((xcc (ub σ b (shC b S Z)) (sh b (2 + k))).bind fun ci => (List.lookup ci [(6, j_Person_gives), (7, j_Gossip_gives), (8, j_Mayor_gives), (9, j_Cutter_gives), (10, j_Doctor_gives), (11, j_Judge_gives), (12, j_Widow_gives)]).bind fun jj => (xcall X (d + 2) jj [.ref (sh b (2 + k)), .int t, .int m, .int s, .int o] (ub σ b (shC b S Z))).bind F) = F (some (.int (gv k m s o t)), ub σ b (shC b S Z)) := by
  obtain rfl | rfl | rfl | rfl | rfl | rfl | rfl : k = 0 ∨ k = 1 ∨ k = 2 ∨ k = 3 ∨ k = 4 ∨ k = 5 ∨ k = 6 := by omega
  · rw [bc_2]
    show (xcall X (d + 2) j_Person_gives _ _).bind F = _
    rw [c_Person_gives]; rfl
  · rw [bc_3]
    show (xcall X (d + 2) j_Gossip_gives _ _).bind F = _
    rw [c_Gossip_gives]; rfl
  · rw [bc_4]
    show (xcall X (d + 2) j_Mayor_gives _ _).bind F = _
    rw [c_Mayor_gives]; rfl
  · rw [bc_5]
    show (xcall X (d + 2) j_Cutter_gives _ _).bind F = _
    rw [c_Cutter_gives]; rfl
  · rw [bc_6]
    show (xcall X (d + 2) j_Doctor_gives _ _).bind F = _
    rw [c_Doctor_gives _ _ _ _ _ bc_6]; rfl
  · rw [bc_7]
    show (xcall X (d + 2) j_Judge_gives _ _).bind F = _
    rw [c_Judge_gives _ _ _ _ _ bc_7]; rfl
  · rw [bc_8]
    show (xcall X (d + 2) j_Widow_gives _ _).bind F = _
    rw [c_Widow_gives]; rfl
theorem disp_turns {β : Type} (F : xQ → Option β) {Z : xS} {k : Nat} (hk : k < 7) (t y o : Int32) :
    ((xcc (ub σ b (shC b S Z)) (sh b (2 + k))).bind fun ci => (List.lookup ci [(6, j_Person_turns), (7, j_Gossip_turns), (8, j_Mayor_turns), (9, j_Person_turns), (10, j_Doctor_turns), (11, j_Judge_turns), (12, j_Widow_turns)]).bind fun jj => (xcall X (d + 3) jj [.ref (sh b (2 + k)), .int t, .int y, .int o] (ub σ b (shC b S Z))).bind F) = F (some (.int (tn k y o t)), ub σ b (shC b S Z)) := by
  obtain rfl | rfl | rfl | rfl | rfl | rfl | rfl : k = 0 ∨ k = 1 ∨ k = 2 ∨ k = 3 ∨ k = 4 ∨ k = 5 ∨ k = 6 := by omega
  · rw [bc_2]
    show (xcall X (d + 3) j_Person_turns _ _).bind F = _
    rw [c_Person_turns]; rfl
  · rw [bc_3]
    show (xcall X (d + 3) j_Gossip_turns _ _).bind F = _
    rw [c_Gossip_turns _ _ _ _ bc_3]; rfl
  · rw [bc_4]
    show (xcall X (d + 3) j_Mayor_turns _ _).bind F = _
    rw [c_Mayor_turns]; rfl
  · rw [bc_5]
    show (xcall X (d + 3) j_Person_turns _ _).bind F = _
    rw [c_Person_turns]; rfl
  · rw [bc_6]
    show (xcall X (d + 3) j_Doctor_turns _ _).bind F = _
    rw [c_Doctor_turns _ _ _ _ bc_6]; rfl
  · rw [bc_7]
    show (xcall X (d + 3) j_Judge_turns _ _).bind F = _
    rw [c_Judge_turns _ _ _ _ bc_7]; rfl
  · rw [bc_8]
    show (xcall X (d + 3) j_Widow_turns _ _).bind F = _
    rw [c_Widow_turns _ _ _ _ bc_8]; rfl
theorem c_Sh_ropeBy (hS : okS S) (Z : xS) {p o : Nat} (hp : p < 8) (ho : o < 8) (t : Int32) : ∃ Z', xcall X (d + 4) j_Sh_ropeBy [.ref (sh b 0), .int (nI p), .int (nI o), .int t] (ub σ b (shC b S Z)) = some (some (.int (rb S p o t)), ub σ b (shC b S Z')) := by
  obtain ⟨hk1, hk2⟩ := hS.2.1 p hp
  obtain ⟨Z', hl⟩ := c_Sh_lawGives0 (X := X) (d := d) (σ := σ) (b := b) hS Z (gv (kd S p) (S.1 1 p) (S.2 3) (S.1 2 o) t) t (S.2 3)
  refine ⟨Z', ?_⟩
  rw [e_Sh_ropeBy]
  simp only [s_Sh_ropeBy_0, s_Sh_ropeBy_5, s_Sh_ropeBy_10, s_Sh_ropeBy_12, s_Sh_ropeBy_16, s_Sh_ropeBy_20, s_Sh_ropeBy_22, Option.bind_some, Option.bind_none, Option.toList_some, Option.toList_none, List.cons_append, List.nil_append, List.append_nil, bv_0, c_Sh_kindOf hp hk2 hk1, bg_0_2, bg_0_3, bg_0_12, br_10 hp, br_11 ho]
  rw [disp_gives (d := d + 1) _ hk2]
  simp only [s_Sh_ropeBy_25, s_Sh_ropeBy_36, s_Sh_ropeBy_39, Option.bind_some, Option.bind_none, Option.toList_some, Option.toList_none, List.cons_append, List.nil_append, List.append_nil, bv_0, bg_0_12, hl]
  rfl
theorem l_Sh_ropeOf (hS : okS S) {o : Nat} (ho : o < 8) : ∀ (n i : Nat) (acc : Int32) (Z : xS), i + n = cn S → ∃ Z',
    xrun (X, xcall X (d + 4)) j_Sh_ropeOf 4 [.ref (sh b 0), .int (nI o), .int acc, .int (nI i)] [] (ub σ b (shC b S Z)) = some (some (.int (roL S o n i acc)), ub σ b (shC b S Z')) := by
  intro n
  obtain ⟨hc1, hc2⟩ := hS.1
  induction n with
  | zero =>
    intro i acc Z hi
    refine ⟨Z, ?_⟩
    have h1 : nI (cn S) ≤ nI i := (nI_le_iff (by omega) (by omega)).mpr (by omega)
    rw [s_Sh_ropeOf_4]
    simp only [Option.bind_some, Option.bind_none, Option.toList_some, Option.toList_none, List.cons_append, List.nil_append, List.append_nil, bg_0_9, hc1, s_Sh_ropeOf_9, if_pos h1, s_Sh_ropeOf_46]
    rfl
  | succ n ih =>
    intro i acc Z hi
    have h1 : ¬ nI (cn S) ≤ nI i := fun h => absurd ((nI_le_iff (by omega) (by omega)).mp h) (by omega)
    have hi8 : i < 8 := by omega
    rw [s_Sh_ropeOf_4]
    unfold roL
    simp only [Option.bind_some, Option.bind_none, Option.toList_some, Option.toList_none, List.cons_append, List.nil_append, List.append_nil, bg_0_9, hc1, s_Sh_ropeOf_9, if_neg h1, s_Sh_ropeOf_12, nI_inj (a := i) (b := o) (by omega) (by omega)]
    by_cases hio : i = o
    · rw [if_pos hio, if_neg (fun e => e.1 hio), s_Sh_ropeOf_40, nI_add1]
      exact ih (i + 1) acc Z (by omega)
    · rw [if_neg hio]
      simp only [Option.bind_some, Option.bind_none, Option.toList_some, Option.toList_none, List.cons_append, List.nil_append, List.append_nil, s_Sh_ropeOf_17, bv_0, c_Sh_isAshore hi8, s_Sh_ropeOf_22, z1_0]
      by_cases ha : S.1 2 i = 0 ∧ S.1 3 i = 0
      · rw [if_neg (fun e => e ha), if_pos ⟨hio, ha⟩]
        obtain ⟨Z1, h2⟩ := c_Sh_ropeBy (X := X) (d := d) (σ := σ) (b := b) hS Z hi8 ho (S.1 4 (8 * i + o))
        simp only [Option.bind_some, Option.bind_none, Option.toList_some, Option.toList_none, List.cons_append, List.nil_append, List.append_nil, s_Sh_ropeOf_25, bv_0, c_Sh_said hi8 ho, s_Sh_ropeOf_35, h2, s_Sh_ropeOf_38, s_Sh_ropeOf_40, nI_add1]
        exact ih (i + 1) _ Z1 (by omega)
      · rw [if_pos ha, if_neg (fun e => ha e.2), s_Sh_ropeOf_40, nI_add1]
        exact ih (i + 1) acc Z (by omega)
theorem c_Sh_ropeOf (hS : okS S) (Z : xS) {o : Nat} (ho : o < 8) : ∃ Z', xcall X (d + 5) j_Sh_ropeOf [.ref (sh b 0), .int (nI o)] (ub σ b (shC b S Z)) = some (some (.int (ro S o)), ub σ b (shC b S Z')) := by
  rw [e_Sh_ropeOf, s_Sh_ropeOf_0]
  exact l_Sh_ropeOf hS ho (cn S) 0 0 Z (by omega)
end ShRope
