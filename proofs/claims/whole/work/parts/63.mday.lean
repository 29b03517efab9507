/-! ===== the model: days ===== -/
theorem ro_sM' {S T : xS} {o : Nat} (hc : cn T = cn S) (ha : ∀ j, ash T j ↔ ash S j) (hr : ∀ j, rb T j o (T.1 4 (8 * j + o)) = rb S j o (S.1 4 (8 * j + o))) : ro T o = ro S o := by
  have : ∀ (n j : Nat) (acc : Int32), roL T o n j acc = roL S o n j acc := by
    intro n
    induction n with
    | zero => intro j acc; rfl
    | succ n ih =>
      intro j acc
      unfold roL
      by_cases h : j ≠ o ∧ ash S j
      · rw [if_pos h, if_pos (⟨h.1, (ha j).mpr h.2⟩ : j ≠ o ∧ ash T j), hr, ih]
      · rw [if_neg h, if_neg (fun e : j ≠ o ∧ ash T j => h ⟨e.1, (ha j).mp e.2⟩), ih]
  unfold ro
  rw [hc, this]
noncomputable def lt1 (S : xS) (i : Nat) : Nat → Int32 := fun p => @ite _ (p < i ∧ dd S p) (Classical.propDecidable _) 1 (S.1 3 p)
noncomputable def sM (S : xS) (i : Nat) : xS := (u2 S.1 3 (lt1 S i), S.2)
theorem lt1_ge {S : xS} {i p : Nat} (h : i ≤ p) : lt1 S i p = S.1 3 p := if_neg (fun e => absurd e.1 (by omega))
theorem lt1_nd {S : xS} {i p : Nat} (h : ¬ dd S p) : lt1 S i p = S.1 3 p := if_neg (fun e => h e.2)
theorem ash_sM (S : xS) (i j : Nat) : ash (sM S i) j ↔ ash S j := by
  show (S.1 2 j = 0 ∧ lt1 S i j = 0) ↔ (S.1 2 j = 0 ∧ S.1 3 j = 0)
  by_cases h : S.1 2 j = 0
  · have : ¬ dd S j := fun e => absurd e.1 (by rw [h]; decide)
    rw [lt1_nd this]
  · exact ⟨fun e => absurd e.1 h, fun e => absurd e.1 h⟩
theorem ro_sM (S : xS) (i o : Nat) : ro (sM S i) o = ro S o := ro_sM' rfl (ash_sM S i) (fun _ => rfl)
theorem sM_1 {S : xS} {i : Nat} (h : dd S i) : (u2 (sM S i).1 3 (upd ((sM S i).1 3) i 1), (sM S i).2) = sM S (i + 1) := by
  show (u2 (u2 S.1 3 (lt1 S i)) 3 (upd (lt1 S i) i 1), S.2) = (u2 S.1 3 (lt1 S (i + 1)), S.2)
  rw [u2_u2]
  have : upd (lt1 S i) i 1 = lt1 S (i + 1) := by
    funext p
    unfold upd lt1
    by_cases e : p = i
    · rw [if_pos e, if_pos ⟨by omega, e ▸ h⟩]
    · rw [if_neg e]
      by_cases g : p < i ∧ dd S p
      · rw [if_pos g, if_pos (⟨by omega, g.2⟩ : p < i + 1 ∧ dd S p)]
      · rw [if_neg g, if_neg (fun z : p < i + 1 ∧ dd S p => g ⟨by omega, z.2⟩)]
  rw [this]
theorem sM_0 {S : xS} {i : Nat} (h : ¬ dd S i) : (u2 (sM S i).1 3 (upd ((sM S i).1 3) i (S.1 3 i)), (sM S i).2) = sM S (i + 1) := by
  show (u2 (u2 S.1 3 (lt1 S i)) 3 (upd (lt1 S i) i (S.1 3 i)), S.2) = (u2 S.1 3 (lt1 S (i + 1)), S.2)
  rw [u2_u2]
  have : upd (lt1 S i) i (S.1 3 i) = lt1 S (i + 1) := by
    funext p
    unfold upd lt1
    by_cases e : p = i
    · rw [if_pos e, if_neg (fun z => h (e ▸ z.2)), e]
    · rw [if_neg e]
      by_cases g : p < i ∧ dd S p
      · rw [if_pos g, if_pos (⟨by omega, g.2⟩ : p < i + 1 ∧ dd S p)]
      · rw [if_neg g, if_neg (fun z : p < i + 1 ∧ dd S p => g ⟨by omega, z.2⟩)]
  rw [this]
theorem sM_00 (S : xS) : sM S 0 = S := by
  show (u2 S.1 3 (lt1 S 0), S.2) = S
  have : lt1 S 0 = S.1 3 := by
    funext p
    exact lt1_ge (Nat.zero_le p)
  rw [this, u2_self]
theorem okI_sM {S : xS} (h : okI S) {i : Nat} (hi : i ≤ cn S) : okI (sM S i) := by
  obtain ⟨hS, hN, hw, hf, hz, ht, hg, o0, o1⟩ := h
  obtain ⟨n1, n2, n3, n4, n5, n6⟩ := hN
  have hc8 := hS.1.2
  refine ⟨hS, ⟨fun p hp => ⟨(n1 p hp).1, (n1 p hp).2.1, (n1 p hp).2.2.1, ?_⟩, n2, n3, n4, fun p hp => ?_, n6⟩, hw, hf, fun p (hp : cn S ≤ p) h8 => ⟨(hz p hp h8).1, ?_⟩, ht, hg, o0, o1⟩
  · show lt1 S i p = 0
    rw [lt1_ge (by omega)]
    exact (n1 p hp).2.2.2
  · show lt1 S i p = 0 ∨ lt1 S i p = 1
    unfold lt1
    split
    · exact Or.inr rfl
    · exact n5 p hp
  · show lt1 S i p = 0
    rw [lt1_ge (by omega)]
    exact (hz p hp h8).2
/-- how many get lost -/
noncomputable def dcN (S : xS) : Nat → Nat
  | 0 => 0
  | i + 1 => @ite _ (dd S i) (Classical.propDecidable _) (dcN S i + 1) (dcN S i)
theorem gs_bit (S : xS) : ∀ n i : Nat, (gs S n).testBit i = true ↔ i < n ∧ dd S i
  | 0, i => by
    show (0 : Nat).testBit i = true ↔ _
    rw [Nat.zero_testBit]
    constructor
    · intro h; exact absurd h (by decide)
    · intro h; omega
  | n + 1, i => by
    have ih := gs_bit S n i
    unfold gs
    split
    · next hc =>
      rw [Nat.testBit_or, Bool.or_eq_true, ih, Nat.testBit_two_pow]
      constructor
      · rintro (h | h)
        · exact ⟨by omega, h.2⟩
        · have e : n = i := of_decide_eq_true h
          subst e
          exact ⟨by omega, hc⟩
      · rintro ⟨h1, h2⟩
        by_cases e : n = i
        · exact Or.inr (decide_eq_true e)
        · exact Or.inl ⟨by omega, h2⟩
    · next hc =>
      rw [ih]
      constructor
      · rintro ⟨h1, h2⟩; exact ⟨by omega, h2⟩
      · rintro ⟨h1, h2⟩
        by_cases e : i = n
        · subst e; exact absurd h2 hc
        · exact ⟨by omega, h2⟩
theorem pcN_bits {s t : Nat} : ∀ n : Nat, (∀ i, i < n → (s.testBit i = true ↔ t.testBit i = true)) → pcN n s = pcN n t
  | 0, _ => rfl
  | n + 1, h => by
    unfold pcN
    rw [pcN_bits n (fun i hi => h i (by omega))]
    by_cases hb : s.testBit n = true
    · rw [if_pos hb, if_pos ((h n (by omega)).mp hb)]
    · rw [if_neg hb, if_neg (fun e => hb ((h n (by omega)).mpr e))]
theorem pcN_ge {s m : Nat} : ∀ n : Nat, m ≤ n → (∀ i, m ≤ i → s.testBit i = false) → pcN n s = pcN m s
  | 0, h, _ => by rw [show m = 0 by omega]
  | n + 1, h, hb => by
    by_cases e : m = n + 1
    · rw [e]
    · unfold pcN
      rw [hb n (by omega), if_neg (by decide), pcN_ge n (by omega) hb]
      cases m with
      | zero => rfl
      | succ m => rfl
theorem dcN_pc (S : xS) {m : Nat} : ∀ n : Nat, n ≤ m → dcN S n = pcN n (gs S m)
  | 0, _ => rfl
  | n + 1, h => by
    unfold dcN pcN
    have hb := gs_bit S m n
    rw [dcN_pc S (m := m) n (by omega)]
    by_cases hd : dd S n
    · rw [if_pos hd, if_pos (hb.mpr ⟨by omega, hd⟩)]
    · rw [if_neg hd, if_neg (fun e => hd (hb.mp e).2)]
      rfl
theorem dcN_bct {S : xS} (hS : okS S) : nI (dcN S (cn S)) = bct (nI (gs S (cn S))) := by
  obtain ⟨hc1, hc2⟩ := hS.1
  rw [bct_pc _ (gs_256 S hc2), dcN_pc S (cn S) (Nat.le_refl _), pcN_ge 8 hc2]
  intro i hi
  have := gs_bit S (cn S) i
  cases hb : (gs S (cn S)).testBit i with
  | false => rfl
  | true => exact absurd (this.mp hb).1 (by omega)
theorem sM_L {S : xS} (h : okI S) : sM S (cn S) = sL S (cn S) := by
  have : lt1 S (cn S) = lsS S (cn S) := by
    funext p
    unfold lsS
    have hc8 := h.1.1.2
    by_cases hp : p < cn S
    · rw [if_pos hp]
      have hb := gs_bit S (cn S) p
      have h01 := h.2.1.2.2.2.2.1 p (by omega)
      by_cases hd : dd S p
      · have e : lt1 S (cn S) p = 1 := if_pos ⟨hp, hd⟩
        rw [e, if_pos hd.2.1, if_neg]
        rw [hb.mpr ⟨hp, hd⟩]
        decide
      · have e0 : (gs S (cn S)).testBit p = false := by
          cases hx : (gs S (cn S)).testBit p with
          | false => rfl
          | true => exact absurd (hb.mp hx).2 hd
        rw [lt1_nd hd, if_pos e0]
        rcases h01 with e | e
        · rw [if_pos e, e]
        · rw [e, if_neg (by decide)]
    · rw [if_neg hp, lt1_ge (by omega)]
  show (u2 S.1 3 (lt1 S (cn S)), S.2) = (u2 S.1 3 (lsS S (cn S)), S.2)
  rw [this]
section MDay
variable {X : xX} {d : Nat} {σ : xW} {S : xS}
theorem l_M_goes1 (hI : okI S) : ∀ (k i : Nat) (l3 : Value) (M : xS), RS (M.1 0) (sM S i) → i + k = cn S → ∃ (N : xS) (l3' : Value), SD M N ∧ RS (N.1 0) (sM S (cn S)) ∧
    xrun (X, xcall X (d + 7)) j_M_goes 4 [.ref (sh 4 0), .int (nI (dcN S i)), .int (nI i), l3] [] (ub σ 4 (mdC M)) = xrun (X, xcall X (d + 7)) j_M_goes 99 [.ref (sh 4 0), .int (nI (dcN S (cn S))), .int (nI (cn S)), l3'] [] (ub σ 4 (mdC N)) := by
  intro k
  obtain ⟨hc1, hc2⟩ := hI.1.1
  induction k with
  | zero =>
    intro i l3 M h hi
    have hi' : i = cn S := by omega
    subst hi'
    have h1 : nI (cn S) ≤ nI (cn S) := (nI_le_iff (by omega) (by omega)).mpr (by omega)
    have hct : M.1 0 2 = nI (cn S) := h.ct.trans hc1
    refine ⟨M, l3, SD.rfl' M, h, ?_⟩
    rw [s_M_goes_4]
    simp only [s_M_goes_9, s_M_goes_11, Option.bind_some, Option.bind_none, Option.toList_some, Option.toList_none, List.cons_append, List.nil_append, List.append_nil, mv_0, mg_0_0, mg_0_1, mg_0_2, mg_0_3, mg_0_4, mg_0_5, mg_0_6, mg_0_7, mg_0_8, mg_0_9, mg_0_10, mg_0_11, mg_0_12, mg_0_13, mg_0_14, mg_0_15, mg_0_16, mg_0_17, mg_0_18, mg_0_19, mg_0_20, mrc_2, hct, if_pos h1]
  | succ k ih =>
    intro i l3 M h hi
    have h1 : ¬ nI (cn S) ≤ nI i := fun e => absurd ((nI_le_iff (by omega) (by omega)).mp e) (by omega)
    have hi8 : i < 8 := by omega
    have hct : M.1 0 2 = nI (cn S) := h.ct.trans hc1
    have hse : M.1 0 3 = S.2 3 := h.se
    have e3 : (sM S i).1 3 i = S.1 3 i := lt1_ge (Nat.le_refl i)
    have o2 : xcall X (d + 7) j_M_of [.ref (sh 4 0), .int (nI i), .int (2 : Int32)] (ub σ 4 (mdC M)) = some (some (.int (S.1 2 i)), ub σ 4 (mdC M)) := c_M_of2 (d := d + 6) h hi8
    have o3 : ∀ M' : xS, SF M M' → xcall X (d + 7) j_M_of [.ref (sh 4 0), .int (nI i), .int (3 : Int32)] (ub σ 4 (mdC M')) = some (some (.int (S.1 3 i)), ub σ 4 (mdC M')) := by
      intro M' hM
      have h' : RS (M'.1 0) (sM S i) := by rw [hM.row]; exact h
      rw [c_M_of3 (d := d + 6) h' hi8, e3]
    obtain ⟨N1, hN1, hx1⟩ := c_M_ropeOf (X := X) (d := d) (σ := σ) (okI_sM hI (i := i) (by omega)) h hi8
    rw [ro_sM] at hx1
    have fin0 : ∀ M' : xS, SF M M' → ¬ dd S i → ∃ (N : xS) (l3' : Value), SD M N ∧ RS (N.1 0) (sM S (cn S)) ∧ xrun (X, xcall X (d + 7)) j_M_goes 60 [.ref (sh 4 0), .int (nI (dcN S i)), .int (nI i), l3] [.int (0 : Int32)] (ub σ 4 (mdC M')) = xrun (X, xcall X (d + 7)) j_M_goes 99 [.ref (sh 4 0), .int (nI (dcN S (cn S))), .int (nI (cn S)), l3'] [] (ub σ 4 (mdC N)) := by
      intro M' hM hd
      have h' : RS (M'.1 0) (sM S i) := by rw [hM.row]; exact h
      have h2 := RS_p3 h' (okI_sM hI (i := i) (by omega)).1.ln hi8 (S.1 3 i)
      rw [sM_0 hd] at h2
      obtain ⟨N, l3', hN, hr, hx⟩ := ih (i + 1) (.int 0) (u2 M'.1 0 (upd (M'.1 0) (6 + 4 * i + 3) (S.1 3 i)), M'.2) h2 (by omega)
      have ed : dcN S (i + 1) = dcN S i := by
        show @ite _ (dd S i) (Classical.propDecidable _) _ _ = _
        rw [if_neg hd]
      rw [ed] at hx
      refine ⟨N, l3', SD.trans hM.sd (SD.trans (SD.row M' _) hN), hr, ?_⟩
      rw [← hx, s_M_goes_60, if_pos rfl, s_M_goes_70, s_M_goes_71, if_pos rfl, Int32.add_zero]
      simp only [s_M_goes_84, s_M_goes_90, s_M_goes_93, Option.bind_some, Option.bind_none, Option.toList_some, Option.toList_none, List.cons_append, List.nil_append, List.append_nil, mv_0, o3 M' hM, c_M_lets3 hi8, nI_add1]
    have fin1 : ∀ M' : xS, SF M M' → dd S i → ∃ (N : xS) (l3' : Value), SD M N ∧ RS (N.1 0) (sM S (cn S)) ∧ xrun (X, xcall X (d + 7)) j_M_goes 60 [.ref (sh 4 0), .int (nI (dcN S i)), .int (nI i), l3] [.int (1 : Int32)] (ub σ 4 (mdC M')) = xrun (X, xcall X (d + 7)) j_M_goes 99 [.ref (sh 4 0), .int (nI (dcN S (cn S))), .int (nI (cn S)), l3'] [] (ub σ 4 (mdC N)) := by
      intro M' hM hd
      have h' : RS (M'.1 0) (sM S i) := by rw [hM.row]; exact h
      have h2 := RS_p3 h' (okI_sM hI (i := i) (by omega)).1.ln hi8 1
      rw [sM_1 hd] at h2
      obtain ⟨N, l3', hN, hr, hx⟩ := ih (i + 1) (.int 1) (u2 M'.1 0 (upd (M'.1 0) (6 + 4 * i + 3) 1), M'.2) h2 (by omega)
      have ed : dcN S (i + 1) = dcN S i + 1 := by
        show @ite _ (dd S i) (Classical.propDecidable _) _ _ = _
        rw [if_pos hd]
      rw [ed] at hx
      have z10 : ¬ (1 : Int32) = 0 := by decide
      refine ⟨N, l3', SD.trans hM.sd (SD.trans (SD.row M' _) hN), hr, ?_⟩
      rw [← hx, s_M_goes_60, if_neg z10, s_M_goes_66, s_M_goes_71, if_neg z10, nI_add1]
      simp only [s_M_goes_80, s_M_goes_90, s_M_goes_93, Option.bind_some, Option.bind_none, Option.toList_some, Option.toList_none, List.cons_append, List.nil_append, List.append_nil, mv_0, c_M_lets3 hi8, nI_add1]
    rw [s_M_goes_4]
    simp only [s_M_goes_9, s_M_goes_11, Option.bind_some, Option.bind_none, Option.toList_some, Option.toList_none, List.cons_append, List.nil_append, List.append_nil, mv_0, mg_0_0, mg_0_1, mg_0_2, mg_0_3, mg_0_4, mg_0_5, mg_0_6, mg_0_7, mg_0_8, mg_0_9, mg_0_10, mg_0_11, mg_0_12, mg_0_13, mg_0_14, mg_0_15, mg_0_16, mg_0_17, mg_0_18, mg_0_19, mg_0_20, mrc_2, hct, if_neg h1, s_M_goes_14, s_M_goes_20, o2]
    by_cases hA : S.1 2 i ≤ 0
    · rw [if_pos hA, s_M_goes_59]
      exact fin0 M (SF.rfl' M) (fun e => i32_nlt.mpr hA e.1)
    rw [if_neg hA]
    simp only [s_M_goes_23, s_M_goes_29, Option.bind_some, Option.bind_none, Option.toList_some, Option.toList_none, List.cons_append, List.nil_append, List.append_nil, mv_0, o3 M (SF.rfl' M)]
    by_cases hB : S.1 3 i = 0
    · rw [if_pos hB]
      simp only [s_M_goes_32, s_M_goes_38, s_M_goes_43, s_M_goes_45, s_M_goes_52, Option.bind_some, Option.bind_none, Option.toList_some, Option.toList_none, List.cons_append, List.nil_append, List.append_nil, mv_0, mg_0_0, mg_0_1, mg_0_2, mg_0_3, mg_0_4, mg_0_5, mg_0_6, mg_0_7, mg_0_8, mg_0_9, mg_0_10, mg_0_11, mg_0_12, mg_0_13, mg_0_14, mg_0_15, mg_0_16, mg_0_17, mg_0_18, mg_0_19, mg_0_20, o2, mrc_3, hse, hx1]
      by_cases hC : S.1 2 i + 5 * S.2 3 ≤ ro S i
      · rw [if_pos hC, s_M_goes_59]
        exact fin0 N1 hN1 (fun e => i32_nlt.mpr hC e.2.2)
      · rw [if_neg hC, s_M_goes_55]
        exact fin1 N1 hN1 ⟨i32_nle.mp hA, hB, i32_nle.mp hC⟩
    · rw [if_neg hB, s_M_goes_59]
      exact fin0 M (SF.rfl' M) (fun e => hB e.2.1)
/-- the change of a's word of c -/
def mv (S : xS) (a c : Nat) : Int32 := if a = c then 0 else lg1 S (tn (kd S a) (S.2 4) (S.1 2 c) (S.1 4 (8 * a + c))) (S.1 4 (8 * a + c)) (S.2 4 - S.2 4 / 7 * 7)
theorem e88 (i o : Nat) : (8 : Int32) * nI i + nI o = nI (8 * i + o) := by
  rw [show (8 : Int32) * nI i = nI (8 * i) from (Int32.ofNat_mul 8 i).symm, nI_add]
theorem l_M_goes2a (hI : okI S) {i : Nat} (hi : i < cn S) (l1 : Int32) : ∀ (k o : Nat) (M : xS), RS (M.1 0) S → o + k = cn S → (∀ a, a < i → ∀ c, c < cn S → M.1 11 (8 * a + c) = mv S a c) → (∀ c, c < o → M.1 11 (8 * i + c) = mv S i c) → ∃ N : xS, SD M N ∧ N.1 0 = M.1 0 ∧ (∀ a, a < i + 1 → ∀ c, c < cn S → N.1 11 (8 * a + c) = mv S a c) ∧
    xrun (X, xcall X (d + 7)) j_M_goes 113 [.ref (sh 4 0), .int l1, .int (nI i), .int (nI o)] [] (ub σ 4 (mdC M)) = xrun (X, xcall X (d + 7)) j_M_goes 179 [.ref (sh 4 0), .int l1, .int (nI i), .int (nI (cn S))] [] (ub σ 4 (mdC N)) := by
  intro k
  obtain ⟨hc1, hc2⟩ := hI.1.1
  induction k with
  | zero =>
    intro o M h ho hA hB
    have ho' : o = cn S := by omega
    subst ho'
    have h1 : nI (cn S) ≤ nI (cn S) := (nI_le_iff (by omega) (by omega)).mpr (by omega)
    have hct : M.1 0 2 = nI (cn S) := h.ct.trans hc1
    refine ⟨M, SD.rfl' M, rfl, fun a ha c hc => ?_, ?_⟩
    · by_cases e : a = i
      · rw [e]; exact hB c hc
      · exact hA a (by omega) c hc
    rw [s_M_goes_113]
    simp only [s_M_goes_118, s_M_goes_120, Option.bind_some, Option.bind_none, Option.toList_some, Option.toList_none, List.cons_append, List.nil_append, List.append_nil, mv_0, mg_0_0, mg_0_1, mg_0_2, mg_0_3, mg_0_4, mg_0_5, mg_0_6, mg_0_7, mg_0_8, mg_0_9, mg_0_10, mg_0_11, mg_0_12, mg_0_13, mg_0_14, mg_0_15, mg_0_16, mg_0_17, mg_0_18, mg_0_19, mg_0_20, mrc_2, hct, if_pos h1]
  | succ k ih =>
    intro o M h ho hA hB
    have h1 : ¬ nI (cn S) ≤ nI o := fun e => absurd ((nI_le_iff (by omega) (by omega)).mp e) (by omega)
    have ho8 : o < 8 := by omega
    have hi8 : i < 8 := by omega
    have hio64 : 8 * i + o < 64 := by omega
    have hct : M.1 0 2 = nI (cn S) := h.ct.trans hc1
    have step : ∀ M' : xS, SF M M' → ∃ N : xS, SD M N ∧ N.1 0 = M.1 0 ∧ (∀ a, a < i + 1 → ∀ c, c < cn S → N.1 11 (8 * a + c) = mv S a c) ∧ xrun (X, xcall X (d + 7)) j_M_goes 172 [.ref (sh 4 0), .int l1, .int (nI i), .int (nI o)] [.int (mv S i o), .int (nI (8 * i + o)), .ref (sh 4 12)] (ub σ 4 (mdC M')) = xrun (X, xcall X (d + 7)) j_M_goes 179 [.ref (sh 4 0), .int l1, .int (nI i), .int (nI (cn S))] [] (ub σ 4 (mdC N)) := by
      intro M' hM
      have h' : RS (M'.1 0) S := by rw [hM.row]; exact h
      have hw : xwr (ub σ 4 (mdC M')) [0] (sh 4 12) (nI (8 * i + o)) (mv S i o) = some (ub σ 4 (mdC (u2 M'.1 11 (upd (M'.1 11) (8 * i + o) (mv S i o)), M'.2))) := mw_12 hio64
      obtain ⟨N, hN, hr, hV, hx⟩ := ih (o + 1) (u2 M'.1 11 (upd (M'.1 11) (8 * i + o) (mv S i o)), M'.2) h' (by omega) (by
        intro a ha c hc
        show upd (M'.1 11) (8 * i + o) (mv S i o) (8 * a + c) = _
        rw [upq (by omega), hM.mo]
        exact hA a ha c hc) (by
        intro c hc
        show upd (M'.1 11) (8 * i + o) (mv S i o) (8 * i + c) = _
        by_cases e : c = o
        · rw [e, upk]
        · rw [upq (by omega), hM.mo]
          exact hB c (by omega))
      refine ⟨N, SD.trans hM.sd (SD.trans (SD.more M' _) hN), hr.trans hM.row, hV, ?_⟩
      rw [← hx]
      simp only [s_M_goes_172, s_M_goes_173, Option.bind_some, Option.bind_none, Option.toList_some, Option.toList_none, List.cons_append, List.nil_append, List.append_nil, hw, nI_add1]
    rw [s_M_goes_113]
    simp only [s_M_goes_118, s_M_goes_120, Option.bind_some, Option.bind_none, Option.toList_some, Option.toList_none, List.cons_append, List.nil_append, List.append_nil, mv_0, mg_0_0, mg_0_1, mg_0_2, mg_0_3, mg_0_4, mg_0_5, mg_0_6, mg_0_7, mg_0_8, mg_0_9, mg_0_10, mg_0_11, mg_0_12, mg_0_13, mg_0_14, mg_0_15, mg_0_16, mg_0_17, mg_0_18, mg_0_19, mg_0_20, mrc_2, hct, if_neg h1, s_M_goes_123, s_M_goes_127, nI_inj (a := i) (b := o) (by omega) (by omega), e88]
    by_cases hio : i = o
    · rw [if_pos hio, s_M_goes_138]
      have e0 : mv S i o = 0 := if_pos hio
      have := step M (SF.rfl' M)
      rw [e0] at this
      exact this
    rw [if_neg hio]
    have hsp : 38 + (8 * i + o) < 428 := by omega
    obtain ⟨N1, hN1, hx1⟩ := c_M_gives1 (X := X) (d := d + 4) (σ := σ) hI h (tn (kd S i) (S.2 4) (S.1 2 o) (S.1 4 (8 * i + o))) (S.1 4 (8 * i + o)) (S.2 4 - S.2 4 / 7 * 7)
    have ev : lg1 S (tn (kd S i) (S.2 4) (S.1 2 o) (S.1 4 (8 * i + o))) (S.1 4 (8 * i + o)) (S.2 4 - S.2 4 / 7 * 7) = mv S i o := (if_neg hio).symm
    rw [ev] at hx1
    simp only [s_M_goes_142, s_M_goes_150, s_M_goes_154, s_M_goes_159, s_M_goes_160, s_M_goes_164, s_M_goes_166, Option.bind_some, Option.bind_none, Option.toList_some, Option.toList_none, List.cons_append, List.nil_append, List.append_nil, mv_0, mg_0_0, mg_0_1, mg_0_2, mg_0_3, mg_0_4, mg_0_5, mg_0_6, mg_0_7, mg_0_8, mg_0_9, mg_0_10, mg_0_11, mg_0_12, mg_0_13, mg_0_14, mg_0_15, mg_0_16, mg_0_17, mg_0_18, mg_0_19, mg_0_20, c_M_turnsOf hI.1 h hi8 ho8, c_M_spotOf, mr1 hsp, h.tk (8 * i + o) hio64, mrc_0, h.dy, hx1]
    exact step N1 hN1
theorem l_M_goes2b (hI : okI S) (l1 : Int32) : ∀ (k i : Nat) (l3 : Value) (M : xS), RS (M.1 0) S → i + k = cn S → (∀ a, a < i → ∀ c, c < cn S → M.1 11 (8 * a + c) = mv S a c) → ∃ (N : xS) (l3' : Value), SD M N ∧ N.1 0 = M.1 0 ∧ (∀ a, a < cn S → ∀ c, c < cn S → N.1 11 (8 * a + c) = mv S a c) ∧
    xrun (X, xcall X (d + 7)) j_M_goes 101 [.ref (sh 4 0), .int l1, .int (nI i), l3] [] (ub σ 4 (mdC M)) = xrun (X, xcall X (d + 7)) j_M_goes 185 [.ref (sh 4 0), .int l1, .int (nI (cn S)), l3'] [] (ub σ 4 (mdC N)) := by
  intro k
  obtain ⟨hc1, hc2⟩ := hI.1.1
  induction k with
  | zero =>
    intro i l3 M h hi hA
    have hi' : i = cn S := by omega
    subst hi'
    have h1 : nI (cn S) ≤ nI (cn S) := (nI_le_iff (by omega) (by omega)).mpr (by omega)
    have hct : M.1 0 2 = nI (cn S) := h.ct.trans hc1
    refine ⟨M, l3, SD.rfl' M, rfl, hA, ?_⟩
    rw [s_M_goes_101]
    simp only [s_M_goes_106, s_M_goes_108, Option.bind_some, Option.bind_none, Option.toList_some, Option.toList_none, List.cons_append, List.nil_append, List.append_nil, mv_0, mg_0_0, mg_0_1, mg_0_2, mg_0_3, mg_0_4, mg_0_5, mg_0_6, mg_0_7, mg_0_8, mg_0_9, mg_0_10, mg_0_11, mg_0_12, mg_0_13, mg_0_14, mg_0_15, mg_0_16, mg_0_17, mg_0_18, mg_0_19, mg_0_20, mrc_2, hct, if_pos h1]
  | succ k ih =>
    intro i l3 M h hi hA
    have h1 : ¬ nI (cn S) ≤ nI i := fun e => absurd ((nI_le_iff (by omega) (by omega)).mp e) (by omega)
    have hct : M.1 0 2 = nI (cn S) := h.ct.trans hc1
    obtain ⟨N1, hN1, hr1, hV1, hx1⟩ := l_M_goes2a (X := X) (d := d) (σ := σ) hI (i := i) (by omega) l1 (cn S) 0 M h (by omega) hA (fun c hc => absurd hc (Nat.not_lt_zero c))
    have h' : RS (N1.1 0) S := by rw [hr1]; exact h
    obtain ⟨N, l3', hN, hr, hV, hx⟩ := ih (i + 1) (.int (nI (cn S))) N1 h' (by omega) hV1
    refine ⟨N, l3', SD.trans hN1 hN, hr.trans hr1, hV, ?_⟩
    rw [← hx, s_M_goes_101]
    simp only [s_M_goes_106, s_M_goes_108, Option.bind_some, Option.bind_none, Option.toList_some, Option.toList_none, List.cons_append, List.nil_append, List.append_nil, mv_0, mg_0_0, mg_0_1, mg_0_2, mg_0_3, mg_0_4, mg_0_5, mg_0_6, mg_0_7, mg_0_8, mg_0_9, mg_0_10, mg_0_11, mg_0_12, mg_0_13, mg_0_14, mg_0_15, mg_0_16, mg_0_17, mg_0_18, mg_0_19, mg_0_20, mrc_2, hct, if_neg h1, s_M_goes_111]
    have hx1' : xrun (X, xcall X (d + 7)) j_M_goes 113 [.ref (sh 4 0), .int l1, .int (nI i), .int (0 : Int32)] [] (ub σ 4 (mdC M)) = _ := hx1
    rw [hx1', s_M_goes_179, nI_add1]
/-- talk, changed up to a place -/
def tk2 (S : xS) (n i o : Nat) : Nat → Int32 := fun c => if (c / 8 < i ∨ (c / 8 = i ∧ c % 8 < o)) ∧ c % 8 < n then hel (S.1 4 c + mv S (c / 8) (c % 8)) 0 99 else S.1 4 c
theorem tk2_at {S : xS} {n i o : Nat} (ho : o < 8) : tk2 S n i o (8 * i + o) = S.1 4 (8 * i + o) := by
  obtain ⟨h1, h2⟩ := c88 (i := i) ho
  unfold tk2
  rw [h1, h2, if_neg (by omega)]
theorem tk2_step {S : xS} {n i o : Nat} (hn : n ≤ 8) (ho : o < n) : upd (tk2 S n i o) (8 * i + o) (hel (S.1 4 (8 * i + o) + mv S i o) 0 99) = tk2 S n i (o + 1) := by
  obtain ⟨h1, h2⟩ := c88 (i := i) (o := o) (by omega)
  funext c
  unfold upd
  by_cases e : c = 8 * i + o
  · rw [if_pos e, e]
    unfold tk2
    rw [h1, h2, if_pos (by omega)]
  · rw [if_neg e]
    unfold tk2
    by_cases g : (c / 8 < i ∨ (c / 8 = i ∧ c % 8 < o)) ∧ c % 8 < n
    · rw [if_pos g, if_pos (by omega)]
    · rw [if_neg g, if_neg (by omega)]
theorem tk2_row {S : xS} {n i : Nat} : tk2 S n i n = tk2 S n (i + 1) 0 := by
  funext c
  unfold tk2
  by_cases g : (c / 8 < i ∨ (c / 8 = i ∧ c % 8 < n)) ∧ c % 8 < n
  · rw [if_pos g, if_pos (by omega)]
  · rw [if_neg g, if_neg (by omega)]
theorem tk2_0 {S : xS} {n : Nat} : tk2 S n 0 0 = S.1 4 := by
  funext c
  unfold tk2
  rw [if_neg (by omega)]
theorem tk2_tk {S : xS} (hI : okI S) : tk2 S (cn S) (cn S) 0 = tk S (cn S) (cn S) 0 := by
  have hc2 := hI.1.1.2
  obtain ⟨hS, hN, hw, hf, hz, ht, hg, o0, o1⟩ := hI
  funext c
  unfold tk2 tk
  by_cases g : (c / 8 < cn S ∨ (c / 8 = cn S ∧ c % 8 < 0)) ∧ c % 8 < cn S
  · rw [if_pos g]
    have ec : 8 * (c / 8) + c % 8 = c := by omega
    by_cases e : c / 8 = c % 8
    · rw [if_neg (by omega)]
      have e9 : c = 9 * (c / 8) := by omega
      have h0 : S.1 4 c = 0 := by rw [e9]; exact hg (c / 8) (by omega)
      unfold mv
      rw [h0, if_pos e]
      decide
    · rw [if_pos (by omega)]
      unfold nt mv
      rw [if_neg e, ec]
  · rw [if_neg g, if_neg (by omega)]
theorem l_M_goes3a (hI : okI S) {i : Nat} (hi : i < cn S) (l1 : Int32) : ∀ (k o : Nat) (M : xS), RS (M.1 0) (sT S (tk2 S (cn S) i o)) → (∀ a, a < cn S → ∀ c, c < cn S → M.1 11 (8 * a + c) = mv S a c) → o + k = cn S → ∃ N : xS, SD M N ∧ N.1 11 = M.1 11 ∧ RS (N.1 0) (sT S (tk2 S (cn S) i (cn S))) ∧
    xrun (X, xcall X (d + 7)) j_M_goes 199 [.ref (sh 4 0), .int l1, .int (nI i), .int (nI o)] [] (ub σ 4 (mdC M)) = xrun (X, xcall X (d + 7)) j_M_goes 253 [.ref (sh 4 0), .int l1, .int (nI i), .int (nI (cn S))] [] (ub σ 4 (mdC N)) := by
  intro k
  obtain ⟨hc1, hc2⟩ := hI.1.1
  induction k with
  | zero =>
    intro o M h hV ho
    have ho' : o = cn S := by omega
    subst ho'
    have h1 : nI (cn S) ≤ nI (cn S) := (nI_le_iff (by omega) (by omega)).mpr (by omega)
    have hct : M.1 0 2 = nI (cn S) := h.ct.trans hc1
    refine ⟨M, SD.rfl' M, rfl, h, ?_⟩
    rw [s_M_goes_199]
    simp only [s_M_goes_204, s_M_goes_206, Option.bind_some, Option.bind_none, Option.toList_some, Option.toList_none, List.cons_append, List.nil_append, List.append_nil, mv_0, mg_0_0, mg_0_1, mg_0_2, mg_0_3, mg_0_4, mg_0_5, mg_0_6, mg_0_7, mg_0_8, mg_0_9, mg_0_10, mg_0_11, mg_0_12, mg_0_13, mg_0_14, mg_0_15, mg_0_16, mg_0_17, mg_0_18, mg_0_19, mg_0_20, mrc_2, hct, if_pos h1]
  | succ k ih =>
    intro o M h hV ho
    have h1 : ¬ nI (cn S) ≤ nI o := fun e => absurd ((nI_le_iff (by omega) (by omega)).mp e) (by omega)
    have ho8 : o < 8 := by omega
    have hi8 : i < 8 := by omega
    have hio64 : 8 * i + o < 64 := by omega
    have hsp : 38 + (8 * i + o) < 428 := by omega
    have hct : M.1 0 2 = nI (cn S) := h.ct.trans hc1
    have htk : M.1 0 (38 + (8 * i + o)) = S.1 4 (8 * i + o) := (h.tk (8 * i + o) hio64).trans (tk2_at ho8)
    have h2 := RS_tk (S := sT S (tk2 S (cn S) i o)) h hI.1.ln hio64 (hel (S.1 4 (8 * i + o) + mv S i o) 0 99)
    have e2 : ((u2 (sT S (tk2 S (cn S) i o)).1 4 (upd ((sT S (tk2 S (cn S) i o)).1 4) (8 * i + o) (hel (S.1 4 (8 * i + o) + mv S i o) 0 99)), (sT S (tk2 S (cn S) i o)).2) : xS) = sT S (tk2 S (cn S) i (o + 1)) := by
      rw [sT_sT, ← tk2_step hc2 (by omega : o < cn S)]
      rfl
    rw [e2] at h2
    obtain ⟨N, hN, hm, hr, hx⟩ := ih (o + 1) (u2 M.1 0 (upd (M.1 0) (38 + (8 * i + o)) (hel (S.1 4 (8 * i + o) + mv S i o) 0 99)), M.2) h2 hV (by omega)
    have hle : (0 : Int32) ≤ 99 := by decide
    refine ⟨N, SD.trans (SD.row M _) hN, hm, hr, ?_⟩
    rw [← hx, s_M_goes_199]
    simp only [s_M_goes_204, s_M_goes_206, Option.bind_some, Option.bind_none, Option.toList_some, Option.toList_none, List.cons_append, List.nil_append, List.append_nil, mv_0, mg_0_0, mg_0_1, mg_0_2, mg_0_3, mg_0_4, mg_0_5, mg_0_6, mg_0_7, mg_0_8, mg_0_9, mg_0_10, mg_0_11, mg_0_12, mg_0_13, mg_0_14, mg_0_15, mg_0_16, mg_0_17, mg_0_18, mg_0_19, mg_0_20, mrc_2, hct, if_neg h1, s_M_goes_209, s_M_goes_213, c_M_spotOf, s_M_goes_218, s_M_goes_222, s_M_goes_227, mr1 hsp, htk, s_M_goes_228, s_M_goes_232, e88, mr_12 hio64, hV i hi o (by omega), s_M_goes_239, c_M_held hle, s_M_goes_246, mw1 hsp, s_M_goes_247, nI_add1]
theorem l_M_goes3b (hI : okI S) (l1 : Int32) : ∀ (k i : Nat) (l3 : Value) (M : xS), RS (M.1 0) (sT S (tk2 S (cn S) i 0)) → (∀ a, a < cn S → ∀ c, c < cn S → M.1 11 (8 * a + c) = mv S a c) → i + k = cn S → ∃ (N : xS) (l3' : Value), SD M N ∧ RS (N.1 0) (sT S (tk2 S (cn S) (cn S) 0)) ∧
    xrun (X, xcall X (d + 7)) j_M_goes 187 [.ref (sh 4 0), .int l1, .int (nI i), l3] [] (ub σ 4 (mdC M)) = xrun (X, xcall X (d + 7)) j_M_goes 259 [.ref (sh 4 0), .int l1, .int (nI (cn S)), l3'] [] (ub σ 4 (mdC N)) := by
  intro k
  obtain ⟨hc1, hc2⟩ := hI.1.1
  induction k with
  | zero =>
    intro i l3 M h hV hi
    have hi' : i = cn S := by omega
    subst hi'
    have h1 : nI (cn S) ≤ nI (cn S) := (nI_le_iff (by omega) (by omega)).mpr (by omega)
    have hct : M.1 0 2 = nI (cn S) := h.ct.trans hc1
    refine ⟨M, l3, SD.rfl' M, h, ?_⟩
    rw [s_M_goes_187]
    simp only [s_M_goes_192, s_M_goes_194, Option.bind_some, Option.bind_none, Option.toList_some, Option.toList_none, List.cons_append, List.nil_append, List.append_nil, mv_0, mg_0_0, mg_0_1, mg_0_2, mg_0_3, mg_0_4, mg_0_5, mg_0_6, mg_0_7, mg_0_8, mg_0_9, mg_0_10, mg_0_11, mg_0_12, mg_0_13, mg_0_14, mg_0_15, mg_0_16, mg_0_17, mg_0_18, mg_0_19, mg_0_20, mrc_2, hct, if_pos h1]
  | succ k ih =>
    intro i l3 M h hV hi
    have h1 : ¬ nI (cn S) ≤ nI i := fun e => absurd ((nI_le_iff (by omega) (by omega)).mp e) (by omega)
    have hct : M.1 0 2 = nI (cn S) := h.ct.trans hc1
    obtain ⟨N1, hN1, hm1, hr1, hx1⟩ := l_M_goes3a (X := X) (d := d) (σ := σ) hI (i := i) (by omega) l1 (cn S) 0 M h hV (by omega)
    rw [tk2_row] at hr1
    obtain ⟨N, l3', hN, hr, hx⟩ := ih (i + 1) (.int (nI (cn S))) N1 hr1 (by rw [hm1]; exact hV) (by omega)
    refine ⟨N, l3', SD.trans hN1 hN, hr, ?_⟩
    rw [← hx, s_M_goes_187]
    simp only [s_M_goes_192, s_M_goes_194, Option.bind_some, Option.bind_none, Option.toList_some, Option.toList_none, List.cons_append, List.nil_append, List.append_nil, mv_0, mg_0_0, mg_0_1, mg_0_2, mg_0_3, mg_0_4, mg_0_5, mg_0_6, mg_0_7, mg_0_8, mg_0_9, mg_0_10, mg_0_11, mg_0_12, mg_0_13, mg_0_14, mg_0_15, mg_0_16, mg_0_17, mg_0_18, mg_0_19, mg_0_20, mrc_2, hct, if_neg h1, s_M_goes_197]
    have hx1' : xrun (X, xcall X (d + 7)) j_M_goes 199 [.ref (sh 4 0), .int l1, .int (nI i), .int (0 : Int32)] [] (ub σ 4 (mdC M)) = _ := hx1
    rw [hx1', s_M_goes_253, nI_add1]
theorem c_M_goes {M : xS} (hI : okI S) (h : RS (M.1 0) S) : ∃ N : xS, SD M N ∧ RS (N.1 0) (dyS S) ∧ xcall X (d + 8) j_M_goes [.ref (sh 4 0)] (ub σ 4 (mdC M)) = some (some (.int (bct (nI (gs S (cn S))))), ub σ 4 (mdC N)) := by
  have h0 : RS (M.1 0) (sM S 0) := by rw [sM_00]; exact h
  obtain ⟨N1, l3, hN1, hr1, hx1⟩ := l_M_goes1 (X := X) (d := d) (σ := σ) hI (cn S) 0 .null M h0 (by omega)
  have hI2 : okI (sL S (cn S)) := by rw [← sM_L hI]; exact okI_sM hI (Nat.le_refl _)
  have hr1' : RS (N1.1 0) (sL S (cn S)) := by rw [← sM_L hI]; exact hr1
  obtain ⟨N2, l3', hN2, hr2, hV2, hx2⟩ := l_M_goes2b (X := X) (d := d) (σ := σ) hI2 (nI (dcN S (cn S))) (cn S) 0 l3 N1 hr1' (by show 0 + cn S = cn S; omega) (fun a ha => absurd ha (Nat.not_lt_zero a))
  have hr2' : RS (N2.1 0) (sT (sL S (cn S)) (tk2 (sL S (cn S)) (cn (sL S (cn S))) 0 0)) := by
    rw [tk2_0, hr2]
    show RS (N1.1 0) (u2 (sL S (cn S)).1 4 ((sL S (cn S)).1 4), (sL S (cn S)).2)
    rw [u2_self]
    exact hr1'
  obtain ⟨N3, l3'', hN3, hr3, hx3⟩ := l_M_goes3b (X := X) (d := d) (σ := σ) hI2 (nI (dcN S (cn S))) (cn S) 0 l3' N2 hr2' hV2 (by show 0 + cn S = cn S; omega)
  rw [tk2_tk hI2] at hr3
  have h4 := RS_dy (S := sT (sL S (cn S)) (tk (sL S (cn S)) (cn (sL S (cn S))) (cn (sL S (cn S))) 0)) hr3 hI2.1.ln (S.2 4 + 1)
  have hdy : N3.1 0 0 = S.2 4 := hr3.dy
  refine ⟨(u2 N3.1 0 (upd (N3.1 0) 0 (S.2 4 + 1)), N3.2), SD.trans hN1 (SD.trans hN2 (SD.trans hN3 (SD.row N3 _))), h4, ?_⟩
  rw [e_M_goes, s_M_goes_0]
  have hx1' : xrun (X, xcall X (d + 7)) j_M_goes 4 [.ref (sh 4 0), .int (0 : Int32), .int (0 : Int32), .null] [] (ub σ 4 (mdC M)) = _ := hx1
  rw [hx1', s_M_goes_99]
  have hx2' : xrun (X, xcall X (d + 7)) j_M_goes 101 [.ref (sh 4 0), .int (nI (dcN S (cn S))), .int (0 : Int32), l3] [] (ub σ 4 (mdC N1)) = _ := hx2
  rw [hx2', s_M_goes_185]
  have hx3' : xrun (X, xcall X (d + 7)) j_M_goes 187 [.ref (sh 4 0), .int (nI (dcN S (cn S))), .int (0 : Int32), l3'] [] (ub σ 4 (mdC N2)) = _ := hx3
  rw [hx3']
  simp only [s_M_goes_259, s_M_goes_263, s_M_goes_266, s_M_goes_269, Option.bind_some, Option.bind_none, Option.toList_some, Option.toList_none, List.cons_append, List.nil_append, List.append_nil, mv_0, mg_0_0, mg_0_1, mg_0_2, mg_0_3, mg_0_4, mg_0_5, mg_0_6, mg_0_7, mg_0_8, mg_0_9, mg_0_10, mg_0_11, mg_0_12, mg_0_13, mg_0_14, mg_0_15, mg_0_16, mg_0_17, mg_0_18, mg_0_19, mg_0_20, mrc_0, hdy, mwc_0, dcN_bct hI.1]
/-! so many days -/
theorem l_M_goesFor {N0 : Nat} (hN : N0 < 2 ^ 31) : ∀ (k i : Nat) (g : Int32) (S : xS) (M : xS), okI S → RS (M.1 0) S → i + k = N0 → ∃ N : xS, SD M N ∧ RS (N.1 0) (dyI k S g).2 ∧
    xrun (X, xcall X (d + 8)) j_M_goesFor 4 [.ref (sh 4 0), .int (nI N0), .int g, .int (nI i)] [] (ub σ 4 (mdC M)) = some (some (.int (dyI k S g).1), ub σ 4 (mdC N)) := by
  intro k
  induction k with
  | zero =>
    intro i g S M hI h hi
    have h1 : nI N0 ≤ nI i := (nI_le_iff (by omega) (by omega)).mpr (by omega)
    refine ⟨M, SD.rfl' M, h, ?_⟩
    rw [s_M_goesFor_4, if_pos h1, s_M_goesFor_22]
    rfl
  | succ k ih =>
    intro i g S M hI h hi
    have h1 : ¬ nI N0 ≤ nI i := fun e => absurd ((nI_le_iff (by omega) (by omega)).mp e) (by omega)
    obtain ⟨N1, hN1, hr1, hx1⟩ := c_M_goes (X := X) (d := d) (σ := σ) hI h
    obtain ⟨N, hN, hr, hx⟩ := ih (i + 1) (g + bct (nI (gs S (cn S)))) (dyS S) N1 (okI_dy hI) hr1 (by omega)
    refine ⟨N, SD.trans hN1 hN, hr, ?_⟩
    rw [s_M_goesFor_4, if_neg h1]
    simp only [s_M_goesFor_9, s_M_goesFor_14, Option.bind_some, Option.bind_none, Option.toList_some, Option.toList_none, List.cons_append, List.nil_append, List.append_nil, mv_0, hx1, nI_add1]
    exact hx
theorem c_M_goesFor {M : xS} (hI : okI S) (h : RS (M.1 0) S) {n : Nat} (hn : n < 2 ^ 31) : ∃ N : xS, SD M N ∧ RS (N.1 0) (dyI n S 0).2 ∧ xcall X (d + 9) j_M_goesFor [.ref (sh 4 0), .int (nI n)] (ub σ 4 (mdC M)) = some (some (.int (dyI n S 0).1), ub σ 4 (mdC N)) := by
  obtain ⟨N, hN, hr, hx⟩ := l_M_goesFor (X := X) (d := d) (σ := σ) hn n 0 0 S M hI h (by omega)
  refine ⟨N, hN, hr, ?_⟩
  rw [e_M_goesFor, s_M_goesFor_0]
  exact hx
/-! draws -/
theorem c_M_draw {M : xS} (hS : okS S) (h : RS (M.1 0) S) : RS (upd (M.1 0) 1 (nx (S.2 5))) (S.1, u1 S.2 5 (nx (S.2 5))) ∧ xcall X (d + 1) j_M_draw [.ref (sh 4 0)] (ub σ 4 (mdC M)) = some (some (.int (nI (drn (nx (S.2 5))))), ub σ 4 (mdC (u2 M.1 0 (upd (M.1 0) 1 (nx (S.2 5))), M.2))) := by
  refine ⟨RS_zz h hS.ln _, ?_⟩
  have hw : xwr (ub σ 4 (mdC M)) [0] (sh 4 1) (1 : Int32) (S.2 5 * 1103515245 + 12345) = some (ub σ 4 (mdC (u2 M.1 0 (upd (M.1 0) 1 (nx (S.2 5))), M.2))) := mwc_1 _
  rw [e_M_draw, ← drv_nI]
  simp only [s_M_draw_0, s_M_draw_4, s_M_draw_9, s_M_draw_11, s_M_draw_19, s_M_draw_23, s_M_draw_25, Option.bind_some, Option.bind_none, Option.toList_some, Option.toList_none, List.cons_append, List.nil_append, List.append_nil, mv_0, mg_0_0, mg_0_1, mg_0_2, mg_0_3, mg_0_4, mg_0_5, mg_0_6, mg_0_7, mg_0_8, mg_0_9, mg_0_10, mg_0_11, mg_0_12, mg_0_13, mg_0_14, mg_0_15, mg_0_16, mg_0_17, mg_0_18, mg_0_19, mg_0_20, mrc_1, h.zz, hw, u2_at, upk]
  rfl
theorem c_M_drawn {M : xS} (hI : okI S) (h : RS (M.1 0) S) : ∃ N : xS, SD M N ∧ RS (N.1 0) (dyS (dsS S)) ∧ xcall X (d + 9) j_M_drawn [.ref (sh 4 0)] (ub σ 4 (mdC M)) = some (some (.int (bct (nI (gs (dsS S) (cn (dsS S)))))), ub σ 4 (mdC N)) := by
  obtain ⟨hc1, hc2⟩ := hI.1.1
  have r10 : ∀ z : Int32, nI (drn z) - nI (drn z) / (10 : Int32) * (10 : Int32) = nI (drn z % 10) := fun z => pk_rem (d := 10) (Nat.lt_trans (drn_lt z) (by decide)) (by omega) (by omega)
  have r60 : ∀ z : Int32, nI (drn z) - nI (drn z) / (60 : Int32) * (60 : Int32) = nI (drn z % 60) := fun z => pk_rem (d := 60) (Nat.lt_trans (drn_lt z) (by decide)) (by omega) (by omega)
  obtain ⟨hr1, hx1⟩ := c_M_draw (X := X) (d := d + 7) (σ := σ) hI.1 h
  generalize hM1 : ((u2 M.1 0 (upd (M.1 0) 1 (nx (S.2 5))), M.2) : xS) = M1 at hx1
  have hD1 : SD M M1 := by rw [← hM1]; exact SD.row M _
  have hr1' : RS (M1.1 0) (S.1, u1 S.2 5 (nx (S.2 5))) := by rw [← hM1]; exact hr1
  have hr2 := RS_se (S := (S.1, u1 S.2 5 (nx (S.2 5)))) hr1' hI.1.ln (nI (drn (nx (S.2 5)) % 10))
  have hw2 : xwr (ub σ 4 (mdC M1)) [0] (sh 4 1) (3 : Int32) (nI (drn (nx (S.2 5)) % 10)) = some (ub σ 4 (mdC (u2 M1.1 0 (upd (M1.1 0) 3 (nI (drn (nx (S.2 5)) % 10))), M1.2))) := mwc_3 _
  generalize hM2 : ((u2 M1.1 0 (upd (M1.1 0) 3 (nI (drn (nx (S.2 5)) % 10))), M1.2) : xS) = M2 at hw2
  have hD2 : SD M M2 := by rw [← hM2]; exact SD.trans hD1 (SD.row M1 _)
  have hr2' : RS (M2.1 0) (S.1, u1 (u1 S.2 5 (nx (S.2 5))) 3 (nI (drn (nx (S.2 5)) % 10))) := by rw [← hM2]; exact hr2
  have hct : M2.1 0 2 = nI (cn S) := hr2'.ct.trans hc1
  have hIds := okI_ds hI
  rw [e_M_drawn]
  simp only [s_M_drawn_0, s_M_drawn_4, s_M_drawn_9, s_M_drawn_13, s_M_drawn_17, s_M_drawn_19, Option.bind_some, Option.bind_none, Option.toList_some, Option.toList_none, List.cons_append, List.nil_append, List.append_nil, mv_0, mg_0_0, mg_0_1, mg_0_2, mg_0_3, mg_0_4, mg_0_5, mg_0_6, mg_0_7, mg_0_8, mg_0_9, mg_0_10, mg_0_11, mg_0_12, mg_0_13, mg_0_14, mg_0_15, mg_0_16, mg_0_17, mg_0_18, mg_0_19, mg_0_20, hx1, r10, hw2, mrc_2, hct]
  by_cases h0 : cn S = 0
  · have h1 : nI (cn S) ≤ 0 := by rw [h0]; decide
    have eds : dsS S = (S.1, u1 (u1 S.2 5 (nx (S.2 5))) 3 (nI (drn (nx (S.2 5)) % 10))) := by
      unfold dsS
      simp only [if_pos h0]
    rw [← eds] at hr2'
    obtain ⟨N, hN, hr, hx⟩ := c_M_goes (X := X) (d := d) (σ := σ) hIds hr2'
    refine ⟨N, SD.trans hD2 hN, hr, ?_⟩
    simp only [if_pos h1, s_M_drawn_68, s_M_drawn_72, Option.bind_some, Option.bind_none, Option.toList_some, Option.toList_none, List.cons_append, List.nil_append, List.append_nil, mv_0, hx]
  · have h1 : ¬ nI (cn S) ≤ 0 := fun h => absurd ((nI_le_iff (a := cn S) (b := 0) (by omega) (by omega)).mp h) (by omega)
    have hne : ¬ nI (cn S) = 0 := nI_ne0 (by omega) (by omega)
    have rc : ∀ z : Int32, nI (drn z) - nI (drn z) / nI (cn S) * nI (cn S) = nI (drn z % cn S) := fun z => pk_rem (Nat.lt_trans (drn_lt z) (by decide)) (by omega) (by omega)
    have hk : ∀ z : Int32, drn z % cn S < 8 := fun z => Nat.lt_of_lt_of_le (Nat.mod_lt _ (by omega)) hc2
    obtain ⟨hr3, hx3⟩ := c_M_draw (X := X) (d := d + 7) (σ := σ) (S := (S.1, u1 (u1 S.2 5 (nx (S.2 5))) 3 (nI (drn (nx (S.2 5)) % 10)))) hI.1 hr2'
    have e5 : (S.1, u1 (u1 S.2 5 (nx (S.2 5))) 3 (nI (drn (nx (S.2 5)) % 10))).2 5 = nx (S.2 5) := rfl
    rw [e5] at hr3 hx3
    generalize hz2 : nx (nx (S.2 5)) = z2 at hr3 hx3
    generalize hM3 : ((u2 M2.1 0 (upd (M2.1 0) 1 z2), M2.2) : xS) = M3 at hx3
    have hD3 : SD M M3 := by rw [← hM3]; exact SD.trans hD2 (SD.row M2 _)
    have hr3' : RS (M3.1 0) (S.1, u1 (u1 (u1 S.2 5 (nx (S.2 5))) 3 (nI (drn (nx (S.2 5)) % 10))) 5 z2) := by rw [← hM3]; exact hr3
    have hct3 : M3.1 0 2 = nI (cn S) := hr3'.ct.trans hc1
    obtain ⟨hr4, hx4⟩ := c_M_draw (X := X) (d := d + 7) (σ := σ) (S := (S.1, u1 (u1 (u1 S.2 5 (nx (S.2 5))) 3 (nI (drn (nx (S.2 5)) % 10))) 5 z2)) hI.1 hr3'
    have e6 : (S.1, u1 (u1 (u1 S.2 5 (nx (S.2 5))) 3 (nI (drn (nx (S.2 5)) % 10))) 5 z2).2 5 = z2 := rfl
    rw [e6] at hr4 hx4
    generalize hz3 : nx z2 = z3 at hr4 hx4
    generalize hM4 : ((u2 M3.1 0 (upd (M3.1 0) 1 z3), M3.2) : xS) = M4 at hx4
    have hD4 : SD M M4 := by rw [← hM4]; exact SD.trans hD3 (SD.row M3 _)
    have hr4' : RS (M4.1 0) (S.1, u1 (u1 (u1 (u1 S.2 5 (nx (S.2 5))) 3 (nI (drn (nx (S.2 5)) % 10))) 5 z2) 5 z3) := by rw [← hM4]; exact hr4
    have hp8 := hk z2
    have eds : dsS S = (if S.1 3 (drn z2 % cn S) = 0 then u2 S.1 2 (upd (S.1 2) (drn z2 % cn S) (nI (drn z3 % 60))) else S.1, u1 (u1 (u1 (u1 S.2 5 (nx (S.2 5))) 3 (nI (drn (nx (S.2 5)) % 10))) 5 z2) 5 z3) := by
      unfold dsS
      simp only [if_neg h0, hz2, hz3]
    have h01 := hI.2.1.2.2.2.2.1 (drn z2 % cn S) hp8
    have o3 : xcall X (d + 8) j_M_of [.ref (sh 4 0), .int (nI (drn z2 % cn S)), .int (3 : Int32)] (ub σ 4 (mdC M4)) = some (some (.int (S.1 3 (drn z2 % cn S))), ub σ 4 (mdC M4)) := c_M_of3 (d := d + 7) hr4' hp8
    have o2 : xcall X (d + 8) j_M_of [.ref (sh 4 0), .int (nI (drn z2 % cn S)), .int (2 : Int32)] (ub σ 4 (mdC M4)) = some (some (.int (S.1 2 (drn z2 % cn S))), ub σ 4 (mdC M4)) := c_M_of2 (d := d + 7) hr4' hp8
    have fin : ∀ x : Int32, RS (upd (M4.1 0) (6 + 4 * (drn z2 % cn S) + 2) x) (dsS S) → ∃ N : xS, SD M N ∧ RS (N.1 0) (dyS (dsS S)) ∧ xrun (X, xcall X (d + 8)) j_M_drawn 65 [.ref (sh 4 0), .int (nI (drn z2 % cn S)), .int (nI (drn z3 % 60))] [.int x, .int (2 : Int32), .int (nI (drn z2 % cn S)), .ref (sh 4 0)] (ub σ 4 (mdC M4)) = some (some (.int (bct (nI (gs (dsS S) (cn (dsS S)))))), ub σ 4 (mdC N)) := by
      intro x hr5
      obtain ⟨N, hN, hr, hx⟩ := c_M_goes (X := X) (d := d) (σ := σ) (M := (u2 M4.1 0 (upd (M4.1 0) (6 + 4 * (drn z2 % cn S) + 2) x), M4.2)) hIds hr5
      refine ⟨N, SD.trans hD4 (SD.trans (SD.row M4 _) hN), hr, ?_⟩
      simp only [s_M_drawn_65, s_M_drawn_68, s_M_drawn_72, Option.bind_some, Option.bind_none, Option.toList_some, Option.toList_none, List.cons_append, List.nil_append, List.append_nil, mv_0, c_M_lets2 hp8, hx]
    simp only [if_neg h1, s_M_drawn_22, s_M_drawn_26, s_M_drawn_30, s_M_drawn_32, s_M_drawn_33, s_M_drawn_38, s_M_drawn_51, Option.bind_some, Option.bind_none, Option.toList_some, Option.toList_none, List.cons_append, List.nil_append, List.append_nil, mv_0, mg_0_0, mg_0_1, mg_0_2, mg_0_3, mg_0_4, mg_0_5, mg_0_6, mg_0_7, mg_0_8, mg_0_9, mg_0_10, mg_0_11, mg_0_12, mg_0_13, mg_0_14, mg_0_15, mg_0_16, mg_0_17, mg_0_18, mg_0_19, mg_0_20, hx3, mrc_2, hct3, if_neg hne, rc, hx4, r60, o3]
    rcases h01 with hl | hl
    · have h5 := RS_p2 (S := (S.1, u1 (u1 (u1 (u1 S.2 5 (nx (S.2 5))) 3 (nI (drn (nx (S.2 5)) % 10))) 5 z2) 5 z3)) hr4' hI.1.ln hp8 (nI (drn z3 % 60))
      rw [if_pos hl] at eds
      have z01 : ¬ S.1 3 (drn z2 % cn S) = 1 := by rw [hl]; decide
      rw [if_neg z01, s_M_drawn_64]
      exact fin _ (by rw [eds]; exact h5)
    · have h5 := RS_p2 (S := (S.1, u1 (u1 (u1 (u1 S.2 5 (nx (S.2 5))) 3 (nI (drn (nx (S.2 5)) % 10))) 5 z2) 5 z3)) hr4' hI.1.ln hp8 (S.1 2 (drn z2 % cn S))
      have z10 : ¬ S.1 3 (drn z2 % cn S) = 0 := by rw [hl]; decide
      rw [if_neg z10] at eds
      have eu : upd (S.1 2) (drn z2 % cn S) (S.1 2 (drn z2 % cn S)) = S.1 2 := by
        funext j
        unfold upd
        split
        · next e => rw [e]
        · rfl
      have e7 : ((u2 S.1 2 (upd (S.1 2) (drn z2 % cn S) (S.1 2 (drn z2 % cn S))), u1 (u1 (u1 (u1 S.2 5 (nx (S.2 5))) 3 (nI (drn (nx (S.2 5)) % 10))) 5 z2) 5 z3) : xS) = dsS S := by
        rw [eu, u2_self, eds]
      rw [if_pos hl]
      simp only [s_M_drawn_55, s_M_drawn_61, Option.bind_some, Option.bind_none, Option.toList_some, Option.toList_none, List.cons_append, List.nil_append, List.append_nil, mv_0, o2]
      exact fin _ (by rw [← e7]; exact h5)
/-! copies of the row -/
theorem l_M_copy {b1 b2 : Nat} (h1 : b1 < 3) (h2 : b2 < 3) (hne : b1 ≠ b2) {f : Nat → Int32} : ∀ (k i : Nat) (M : xS), M.1 b1 = f → (∀ j, j < i → M.1 b2 j = f j) → i + k = 428 → ∃ g : Nat → Int32, (∀ j, j < 428 → g j = f j) ∧
    xrun (X, xcall X d) j_M_copyAll 2 [.ref (sh 4 (b1 + 1)), .ref (sh 4 (b2 + 1)), .int (nI i)] [] (ub σ 4 (mdC M)) = some (none, ub σ 4 (mdC (u2 M.1 b2 g, M.2))) := by
  intro k
  induction k with
  | zero =>
    intro i M h hA hi
    have hi' : i = 428 := by omega
    subst hi'
    refine ⟨M.1 b2, hA, ?_⟩
    have h4 : (428 : Int32) ≤ nI 428 := by decide
    rw [s_M_copyAll_2, if_pos h4, s_M_copyAll_21, u2_self]
  | succ k ih =>
    intro i M h hA hi
    have h4 : ¬ (428 : Int32) ≤ nI i := fun e => absurd ((nI_le_iff (a := 428) (b := i) (by omega) (by omega)).mp e) (by omega)
    have hr : xrd X (ub σ 4 (mdC M)) [0] (sh 4 (b1 + 1)) (nI i) = some (f i) := by
      rw [← h]
      obtain rfl | rfl | rfl : b1 = 0 ∨ b1 = 1 ∨ b1 = 2 := by omega
      · exact mr_1 (by omega)
      · exact mr_2 (by omega)
      · exact mr_3 (by omega)
    have hw : xwr (ub σ 4 (mdC M)) [0] (sh 4 (b2 + 1)) (nI i) (f i) = some (ub σ 4 (mdC (u2 M.1 b2 (upd (M.1 b2) i (f i)), M.2))) := by
      obtain rfl | rfl | rfl : b2 = 0 ∨ b2 = 1 ∨ b2 = 2 := by omega
      · exact mw_1 (by omega)
      · exact mw_2 (by omega)
      · exact mw_3 (by omega)
    obtain ⟨g, hg, hx⟩ := ih (i + 1) (u2 M.1 b2 (upd (M.1 b2) i (f i)), M.2) ((if_neg hne).trans h) (by
      intro j hj
      show u2 M.1 b2 _ b2 j = _
      rw [u2_at]
      by_cases e : j = i
      · rw [e, upk]
      · rw [upq e]
        exact hA j (by omega)) (by omega)
    refine ⟨g, hg, ?_⟩
    have hx' : xrun (X, xcall X d) j_M_copyAll 2 [.ref (sh 4 (b1 + 1)), .ref (sh 4 (b2 + 1)), .int (nI (i + 1))] [] (ub σ 4 (mdC (u2 M.1 b2 (upd (M.1 b2) i (f i)), M.2))) = some (none, ub σ 4 (mdC (u2 (u2 M.1 b2 (upd (M.1 b2) i (f i))) b2 g, M.2))) := hx
    rw [u2_u2] at hx'
    rw [s_M_copyAll_2, if_neg h4, ← hx']
    simp only [s_M_copyAll_9, s_M_copyAll_14, s_M_copyAll_15, Option.bind_some, Option.bind_none, Option.toList_some, Option.toList_none, List.cons_append, List.nil_append, List.append_nil, hr, hw, nI_add1]
theorem c_M_copy {b1 b2 : Nat} (h1 : b1 < 3) (h2 : b2 < 3) (hne : b1 ≠ b2) (M : xS) : ∃ g : Nat → Int32, (∀ j, j < 428 → g j = M.1 b1 j) ∧ xcall X (d + 1) j_M_copyAll [.ref (sh 4 (b1 + 1)), .ref (sh 4 (b2 + 1))] (ub σ 4 (mdC M)) = some (none, ub σ 4 (mdC (u2 M.1 b2 g, M.2))) := by
  obtain ⟨g, hg, hx⟩ := l_M_copy (X := X) (d := d) (σ := σ) h1 h2 hne 428 0 M rfl (fun j hj => absurd hj (Nat.not_lt_zero j)) (by omega)
  refine ⟨g, hg, ?_⟩
  rw [e_M_copyAll, s_M_copyAll_0]
  exact hx
theorem RS_cp {r g : Nat → Int32} (h : RS r S) (hS : lnS S) (hg : ∀ j, j < 428 → g j = r j) : RS g S := by
  obtain ⟨l0, l1⟩ := hS
  exact ⟨fun q hq => (hg _ (by omega)).trans (h.p0 q hq), fun q hq => (hg _ (by omega)).trans (h.p1 q hq), fun q hq => (hg _ (by omega)).trans (h.p2 q hq), fun q hq => (hg _ (by omega)).trans (h.p3 q hq),
    fun q hq => (hg _ (by omega)).trans (h.tk q hq), fun q hq => (hg _ (by omega)).trans (h.tp q hq), fun q hq => (hg _ (by omega)).trans (h.wt q hq),
    (hg _ (by omega)).trans h.dy, (hg _ (by omega)).trans h.zz, (hg _ (by omega)).trans h.ct, (hg _ (by omega)).trans h.se, (hg _ (by omega)).trans h.fd, (hg _ (by omega)).trans h.ws,
    (hg _ (by omega)).trans h.n0, fun q hq => ⟨(hg _ (by omega)).trans (h.c0 q hq).1, (hg _ (by omega)).trans (h.c0 q hq).2⟩, (hg _ (by omega)).trans h.n1, fun q hq => ⟨(hg _ (by omega)).trans (h.c1 q hq).1, (hg _ (by omega)).trans (h.c1 q hq).2⟩⟩
end MDay
