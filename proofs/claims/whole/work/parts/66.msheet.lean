/-! ===== the model: calls, 3: sheets ===== -/
theorem u2q {A : Nat → Nat → Int32} {k j : Nat} {f : Nat → Int32} (h : j ≠ k) : u2 A k f j = A j := if_neg h
theorem e24 (i o : Nat) : (24 : Int32) * nI i + nI o = nI (24 * i + o) := by
  rw [show (24 : Int32) * nI i = nI (24 * i) from (Int32.ofNat_mul 24 i).symm, nI_add]
theorem RM_cells {M R S K : xS} (h : RM M R S K) {s : Nat} (hs : s < 4) {f g : Nat → Int32} (hg : ∀ k, k < 24 → g (24 * s + k) = f k) (hg2 : ∀ s', s' < 4 → s' ≠ s → ∀ k, k < 24 → g (24 * s' + k) = M.1 6 (24 * s' + k)) : RM (u2 M.1 6 g, M.2) (u2 R.1 (1 + s) f, R.2) S K := by
  refine ⟨h.row, h.kept, fun k hk => ?_, h.bits, h.size, fun s' hs' k hk => ?_, h.imgs, h.trcd, fun i hi => ?_⟩
  · show M.1 3 k = u2 R.1 (1 + s) f 0 k
    rw [u2q (by omega)]
    exact h.errs k hk
  · show g (24 * s' + k) = u2 R.1 (1 + s) f (1 + s') k
    by_cases e : s' = s
    · rw [e, u2_at, hg k hk]
    · rw [u2q (by omega), hg2 s' hs' e k hk]
      exact h.cell s' hs' k hk
  · show M.1 12 i = u2 R.1 (1 + s) f 5 i
    rw [u2q (by omega)]
    exact h.trce i hi
theorem RM_bs {M R S K : xS} (h : RM M R S K) {s : Nat} (hs : s < 4) (b n : Int32) : RM (u2 (u2 M.1 4 (upd (M.1 4) s b)) 5 (upd (M.1 5) s n), M.2) (R.1, u1 (u1 R.2 (1 + 2 * s) b) (2 + 2 * s) n) S K := by
  have e0 : ∀ a : Nat, (a ≠ 1 + 2 * s) → (a ≠ 2 + 2 * s) → u1 (u1 R.2 (1 + 2 * s) b) (2 + 2 * s) n a = R.2 a := fun a h1 h2 => by rw [u1q h2, u1q h1]
  refine ⟨h.row, fun hk => h.kept ?_, h.errs, fun s' hs' => ?_, fun s' hs' => ?_, h.cell, ?_, ?_, h.trce⟩
  · rw [← e0 0 (by omega) (by omega)]
    exact hk
  · show upd (M.1 4) s b s' = u1 (u1 R.2 (1 + 2 * s) b) (2 + 2 * s) n (1 + 2 * s')
    rw [u1q (by omega)]
    by_cases e : s' = s
    · rw [e, upk]
      exact (if_pos rfl).symm
    · rw [upq e, u1q (by omega)]
      exact h.bits s' hs'
  · show upd (M.1 5) s n s' = u1 (u1 R.2 (1 + 2 * s) b) (2 + 2 * s) n (2 + 2 * s')
    by_cases e : s' = s
    · rw [e, upk]
      exact (if_pos rfl).symm
    · rw [upq e, e0 _ (by omega) (by omega)]
      exact h.size s' hs'
  · show M.2 0 = u1 (u1 R.2 (1 + 2 * s) b) (2 + 2 * s) n 0
    rw [e0 0 (by omega) (by omega)]
    exact h.imgs
  · show M.2 6 = u1 (u1 R.2 (1 + 2 * s) b) (2 + 2 * s) n 9
    rw [e0 9 (by omega) (by omega)]
    exact h.trcd
section MSheet
variable {X : xX} {d : Nat} {M R S K : xS} {σ : xW}
theorem c_M_isSheet (s : Int32) : xcall X (d + 2) j_M_isSheet [.int s] σ = some (some (.int (z1 (isSh s))), σ) := by
  rw [e_M_isSheet]
  simp only [s_M_isSheet_0, s_M_isSheet_6, Option.bind_some, Option.bind_none, Option.toList_some, Option.toList_none, List.cons_append, List.nil_append, List.append_nil, c_M_in, xzz, if_true]
theorem c_M_nt1 {s : Int32} (h : ¬ isSh s) : xcall X (d + 3) j_M_notThere [.ref (sh 4 0), .int s] (ub σ 4 (mdC M)) = some (some (.int (-1000000001 : Int32)), ub σ 4 (mdC M)) := by
  rw [e_M_notThere]
  simp only [s_M_notThere_0, s_M_notThere_4, Option.bind_some, Option.bind_none, Option.toList_some, Option.toList_none, List.cons_append, List.nil_append, List.append_nil, c_M_isSheet, z1_0, if_pos h, s_M_notThere_7, s_M_notThere_27]
theorem c_M_nt {s : Nat} (hs : s < 4) (hM : RM M R S K) : xcall X (d + 3) j_M_notThere [.ref (sh 4 0), .int (nI s)] (ub σ 4 (mdC M)) = some (some (.int (if R.2 (1 + 2 * s) = 0 then (-1000000002 : Int32) else 0)), ub σ 4 (mdC M)) := by
  have hi : isSh (nI s) := ⟨nI_pos' (by omega), (nI_le_iff (b := 3) (by omega) (by omega)).mpr (by omega)⟩
  rw [e_M_notThere]
  simp only [s_M_notThere_0, s_M_notThere_4, Option.bind_some, Option.bind_none, Option.toList_some, Option.toList_none, List.cons_append, List.nil_append, List.append_nil, mv_0, mg_0_0, mg_0_1, mg_0_2, mg_0_3, mg_0_4, mg_0_5, mg_0_6, mg_0_7, mg_0_8, mg_0_9, mg_0_10, mg_0_11, mg_0_12, mg_0_13, mg_0_14, mg_0_15, mg_0_16, mg_0_17, mg_0_18, mg_0_19, mg_0_20, c_M_isSheet, z1_0, if_neg (not_not_intro hi), s_M_notThere_12, s_M_notThere_16, mr_5 hs, hM.bits s hs, s_M_notThere_18]
  by_cases hb : R.2 (1 + 2 * s) = 0
  · rw [if_pos hb, if_pos hb, s_M_notThere_21, s_M_notThere_27]
  · rw [if_neg hb, if_neg hb, s_M_notThere_26, s_M_notThere_27]
/-! ropes of a sheet -/
theorem l_M_right {T : xS} (hT : okI T) {s z : Nat} {f : Nat → Int32} (hs : s < 4) (hz : z ≤ 24) : ∀ (k i : Nat) (M : xS), RS (M.1 0) T → M.1 5 s = nI z → (∀ c, c < 24 → M.1 6 (24 * s + c) = f c) → i + k = min z (cn T) → ∃ N : xS, SF M N ∧
    xrun (X, xcall X (d + 7)) j_M_rightOf 2 [.ref (sh 4 0), .int (nI s), .int (nI i)] [] (ub σ 4 (mdC M)) = some (some (.int (nI (rrL T f k i))), ub σ 4 (mdC N)) := by
  intro k
  obtain ⟨hc1, hc2⟩ := hT.1.1
  induction k with
  | zero =>
    intro i M h h5 h6 hi
    have hct : M.1 0 2 = nI (cn T) := h.ct.trans hc1
    refine ⟨M, SF.rfl' M, ?_⟩
    rw [s_M_rightOf_2]
    simp only [s_M_rightOf_7, s_M_rightOf_9, Option.bind_some, Option.bind_none, Option.toList_some, Option.toList_none, List.cons_append, List.nil_append, List.append_nil, mv_0, mg_0_0, mg_0_1, mg_0_2, mg_0_3, mg_0_4, mg_0_5, mg_0_6, mg_0_7, mg_0_8, mg_0_9, mg_0_10, mg_0_11, mg_0_12, mg_0_13, mg_0_14, mg_0_15, mg_0_16, mg_0_17, mg_0_18, mg_0_19, mg_0_20, mr_6 hs, h5]
    unfold rrL
    have hr5 : xrd X (ub σ 4 (mdC M)) [0] (sh 4 6) (nI s) = some (nI z) := by rw [← h5]; exact mr_6 hs
    by_cases hzi : z ≤ i
    · have h1 : nI z ≤ nI i := (nI_le_iff (by omega) (by omega)).mpr hzi
      simp only [hr5, Option.bind_some, Option.bind_none, Option.toList_some, Option.toList_none, List.cons_append, List.nil_append, List.append_nil, s_M_rightOf_9, if_pos h1, s_M_rightOf_47]
    · have h1 : ¬ nI z ≤ nI i := fun e => hzi ((nI_le_iff (by omega) (by omega)).mp e)
      have h2 : nI (cn T) ≤ nI i := (nI_le_iff (by omega) (by omega)).mpr (by omega)
      simp only [hr5, Option.bind_some, Option.bind_none, Option.toList_some, Option.toList_none, List.cons_append, List.nil_append, List.append_nil, s_M_rightOf_9, if_neg h1, s_M_rightOf_12, mv_0, mg_0_0, mg_0_1, mg_0_2, mg_0_3, mg_0_4, mg_0_5, mg_0_6, mg_0_7, mg_0_8, mg_0_9, mg_0_10, mg_0_11, mg_0_12, mg_0_13, mg_0_14, mg_0_15, mg_0_16, mg_0_17, mg_0_18, mg_0_19, mg_0_20, s_M_rightOf_17, mrc_2, hct, s_M_rightOf_19, if_pos h2, s_M_rightOf_47]
  | succ k ih =>
    intro i M h h5 h6 hi
    have hct : M.1 0 2 = nI (cn T) := h.ct.trans hc1
    have hr5 : xrd X (ub σ 4 (mdC M)) [0] (sh 4 6) (nI s) = some (nI z) := by rw [← h5]; exact mr_6 hs
    have h1 : ¬ nI z ≤ nI i := fun e => absurd ((nI_le_iff (by omega) (by omega)).mp e) (by omega)
    have h2 : ¬ nI (cn T) ≤ nI i := fun e => absurd ((nI_le_iff (by omega) (by omega)).mp e) (by omega)
    have hi8 : i < 8 := by omega
    have hq : 24 * s + i < 96 := by omega
    obtain ⟨N1, hN1, hx1⟩ := c_M_ropeOf (X := X) (d := d) (σ := σ) hT h hi8
    rw [s_M_rightOf_2]
    simp only [s_M_rightOf_7, Option.bind_some, Option.bind_none, Option.toList_some, Option.toList_none, List.cons_append, List.nil_append, List.append_nil, mv_0, mg_0_0, mg_0_1, mg_0_2, mg_0_3, mg_0_4, mg_0_5, mg_0_6, mg_0_7, mg_0_8, mg_0_9, mg_0_10, mg_0_11, mg_0_12, mg_0_13, mg_0_14, mg_0_15, mg_0_16, mg_0_17, mg_0_18, mg_0_19, mg_0_20, hr5, s_M_rightOf_9, if_neg h1, s_M_rightOf_12, s_M_rightOf_17, mrc_2, hct, s_M_rightOf_19, if_neg h2, s_M_rightOf_22, s_M_rightOf_26, e24, mr_7 hq, h6 i (by omega), s_M_rightOf_33, hx1, s_M_rightOf_38]
    unfold rrL
    by_cases he : f i = ro T i
    · obtain ⟨N, hN, hx⟩ := ih (i + 1) N1 (by rw [hN1.row]; exact h) (by rw [hN1.1 5 (by decide) (by decide)]; exact h5) (by rw [hN1.1 6 (by decide) (by decide)]; exact h6) (by omega)
      refine ⟨N, SF.trans hN1 hN, ?_⟩
      rw [if_pos he, if_pos he, s_M_rightOf_41, nI_add1]
      exact hx
    · refine ⟨N1, hN1, ?_⟩
      rw [if_neg he, if_neg he, s_M_rightOf_47]
theorem c_M_right {T : xS} (hT : okI T) {s z : Nat} {f : Nat → Int32} (hs : s < 4) (hz : z ≤ 24) {M : xS} (h : RS (M.1 0) T) (h5 : M.1 5 s = nI z) (h6 : ∀ c, c < 24 → M.1 6 (24 * s + c) = f c) : ∃ N : xS, SF M N ∧
    xcall X (d + 8) j_M_rightOf [.ref (sh 4 0), .int (nI s)] (ub σ 4 (mdC M)) = some (some (.int (nI (rrL T f (min z (cn T)) 0))), ub σ 4 (mdC N)) := by
  obtain ⟨N, hN, hx⟩ := l_M_right (X := X) (d := d) (σ := σ) hT hs hz (f := f) (min z (cn T)) 0 M h h5 h6 (by omega)
  refine ⟨N, hN, ?_⟩
  rw [e_M_rightOf, s_M_rightOf_0]
  exact hx
theorem m_judge (hR : okR R) (hI : okI S) (hM : RM M R S K) (s : Int32) : MC X (d + 9) j_M_judge [.int s] M (sp_judge R S K s) := by
  intro σ
  rw [e_M_judge]
  unfold sp_judge
  by_cases h1 : 0 ≤ s ∧ s ≤ 3
  · rw [if_neg (not_not_intro h1)]
    obtain ⟨k, rfl, hk⟩ := sh_ix h1
    have ek : ix (nI k) = k := ix_nI (by omega)
    rw [ek]
    simp only [s_M_judge_0, s_M_judge_5, Option.bind_some, Option.bind_none, Option.toList_some, Option.toList_none, List.cons_append, List.nil_append, List.append_nil, mv_0, c_M_nt hk hM]
    by_cases hb : R.2 (1 + 2 * k) = 0
    · have z : ¬ (-1000000002 : Int32) = 0 := by decide
      obtain ⟨N, hN, hx⟩ := c_M_error2 (X := X) (d := d + 7) (σ := σ) hM
      rw [if_pos hb, if_pos hb, if_neg z]
      refine ⟨N, hN, ?_⟩
      simp only [s_M_judge_10, s_M_judge_15, s_M_judge_23, Option.bind_some, Option.bind_none, Option.toList_some, Option.toList_none, List.cons_append, List.nil_append, List.append_nil, mv_0, hx]
      rfl
    · obtain ⟨z1, z2⟩ := hR.1 k hk
      obtain ⟨N, hN, hx⟩ := c_M_right (X := X) (d := d) (σ := σ) hI hk z2 hM.row ((hM.size k hk).trans z1) (hM.cell k hk)
      rw [if_neg hb, if_neg hb, if_pos rfl]
      refine ⟨N, hN.rm hM, ?_⟩
      simp only [s_M_judge_18, s_M_judge_23, Option.bind_some, Option.bind_none, Option.toList_some, Option.toList_none, List.cons_append, List.nil_append, List.append_nil, mv_0, hx]
      rfl
  · rw [if_pos h1]
    have z : ¬ (-1000000001 : Int32) = 0 := by decide
    obtain ⟨N, hN, hx⟩ := c_M_error1 (X := X) (d := d + 7) (σ := σ) hM
    refine ⟨N, hN, ?_⟩
    simp only [s_M_judge_0, s_M_judge_5, Option.bind_some, Option.bind_none, Option.toList_some, Option.toList_none, List.cons_append, List.nil_append, List.append_nil, mv_0, c_M_nt1 h1, if_neg z, s_M_judge_10, s_M_judge_15, s_M_judge_23, hx]
    rfl
/-! fits -/
theorem fiL_none {R : xS} {s z : Nat} (hz : R.2 (2 + 2 * s) = nI z) (hz2 : z ≤ 24) : ∀ (k i : Nat) (T : xS), cn T ≤ 8 → cn T < z → fiL R s k i T = none
  | 0, _, _, _, _ => rfl
  | k + 1, i, T, hc, hl => by
    unfold fiL
    have hr : rr R T s ≤ 0 + min (ix (R.2 (2 + 2 * s))) (cn T) := rrL_le T _ _ 0
    have hne : ¬ nI (rr R T s) = R.2 (2 + 2 * s) := by
      rw [hz]
      intro e
      have := (nI_inj (by omega) (by omega)).mp e
      omega
    rw [if_neg hne]
    exact fiL_none hz hz2 k (i + 1) (dyS T) hc hl
def fiE : Option Nat → Nat
  | none => 61
  | some n => n
theorem fiL_lt (R : xS) (s : Nat) : ∀ (k i : Nat) (T : xS) (n : Nat), fiL R s k i T = some n → i ≤ n ∧ n < i + k
  | 0, _, _, _, h => by cases h
  | k + 1, i, T, n, h => by
    unfold fiL at h
    split at h
    · have := Option.some.inj h
      omega
    · have := fiL_lt R s k (i + 1) (dyS T) n h
      omega
theorem l_M_fits {s z : Nat} (hs : s < 4) (hz : z ≤ 24) (hzR : R.2 (2 + 2 * s) = nI z) (l2 : Int32) : ∀ (k i : Nat) (T M : xS) (l4 : Int32), okI T → RS (M.1 0) T → M.1 5 s = nI z → (∀ c, c < 24 → M.1 6 (24 * s + c) = R.1 (1 + s) c) → i + k = 61 → ∃ (N : xS) (l4' : Int32), SD M N ∧
    xrun (X, xcall X (d + 8)) j_M_fits 47 [.ref (sh 4 0), .int (nI s), .int l2, .int (nI i), .int l4] [] (ub σ 4 (mdC M)) = xrun (X, xcall X (d + 8)) j_M_fits 82 [.ref (sh 4 0), .int (nI s), .int l2, .int (nI (fiE (fiL R s k i T))), .int l4'] [] (ub σ 4 (mdC N)) := by
  intro k
  induction k with
  | zero =>
    intro i T M l4 hT h h5 h6 hi
    have hi' : i = 61 := by omega
    subst hi'
    have h1 : (60 : Int32) < nI 61 := by decide
    refine ⟨M, l4, SD.rfl' M, ?_⟩
    rw [s_M_fits_47, if_pos h1]
    rfl
  | succ k ih =>
    intro i T M l4 hT h h5 h6 hi
    obtain ⟨hc1, hc2⟩ := hT.1.1
    have h1 : ¬ (60 : Int32) < nI i := fun e => absurd ((nI_lt_iff (a := 60) (b := i) (by omega) (by omega)).mp e) (by omega)
    obtain ⟨N1, hN1, hx1⟩ := c_M_right (X := X) (d := d) (σ := σ) hT hs hz h h5 h6
    have h5' : N1.1 5 s = nI z := by rw [hN1.1 5 (by decide) (by decide)]; exact h5
    have h6' : ∀ c, c < 24 → N1.1 6 (24 * s + c) = R.1 (1 + s) c := by rw [hN1.1 6 (by decide) (by decide)]; exact h6
    have hr5 : xrd X (ub σ 4 (mdC N1)) [0] (sh 4 6) (nI s) = some (nI z) := by rw [← h5']; exact mr_6 hs
    have er : rrL T (R.1 (1 + s)) (min z (cn T)) 0 = rr R T s := by
      unfold rr
      rw [hzR, ix_nI (by omega)]
    rw [er] at hx1
    have hr : rr R T s ≤ 0 + min (ix (R.2 (2 + 2 * s))) (cn T) := rrL_le T _ _ 0
    rw [hzR, ix_nI (by omega)] at hr
    rw [s_M_fits_47, if_neg h1]
    simp only [s_M_fits_53, s_M_fits_58, s_M_fits_62, s_M_fits_64, Option.bind_some, Option.bind_none, Option.toList_some, Option.toList_none, List.cons_append, List.nil_append, List.append_nil, mv_0, mg_0_0, mg_0_1, mg_0_2, mg_0_3, mg_0_4, mg_0_5, mg_0_6, mg_0_7, mg_0_8, mg_0_9, mg_0_10, mg_0_11, mg_0_12, mg_0_13, mg_0_14, mg_0_15, mg_0_16, mg_0_17, mg_0_18, mg_0_19, mg_0_20, hx1, hr5]
    unfold fiL
    by_cases he : rr R T s = z
    · have h2 : nI z ≤ nI (rr R T s) := by rw [he]; exact Int32.le_refl _
      refine ⟨N1, l4, hN1.sd, ?_⟩
      rw [if_pos h2, if_pos (by rw [hzR, he])]
      rfl
    · have h2 : ¬ nI z ≤ nI (rr R T s) := fun e => absurd ((nI_le_iff (by omega) (by omega)).mp e) (by omega)
      have h3 : ¬ nI (rr R T s) = R.2 (2 + 2 * s) := by
        rw [hzR]
        exact fun e => he ((nI_inj (by omega) (by omega)).mp e)
      obtain ⟨N2, hN2, hr2, hx2⟩ := c_M_goes (X := X) (d := d) (σ := σ) hT (M := N1) (by rw [hN1.row]; exact h)
      obtain ⟨N, l4', hN, hx⟩ := ih (i + 1) (dyS T) N2 (l4 + bct (nI (gs T (cn T)))) (okI_dy hT) hr2 (by rw [hN2.1 5 (by decide) (by decide) (by decide) (by decide)]; exact h5') (by rw [hN2.1 6 (by decide) (by decide) (by decide) (by decide)]; exact h6') (by omega)
      refine ⟨N, l4', SD.trans hN1.sd (SD.trans hN2 hN), ?_⟩
      rw [if_neg h2, if_neg h3, ← hx]
      simp only [s_M_fits_67, s_M_fits_73, Option.bind_some, Option.bind_none, Option.toList_some, Option.toList_none, List.cons_append, List.nil_append, List.append_nil, mv_0, hx2, nI_add1]
theorem m_fits (hR : okR R) (hI : okI S) (hM : RM M R S K) (s : Int32) : MC X (d + 9) j_M_fits [.int s] M (sp_fits R S K s) := by
  intro σ
  have h := hM.row
  have hl := hI.1.ln
  obtain ⟨hc1, hc2⟩ := hI.1.1
  have hct : M.1 0 2 = nI (cn S) := hM.row.ct.trans hc1
  rw [e_M_fits]
  unfold sp_fits
  by_cases h1 : 0 ≤ s ∧ s ≤ 3
  · rw [if_neg (not_not_intro h1)]
    obtain ⟨k, rfl, hk⟩ := sh_ix h1
    have ek : ix (nI k) = k := ix_nI (by omega)
    rw [ek]
    simp only [s_M_fits_0, s_M_fits_5, Option.bind_some, Option.bind_none, Option.toList_some, Option.toList_none, List.cons_append, List.nil_append, List.append_nil, mv_0, c_M_nt hk hM]
    by_cases hb : R.2 (1 + 2 * k) = 0
    · have z : ¬ (-1000000002 : Int32) = 0 := by decide
      obtain ⟨N, hN, hx⟩ := c_M_error2 (X := X) (d := d + 7) (σ := σ) hM
      rw [if_pos hb, if_pos hb, if_neg z]
      refine ⟨N, hN, ?_⟩
      simp only [s_M_fits_10, s_M_fits_15, Option.bind_some, Option.bind_none, Option.toList_some, Option.toList_none, List.cons_append, List.nil_append, List.append_nil, mv_0, hx]
      rfl
    · obtain ⟨z1, z2⟩ := hR.1 k hk
      have h5 : M.1 5 k = nI (szs R k) := (hM.size k hk).trans z1
      have hr5 : xrd X (ub σ 4 (mdC M)) [0] (sh 4 6) (nI k) = some (nI (szs R k)) := by rw [← h5]; exact mr_6 hk
      rw [if_neg hb, if_neg hb, if_pos rfl]
      simp only [s_M_fits_16, s_M_fits_20, s_M_fits_22, s_M_fits_26, s_M_fits_28, Option.bind_some, Option.bind_none, Option.toList_some, Option.toList_none, List.cons_append, List.nil_append, List.append_nil, mv_0, mg_0_0, mg_0_1, mg_0_2, mg_0_3, mg_0_4, mg_0_5, mg_0_6, mg_0_7, mg_0_8, mg_0_9, mg_0_10, mg_0_11, mg_0_12, mg_0_13, mg_0_14, mg_0_15, mg_0_16, mg_0_17, mg_0_18, mg_0_19, mg_0_20, hr5, mrc_2, hct]
      by_cases hbig : szs R k ≤ cn S
      · have h2 : nI (szs R k) ≤ nI (cn S) := (nI_le_iff (by omega) (by omega)).mpr hbig
        obtain ⟨g, hg, hx1⟩ := c_M_thinks (X := X) (d := d + 6) (σ := σ) M
        obtain ⟨N, l4', hN, hx⟩ := l_M_fits (X := X) (d := d) (σ := σ) hk z2 z1 0 61 0 S (u2 M.1 2 g, M.2) 0 hI h h5 (hM.cell k hk) (by omega)
        obtain ⟨g2, hg2, hx3⟩ := c_M_putsBack (X := X) (d := d + 6) (σ := σ) N
        have e2 : N.1 2 = g := hN.1 2 (by decide) (by decide) (by decide) (by decide)
        have hM2 : RM (u2 N.1 0 g2, N.2) R S K := by
          refine SD.rm (S' := S) (SD.trans hN (SD.row N g2)) (RMb hM) (RS_cp h hl fun q hq => ?_)
          show g2 q = M.1 0 q
          rw [hg2 q hq, e2, hg q hq]
        have hx' : xrun (X, xcall X (d + 8)) j_M_fits 47 [.ref (sh 4 0), .int (nI k), .int (0 : Int32), .int (0 : Int32), .int (0 : Int32)] [] (ub σ 4 (mdC (u2 M.1 2 g, M.2))) = _ := hx
        have hlt := fiL_lt R k 61 0 S
        rw [if_pos h2]
        simp only [s_M_fits_38, s_M_fits_42, Option.bind_some, Option.bind_none, Option.toList_some, Option.toList_none, List.cons_append, List.nil_append, List.append_nil, mv_0, hx1, hx', s_M_fits_82, hx3, s_M_fits_86]
        generalize fiL R k 61 0 S = res at hlt
        cases res with
        | none =>
          have h3 : ¬ nI (fiE none) ≤ 60 := by decide
          obtain ⟨N', hN', hx4⟩ := c_M_error2 (X := X) (d := d + 7) (σ := σ) hM2
          refine ⟨N', hN', ?_⟩
          simp only [if_neg h3, s_M_fits_92, s_M_fits_98, s_M_fits_102, Option.bind_some, Option.bind_none, Option.toList_some, Option.toList_none, List.cons_append, List.nil_append, List.append_nil, mv_0, hx4]
          rfl
        | some n =>
          have hn := hlt n rfl
          have h3 : nI (fiE (some n)) ≤ 60 := (nI_le_iff (a := n) (b := 60) (by omega) (by omega)).mpr (by omega)
          refine ⟨_, hM2, ?_⟩
          simp only [if_pos h3, s_M_fits_101, s_M_fits_102]
          rfl
      · have h2 : ¬ nI (szs R k) ≤ nI (cn S) := fun e => hbig ((nI_le_iff (by omega) (by omega)).mp e)
        obtain ⟨N, hN, hx⟩ := c_M_error2 (X := X) (d := d + 7) (σ := σ) hM
        rw [if_neg h2, fiL_none z1 z2 61 0 S hc2 (by omega)]
        refine ⟨N, hN, ?_⟩
        simp only [s_M_fits_31, s_M_fits_37, Option.bind_some, Option.bind_none, Option.toList_some, Option.toList_none, List.cons_append, List.nil_append, List.append_nil, mv_0, hx]
        rfl
  · rw [if_pos h1]
    have z : ¬ (-1000000001 : Int32) = 0 := by decide
    obtain ⟨N, hN, hx⟩ := c_M_error1 (X := X) (d := d + 7) (σ := σ) hM
    refine ⟨N, hN, ?_⟩
    simp only [s_M_fits_0, s_M_fits_5, Option.bind_some, Option.bind_none, Option.toList_some, Option.toList_none, List.cons_append, List.nil_append, List.append_nil, mv_0, c_M_nt1 h1, if_neg z, s_M_fits_10, s_M_fits_15, hx]
    rfl
/-! sheet -/
theorem l_M_sheet {s : Nat} (hs : s < 4) (b n : Int32) : ∀ (k i : Nat) (M : xS), (∀ c, c < i → M.1 6 (24 * s + c) = 0) → i + k = 24 → ∃ g : Nat → Int32, (∀ c, c < 24 → g (24 * s + c) = 0) ∧ (∀ q, q < 24 * s ∨ 24 * s + 24 ≤ q → g q = M.1 6 q) ∧
    xrun (X, xcall X d) j_M_sheet 93 [.ref (sh 4 0), .int (nI s), .int b, .int n, .int (nI i)] [] (ub σ 4 (mdC M)) = some (some (.int (1 : Int32)), ub σ 4 (mdC (u2 M.1 6 g, M.2))) := by
  intro k
  induction k with
  | zero =>
    intro i M h hi
    have hi' : i = 24 := by omega
    subst hi'
    have h1 : (24 : Int32) ≤ nI 24 := by decide
    refine ⟨M.1 6, h, fun _ _ => rfl, ?_⟩
    rw [s_M_sheet_93, if_pos h1, s_M_sheet_119, u2_self]
  | succ k ih =>
    intro i M h hi
    have h1 : ¬ (24 : Int32) ≤ nI i := fun e => absurd ((nI_le_iff (a := 24) (b := i) (by omega) (by omega)).mp e) (by omega)
    have hq : 24 * s + i < 96 := by omega
    have hw : xwr (ub σ 4 (mdC M)) [0] (sh 4 7) (nI (24 * s + i)) 0 = some (ub σ 4 (mdC (u2 M.1 6 (upd (M.1 6) (24 * s + i) 0), M.2))) := mw_7 hq
    obtain ⟨g, hg1, hg2, hx⟩ := ih (i + 1) (u2 M.1 6 (upd (M.1 6) (24 * s + i) 0), M.2) (by
      intro c hc
      show upd (M.1 6) (24 * s + i) 0 (24 * s + c) = 0
      by_cases e : c = i
      · rw [e, upk]
      · rw [upq (by omega)]
        exact h c (by omega)) (by omega)
    refine ⟨g, hg1, fun q hq2 => (hg2 q hq2).trans (upq (by omega)), ?_⟩
    have hx' : xrun (X, xcall X d) j_M_sheet 93 [.ref (sh 4 0), .int (nI s), .int b, .int n, .int (nI (i + 1))] [] (ub σ 4 (mdC (u2 M.1 6 (upd (M.1 6) (24 * s + i) 0), M.2))) = some (some (.int (1 : Int32)), ub σ 4 (mdC (u2 (u2 M.1 6 (upd (M.1 6) (24 * s + i) 0)) 6 g, M.2))) := hx
    rw [u2_u2] at hx'
    rw [s_M_sheet_93, if_neg h1, ← hx']
    simp only [s_M_sheet_100, s_M_sheet_104, s_M_sheet_113, Option.bind_some, Option.bind_none, Option.toList_some, Option.toList_none, List.cons_append, List.nil_append, List.append_nil, mv_0, mg_0_0, mg_0_1, mg_0_2, mg_0_3, mg_0_4, mg_0_5, mg_0_6, mg_0_7, mg_0_8, mg_0_9, mg_0_10, mg_0_11, mg_0_12, mg_0_13, mg_0_14, mg_0_15, mg_0_16, mg_0_17, mg_0_18, mg_0_19, mg_0_20, e24, hw, nI_add1]
theorem m_sheet (hM : RM M R S K) (s b n : Int32) : MC X (d + 3) j_M_sheet [.int s, .int b, .int n] M (sp_sheet R S K s b n) := by
  intro σ
  have ee : ∃ N : xS, RM N (er R 1) S K ∧ xrun (X, xcall X (d + 2)) j_M_sheet 29 [.ref (sh 4 0), .int s, .int b, .int n, .null] [] (ub σ 4 (mdC M)) = some (some (.int (lw 1)), ub σ 4 (mdC N)) := by
    obtain ⟨N, hN, hx⟩ := c_M_error1 (X := X) (d := d + 1) (σ := σ) hM
    refine ⟨N, hN, ?_⟩
    simp only [s_M_sheet_29, s_M_sheet_35, Option.bind_some, Option.bind_none, Option.toList_some, Option.toList_none, List.cons_append, List.nil_append, List.append_nil, mv_0, hx]
  rw [e_M_sheet]
  unfold sp_sheet
  simp only [s_M_sheet_0, s_M_sheet_4, Option.bind_some, Option.bind_none, Option.toList_some, Option.toList_none, List.cons_append, List.nil_append, List.append_nil, c_M_isSheet, z1_0]
  by_cases h1 : isSh s
  · rw [if_neg (not_not_intro h1)]
    simp only [s_M_sheet_7, s_M_sheet_11, s_M_sheet_17, s_M_sheet_23]
    by_cases h2 : isB b
    · rw [if_neg (not_not_intro (⟨h1, h2⟩ : isSh s ∧ isB b))]
      obtain ⟨k, rfl, hk⟩ := sh_ix h1
      have ek : ix (nI k) = k := ix_nI (by omega)
      rw [ek]
      have fin : ∀ n' : Int32, (n' = if b = 0 then 0 else n) → ∃ N : xS, RM N (rnw R k b n') S K ∧ xrun (X, xcall X (d + 2)) j_M_sheet 68 [.ref (sh 4 0), .int (nI k), .int b, .int n, .null] [] (ub σ 4 (mdC M)) = some (some (.int (1 : Int32)), ub σ 4 (mdC N)) := by
        intro n' hn'
        have hb := RM_bs hM hk b n'
        obtain ⟨g, hg1, hg2, hx⟩ := l_M_sheet (X := X) (d := d + 2) (σ := σ) hk b n 24 0 (u2 (u2 M.1 4 (upd (M.1 4) k b)) 5 (upd (M.1 5) k n'), M.2) (fun c hc => absurd hc (Nat.not_lt_zero c)) (by omega)
        have hx' : xrun (X, xcall X (d + 2)) j_M_sheet 93 [.ref (sh 4 0), .int (nI k), .int b, .int n, .int (0 : Int32)] [] (ub σ 4 (mdC (u2 (u2 M.1 4 (upd (M.1 4) k b)) 5 (upd (M.1 5) k n'), M.2))) = _ := hx
        have hw1 : xwr (ub σ 4 (mdC M)) [0] (sh 4 5) (nI k) b = some (ub σ 4 (mdC (u2 M.1 4 (upd (M.1 4) k b), M.2))) := mw_5 hk
        have hw2 : xwr (ub σ 4 (mdC (u2 M.1 4 (upd (M.1 4) k b), M.2))) [0] (sh 4 6) (nI k) n' = some (ub σ 4 (mdC (u2 (u2 M.1 4 (upd (M.1 4) k b)) 5 (upd (M.1 5) k n'), M.2))) := mw_6 hk
        refine ⟨_, RM_cells (f := zer (R.1 (1 + k)) 24) hb hk (fun c hc => (hg1 c hc).trans (if_pos hc).symm) (fun s' hs' hne c hc => hg2 _ (by omega)), ?_⟩
        simp only [s_M_sheet_68, s_M_sheet_72, s_M_sheet_75, s_M_sheet_79, Option.bind_some, Option.bind_none, Option.toList_some, Option.toList_none, List.cons_append, List.nil_append, List.append_nil, mv_0, mg_0_0, mg_0_1, mg_0_2, mg_0_3, mg_0_4, mg_0_5, mg_0_6, mg_0_7, mg_0_8, mg_0_9, mg_0_10, mg_0_11, mg_0_12, mg_0_13, mg_0_14, mg_0_15, mg_0_16, mg_0_17, mg_0_18, mg_0_19, mg_0_20, hw1]
        by_cases hb0 : b = 0
        · rw [if_pos hb0] at hn'
          rw [if_pos hb0, s_M_sheet_84, ← hn']
          simp only [s_M_sheet_89, Option.bind_some, Option.bind_none, Option.toList_some, Option.toList_none, List.cons_append, List.nil_append, List.append_nil, hw2, s_M_sheet_90]
          exact hx'
        · rw [if_neg hb0] at hn'
          rw [if_neg hb0, s_M_sheet_88, ← hn']
          simp only [s_M_sheet_89, Option.bind_some, Option.bind_none, Option.toList_some, Option.toList_none, List.cons_append, List.nil_append, List.append_nil, hw2, s_M_sheet_90]
          rw [hn'] at hx' ⊢
          exact hx'
      have to36 : (if b = 0 then xrun (X, xcall X (d + 2)) j_M_sheet 36 [.ref (sh 4 0), .int (nI k), .int b, .int n, .null] [] (ub σ 4 (mdC M)) else if b = 8 then xrun (X, xcall X (d + 2)) j_M_sheet 36 [.ref (sh 4 0), .int (nI k), .int b, .int n, .null] [] (ub σ 4 (mdC M)) else if b = 16 then xrun (X, xcall X (d + 2)) j_M_sheet 36 [.ref (sh 4 0), .int (nI k), .int b, .int n, .null] [] (ub σ 4 (mdC M)) else if b = 32 then xrun (X, xcall X (d + 2)) j_M_sheet 36 [.ref (sh 4 0), .int (nI k), .int b, .int n, .null] [] (ub σ 4 (mdC M)) else xrun (X, xcall X (d + 2)) j_M_sheet 29 [.ref (sh 4 0), .int (nI k), .int b, .int n, .null] [] (ub σ 4 (mdC M))) = xrun (X, xcall X (d + 2)) j_M_sheet 36 [.ref (sh 4 0), .int (nI k), .int b, .int n, .null] [] (ub σ 4 (mdC M)) := by
        by_cases q0 : b = 0
        · rw [if_pos q0]
        rw [if_neg q0]
        by_cases q1 : b = 8
        · rw [if_pos q1]
        rw [if_neg q1]
        by_cases q2 : b = 16
        · rw [if_pos q2]
        rw [if_neg q2]
        by_cases q3 : b = 32
        · rw [if_pos q3]
        · exact absurd h2 (fun e => e.elim q0 (fun e => e.elim q1 (fun e => e.elim q2 q3)))
      simp only [to36]
      by_cases q0 : b = 0
      · have g0 : b ≤ 0 := by rw [q0]; decide
        obtain ⟨N, hN, hx⟩ := fin 0 (by rw [if_pos q0])
        rw [q0] at hN
        rw [if_pos q0]
        refine ⟨N, hN, ?_⟩
        rw [s_M_sheet_36, if_pos g0, s_M_sheet_51, if_pos g0]
        exact hx
      · have g0 : ¬ b ≤ 0 := by
          rcases h2 with e | e | e | e
          · exact absurd e q0
          all_goals rw [e]; decide
        rw [if_neg q0, s_M_sheet_36, if_neg g0, s_M_sheet_40]
        by_cases h3 : 0 ≤ n
        · rw [if_pos h3, if_neg (not_not_intro h3), s_M_sheet_51, if_neg g0, s_M_sheet_55]
          by_cases h4 : n ≤ 24
          · rw [if_pos h4, if_neg (not_not_intro h4)]
            exact fin n (by rw [if_neg q0])
          · rw [if_neg h4, if_pos h4]
            obtain ⟨N, hN, hx⟩ := c_M_error1 (X := X) (d := d + 1) (σ := σ) hM
            refine ⟨N, hN, ?_⟩
            simp only [s_M_sheet_61, s_M_sheet_67, Option.bind_some, Option.bind_none, Option.toList_some, Option.toList_none, List.cons_append, List.nil_append, List.append_nil, mv_0, hx]
            rfl
        · rw [if_neg h3, if_pos h3]
          obtain ⟨N, hN, hx⟩ := c_M_error3 (X := X) (d := d + 1) (σ := σ) hM
          refine ⟨N, hN, ?_⟩
          simp only [s_M_sheet_44, s_M_sheet_50, Option.bind_some, Option.bind_none, Option.toList_some, Option.toList_none, List.cons_append, List.nil_append, List.append_nil, mv_0, hx]
          rfl
    · rw [if_pos (fun e : isSh s ∧ isB b => h2 e.2), if_neg (fun e : b = 0 => h2 (Or.inl e)), if_neg (fun e : b = 8 => h2 (Or.inr (Or.inl e))), if_neg (fun e : b = 16 => h2 (Or.inr (Or.inr (Or.inl e)))), if_neg (fun e : b = 32 => h2 (Or.inr (Or.inr (Or.inr e))))]
      exact ee
  · rw [if_pos h1, if_pos (fun e : isSh s ∧ isB b => h1 e.1)]
    exact ee
/-! put -/
theorem m_put (hR : okR R) (hM : RM M R S K) (s i v : Int32) : MC X (d + 4) j_M_put [.int s, .int i, .int v] M (sp_put R S K s i v) := by
  intro σ
  rw [e_M_put]
  unfold sp_put
  by_cases h1 : isSh s
  · rw [if_neg (not_not_intro h1)]
    obtain ⟨k, rfl, hk⟩ := sh_ix h1
    have ek : ix (nI k) = k := ix_nI (by omega)
    rw [ek]
    simp only [s_M_put_0, s_M_put_5, Option.bind_some, Option.bind_none, Option.toList_some, Option.toList_none, List.cons_append, List.nil_append, List.append_nil, mv_0, c_M_nt hk hM]
    by_cases hb : R.2 (1 + 2 * k) = 0
    · have z : ¬ (-1000000002 : Int32) = 0 := by decide
      obtain ⟨N, hN, hx⟩ := c_M_error2 (X := X) (d := d + 2) (σ := σ) hM
      rw [if_pos hb, if_pos hb, if_neg z]
      refine ⟨N, hN, ?_⟩
      simp only [s_M_put_33, s_M_put_35, if_neg z, s_M_put_42, s_M_put_48, Option.bind_some, Option.bind_none, Option.toList_some, Option.toList_none, List.cons_append, List.nil_append, List.append_nil, mv_0, hx]
      rfl
    · obtain ⟨z1, z2⟩ := hR.1 k hk
      have hr5 : xrd X (ub σ 4 (mdC M)) [0] (sh 4 6) (nI k) = some (R.2 (2 + 2 * k)) := by rw [← hM.size k hk]; exact mr_6 hk
      have hr4 : xrd X (ub σ 4 (mdC M)) [0] (sh 4 5) (nI k) = some (R.2 (1 + 2 * k)) := by rw [← hM.bits k hk]; exact mr_5 hk
      rw [if_neg hb, if_neg hb, if_pos rfl]
      simp only [s_M_put_12, s_M_put_18, s_M_put_20, s_M_put_25, Option.bind_some, Option.bind_none, Option.toList_some, Option.toList_none, List.cons_append, List.nil_append, List.append_nil, mv_0, mg_0_0, mg_0_1, mg_0_2, mg_0_3, mg_0_4, mg_0_5, mg_0_6, mg_0_7, mg_0_8, mg_0_9, mg_0_10, mg_0_11, mg_0_12, mg_0_13, mg_0_14, mg_0_15, mg_0_16, mg_0_17, mg_0_18, mg_0_19, mg_0_20, hr5, c_M_in, z1_0]
      by_cases h3 : 0 ≤ i ∧ i ≤ R.2 (2 + 2 * k) - 1
      · rw [if_neg (not_not_intro h3), if_neg (not_not_intro h3)]
        have hw : 1 ≤ szs R k := by
          by_cases e : szs R k = 0
          · exfalso
            obtain ⟨h4, h5⟩ := h3
            rw [z1, e] at h5
            exact absurd (Int32.le_trans h4 h5) (by decide)
          · omega
        have h4 := h3
        rw [z1, nI_sub1 hw] at h4
        obtain ⟨j, rfl, hj⟩ := i32_ix (v := i) (n := szs R k - 1) (by omega) h4
        have ej : ix (nI j) = j := ix_nI (by omega)
        rw [ej]
        have hq : 24 * k + j < 96 := by omega
        have hww : ∀ x : Int32, xwr (ub σ 4 (mdC M)) [0] (sh 4 7) (nI (24 * k + j)) x = some (ub σ 4 (mdC (u2 M.1 6 (upd (M.1 6) (24 * k + j) x), M.2))) := fun x => mw_7 hq
        refine ⟨(u2 M.1 6 (upd (M.1 6) (24 * k + j) (nar (R.2 (1 + 2 * k)) v)), M.2), RM_cells hM hk (fun c hc => upr (hM.cell k hk c hc) (by omega)) (fun s' hs' hne c hc => upq (by omega)), ?_⟩
        simp only [s_M_put_33, s_M_put_35, if_true, s_M_put_49, s_M_put_53, s_M_put_63, s_M_put_65, Option.bind_some, Option.bind_none, Option.toList_some, Option.toList_none, List.cons_append, List.nil_append, List.append_nil, mv_0, mg_0_0, mg_0_1, mg_0_2, mg_0_3, mg_0_4, mg_0_5, mg_0_6, mg_0_7, mg_0_8, mg_0_9, mg_0_10, mg_0_11, mg_0_12, mg_0_13, mg_0_14, mg_0_15, mg_0_16, mg_0_17, mg_0_18, mg_0_19, mg_0_20, hr4, e24]
        unfold nar
        by_cases b8 : R.2 (1 + 2 * k) = 8
        · rw [if_pos b8, if_pos b8]
          simp only [s_M_put_70, s_M_put_92, s_M_put_93, Option.bind_some, Option.bind_none, Option.toList_some, Option.toList_none, List.cons_append, List.nil_append, List.append_nil, hww]
        · rw [if_neg b8, if_neg b8]
          simp only [s_M_put_75, s_M_put_79, s_M_put_81, Option.bind_some, Option.bind_none, Option.toList_some, Option.toList_none, List.cons_append, List.nil_append, List.append_nil, mv_0, mg_0_0, mg_0_1, mg_0_2, mg_0_3, mg_0_4, mg_0_5, mg_0_6, mg_0_7, mg_0_8, mg_0_9, mg_0_10, mg_0_11, mg_0_12, mg_0_13, mg_0_14, mg_0_15, mg_0_16, mg_0_17, mg_0_18, mg_0_19, mg_0_20, hr4]
          by_cases b16 : R.2 (1 + 2 * k) = 16
          · rw [if_pos b16, if_pos b16]
            simp only [s_M_put_86, s_M_put_92, s_M_put_93, Option.bind_some, Option.bind_none, Option.toList_some, Option.toList_none, List.cons_append, List.nil_append, List.append_nil, hww]
          · rw [if_neg b16, if_neg b16]
            simp only [s_M_put_91, s_M_put_92, s_M_put_93, Option.bind_some, Option.bind_none, Option.toList_some, Option.toList_none, List.cons_append, List.nil_append, List.append_nil, hww]
      · rw [if_pos h3, if_pos h3]
        have z : ¬ (-1000000001 : Int32) = 0 := by decide
        obtain ⟨N, hN, hx⟩ := c_M_error1 (X := X) (d := d + 2) (σ := σ) hM
        refine ⟨N, hN, ?_⟩
        simp only [s_M_put_28, s_M_put_35, if_neg z, s_M_put_42, s_M_put_48, Option.bind_some, Option.bind_none, Option.toList_some, Option.toList_none, List.cons_append, List.nil_append, List.append_nil, mv_0, hx]
        rfl
  · rw [if_pos h1]
    have z : ¬ (-1000000001 : Int32) = 0 := by decide
    obtain ⟨N, hN, hx⟩ := c_M_error1 (X := X) (d := d + 2) (σ := σ) hM
    refine ⟨N, hN, ?_⟩
    simp only [s_M_put_0, s_M_put_5, Option.bind_some, Option.bind_none, Option.toList_some, Option.toList_none, List.cons_append, List.nil_append, List.append_nil, mv_0, c_M_nt1 h1, if_neg z, s_M_put_33, s_M_put_35, s_M_put_42, s_M_put_48, hx]
    rfl
end MSheet
