/-! ===== the model: calls ===== -/
section MCalls
variable {X : xX} {d : Nat} {M R S K : xS}
theorem u1q {V : Nat → Int32} {k j : Nat} {x : Int32} (h : j ≠ k) : u1 V k x j = V j := if_neg h
theorem ix64 (p : Nat) : (6 : Int32) + 4 * nI p = nI (6 + 4 * p) := by
  rw [show (4 : Int32) * nI p = nI (4 * p) from (Int32.ofNat_mul 4 p).symm, show (6 : Int32) = nI 6 from rfl, nI_add]
theorem ix642 (p : Nat) : (6 : Int32) + 4 * nI p + 2 = nI (6 + 4 * p + 2) := ix_of p 2
theorem ix643 (p : Nat) : (6 : Int32) + 4 * nI p + 3 = nI (6 + 4 * p + 3) := ix_of p 3
theorem m_person (hI : okI S) (hM : RM M R S K) (km : Int32) : MC X (d + 3) j_M_person [.int km] M (sp_person R S K km) := by
  intro σ
  have hl := hI.1.ln
  obtain ⟨hc1, hc2⟩ := hI.1.1
  have hct : M.1 0 2 = nI (cn S) := hM.row.ct.trans hc1
  rw [e_M_person]
  unfold sp_person
  simp only [s_M_person_0, s_M_person_4, Option.bind_some, Option.bind_none, Option.toList_some, Option.toList_none, List.cons_append, List.nil_append, List.append_nil, c_M_isKm, z1_0]
  by_cases h1 : 0 ≤ km ∧ km ≤ 69
  · rw [if_neg (not_not_intro h1), if_neg (not_not_intro h1)]
    simp only [s_M_person_14, s_M_person_18, s_M_person_20, Option.bind_some, Option.bind_none, Option.toList_some, Option.toList_none, List.cons_append, List.nil_append, List.append_nil, mv_0, mg_0_0, mg_0_1, mg_0_2, mg_0_3, mg_0_4, mg_0_5, mg_0_6, mg_0_7, mg_0_8, mg_0_9, mg_0_10, mg_0_11, mg_0_12, mg_0_13, mg_0_14, mg_0_15, mg_0_16, mg_0_17, mg_0_18, mg_0_19, mg_0_20, mrc_2, hct]
    by_cases h8 : cn S = 8
    · have h3 : ¬ S.2 0 < 8 := by rw [hc1, h8]; decide
      have h4 : nI (cn S) = 8 := by rw [h8]; rfl
      obtain ⟨N, hN, hx⟩ := c_M_error4 (X := X) (d := d + 1) (σ := σ) hM
      rw [if_pos h3, if_pos h4]
      refine ⟨N, hN, ?_⟩
      simp only [s_M_person_27, s_M_person_33, Option.bind_some, Option.bind_none, Option.toList_some, Option.toList_none, List.cons_append, List.nil_append, List.append_nil, mv_0, hx]
      rfl
    · have h3 : S.2 0 < 8 := by rw [hc1]; exact (nI_lt_iff (b := 8) (by omega) (by omega)).mpr (by omega)
      have h4 : ¬ nI (cn S) = 8 := fun e => h8 ((nI_inj (b := 8) (by omega) (by omega)).mp e)
      have h5 : cn S < 8 := by omega
      rw [if_neg (not_not_intro h3), if_neg h4]
      have a1 := RS_ct hM.row hl (nI (cn S) + 1)
      have a2 := RS_p0 a1 hl h5 (km / 10)
      have a3 := RS_p1 a2 hl h5 (km - km / 10 * 10)
      have a4 := RS_p2 a3 hl h5 0
      have a5 := RS_p3 a4 hl h5 0
      obtain ⟨z1, z2⟩ := hI.2.2.2.2.1 (cn S) (Nat.le_refl _) h5
      have e : ((u2 (u2 (u2 (u2 S.1 0 (upd (S.1 0) (cn S) (km / 10))) 1 (upd (S.1 1) (cn S) (km - km / 10 * 10))) 2 (upd (S.1 2) (cn S) 0)) 3 (upd (S.1 3) (cn S) 0), u1 S.2 0 (nI (cn S) + 1)) : xS) = (u2 (u2 S.1 0 (upd (S.1 0) (cn S) (km / 10))) 1 (upd (S.1 1) (cn S) (km - km / 10 * 10)), u1 S.2 0 (S.2 0 + 1)) := by
        have e1 : u2 (u2 (u2 S.1 0 (upd (S.1 0) (cn S) (km / 10))) 1 (upd (S.1 1) (cn S) (km - km / 10 * 10))) 2 (upd (S.1 2) (cn S) 0) = u2 (u2 S.1 0 (upd (S.1 0) (cn S) (km / 10))) 1 (upd (S.1 1) (cn S) (km - km / 10 * 10)) := u2_same (A := u2 (u2 S.1 0 (upd (S.1 0) (cn S) (km / 10))) 1 (upd (S.1 1) (cn S) (km - km / 10 * 10))) (k := 2) z1
        have e2 : u2 (u2 (u2 S.1 0 (upd (S.1 0) (cn S) (km / 10))) 1 (upd (S.1 1) (cn S) (km - km / 10 * 10))) 3 (upd (S.1 3) (cn S) 0) = u2 (u2 S.1 0 (upd (S.1 0) (cn S) (km / 10))) 1 (upd (S.1 1) (cn S) (km - km / 10 * 10)) := u2_same (A := u2 (u2 S.1 0 (upd (S.1 0) (cn S) (km / 10))) 1 (upd (S.1 1) (cn S) (km - km / 10 * 10))) (k := 3) z2
        rw [e1, e2, hc1]
      have a6 : RS _ ((u2 (u2 (u2 (u2 S.1 0 (upd (S.1 0) (cn S) (km / 10))) 1 (upd (S.1 1) (cn S) (km - km / 10 * 10))) 2 (upd (S.1 2) (cn S) 0)) 3 (upd (S.1 3) (cn S) 0), u1 S.2 0 (nI (cn S) + 1)) : xS) := a5
      rw [e] at a6
      refine ⟨_, RMr hM a6, ?_⟩
      simp only [s_M_person_34, s_M_person_38, s_M_person_41, s_M_person_44, s_M_person_54, s_M_person_64, s_M_person_71, s_M_person_78, Option.bind_some, Option.bind_none, Option.toList_some, Option.toList_none, List.cons_append, List.nil_append, List.append_nil, mv_0, mg_0_0, mg_0_1, mg_0_2, mg_0_3, mg_0_4, mg_0_5, mg_0_6, mg_0_7, mg_0_8, mg_0_9, mg_0_10, mg_0_11, mg_0_12, mg_0_13, mg_0_14, mg_0_15, mg_0_16, mg_0_17, mg_0_18, mg_0_19, mg_0_20, mrc_2, hct, mwc_2, c_M_lets0 h5, c_M_lets1 h5, c_M_lets2 h5, c_M_lets3 h5, u2_at, u2_u2]
      rw [hc1]
  · rw [if_pos h1, if_pos h1]
    obtain ⟨N, hN, hx⟩ := c_M_error1 (X := X) (d := d + 1) (σ := σ) hM
    refine ⟨N, hN, ?_⟩
    simp only [s_M_person_7, s_M_person_13, Option.bind_some, Option.bind_none, Option.toList_some, Option.toList_none, List.cons_append, List.nil_append, List.append_nil, mv_0, hx]
    rfl
theorem m_personIs (hI : okI S) (hM : RM M R S K) (p w : Int32) : MC X (d + 8) j_M_personIs [.int p, .int w] M (sp_personIs R S K p w) := by
  intro σ
  have h := hM.row
  have ee : ∀ (s0 : Int32), ¬ (hasP S p ∧ 0 ≤ w ∧ w ≤ 4) → ∃ N : xS, RM N (er R 1) S K ∧ xrun (X, xcall X (d + 7)) j_M_personIs 17 [.ref (sh 4 0), .int p, .int w] [] (ub σ 4 (mdC M)) = some (some (.int (lw 1)), ub σ 4 (mdC N)) := by
    intro _ _
    obtain ⟨N, hN, hx⟩ := c_M_error1 (X := X) (d := d + 6) (σ := σ) hM
    refine ⟨N, hN, ?_⟩
    simp only [s_M_personIs_17, s_M_personIs_23, Option.bind_some, Option.bind_none, Option.toList_some, Option.toList_none, List.cons_append, List.nil_append, List.append_nil, mv_0, hx]
  rw [e_M_personIs]
  unfold sp_personIs
  simp only [s_M_personIs_0, s_M_personIs_5, Option.bind_some, Option.bind_none, Option.toList_some, Option.toList_none, List.cons_append, List.nil_append, List.append_nil, mv_0, c_M_isPerson h, z1_0]
  by_cases h1 : hasP S p
  · rw [if_neg (not_not_intro h1)]
    simp only [s_M_personIs_8, s_M_personIs_14, Option.bind_some, Option.bind_none, Option.toList_some, Option.toList_none, List.cons_append, List.nil_append, List.append_nil, c_M_in, z1_0]
    by_cases h2 : 0 ≤ w ∧ w ≤ 4
    · rw [if_neg (not_not_intro h2), if_neg (not_not_intro (⟨h1, h2⟩ : hasP S p ∧ 0 ≤ w ∧ w ≤ 4))]
      obtain ⟨k, rfl, -, hk8⟩ := hasP_ix hI.1 h1
      obtain ⟨j, rfl, hj⟩ := i32_ix (v := w) (n := 4) (by decide) h2
      have ek := ix_nI (Nat.lt_trans hk8 (by decide))
      simp only [s_M_personIs_24, ek]
      obtain rfl | rfl | rfl | rfl | rfl : j = 0 ∨ j = 1 ∨ j = 2 ∨ j = 3 ∨ j = 4 := by omega
      · refine ⟨M, hM, ?_⟩
        have e : nI 0 = (0 : Int32) := rfl
        have g : ¬ (4 : Int32) ≤ 0 := by decide
        simp only [e, if_neg g, if_true, s_M_personIs_29, s_M_personIs_35, s_M_personIs_43, Option.bind_some, Option.bind_none, Option.toList_some, Option.toList_none, List.cons_append, List.nil_append, List.append_nil, mv_0, c_M_of0 h hk8]
      · refine ⟨M, hM, ?_⟩
        have e : nI 1 = (1 : Int32) := rfl
        have g : ¬ (4 : Int32) ≤ 1 := by decide
        have g0 : ¬ (1 : Int32) = 0 := by decide
        simp only [e, if_neg g, if_neg g0, if_true, s_M_personIs_29, s_M_personIs_35, s_M_personIs_43, Option.bind_some, Option.bind_none, Option.toList_some, Option.toList_none, List.cons_append, List.nil_append, List.append_nil, mv_0, c_M_of1 h hk8]
      · refine ⟨M, hM, ?_⟩
        have e : nI 2 = (2 : Int32) := rfl
        have g : ¬ (4 : Int32) ≤ 2 := by decide
        have g0 : ¬ (2 : Int32) = 0 := by decide
        have g1 : ¬ (2 : Int32) = 1 := by decide
        simp only [e, if_neg g, if_neg g0, if_neg g1, if_true, s_M_personIs_29, s_M_personIs_35, s_M_personIs_43, Option.bind_some, Option.bind_none, Option.toList_some, Option.toList_none, List.cons_append, List.nil_append, List.append_nil, mv_0, c_M_of2 h hk8]
      · refine ⟨M, hM, ?_⟩
        have e : nI 3 = (3 : Int32) := rfl
        have g : ¬ (4 : Int32) ≤ 3 := by decide
        have g0 : ¬ (3 : Int32) = 0 := by decide
        have g1 : ¬ (3 : Int32) = 1 := by decide
        have g2 : ¬ (3 : Int32) = 2 := by decide
        simp only [e, if_neg g, if_neg g0, if_neg g1, if_neg g2, if_true, s_M_personIs_29, s_M_personIs_35, s_M_personIs_43, Option.bind_some, Option.bind_none, Option.toList_some, Option.toList_none, List.cons_append, List.nil_append, List.append_nil, mv_0, c_M_of3 h hk8]
        rcases hI.2.1.2.2.2.2.1 k hk8 with e3 | e3
        · rw [if_pos e3, e3]
        · rw [if_neg (by rw [e3]; decide), e3]
      · obtain ⟨N, hN, hx⟩ := c_M_ropeOf (X := X) (d := d) (σ := σ) hI h hk8
        refine ⟨N, hN.rm hM, ?_⟩
        have e : nI 4 = (4 : Int32) := rfl
        have g : (4 : Int32) ≤ 4 := by decide
        have g0 : ¬ (4 : Int32) = 0 := by decide
        have g1 : ¬ (4 : Int32) = 1 := by decide
        have g2 : ¬ (4 : Int32) = 2 := by decide
        have g3 : ¬ (4 : Int32) = 3 := by decide
        simp only [e, if_pos g, if_neg g0, if_neg g1, if_neg g2, if_neg g3, s_M_personIs_38, s_M_personIs_43, Option.bind_some, Option.bind_none, Option.toList_some, Option.toList_none, List.cons_append, List.nil_append, List.append_nil, mv_0, hx]
    · rw [if_pos h2, if_pos (fun e : hasP S p ∧ 0 ≤ w ∧ w ≤ 4 => h2 e.2)]
      exact ee 0 (fun e => h2 e.2)
  · rw [if_pos h1, if_pos (fun e : hasP S p ∧ 0 ≤ w ∧ w ≤ 4 => h1 e.1)]
    exact ee 0 (fun e => h1 e.1)
theorem m_become (hI : okI S) (hM : RM M R S K) (p km : Int32) : MC X (d + 3) j_M_become [.int p, .int km] M (sp_become R S K p km) := by
  intro σ
  have hl := hI.1.ln
  have h := hM.row
  have ee : ∃ N : xS, RM N (er R 1) S K ∧ xrun (X, xcall X (d + 2)) j_M_become 15 [.ref (sh 4 0), .int p, .int km] [] (ub σ 4 (mdC M)) = some (some (.int (lw 1)), ub σ 4 (mdC N)) := by
    obtain ⟨N, hN, hx⟩ := c_M_error1 (X := X) (d := d + 1) (σ := σ) hM
    refine ⟨N, hN, ?_⟩
    simp only [s_M_become_15, s_M_become_21, Option.bind_some, Option.bind_none, Option.toList_some, Option.toList_none, List.cons_append, List.nil_append, List.append_nil, mv_0, hx]
  rw [e_M_become]
  unfold sp_become
  simp only [s_M_become_0, s_M_become_5, Option.bind_some, Option.bind_none, Option.toList_some, Option.toList_none, List.cons_append, List.nil_append, List.append_nil, mv_0, c_M_isPerson h, z1_0]
  by_cases h1 : hasP S p
  · rw [if_neg (not_not_intro h1)]
    simp only [s_M_become_8, s_M_become_12, Option.bind_some, Option.bind_none, Option.toList_some, Option.toList_none, List.cons_append, List.nil_append, List.append_nil, c_M_isKm, z1_0]
    by_cases h2 : 0 ≤ km ∧ km ≤ 69
    · rw [if_neg (not_not_intro h2), if_neg (not_not_intro (⟨h1, h2⟩ : hasP S p ∧ 0 ≤ km ∧ km ≤ 69))]
      obtain ⟨k, rfl, -, hk8⟩ := hasP_ix hI.1 h1
      have ek := ix_nI (Nat.lt_trans hk8 (by decide))
      have a1 := RS_p1 h hl hk8 (km - km / 10 * 10)
      have a2 := RS_p0 a1 hl hk8 (km / 10)
      have a3 : RS _ ((u2 (u2 S.1 1 (upd (S.1 1) k (km - km / 10 * 10))) 0 (upd (S.1 0) k (km / 10)), S.2) : xS) := a2
      rw [u2_comm S.1 _ _ (by decide : (1 : Nat) ≠ 0)] at a3
      have hv : upd (M.1 0) (6 + 4 * k + 1) (km - km / 10 * 10) (6 + 4 * k) = S.1 0 k := a1.p0 k hk8
      have hk : 6 + 4 * k < 428 := by omega
      rw [ek]
      refine ⟨_, RMr hM a3, ?_⟩
      simp only [s_M_become_22, s_M_become_32, s_M_become_46, Option.bind_some, Option.bind_none, Option.toList_some, Option.toList_none, List.cons_append, List.nil_append, List.append_nil, mv_0, c_M_lets1 hk8, ix64, c_M_becomes hk, u2_at, u2_u2, hv]
    · rw [if_pos h2, if_pos (fun e : hasP S p ∧ 0 ≤ km ∧ km ≤ 69 => h2 e.2)]
      exact ee
  · rw [if_pos h1, if_pos (fun e : hasP S p ∧ 0 ≤ km ∧ km ≤ 69 => h1 e.1)]
    exact ee
theorem m_as (hI : okI S) (hM : RM M R S K) (p a : Int32) : MC X (d + 3) j_M_as [.int p, .int a] M (sp_as R S K p a) := by
  intro σ
  have h := hM.row
  have ee : ∃ N : xS, RM N (er R 1) S K ∧ xrun (X, xcall X (d + 2)) j_M_as 18 [.ref (sh 4 0), .int p, .int a, .null, .null] [] (ub σ 4 (mdC M)) = some (some (.int (lw 1)), ub σ 4 (mdC N)) := by
    obtain ⟨N, hN, hx⟩ := c_M_error1 (X := X) (d := d + 1) (σ := σ) hM
    refine ⟨N, hN, ?_⟩
    simp only [s_M_as_18, s_M_as_24, Option.bind_some, Option.bind_none, Option.toList_some, Option.toList_none, List.cons_append, List.nil_append, List.append_nil, mv_0, hx]
  rw [e_M_as]
  unfold sp_as
  simp only [s_M_as_0, s_M_as_5, Option.bind_some, Option.bind_none, Option.toList_some, Option.toList_none, List.cons_append, List.nil_append, List.append_nil, mv_0, c_M_isPerson h, z1_0]
  by_cases h1 : hasP S p
  · rw [if_neg (not_not_intro h1)]
    simp only [s_M_as_8, s_M_as_15, Option.bind_some, Option.bind_none, Option.toList_some, Option.toList_none, List.cons_append, List.nil_append, List.append_nil, c_M_in, z1_0]
    by_cases h2 : 0 ≤ a ∧ a ≤ 6
    · rw [if_neg (not_not_intro h2), if_neg (not_not_intro (⟨h1, h2⟩ : hasP S p ∧ 0 ≤ a ∧ a ≤ 6))]
      obtain ⟨k, rfl, -, hk8⟩ := hasP_ix hI.1 h1
      obtain ⟨j, rfl, hj⟩ := i32_ix (v := a) (n := 6) (by decide) h2
      have ek := ix_nI (Nat.lt_trans hk8 (by decide))
      have ej : ix (nI j) = j := ix_nI (by omega)
      obtain ⟨g1, g2⟩ := hI.1.2.1 k hk8
      rw [ek, ej]
      generalize hkd : kd S k = q at g1 g2
      have no : under q j = false → ∃ N : xS, RM N (er R 5) S K ∧ xrun (X, xcall X (d + 2)) j_M_as 65 [.ref (sh 4 0), .int (nI k), .int (nI j), .int (nI q), .null] [] (ub σ 4 (mdC M)) = some (some (.int (lw 5)), ub σ 4 (mdC N)) := by
        intro _
        obtain ⟨N, hN, hx⟩ := c_M_error5 (X := X) (d := d + 1) (σ := σ) hM
        refine ⟨N, hN, ?_⟩
        simp only [s_M_as_65, s_M_as_66, if_true, s_M_as_82, s_M_as_88, Option.bind_some, Option.bind_none, Option.toList_some, Option.toList_none, List.cons_append, List.nil_append, List.append_nil, mv_0, hx]
      have yes : xrun (X, xcall X (d + 2)) j_M_as 61 [.ref (sh 4 0), .int (nI k), .int (nI j), .int (nI q), .null] [] (ub σ 4 (mdC M)) = some (some (.int (S.1 1 k)), ub σ 4 (mdC M)) := by
        have z10 : ¬ (1 : Int32) = 0 := by decide
        simp only [s_M_as_61, s_M_as_66, if_neg z10, s_M_as_73, s_M_as_79, s_M_as_88, Option.bind_some, Option.bind_none, Option.toList_some, Option.toList_none, List.cons_append, List.nil_append, List.append_nil, mv_0, c_M_of1 h hk8]
      have q0 : nI j = 0 ↔ j = 0 := nI_inj (b := 0) (by omega) (by omega)
      have q1 : nI j = 1 ↔ j = 1 := nI_inj (b := 1) (by omega) (by omega)
      have q2 : nI j = 2 ↔ j = 2 := nI_inj (b := 2) (by omega) (by omega)
      have q3 : nI j = nI q ↔ j = q := nI_inj (by omega) (by omega)
      have q4 : nI q = 4 ↔ q = 4 := nI_inj (b := 4) (by omega) (by omega)
      have q5 : nI q = 5 ↔ q = 5 := nI_inj (b := 5) (by omega) (by omega)
      simp only [s_M_as_25, s_M_as_31, Option.bind_some, Option.bind_none, Option.toList_some, Option.toList_none, List.cons_append, List.nil_append, List.append_nil, mv_0, c_M_of0 h hk8, g1, s_M_as_36, s_M_as_41, s_M_as_46, s_M_as_51, s_M_as_56, yes, q0, q1, q2, q3, q4, q5]
      by_cases hu : under q j = false
      · obtain ⟨N, hN, hx⟩ := no hu
        rw [if_pos hu]
        refine ⟨N, hN, ?_⟩
        have w0 : ¬ j = 0 := fun e => absurd hu (by rw [e]; simp [under])
        have w1 : ¬ j = q := fun e => absurd hu (by rw [e]; simp [under])
        have w2 : ¬ (j = 1 ∧ q = 4) := fun e => absurd hu (by rw [e.1, e.2]; decide)
        have w3 : ¬ (j = 2 ∧ q = 5) := fun e => absurd hu (by rw [e.1, e.2]; decide)
        rw [if_neg w0, if_neg w1]
        by_cases x1 : j = 1
        · rw [if_pos x1, if_neg (fun e => w2 ⟨x1, e⟩), if_neg (by omega)]
          exact hx
        · rw [if_neg x1]
          by_cases x2 : j = 2
          · rw [if_pos x2, if_neg (fun e => w3 ⟨x2, e⟩)]
            exact hx
          · rw [if_neg x2]
            exact hx
      · rw [if_neg hu]
        refine ⟨M, hM, ?_⟩
        by_cases w0 : j = 0
        · rw [if_pos w0]
        rw [if_neg w0]
        by_cases w1 : j = q
        · rw [if_pos w1]
        rw [if_neg w1]
        by_cases w2 : j = 1
        · rw [if_pos w2]
          by_cases w4 : q = 4
          · rw [if_pos w4]
          · exact absurd (by rw [w2]; simp [under]; omega) hu
        · rw [if_neg w2]
          by_cases w3 : j = 2
          · rw [if_pos w3]
            by_cases w5 : q = 5
            · rw [if_pos w5]
            · exact absurd (by rw [w3]; simp [under]; omega) hu
          · exact absurd (by simp [under]; omega) hu
    · rw [if_pos h2, if_pos (fun e : hasP S p ∧ 0 ≤ a ∧ a ≤ 6 => h2 e.2)]
      exact ee
  · rw [if_pos h1, if_pos (fun e : hasP S p ∧ 0 ≤ a ∧ a ≤ 6 => h1 e.1)]
    exact ee
theorem m_tells (hI : okI S) (hM : RM M R S K) (p o v : Int32) : MC X (d + 4) j_M_tells [.int p, .int o, .int v] M (sp_tells R S K p o v) := by
  intro σ
  have hl := hI.1.ln
  have h := hM.row
  have ee : ∃ N : xS, RM N (er R 1) S K ∧ xrun (X, xcall X (d + 3)) j_M_tells 32 [.ref (sh 4 0), .int p, .int o, .int v] [] (ub σ 4 (mdC M)) = some (some (.int (lw 1)), ub σ 4 (mdC N)) := by
    obtain ⟨N, hN, hx⟩ := c_M_error1 (X := X) (d := d + 2) (σ := σ) hM
    refine ⟨N, hN, ?_⟩
    simp only [s_M_tells_32, s_M_tells_38, Option.bind_some, Option.bind_none, Option.toList_some, Option.toList_none, List.cons_append, List.nil_append, List.append_nil, mv_0, hx]
  rw [e_M_tells]
  unfold sp_tells
  simp only [s_M_tells_0, s_M_tells_6, Option.bind_some, Option.bind_none, Option.toList_some, Option.toList_none, List.cons_append, List.nil_append, List.append_nil, mv_0, c_M_areTwo h, z1_0]
  by_cases h1 : hasP S p ∧ hasP S o ∧ p ≠ o
  · rw [if_neg (not_not_intro h1)]
    simp only [s_M_tells_9, s_M_tells_16, Option.bind_some, Option.bind_none, Option.toList_some, Option.toList_none, List.cons_append, List.nil_append, List.append_nil, c_M_in, z1_0]
    by_cases h2 : 0 ≤ v ∧ v ≤ 99
    · rw [if_neg (not_not_intro h2), if_neg (not_not_intro (⟨h1, h2⟩ : (hasP S p ∧ hasP S o ∧ p ≠ o) ∧ 0 ≤ v ∧ v ≤ 99))]
      obtain ⟨k, rfl, -, hk8⟩ := hasP_ix hI.1 h1.1
      obtain ⟨i, rfl, -, hi8⟩ := hasP_ix hI.1 h1.2.1
      have ek := ix_nI (Nat.lt_trans hk8 (by decide))
      have ei := ix_nI (Nat.lt_trans hi8 (by decide))
      have h64 : 8 * k + i < 64 := by omega
      have hsp : 38 + (8 * k + i) < 428 := by omega
      have a1 := RS_tk h hl h64 v
      rw [ek, ei]
      refine ⟨_, RMr hM a1, ?_⟩
      simp only [s_M_tells_19, s_M_tells_25, s_M_tells_29, s_M_tells_38, Option.bind_some, Option.bind_none, Option.toList_some, Option.toList_none, List.cons_append, List.nil_append, List.append_nil, mv_0, c_M_spotOf, c_M_becomes hsp, h.tk (8 * k + i) h64]
    · rw [if_pos h2, if_pos (fun e : (hasP S p ∧ hasP S o ∧ p ≠ o) ∧ 0 ≤ v ∧ v ≤ 99 => h2 e.2)]
      exact ee
  · rw [if_pos h1, if_pos (fun e : (hasP S p ∧ hasP S o ∧ p ≠ o) ∧ 0 ≤ v ∧ v ≤ 99 => h1 e.1)]
    exact ee
theorem m_rope (hI : okI S) (hM : RM M R S K) (p o : Int32) : MC X (d + 6) j_M_rope [.int p, .int o] M (sp_rope R S K p o) := by
  intro σ
  have h := hM.row
  rw [e_M_rope]
  unfold sp_rope
  simp only [s_M_rope_0, s_M_rope_6, Option.bind_some, Option.bind_none, Option.toList_some, Option.toList_none, List.cons_append, List.nil_append, List.append_nil, mv_0, c_M_areTwo h, z1_0]
  by_cases h1 : hasP S p ∧ hasP S o ∧ p ≠ o
  · rw [if_neg (not_not_intro h1), if_neg (not_not_intro h1)]
    obtain ⟨k, rfl, -, hk8⟩ := hasP_ix hI.1 h1.1
    obtain ⟨i, rfl, -, hi8⟩ := hasP_ix hI.1 h1.2.1
    have ek := ix_nI (Nat.lt_trans hk8 (by decide))
    have ei := ix_nI (Nat.lt_trans hi8 (by decide))
    obtain ⟨N, hN, hx⟩ := c_M_ropeNow (X := X) (d := d) (σ := σ) hI h hk8 hi8
    rw [ek, ei]
    refine ⟨N, hN.rm hM, ?_⟩
    simp only [s_M_rope_9, s_M_rope_15, s_M_rope_24, Option.bind_some, Option.bind_none, Option.toList_some, Option.toList_none, List.cons_append, List.nil_append, List.append_nil, mv_0, hx]
  · rw [if_pos h1, if_pos h1]
    obtain ⟨N, hN, hx⟩ := c_M_error1 (X := X) (d := d + 4) (σ := σ) hM
    refine ⟨N, hN, ?_⟩
    simp only [s_M_rope_18, s_M_rope_24, Option.bind_some, Option.bind_none, Option.toList_some, Option.toList_none, List.cons_append, List.nil_append, List.append_nil, mv_0, hx]
    rfl
theorem m_swim (hI : okI S) (hM : RM M R S K) (p f : Int32) : MC X (d + 3) j_M_swim [.int p, .int f] M (sp_swim R S K p f) := by
  intro σ
  have hl := hI.1.ln
  have h := hM.row
  have ee : ∃ N : xS, RM N (er R 1) S K ∧ xrun (X, xcall X (d + 2)) j_M_swim 19 [.ref (sh 4 0), .int p, .int f] [] (ub σ 4 (mdC M)) = some (some (.int (lw 1)), ub σ 4 (mdC N)) := by
    obtain ⟨N, hN, hx⟩ := c_M_error1 (X := X) (d := d + 1) (σ := σ) hM
    refine ⟨N, hN, ?_⟩
    simp only [s_M_swim_19, s_M_swim_25, Option.bind_some, Option.bind_none, Option.toList_some, Option.toList_none, List.cons_append, List.nil_append, List.append_nil, mv_0, hx]
  rw [e_M_swim]
  unfold sp_swim
  simp only [s_M_swim_0, s_M_swim_5, Option.bind_some, Option.bind_none, Option.toList_some, Option.toList_none, List.cons_append, List.nil_append, List.append_nil, mv_0, c_M_isPerson h, z1_0]
  by_cases h1 : hasP S p
  · rw [if_neg (not_not_intro h1)]
    simp only [s_M_swim_8, s_M_swim_16, Option.bind_some, Option.bind_none, Option.toList_some, Option.toList_none, List.cons_append, List.nil_append, List.append_nil, c_M_in, z1_0]
    by_cases h2 : 0 ≤ f ∧ f ≤ 500
    · rw [if_neg (not_not_intro h2), if_neg (not_not_intro (⟨h1, h2⟩ : hasP S p ∧ 0 ≤ f ∧ f ≤ 500))]
      obtain ⟨k, rfl, -, hk8⟩ := hasP_ix hI.1 h1
      have ek := ix_nI (Nat.lt_trans hk8 (by decide))
      rw [ek]
      simp only [s_M_swim_26, s_M_swim_32, Option.bind_some, Option.bind_none, Option.toList_some, Option.toList_none, List.cons_append, List.nil_append, List.append_nil, mv_0, c_M_of3 h hk8]
      rcases hI.2.1.2.2.2.2.1 k hk8 with e3 | e3
      · have z0 : ¬ S.1 3 k = 1 := by rw [e3]; decide
        have hk : 6 + 4 * k + 2 < 428 := by omega
        rw [if_neg z0, if_neg (not_not_intro e3)]
        have a1 := RS_p2 h hl hk8 f
        refine ⟨_, RMr hM a1, ?_⟩
        simp only [s_M_swim_45, s_M_swim_58, Option.bind_some, Option.bind_none, Option.toList_some, Option.toList_none, List.cons_append, List.nil_append, List.append_nil, mv_0, ix642, c_M_becomes hk, h.p2 k hk8]
      · have z0 : ¬ S.1 3 k = 0 := by rw [e3]; decide
        rw [if_pos e3, if_pos z0]
        obtain ⟨N, hN, hx⟩ := c_M_error3 (X := X) (d := d + 1) (σ := σ) hM
        refine ⟨N, hN, ?_⟩
        simp only [s_M_swim_36, s_M_swim_42, s_M_swim_58, Option.bind_some, Option.bind_none, Option.toList_some, Option.toList_none, List.cons_append, List.nil_append, List.append_nil, mv_0, hx]
        rfl
    · rw [if_pos h2, if_pos (fun e : hasP S p ∧ 0 ≤ f ∧ f ≤ 500 => h2 e.2)]
      exact ee
  · rw [if_pos h1, if_pos (fun e : hasP S p ∧ 0 ≤ f ∧ f ≤ 500 => h1 e.1)]
    exact ee
theorem m_saves (hI : okI S) (hM : RM M R S K) (p : Int32) : MC X (d + 3) j_M_saves [.int p] M (sp_saves R S K p) := by
  intro σ
  have hl := hI.1.ln
  have h := hM.row
  rw [e_M_saves]
  unfold sp_saves
  simp only [s_M_saves_0, s_M_saves_5, Option.bind_some, Option.bind_none, Option.toList_some, Option.toList_none, List.cons_append, List.nil_append, List.append_nil, mv_0, c_M_isPerson h, z1_0]
  by_cases h1 : hasP S p
  · rw [if_neg (not_not_intro h1), if_neg (not_not_intro h1)]
    obtain ⟨k, rfl, -, hk8⟩ := hasP_ix hI.1 h1
    have ek := ix_nI (Nat.lt_trans hk8 (by decide))
    have hk : 6 + 4 * k + 3 < 428 := by omega
    have a1 := RS_p2 h hl hk8 0
    have a2 := RS_p3 a1 hl hk8 0
    have a3 : RS _ ((u2 (u2 S.1 2 (upd (S.1 2) k 0)) 3 (upd (S.1 3) k 0), S.2) : xS) := a2
    rw [u2_comm S.1 _ _ (by decide : (2 : Nat) ≠ 3)] at a3
    have hv : upd (M.1 0) (6 + 4 * k + 2) 0 (6 + 4 * k + 3) = S.1 3 k := a1.p3 k hk8
    rw [ek]
    refine ⟨_, RMr hM a3, ?_⟩
    simp only [s_M_saves_15, s_M_saves_22, s_M_saves_35, Option.bind_some, Option.bind_none, Option.toList_some, Option.toList_none, List.cons_append, List.nil_append, List.append_nil, mv_0, c_M_lets2 hk8, ix643, c_M_becomes hk, u2_at, u2_u2, hv]
    rcases hI.2.1.2.2.2.2.1 k hk8 with e3 | e3
    · rw [if_pos e3, e3]
    · rw [if_neg (by rw [e3]; decide), e3]
  · rw [if_pos h1, if_pos h1]
    obtain ⟨N, hN, hx⟩ := c_M_error1 (X := X) (d := d + 1) (σ := σ) hM
    refine ⟨N, hN, ?_⟩
    simp only [s_M_saves_8, s_M_saves_14, Option.bind_some, Option.bind_none, Option.toList_some, Option.toList_none, List.cons_append, List.nil_append, List.append_nil, mv_0, hx]
    rfl
theorem m_weather (hI : okI S) (hM : RM M R S K) (v : Int32) : MC X (d + 2) j_M_weather [.int v] M (sp_weather R S K v) := by
  intro σ
  have hl := hI.1.ln
  have h := hM.row
  rw [e_M_weather]
  unfold sp_weather
  simp only [s_M_weather_0, s_M_weather_7, Option.bind_some, Option.bind_none, Option.toList_some, Option.toList_none, List.cons_append, List.nil_append, List.append_nil, c_M_in, z1_0]
  by_cases h1 : 0 ≤ v ∧ v ≤ 9
  · rw [if_neg (not_not_intro h1), if_neg (not_not_intro h1)]
    have a1 := RS_se h hl v
    have hb : ∀ x : Int32, xcall X (d + 1) j_M_becomes [.ref (sh 4 0), .int (3 : Int32), .int x] (ub σ 4 (mdC M)) = some (some (.int (M.1 0 3)), ub σ 4 (mdC (u2 M.1 0 (upd (M.1 0) 3 x), M.2))) := fun x => c_M_becomes (k := 3) (by decide) x
    refine ⟨_, RMr hM a1, ?_⟩
    simp only [s_M_weather_19, s_M_weather_25, s_M_weather_10, s_M_weather_16, Option.bind_some, Option.bind_none, Option.toList_some, Option.toList_none, List.cons_append, List.nil_append, List.append_nil, mv_0, hb, h.se]
  · rw [if_pos h1, if_pos h1]
    obtain ⟨N, hN, hx⟩ := c_M_error1 (X := X) (d := d) (σ := σ) hM
    refine ⟨N, hN, ?_⟩
    simp only [s_M_weather_19, s_M_weather_25, s_M_weather_10, s_M_weather_16, Option.bind_some, Option.bind_none, Option.toList_some, Option.toList_none, List.cons_append, List.nil_append, List.append_nil, mv_0, hx]
    rfl
theorem m_seed (hI : okI S) (hM : RM M R S K) (v : Int32) : MC X (d + 2) j_M_seed [.int v] M (sp_seed R S K v) := by
  intro σ
  have hl := hI.1.ln
  have h := hM.row
  rw [e_M_seed]
  unfold sp_seed
  have a1 := RS_zz h hl v
  have hb : ∀ x : Int32, xcall X (d + 1) j_M_becomes [.ref (sh 4 0), .int (1 : Int32), .int x] (ub σ 4 (mdC M)) = some (some (.int (M.1 0 1)), ub σ 4 (mdC (u2 M.1 0 (upd (M.1 0) 1 x), M.2))) := fun x => c_M_becomes (k := 1) (by decide) x
  refine ⟨_, RMr hM a1, ?_⟩
  simp only [s_M_seed_0, s_M_seed_6, Option.bind_some, Option.bind_none, Option.toList_some, Option.toList_none, List.cons_append, List.nil_append, List.append_nil, mv_0, hb, h.zz]
theorem m_untell (hI : okI S) (hM : RM M R S K) (u : Int32) : MC X (d + 2) j_M_untell [.int u] M (sp_untell R S K u) := by
  intro σ
  have hl := hI.1.ln
  have h := hM.row
  rw [e_M_untell]
  unfold sp_untell
  simp only [s_M_untell_0, s_M_untell_6, Option.bind_some, Option.bind_none, Option.toList_some, Option.toList_none, List.cons_append, List.nil_append, List.append_nil, c_M_in, z1_0, use_cases]
  obtain ⟨b1, b2, b3⟩ := hI.1.2.2.1
  obtain ⟨b4, b5, b6⟩ := hI.1.2.2.2
  by_cases h0 : u = 0
  · subst h0
    rw [if_neg (not_not_intro (Or.inl rfl : (0 : Int32) = 0 ∨ (0 : Int32) = 1)), if_pos rfl]
    have a1 := RS_n0 h hl 0 rfl
    have eat : (186 : Int32) + 121 * (0 : Int32) = nI 186 := by decide
    have hk : 186 < 428 := by decide
    refine ⟨_, RMr hM a1, ?_⟩
    simp only [s_M_untell_16, s_M_untell_29, Option.bind_some, Option.bind_none, Option.toList_some, Option.toList_none, List.cons_append, List.nil_append, List.append_nil, mv_0, eat, c_M_becomes hk, h.n0]
    by_cases hl : S.2 6 ≤ 0
    · rw [if_pos hl, z1_f (i32_nlt.mpr hl), s_M_untell_36, s_M_untell_37]
    · rw [if_neg hl, z1_t (i32_nle.mp hl), s_M_untell_32, s_M_untell_37]
  · by_cases h1 : u = 1
    · subst h1
      rw [if_neg (not_not_intro (Or.inr rfl : (1 : Int32) = 0 ∨ (1 : Int32) = 1)), if_neg h0, if_pos rfl]
      have a1 := RS_n1 h hl 0 rfl
      have eat : (186 : Int32) + 121 * (1 : Int32) = nI 307 := by decide
      have hk : 307 < 428 := by decide
      refine ⟨_, RMr hM a1, ?_⟩
      simp only [s_M_untell_16, s_M_untell_29, Option.bind_some, Option.bind_none, Option.toList_some, Option.toList_none, List.cons_append, List.nil_append, List.append_nil, mv_0, eat, c_M_becomes hk, h.n1]
      by_cases hl : S.2 7 ≤ 0
      · rw [if_pos hl, z1_f (i32_nlt.mpr hl), s_M_untell_36, s_M_untell_37]
      · rw [if_neg hl, z1_t (i32_nle.mp hl), s_M_untell_32, s_M_untell_37]
    · rw [if_pos (fun e : u = 0 ∨ u = 1 => e.elim h0 h1), if_neg h0, if_neg h1]
      obtain ⟨N, hN, hx⟩ := c_M_error1 (X := X) (d := d) (σ := σ) hM
      refine ⟨N, hN, ?_⟩
      simp only [s_M_untell_9, s_M_untell_15, Option.bind_some, Option.bind_none, Option.toList_some, Option.toList_none, List.cons_append, List.nil_append, List.append_nil, mv_0, hx]
      rfl
theorem m_law (hI : okI S) (hM : RM M R S K) (u a b c : Int32) : MC X (d + 4) j_M_law [.int u, .int a, .int b, .int c] M (sp_law R S K u a b c) := by
  intro σ
  have h := hM.row
  rw [e_M_law]
  unfold sp_law
  simp only [s_M_law_0, s_M_law_6, Option.bind_some, Option.bind_none, Option.toList_some, Option.toList_none, List.cons_append, List.nil_append, List.append_nil, c_M_in, z1_0, use_cases]
  by_cases h0 : u = 0
  · subst h0
    rw [if_neg (not_not_intro (Or.inl rfl : (0 : Int32) = 0 ∨ (0 : Int32) = 1)), if_pos rfl]
    obtain ⟨N, hN, hx⟩ := c_M_gives0 (X := X) (d := d) (σ := σ) hI h a b c
    refine ⟨N, hN.rm hM, ?_⟩
    simp only [s_M_law_9, s_M_law_18, s_M_law_27, Option.bind_some, Option.bind_none, Option.toList_some, Option.toList_none, List.cons_append, List.nil_append, List.append_nil, mv_0, hx]
  · by_cases h1 : u = 1
    · subst h1
      rw [if_neg (not_not_intro (Or.inr rfl : (1 : Int32) = 0 ∨ (1 : Int32) = 1)), if_neg h0, if_pos rfl]
      obtain ⟨N, hN, hx⟩ := c_M_gives1 (X := X) (d := d) (σ := σ) hI h a b c
      refine ⟨N, hN.rm hM, ?_⟩
      simp only [s_M_law_9, s_M_law_18, s_M_law_27, Option.bind_some, Option.bind_none, Option.toList_some, Option.toList_none, List.cons_append, List.nil_append, List.append_nil, mv_0, hx]
    · rw [if_pos (fun e : u = 0 ∨ u = 1 => e.elim h0 h1), if_neg h0, if_neg h1]
      obtain ⟨N, hN, hx⟩ := c_M_error1 (X := X) (d := d + 2) (σ := σ) hM
      refine ⟨N, hN, ?_⟩
      simp only [s_M_law_21, s_M_law_27, Option.bind_some, Option.bind_none, Option.toList_some, Option.toList_none, List.cons_append, List.nil_append, List.append_nil, mv_0, hx]
      rfl
theorem m_told (hM : RM M R S K) (k : Int32) : MC X (d + 2) j_M_told [.int k] M (sp_told R S K k) := by
  intro σ
  rw [e_M_told]
  unfold sp_told
  simp only [s_M_told_0, s_M_told_7, Option.bind_some, Option.bind_none, Option.toList_some, Option.toList_none, List.cons_append, List.nil_append, List.append_nil, c_M_in, z1_0]
  by_cases h1 : 1 ≤ k ∧ k ≤ 6
  · rw [if_neg (not_not_intro h1), if_neg (not_not_intro h1)]
    obtain ⟨j, rfl, hj⟩ := i32_ix (v := k) (n := 6) (by decide) ⟨Int32.le_trans (by decide) h1.1, h1.2⟩
    have hj7 : j < 7 := by omega
    have ej := ix_nI (Nat.lt_trans hj7 (by decide))
    rw [ej]
    refine ⟨M, hM, ?_⟩
    simp only [s_M_told_10, s_M_told_14, s_M_told_16, s_M_told_25, Option.bind_some, Option.bind_none, Option.toList_some, Option.toList_none, List.cons_append, List.nil_append, List.append_nil, mv_0, mg_0_0, mg_0_1, mg_0_2, mg_0_3, mg_0_4, mg_0_5, mg_0_6, mg_0_7, mg_0_8, mg_0_9, mg_0_10, mg_0_11, mg_0_12, mg_0_13, mg_0_14, mg_0_15, mg_0_16, mg_0_17, mg_0_18, mg_0_19, mg_0_20, mr_4 hj7, hM.errs j hj7]
  · rw [if_pos h1, if_pos h1]
    obtain ⟨N, hN, hx⟩ := c_M_error1 (X := X) (d := d) (σ := σ) hM
    refine ⟨N, hN, ?_⟩
    simp only [s_M_told_19, s_M_told_25, Option.bind_some, Option.bind_none, Option.toList_some, Option.toList_none, List.cons_append, List.nil_append, List.append_nil, mv_0, hx]
    rfl
theorem m_body (hR : okR R) (hM : RM M R S K) (i : Int32) : MC X (d + 2) j_M_body [.int i] M (sp_body R S K i) := by
  intro σ
  obtain ⟨-, g1, g2⟩ := hR
  rw [e_M_body]
  unfold sp_body
  simp only [s_M_body_0, s_M_body_6, s_M_body_11, Option.bind_some, Option.bind_none, Option.toList_some, Option.toList_none, List.cons_append, List.nil_append, List.append_nil, mv_0, mg_0_0, mg_0_1, mg_0_2, mg_0_3, mg_0_4, mg_0_5, mg_0_6, mg_0_7, mg_0_8, mg_0_9, mg_0_10, mg_0_11, mg_0_12, mg_0_13, mg_0_14, mg_0_15, mg_0_16, mg_0_17, mg_0_18, mg_0_19, mg_0_20, hM.trcd, c_M_in, z1_0]
  by_cases h1 : 0 ≤ i ∧ i ≤ R.2 9 - 1
  · rw [if_neg (not_not_intro h1), if_neg (not_not_intro h1)]
    have hw : 1 ≤ ix (R.2 9) := by
      by_cases e : ix (R.2 9) = 0
      · exfalso
        obtain ⟨h2, h3⟩ := h1
        rw [g1, e] at h3
        have h4 := Int32.le_trans h2 h3
        exact absurd h4 (by decide)
      · omega
    have h3 := h1
    rw [g1, nI_sub1 hw] at h3
    obtain ⟨j, rfl, hj⟩ := i32_ix (v := i) (n := ix (R.2 9) - 1) (by omega) h3
    have hj30 : j < 30 := by omega
    have ej := ix_nI (Nat.lt_trans hj30 (by decide))
    rw [ej]
    refine ⟨M, hM, ?_⟩
    simp only [s_M_body_14, s_M_body_18, s_M_body_20, s_M_body_29, Option.bind_some, Option.bind_none, Option.toList_some, Option.toList_none, List.cons_append, List.nil_append, List.append_nil, mv_0, mg_0_0, mg_0_1, mg_0_2, mg_0_3, mg_0_4, mg_0_5, mg_0_6, mg_0_7, mg_0_8, mg_0_9, mg_0_10, mg_0_11, mg_0_12, mg_0_13, mg_0_14, mg_0_15, mg_0_16, mg_0_17, mg_0_18, mg_0_19, mg_0_20, mr_13 hj30, hM.trce j hj30]
  · rw [if_pos h1, if_pos h1]
    obtain ⟨N, hN, hx⟩ := c_M_error2 (X := X) (d := d) (σ := σ) hM
    refine ⟨N, hN, ?_⟩
    simp only [s_M_body_23, s_M_body_29, Option.bind_some, Option.bind_none, Option.toList_some, Option.toList_none, List.cons_append, List.nil_append, List.append_nil, mv_0, hx]
    rfl
theorem m_tell (hI : okI S) (hM : RM M R S K) (v : Int32) : MC X (d + 2) j_M_tell [.int v] M (sp_tell R S K v) := by
  intro σ
  have hl := hI.1.ln
  have h := hM.row
  obtain ⟨hw1, hw2⟩ := hI.2.2.1
  have hws : M.1 0 5 = nI (ix (S.2 2)) := h.ws.trans hw1
  generalize hwd : ix (S.2 2) = w at hw1 hw2 hws
  rw [e_M_tell]
  unfold sp_tell
  simp only [s_M_tell_0, s_M_tell_4, s_M_tell_6, Option.bind_some, Option.bind_none, Option.toList_some, Option.toList_none, List.cons_append, List.nil_append, List.append_nil, mv_0, mg_0_0, mg_0_1, mg_0_2, mg_0_3, mg_0_4, mg_0_5, mg_0_6, mg_0_7, mg_0_8, mg_0_9, mg_0_10, mg_0_11, mg_0_12, mg_0_13, mg_0_14, mg_0_15, mg_0_16, mg_0_17, mg_0_18, mg_0_19, mg_0_20, mrc_5, hws]
  by_cases h1 : w = 24
  · have h3 : ¬ S.2 2 < 24 := by rw [hw1, h1]; decide
    have h4 : nI w = 24 := by rw [h1]; rfl
    rw [if_pos h3, if_pos h4]
    obtain ⟨N, hN, hx⟩ := c_M_error4 (X := X) (d := d) (σ := σ) hM
    refine ⟨N, hN, ?_⟩
    simp only [s_M_tell_11, s_M_tell_17, Option.bind_some, Option.bind_none, Option.toList_some, Option.toList_none, List.cons_append, List.nil_append, List.append_nil, mv_0, hx]
    rfl
  · have h3 : S.2 2 < 24 := by rw [hw1]; exact (nI_lt_iff (b := 24) (by omega) (by omega)).mpr (by omega)
    have h4 : ¬ nI w = 24 := fun e => h1 ((nI_inj (b := 24) (by omega) (by omega)).mp e)
    have h5 : w < 24 := by omega
    have h6 : 162 + w < 428 := by omega
    have e6 : (162 : Int32) + nI w = nI (162 + w) := nI_add 162 w
    rw [if_neg (not_not_intro h3), if_neg h4, hwd]
    have a1 := RS_wt h hl h5 v
    have a2 := RS_ws (S := (u2 S.1 8 (upd (S.1 8) w v), S.2)) a1 hl (nI w + 1)
    have hws2 : upd (M.1 0) (162 + w) v 5 = nI w := (upq (by omega)).trans hws
    have a3 : RS (upd (upd (M.1 0) (162 + w) v) 5 (nI w + 1)) ((u2 S.1 8 (upd (S.1 8) w v), u1 S.2 2 (S.2 2 + 1)) : xS) := by rw [hw1]; exact a2
    refine ⟨_, RMr hM a3, ?_⟩
    simp only [s_M_tell_18, s_M_tell_22, s_M_tell_29, s_M_tell_31, s_M_tell_34, s_M_tell_38, s_M_tell_41, s_M_tell_44, s_M_tell_48, s_M_tell_50, Option.bind_some, Option.bind_none, Option.toList_some, Option.toList_none, List.cons_append, List.nil_append, List.append_nil, mv_0, mg_0_0, mg_0_1, mg_0_2, mg_0_3, mg_0_4, mg_0_5, mg_0_6, mg_0_7, mg_0_8, mg_0_9, mg_0_10, mg_0_11, mg_0_12, mg_0_13, mg_0_14, mg_0_15, mg_0_16, mg_0_17, mg_0_18, mg_0_19, mg_0_20, mrc_5, hws, e6, mw1 h6, u2_at, u2_u2, hws2, mwc_5, upk, hw1]
theorem l_M_check (hI : okI S) {M : xS} (h : RS (M.1 0) S) {w : Nat} (hw : w ≤ 24) {σ : xW} : ∀ k i : Nat, i + k = w → xrun (X, xcall X (d + 2)) j_M_check 16 [.ref (sh 4 0), .int (nI w), .int (nI i)] [] (ub σ 4 (mdC M)) = some (some (.int (ckL S k i)), ub σ 4 (mdC M)) := by
  intro k
  obtain ⟨hc1, hc2⟩ := hI.1.1
  induction k with
  | zero =>
    intro i hi
    have h1 : nI w ≤ nI i := (nI_le_iff (by omega) (by omega)).mpr (by omega)
    rw [s_M_check_16, if_pos h1, s_M_check_58]
    rfl
  | succ k ih =>
    intro i hi
    have h1 : ¬ nI w ≤ nI i := fun e => absurd ((nI_le_iff (by omega) (by omega)).mp e) (by omega)
    have e6 : (162 : Int32) + nI i = nI (162 + i) := nI_add 162 i
    have h6 : 162 + i < 428 := by omega
    rw [s_M_check_16, if_neg h1]
    unfold ckL
    simp only [s_M_check_21, s_M_check_26, Option.bind_some, Option.bind_none, Option.toList_some, Option.toList_none, List.cons_append, List.nil_append, List.append_nil, mv_0, c_M_isPerson h, z1_0]
    by_cases hp : i < cn S
    · have hi8 : i < 8 := by omega
      rw [if_neg (not_not_intro (hasP_nI hI.1 hp))]
      simp only [s_M_check_29, s_M_check_33, s_M_check_39, s_M_check_45, Option.bind_some, Option.bind_none, Option.toList_some, Option.toList_none, List.cons_append, List.nil_append, List.append_nil, mv_0, mg_0_0, mg_0_1, mg_0_2, mg_0_3, mg_0_4, mg_0_5, mg_0_6, mg_0_7, mg_0_8, mg_0_9, mg_0_10, mg_0_11, mg_0_12, mg_0_13, mg_0_14, mg_0_15, mg_0_16, mg_0_17, mg_0_18, mg_0_19, mg_0_20, e6, mr1 h6, h.wt i (by omega), c_M_of2 h hi8]
      by_cases he : S.1 8 i = S.1 2 i
      · rw [if_pos he, if_neg (fun e => e.elim (fun z => absurd z (by omega)) (fun z => z he)), s_M_check_52, nI_add1]
        exact ih (i + 1) (by omega)
      · rw [if_neg he, if_pos (Or.inr he), s_M_check_48]
    · have hn : ¬ hasP S (nI i) := by
        intro e
        obtain ⟨q, hq, hq2, -⟩ := hasP_ix hI.1 e
        have : i = q := (nI_inj (by omega) (by omega)).mp hq
        omega
      rw [if_pos hn, if_pos (Or.inl (by omega)), s_M_check_48]
theorem ckL_ws (S : xS) (x : Int32) : ∀ k i : Nat, ckL (S.1, u1 S.2 2 x) k i = ckL S k i
  | 0, _ => rfl
  | k + 1, i => by
    unfold ckL
    rw [ckL_ws S x k (i + 1)]
    rfl
theorem okI_ws {S : xS} (hI : okI S) : okI (S.1, u1 S.2 2 0) := by
  obtain ⟨hS, hN, hw, hf, hz, ht, hg, o0, o1⟩ := hI
  exact ⟨hS, hN, ⟨rfl, by show ix (0 : Int32) ≤ 24; decide⟩, hf, hz, ht, hg, o0, o1⟩
theorem m_check (hI : okI S) (hM : RM M R S K) : MC X (d + 3) j_M_check [] M (sp_check R S K) := by
  intro σ
  have hl := hI.1.ln
  have h := hM.row
  obtain ⟨hw1, hw2⟩ := hI.2.2.1
  have hws : M.1 0 5 = nI (ix (S.2 2)) := h.ws.trans hw1
  have a1 := RS_ws h hl 0
  have hx := l_M_check (X := X) (d := d) (σ := σ) (okI_ws hI) (M := (u2 M.1 0 (upd (M.1 0) 5 0), M.2)) a1 hw2 (ix (S.2 2)) 0 (by omega)
  rw [ckL_ws] at hx
  rw [e_M_check]
  unfold sp_check
  refine ⟨_, RMr hM a1, ?_⟩
  simp only [s_M_check_0, s_M_check_4, s_M_check_6, s_M_check_11, s_M_check_14, Option.bind_some, Option.bind_none, Option.toList_some, Option.toList_none, List.cons_append, List.nil_append, List.append_nil, mv_0, mg_0_0, mg_0_1, mg_0_2, mg_0_3, mg_0_4, mg_0_5, mg_0_6, mg_0_7, mg_0_8, mg_0_9, mg_0_10, mg_0_11, mg_0_12, mg_0_13, mg_0_14, mg_0_15, mg_0_16, mg_0_17, mg_0_18, mg_0_19, mg_0_20, mrc_5, hws, mwc_5]
  exact hx
theorem m_count (hM : RM M R S K) (w : Int32) : MC X (d + 2) j_M_count [.int w] M (sp_count R S K w) := by
  intro σ
  have h := hM.row
  rw [e_M_count, s_M_count_0]
  unfold sp_count
  by_cases h0 : w = 0
  · rw [if_pos h0, h0, show xsw [(0, 44), (1, 51), (2, 58), (3, 65), (4, 72), (5, 79), (6, 84)] 91 (0 : Int32) = 44 from by decide +kernel]
    refine ⟨M, hM, ?_⟩
    simp only [s_M_count_44, s_M_count_51, s_M_count_58, s_M_count_65, s_M_count_72, s_M_count_79, s_M_count_84, s_M_count_91, s_M_count_48, s_M_count_55, s_M_count_62, s_M_count_69, s_M_count_76, s_M_count_83, s_M_count_88, s_M_count_97, s_M_count_50, s_M_count_57, s_M_count_64, s_M_count_71, s_M_count_78, s_M_count_90, Option.bind_some, Option.bind_none, Option.toList_some, Option.toList_none, List.cons_append, List.nil_append, List.append_nil, mv_0, mg_0_0, mg_0_1, mg_0_2, mg_0_3, mg_0_4, mg_0_5, mg_0_6, mg_0_7, mg_0_8, mg_0_9, mg_0_10, mg_0_11, mg_0_12, mg_0_13, mg_0_14, mg_0_15, mg_0_16, mg_0_17, mg_0_18, mg_0_19, mg_0_20, mrc_2, h.ct]
  rw [if_neg h0]
  by_cases h1 : w = 1
  · rw [if_pos h1, h1, show xsw [(0, 44), (1, 51), (2, 58), (3, 65), (4, 72), (5, 79), (6, 84)] 91 (1 : Int32) = 51 from by decide +kernel]
    refine ⟨M, hM, ?_⟩
    simp only [s_M_count_44, s_M_count_51, s_M_count_58, s_M_count_65, s_M_count_72, s_M_count_79, s_M_count_84, s_M_count_91, s_M_count_48, s_M_count_55, s_M_count_62, s_M_count_69, s_M_count_76, s_M_count_83, s_M_count_88, s_M_count_97, s_M_count_50, s_M_count_57, s_M_count_64, s_M_count_71, s_M_count_78, s_M_count_90, Option.bind_some, Option.bind_none, Option.toList_some, Option.toList_none, List.cons_append, List.nil_append, List.append_nil, mv_0, mg_0_0, mg_0_1, mg_0_2, mg_0_3, mg_0_4, mg_0_5, mg_0_6, mg_0_7, mg_0_8, mg_0_9, mg_0_10, mg_0_11, mg_0_12, mg_0_13, mg_0_14, mg_0_15, mg_0_16, mg_0_17, mg_0_18, mg_0_19, mg_0_20, mrc_3, h.se]
  rw [if_neg h1]
  by_cases h2 : w = 2
  · rw [if_pos h2, h2, show xsw [(0, 44), (1, 51), (2, 58), (3, 65), (4, 72), (5, 79), (6, 84)] 91 (2 : Int32) = 58 from by decide +kernel]
    refine ⟨M, hM, ?_⟩
    simp only [s_M_count_44, s_M_count_51, s_M_count_58, s_M_count_65, s_M_count_72, s_M_count_79, s_M_count_84, s_M_count_91, s_M_count_48, s_M_count_55, s_M_count_62, s_M_count_69, s_M_count_76, s_M_count_83, s_M_count_88, s_M_count_97, s_M_count_50, s_M_count_57, s_M_count_64, s_M_count_71, s_M_count_78, s_M_count_90, Option.bind_some, Option.bind_none, Option.toList_some, Option.toList_none, List.cons_append, List.nil_append, List.append_nil, mv_0, mg_0_0, mg_0_1, mg_0_2, mg_0_3, mg_0_4, mg_0_5, mg_0_6, mg_0_7, mg_0_8, mg_0_9, mg_0_10, mg_0_11, mg_0_12, mg_0_13, mg_0_14, mg_0_15, mg_0_16, mg_0_17, mg_0_18, mg_0_19, mg_0_20, mrc_0, h.dy]
  rw [if_neg h2]
  by_cases h3 : w = 3
  · rw [if_pos h3, h3, show xsw [(0, 44), (1, 51), (2, 58), (3, 65), (4, 72), (5, 79), (6, 84)] 91 (3 : Int32) = 65 from by decide +kernel]
    refine ⟨M, hM, ?_⟩
    simp only [s_M_count_44, s_M_count_51, s_M_count_58, s_M_count_65, s_M_count_72, s_M_count_79, s_M_count_84, s_M_count_91, s_M_count_48, s_M_count_55, s_M_count_62, s_M_count_69, s_M_count_76, s_M_count_83, s_M_count_88, s_M_count_97, s_M_count_50, s_M_count_57, s_M_count_64, s_M_count_71, s_M_count_78, s_M_count_90, Option.bind_some, Option.bind_none, Option.toList_some, Option.toList_none, List.cons_append, List.nil_append, List.append_nil, mv_0, mg_0_0, mg_0_1, mg_0_2, mg_0_3, mg_0_4, mg_0_5, mg_0_6, mg_0_7, mg_0_8, mg_0_9, mg_0_10, mg_0_11, mg_0_12, mg_0_13, mg_0_14, mg_0_15, mg_0_16, mg_0_17, mg_0_18, mg_0_19, mg_0_20, mrc_4, h.fd]
  rw [if_neg h3]
  by_cases h4 : w = 4
  · rw [if_pos h4, h4, show xsw [(0, 44), (1, 51), (2, 58), (3, 65), (4, 72), (5, 79), (6, 84)] 91 (4 : Int32) = 72 from by decide +kernel]
    refine ⟨M, hM, ?_⟩
    simp only [s_M_count_44, s_M_count_51, s_M_count_58, s_M_count_65, s_M_count_72, s_M_count_79, s_M_count_84, s_M_count_91, s_M_count_48, s_M_count_55, s_M_count_62, s_M_count_69, s_M_count_76, s_M_count_83, s_M_count_88, s_M_count_97, s_M_count_50, s_M_count_57, s_M_count_64, s_M_count_71, s_M_count_78, s_M_count_90, Option.bind_some, Option.bind_none, Option.toList_some, Option.toList_none, List.cons_append, List.nil_append, List.append_nil, mv_0, mg_0_0, mg_0_1, mg_0_2, mg_0_3, mg_0_4, mg_0_5, mg_0_6, mg_0_7, mg_0_8, mg_0_9, mg_0_10, mg_0_11, mg_0_12, mg_0_13, mg_0_14, mg_0_15, mg_0_16, mg_0_17, mg_0_18, mg_0_19, mg_0_20, mrc_5, h.ws]
  rw [if_neg h4]
  by_cases h5 : w = 5
  · rw [if_pos h5, h5, show xsw [(0, 44), (1, 51), (2, 58), (3, 65), (4, 72), (5, 79), (6, 84)] 91 (5 : Int32) = 79 from by decide +kernel]
    refine ⟨M, hM, ?_⟩
    simp only [s_M_count_44, s_M_count_51, s_M_count_58, s_M_count_65, s_M_count_72, s_M_count_79, s_M_count_84, s_M_count_91, s_M_count_48, s_M_count_55, s_M_count_62, s_M_count_69, s_M_count_76, s_M_count_83, s_M_count_88, s_M_count_97, s_M_count_50, s_M_count_57, s_M_count_64, s_M_count_71, s_M_count_78, s_M_count_90, Option.bind_some, Option.bind_none, Option.toList_some, Option.toList_none, List.cons_append, List.nil_append, List.append_nil, mv_0, mg_0_0, mg_0_1, mg_0_2, mg_0_3, mg_0_4, mg_0_5, mg_0_6, mg_0_7, mg_0_8, mg_0_9, mg_0_10, mg_0_11, mg_0_12, mg_0_13, mg_0_14, mg_0_15, mg_0_16, mg_0_17, mg_0_18, mg_0_19, mg_0_20, hM.trcd]
  rw [if_neg h5]
  by_cases h6 : w = 6
  · rw [if_pos h6, h6, show xsw [(0, 44), (1, 51), (2, 58), (3, 65), (4, 72), (5, 79), (6, 84)] 91 (6 : Int32) = 84 from by decide +kernel]
    refine ⟨M, hM, ?_⟩
    simp only [s_M_count_44, s_M_count_51, s_M_count_58, s_M_count_65, s_M_count_72, s_M_count_79, s_M_count_84, s_M_count_91, s_M_count_48, s_M_count_55, s_M_count_62, s_M_count_69, s_M_count_76, s_M_count_83, s_M_count_88, s_M_count_97, s_M_count_50, s_M_count_57, s_M_count_64, s_M_count_71, s_M_count_78, s_M_count_90, Option.bind_some, Option.bind_none, Option.toList_some, Option.toList_none, List.cons_append, List.nil_append, List.append_nil, mv_0, mg_0_0, mg_0_1, mg_0_2, mg_0_3, mg_0_4, mg_0_5, mg_0_6, mg_0_7, mg_0_8, mg_0_9, mg_0_10, mg_0_11, mg_0_12, mg_0_13, mg_0_14, mg_0_15, mg_0_16, mg_0_17, mg_0_18, mg_0_19, mg_0_20, mrc_1, h.zz]
  rw [if_neg h6]
  obtain ⟨N, hN, hx⟩ := c_M_error1 (X := X) (d := d) (σ := σ) hM
  refine ⟨N, hN, ?_⟩
  have e : xsw [(0, 44), (1, 51), (2, 58), (3, 65), (4, 72), (5, 79), (6, 84)] 91 w = 91 := by
    simp only [xsw, show (Int32.ofNat 0) = (0 : Int32) from rfl, show (Int32.ofNat 1) = (1 : Int32) from rfl, show (Int32.ofNat 2) = (2 : Int32) from rfl, show (Int32.ofNat 3) = (3 : Int32) from rfl, show (Int32.ofNat 4) = (4 : Int32) from rfl, show (Int32.ofNat 5) = (5 : Int32) from rfl, show (Int32.ofNat 6) = (6 : Int32) from rfl, if_neg h0, if_neg h1, if_neg h2, if_neg h3, if_neg h4, if_neg h5, if_neg h6]
  rw [e]
  simp only [s_M_count_44, s_M_count_51, s_M_count_58, s_M_count_65, s_M_count_72, s_M_count_79, s_M_count_84, s_M_count_91, s_M_count_48, s_M_count_55, s_M_count_62, s_M_count_69, s_M_count_76, s_M_count_83, s_M_count_88, s_M_count_97, s_M_count_50, s_M_count_57, s_M_count_64, s_M_count_71, s_M_count_78, s_M_count_90, Option.bind_some, Option.bind_none, Option.toList_some, Option.toList_none, List.cons_append, List.nil_append, List.append_nil, mv_0, hx]
  rfl
theorem m_image (hI : okI S) (hM : RM M R S K) : MC X (d + 2) j_M_image [] M (sp_image R S K) := by
  intro σ
  have hl := hI.1.ln
  obtain ⟨g, hg, hx⟩ := c_M_copy (X := X) (d := d) (σ := σ) (b1 := 0) (b2 := 1) (by decide) (by decide) (by decide) M
  have hx' : xcall X (d + 1) j_M_copyAll [.ref (sh 4 1), .ref (sh 4 2)] (ub σ 4 (mdC M)) = _ := hx
  rw [e_M_image]
  unfold sp_image
  refine ⟨(u2 M.1 1 g, u1 M.2 0 (R.2 0 + 1)), ⟨hM.row, fun _ => RS_cp hM.row hl hg, hM.errs, fun s hs => (hM.bits s hs).trans (u1q (by omega)).symm, fun s hs => (hM.size s hs).trans (u1q (by omega)).symm, hM.cell, rfl, hM.trcd, hM.trce⟩, ?_⟩
  simp only [s_M_image_0, s_M_image_4, s_M_image_8, s_M_image_11, s_M_image_16, s_M_image_21, s_M_image_25, Option.bind_some, Option.bind_none, Option.toList_some, Option.toList_none, List.cons_append, List.nil_append, List.append_nil, mv_0, mg_0_0, mg_0_1, mg_0_2, mg_0_3, mg_0_4, mg_0_5, mg_0_6, mg_0_7, mg_0_8, mg_0_9, mg_0_10, mg_0_11, mg_0_12, mg_0_13, mg_0_14, mg_0_15, mg_0_16, mg_0_17, mg_0_18, mg_0_19, mg_0_20, hx', hM.imgs, mp_0_3]
  rfl
theorem m_restore (hK : okI K) (hM : RM M R S K) : MC X (d + 2) j_M_restore [] M (sp_restore R S K) := by
  intro σ
  rw [e_M_restore]
  unfold sp_restore
  simp only [s_M_restore_0, s_M_restore_4, Option.bind_some, Option.bind_none, Option.toList_some, Option.toList_none, List.cons_append, List.nil_append, List.append_nil, mv_0, mg_0_0, mg_0_1, mg_0_2, mg_0_3, mg_0_4, mg_0_5, mg_0_6, mg_0_7, mg_0_8, mg_0_9, mg_0_10, mg_0_11, mg_0_12, mg_0_13, mg_0_14, mg_0_15, mg_0_16, mg_0_17, mg_0_18, mg_0_19, mg_0_20, hM.imgs]
  by_cases h0 : R.2 0 = 0
  · rw [if_pos h0, if_pos h0]
    obtain ⟨N, hN, hx⟩ := c_M_error2 (X := X) (d := d) (σ := σ) hM
    refine ⟨N, hN, ?_⟩
    simp only [s_M_restore_7, s_M_restore_13, Option.bind_some, Option.bind_none, Option.toList_some, Option.toList_none, List.cons_append, List.nil_append, List.append_nil, mv_0, hx]
    rfl
  · rw [if_neg h0, if_neg h0]
    obtain ⟨g, hg, hx⟩ := c_M_copy (X := X) (d := d) (σ := σ) (b1 := 1) (b2 := 0) (by decide) (by decide) (by decide) M
    have hx' : xcall X (d + 1) j_M_copyAll [.ref (sh 4 2), .ref (sh 4 1)] (ub σ 4 (mdC M)) = _ := hx
    have a1 := RS_cp (hM.kept h0) hK.1.ln hg
    refine ⟨_, RMr hM a1, ?_⟩
    simp only [s_M_restore_14, s_M_restore_18, s_M_restore_22, s_M_restore_25, s_M_restore_29, s_M_restore_31, Option.bind_some, Option.bind_none, Option.toList_some, Option.toList_none, List.cons_append, List.nil_append, List.append_nil, mv_0, mg_0_0, mg_0_1, mg_0_2, mg_0_3, mg_0_4, mg_0_5, mg_0_6, mg_0_7, mg_0_8, mg_0_9, mg_0_10, mg_0_11, mg_0_12, mg_0_13, mg_0_14, mg_0_15, mg_0_16, mg_0_17, mg_0_18, mg_0_19, mg_0_20, hx', mrc_0, u2_at, a1.dy]
end MCalls
