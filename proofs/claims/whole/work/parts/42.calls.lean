/-! ===== contracts: RopeShore's calls ===== -/
theorem i32_ix {v : Int32} {n : Nat} (hn : n + 1 < 2 ^ 31) (h : 0 ≤ v ∧ v ≤ nI n) : ∃ k : Nat, v = nI k ∧ k ≤ n := by
  rcases pk_ix v (n := n + 1) hn with h1 | h1 | ⟨j, hj, rfl⟩
  · exact absurd h1 (i32_nlt.mpr h.1)
  · have e := Int32.le_trans h1 h.2
    rw [nI_le_iff hn (by omega)] at e
    omega
  · exact ⟨j, rfl, by omega⟩
section RCalls
variable {X : xX} {d : Nat} {R S K : xS} {B4 : List xE}
theorem q_person (hS : okS S) (km : Int32) : CQ X (d + 3) j_R_person [.ref (sh 0 0), .int km] R S K B4 (sp_person R S K km) := by
  refine CQ.of fun V Z T Y U => ?_
  rw [e_R_person]
  unfold sp_person
  simp only [s_R_person_0, s_R_person_4, Option.bind_some, Option.bind_none, Option.toList_some, Option.toList_none, List.cons_append, List.nil_append, List.append_nil, c_R_isKindAndNumber, z1_0]
  by_cases h1 : 0 ≤ km ∧ km ≤ 69
  · rw [if_neg (fun e => e h1), if_neg (fun e => e h1)]
    simp only [s_R_person_13, s_R_person_31, s_R_person_17, s_R_person_35, s_R_person_7, s_R_person_20, s_R_person_38, s_R_person_12, s_R_person_25, s_R_person_43, s_R_person_30, s_R_person_48, s_R_person_52, s_R_person_58, Option.bind_some, Option.bind_none, Option.toList_some, Option.toList_none, List.cons_append, List.nil_append, List.append_nil, nv_0, ng_0_0, ng_0_1, ng_0_2, ng_0_3, ng_0_4, ng_0_5, ng_0_6, ng_0_7, ng_0_8, ng_0_9, ng_0_10, ng_0_11, ng_0_12, ng_0_13, ng_0_14, rv_0, rg_0_0, rg_0_1, rg_0_2, rg_0_3, rg_0_4, rg_0_5, rg_0_6, rg_0_7, rg_0_8, rg_0_9, rv_17, rg_17_0, rg_17_1, c_R_error4]
    by_cases h2 : S.2 0 < 8
    · obtain ⟨hc1, hc2⟩ := hS.1
      have hc8 : cn S < 8 := by
        rw [hc1] at h2
        exact (nI_lt_iff (a := cn S) (b := 8) (by omega) (by omega)).mp h2
      have hk := n_setKind (X := X) (d := d + 1) (B0 := rsC R V) (B2 := shC 2 T Y) (B3 := shC 3 K U) (B4 := B4) (S := S) (Z := Z) hc8 km
      rw [← hc1] at hk
      rw [if_pos h2, if_neg (fun e => e h2)]
      simp only [hk, s_R_person_13, s_R_person_31, s_R_person_17, s_R_person_35, s_R_person_7, s_R_person_20, s_R_person_38, s_R_person_12, s_R_person_25, s_R_person_43, s_R_person_30, s_R_person_48, s_R_person_52, s_R_person_58, Option.bind_some, Option.bind_none, Option.toList_some, Option.toList_none, List.cons_append, List.nil_append, List.append_nil, nv_0, ng_0_0, ng_0_1, ng_0_2, ng_0_3, ng_0_4, ng_0_5, ng_0_6, ng_0_7, ng_0_8, ng_0_9, ng_0_10, ng_0_11, ng_0_12, ng_0_13, ng_0_14, rv_0, rg_0_0, rg_0_1, rg_0_2, rg_0_3, rg_0_4, rg_0_5, rg_0_6, rg_0_7, rg_0_8, rg_0_9, rv_17, rg_17_0, rg_17_1, np_0_9]
    · rw [if_neg h2, if_pos h2]
      rfl
  · rw [if_pos h1, if_pos h1]
    simp only [s_R_person_13, s_R_person_31, s_R_person_17, s_R_person_35, s_R_person_7, s_R_person_20, s_R_person_38, s_R_person_12, s_R_person_25, s_R_person_43, s_R_person_30, s_R_person_48, s_R_person_52, s_R_person_58, Option.bind_some, Option.bind_none, Option.toList_some, Option.toList_none, List.cons_append, List.nil_append, List.append_nil, rv_0, rg_0_0, rg_0_1, rg_0_2, rg_0_3, rg_0_4, rg_0_5, rg_0_6, rg_0_7, rg_0_8, rg_0_9, rv_17, rg_17_0, rg_17_1, c_R_error1]
    rfl
theorem q_become (hS : okS S) (p km : Int32) : CQ X (d + 3) j_R_become [.ref (sh 0 0), .int p, .int km] R S K B4 (sp_become R S K p km) := by
  refine CQ.of fun V Z T Y U => ?_
  rw [e_R_become]
  unfold sp_become
  simp only [s_R_become_0, s_R_become_4, s_R_become_8, s_R_become_11, s_R_become_15, s_R_become_18, s_R_become_23, Option.bind_some, Option.bind_none, Option.toList_some, Option.toList_none, List.cons_append, List.nil_append, List.append_nil, nv_0, ng_0_0, ng_0_1, ng_0_2, ng_0_3, ng_0_4, ng_0_5, ng_0_6, ng_0_7, ng_0_8, ng_0_9, ng_0_10, ng_0_11, ng_0_12, ng_0_13, ng_0_14, rv_0, rg_0_0, rg_0_1, rg_0_2, rg_0_3, rg_0_4, rg_0_5, rg_0_6, rg_0_7, rg_0_8, rg_0_9, rv_17, rg_17_0, rg_17_1, n_has, c_R_isKindAndNumber, c_R_error1, z1_0]
  by_cases h1 : hasP S p
  · by_cases h2 : 0 ≤ km ∧ km ≤ 69
    · rw [if_neg (fun e => e h1), if_neg (fun e => e h2), if_neg (fun e => e ⟨h1, h2⟩)]
      obtain ⟨k, rfl, -, hk8⟩ := hasP_ix hS h1
      simp only [s_R_become_0, s_R_become_18, s_R_become_24, s_R_become_4, s_R_become_23, s_R_become_28, s_R_become_8, s_R_become_31, s_R_become_11, s_R_become_33, s_R_become_15, s_R_become_38, s_R_become_43, Option.bind_some, Option.bind_none, Option.toList_some, Option.toList_none, List.cons_append, List.nil_append, List.append_nil, nv_0, ng_0_0, ng_0_1, ng_0_2, ng_0_3, ng_0_4, ng_0_5, ng_0_6, ng_0_7, ng_0_8, ng_0_9, ng_0_10, ng_0_11, ng_0_12, ng_0_13, ng_0_14, rv_0, rg_0_0, rg_0_1, rg_0_2, rg_0_3, rg_0_4, rg_0_5, rg_0_6, rg_0_7, rg_0_8, rg_0_9, rv_17, rg_17_0, rg_17_1, nr_9 hk8, n_setKind hk8, ix_nI (Nat.lt_trans hk8 (by decide))]
    · rw [if_neg (fun e => e h1), if_pos h2, if_pos (fun e => h2 e.2)]
      rfl
  · rw [if_pos h1, if_pos (fun e => h1 e.1)]
    rfl
theorem q_weather (v : Int32) : CQ X (d + 2) j_R_weather [.ref (sh 0 0), .int v] R S K B4 (sp_weather R S K v) := by
  refine CQ.of fun V Z T Y U => ?_
  rw [e_R_weather]
  unfold sp_weather
  simp only [s_R_weather_0, s_R_weather_16, s_R_weather_7, s_R_weather_20, s_R_weather_10, s_R_weather_23, s_R_weather_15, s_R_weather_28, s_R_weather_32, Option.bind_some, Option.bind_none, Option.toList_some, Option.toList_none, List.cons_append, List.nil_append, List.append_nil, nv_0, ng_0_0, ng_0_1, ng_0_2, ng_0_3, ng_0_4, ng_0_5, ng_0_6, ng_0_7, ng_0_8, ng_0_9, ng_0_10, ng_0_11, ng_0_12, ng_0_13, ng_0_14, rv_0, rg_0_0, rg_0_1, rg_0_2, rg_0_3, rg_0_4, rg_0_5, rg_0_6, rg_0_7, rg_0_8, rg_0_9, rv_17, rg_17_0, rg_17_1, c_R_within, c_R_error1, z1_0, np_0_12]
  by_cases h1 : 0 ≤ v ∧ v ≤ 9
  · rw [if_neg (fun e => e h1), if_neg (fun e => e h1)]
  · rw [if_pos h1, if_pos h1]
    rfl
theorem q_seed (v : Int32) : CQ X (d + 1) j_R_seed [.ref (sh 0 0), .int v] R S K B4 (sp_seed R S K v) := by
  refine CQ.of fun V Z T Y U => ?_
  rw [e_R_seed]
  unfold sp_seed
  simp only [s_R_seed_0, s_R_seed_4, s_R_seed_7, s_R_seed_12, s_R_seed_16, Option.bind_some, Option.bind_none, Option.toList_some, Option.toList_none, List.cons_append, List.nil_append, List.append_nil, nv_0, ng_0_0, ng_0_1, ng_0_2, ng_0_3, ng_0_4, ng_0_5, ng_0_6, ng_0_7, ng_0_8, ng_0_9, ng_0_10, ng_0_11, ng_0_12, ng_0_13, ng_0_14, rv_0, rg_0_0, rg_0_1, rg_0_2, rg_0_3, rg_0_4, rg_0_5, rg_0_6, rg_0_7, rg_0_8, rg_0_9, rv_17, rg_17_0, rg_17_1, np_0_14]
theorem q_swim (hS : okS S) (p f : Int32) : CQ X (d + 3) j_R_swim [.ref (sh 0 0), .int p, .int f] R S K B4 (sp_swim R S K p f) := by
  refine CQ.of fun V Z T Y U => ?_
  rw [e_R_swim]
  unfold sp_swim
  simp only [s_R_swim_0, s_R_swim_4, s_R_swim_8, s_R_swim_11, s_R_swim_19, s_R_swim_22, s_R_swim_27, Option.bind_some, Option.bind_none, Option.toList_some, Option.toList_none, List.cons_append, List.nil_append, List.append_nil, nv_0, ng_0_0, ng_0_1, ng_0_2, ng_0_3, ng_0_4, ng_0_5, ng_0_6, ng_0_7, ng_0_8, ng_0_9, ng_0_10, ng_0_11, ng_0_12, ng_0_13, ng_0_14, rv_0, rg_0_0, rg_0_1, rg_0_2, rg_0_3, rg_0_4, rg_0_5, rg_0_6, rg_0_7, rg_0_8, rg_0_9, rv_17, rg_17_0, rg_17_1, n_has, c_R_within, c_R_error1, z1_0]
  by_cases h1 : hasP S p
  · by_cases h2 : 0 ≤ f ∧ f ≤ 500
    · rw [if_neg (fun e => e h1), if_neg (fun e => e h2), if_neg (fun e => e ⟨h1, h2⟩)]
      obtain ⟨k, rfl, -, hk8⟩ := hasP_ix hS h1
      simp only [s_R_swim_0, s_R_swim_22, s_R_swim_28, s_R_swim_46, s_R_swim_4, s_R_swim_27, s_R_swim_32, s_R_swim_50, s_R_swim_8, s_R_swim_35, s_R_swim_53, s_R_swim_11, s_R_swim_37, s_R_swim_55, s_R_swim_19, s_R_swim_40, s_R_swim_60, s_R_swim_45, s_R_swim_63, s_R_swim_66, Option.bind_some, Option.bind_none, Option.toList_some, Option.toList_none, List.cons_append, List.nil_append, List.append_nil, nv_0, ng_0_0, ng_0_1, ng_0_2, ng_0_3, ng_0_4, ng_0_5, ng_0_6, ng_0_7, ng_0_8, ng_0_9, ng_0_10, ng_0_11, ng_0_12, ng_0_13, ng_0_14, rv_0, rg_0_0, rg_0_1, rg_0_2, rg_0_3, rg_0_4, rg_0_5, rg_0_6, rg_0_7, rg_0_8, rg_0_9, rv_17, rg_17_0, rg_17_1, nr_12 hk8, nr_11 hk8, nw_11 hk8, c_R_error3, ix_nI (Nat.lt_trans hk8 (by decide))]
      by_cases h3 : S.1 3 k = 0
      · rw [if_pos h3, if_neg (fun e => e h3)]
        rfl
      · rw [if_neg h3, if_pos h3]
        rfl
    · rw [if_neg (fun e => e h1), if_pos h2, if_pos (fun e => h2 e.2)]
      rfl
  · rw [if_pos h1, if_pos (fun e => h1 e.1)]
    rfl
theorem q_saves (hS : okS S) (p : Int32) : CQ X (d + 3) j_R_saves [.ref (sh 0 0), .int p] R S K B4 (sp_saves R S K p) := by
  refine CQ.of fun V Z T Y U => ?_
  rw [e_R_saves]
  unfold sp_saves
  simp only [s_R_saves_0, s_R_saves_4, s_R_saves_8, s_R_saves_11, s_R_saves_16, Option.bind_some, Option.bind_none, Option.toList_some, Option.toList_none, List.cons_append, List.nil_append, List.append_nil, nv_0, ng_0_0, ng_0_1, ng_0_2, ng_0_3, ng_0_4, ng_0_5, ng_0_6, ng_0_7, ng_0_8, ng_0_9, ng_0_10, ng_0_11, ng_0_12, ng_0_13, ng_0_14, rv_0, rg_0_0, rg_0_1, rg_0_2, rg_0_3, rg_0_4, rg_0_5, rg_0_6, rg_0_7, rg_0_8, rg_0_9, rv_17, rg_17_0, rg_17_1, n_has, c_R_error1, z1_0]
  by_cases h1 : hasP S p
  · rw [if_neg (fun e => e h1), if_neg (fun e => e h1)]
    obtain ⟨k, rfl, -, hk8⟩ := hasP_ix hS h1
    simp only [s_R_saves_0, s_R_saves_17, s_R_saves_33, s_R_saves_34, s_R_saves_4, s_R_saves_21, s_R_saves_39, s_R_saves_8, s_R_saves_24, s_R_saves_42, s_R_saves_11, s_R_saves_26, s_R_saves_45, s_R_saves_16, s_R_saves_29, s_R_saves_49, s_R_saves_52, s_R_saves_55, Option.bind_some, Option.bind_none, Option.toList_some, Option.toList_none, List.cons_append, List.nil_append, List.append_nil, nv_0, ng_0_0, ng_0_1, ng_0_2, ng_0_3, ng_0_4, ng_0_5, ng_0_6, ng_0_7, ng_0_8, ng_0_9, ng_0_10, ng_0_11, ng_0_12, ng_0_13, ng_0_14, rv_0, rg_0_0, rg_0_1, rg_0_2, rg_0_3, rg_0_4, rg_0_5, rg_0_6, rg_0_7, rg_0_8, rg_0_9, rv_17, rg_17_0, rg_17_1, nr_12 hk8, nw_12 hk8, nw_11 hk8, ix_nI (Nat.lt_trans hk8 (by decide))]
    by_cases h3 : S.1 3 k = 0
    · rw [if_pos h3, if_pos h3]
      rfl
    · rw [if_neg h3, if_neg h3]
      rfl
  · rw [if_pos h1, if_pos h1]
    rfl
theorem q_tells (hS : okS S) (p o v : Int32) : CQ X (d + 4) j_R_tells [.ref (sh 0 0), .int p, .int o, .int v] R S K B4 (sp_tells R S K p o v) := by
  refine CQ.of fun V Z T Y U => ?_
  rw [e_R_tells]
  unfold sp_tells
  simp only [s_R_tells_0, s_R_tells_6, s_R_tells_9, s_R_tells_16, s_R_tells_19, s_R_tells_24, Option.bind_some, Option.bind_none, Option.toList_some, Option.toList_none, List.cons_append, List.nil_append, List.append_nil, nv_0, ng_0_0, ng_0_1, ng_0_2, ng_0_3, ng_0_4, ng_0_5, ng_0_6, ng_0_7, ng_0_8, ng_0_9, ng_0_10, ng_0_11, ng_0_12, ng_0_13, ng_0_14, rv_0, rg_0_0, rg_0_1, rg_0_2, rg_0_3, rg_0_4, rg_0_5, rg_0_6, rg_0_7, rg_0_8, rg_0_9, rv_17, rg_17_0, rg_17_1, c_R_arePair, c_R_within, c_R_error1, z1_0]
  by_cases h1 : hasP S p ∧ hasP S o ∧ p ≠ o
  · by_cases h2 : 0 ≤ v ∧ v ≤ 99
    · rw [if_neg (fun e => e h1), if_neg (fun e => e h2), if_neg (fun e => e ⟨h1, h2⟩)]
      obtain ⟨k, rfl, -, hk8⟩ := hasP_ix hS h1.1
      obtain ⟨i, rfl, -, hi8⟩ := hasP_ix hS h1.2.1
      simp only [s_R_tells_0, s_R_tells_19, s_R_tells_25, s_R_tells_6, s_R_tells_24, s_R_tells_29, s_R_tells_9, s_R_tells_34, s_R_tells_16, s_R_tells_40, s_R_tells_46, Option.bind_some, Option.bind_none, Option.toList_some, Option.toList_none, List.cons_append, List.nil_append, List.append_nil, nv_0, ng_0_0, ng_0_1, ng_0_2, ng_0_3, ng_0_4, ng_0_5, ng_0_6, ng_0_7, ng_0_8, ng_0_9, ng_0_10, ng_0_11, ng_0_12, ng_0_13, ng_0_14, rv_0, rg_0_0, rg_0_1, rg_0_2, rg_0_3, rg_0_4, rg_0_5, rg_0_6, rg_0_7, rg_0_8, rg_0_9, rv_17, rg_17_0, rg_17_1, n_said hk8 hi8, n_say hk8 hi8, ix_nI (Nat.lt_trans hk8 (by decide)), ix_nI (Nat.lt_trans hi8 (by decide))]
    · rw [if_neg (fun e => e h1), if_pos h2, if_pos (fun e => h2 e.2)]
      rfl
  · rw [if_pos h1, if_pos (fun e => h1 e.1)]
    rfl
theorem q_rope (hS : okS S) (p o : Int32) : CQ X (d + 5) j_R_rope [.ref (sh 0 0), .int p, .int o] R S K B4 (sp_rope R S K p o) := by
  intro V Z T Y U hT
  show ∃ V' Z' T' Y' U' : xS, okN T' ∧ xcall X (d + 5) j_R_rope [.ref (sh 0 0), .int p, .int o] (w5 (rsC R V) (shC 1 S Z) (shC 2 T Y) (shC 3 K U) B4) = _
  rw [e_R_rope]
  unfold sp_rope
  simp only [s_R_rope_0, s_R_rope_6, s_R_rope_9, s_R_rope_14, Option.bind_some, Option.bind_none, Option.toList_some, Option.toList_none, List.cons_append, List.nil_append, List.append_nil, nv_0, ng_0_0, ng_0_1, ng_0_2, ng_0_3, ng_0_4, ng_0_5, ng_0_6, ng_0_7, ng_0_8, ng_0_9, ng_0_10, ng_0_11, ng_0_12, ng_0_13, ng_0_14, rv_0, rg_0_0, rg_0_1, rg_0_2, rg_0_3, rg_0_4, rg_0_5, rg_0_6, rg_0_7, rg_0_8, rg_0_9, rv_17, rg_17_0, rg_17_1, c_R_arePair, c_R_error1, z1_0]
  by_cases h1 : hasP S p ∧ hasP S o ∧ p ≠ o
  · rw [if_neg (fun e => e h1), if_neg (fun e => e h1)]
    obtain ⟨k, rfl, -, hk8⟩ := hasP_ix hS h1.1
    obtain ⟨i, rfl, -, hi8⟩ := hasP_ix hS h1.2.1
    obtain ⟨Z', hr⟩ := n_ropeBy (X := X) (d := d) (B0 := rsC R V) (B2 := shC 2 T Y) (B3 := shC 3 K U) (B4 := B4) hS Z hk8 hi8 (S.1 4 (8 * k + i))
    refine ⟨V, Z', T, Y, U, hT, ?_⟩
    simp only [s_R_rope_0, s_R_rope_15, s_R_rope_6, s_R_rope_19, s_R_rope_9, s_R_rope_25, s_R_rope_14, s_R_rope_30, s_R_rope_33, Option.bind_some, Option.bind_none, Option.toList_some, Option.toList_none, List.cons_append, List.nil_append, List.append_nil, nv_0, ng_0_0, ng_0_1, ng_0_2, ng_0_3, ng_0_4, ng_0_5, ng_0_6, ng_0_7, ng_0_8, ng_0_9, ng_0_10, ng_0_11, ng_0_12, ng_0_13, ng_0_14, rv_0, rg_0_0, rg_0_1, rg_0_2, rg_0_3, rg_0_4, rg_0_5, rg_0_6, rg_0_7, rg_0_8, rg_0_9, rv_17, rg_17_0, rg_17_1, n_said hk8 hi8, hr, ix_nI (Nat.lt_trans hk8 (by decide)), ix_nI (Nat.lt_trans hi8 (by decide))]
    rfl
  · rw [if_pos h1, if_pos h1]
    exact ⟨V, Z, T, Y, U, hT, rfl⟩
theorem q_told (k : Int32) : CQ X (d + 2) j_R_told [.ref (sh 0 0), .int k] R S K B4 (sp_told R S K k) := by
  refine CQ.of fun V Z T Y U => ?_
  rw [e_R_told]
  unfold sp_told
  simp only [s_R_told_0, s_R_told_7, s_R_told_10, s_R_told_15, Option.bind_some, Option.bind_none, Option.toList_some, Option.toList_none, List.cons_append, List.nil_append, List.append_nil, rv_0, rg_0_0, rg_0_1, rg_0_2, rg_0_3, rg_0_4, rg_0_5, rg_0_6, rg_0_7, rg_0_8, rg_0_9, rv_17, rg_17_0, rg_17_1, c_R_within, c_R_error1, z1_0]
  by_cases h1 : 1 ≤ k ∧ k ≤ 6
  · rw [if_neg (fun e => e h1), if_neg (fun e => e h1)]
    obtain ⟨j, rfl, hj⟩ := i32_ix (v := k) (n := 6) (by decide) ⟨Int32.le_trans (by decide) h1.1, h1.2⟩
    have hj7 : j < 7 := by omega
    simp only [s_R_told_0, s_R_told_16, s_R_told_7, s_R_told_20, s_R_told_10, s_R_told_22, s_R_told_15, Option.bind_some, Option.bind_none, Option.toList_some, Option.toList_none, List.cons_append, List.nil_append, List.append_nil, rv_0, rg_0_0, rg_0_1, rg_0_2, rg_0_3, rg_0_4, rg_0_5, rg_0_6, rg_0_7, rg_0_8, rg_0_9, rv_17, rg_17_0, rg_17_1, rr_2 hj7, ix_nI (Nat.lt_trans hj7 (by decide))]
  · rw [if_pos h1, if_pos h1]
    rfl
theorem q_count (w : Int32) : CQ X (d + 2) j_R_count [.ref (sh 0 0), .int w] R S K B4 (sp_count R S K w) := by
  refine CQ.of fun V Z T Y U => ?_
  rw [e_R_count, s_R_count_0]
  unfold sp_count
  by_cases h0 : w = 0
  · simp only [xsw, if_pos h0, show (Int32.ofNat 0) = (0 : Int32) from rfl, s_R_count_44, s_R_count_52, s_R_count_60, s_R_count_68, s_R_count_76, s_R_count_84, s_R_count_92, s_R_count_100, s_R_count_48, s_R_count_56, s_R_count_64, s_R_count_72, s_R_count_80, s_R_count_88, s_R_count_96, s_R_count_105, s_R_count_51, s_R_count_59, s_R_count_67, s_R_count_75, s_R_count_83, s_R_count_91, s_R_count_99, Option.bind_some, Option.bind_none, Option.toList_some, Option.toList_none, List.cons_append, List.nil_append, List.append_nil, rv_0, rg_0_0, rg_0_1, rg_0_2, rg_0_3, rg_0_4, rg_0_5, rg_0_6, rg_0_7, rg_0_8, rg_0_9, rv_17, rg_17_0, rg_17_1, nv_0, ng_0_0, ng_0_1, ng_0_2, ng_0_3, ng_0_4, ng_0_5, ng_0_6, ng_0_7, ng_0_8, ng_0_9, ng_0_10, ng_0_11, ng_0_12, ng_0_13, ng_0_14]
  rw [if_neg h0]
  by_cases h1 : w = 1
  · simp only [xsw, if_neg h0, if_pos h1, show (Int32.ofNat 0) = (0 : Int32) from rfl, show (Int32.ofNat 1) = (1 : Int32) from rfl, s_R_count_44, s_R_count_52, s_R_count_60, s_R_count_68, s_R_count_76, s_R_count_84, s_R_count_92, s_R_count_100, s_R_count_48, s_R_count_56, s_R_count_64, s_R_count_72, s_R_count_80, s_R_count_88, s_R_count_96, s_R_count_105, s_R_count_51, s_R_count_59, s_R_count_67, s_R_count_75, s_R_count_83, s_R_count_91, s_R_count_99, Option.bind_some, Option.bind_none, Option.toList_some, Option.toList_none, List.cons_append, List.nil_append, List.append_nil, rv_0, rg_0_0, rg_0_1, rg_0_2, rg_0_3, rg_0_4, rg_0_5, rg_0_6, rg_0_7, rg_0_8, rg_0_9, rv_17, rg_17_0, rg_17_1, nv_0, ng_0_0, ng_0_1, ng_0_2, ng_0_3, ng_0_4, ng_0_5, ng_0_6, ng_0_7, ng_0_8, ng_0_9, ng_0_10, ng_0_11, ng_0_12, ng_0_13, ng_0_14]
  rw [if_neg h1]
  by_cases h2 : w = 2
  · simp only [xsw, if_neg h0, if_neg h1, if_pos h2, show (Int32.ofNat 0) = (0 : Int32) from rfl, show (Int32.ofNat 1) = (1 : Int32) from rfl, show (Int32.ofNat 2) = (2 : Int32) from rfl, s_R_count_44, s_R_count_52, s_R_count_60, s_R_count_68, s_R_count_76, s_R_count_84, s_R_count_92, s_R_count_100, s_R_count_48, s_R_count_56, s_R_count_64, s_R_count_72, s_R_count_80, s_R_count_88, s_R_count_96, s_R_count_105, s_R_count_51, s_R_count_59, s_R_count_67, s_R_count_75, s_R_count_83, s_R_count_91, s_R_count_99, Option.bind_some, Option.bind_none, Option.toList_some, Option.toList_none, List.cons_append, List.nil_append, List.append_nil, rv_0, rg_0_0, rg_0_1, rg_0_2, rg_0_3, rg_0_4, rg_0_5, rg_0_6, rg_0_7, rg_0_8, rg_0_9, rv_17, rg_17_0, rg_17_1, nv_0, ng_0_0, ng_0_1, ng_0_2, ng_0_3, ng_0_4, ng_0_5, ng_0_6, ng_0_7, ng_0_8, ng_0_9, ng_0_10, ng_0_11, ng_0_12, ng_0_13, ng_0_14]
  rw [if_neg h2]
  by_cases h3 : w = 3
  · simp only [xsw, if_neg h0, if_neg h1, if_neg h2, if_pos h3, show (Int32.ofNat 0) = (0 : Int32) from rfl, show (Int32.ofNat 1) = (1 : Int32) from rfl, show (Int32.ofNat 2) = (2 : Int32) from rfl, show (Int32.ofNat 3) = (3 : Int32) from rfl, s_R_count_44, s_R_count_52, s_R_count_60, s_R_count_68, s_R_count_76, s_R_count_84, s_R_count_92, s_R_count_100, s_R_count_48, s_R_count_56, s_R_count_64, s_R_count_72, s_R_count_80, s_R_count_88, s_R_count_96, s_R_count_105, s_R_count_51, s_R_count_59, s_R_count_67, s_R_count_75, s_R_count_83, s_R_count_91, s_R_count_99, Option.bind_some, Option.bind_none, Option.toList_some, Option.toList_none, List.cons_append, List.nil_append, List.append_nil, rv_0, rg_0_0, rg_0_1, rg_0_2, rg_0_3, rg_0_4, rg_0_5, rg_0_6, rg_0_7, rg_0_8, rg_0_9, rv_17, rg_17_0, rg_17_1, nv_0, ng_0_0, ng_0_1, ng_0_2, ng_0_3, ng_0_4, ng_0_5, ng_0_6, ng_0_7, ng_0_8, ng_0_9, ng_0_10, ng_0_11, ng_0_12, ng_0_13, ng_0_14]
  rw [if_neg h3]
  by_cases h4 : w = 4
  · simp only [xsw, if_neg h0, if_neg h1, if_neg h2, if_neg h3, if_pos h4, show (Int32.ofNat 0) = (0 : Int32) from rfl, show (Int32.ofNat 1) = (1 : Int32) from rfl, show (Int32.ofNat 2) = (2 : Int32) from rfl, show (Int32.ofNat 3) = (3 : Int32) from rfl, show (Int32.ofNat 4) = (4 : Int32) from rfl, s_R_count_44, s_R_count_52, s_R_count_60, s_R_count_68, s_R_count_76, s_R_count_84, s_R_count_92, s_R_count_100, s_R_count_48, s_R_count_56, s_R_count_64, s_R_count_72, s_R_count_80, s_R_count_88, s_R_count_96, s_R_count_105, s_R_count_51, s_R_count_59, s_R_count_67, s_R_count_75, s_R_count_83, s_R_count_91, s_R_count_99, Option.bind_some, Option.bind_none, Option.toList_some, Option.toList_none, List.cons_append, List.nil_append, List.append_nil, rv_0, rg_0_0, rg_0_1, rg_0_2, rg_0_3, rg_0_4, rg_0_5, rg_0_6, rg_0_7, rg_0_8, rg_0_9, rv_17, rg_17_0, rg_17_1, nv_0, ng_0_0, ng_0_1, ng_0_2, ng_0_3, ng_0_4, ng_0_5, ng_0_6, ng_0_7, ng_0_8, ng_0_9, ng_0_10, ng_0_11, ng_0_12, ng_0_13, ng_0_14]
  rw [if_neg h4]
  by_cases h5 : w = 5
  · simp only [xsw, if_neg h0, if_neg h1, if_neg h2, if_neg h3, if_neg h4, if_pos h5, show (Int32.ofNat 0) = (0 : Int32) from rfl, show (Int32.ofNat 1) = (1 : Int32) from rfl, show (Int32.ofNat 2) = (2 : Int32) from rfl, show (Int32.ofNat 3) = (3 : Int32) from rfl, show (Int32.ofNat 4) = (4 : Int32) from rfl, show (Int32.ofNat 5) = (5 : Int32) from rfl, s_R_count_44, s_R_count_52, s_R_count_60, s_R_count_68, s_R_count_76, s_R_count_84, s_R_count_92, s_R_count_100, s_R_count_48, s_R_count_56, s_R_count_64, s_R_count_72, s_R_count_80, s_R_count_88, s_R_count_96, s_R_count_105, s_R_count_51, s_R_count_59, s_R_count_67, s_R_count_75, s_R_count_83, s_R_count_91, s_R_count_99, Option.bind_some, Option.bind_none, Option.toList_some, Option.toList_none, List.cons_append, List.nil_append, List.append_nil, rv_0, rg_0_0, rg_0_1, rg_0_2, rg_0_3, rg_0_4, rg_0_5, rg_0_6, rg_0_7, rg_0_8, rg_0_9, rv_17, rg_17_0, rg_17_1, nv_0, ng_0_0, ng_0_1, ng_0_2, ng_0_3, ng_0_4, ng_0_5, ng_0_6, ng_0_7, ng_0_8, ng_0_9, ng_0_10, ng_0_11, ng_0_12, ng_0_13, ng_0_14]
  rw [if_neg h5]
  by_cases h6 : w = 6
  · simp only [xsw, if_neg h0, if_neg h1, if_neg h2, if_neg h3, if_neg h4, if_neg h5, if_pos h6, show (Int32.ofNat 0) = (0 : Int32) from rfl, show (Int32.ofNat 1) = (1 : Int32) from rfl, show (Int32.ofNat 2) = (2 : Int32) from rfl, show (Int32.ofNat 3) = (3 : Int32) from rfl, show (Int32.ofNat 4) = (4 : Int32) from rfl, show (Int32.ofNat 5) = (5 : Int32) from rfl, show (Int32.ofNat 6) = (6 : Int32) from rfl, s_R_count_44, s_R_count_52, s_R_count_60, s_R_count_68, s_R_count_76, s_R_count_84, s_R_count_92, s_R_count_100, s_R_count_48, s_R_count_56, s_R_count_64, s_R_count_72, s_R_count_80, s_R_count_88, s_R_count_96, s_R_count_105, s_R_count_51, s_R_count_59, s_R_count_67, s_R_count_75, s_R_count_83, s_R_count_91, s_R_count_99, Option.bind_some, Option.bind_none, Option.toList_some, Option.toList_none, List.cons_append, List.nil_append, List.append_nil, rv_0, rg_0_0, rg_0_1, rg_0_2, rg_0_3, rg_0_4, rg_0_5, rg_0_6, rg_0_7, rg_0_8, rg_0_9, rv_17, rg_17_0, rg_17_1, nv_0, ng_0_0, ng_0_1, ng_0_2, ng_0_3, ng_0_4, ng_0_5, ng_0_6, ng_0_7, ng_0_8, ng_0_9, ng_0_10, ng_0_11, ng_0_12, ng_0_13, ng_0_14]
  rw [if_neg h6]
  simp only [xsw, if_neg h0, if_neg h1, if_neg h2, if_neg h3, if_neg h4, if_neg h5, if_neg h6, show (Int32.ofNat 0) = (0 : Int32) from rfl, show (Int32.ofNat 1) = (1 : Int32) from rfl, show (Int32.ofNat 2) = (2 : Int32) from rfl, show (Int32.ofNat 3) = (3 : Int32) from rfl, show (Int32.ofNat 4) = (4 : Int32) from rfl, show (Int32.ofNat 5) = (5 : Int32) from rfl, show (Int32.ofNat 6) = (6 : Int32) from rfl, s_R_count_44, s_R_count_52, s_R_count_60, s_R_count_68, s_R_count_76, s_R_count_84, s_R_count_92, s_R_count_100, s_R_count_48, s_R_count_56, s_R_count_64, s_R_count_72, s_R_count_80, s_R_count_88, s_R_count_96, s_R_count_105, s_R_count_51, s_R_count_59, s_R_count_67, s_R_count_75, s_R_count_83, s_R_count_91, s_R_count_99, Option.bind_some, Option.bind_none, Option.toList_some, Option.toList_none, List.cons_append, List.nil_append, List.append_nil, rv_0, rg_0_0, rg_0_1, rg_0_2, rg_0_3, rg_0_4, rg_0_5, rg_0_6, rg_0_7, rg_0_8, rg_0_9, rv_17, rg_17_0, rg_17_1, nv_0, ng_0_0, ng_0_1, ng_0_2, ng_0_3, ng_0_4, ng_0_5, ng_0_6, ng_0_7, ng_0_8, ng_0_9, ng_0_10, ng_0_11, ng_0_12, ng_0_13, ng_0_14, c_R_error1]
  rfl
end RCalls
