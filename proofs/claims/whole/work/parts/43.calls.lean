/-! ===== contracts: RopeShore's calls, 2 ===== -/
theorem use_cases {u : Int32} : (0 ≤ u ∧ u ≤ 1) ↔ (u = 0 ∨ u = 1) := by
  constructor
  · intro h
    obtain ⟨k, rfl, hk⟩ := i32_ix (v := u) (n := 1) (by decide) h
    obtain rfl | rfl : k = 0 ∨ k = 1 := by omega
    · exact Or.inl rfl
    · exact Or.inr rfl
  · rintro (rfl | rfl) <;> decide
section RCalls2
variable {X : xX} {d : Nat} {R S K : xS} {B4 : List xE}
theorem q_untell (u : Int32) : CQ X (d + 3) j_R_untell [.ref (sh 0 0), .int u] R S K B4 (sp_untell R S K u) := by
  refine CQ.of fun V Z T Y U => ?_
  rw [e_R_untell]
  unfold sp_untell
  simp only [s_R_untell_0, s_R_untell_4, s_R_untell_7, s_R_untell_12, Option.bind_some, Option.bind_none, Option.toList_some, Option.toList_none, List.cons_append, List.nil_append, List.append_nil, nv_0, ng_0_0, ng_0_1, ng_0_2, ng_0_3, ng_0_4, ng_0_5, ng_0_6, ng_0_7, ng_0_8, ng_0_9, ng_0_10, ng_0_11, ng_0_12, ng_0_13, ng_0_14, rv_0, rg_0_0, rg_0_1, rg_0_2, rg_0_3, rg_0_4, rg_0_5, rg_0_6, rg_0_7, rg_0_8, rg_0_9, rv_17, rg_17_0, rg_17_1, c_R_isUse, c_R_error1, z1_0, use_cases]
  by_cases h0 : u = 0
  · subst h0
    have hq : ∀ S' Z', xrr (w5 (rsC R V) (shC 1 S' Z') (shC 2 T Y) (shC 3 K U) B4) (sh 1 14) (0 : Int32) = some (sh 1 15) := fun S' Z' => nq_14 (k := 0) (by decide)
    rw [if_neg (fun e => e (Or.inl rfl)), if_pos rfl]
    simp only [s_R_untell_0, s_R_untell_13, s_R_untell_32, s_R_untell_33, s_R_untell_4, s_R_untell_17, s_R_untell_38, s_R_untell_7, s_R_untell_20, s_R_untell_41, s_R_untell_12, s_R_untell_22, s_R_untell_43, s_R_untell_25, s_R_untell_46, s_R_untell_28, Option.bind_some, Option.bind_none, Option.toList_some, Option.toList_none, List.cons_append, List.nil_append, List.append_nil, nv_0, ng_0_0, ng_0_1, ng_0_2, ng_0_3, ng_0_4, ng_0_5, ng_0_6, ng_0_7, ng_0_8, ng_0_9, ng_0_10, ng_0_11, ng_0_12, ng_0_13, ng_0_14, rv_0, rg_0_0, rg_0_1, rg_0_2, rg_0_3, rg_0_4, rg_0_5, rg_0_6, rg_0_7, rg_0_8, rg_0_9, rv_17, rg_17_0, rg_17_1, hq, nv_15, n_isThere0, z1_0]
    by_cases hl : 0 < S.2 6
    · rw [if_neg (fun e => e hl), z1_t hl]
      simp only [n_forget0, s_R_untell_0, s_R_untell_13, s_R_untell_32, s_R_untell_33, s_R_untell_4, s_R_untell_17, s_R_untell_38, s_R_untell_7, s_R_untell_20, s_R_untell_41, s_R_untell_12, s_R_untell_22, s_R_untell_43, s_R_untell_25, s_R_untell_46, s_R_untell_28, Option.bind_some, Option.bind_none, Option.toList_some, Option.toList_none, List.cons_append, List.nil_append, List.append_nil, nv_0, ng_0_0, ng_0_1, ng_0_2, ng_0_3, ng_0_4, ng_0_5, ng_0_6, ng_0_7, ng_0_8, ng_0_9, ng_0_10, ng_0_11, ng_0_12, ng_0_13, ng_0_14, rv_0, rg_0_0, rg_0_1, rg_0_2, rg_0_3, rg_0_4, rg_0_5, rg_0_6, rg_0_7, rg_0_8, rg_0_9, rv_17, rg_17_0, rg_17_1, hq, nv_15]
    · rw [if_pos hl, z1_f hl]
      simp only [n_forget0, s_R_untell_0, s_R_untell_13, s_R_untell_32, s_R_untell_33, s_R_untell_4, s_R_untell_17, s_R_untell_38, s_R_untell_7, s_R_untell_20, s_R_untell_41, s_R_untell_12, s_R_untell_22, s_R_untell_43, s_R_untell_25, s_R_untell_46, s_R_untell_28, Option.bind_some, Option.bind_none, Option.toList_some, Option.toList_none, List.cons_append, List.nil_append, List.append_nil, nv_0, ng_0_0, ng_0_1, ng_0_2, ng_0_3, ng_0_4, ng_0_5, ng_0_6, ng_0_7, ng_0_8, ng_0_9, ng_0_10, ng_0_11, ng_0_12, ng_0_13, ng_0_14, rv_0, rg_0_0, rg_0_1, rg_0_2, rg_0_3, rg_0_4, rg_0_5, rg_0_6, rg_0_7, rg_0_8, rg_0_9, rv_17, rg_17_0, rg_17_1, hq, nv_15]
  by_cases h1 : u = 1
  · subst h1
    have hq : ∀ S' Z', xrr (w5 (rsC R V) (shC 1 S' Z') (shC 2 T Y) (shC 3 K U) B4) (sh 1 14) (1 : Int32) = some (sh 1 19) := fun S' Z' => nq_14 (k := 1) (by decide)
    rw [if_neg (fun e => e (Or.inr rfl)), if_neg h0, if_pos rfl]
    simp only [s_R_untell_0, s_R_untell_13, s_R_untell_32, s_R_untell_33, s_R_untell_4, s_R_untell_17, s_R_untell_38, s_R_untell_7, s_R_untell_20, s_R_untell_41, s_R_untell_12, s_R_untell_22, s_R_untell_43, s_R_untell_25, s_R_untell_46, s_R_untell_28, Option.bind_some, Option.bind_none, Option.toList_some, Option.toList_none, List.cons_append, List.nil_append, List.append_nil, nv_0, ng_0_0, ng_0_1, ng_0_2, ng_0_3, ng_0_4, ng_0_5, ng_0_6, ng_0_7, ng_0_8, ng_0_9, ng_0_10, ng_0_11, ng_0_12, ng_0_13, ng_0_14, rv_0, rg_0_0, rg_0_1, rg_0_2, rg_0_3, rg_0_4, rg_0_5, rg_0_6, rg_0_7, rg_0_8, rg_0_9, rv_17, rg_17_0, rg_17_1, hq, nv_19, n_isThere1, z1_0]
    by_cases hl : 0 < S.2 7
    · rw [if_neg (fun e => e hl), z1_t hl]
      simp only [n_forget1, s_R_untell_0, s_R_untell_13, s_R_untell_32, s_R_untell_33, s_R_untell_4, s_R_untell_17, s_R_untell_38, s_R_untell_7, s_R_untell_20, s_R_untell_41, s_R_untell_12, s_R_untell_22, s_R_untell_43, s_R_untell_25, s_R_untell_46, s_R_untell_28, Option.bind_some, Option.bind_none, Option.toList_some, Option.toList_none, List.cons_append, List.nil_append, List.append_nil, nv_0, ng_0_0, ng_0_1, ng_0_2, ng_0_3, ng_0_4, ng_0_5, ng_0_6, ng_0_7, ng_0_8, ng_0_9, ng_0_10, ng_0_11, ng_0_12, ng_0_13, ng_0_14, rv_0, rg_0_0, rg_0_1, rg_0_2, rg_0_3, rg_0_4, rg_0_5, rg_0_6, rg_0_7, rg_0_8, rg_0_9, rv_17, rg_17_0, rg_17_1, hq, nv_19]
    · rw [if_pos hl, z1_f hl]
      simp only [n_forget1, s_R_untell_0, s_R_untell_13, s_R_untell_32, s_R_untell_33, s_R_untell_4, s_R_untell_17, s_R_untell_38, s_R_untell_7, s_R_untell_20, s_R_untell_41, s_R_untell_12, s_R_untell_22, s_R_untell_43, s_R_untell_25, s_R_untell_46, s_R_untell_28, Option.bind_some, Option.bind_none, Option.toList_some, Option.toList_none, List.cons_append, List.nil_append, List.append_nil, nv_0, ng_0_0, ng_0_1, ng_0_2, ng_0_3, ng_0_4, ng_0_5, ng_0_6, ng_0_7, ng_0_8, ng_0_9, ng_0_10, ng_0_11, ng_0_12, ng_0_13, ng_0_14, rv_0, rg_0_0, rg_0_1, rg_0_2, rg_0_3, rg_0_4, rg_0_5, rg_0_6, rg_0_7, rg_0_8, rg_0_9, rv_17, rg_17_0, rg_17_1, hq, nv_19]
  rw [if_pos (fun e => e.elim h0 h1), if_neg h0, if_neg h1]
  rfl
theorem q_law (hS : okS S) (u a b c : Int32) : CQ X (d + 4) j_R_law [.ref (sh 0 0), .int u, .int a, .int b, .int c] R S K B4 (sp_law R S K u a b c) := by
  intro V Z T Y U hT
  show ∃ V' Z' T' Y' U' : xS, okN T' ∧ xcall X (d + 4) j_R_law [.ref (sh 0 0), .int u, .int a, .int b, .int c] (w5 (rsC R V) (shC 1 S Z) (shC 2 T Y) (shC 3 K U) B4) = _
  rw [e_R_law]
  unfold sp_law
  simp only [s_R_law_0, s_R_law_4, s_R_law_7, s_R_law_12, Option.bind_some, Option.bind_none, Option.toList_some, Option.toList_none, List.cons_append, List.nil_append, List.append_nil, nv_0, ng_0_0, ng_0_1, ng_0_2, ng_0_3, ng_0_4, ng_0_5, ng_0_6, ng_0_7, ng_0_8, ng_0_9, ng_0_10, ng_0_11, ng_0_12, ng_0_13, ng_0_14, rv_0, rg_0_0, rg_0_1, rg_0_2, rg_0_3, rg_0_4, rg_0_5, rg_0_6, rg_0_7, rg_0_8, rg_0_9, rv_17, rg_17_0, rg_17_1, c_R_isUse, c_R_error1, z1_0, use_cases]
  by_cases h0 : u = 0
  · subst h0
    obtain ⟨Z', hl⟩ := n_lawGives0 (X := X) (d := d) (B0 := rsC R V) (B2 := shC 2 T Y) (B3 := shC 3 K U) (B4 := B4) hS Z a b c
    refine ⟨V, Z', T, Y, U, hT, ?_⟩
    rw [if_neg (fun e => e (Or.inl rfl)), if_pos rfl]
    simp only [s_R_law_0, s_R_law_13, s_R_law_4, s_R_law_17, s_R_law_7, s_R_law_25, s_R_law_12, Option.bind_some, Option.bind_none, Option.toList_some, Option.toList_none, List.cons_append, List.nil_append, List.append_nil, nv_0, ng_0_0, ng_0_1, ng_0_2, ng_0_3, ng_0_4, ng_0_5, ng_0_6, ng_0_7, ng_0_8, ng_0_9, ng_0_10, ng_0_11, ng_0_12, ng_0_13, ng_0_14, rv_0, rg_0_0, rg_0_1, rg_0_2, rg_0_3, rg_0_4, rg_0_5, rg_0_6, rg_0_7, rg_0_8, rg_0_9, rv_17, rg_17_0, rg_17_1, hl]
    rfl
  by_cases h1 : u = 1
  · subst h1
    obtain ⟨Z', hl⟩ := n_lawGives1 (X := X) (d := d) (B0 := rsC R V) (B2 := shC 2 T Y) (B3 := shC 3 K U) (B4 := B4) hS Z a b c
    refine ⟨V, Z', T, Y, U, hT, ?_⟩
    rw [if_neg (fun e => e (Or.inr rfl)), if_neg h0, if_pos rfl]
    simp only [s_R_law_0, s_R_law_13, s_R_law_4, s_R_law_17, s_R_law_7, s_R_law_25, s_R_law_12, Option.bind_some, Option.bind_none, Option.toList_some, Option.toList_none, List.cons_append, List.nil_append, List.append_nil, nv_0, ng_0_0, ng_0_1, ng_0_2, ng_0_3, ng_0_4, ng_0_5, ng_0_6, ng_0_7, ng_0_8, ng_0_9, ng_0_10, ng_0_11, ng_0_12, ng_0_13, ng_0_14, rv_0, rg_0_0, rg_0_1, rg_0_2, rg_0_3, rg_0_4, rg_0_5, rg_0_6, rg_0_7, rg_0_8, rg_0_9, rv_17, rg_17_0, rg_17_1, hl]
    rfl
  rw [if_pos (fun e => e.elim h0 h1), if_neg h0, if_neg h1]
  exact ⟨V, Z, T, Y, U, hT, rfl⟩
theorem q_tell {w : Nat} (hw : S.2 2 = nI w) (hw2 : w ≤ 24) (v : Int32) : CQ X (d + 2) j_R_tell [.ref (sh 0 0), .int v] R S K B4 (sp_tell R S K v) := by
  refine CQ.of fun V Z T Y U => ?_
  rw [e_R_tell]
  unfold sp_tell
  simp only [s_R_tell_0, s_R_tell_4, s_R_tell_7, s_R_tell_12, s_R_tell_17, Option.bind_some, Option.bind_none, Option.toList_some, Option.toList_none, List.cons_append, List.nil_append, List.append_nil, nv_0, ng_0_0, ng_0_1, ng_0_2, ng_0_3, ng_0_4, ng_0_5, ng_0_6, ng_0_7, ng_0_8, ng_0_9, ng_0_10, ng_0_11, ng_0_12, ng_0_13, ng_0_14, rv_0, rg_0_0, rg_0_1, rg_0_2, rg_0_3, rg_0_4, rg_0_5, rg_0_6, rg_0_7, rg_0_8, rg_0_9, rv_17, rg_17_0, rg_17_1, c_R_error4, hw]
  by_cases h1 : nI w < 24
  · have hw3 : w < 24 := (nI_lt_iff (a := w) (b := 24) (by omega) (by omega)).mp h1
    rw [if_pos h1, if_neg (fun e => e h1)]
    simp only [s_R_tell_0, s_R_tell_18, s_R_tell_4, s_R_tell_22, s_R_tell_7, s_R_tell_25, s_R_tell_12, s_R_tell_29, s_R_tell_17, s_R_tell_32, s_R_tell_34, s_R_tell_38, s_R_tell_42, s_R_tell_45, s_R_tell_50, s_R_tell_54, s_R_tell_57, Option.bind_some, Option.bind_none, Option.toList_some, Option.toList_none, List.cons_append, List.nil_append, List.append_nil, nv_0, ng_0_0, ng_0_1, ng_0_2, ng_0_3, ng_0_4, ng_0_5, ng_0_6, ng_0_7, ng_0_8, ng_0_9, ng_0_10, ng_0_11, ng_0_12, ng_0_13, ng_0_14, rv_0, rg_0_0, rg_0_1, rg_0_2, rg_0_3, rg_0_4, rg_0_5, rg_0_6, rg_0_7, rg_0_8, rg_0_9, rv_17, rg_17_0, rg_17_1, hw, nw_24 hw3, np_0_11, ix_nI (Nat.lt_trans hw3 (by decide))]
    rfl
  · rw [if_neg h1, if_pos h1]
    rfl
theorem q_image (hS : okN S) (hK : okN K) : CQ X (d + 3) j_R_image [.ref (sh 0 0)] R S K B4 (sp_image R S K) := by
  intro V Z T Y U hT
  obtain ⟨U', hc⟩ := c_Sh_copy31 (X := X) (d := d) (B0 := rsC R V) (B2 := shC 2 T Y) (B4 := B4) (S := K) (T := S) (Z := U) (Y := Z) hK hS
  refine ⟨V, Z, T, Y, U', hT, ?_⟩
  show xcall X (d + 3) j_R_image [.ref (sh 0 0)] (w5 (rsC R V) (shC 1 S Z) (shC 2 T Y) (shC 3 K U) B4) = _
  rw [e_R_image]
  simp only [s_R_image_0, s_R_image_4, s_R_image_8, s_R_image_11, s_R_image_16, s_R_image_21, s_R_image_25, Option.bind_some, Option.bind_none, Option.toList_some, Option.toList_none, List.cons_append, List.nil_append, List.append_nil, nv_0, ng_0_0, ng_0_1, ng_0_2, ng_0_3, ng_0_4, ng_0_5, ng_0_6, ng_0_7, ng_0_8, ng_0_9, ng_0_10, ng_0_11, ng_0_12, ng_0_13, ng_0_14, rv_0, rg_0_0, rg_0_1, rg_0_2, rg_0_3, rg_0_4, rg_0_5, rg_0_6, rg_0_7, rg_0_8, rg_0_9, rv_17, rg_17_0, rg_17_1, kv_0, hc, rp_0_9]
  rfl
theorem q_restore (hS : okN S) (hK : okN K) : CQ X (d + 3) j_R_restore [.ref (sh 0 0)] R S K B4 (sp_restore R S K) := by
  intro V Z T Y U hT
  obtain ⟨Z', hc⟩ := c_Sh_copy13 (X := X) (d := d) (B0 := rsC R V) (B2 := shC 2 T Y) (B4 := B4) (S := S) (T := K) (Z := Z) (Y := U) hS hK
  show ∃ V' Z' T' Y' U' : xS, okN T' ∧ xcall X (d + 3) j_R_restore [.ref (sh 0 0)] (w5 (rsC R V) (shC 1 S Z) (shC 2 T Y) (shC 3 K U) B4) = _
  rw [e_R_restore]
  unfold sp_restore
  simp only [s_R_restore_0, s_R_restore_4, s_R_restore_7, s_R_restore_12, Option.bind_some, Option.bind_none, Option.toList_some, Option.toList_none, List.cons_append, List.nil_append, List.append_nil, rv_0, rg_0_0, rg_0_1, rg_0_2, rg_0_3, rg_0_4, rg_0_5, rg_0_6, rg_0_7, rg_0_8, rg_0_9, rv_17, rg_17_0, rg_17_1, c_R_error2]
  by_cases h0 : R.2 0 = 0
  · rw [if_pos h0, if_pos h0]
    exact ⟨V, Z, T, Y, U, hT, rfl⟩
  · refine ⟨V, Z', T, Y, U, hT, ?_⟩
    rw [if_neg h0, if_neg h0]
    simp only [s_R_restore_0, s_R_restore_13, s_R_restore_4, s_R_restore_17, s_R_restore_7, s_R_restore_21, s_R_restore_12, s_R_restore_24, s_R_restore_28, s_R_restore_31, Option.bind_some, Option.bind_none, Option.toList_some, Option.toList_none, List.cons_append, List.nil_append, List.append_nil, nv_0, ng_0_0, ng_0_1, ng_0_2, ng_0_3, ng_0_4, ng_0_5, ng_0_6, ng_0_7, ng_0_8, ng_0_9, ng_0_10, ng_0_11, ng_0_12, ng_0_13, ng_0_14, rv_0, rg_0_0, rg_0_1, rg_0_2, rg_0_3, rg_0_4, rg_0_5, rg_0_6, rg_0_7, rg_0_8, rg_0_9, rv_17, rg_17_0, rg_17_1, hc]
    rfl
theorem q_body {w : Nat} (hw : R.2 9 = nI w) (hw2 : w ≤ 30) (i : Int32) : CQ X (d + 2) j_R_body [.ref (sh 0 0), .int i] R S K B4 (sp_body R S K i) := by
  refine CQ.of fun V Z T Y U => ?_
  rw [e_R_body]
  unfold sp_body
  simp only [s_R_body_0, s_R_body_6, s_R_body_9, s_R_body_14, s_R_body_17, s_R_body_22, Option.bind_some, Option.bind_none, Option.toList_some, Option.toList_none, List.cons_append, List.nil_append, List.append_nil, rv_0, rg_0_0, rg_0_1, rg_0_2, rg_0_3, rg_0_4, rg_0_5, rg_0_6, rg_0_7, rg_0_8, rg_0_9, rv_17, rg_17_0, rg_17_1, c_R_within, c_R_error2, z1_0, hw]
  by_cases h1 : 0 ≤ i ∧ i ≤ nI w - 1
  · rw [if_neg (fun e => e h1), if_neg (fun e => e h1)]
    have hw0 : 0 < w := by
      apply Nat.pos_of_ne_zero
      intro h
      subst h
      have := Int32.le_trans h1.1 h1.2
      exact absurd this (by decide)
    have h2 := h1.2
    rw [nI_sub1 (by omega)] at h2
    obtain ⟨k, rfl, hk⟩ := i32_ix (v := i) (n := w - 1) (by omega) ⟨h1.1, h2⟩
    have hk30 : k < 30 := by omega
    simp only [s_R_body_0, s_R_body_23, s_R_body_6, s_R_body_27, s_R_body_9, s_R_body_30, s_R_body_14, s_R_body_32, s_R_body_17, s_R_body_22, Option.bind_some, Option.bind_none, Option.toList_some, Option.toList_none, List.cons_append, List.nil_append, List.append_nil, rv_0, rg_0_0, rg_0_1, rg_0_2, rg_0_3, rg_0_4, rg_0_5, rg_0_6, rg_0_7, rg_0_8, rg_0_9, rv_17, rg_17_0, rg_17_1, rr_18 hk30, ix_nI (Nat.lt_trans hk30 (by decide))]
  · rw [if_pos h1, if_pos h1]
    rfl
/-! kinds above -/
def abv : Nat → Int32 := fun j => ([-1, 0, 0, 0, 1, 2, 0] : List Int32).getD j 0
theorem rd_abv {σ : xW} (hok : σ 15 = []) {k : Nat} (hk : k < 7) : xrd X σ [0] 1000 (nI k) = some (abv k) := by
  unfold xrd
  have hg : xg σ 1000 = none := by
    unfold xg
    rw [show 1000 / 64 = 15 from rfl, hok]
    rfl
  rw [hg]
  have h1 : ¬ nI k < 0 := nI_pos (by omega)
  have h2 : (nI k).toNatClampNeg = k := nI_clamp (by omega)
  show (if (0 ∈ ([0] : List Nat)) ∧ ¬ nI k < 0 ∧ (nI k).toNatClampNeg < 7 then some _ else none) = _
  rw [h2, if_pos ⟨List.mem_cons_self, h1, hk⟩]
  rfl
/-- isUnder, from k on, with n turns left -/
def unL (a : Int32) : Nat → Int32 → Bool
  | 0, _ => false
  | n + 1, k => if 0 ≤ k ∧ k ≤ 6 then (if k = a then true else unL a n (abv (ix k))) else false
theorem l_R_isUnder {σ : xW} (hok : σ 15 = []) (k0 a : Int32) : ∀ (n u : Nat) (k : Int32), u + n = 7 → xrun (X, xcall X (d + 1)) j_R_isUnder 4 [.int k0, .int a, .int k, .int (nI u)] [] σ = some (some (.int (if unL a n k = true then 1 else 0)), σ) := by
  intro n
  induction n with
  | zero =>
    intro u k hu
    have h1 : (7 : Int32) ≤ nI u := (nI_le_iff (a := 7) (b := u) (by omega) (by omega)).mpr (by omega)
    rw [s_R_isUnder_4, if_pos h1, s_R_isUnder_39]
    rfl
  | succ n ih =>
    intro u k hu
    have h1 : ¬ (7 : Int32) ≤ nI u := fun h => absurd ((nI_le_iff (a := 7) (b := u) (by omega) (by omega)).mp h) (by omega)
    rw [s_R_isUnder_4, if_neg h1]
    unfold unL
    simp only [s_R_isUnder_10, Option.bind_some, Option.bind_none, Option.toList_some, Option.toList_none, List.cons_append, List.nil_append, List.append_nil, c_R_within, s_R_isUnder_17, z1_0]
    by_cases h2 : 0 ≤ k ∧ k ≤ 6
    · rw [if_neg (fun e => e h2), if_pos h2, s_R_isUnder_20]
      by_cases h3 : k = a
      · rw [if_pos h3, if_pos h3, s_R_isUnder_25]
        rfl
      · rw [if_neg h3, if_neg h3]
        obtain ⟨j, rfl, hj⟩ := i32_ix (v := k) (n := 6) (by decide) h2
        have hj7 : j < 7 := by omega
        simp only [s_R_isUnder_27, rd_abv hok hj7, Option.bind_some, Option.bind_none, Option.toList_some, Option.toList_none, List.cons_append, List.nil_append, List.append_nil, s_R_isUnder_32, nI_add1, ix_nI (Nat.lt_trans hj7 (by decide))]
        exact ih (u + 1) _ (by omega)
    · rw [if_pos h2, if_neg h2, s_R_isUnder_39]
      rfl
theorem un_eq : ∀ k : Nat, k < 7 → ∀ a : Nat, a < 7 → unL (nI a) 7 (nI k) = under k a := by decide +kernel
theorem c_R_isUnder {σ : xW} (hok : σ 15 = []) {k a : Nat} (hk : k < 7) (ha : a < 7) : xcall X (d + 2) j_R_isUnder [.int (nI k), .int (nI a)] σ = some (some (.int (if under k a = true then 1 else 0)), σ) := by
  rw [e_R_isUnder, s_R_isUnder_0, ← un_eq k hk a ha]
  exact l_R_isUnder hok (nI k) (nI a) 7 0 (nI k) (by omega)
theorem q_as (hS : okS S) (p a : Int32) : CQ X (d + 3) j_R_as [.ref (sh 0 0), .int p, .int a] R S K B4 (sp_as R S K p a) := by
  refine CQ.of fun V Z T Y U => ?_
  rw [e_R_as]
  unfold sp_as
  simp only [s_R_as_0, s_R_as_4, s_R_as_8, s_R_as_11, s_R_as_18, s_R_as_21, s_R_as_26, Option.bind_some, Option.bind_none, Option.toList_some, Option.toList_none, List.cons_append, List.nil_append, List.append_nil, nv_0, ng_0_0, ng_0_1, ng_0_2, ng_0_3, ng_0_4, ng_0_5, ng_0_6, ng_0_7, ng_0_8, ng_0_9, ng_0_10, ng_0_11, ng_0_12, ng_0_13, ng_0_14, rv_0, rg_0_0, rg_0_1, rg_0_2, rg_0_3, rg_0_4, rg_0_5, rg_0_6, rg_0_7, rg_0_8, rg_0_9, rv_17, rg_17_0, rg_17_1, n_has, c_R_within, c_R_error1, z1_0]
  by_cases h1 : hasP S p
  · by_cases h2 : 0 ≤ a ∧ a ≤ 6
    · rw [if_neg (fun e => e h1), if_neg (fun e => e h2), if_neg (fun e => e ⟨h1, h2⟩)]
      obtain ⟨k, rfl, -, hk8⟩ := hasP_ix hS h1
      obtain ⟨i, rfl, hi⟩ := i32_ix (v := a) (n := 6) (by decide) h2
      obtain ⟨hk1, hk2⟩ := hS.2.1 k hk8
      have hi7 : i < 7 := by omega
      have hu := c_R_isUnder (X := X) (d := d) (σ := w5 (rsC R V) (shC 1 S Z) (shC 2 T Y) (shC 3 K U) B4) rfl hk2 hi7
      simp only [s_R_as_0, s_R_as_21, s_R_as_27, s_R_as_49, s_R_as_4, s_R_as_26, s_R_as_31, s_R_as_53, s_R_as_8, s_R_as_34, s_R_as_56, s_R_as_11, s_R_as_36, s_R_as_58, s_R_as_18, s_R_as_40, s_R_as_43, s_R_as_48, Option.bind_some, Option.bind_none, Option.toList_some, Option.toList_none, List.cons_append, List.nil_append, List.append_nil, nv_0, ng_0_0, ng_0_1, ng_0_2, ng_0_3, ng_0_4, ng_0_5, ng_0_6, ng_0_7, ng_0_8, ng_0_9, ng_0_10, ng_0_11, ng_0_12, ng_0_13, ng_0_14, rv_0, rg_0_0, rg_0_1, rg_0_2, rg_0_3, rg_0_4, rg_0_5, rg_0_6, rg_0_7, rg_0_8, rg_0_9, rv_17, rg_17_0, rg_17_1, nr_9 hk8, hk1, hu, nr_10 hk8, c_R_error5, ix_nI (Nat.lt_trans hk8 (by decide)), ix_nI (Nat.lt_trans hi7 (by decide))]
      have z10 : ¬ (1 : Int32) = 0 := by decide
      cases hun : under (kd S k) i with
      | true =>
        rw [if_neg (show ¬ (if true = true then (1 : Int32) else 0) = 0 from z10), if_neg (by simp)]
      | false =>
        rw [if_pos (show (if false = true then (1 : Int32) else 0) = 0 from rfl), if_pos rfl]
        rfl
    · rw [if_neg (fun e => e h1), if_pos h2, if_pos (fun e => h2 e.2)]
      rfl
  · rw [if_pos h1, if_pos (fun e => h1 e.1)]
    rfl
theorem q_personIs (hS : okS S) (p w : Int32) : CQ X (d + 6) j_R_personIs [.ref (sh 0 0), .int p, .int w] R S K B4 (sp_personIs R S K p w) := by
  intro V Z T Y U hT
  show ∃ V' Z' T' Y' U' : xS, okN T' ∧ xcall X (d + 6) j_R_personIs [.ref (sh 0 0), .int p, .int w] (w5 (rsC R V) (shC 1 S Z) (shC 2 T Y) (shC 3 K U) B4) = _
  rw [e_R_personIs]
  unfold sp_personIs
  simp only [s_R_personIs_0, s_R_personIs_4, s_R_personIs_8, s_R_personIs_11, s_R_personIs_17, s_R_personIs_20, s_R_personIs_25, Option.bind_some, Option.bind_none, Option.toList_some, Option.toList_none, List.cons_append, List.nil_append, List.append_nil, nv_0, ng_0_0, ng_0_1, ng_0_2, ng_0_3, ng_0_4, ng_0_5, ng_0_6, ng_0_7, ng_0_8, ng_0_9, ng_0_10, ng_0_11, ng_0_12, ng_0_13, ng_0_14, rv_0, rg_0_0, rg_0_1, rg_0_2, rg_0_3, rg_0_4, rg_0_5, rg_0_6, rg_0_7, rg_0_8, rg_0_9, rv_17, rg_17_0, rg_17_1, n_has, c_R_within, c_R_error1, z1_0]
  by_cases h1 : hasP S p
  · by_cases h2 : 0 ≤ w ∧ w ≤ 4
    · rw [if_neg (fun e => e h1), if_neg (fun e => e h2), if_neg (fun e => e ⟨h1, h2⟩)]
      obtain ⟨k, rfl, -, hk8⟩ := hasP_ix hS h1
      obtain ⟨i, rfl, hi⟩ := i32_ix (v := w) (n := 4) (by decide) h2
      rw [ix_nI (Nat.lt_trans hk8 (by decide))]
      obtain rfl | rfl | rfl | rfl | rfl : i = 0 ∨ i = 1 ∨ i = 2 ∨ i = 3 ∨ i = 4 := by omega
      · refine ⟨V, Z, T, Y, U, hT, ?_⟩
        rw [s_R_personIs_26, show xsw [(0, 56), (1, 66), (2, 76), (3, 86)] 104 (nI 0) = 56 from by decide +kernel, if_pos (show nI 0 = 0 from rfl)]
        simp only [s_R_personIs_0, s_R_personIs_20, s_R_personIs_26, s_R_personIs_56, s_R_personIs_66, s_R_personIs_76, s_R_personIs_86, s_R_personIs_102, s_R_personIs_103, s_R_personIs_104, s_R_personIs_4, s_R_personIs_25, s_R_personIs_60, s_R_personIs_70, s_R_personIs_80, s_R_personIs_90, s_R_personIs_108, s_R_personIs_8, s_R_personIs_63, s_R_personIs_73, s_R_personIs_83, s_R_personIs_93, s_R_personIs_112, s_R_personIs_11, s_R_personIs_65, s_R_personIs_75, s_R_personIs_85, s_R_personIs_95, s_R_personIs_17, s_R_personIs_98, Option.bind_some, Option.bind_none, Option.toList_some, Option.toList_none, List.cons_append, List.nil_append, List.append_nil, nv_0, ng_0_0, ng_0_1, ng_0_2, ng_0_3, ng_0_4, ng_0_5, ng_0_6, ng_0_7, ng_0_8, ng_0_9, ng_0_10, ng_0_11, ng_0_12, ng_0_13, ng_0_14, rv_0, rg_0_0, rg_0_1, rg_0_2, rg_0_3, rg_0_4, rg_0_5, rg_0_6, rg_0_7, rg_0_8, rg_0_9, rv_17, rg_17_0, rg_17_1, nr_9 hk8]
        rfl
      · refine ⟨V, Z, T, Y, U, hT, ?_⟩
        rw [s_R_personIs_26, show xsw [(0, 56), (1, 66), (2, 76), (3, 86)] 104 (nI 1) = 66 from by decide +kernel, if_neg (show ¬ nI 1 = 0 by decide), if_pos (show nI 1 = 1 from rfl)]
        simp only [s_R_personIs_0, s_R_personIs_20, s_R_personIs_26, s_R_personIs_56, s_R_personIs_66, s_R_personIs_76, s_R_personIs_86, s_R_personIs_102, s_R_personIs_103, s_R_personIs_104, s_R_personIs_4, s_R_personIs_25, s_R_personIs_60, s_R_personIs_70, s_R_personIs_80, s_R_personIs_90, s_R_personIs_108, s_R_personIs_8, s_R_personIs_63, s_R_personIs_73, s_R_personIs_83, s_R_personIs_93, s_R_personIs_112, s_R_personIs_11, s_R_personIs_65, s_R_personIs_75, s_R_personIs_85, s_R_personIs_95, s_R_personIs_17, s_R_personIs_98, Option.bind_some, Option.bind_none, Option.toList_some, Option.toList_none, List.cons_append, List.nil_append, List.append_nil, nv_0, ng_0_0, ng_0_1, ng_0_2, ng_0_3, ng_0_4, ng_0_5, ng_0_6, ng_0_7, ng_0_8, ng_0_9, ng_0_10, ng_0_11, ng_0_12, ng_0_13, ng_0_14, rv_0, rg_0_0, rg_0_1, rg_0_2, rg_0_3, rg_0_4, rg_0_5, rg_0_6, rg_0_7, rg_0_8, rg_0_9, rv_17, rg_17_0, rg_17_1, nr_10 hk8]
        rfl
      · refine ⟨V, Z, T, Y, U, hT, ?_⟩
        rw [s_R_personIs_26, show xsw [(0, 56), (1, 66), (2, 76), (3, 86)] 104 (nI 2) = 76 from by decide +kernel, if_neg (show ¬ nI 2 = 0 by decide), if_neg (show ¬ nI 2 = 1 by decide), if_pos (show nI 2 = 2 from rfl)]
        simp only [s_R_personIs_0, s_R_personIs_20, s_R_personIs_26, s_R_personIs_56, s_R_personIs_66, s_R_personIs_76, s_R_personIs_86, s_R_personIs_102, s_R_personIs_103, s_R_personIs_104, s_R_personIs_4, s_R_personIs_25, s_R_personIs_60, s_R_personIs_70, s_R_personIs_80, s_R_personIs_90, s_R_personIs_108, s_R_personIs_8, s_R_personIs_63, s_R_personIs_73, s_R_personIs_83, s_R_personIs_93, s_R_personIs_112, s_R_personIs_11, s_R_personIs_65, s_R_personIs_75, s_R_personIs_85, s_R_personIs_95, s_R_personIs_17, s_R_personIs_98, Option.bind_some, Option.bind_none, Option.toList_some, Option.toList_none, List.cons_append, List.nil_append, List.append_nil, nv_0, ng_0_0, ng_0_1, ng_0_2, ng_0_3, ng_0_4, ng_0_5, ng_0_6, ng_0_7, ng_0_8, ng_0_9, ng_0_10, ng_0_11, ng_0_12, ng_0_13, ng_0_14, rv_0, rg_0_0, rg_0_1, rg_0_2, rg_0_3, rg_0_4, rg_0_5, rg_0_6, rg_0_7, rg_0_8, rg_0_9, rv_17, rg_17_0, rg_17_1, nr_11 hk8]
        rfl
      · refine ⟨V, Z, T, Y, U, hT, ?_⟩
        rw [s_R_personIs_26, show xsw [(0, 56), (1, 66), (2, 76), (3, 86)] 104 (nI 3) = 86 from by decide +kernel, if_neg (show ¬ nI 3 = 0 by decide), if_neg (show ¬ nI 3 = 1 by decide), if_neg (show ¬ nI 3 = 2 by decide), if_pos (show nI 3 = 3 from rfl)]
        simp only [s_R_personIs_86, s_R_personIs_90, s_R_personIs_93, s_R_personIs_95, Option.bind_some, Option.bind_none, Option.toList_some, Option.toList_none, List.cons_append, List.nil_append, List.append_nil, nv_0, ng_0_0, ng_0_1, ng_0_2, ng_0_3, ng_0_4, ng_0_5, ng_0_6, ng_0_7, ng_0_8, ng_0_9, ng_0_10, ng_0_11, ng_0_12, ng_0_13, ng_0_14, rv_0, rg_0_0, rg_0_1, rg_0_2, rg_0_3, rg_0_4, rg_0_5, rg_0_6, rg_0_7, rg_0_8, rg_0_9, rv_17, rg_17_0, rg_17_1, nr_12 hk8]
        by_cases h3 : S.1 3 k = 0
        · rw [if_pos h3, if_pos h3, s_R_personIs_102, s_R_personIs_103]
          rfl
        · rw [if_neg h3, if_neg h3, s_R_personIs_98, s_R_personIs_103]
          rfl
      · obtain ⟨Z', hr⟩ := n_ropeOf (X := X) (d := d) (B0 := rsC R V) (B2 := shC 2 T Y) (B3 := shC 3 K U) (B4 := B4) hS Z hk8
        refine ⟨V, Z', T, Y, U, hT, ?_⟩
        rw [s_R_personIs_26, show xsw [(0, 56), (1, 66), (2, 76), (3, 86)] 104 (nI 4) = 104 from by decide +kernel, if_neg (show ¬ nI 4 = 0 by decide), if_neg (show ¬ nI 4 = 1 by decide), if_neg (show ¬ nI 4 = 2 by decide), if_neg (show ¬ nI 4 = 3 by decide)]
        simp only [s_R_personIs_0, s_R_personIs_20, s_R_personIs_26, s_R_personIs_56, s_R_personIs_66, s_R_personIs_76, s_R_personIs_86, s_R_personIs_102, s_R_personIs_103, s_R_personIs_104, s_R_personIs_4, s_R_personIs_25, s_R_personIs_60, s_R_personIs_70, s_R_personIs_80, s_R_personIs_90, s_R_personIs_108, s_R_personIs_8, s_R_personIs_63, s_R_personIs_73, s_R_personIs_83, s_R_personIs_93, s_R_personIs_112, s_R_personIs_11, s_R_personIs_65, s_R_personIs_75, s_R_personIs_85, s_R_personIs_95, s_R_personIs_17, s_R_personIs_98, Option.bind_some, Option.bind_none, Option.toList_some, Option.toList_none, List.cons_append, List.nil_append, List.append_nil, nv_0, ng_0_0, ng_0_1, ng_0_2, ng_0_3, ng_0_4, ng_0_5, ng_0_6, ng_0_7, ng_0_8, ng_0_9, ng_0_10, ng_0_11, ng_0_12, ng_0_13, ng_0_14, rv_0, rg_0_0, rg_0_1, rg_0_2, rg_0_3, rg_0_4, rg_0_5, rg_0_6, rg_0_7, rg_0_8, rg_0_9, rv_17, rg_17_0, rg_17_1, hr]
        rfl
    · rw [if_neg (fun e => e h1), if_pos h2, if_pos (fun e => h2 e.2)]
      exact ⟨V, Z, T, Y, U, hT, rfl⟩
  · rw [if_pos h1, if_pos (fun e => h1 e.1)]
    exact ⟨V, Z, T, Y, U, hT, rfl⟩
end RCalls2
