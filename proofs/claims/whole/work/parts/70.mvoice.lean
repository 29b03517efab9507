/-! ===== the model: calls, 7: voices ===== -/
def VC (X : xX) (σ : xW) (d j : Nat) (as : List Value) (M S K : xS) (r : Int32 × xS) : Prop := ∃ N : xS, RM N r.2 S K ∧ N.2 7 = M.2 7 ∧ xcall X d j (.ref (sh 4 0) :: as) (ub σ 4 (mdC M)) = some (some (.int r.1), ub σ 4 (mdC N))
section MVoice
variable {X : xX} {d : Nat} {M R S K : xS} {σ : xW}
theorem RM_vbg (h : RM M R S K) (b : Int32) (hl : ¬ Int32.ofNat 30 ≤ R.2 9) : RM (u2 M.1 12 (upd (M.1 12) (ix (R.2 9)) b), u1 M.2 6 (R.2 9 + 1)) (vbg R b) S K := by
  unfold vbg
  rw [if_neg hl]
  refine ⟨h.row, h.kept, h.errs, fun s hs => (h.bits s hs).trans (u1q (by omega)).symm, fun s hs => (h.size s hs).trans (u1q (by omega)).symm, fun s hs k hk => ?_, h.imgs, rfl, fun i hi => ?_⟩
  · show M.1 6 (24 * s + k) = u2 R.1 5 _ (1 + s) k
    rw [u2q (by omega)]
    exact h.cell s hs k hk
  · show upd (M.1 12) (ix (R.2 9)) b i = upd (R.1 5) (ix (R.2 9)) b i
    exact upr (h.trce i hi) Iff.rfl
theorem c_M_begins (hB : okB R) (hM : RM M R S K) (b : Int32) : ∃ N : xS, RM N (vbg R b) S K ∧ N.2 7 = M.2 7 ∧ xcall X (d + 1) j_M_begins [.ref (sh 4 0), .int b] (ub σ 4 (mdC M)) = some (none, ub σ 4 (mdC N)) := by
  have ht := hM.trcd
  rw [e_M_begins]
  by_cases hl : Int32.ofNat 30 ≤ R.2 9
  · have hl' : (30 : Int32) ≤ R.2 9 := hl
    refine ⟨M, ?_, rfl, ?_⟩
    · unfold vbg
      rw [if_pos hl]
      exact hM
    · simp only [s_M_begins_0, s_M_begins_4, Option.bind_some, Option.bind_none, Option.toList_some, Option.toList_none, List.cons_append, List.nil_append, List.append_nil, mv_0, mg_0_0, mg_0_1, mg_0_2, mg_0_3, mg_0_4, mg_0_5, mg_0_6, mg_0_7, mg_0_8, mg_0_9, mg_0_10, mg_0_11, mg_0_12, mg_0_13, mg_0_14, mg_0_15, mg_0_16, mg_0_17, mg_0_18, mg_0_19, mg_0_20, ht, if_pos hl', s_M_begins_29]
  · have hl' : ¬ (30 : Int32) ≤ R.2 9 := hl
    have h30 := vbg_lt hB hl
    have hw : xwr (ub σ 4 (mdC M)) [0] (sh 4 13) (R.2 9) b = some (ub σ 4 (mdC (u2 M.1 12 (upd (M.1 12) (ix (R.2 9)) b), M.2))) := by
      have := mw_13 (σ := σ) (S := M) (x := b) h30
      rw [← hB.1] at this
      exact this
    refine ⟨_, RM_vbg hM b hl, rfl, ?_⟩
    simp only [s_M_begins_0, s_M_begins_4, Option.bind_some, Option.bind_none, Option.toList_some, Option.toList_none, List.cons_append, List.nil_append, List.append_nil, mv_0, mg_0_0, mg_0_1, mg_0_2, mg_0_3, mg_0_4, mg_0_5, mg_0_6, mg_0_7, mg_0_8, mg_0_9, mg_0_10, mg_0_11, mg_0_12, mg_0_13, mg_0_14, mg_0_15, mg_0_16, mg_0_17, mg_0_18, mg_0_19, mg_0_20, ht, if_neg hl', s_M_begins_9, s_M_begins_13, s_M_begins_17, hw, s_M_begins_19, s_M_begins_24, mp_0_19, s_M_begins_29]
theorem v_plainSays (hB : okB R) (hM : RM M R S K) (n x : Int32) : VC X σ (d + 2) j_M_plainSays [.int n, .int x] M S K (psay n R x) := by
  obtain ⟨N, hN, h7, hx⟩ := c_M_begins (X := X) (d := d) (σ := σ) hB hM 10
  refine ⟨N, hN, h7, ?_⟩
  rw [e_M_plainSays]
  simp only [s_M_plainSays_0, s_M_plainSays_6, Option.bind_some, Option.bind_none, Option.toList_some, Option.toList_none, List.cons_append, List.nil_append, List.append_nil, mv_0, hx]
  rfl
theorem v_gossipSays (hB : okB R) (hM : RM M R S K) (n x : Int32) : VC X σ (d + 3) j_M_gossipSays [.int n, .int x] M S K (gsay n R x) := by
  obtain ⟨N, hN, h7, hx⟩ := c_M_begins (X := X) (d := d + 1) (σ := σ) hB hM 20
  obtain ⟨P, hP, g7, hy⟩ := v_plainSays (X := X) (d := d) (σ := σ) (okB_vbg hB 20) hN n x
  refine ⟨P, hP, g7.trans h7, ?_⟩
  rw [e_M_gossipSays]
  simp only [s_M_gossipSays_0, s_M_gossipSays_6, s_M_gossipSays_12, Option.bind_some, Option.bind_none, Option.toList_some, Option.toList_none, List.cons_append, List.nil_append, List.append_nil, mv_0, hx, hy]
  rfl
theorem v_says (hS : okS S) (hB : okB R) (hM : RM M R S K) {p : Nat} (hp : p < 8) (x : Int32) : VC X σ (d + 4) j_M_says [.int (nI p), .int x] M S K (vsay (kd S p) (nI p) R x) := by
  obtain ⟨hk1, hk2⟩ := hS.2.1 p hp
  unfold VC
  rw [e_M_says]
  simp only [s_M_says_0, s_M_says_6, Option.bind_some, Option.bind_none, Option.toList_some, Option.toList_none, List.cons_append, List.nil_append, List.append_nil, mv_0, c_M_of0 hM.row hp, hk1]
  revert hk2
  generalize kd S p = k
  intro hk2
  obtain rfl | rfl | rfl | rfl | rfl | rfl | rfl : k = 0 ∨ k = 1 ∨ k = 2 ∨ k = 3 ∨ k = 4 ∨ k = 5 ∨ k = 6 := by omega
  · rw [show xsw [(1, 40), (4, 47), (6, 62)] 71 (nI 0) = 71 from by decide +kernel]
    obtain ⟨P, hP, g7, hy⟩ := v_plainSays (X := X) (d := d + 1) (σ := σ) hB hM (nI p) x
    refine ⟨P, hP, g7, ?_⟩
    simp only [s_M_says_71, s_M_says_77, Option.bind_some, Option.bind_none, Option.toList_some, Option.toList_none, List.cons_append, List.nil_append, List.append_nil, mv_0, hy]
    rfl
  · rw [show xsw [(1, 40), (4, 47), (6, 62)] 71 (nI 1) = 40 from by decide +kernel]
    obtain ⟨P, hP, g7, hy⟩ := v_gossipSays (X := X) (d := d) (σ := σ) hB hM (nI p) x
    refine ⟨P, hP, g7, ?_⟩
    simp only [s_M_says_40, s_M_says_46, Option.bind_some, Option.bind_none, Option.toList_some, Option.toList_none, List.cons_append, List.nil_append, List.append_nil, mv_0, hy]
    rfl
  · rw [show xsw [(1, 40), (4, 47), (6, 62)] 71 (nI 2) = 71 from by decide +kernel]
    obtain ⟨P, hP, g7, hy⟩ := v_plainSays (X := X) (d := d + 1) (σ := σ) hB hM (nI p) x
    refine ⟨P, hP, g7, ?_⟩
    simp only [s_M_says_71, s_M_says_77, Option.bind_some, Option.bind_none, Option.toList_some, Option.toList_none, List.cons_append, List.nil_append, List.append_nil, mv_0, hy]
    rfl
  · rw [show xsw [(1, 40), (4, 47), (6, 62)] 71 (nI 3) = 71 from by decide +kernel]
    obtain ⟨P, hP, g7, hy⟩ := v_plainSays (X := X) (d := d + 1) (σ := σ) hB hM (nI p) x
    refine ⟨P, hP, g7, ?_⟩
    simp only [s_M_says_71, s_M_says_77, Option.bind_some, Option.bind_none, Option.toList_some, Option.toList_none, List.cons_append, List.nil_append, List.append_nil, mv_0, hy]
    rfl
  · rw [show xsw [(1, 40), (4, 47), (6, 62)] 71 (nI 4) = 47 from by decide +kernel]
    obtain ⟨N, hN, h7, hx⟩ := c_M_begins (X := X) (d := d + 2) (σ := σ) hB hM 50
    obtain ⟨P, hP, g7, hy⟩ := v_gossipSays (X := X) (d := d) (σ := σ) (okB_vbg hB 50) hN (nI p) x
    refine ⟨P, hP, g7.trans h7, ?_⟩
    simp only [s_M_says_47, s_M_says_53, s_M_says_59, Option.bind_some, Option.bind_none, Option.toList_some, Option.toList_none, List.cons_append, List.nil_append, List.append_nil, mv_0, hx, hy]
    rfl
  · rw [show xsw [(1, 40), (4, 47), (6, 62)] 71 (nI 5) = 71 from by decide +kernel]
    obtain ⟨P, hP, g7, hy⟩ := v_plainSays (X := X) (d := d + 1) (σ := σ) hB hM (nI p) x
    refine ⟨P, hP, g7, ?_⟩
    simp only [s_M_says_71, s_M_says_77, Option.bind_some, Option.bind_none, Option.toList_some, Option.toList_none, List.cons_append, List.nil_append, List.append_nil, mv_0, hy]
    rfl
  · rw [show xsw [(1, 40), (4, 47), (6, 62)] 71 (nI 6) = 62 from by decide +kernel]
    obtain ⟨N, hN, h7, hx⟩ := c_M_begins (X := X) (d := d + 2) (σ := σ) hB hM 70
    refine ⟨N, hN, h7, ?_⟩
    simp only [s_M_says_62, s_M_says_68, Option.bind_some, Option.bind_none, Option.toList_some, Option.toList_none, List.cons_append, List.nil_append, List.append_nil, mv_0, hx]
    rfl
theorem v_plainLets (hS : okS S) (hB : okB R) (hM : RM M R S K) {p : Nat} (hp : p < 8) (x : Int32) : VC X σ (d + 5) j_M_plainLets [.int (nI p), .int x] M S K (plet (kd S p) (nI p) R x) := by
  obtain ⟨N, hN, h7, hx⟩ := c_M_begins (X := X) (d := d + 3) (σ := σ) hB hM 11
  obtain ⟨P, hP, g7, hy⟩ := v_says (X := X) (d := d) (σ := σ) hS (okB_vbg hB 11) hN hp x
  refine ⟨P, hP, g7.trans h7, ?_⟩
  rw [e_M_plainLets]
  simp only [s_M_plainLets_0, s_M_plainLets_6, s_M_plainLets_12, Option.bind_some, Option.bind_none, Option.toList_some, Option.toList_none, List.cons_append, List.nil_append, List.append_nil, mv_0, hx, hy]
  rfl
theorem v_mayorLets (hS : okS S) (hB : okB R) (hM : RM M R S K) {p : Nat} (hp : p < 8) (x : Int32) : VC X σ (d + 6) j_M_mayorLets [.int (nI p), .int x] M S K (mlet (kd S p) (nI p) R x) := by
  obtain ⟨N, hN, h7, hx⟩ := c_M_begins (X := X) (d := d + 4) (σ := σ) hB hM 30
  obtain ⟨P, hP, g7, hy⟩ := v_plainLets (X := X) (d := d) (σ := σ) hS (okB_vbg hB 30) hN hp x
  refine ⟨P, hP, g7.trans h7, ?_⟩
  rw [e_M_mayorLets]
  simp only [s_M_mayorLets_0, s_M_mayorLets_6, s_M_mayorLets_12, Option.bind_some, Option.bind_none, Option.toList_some, Option.toList_none, List.cons_append, List.nil_append, List.append_nil, mv_0, hx, hy]
  rw [← Int32.zero_sub]
  rfl
theorem v_letsBy (hS : okS S) (hB : okB R) (hM : RM M R S K) {p : Nat} (hp : p < 8) (x : Int32) : VC X σ (d + 7) j_M_letsBy [.int (nI p), .int x] M S K (vlet (kd S p) (nI p) (S.1 1 p) R x) := by
  obtain ⟨hk1, hk2⟩ := hS.2.1 p hp
  have w1 := fun (R : xS) (M : xS) (hB : okB R) (hM : RM M R S K) (x : Int32) => v_plainLets (X := X) (d := d + 1) (σ := σ) hS hB hM hp x
  have w2 := fun (R : xS) (M : xS) (hB : okB R) (hM : RM M R S K) (x : Int32) => v_mayorLets (X := X) (d := d) (σ := σ) hS hB hM hp x
  unfold VC
  rw [e_M_letsBy]
  simp only [s_M_letsBy_0, s_M_letsBy_6, Option.bind_some, Option.bind_none, Option.toList_some, Option.toList_none, List.cons_append, List.nil_append, List.append_nil, mv_0, c_M_of0 hM.row hp, hk1]
  revert hk2 w1 w2
  generalize kd S p = k
  intro hk2 w1 w2
  obtain rfl | rfl | rfl | rfl | rfl | rfl | rfl : k = 0 ∨ k = 1 ∨ k = 2 ∨ k = 3 ∨ k = 4 ∨ k = 5 ∨ k = 6 := by omega
  · rw [show xsw [(2, 40), (3, 82), (4, 82), (5, 47), (6, 62)] 82 (nI 0) = 82 from by decide +kernel]
    obtain ⟨P, hP, g7, hy⟩ := w1 R M hB hM x
    refine ⟨P, hP, g7, ?_⟩
    simp only [s_M_letsBy_82, s_M_letsBy_88, Option.bind_some, Option.bind_none, Option.toList_some, Option.toList_none, List.cons_append, List.nil_append, List.append_nil, mv_0, hy]
    rfl
  · rw [show xsw [(2, 40), (3, 82), (4, 82), (5, 47), (6, 62)] 82 (nI 1) = 82 from by decide +kernel]
    obtain ⟨P, hP, g7, hy⟩ := w1 R M hB hM x
    refine ⟨P, hP, g7, ?_⟩
    simp only [s_M_letsBy_82, s_M_letsBy_88, Option.bind_some, Option.bind_none, Option.toList_some, Option.toList_none, List.cons_append, List.nil_append, List.append_nil, mv_0, hy]
    rfl
  · rw [show xsw [(2, 40), (3, 82), (4, 82), (5, 47), (6, 62)] 82 (nI 2) = 40 from by decide +kernel]
    obtain ⟨P, hP, g7, hy⟩ := w2 R M hB hM x
    refine ⟨P, hP, g7, ?_⟩
    simp only [s_M_letsBy_40, s_M_letsBy_46, Option.bind_some, Option.bind_none, Option.toList_some, Option.toList_none, List.cons_append, List.nil_append, List.append_nil, mv_0, hy]
    rfl
  · rw [show xsw [(2, 40), (3, 82), (4, 82), (5, 47), (6, 62)] 82 (nI 3) = 82 from by decide +kernel]
    obtain ⟨P, hP, g7, hy⟩ := w1 R M hB hM x
    refine ⟨P, hP, g7, ?_⟩
    simp only [s_M_letsBy_82, s_M_letsBy_88, Option.bind_some, Option.bind_none, Option.toList_some, Option.toList_none, List.cons_append, List.nil_append, List.append_nil, mv_0, hy]
    rfl
  · rw [show xsw [(2, 40), (3, 82), (4, 82), (5, 47), (6, 62)] 82 (nI 4) = 82 from by decide +kernel]
    obtain ⟨P, hP, g7, hy⟩ := w1 R M hB hM x
    refine ⟨P, hP, g7, ?_⟩
    simp only [s_M_letsBy_82, s_M_letsBy_88, Option.bind_some, Option.bind_none, Option.toList_some, Option.toList_none, List.cons_append, List.nil_append, List.append_nil, mv_0, hy]
    rfl
  · rw [show xsw [(2, 40), (3, 82), (4, 82), (5, 47), (6, 62)] 82 (nI 5) = 47 from by decide +kernel]
    obtain ⟨N, hN, h7, hx⟩ := c_M_begins (X := X) (d := d + 5) (σ := σ) hB hM 60
    obtain ⟨P, hP, g7, hy⟩ := w2 _ N (okB_vbg hB 60) hN (x + 1)
    refine ⟨P, hP, g7.trans h7, ?_⟩
    simp only [s_M_letsBy_47, s_M_letsBy_53, s_M_letsBy_61, Option.bind_some, Option.bind_none, Option.toList_some, Option.toList_none, List.cons_append, List.nil_append, List.append_nil, mv_0, hx, hy]
    rfl
  · rw [show xsw [(2, 40), (3, 82), (4, 82), (5, 47), (6, 62)] 82 (nI 6) = 62 from by decide +kernel]
    obtain ⟨N, hN, h7, hx⟩ := c_M_begins (X := X) (d := d + 5) (σ := σ) hB hM 71
    obtain ⟨P, hP, g7, hy⟩ := w1 _ N (okB_vbg hB 71) hN x
    refine ⟨P, hP, g7.trans h7, ?_⟩
    simp only [s_M_letsBy_62, s_M_letsBy_68, s_M_letsBy_74, s_M_letsBy_80, Option.bind_some, Option.bind_none, Option.toList_some, Option.toList_none, List.cons_append, List.nil_append, List.append_nil, mv_0, hx, hy, c_M_of1 hP.row hp]
    rfl
theorem v_plainHauls (hS : okS S) (hB : okB R) (hM : RM M R S K) {p : Nat} (hp : p < 8) (x : Int32) : VC X σ (d + 8) j_M_plainHauls [.int (nI p), .int x] M S K (phaul (kd S p) (nI p) (S.1 1 p) R x) := by
  obtain ⟨N, hN, h7, hx⟩ := c_M_begins (X := X) (d := d + 6) (σ := σ) hB hM 12
  obtain ⟨P, hP, g7, hy⟩ := v_letsBy (X := X) (d := d) (σ := σ) hS (okB_vbg hB 12) hN hp x
  refine ⟨P, hP, g7.trans h7, ?_⟩
  rw [e_M_plainHauls]
  simp only [s_M_plainHauls_0, s_M_plainHauls_6, s_M_plainHauls_12, s_M_plainHauls_18, Option.bind_some, Option.bind_none, Option.toList_some, Option.toList_none, List.cons_append, List.nil_append, List.append_nil, mv_0, hx, hy, c_M_of1 hP.row hp]
  rfl
theorem v_haulsBy (hS : okS S) (hB : okB R) (hM : RM M R S K) {p : Nat} (hp : p < 8) (x : Int32) : VC X σ (d + 9) j_M_haulsBy [.int (nI p), .int x] M S K (vhaul (kd S p) (nI p) (S.1 1 p) R x) := by
  obtain ⟨hk1, hk2⟩ := hS.2.1 p hp
  have w1 := fun (R : xS) (M : xS) (hB : okB R) (hM : RM M R S K) (x : Int32) => v_plainHauls (X := X) (d := d) (σ := σ) hS hB hM hp x
  unfold VC
  rw [e_M_haulsBy]
  simp only [s_M_haulsBy_0, s_M_haulsBy_6, Option.bind_some, Option.bind_none, Option.toList_some, Option.toList_none, List.cons_append, List.nil_append, List.append_nil, mv_0, c_M_of0 hM.row hp, hk1]
  revert hk2 w1
  generalize kd S p = k
  intro hk2 w1
  obtain rfl | rfl | rfl | rfl | rfl | rfl | rfl : k = 0 ∨ k = 1 ∨ k = 2 ∨ k = 3 ∨ k = 4 ∨ k = 5 ∨ k = 6 := by omega
  · rw [show xsw [(3, 32), (4, 47)] 62 (nI 0) = 62 from by decide +kernel]
    obtain ⟨P, hP, g7, hy⟩ := w1 R M hB hM x
    refine ⟨P, hP, g7, ?_⟩
    simp only [s_M_haulsBy_62, s_M_haulsBy_68, Option.bind_some, Option.bind_none, Option.toList_some, Option.toList_none, List.cons_append, List.nil_append, List.append_nil, mv_0, hy]
    rfl
  · rw [show xsw [(3, 32), (4, 47)] 62 (nI 1) = 62 from by decide +kernel]
    obtain ⟨P, hP, g7, hy⟩ := w1 R M hB hM x
    refine ⟨P, hP, g7, ?_⟩
    simp only [s_M_haulsBy_62, s_M_haulsBy_68, Option.bind_some, Option.bind_none, Option.toList_some, Option.toList_none, List.cons_append, List.nil_append, List.append_nil, mv_0, hy]
    rfl
  · rw [show xsw [(3, 32), (4, 47)] 62 (nI 2) = 62 from by decide +kernel]
    obtain ⟨P, hP, g7, hy⟩ := w1 R M hB hM x
    refine ⟨P, hP, g7, ?_⟩
    simp only [s_M_haulsBy_62, s_M_haulsBy_68, Option.bind_some, Option.bind_none, Option.toList_some, Option.toList_none, List.cons_append, List.nil_append, List.append_nil, mv_0, hy]
    rfl
  · rw [show xsw [(3, 32), (4, 47)] 62 (nI 3) = 32 from by decide +kernel]
    obtain ⟨N, hN, h7, hx⟩ := c_M_begins (X := X) (d := d + 7) (σ := σ) hB hM 40
    obtain ⟨P, hP, g7, hy⟩ := w1 _ N (okB_vbg hB 40) hN (x / 2)
    refine ⟨P, hP, g7.trans h7, ?_⟩
    simp only [s_M_haulsBy_32, s_M_haulsBy_38, s_M_haulsBy_46, Option.bind_some, Option.bind_none, Option.toList_some, Option.toList_none, List.cons_append, List.nil_append, List.append_nil, mv_0, hx, hy]
    rfl
  · rw [show xsw [(3, 32), (4, 47)] 62 (nI 4) = 47 from by decide +kernel]
    obtain ⟨N, hN, h7, hx⟩ := c_M_begins (X := X) (d := d + 7) (σ := σ) hB hM 51
    obtain ⟨P, hP, g7, hy⟩ := w1 _ N (okB_vbg hB 51) hN x
    rw [vhaul_4]
    dsimp only
    refine ⟨P, hP, g7.trans h7, ?_⟩
    simp only [s_M_haulsBy_47, s_M_haulsBy_53, s_M_haulsBy_59, Option.bind_some, Option.bind_none, Option.toList_some, Option.toList_none, List.cons_append, List.nil_append, List.append_nil, mv_0, hx, hy]
  · rw [show xsw [(3, 32), (4, 47)] 62 (nI 5) = 62 from by decide +kernel]
    obtain ⟨P, hP, g7, hy⟩ := w1 R M hB hM x
    refine ⟨P, hP, g7, ?_⟩
    simp only [s_M_haulsBy_62, s_M_haulsBy_68, Option.bind_some, Option.bind_none, Option.toList_some, Option.toList_none, List.cons_append, List.nil_append, List.append_nil, mv_0, hy]
    rfl
  · rw [show xsw [(3, 32), (4, 47)] 62 (nI 6) = 62 from by decide +kernel]
    obtain ⟨P, hP, g7, hy⟩ := w1 R M hB hM x
    refine ⟨P, hP, g7, ?_⟩
    simp only [s_M_haulsBy_62, s_M_haulsBy_68, Option.bind_some, Option.bind_none, Option.toList_some, Option.toList_none, List.cons_append, List.nil_append, List.append_nil, mv_0, hy]
    rfl
/-! parts: the flag too -/
def VP (X : xX) (σ : xW) (d j : Nat) (as : List Value) (M S K : xS) (r : Int32 × xS × Int32) : Prop := ∃ N : xS, RM N r.2.1 S K ∧ N.2 7 = r.2.2 ∧ xcall X d j (.ref (sh 4 0) :: as) (ub σ 4 (mdC M)) = some (some (.int r.1), ub σ 4 (mdC N))
theorem RM_fl (h : RM M R S K) (y : Int32) : RM (M.1, u1 M.2 7 y) R S K := ⟨h.row, h.kept, h.errs, h.bits, h.size, h.cell, h.imgs, h.trcd, h.trce⟩
theorem v_plainParts (hB : okB R) (hM : RM M R S K) {p : Nat} (hp : p < 8) (x : Int32) : VP X σ (d + 2) j_M_plainParts [.int (nI p), .int x] M S K (ppart (nI p) (S.1 1 p) R x) := by
  obtain ⟨N, hN, h7, hx⟩ := c_M_begins (X := X) (d := d) (σ := σ) hB hM 13
  unfold VP ppart
  rw [e_M_plainParts]
  simp only [s_M_plainParts_0, s_M_plainParts_6, s_M_plainParts_12, Option.bind_some, Option.bind_none, Option.toList_some, Option.toList_none, List.cons_append, List.nil_append, List.append_nil, mv_0, hx, c_M_of1 hN.row hp]
  have e1 : ∀ y : Int32, u1 N.2 7 y 7 = y := fun _ => rfl
  have z10 : ¬ (1 : Int32) = 0 := by decide
  by_cases h0 : S.1 1 p - nI p = 0
  · rw [if_pos h0, if_pos h0]
    refine ⟨(N.1, u1 N.2 7 1), RM_fl hN 1, rfl, ?_⟩
    simp only [s_M_plainParts_20, s_M_plainParts_25, xz1, if_true, mp_0_20, s_M_plainParts_28, s_M_plainParts_32, s_M_plainParts_35, s_M_plainParts_42, Option.bind_some, Option.bind_none, Option.toList_some, Option.toList_none, List.cons_append, List.nil_append, List.append_nil, mv_0, mg_0_0, mg_0_1, mg_0_2, mg_0_3, mg_0_4, mg_0_5, mg_0_6, mg_0_7, mg_0_8, mg_0_9, mg_0_10, mg_0_11, mg_0_12, mg_0_13, mg_0_14, mg_0_15, mg_0_16, mg_0_17, mg_0_18, mg_0_19, mg_0_20, e1, if_neg z10]
  · rw [if_neg h0, if_neg h0]
    refine ⟨(N.1, u1 N.2 7 0), RM_fl hN 0, rfl, ?_⟩
    simp only [s_M_plainParts_24, s_M_plainParts_25, xz0, if_true, mp_0_20, s_M_plainParts_28, s_M_plainParts_32, s_M_plainParts_39, s_M_plainParts_42, Option.bind_some, Option.bind_none, Option.toList_some, Option.toList_none, List.cons_append, List.nil_append, List.append_nil, mv_0, mg_0_0, mg_0_1, mg_0_2, mg_0_3, mg_0_4, mg_0_5, mg_0_6, mg_0_7, mg_0_8, mg_0_9, mg_0_10, mg_0_11, mg_0_12, mg_0_13, mg_0_14, mg_0_15, mg_0_16, mg_0_17, mg_0_18, mg_0_19, mg_0_20, e1, if_neg h0]
theorem v_partsBy (hS : okS S) (hB : okB R) (hM : RM M R S K) {p : Nat} (hp : p < 8) (x : Int32) : VP X σ (d + 8) j_M_partsBy [.int (nI p), .int x] M S K (vpart (kd S p) (nI p) (S.1 1 p) R x) := by
  obtain ⟨hk1, hk2⟩ := hS.2.1 p hp
  have q1 : nI (kd S p) = 1 ↔ kd S p = 1 := nI_inj (b := 1) (by omega) (by omega)
  have q4 : nI (kd S p) = 4 ↔ kd S p = 4 := nI_inj (b := 4) (by omega) (by omega)
  have gos : kd S p = 1 ∨ kd S p = 4 → ∃ N : xS, RM N (gpart (kd S p) (nI p) (S.1 1 p) R x).2.1 S K ∧ N.2 7 = (gpart (kd S p) (nI p) (S.1 1 p) R x).2.2 ∧ xrun (X, xcall X (d + 7)) j_M_partsBy 20 [.ref (sh 4 0), .int (nI p), .int x, .null] [] (ub σ 4 (mdC M)) = some (some (.int (gpart (kd S p) (nI p) (S.1 1 p) R x).1), ub σ 4 (mdC N)) := by
    intro hk
    obtain ⟨N, hN, h7, hx⟩ := c_M_begins (X := X) (d := d + 6) (σ := σ) hB hM 21
    obtain ⟨P, hP, g7, hy⟩ := v_plainParts (X := X) (d := d + 5) (σ := σ) (okB_vbg hB 21) hN hp x
    have e2 : (ppart (nI p) (S.1 1 p) (vbg R 21) x).2.1 = vbg (vbg R 21) 13 := by
      unfold ppart
      split <;> rfl
    rw [e2] at hP
    unfold gpart
    by_cases h0 : S.1 1 p - nI p = 0
    · have e3 : (ppart (nI p) (S.1 1 p) (vbg R 21) x).2.2 = 1 := by
        unfold ppart
        rw [if_pos h0]
      have z10 : ¬ (1 : Int32) = 0 := by decide
      rw [e3] at g7
      rw [if_pos h0]
      refine ⟨P, hP, g7, ?_⟩
      simp only [s_M_partsBy_20, s_M_partsBy_26, s_M_partsBy_32, s_M_partsBy_37, Option.bind_some, Option.bind_none, Option.toList_some, Option.toList_none, List.cons_append, List.nil_append, List.append_nil, mv_0, mg_0_0, mg_0_1, mg_0_2, mg_0_3, mg_0_4, mg_0_5, mg_0_6, mg_0_7, mg_0_8, mg_0_9, mg_0_10, mg_0_11, mg_0_12, mg_0_13, mg_0_14, mg_0_15, mg_0_16, mg_0_17, mg_0_18, mg_0_19, mg_0_20, hx, hy, g7, if_neg z10, s_M_partsBy_40, s_M_partsBy_52]
    · have e3 : ppart (nI p) (S.1 1 p) (vbg R 21) x = (x / (S.1 1 p - nI p), vbg (vbg R 21) 13, 0) := by
        unfold ppart
        rw [if_neg h0]
      rw [e3] at g7 hy
      have g7' : P.2 7 = 0 := g7
      have hl : vlet (kd S p) (nI p) (S.1 1 p) (vbg (vbg R 21) 13) 1 = plet (kd S p) (nI p) (vbg (vbg R 21) 13) 1 := by
        rcases hk with e | e <;> rw [e] <;> rfl
      obtain ⟨Q, hQ, i7, hz⟩ := v_letsBy (X := X) (d := d) (σ := σ) hS (okB_vbg (okB_vbg hB 21) 13) hP hp 1
      rw [hl] at hQ hz
      rw [if_neg h0]
      refine ⟨Q, hQ, i7.trans g7', ?_⟩
      simp only [s_M_partsBy_20, s_M_partsBy_26, s_M_partsBy_32, s_M_partsBy_37, Option.bind_some, Option.bind_none, Option.toList_some, Option.toList_none, List.cons_append, List.nil_append, List.append_nil, mv_0, mg_0_0, mg_0_1, mg_0_2, mg_0_3, mg_0_4, mg_0_5, mg_0_6, mg_0_7, mg_0_8, mg_0_9, mg_0_10, mg_0_11, mg_0_12, mg_0_13, mg_0_14, mg_0_15, mg_0_16, mg_0_17, mg_0_18, mg_0_19, mg_0_20, hx, hy, g7', if_true, s_M_partsBy_44, s_M_partsBy_51, s_M_partsBy_52, hz]
  unfold VP
  rw [e_M_partsBy]
  simp only [s_M_partsBy_0, s_M_partsBy_6, Option.bind_some, Option.bind_none, Option.toList_some, Option.toList_none, List.cons_append, List.nil_append, List.append_nil, mv_0, c_M_of0 hM.row hp, hk1, q1]
  by_cases c1 : kd S p = 1
  · rw [if_pos c1]
    have e : vpart (kd S p) (nI p) (S.1 1 p) R x = gpart (kd S p) (nI p) (S.1 1 p) R x := by rw [c1]; rfl
    rw [e]
    exact gos (Or.inl c1)
  rw [if_neg c1]
  simp only [s_M_partsBy_10, s_M_partsBy_16, Option.bind_some, Option.bind_none, Option.toList_some, Option.toList_none, List.cons_append, List.nil_append, List.append_nil, mv_0, c_M_of0 hM.row hp, hk1, q4]
  by_cases c4 : kd S p = 4
  · rw [if_pos c4]
    have e : vpart (kd S p) (nI p) (S.1 1 p) R x = gpart (kd S p) (nI p) (S.1 1 p) R x := by rw [c4]; rfl
    rw [e]
    exact gos (Or.inr c4)
  · rw [if_neg c4]
    have e : vpart (kd S p) (nI p) (S.1 1 p) R x = ppart (nI p) (S.1 1 p) R x := by
      unfold vpart
      split
      · next h => exact absurd h c1
      · next h => exact absurd h c4
      · rfl
    rw [e]
    obtain ⟨P, hP, g7, hy⟩ := v_plainParts (X := X) (d := d + 5) (σ := σ) hB hM hp x
    refine ⟨P, hP, g7, ?_⟩
    simp only [s_M_partsBy_53, s_M_partsBy_59, Option.bind_some, Option.bind_none, Option.toList_some, Option.toList_none, List.cons_append, List.nil_append, List.append_nil, mv_0, hy]
theorem RM_v0 (h : RM M R S K) : RM (M.1, u1 (u1 M.2 6 0) 7 0) (R.1, u1 R.2 9 0) S K := ⟨h.row, h.kept, h.errs, fun s hs => (h.bits s hs).trans (u1q (by omega)).symm, fun s hs => (h.size s hs).trans (u1q (by omega)).symm, h.cell, h.imgs, rfl, h.trce⟩
theorem m_voice (hS : okS S) (hM : RM M R S K) (p v x : Int32) : MC X (d + 10) j_M_voice [.int p, .int v, .int x] M (sp_voice R S K p v x) := by
  intro σ
  have h := hM.row
  have ee : ∃ N : xS, RM N (er R 1) S K ∧ xrun (X, xcall X (d + 9)) j_M_voice 17 [.ref (sh 4 0), .int p, .int v, .int x, .null] [] (ub σ 4 (mdC M)) = some (some (.int (lw 1)), ub σ 4 (mdC N)) := by
    obtain ⟨N, hN, hx⟩ := c_M_error1 (X := X) (d := d + 8) (σ := σ) hM
    refine ⟨N, hN, ?_⟩
    simp only [s_M_voice_17, s_M_voice_23, Option.bind_some, Option.bind_none, Option.toList_some, Option.toList_none, List.cons_append, List.nil_append, List.append_nil, mv_0, hx]
  rw [e_M_voice]
  unfold sp_voice
  simp only [s_M_voice_0, s_M_voice_5, Option.bind_some, Option.bind_none, Option.toList_some, Option.toList_none, List.cons_append, List.nil_append, List.append_nil, mv_0, c_M_isPerson h, z1_0]
  by_cases h1 : hasP S p
  · rw [if_neg (not_not_intro h1)]
    simp only [s_M_voice_8, s_M_voice_14, Option.bind_some, Option.bind_none, Option.toList_some, Option.toList_none, List.cons_append, List.nil_append, List.append_nil, c_M_in, z1_0]
    by_cases h2 : 0 ≤ v ∧ v ≤ 3
    · rw [if_neg (not_not_intro h2), if_neg (not_not_intro (⟨h1, h2⟩ : hasP S p ∧ (0 ≤ v ∧ v ≤ 3)))]
      obtain ⟨k, rfl, -, hk8⟩ := hasP_ix hS h1
      have ek := ix_nI (Nat.lt_trans hk8 (by decide))
      rw [ek]
      have hM0 := RM_v0 hM
      have hB0 : okB (R.1, u1 R.2 9 0) := ⟨rfl, by show ix (0 : Int32) ≤ 30; decide⟩
      have hf : ∀ (r : Int32 × xS × Int32) (l0 : Int32), (r.2.2 = 0 ∨ r.2.2 = 1) → ∀ N : xS, RM N r.2.1 S K → N.2 7 = r.2.2 → ∃ N' : xS, RM N' (if r.2.2 = 0 then (r.1, r.2.1, S, K) else eQ 6 r.2.1 S K).2.1 (if r.2.2 = 0 then (r.1, r.2.1, S, K) else eQ 6 r.2.1 S K).2.2.1 (if r.2.2 = 0 then (r.1, r.2.1, S, K) else eQ 6 r.2.1 S K).2.2.2 ∧ xrun (X, xcall X (d + 9)) j_M_voice 81 [.ref (sh 4 0), .int (nI k), .int v, .int x, .null] [.int r.1] (ub σ 4 (mdC N)) = some (some (.int (if r.2.2 = 0 then (r.1, r.2.1, S, K) else eQ 6 r.2.1 S K).1), ub σ 4 (mdC N')) := by
        intro r _ hr N hN h7
        simp only [s_M_voice_81, s_M_voice_87, Option.bind_some, Option.bind_none, Option.toList_some, Option.toList_none, List.cons_append, List.nil_append, List.append_nil, mv_0, mg_0_0, mg_0_1, mg_0_2, mg_0_3, mg_0_4, mg_0_5, mg_0_6, mg_0_7, mg_0_8, mg_0_9, mg_0_10, mg_0_11, mg_0_12, mg_0_13, mg_0_14, mg_0_15, mg_0_16, mg_0_17, mg_0_18, mg_0_19, mg_0_20, h7]
        by_cases h0 : r.2.2 = 0
        · rw [if_pos h0, if_pos h0]
          refine ⟨N, hN, ?_⟩
          rw [s_M_voice_100, s_M_voice_102]
        · rw [if_neg h0, if_neg h0]
          obtain ⟨N', hN', hx⟩ := c_M_error6 (X := X) (d := d + 8) (σ := σ) hN
          refine ⟨N', hN', ?_⟩
          simp only [s_M_voice_90, s_M_voice_97, s_M_voice_102, Option.bind_some, Option.bind_none, Option.toList_some, Option.toList_none, List.cons_append, List.nil_append, List.append_nil, mv_0, hx]
          rfl
      simp only [s_M_voice_24, s_M_voice_29, Option.bind_some, Option.bind_none, Option.toList_some, Option.toList_none, List.cons_append, List.nil_append, List.append_nil, mp_0_19, mp_0_20, s_M_voice_34]
      unfold vall
      by_cases v0 : v = 0
      · simp only [if_pos v0]
        obtain ⟨N, hN, h7, hx⟩ := v_says (X := X) (d := d + 5) (σ := σ) hS hB0 hM0 hk8 x
        obtain ⟨N', hN', hx'⟩ := hf ((vsay (kd S k) (nI k) (R.1, u1 R.2 9 0) x).1, (vsay (kd S k) (nI k) (R.1, u1 R.2 9 0) x).2, 0) 0 (Or.inl rfl) N hN h7
        refine ⟨N', hN', ?_⟩
        simp only [s_M_voice_38, s_M_voice_44, Option.bind_some, Option.bind_none, Option.toList_some, Option.toList_none, List.cons_append, List.nil_append, List.append_nil, mv_0, hx]
        exact hx'
      · simp only [if_neg v0, s_M_voice_47]
        by_cases v1 : v = 1
        · simp only [if_pos v1]
          obtain ⟨N, hN, h7, hx⟩ := v_letsBy (X := X) (d := d + 2) (σ := σ) hS hB0 hM0 hk8 x
          obtain ⟨N', hN', hx'⟩ := hf ((vlet (kd S k) (nI k) (S.1 1 k) (R.1, u1 R.2 9 0) x).1, (vlet (kd S k) (nI k) (S.1 1 k) (R.1, u1 R.2 9 0) x).2, 0) 0 (Or.inl rfl) N hN h7
          refine ⟨N', hN', ?_⟩
          simp only [s_M_voice_52, s_M_voice_58, Option.bind_some, Option.bind_none, Option.toList_some, Option.toList_none, List.cons_append, List.nil_append, List.append_nil, mv_0, hx]
          exact hx'
        · simp only [if_neg v1, s_M_voice_61]
          by_cases v2 : v = 2
          · simp only [if_pos v2]
            obtain ⟨N, hN, h7, hx⟩ := v_haulsBy (X := X) (d := d) (σ := σ) hS hB0 hM0 hk8 x
            obtain ⟨N', hN', hx'⟩ := hf ((vhaul (kd S k) (nI k) (S.1 1 k) (R.1, u1 R.2 9 0) x).1, (vhaul (kd S k) (nI k) (S.1 1 k) (R.1, u1 R.2 9 0) x).2, 0) 0 (Or.inl rfl) N hN h7
            refine ⟨N', hN', ?_⟩
            simp only [s_M_voice_66, s_M_voice_72, Option.bind_some, Option.bind_none, Option.toList_some, Option.toList_none, List.cons_append, List.nil_append, List.append_nil, mv_0, hx]
            exact hx'
          · simp only [if_neg v2]
            obtain ⟨N, hN, h7, hx⟩ := v_partsBy (X := X) (d := d + 1) (σ := σ) hS hB0 hM0 hk8 x
            by_cases hz : (vpart (kd S k) (nI k) (S.1 1 k) (R.1, u1 R.2 9 0) x).2.2 = 0
            · obtain ⟨N', hN', hx'⟩ := hf (vpart (kd S k) (nI k) (S.1 1 k) (R.1, u1 R.2 9 0) x) 0 (Or.inl hz) N hN h7
              refine ⟨N', hN', ?_⟩
              simp only [s_M_voice_75, Option.bind_some, Option.bind_none, Option.toList_some, Option.toList_none, List.cons_append, List.nil_append, List.append_nil, mv_0, hx]
              exact hx'
            · obtain ⟨N', hN', hx'⟩ := hf (vpart (kd S k) (nI k) (S.1 1 k) (R.1, u1 R.2 9 0) x) 0 (by
                unfold vpart
                split
                · unfold gpart
                  split
                  · exact Or.inr rfl
                  · exact Or.inl rfl
                · unfold gpart
                  split
                  · exact Or.inr rfl
                  · exact Or.inl rfl
                · unfold ppart
                  split
                  · exact Or.inr rfl
                  · exact Or.inl rfl) N hN h7
              refine ⟨N', hN', ?_⟩
              simp only [s_M_voice_75, Option.bind_some, Option.bind_none, Option.toList_some, Option.toList_none, List.cons_append, List.nil_append, List.append_nil, mv_0, hx]
              exact hx'
    · rw [if_pos h2, if_pos (fun e : hasP S p ∧ (0 ≤ v ∧ v ≤ 3) => h2 e.2)]
      exact ee
  · rw [if_pos h1, if_pos (fun e : hasP S p ∧ (0 ≤ v ∧ v ≤ 3) => h1 e.1)]
    exact ee
end MVoice
