/-! ===== the model: laws, ropes ===== -/
theorem enc_push {c : Int32} (h : ¬ c < -3) (h0 : 0 ≤ c) : enc c = (1, c) := if_pos h0
theorem enc_name {c : Int32} (h : ¬ c < -3) (h0 : ¬ 0 ≤ c) : enc c = (2, -1 - c) := by unfold enc; rw [if_neg h0, if_pos h]
theorem enc_deny : enc (-33) = (3, 0) := by decide
theorem enc_op {c : Int32} (h : c < -3) (h33 : ¬ c = -33) : enc c = (-c, 0) := by
  have h0 : ¬ 0 ≤ c := fun e => absurd (Int32.lt_of_le_of_lt e h) (by decide)
  unfold enc
  rw [if_neg h0, if_neg (not_not_intro h), if_neg h33]
theorem i32_m3 {c : Int32} (h : ¬ c < -3) (h0 : ¬ 0 ≤ c) : c = -1 ∨ c = -2 ∨ c = -3 := by
  rw [Int32.lt_iff_toInt_lt] at h
  rw [Int32.le_iff_toInt_le] at h0
  have e3 : (-3 : Int32).toInt = -3 := rfl
  have e0 : (0 : Int32).toInt = 0 := rfl
  rw [e3] at h
  rw [e0] at h0
  have : c.toInt = -1 ∨ c.toInt = -2 ∨ c.toInt = -3 := by omega
  rcases this with e | e | e
  · exact Or.inl (Int32.toInt_inj.mp e)
  · exact Or.inr (Or.inl (Int32.toInt_inj.mp e))
  · exact Or.inr (Or.inr (Int32.toInt_inj.mp e))
section Mod2
variable {X : xX} {d : Nat} {σ : xW} {M S : xS}
theorem c_M_twoOf {s : Int32} (hs : isOp s) (a b : Int32) : xcall X (d + 1) j_M_twoOf [.int s, .int a, .int b] σ = some (some (.int (wk s a b)), σ) := by
  rw [e_M_twoOf, s_M_twoOf_0]
  rcases hs with rfl | rfl | rfl | rfl | rfl | rfl | rfl | rfl | rfl | rfl
  · rw [show xsw [(37, 144), (38, 189), (39, 203), (40, 203), (41, 203), (42, 128), (43, 120), (44, 203), (45, 124), (46, 203), (47, 132), (48, 203), (49, 203), (50, 203), (51, 203), (52, 203), (53, 203), (54, 203), (55, 203), (56, 203), (57, 203), (58, 203), (59, 203), (60, 156), (61, 167), (62, 178)] 203 (37 : Int32) = 144 from by decide +kernel]
    show _ = some (some (Value.int (if b = 0 then 0 else a - a / b * b)), σ)
    rw [s_M_twoOf_144]
    by_cases hb : b = 0
    · rw [if_pos hb, if_pos hb, s_M_twoOf_148, s_M_twoOf_155]
    · rw [if_neg hb, if_neg hb, s_M_twoOf_152, if_neg hb, s_M_twoOf_155]
  · rw [show xsw [(37, 144), (38, 189), (39, 203), (40, 203), (41, 203), (42, 128), (43, 120), (44, 203), (45, 124), (46, 203), (47, 132), (48, 203), (49, 203), (50, 203), (51, 203), (52, 203), (53, 203), (54, 203), (55, 203), (56, 203), (57, 203), (58, 203), (59, 203), (60, 156), (61, 167), (62, 178)] 203 (38 : Int32) = 189 from by decide +kernel]
    show _ = some (some (Value.int (z1 (a ≠ 0 ∧ b ≠ 0))), σ)
    rw [s_M_twoOf_189]
    by_cases ha : a = 0
    · rw [if_pos ha, s_M_twoOf_201, s_M_twoOf_202, z1_f (fun h => h.1 ha)]
    · rw [if_neg ha, s_M_twoOf_193]
      by_cases hb : b = 0
      · rw [if_pos hb, s_M_twoOf_201, s_M_twoOf_202, z1_f (fun h => h.2 hb)]
      · rw [if_neg hb, s_M_twoOf_197, s_M_twoOf_202, z1_t ⟨ha, hb⟩]
  · rw [show xsw [(37, 144), (38, 189), (39, 203), (40, 203), (41, 203), (42, 128), (43, 120), (44, 203), (45, 124), (46, 203), (47, 132), (48, 203), (49, 203), (50, 203), (51, 203), (52, 203), (53, 203), (54, 203), (55, 203), (56, 203), (57, 203), (58, 203), (59, 203), (60, 156), (61, 167), (62, 178)] 203 (42 : Int32) = 128 from by decide +kernel]
    rw [s_M_twoOf_128]
    rfl
  · rw [show xsw [(37, 144), (38, 189), (39, 203), (40, 203), (41, 203), (42, 128), (43, 120), (44, 203), (45, 124), (46, 203), (47, 132), (48, 203), (49, 203), (50, 203), (51, 203), (52, 203), (53, 203), (54, 203), (55, 203), (56, 203), (57, 203), (58, 203), (59, 203), (60, 156), (61, 167), (62, 178)] 203 (43 : Int32) = 120 from by decide +kernel]
    rw [s_M_twoOf_120]
    rfl
  · rw [show xsw [(37, 144), (38, 189), (39, 203), (40, 203), (41, 203), (42, 128), (43, 120), (44, 203), (45, 124), (46, 203), (47, 132), (48, 203), (49, 203), (50, 203), (51, 203), (52, 203), (53, 203), (54, 203), (55, 203), (56, 203), (57, 203), (58, 203), (59, 203), (60, 156), (61, 167), (62, 178)] 203 (45 : Int32) = 124 from by decide +kernel]
    rw [s_M_twoOf_124]
    rfl
  · rw [show xsw [(37, 144), (38, 189), (39, 203), (40, 203), (41, 203), (42, 128), (43, 120), (44, 203), (45, 124), (46, 203), (47, 132), (48, 203), (49, 203), (50, 203), (51, 203), (52, 203), (53, 203), (54, 203), (55, 203), (56, 203), (57, 203), (58, 203), (59, 203), (60, 156), (61, 167), (62, 178)] 203 (47 : Int32) = 132 from by decide +kernel]
    show _ = some (some (Value.int (if b = 0 then 0 else a / b)), σ)
    rw [s_M_twoOf_132]
    by_cases hb : b = 0
    · rw [if_pos hb, if_pos hb, s_M_twoOf_136, s_M_twoOf_143]
    · rw [if_neg hb, if_neg hb, s_M_twoOf_140, if_neg hb, s_M_twoOf_143]
  · rw [show xsw [(37, 144), (38, 189), (39, 203), (40, 203), (41, 203), (42, 128), (43, 120), (44, 203), (45, 124), (46, 203), (47, 132), (48, 203), (49, 203), (50, 203), (51, 203), (52, 203), (53, 203), (54, 203), (55, 203), (56, 203), (57, 203), (58, 203), (59, 203), (60, 156), (61, 167), (62, 178)] 203 (60 : Int32) = 156 from by decide +kernel]
    show _ = some (some (Value.int (z1 (a < b))), σ)
    rw [s_M_twoOf_156]
    by_cases h : b ≤ a
    · rw [if_pos h, s_M_twoOf_165, s_M_twoOf_166, z1_f (i32_nlt.mpr h)]
    · rw [if_neg h, s_M_twoOf_161, s_M_twoOf_166, z1_t (i32_nle.mp h)]
  · rw [show xsw [(37, 144), (38, 189), (39, 203), (40, 203), (41, 203), (42, 128), (43, 120), (44, 203), (45, 124), (46, 203), (47, 132), (48, 203), (49, 203), (50, 203), (51, 203), (52, 203), (53, 203), (54, 203), (55, 203), (56, 203), (57, 203), (58, 203), (59, 203), (60, 156), (61, 167), (62, 178)] 203 (61 : Int32) = 167 from by decide +kernel]
    show _ = some (some (Value.int (z1 (a = b))), σ)
    rw [s_M_twoOf_167]
    by_cases h : a = b
    · rw [if_pos h, s_M_twoOf_172, s_M_twoOf_177, z1_t h]
    · rw [if_neg h, s_M_twoOf_176, s_M_twoOf_177, z1_f h]
  · rw [show xsw [(37, 144), (38, 189), (39, 203), (40, 203), (41, 203), (42, 128), (43, 120), (44, 203), (45, 124), (46, 203), (47, 132), (48, 203), (49, 203), (50, 203), (51, 203), (52, 203), (53, 203), (54, 203), (55, 203), (56, 203), (57, 203), (58, 203), (59, 203), (60, 156), (61, 167), (62, 178)] 203 (62 : Int32) = 178 from by decide +kernel]
    show _ = some (some (Value.int (z1 (b < a))), σ)
    rw [s_M_twoOf_178]
    by_cases h : a ≤ b
    · rw [if_pos h, s_M_twoOf_187, s_M_twoOf_188, z1_f (i32_nlt.mpr h)]
    · rw [if_neg h, s_M_twoOf_183, s_M_twoOf_188, z1_t (i32_nle.mp h)]
  · rw [show xsw [(37, 144), (38, 189), (39, 203), (40, 203), (41, 203), (42, 128), (43, 120), (44, 203), (45, 124), (46, 203), (47, 132), (48, 203), (49, 203), (50, 203), (51, 203), (52, 203), (53, 203), (54, 203), (55, 203), (56, 203), (57, 203), (58, 203), (59, 203), (60, 156), (61, 167), (62, 178)] 203 (124 : Int32) = 203 from by decide +kernel]
    show _ = some (some (Value.int (z1 (a ≠ 0 ∨ b ≠ 0))), σ)
    rw [s_M_twoOf_203]
    by_cases ha : a = 0
    · rw [if_pos ha, s_M_twoOf_207]
      by_cases hb : b = 0
      · rw [if_pos hb, s_M_twoOf_215, s_M_twoOf_216, z1_f (fun h => h.elim (fun e => e ha) (fun e => e hb))]
      · rw [if_neg hb, s_M_twoOf_211, s_M_twoOf_216, z1_t (Or.inr hb)]
    · rw [if_neg ha, s_M_twoOf_211, s_M_twoOf_216, z1_t (Or.inl ha)]
theorem pshv_1 (a b c : Int32) : pshv a b c (-1) = a := by
  unfold pshv
  rw [if_pos (by decide), if_pos rfl]
theorem pshv_2 (a b c : Int32) : pshv a b c (-2) = b := by
  unfold pshv
  rw [if_pos (by decide), if_neg (by decide), if_pos rfl]
theorem pshv_3 (a b c : Int32) : pshv a b c (-3) = c := by
  unfold pshv
  rw [if_pos (by decide), if_neg (by decide), if_neg (by decide)]
theorem op_123 {s : Int32} (h : isOp s) : ¬ s = 1 ∧ ¬ s = 2 ∧ ¬ s = 3 := by
  rcases h with rfl | rfl | rfl | rfl | rfl | rfl | rfl | rfl | rfl | rfl <;> decide
/-- a law's row at a place -/
def LR (r : Nat → Int32) (at_ n : Nat) (f : Nat → Int32) : Prop := r at_ = nI n ∧ n ≤ 60 ∧ at_ + 121 ≤ 428 ∧ ∀ j, j < n → r (at_ + 1 + j) = (enc (f j)).1 ∧ r (at_ + 61 + j) = (enc (f j)).2 ∧ opc (f j)
theorem w_0 {at_ n i t : Nat} {f : Nat → Int32} {l4 : Value} {M : xS} (hL : LR (M.1 0) at_ n f) (hi : i < n) : xrun (X, xcall X (d + 1)) j_M_works 4 [.ref (sh 4 0), .int (nI at_), .int (nI t), .int (nI i), l4] [] (ub σ 4 (mdC M)) = xrun (X, xcall X (d + 1)) j_M_works 24 [.ref (sh 4 0), .int (nI at_), .int (nI t), .int (nI i), l4] [.int (enc (f i)).1] (ub σ 4 (mdC M)) := by
  obtain ⟨h1, h2, h3, h4⟩ := hL
  have h5 : ¬ nI n ≤ nI i := fun e => absurd ((nI_le_iff (by omega) (by omega)).mp e) (by omega)
  have hat : at_ < 428 := by omega
  have hat1 : at_ + 1 + i < 428 := by omega
  obtain ⟨e1, e2, e3⟩ := h4 i hi
  have x1 : nI at_ + 1 + nI i = nI (at_ + 1 + i) := by rw [nI_add1, nI_add]
  rw [s_M_works_4]
  simp only [s_M_works_9, s_M_works_11, s_M_works_14, s_M_works_18, Option.bind_some, Option.bind_none, Option.toList_some, Option.toList_none, List.cons_append, List.nil_append, List.append_nil, mv_0, mg_0_0, mg_0_1, mg_0_2, mg_0_3, mg_0_4, mg_0_5, mg_0_6, mg_0_7, mg_0_8, mg_0_9, mg_0_10, mg_0_11, mg_0_12, mg_0_13, mg_0_14, mg_0_15, mg_0_16, mg_0_17, mg_0_18, mg_0_19, mg_0_20, mr1 hat, h1, if_neg h5, x1, mr1 hat1, e1]
theorem w_push {at_ i t : Nat} {l4 : Value} {M : xS} {x : Int32} (ht : t < 60) (hat : at_ + 61 + i < 428) (hx : M.1 0 (at_ + 61 + i) = x) : xrun (X, xcall X (d + 1)) j_M_works 24 [.ref (sh 4 0), .int (nI at_), .int (nI t), .int (nI i), l4] [.int (1 : Int32)] (ub σ 4 (mdC M)) = xrun (X, xcall X (d + 1)) j_M_works 149 [.ref (sh 4 0), .int (nI at_), .int (nI (t + 1)), .int (nI i), .int (1 : Int32)] [] (ub σ 4 (mdC (u2 M.1 10 (upd (M.1 10) t x), M.2))) := by
  have x61 : nI at_ + 61 + nI i = nI (at_ + 61 + i) := by rw [show (61 : Int32) = nI 61 from rfl, nI_add, nI_add]
  have hwr : ∀ x : Int32, xwr (ub σ 4 (mdC M)) [0] (sh 4 11) (nI t) x = some (ub σ 4 (mdC (u2 M.1 10 (upd (M.1 10) t x), M.2))) := fun x => mw_11 ht
  rw [s_M_works_24, if_pos rfl, s_M_works_38, mg_0_11, Option.bind_some, s_M_works_42, if_pos rfl, s_M_works_49, mg_0_0, Option.bind_some, s_M_works_53, x61, mr1 hat, Option.bind_some, hx, s_M_works_60, s_M_works_79, hwr, Option.bind_some, s_M_works_80, nI_add1]
theorem w_name {at_ i t : Nat} {l4 : Value} {M : xS} {x y : Int32} (ht : t < 60) (hat : at_ + 61 + i < 428) (hy : M.1 0 (at_ + 61 + i) = y) (hx : xrd X (ub σ 4 (mdC M)) [0] (sh 4 10) y = some x) : xrun (X, xcall X (d + 1)) j_M_works 24 [.ref (sh 4 0), .int (nI at_), .int (nI t), .int (nI i), l4] [.int (2 : Int32)] (ub σ 4 (mdC M)) = xrun (X, xcall X (d + 1)) j_M_works 149 [.ref (sh 4 0), .int (nI at_), .int (nI (t + 1)), .int (nI i), .int (2 : Int32)] [] (ub σ 4 (mdC (u2 M.1 10 (upd (M.1 10) t x), M.2))) := by
  have x61 : nI at_ + 61 + nI i = nI (at_ + 61 + i) := by rw [show (61 : Int32) = nI 61 from rfl, nI_add, nI_add]
  have hwr : ∀ x : Int32, xwr (ub σ 4 (mdC M)) [0] (sh 4 11) (nI t) x = some (ub σ 4 (mdC (u2 M.1 10 (upd (M.1 10) t x), M.2))) := fun x => mw_11 ht
  have c21 : ¬ (2 : Int32) = 1 := by decide
  rw [s_M_works_24, if_neg c21, s_M_works_32, if_pos rfl, s_M_works_38, mg_0_11, Option.bind_some, s_M_works_42, if_neg c21, s_M_works_63, mg_0_10, Option.bind_some, s_M_works_67, mg_0_0, Option.bind_some, s_M_works_71, x61, mr1 hat, Option.bind_some, hy, s_M_works_78, hx, Option.bind_some, s_M_works_79, hwr, Option.bind_some, s_M_works_80, nI_add1]
theorem w_deny {at_ i t : Nat} {l4 : Value} {M : xS} (ht1 : 1 ≤ t) (ht : t ≤ 60) : xrun (X, xcall X (d + 1)) j_M_works 24 [.ref (sh 4 0), .int (nI at_), .int (nI t), .int (nI i), l4] [.int (3 : Int32)] (ub σ 4 (mdC M)) = xrun (X, xcall X (d + 1)) j_M_works 149 [.ref (sh 4 0), .int (nI at_), .int (nI t), .int (nI i), .int (3 : Int32)] [] (ub σ 4 (mdC (u2 M.1 10 (upd (M.1 10) (t - 1) (if M.1 10 (t - 1) = 0 then 1 else 0)), M.2))) := by
  have htl : t - 1 < 60 := by omega
  have hwr : ∀ x : Int32, xwr (ub σ 4 (mdC M)) [0] (sh 4 11) (nI (t - 1)) x = some (ub σ 4 (mdC (u2 M.1 10 (upd (M.1 10) (t - 1) x), M.2))) := fun x => mw_11 htl
  have c31 : ¬ (3 : Int32) = 1 := by decide
  have c32 : ¬ (3 : Int32) = 2 := by decide
  rw [s_M_works_24, if_neg c31, s_M_works_32, if_neg c32, s_M_works_86, if_pos rfl, s_M_works_92, mg_0_11, Option.bind_some, s_M_works_96, mg_0_11, Option.bind_some, nI_sub1 ht1, s_M_works_103, nI_sub1 ht1, mr_11 htl, Option.bind_some, s_M_works_107]
  by_cases hz : M.1 10 (t - 1) = 0
  · rw [if_pos hz, if_pos hz, s_M_works_110, s_M_works_115, hwr, Option.bind_some, s_M_works_116]
  · rw [if_neg hz, if_neg hz, s_M_works_114, s_M_works_115, hwr, Option.bind_some, s_M_works_116]
theorem w_op {at_ i t : Nat} {l4 : Value} {M : xS} {s : Int32} (hop : isOp s) (ht2 : 2 ≤ t) (ht : t ≤ 60) : xrun (X, xcall X (d + 1)) j_M_works 24 [.ref (sh 4 0), .int (nI at_), .int (nI t), .int (nI i), l4] [.int s] (ub σ 4 (mdC M)) = xrun (X, xcall X (d + 1)) j_M_works 149 [.ref (sh 4 0), .int (nI at_), .int (nI (t - 1)), .int (nI i), .int s] [] (ub σ 4 (mdC (u2 M.1 10 (upd (M.1 10) (t - 2) (wk s (M.1 10 (t - 2)) (M.1 10 (t - 1)))), M.2))) := by
  have htl : t - 1 < 60 := by omega
  have htl2 : t - 2 < 60 := by omega
  have hwr : ∀ x : Int32, xwr (ub σ 4 (mdC M)) [0] (sh 4 11) (nI (t - 2)) x = some (ub σ 4 (mdC (u2 M.1 10 (upd (M.1 10) (t - 2) x), M.2))) := fun x => mw_11 htl2
  obtain ⟨c1, c2, c3⟩ := op_123 hop
  have t1 : nI t + (-1 : Int32) = nI (t - 1) := nI_addm1 (by omega)
  have t2 : nI (t - 1) - 1 = nI (t - 2) := by rw [nI_sub1 (by omega), show t - 1 - 1 = t - 2 by omega]
  simp only [if_neg c1, if_neg c2, if_neg c3, s_M_works_24, s_M_works_32, s_M_works_86, s_M_works_119, s_M_works_126, s_M_works_135, s_M_works_139, s_M_works_143, s_M_works_145, s_M_works_148, Option.bind_some, Option.bind_none, Option.toList_some, Option.toList_none, List.cons_append, List.nil_append, List.append_nil, mv_0, mg_0_0, mg_0_1, mg_0_2, mg_0_3, mg_0_4, mg_0_5, mg_0_6, mg_0_7, mg_0_8, mg_0_9, mg_0_10, mg_0_11, mg_0_12, mg_0_13, mg_0_14, mg_0_15, mg_0_16, mg_0_17, mg_0_18, mg_0_19, mg_0_20, t1, t2, mr_11 htl, mr_11 htl2, c_M_twoOf hop, hwr]
theorem l_M_works {at_ n : Nat} {f : Nat → Int32} {a b c : Int32} : ∀ (k i t : Nat) (l4 : Value) (M : xS), LR (M.1 0) at_ n f → M.1 9 0 = a → M.1 9 1 = b → M.1 9 2 = c → i + k = n → t ≤ 60 → wfT f k i t = true →
    ∃ N, SF M N ∧ xrun (X, xcall X (d + 1)) j_M_works 4 [.ref (sh 4 0), .int (nI at_), .int (nI t), .int (nI i), l4] [] (ub σ 4 (mdC M)) = some (some (.int ((trun f a b c k i (M.1 10) t).1 0)), ub σ 4 (mdC N)) := by
  intro k
  induction k with
  | zero =>
    intro i t l4 M hL ha hb hc hi ht hw
    obtain ⟨h1, h2, h3, h4⟩ := hL
    have h5 : nI n ≤ nI i := (nI_le_iff (by omega) (by omega)).mpr (by omega)
    have hat : at_ < 428 := by omega
    have hr : xrd X (ub σ 4 (mdC M)) [0] (sh 4 11) (0 : Int32) = some (M.1 10 0) := mr_11 (k := 0) (by decide)
    refine ⟨M, SF.rfl' M, ?_⟩
    rw [s_M_works_4]
    simp only [s_M_works_9, s_M_works_11, Option.bind_some, Option.bind_none, Option.toList_some, Option.toList_none, List.cons_append, List.nil_append, List.append_nil, mv_0, mg_0_0, mg_0_1, mg_0_2, mg_0_3, mg_0_4, mg_0_5, mg_0_6, mg_0_7, mg_0_8, mg_0_9, mg_0_10, mg_0_11, mg_0_12, mg_0_13, mg_0_14, mg_0_15, mg_0_16, mg_0_17, mg_0_18, mg_0_19, mg_0_20, mr1 hat, h1, if_pos h5, s_M_works_155, s_M_works_159, s_M_works_161, hr]
    rfl
  | succ k ih =>
    intro i t l4 M hL ha hb hc hi ht hw
    have hin : i < n := by omega
    rw [w_0 hL hin]
    obtain ⟨h1, h2, h3, h4⟩ := id hL
    have hat61 : at_ + 61 + i < 428 := by omega
    obtain ⟨e1, e2, e3⟩ := h4 i hin
    have go : ∀ (x : Int32) (p t' : Nat) (l4 : Int32), t' ≤ 60 → wfT f k (i + 1) t' = true → (tstep a b c (f i) (M.1 10) t) = (upd (M.1 10) p x, t') → ∃ N, SF M N ∧ xrun (X, xcall X (d + 1)) j_M_works 149 [.ref (sh 4 0), .int (nI at_), .int (nI t'), .int (nI i), .int l4] [] (ub σ 4 (mdC (u2 M.1 10 (upd (M.1 10) p x), M.2))) = some (some (.int ((trun f a b c (k + 1) i (M.1 10) t).1 0)), ub σ 4 (mdC N)) := by
      intro x p t' l4 ht' hw' hs
      obtain ⟨N, hN, hx⟩ := ih (i + 1) t' (.int l4) (u2 M.1 10 (upd (M.1 10) p x), M.2) hL ha hb hc (by omega) ht' hw'
      refine ⟨N, SF.trans (N := (u2 M.1 10 (upd (M.1 10) p x), M.2)) ⟨fun q h9 h10 => ?_, rfl⟩ hN, ?_⟩
      · show u2 M.1 10 _ q = _
        unfold u2
        rw [if_neg h10]
      · have ht : trun f a b c (k + 1) i (M.1 10) t = trun f a b c k (i + 1) (upd (M.1 10) p x) t' := by
          show trun f a b c k (i + 1) (tstep a b c (f i) (M.1 10) t).1 (tstep a b c (f i) (M.1 10) t).2 = _
          rw [hs]
        rw [s_M_works_149, nI_add1, ht]
        exact hx
    unfold wfT at hw
    by_cases h3' : f i < -3
    · rw [if_neg (not_not_intro h3')] at hw
      by_cases h33 : f i = -33
      · rw [if_pos h33, Bool.and_eq_true] at hw
        have ht1 : 1 ≤ t := of_decide_eq_true hw.1
        have hen : (enc (f i)).1 = 3 := by rw [h33, enc_deny]
        obtain ⟨N, hN, hx⟩ := go (if M.1 10 (t - 1) = 0 then 1 else 0) (t - 1) t 3 ht hw.2 (tstep_deny h3' h33 ht1)
        refine ⟨N, hN, ?_⟩
        rw [hen, w_deny ht1 ht]
        exact hx
      · rw [if_neg h33, Bool.and_eq_true] at hw
        have ht2 : 2 ≤ t := of_decide_eq_true hw.1
        have hop : isOp (-(f i)) := e3 h3' h33
        have hen : (enc (f i)).1 = -(f i) := by rw [enc_op h3' h33]
        obtain ⟨N, hN, hx⟩ := go (wk (-(f i)) (M.1 10 (t - 2)) (M.1 10 (t - 1))) (t - 2) (t - 1) (-(f i)) (by omega) hw.2 (tstep_op h3' h33 ht2)
        refine ⟨N, hN, ?_⟩
        rw [hen, w_op hop ht2 ht]
        exact hx
    · rw [if_pos h3', Bool.and_eq_true] at hw
      have ht60 : t < 60 := of_decide_eq_true hw.1
      by_cases h0 : 0 ≤ f i
      · have hen := enc_push h3' h0
        have hp : pshv a b c (f i) = f i := by
          unfold pshv
          rw [if_neg (i32_nlt.mpr h0)]
        rw [hen] at e2
        obtain ⟨N, hN, hx⟩ := go (pshv a b c (f i)) t (t + 1) 1 (by omega) hw.2 (tstep_push h3' ht60)
        refine ⟨N, hN, ?_⟩
        rw [hp] at hx
        rw [hen]
        have e2' : M.1 0 (at_ + 61 + i) = f i := e2
        exact (w_push ht60 hat61 e2').trans hx
      · have hen := enc_name h3' h0
        rw [hen] at e2
        have e2' : M.1 0 (at_ + 61 + i) = -1 - f i := e2
        have f0 : xrd X (ub σ 4 (mdC M)) [0] (sh 4 10) (0 : Int32) = some (M.1 9 0) := mr_10 (k := 0) (by decide)
        have f1 : xrd X (ub σ 4 (mdC M)) [0] (sh 4 10) (1 : Int32) = some (M.1 9 1) := mr_10 (k := 1) (by decide)
        have f2 : xrd X (ub σ 4 (mdC M)) [0] (sh 4 10) (2 : Int32) = some (M.1 9 2) := mr_10 (k := 2) (by decide)
        have hf : xrd X (ub σ 4 (mdC M)) [0] (sh 4 10) (-1 - f i) = some (pshv a b c (f i)) := by
          rcases i32_m3 h3' h0 with e | e | e
          · rw [e, pshv_1, show (-1 : Int32) - -1 = 0 by decide, f0, ha]
          · rw [e, pshv_2, show (-1 : Int32) - -2 = 1 by decide, f1, hb]
          · rw [e, pshv_3, show (-1 : Int32) - -3 = 2 by decide, f2, hc]
        obtain ⟨N, hN, hx⟩ := go (pshv a b c (f i)) t (t + 1) 2 (by omega) hw.2 (tstep_push h3' ht60)
        refine ⟨N, hN, ?_⟩
        rw [hen]
        exact (w_name ht60 hat61 e2' hf).trans hx
theorem LR_0 (hI : okI S) (h : RS (M.1 0) S) : LR (M.1 0) 186 (ln0 S) (S.1 5) := by
  obtain ⟨hS, hN, hw, hf, hz, ht, hg, o0, o1⟩ := hI
  obtain ⟨a1, a2, a3⟩ := hS.2.2.1
  exact ⟨h.n0.trans a1, a2, by decide, fun j hj => ⟨(h.c0 j hj).1, (h.c0 j hj).2, o0 j hj⟩⟩
theorem LR_1 (hI : okI S) (h : RS (M.1 0) S) : LR (M.1 0) 307 (ln1 S) (S.1 6) := by
  obtain ⟨hS, hN, hw, hf, hz, ht, hg, o0, o1⟩ := hI
  obtain ⟨a1, a2, a3⟩ := hS.2.2.2
  exact ⟨h.n1.trans a1, a2, by decide, fun j hj => ⟨(h.c1 j hj).1, (h.c1 j hj).2, o1 j hj⟩⟩
theorem c_M_gives0 (hI : okI S) (h : RS (M.1 0) S) (a b c : Int32) : ∃ N, SF M N ∧ xcall X (d + 3) j_M_gives [.ref (sh 4 0), .int (0 : Int32), .int a, .int b, .int c] (ub σ 4 (mdC M)) = some (some (.int (lg0 S a b c)), ub σ 4 (mdC N)) := by
  obtain ⟨b1, b2, b3⟩ := hI.1.2.2.1
  have f0 : ∀ (M : xS) (x : Int32), xwr (ub σ 4 (mdC M)) [0] (sh 4 10) (0 : Int32) x = some (ub σ 4 (mdC (u2 M.1 9 (upd (M.1 9) 0 x), M.2))) := fun M x => mw_10 (k := 0) (by decide)
  have f1 : ∀ (M : xS) (x : Int32), xwr (ub σ 4 (mdC M)) [0] (sh 4 10) (1 : Int32) x = some (ub σ 4 (mdC (u2 M.1 9 (upd (M.1 9) 1 x), M.2))) := fun M x => mw_10 (k := 1) (by decide)
  have f2 : ∀ (M : xS) (x : Int32), xwr (ub σ 4 (mdC M)) [0] (sh 4 10) (2 : Int32) x = some (ub σ 4 (mdC (u2 M.1 9 (upd (M.1 9) 2 x), M.2))) := fun M x => mw_10 (k := 2) (by decide)
  have eat : (186 : Int32) + 121 * (0 : Int32) = nI 186 := by decide
  have hat : 186 < 428 := by decide
  have hlo : (0 : Int32) ≤ (199 : Int32) := by decide
  rw [e_M_gives]
  simp only [s_M_gives_0, s_M_gives_14, s_M_gives_17, s_M_gives_21, s_M_gives_24, s_M_gives_28, Option.bind_some, Option.bind_none, Option.toList_some, Option.toList_none, List.cons_append, List.nil_append, List.append_nil, mv_0, mg_0_0, mg_0_1, mg_0_2, mg_0_3, mg_0_4, mg_0_5, mg_0_6, mg_0_7, mg_0_8, mg_0_9, mg_0_10, mg_0_11, mg_0_12, mg_0_13, mg_0_14, mg_0_15, mg_0_16, mg_0_17, mg_0_18, mg_0_19, mg_0_20, f0, f1, f2, u2_at, u2_u2, eat]
  generalize hM1 : ((u2 M.1 9 (upd (upd (upd (M.1 9) 0 a) 1 b) 2 c), M.2) : xS) = M1
  have hrow : M1.1 0 = M.1 0 := by rw [← hM1]; rfl
  have g0 : M1.1 9 0 = a := by rw [← hM1]; rfl
  have g1 : M1.1 9 1 = b := by rw [← hM1]; rfl
  have g2 : M1.1 9 2 = c := by rw [← hM1]; rfl
  have hSF : SF M M1 := by
    rw [← hM1]
    refine ⟨fun q h9 h10 => ?_, rfl⟩
    show u2 M.1 9 _ q = _
    unfold u2
    rw [if_neg h9]
  have h' : RS (M1.1 0) S := by rw [hrow]; exact h
  have hn : M1.1 0 186 = nI (ln0 S) := (LR_0 hI h').1
  have hd : nI (ln0 S) ≤ 0 ↔ ¬ 0 < ln0 S := by
    have := nI_le_iff (a := ln0 S) (b := 0) (by omega) (by omega)
    have : nI (ln0 S) ≤ 0 ↔ ln0 S ≤ 0 := this
    rw [this]
    omega
  unfold lg0
  simp only [s_M_gives_32, s_M_gives_36, s_M_gives_39, Option.bind_some, Option.bind_none, Option.toList_some, Option.toList_none, List.cons_append, List.nil_append, List.append_nil, mv_0, mg_0_0, mg_0_1, mg_0_2, mg_0_3, mg_0_4, mg_0_5, mg_0_6, mg_0_7, mg_0_8, mg_0_9, mg_0_10, mg_0_11, mg_0_12, mg_0_13, mg_0_14, mg_0_15, mg_0_16, mg_0_17, mg_0_18, mg_0_19, mg_0_20, mr1 hat, hn, hd]
  by_cases hl : 0 < ln0 S
  · obtain ⟨N, hN, hx⟩ := l_M_works (X := X) (d := d) (σ := σ) (ln0 S) 0 0 .null M1 (LR_0 hI h') g0 g1 g2 (by omega) (by omega) (b3 hl)
    have hv : (trun (S.1 5) a b c (ln0 S) 0 (M1.1 10) 0).1 0 = tval (S.1 5) (ln0 S) a b c := trun_ind (S.1 5) a b c (ln0 S) 0 0 _ (fun _ => 0) (b3 hl) (fun j hj => absurd hj (by omega))
    rw [hv] at hx
    have hc : xcall X (d + 2) j_M_works [.ref (sh 4 0), .int (nI 186)] (ub σ 4 (mdC M1)) = some (some (.int (tval (S.1 5) (ln0 S) a b c)), ub σ 4 (mdC N)) := by
      rw [e_M_works, s_M_works_0]
      exact hx
    refine ⟨N, SF.trans hSF hN, ?_⟩
    rw [if_neg (not_not_intro hl), if_pos hl]
    simp only [s_M_gives_42, s_M_gives_48, s_M_gives_52, Option.bind_some, Option.bind_none, Option.toList_some, Option.toList_none, List.cons_append, List.nil_append, List.append_nil, mv_0, mg_0_0, mg_0_1, mg_0_2, mg_0_3, mg_0_4, mg_0_5, mg_0_6, mg_0_7, mg_0_8, mg_0_9, mg_0_10, mg_0_11, mg_0_12, mg_0_13, mg_0_14, mg_0_15, mg_0_16, mg_0_17, mg_0_18, mg_0_19, mg_0_20, hc, if_true]
    first
    | (rw [if_neg (show ¬ (0 : Int32) = 0 by decide)]
       simp only [s_M_gives_70, s_M_gives_79, Option.bind_some, Option.bind_none, Option.toList_some, Option.toList_none, List.cons_append, List.nil_append, List.append_nil, c_M_held hlo])
    | simp only [s_M_gives_58, s_M_gives_67, s_M_gives_79, Option.bind_some, Option.bind_none, Option.toList_some, Option.toList_none, List.cons_append, List.nil_append, List.append_nil, c_M_held hlo]
  · refine ⟨M1, hSF, ?_⟩
    rw [if_pos hl, if_neg hl, s_M_gives_51]
    simp only [s_M_gives_52, if_true]
    first
    | (rw [if_neg (show ¬ (0 : Int32) = 0 by decide)]
       simp only [s_M_gives_70, s_M_gives_79, Option.bind_some, Option.bind_none, Option.toList_some, Option.toList_none, List.cons_append, List.nil_append, List.append_nil, c_M_held hlo])
    | simp only [s_M_gives_58, s_M_gives_67, s_M_gives_79, Option.bind_some, Option.bind_none, Option.toList_some, Option.toList_none, List.cons_append, List.nil_append, List.append_nil, c_M_held hlo]
theorem c_M_gives1 (hI : okI S) (h : RS (M.1 0) S) (a b c : Int32) : ∃ N, SF M N ∧ xcall X (d + 3) j_M_gives [.ref (sh 4 0), .int (1 : Int32), .int a, .int b, .int c] (ub σ 4 (mdC M)) = some (some (.int (lg1 S a b c)), ub σ 4 (mdC N)) := by
  obtain ⟨b1, b2, b3⟩ := hI.1.2.2.2
  have f0 : ∀ (M : xS) (x : Int32), xwr (ub σ 4 (mdC M)) [0] (sh 4 10) (0 : Int32) x = some (ub σ 4 (mdC (u2 M.1 9 (upd (M.1 9) 0 x), M.2))) := fun M x => mw_10 (k := 0) (by decide)
  have f1 : ∀ (M : xS) (x : Int32), xwr (ub σ 4 (mdC M)) [0] (sh 4 10) (1 : Int32) x = some (ub σ 4 (mdC (u2 M.1 9 (upd (M.1 9) 1 x), M.2))) := fun M x => mw_10 (k := 1) (by decide)
  have f2 : ∀ (M : xS) (x : Int32), xwr (ub σ 4 (mdC M)) [0] (sh 4 10) (2 : Int32) x = some (ub σ 4 (mdC (u2 M.1 9 (upd (M.1 9) 2 x), M.2))) := fun M x => mw_10 (k := 2) (by decide)
  have eat : (186 : Int32) + 121 * (1 : Int32) = nI 307 := by decide
  have hat : 307 < 428 := by decide
  have hlo : (-9 : Int32) ≤ (9 : Int32) := by decide
  rw [e_M_gives]
  simp only [s_M_gives_0, s_M_gives_14, s_M_gives_17, s_M_gives_21, s_M_gives_24, s_M_gives_28, Option.bind_some, Option.bind_none, Option.toList_some, Option.toList_none, List.cons_append, List.nil_append, List.append_nil, mv_0, mg_0_0, mg_0_1, mg_0_2, mg_0_3, mg_0_4, mg_0_5, mg_0_6, mg_0_7, mg_0_8, mg_0_9, mg_0_10, mg_0_11, mg_0_12, mg_0_13, mg_0_14, mg_0_15, mg_0_16, mg_0_17, mg_0_18, mg_0_19, mg_0_20, f0, f1, f2, u2_at, u2_u2, eat]
  generalize hM1 : ((u2 M.1 9 (upd (upd (upd (M.1 9) 0 a) 1 b) 2 c), M.2) : xS) = M1
  have hrow : M1.1 0 = M.1 0 := by rw [← hM1]; rfl
  have g0 : M1.1 9 0 = a := by rw [← hM1]; rfl
  have g1 : M1.1 9 1 = b := by rw [← hM1]; rfl
  have g2 : M1.1 9 2 = c := by rw [← hM1]; rfl
  have hSF : SF M M1 := by
    rw [← hM1]
    refine ⟨fun q h9 h10 => ?_, rfl⟩
    show u2 M.1 9 _ q = _
    unfold u2
    rw [if_neg h9]
  have h' : RS (M1.1 0) S := by rw [hrow]; exact h
  have hn : M1.1 0 307 = nI (ln1 S) := (LR_1 hI h').1
  have hd : nI (ln1 S) ≤ 0 ↔ ¬ 0 < ln1 S := by
    have := nI_le_iff (a := ln1 S) (b := 0) (by omega) (by omega)
    have : nI (ln1 S) ≤ 0 ↔ ln1 S ≤ 0 := this
    rw [this]
    omega
  unfold lg1
  simp only [s_M_gives_32, s_M_gives_36, s_M_gives_39, Option.bind_some, Option.bind_none, Option.toList_some, Option.toList_none, List.cons_append, List.nil_append, List.append_nil, mv_0, mg_0_0, mg_0_1, mg_0_2, mg_0_3, mg_0_4, mg_0_5, mg_0_6, mg_0_7, mg_0_8, mg_0_9, mg_0_10, mg_0_11, mg_0_12, mg_0_13, mg_0_14, mg_0_15, mg_0_16, mg_0_17, mg_0_18, mg_0_19, mg_0_20, mr1 hat, hn, hd]
  by_cases hl : 0 < ln1 S
  · obtain ⟨N, hN, hx⟩ := l_M_works (X := X) (d := d) (σ := σ) (ln1 S) 0 0 .null M1 (LR_1 hI h') g0 g1 g2 (by omega) (by omega) (b3 hl)
    have hv : (trun (S.1 6) a b c (ln1 S) 0 (M1.1 10) 0).1 0 = tval (S.1 6) (ln1 S) a b c := trun_ind (S.1 6) a b c (ln1 S) 0 0 _ (fun _ => 0) (b3 hl) (fun j hj => absurd hj (by omega))
    rw [hv] at hx
    have hc : xcall X (d + 2) j_M_works [.ref (sh 4 0), .int (nI 307)] (ub σ 4 (mdC M1)) = some (some (.int (tval (S.1 6) (ln1 S) a b c)), ub σ 4 (mdC N)) := by
      rw [e_M_works, s_M_works_0]
      exact hx
    refine ⟨N, SF.trans hSF hN, ?_⟩
    rw [if_neg (not_not_intro hl), if_pos hl]
    simp only [s_M_gives_42, s_M_gives_48, s_M_gives_52, Option.bind_some, Option.bind_none, Option.toList_some, Option.toList_none, List.cons_append, List.nil_append, List.append_nil, mv_0, mg_0_0, mg_0_1, mg_0_2, mg_0_3, mg_0_4, mg_0_5, mg_0_6, mg_0_7, mg_0_8, mg_0_9, mg_0_10, mg_0_11, mg_0_12, mg_0_13, mg_0_14, mg_0_15, mg_0_16, mg_0_17, mg_0_18, mg_0_19, mg_0_20, hc, if_true]
    first
    | (rw [if_neg (show ¬ (1 : Int32) = 0 by decide)]
       simp only [s_M_gives_70, s_M_gives_79, Option.bind_some, Option.bind_none, Option.toList_some, Option.toList_none, List.cons_append, List.nil_append, List.append_nil, c_M_held hlo])
    | simp only [s_M_gives_58, s_M_gives_67, s_M_gives_79, Option.bind_some, Option.bind_none, Option.toList_some, Option.toList_none, List.cons_append, List.nil_append, List.append_nil, c_M_held hlo]
  · refine ⟨M1, hSF, ?_⟩
    rw [if_pos hl, if_neg hl, s_M_gives_51]
    simp only [s_M_gives_52, if_true]
    first
    | (rw [if_neg (show ¬ (1 : Int32) = 0 by decide)]
       simp only [s_M_gives_70, s_M_gives_79, Option.bind_some, Option.bind_none, Option.toList_some, Option.toList_none, List.cons_append, List.nil_append, List.append_nil, c_M_held hlo])
    | simp only [s_M_gives_58, s_M_gives_67, s_M_gives_79, Option.bind_some, Option.bind_none, Option.toList_some, Option.toList_none, List.cons_append, List.nil_append, List.append_nil, c_M_held hlo]
theorem c_M_ropeBy (hI : okI S) (h : RS (M.1 0) S) {p o : Nat} (hp : p < 8) (ho : o < 8) (t : Int32) : ∃ N, SF M N ∧ xcall X (d + 4) j_M_ropeBy [.ref (sh 4 0), .int (nI p), .int (nI o), .int t] (ub σ 4 (mdC M)) = some (some (.int (rb S p o t)), ub σ 4 (mdC N)) := by
  obtain ⟨N, hN, hx⟩ := c_M_gives0 (X := X) (d := d) (σ := σ) hI h (gv (kd S p) (S.1 1 p) (S.2 3) (S.1 2 o) t) t (S.2 3)
  refine ⟨N, hN, ?_⟩
  rw [e_M_ropeBy]
  simp only [s_M_ropeBy_0, s_M_ropeBy_9, s_M_ropeBy_14, s_M_ropeBy_16, s_M_ropeBy_19, Option.bind_some, Option.bind_none, Option.toList_some, Option.toList_none, List.cons_append, List.nil_append, List.append_nil, mv_0, mg_0_0, mg_0_1, mg_0_2, mg_0_3, mg_0_4, mg_0_5, mg_0_6, mg_0_7, mg_0_8, mg_0_9, mg_0_10, mg_0_11, mg_0_12, mg_0_13, mg_0_14, mg_0_15, mg_0_16, mg_0_17, mg_0_18, mg_0_19, mg_0_20, c_M_givesTo hI.1 h hp ho, mrc_3, h.se, hx]
  rfl
theorem c_M_ropeNow (hI : okI S) (h : RS (M.1 0) S) {p o : Nat} (hp : p < 8) (ho : o < 8) : ∃ N, SF M N ∧ xcall X (d + 5) j_M_ropeNow [.ref (sh 4 0), .int (nI p), .int (nI o)] (ub σ 4 (mdC M)) = some (some (.int (rb S p o (S.1 4 (8 * p + o)))), ub σ 4 (mdC N)) := by
  obtain ⟨N, hN, hx⟩ := c_M_ropeBy (X := X) (d := d) (σ := σ) hI h hp ho (S.1 4 (8 * p + o))
  have hsp : 38 + (8 * p + o) < 428 := by omega
  refine ⟨N, hN, ?_⟩
  rw [e_M_ropeNow]
  simp only [s_M_ropeNow_0, s_M_ropeNow_7, s_M_ropeNow_12, s_M_ropeNow_13, s_M_ropeNow_16, Option.bind_some, Option.bind_none, Option.toList_some, Option.toList_none, List.cons_append, List.nil_append, List.append_nil, mv_0, mg_0_0, mg_0_1, mg_0_2, mg_0_3, mg_0_4, mg_0_5, mg_0_6, mg_0_7, mg_0_8, mg_0_9, mg_0_10, mg_0_11, mg_0_12, mg_0_13, mg_0_14, mg_0_15, mg_0_16, mg_0_17, mg_0_18, mg_0_19, mg_0_20, c_M_spotOf, mr1 hsp, h.tk (8 * p + o) (by omega), hx]
/-- the ropes of those of a set -/
def rsL (S : xS) (s o : Nat) : Nat → Nat → Int32 → Int32
  | 0, _, acc => acc
  | n + 1, i, acc => rsL S s o n (i + 1) (acc + (if s.testBit i = true then rb S i o (S.1 4 (8 * i + o)) else 0))
theorem shr_bit : ∀ i : Nat, i < 8 → ∀ m : Nat, m < 256 → ((nI m >>> (nI i &&& 31)) &&& 1 = 1 ↔ m.testBit i = true) := by decide +kernel
theorem l_M_ropeOfBy (hI : okI S) {s o : Nat} (hs : s < 256) (ho : o < 8) : ∀ (k i : Nat) (acc : Int32) (M : xS), RS (M.1 0) S → i + k = cn S → ∃ N, SF M N ∧
    xrun (X, xcall X (d + 5)) j_M_ropeOfBy 5 [.ref (sh 4 0), .int (nI o), .int (nI s), .int acc, .int (nI i)] [] (ub σ 4 (mdC M)) = some (some (.int (rsL S s o k i acc)), ub σ 4 (mdC N)) := by
  intro k
  obtain ⟨hc1, hc2⟩ := hI.1.1
  induction k with
  | zero =>
    intro i acc M h hi
    have h1 : nI (cn S) ≤ nI i := (nI_le_iff (by omega) (by omega)).mpr (by omega)
    refine ⟨M, SF.rfl' M, ?_⟩
    rw [s_M_ropeOfBy_5]
    simp only [s_M_ropeOfBy_11, s_M_ropeOfBy_13, s_M_ropeOfBy_46, Option.bind_some, Option.bind_none, Option.toList_some, Option.toList_none, List.cons_append, List.nil_append, List.append_nil, mv_0, mg_0_0, mg_0_1, mg_0_2, mg_0_3, mg_0_4, mg_0_5, mg_0_6, mg_0_7, mg_0_8, mg_0_9, mg_0_10, mg_0_11, mg_0_12, mg_0_13, mg_0_14, mg_0_15, mg_0_16, mg_0_17, mg_0_18, mg_0_19, mg_0_20, mrc_2, h.ct, hc1, if_pos h1]
    rfl
  | succ k ih =>
    intro i acc M h hi
    have h1 : ¬ nI (cn S) ≤ nI i := fun e => absurd ((nI_le_iff (by omega) (by omega)).mp e) (by omega)
    have hi8 : i < 8 := by omega
    rw [s_M_ropeOfBy_5]
    unfold rsL
    simp only [s_M_ropeOfBy_11, s_M_ropeOfBy_13, Option.bind_some, Option.bind_none, Option.toList_some, Option.toList_none, List.cons_append, List.nil_append, List.append_nil, mv_0, mg_0_0, mg_0_1, mg_0_2, mg_0_3, mg_0_4, mg_0_5, mg_0_6, mg_0_7, mg_0_8, mg_0_9, mg_0_10, mg_0_11, mg_0_12, mg_0_13, mg_0_14, mg_0_15, mg_0_16, mg_0_17, mg_0_18, mg_0_19, mg_0_20, mrc_2, h.ct, hc1, if_neg h1, s_M_ropeOfBy_16, shr_bit i hi8 s hs]
    by_cases hb : s.testBit i = true
    · obtain ⟨N, hN, hx⟩ := c_M_ropeNow (X := X) (d := d) (σ := σ) hI h hi8 ho
      have h2 : RS (N.1 0) S := by rw [hN.row]; exact h
      obtain ⟨P, hP, hy⟩ := ih (i + 1) (acc + rb S i o (S.1 4 (8 * i + o))) N h2 (by omega)
      refine ⟨P, SF.trans hN hP, ?_⟩
      rw [if_pos hb, if_pos hb]
      simp only [s_M_ropeOfBy_27, s_M_ropeOfBy_34, s_M_ropeOfBy_38, Option.bind_some, Option.bind_none, Option.toList_some, Option.toList_none, List.cons_append, List.nil_append, List.append_nil, mv_0, mg_0_0, mg_0_1, mg_0_2, mg_0_3, mg_0_4, mg_0_5, mg_0_6, mg_0_7, mg_0_8, mg_0_9, mg_0_10, mg_0_11, mg_0_12, mg_0_13, mg_0_14, mg_0_15, mg_0_16, mg_0_17, mg_0_18, mg_0_19, mg_0_20, hx, nI_add1]
      exact hy
    · obtain ⟨P, hP, hy⟩ := ih (i + 1) (acc + 0) M h (by omega)
      refine ⟨P, hP, ?_⟩
      rw [if_neg hb, if_neg hb]
      simp only [s_M_ropeOfBy_37, s_M_ropeOfBy_38, nI_add1]
      exact hy
theorem c_M_ropeOfBy (hI : okI S) (h : RS (M.1 0) S) {s o : Nat} (hs : s < 256) (ho : o < 8) : ∃ N, SF M N ∧ xcall X (d + 6) j_M_ropeOfBy [.ref (sh 4 0), .int (nI o), .int (nI s)] (ub σ 4 (mdC M)) = some (some (.int (rsL S s o (cn S) 0 0)), ub σ 4 (mdC N)) := by
  rw [e_M_ropeOfBy, s_M_ropeOfBy_0]
  exact l_M_ropeOfBy hI hs ho (cn S) 0 0 M h (by omega)
/-- others ashore, as a set -/
noncomputable def abS (S : xS) (o : Nat) : Nat → Nat
  | 0 => 0
  | i + 1 => @ite _ (i ≠ o ∧ ash S i) (Classical.propDecidable _) (abS S o i ||| 2 ^ i) (abS S o i)
theorem abS_lt (S : xS) (o : Nat) : ∀ i : Nat, abS S o i < 2 ^ i
  | 0 => by show 0 < 1; omega
  | i + 1 => by
    have h := abS_lt S o i
    have h2 : 2 ^ i < 2 ^ (i + 1) := Nat.pow_lt_pow_right (by omega) (by omega)
    unfold abS
    split
    · exact Nat.or_lt_two_pow (by omega) h2
    · omega
theorem abS_256 (S : xS) (o : Nat) {i : Nat} (h : i ≤ 8) : abS S o i < 256 := Nat.lt_of_lt_of_le (abS_lt S o i) (Nat.pow_le_pow_right (n := 2) (by omega) h)
theorem abS_bit (S : xS) (o : Nat) : ∀ n i : Nat, (abS S o n).testBit i = true ↔ i < n ∧ i ≠ o ∧ ash S i
  | 0, i => by
    show (0 : Nat).testBit i = true ↔ _
    rw [Nat.zero_testBit]
    constructor
    · intro h; exact absurd h (by decide)
    · intro h; omega
  | n + 1, i => by
    have ih := abS_bit S o n i
    unfold abS
    split
    · next hc =>
      rw [Nat.testBit_or, Bool.or_eq_true, ih, Nat.testBit_two_pow]
      constructor
      · rintro (h | h)
        · exact ⟨by omega, h.2⟩
        · have e : n = i := of_decide_eq_true h
          subst e
          exact ⟨by omega, hc⟩
      · rintro ⟨h1, h2⟩
        by_cases e : n = i
        · exact Or.inr (decide_eq_true e)
        · exact Or.inl ⟨by omega, h2⟩
    · next hc =>
      rw [ih]
      constructor
      · rintro ⟨h1, h2⟩; exact ⟨by omega, h2⟩
      · rintro ⟨h1, h2⟩
        by_cases e : i = n
        · subst e; exact absurd h2 hc
        · exact ⟨by omega, h2⟩
theorem l_M_ashoreBut (hS : okS S) (h : RS (M.1 0) S) {o : Nat} (ho : o < 8) : ∀ (k i : Nat), i + k = cn S →
    xrun (X, xcall X (d + 2)) j_M_ashoreBut 4 [.ref (sh 4 0), .int (nI o), .int (nI (abS S o i)), .int (nI i)] [] (ub σ 4 (mdC M)) = some (some (.int (nI (abS S o (cn S)))), ub σ 4 (mdC M)) := by
  intro k
  obtain ⟨hc1, hc2⟩ := hS.1
  induction k with
  | zero =>
    intro i hi
    have hi' : i = cn S := by omega
    subst hi'
    have h1 : nI (cn S) ≤ nI (cn S) := (nI_le_iff (by omega) (by omega)).mpr (by omega)
    rw [s_M_ashoreBut_4]
    simp only [s_M_ashoreBut_9, s_M_ashoreBut_11, s_M_ashoreBut_43, Option.bind_some, Option.bind_none, Option.toList_some, Option.toList_none, List.cons_append, List.nil_append, List.append_nil, mv_0, mg_0_0, mg_0_1, mg_0_2, mg_0_3, mg_0_4, mg_0_5, mg_0_6, mg_0_7, mg_0_8, mg_0_9, mg_0_10, mg_0_11, mg_0_12, mg_0_13, mg_0_14, mg_0_15, mg_0_16, mg_0_17, mg_0_18, mg_0_19, mg_0_20, mrc_2, h.ct, hc1, if_pos h1]
  | succ k ih =>
    intro i hi
    have h1 : ¬ nI (cn S) ≤ nI i := fun e => absurd ((nI_le_iff (by omega) (by omega)).mp e) (by omega)
    have hi8 : i < 8 := by omega
    have hx := ih (i + 1) (by omega)
    have skip : ¬ (i ≠ o ∧ ash S i) → xrun (X, xcall X (d + 2)) j_M_ashoreBut 34 [.ref (sh 4 0), .int (nI o), .int (nI (abS S o i)), .int (nI i)] [.int (nI (abS S o i))] (ub σ 4 (mdC M)) = some (some (.int (nI (abS S o (cn S)))), ub σ 4 (mdC M)) := by
      intro hn
      have e : abS S o (i + 1) = abS S o i := by
        show @ite _ (i ≠ o ∧ ash S i) (Classical.propDecidable _) _ _ = _
        rw [if_neg hn]
      have e0 : nI (abS S o i) ||| 0 = nI (abS S o i) := Int32.or_zero
      rw [s_M_ashoreBut_34, s_M_ashoreBut_35, nI_add1, e0, ← e]
      exact hx
    rw [s_M_ashoreBut_4]
    simp only [s_M_ashoreBut_9, s_M_ashoreBut_11, Option.bind_some, Option.bind_none, Option.toList_some, Option.toList_none, List.cons_append, List.nil_append, List.append_nil, mv_0, mg_0_0, mg_0_1, mg_0_2, mg_0_3, mg_0_4, mg_0_5, mg_0_6, mg_0_7, mg_0_8, mg_0_9, mg_0_10, mg_0_11, mg_0_12, mg_0_13, mg_0_14, mg_0_15, mg_0_16, mg_0_17, mg_0_18, mg_0_19, mg_0_20, mrc_2, h.ct, hc1, if_neg h1, s_M_ashoreBut_14, nI_inj (a := i) (b := o) (by omega) (by omega)]
    by_cases hio : i = o
    · rw [if_pos hio]
      exact skip (fun e => e.1 hio)
    rw [if_neg hio]
    simp only [s_M_ashoreBut_20, s_M_ashoreBut_25, Option.bind_some, Option.bind_none, Option.toList_some, Option.toList_none, List.cons_append, List.nil_append, List.append_nil, mv_0, mg_0_0, mg_0_1, mg_0_2, mg_0_3, mg_0_4, mg_0_5, mg_0_6, mg_0_7, mg_0_8, mg_0_9, mg_0_10, mg_0_11, mg_0_12, mg_0_13, mg_0_14, mg_0_15, mg_0_16, mg_0_17, mg_0_18, mg_0_19, mg_0_20, c_M_isAshore h hi8, z1_0]
    by_cases ha : S.1 2 i = 0 ∧ S.1 3 i = 0
    · have e : abS S o (i + 1) = abS S o i ||| 2 ^ i := by
        show @ite _ (i ≠ o ∧ ash S i) (Classical.propDecidable _) _ _ = _
        rw [if_pos ⟨hio, ha⟩]
      rw [if_neg (not_not_intro ha), s_M_ashoreBut_28, s_M_ashoreBut_35, nI_add1, or_bit i hi8 _ (abS_256 S o (by omega)), ← e]
      exact hx
    · rw [if_pos ha]
      exact skip (fun e => ha e.2)
theorem c_M_ashoreBut (hS : okS S) (h : RS (M.1 0) S) {o : Nat} (ho : o < 8) : xcall X (d + 3) j_M_ashoreBut [.ref (sh 4 0), .int (nI o)] (ub σ 4 (mdC M)) = some (some (.int (nI (abS S o (cn S)))), ub σ 4 (mdC M)) := by
  rw [e_M_ashoreBut, s_M_ashoreBut_0]
  exact l_M_ashoreBut hS h ho (cn S) 0 (by omega)
theorem rsL_ro (S : xS) (o : Nat) : ∀ (n i : Nat) (acc : Int32), i + n = cn S → rsL S (abS S o (cn S)) o n i acc = roL S o n i acc
  | 0, _, _, _ => rfl
  | n + 1, i, acc, hi => by
    unfold rsL roL
    have hb := abS_bit S o (cn S) i
    by_cases hc : i ≠ o ∧ ash S i
    · rw [if_pos hc, if_pos (hb.mpr ⟨by omega, hc⟩)]
      exact rsL_ro S o n (i + 1) _ (by omega)
    · rw [if_neg hc, if_neg (fun e => hc (hb.mp e).2), Int32.add_zero]
      exact rsL_ro S o n (i + 1) _ (by omega)
theorem c_M_ropeOf (hI : okI S) (h : RS (M.1 0) S) {o : Nat} (ho : o < 8) : ∃ N, SF M N ∧ xcall X (d + 7) j_M_ropeOf [.ref (sh 4 0), .int (nI o)] (ub σ 4 (mdC M)) = some (some (.int (ro S o)), ub σ 4 (mdC N)) := by
  obtain ⟨N, hN, hx⟩ := c_M_ropeOfBy (X := X) (d := d) (σ := σ) hI h (abS_256 S o hI.1.1.2) ho
  rw [rsL_ro S o (cn S) 0 0 (by omega)] at hx
  refine ⟨N, hN, ?_⟩
  rw [e_M_ropeOf]
  simp only [s_M_ropeOf_0, s_M_ropeOf_7, s_M_ropeOf_10, Option.bind_some, Option.bind_none, Option.toList_some, Option.toList_none, List.cons_append, List.nil_append, List.append_nil, mv_0, mg_0_0, mg_0_1, mg_0_2, mg_0_3, mg_0_4, mg_0_5, mg_0_6, mg_0_7, mg_0_8, mg_0_9, mg_0_10, mg_0_11, mg_0_12, mg_0_13, mg_0_14, mg_0_15, mg_0_16, mg_0_17, mg_0_18, mg_0_19, mg_0_20, c_M_ashoreBut hI.1 h ho, hx]
  rfl
end Mod2
