/-! ===== the model: laws, ropes ===== -/
theorem enc_push {c : Int32} (h : ¬ c < -3) (h0 : 0 ≤ c) : enc c = (1, c) := if_pos h0
theorem enc_name {c : Int32} (h : ¬ c < -3) (h0 : ¬ 0 ≤ c) : enc c = (2, -1 - c) := by unfold enc; rw [if_neg h0, if_pos h]
theorem enc_deny : enc (-33) = (3, 0) := by decide
theorem enc_op {c : Int32} (h : c < -3) (h33 : ¬ c = -33) : enc c = (-c, 0) := by
  have h0 : ¬ 0 ≤ c := fun e => absurd (Int32.lt_of_le_of_lt e h) (by decide)
  unfold enc
  rw [if_neg h0, if_neg (not_not_intro h), if_neg h33]
theorem i32_m3 {c : Int32} (h : ¬ c < -3) (h0 : ¬ 0 ≤ c) : c = -1 ∨ c = -2 ∨ c = -3 := by
  rw [Int32.lt_iff_toInt_lt] at h
  rw [Int32.le_iff_toInt_le] at h0
  have e3 : (-3 : Int32).toInt = -3 := rfl
  have e0 : (0 : Int32).toInt = 0 := rfl
  rw [e3] at h
  rw [e0] at h0
  have : c.toInt = -1 ∨ c.toInt = -2 ∨ c.toInt = -3 := by omega
  rcases this with e | e | e
  · exact Or.inl (Int32.toInt_inj.mp e)
  · exact Or.inr (Or.inl (Int32.toInt_inj.mp e))
  · exact Or.inr (Or.inr (Int32.toInt_inj.mp e))
section Mod2
variable {X : xX} {d : Nat} {σ : xW} {M S : xS}
theorem c_M_twoOf {s : Int32} (hs : isOp s) (a b : Int32) : xcall X (d + 1) j_M_twoOf [.int s, .int a, .int b] σ = some (some (.int (wk s a b)), σ) := by
  rw [e_M_twoOf, s_M_twoOf_0]
  rcases hs with rfl | rfl | rfl | rfl | rfl | rfl | rfl | rfl | rfl | rfl
  · rw [show xsw [(37, 144), (38, 189), (39, 203), (40, 203), (41, 203), (42, 128), (43, 120), (44, 203), (45, 124), (46, 203), (47, 132), (48, 203), (49, 203), (50, 203), (51, 203), (52, 203), (53, 203), (54, 203), (55, 203), (56, 203), (57, 203), (58, 203), (59, 203), (60, 156), (61, 167), (62, 178)] 203 (37 : Int32) = 144 from by decide +kernel]
    show _ = some (some (Value.int (if b = 0 then 0 else a - a / b * b)), σ)
    rw [s_M_twoOf_144]
    by_cases hb : b = 0
    · rw [if_pos hb, if_pos hb, s_M_twoOf_148, s_M_twoOf_155]
    · rw [if_neg hb, if_neg hb, s_M_twoOf_152, if_neg hb, s_M_twoOf_155]
  · rw [show xsw [(37, 144), (38, 189), (39, 203), (40, 203), (41, 203), (42, 128), (43, 120), (44, 203), (45, 124), (46, 203), (47, 132), (48, 203), (49, 203), (50, 203), (51, 203), (52, 203), (53, 203), (54, 203), (55, 203), (56, 203), (57, 203), (58, 203), (59, 203), (60, 156), (61, 167), (62, 178)] 203 (38 : Int32) = 189 from by decide +kernel]
    show _ = some (some (Value.int (z1 (a ≠ 0 ∧ b ≠ 0))), σ)
    rw [s_M_twoOf_189]
    by_cases ha : a = 0
    · rw [if_pos ha, s_M_twoOf_201, s_M_twoOf_202, z1_f (fun h => h.1 ha)]
    · rw [if_neg ha, s_M_twoOf_193]
      by_cases hb : b = 0
      · rw [if_pos hb, s_M_twoOf_201, s_M_twoOf_202, z1_f (fun h => h.2 hb)]
      · rw [if_neg hb, s_M_twoOf_197, s_M_twoOf_202, z1_t ⟨ha, hb⟩]
  · rw [show xsw [(37, 144), (38, 189), (39, 203), (40, 203), (41, 203), (42, 128), (43, 120), (44, 203), (45, 124), (46, 203), (47, 132), (48, 203), (49, 203), (50, 203), (51, 203), (52, 203), (53, 203), (54, 203), (55, 203), (56, 203), (57, 203), (58, 203), (59, 203), (60, 156), (61, 167), (62, 178)] 203 (42 : Int32) = 128 from by decide +kernel]
    rw [s_M_twoOf_128]
    rfl
  · rw [show xsw [(37, 144), (38, 189), (39, 203), (40, 203), (41, 203), (42, 128), (43, 120), (44, 203), (45, 124), (46, 203), (47, 132), (48, 203), (49, 203), (50, 203), (51, 203), (52, 203), (53, 203), (54, 203), (55, 203), (56, 203), (57, 203), (58, 203), (59, 203), (60, 156), (61, 167), (62, 178)] 203 (43 : Int32) = 120 from by decide +kernel]
    rw [s_M_twoOf_120]
    rfl
  · rw [show xsw [(37, 144), (38, 189), (39, 203), (40, 203), (41, 203), (42, 128), (43, 120), (44, 203), (45, 124), (46, 203), (47, 132), (48, 203), (49, 203), (50, 203), (51, 203), (52, 203), (53, 203), (54, 203), (55, 203), (56, 203), (57, 203), (58, 203), (59, 203), (60, 156), (61, 167), (62, 178)] 203 (45 : Int32) = 124 from by decide +kernel]
    rw [s_M_twoOf_124]
    rfl
  · rw [show xsw [(37, 144), (38, 189), (39, 203), (40, 203), (41, 203), (42, 128), (43, 120), (44, 203), (45, 124), (46, 203), (47, 132), (48, 203), (49, 203), (50, 203), (51, 203), (52, 203), (53, 203), (54, 203), (55, 203), (56, 203), (57, 203), (58, 203), (59, 203), (60, 156), (61, 167), (62, 178)] 203 (47 : Int32) = 132 from by decide +kernel]
    show _ = some (some (Value.int (if b = 0 then 0 else a / b)), σ)
    rw [s_M_twoOf_132]
    by_cases hb : b = 0
    · rw [if_pos hb, if_pos hb, s_M_twoOf_136, s_M_twoOf_143]
    · rw [if_neg hb, if_neg hb, s_M_twoOf_140, if_neg hb, s_M_twoOf_143]
  · rw [show xsw [(37, 144), (38, 189), (39, 203), (40, 203), (41, 203), (42, 128), (43, 120), (44, 203), (45, 124), (46, 203), (47, 132), (48, 203), (49, 203), (50, 203), (51, 203), (52, 203), (53, 203), (54, 203), (55, 203), (56, 203), (57, 203), (58, 203), (59, 203), (60, 156), (61, 167), (62, 178)] 203 (60 : Int32) = 156 from by decide +kernel]
    show _ = some (some (Value.int (z1 (a < b))), σ)
    rw [s_M_twoOf_156]
    by_cases h : b ≤ a
    · rw [if_pos h, s_M_twoOf_165, s_M_twoOf_166, z1_f (i32_nlt.mpr h)]
    · rw [if_neg h, s_M_twoOf_161, s_M_twoOf_166, z1_t (i32_nle.mp h)]
  · rw [show xsw [(37, 144), (38, 189), (39, 203), (40, 203), (41, 203), (42, 128), (43, 120), (44, 203), (45, 124), (46, 203), (47, 132), (48, 203), (49, 203), (50, 203), (51, 203), (52, 203), (53, 203), (54, 203), (55, 203), (56, 203), (57, 203), (58, 203), (59, 203), (60, 156), (61, 167), (62, 178)] 203 (61 : Int32) = 167 from by decide +kernel]
    show _ = some (some (Value.int (z1 (a = b))), σ)
    rw [s_M_twoOf_167]
    by_cases h : a = b
    · rw [if_pos h, s_M_twoOf_172, s_M_twoOf_177, z1_t h]
    · rw [if_neg h, s_M_twoOf_176, s_M_twoOf_177, z1_f h]
  · rw [show xsw [(37, 144), (38, 189), (39, 203), (40, 203), (41, 203), (42, 128), (43, 120), (44, 203), (45, 124), (46, 203), (47, 132), (48, 203), (49, 203), (50, 203), (51, 203), (52, 203), (53, 203), (54, 203), (55, 203), (56, 203), (57, 203), (58, 203), (59, 203), (60, 156), (61, 167), (62, 178)] 203 (62 : Int32) = 178 from by decide +kernel]
    show _ = some (some (Value.int (z1 (b < a))), σ)
    rw [s_M_twoOf_178]
    by_cases h : a ≤ b
    · rw [if_pos h, s_M_twoOf_187, s_M_twoOf_188, z1_f (i32_nlt.mpr h)]
    · rw [if_neg h, s_M_twoOf_183, s_M_twoOf_188, z1_t (i32_nle.mp h)]
  · rw [show xsw [(37, 144), (38, 189), (39, 203), (40, 203), (41, 203), (42, 128), (43, 120), (44, 203), (45, 124), (46, 203), (47, 132), (48, 203), (49, 203), (50, 203), (51, 203), (52, 203), (53, 203), (54, 203), (55, 203), (56, 203), (57, 203), (58, 203), (59, 203), (60, 156), (61, 167), (62, 178)] 203 (124 : Int32) = 203 from by decide +kernel]
    show _ = some (some (Value.int (z1 (a ≠ 0 ∨ b ≠ 0))), σ)
    rw [s_M_twoOf_203]
    by_cases ha : a = 0
    · rw [if_pos ha, s_M_twoOf_207]
      by_cases hb : b = 0
      · rw [if_pos hb, s_M_twoOf_215, s_M_twoOf_216, z1_f (fun h => h.elim (fun e => e ha) (fun e => e hb))]
      · rw [if_neg hb, s_M_twoOf_211, s_M_twoOf_216, z1_t (Or.inr hb)]
    · rw [if_neg ha, s_M_twoOf_211, s_M_twoOf_216, z1_t (Or.inl ha)]
theorem pshv_1 (a b c : Int32) : pshv a b c (-1) = a := by
  unfold pshv
  rw [if_pos (by decide), if_pos rfl]
theorem pshv_2 (a b c : Int32) : pshv a b c (-2) = b := by
  unfold pshv
  rw [if_pos (by decide), if_neg (by decide), if_pos rfl]
theorem pshv_3 (a b c : Int32) : pshv a b c (-3) = c := by
  unfold pshv
  rw [if_pos (by decide), if_neg (by decide), if_neg (by decide)]
theorem op_123 {s : Int32} (h : isOp s) : ¬ s = 1 ∧ ¬ s = 2 ∧ ¬ s = 3 := by
  rcases h with rfl | rfl | rfl | rfl | rfl | rfl | rfl | rfl | rfl | rfl <;> decide
/-- a law's row at a place -/
def LR (r : Nat → Int32) (at_ n : Nat) (f : Nat → Int32) : Prop := r at_ = nI n ∧ n ≤ 60 ∧ at_ + 121 ≤ 428 ∧ ∀ j, j < n → r (at_ + 1 + j) = (enc (f j)).1 ∧ r (at_ + 61 + j) = (enc (f j)).2 ∧ opc (f j)
theorem tA {at_ n : Nat} {f : Nat → Int32} {a b c : Int32} : ∀ (k i t : Nat) (l4 : Value) (M : xS), LR (M.1 0) at_ n f → M.1 9 0 = a → M.1 9 1 = b → M.1 9 2 = c → i + k = n → t ≤ 60 → wfT f k i t = true →
    ∃ N, SF M N ∧ xrun (X, xcall X (d + 1)) j_M_works 4 [.ref (sh 4 0), .int (nI at_), .int (nI t), .int (nI i), l4] [] (ub σ 4 (mdC M)) = some (some (.int ((trun f a b c k i (M.1 10) t).1 0)), ub σ 4 (mdC N)) := by
  intro k
  induction k with
  | zero =>
    intro i t l4 M hL ha hb hc hi ht hw
    obtain ⟨h1, h2, h3, h4⟩ := hL
    have h5 : nI n ≤ nI i := (nI_le_iff (by omega) (by omega)).mpr (by omega)
    have hat : at_ < 428 := by omega
    have hr : xrd X (ub σ 4 (mdC M)) [0] (sh 4 11) (0 : Int32) = some (M.1 10 0) := mr_11 (k := 0) (by decide)
    refine ⟨M, SF.rfl' M, ?_⟩
    rw [s_M_works_4]
    simp only [s_M_works_9, s_M_works_11, Option.bind_some, Option.bind_none, Option.toList_some, Option.toList_none, List.cons_append, List.nil_append, List.append_nil, mv_0, mg_0_0, mg_0_1, mg_0_2, mg_0_3, mg_0_4, mg_0_5, mg_0_6, mg_0_7, mg_0_8, mg_0_9, mg_0_10, mg_0_11, mg_0_12, mg_0_13, mg_0_14, mg_0_15, mg_0_16, mg_0_17, mg_0_18, mg_0_19, mg_0_20, mr1 hat, h1, if_pos h5, s_M_works_155, s_M_works_159, s_M_works_161, hr]
    rfl
  | succ k ih =>
    intro i t l4 M hL ha hb hc hi ht hw
    have hL' := hL
    obtain ⟨h1, h2, h3, h4⟩ := hL
    have hin : i < n := by omega
    have h5 : ¬ nI n ≤ nI i := fun e => absurd ((nI_le_iff (by omega) (by omega)).mp e) (by omega)
    have hat : at_ < 428 := by omega
    have hat1 : at_ + 1 + i < 428 := by omega
    have hat61 : at_ + 61 + i < 428 := by omega
    obtain ⟨e1, e2, e3⟩ := h4 i hin
    have x1 : nI at_ + 1 + nI i = nI (at_ + 1 + i) := by rw [nI_add1, nI_add]
    have x61 : nI at_ + 61 + nI i = nI (at_ + 61 + i) := by rw [show (61 : Int32) = nI 61 from rfl, nI_add, nI_add]
    have go : ∀ (x : Int32) (p t' : Nat) (l4 : Int32), t' ≤ 60 → wfT f k (i + 1) t' = true → (tstep a b c (f i) (M.1 10) t) = (upd (M.1 10) p x, t') → ∃ N, SF M N ∧ xrun (X, xcall X (d + 1)) j_M_works 149 [.ref (sh 4 0), .int (nI at_), .int (nI t'), .int (nI i), .int l4] [] (ub σ 4 (mdC (u2 M.1 10 (upd (M.1 10) p x), M.2))) = some (some (.int ((trun f a b c (k + 1) i (M.1 10) t).1 0)), ub σ 4 (mdC N)) := by
      intro x p t' l4 ht' hw' hs
      obtain ⟨N, hN, hx⟩ := ih (i + 1) t' (.int l4) (u2 M.1 10 (upd (M.1 10) p x), M.2) hL' ha hb hc (by omega) ht' hw'
      refine ⟨N, SF.trans (N := (u2 M.1 10 (upd (M.1 10) p x), M.2)) ⟨fun q h9 h10 => ?_, rfl⟩ hN, ?_⟩
      · show u2 M.1 10 _ q = _
        unfold u2
        rw [if_neg h10]
      · have ht : trun f a b c (k + 1) i (M.1 10) t = trun f a b c k (i + 1) (upd (M.1 10) p x) t' := by
          show trun f a b c k (i + 1) (tstep a b c (f i) (M.1 10) t).1 (tstep a b c (f i) (M.1 10) t).2 = _
          rw [hs]
        rw [s_M_works_149, nI_add1, ht]
        exact hx
    rw [s_M_works_4]
    simp only [s_M_works_9, s_M_works_11, s_M_works_14, s_M_works_18, s_M_works_24, Option.bind_some, Option.bind_none, Option.toList_some, Option.toList_none, List.cons_append, List.nil_append, List.append_nil, mv_0, mg_0_0, mg_0_1, mg_0_2, mg_0_3, mg_0_4, mg_0_5, mg_0_6, mg_0_7, mg_0_8, mg_0_9, mg_0_10, mg_0_11, mg_0_12, mg_0_13, mg_0_14, mg_0_15, mg_0_16, mg_0_17, mg_0_18, mg_0_19, mg_0_20, mr1 hat, h1, if_neg h5, x1, mr1 hat1, e1]
    unfold wfT at hw
    by_cases h3' : f i < -3
    · rw [if_neg (not_not_intro h3')] at hw
      by_cases h33 : f i = -33
      · sorry
      · sorry
    · sorry
theorem tB {at_ n : Nat} {f : Nat → Int32} {a b c : Int32} : ∀ (k i t : Nat) (l4 : Value) (M : xS), LR (M.1 0) at_ n f → M.1 9 0 = a → M.1 9 1 = b → M.1 9 2 = c → i + k = n → t ≤ 60 → wfT f k i t = true →
    ∃ N, SF M N ∧ xrun (X, xcall X (d + 1)) j_M_works 4 [.ref (sh 4 0), .int (nI at_), .int (nI t), .int (nI i), l4] [] (ub σ 4 (mdC M)) = some (some (.int ((trun f a b c k i (M.1 10) t).1 0)), ub σ 4 (mdC N)) := by
  intro k
  induction k with
  | zero =>
    intro i t l4 M hL ha hb hc hi ht hw
    obtain ⟨h1, h2, h3, h4⟩ := hL
    have h5 : nI n ≤ nI i := (nI_le_iff (by omega) (by omega)).mpr (by omega)
    have hat : at_ < 428 := by omega
    have hr : xrd X (ub σ 4 (mdC M)) [0] (sh 4 11) (0 : Int32) = some (M.1 10 0) := mr_11 (k := 0) (by decide)
    refine ⟨M, SF.rfl' M, ?_⟩
    rw [s_M_works_4]
    simp only [s_M_works_9, s_M_works_11, Option.bind_some, Option.bind_none, Option.toList_some, Option.toList_none, List.cons_append, List.nil_append, List.append_nil, mv_0, mg_0_0, mg_0_1, mg_0_2, mg_0_3, mg_0_4, mg_0_5, mg_0_6, mg_0_7, mg_0_8, mg_0_9, mg_0_10, mg_0_11, mg_0_12, mg_0_13, mg_0_14, mg_0_15, mg_0_16, mg_0_17, mg_0_18, mg_0_19, mg_0_20, mr1 hat, h1, if_pos h5, s_M_works_155, s_M_works_159, s_M_works_161, hr]
    rfl
  | succ k ih =>
    intro i t l4 M hL ha hb hc hi ht hw
    have hL' := hL
    obtain ⟨h1, h2, h3, h4⟩ := hL
    have hin : i < n := by omega
    have h5 : ¬ nI n ≤ nI i := fun e => absurd ((nI_le_iff (by omega) (by omega)).mp e) (by omega)
    have hat : at_ < 428 := by omega
    have hat1 : at_ + 1 + i < 428 := by omega
    have hat61 : at_ + 61 + i < 428 := by omega
    obtain ⟨e1, e2, e3⟩ := h4 i hin
    have x1 : nI at_ + 1 + nI i = nI (at_ + 1 + i) := by rw [nI_add1, nI_add]
    have x61 : nI at_ + 61 + nI i = nI (at_ + 61 + i) := by rw [show (61 : Int32) = nI 61 from rfl, nI_add, nI_add]
    have go : ∀ (x : Int32) (p t' : Nat) (l4 : Int32), t' ≤ 60 → wfT f k (i + 1) t' = true → (tstep a b c (f i) (M.1 10) t) = (upd (M.1 10) p x, t') → ∃ N, SF M N ∧ xrun (X, xcall X (d + 1)) j_M_works 149 [.ref (sh 4 0), .int (nI at_), .int (nI t'), .int (nI i), .int l4] [] (ub σ 4 (mdC (u2 M.1 10 (upd (M.1 10) p x), M.2))) = some (some (.int ((trun f a b c (k + 1) i (M.1 10) t).1 0)), ub σ 4 (mdC N)) := by
      sorry
    rw [s_M_works_4]
    simp only [s_M_works_9, s_M_works_11, s_M_works_14, s_M_works_18, s_M_works_24, Option.bind_some, Option.bind_none, Option.toList_some, Option.toList_none, List.cons_append, List.nil_append, List.append_nil, mv_0, mg_0_0, mg_0_1, mg_0_2, mg_0_3, mg_0_4, mg_0_5, mg_0_6, mg_0_7, mg_0_8, mg_0_9, mg_0_10, mg_0_11, mg_0_12, mg_0_13, mg_0_14, mg_0_15, mg_0_16, mg_0_17, mg_0_18, mg_0_19, mg_0_20, mr1 hat, h1, if_neg h5, x1, mr1 hat1, e1]
    unfold wfT at hw
    by_cases h3' : f i < -3
    · rw [if_neg (not_not_intro h3')] at hw
      by_cases h33 : f i = -33
      · rw [if_pos h33, Bool.and_eq_true] at hw
        have ht1 : 1 ≤ t := of_decide_eq_true hw.1
        have hen : (enc (f i)).1 = 3 := by rw [h33, enc_deny]
        obtain ⟨N, hN, hx⟩ := go (if M.1 10 (t - 1) = 0 then 1 else 0) (t - 1) t 3 ht hw.2 (tstep_deny h3' h33 ht1)
        refine ⟨N, hN, ?_⟩
        rw [← hx]
        have htl : t - 1 < 60 := by omega
        have hwr : ∀ x : Int32, xwr (ub σ 4 (mdC M)) [0] (sh 4 11) (nI (t - 1)) x = some (ub σ 4 (mdC (u2 M.1 10 (upd (M.1 10) (t - 1) x), M.2))) := fun x => mw_11 htl
        have c31 : ¬ (3 : Int32) = 1 := by decide
        have c32 : ¬ (3 : Int32) = 2 := by decide
        simp only [hen, if_neg c31, if_neg c32, s_M_works_32, s_M_works_86, if_true, s_M_works_92, s_M_works_96, s_M_works_103, s_M_works_107, Option.bind_some, Option.bind_none, Option.toList_some, Option.toList_none, List.cons_append, List.nil_append, List.append_nil, mv_0, mg_0_0, mg_0_1, mg_0_2, mg_0_3, mg_0_4, mg_0_5, mg_0_6, mg_0_7, mg_0_8, mg_0_9, mg_0_10, mg_0_11, mg_0_12, mg_0_13, mg_0_14, mg_0_15, mg_0_16, mg_0_17, mg_0_18, mg_0_19, mg_0_20, nI_sub1 ht1, mr_11 htl]
        by_cases hz : M.1 10 (t - 1) = 0
        · rw [if_pos hz, if_pos hz, s_M_works_110]
          simp only [s_M_works_115, s_M_works_116, Option.bind_some, Option.bind_none, Option.toList_some, Option.toList_none, List.cons_append, List.nil_append, List.append_nil, hwr]
        · rw [if_neg hz, if_neg hz, s_M_works_114]
          simp only [s_M_works_115, s_M_works_116, Option.bind_some, Option.bind_none, Option.toList_some, Option.toList_none, List.cons_append, List.nil_append, List.append_nil, hwr]
      · sorry
    · sorry
theorem tC {at_ n : Nat} {f : Nat → Int32} {a b c : Int32} : ∀ (k i t : Nat) (l4 : Value) (M : xS), LR (M.1 0) at_ n f → M.1 9 0 = a → M.1 9 1 = b → M.1 9 2 = c → i + k = n → t ≤ 60 → wfT f k i t = true →
    ∃ N, SF M N ∧ xrun (X, xcall X (d + 1)) j_M_works 4 [.ref (sh 4 0), .int (nI at_), .int (nI t), .int (nI i), l4] [] (ub σ 4 (mdC M)) = some (some (.int ((trun f a b c k i (M.1 10) t).1 0)), ub σ 4 (mdC N)) := by
  intro k
  induction k with
  | zero =>
    intro i t l4 M hL ha hb hc hi ht hw
    obtain ⟨h1, h2, h3, h4⟩ := hL
    have h5 : nI n ≤ nI i := (nI_le_iff (by omega) (by omega)).mpr (by omega)
    have hat : at_ < 428 := by omega
    have hr : xrd X (ub σ 4 (mdC M)) [0] (sh 4 11) (0 : Int32) = some (M.1 10 0) := mr_11 (k := 0) (by decide)
    refine ⟨M, SF.rfl' M, ?_⟩
    rw [s_M_works_4]
    simp only [s_M_works_9, s_M_works_11, Option.bind_some, Option.bind_none, Option.toList_some, Option.toList_none, List.cons_append, List.nil_append, List.append_nil, mv_0, mg_0_0, mg_0_1, mg_0_2, mg_0_3, mg_0_4, mg_0_5, mg_0_6, mg_0_7, mg_0_8, mg_0_9, mg_0_10, mg_0_11, mg_0_12, mg_0_13, mg_0_14, mg_0_15, mg_0_16, mg_0_17, mg_0_18, mg_0_19, mg_0_20, mr1 hat, h1, if_pos h5, s_M_works_155, s_M_works_159, s_M_works_161, hr]
    rfl
  | succ k ih =>
    intro i t l4 M hL ha hb hc hi ht hw
    have hL' := hL
    obtain ⟨h1, h2, h3, h4⟩ := hL
    have hin : i < n := by omega
    have h5 : ¬ nI n ≤ nI i := fun e => absurd ((nI_le_iff (by omega) (by omega)).mp e) (by omega)
    have hat : at_ < 428 := by omega
    have hat1 : at_ + 1 + i < 428 := by omega
    have hat61 : at_ + 61 + i < 428 := by omega
    obtain ⟨e1, e2, e3⟩ := h4 i hin
    have x1 : nI at_ + 1 + nI i = nI (at_ + 1 + i) := by rw [nI_add1, nI_add]
    have x61 : nI at_ + 61 + nI i = nI (at_ + 61 + i) := by rw [show (61 : Int32) = nI 61 from rfl, nI_add, nI_add]
    have go : ∀ (x : Int32) (p t' : Nat) (l4 : Int32), t' ≤ 60 → wfT f k (i + 1) t' = true → (tstep a b c (f i) (M.1 10) t) = (upd (M.1 10) p x, t') → ∃ N, SF M N ∧ xrun (X, xcall X (d + 1)) j_M_works 149 [.ref (sh 4 0), .int (nI at_), .int (nI t'), .int (nI i), .int l4] [] (ub σ 4 (mdC (u2 M.1 10 (upd (M.1 10) p x), M.2))) = some (some (.int ((trun f a b c (k + 1) i (M.1 10) t).1 0)), ub σ 4 (mdC N)) := by
      sorry
    rw [s_M_works_4]
    simp only [s_M_works_9, s_M_works_11, s_M_works_14, s_M_works_18, s_M_works_24, Option.bind_some, Option.bind_none, Option.toList_some, Option.toList_none, List.cons_append, List.nil_append, List.append_nil, mv_0, mg_0_0, mg_0_1, mg_0_2, mg_0_3, mg_0_4, mg_0_5, mg_0_6, mg_0_7, mg_0_8, mg_0_9, mg_0_10, mg_0_11, mg_0_12, mg_0_13, mg_0_14, mg_0_15, mg_0_16, mg_0_17, mg_0_18, mg_0_19, mg_0_20, mr1 hat, h1, if_neg h5, x1, mr1 hat1, e1]
    unfold wfT at hw
    by_cases h3' : f i < -3
    · rw [if_neg (not_not_intro h3')] at hw
      by_cases h33 : f i = -33
      · sorry
      · rw [if_neg h33, Bool.and_eq_true] at hw
        have ht2 : 2 ≤ t := of_decide_eq_true hw.1
        have hop : isOp (-(f i)) := e3 h3' h33
        have hen : (enc (f i)).1 = -(f i) := by rw [enc_op h3' h33]
        obtain ⟨N, hN, hx⟩ := go (wk (-(f i)) (M.1 10 (t - 2)) (M.1 10 (t - 1))) (t - 2) (t - 1) (-(f i)) (by omega) hw.2 (tstep_op h3' h33 ht2)
        refine ⟨N, hN, ?_⟩
        rw [← hx]
        have htl : t - 1 < 60 := by omega
        have htl2 : t - 2 < 60 := by omega
        have hwr : ∀ x : Int32, xwr (ub σ 4 (mdC M)) [0] (sh 4 11) (nI (t - 2)) x = some (ub σ 4 (mdC (u2 M.1 10 (upd (M.1 10) (t - 2) x), M.2))) := fun x => mw_11 htl2
        obtain ⟨c1, c2, c3⟩ := op_123 hop
        have t1 : nI t + (-1 : Int32) = nI (t - 1) := nI_addm1 (by omega)
        have t2 : nI (t - 1) - 1 = nI (t - 2) := by rw [nI_sub1 (by omega), show t - 1 - 1 = t - 2 by omega]
        simp only [hen, if_neg c1, if_neg c2, if_neg c3, s_M_works_32, s_M_works_86, s_M_works_119, s_M_works_126, s_M_works_135, s_M_works_139, s_M_works_143, s_M_works_145, s_M_works_148, Option.bind_some, Option.bind_none, Option.toList_some, Option.toList_none, List.cons_append, List.nil_append, List.append_nil, mv_0, mg_0_0, mg_0_1, mg_0_2, mg_0_3, mg_0_4, mg_0_5, mg_0_6, mg_0_7, mg_0_8, mg_0_9, mg_0_10, mg_0_11, mg_0_12, mg_0_13, mg_0_14, mg_0_15, mg_0_16, mg_0_17, mg_0_18, mg_0_19, mg_0_20, t1, t2, mr_11 htl, mr_11 htl2, c_M_twoOf hop, hwr]
    · sorry
theorem tD {at_ n : Nat} {f : Nat → Int32} {a b c : Int32} : ∀ (k i t : Nat) (l4 : Value) (M : xS), LR (M.1 0) at_ n f → M.1 9 0 = a → M.1 9 1 = b → M.1 9 2 = c → i + k = n → t ≤ 60 → wfT f k i t = true →
    ∃ N, SF M N ∧ xrun (X, xcall X (d + 1)) j_M_works 4 [.ref (sh 4 0), .int (nI at_), .int (nI t), .int (nI i), l4] [] (ub σ 4 (mdC M)) = some (some (.int ((trun f a b c k i (M.1 10) t).1 0)), ub σ 4 (mdC N)) := by
  intro k
  induction k with
  | zero =>
    intro i t l4 M hL ha hb hc hi ht hw
    obtain ⟨h1, h2, h3, h4⟩ := hL
    have h5 : nI n ≤ nI i := (nI_le_iff (by omega) (by omega)).mpr (by omega)
    have hat : at_ < 428 := by omega
    have hr : xrd X (ub σ 4 (mdC M)) [0] (sh 4 11) (0 : Int32) = some (M.1 10 0) := mr_11 (k := 0) (by decide)
    refine ⟨M, SF.rfl' M, ?_⟩
    rw [s_M_works_4]
    simp only [s_M_works_9, s_M_works_11, Option.bind_some, Option.bind_none, Option.toList_some, Option.toList_none, List.cons_append, List.nil_append, List.append_nil, mv_0, mg_0_0, mg_0_1, mg_0_2, mg_0_3, mg_0_4, mg_0_5, mg_0_6, mg_0_7, mg_0_8, mg_0_9, mg_0_10, mg_0_11, mg_0_12, mg_0_13, mg_0_14, mg_0_15, mg_0_16, mg_0_17, mg_0_18, mg_0_19, mg_0_20, mr1 hat, h1, if_pos h5, s_M_works_155, s_M_works_159, s_M_works_161, hr]
    rfl
  | succ k ih =>
    intro i t l4 M hL ha hb hc hi ht hw
    have hL' := hL
    obtain ⟨h1, h2, h3, h4⟩ := hL
    have hin : i < n := by omega
    have h5 : ¬ nI n ≤ nI i := fun e => absurd ((nI_le_iff (by omega) (by omega)).mp e) (by omega)
    have hat : at_ < 428 := by omega
    have hat1 : at_ + 1 + i < 428 := by omega
    have hat61 : at_ + 61 + i < 428 := by omega
    obtain ⟨e1, e2, e3⟩ := h4 i hin
    have x1 : nI at_ + 1 + nI i = nI (at_ + 1 + i) := by rw [nI_add1, nI_add]
    have x61 : nI at_ + 61 + nI i = nI (at_ + 61 + i) := by rw [show (61 : Int32) = nI 61 from rfl, nI_add, nI_add]
    have go : ∀ (x : Int32) (p t' : Nat) (l4 : Int32), t' ≤ 60 → wfT f k (i + 1) t' = true → (tstep a b c (f i) (M.1 10) t) = (upd (M.1 10) p x, t') → ∃ N, SF M N ∧ xrun (X, xcall X (d + 1)) j_M_works 149 [.ref (sh 4 0), .int (nI at_), .int (nI t'), .int (nI i), .int l4] [] (ub σ 4 (mdC (u2 M.1 10 (upd (M.1 10) p x), M.2))) = some (some (.int ((trun f a b c (k + 1) i (M.1 10) t).1 0)), ub σ 4 (mdC N)) := by
      sorry
    rw [s_M_works_4]
    simp only [s_M_works_9, s_M_works_11, s_M_works_14, s_M_works_18, s_M_works_24, Option.bind_some, Option.bind_none, Option.toList_some, Option.toList_none, List.cons_append, List.nil_append, List.append_nil, mv_0, mg_0_0, mg_0_1, mg_0_2, mg_0_3, mg_0_4, mg_0_5, mg_0_6, mg_0_7, mg_0_8, mg_0_9, mg_0_10, mg_0_11, mg_0_12, mg_0_13, mg_0_14, mg_0_15, mg_0_16, mg_0_17, mg_0_18, mg_0_19, mg_0_20, mr1 hat, h1, if_neg h5, x1, mr1 hat1, e1]
    unfold wfT at hw
    by_cases h3' : f i < -3
    · rw [if_neg (not_not_intro h3')] at hw
      by_cases h33 : f i = -33
      · sorry
      · sorry
    · rw [if_pos h3', Bool.and_eq_true] at hw
      have ht60 : t < 60 := of_decide_eq_true hw.1
      obtain ⟨N, hN, hx⟩ := go (pshv a b c (f i)) t (t + 1) (enc (f i)).1 (by omega) hw.2 (tstep_push h3' ht60)
      refine ⟨N, hN, ?_⟩
      rw [← hx]
      have hwr : ∀ x : Int32, xwr (ub σ 4 (mdC M)) [0] (sh 4 11) (nI t) x = some (ub σ 4 (mdC (u2 M.1 10 (upd (M.1 10) t x), M.2))) := fun x => mw_11 ht60
      by_cases h0 : 0 ≤ f i
      · have hen := enc_push h3' h0
        have hp : pshv a b c (f i) = f i := by
          unfold pshv
          rw [if_neg (i32_nlt.mpr h0)]
        rw [hen] at e2
        rw [hp]
        simp only [hen, if_true, s_M_works_38, s_M_works_42, s_M_works_49, s_M_works_53, s_M_works_60, s_M_works_79, s_M_works_80, Option.bind_some, Option.bind_none, Option.toList_some, Option.toList_none, List.cons_append, List.nil_append, List.append_nil, mv_0, mg_0_0, mg_0_1, mg_0_2, mg_0_3, mg_0_4, mg_0_5, mg_0_6, mg_0_7, mg_0_8, mg_0_9, mg_0_10, mg_0_11, mg_0_12, mg_0_13, mg_0_14, mg_0_15, mg_0_16, mg_0_17, mg_0_18, mg_0_19, mg_0_20, x61, mr1 hat61, e2, hwr, nI_add1]
      · have hen := enc_name h3' h0
        rw [hen] at e2
        have f0 : xrd X (ub σ 4 (mdC M)) [0] (sh 4 10) (0 : Int32) = some (M.1 9 0) := mr_10 (k := 0) (by decide)
        have f1 : xrd X (ub σ 4 (mdC M)) [0] (sh 4 10) (1 : Int32) = some (M.1 9 1) := mr_10 (k := 1) (by decide)
        have f2 : xrd X (ub σ 4 (mdC M)) [0] (sh 4 10) (2 : Int32) = some (M.1 9 2) := mr_10 (k := 2) (by decide)
        have hf : xrd X (ub σ 4 (mdC M)) [0] (sh 4 10) (-1 - f i) = some (pshv a b c (f i)) := by
          rcases i32_m3 h3' h0 with e | e | e
          · rw [e, pshv_1, show (-1 : Int32) - -1 = 0 by decide, f0, ha]
          · rw [e, pshv_2, show (-1 : Int32) - -2 = 1 by decide, f1, hb]
          · rw [e, pshv_3, show (-1 : Int32) - -3 = 2 by decide, f2, hc]
        have c21 : ¬ (2 : Int32) = 1 := by decide
        simp only [hen, if_neg c21, if_true, s_M_works_32, s_M_works_38, s_M_works_42, s_M_works_63, s_M_works_67, s_M_works_71, s_M_works_78, s_M_works_79, s_M_works_80, Option.bind_some, Option.bind_none, Option.toList_some, Option.toList_none, List.cons_append, List.nil_append, List.append_nil, mv_0, mg_0_0, mg_0_1, mg_0_2, mg_0_3, mg_0_4, mg_0_5, mg_0_6, mg_0_7, mg_0_8, mg_0_9, mg_0_10, mg_0_11, mg_0_12, mg_0_13, mg_0_14, mg_0_15, mg_0_16, mg_0_17, mg_0_18, mg_0_19, mg_0_20, x61, mr1 hat61, e2, hf, hwr, nI_add1]
end Mod2
