/-! ===== the model: levels of a text, text ===== -/
section MText
variable {X : xX} {d : Nat} {σ : xW} {S : xS} {n u o : Nat}
theorem PM.le {M : xS} {C : List Int32} {a : Nat} {f : Bool} (h : PM S n u o M C a f) : a ≤ n := h.2.2.2.2.2.2
theorem PM.fl {M : xS} {C : List Int32} {a : Nat} {f : Bool} (h : PM S n u o M C a f) : M.2 4 = (if f = true then 1 else 0) := h.2.2.2.2.1
theorem bnd_op' {s : Int32} {b : Nat} (hb : b < 5) (h : bnd s = nI b) : isOp s ∧ s ≠ -1 := ⟨bnd_op hb h, bnd_ne hb h⟩
/-- one turn of a level's loop, on the side of what it reads -/
theorem lvl_len {C : List Int32} {r : xPR} {sub : Nat → xPR} {a0 : Nat} (h1 : r.2.1.length + a0 ≤ r.1) (hC : C.length ≤ a0) (hs : (sub (r.1 + 1)).2.1.length + (r.1 + 1) ≤ (sub (r.1 + 1)).1) : ((C ++ r.2.1) ++ (sub (r.1 + 1)).2.1).length < (sub (r.1 + 1)).1 := by
  rw [List.length_append, List.length_append]
  omega
theorem l_M_times (hn : S.2 1 = nI n) (hn2 : n ≤ 60) {sub : Nat → xPR} (hsub : RDM X σ S n u o (d + 2) j_M_one sub) (hL : LPr n sub) {C : List Int32} {a0 : Nat} (hC : C.length ≤ a0) : ∀ (k : Nat) (l1 : Value) (M : xS) (r : xPR), PM S n u o M (C ++ r.2.1) r.1 r.2.2 → (r.2.2 = false → n < r.1 + k) → r.2.1.length + a0 ≤ r.1 → ∃ N : xS, PM S n u o N (C ++ (prtL (tby S) n sub 4 k r).2.1) (prtL (tby S) n sub 4 k r).1 (prtL (tby S) n sub 4 k r).2.2 ∧ SR M N ∧
    xrun (X, xcall X (d + 2)) j_M_times 4 [.ref (sh 4 0), l1] [] (ub σ 4 (mdC M)) = some (none, ub σ 4 (mdC N)) := by
  intro k
  induction k with
  | zero =>
    intro l1 M r h hk hr
    have hf := h.fl
    have hle := h.le
    have hb : r.2.2 = true := by
      cases hz : r.2.2 with
      | true => rfl
      | false => have := hk hz; omega
    have z10 : ¬ (1 : Int32) = 0 := by decide
    refine ⟨M, h, SR.rfl' M, ?_⟩
    rw [hb, if_pos rfl] at hf
    rw [s_M_times_4]
    simp only [s_M_times_8, Option.bind_some, Option.bind_none, Option.toList_some, Option.toList_none, List.cons_append, List.nil_append, List.append_nil, mv_0, mg_0_0, mg_0_1, mg_0_2, mg_0_3, mg_0_4, mg_0_5, mg_0_6, mg_0_7, mg_0_8, mg_0_9, mg_0_10, mg_0_11, mg_0_12, mg_0_13, mg_0_14, mg_0_15, mg_0_16, mg_0_17, mg_0_18, mg_0_19, mg_0_20, hf, if_neg z10, s_M_times_66]
  | succ k ih =>
    intro l1 M r h hk hr
    have hf := h.fl
    have hle := h.le
    have z10 : ¬ (1 : Int32) = 0 := by decide
    have out : prtL (tby S) n sub 4 (k + 1) r = r → xrun (X, xcall X (d + 2)) j_M_times 66 [.ref (sh 4 0), l1] [] (ub σ 4 (mdC M)) = some (none, ub σ 4 (mdC M)) ∧ PM S n u o M (C ++ (prtL (tby S) n sub 4 (k + 1) r).2.1) (prtL (tby S) n sub 4 (k + 1) r).1 (prtL (tby S) n sub 4 (k + 1) r).2.2 := by
      intro e
      rw [e]
      exact ⟨by rw [s_M_times_66], h⟩
    by_cases hb : r.2.2 = true
    · have e : prtL (tby S) n sub 4 (k + 1) r = r := by
        unfold prtL
        rw [if_neg (fun z => by rw [hb] at z; exact absurd z.1 (by decide))]
      obtain ⟨o1, o2⟩ := out e
      refine ⟨M, o2, SR.rfl' M, ?_⟩
      rw [if_pos hb] at hf
      rw [s_M_times_4]
      simp only [s_M_times_8, Option.bind_some, Option.bind_none, Option.toList_some, Option.toList_none, List.cons_append, List.nil_append, List.append_nil, mv_0, mg_0_0, mg_0_1, mg_0_2, mg_0_3, mg_0_4, mg_0_5, mg_0_6, mg_0_7, mg_0_8, mg_0_9, mg_0_10, mg_0_11, mg_0_12, mg_0_13, mg_0_14, mg_0_15, mg_0_16, mg_0_17, mg_0_18, mg_0_19, mg_0_20, hf, if_neg z10, o1]
    have hb' : r.2.2 = false := by
      cases hz : r.2.2 with
      | true => exact absurd hz hb
      | false => rfl
    rw [if_neg hb] at hf
    rw [s_M_times_4]
    simp only [s_M_times_8, Option.bind_some, Option.bind_none, Option.toList_some, Option.toList_none, List.cons_append, List.nil_append, List.append_nil, mv_0, mg_0_0, mg_0_1, mg_0_2, mg_0_3, mg_0_4, mg_0_5, mg_0_6, mg_0_7, mg_0_8, mg_0_9, mg_0_10, mg_0_11, mg_0_12, mg_0_13, mg_0_14, mg_0_15, mg_0_16, mg_0_17, mg_0_18, mg_0_19, mg_0_20, hf, if_true, s_M_times_11, c_M_look hn hn2 h, s_M_times_15]
    by_cases hs : bnd (nxt (tby S) n r.1) = nI 4
    · have hop := bnd_op (b := 4) (by decide) hs
      have hlt : r.1 < n := nxt_lt (bnd_ne (b := 4) (by decide) hs)
      have h22 : M.2 2 = nI r.1 := h.2.2.1
      have hA : PM S n u o (M.1, u1 M.2 2 (nI (r.1 + 1))) (C ++ r.2.1) (r.1 + 1) false := by
        have := h.at1 hlt
        rw [hb'] at this
        exact this
      obtain ⟨N1, hN1, hS1, hx1⟩ := hsub _ _ _ hA
      obtain ⟨q1, q2, q3⟩ := hL (r.1 + 1) (by omega)
      obtain ⟨N2, hN2, hS2, hx2⟩ := c_M_lays (X := X) (d := d + 1) (σ := σ) hn2 hN1 (fun _ => lvl_len hr hC q1) (enc_sg hop)
      rw [List.append_assoc, List.append_assoc] at hN2
      obtain ⟨N, hN, hS, hx⟩ := ih (.int (nxt (tby S) n r.1)) N2 ((sub (r.1 + 1)).1, r.2.1 ++ ((sub (r.1 + 1)).2.1 ++ [-(nxt (tby S) n r.1)]), (sub (r.1 + 1)).2.2) hN2 (fun _ => by have := hk hb'; show n < (sub (r.1 + 1)).1 + k; omega) (by
        show (r.2.1 ++ ((sub (r.1 + 1)).2.1 ++ [-(nxt (tby S) n r.1)])).length + a0 ≤ (sub (r.1 + 1)).1
        rw [List.length_append, List.length_append]
        show r.2.1.length + ((sub (r.1 + 1)).2.1.length + 1) + a0 ≤ _
        omega)
      have e : prtL (tby S) n sub 4 (k + 1) r = prtL (tby S) n sub 4 k ((sub (r.1 + 1)).1, r.2.1 ++ ((sub (r.1 + 1)).2.1 ++ [-(nxt (tby S) n r.1)]), (sub (r.1 + 1)).2.2) := by
        show (if r.2.2 = false ∧ bnd (nxt (tby S) n r.1) = nI 4 then _ else _) = _
        rw [if_pos ⟨hb', hs⟩]
      rw [e]
      refine ⟨N, hN, SR.trans (SR.u2' M _) (SR.trans hS1 (SR.trans hS2 hS)), ?_⟩
      rw [← hx]
      have hs2 := bnd_4.mp hs
      have to38 : (if nxt (tby S) n r.1 = 42 then xrun (X, xcall X (d + 2)) j_M_times 38 [.ref (sh 4 0), l1] [] (ub σ 4 (mdC M)) else xrun (X, xcall X (d + 2)) j_M_times 20 [.ref (sh 4 0), l1] [] (ub σ 4 (mdC M))) = xrun (X, xcall X (d + 2)) j_M_times 38 [.ref (sh 4 0), l1] [] (ub σ 4 (mdC M)) := by
        rcases hs2 with w | w | w
        · rw [if_pos w]
        · rw [if_neg (by rw [w]; decide), s_M_times_20]
          simp only [Option.bind_some, Option.bind_none, Option.toList_some, Option.toList_none, List.cons_append, List.nil_append, List.append_nil, mv_0, c_M_look hn hn2 h, s_M_times_24, if_pos w]
        · rw [if_neg (by rw [w]; decide), s_M_times_20]
          have nw : ¬ nxt (tby S) n r.1 = 47 := by rw [w]; decide
          simp only [Option.bind_some, Option.bind_none, Option.toList_some, Option.toList_none, List.cons_append, List.nil_append, List.append_nil, mv_0, c_M_look hn hn2 h, s_M_times_24, if_neg nw, s_M_times_29, s_M_times_33, if_pos w]
      rw [to38]
      simp only [s_M_times_38, s_M_times_42, s_M_times_48, s_M_times_53, s_M_times_57, s_M_times_63, Option.bind_some, Option.bind_none, Option.toList_some, Option.toList_none, List.cons_append, List.nil_append, List.append_nil, mv_0, mg_0_0, mg_0_1, mg_0_2, mg_0_3, mg_0_4, mg_0_5, mg_0_6, mg_0_7, mg_0_8, mg_0_9, mg_0_10, mg_0_11, mg_0_12, mg_0_13, mg_0_14, mg_0_15, mg_0_16, mg_0_17, mg_0_18, mg_0_19, mg_0_20, c_M_look hn hn2 h, h22, mp_0_13, nI_add1, hx1, hx2]
    · have e : prtL (tby S) n sub 4 (k + 1) r = r := by
        unfold prtL
        rw [if_neg (fun z => hs z.2)]
      obtain ⟨o1, o2⟩ := out e
      refine ⟨M, o2, SR.rfl' M, ?_⟩
      have hs2 : ¬ _ := fun z => hs (bnd_4.mpr z)
      have w1 : ¬ nxt (tby S) n r.1 = 42 := fun z => hs2 (Or.inl z)
      have w2 : ¬ nxt (tby S) n r.1 = 47 := fun z => hs2 (Or.inr (Or.inl z))
      have w3 : ¬ nxt (tby S) n r.1 = 37 := fun z => hs2 (Or.inr (Or.inr z))
      simp only [if_neg w1, if_neg w2, if_neg w3, s_M_times_20, s_M_times_24, s_M_times_29, s_M_times_33, Option.bind_some, Option.bind_none, Option.toList_some, Option.toList_none, List.cons_append, List.nil_append, List.append_nil, mv_0, c_M_look hn hn2 h, o1]
theorem c_M_times (hn : S.2 1 = nI n) (hn2 : n ≤ 60) {one : Nat → xPR} (hsub : RDM X σ S n u o (d + 2) j_M_one (one)) (hL : LPr n (one)) : RDM X σ S n u o (d + 3) j_M_times (prt (tby S) n one (1)) := by
  intro M C a h
  obtain ⟨N1, hN1, hS1, hx1⟩ := hsub M C a h
  obtain ⟨q1, q2, q3⟩ := hL a h.le
  obtain ⟨N, hN, hS, hx⟩ := l_M_times (X := X) (d := d) (σ := σ) hn hn2 hsub hL (h.ln rfl) 60 .null N1 (one a) hN1 (fun e => by have := q3 e; omega) q1
  refine ⟨N, hN, SR.trans hS1 hS, ?_⟩
  rw [e_M_times]
  simp only [s_M_times_0, Option.bind_some, Option.bind_none, Option.toList_some, Option.toList_none, List.cons_append, List.nil_append, List.append_nil, mv_0, hx1]
  exact hx
theorem l_M_sum (hn : S.2 1 = nI n) (hn2 : n ≤ 60) {sub : Nat → xPR} (hsub : RDM X σ S n u o (d + 3) j_M_times sub) (hL : LPr n sub) {C : List Int32} {a0 : Nat} (hC : C.length ≤ a0) : ∀ (k : Nat) (l1 : Value) (M : xS) (r : xPR), PM S n u o M (C ++ r.2.1) r.1 r.2.2 → (r.2.2 = false → n < r.1 + k) → r.2.1.length + a0 ≤ r.1 → ∃ N : xS, PM S n u o N (C ++ (prtL (tby S) n sub 3 k r).2.1) (prtL (tby S) n sub 3 k r).1 (prtL (tby S) n sub 3 k r).2.2 ∧ SR M N ∧
    xrun (X, xcall X (d + 3)) j_M_sum 4 [.ref (sh 4 0), l1] [] (ub σ 4 (mdC M)) = some (none, ub σ 4 (mdC N)) := by
  intro k
  induction k with
  | zero =>
    intro l1 M r h hk hr
    have hf := h.fl
    have hle := h.le
    have hb : r.2.2 = true := by
      cases hz : r.2.2 with
      | true => rfl
      | false => have := hk hz; omega
    have z10 : ¬ (1 : Int32) = 0 := by decide
    refine ⟨M, h, SR.rfl' M, ?_⟩
    rw [hb, if_pos rfl] at hf
    rw [s_M_sum_4]
    simp only [s_M_sum_8, Option.bind_some, Option.bind_none, Option.toList_some, Option.toList_none, List.cons_append, List.nil_append, List.append_nil, mv_0, mg_0_0, mg_0_1, mg_0_2, mg_0_3, mg_0_4, mg_0_5, mg_0_6, mg_0_7, mg_0_8, mg_0_9, mg_0_10, mg_0_11, mg_0_12, mg_0_13, mg_0_14, mg_0_15, mg_0_16, mg_0_17, mg_0_18, mg_0_19, mg_0_20, hf, if_neg z10, s_M_sum_57]
  | succ k ih =>
    intro l1 M r h hk hr
    have hf := h.fl
    have hle := h.le
    have z10 : ¬ (1 : Int32) = 0 := by decide
    have out : prtL (tby S) n sub 3 (k + 1) r = r → xrun (X, xcall X (d + 3)) j_M_sum 57 [.ref (sh 4 0), l1] [] (ub σ 4 (mdC M)) = some (none, ub σ 4 (mdC M)) ∧ PM S n u o M (C ++ (prtL (tby S) n sub 3 (k + 1) r).2.1) (prtL (tby S) n sub 3 (k + 1) r).1 (prtL (tby S) n sub 3 (k + 1) r).2.2 := by
      intro e
      rw [e]
      exact ⟨by rw [s_M_sum_57], h⟩
    by_cases hb : r.2.2 = true
    · have e : prtL (tby S) n sub 3 (k + 1) r = r := by
        unfold prtL
        rw [if_neg (fun z => by rw [hb] at z; exact absurd z.1 (by decide))]
      obtain ⟨o1, o2⟩ := out e
      refine ⟨M, o2, SR.rfl' M, ?_⟩
      rw [if_pos hb] at hf
      rw [s_M_sum_4]
      simp only [s_M_sum_8, Option.bind_some, Option.bind_none, Option.toList_some, Option.toList_none, List.cons_append, List.nil_append, List.append_nil, mv_0, mg_0_0, mg_0_1, mg_0_2, mg_0_3, mg_0_4, mg_0_5, mg_0_6, mg_0_7, mg_0_8, mg_0_9, mg_0_10, mg_0_11, mg_0_12, mg_0_13, mg_0_14, mg_0_15, mg_0_16, mg_0_17, mg_0_18, mg_0_19, mg_0_20, hf, if_neg z10, o1]
    have hb' : r.2.2 = false := by
      cases hz : r.2.2 with
      | true => exact absurd hz hb
      | false => rfl
    rw [if_neg hb] at hf
    rw [s_M_sum_4]
    simp only [s_M_sum_8, Option.bind_some, Option.bind_none, Option.toList_some, Option.toList_none, List.cons_append, List.nil_append, List.append_nil, mv_0, mg_0_0, mg_0_1, mg_0_2, mg_0_3, mg_0_4, mg_0_5, mg_0_6, mg_0_7, mg_0_8, mg_0_9, mg_0_10, mg_0_11, mg_0_12, mg_0_13, mg_0_14, mg_0_15, mg_0_16, mg_0_17, mg_0_18, mg_0_19, mg_0_20, hf, if_true, s_M_sum_11, c_M_look hn hn2 h, s_M_sum_15]
    by_cases hs : bnd (nxt (tby S) n r.1) = nI 3
    · have hop := bnd_op (b := 3) (by decide) hs
      have hlt : r.1 < n := nxt_lt (bnd_ne (b := 3) (by decide) hs)
      have h22 : M.2 2 = nI r.1 := h.2.2.1
      have hA : PM S n u o (M.1, u1 M.2 2 (nI (r.1 + 1))) (C ++ r.2.1) (r.1 + 1) false := by
        have := h.at1 hlt
        rw [hb'] at this
        exact this
      obtain ⟨N1, hN1, hS1, hx1⟩ := hsub _ _ _ hA
      obtain ⟨q1, q2, q3⟩ := hL (r.1 + 1) (by omega)
      obtain ⟨N2, hN2, hS2, hx2⟩ := c_M_lays (X := X) (d := d + 2) (σ := σ) hn2 hN1 (fun _ => lvl_len hr hC q1) (enc_sg hop)
      rw [List.append_assoc, List.append_assoc] at hN2
      obtain ⟨N, hN, hS, hx⟩ := ih (.int (nxt (tby S) n r.1)) N2 ((sub (r.1 + 1)).1, r.2.1 ++ ((sub (r.1 + 1)).2.1 ++ [-(nxt (tby S) n r.1)]), (sub (r.1 + 1)).2.2) hN2 (fun _ => by have := hk hb'; show n < (sub (r.1 + 1)).1 + k; omega) (by
        show (r.2.1 ++ ((sub (r.1 + 1)).2.1 ++ [-(nxt (tby S) n r.1)])).length + a0 ≤ (sub (r.1 + 1)).1
        rw [List.length_append, List.length_append]
        show r.2.1.length + ((sub (r.1 + 1)).2.1.length + 1) + a0 ≤ _
        omega)
      have e : prtL (tby S) n sub 3 (k + 1) r = prtL (tby S) n sub 3 k ((sub (r.1 + 1)).1, r.2.1 ++ ((sub (r.1 + 1)).2.1 ++ [-(nxt (tby S) n r.1)]), (sub (r.1 + 1)).2.2) := by
        show (if r.2.2 = false ∧ bnd (nxt (tby S) n r.1) = nI 3 then _ else _) = _
        rw [if_pos ⟨hb', hs⟩]
      rw [e]
      refine ⟨N, hN, SR.trans (SR.u2' M _) (SR.trans hS1 (SR.trans hS2 hS)), ?_⟩
      rw [← hx]
      have hs2 := bnd_3.mp hs
      have to29 : (if nxt (tby S) n r.1 = 43 then xrun (X, xcall X (d + 3)) j_M_sum 29 [.ref (sh 4 0), l1] [] (ub σ 4 (mdC M)) else xrun (X, xcall X (d + 3)) j_M_sum 20 [.ref (sh 4 0), l1] [] (ub σ 4 (mdC M))) = xrun (X, xcall X (d + 3)) j_M_sum 29 [.ref (sh 4 0), l1] [] (ub σ 4 (mdC M)) := by
        rcases hs2 with w | w
        · rw [if_pos w]
        · rw [if_neg (by rw [w]; decide), s_M_sum_20]
          simp only [Option.bind_some, Option.bind_none, Option.toList_some, Option.toList_none, List.cons_append, List.nil_append, List.append_nil, mv_0, c_M_look hn hn2 h, s_M_sum_24, if_pos w]
      rw [to29]
      simp only [s_M_sum_29, s_M_sum_33, s_M_sum_39, s_M_sum_44, s_M_sum_48, s_M_sum_54, Option.bind_some, Option.bind_none, Option.toList_some, Option.toList_none, List.cons_append, List.nil_append, List.append_nil, mv_0, mg_0_0, mg_0_1, mg_0_2, mg_0_3, mg_0_4, mg_0_5, mg_0_6, mg_0_7, mg_0_8, mg_0_9, mg_0_10, mg_0_11, mg_0_12, mg_0_13, mg_0_14, mg_0_15, mg_0_16, mg_0_17, mg_0_18, mg_0_19, mg_0_20, c_M_look hn hn2 h, h22, mp_0_13, nI_add1, hx1, hx2]
    · have e : prtL (tby S) n sub 3 (k + 1) r = r := by
        unfold prtL
        rw [if_neg (fun z => hs z.2)]
      obtain ⟨o1, o2⟩ := out e
      refine ⟨M, o2, SR.rfl' M, ?_⟩
      have hs2 : ¬ _ := fun z => hs (bnd_3.mpr z)
      have w1 : ¬ nxt (tby S) n r.1 = 43 := fun z => hs2 (Or.inl z)
      have w2 : ¬ nxt (tby S) n r.1 = 45 := fun z => hs2 (Or.inr z)
      simp only [if_neg w1, if_neg w2, s_M_sum_20, s_M_sum_24, Option.bind_some, Option.bind_none, Option.toList_some, Option.toList_none, List.cons_append, List.nil_append, List.append_nil, mv_0, c_M_look hn hn2 h, o1]
theorem c_M_sum (hn : S.2 1 = nI n) (hn2 : n ≤ 60) {one : Nat → xPR} (hsub : RDM X σ S n u o (d + 3) j_M_times (prt (tby S) n one 1)) (hL : LPr n (prt (tby S) n one 1)) : RDM X σ S n u o (d + 4) j_M_sum (prt (tby S) n one (2)) := by
  intro M C a h
  obtain ⟨N1, hN1, hS1, hx1⟩ := hsub M C a h
  obtain ⟨q1, q2, q3⟩ := hL a h.le
  obtain ⟨N, hN, hS, hx⟩ := l_M_sum (X := X) (d := d) (σ := σ) hn hn2 hsub hL (h.ln rfl) 60 .null N1 (prt (tby S) n one 1 a) hN1 (fun e => by have := q3 e; omega) q1
  refine ⟨N, hN, SR.trans hS1 hS, ?_⟩
  rw [e_M_sum]
  simp only [s_M_sum_0, Option.bind_some, Option.bind_none, Option.toList_some, Option.toList_none, List.cons_append, List.nil_append, List.append_nil, mv_0, hx1]
  exact hx
theorem l_M_all (hn : S.2 1 = nI n) (hn2 : n ≤ 60) {sub : Nat → xPR} (hsub : RDM X σ S n u o (d + 5) j_M_compares sub) (hL : LPr n sub) {C : List Int32} {a0 : Nat} (hC : C.length ≤ a0) : ∀ (k : Nat) (_ : Unit) (M : xS) (r : xPR), PM S n u o M (C ++ r.2.1) r.1 r.2.2 → (r.2.2 = false → n < r.1 + k) → r.2.1.length + a0 ≤ r.1 → ∃ N : xS, PM S n u o N (C ++ (prtL (tby S) n sub 1 k r).2.1) (prtL (tby S) n sub 1 k r).1 (prtL (tby S) n sub 1 k r).2.2 ∧ SR M N ∧
    xrun (X, xcall X (d + 5)) j_M_all 4 [.ref (sh 4 0)] [] (ub σ 4 (mdC M)) = some (none, ub σ 4 (mdC N)) := by
  intro k
  induction k with
  | zero =>
    intro _ M r h hk hr
    have hf := h.fl
    have hle := h.le
    have hb : r.2.2 = true := by
      cases hz : r.2.2 with
      | true => rfl
      | false => have := hk hz; omega
    have z10 : ¬ (1 : Int32) = 0 := by decide
    refine ⟨M, h, SR.rfl' M, ?_⟩
    rw [hb, if_pos rfl] at hf
    rw [s_M_all_4]
    simp only [s_M_all_8, Option.bind_some, Option.bind_none, Option.toList_some, Option.toList_none, List.cons_append, List.nil_append, List.append_nil, mv_0, mg_0_0, mg_0_1, mg_0_2, mg_0_3, mg_0_4, mg_0_5, mg_0_6, mg_0_7, mg_0_8, mg_0_9, mg_0_10, mg_0_11, mg_0_12, mg_0_13, mg_0_14, mg_0_15, mg_0_16, mg_0_17, mg_0_18, mg_0_19, mg_0_20, hf, if_neg z10, s_M_all_44]
  | succ k ih =>
    intro _ M r h hk hr
    have hf := h.fl
    have hle := h.le
    have z10 : ¬ (1 : Int32) = 0 := by decide
    have out : prtL (tby S) n sub 1 (k + 1) r = r → xrun (X, xcall X (d + 5)) j_M_all 44 [.ref (sh 4 0)] [] (ub σ 4 (mdC M)) = some (none, ub σ 4 (mdC M)) ∧ PM S n u o M (C ++ (prtL (tby S) n sub 1 (k + 1) r).2.1) (prtL (tby S) n sub 1 (k + 1) r).1 (prtL (tby S) n sub 1 (k + 1) r).2.2 := by
      intro e
      rw [e]
      exact ⟨by rw [s_M_all_44], h⟩
    by_cases hb : r.2.2 = true
    · have e : prtL (tby S) n sub 1 (k + 1) r = r := by
        unfold prtL
        rw [if_neg (fun z => by rw [hb] at z; exact absurd z.1 (by decide))]
      obtain ⟨o1, o2⟩ := out e
      refine ⟨M, o2, SR.rfl' M, ?_⟩
      rw [if_pos hb] at hf
      rw [s_M_all_4]
      simp only [s_M_all_8, Option.bind_some, Option.bind_none, Option.toList_some, Option.toList_none, List.cons_append, List.nil_append, List.append_nil, mv_0, mg_0_0, mg_0_1, mg_0_2, mg_0_3, mg_0_4, mg_0_5, mg_0_6, mg_0_7, mg_0_8, mg_0_9, mg_0_10, mg_0_11, mg_0_12, mg_0_13, mg_0_14, mg_0_15, mg_0_16, mg_0_17, mg_0_18, mg_0_19, mg_0_20, hf, if_neg z10, o1]
    have hb' : r.2.2 = false := by
      cases hz : r.2.2 with
      | true => exact absurd hz hb
      | false => rfl
    rw [if_neg hb] at hf
    rw [s_M_all_4]
    simp only [s_M_all_8, Option.bind_some, Option.bind_none, Option.toList_some, Option.toList_none, List.cons_append, List.nil_append, List.append_nil, mv_0, mg_0_0, mg_0_1, mg_0_2, mg_0_3, mg_0_4, mg_0_5, mg_0_6, mg_0_7, mg_0_8, mg_0_9, mg_0_10, mg_0_11, mg_0_12, mg_0_13, mg_0_14, mg_0_15, mg_0_16, mg_0_17, mg_0_18, mg_0_19, mg_0_20, hf, if_true, s_M_all_11, c_M_look hn hn2 h, s_M_all_15]
    by_cases hs : bnd (nxt (tby S) n r.1) = nI 1
    · have hop := bnd_op (b := 1) (by decide) hs
      have hlt : r.1 < n := nxt_lt (bnd_ne (b := 1) (by decide) hs)
      have h22 : M.2 2 = nI r.1 := h.2.2.1
      have hA : PM S n u o (M.1, u1 M.2 2 (nI (r.1 + 1))) (C ++ r.2.1) (r.1 + 1) false := by
        have := h.at1 hlt
        rw [hb'] at this
        exact this
      obtain ⟨N1, hN1, hS1, hx1⟩ := hsub _ _ _ hA
      obtain ⟨q1, q2, q3⟩ := hL (r.1 + 1) (by omega)
      obtain ⟨N2, hN2, hS2, hx2⟩ := c_M_lays (X := X) (d := d + 4) (σ := σ) hn2 hN1 (fun _ => lvl_len hr hC q1) (enc_sg hop)
      rw [List.append_assoc, List.append_assoc] at hN2
      obtain ⟨N, hN, hS, hx⟩ := ih () N2 ((sub (r.1 + 1)).1, r.2.1 ++ ((sub (r.1 + 1)).2.1 ++ [-(nxt (tby S) n r.1)]), (sub (r.1 + 1)).2.2) hN2 (fun _ => by have := hk hb'; show n < (sub (r.1 + 1)).1 + k; omega) (by
        show (r.2.1 ++ ((sub (r.1 + 1)).2.1 ++ [-(nxt (tby S) n r.1)])).length + a0 ≤ (sub (r.1 + 1)).1
        rw [List.length_append, List.length_append]
        show r.2.1.length + ((sub (r.1 + 1)).2.1.length + 1) + a0 ≤ _
        omega)
      have e : prtL (tby S) n sub 1 (k + 1) r = prtL (tby S) n sub 1 k ((sub (r.1 + 1)).1, r.2.1 ++ ((sub (r.1 + 1)).2.1 ++ [-(nxt (tby S) n r.1)]), (sub (r.1 + 1)).2.2) := by
        show (if r.2.2 = false ∧ bnd (nxt (tby S) n r.1) = nI 1 then _ else _) = _
        rw [if_pos ⟨hb', hs⟩]
      rw [e]
      refine ⟨N, hN, SR.trans (SR.u2' M _) (SR.trans hS1 (SR.trans hS2 hS)), ?_⟩
      rw [← hx]
      have hs2 := bnd_1.mp hs
      rw [hs2] at hx2
      simp only [if_pos hs2, s_M_all_20, s_M_all_25, s_M_all_30, s_M_all_34, s_M_all_41, Option.bind_some, Option.bind_none, Option.toList_some, Option.toList_none, List.cons_append, List.nil_append, List.append_nil, mv_0, mg_0_0, mg_0_1, mg_0_2, mg_0_3, mg_0_4, mg_0_5, mg_0_6, mg_0_7, mg_0_8, mg_0_9, mg_0_10, mg_0_11, mg_0_12, mg_0_13, mg_0_14, mg_0_15, mg_0_16, mg_0_17, mg_0_18, mg_0_19, mg_0_20, h22, mp_0_13, nI_add1, hx1, hx2]
    · have e : prtL (tby S) n sub 1 (k + 1) r = r := by
        unfold prtL
        rw [if_neg (fun z => hs z.2)]
      obtain ⟨o1, o2⟩ := out e
      refine ⟨M, o2, SR.rfl' M, ?_⟩
      have hs2 : ¬ _ := fun z => hs (bnd_1.mpr z)
      simp only [if_neg hs2, o1]
theorem c_M_all (hn : S.2 1 = nI n) (hn2 : n ≤ 60) {one : Nat → xPR} (hsub : RDM X σ S n u o (d + 5) j_M_compares (prt (tby S) n one 3)) (hL : LPr n (prt (tby S) n one 3)) : RDM X σ S n u o (d + 6) j_M_all (prt (tby S) n one (4)) := by
  intro M C a h
  obtain ⟨N1, hN1, hS1, hx1⟩ := hsub M C a h
  obtain ⟨q1, q2, q3⟩ := hL a h.le
  obtain ⟨N, hN, hS, hx⟩ := l_M_all (X := X) (d := d) (σ := σ) hn hn2 hsub hL (h.ln rfl) 60 () N1 (prt (tby S) n one 3 a) hN1 (fun e => by have := q3 e; omega) q1
  refine ⟨N, hN, SR.trans hS1 hS, ?_⟩
  rw [e_M_all]
  simp only [s_M_all_0, Option.bind_some, Option.bind_none, Option.toList_some, Option.toList_none, List.cons_append, List.nil_append, List.append_nil, mv_0, hx1]
  exact hx
theorem l_M_any (hn : S.2 1 = nI n) (hn2 : n ≤ 60) {sub : Nat → xPR} (hsub : RDM X σ S n u o (d + 6) j_M_all sub) (hL : LPr n sub) {C : List Int32} {a0 : Nat} (hC : C.length ≤ a0) : ∀ (k : Nat) (_ : Unit) (M : xS) (r : xPR), PM S n u o M (C ++ r.2.1) r.1 r.2.2 → (r.2.2 = false → n < r.1 + k) → r.2.1.length + a0 ≤ r.1 → ∃ N : xS, PM S n u o N (C ++ (prtL (tby S) n sub 0 k r).2.1) (prtL (tby S) n sub 0 k r).1 (prtL (tby S) n sub 0 k r).2.2 ∧ SR M N ∧
    xrun (X, xcall X (d + 6)) j_M_any 4 [.ref (sh 4 0)] [] (ub σ 4 (mdC M)) = some (none, ub σ 4 (mdC N)) := by
  intro k
  induction k with
  | zero =>
    intro _ M r h hk hr
    have hf := h.fl
    have hle := h.le
    have hb : r.2.2 = true := by
      cases hz : r.2.2 with
      | true => rfl
      | false => have := hk hz; omega
    have z10 : ¬ (1 : Int32) = 0 := by decide
    refine ⟨M, h, SR.rfl' M, ?_⟩
    rw [hb, if_pos rfl] at hf
    rw [s_M_any_4]
    simp only [s_M_any_8, Option.bind_some, Option.bind_none, Option.toList_some, Option.toList_none, List.cons_append, List.nil_append, List.append_nil, mv_0, mg_0_0, mg_0_1, mg_0_2, mg_0_3, mg_0_4, mg_0_5, mg_0_6, mg_0_7, mg_0_8, mg_0_9, mg_0_10, mg_0_11, mg_0_12, mg_0_13, mg_0_14, mg_0_15, mg_0_16, mg_0_17, mg_0_18, mg_0_19, mg_0_20, hf, if_neg z10, s_M_any_44]
  | succ k ih =>
    intro _ M r h hk hr
    have hf := h.fl
    have hle := h.le
    have z10 : ¬ (1 : Int32) = 0 := by decide
    have out : prtL (tby S) n sub 0 (k + 1) r = r → xrun (X, xcall X (d + 6)) j_M_any 44 [.ref (sh 4 0)] [] (ub σ 4 (mdC M)) = some (none, ub σ 4 (mdC M)) ∧ PM S n u o M (C ++ (prtL (tby S) n sub 0 (k + 1) r).2.1) (prtL (tby S) n sub 0 (k + 1) r).1 (prtL (tby S) n sub 0 (k + 1) r).2.2 := by
      intro e
      rw [e]
      exact ⟨by rw [s_M_any_44], h⟩
    by_cases hb : r.2.2 = true
    · have e : prtL (tby S) n sub 0 (k + 1) r = r := by
        unfold prtL
        rw [if_neg (fun z => by rw [hb] at z; exact absurd z.1 (by decide))]
      obtain ⟨o1, o2⟩ := out e
      refine ⟨M, o2, SR.rfl' M, ?_⟩
      rw [if_pos hb] at hf
      rw [s_M_any_4]
      simp only [s_M_any_8, Option.bind_some, Option.bind_none, Option.toList_some, Option.toList_none, List.cons_append, List.nil_append, List.append_nil, mv_0, mg_0_0, mg_0_1, mg_0_2, mg_0_3, mg_0_4, mg_0_5, mg_0_6, mg_0_7, mg_0_8, mg_0_9, mg_0_10, mg_0_11, mg_0_12, mg_0_13, mg_0_14, mg_0_15, mg_0_16, mg_0_17, mg_0_18, mg_0_19, mg_0_20, hf, if_neg z10, o1]
    have hb' : r.2.2 = false := by
      cases hz : r.2.2 with
      | true => exact absurd hz hb
      | false => rfl
    rw [if_neg hb] at hf
    rw [s_M_any_4]
    simp only [s_M_any_8, Option.bind_some, Option.bind_none, Option.toList_some, Option.toList_none, List.cons_append, List.nil_append, List.append_nil, mv_0, mg_0_0, mg_0_1, mg_0_2, mg_0_3, mg_0_4, mg_0_5, mg_0_6, mg_0_7, mg_0_8, mg_0_9, mg_0_10, mg_0_11, mg_0_12, mg_0_13, mg_0_14, mg_0_15, mg_0_16, mg_0_17, mg_0_18, mg_0_19, mg_0_20, hf, if_true, s_M_any_11, c_M_look hn hn2 h, s_M_any_15]
    by_cases hs : bnd (nxt (tby S) n r.1) = nI 0
    · have hop := bnd_op (b := 0) (by decide) hs
      have hlt : r.1 < n := nxt_lt (bnd_ne (b := 0) (by decide) hs)
      have h22 : M.2 2 = nI r.1 := h.2.2.1
      have hA : PM S n u o (M.1, u1 M.2 2 (nI (r.1 + 1))) (C ++ r.2.1) (r.1 + 1) false := by
        have := h.at1 hlt
        rw [hb'] at this
        exact this
      obtain ⟨N1, hN1, hS1, hx1⟩ := hsub _ _ _ hA
      obtain ⟨q1, q2, q3⟩ := hL (r.1 + 1) (by omega)
      obtain ⟨N2, hN2, hS2, hx2⟩ := c_M_lays (X := X) (d := d + 5) (σ := σ) hn2 hN1 (fun _ => lvl_len hr hC q1) (enc_sg hop)
      rw [List.append_assoc, List.append_assoc] at hN2
      obtain ⟨N, hN, hS, hx⟩ := ih () N2 ((sub (r.1 + 1)).1, r.2.1 ++ ((sub (r.1 + 1)).2.1 ++ [-(nxt (tby S) n r.1)]), (sub (r.1 + 1)).2.2) hN2 (fun _ => by have := hk hb'; show n < (sub (r.1 + 1)).1 + k; omega) (by
        show (r.2.1 ++ ((sub (r.1 + 1)).2.1 ++ [-(nxt (tby S) n r.1)])).length + a0 ≤ (sub (r.1 + 1)).1
        rw [List.length_append, List.length_append]
        show r.2.1.length + ((sub (r.1 + 1)).2.1.length + 1) + a0 ≤ _
        omega)
      have e : prtL (tby S) n sub 0 (k + 1) r = prtL (tby S) n sub 0 k ((sub (r.1 + 1)).1, r.2.1 ++ ((sub (r.1 + 1)).2.1 ++ [-(nxt (tby S) n r.1)]), (sub (r.1 + 1)).2.2) := by
        show (if r.2.2 = false ∧ bnd (nxt (tby S) n r.1) = nI 0 then _ else _) = _
        rw [if_pos ⟨hb', hs⟩]
      rw [e]
      refine ⟨N, hN, SR.trans (SR.u2' M _) (SR.trans hS1 (SR.trans hS2 hS)), ?_⟩
      rw [← hx]
      have hs2 := bnd_0.mp hs
      rw [hs2] at hx2
      simp only [if_pos hs2, s_M_any_20, s_M_any_25, s_M_any_30, s_M_any_34, s_M_any_41, Option.bind_some, Option.bind_none, Option.toList_some, Option.toList_none, List.cons_append, List.nil_append, List.append_nil, mv_0, mg_0_0, mg_0_1, mg_0_2, mg_0_3, mg_0_4, mg_0_5, mg_0_6, mg_0_7, mg_0_8, mg_0_9, mg_0_10, mg_0_11, mg_0_12, mg_0_13, mg_0_14, mg_0_15, mg_0_16, mg_0_17, mg_0_18, mg_0_19, mg_0_20, h22, mp_0_13, nI_add1, hx1, hx2]
    · have e : prtL (tby S) n sub 0 (k + 1) r = r := by
        unfold prtL
        rw [if_neg (fun z => hs z.2)]
      obtain ⟨o1, o2⟩ := out e
      refine ⟨M, o2, SR.rfl' M, ?_⟩
      have hs2 : ¬ _ := fun z => hs (bnd_0.mpr z)
      simp only [if_neg hs2, o1]
theorem c_M_any (hn : S.2 1 = nI n) (hn2 : n ≤ 60) {one : Nat → xPR} (hsub : RDM X σ S n u o (d + 6) j_M_all (prt (tby S) n one 4)) (hL : LPr n (prt (tby S) n one 4)) : RDM X σ S n u o (d + 7) j_M_any (prt (tby S) n one (5)) := by
  intro M C a h
  obtain ⟨N1, hN1, hS1, hx1⟩ := hsub M C a h
  obtain ⟨q1, q2, q3⟩ := hL a h.le
  obtain ⟨N, hN, hS, hx⟩ := l_M_any (X := X) (d := d) (σ := σ) hn hn2 hsub hL (h.ln rfl) 60 () N1 (prt (tby S) n one 4 a) hN1 (fun e => by have := q3 e; omega) q1
  refine ⟨N, hN, SR.trans hS1 hS, ?_⟩
  rw [e_M_any]
  simp only [s_M_any_0, Option.bind_some, Option.bind_none, Option.toList_some, Option.toList_none, List.cons_append, List.nil_append, List.append_nil, mv_0, hx1]
  exact hx
theorem c_M_compares (hn : S.2 1 = nI n) (hn2 : n ≤ 60) {one : Nat → xPR} (hsub : RDM X σ S n u o (d + 4) j_M_sum (prt (tby S) n one 2)) (hL : LPr n (prt (tby S) n one 2)) : RDM X σ S n u o (d + 5) j_M_compares (prt (tby S) n one 3) := by
  intro M C a h
  obtain ⟨N1, hN1, hS1, hx1⟩ := hsub M C a h
  obtain ⟨q1, q2, q3⟩ := hL a h.le
  have hCa := h.ln rfl
  have e3 : prt (tby S) n one 3 a = prtL (tby S) n (prt (tby S) n one 2) 2 1 (prt (tby S) n one 2 a) := rfl
  generalize hr : prt (tby S) n one 2 a = r at hN1 q1 q2 q3 e3
  have hf := hN1.fl
  have z10 : ¬ (1 : Int32) = 0 := by decide
  rw [e_M_compares, e3]
  simp only [s_M_compares_0, s_M_compares_4, s_M_compares_8, s_M_compares_13, Option.bind_some, Option.bind_none, Option.toList_some, Option.toList_none, List.cons_append, List.nil_append, List.append_nil, mv_0, mg_0_0, mg_0_1, mg_0_2, mg_0_3, mg_0_4, mg_0_5, mg_0_6, mg_0_7, mg_0_8, mg_0_9, mg_0_10, mg_0_11, mg_0_12, mg_0_13, mg_0_14, mg_0_15, mg_0_16, mg_0_17, mg_0_18, mg_0_19, mg_0_20, hx1, c_M_look hn hn2 hN1, hf]
  have skip : prtL (tby S) n (prt (tby S) n one 2) 2 1 r = r → ∃ N : xS, PM S n u o N (C ++ (prtL (tby S) n (prt (tby S) n one 2) 2 1 r).2.1) (prtL (tby S) n (prt (tby S) n one 2) 2 1 r).1 (prtL (tby S) n (prt (tby S) n one 2) 2 1 r).2.2 ∧ SR M N ∧ xrun (X, xcall X (d + 4)) j_M_compares 54 [.ref (sh 4 0), .int (nxt (tby S) n r.1)] [] (ub σ 4 (mdC N1)) = some (none, ub σ 4 (mdC N)) := by
    intro e
    rw [e]
    exact ⟨N1, hN1, hS1, by rw [s_M_compares_54]⟩
  by_cases hb : r.2.2 = true
  · rw [if_pos hb, if_neg z10]
    exact skip (by
      unfold prtL
      rw [if_neg (fun z => by rw [hb] at z; exact absurd z.1 (by decide))])
  have hb' : r.2.2 = false := by
    cases hz : r.2.2 with
    | true => exact absurd hz hb
    | false => rfl
  rw [if_neg hb, if_pos rfl]
  by_cases hs : bnd (nxt (tby S) n r.1) = nI 2
  · have hop := bnd_op (b := 2) (by decide) hs
    have hlt : r.1 < n := nxt_lt (bnd_ne (b := 2) (by decide) hs)
    have h22 : N1.2 2 = nI r.1 := hN1.2.2.1
    have hA : PM S n u o (N1.1, u1 N1.2 2 (nI (r.1 + 1))) (C ++ r.2.1) (r.1 + 1) false := by
      have := hN1.at1 hlt
      rw [hb'] at this
      exact this
    obtain ⟨N2, hN2, hS2, hx2⟩ := hsub _ _ _ hA
    obtain ⟨p1, p2, p3⟩ := hL (r.1 + 1) (by omega)
    obtain ⟨N3, hN3, hS3, hx3⟩ := c_M_lays (X := X) (d := d + 3) (σ := σ) hn2 hN2 (fun _ => lvl_len q1 hCa p1) (enc_sg hop)
    rw [List.append_assoc, List.append_assoc] at hN3
    have e : prtL (tby S) n (prt (tby S) n one 2) 2 1 r = ((prt (tby S) n one 2 (r.1 + 1)).1, r.2.1 ++ ((prt (tby S) n one 2 (r.1 + 1)).2.1 ++ [-(nxt (tby S) n r.1)]), (prt (tby S) n one 2 (r.1 + 1)).2.2) := by
      unfold prtL
      rw [if_pos ⟨hb', hs⟩]
      rfl
    rw [e]
    refine ⟨N3, hN3, SR.trans hS1 (SR.trans (SR.u2' N1 _) (SR.trans hS2 hS3)), ?_⟩
    have to34 : xrun (X, xcall X (d + 4)) j_M_compares 16 [.ref (sh 4 0), .int (nxt (tby S) n r.1)] [] (ub σ 4 (mdC N1)) = xrun (X, xcall X (d + 4)) j_M_compares 34 [.ref (sh 4 0), .int (nxt (tby S) n r.1)] [] (ub σ 4 (mdC N1)) := by
      rw [s_M_compares_16]
      rcases bnd_2.mp hs with w | w | w
      · rw [if_pos w]
      · rw [if_neg (by rw [w]; decide), s_M_compares_22, if_pos w]
      · rw [if_neg (by rw [w]; decide), s_M_compares_22, if_neg (by rw [w]; decide), s_M_compares_28, if_pos w]
    rw [to34]
    simp only [s_M_compares_34, s_M_compares_39, s_M_compares_44, s_M_compares_48, s_M_compares_54, Option.bind_some, Option.bind_none, Option.toList_some, Option.toList_none, List.cons_append, List.nil_append, List.append_nil, mv_0, mg_0_0, mg_0_1, mg_0_2, mg_0_3, mg_0_4, mg_0_5, mg_0_6, mg_0_7, mg_0_8, mg_0_9, mg_0_10, mg_0_11, mg_0_12, mg_0_13, mg_0_14, mg_0_15, mg_0_16, mg_0_17, mg_0_18, mg_0_19, mg_0_20, h22, mp_0_13, nI_add1, hx2, hx3]
  · have hs2 : ¬ _ := fun z => hs (bnd_2.mpr z)
    rw [s_M_compares_16, if_neg (fun z => hs2 (Or.inl z)), s_M_compares_22, if_neg (fun z => hs2 (Or.inr (Or.inl z))), s_M_compares_28, if_neg (fun z => hs2 (Or.inr (Or.inr z)))]
    exact skip (by
      unfold prtL
      rw [if_neg (fun z => hs z.2)])
/-! all levels, at any depth -/
theorem c_M_any5 (hn : S.2 1 = nI n) (hn2 : n ≤ 60) {one : Nat → xPR} (h1 : RDM X σ S n u o (d + 2) j_M_one one) (hL : LPr n one) : RDM X σ S n u o (d + 7) j_M_any (prt (tby S) n one 5) := by
  have a1 := c_M_times (X := X) (d := d) (σ := σ) (o := o) hn hn2 (one := one) h1 hL
  have a2 := c_M_sum (X := X) (d := d) (σ := σ) (o := o) hn hn2 (one := one) a1 (LP_parts hL 1 (by omega))
  have a3 := c_M_compares (X := X) (d := d) (σ := σ) (o := o) hn hn2 (one := one) a2 (LP_parts hL 2 (by omega))
  have a4 := c_M_all (X := X) (d := d) (σ := σ) (o := o) hn hn2 (one := one) a3 (LP_parts hL 3 (by omega))
  exact c_M_any (X := X) (d := d) (σ := σ) (o := o) hn hn2 (one := one) a4 (LP_parts hL 4 (by omega))
theorem c_M_sg (hn : S.2 1 = nI n) (hn2 : n ≤ 60) (hu : u < 2) : ∀ k, k ≤ 5 → ∀ d : Nat, RDM X σ S n u (5 - k) (d + 7 * k + 4) j_M_one (sg (tby S) n u k)
  | 0, _, d => by
    have := c_M_one (X := X) (d := d) (σ := σ) (o := 5) hn hn2 hu (by omega) (deep := false) (one := fun a => (a, [], true)) (parts := fun a => (a, [], true)) ⟨fun e => absurd e (by decide), fun e => absurd rfl e⟩ (fun e => absurd e (by decide)) (fun e => absurd e (by decide))
    exact this
  | k + 1, hk, d => by
    have h0 : 5 - (k + 1) + 1 = 5 - k := by omega
    have b1 := c_M_sg hn hn2 hu k (by omega) (d + 5)
    have b2 := c_M_any5 (X := X) (d := d + 7 * k + 2) (σ := σ) (o := 5 - k) hn hn2 (one := sg (tby S) n u k) (c_M_sg hn hn2 hu k (by omega) d) (LP_sg hu k)
    have := c_M_one (X := X) (d := d + 7 * (k + 1)) (σ := σ) (o := 5 - (k + 1)) hn hn2 hu (by omega) (deep := true) (one := sg (tby S) n u k) (parts := prt (tby S) n (sg (tby S) n u k) 5) ⟨fun _ => by omega, fun _ => rfl⟩
      (fun _ => ⟨by rw [h0, show d + 7 * (k + 1) + 2 = d + 5 + 7 * k + 4 by omega]; exact b1, LP_sg hu k⟩)
      (fun _ => ⟨by rw [h0, show d + 7 * (k + 1) + 2 = d + 7 * k + 2 + 7 by omega]; exact b2, LP_parts (LP_sg hu k) 5 (Nat.le_refl _)⟩)
    exact this
theorem c_M_rdr (hn : S.2 1 = nI n) (hn2 : n ≤ 60) (hu : u < 2) : RDM X σ S n u 0 (d + 44) j_M_any (prt (tby S) n (sg (tby S) n u 5) 5) := by
  have b := c_M_sg (X := X) (σ := σ) hn hn2 hu 5 (Nat.le_refl _) d
  exact c_M_any5 (X := X) (d := d + 37) (σ := σ) (o := 0) hn hn2 (one := sg (tby S) n u 5) b (LP_sg hu 5)
end MText
