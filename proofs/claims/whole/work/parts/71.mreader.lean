/-! ===== the model: the reader of texts ===== -/
/-- what a part of a text takes -/
def LPr (n : Nat) (p : Nat → xPR) : Prop := ∀ a, a ≤ n → (p a).2.1.length + a ≤ (p a).1 ∧ (p a).1 ≤ n ∧ ((p a).2.2 = false → a < (p a).1)
theorem nam_let {u : Nat} (hu : u < 2) {s : Int32} (h : 0 ≤ nam u s) : ¬ isD s ∧ s ≠ 33 ∧ s ≠ 40 ∧ s ≠ -1 := by
  have h1 : s = namv (3 * u) ∨ s = namv (3 * u + 1) ∨ s = namv (3 * u + 2) := by
    unfold nam at h
    split at h
    · next e => exact Or.inl e.symm
    split at h
    · next e => exact Or.inr (Or.inl e.symm)
    split at h
    · next e => exact Or.inr (Or.inr e.symm)
    · exact absurd h (by decide)
  obtain rfl | rfl : u = 0 ∨ u = 1 := by omega
  all_goals
    rcases h1 with rfl | rfl | rfl <;> exact ⟨by decide, by decide, by decide, by decide⟩
section LPs
variable {by_ : Nat → Int32} {n u : Nat}
theorem LP_single (hu : u < 2) {deep : Bool} {one parts : Nat → xPR} (h1 : deep = true → LPr n one) (h2 : deep = true → LPr n parts) : LPr n (sgl by_ n u deep one parts) := by
  intro a ha
  unfold sgl
  by_cases c1 : isD (nxt by_ n a)
  · rw [if_pos c1]
    have hp : a + 1 ≤ (nmL by_ n 4 a 0).1 := nmL_pos (k := 3) c1
    have hq := (nmL_at (by_ := by_) (n := n) 4 a 0).2 ha
    refine ⟨?_, hq, fun _ => ?_⟩
    · show 1 + a ≤ (nmL by_ n 4 a 0).1
      omega
    · show a < (nmL by_ n 4 a 0).1
      omega
  rw [if_neg c1]
  by_cases c2 : 0 ≤ nam u (nxt by_ n a)
  · rw [if_pos c2]
    have hlt := nxt_lt (nam_let hu c2).2.2.2
    exact ⟨by show 1 + a ≤ a + 1; omega, by show a + 1 ≤ n; omega, fun _ => by show a < a + 1; omega⟩
  rw [if_neg c2]
  by_cases c3 : nxt by_ n a = 33 ∧ deep = true
  · rw [if_pos c3]
    have hlt : a < n := nxt_lt (by rw [c3.1]; decide)
    obtain ⟨q1, q2, q3⟩ := h1 c3.2 (a + 1) (by omega)
    refine ⟨?_, q2, fun _ => ?_⟩
    · show ((one (a + 1)).2.1 ++ [-33]).length + a ≤ (one (a + 1)).1
      rw [List.length_append]
      show (one (a + 1)).2.1.length + 1 + a ≤ _
      omega
    · show a < (one (a + 1)).1
      omega
  rw [if_neg c3]
  by_cases c4 : nxt by_ n a = 40 ∧ deep = true
  · rw [if_pos c4]
    have hlt : a < n := nxt_lt (by rw [c4.1]; decide)
    obtain ⟨q1, q2, q3⟩ := h2 c4.2 (a + 1) (by omega)
    by_cases c5 : (parts (a + 1)).2.2 = false ∧ nxt by_ n (parts (a + 1)).1 = 41
    · rw [if_pos c5]
      have hl2 : (parts (a + 1)).1 < n := nxt_lt (by rw [c5.2]; decide)
      refine ⟨?_, ?_, fun _ => ?_⟩
      · show (parts (a + 1)).2.1.length + a ≤ (parts (a + 1)).1 + 1
        omega
      · show (parts (a + 1)).1 + 1 ≤ n
        omega
      · show a < (parts (a + 1)).1 + 1
        omega
    · rw [if_neg c5]
      refine ⟨?_, q2, fun e => absurd (show true = false from e) (by decide)⟩
      show (parts (a + 1)).2.1.length + a ≤ (parts (a + 1)).1
      omega
  rw [if_neg c4]
  exact ⟨by show 0 + a ≤ a; omega, ha, fun e => absurd (show true = false from e) (by decide)⟩
theorem LP_L {sub : Nat → xPR} {b : Nat} (hb : b < 5) (hs : LPr n sub) (a0 : Nat) : ∀ (k : Nat) (r : xPR), r.2.1.length + a0 ≤ r.1 → r.1 ≤ n → (r.2.2 = false → a0 < r.1) →
    (prtL by_ n sub b k r).2.1.length + a0 ≤ (prtL by_ n sub b k r).1 ∧ (prtL by_ n sub b k r).1 ≤ n ∧ ((prtL by_ n sub b k r).2.2 = false → a0 < (prtL by_ n sub b k r).1)
  | 0, r, h1, h2, h3 => ⟨h1, h2, h3⟩
  | k + 1, r, h1, h2, h3 => by
    unfold prtL
    by_cases c : r.2.2 = false ∧ bnd (nxt by_ n r.1) = nI b
    · rw [if_pos c]
      have hlt : r.1 < n := nxt_lt (bnd_ne hb c.2)
      obtain ⟨q1, q2, q3⟩ := hs (r.1 + 1) (by omega)
      refine LP_L hb hs a0 k _ ?_ q2 (fun _ => ?_)
      · show (r.2.1 ++ ((sub (r.1 + 1)).2.1 ++ [-(nxt by_ n r.1)])).length + a0 ≤ (sub (r.1 + 1)).1
        rw [List.length_append, List.length_append]
        show r.2.1.length + ((sub (r.1 + 1)).2.1.length + 1) + a0 ≤ _
        omega
      · show a0 < (sub (r.1 + 1)).1
        omega
    · rw [if_neg c]
      exact ⟨h1, h2, h3⟩
theorem LP_parts {one : Nat → xPR} (h : LPr n one) : ∀ j, j ≤ 5 → LPr n (prt by_ n one j)
  | 0, _ => h
  | j + 1, hj => fun a ha => by
    obtain ⟨q1, q2, q3⟩ := LP_parts h j (by omega) a ha
    unfold prt
    exact LP_L (by omega) (LP_parts h j (by omega)) a _ _ q1 q2 q3
theorem LP_sg (hu : u < 2) : ∀ o, LPr n (sg by_ n u o)
  | 0 => by
    show LPr n (sgl by_ n u false (fun a => (a, [], true)) (fun a => (a, [], true)))
    exact LP_single hu (fun e => absurd e (by decide)) (fun e => absurd e (by decide))
  | o + 1 => by
    show LPr n (sgl by_ n u true (sg by_ n u o) (prt by_ n (sg by_ n u o) 5))
    exact LP_single hu (fun _ => LP_sg hu o) (fun _ => LP_parts (LP_sg hu o) 5 (Nat.le_refl _))
end LPs
/-! signs -/
theorem enc_sg {s : Int32} (h : isOp s) : enc (-s) = (s, 0) := by
  obtain ⟨s1, s2, s3⟩ := op_neg h
  rw [enc_op s1 s2, s3]
theorem bnd_4 {s : Int32} : bnd s = nI 4 ↔ (s = 42 ∨ s = 47 ∨ s = 37) := by
  constructor
  · intro h
    rcases bnd_op (by decide) h with rfl | rfl | rfl | rfl | rfl | rfl | rfl | rfl | rfl | rfl <;> revert h <;> decide
  · rintro (rfl | rfl | rfl) <;> decide
theorem bnd_3 {s : Int32} : bnd s = nI 3 ↔ (s = 43 ∨ s = 45) := by
  constructor
  · intro h
    rcases bnd_op (by decide) h with rfl | rfl | rfl | rfl | rfl | rfl | rfl | rfl | rfl | rfl <;> revert h <;> decide
  · rintro (rfl | rfl) <;> decide
theorem bnd_2 {s : Int32} : bnd s = nI 2 ↔ (s = 60 ∨ s = 61 ∨ s = 62) := by
  constructor
  · intro h
    rcases bnd_op (by decide) h with rfl | rfl | rfl | rfl | rfl | rfl | rfl | rfl | rfl | rfl <;> revert h <;> decide
  · rintro (rfl | rfl | rfl) <;> decide
theorem bnd_1 {s : Int32} : bnd s = nI 1 ↔ s = 38 := by
  constructor
  · intro h
    rcases bnd_op (by decide) h with rfl | rfl | rfl | rfl | rfl | rfl | rfl | rfl | rfl | rfl <;> revert h <;> decide
  · rintro rfl
    decide
theorem bnd_0 {s : Int32} : bnd s = nI 0 ↔ s = 124 := by
  constructor
  · intro h
    rcases bnd_op (by decide) h with rfl | rfl | rfl | rfl | rfl | rfl | rfl | rfl | rfl | rfl <;> revert h <;> decide
  · rintro rfl
    decide
theorem xsw_d {d : Nat} {s : Int32} : ∀ (l : List (Nat × Nat)), (∀ q, q ∈ l → s = Int32.ofNat q.1 → q.2 = d) → xsw l d s = d
  | [], _ => rfl
  | (k, t) :: l, h => by
    unfold xsw
    by_cases e : s = Int32.ofNat k
    · rw [if_pos e]
      exact h (k, t) List.mem_cons_self e
    · rw [if_neg e]
      exact xsw_d l (fun q hq => h q (List.mem_cons_of_mem _ hq))
/-- the reader's state -/
def PM (S : xS) (n u o : Nat) (M : xS) (C : List Int32) (a : Nat) (f : Bool) : Prop :=
  RS (M.1 0) S ∧ (∃ l : Nat, l ≤ 60 ∧ M.2 1 = nI l ∧ (f = false → l = C.length ∧ C.length ≤ a ∧ ∀ j, j < C.length → M.1 7 j = (enc (C.getD j 0)).1 ∧ M.1 8 j = (enc (C.getD j 0)).2)) ∧
  M.2 2 = nI a ∧ M.2 3 = nI o ∧ M.2 4 = (if f = true then 1 else 0) ∧ M.2 5 = nI u ∧ a ≤ n
/-- what only the reader writes -/
def SR (M N : xS) : Prop := (∀ a, a ≠ 7 → a ≠ 8 → N.1 a = M.1 a) ∧ ∀ a, a ≠ 1 → a ≠ 2 → a ≠ 3 → a ≠ 4 → N.2 a = M.2 a
theorem SR.rfl' (M : xS) : SR M M := ⟨fun _ _ _ => rfl, fun _ _ _ _ _ => rfl⟩
theorem SR.trans {M N P : xS} (h : SR M N) (g : SR N P) : SR M P := ⟨fun a h1 h2 => (g.1 a h1 h2).trans (h.1 a h1 h2), fun a h1 h2 h3 h4 => (g.2 a h1 h2 h3 h4).trans (h.2 a h1 h2 h3 h4)⟩
theorem SR.u2' (M : xS) (x : Int32) : SR M (M.1, u1 M.2 2 x) := ⟨fun _ _ _ => rfl, fun _ _ h _ _ => u1q h⟩
theorem SR.u3' (M : xS) (x : Int32) : SR M (M.1, u1 M.2 3 x) := ⟨fun _ _ _ => rfl, fun _ _ _ h _ => u1q h⟩
theorem SR.u4' (M : xS) (x : Int32) : SR M (M.1, u1 M.2 4 x) := ⟨fun _ _ _ => rfl, fun _ _ _ _ h => u1q h⟩
theorem SR.rm {M N R S K : xS} (h : SR M N) (g : RM M R S K) : RM N R S K := by
  obtain ⟨h1, h2⟩ := h
  obtain ⟨a, b, c, d, e, f, i, j, k⟩ := g
  refine ⟨?_, ?_, ?_, ?_, ?_, ?_, ?_, ?_, ?_⟩
  · rw [h1 0 (by decide) (by decide)]; exact a
  · rw [h1 1 (by decide) (by decide)]; exact b
  · rw [h1 3 (by decide) (by decide)]; exact c
  · rw [h1 4 (by decide) (by decide)]; exact d
  · rw [h1 5 (by decide) (by decide)]; exact e
  · rw [h1 6 (by decide) (by decide)]; exact f
  · rw [h2 0 (by decide) (by decide) (by decide) (by decide)]; exact i
  · rw [h2 6 (by decide) (by decide) (by decide) (by decide)]; exact j
  · rw [h1 12 (by decide) (by decide)]; exact k
section MReader
variable {X : xX} {d : Nat} {σ : xW} {S : xS} {n u o : Nat}
theorem PM.at1 {M : xS} {C : List Int32} {a : Nat} {f : Bool} (h : PM S n u o M C a f) (ha : a < n) : PM S n u o (M.1, u1 M.2 2 (nI (a + 1))) C (a + 1) f := by
  obtain ⟨h1, ⟨l, h2, h3, h4⟩, h5, h6, h7, h8, h9⟩ := h
  exact ⟨h1, ⟨l, h2, h3, fun e => ⟨(h4 e).1, by have := (h4 e).2.1; omega, (h4 e).2.2⟩⟩, rfl, h6, h7, h8, by omega⟩
theorem PM.bad {M : xS} {C : List Int32} {a : Nat} {f : Bool} (h : PM S n u o M C a f) (C' : List Int32) : PM S n u o (M.1, u1 M.2 4 1) C' a true := by
  obtain ⟨h1, ⟨l, h2, h3, h4⟩, h5, h6, h7, h8, h9⟩ := h
  exact ⟨h1, ⟨l, h2, h3, fun e => absurd e (by decide)⟩, h5, h6, rfl, h8, h9⟩
theorem PM.good {M : xS} {C : List Int32} {a : Nat} (h : PM S n u o M C a false) : PM S n u o (M.1, u1 M.2 4 0) C a false := by
  obtain ⟨h1, ⟨l, h2, h3, h4⟩, h5, h6, h7, h8, h9⟩ := h
  exact ⟨h1, ⟨l, h2, h3, h4⟩, h5, h6, rfl, h8, h9⟩
theorem PM.op {M : xS} {C : List Int32} {a : Nat} {f : Bool} (h : PM S n u o M C a f) (o' : Nat) : PM S n u o' (M.1, u1 M.2 3 (nI o')) C a f := by
  obtain ⟨h1, ⟨l, h2, h3, h4⟩, h5, h6, h7, h8, h9⟩ := h
  exact ⟨h1, ⟨l, h2, h3, h4⟩, h5, rfl, h7, h8, h9⟩
theorem PM.any {M : xS} {C : List Int32} {a : Nat} (h : PM S n u o M C a true) (C' : List Int32) : PM S n u o M C' a true := by
  obtain ⟨h1, ⟨l, h2, h3, h4⟩, h5, h6, h7, h8, h9⟩ := h
  exact ⟨h1, ⟨l, h2, h3, fun e => absurd e (by decide)⟩, h5, h6, h7, h8, h9⟩
theorem c_M_look (hn : S.2 1 = nI n) (hn2 : n ≤ 60) {M : xS} {C : List Int32} {a : Nat} {f : Bool} (h : PM S n u o M C a f) : xcall X (d + 1) j_M_look [.ref (sh 4 0)] (ub σ 4 (mdC M)) = some (some (.int (nxt (tby S) n a)), ub σ 4 (mdC M)) := by
  obtain ⟨h1, -, h5, -, -, -, h9⟩ := h
  have hfd : M.1 0 4 = nI n := h1.fd.trans hn
  rw [e_M_look]
  simp only [s_M_look_0, s_M_look_4, s_M_look_8, s_M_look_10, Option.bind_some, Option.bind_none, Option.toList_some, Option.toList_none, List.cons_append, List.nil_append, List.append_nil, mv_0, mg_0_0, mg_0_1, mg_0_2, mg_0_3, mg_0_4, mg_0_5, mg_0_6, mg_0_7, mg_0_8, mg_0_9, mg_0_10, mg_0_11, mg_0_12, mg_0_13, mg_0_14, mg_0_15, mg_0_16, mg_0_17, mg_0_18, mg_0_19, mg_0_20, h5, mrc_4, hfd]
  unfold nxt
  by_cases ha : a < n
  · have g1 : ¬ nI n ≤ nI a := fun e => absurd ((nI_le_iff (by omega) (by omega)).mp e) (by omega)
    have e : (102 : Int32) + nI a = nI (102 + a) := nI_add 102 a
    have hq : 102 + a < 428 := by omega
    rw [if_neg g1, if_pos ha]
    simp only [s_M_look_13, s_M_look_17, s_M_look_23, s_M_look_25, s_M_look_29, Option.bind_some, Option.bind_none, Option.toList_some, Option.toList_none, List.cons_append, List.nil_append, List.append_nil, mv_0, mg_0_0, mg_0_1, mg_0_2, mg_0_3, mg_0_4, mg_0_5, mg_0_6, mg_0_7, mg_0_8, mg_0_9, mg_0_10, mg_0_11, mg_0_12, mg_0_13, mg_0_14, mg_0_15, mg_0_16, mg_0_17, mg_0_18, mg_0_19, mg_0_20, h5, e, mr1 hq, h1.tp a (by omega)]
    rfl
  · have g1 : nI n ≤ nI a := (nI_le_iff (by omega) (by omega)).mpr (by omega)
    rw [if_pos g1, if_neg ha, s_M_look_28, s_M_look_29]
theorem c_M_nameOf (hu : u < 2) {M : xS} (h5 : M.2 5 = nI u) (s : Int32) : xcall X (d + 1) j_M_nameOf [.ref (sh 4 0), .int s] (ub σ 4 (mdC M)) = some (some (.int (nam u s)), ub σ 4 (mdC M)) := by
  have u0 : nI u = 0 ↔ u = 0 := nI_inj (b := 0) (by omega) (by omega)
  have u1' : nI u = 1 ↔ u = 1 := nI_inj (b := 1) (by omega) (by omega)
  rw [e_M_nameOf, s_M_nameOf_0]
  by_cases c103 : s = 103
  · rw [c103, show xsw [(99, 121), (100, 121), (101, 155), (102, 155), (103, 88), (104, 155), (105, 155), (106, 155), (107, 155), (108, 121), (109, 155), (110, 155), (111, 155), (112, 155), (113, 155), (114, 155), (115, 88), (116, 88)] 155 (103 : Int32) = 88 from by decide +kernel]
    simp only [s_M_nameOf_88, s_M_nameOf_92, Option.bind_some, Option.bind_none, Option.toList_some, Option.toList_none, List.cons_append, List.nil_append, List.append_nil, mv_0, mg_0_0, mg_0_1, mg_0_2, mg_0_3, mg_0_4, mg_0_5, mg_0_6, mg_0_7, mg_0_8, mg_0_9, mg_0_10, mg_0_11, mg_0_12, mg_0_13, mg_0_14, mg_0_15, mg_0_16, mg_0_17, mg_0_18, mg_0_19, mg_0_20, h5, u0]
    obtain rfl | rfl : u = 0 ∨ u = 1 := by omega
    · rw [if_pos rfl]
      have z1 : ¬ (116 : Int32) = 103 := by decide
      have z2 : ¬ (115 : Int32) = 103 := by decide
      have z3 : ¬ (115 : Int32) = 116 := by decide
      simp only [s_M_nameOf_99, s_M_nameOf_105, s_M_nameOf_109, s_M_nameOf_115, s_M_nameOf_119, s_M_nameOf_120, if_neg z1, if_neg z2, if_neg z3, if_true]
      rfl
    · rw [if_neg (by decide), s_M_nameOf_95, s_M_nameOf_120]
      rfl
  by_cases c116 : s = 116
  · rw [c116, show xsw [(99, 121), (100, 121), (101, 155), (102, 155), (103, 88), (104, 155), (105, 155), (106, 155), (107, 155), (108, 121), (109, 155), (110, 155), (111, 155), (112, 155), (113, 155), (114, 155), (115, 88), (116, 88)] 155 (116 : Int32) = 88 from by decide +kernel]
    simp only [s_M_nameOf_88, s_M_nameOf_92, Option.bind_some, Option.bind_none, Option.toList_some, Option.toList_none, List.cons_append, List.nil_append, List.append_nil, mv_0, mg_0_0, mg_0_1, mg_0_2, mg_0_3, mg_0_4, mg_0_5, mg_0_6, mg_0_7, mg_0_8, mg_0_9, mg_0_10, mg_0_11, mg_0_12, mg_0_13, mg_0_14, mg_0_15, mg_0_16, mg_0_17, mg_0_18, mg_0_19, mg_0_20, h5, u0]
    obtain rfl | rfl : u = 0 ∨ u = 1 := by omega
    · rw [if_pos rfl]
      have z1 : ¬ (116 : Int32) = 103 := by decide
      have z2 : ¬ (115 : Int32) = 103 := by decide
      have z3 : ¬ (115 : Int32) = 116 := by decide
      simp only [s_M_nameOf_99, s_M_nameOf_105, s_M_nameOf_109, s_M_nameOf_115, s_M_nameOf_119, s_M_nameOf_120, if_neg z1, if_neg z2, if_neg z3, if_true]
      rfl
    · rw [if_neg (by decide), s_M_nameOf_95, s_M_nameOf_120]
      rfl
  by_cases c115 : s = 115
  · rw [c115, show xsw [(99, 121), (100, 121), (101, 155), (102, 155), (103, 88), (104, 155), (105, 155), (106, 155), (107, 155), (108, 121), (109, 155), (110, 155), (111, 155), (112, 155), (113, 155), (114, 155), (115, 88), (116, 88)] 155 (115 : Int32) = 88 from by decide +kernel]
    simp only [s_M_nameOf_88, s_M_nameOf_92, Option.bind_some, Option.bind_none, Option.toList_some, Option.toList_none, List.cons_append, List.nil_append, List.append_nil, mv_0, mg_0_0, mg_0_1, mg_0_2, mg_0_3, mg_0_4, mg_0_5, mg_0_6, mg_0_7, mg_0_8, mg_0_9, mg_0_10, mg_0_11, mg_0_12, mg_0_13, mg_0_14, mg_0_15, mg_0_16, mg_0_17, mg_0_18, mg_0_19, mg_0_20, h5, u0]
    obtain rfl | rfl : u = 0 ∨ u = 1 := by omega
    · rw [if_pos rfl]
      have z1 : ¬ (116 : Int32) = 103 := by decide
      have z2 : ¬ (115 : Int32) = 103 := by decide
      have z3 : ¬ (115 : Int32) = 116 := by decide
      simp only [s_M_nameOf_99, s_M_nameOf_105, s_M_nameOf_109, s_M_nameOf_115, s_M_nameOf_119, s_M_nameOf_120, if_neg z1, if_neg z2, if_neg z3, if_true]
      rfl
    · rw [if_neg (by decide), s_M_nameOf_95, s_M_nameOf_120]
      rfl
  by_cases c99 : s = 99
  · rw [c99, show xsw [(99, 121), (100, 121), (101, 155), (102, 155), (103, 88), (104, 155), (105, 155), (106, 155), (107, 155), (108, 121), (109, 155), (110, 155), (111, 155), (112, 155), (113, 155), (114, 155), (115, 88), (116, 88)] 155 (99 : Int32) = 121 from by decide +kernel]
    simp only [s_M_nameOf_121, s_M_nameOf_125, Option.bind_some, Option.bind_none, Option.toList_some, Option.toList_none, List.cons_append, List.nil_append, List.append_nil, mv_0, mg_0_0, mg_0_1, mg_0_2, mg_0_3, mg_0_4, mg_0_5, mg_0_6, mg_0_7, mg_0_8, mg_0_9, mg_0_10, mg_0_11, mg_0_12, mg_0_13, mg_0_14, mg_0_15, mg_0_16, mg_0_17, mg_0_18, mg_0_19, mg_0_20, h5, u1']
    obtain rfl | rfl : u = 0 ∨ u = 1 := by omega
    · rw [if_neg (by decide), s_M_nameOf_129, s_M_nameOf_154]
      rfl
    · rw [if_pos rfl]
      have z1 : ¬ (108 : Int32) = 99 := by decide
      have z2 : ¬ (100 : Int32) = 99 := by decide
      have z3 : ¬ (100 : Int32) = 108 := by decide
      simp only [s_M_nameOf_133, s_M_nameOf_139, s_M_nameOf_143, s_M_nameOf_149, s_M_nameOf_153, s_M_nameOf_154, if_neg z1, if_neg z2, if_neg z3, if_true]
      rfl
  by_cases c108 : s = 108
  · rw [c108, show xsw [(99, 121), (100, 121), (101, 155), (102, 155), (103, 88), (104, 155), (105, 155), (106, 155), (107, 155), (108, 121), (109, 155), (110, 155), (111, 155), (112, 155), (113, 155), (114, 155), (115, 88), (116, 88)] 155 (108 : Int32) = 121 from by decide +kernel]
    simp only [s_M_nameOf_121, s_M_nameOf_125, Option.bind_some, Option.bind_none, Option.toList_some, Option.toList_none, List.cons_append, List.nil_append, List.append_nil, mv_0, mg_0_0, mg_0_1, mg_0_2, mg_0_3, mg_0_4, mg_0_5, mg_0_6, mg_0_7, mg_0_8, mg_0_9, mg_0_10, mg_0_11, mg_0_12, mg_0_13, mg_0_14, mg_0_15, mg_0_16, mg_0_17, mg_0_18, mg_0_19, mg_0_20, h5, u1']
    obtain rfl | rfl : u = 0 ∨ u = 1 := by omega
    · rw [if_neg (by decide), s_M_nameOf_129, s_M_nameOf_154]
      rfl
    · rw [if_pos rfl]
      have z1 : ¬ (108 : Int32) = 99 := by decide
      have z2 : ¬ (100 : Int32) = 99 := by decide
      have z3 : ¬ (100 : Int32) = 108 := by decide
      simp only [s_M_nameOf_133, s_M_nameOf_139, s_M_nameOf_143, s_M_nameOf_149, s_M_nameOf_153, s_M_nameOf_154, if_neg z1, if_neg z2, if_neg z3, if_true]
      rfl
  by_cases c100 : s = 100
  · rw [c100, show xsw [(99, 121), (100, 121), (101, 155), (102, 155), (103, 88), (104, 155), (105, 155), (106, 155), (107, 155), (108, 121), (109, 155), (110, 155), (111, 155), (112, 155), (113, 155), (114, 155), (115, 88), (116, 88)] 155 (100 : Int32) = 121 from by decide +kernel]
    simp only [s_M_nameOf_121, s_M_nameOf_125, Option.bind_some, Option.bind_none, Option.toList_some, Option.toList_none, List.cons_append, List.nil_append, List.append_nil, mv_0, mg_0_0, mg_0_1, mg_0_2, mg_0_3, mg_0_4, mg_0_5, mg_0_6, mg_0_7, mg_0_8, mg_0_9, mg_0_10, mg_0_11, mg_0_12, mg_0_13, mg_0_14, mg_0_15, mg_0_16, mg_0_17, mg_0_18, mg_0_19, mg_0_20, h5, u1']
    obtain rfl | rfl : u = 0 ∨ u = 1 := by omega
    · rw [if_neg (by decide), s_M_nameOf_129, s_M_nameOf_154]
      rfl
    · rw [if_pos rfl]
      have z1 : ¬ (108 : Int32) = 99 := by decide
      have z2 : ¬ (100 : Int32) = 99 := by decide
      have z3 : ¬ (100 : Int32) = 108 := by decide
      simp only [s_M_nameOf_133, s_M_nameOf_139, s_M_nameOf_143, s_M_nameOf_149, s_M_nameOf_153, s_M_nameOf_154, if_neg z1, if_neg z2, if_neg z3, if_true]
      rfl
  have e : xsw [(99, 121), (100, 121), (101, 155), (102, 155), (103, 88), (104, 155), (105, 155), (106, 155), (107, 155), (108, 121), (109, 155), (110, 155), (111, 155), (112, 155), (113, 155), (114, 155), (115, 88), (116, 88)] 155 s = 155 := by
    refine xsw_d _ ?_
    intro q hq hs
    simp only [List.mem_cons, List.not_mem_nil, or_false] at hq
    rcases hq with rfl | rfl | rfl | rfl | rfl | rfl | rfl | rfl | rfl | rfl | rfl | rfl | rfl | rfl | rfl | rfl | rfl | rfl
    all_goals first | rfl | exact absurd hs c103 | exact absurd hs c116 | exact absurd hs c115 | exact absurd hs c99 | exact absurd hs c108 | exact absurd hs c100
  rw [e, s_M_nameOf_155]
  unfold nam
  obtain rfl | rfl : u = 0 ∨ u = 1 := by omega
  · rw [if_neg (fun z => c103 z.symm), if_neg (fun z => c116 z.symm), if_neg (fun z => c115 z.symm)]
  · rw [if_neg (fun z => c99 z.symm), if_neg (fun z => c108 z.symm), if_neg (fun z => c100 z.symm)]
theorem c_M_lays (hn2 : n ≤ 60) {M : xS} {C : List Int32} {a : Nat} {f : Bool} (h : PM S n u o M C a f) (hl : f = false → C.length < a) {c w v : Int32} (he : enc c = (w, v)) : ∃ N : xS, PM S n u o N (C ++ [c]) a f ∧ SR M N ∧ xcall X (d + 1) j_M_lays [.ref (sh 4 0), .int w, .int v] (ub σ 4 (mdC M)) = some (none, ub σ 4 (mdC N)) := by
  obtain ⟨h1, ⟨l, h2, h3, h4⟩, h5, h6, h7, h8, h9⟩ := h
  rw [e_M_lays]
  by_cases h60 : l = 60
  · have g1 : Int32.ofNat 60 ≤ nI l := (nI_le_iff (a := 60) (by omega) (by omega)).mpr (by omega)
    refine ⟨M, ⟨h1, ⟨l, h2, h3, fun e => ?_⟩, h5, h6, h7, h8, h9⟩, SR.rfl' M, ?_⟩
    · have := h4 e
      have := hl e
      omega
    · simp only [s_M_lays_0, s_M_lays_4, s_M_lays_8, s_M_lays_9, Option.bind_some, Option.bind_none, Option.toList_some, Option.toList_none, List.cons_append, List.nil_append, List.append_nil, mv_0, mg_0_0, mg_0_1, mg_0_2, mg_0_3, mg_0_4, mg_0_5, mg_0_6, mg_0_7, mg_0_8, mg_0_9, mg_0_10, mg_0_11, mg_0_12, mg_0_13, mg_0_14, mg_0_15, mg_0_16, mg_0_17, mg_0_18, mg_0_19, mg_0_20, h3, ml_8, if_pos g1, s_M_lays_42]
  · have g1 : ¬ Int32.ofNat 60 ≤ nI l := fun e => absurd ((nI_le_iff (a := 60) (b := l) (by omega) (by omega)).mp e) (by omega)
    have hl6 : l < 60 := by omega
    refine ⟨(u2 (u2 M.1 7 (upd (M.1 7) l w)) 8 (upd (M.1 8) l v), u1 M.2 1 (nI (l + 1))), ⟨h1, ⟨l + 1, by omega, rfl, fun e => ?_⟩, h5, h6, h7, h8, h9⟩, ⟨fun b h7 h8 => (u2q h8).trans (u2q h7), fun b h1 _ _ _ => u1q h1⟩, ?_⟩
    · obtain ⟨q1, q2, q3⟩ := h4 e
      have q4 := hl e
      rw [List.length_append]
      refine ⟨by show l + 1 = C.length + 1; omega, by show C.length + 1 ≤ a; omega, fun j hj => ?_⟩
      have hj : j < C.length + 1 := hj
      show upd (M.1 7) l w j = _ ∧ upd (M.1 8) l v j = _
      by_cases e : j = C.length
      · rw [e, ← q1, upk, upk, q1, List.getD_eq_getElem?_getD, List.getElem?_append_right (Nat.le_refl _), Nat.sub_self]
        show w = (enc c).1 ∧ v = (enc c).2
        rw [he]
        exact ⟨rfl, rfl⟩
      · have hlt : j < C.length := by omega
        have eg : (C ++ [c]).getD j 0 = C.getD j 0 := by rw [List.getD_eq_getElem?_getD, List.getD_eq_getElem?_getD, List.getElem?_append_left hlt]
        rw [upq (by omega), upq (by omega), eg]
        exact q3 j hlt
    · have w1 : xwr (ub σ 4 (mdC M)) [0] (sh 4 8) (nI l) w = some (ub σ 4 (mdC (u2 M.1 7 (upd (M.1 7) l w), M.2))) := mw_8 hl6
      have w2 : xwr (ub σ 4 (mdC (u2 M.1 7 (upd (M.1 7) l w), M.2))) [0] (sh 4 9) (nI l) v = some (ub σ 4 (mdC (u2 (u2 M.1 7 (upd (M.1 7) l w)) 8 (upd (M.1 8) l v), M.2))) := mw_9 hl6
      simp only [s_M_lays_0, s_M_lays_4, s_M_lays_8, s_M_lays_9, Option.bind_some, Option.bind_none, Option.toList_some, Option.toList_none, List.cons_append, List.nil_append, List.append_nil, mv_0, mg_0_0, mg_0_1, mg_0_2, mg_0_3, mg_0_4, mg_0_5, mg_0_6, mg_0_7, mg_0_8, mg_0_9, mg_0_10, mg_0_11, mg_0_12, mg_0_13, mg_0_14, mg_0_15, mg_0_16, mg_0_17, mg_0_18, mg_0_19, mg_0_20, h3, ml_8, if_neg g1, s_M_lays_12, s_M_lays_16, s_M_lays_20, w1, s_M_lays_22, s_M_lays_26, s_M_lays_30, w2, s_M_lays_32, s_M_lays_37, mp_0_12, s_M_lays_42, nI_add1]
theorem l_M_num (hn : S.2 1 = nI n) (hn2 : n ≤ 60) : ∀ (k i : Nat) (v : Int32) (M : xS) (C : List Int32) (a : Nat), i + k = 4 → PM S n u o M C a false → ∃ N : xS, PM S n u o N C (nmL (tby S) n k a v).1 false ∧ SR M N ∧
    xrun (X, xcall X (d + 1)) j_M_number 4 [.ref (sh 4 0), .int v, .int (nI i)] [] (ub σ 4 (mdC M)) = xrun (X, xcall X (d + 1)) j_M_number 52 [.ref (sh 4 0), .int (nmL (tby S) n k a v).2, .int (nI (i + ((nmL (tby S) n k a v).1 - a)))] [] (ub σ 4 (mdC N)) := by
  intro k
  induction k with
  | zero =>
    intro i v M C a hi h
    have h4 : (4 : Int32) ≤ nI i := (nI_le_iff (a := 4) (b := i) (by omega) (by omega)).mpr (by omega)
    refine ⟨M, h, SR.rfl' M, ?_⟩
    rw [s_M_number_4, if_pos h4]
    unfold nmL
    rw [Nat.sub_self]
    rfl
  | succ k ih =>
    intro i v M C a hi h
    have h4 : ¬ (4 : Int32) ≤ nI i := fun e => absurd ((nI_le_iff (a := 4) (b := i) (by omega) (by omega)).mp e) (by omega)
    have h2 : M.2 2 = nI a := h.2.2.1
    rw [s_M_number_4, if_neg h4]
    unfold nmL
    simp only [s_M_number_9, s_M_number_13, s_M_number_20, Option.bind_some, Option.bind_none, Option.toList_some, Option.toList_none, List.cons_append, List.nil_append, List.append_nil, mv_0, c_M_look hn hn2 h, c_M_in, z1_0]
    by_cases hd : isD (nxt (tby S) n a)
    · have hd' : 48 ≤ nxt (tby S) n a ∧ nxt (tby S) n a ≤ 57 := hd
      simp only [if_neg (not_not_intro hd'), if_pos hd]
      have hP := h.at1 (isD_lt hd)
      obtain ⟨N, hN, hS, hx⟩ := ih (i + 1) (v * 10 + nxt (tby S) n a - 48) _ C (a + 1) (by omega) hP
      have hge := (nmL_at (by_ := tby S) (n := n) k (a + 1) (v * 10 + nxt (tby S) n a - 48)).1
      refine ⟨N, hN, SR.trans (SR.u2' M _) hS, ?_⟩
      have em : (10 : Int32) * v = v * 10 := Int32.mul_comm _ _
      rw [show i + ((nmL (tby S) n k (a + 1) (v * 10 + nxt (tby S) n a - 48)).1 - a) = i + 1 + ((nmL (tby S) n k (a + 1) (v * 10 + nxt (tby S) n a - 48)).1 - (a + 1)) by omega, ← hx]
      simp only [s_M_number_23, s_M_number_31, s_M_number_41, s_M_number_46, Option.bind_some, Option.bind_none, Option.toList_some, Option.toList_none, List.cons_append, List.nil_append, List.append_nil, mv_0, c_M_look hn hn2 h, mv_0, mg_0_0, mg_0_1, mg_0_2, mg_0_3, mg_0_4, mg_0_5, mg_0_6, mg_0_7, mg_0_8, mg_0_9, mg_0_10, mg_0_11, mg_0_12, mg_0_13, mg_0_14, mg_0_15, mg_0_16, mg_0_17, mg_0_18, mg_0_19, mg_0_20, h2, mp_0_13, nI_add1, em]
    · have hd' : ¬ (48 ≤ nxt (tby S) n a ∧ nxt (tby S) n a ≤ 57) := hd
      simp only [if_pos hd', if_neg hd]
      refine ⟨M, h, SR.rfl' M, ?_⟩
      rw [Nat.sub_self]
      rfl
/-- what a reading part of the model does -/
def RDM (X : xX) (σ : xW) (S : xS) (n u o d j : Nat) (p : Nat → xPR) : Prop := ∀ (M : xS) (C : List Int32) (a : Nat), PM S n u o M C a false → ∃ N : xS, PM S n u o N (C ++ (p a).2.1) (p a).1 (p a).2.2 ∧ SR M N ∧ xcall X d j [.ref (sh 4 0)] (ub σ 4 (mdC M)) = some (none, ub σ 4 (mdC N))
theorem enc_num {a : Nat} (h : isD (nxt (tby S) n a)) : enc (nmL (tby S) n 4 a 0).2 = (1, (nmL (tby S) n 4 a 0).2) := by
  obtain ⟨w, hw, hw2⟩ := nmL_nn (by_ := tby S) (n := n) 4 a 0 (by decide)
  have hw' : (nmL (tby S) n 4 a 0).2 = nI w := hw
  rw [hw']
  exact if_pos (nI_pos' (by omega))
theorem c_M_number (hn : S.2 1 = nI n) (hn2 : n ≤ 60) {M : xS} {C : List Int32} {a : Nat} (h : PM S n u o M C a false) : ∃ N : xS, PM S n u o N (C ++ (if isD (nxt (tby S) n a) then [(nmL (tby S) n 4 a 0).2] else [])) (nmL (tby S) n 4 a 0).1 (if isD (nxt (tby S) n a) then false else true) ∧ SR M N ∧
    xcall X (d + 2) j_M_number [.ref (sh 4 0)] (ub σ 4 (mdC M)) = some (none, ub σ 4 (mdC N)) := by
  obtain ⟨N, hN, hS, hx⟩ := l_M_num (X := X) (d := d) (σ := σ) hn hn2 4 0 0 M C a (by omega) h
  have hx' : xrun (X, xcall X (d + 1)) j_M_number 4 [.ref (sh 4 0), .int (0 : Int32), .int (0 : Int32)] [] (ub σ 4 (mdC M)) = _ := hx
  have hCa : C.length ≤ a := by
    obtain ⟨-, ⟨l, -, -, h4⟩, -⟩ := h
    exact (h4 rfl).2.1
  have hb : ∀ x : Int32, xpf (ub σ 4 (mdC N)) (sh 4 0) 5 15 x = some (ub σ 4 (mdC (N.1, u1 N.2 4 x))) := fun x => mp_0_15 x
  rw [e_M_number, s_M_number_0, hx']
  by_cases hd : isD (nxt (tby S) n a)
  · have hp : a + 1 ≤ (nmL (tby S) n 4 a 0).1 := nmL_pos (k := 3) hd
    have hq := (nmL_at (by_ := tby S) (n := n) 4 a 0).2 h.2.2.2.2.2.2
    have z : ¬ nI (0 + ((nmL (tby S) n 4 a 0).1 - a)) = 0 := nI_ne0 (by omega) (by omega)
    rw [if_pos hd, if_pos hd]
    obtain ⟨P, hP, gS, hy⟩ := c_M_lays (X := X) (d := d) (σ := σ) hn2 hN.good (fun _ => by omega) (enc_num hd)
    refine ⟨P, hP, SR.trans hS (SR.trans (SR.u4' N 0) gS), ?_⟩
    rw [s_M_number_52, if_neg z, s_M_number_61, s_M_number_62, if_pos xz0, hb]
    simp only [Option.bind_some, Option.bind_none, Option.toList_some, Option.toList_none, List.cons_append, List.nil_append, List.append_nil, s_M_number_65, mv_0, hy, s_M_number_71]
  · have e1 : nmL (tby S) n 4 a 0 = (a, 0) := by
      unfold nmL
      rw [if_neg hd]
    rw [e1] at hN hx' ⊢
    have z : nI (0 + (a - a)) = 0 := by rw [Nat.sub_self]; rfl
    rw [if_neg hd, if_neg hd]
    have hPb := hN.bad (C ++ [])
    obtain ⟨P, hP, gS, hy⟩ := c_M_lays (X := X) (d := d) (σ := σ) hn2 hPb (fun e => absurd e (by decide)) (show enc (0 : Int32) = (1, 0) from by decide)
    refine ⟨P, hP.any _, SR.trans hS (SR.trans (SR.u4' N 1) gS), ?_⟩
    have z' : nI (0 + ((a, (0 : Int32)).1 - a)) = 0 := z
    rw [s_M_number_52, if_pos z', s_M_number_57, s_M_number_62, if_pos xz1, hb]
    simp only [Option.bind_some, Option.bind_none, Option.toList_some, Option.toList_none, List.cons_append, List.nil_append, List.append_nil, s_M_number_65, mv_0, hy, s_M_number_71]
theorem PM.ln {M : xS} {C : List Int32} {a : Nat} {f : Bool} (h : PM S n u o M C a f) : f = false → C.length ≤ a := by
  obtain ⟨-, ⟨l, -, -, h4⟩, -⟩ := h
  exact fun e => (h4 e).2.1
theorem nam_neg {s : Int32} (h : nam u s < 0) : nam u s = -1 := by
  rcases nam_rng (u := u) s with e | e | e | e
  · exact e
  all_goals rw [e] at h; exact absurd h (by decide)
theorem enc_nm {s : Int32} (h : 0 ≤ nam u s) : enc (-1 - nam u s) = (2, nam u s) := by
  rcases nam_rng (u := u) s with e | e | e | e
  · rw [e] at h; exact absurd h (by decide)
  all_goals rw [e]; decide
theorem c_M_one (hn : S.2 1 = nI n) (hn2 : n ≤ 60) (hu : u < 2) (ho5 : o ≤ 5) {deep : Bool} {one parts : Nat → xPR} (ho : deep = true ↔ ¬ o = 5)
    (h1 : deep = true → RDM X σ S n u (o + 1) (d + 2) j_M_one one ∧ LPr n one) (h2 : deep = true → RDM X σ S n u (o + 1) (d + 2) j_M_any parts ∧ LPr n parts) : RDM X σ S n u o (d + 4) j_M_one (sgl (tby S) n u deep one parts) := by
  intro M C a h
  have h5 : M.2 5 = nI u := h.2.2.2.2.2.1
  have h22 : M.2 2 = nI a := h.2.2.1
  have h23 : M.2 3 = nI o := h.2.2.2.1
  have hCa := h.ln rfl
  have q5 : nI o = 5 ↔ o = 5 := nI_inj (b := 5) (by omega) (by omega)
  rw [e_M_one]
  simp only [s_M_one_0, s_M_one_4, s_M_one_10, Option.bind_some, Option.bind_none, Option.toList_some, Option.toList_none, List.cons_append, List.nil_append, List.append_nil, mv_0, c_M_look hn hn2 h, c_M_nameOf hu h5]
  unfold sgl
  by_cases c2 : 0 ≤ nam u (nxt (tby S) n a)
  · have g := nam_let hu c2
    have hlt := nxt_lt g.2.2.2
    rw [if_neg (i32_nlt.mpr c2), if_neg g.1, if_pos c2]
    obtain ⟨N, hN, hS, hx⟩ := c_M_lays (X := X) (d := d + 2) (σ := σ) hn2 (h.at1 hlt) (fun _ => by omega) (enc_nm c2)
    refine ⟨N, hN, SR.trans (SR.u2' M _) hS, ?_⟩
    simp only [s_M_one_15, s_M_one_20, s_M_one_25, s_M_one_31, s_M_one_58, Option.bind_some, Option.bind_none, Option.toList_some, Option.toList_none, List.cons_append, List.nil_append, List.append_nil, mv_0, mg_0_0, mg_0_1, mg_0_2, mg_0_3, mg_0_4, mg_0_5, mg_0_6, mg_0_7, mg_0_8, mg_0_9, mg_0_10, mg_0_11, mg_0_12, mg_0_13, mg_0_14, mg_0_15, mg_0_16, mg_0_17, mg_0_18, mg_0_19, mg_0_20, h22, mp_0_13, nI_add1, hx]
  rw [if_pos (i32_nle.mp c2), if_neg c2]
  by_cases c1 : isD (nxt (tby S) n a)
  · have d33 : ¬ nxt (tby S) n a = 33 := fun e => by rw [e] at c1; exact absurd c1 (by decide)
    have d40 : ¬ nxt (tby S) n a = 40 := fun e => by rw [e] at c1; exact absurd c1 (by decide)
    obtain ⟨N, hN, hS, hx⟩ := c_M_number (X := X) (d := d + 1) (σ := σ) hn hn2 h
    rw [if_pos c1, if_pos c1] at hN
    rw [if_pos c1]
    refine ⟨N, hN, hS, ?_⟩
    rw [s_M_one_34, if_neg d33, s_M_one_40, if_neg d40]
    simp only [s_M_one_54, s_M_one_58, Option.bind_some, Option.bind_none, Option.toList_some, Option.toList_none, List.cons_append, List.nil_append, List.append_nil, mv_0, hx]
  rw [if_neg c1]
  by_cases c33 : nxt (tby S) n a = 33 ∨ nxt (tby S) n a = 40
  · have to46 : ∀ l2 : Int32, (xrun (X, xcall X (d + 3)) j_M_one 34 [.ref (sh 4 0), .int (nxt (tby S) n a), .int l2] [] (ub σ 4 (mdC M))) = xrun (X, xcall X (d + 3)) j_M_one 46 [.ref (sh 4 0), .int (nxt (tby S) n a), .int l2] [] (ub σ 4 (mdC M)) := by
      intro l2
      rw [s_M_one_34]
      by_cases e : nxt (tby S) n a = 33
      · rw [if_pos e]
      · rw [if_neg e, s_M_one_40, if_pos (c33.resolve_left e)]
    rw [to46]
    have hlt : a < n := nxt_lt (by rcases c33 with e | e <;> rw [e] <;> decide)
    cases hdp : deep with
    | false =>
      have ho' : o = 5 := by
        by_cases e : o = 5
        · exact e
        · rw [hdp] at ho
          exact absurd (ho.mpr e) (by decide)
      rw [if_neg (fun e => absurd e.2 (by decide)), if_neg (fun e => absurd e.2 (by decide))]
      have hb : xcall X (d + 3) j_M_opens [.ref (sh 4 0), .int (nxt (tby S) n a)] (ub σ 4 (mdC M)) = some (none, ub σ 4 (mdC (M.1, u1 M.2 4 1))) := by
        rw [e_M_opens]
        simp only [s_M_opens_0, s_M_opens_4, Option.bind_some, Option.bind_none, Option.toList_some, Option.toList_none, List.cons_append, List.nil_append, List.append_nil, mv_0, mg_0_0, mg_0_1, mg_0_2, mg_0_3, mg_0_4, mg_0_5, mg_0_6, mg_0_7, mg_0_8, mg_0_9, mg_0_10, mg_0_11, mg_0_12, mg_0_13, mg_0_14, mg_0_15, mg_0_16, mg_0_17, mg_0_18, mg_0_19, mg_0_20, h23, if_pos (q5.mpr ho'), s_M_opens_8, mp_0_15, s_M_opens_13]
      refine ⟨(M.1, u1 M.2 4 1), h.bad _, SR.u4' M 1, ?_⟩
      simp only [s_M_one_46, s_M_one_51, s_M_one_58, Option.bind_some, Option.bind_none, Option.toList_some, Option.toList_none, List.cons_append, List.nil_append, List.append_nil, mv_0, hb]
    | true =>
      have ho' : ¬ o = 5 := ho.mp hdp
      obtain ⟨r1, l1⟩ := h1 hdp
      obtain ⟨r2, l2⟩ := h2 hdp
      have hO := (h.op (o + 1)).at1 hlt
      have e12 : (u1 (u1 M.2 3 (nI (o + 1))) 2 (nI (a + 1))) = u1 (u1 M.2 3 (nI (o + 1))) 2 (nI (a + 1)) := rfl
      have hSO : SR M (M.1, u1 (u1 M.2 3 (nI (o + 1))) 2 (nI (a + 1))) := SR.trans (SR.u3' M _) (SR.u2' (M.1, u1 M.2 3 (nI (o + 1))) _)
      have h22' : u1 M.2 3 (nI (o + 1)) 2 = nI a := h22
      have start : xrun (X, xcall X (d + 2)) j_M_opens 0 [.ref (sh 4 0), .int (nxt (tby S) n a)] [] (ub σ 4 (mdC M)) = xrun (X, xcall X (d + 2)) j_M_opens 34 [.ref (sh 4 0), .int (nxt (tby S) n a)] [] (ub σ 4 (mdC (M.1, u1 (u1 M.2 3 (nI (o + 1))) 2 (nI (a + 1))))) := by
        simp only [s_M_opens_0, s_M_opens_4, Option.bind_some, Option.bind_none, Option.toList_some, Option.toList_none, List.cons_append, List.nil_append, List.append_nil, mv_0, mg_0_0, mg_0_1, mg_0_2, mg_0_3, mg_0_4, mg_0_5, mg_0_6, mg_0_7, mg_0_8, mg_0_9, mg_0_10, mg_0_11, mg_0_12, mg_0_13, mg_0_14, mg_0_15, mg_0_16, mg_0_17, mg_0_18, mg_0_19, mg_0_20, h23, if_neg (fun e => ho' (q5.mp e)), s_M_opens_14, s_M_opens_19, mp_0_14, nI_add1, s_M_opens_24, s_M_opens_29, mp_0_13, h22']
      have fin : ∀ (P : xS) (C' : List Int32) (a' : Nat) (f' : Bool), PM S n u (o + 1) P C' a' f' → SR M P → (∀ y : Int32, ∃ N : xS, PM S n u o N C' a' f' ∧ SR M N ∧ xrun (X, xcall X (d + 2)) j_M_opens 103 [.ref (sh 4 0), .int y] [] (ub σ 4 (mdC P)) = some (none, ub σ 4 (mdC N))) := by
        intro P C' a' f' hP hSP y
        have p3 : P.2 3 = nI (o + 1) := hP.2.2.2.1
        have e : nI (o + 1) - 1 = nI o := nI_pred o
        refine ⟨(P.1, u1 P.2 3 (nI o)), hP.op o, SR.trans hSP (SR.u3' P _), ?_⟩
        simp only [s_M_opens_103, s_M_opens_108, s_M_opens_113, Option.bind_some, Option.bind_none, Option.toList_some, Option.toList_none, List.cons_append, List.nil_append, List.append_nil, mv_0, mg_0_0, mg_0_1, mg_0_2, mg_0_3, mg_0_4, mg_0_5, mg_0_6, mg_0_7, mg_0_8, mg_0_9, mg_0_10, mg_0_11, mg_0_12, mg_0_13, mg_0_14, mg_0_15, mg_0_16, mg_0_17, mg_0_18, mg_0_19, mg_0_20, p3, e, mp_0_14]
      by_cases e33 : nxt (tby S) n a = 33
      · rw [if_pos ⟨e33, rfl⟩]
        obtain ⟨N1, hN1, hS1, hx1⟩ := r1 _ C (a + 1) hO
        obtain ⟨q1, q2, q3⟩ := l1 (a + 1) (by omega)
        obtain ⟨N2, hN2, hS2, hx2⟩ := c_M_lays (X := X) (d := d + 1) (σ := σ) hn2 hN1 (fun _ => by rw [List.length_append]; omega) (show enc (-33 : Int32) = (3, 0) from enc_deny)
        obtain ⟨N3, hN3, hS3, hx3⟩ := fin N2 _ _ _ hN2 (SR.trans hSO (SR.trans hS1 hS2)) (nxt (tby S) n a)
        rw [List.append_assoc] at hN3
        refine ⟨N3, hN3, hS3, ?_⟩
        have hb : xcall X (d + 3) j_M_opens [.ref (sh 4 0), .int (nxt (tby S) n a)] (ub σ 4 (mdC M)) = some (none, ub σ 4 (mdC N3)) := by
          rw [e_M_opens, start, ← hx3, s_M_opens_34, if_pos e33]
          simp only [s_M_opens_40, s_M_opens_44, s_M_opens_50, Option.bind_some, Option.bind_none, Option.toList_some, Option.toList_none, List.cons_append, List.nil_append, List.append_nil, mv_0, hx1, hx2]
        simp only [s_M_one_46, s_M_one_51, s_M_one_58, Option.bind_some, Option.bind_none, Option.toList_some, Option.toList_none, List.cons_append, List.nil_append, List.append_nil, mv_0, hb]
      · have e40 := c33.resolve_left e33
        rw [if_neg (fun e => e33 e.1), if_pos ⟨e40, rfl⟩]
        obtain ⟨N1, hN1, hS1, hx1⟩ := r2 _ C (a + 1) hO
        obtain ⟨q1, q2, q3⟩ := l2 (a + 1) (by omega)
        have hS1' := SR.trans hSO hS1
        have n22 : N1.2 2 = nI (parts (a + 1)).1 := hN1.2.2.1
        have n24 : N1.2 4 = (if (parts (a + 1)).2.2 = true then 1 else 0) := hN1.2.2.2.2.1
        have hb : ∀ (P : xS) (x : Int32), xpf (ub σ 4 (mdC P)) (sh 4 0) 5 15 x = some (ub σ 4 (mdC (P.1, u1 P.2 4 x))) := fun P x => mp_0_15 x
        have z10 : ¬ (1 : Int32) = 0 := by decide
        have ends : ∀ N3 : xS, xrun (X, xcall X (d + 2)) j_M_opens 57 [.ref (sh 4 0), .int (nxt (tby S) n a)] [] (ub σ 4 (mdC N1)) = some (none, ub σ 4 (mdC N3)) → xcall X (d + 3) j_M_opens [.ref (sh 4 0), .int (nxt (tby S) n a)] (ub σ 4 (mdC M)) = some (none, ub σ 4 (mdC N3)) := by
          intro N3 hx3
          rw [e_M_opens, start, s_M_opens_34, if_neg e33]
          simp only [s_M_opens_53, Option.bind_some, Option.bind_none, Option.toList_some, Option.toList_none, List.cons_append, List.nil_append, List.append_nil, mv_0, hx1]
          exact hx3
        have badend : ∀ (P : xS), N1.2 2 = nI (parts (a + 1)).1 → xrun (X, xcall X (d + 2)) j_M_opens 74 [.ref (sh 4 0), .int (nxt (tby S) n a)] [.ref (sh 4 0)] (ub σ 4 (mdC N1)) = xrun (X, xcall X (d + 2)) j_M_opens 103 [.ref (sh 4 0), .int (nxt (tby S) n a)] [] (ub σ 4 (mdC (N1.1, u1 (u1 N1.2 4 1) 2 (nI (parts (a + 1)).1)))) := by
          intro _ _
          have k1 : u1 N1.2 4 1 4 = 1 := rfl
          have k2 : u1 N1.2 4 1 2 = nI (parts (a + 1)).1 := n22
          rw [s_M_opens_74, s_M_opens_79, if_pos xz1, hb]
          simp only [Option.bind_some, Option.bind_none, Option.toList_some, Option.toList_none, List.cons_append, List.nil_append, List.append_nil, s_M_opens_82, s_M_opens_87, s_M_opens_91, mv_0, mg_0_0, mg_0_1, mg_0_2, mg_0_3, mg_0_4, mg_0_5, mg_0_6, mg_0_7, mg_0_8, mg_0_9, mg_0_10, mg_0_11, mg_0_12, mg_0_13, mg_0_14, mg_0_15, mg_0_16, mg_0_17, mg_0_18, mg_0_19, mg_0_20, k1, k2, if_neg z10, s_M_opens_94, s_M_opens_99, Int32.add_zero, mp_0_13]
        by_cases c5 : (parts (a + 1)).2.2 = false ∧ nxt (tby S) n (parts (a + 1)).1 = 41
        · rw [if_pos c5]
          have hl2 : (parts (a + 1)).1 < n := nxt_lt (by rw [c5.2]; decide)
          rw [c5.1] at hN1 n24
          have n24' : N1.2 4 = 0 := n24
          have hG := hN1.good.at1 hl2
          have k1 : u1 N1.2 4 0 4 = 0 := rfl
          have k2 : u1 N1.2 4 0 2 = nI (parts (a + 1)).1 := n22
          obtain ⟨N3, hN3, hS3, hx3⟩ := fin _ _ _ _ hG (SR.trans hS1' (SR.trans (SR.u4' N1 0) (SR.u2' (N1.1, u1 N1.2 4 0) _))) (nxt (tby S) n a)
          refine ⟨N3, hN3, hS3, ?_⟩
          have hb2 := ends N3 (by
            rw [← hx3]
            simp only [s_M_opens_57, s_M_opens_62, Option.bind_some, Option.bind_none, Option.toList_some, Option.toList_none, List.cons_append, List.nil_append, List.append_nil, mv_0, mg_0_0, mg_0_1, mg_0_2, mg_0_3, mg_0_4, mg_0_5, mg_0_6, mg_0_7, mg_0_8, mg_0_9, mg_0_10, mg_0_11, mg_0_12, mg_0_13, mg_0_14, mg_0_15, mg_0_16, mg_0_17, mg_0_18, mg_0_19, mg_0_20, n24', if_true, s_M_opens_65, mv_0, c_M_look hn hn2 hN1, s_M_opens_69, if_pos c5.2, s_M_opens_78, s_M_opens_79, if_pos xz0, hb, s_M_opens_82, s_M_opens_87, s_M_opens_91, k1, k2, s_M_opens_98, s_M_opens_99, nI_add1, mp_0_13])
          simp only [s_M_one_46, s_M_one_51, s_M_one_58, Option.bind_some, Option.bind_none, Option.toList_some, Option.toList_none, List.cons_append, List.nil_append, List.append_nil, mv_0, hb2]
        · rw [if_neg c5]
          have hB : PM S n u (o + 1) (N1.1, u1 (u1 N1.2 4 1) 2 (nI (parts (a + 1)).1)) (C ++ (parts (a + 1)).2.1) (parts (a + 1)).1 true := by
            obtain ⟨w1, w2, w3, w4, w5, w6, w7⟩ := hN1.bad (C ++ (parts (a + 1)).2.1)
            exact ⟨w1, w2, rfl, w4, w5, w6, w7⟩
          obtain ⟨N3, hN3, hS3, hx3⟩ := fin _ _ _ _ hB (SR.trans hS1' (SR.trans (SR.u4' N1 1) (SR.u2' (N1.1, u1 N1.2 4 1) _))) (nxt (tby S) n a)
          refine ⟨N3, hN3, hS3, ?_⟩
          have hb2 := ends N3 (by
            rw [← hx3, ← badend N1 n22]
            simp only [s_M_opens_57, s_M_opens_62, Option.bind_some, Option.bind_none, Option.toList_some, Option.toList_none, List.cons_append, List.nil_append, List.append_nil, mv_0, mg_0_0, mg_0_1, mg_0_2, mg_0_3, mg_0_4, mg_0_5, mg_0_6, mg_0_7, mg_0_8, mg_0_9, mg_0_10, mg_0_11, mg_0_12, mg_0_13, mg_0_14, mg_0_15, mg_0_16, mg_0_17, mg_0_18, mg_0_19, mg_0_20, n24]
            by_cases cf : (parts (a + 1)).2.2 = true
            · rw [if_pos cf, if_neg z10]
            · have cf' : (parts (a + 1)).2.2 = false := by
                cases hz : (parts (a + 1)).2.2 with
                | true => exact absurd hz cf
                | false => rfl
              rw [if_neg cf, if_pos rfl]
              simp only [s_M_opens_65, Option.bind_some, Option.bind_none, Option.toList_some, Option.toList_none, List.cons_append, List.nil_append, List.append_nil, mv_0, c_M_look hn hn2 hN1, s_M_opens_69]
              rw [if_neg (fun e => c5 ⟨cf', e⟩)])
          simp only [s_M_one_46, s_M_one_51, s_M_one_58, Option.bind_some, Option.bind_none, Option.toList_some, Option.toList_none, List.cons_append, List.nil_append, List.append_nil, mv_0, hb2]
  · have n33 : ¬ nxt (tby S) n a = 33 := fun e => c33 (Or.inl e)
    have n40 : ¬ nxt (tby S) n a = 40 := fun e => c33 (Or.inr e)
    rw [if_neg (fun e => n33 e.1), if_neg (fun e => n40 e.1)]
    obtain ⟨N, hN, hS, hx⟩ := c_M_number (X := X) (d := d + 1) (σ := σ) hn hn2 h
    rw [if_neg c1, if_neg c1] at hN
    have e1 : nmL (tby S) n 4 a 0 = (a, 0) := by
      unfold nmL
      rw [if_neg c1]
    rw [e1] at hN
    refine ⟨N, hN, hS, ?_⟩
    rw [s_M_one_34, if_neg n33, s_M_one_40, if_neg n40]
    simp only [s_M_one_54, s_M_one_58, Option.bind_some, Option.bind_none, Option.toList_some, Option.toList_none, List.cons_append, List.nil_append, List.append_nil, mv_0, hx]
end MReader
