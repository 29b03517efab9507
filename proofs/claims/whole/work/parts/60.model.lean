/-! ===== the model: its row and a state ===== -/
/-- a step of code as the model keeps it -/
def enc (c : Int32) : Int32 × Int32 := if 0 ≤ c then (1, c) else if ¬ c < -3 then (2, -1 - c) else if c = -33 then (3, 0) else (-c, 0)
def RS (r : Nat → Int32) (S : xS) : Prop :=
  (∀ p, p < 8 → r (6 + 4 * p) = S.1 0 p) ∧
  (∀ p, p < 8 → r (6 + 4 * p + 1) = S.1 1 p) ∧
  (∀ p, p < 8 → r (6 + 4 * p + 2) = S.1 2 p) ∧
  (∀ p, p < 8 → r (6 + 4 * p + 3) = S.1 3 p) ∧
  (∀ c, c < 64 → r (38 + c) = S.1 4 c) ∧
  (∀ c, c < 60 → r (102 + c) = S.1 7 c &&& 255) ∧
  (∀ c, c < 24 → r (162 + c) = S.1 8 c) ∧
  (r 0 = S.2 4) ∧
  (r 1 = S.2 5) ∧
  (r 2 = S.2 0) ∧
  (r 3 = S.2 3) ∧
  (r 4 = S.2 1) ∧
  (r 5 = S.2 2) ∧
  (r 186 = S.2 6) ∧
  (∀ j, j < ln0 S → r (187 + j) = (enc (S.1 5 j)).1 ∧ r (247 + j) = (enc (S.1 5 j)).2) ∧
  (r 307 = S.2 7) ∧
  (∀ j, j < ln1 S → r (308 + j) = (enc (S.1 6 j)).1 ∧ r (368 + j) = (enc (S.1 6 j)).2)
theorem RS.p0 {r : Nat → Int32} {S : xS} (h : RS r S) : ∀ p, p < 8 → r (6 + 4 * p) = S.1 0 p := h.1
theorem RS.p1 {r : Nat → Int32} {S : xS} (h : RS r S) : ∀ p, p < 8 → r (6 + 4 * p + 1) = S.1 1 p := h.2.1
theorem RS.p2 {r : Nat → Int32} {S : xS} (h : RS r S) : ∀ p, p < 8 → r (6 + 4 * p + 2) = S.1 2 p := h.2.2.1
theorem RS.p3 {r : Nat → Int32} {S : xS} (h : RS r S) : ∀ p, p < 8 → r (6 + 4 * p + 3) = S.1 3 p := h.2.2.2.1
theorem RS.tk {r : Nat → Int32} {S : xS} (h : RS r S) : ∀ c, c < 64 → r (38 + c) = S.1 4 c := h.2.2.2.2.1
theorem RS.tp {r : Nat → Int32} {S : xS} (h : RS r S) : ∀ c, c < 60 → r (102 + c) = S.1 7 c &&& 255 := h.2.2.2.2.2.1
theorem RS.wt {r : Nat → Int32} {S : xS} (h : RS r S) : ∀ c, c < 24 → r (162 + c) = S.1 8 c := h.2.2.2.2.2.2.1
theorem RS.dy {r : Nat → Int32} {S : xS} (h : RS r S) : r 0 = S.2 4 := h.2.2.2.2.2.2.2.1
theorem RS.zz {r : Nat → Int32} {S : xS} (h : RS r S) : r 1 = S.2 5 := h.2.2.2.2.2.2.2.2.1
theorem RS.ct {r : Nat → Int32} {S : xS} (h : RS r S) : r 2 = S.2 0 := h.2.2.2.2.2.2.2.2.2.1
theorem RS.se {r : Nat → Int32} {S : xS} (h : RS r S) : r 3 = S.2 3 := h.2.2.2.2.2.2.2.2.2.2.1
theorem RS.fd {r : Nat → Int32} {S : xS} (h : RS r S) : r 4 = S.2 1 := h.2.2.2.2.2.2.2.2.2.2.2.1
theorem RS.ws {r : Nat → Int32} {S : xS} (h : RS r S) : r 5 = S.2 2 := h.2.2.2.2.2.2.2.2.2.2.2.2.1
theorem RS.n0 {r : Nat → Int32} {S : xS} (h : RS r S) : r 186 = S.2 6 := h.2.2.2.2.2.2.2.2.2.2.2.2.2.1
theorem RS.c0 {r : Nat → Int32} {S : xS} (h : RS r S) : ∀ j, j < ln0 S → r (187 + j) = (enc (S.1 5 j)).1 ∧ r (247 + j) = (enc (S.1 5 j)).2 := h.2.2.2.2.2.2.2.2.2.2.2.2.2.2.1
theorem RS.n1 {r : Nat → Int32} {S : xS} (h : RS r S) : r 307 = S.2 7 := h.2.2.2.2.2.2.2.2.2.2.2.2.2.2.2.1
theorem RS.c1 {r : Nat → Int32} {S : xS} (h : RS r S) : ∀ j, j < ln1 S → r (308 + j) = (enc (S.1 6 j)).1 ∧ r (368 + j) = (enc (S.1 6 j)).2 := h.2.2.2.2.2.2.2.2.2.2.2.2.2.2.2.2
/-- model and state -/
def RM (M R S K : xS) : Prop :=
  (RS (M.1 0) S) ∧
  (R.2 0 ≠ 0 → RS (M.1 1) K) ∧
  (∀ k, k < 7 → M.1 3 k = R.1 0 k) ∧
  (∀ s, s < 4 → M.1 4 s = R.2 (1 + 2 * s)) ∧
  (∀ s, s < 4 → M.1 5 s = R.2 (2 + 2 * s)) ∧
  (∀ s, s < 4 → ∀ k, k < 24 → M.1 6 (24 * s + k) = R.1 (1 + s) k) ∧
  (M.2 0 = R.2 0) ∧
  (M.2 6 = R.2 9) ∧
  (∀ i, i < 30 → M.1 12 i = R.1 5 i)
theorem RM.row {M R S K : xS} (h : RM M R S K) : RS (M.1 0) S := h.1
theorem RM.kept {M R S K : xS} (h : RM M R S K) : R.2 0 ≠ 0 → RS (M.1 1) K := h.2.1
theorem RM.errs {M R S K : xS} (h : RM M R S K) : ∀ k, k < 7 → M.1 3 k = R.1 0 k := h.2.2.1
theorem RM.bits {M R S K : xS} (h : RM M R S K) : ∀ s, s < 4 → M.1 4 s = R.2 (1 + 2 * s) := h.2.2.2.1
theorem RM.size {M R S K : xS} (h : RM M R S K) : ∀ s, s < 4 → M.1 5 s = R.2 (2 + 2 * s) := h.2.2.2.2.1
theorem RM.cell {M R S K : xS} (h : RM M R S K) : ∀ s, s < 4 → ∀ k, k < 24 → M.1 6 (24 * s + k) = R.1 (1 + s) k := h.2.2.2.2.2.1
theorem RM.imgs {M R S K : xS} (h : RM M R S K) : M.2 0 = R.2 0 := h.2.2.2.2.2.2.1
theorem RM.trcd {M R S K : xS} (h : RM M R S K) : M.2 6 = R.2 9 := h.2.2.2.2.2.2.2.1
theorem RM.trce {M R S K : xS} (h : RM M R S K) : ∀ i, i < 30 → M.1 12 i = R.1 5 i := h.2.2.2.2.2.2.2.2
/-- only scratch (facts, pile) differs -/
def SF (M N : xS) : Prop := (∀ a, a ≠ 9 → a ≠ 10 → N.1 a = M.1 a) ∧ N.2 = M.2
theorem SF.rfl' (M : xS) : SF M M := ⟨fun _ _ _ => rfl, rfl⟩
theorem SF.trans {M N P : xS} (h : SF M N) (g : SF N P) : SF M P := ⟨fun a h1 h2 => (g.1 a h1 h2).trans (h.1 a h1 h2), g.2.trans h.2⟩
theorem SF.row {M N : xS} (h : SF M N) : N.1 0 = M.1 0 := h.1 0 (by decide) (by decide)
theorem SF.rm {M N R S K : xS} (h : SF M N) (g : RM M R S K) : RM N R S K := by
  obtain ⟨h1, h2⟩ := h
  obtain ⟨a, b, c, d, e, f, i, j, k⟩ := g
  refine ⟨?_, ?_, ?_, ?_, ?_, ?_, ?_, ?_, ?_⟩
  · rw [h1 0 (by decide) (by decide)]; exact a
  · rw [h1 1 (by decide) (by decide)]; exact b
  · rw [h1 3 (by decide) (by decide)]; exact c
  · rw [h1 4 (by decide) (by decide)]; exact d
  · rw [h1 5 (by decide) (by decide)]; exact e
  · rw [h1 6 (by decide) (by decide)]; exact f
  · rw [h2]; exact i
  · rw [h2]; exact j
  · rw [h1 12 (by decide) (by decide)]; exact k
theorem er_row (R : xS) (k s : Nat) : (er R k).1 (1 + s) = R.1 (1 + s) := by
  show u2 R.1 0 _ (1 + s) = _
  unfold u2
  rw [if_neg (by omega)]
/-- a call's contract on the model -/
def MC (X : xX) (d j : Nat) (as : List Value) (M : xS) (sp : Int32 × xQS) : Prop := ∀ σ : xW, ∃ N : xS, RM N sp.2.1 sp.2.2.1 sp.2.2.2 ∧ xcall X d j (.ref (sh 4 0) :: as) (ub σ 4 (mdC M)) = some (some (.int sp.1), ub σ 4 (mdC N))
section Mod1
variable {X : xX} {d : Nat} {σ : xW} {M S : xS}
theorem c_M_in (v a c : Int32) : xcall X (d + 1) j_M_in [.int v, .int a, .int c] σ = some (some (.int (z1 (a ≤ v ∧ v ≤ c))), σ) := by
  rw [e_M_in]
  simp only [s_M_in_0, s_M_in_14, s_M_in_15, s_M_in_5, s_M_in_10, xz1, xz0, if_true]
  by_cases h1 : v < a
  · rw [if_pos h1, z1_f (fun h => i32_nle.mpr h1 h.1)]
  rw [if_neg h1]
  by_cases h2 : c < v
  · rw [if_pos h2, z1_f (fun h => i32_nle.mpr h2 h.2)]
  rw [if_neg h2, z1_t ⟨i32_nlt.mp h1, i32_nlt.mp h2⟩]
theorem c_M_held {v a c : Int32} (hac : a ≤ c) : xcall X (d + 1) j_M_held [.int v, .int a, .int c] σ = some (some (.int (hel v a c)), σ) := by
  rw [e_M_held]
  unfold hel
  simp only [s_M_held_0, s_M_held_9, s_M_held_18, s_M_held_19, s_M_held_5, s_M_held_14]
  by_cases h1 : a ≤ v
  · rw [if_pos h1]
    by_cases h2 : v ≤ c
    · rw [if_pos h2]
      by_cases h3 : v < c
      · rw [if_pos h3]
        by_cases h4 : a < v
        · rw [if_pos h4]
        · rw [if_neg h4, Int32.le_antisymm h1 (i32_nlt.mp h4)]
      · rw [if_neg h3]
        have e : v = c := Int32.le_antisymm h2 (i32_nlt.mp h3)
        subst e
        by_cases h4 : a < v
        · rw [if_pos h4]
        · rw [if_neg h4, Int32.le_antisymm h1 (i32_nlt.mp h4)]
    · rw [if_neg h2, if_neg (fun e => h2 (Int32.le_of_lt e))]
      by_cases h4 : a < c
      · rw [if_pos h4]
      · rw [if_neg h4, Int32.le_antisymm hac (i32_nlt.mp h4)]
  · rw [if_neg h1]
    have h2 : v < a := i32_nle.mp h1
    have h3 : v < c := Int32.lt_of_lt_of_le h2 hac
    rw [if_pos h3, if_neg (fun e => h1 (Int32.le_of_lt e))]
theorem mrc_0 : xrd X (ub σ 4 (mdC M)) [0] (sh 4 1) (0 : Int32) = some (M.1 0 0) := mr_1 (k := 0) (by decide)
theorem mwc_0 (x : Int32) : xwr (ub σ 4 (mdC M)) [0] (sh 4 1) (0 : Int32) x = some (ub σ 4 (mdC (u2 M.1 0 (upd (M.1 0) 0 x), M.2))) := mw_1 (k := 0) (by decide)
theorem mrc_1 : xrd X (ub σ 4 (mdC M)) [0] (sh 4 1) (1 : Int32) = some (M.1 0 1) := mr_1 (k := 1) (by decide)
theorem mwc_1 (x : Int32) : xwr (ub σ 4 (mdC M)) [0] (sh 4 1) (1 : Int32) x = some (ub σ 4 (mdC (u2 M.1 0 (upd (M.1 0) 1 x), M.2))) := mw_1 (k := 1) (by decide)
theorem mrc_2 : xrd X (ub σ 4 (mdC M)) [0] (sh 4 1) (2 : Int32) = some (M.1 0 2) := mr_1 (k := 2) (by decide)
theorem mwc_2 (x : Int32) : xwr (ub σ 4 (mdC M)) [0] (sh 4 1) (2 : Int32) x = some (ub σ 4 (mdC (u2 M.1 0 (upd (M.1 0) 2 x), M.2))) := mw_1 (k := 2) (by decide)
theorem mrc_3 : xrd X (ub σ 4 (mdC M)) [0] (sh 4 1) (3 : Int32) = some (M.1 0 3) := mr_1 (k := 3) (by decide)
theorem mwc_3 (x : Int32) : xwr (ub σ 4 (mdC M)) [0] (sh 4 1) (3 : Int32) x = some (ub σ 4 (mdC (u2 M.1 0 (upd (M.1 0) 3 x), M.2))) := mw_1 (k := 3) (by decide)
theorem mrc_4 : xrd X (ub σ 4 (mdC M)) [0] (sh 4 1) (4 : Int32) = some (M.1 0 4) := mr_1 (k := 4) (by decide)
theorem mwc_4 (x : Int32) : xwr (ub σ 4 (mdC M)) [0] (sh 4 1) (4 : Int32) x = some (ub σ 4 (mdC (u2 M.1 0 (upd (M.1 0) 4 x), M.2))) := mw_1 (k := 4) (by decide)
theorem mrc_5 : xrd X (ub σ 4 (mdC M)) [0] (sh 4 1) (5 : Int32) = some (M.1 0 5) := mr_1 (k := 5) (by decide)
theorem mwc_5 (x : Int32) : xwr (ub σ 4 (mdC M)) [0] (sh 4 1) (5 : Int32) x = some (ub σ 4 (mdC (u2 M.1 0 (upd (M.1 0) 5 x), M.2))) := mw_1 (k := 5) (by decide)
theorem mr1 {k : Nat} (hk : k < 428) : xrd X (ub σ 4 (mdC M)) [0] (sh 4 1) (nI k) = some (M.1 0 k) := mr_1 hk
theorem mw1 {k : Nat} (hk : k < 428) (x : Int32) : xwr (ub σ 4 (mdC M)) [0] (sh 4 1) (nI k) x = some (ub σ 4 (mdC (u2 M.1 0 (upd (M.1 0) k x), M.2))) := mw_1 hk
theorem c_M_error1 {R K' : xS} (h : RM M R S K') : ∃ N, RM N (er R 1) S K' ∧ xcall X (d + 1) j_M_error [.ref (sh 4 0), .int (-1000000001 : Int32)] (ub σ 4 (mdC M)) = some (some (.int (lw 1)), ub σ 4 (mdC N)) := by
  have hr : xrd X (ub σ 4 (mdC M)) [0] (sh 4 4) (-1000000000 - (-1000000001)) = some (M.1 3 1) := mr_4 (k := 1) (by decide)
  have hw : ∀ x, xwr (ub σ 4 (mdC M)) [0] (sh 4 4) (-1000000000 - (-1000000001)) x = some (ub σ 4 (mdC (u2 M.1 3 (upd (M.1 3) 1 x), M.2))) := fun x => mw_4 (k := 1) (by decide)
  refine ⟨(u2 M.1 3 (upd (M.1 3) 1 (M.1 3 1 + 1)), M.2), ⟨h.row, h.kept, fun k hk => ?_, h.bits, h.size, fun s hs k hk => by rw [er_row]; exact h.cell s hs k hk, h.imgs, h.trcd, h.trce⟩, ?_⟩
  · show upd (M.1 3) 1 (M.1 3 1 + 1) k = upd (R.1 0) 1 (R.1 0 1 + 1) k
    unfold upd
    rw [h.errs 1 (by decide)]
    split
    · rfl
    · exact h.errs k hk
  · rw [e_M_error]
    simp only [s_M_error_0, s_M_error_4, s_M_error_10, s_M_error_13, Option.bind_some, Option.bind_none, Option.toList_some, Option.toList_none, List.cons_append, List.nil_append, List.append_nil, mv_0, mg_0_0, mg_0_1, mg_0_2, mg_0_3, mg_0_4, mg_0_5, mg_0_6, mg_0_7, mg_0_8, mg_0_9, mg_0_10, mg_0_11, mg_0_12, mg_0_13, mg_0_14, mg_0_15, mg_0_16, mg_0_17, mg_0_18, mg_0_19, mg_0_20, hr, hw]
    rfl
theorem c_M_error2 {R K' : xS} (h : RM M R S K') : ∃ N, RM N (er R 2) S K' ∧ xcall X (d + 1) j_M_error [.ref (sh 4 0), .int (-1000000002 : Int32)] (ub σ 4 (mdC M)) = some (some (.int (lw 2)), ub σ 4 (mdC N)) := by
  have hr : xrd X (ub σ 4 (mdC M)) [0] (sh 4 4) (-1000000000 - (-1000000002)) = some (M.1 3 2) := mr_4 (k := 2) (by decide)
  have hw : ∀ x, xwr (ub σ 4 (mdC M)) [0] (sh 4 4) (-1000000000 - (-1000000002)) x = some (ub σ 4 (mdC (u2 M.1 3 (upd (M.1 3) 2 x), M.2))) := fun x => mw_4 (k := 2) (by decide)
  refine ⟨(u2 M.1 3 (upd (M.1 3) 2 (M.1 3 2 + 1)), M.2), ⟨h.row, h.kept, fun k hk => ?_, h.bits, h.size, fun s hs k hk => by rw [er_row]; exact h.cell s hs k hk, h.imgs, h.trcd, h.trce⟩, ?_⟩
  · show upd (M.1 3) 2 (M.1 3 2 + 1) k = upd (R.1 0) 2 (R.1 0 2 + 1) k
    unfold upd
    rw [h.errs 2 (by decide)]
    split
    · rfl
    · exact h.errs k hk
  · rw [e_M_error]
    simp only [s_M_error_0, s_M_error_4, s_M_error_10, s_M_error_13, Option.bind_some, Option.bind_none, Option.toList_some, Option.toList_none, List.cons_append, List.nil_append, List.append_nil, mv_0, mg_0_0, mg_0_1, mg_0_2, mg_0_3, mg_0_4, mg_0_5, mg_0_6, mg_0_7, mg_0_8, mg_0_9, mg_0_10, mg_0_11, mg_0_12, mg_0_13, mg_0_14, mg_0_15, mg_0_16, mg_0_17, mg_0_18, mg_0_19, mg_0_20, hr, hw]
    rfl
theorem c_M_error3 {R K' : xS} (h : RM M R S K') : ∃ N, RM N (er R 3) S K' ∧ xcall X (d + 1) j_M_error [.ref (sh 4 0), .int (-1000000003 : Int32)] (ub σ 4 (mdC M)) = some (some (.int (lw 3)), ub σ 4 (mdC N)) := by
  have hr : xrd X (ub σ 4 (mdC M)) [0] (sh 4 4) (-1000000000 - (-1000000003)) = some (M.1 3 3) := mr_4 (k := 3) (by decide)
  have hw : ∀ x, xwr (ub σ 4 (mdC M)) [0] (sh 4 4) (-1000000000 - (-1000000003)) x = some (ub σ 4 (mdC (u2 M.1 3 (upd (M.1 3) 3 x), M.2))) := fun x => mw_4 (k := 3) (by decide)
  refine ⟨(u2 M.1 3 (upd (M.1 3) 3 (M.1 3 3 + 1)), M.2), ⟨h.row, h.kept, fun k hk => ?_, h.bits, h.size, fun s hs k hk => by rw [er_row]; exact h.cell s hs k hk, h.imgs, h.trcd, h.trce⟩, ?_⟩
  · show upd (M.1 3) 3 (M.1 3 3 + 1) k = upd (R.1 0) 3 (R.1 0 3 + 1) k
    unfold upd
    rw [h.errs 3 (by decide)]
    split
    · rfl
    · exact h.errs k hk
  · rw [e_M_error]
    simp only [s_M_error_0, s_M_error_4, s_M_error_10, s_M_error_13, Option.bind_some, Option.bind_none, Option.toList_some, Option.toList_none, List.cons_append, List.nil_append, List.append_nil, mv_0, mg_0_0, mg_0_1, mg_0_2, mg_0_3, mg_0_4, mg_0_5, mg_0_6, mg_0_7, mg_0_8, mg_0_9, mg_0_10, mg_0_11, mg_0_12, mg_0_13, mg_0_14, mg_0_15, mg_0_16, mg_0_17, mg_0_18, mg_0_19, mg_0_20, hr, hw]
    rfl
theorem c_M_error4 {R K' : xS} (h : RM M R S K') : ∃ N, RM N (er R 4) S K' ∧ xcall X (d + 1) j_M_error [.ref (sh 4 0), .int (-1000000004 : Int32)] (ub σ 4 (mdC M)) = some (some (.int (lw 4)), ub σ 4 (mdC N)) := by
  have hr : xrd X (ub σ 4 (mdC M)) [0] (sh 4 4) (-1000000000 - (-1000000004)) = some (M.1 3 4) := mr_4 (k := 4) (by decide)
  have hw : ∀ x, xwr (ub σ 4 (mdC M)) [0] (sh 4 4) (-1000000000 - (-1000000004)) x = some (ub σ 4 (mdC (u2 M.1 3 (upd (M.1 3) 4 x), M.2))) := fun x => mw_4 (k := 4) (by decide)
  refine ⟨(u2 M.1 3 (upd (M.1 3) 4 (M.1 3 4 + 1)), M.2), ⟨h.row, h.kept, fun k hk => ?_, h.bits, h.size, fun s hs k hk => by rw [er_row]; exact h.cell s hs k hk, h.imgs, h.trcd, h.trce⟩, ?_⟩
  · show upd (M.1 3) 4 (M.1 3 4 + 1) k = upd (R.1 0) 4 (R.1 0 4 + 1) k
    unfold upd
    rw [h.errs 4 (by decide)]
    split
    · rfl
    · exact h.errs k hk
  · rw [e_M_error]
    simp only [s_M_error_0, s_M_error_4, s_M_error_10, s_M_error_13, Option.bind_some, Option.bind_none, Option.toList_some, Option.toList_none, List.cons_append, List.nil_append, List.append_nil, mv_0, mg_0_0, mg_0_1, mg_0_2, mg_0_3, mg_0_4, mg_0_5, mg_0_6, mg_0_7, mg_0_8, mg_0_9, mg_0_10, mg_0_11, mg_0_12, mg_0_13, mg_0_14, mg_0_15, mg_0_16, mg_0_17, mg_0_18, mg_0_19, mg_0_20, hr, hw]
    rfl
theorem c_M_error5 {R K' : xS} (h : RM M R S K') : ∃ N, RM N (er R 5) S K' ∧ xcall X (d + 1) j_M_error [.ref (sh 4 0), .int (-1000000005 : Int32)] (ub σ 4 (mdC M)) = some (some (.int (lw 5)), ub σ 4 (mdC N)) := by
  have hr : xrd X (ub σ 4 (mdC M)) [0] (sh 4 4) (-1000000000 - (-1000000005)) = some (M.1 3 5) := mr_4 (k := 5) (by decide)
  have hw : ∀ x, xwr (ub σ 4 (mdC M)) [0] (sh 4 4) (-1000000000 - (-1000000005)) x = some (ub σ 4 (mdC (u2 M.1 3 (upd (M.1 3) 5 x), M.2))) := fun x => mw_4 (k := 5) (by decide)
  refine ⟨(u2 M.1 3 (upd (M.1 3) 5 (M.1 3 5 + 1)), M.2), ⟨h.row, h.kept, fun k hk => ?_, h.bits, h.size, fun s hs k hk => by rw [er_row]; exact h.cell s hs k hk, h.imgs, h.trcd, h.trce⟩, ?_⟩
  · show upd (M.1 3) 5 (M.1 3 5 + 1) k = upd (R.1 0) 5 (R.1 0 5 + 1) k
    unfold upd
    rw [h.errs 5 (by decide)]
    split
    · rfl
    · exact h.errs k hk
  · rw [e_M_error]
    simp only [s_M_error_0, s_M_error_4, s_M_error_10, s_M_error_13, Option.bind_some, Option.bind_none, Option.toList_some, Option.toList_none, List.cons_append, List.nil_append, List.append_nil, mv_0, mg_0_0, mg_0_1, mg_0_2, mg_0_3, mg_0_4, mg_0_5, mg_0_6, mg_0_7, mg_0_8, mg_0_9, mg_0_10, mg_0_11, mg_0_12, mg_0_13, mg_0_14, mg_0_15, mg_0_16, mg_0_17, mg_0_18, mg_0_19, mg_0_20, hr, hw]
    rfl
theorem c_M_error6 {R K' : xS} (h : RM M R S K') : ∃ N, RM N (er R 6) S K' ∧ xcall X (d + 1) j_M_error [.ref (sh 4 0), .int (-1000000006 : Int32)] (ub σ 4 (mdC M)) = some (some (.int (lw 6)), ub σ 4 (mdC N)) := by
  have hr : xrd X (ub σ 4 (mdC M)) [0] (sh 4 4) (-1000000000 - (-1000000006)) = some (M.1 3 6) := mr_4 (k := 6) (by decide)
  have hw : ∀ x, xwr (ub σ 4 (mdC M)) [0] (sh 4 4) (-1000000000 - (-1000000006)) x = some (ub σ 4 (mdC (u2 M.1 3 (upd (M.1 3) 6 x), M.2))) := fun x => mw_4 (k := 6) (by decide)
  refine ⟨(u2 M.1 3 (upd (M.1 3) 6 (M.1 3 6 + 1)), M.2), ⟨h.row, h.kept, fun k hk => ?_, h.bits, h.size, fun s hs k hk => by rw [er_row]; exact h.cell s hs k hk, h.imgs, h.trcd, h.trce⟩, ?_⟩
  · show upd (M.1 3) 6 (M.1 3 6 + 1) k = upd (R.1 0) 6 (R.1 0 6 + 1) k
    unfold upd
    rw [h.errs 6 (by decide)]
    split
    · rfl
    · exact h.errs k hk
  · rw [e_M_error]
    simp only [s_M_error_0, s_M_error_4, s_M_error_10, s_M_error_13, Option.bind_some, Option.bind_none, Option.toList_some, Option.toList_none, List.cons_append, List.nil_append, List.append_nil, mv_0, mg_0_0, mg_0_1, mg_0_2, mg_0_3, mg_0_4, mg_0_5, mg_0_6, mg_0_7, mg_0_8, mg_0_9, mg_0_10, mg_0_11, mg_0_12, mg_0_13, mg_0_14, mg_0_15, mg_0_16, mg_0_17, mg_0_18, mg_0_19, mg_0_20, hr, hw]
    rfl
theorem c_M_isPerson (h : RS (M.1 0) S) (p : Int32) : xcall X (d + 2) j_M_isPerson [.ref (sh 4 0), .int p] (ub σ 4 (mdC M)) = some (some (.int (z1 (hasP S p))), ub σ 4 (mdC M)) := by
  rw [e_M_isPerson]
  simp only [s_M_isPerson_0, s_M_isPerson_6, s_M_isPerson_8, s_M_isPerson_13, Option.bind_some, Option.bind_none, Option.toList_some, Option.toList_none, List.cons_append, List.nil_append, List.append_nil, mv_0, mg_0_0, mg_0_1, mg_0_2, mg_0_3, mg_0_4, mg_0_5, mg_0_6, mg_0_7, mg_0_8, mg_0_9, mg_0_10, mg_0_11, mg_0_12, mg_0_13, mg_0_14, mg_0_15, mg_0_16, mg_0_17, mg_0_18, mg_0_19, mg_0_20, mrc_2, h.ct, c_M_in, xzz, if_true]
theorem ix_of (p w : Nat) : (6 : Int32) + 4 * nI p + nI w = nI (6 + 4 * p + w) := by
  rw [show (4 : Int32) * nI p = nI (4 * p) from (Int32.ofNat_mul 4 p).symm, show (6 : Int32) = nI 6 from rfl, nI_add, nI_add]
theorem c_M_of0 (h : RS (M.1 0) S) {p : Nat} (hp : p < 8) : xcall X (d + 1) j_M_of [.ref (sh 4 0), .int (nI p), .int (0 : Int32)] (ub σ 4 (mdC M)) = some (some (.int (S.1 0 p)), ub σ 4 (mdC M)) := by
  have hr : xrd X (ub σ 4 (mdC M)) [0] (sh 4 1) ((6 : Int32) + 4 * nI p + (0 : Int32)) = some (M.1 0 (6 + 4 * p)) := by
    have e := ix_of p 0
    have e : (6 : Int32) + 4 * nI p + (0 : Int32) = _ := e
    rw [e]
    exact mr1 (by omega)
  rw [e_M_of]
  simp only [s_M_of_0, s_M_of_4, s_M_of_13, Option.bind_some, Option.bind_none, Option.toList_some, Option.toList_none, List.cons_append, List.nil_append, List.append_nil, mv_0, mg_0_0, mg_0_1, mg_0_2, mg_0_3, mg_0_4, mg_0_5, mg_0_6, mg_0_7, mg_0_8, mg_0_9, mg_0_10, mg_0_11, mg_0_12, mg_0_13, mg_0_14, mg_0_15, mg_0_16, mg_0_17, mg_0_18, mg_0_19, mg_0_20, hr, h.p0 p hp]
theorem c_M_lets0 {p : Nat} (hp : p < 8) (x : Int32) : xcall X (d + 1) j_M_lets [.ref (sh 4 0), .int (nI p), .int (0 : Int32), .int x] (ub σ 4 (mdC M)) = some (none, ub σ 4 (mdC (u2 M.1 0 (upd (M.1 0) (6 + 4 * p) x), M.2))) := by
  have hr : xwr (ub σ 4 (mdC M)) [0] (sh 4 1) ((6 : Int32) + 4 * nI p + (0 : Int32)) x = some (ub σ 4 (mdC (u2 M.1 0 (upd (M.1 0) (6 + 4 * p) x), M.2))) := by
    have e := ix_of p 0
    have e : (6 : Int32) + 4 * nI p + (0 : Int32) = _ := e
    rw [e]
    exact mw1 (by omega) x
  rw [e_M_lets]
  simp only [s_M_lets_0, s_M_lets_4, s_M_lets_14, Option.bind_some, Option.bind_none, Option.toList_some, Option.toList_none, List.cons_append, List.nil_append, List.append_nil, mv_0, mg_0_0, mg_0_1, mg_0_2, mg_0_3, mg_0_4, mg_0_5, mg_0_6, mg_0_7, mg_0_8, mg_0_9, mg_0_10, mg_0_11, mg_0_12, mg_0_13, mg_0_14, mg_0_15, mg_0_16, mg_0_17, mg_0_18, mg_0_19, mg_0_20, hr]
theorem c_M_of1 (h : RS (M.1 0) S) {p : Nat} (hp : p < 8) : xcall X (d + 1) j_M_of [.ref (sh 4 0), .int (nI p), .int (1 : Int32)] (ub σ 4 (mdC M)) = some (some (.int (S.1 1 p)), ub σ 4 (mdC M)) := by
  have hr : xrd X (ub σ 4 (mdC M)) [0] (sh 4 1) ((6 : Int32) + 4 * nI p + (1 : Int32)) = some (M.1 0 (6 + 4 * p + 1)) := by
    have e := ix_of p 1
    have e : (6 : Int32) + 4 * nI p + (1 : Int32) = _ := e
    rw [e]
    exact mr1 (by omega)
  rw [e_M_of]
  simp only [s_M_of_0, s_M_of_4, s_M_of_13, Option.bind_some, Option.bind_none, Option.toList_some, Option.toList_none, List.cons_append, List.nil_append, List.append_nil, mv_0, mg_0_0, mg_0_1, mg_0_2, mg_0_3, mg_0_4, mg_0_5, mg_0_6, mg_0_7, mg_0_8, mg_0_9, mg_0_10, mg_0_11, mg_0_12, mg_0_13, mg_0_14, mg_0_15, mg_0_16, mg_0_17, mg_0_18, mg_0_19, mg_0_20, hr, h.p1 p hp]
theorem c_M_lets1 {p : Nat} (hp : p < 8) (x : Int32) : xcall X (d + 1) j_M_lets [.ref (sh 4 0), .int (nI p), .int (1 : Int32), .int x] (ub σ 4 (mdC M)) = some (none, ub σ 4 (mdC (u2 M.1 0 (upd (M.1 0) (6 + 4 * p + 1) x), M.2))) := by
  have hr : xwr (ub σ 4 (mdC M)) [0] (sh 4 1) ((6 : Int32) + 4 * nI p + (1 : Int32)) x = some (ub σ 4 (mdC (u2 M.1 0 (upd (M.1 0) (6 + 4 * p + 1) x), M.2))) := by
    have e := ix_of p 1
    have e : (6 : Int32) + 4 * nI p + (1 : Int32) = _ := e
    rw [e]
    exact mw1 (by omega) x
  rw [e_M_lets]
  simp only [s_M_lets_0, s_M_lets_4, s_M_lets_14, Option.bind_some, Option.bind_none, Option.toList_some, Option.toList_none, List.cons_append, List.nil_append, List.append_nil, mv_0, mg_0_0, mg_0_1, mg_0_2, mg_0_3, mg_0_4, mg_0_5, mg_0_6, mg_0_7, mg_0_8, mg_0_9, mg_0_10, mg_0_11, mg_0_12, mg_0_13, mg_0_14, mg_0_15, mg_0_16, mg_0_17, mg_0_18, mg_0_19, mg_0_20, hr]
theorem c_M_of2 (h : RS (M.1 0) S) {p : Nat} (hp : p < 8) : xcall X (d + 1) j_M_of [.ref (sh 4 0), .int (nI p), .int (2 : Int32)] (ub σ 4 (mdC M)) = some (some (.int (S.1 2 p)), ub σ 4 (mdC M)) := by
  have hr : xrd X (ub σ 4 (mdC M)) [0] (sh 4 1) ((6 : Int32) + 4 * nI p + (2 : Int32)) = some (M.1 0 (6 + 4 * p + 2)) := by
    have e := ix_of p 2
    have e : (6 : Int32) + 4 * nI p + (2 : Int32) = _ := e
    rw [e]
    exact mr1 (by omega)
  rw [e_M_of]
  simp only [s_M_of_0, s_M_of_4, s_M_of_13, Option.bind_some, Option.bind_none, Option.toList_some, Option.toList_none, List.cons_append, List.nil_append, List.append_nil, mv_0, mg_0_0, mg_0_1, mg_0_2, mg_0_3, mg_0_4, mg_0_5, mg_0_6, mg_0_7, mg_0_8, mg_0_9, mg_0_10, mg_0_11, mg_0_12, mg_0_13, mg_0_14, mg_0_15, mg_0_16, mg_0_17, mg_0_18, mg_0_19, mg_0_20, hr, h.p2 p hp]
theorem c_M_lets2 {p : Nat} (hp : p < 8) (x : Int32) : xcall X (d + 1) j_M_lets [.ref (sh 4 0), .int (nI p), .int (2 : Int32), .int x] (ub σ 4 (mdC M)) = some (none, ub σ 4 (mdC (u2 M.1 0 (upd (M.1 0) (6 + 4 * p + 2) x), M.2))) := by
  have hr : xwr (ub σ 4 (mdC M)) [0] (sh 4 1) ((6 : Int32) + 4 * nI p + (2 : Int32)) x = some (ub σ 4 (mdC (u2 M.1 0 (upd (M.1 0) (6 + 4 * p + 2) x), M.2))) := by
    have e := ix_of p 2
    have e : (6 : Int32) + 4 * nI p + (2 : Int32) = _ := e
    rw [e]
    exact mw1 (by omega) x
  rw [e_M_lets]
  simp only [s_M_lets_0, s_M_lets_4, s_M_lets_14, Option.bind_some, Option.bind_none, Option.toList_some, Option.toList_none, List.cons_append, List.nil_append, List.append_nil, mv_0, mg_0_0, mg_0_1, mg_0_2, mg_0_3, mg_0_4, mg_0_5, mg_0_6, mg_0_7, mg_0_8, mg_0_9, mg_0_10, mg_0_11, mg_0_12, mg_0_13, mg_0_14, mg_0_15, mg_0_16, mg_0_17, mg_0_18, mg_0_19, mg_0_20, hr]
theorem c_M_of3 (h : RS (M.1 0) S) {p : Nat} (hp : p < 8) : xcall X (d + 1) j_M_of [.ref (sh 4 0), .int (nI p), .int (3 : Int32)] (ub σ 4 (mdC M)) = some (some (.int (S.1 3 p)), ub σ 4 (mdC M)) := by
  have hr : xrd X (ub σ 4 (mdC M)) [0] (sh 4 1) ((6 : Int32) + 4 * nI p + (3 : Int32)) = some (M.1 0 (6 + 4 * p + 3)) := by
    have e := ix_of p 3
    have e : (6 : Int32) + 4 * nI p + (3 : Int32) = _ := e
    rw [e]
    exact mr1 (by omega)
  rw [e_M_of]
  simp only [s_M_of_0, s_M_of_4, s_M_of_13, Option.bind_some, Option.bind_none, Option.toList_some, Option.toList_none, List.cons_append, List.nil_append, List.append_nil, mv_0, mg_0_0, mg_0_1, mg_0_2, mg_0_3, mg_0_4, mg_0_5, mg_0_6, mg_0_7, mg_0_8, mg_0_9, mg_0_10, mg_0_11, mg_0_12, mg_0_13, mg_0_14, mg_0_15, mg_0_16, mg_0_17, mg_0_18, mg_0_19, mg_0_20, hr, h.p3 p hp]
theorem c_M_lets3 {p : Nat} (hp : p < 8) (x : Int32) : xcall X (d + 1) j_M_lets [.ref (sh 4 0), .int (nI p), .int (3 : Int32), .int x] (ub σ 4 (mdC M)) = some (none, ub σ 4 (mdC (u2 M.1 0 (upd (M.1 0) (6 + 4 * p + 3) x), M.2))) := by
  have hr : xwr (ub σ 4 (mdC M)) [0] (sh 4 1) ((6 : Int32) + 4 * nI p + (3 : Int32)) x = some (ub σ 4 (mdC (u2 M.1 0 (upd (M.1 0) (6 + 4 * p + 3) x), M.2))) := by
    have e := ix_of p 3
    have e : (6 : Int32) + 4 * nI p + (3 : Int32) = _ := e
    rw [e]
    exact mw1 (by omega) x
  rw [e_M_lets]
  simp only [s_M_lets_0, s_M_lets_4, s_M_lets_14, Option.bind_some, Option.bind_none, Option.toList_some, Option.toList_none, List.cons_append, List.nil_append, List.append_nil, mv_0, mg_0_0, mg_0_1, mg_0_2, mg_0_3, mg_0_4, mg_0_5, mg_0_6, mg_0_7, mg_0_8, mg_0_9, mg_0_10, mg_0_11, mg_0_12, mg_0_13, mg_0_14, mg_0_15, mg_0_16, mg_0_17, mg_0_18, mg_0_19, mg_0_20, hr]
theorem c_M_spotOf {a c : Nat} : xcall X (d + 1) j_M_spotOf [.int (nI a), .int (nI c)] σ = some (some (.int (nI (38 + (8 * a + c)))), σ) := by
  rw [e_M_spotOf, s_M_spotOf_0]
  have e : (38 : Int32) + 8 * nI a + nI c = nI (38 + (8 * a + c)) := by
    rw [show (8 : Int32) * nI a = nI (8 * a) from (Int32.ofNat_mul 8 a).symm, show (38 : Int32) = nI 38 from rfl, nI_add, nI_add, Nat.add_assoc]
  rw [e]
theorem c_M_becomes {k : Nat} (hk : k < 428) (x : Int32) : xcall X (d + 1) j_M_becomes [.ref (sh 4 0), .int (nI k), .int x] (ub σ 4 (mdC M)) = some (some (.int (M.1 0 k)), ub σ 4 (mdC (u2 M.1 0 (upd (M.1 0) k x), M.2))) := by
  rw [e_M_becomes]
  simp only [s_M_becomes_0, s_M_becomes_4, s_M_becomes_6, s_M_becomes_11, s_M_becomes_14, Option.bind_some, Option.bind_none, Option.toList_some, Option.toList_none, List.cons_append, List.nil_append, List.append_nil, mv_0, mg_0_0, mg_0_1, mg_0_2, mg_0_3, mg_0_4, mg_0_5, mg_0_6, mg_0_7, mg_0_8, mg_0_9, mg_0_10, mg_0_11, mg_0_12, mg_0_13, mg_0_14, mg_0_15, mg_0_16, mg_0_17, mg_0_18, mg_0_19, mg_0_20, mr1 hk, mw1 hk]
theorem c_M_isKm (v : Int32) : xcall X (d + 2) j_M_isKm [.int v] σ = some (some (.int (z1 (0 ≤ v ∧ v ≤ 69))), σ) := by
  rw [e_M_isKm]
  simp only [s_M_isKm_0, s_M_isKm_7, Option.bind_some, Option.bind_none, Option.toList_some, Option.toList_none, List.cons_append, List.nil_append, List.append_nil, c_M_in, xzz, if_true]
theorem c_M_areTwo (h : RS (M.1 0) S) (a c : Int32) : xcall X (d + 3) j_M_areTwo [.ref (sh 4 0), .int a, .int c] (ub σ 4 (mdC M)) = some (some (.int (z1 (hasP S a ∧ hasP S c ∧ a ≠ c))), ub σ 4 (mdC M)) := by
  rw [e_M_areTwo]
  simp only [s_M_areTwo_0, s_M_areTwo_25, s_M_areTwo_26, s_M_areTwo_5, s_M_areTwo_8, s_M_areTwo_13, s_M_areTwo_16, s_M_areTwo_21, Option.bind_some, Option.bind_none, Option.toList_some, Option.toList_none, List.cons_append, List.nil_append, List.append_nil, mv_0, mg_0_0, mg_0_1, mg_0_2, mg_0_3, mg_0_4, mg_0_5, mg_0_6, mg_0_7, mg_0_8, mg_0_9, mg_0_10, mg_0_11, mg_0_12, mg_0_13, mg_0_14, mg_0_15, mg_0_16, mg_0_17, mg_0_18, mg_0_19, mg_0_20, c_M_isPerson h, z1_0, xz1, xz0, if_true]
  by_cases h1 : hasP S a
  · rw [if_neg (not_not_intro h1)]
    by_cases h2 : hasP S c
    · rw [if_neg (not_not_intro h2)]
      by_cases h3 : a = c
      · rw [if_pos h3, z1_f (fun h => h.2.2 h3)]
      · rw [if_neg h3, z1_t ⟨h1, h2, h3⟩]
    · rw [if_pos h2, z1_f (fun h => h2 h.2.1)]
  · rw [if_pos h1, z1_f (fun h => h1 h.1)]
theorem c_M_isAshore (h : RS (M.1 0) S) {p : Nat} (hp : p < 8) : xcall X (d + 2) j_M_isAshore [.ref (sh 4 0), .int (nI p)] (ub σ 4 (mdC M)) = some (some (.int (z1 (S.1 2 p = 0 ∧ S.1 3 p = 0))), ub σ 4 (mdC M)) := by
  rw [e_M_isAshore]
  simp only [s_M_isAshore_0, s_M_isAshore_22, s_M_isAshore_23, s_M_isAshore_6, s_M_isAshore_9, s_M_isAshore_15, s_M_isAshore_18, Option.bind_some, Option.bind_none, Option.toList_some, Option.toList_none, List.cons_append, List.nil_append, List.append_nil, mv_0, mg_0_0, mg_0_1, mg_0_2, mg_0_3, mg_0_4, mg_0_5, mg_0_6, mg_0_7, mg_0_8, mg_0_9, mg_0_10, mg_0_11, mg_0_12, mg_0_13, mg_0_14, mg_0_15, mg_0_16, mg_0_17, mg_0_18, mg_0_19, mg_0_20, c_M_of2 h hp, c_M_of3 h hp, xz1, xz0, if_true]
  by_cases h1 : S.1 2 p = 0
  · rw [if_pos h1]
    by_cases h2 : S.1 3 p = 0
    · rw [if_pos h2, z1_t ⟨h1, h2⟩]
    · rw [if_neg h2, z1_f (fun h => h2 h.2)]
  · rw [if_neg h1, z1_f (fun h => h1 h.1)]
theorem c_M_givesTo (hS : okS S) (h : RS (M.1 0) S) {a c : Nat} (ha : a < 8) (hc : c < 8) (t : Int32) : xcall X (d + 2) j_M_givesTo [.ref (sh 4 0), .int (nI a), .int (nI c), .int t] (ub σ 4 (mdC M)) = some (some (.int (gv (kd S a) (S.1 1 a) (S.2 3) (S.1 2 c) t)), ub σ 4 (mdC M)) := by
  obtain ⟨hk1, hk2⟩ := hS.2.1 a ha
  rw [e_M_givesTo]
  simp only [s_M_givesTo_0, s_M_givesTo_6, s_M_givesTo_14, Option.bind_some, Option.bind_none, Option.toList_some, Option.toList_none, List.cons_append, List.nil_append, List.append_nil, mv_0, mg_0_0, mg_0_1, mg_0_2, mg_0_3, mg_0_4, mg_0_5, mg_0_6, mg_0_7, mg_0_8, mg_0_9, mg_0_10, mg_0_11, mg_0_12, mg_0_13, mg_0_14, mg_0_15, mg_0_16, mg_0_17, mg_0_18, mg_0_19, mg_0_20, c_M_of1 h ha, c_M_of0 h ha, hk1]
  revert hk2
  generalize kd S a = k
  intro hk2
  obtain rfl | rfl | rfl | rfl | rfl | rfl | rfl : k = 0 ∨ k = 1 ∨ k = 2 ∨ k = 3 ∨ k = 4 ∨ k = 5 ∨ k = 6 := by omega
  · rw [show xsw [(1, 52), (2, 57), (3, 64), (4, 79), (5, 91), (6, 101)] 120 (nI 0) = 120 from by decide +kernel, s_M_givesTo_120]
    rfl
  · rw [show xsw [(1, 52), (2, 57), (3, 64), (4, 79), (5, 91), (6, 101)] 120 (nI 1) = 52 from by decide +kernel, s_M_givesTo_52]
    rfl
  · rw [show xsw [(1, 52), (2, 57), (3, 64), (4, 79), (5, 91), (6, 101)] 120 (nI 2) = 57 from by decide +kernel, s_M_givesTo_57]
    rfl
  · rw [show xsw [(1, 52), (2, 57), (3, 64), (4, 79), (5, 91), (6, 101)] 120 (nI 3) = 64 from by decide +kernel, s_M_givesTo_64]
    show _ = some (some (Value.int (if t < 10 + S.1 1 a then 0 else t)), _)
    by_cases h1 : 10 + S.1 1 a ≤ t
    · rw [if_pos h1, if_neg (i32_nlt.mpr h1), s_M_givesTo_77, s_M_givesTo_78]
    · rw [if_neg h1, if_pos (i32_nle.mp h1), s_M_givesTo_73, s_M_givesTo_78]
  · rw [show xsw [(1, 52), (2, 57), (3, 64), (4, 79), (5, 91), (6, 101)] 120 (nI 4) = 79 from by decide +kernel]
    simp only [s_M_givesTo_79, s_M_givesTo_87, s_M_givesTo_89, Option.bind_some, Option.bind_none, Option.toList_some, Option.toList_none, List.cons_append, List.nil_append, List.append_nil, mv_0, mg_0_0, mg_0_1, mg_0_2, mg_0_3, mg_0_4, mg_0_5, mg_0_6, mg_0_7, mg_0_8, mg_0_9, mg_0_10, mg_0_11, mg_0_12, mg_0_13, mg_0_14, mg_0_15, mg_0_16, mg_0_17, mg_0_18, mg_0_19, mg_0_20, mrc_3, h.se]
    rfl
  · rw [show xsw [(1, 52), (2, 57), (3, 64), (4, 79), (5, 91), (6, 101)] 120 (nI 5) = 91 from by decide +kernel, s_M_givesTo_91]
    rfl
  · rw [show xsw [(1, 52), (2, 57), (3, 64), (4, 79), (5, 91), (6, 101)] 120 (nI 6) = 101 from by decide +kernel]
    simp only [s_M_givesTo_101, s_M_givesTo_107, Option.bind_some, Option.bind_none, Option.toList_some, Option.toList_none, List.cons_append, List.nil_append, List.append_nil, mv_0, mg_0_0, mg_0_1, mg_0_2, mg_0_3, mg_0_4, mg_0_5, mg_0_6, mg_0_7, mg_0_8, mg_0_9, mg_0_10, mg_0_11, mg_0_12, mg_0_13, mg_0_14, mg_0_15, mg_0_16, mg_0_17, mg_0_18, mg_0_19, mg_0_20, c_M_of2 h hc]
    show _ = some (some (Value.int (if 50 < S.1 2 c then 2 * t else t)), _)
    by_cases h1 : S.1 2 c ≤ 50
    · rw [if_pos h1, if_neg (i32_nlt.mpr h1), s_M_givesTo_118, s_M_givesTo_119]
    · rw [if_neg h1, if_pos (i32_nle.mp h1), s_M_givesTo_112, s_M_givesTo_119]
theorem c_M_turnsOf (hS : okS S) (h : RS (M.1 0) S) {a c : Nat} (ha : a < 8) (hc : c < 8) : xcall X (d + 2) j_M_turnsOf [.ref (sh 4 0), .int (nI a), .int (nI c)] (ub σ 4 (mdC M)) = some (some (.int (tn (kd S a) (S.2 4) (S.1 2 c) (S.1 4 (8 * a + c)))), ub σ 4 (mdC M)) := by
  obtain ⟨hk1, hk2⟩ := hS.2.1 a ha
  have hsp : 38 + (8 * a + c) < 428 := by omega
  have hnt : xrun (X, xcall X (d + 1)) j_M_turnsOf 6 [.ref (sh 4 0), .int (nI a), .int (nI c), .null] [.int (S.1 2 c)] (ub σ 4 (mdC M)) = xrun (X, xcall X (d + 1)) j_M_turnsOf 14 [.ref (sh 4 0), .int (nI a), .int (nI c), .null] [.int (tn0 (S.1 2 c))] (ub σ 4 (mdC M)) := by
    rw [s_M_turnsOf_6]
    unfold tn0
    by_cases h1 : S.1 2 c ≤ 0
    · rw [if_pos h1, if_neg (i32_nlt.mpr h1), s_M_turnsOf_13]
    · rw [if_neg h1, if_pos (i32_nle.mp h1), s_M_turnsOf_9]
  rw [e_M_turnsOf]
  simp only [s_M_turnsOf_0, Option.bind_some, Option.bind_none, Option.toList_some, Option.toList_none, List.cons_append, List.nil_append, List.append_nil, mv_0, mg_0_0, mg_0_1, mg_0_2, mg_0_3, mg_0_4, mg_0_5, mg_0_6, mg_0_7, mg_0_8, mg_0_9, mg_0_10, mg_0_11, mg_0_12, mg_0_13, mg_0_14, mg_0_15, mg_0_16, mg_0_17, mg_0_18, mg_0_19, mg_0_20, c_M_of2 h hc]
  rw [hnt]
  simp only [s_M_turnsOf_14, s_M_turnsOf_21, Option.bind_some, Option.bind_none, Option.toList_some, Option.toList_none, List.cons_append, List.nil_append, List.append_nil, mv_0, mg_0_0, mg_0_1, mg_0_2, mg_0_3, mg_0_4, mg_0_5, mg_0_6, mg_0_7, mg_0_8, mg_0_9, mg_0_10, mg_0_11, mg_0_12, mg_0_13, mg_0_14, mg_0_15, mg_0_16, mg_0_17, mg_0_18, mg_0_19, mg_0_20, c_M_of0 h ha, hk1]
  revert hk2
  generalize kd S a = k
  intro hk2
  obtain rfl | rfl | rfl | rfl | rfl | rfl | rfl : k = 0 ∨ k = 1 ∨ k = 2 ∨ k = 3 ∨ k = 4 ∨ k = 5 ∨ k = 6 := by omega
  · rw [show xsw [(1, 60), (2, 71), (3, 112), (4, 73), (5, 86), (6, 108)] 112 (nI 0) = 112 from by decide +kernel, s_M_turnsOf_112]
    rfl
  · rw [show xsw [(1, 60), (2, 71), (3, 112), (4, 73), (5, 86), (6, 108)] 112 (nI 1) = 60 from by decide +kernel]
    simp only [s_M_turnsOf_60, s_M_turnsOf_65, s_M_turnsOf_67, Option.bind_some, Option.bind_none, Option.toList_some, Option.toList_none, List.cons_append, List.nil_append, List.append_nil, mv_0, mg_0_0, mg_0_1, mg_0_2, mg_0_3, mg_0_4, mg_0_5, mg_0_6, mg_0_7, mg_0_8, mg_0_9, mg_0_10, mg_0_11, mg_0_12, mg_0_13, mg_0_14, mg_0_15, mg_0_16, mg_0_17, mg_0_18, mg_0_19, mg_0_20, mrc_0, h.dy]
    rfl
  · rw [show xsw [(1, 60), (2, 71), (3, 112), (4, 73), (5, 86), (6, 108)] 112 (nI 2) = 71 from by decide +kernel, s_M_turnsOf_71]
    rfl
  · rw [show xsw [(1, 60), (2, 71), (3, 112), (4, 73), (5, 86), (6, 108)] 112 (nI 3) = 112 from by decide +kernel, s_M_turnsOf_112]
    rfl
  · rw [show xsw [(1, 60), (2, 71), (3, 112), (4, 73), (5, 86), (6, 108)] 112 (nI 4) = 73 from by decide +kernel]
    simp only [s_M_turnsOf_73, s_M_turnsOf_78, s_M_turnsOf_80, Option.bind_some, Option.bind_none, Option.toList_some, Option.toList_none, List.cons_append, List.nil_append, List.append_nil, mv_0, mg_0_0, mg_0_1, mg_0_2, mg_0_3, mg_0_4, mg_0_5, mg_0_6, mg_0_7, mg_0_8, mg_0_9, mg_0_10, mg_0_11, mg_0_12, mg_0_13, mg_0_14, mg_0_15, mg_0_16, mg_0_17, mg_0_18, mg_0_19, mg_0_20, mrc_0, h.dy]
    rfl
  · rw [show xsw [(1, 60), (2, 71), (3, 112), (4, 73), (5, 86), (6, 108)] 112 (nI 5) = 86 from by decide +kernel]
    simp only [s_M_turnsOf_86, s_M_turnsOf_90, s_M_turnsOf_95, s_M_turnsOf_96, Option.bind_some, Option.bind_none, Option.toList_some, Option.toList_none, List.cons_append, List.nil_append, List.append_nil, mv_0, mg_0_0, mg_0_1, mg_0_2, mg_0_3, mg_0_4, mg_0_5, mg_0_6, mg_0_7, mg_0_8, mg_0_9, mg_0_10, mg_0_11, mg_0_12, mg_0_13, mg_0_14, mg_0_15, mg_0_16, mg_0_17, mg_0_18, mg_0_19, mg_0_20, c_M_spotOf, mr1 hsp, h.tk (8 * a + c) (by omega)]
    show _ = some (some (Value.int (if S.1 4 (8 * a + c) < 20 then 0 + 2 else 0 - 2)), _)
    by_cases h1 : 20 ≤ S.1 4 (8 * a + c)
    · rw [if_pos h1, if_neg (i32_nlt.mpr h1), s_M_turnsOf_105, s_M_turnsOf_107]
      rfl
    · rw [if_neg h1, if_pos (i32_nle.mp h1), s_M_turnsOf_101, s_M_turnsOf_107]
      rfl
  · rw [show xsw [(1, 60), (2, 71), (3, 112), (4, 73), (5, 86), (6, 108)] 112 (nI 6) = 108 from by decide +kernel, s_M_turnsOf_108]
    rfl
end Mod1
