/-! ===== the law, call by call ===== -/
section Law
variable {X : xX} {σ : xW}
theorem rd_scr {L : Nat} {f : Nat → Int32} (hok : σ 15 = []) (hL : L ≤ 3072) {k : Nat} (hk : k < L) : xrd (L, f) σ [0] 1002 (nI k) = some (f k) := by
  have hg : xg σ 1002 = none := by
    unfold xg
    rw [show 1002 / 64 = 15 from rfl, hok]
    rfl
  have hc : xct (L, f) 1002 = some (0, L, f) := rfl
  unfold xrd
  rw [hg]
  simp only [hc]
  have h2 : (nI k).toNatClampNeg = k := nI_clamp (by omega)
  rw [h2, if_pos ⟨List.mem_singleton.mpr rfl, nI_pos (by omega), hk⟩]
theorem rd_scr2 {L : Nat} {f : Nat → Int32} (hok : σ 15 = []) (hL : L ≤ 3072) {k j : Nat} (hk : k + j < L) : xrd (L, f) σ [0] 1002 (nI k + nI j) = some (f (k + j)) := by
  rw [nI_add]
  exact rd_scr hok hL hk
theorem al_scr {L : Nat} {f : Nat → Int32} (hok : σ 15 = []) : xal (L, f) σ 1002 = some L := by
  have hg : xg σ 1002 = none := by
    unfold xg
    rw [show 1002 / 64 = 15 from rfl, hok]
    rfl
  unfold xal
  rw [hg]
  rfl
theorem w_person {L : Nat} {f : Nat → Int32} (hL : L ≤ 3072) {i : Nat} (hi : i + 6 ≤ L) (h : LI σ) : ∃ σ2, LI σ2 ∧ xrun ((L, f), xcall (L, f) 60) j_L_law 192 [.ref 1002, .ref (sh 0 0), .ref (sh 4 0), .int (nI i)] [] σ = xrun ((L, f), xcall (L, f) 60) j_L_law 1340 [.ref 1002, .ref (sh 0 0), .ref (sh 4 0), .int (nI i)] [] σ2 := by
  obtain ⟨v, σ1, σ2, h1, h2, g1, g2, g3⟩ := k_person (X := (L, f)) h (f (i + 1))
  have r1 : xrd (L, f) σ [0] 1002 (nI i + (1 : Int32)) = some (f (i + 1)) := rd_scr2 h.s15 hL (k := i) (j := 1) (by omega)
  have t1 : xrd (L, f) σ1 [0] 1002 (nI i + (1 : Int32)) = some (f (i + 1)) := rd_scr2 g1 hL (k := i) (j := 1) (by omega)
  refine ⟨σ2, g3, ?_⟩
  simp only [s_L_law_192, s_L_law_198, s_L_law_201, s_L_law_207, s_L_law_210, s_L_law_213, Option.bind_some, Option.bind_none, Option.toList_some, Option.toList_none, List.cons_append, List.nil_append, List.append_nil, r1, t1, h.r, h1, g2, h2, if_true]
theorem w_personIs {L : Nat} {f : Nat → Int32} (hL : L ≤ 3072) {i : Nat} (hi : i + 6 ≤ L) (h : LI σ) : ∃ σ2, LI σ2 ∧ xrun ((L, f), xcall (L, f) 60) j_L_law 215 [.ref 1002, .ref (sh 0 0), .ref (sh 4 0), .int (nI i)] [] σ = xrun ((L, f), xcall (L, f) 60) j_L_law 1340 [.ref 1002, .ref (sh 0 0), .ref (sh 4 0), .int (nI i)] [] σ2 := by
  obtain ⟨v, σ1, σ2, h1, h2, g1, g2, g3⟩ := k_personIs (X := (L, f)) h (f (i + 1)) (f (i + 2))
  have r1 : xrd (L, f) σ [0] 1002 (nI i + (1 : Int32)) = some (f (i + 1)) := rd_scr2 h.s15 hL (k := i) (j := 1) (by omega)
  have t1 : xrd (L, f) σ1 [0] 1002 (nI i + (1 : Int32)) = some (f (i + 1)) := rd_scr2 g1 hL (k := i) (j := 1) (by omega)
  have r2 : xrd (L, f) σ [0] 1002 (nI i + (2 : Int32)) = some (f (i + 2)) := rd_scr2 h.s15 hL (k := i) (j := 2) (by omega)
  have t2 : xrd (L, f) σ1 [0] 1002 (nI i + (2 : Int32)) = some (f (i + 2)) := rd_scr2 g1 hL (k := i) (j := 2) (by omega)
  refine ⟨σ2, g3, ?_⟩
  simp only [s_L_law_215, s_L_law_221, s_L_law_226, s_L_law_229, s_L_law_235, s_L_law_240, s_L_law_243, s_L_law_246, Option.bind_some, Option.bind_none, Option.toList_some, Option.toList_none, List.cons_append, List.nil_append, List.append_nil, r1, t1, r2, t2, h.r, h1, g2, h2, if_true]
theorem w_become {L : Nat} {f : Nat → Int32} (hL : L ≤ 3072) {i : Nat} (hi : i + 6 ≤ L) (h : LI σ) : ∃ σ2, LI σ2 ∧ xrun ((L, f), xcall (L, f) 60) j_L_law 248 [.ref 1002, .ref (sh 0 0), .ref (sh 4 0), .int (nI i)] [] σ = xrun ((L, f), xcall (L, f) 60) j_L_law 1340 [.ref 1002, .ref (sh 0 0), .ref (sh 4 0), .int (nI i)] [] σ2 := by
  obtain ⟨v, σ1, σ2, h1, h2, g1, g2, g3⟩ := k_become (X := (L, f)) h (f (i + 1)) (f (i + 2))
  have r1 : xrd (L, f) σ [0] 1002 (nI i + (1 : Int32)) = some (f (i + 1)) := rd_scr2 h.s15 hL (k := i) (j := 1) (by omega)
  have t1 : xrd (L, f) σ1 [0] 1002 (nI i + (1 : Int32)) = some (f (i + 1)) := rd_scr2 g1 hL (k := i) (j := 1) (by omega)
  have r2 : xrd (L, f) σ [0] 1002 (nI i + (2 : Int32)) = some (f (i + 2)) := rd_scr2 h.s15 hL (k := i) (j := 2) (by omega)
  have t2 : xrd (L, f) σ1 [0] 1002 (nI i + (2 : Int32)) = some (f (i + 2)) := rd_scr2 g1 hL (k := i) (j := 2) (by omega)
  refine ⟨σ2, g3, ?_⟩
  simp only [s_L_law_248, s_L_law_254, s_L_law_259, s_L_law_262, s_L_law_268, s_L_law_273, s_L_law_276, s_L_law_279, Option.bind_some, Option.bind_none, Option.toList_some, Option.toList_none, List.cons_append, List.nil_append, List.append_nil, r1, t1, r2, t2, h.r, h1, g2, h2, if_true]
theorem w_as {L : Nat} {f : Nat → Int32} (hL : L ≤ 3072) {i : Nat} (hi : i + 6 ≤ L) (h : LI σ) : ∃ σ2, LI σ2 ∧ xrun ((L, f), xcall (L, f) 60) j_L_law 281 [.ref 1002, .ref (sh 0 0), .ref (sh 4 0), .int (nI i)] [] σ = xrun ((L, f), xcall (L, f) 60) j_L_law 1340 [.ref 1002, .ref (sh 0 0), .ref (sh 4 0), .int (nI i)] [] σ2 := by
  obtain ⟨v, σ1, σ2, h1, h2, g1, g2, g3⟩ := k_as (X := (L, f)) h (f (i + 1)) (f (i + 2))
  have r1 : xrd (L, f) σ [0] 1002 (nI i + (1 : Int32)) = some (f (i + 1)) := rd_scr2 h.s15 hL (k := i) (j := 1) (by omega)
  have t1 : xrd (L, f) σ1 [0] 1002 (nI i + (1 : Int32)) = some (f (i + 1)) := rd_scr2 g1 hL (k := i) (j := 1) (by omega)
  have r2 : xrd (L, f) σ [0] 1002 (nI i + (2 : Int32)) = some (f (i + 2)) := rd_scr2 h.s15 hL (k := i) (j := 2) (by omega)
  have t2 : xrd (L, f) σ1 [0] 1002 (nI i + (2 : Int32)) = some (f (i + 2)) := rd_scr2 g1 hL (k := i) (j := 2) (by omega)
  refine ⟨σ2, g3, ?_⟩
  simp only [s_L_law_281, s_L_law_287, s_L_law_292, s_L_law_295, s_L_law_301, s_L_law_306, s_L_law_309, s_L_law_312, Option.bind_some, Option.bind_none, Option.toList_some, Option.toList_none, List.cons_append, List.nil_append, List.append_nil, r1, t1, r2, t2, h.r, h1, g2, h2, if_true]
theorem w_tells {L : Nat} {f : Nat → Int32} (hL : L ≤ 3072) {i : Nat} (hi : i + 6 ≤ L) (h : LI σ) : ∃ σ2, LI σ2 ∧ xrun ((L, f), xcall (L, f) 60) j_L_law 314 [.ref 1002, .ref (sh 0 0), .ref (sh 4 0), .int (nI i)] [] σ = xrun ((L, f), xcall (L, f) 60) j_L_law 1340 [.ref 1002, .ref (sh 0 0), .ref (sh 4 0), .int (nI i)] [] σ2 := by
  obtain ⟨v, σ1, σ2, h1, h2, g1, g2, g3⟩ := k_tells (X := (L, f)) h (f (i + 1)) (f (i + 2)) (f (i + 3))
  have r1 : xrd (L, f) σ [0] 1002 (nI i + (1 : Int32)) = some (f (i + 1)) := rd_scr2 h.s15 hL (k := i) (j := 1) (by omega)
  have t1 : xrd (L, f) σ1 [0] 1002 (nI i + (1 : Int32)) = some (f (i + 1)) := rd_scr2 g1 hL (k := i) (j := 1) (by omega)
  have r2 : xrd (L, f) σ [0] 1002 (nI i + (2 : Int32)) = some (f (i + 2)) := rd_scr2 h.s15 hL (k := i) (j := 2) (by omega)
  have t2 : xrd (L, f) σ1 [0] 1002 (nI i + (2 : Int32)) = some (f (i + 2)) := rd_scr2 g1 hL (k := i) (j := 2) (by omega)
  have r3 : xrd (L, f) σ [0] 1002 (nI i + (3 : Int32)) = some (f (i + 3)) := rd_scr2 h.s15 hL (k := i) (j := 3) (by omega)
  have t3 : xrd (L, f) σ1 [0] 1002 (nI i + (3 : Int32)) = some (f (i + 3)) := rd_scr2 g1 hL (k := i) (j := 3) (by omega)
  refine ⟨σ2, g3, ?_⟩
  simp only [s_L_law_314, s_L_law_320, s_L_law_325, s_L_law_330, s_L_law_333, s_L_law_339, s_L_law_344, s_L_law_349, s_L_law_352, s_L_law_355, Option.bind_some, Option.bind_none, Option.toList_some, Option.toList_none, List.cons_append, List.nil_append, List.append_nil, r1, t1, r2, t2, r3, t3, h.r, h1, g2, h2, if_true]
theorem w_rope {L : Nat} {f : Nat → Int32} (hL : L ≤ 3072) {i : Nat} (hi : i + 6 ≤ L) (h : LI σ) : ∃ σ2, LI σ2 ∧ xrun ((L, f), xcall (L, f) 60) j_L_law 357 [.ref 1002, .ref (sh 0 0), .ref (sh 4 0), .int (nI i)] [] σ = xrun ((L, f), xcall (L, f) 60) j_L_law 1340 [.ref 1002, .ref (sh 0 0), .ref (sh 4 0), .int (nI i)] [] σ2 := by
  obtain ⟨v, σ1, σ2, h1, h2, g1, g2, g3⟩ := k_rope (X := (L, f)) h (f (i + 1)) (f (i + 2))
  have r1 : xrd (L, f) σ [0] 1002 (nI i + (1 : Int32)) = some (f (i + 1)) := rd_scr2 h.s15 hL (k := i) (j := 1) (by omega)
  have t1 : xrd (L, f) σ1 [0] 1002 (nI i + (1 : Int32)) = some (f (i + 1)) := rd_scr2 g1 hL (k := i) (j := 1) (by omega)
  have r2 : xrd (L, f) σ [0] 1002 (nI i + (2 : Int32)) = some (f (i + 2)) := rd_scr2 h.s15 hL (k := i) (j := 2) (by omega)
  have t2 : xrd (L, f) σ1 [0] 1002 (nI i + (2 : Int32)) = some (f (i + 2)) := rd_scr2 g1 hL (k := i) (j := 2) (by omega)
  refine ⟨σ2, g3, ?_⟩
  simp only [s_L_law_357, s_L_law_363, s_L_law_368, s_L_law_371, s_L_law_377, s_L_law_382, s_L_law_385, s_L_law_388, Option.bind_some, Option.bind_none, Option.toList_some, Option.toList_none, List.cons_append, List.nil_append, List.append_nil, r1, t1, r2, t2, h.r, h1, g2, h2, if_true]
theorem w_swim {L : Nat} {f : Nat → Int32} (hL : L ≤ 3072) {i : Nat} (hi : i + 6 ≤ L) (h : LI σ) : ∃ σ2, LI σ2 ∧ xrun ((L, f), xcall (L, f) 60) j_L_law 390 [.ref 1002, .ref (sh 0 0), .ref (sh 4 0), .int (nI i)] [] σ = xrun ((L, f), xcall (L, f) 60) j_L_law 1340 [.ref 1002, .ref (sh 0 0), .ref (sh 4 0), .int (nI i)] [] σ2 := by
  obtain ⟨v, σ1, σ2, h1, h2, g1, g2, g3⟩ := k_swim (X := (L, f)) h (f (i + 1)) (f (i + 2))
  have r1 : xrd (L, f) σ [0] 1002 (nI i + (1 : Int32)) = some (f (i + 1)) := rd_scr2 h.s15 hL (k := i) (j := 1) (by omega)
  have t1 : xrd (L, f) σ1 [0] 1002 (nI i + (1 : Int32)) = some (f (i + 1)) := rd_scr2 g1 hL (k := i) (j := 1) (by omega)
  have r2 : xrd (L, f) σ [0] 1002 (nI i + (2 : Int32)) = some (f (i + 2)) := rd_scr2 h.s15 hL (k := i) (j := 2) (by omega)
  have t2 : xrd (L, f) σ1 [0] 1002 (nI i + (2 : Int32)) = some (f (i + 2)) := rd_scr2 g1 hL (k := i) (j := 2) (by omega)
  refine ⟨σ2, g3, ?_⟩
  simp only [s_L_law_390, s_L_law_396, s_L_law_401, s_L_law_404, s_L_law_410, s_L_law_415, s_L_law_418, s_L_law_421, Option.bind_some, Option.bind_none, Option.toList_some, Option.toList_none, List.cons_append, List.nil_append, List.append_nil, r1, t1, r2, t2, h.r, h1, g2, h2, if_true]
theorem w_saves {L : Nat} {f : Nat → Int32} (hL : L ≤ 3072) {i : Nat} (hi : i + 6 ≤ L) (h : LI σ) : ∃ σ2, LI σ2 ∧ xrun ((L, f), xcall (L, f) 60) j_L_law 423 [.ref 1002, .ref (sh 0 0), .ref (sh 4 0), .int (nI i)] [] σ = xrun ((L, f), xcall (L, f) 60) j_L_law 1340 [.ref 1002, .ref (sh 0 0), .ref (sh 4 0), .int (nI i)] [] σ2 := by
  obtain ⟨v, σ1, σ2, h1, h2, g1, g2, g3⟩ := k_saves (X := (L, f)) h (f (i + 1))
  have r1 : xrd (L, f) σ [0] 1002 (nI i + (1 : Int32)) = some (f (i + 1)) := rd_scr2 h.s15 hL (k := i) (j := 1) (by omega)
  have t1 : xrd (L, f) σ1 [0] 1002 (nI i + (1 : Int32)) = some (f (i + 1)) := rd_scr2 g1 hL (k := i) (j := 1) (by omega)
  refine ⟨σ2, g3, ?_⟩
  simp only [s_L_law_423, s_L_law_429, s_L_law_432, s_L_law_438, s_L_law_441, s_L_law_444, Option.bind_some, Option.bind_none, Option.toList_some, Option.toList_none, List.cons_append, List.nil_append, List.append_nil, r1, t1, h.r, h1, g2, h2, if_true]
theorem w_weather {L : Nat} {f : Nat → Int32} (hL : L ≤ 3072) {i : Nat} (hi : i + 6 ≤ L) (h : LI σ) : ∃ σ2, LI σ2 ∧ xrun ((L, f), xcall (L, f) 60) j_L_law 446 [.ref 1002, .ref (sh 0 0), .ref (sh 4 0), .int (nI i)] [] σ = xrun ((L, f), xcall (L, f) 60) j_L_law 1340 [.ref 1002, .ref (sh 0 0), .ref (sh 4 0), .int (nI i)] [] σ2 := by
  obtain ⟨v, σ1, σ2, h1, h2, g1, g2, g3⟩ := k_weather (X := (L, f)) h (f (i + 1))
  have r1 : xrd (L, f) σ [0] 1002 (nI i + (1 : Int32)) = some (f (i + 1)) := rd_scr2 h.s15 hL (k := i) (j := 1) (by omega)
  have t1 : xrd (L, f) σ1 [0] 1002 (nI i + (1 : Int32)) = some (f (i + 1)) := rd_scr2 g1 hL (k := i) (j := 1) (by omega)
  refine ⟨σ2, g3, ?_⟩
  simp only [s_L_law_446, s_L_law_452, s_L_law_455, s_L_law_461, s_L_law_464, s_L_law_467, Option.bind_some, Option.bind_none, Option.toList_some, Option.toList_none, List.cons_append, List.nil_append, List.append_nil, r1, t1, h.r, h1, g2, h2, if_true]
theorem w_feed {L : Nat} {f : Nat → Int32} (hL : L ≤ 3072) {i : Nat} (hi : i + 6 ≤ L) (h : LI σ) : ∃ σ2, LI σ2 ∧ xrun ((L, f), xcall (L, f) 60) j_L_law 469 [.ref 1002, .ref (sh 0 0), .ref (sh 4 0), .int (nI i)] [] σ = xrun ((L, f), xcall (L, f) 60) j_L_law 1340 [.ref 1002, .ref (sh 0 0), .ref (sh 4 0), .int (nI i)] [] σ2 := by
  obtain ⟨v, σ1, σ2, h1, h2, g1, g2, g3⟩ := k_feed (X := (L, f)) h (((f (i + 1)).toInt64 <<< ((32 : Int32).toInt64 &&& 63)) ||| ((f (i + 2)).toInt64 &&& Int64.ofNat 4294967295)) (f (i + 3))
  have r1 : xrd (L, f) σ [0] 1002 (nI i + (1 : Int32)) = some (f (i + 1)) := rd_scr2 h.s15 hL (k := i) (j := 1) (by omega)
  have t1 : xrd (L, f) σ1 [0] 1002 (nI i + (1 : Int32)) = some (f (i + 1)) := rd_scr2 g1 hL (k := i) (j := 1) (by omega)
  have r2 : xrd (L, f) σ [0] 1002 (nI i + (2 : Int32)) = some (f (i + 2)) := rd_scr2 h.s15 hL (k := i) (j := 2) (by omega)
  have t2 : xrd (L, f) σ1 [0] 1002 (nI i + (2 : Int32)) = some (f (i + 2)) := rd_scr2 g1 hL (k := i) (j := 2) (by omega)
  have r3 : xrd (L, f) σ [0] 1002 (nI i + (3 : Int32)) = some (f (i + 3)) := rd_scr2 h.s15 hL (k := i) (j := 3) (by omega)
  have t3 : xrd (L, f) σ1 [0] 1002 (nI i + (3 : Int32)) = some (f (i + 3)) := rd_scr2 g1 hL (k := i) (j := 3) (by omega)
  refine ⟨σ2, g3, ?_⟩
  simp only [s_L_law_469, s_L_law_475, s_L_law_484, s_L_law_495, s_L_law_498, s_L_law_504, s_L_law_513, s_L_law_524, s_L_law_527, s_L_law_530, Option.bind_some, Option.bind_none, Option.toList_some, Option.toList_none, List.cons_append, List.nil_append, List.append_nil, r1, t1, r2, t2, r3, t3, h.r, h1, g2, h2, if_true]
theorem w_text {L : Nat} {f : Nat → Int32} (hL : L ≤ 3072) {i : Nat} (hi : i + 6 ≤ L) (h : LI σ) : ∃ σ2, LI σ2 ∧ xrun ((L, f), xcall (L, f) 60) j_L_law 532 [.ref 1002, .ref (sh 0 0), .ref (sh 4 0), .int (nI i)] [] σ = xrun ((L, f), xcall (L, f) 60) j_L_law 1340 [.ref 1002, .ref (sh 0 0), .ref (sh 4 0), .int (nI i)] [] σ2 := by
  obtain ⟨v, σ1, σ2, h1, h2, g1, g2, g3⟩ := k_text (X := (L, f)) h (f (i + 1))
  have r1 : xrd (L, f) σ [0] 1002 (nI i + (1 : Int32)) = some (f (i + 1)) := rd_scr2 h.s15 hL (k := i) (j := 1) (by omega)
  have t1 : xrd (L, f) σ1 [0] 1002 (nI i + (1 : Int32)) = some (f (i + 1)) := rd_scr2 g1 hL (k := i) (j := 1) (by omega)
  refine ⟨σ2, g3, ?_⟩
  simp only [s_L_law_532, s_L_law_538, s_L_law_541, s_L_law_547, s_L_law_550, s_L_law_553, Option.bind_some, Option.bind_none, Option.toList_some, Option.toList_none, List.cons_append, List.nil_append, List.append_nil, r1, t1, h.r, h1, g2, h2, if_true]
theorem w_untell {L : Nat} {f : Nat → Int32} (hL : L ≤ 3072) {i : Nat} (hi : i + 6 ≤ L) (h : LI σ) : ∃ σ2, LI σ2 ∧ xrun ((L, f), xcall (L, f) 60) j_L_law 555 [.ref 1002, .ref (sh 0 0), .ref (sh 4 0), .int (nI i)] [] σ = xrun ((L, f), xcall (L, f) 60) j_L_law 1340 [.ref 1002, .ref (sh 0 0), .ref (sh 4 0), .int (nI i)] [] σ2 := by
  obtain ⟨v, σ1, σ2, h1, h2, g1, g2, g3⟩ := k_untell (X := (L, f)) h (f (i + 1))
  have r1 : xrd (L, f) σ [0] 1002 (nI i + (1 : Int32)) = some (f (i + 1)) := rd_scr2 h.s15 hL (k := i) (j := 1) (by omega)
  have t1 : xrd (L, f) σ1 [0] 1002 (nI i + (1 : Int32)) = some (f (i + 1)) := rd_scr2 g1 hL (k := i) (j := 1) (by omega)
  refine ⟨σ2, g3, ?_⟩
  simp only [s_L_law_555, s_L_law_561, s_L_law_564, s_L_law_570, s_L_law_573, s_L_law_576, Option.bind_some, Option.bind_none, Option.toList_some, Option.toList_none, List.cons_append, List.nil_append, List.append_nil, r1, t1, h.r, h1, g2, h2, if_true]
theorem w_law {L : Nat} {f : Nat → Int32} (hL : L ≤ 3072) {i : Nat} (hi : i + 6 ≤ L) (h : LI σ) : ∃ σ2, LI σ2 ∧ xrun ((L, f), xcall (L, f) 60) j_L_law 578 [.ref 1002, .ref (sh 0 0), .ref (sh 4 0), .int (nI i)] [] σ = xrun ((L, f), xcall (L, f) 60) j_L_law 1340 [.ref 1002, .ref (sh 0 0), .ref (sh 4 0), .int (nI i)] [] σ2 := by
  obtain ⟨v, σ1, σ2, h1, h2, g1, g2, g3⟩ := k_law (X := (L, f)) h (f (i + 1)) (f (i + 2)) (f (i + 3)) (f (i + 4))
  have r1 : xrd (L, f) σ [0] 1002 (nI i + (1 : Int32)) = some (f (i + 1)) := rd_scr2 h.s15 hL (k := i) (j := 1) (by omega)
  have t1 : xrd (L, f) σ1 [0] 1002 (nI i + (1 : Int32)) = some (f (i + 1)) := rd_scr2 g1 hL (k := i) (j := 1) (by omega)
  have r2 : xrd (L, f) σ [0] 1002 (nI i + (2 : Int32)) = some (f (i + 2)) := rd_scr2 h.s15 hL (k := i) (j := 2) (by omega)
  have t2 : xrd (L, f) σ1 [0] 1002 (nI i + (2 : Int32)) = some (f (i + 2)) := rd_scr2 g1 hL (k := i) (j := 2) (by omega)
  have r3 : xrd (L, f) σ [0] 1002 (nI i + (3 : Int32)) = some (f (i + 3)) := rd_scr2 h.s15 hL (k := i) (j := 3) (by omega)
  have t3 : xrd (L, f) σ1 [0] 1002 (nI i + (3 : Int32)) = some (f (i + 3)) := rd_scr2 g1 hL (k := i) (j := 3) (by omega)
  have r4 : xrd (L, f) σ [0] 1002 (nI i + (4 : Int32)) = some (f (i + 4)) := rd_scr2 h.s15 hL (k := i) (j := 4) (by omega)
  have t4 : xrd (L, f) σ1 [0] 1002 (nI i + (4 : Int32)) = some (f (i + 4)) := rd_scr2 g1 hL (k := i) (j := 4) (by omega)
  refine ⟨σ2, g3, ?_⟩
  simp only [s_L_law_578, s_L_law_584, s_L_law_589, s_L_law_594, s_L_law_599, s_L_law_602, s_L_law_608, s_L_law_613, s_L_law_618, s_L_law_623, s_L_law_626, s_L_law_629, Option.bind_some, Option.bind_none, Option.toList_some, Option.toList_none, List.cons_append, List.nil_append, List.append_nil, r1, t1, r2, t2, r3, t3, r4, t4, h.r, h1, g2, h2, if_true]
theorem w_days {L : Nat} {f : Nat → Int32} (hL : L ≤ 3072) {i : Nat} (hi : i + 6 ≤ L) (h : LI σ) : ∃ σ2, LI σ2 ∧ xrun ((L, f), xcall (L, f) 60) j_L_law 631 [.ref 1002, .ref (sh 0 0), .ref (sh 4 0), .int (nI i)] [] σ = xrun ((L, f), xcall (L, f) 60) j_L_law 1340 [.ref 1002, .ref (sh 0 0), .ref (sh 4 0), .int (nI i)] [] σ2 := by
  obtain ⟨v, σ1, σ2, h1, h2, g1, g2, g3⟩ := k_days (X := (L, f)) h (f (i + 1))
  have r1 : xrd (L, f) σ [0] 1002 (nI i + (1 : Int32)) = some (f (i + 1)) := rd_scr2 h.s15 hL (k := i) (j := 1) (by omega)
  have t1 : xrd (L, f) σ1 [0] 1002 (nI i + (1 : Int32)) = some (f (i + 1)) := rd_scr2 g1 hL (k := i) (j := 1) (by omega)
  refine ⟨σ2, g3, ?_⟩
  simp only [s_L_law_631, s_L_law_637, s_L_law_640, s_L_law_646, s_L_law_649, s_L_law_652, Option.bind_some, Option.bind_none, Option.toList_some, Option.toList_none, List.cons_append, List.nil_append, List.append_nil, r1, t1, h.r, h1, g2, h2, if_true]
theorem w_loose {L : Nat} {f : Nat → Int32} (hL : L ≤ 3072) {i : Nat} (hi : i + 6 ≤ L) (h : LI σ) : ∃ σ2, LI σ2 ∧ xrun ((L, f), xcall (L, f) 60) j_L_law 654 [.ref 1002, .ref (sh 0 0), .ref (sh 4 0), .int (nI i)] [] σ = xrun ((L, f), xcall (L, f) 60) j_L_law 1340 [.ref 1002, .ref (sh 0 0), .ref (sh 4 0), .int (nI i)] [] σ2 := by
  obtain ⟨v, σ1, σ2, h1, h2, g1, g2, g3⟩ := k_loose (X := (L, f)) h (f (i + 1))
  have r1 : xrd (L, f) σ [0] 1002 (nI i + (1 : Int32)) = some (f (i + 1)) := rd_scr2 h.s15 hL (k := i) (j := 1) (by omega)
  have t1 : xrd (L, f) σ1 [0] 1002 (nI i + (1 : Int32)) = some (f (i + 1)) := rd_scr2 g1 hL (k := i) (j := 1) (by omega)
  refine ⟨σ2, g3, ?_⟩
  simp only [s_L_law_654, s_L_law_660, s_L_law_663, s_L_law_669, s_L_law_672, s_L_law_675, Option.bind_some, Option.bind_none, Option.toList_some, Option.toList_none, List.cons_append, List.nil_append, List.append_nil, r1, t1, h.r, h1, g2, h2, if_true]
theorem w_seed {L : Nat} {f : Nat → Int32} (hL : L ≤ 3072) {i : Nat} (hi : i + 6 ≤ L) (h : LI σ) : ∃ σ2, LI σ2 ∧ xrun ((L, f), xcall (L, f) 60) j_L_law 677 [.ref 1002, .ref (sh 0 0), .ref (sh 4 0), .int (nI i)] [] σ = xrun ((L, f), xcall (L, f) 60) j_L_law 1340 [.ref 1002, .ref (sh 0 0), .ref (sh 4 0), .int (nI i)] [] σ2 := by
  obtain ⟨v, σ1, σ2, h1, h2, g1, g2, g3⟩ := k_seed (X := (L, f)) h (f (i + 1))
  have r1 : xrd (L, f) σ [0] 1002 (nI i + (1 : Int32)) = some (f (i + 1)) := rd_scr2 h.s15 hL (k := i) (j := 1) (by omega)
  have t1 : xrd (L, f) σ1 [0] 1002 (nI i + (1 : Int32)) = some (f (i + 1)) := rd_scr2 g1 hL (k := i) (j := 1) (by omega)
  refine ⟨σ2, g3, ?_⟩
  simp only [s_L_law_677, s_L_law_683, s_L_law_686, s_L_law_692, s_L_law_695, s_L_law_698, Option.bind_some, Option.bind_none, Option.toList_some, Option.toList_none, List.cons_append, List.nil_append, List.append_nil, r1, t1, h.r, h1, g2, h2, if_true]
theorem w_then {L : Nat} {f : Nat → Int32} (hL : L ≤ 3072) {i : Nat} (hi : i + 6 ≤ L) (h : LI σ) : ∃ σ2, LI σ2 ∧ xrun ((L, f), xcall (L, f) 60) j_L_law 700 [.ref 1002, .ref (sh 0 0), .ref (sh 4 0), .int (nI i)] [] σ = xrun ((L, f), xcall (L, f) 60) j_L_law 1340 [.ref 1002, .ref (sh 0 0), .ref (sh 4 0), .int (nI i)] [] σ2 := by
  obtain ⟨v, σ1, σ2, h1, h2, g1, g2, g3⟩ := k_then (X := (L, f)) h (f (i + 1)) (f (i + 2)) (f (i + 3))
  have r1 : xrd (L, f) σ [0] 1002 (nI i + (1 : Int32)) = some (f (i + 1)) := rd_scr2 h.s15 hL (k := i) (j := 1) (by omega)
  have t1 : xrd (L, f) σ1 [0] 1002 (nI i + (1 : Int32)) = some (f (i + 1)) := rd_scr2 g1 hL (k := i) (j := 1) (by omega)
  have r2 : xrd (L, f) σ [0] 1002 (nI i + (2 : Int32)) = some (f (i + 2)) := rd_scr2 h.s15 hL (k := i) (j := 2) (by omega)
  have t2 : xrd (L, f) σ1 [0] 1002 (nI i + (2 : Int32)) = some (f (i + 2)) := rd_scr2 g1 hL (k := i) (j := 2) (by omega)
  have r3 : xrd (L, f) σ [0] 1002 (nI i + (3 : Int32)) = some (f (i + 3)) := rd_scr2 h.s15 hL (k := i) (j := 3) (by omega)
  have t3 : xrd (L, f) σ1 [0] 1002 (nI i + (3 : Int32)) = some (f (i + 3)) := rd_scr2 g1 hL (k := i) (j := 3) (by omega)
  refine ⟨σ2, g3, ?_⟩
  simp only [s_L_law_700, s_L_law_706, s_L_law_711, s_L_law_716, s_L_law_719, s_L_law_725, s_L_law_730, s_L_law_735, s_L_law_738, s_L_law_741, Option.bind_some, Option.bind_none, Option.toList_some, Option.toList_none, List.cons_append, List.nil_append, List.append_nil, r1, t1, r2, t2, r3, t3, h.r, h1, g2, h2, if_true]
theorem w_cuts {L : Nat} {f : Nat → Int32} (hL : L ≤ 3072) {i : Nat} (hi : i + 6 ≤ L) (h : LI σ) : ∃ σ2, LI σ2 ∧ xrun ((L, f), xcall (L, f) 60) j_L_law 743 [.ref 1002, .ref (sh 0 0), .ref (sh 4 0), .int (nI i)] [] σ = xrun ((L, f), xcall (L, f) 60) j_L_law 1340 [.ref 1002, .ref (sh 0 0), .ref (sh 4 0), .int (nI i)] [] σ2 := by
  obtain ⟨v, σ1, σ2, h1, h2, g1, g2, g3⟩ := k_cuts (X := (L, f)) h (f (i + 1)) (f (i + 2)) (f (i + 3))
  have r1 : xrd (L, f) σ [0] 1002 (nI i + (1 : Int32)) = some (f (i + 1)) := rd_scr2 h.s15 hL (k := i) (j := 1) (by omega)
  have t1 : xrd (L, f) σ1 [0] 1002 (nI i + (1 : Int32)) = some (f (i + 1)) := rd_scr2 g1 hL (k := i) (j := 1) (by omega)
  have r2 : xrd (L, f) σ [0] 1002 (nI i + (2 : Int32)) = some (f (i + 2)) := rd_scr2 h.s15 hL (k := i) (j := 2) (by omega)
  have t2 : xrd (L, f) σ1 [0] 1002 (nI i + (2 : Int32)) = some (f (i + 2)) := rd_scr2 g1 hL (k := i) (j := 2) (by omega)
  have r3 : xrd (L, f) σ [0] 1002 (nI i + (3 : Int32)) = some (f (i + 3)) := rd_scr2 h.s15 hL (k := i) (j := 3) (by omega)
  have t3 : xrd (L, f) σ1 [0] 1002 (nI i + (3 : Int32)) = some (f (i + 3)) := rd_scr2 g1 hL (k := i) (j := 3) (by omega)
  refine ⟨σ2, g3, ?_⟩
  simp only [s_L_law_743, s_L_law_749, s_L_law_754, s_L_law_759, s_L_law_762, s_L_law_768, s_L_law_773, s_L_law_778, s_L_law_781, s_L_law_784, Option.bind_some, Option.bind_none, Option.toList_some, Option.toList_none, List.cons_append, List.nil_append, List.append_nil, r1, t1, r2, t2, r3, t3, h.r, h1, g2, h2, if_true]
theorem w_hauls {L : Nat} {f : Nat → Int32} (hL : L ≤ 3072) {i : Nat} (hi : i + 6 ≤ L) (h : LI σ) : ∃ σ2, LI σ2 ∧ xrun ((L, f), xcall (L, f) 60) j_L_law 786 [.ref 1002, .ref (sh 0 0), .ref (sh 4 0), .int (nI i)] [] σ = xrun ((L, f), xcall (L, f) 60) j_L_law 1340 [.ref 1002, .ref (sh 0 0), .ref (sh 4 0), .int (nI i)] [] σ2 := by
  obtain ⟨v, σ1, σ2, h1, h2, g1, g2, g3⟩ := k_hauls (X := (L, f)) h (f (i + 1)) (f (i + 2)) (f (i + 3))
  have r1 : xrd (L, f) σ [0] 1002 (nI i + (1 : Int32)) = some (f (i + 1)) := rd_scr2 h.s15 hL (k := i) (j := 1) (by omega)
  have t1 : xrd (L, f) σ1 [0] 1002 (nI i + (1 : Int32)) = some (f (i + 1)) := rd_scr2 g1 hL (k := i) (j := 1) (by omega)
  have r2 : xrd (L, f) σ [0] 1002 (nI i + (2 : Int32)) = some (f (i + 2)) := rd_scr2 h.s15 hL (k := i) (j := 2) (by omega)
  have t2 : xrd (L, f) σ1 [0] 1002 (nI i + (2 : Int32)) = some (f (i + 2)) := rd_scr2 g1 hL (k := i) (j := 2) (by omega)
  have r3 : xrd (L, f) σ [0] 1002 (nI i + (3 : Int32)) = some (f (i + 3)) := rd_scr2 h.s15 hL (k := i) (j := 3) (by omega)
  have t3 : xrd (L, f) σ1 [0] 1002 (nI i + (3 : Int32)) = some (f (i + 3)) := rd_scr2 g1 hL (k := i) (j := 3) (by omega)
  refine ⟨σ2, g3, ?_⟩
  simp only [s_L_law_786, s_L_law_792, s_L_law_797, s_L_law_802, s_L_law_805, s_L_law_811, s_L_law_816, s_L_law_821, s_L_law_824, s_L_law_827, Option.bind_some, Option.bind_none, Option.toList_some, Option.toList_none, List.cons_append, List.nil_append, List.append_nil, r1, t1, r2, t2, r3, t3, h.r, h1, g2, h2, if_true]
theorem w_party {L : Nat} {f : Nat → Int32} (hL : L ≤ 3072) {i : Nat} (hi : i + 6 ≤ L) (h : LI σ) : ∃ σ2, LI σ2 ∧ xrun ((L, f), xcall (L, f) 60) j_L_law 829 [.ref 1002, .ref (sh 0 0), .ref (sh 4 0), .int (nI i)] [] σ = xrun ((L, f), xcall (L, f) 60) j_L_law 1340 [.ref 1002, .ref (sh 0 0), .ref (sh 4 0), .int (nI i)] [] σ2 := by
  obtain ⟨v, σ1, σ2, h1, h2, g1, g2, g3⟩ := k_party (X := (L, f)) h (f (i + 1)) (f (i + 2))
  have r1 : xrd (L, f) σ [0] 1002 (nI i + (1 : Int32)) = some (f (i + 1)) := rd_scr2 h.s15 hL (k := i) (j := 1) (by omega)
  have t1 : xrd (L, f) σ1 [0] 1002 (nI i + (1 : Int32)) = some (f (i + 1)) := rd_scr2 g1 hL (k := i) (j := 1) (by omega)
  have r2 : xrd (L, f) σ [0] 1002 (nI i + (2 : Int32)) = some (f (i + 2)) := rd_scr2 h.s15 hL (k := i) (j := 2) (by omega)
  have t2 : xrd (L, f) σ1 [0] 1002 (nI i + (2 : Int32)) = some (f (i + 2)) := rd_scr2 g1 hL (k := i) (j := 2) (by omega)
  refine ⟨σ2, g3, ?_⟩
  simp only [s_L_law_829, s_L_law_835, s_L_law_840, s_L_law_843, s_L_law_849, s_L_law_854, s_L_law_857, s_L_law_860, Option.bind_some, Option.bind_none, Option.toList_some, Option.toList_none, List.cons_append, List.nil_append, List.append_nil, r1, t1, r2, t2, h.r, h1, g2, h2, if_true]
theorem w_speaks {L : Nat} {f : Nat → Int32} (hL : L ≤ 3072) {i : Nat} (hi : i + 6 ≤ L) (h : LI σ) : ∃ σ2, LI σ2 ∧ xrun ((L, f), xcall (L, f) 60) j_L_law 862 [.ref 1002, .ref (sh 0 0), .ref (sh 4 0), .int (nI i)] [] σ = xrun ((L, f), xcall (L, f) 60) j_L_law 1340 [.ref 1002, .ref (sh 0 0), .ref (sh 4 0), .int (nI i)] [] σ2 := by
  obtain ⟨v, σ1, σ2, h1, h2, g1, g2, g3⟩ := k_speaks (X := (L, f)) h (f (i + 1)) (f (i + 2))
  have r1 : xrd (L, f) σ [0] 1002 (nI i + (1 : Int32)) = some (f (i + 1)) := rd_scr2 h.s15 hL (k := i) (j := 1) (by omega)
  have t1 : xrd (L, f) σ1 [0] 1002 (nI i + (1 : Int32)) = some (f (i + 1)) := rd_scr2 g1 hL (k := i) (j := 1) (by omega)
  have r2 : xrd (L, f) σ [0] 1002 (nI i + (2 : Int32)) = some (f (i + 2)) := rd_scr2 h.s15 hL (k := i) (j := 2) (by omega)
  have t2 : xrd (L, f) σ1 [0] 1002 (nI i + (2 : Int32)) = some (f (i + 2)) := rd_scr2 g1 hL (k := i) (j := 2) (by omega)
  refine ⟨σ2, g3, ?_⟩
  simp only [s_L_law_862, s_L_law_868, s_L_law_873, s_L_law_876, s_L_law_882, s_L_law_887, s_L_law_890, s_L_law_893, Option.bind_some, Option.bind_none, Option.toList_some, Option.toList_none, List.cons_append, List.nil_append, List.append_nil, r1, t1, r2, t2, h.r, h1, g2, h2, if_true]
theorem w_odds {L : Nat} {f : Nat → Int32} (hL : L ≤ 3072) {i : Nat} (hi : i + 6 ≤ L) (h : LI σ) : ∃ σ2, LI σ2 ∧ xrun ((L, f), xcall (L, f) 60) j_L_law 895 [.ref 1002, .ref (sh 0 0), .ref (sh 4 0), .int (nI i)] [] σ = xrun ((L, f), xcall (L, f) 60) j_L_law 1340 [.ref 1002, .ref (sh 0 0), .ref (sh 4 0), .int (nI i)] [] σ2 := by
  obtain ⟨v, σ1, σ2, h1, h2, g1, g2, g3⟩ := k_odds (X := (L, f)) h (f (i + 1)) (f (i + 2)) (f (i + 3))
  have r1 : xrd (L, f) σ [0] 1002 (nI i + (1 : Int32)) = some (f (i + 1)) := rd_scr2 h.s15 hL (k := i) (j := 1) (by omega)
  have t1 : xrd (L, f) σ1 [0] 1002 (nI i + (1 : Int32)) = some (f (i + 1)) := rd_scr2 g1 hL (k := i) (j := 1) (by omega)
  have r2 : xrd (L, f) σ [0] 1002 (nI i + (2 : Int32)) = some (f (i + 2)) := rd_scr2 h.s15 hL (k := i) (j := 2) (by omega)
  have t2 : xrd (L, f) σ1 [0] 1002 (nI i + (2 : Int32)) = some (f (i + 2)) := rd_scr2 g1 hL (k := i) (j := 2) (by omega)
  have r3 : xrd (L, f) σ [0] 1002 (nI i + (3 : Int32)) = some (f (i + 3)) := rd_scr2 h.s15 hL (k := i) (j := 3) (by omega)
  have t3 : xrd (L, f) σ1 [0] 1002 (nI i + (3 : Int32)) = some (f (i + 3)) := rd_scr2 g1 hL (k := i) (j := 3) (by omega)
  refine ⟨σ2, g3, ?_⟩
  simp only [s_L_law_895, s_L_law_901, s_L_law_906, s_L_law_911, s_L_law_914, s_L_law_920, s_L_law_925, s_L_law_930, s_L_law_933, s_L_law_936, Option.bind_some, Option.bind_none, Option.toList_some, Option.toList_none, List.cons_append, List.nil_append, List.append_nil, r1, t1, r2, t2, r3, t3, h.r, h1, g2, h2, if_true]
theorem w_fits {L : Nat} {f : Nat → Int32} (hL : L ≤ 3072) {i : Nat} (hi : i + 6 ≤ L) (h : LI σ) : ∃ σ2, LI σ2 ∧ xrun ((L, f), xcall (L, f) 60) j_L_law 938 [.ref 1002, .ref (sh 0 0), .ref (sh 4 0), .int (nI i)] [] σ = xrun ((L, f), xcall (L, f) 60) j_L_law 1340 [.ref 1002, .ref (sh 0 0), .ref (sh 4 0), .int (nI i)] [] σ2 := by
  obtain ⟨v, σ1, σ2, h1, h2, g1, g2, g3⟩ := k_fits (X := (L, f)) h (f (i + 1))
  have r1 : xrd (L, f) σ [0] 1002 (nI i + (1 : Int32)) = some (f (i + 1)) := rd_scr2 h.s15 hL (k := i) (j := 1) (by omega)
  have t1 : xrd (L, f) σ1 [0] 1002 (nI i + (1 : Int32)) = some (f (i + 1)) := rd_scr2 g1 hL (k := i) (j := 1) (by omega)
  refine ⟨σ2, g3, ?_⟩
  simp only [s_L_law_938, s_L_law_944, s_L_law_947, s_L_law_953, s_L_law_956, s_L_law_959, Option.bind_some, Option.bind_none, Option.toList_some, Option.toList_none, List.cons_append, List.nil_append, List.append_nil, r1, t1, h.r, h1, g2, h2, if_true]
theorem w_voice {L : Nat} {f : Nat → Int32} (hL : L ≤ 3072) {i : Nat} (hi : i + 6 ≤ L) (h : LI σ) : ∃ σ2, LI σ2 ∧ xrun ((L, f), xcall (L, f) 60) j_L_law 961 [.ref 1002, .ref (sh 0 0), .ref (sh 4 0), .int (nI i)] [] σ = xrun ((L, f), xcall (L, f) 60) j_L_law 1340 [.ref 1002, .ref (sh 0 0), .ref (sh 4 0), .int (nI i)] [] σ2 := by
  obtain ⟨v, σ1, σ2, h1, h2, g1, g2, g3⟩ := k_voice (X := (L, f)) h (f (i + 1)) (f (i + 2)) (f (i + 3))
  have r1 : xrd (L, f) σ [0] 1002 (nI i + (1 : Int32)) = some (f (i + 1)) := rd_scr2 h.s15 hL (k := i) (j := 1) (by omega)
  have t1 : xrd (L, f) σ1 [0] 1002 (nI i + (1 : Int32)) = some (f (i + 1)) := rd_scr2 g1 hL (k := i) (j := 1) (by omega)
  have r2 : xrd (L, f) σ [0] 1002 (nI i + (2 : Int32)) = some (f (i + 2)) := rd_scr2 h.s15 hL (k := i) (j := 2) (by omega)
  have t2 : xrd (L, f) σ1 [0] 1002 (nI i + (2 : Int32)) = some (f (i + 2)) := rd_scr2 g1 hL (k := i) (j := 2) (by omega)
  have r3 : xrd (L, f) σ [0] 1002 (nI i + (3 : Int32)) = some (f (i + 3)) := rd_scr2 h.s15 hL (k := i) (j := 3) (by omega)
  have t3 : xrd (L, f) σ1 [0] 1002 (nI i + (3 : Int32)) = some (f (i + 3)) := rd_scr2 g1 hL (k := i) (j := 3) (by omega)
  refine ⟨σ2, g3, ?_⟩
  simp only [s_L_law_961, s_L_law_967, s_L_law_972, s_L_law_977, s_L_law_980, s_L_law_986, s_L_law_991, s_L_law_996, s_L_law_999, s_L_law_1002, Option.bind_some, Option.bind_none, Option.toList_some, Option.toList_none, List.cons_append, List.nil_append, List.append_nil, r1, t1, r2, t2, r3, t3, h.r, h1, g2, h2, if_true]
theorem w_body {L : Nat} {f : Nat → Int32} (hL : L ≤ 3072) {i : Nat} (hi : i + 6 ≤ L) (h : LI σ) : ∃ σ2, LI σ2 ∧ xrun ((L, f), xcall (L, f) 60) j_L_law 1004 [.ref 1002, .ref (sh 0 0), .ref (sh 4 0), .int (nI i)] [] σ = xrun ((L, f), xcall (L, f) 60) j_L_law 1340 [.ref 1002, .ref (sh 0 0), .ref (sh 4 0), .int (nI i)] [] σ2 := by
  obtain ⟨v, σ1, σ2, h1, h2, g1, g2, g3⟩ := k_body (X := (L, f)) h (f (i + 1))
  have r1 : xrd (L, f) σ [0] 1002 (nI i + (1 : Int32)) = some (f (i + 1)) := rd_scr2 h.s15 hL (k := i) (j := 1) (by omega)
  have t1 : xrd (L, f) σ1 [0] 1002 (nI i + (1 : Int32)) = some (f (i + 1)) := rd_scr2 g1 hL (k := i) (j := 1) (by omega)
  refine ⟨σ2, g3, ?_⟩
  simp only [s_L_law_1004, s_L_law_1010, s_L_law_1013, s_L_law_1019, s_L_law_1022, s_L_law_1025, Option.bind_some, Option.bind_none, Option.toList_some, Option.toList_none, List.cons_append, List.nil_append, List.append_nil, r1, t1, h.r, h1, g2, h2, if_true]
theorem w_sheet {L : Nat} {f : Nat → Int32} (hL : L ≤ 3072) {i : Nat} (hi : i + 6 ≤ L) (h : LI σ) : ∃ σ2, LI σ2 ∧ xrun ((L, f), xcall (L, f) 60) j_L_law 1027 [.ref 1002, .ref (sh 0 0), .ref (sh 4 0), .int (nI i)] [] σ = xrun ((L, f), xcall (L, f) 60) j_L_law 1340 [.ref 1002, .ref (sh 0 0), .ref (sh 4 0), .int (nI i)] [] σ2 := by
  obtain ⟨v, σ1, σ2, h1, h2, g1, g2, g3⟩ := k_sheet (X := (L, f)) h (f (i + 1)) (f (i + 2)) (f (i + 3))
  have r1 : xrd (L, f) σ [0] 1002 (nI i + (1 : Int32)) = some (f (i + 1)) := rd_scr2 h.s15 hL (k := i) (j := 1) (by omega)
  have t1 : xrd (L, f) σ1 [0] 1002 (nI i + (1 : Int32)) = some (f (i + 1)) := rd_scr2 g1 hL (k := i) (j := 1) (by omega)
  have r2 : xrd (L, f) σ [0] 1002 (nI i + (2 : Int32)) = some (f (i + 2)) := rd_scr2 h.s15 hL (k := i) (j := 2) (by omega)
  have t2 : xrd (L, f) σ1 [0] 1002 (nI i + (2 : Int32)) = some (f (i + 2)) := rd_scr2 g1 hL (k := i) (j := 2) (by omega)
  have r3 : xrd (L, f) σ [0] 1002 (nI i + (3 : Int32)) = some (f (i + 3)) := rd_scr2 h.s15 hL (k := i) (j := 3) (by omega)
  have t3 : xrd (L, f) σ1 [0] 1002 (nI i + (3 : Int32)) = some (f (i + 3)) := rd_scr2 g1 hL (k := i) (j := 3) (by omega)
  refine ⟨σ2, g3, ?_⟩
  simp only [s_L_law_1027, s_L_law_1033, s_L_law_1038, s_L_law_1043, s_L_law_1046, s_L_law_1052, s_L_law_1057, s_L_law_1062, s_L_law_1065, s_L_law_1068, Option.bind_some, Option.bind_none, Option.toList_some, Option.toList_none, List.cons_append, List.nil_append, List.append_nil, r1, t1, r2, t2, r3, t3, h.r, h1, g2, h2, if_true]
theorem w_put {L : Nat} {f : Nat → Int32} (hL : L ≤ 3072) {i : Nat} (hi : i + 6 ≤ L) (h : LI σ) : ∃ σ2, LI σ2 ∧ xrun ((L, f), xcall (L, f) 60) j_L_law 1070 [.ref 1002, .ref (sh 0 0), .ref (sh 4 0), .int (nI i)] [] σ = xrun ((L, f), xcall (L, f) 60) j_L_law 1340 [.ref 1002, .ref (sh 0 0), .ref (sh 4 0), .int (nI i)] [] σ2 := by
  obtain ⟨v, σ1, σ2, h1, h2, g1, g2, g3⟩ := k_put (X := (L, f)) h (f (i + 1)) (f (i + 2)) (f (i + 3))
  have r1 : xrd (L, f) σ [0] 1002 (nI i + (1 : Int32)) = some (f (i + 1)) := rd_scr2 h.s15 hL (k := i) (j := 1) (by omega)
  have t1 : xrd (L, f) σ1 [0] 1002 (nI i + (1 : Int32)) = some (f (i + 1)) := rd_scr2 g1 hL (k := i) (j := 1) (by omega)
  have r2 : xrd (L, f) σ [0] 1002 (nI i + (2 : Int32)) = some (f (i + 2)) := rd_scr2 h.s15 hL (k := i) (j := 2) (by omega)
  have t2 : xrd (L, f) σ1 [0] 1002 (nI i + (2 : Int32)) = some (f (i + 2)) := rd_scr2 g1 hL (k := i) (j := 2) (by omega)
  have r3 : xrd (L, f) σ [0] 1002 (nI i + (3 : Int32)) = some (f (i + 3)) := rd_scr2 h.s15 hL (k := i) (j := 3) (by omega)
  have t3 : xrd (L, f) σ1 [0] 1002 (nI i + (3 : Int32)) = some (f (i + 3)) := rd_scr2 g1 hL (k := i) (j := 3) (by omega)
  refine ⟨σ2, g3, ?_⟩
  simp only [s_L_law_1070, s_L_law_1076, s_L_law_1081, s_L_law_1086, s_L_law_1089, s_L_law_1095, s_L_law_1100, s_L_law_1105, s_L_law_1108, s_L_law_1111, Option.bind_some, Option.bind_none, Option.toList_some, Option.toList_none, List.cons_append, List.nil_append, List.append_nil, r1, t1, r2, t2, r3, t3, h.r, h1, g2, h2, if_true]
theorem w_move {L : Nat} {f : Nat → Int32} (hL : L ≤ 3072) {i : Nat} (hi : i + 6 ≤ L) (h : LI σ) : ∃ σ2, LI σ2 ∧ xrun ((L, f), xcall (L, f) 60) j_L_law 1113 [.ref 1002, .ref (sh 0 0), .ref (sh 4 0), .int (nI i)] [] σ = xrun ((L, f), xcall (L, f) 60) j_L_law 1340 [.ref 1002, .ref (sh 0 0), .ref (sh 4 0), .int (nI i)] [] σ2 := by
  obtain ⟨v, σ1, σ2, h1, h2, g1, g2, g3⟩ := k_move (X := (L, f)) h (f (i + 1)) (f (i + 2)) (f (i + 3)) (f (i + 4)) (f (i + 5))
  have r1 : xrd (L, f) σ [0] 1002 (nI i + (1 : Int32)) = some (f (i + 1)) := rd_scr2 h.s15 hL (k := i) (j := 1) (by omega)
  have t1 : xrd (L, f) σ1 [0] 1002 (nI i + (1 : Int32)) = some (f (i + 1)) := rd_scr2 g1 hL (k := i) (j := 1) (by omega)
  have r2 : xrd (L, f) σ [0] 1002 (nI i + (2 : Int32)) = some (f (i + 2)) := rd_scr2 h.s15 hL (k := i) (j := 2) (by omega)
  have t2 : xrd (L, f) σ1 [0] 1002 (nI i + (2 : Int32)) = some (f (i + 2)) := rd_scr2 g1 hL (k := i) (j := 2) (by omega)
  have r3 : xrd (L, f) σ [0] 1002 (nI i + (3 : Int32)) = some (f (i + 3)) := rd_scr2 h.s15 hL (k := i) (j := 3) (by omega)
  have t3 : xrd (L, f) σ1 [0] 1002 (nI i + (3 : Int32)) = some (f (i + 3)) := rd_scr2 g1 hL (k := i) (j := 3) (by omega)
  have r4 : xrd (L, f) σ [0] 1002 (nI i + (4 : Int32)) = some (f (i + 4)) := rd_scr2 h.s15 hL (k := i) (j := 4) (by omega)
  have t4 : xrd (L, f) σ1 [0] 1002 (nI i + (4 : Int32)) = some (f (i + 4)) := rd_scr2 g1 hL (k := i) (j := 4) (by omega)
  have r5 : xrd (L, f) σ [0] 1002 (nI i + (5 : Int32)) = some (f (i + 5)) := rd_scr2 h.s15 hL (k := i) (j := 5) (by omega)
  have t5 : xrd (L, f) σ1 [0] 1002 (nI i + (5 : Int32)) = some (f (i + 5)) := rd_scr2 g1 hL (k := i) (j := 5) (by omega)
  refine ⟨σ2, g3, ?_⟩
  simp only [s_L_law_1113, s_L_law_1119, s_L_law_1124, s_L_law_1129, s_L_law_1134, s_L_law_1139, s_L_law_1142, s_L_law_1148, s_L_law_1153, s_L_law_1158, s_L_law_1163, s_L_law_1168, s_L_law_1171, s_L_law_1174, Option.bind_some, Option.bind_none, Option.toList_some, Option.toList_none, List.cons_append, List.nil_append, List.append_nil, r1, t1, r2, t2, r3, t3, r4, t4, r5, t5, h.r, h1, g2, h2, if_true]
theorem w_words {L : Nat} {f : Nat → Int32} (hL : L ≤ 3072) {i : Nat} (hi : i + 6 ≤ L) (h : LI σ) : ∃ σ2, LI σ2 ∧ xrun ((L, f), xcall (L, f) 60) j_L_law 1176 [.ref 1002, .ref (sh 0 0), .ref (sh 4 0), .int (nI i)] [] σ = xrun ((L, f), xcall (L, f) 60) j_L_law 1340 [.ref 1002, .ref (sh 0 0), .ref (sh 4 0), .int (nI i)] [] σ2 := by
  obtain ⟨v, σ1, σ2, h1, h2, g1, g2, g3⟩ := k_words (X := (L, f)) h (f (i + 1)) (f (i + 2))
  have r1 : xrd (L, f) σ [0] 1002 (nI i + (1 : Int32)) = some (f (i + 1)) := rd_scr2 h.s15 hL (k := i) (j := 1) (by omega)
  have t1 : xrd (L, f) σ1 [0] 1002 (nI i + (1 : Int32)) = some (f (i + 1)) := rd_scr2 g1 hL (k := i) (j := 1) (by omega)
  have r2 : xrd (L, f) σ [0] 1002 (nI i + (2 : Int32)) = some (f (i + 2)) := rd_scr2 h.s15 hL (k := i) (j := 2) (by omega)
  have t2 : xrd (L, f) σ1 [0] 1002 (nI i + (2 : Int32)) = some (f (i + 2)) := rd_scr2 g1 hL (k := i) (j := 2) (by omega)
  refine ⟨σ2, g3, ?_⟩
  simp only [s_L_law_1176, s_L_law_1182, s_L_law_1187, s_L_law_1190, s_L_law_1196, s_L_law_1201, s_L_law_1204, s_L_law_1207, Option.bind_some, Option.bind_none, Option.toList_some, Option.toList_none, List.cons_append, List.nil_append, List.append_nil, r1, t1, r2, t2, h.r, h1, g2, h2, if_true]
theorem w_judge {L : Nat} {f : Nat → Int32} (hL : L ≤ 3072) {i : Nat} (hi : i + 6 ≤ L) (h : LI σ) : ∃ σ2, LI σ2 ∧ xrun ((L, f), xcall (L, f) 60) j_L_law 1209 [.ref 1002, .ref (sh 0 0), .ref (sh 4 0), .int (nI i)] [] σ = xrun ((L, f), xcall (L, f) 60) j_L_law 1340 [.ref 1002, .ref (sh 0 0), .ref (sh 4 0), .int (nI i)] [] σ2 := by
  obtain ⟨v, σ1, σ2, h1, h2, g1, g2, g3⟩ := k_judge (X := (L, f)) h (f (i + 1))
  have r1 : xrd (L, f) σ [0] 1002 (nI i + (1 : Int32)) = some (f (i + 1)) := rd_scr2 h.s15 hL (k := i) (j := 1) (by omega)
  have t1 : xrd (L, f) σ1 [0] 1002 (nI i + (1 : Int32)) = some (f (i + 1)) := rd_scr2 g1 hL (k := i) (j := 1) (by omega)
  refine ⟨σ2, g3, ?_⟩
  simp only [s_L_law_1209, s_L_law_1215, s_L_law_1218, s_L_law_1224, s_L_law_1227, s_L_law_1230, Option.bind_some, Option.bind_none, Option.toList_some, Option.toList_none, List.cons_append, List.nil_append, List.append_nil, r1, t1, h.r, h1, g2, h2, if_true]
theorem w_image {L : Nat} {f : Nat → Int32} (hL : L ≤ 3072) {i : Nat} (hi : i + 6 ≤ L) (h : LI σ) : ∃ σ2, LI σ2 ∧ xrun ((L, f), xcall (L, f) 60) j_L_law 1232 [.ref 1002, .ref (sh 0 0), .ref (sh 4 0), .int (nI i)] [] σ = xrun ((L, f), xcall (L, f) 60) j_L_law 1340 [.ref 1002, .ref (sh 0 0), .ref (sh 4 0), .int (nI i)] [] σ2 := by
  obtain ⟨v, σ1, σ2, h1, h2, g1, g2, g3⟩ := k_image (X := (L, f)) h 
  refine ⟨σ2, g3, ?_⟩
  simp only [s_L_law_1232, s_L_law_1236, s_L_law_1240, s_L_law_1243, Option.bind_some, Option.bind_none, Option.toList_some, Option.toList_none, List.cons_append, List.nil_append, List.append_nil, h.r, h1, g2, h2, if_true]
theorem w_restore {L : Nat} {f : Nat → Int32} (hL : L ≤ 3072) {i : Nat} (hi : i + 6 ≤ L) (h : LI σ) : ∃ σ2, LI σ2 ∧ xrun ((L, f), xcall (L, f) 60) j_L_law 1245 [.ref 1002, .ref (sh 0 0), .ref (sh 4 0), .int (nI i)] [] σ = xrun ((L, f), xcall (L, f) 60) j_L_law 1340 [.ref 1002, .ref (sh 0 0), .ref (sh 4 0), .int (nI i)] [] σ2 := by
  obtain ⟨v, σ1, σ2, h1, h2, g1, g2, g3⟩ := k_restore (X := (L, f)) h 
  refine ⟨σ2, g3, ?_⟩
  simp only [s_L_law_1245, s_L_law_1249, s_L_law_1253, s_L_law_1256, Option.bind_some, Option.bind_none, Option.toList_some, Option.toList_none, List.cons_append, List.nil_append, List.append_nil, h.r, h1, g2, h2, if_true]
theorem w_tell {L : Nat} {f : Nat → Int32} (hL : L ≤ 3072) {i : Nat} (hi : i + 6 ≤ L) (h : LI σ) : ∃ σ2, LI σ2 ∧ xrun ((L, f), xcall (L, f) 60) j_L_law 1258 [.ref 1002, .ref (sh 0 0), .ref (sh 4 0), .int (nI i)] [] σ = xrun ((L, f), xcall (L, f) 60) j_L_law 1340 [.ref 1002, .ref (sh 0 0), .ref (sh 4 0), .int (nI i)] [] σ2 := by
  obtain ⟨v, σ1, σ2, h1, h2, g1, g2, g3⟩ := k_tell (X := (L, f)) h (f (i + 1))
  have r1 : xrd (L, f) σ [0] 1002 (nI i + (1 : Int32)) = some (f (i + 1)) := rd_scr2 h.s15 hL (k := i) (j := 1) (by omega)
  have t1 : xrd (L, f) σ1 [0] 1002 (nI i + (1 : Int32)) = some (f (i + 1)) := rd_scr2 g1 hL (k := i) (j := 1) (by omega)
  refine ⟨σ2, g3, ?_⟩
  simp only [s_L_law_1258, s_L_law_1264, s_L_law_1267, s_L_law_1273, s_L_law_1276, s_L_law_1279, Option.bind_some, Option.bind_none, Option.toList_some, Option.toList_none, List.cons_append, List.nil_append, List.append_nil, r1, t1, h.r, h1, g2, h2, if_true]
theorem w_check {L : Nat} {f : Nat → Int32} (hL : L ≤ 3072) {i : Nat} (hi : i + 6 ≤ L) (h : LI σ) : ∃ σ2, LI σ2 ∧ xrun ((L, f), xcall (L, f) 60) j_L_law 1281 [.ref 1002, .ref (sh 0 0), .ref (sh 4 0), .int (nI i)] [] σ = xrun ((L, f), xcall (L, f) 60) j_L_law 1340 [.ref 1002, .ref (sh 0 0), .ref (sh 4 0), .int (nI i)] [] σ2 := by
  obtain ⟨v, σ1, σ2, h1, h2, g1, g2, g3⟩ := k_check (X := (L, f)) h 
  refine ⟨σ2, g3, ?_⟩
  simp only [s_L_law_1281, s_L_law_1285, s_L_law_1289, s_L_law_1292, Option.bind_some, Option.bind_none, Option.toList_some, Option.toList_none, List.cons_append, List.nil_append, List.append_nil, h.r, h1, g2, h2, if_true]
theorem w_count {L : Nat} {f : Nat → Int32} (hL : L ≤ 3072) {i : Nat} (hi : i + 6 ≤ L) (h : LI σ) : ∃ σ2, LI σ2 ∧ xrun ((L, f), xcall (L, f) 60) j_L_law 1294 [.ref 1002, .ref (sh 0 0), .ref (sh 4 0), .int (nI i)] [] σ = xrun ((L, f), xcall (L, f) 60) j_L_law 1340 [.ref 1002, .ref (sh 0 0), .ref (sh 4 0), .int (nI i)] [] σ2 := by
  obtain ⟨v, σ1, σ2, h1, h2, g1, g2, g3⟩ := k_count (X := (L, f)) h (f (i + 1))
  have r1 : xrd (L, f) σ [0] 1002 (nI i + (1 : Int32)) = some (f (i + 1)) := rd_scr2 h.s15 hL (k := i) (j := 1) (by omega)
  have t1 : xrd (L, f) σ1 [0] 1002 (nI i + (1 : Int32)) = some (f (i + 1)) := rd_scr2 g1 hL (k := i) (j := 1) (by omega)
  refine ⟨σ2, g3, ?_⟩
  simp only [s_L_law_1294, s_L_law_1300, s_L_law_1303, s_L_law_1309, s_L_law_1312, s_L_law_1315, Option.bind_some, Option.bind_none, Option.toList_some, Option.toList_none, List.cons_append, List.nil_append, List.append_nil, r1, t1, h.r, h1, g2, h2, if_true]
theorem w_told {L : Nat} {f : Nat → Int32} (hL : L ≤ 3072) {i : Nat} (hi : i + 6 ≤ L) (h : LI σ) : ∃ σ2, LI σ2 ∧ xrun ((L, f), xcall (L, f) 60) j_L_law 1317 [.ref 1002, .ref (sh 0 0), .ref (sh 4 0), .int (nI i)] [] σ = xrun ((L, f), xcall (L, f) 60) j_L_law 1340 [.ref 1002, .ref (sh 0 0), .ref (sh 4 0), .int (nI i)] [] σ2 := by
  obtain ⟨v, σ1, σ2, h1, h2, g1, g2, g3⟩ := k_told (X := (L, f)) h (f (i + 1))
  have r1 : xrd (L, f) σ [0] 1002 (nI i + (1 : Int32)) = some (f (i + 1)) := rd_scr2 h.s15 hL (k := i) (j := 1) (by omega)
  have t1 : xrd (L, f) σ1 [0] 1002 (nI i + (1 : Int32)) = some (f (i + 1)) := rd_scr2 g1 hL (k := i) (j := 1) (by omega)
  refine ⟨σ2, g3, ?_⟩
  simp only [s_L_law_1317, s_L_law_1323, s_L_law_1326, s_L_law_1332, s_L_law_1335, s_L_law_1338, Option.bind_some, Option.bind_none, Option.toList_some, Option.toList_none, List.cons_append, List.nil_append, List.append_nil, r1, t1, h.r, h1, g2, h2, if_true]
end Law
