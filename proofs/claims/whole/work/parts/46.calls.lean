/-! ===== contracts: RopeShore's calls, 5: judge, fits, speaks, words, check, feed ===== -/
noncomputable def wdL (p : Nat) (f : Nat → Int32) : Nat → Nat → xS → Nat × xS
  | 0, i, S => (i, S)
  | n + 1, i, S => if i = p then wdL p f n (i + 1) S else if ¬ (0 ≤ f i ∧ f i ≤ 99) then (i, S) else wdL p f n (i + 1) (sT S (upd (S.1 4) (8 * p + i) (f i)))
noncomputable def sp_words (R S K : xS) (p s : Int32) : Int32 × xQS :=
  if ¬ (hasP S p ∧ isSh s) then eQ 1 R S K
  else if R.2 (1 + 2 * ix s) = 0 then eQ 2 R S K
  else (nI (wdL (ix p) (R.1 (1 + ix s)) (min (szs R (ix s)) (cn S)) 0 S).1, R, (wdL (ix p) (R.1 (1 + ix s)) (min (szs R (ix s)) (cn S)) 0 S).2, K)
def ckL (S : xS) : Nat → Nat → Int32
  | 0, _ => 0
  | n + 1, i => if cn S ≤ i ∨ S.1 8 i ≠ S.1 2 i then 1 + nI i else ckL S n (i + 1)
def sp_check (R S K : xS) : Int32 × xQS := (ckL S (ix (S.2 2)) 0, R, (S.1, u1 S.2 2 0), K)
def byt (w : Int64) (k : Nat) : Int32 := ((((w.toUInt64 >>> (((8 : Int32) * nI k).toInt64.toUInt64 &&& Int64.toUInt64 63)).toInt64).toInt32).toInt8.toInt32)
def fedA (f : Nat → Int32) (w : Int64) (at_ n : Nat) : Nat → Int32 := fun c => if at_ ≤ c ∧ c < at_ + n then byt w (c - at_) else f c
def sp_feed (R S K : xS) (w : Int64) (n : Int32) : Int32 × xQS :=
  if ¬ (1 ≤ n ∧ n ≤ 8) then eQ 1 R S K
  else if ¬ n ≤ 60 - S.2 1 then eQ 4 R S K
  else (S.2 1 + n, R, (u2 S.1 7 (fedA (S.1 7) w (ix (S.2 1)) (ix n)), u1 S.2 1 (S.2 1 + n)), K)
theorem nw1 (x : Int32) : xnw 1 x = x.toInt8.toInt32 := rfl
theorem byt_nw (w : Int64) (k : Nat) : xnw 1 (byt w k) = byt w k := by
  rw [nw1]
  unfold byt
  rw [Int8.toInt8_toInt32]
theorem fedA_0 (f : Nat → Int32) (w : Int64) (a : Nat) : fedA f w a 0 = f := by
  funext c
  exact if_neg (by omega)
theorem fedA_step (f : Nat → Int32) (w : Int64) (a n : Nat) : upd (fedA f w a n) (a + n) (byt w n) = fedA f w a (n + 1) := by
  funext c
  unfold upd fedA
  by_cases h : c = a + n
  · rw [if_pos h, if_pos (by omega), h, Nat.add_sub_cancel_left]
  · rw [if_neg h]
    by_cases h2 : a ≤ c ∧ c < a + n
    · rw [if_pos h2, if_pos (by omega)]
    · rw [if_neg h2, if_neg (by omega)]
theorem nI_min {a b : Nat} (ha : a < 2 ^ 31) (hb : b < 2 ^ 31) : (if nI a < nI b then nI a else nI b) = nI (min a b) := by
  by_cases h : a < b
  · rw [if_pos ((nI_lt_iff ha hb).mpr h), Nat.min_eq_left (by omega)]
  · rw [if_neg (fun e => h ((nI_lt_iff ha hb).mp e)), Nat.min_eq_right (by omega)]
section RCalls5
variable {X : xX} {d : Nat} {R S K V : xS} {B0 B1 B2 B3 B4 : List xE}
theorem rrL_0 (R S : xS) (s : Nat) : rr R S s = rrL S (R.1 (1 + s)) (min (szs R s) (cn S)) 0 := rfl
theorem l_R_rightRopes1 (hS : okS S) {s m : Nat} (hs : s < 4) (hm : m ≤ 8) (hm2 : m ≤ 24) : ∀ (k i : Nat) (Z : xS), i + k = m → ∃ Z' : xS,
    xrun (X, xcall X (d + 5)) j_R_rightRopes 14 [.ref (sh 1 0), .ref (sh 0 (5 + 2 * s)), .int (nI m), .int (nI i)] [] (w5 (rsC R V)  (shC 1 S Z) B2 B3 B4) = some (some (.int (nI (rrL S (R.1 (1 + s)) k i))), w5 (rsC R V)  (shC 1 S Z') B2 B3 B4) := by
  intro k
  induction k with
  | zero =>
    intro i Z hi
    have h1 : nI m ≤ nI i := (nI_le_iff (by omega) (by omega)).mpr (by omega)
    refine ⟨Z, ?_⟩
    rw [s_R_rightRopes_14, if_pos h1, s_R_rightRopes_41, show m = i by omega]
    rfl
  | succ k ih =>
    intro i Z hi
    have h1 : ¬ nI m ≤ nI i := fun h => absurd ((nI_le_iff (by omega) (by omega)).mp h) (by omega)
    have hi24 : i < 24 := by omega
    have hi8 : i < 8 := by omega
    obtain ⟨Z1, hr⟩ := n_ropeOf (X := X) (d := d) (B0 := rsC R V) (B2 := B2) (B3 := B3) (B4 := B4) hS Z hi8
    rw [s_R_rightRopes_14, if_neg h1]
    unfold rrL
    simp only [s_R_rightRopes_19, s_R_rightRopes_23, s_R_rightRopes_25, s_R_rightRopes_30, Option.bind_some, Option.bind_none, Option.toList_some, Option.toList_none, List.cons_append, List.nil_append, List.append_nil, nv_0, zg0 hs, zr hs hi24, hr]
    by_cases h2 : R.1 (1 + s) i = ro S i
    · rw [if_pos h2, if_pos h2, s_R_rightRopes_35, nI_add1]
      exact ih (i + 1) Z1 (by omega)
    · rw [if_neg h2, if_neg h2, s_R_rightRopes_33]
      exact ⟨Z1, rfl⟩
theorem c_R_rightRopes1 (hR : okR R) (hS : okS S) {s : Nat} (hs : s < 4) (Z : xS) : ∃ Z' : xS,
    xcall X (d + 6) j_R_rightRopes [.ref (sh 1 0), .ref (sh 0 (5 + 2 * s))] (w5 (rsC R V)  (shC 1 S Z) B2 B3 B4) = some (some (.int (nI (rr R S s))), w5 (rsC R V)  (shC 1 S Z') B2 B3 B4) := by
  obtain ⟨hz1, hz2⟩ := hR.1 s hs
  obtain ⟨hc1, hc2⟩ := hS.1
  rw [e_R_rightRopes]
  simp only [s_R_rightRopes_0, s_R_rightRopes_4, s_R_rightRopes_8, Option.bind_some, Option.bind_none, Option.toList_some, Option.toList_none, List.cons_append, List.nil_append, List.append_nil, nv_0, ng_0_0, ng_0_1, ng_0_2, ng_0_3, ng_0_4, ng_0_5, ng_0_6, ng_0_7, ng_0_8, ng_0_9, ng_0_10, ng_0_11, ng_0_12, ng_0_13, ng_0_14, zg2 hs, hz1, hc1]
  rw [rrL_0]
  have hm : min (szs R s) (cn S) ≤ 8 := Nat.le_trans (Nat.min_le_right _ _) hc2
  obtain ⟨Z', h⟩ := l_R_rightRopes1 (X := X) (d := d) (R := R) (V := V) (B2 := B2) (B3 := B3) (B4 := B4) hS hs hm (Nat.le_trans hm (by decide)) (min (szs R s) (cn S)) 0 Z (by omega)
  refine ⟨Z', ?_⟩
  rw [← h, ← nI_min (by omega) (by omega)]
  have e : (if nI (cn S) < nI (szs R s) then nI (cn S) else nI (szs R s)) = (if nI (szs R s) < nI (cn S) then nI (szs R s) else nI (cn S)) := by
    rw [nI_min (by omega) (by omega), nI_min (by omega) (by omega), Nat.min_comm]
  first
  | rfl
  | (rw [e]; rfl)
theorem l_R_rightRopes2 (hS : okS S) {s m : Nat} (hs : s < 4) (hm : m ≤ 8) (hm2 : m ≤ 24) : ∀ (k i : Nat) (Z : xS), i + k = m → ∃ Z' : xS,
    xrun (X, xcall X (d + 5)) j_R_rightRopes 14 [.ref (sh 2 0), .ref (sh 0 (5 + 2 * s)), .int (nI m), .int (nI i)] [] (w5 (rsC R V) B1 (shC 2 S Z) B3 B4) = some (some (.int (nI (rrL S (R.1 (1 + s)) k i))), w5 (rsC R V) B1 (shC 2 S Z') B3 B4) := by
  intro k
  induction k with
  | zero =>
    intro i Z hi
    have h1 : nI m ≤ nI i := (nI_le_iff (by omega) (by omega)).mpr (by omega)
    refine ⟨Z, ?_⟩
    rw [s_R_rightRopes_14, if_pos h1, s_R_rightRopes_41, show m = i by omega]
    rfl
  | succ k ih =>
    intro i Z hi
    have h1 : ¬ nI m ≤ nI i := fun h => absurd ((nI_le_iff (by omega) (by omega)).mp h) (by omega)
    have hi24 : i < 24 := by omega
    have hi8 : i < 8 := by omega
    obtain ⟨Z1, hr⟩ := t_ropeOf (X := X) (d := d) (B0 := rsC R V) (B1 := B1) (B3 := B3) (B4 := B4) hS Z hi8
    rw [s_R_rightRopes_14, if_neg h1]
    unfold rrL
    simp only [s_R_rightRopes_19, s_R_rightRopes_23, s_R_rightRopes_25, s_R_rightRopes_30, Option.bind_some, Option.bind_none, Option.toList_some, Option.toList_none, List.cons_append, List.nil_append, List.append_nil, tv_0, zg0 hs, zr hs hi24, hr]
    by_cases h2 : R.1 (1 + s) i = ro S i
    · rw [if_pos h2, if_pos h2, s_R_rightRopes_35, nI_add1]
      exact ih (i + 1) Z1 (by omega)
    · rw [if_neg h2, if_neg h2, s_R_rightRopes_33]
      exact ⟨Z1, rfl⟩
theorem c_R_rightRopes2 (hR : okR R) (hS : okS S) {s : Nat} (hs : s < 4) (Z : xS) : ∃ Z' : xS,
    xcall X (d + 6) j_R_rightRopes [.ref (sh 2 0), .ref (sh 0 (5 + 2 * s))] (w5 (rsC R V) B1 (shC 2 S Z) B3 B4) = some (some (.int (nI (rr R S s))), w5 (rsC R V) B1 (shC 2 S Z') B3 B4) := by
  obtain ⟨hz1, hz2⟩ := hR.1 s hs
  obtain ⟨hc1, hc2⟩ := hS.1
  rw [e_R_rightRopes]
  simp only [s_R_rightRopes_0, s_R_rightRopes_4, s_R_rightRopes_8, Option.bind_some, Option.bind_none, Option.toList_some, Option.toList_none, List.cons_append, List.nil_append, List.append_nil, tv_0, tg_0_0, tg_0_1, tg_0_2, tg_0_3, tg_0_4, tg_0_5, tg_0_6, tg_0_7, tg_0_8, tg_0_9, tg_0_10, tg_0_11, tg_0_12, tg_0_13, tg_0_14, zg2 hs, hz1, hc1]
  rw [rrL_0]
  have hm : min (szs R s) (cn S) ≤ 8 := Nat.le_trans (Nat.min_le_right _ _) hc2
  obtain ⟨Z', h⟩ := l_R_rightRopes2 (X := X) (d := d) (R := R) (V := V) (B1 := B1) (B3 := B3) (B4 := B4) hS hs hm (Nat.le_trans hm (by decide)) (min (szs R s) (cn S)) 0 Z (by omega)
  refine ⟨Z', ?_⟩
  rw [← h, ← nI_min (by omega) (by omega)]
  have e : (if nI (cn S) < nI (szs R s) then nI (cn S) else nI (szs R s)) = (if nI (szs R s) < nI (cn S) then nI (szs R s) else nI (cn S)) := by
    rw [nI_min (by omega) (by omega), nI_min (by omega) (by omega), Nat.min_comm]
  first
  | rfl
  | (rw [e]; rfl)
theorem q_judge (hR : okR R) (hS : okS S) (s : Int32) : CQ X (d + 7) j_R_judge [.ref (sh 0 0), .int s] R S K B4 (sp_judge R S K s) := by
  intro V Z T Y U hT
  show ∃ V' Z' T' Y' U' : xS, okN T' ∧ xcall X (d + 7) j_R_judge [.ref (sh 0 0), .int s] (w5 (rsC R V) (shC 1 S Z) (shC 2 T Y) (shC 3 K U) B4) = _
  rw [e_R_judge]
  unfold sp_judge
  simp only [s_R_judge_0, s_R_judge_4, s_R_judge_7, s_R_judge_12, Option.bind_some, Option.bind_none, Option.toList_some, Option.toList_none, List.cons_append, List.nil_append, List.append_nil, rv_0, rg_0_0, rg_0_1, rg_0_2, rg_0_3, rg_0_4, rg_0_5, rg_0_6, rg_0_7, rg_0_8, rg_0_9, rv_17, rg_17_0, rg_17_1, c_R_isSheet, c_R_error1, z1_0]
  by_cases h1 : 0 ≤ s ∧ s ≤ 3
  · rw [if_neg (not_not_intro h1), if_neg (not_not_intro h1)]
    obtain ⟨k, rfl, hk⟩ := sh_ix h1
    rw [ix_nI (Nat.lt_trans hk (by decide))]
    simp only [s_R_judge_13, s_R_judge_17, s_R_judge_19, s_R_judge_24, Option.bind_some, Option.bind_none, Option.toList_some, Option.toList_none, List.cons_append, List.nil_append, List.append_nil, rv_0, rg_0_0, rg_0_1, rg_0_2, rg_0_3, rg_0_4, rg_0_5, rg_0_6, rg_0_7, rg_0_8, rg_0_9, rv_17, rg_17_0, rg_17_1, rq_1 hk, zv hk, c_Se_isMissing hk, z1_0]
    by_cases h2 : R.2 (1 + 2 * k) = 0
    · rw [if_neg (not_not_intro h2), if_pos h2]
      refine ⟨V, Z, T, Y, U, hT, ?_⟩
      simp only [s_R_judge_27, s_R_judge_32, Option.bind_some, Option.bind_none, Option.toList_some, Option.toList_none, List.cons_append, List.nil_append, List.append_nil, rv_0, rg_0_0, rg_0_1, rg_0_2, rg_0_3, rg_0_4, rg_0_5, rg_0_6, rg_0_7, rg_0_8, rg_0_9, rv_17, rg_17_0, rg_17_1, c_R_error2]
      rfl
    · rw [if_pos h2, if_neg h2]
      obtain ⟨Z', hr⟩ := c_R_rightRopes1 (X := X) (d := d) (V := V) (B2 := shC 2 T Y) (B3 := shC 3 K U) (B4 := B4) hR hS hk Z
      refine ⟨V, Z', T, Y, U, hT, ?_⟩
      simp only [s_R_judge_33, s_R_judge_37, s_R_judge_41, Option.bind_some, Option.bind_none, Option.toList_some, Option.toList_none, List.cons_append, List.nil_append, List.append_nil, rv_0, rg_0_0, rg_0_1, rg_0_2, rg_0_3, rg_0_4, rg_0_5, rg_0_6, rg_0_7, rg_0_8, rg_0_9, rv_17, rg_17_0, rg_17_1, hr]
      rfl
  · rw [if_pos h1, if_pos h1]
    exact ⟨V, Z, T, Y, U, hT, rfl⟩
theorem l_R_fits (hR : okR R) {s : Nat} (hs : s < 4) : ∀ (k i : Nat) (S Y : xS), okS S → okN S → i + k = 61 → ∃ S' Y' : xS, okN S' ∧
    xrun (X, xcall X (d + 6)) j_R_fits 46 [.ref (sh 0 0), .int (nI s), .ref (sh 0 (5 + 2 * s)), .int (nI i)] [] (w5 (rsC R V) B1 (shC 2 S Y) B3 B4) = (match fiL R s k i S with
      | none => xrun (X, xcall X (d + 6)) j_R_fits 83 [.ref (sh 0 0), .int (nI s), .ref (sh 0 (5 + 2 * s)), .int (nI 61)] [] (w5 (rsC R V) B1 (shC 2 S' Y') B3 B4)
      | some n => some (some (.int (nI n)), w5 (rsC R V) B1 (shC 2 S' Y') B3 B4)) := by
  intro k
  induction k with
  | zero =>
    intro i S Y hS hN hi
    have hi' : i = 61 := by omega
    subst hi'
    have h1 : (60 : Int32) < nI 61 := by decide
    refine ⟨S, Y, hN, ?_⟩
    rw [s_R_fits_46, if_pos h1]
    rfl
  | succ k ih =>
    intro i S Y hS hN hi
    have h1 : ¬ (60 : Int32) < nI i := fun h => absurd ((nI_lt_iff (a := 60) (b := i) (by omega) (by omega)).mp h) (by omega)
    obtain ⟨Y1, hr⟩ := c_R_rightRopes2 (X := X) (d := d) (V := V) (B1 := B1) (B3 := B3) (B4 := B4) hR hS hs Y
    rw [s_R_fits_46, if_neg h1]
    unfold fiL
    simp only [s_R_fits_52, s_R_fits_56, s_R_fits_60, s_R_fits_64, Option.bind_some, Option.bind_none, Option.toList_some, Option.toList_none, List.cons_append, List.nil_append, List.append_nil, rv_0, rg_0_0, rg_0_1, rg_0_2, rg_0_3, rg_0_4, rg_0_5, rg_0_6, rg_0_7, rg_0_8, rg_0_9, rv_17, rg_17_0, rg_17_1, hr, zg2 hs]
    by_cases h2 : nI (rr R S s) = R.2 (2 + 2 * s)
    · rw [if_pos h2, if_pos h2, s_R_fits_67]
      exact ⟨S, Y1, hN, rfl⟩
    · rw [if_neg h2, if_neg h2]
      obtain ⟨Y2, hd⟩ := t_dayGoesBy (X := X) (d := d) (B0 := rsC R V) (B1 := B1) (B3 := B3) (B4 := B4) hS Y1
      simp only [s_R_fits_69, s_R_fits_73, s_R_fits_76, Option.bind_some, Option.bind_none, Option.toList_some, Option.toList_none, List.cons_append, List.nil_append, List.append_nil, rv_0, rg_0_0, rg_0_1, rg_0_2, rg_0_3, rg_0_4, rg_0_5, rg_0_6, rg_0_7, rg_0_8, rg_0_9, rv_17, rg_17_0, rg_17_1, tv_0, hd, nI_add1]
      exact ih (i + 1) (dyS S) Y2 (okS_dy hS) (okN_dy hS hN) (by omega)
theorem q_fits (hR : okR R) (hS : okS S) (hN : okN S) (s : Int32) : CQ X (d + 7) j_R_fits [.ref (sh 0 0), .int s] R S K B4 (sp_fits R S K s) := by
  intro V Z T Y U hT
  show ∃ V' Z' T' Y' U' : xS, okN T' ∧ xcall X (d + 7) j_R_fits [.ref (sh 0 0), .int s] (w5 (rsC R V) (shC 1 S Z) (shC 2 T Y) (shC 3 K U) B4) = _
  rw [e_R_fits]
  unfold sp_fits
  simp only [s_R_fits_0, s_R_fits_4, s_R_fits_7, s_R_fits_12, Option.bind_some, Option.bind_none, Option.toList_some, Option.toList_none, List.cons_append, List.nil_append, List.append_nil, rv_0, rg_0_0, rg_0_1, rg_0_2, rg_0_3, rg_0_4, rg_0_5, rg_0_6, rg_0_7, rg_0_8, rg_0_9, rv_17, rg_17_0, rg_17_1, c_R_isSheet, c_R_error1, z1_0]
  by_cases h1 : 0 ≤ s ∧ s ≤ 3
  · rw [if_neg (not_not_intro h1), if_neg (not_not_intro h1)]
    obtain ⟨k, rfl, hk⟩ := sh_ix h1
    rw [ix_nI (Nat.lt_trans hk (by decide))]
    simp only [s_R_fits_13, s_R_fits_17, s_R_fits_19, s_R_fits_24, Option.bind_some, Option.bind_none, Option.toList_some, Option.toList_none, List.cons_append, List.nil_append, List.append_nil, rv_0, rg_0_0, rg_0_1, rg_0_2, rg_0_3, rg_0_4, rg_0_5, rg_0_6, rg_0_7, rg_0_8, rg_0_9, rv_17, rg_17_0, rg_17_1, rq_1 hk, zv hk, c_Se_isMissing hk, z1_0]
    by_cases h2 : R.2 (1 + 2 * k) = 0
    · rw [if_neg (not_not_intro h2), if_pos h2]
      refine ⟨V, Z, T, Y, U, hT, ?_⟩
      simp only [s_R_fits_27, s_R_fits_32, Option.bind_some, Option.bind_none, Option.toList_some, Option.toList_none, List.cons_append, List.nil_append, List.append_nil, rv_0, rg_0_0, rg_0_1, rg_0_2, rg_0_3, rg_0_4, rg_0_5, rg_0_6, rg_0_7, rg_0_8, rg_0_9, rv_17, rg_17_0, rg_17_1, c_R_error2]
      rfl
    · rw [if_pos h2, if_neg h2]
      obtain ⟨Y1, hc⟩ := c_Sh_copy21 (X := X) (d := d + 4) (B0 := rsC R V) (B3 := shC 3 K U) (B4 := B4) (S := T) (T := S) (Z := Y) (Y := Z) hT hN
      obtain ⟨S', Y', hN', hl⟩ := l_R_fits (X := X) (d := d) (V := V) (B1 := shC 1 S Z) (B3 := shC 3 K U) (B4 := B4) hR hk 61 0 S Y1 hS hN (by omega)
      have hl : xrun (X, xcall X (d + 6)) j_R_fits 46 [.ref (sh 0 0), .int (nI k), .ref (sh 0 (5 + 2 * k)), .int (0 : Int32)] [] (w5 (rsC R V) (shC 1 S Z) (shC 2 S Y1) (shC 3 K U) B4) = _ := hl
      refine ⟨V, Z, S', Y', U, hN', ?_⟩
      simp only [s_R_fits_33, s_R_fits_37, s_R_fits_41, s_R_fits_44, Option.bind_some, Option.bind_none, Option.toList_some, Option.toList_none, List.cons_append, List.nil_append, List.append_nil, rv_0, rg_0_0, rg_0_1, rg_0_2, rg_0_3, rg_0_4, rg_0_5, rg_0_6, rg_0_7, rg_0_8, rg_0_9, rv_17, rg_17_0, rg_17_1, tv_0, hc]
      rw [hl]
      cases hf : fiL R k 61 0 S with
      | some n => rfl
      | none =>
        show xrun (X, xcall X (d + 6)) j_R_fits 83 _ [] _ = _
        simp only [s_R_fits_83, s_R_fits_88, Option.bind_some, Option.bind_none, Option.toList_some, Option.toList_none, List.cons_append, List.nil_append, List.append_nil, rv_0, rg_0_0, rg_0_1, rg_0_2, rg_0_3, rg_0_4, rg_0_5, rg_0_6, rg_0_7, rg_0_8, rg_0_9, rv_17, rg_17_0, rg_17_1, c_R_error2]
        rfl
  · rw [if_pos h1, if_pos h1]
    exact ⟨V, Z, T, Y, U, hT, rfl⟩
theorem c_R_gainIfSpoken (hS : okS S) {i o : Nat} (hi : i < 8) (ho : o < 8) (Z : xS) : ∃ Z' : xS, xcall X (d + 5) j_R_gainIfSpoken [.ref (sh 0 0), .int (nI i), .int (nI o)] (w5 (rsC R V) (shC 1 S Z) B2 B3 B4) = some (some (.int (gain S i o)), w5 (rsC R V) (shC 1 S Z') B2 B3 B4) := by
  obtain ⟨Z1, h1⟩ := n_ropeBy (X := X) (d := d) (B0 := rsC R V) (B2 := B2) (B3 := B3) (B4 := B4) hS Z hi ho (if S.1 4 (8 * i + o) + 10 < 99 then S.1 4 (8 * i + o) + 10 else 99)
  obtain ⟨Z2, h2⟩ := n_ropeBy (X := X) (d := d) (B0 := rsC R V) (B2 := B2) (B3 := B3) (B4 := B4) hS Z1 hi ho (S.1 4 (8 * i + o))
  refine ⟨Z2, ?_⟩
  rw [e_R_gainIfSpoken]
  simp only [s_R_gainIfSpoken_0, s_R_gainIfSpoken_4, s_R_gainIfSpoken_9, s_R_gainIfSpoken_25, s_R_gainIfSpoken_32, s_R_gainIfSpoken_36, s_R_gainIfSpoken_42, Option.bind_some, Option.bind_none, Option.toList_some, Option.toList_none, List.cons_append, List.nil_append, List.append_nil, rv_0, rg_0_0, rg_0_1, rg_0_2, rg_0_3, rg_0_4, rg_0_5, rg_0_6, rg_0_7, rg_0_8, rg_0_9, rv_17, rg_17_0, rg_17_1, nv_0, n_said hi ho, h1, h2]
  rfl
theorem l_R_speaks (hS : okS S) {o : Nat} (ho : o < 8) (w : Int32) : ∀ (k i : Nat) (who most : Int32) (l6 : Value) (Z : xS), i + k = cn S → ∃ (Z' : xS) (l6' : Value),
    xrun (X, xcall X (d + 5)) j_R_speaks 34 [.ref (sh 0 0), .int (nI o), .int w, .int who, .int most, .int (nI i), l6] [] (w5 (rsC R V) (shC 1 S Z) B2 B3 B4) = xrun (X, xcall X (d + 5)) j_R_speaks 97 [.ref (sh 0 0), .int (nI o), .int w, .int (spkL S o k i who most).1, .int (spkL S o k i who most).2, .int (nI (cn S)), l6'] [] (w5 (rsC R V) (shC 1 S Z') B2 B3 B4) := by
  intro k
  obtain ⟨hc1, hc2⟩ := hS.1
  induction k with
  | zero =>
    intro i who most l6 Z hi
    have h1 : nI (cn S) ≤ nI i := (nI_le_iff (by omega) (by omega)).mpr (by omega)
    refine ⟨Z, l6, ?_⟩
    rw [s_R_speaks_34]
    simp only [s_R_speaks_40, s_R_speaks_43, Option.bind_some, Option.bind_none, Option.toList_some, Option.toList_none, List.cons_append, List.nil_append, List.append_nil, nv_0, ng_0_0, ng_0_1, ng_0_2, ng_0_3, ng_0_4, ng_0_5, ng_0_6, ng_0_7, ng_0_8, ng_0_9, ng_0_10, ng_0_11, ng_0_12, ng_0_13, ng_0_14, rv_0, rg_0_0, rg_0_1, rg_0_2, rg_0_3, rg_0_4, rg_0_5, rg_0_6, rg_0_7, rg_0_8, rg_0_9, rv_17, rg_17_0, rg_17_1, hc1, if_pos h1]
    rw [show i = cn S by omega]
    rfl
  | succ k ih =>
    intro i who most l6 Z hi
    have h1 : ¬ nI (cn S) ≤ nI i := fun h => absurd ((nI_le_iff (by omega) (by omega)).mp h) (by omega)
    have hi8 : i < 8 := by omega
    have skip : ∀ (Z1 : xS) (l6 : Value), ¬ (i ≠ o ∧ ash S i ∧ (who < 0 ∨ most < gain S i o)) → ∃ (Z' : xS) (l6' : Value), xrun (X, xcall X (d + 5)) j_R_speaks 91 [.ref (sh 0 0), .int (nI o), .int w, .int who, .int most, .int (nI i), l6] [] (w5 (rsC R V) (shC 1 S Z1) B2 B3 B4) = xrun (X, xcall X (d + 5)) j_R_speaks 97 [.ref (sh 0 0), .int (nI o), .int w, .int (spkL S o (k + 1) i who most).1, .int (spkL S o (k + 1) i who most).2, .int (nI (cn S)), l6'] [] (w5 (rsC R V) (shC 1 S Z') B2 B3 B4) := by
      intro Z1 l6 hn
      have he : spkL S o (k + 1) i who most = spkL S o k (i + 1) who most := by
        show @ite _ (i ≠ o ∧ ash S i ∧ (who < 0 ∨ most < gain S i o)) (Classical.propDecidable _) _ _ = _
        rw [if_neg hn]
      rw [he, s_R_speaks_91, nI_add1]
      exact ih (i + 1) who most l6 Z1 (by omega)
    have take : ∀ (Z1 : xS), (i ≠ o ∧ ash S i ∧ (who < 0 ∨ most < gain S i o)) → ∃ (Z' : xS) (l6' : Value), xrun (X, xcall X (d + 5)) j_R_speaks 84 [.ref (sh 0 0), .int (nI o), .int w, .int who, .int most, .int (nI i), .int (gain S i o)] [] (w5 (rsC R V) (shC 1 S Z1) B2 B3 B4) = xrun (X, xcall X (d + 5)) j_R_speaks 97 [.ref (sh 0 0), .int (nI o), .int w, .int (spkL S o (k + 1) i who most).1, .int (spkL S o (k + 1) i who most).2, .int (nI (cn S)), l6'] [] (w5 (rsC R V) (shC 1 S Z') B2 B3 B4) := by
      intro Z1 hn
      have he : spkL S o (k + 1) i who most = spkL S o k (i + 1) (nI i) (gain S i o) := by
        show @ite _ (i ≠ o ∧ ash S i ∧ (who < 0 ∨ most < gain S i o)) (Classical.propDecidable _) _ _ = _
        rw [if_pos hn]
      rw [he, s_R_speaks_84, s_R_speaks_91, nI_add1]
      exact ih (i + 1) _ _ _ Z1 (by omega)
    rw [s_R_speaks_34]
    simp only [s_R_speaks_40, s_R_speaks_43, Option.bind_some, Option.bind_none, Option.toList_some, Option.toList_none, List.cons_append, List.nil_append, List.append_nil, nv_0, ng_0_0, ng_0_1, ng_0_2, ng_0_3, ng_0_4, ng_0_5, ng_0_6, ng_0_7, ng_0_8, ng_0_9, ng_0_10, ng_0_11, ng_0_12, ng_0_13, ng_0_14, rv_0, rg_0_0, rg_0_1, rg_0_2, rg_0_3, rg_0_4, rg_0_5, rg_0_6, rg_0_7, rg_0_8, rg_0_9, rv_17, rg_17_0, rg_17_1, hc1, if_neg h1, s_R_speaks_46, nI_inj (a := i) (b := o) (by omega) (by omega)]
    by_cases hio : i = o
    · rw [if_pos hio]
      exact skip Z l6 (fun h => h.1 hio)
    rw [if_neg hio]
    simp only [s_R_speaks_52, s_R_speaks_56, s_R_speaks_61, Option.bind_some, Option.bind_none, Option.toList_some, Option.toList_none, List.cons_append, List.nil_append, List.append_nil, nv_0, ng_0_0, ng_0_1, ng_0_2, ng_0_3, ng_0_4, ng_0_5, ng_0_6, ng_0_7, ng_0_8, ng_0_9, ng_0_10, ng_0_11, ng_0_12, ng_0_13, ng_0_14, rv_0, rg_0_0, rg_0_1, rg_0_2, rg_0_3, rg_0_4, rg_0_5, rg_0_6, rg_0_7, rg_0_8, rg_0_9, rv_17, rg_17_0, rg_17_1, n_isAshore hi8, z1_0]
    by_cases ha : S.1 2 i = 0 ∧ S.1 3 i = 0
    · rw [if_neg (not_not_intro ha)]
      obtain ⟨Z1, hg⟩ := c_R_gainIfSpoken (X := X) (d := d) (R := R) (V := V) (B2 := B2) (B3 := B3) (B4 := B4) hS hi8 ho Z
      simp only [s_R_speaks_64, s_R_speaks_71, Option.bind_some, Option.bind_none, Option.toList_some, Option.toList_none, List.cons_append, List.nil_append, List.append_nil, rv_0, rg_0_0, rg_0_1, rg_0_2, rg_0_3, rg_0_4, rg_0_5, rg_0_6, rg_0_7, rg_0_8, rg_0_9, rv_17, rg_17_0, rg_17_1, hg]
      by_cases hw : who < 0
      · rw [if_pos hw]
        exact take Z1 ⟨hio, ha, Or.inl hw⟩
      · rw [if_neg hw, s_R_speaks_77]
        by_cases hm : gain S i o ≤ most
        · rw [if_pos hm]
          exact skip Z1 _ (fun h => h.2.2.elim hw (fun e => i32_nle.mpr e hm))
        · rw [if_neg hm]
          exact take Z1 ⟨hio, ha, Or.inr (i32_nle.mp hm)⟩
    · rw [if_pos ha]
      exact skip Z l6 (fun h => ha h.2.1)
theorem q_speaks (hS : okS S) (p w : Int32) : CQ X (d + 6) j_R_speaks [.ref (sh 0 0), .int p, .int w] R S K B4 (sp_speaks R S K p w) := by
  intro V Z T Y U hT
  show ∃ V' Z' T' Y' U' : xS, okN T' ∧ xcall X (d + 6) j_R_speaks [.ref (sh 0 0), .int p, .int w] (w5 (rsC R V) (shC 1 S Z) (shC 2 T Y) (shC 3 K U) B4) = _
  rw [e_R_speaks]
  unfold sp_speaks
  simp only [s_R_speaks_0, s_R_speaks_4, s_R_speaks_8, s_R_speaks_11, s_R_speaks_17, s_R_speaks_20, s_R_speaks_25, Option.bind_some, Option.bind_none, Option.toList_some, Option.toList_none, List.cons_append, List.nil_append, List.append_nil, nv_0, ng_0_0, ng_0_1, ng_0_2, ng_0_3, ng_0_4, ng_0_5, ng_0_6, ng_0_7, ng_0_8, ng_0_9, ng_0_10, ng_0_11, ng_0_12, ng_0_13, ng_0_14, rv_0, rg_0_0, rg_0_1, rg_0_2, rg_0_3, rg_0_4, rg_0_5, rg_0_6, rg_0_7, rg_0_8, rg_0_9, rv_17, rg_17_0, rg_17_1, n_has, c_R_within, c_R_error1, z1_0]
  by_cases h1 : hasP S p
  · by_cases h3 : 0 ≤ w ∧ w ≤ 1
    · rw [if_neg (not_not_intro h1), if_neg (not_not_intro h3), if_neg (not_not_intro (show hasP S p ∧ (0 ≤ w ∧ w ≤ 1) from ⟨h1, h3⟩))]
      obtain ⟨k, rfl, -, hk8⟩ := hasP_ix hS h1
      obtain ⟨Z', l6', hl⟩ := l_R_speaks (X := X) (d := d) (R := R) (V := V) (B2 := shC 2 T Y) (B3 := shC 3 K U) (B4 := B4) hS hk8 w (cn S) 0 (-1) 0 .null Z (by omega)
      have hl : xrun (X, xcall X (d + 5)) j_R_speaks 34 [.ref (sh 0 0), .int (nI k), .int w, .int (-1 : Int32), .int (0 : Int32), .int (0 : Int32), .null] [] (w5 (rsC R V) (shC 1 S Z) (shC 2 T Y) (shC 3 K U) B4) = _ := hl
      refine ⟨V, Z', T, Y, U, hT, ?_⟩
      rw [s_R_speaks_26, hl, s_R_speaks_97, ix_nI (Nat.lt_trans hk8 (by decide))]
      by_cases h4 : (spkL S k (cn S) 0 (-1) 0).1 < 0
      · rw [if_neg (fun e => i32_nle.mpr h4 e), if_pos h4]
        simp only [s_R_speaks_101, s_R_speaks_106, Option.bind_some, Option.bind_none, Option.toList_some, Option.toList_none, List.cons_append, List.nil_append, List.append_nil, rv_0, rg_0_0, rg_0_1, rg_0_2, rg_0_3, rg_0_4, rg_0_5, rg_0_6, rg_0_7, rg_0_8, rg_0_9, rv_17, rg_17_0, rg_17_1, c_R_error2]
        rfl
      · rw [if_pos (i32_nlt.mp h4), if_neg h4, s_R_speaks_107]
        by_cases h5 : w = 0
        · rw [if_pos h5, if_pos h5, s_R_speaks_111, s_R_speaks_117]
          rfl
        · rw [if_neg h5, if_neg h5, s_R_speaks_115, s_R_speaks_117]
          rfl
    · rw [if_neg (not_not_intro h1), if_pos h3, if_pos (fun e : hasP S p ∧ (0 ≤ w ∧ w ≤ 1) => h3 e.2)]
      exact ⟨V, Z, T, Y, U, hT, rfl⟩
  · rw [if_pos h1, if_pos (fun e : hasP S p ∧ (0 ≤ w ∧ w ≤ 1) => h1 e.1)]
    exact ⟨V, Z, T, Y, U, hT, rfl⟩
theorem l_R_words {p s m : Nat} (hp : p < 8) (hs : s < 4) (hm : m ≤ 8) (l2 : Int32) : ∀ (k i : Nat) (S Z : xS), i + k = m →
    xrun (X, xcall X (d + 1)) j_R_words 63 [.ref (sh 0 0), .int (nI p), .int l2, .ref (sh 0 (5 + 2 * s)), .int (nI m), .int (nI i)] [] (w5 (rsC R V) (shC 1 S Z) B2 B3 B4) = some (some (.int (nI (wdL p (R.1 (1 + s)) k i S).1)), w5 (rsC R V) (shC 1 (wdL p (R.1 (1 + s)) k i S).2 Z) B2 B3 B4) := by
  intro k
  induction k with
  | zero =>
    intro i S Z hi
    have h1 : nI m ≤ nI i := (nI_le_iff (by omega) (by omega)).mpr (by omega)
    rw [s_R_words_63, if_pos h1, s_R_words_118, show m = i by omega]
    rfl
  | succ k ih =>
    intro i S Z hi
    have h1 : ¬ nI m ≤ nI i := fun h => absurd ((nI_le_iff (by omega) (by omega)).mp h) (by omega)
    have hi24 : i < 24 := by omega
    have hi8 : i < 8 := by omega
    rw [s_R_words_63, if_neg h1, s_R_words_70]
    unfold wdL
    simp only [nI_inj (a := i) (b := p) (by omega) (by omega)]
    by_cases h2 : i = p
    · rw [if_pos h2, if_pos h2, s_R_words_112, nI_add1]
      exact ih (i + 1) S Z (by omega)
    rw [if_neg h2, if_neg h2]
    simp only [s_R_words_76, s_R_words_80, s_R_words_83, s_R_words_89, Option.bind_some, Option.bind_none, Option.toList_some, Option.toList_none, List.cons_append, List.nil_append, List.append_nil, zg0 hs, zr hs hi24, c_R_within, z1_0]
    by_cases h3 : 0 ≤ R.1 (1 + s) i ∧ R.1 (1 + s) i ≤ 99
    · rw [if_neg (not_not_intro h3), if_neg (not_not_intro h3)]
      simp only [s_R_words_95, s_R_words_99, s_R_words_106, s_R_words_109, s_R_words_112, Option.bind_some, Option.bind_none, Option.toList_some, Option.toList_none, List.cons_append, List.nil_append, List.append_nil, rv_0, rg_0_0, rg_0_1, rg_0_2, rg_0_3, rg_0_4, rg_0_5, rg_0_6, rg_0_7, rg_0_8, rg_0_9, rv_17, rg_17_0, rg_17_1, nv_0, zg0 hs, zr hs hi24, n_say hp hi8, nI_add1]
      exact ih (i + 1) _ Z (by omega)
    · rw [if_pos h3, if_pos h3, s_R_words_92]
theorem q_words (hR : okR R) (hS : okS S) (p s : Int32) : CQ X (d + 3) j_R_words [.ref (sh 0 0), .int p, .int s] R S K B4 (sp_words R S K p s) := by
  refine CQ.of fun V Z T Y U => ?_
  rw [e_R_words]
  unfold sp_words
  simp only [s_R_words_0, s_R_words_4, s_R_words_8, s_R_words_11, s_R_words_15, s_R_words_18, s_R_words_23, Option.bind_some, Option.bind_none, Option.toList_some, Option.toList_none, List.cons_append, List.nil_append, List.append_nil, nv_0, ng_0_0, ng_0_1, ng_0_2, ng_0_3, ng_0_4, ng_0_5, ng_0_6, ng_0_7, ng_0_8, ng_0_9, ng_0_10, ng_0_11, ng_0_12, ng_0_13, ng_0_14, rv_0, rg_0_0, rg_0_1, rg_0_2, rg_0_3, rg_0_4, rg_0_5, rg_0_6, rg_0_7, rg_0_8, rg_0_9, rv_17, rg_17_0, rg_17_1, n_has, c_R_isSheet, c_R_error1, z1_0]
  by_cases h1 : hasP S p
  · by_cases h2 : isSh s
    · have h2' : ¬ ¬ (0 ≤ s ∧ s ≤ 3) := not_not_intro h2
      rw [if_neg (not_not_intro h1), if_neg h2', if_neg (not_not_intro (show hasP S p ∧ isSh s from ⟨h1, h2⟩))]
      obtain ⟨q, rfl, -, hq8⟩ := hasP_ix hS h1
      obtain ⟨k, rfl, hk⟩ := sh_ix h2
      obtain ⟨hz1, hz2⟩ := hR.1 k hk
      obtain ⟨hc1, hc2⟩ := hS.1
      rw [ix_nI (Nat.lt_trans hk (by decide)), ix_nI (Nat.lt_trans hq8 (by decide))]
      simp only [s_R_words_24, s_R_words_28, s_R_words_30, s_R_words_35, Option.bind_some, Option.bind_none, Option.toList_some, Option.toList_none, List.cons_append, List.nil_append, List.append_nil, rv_0, rg_0_0, rg_0_1, rg_0_2, rg_0_3, rg_0_4, rg_0_5, rg_0_6, rg_0_7, rg_0_8, rg_0_9, rv_17, rg_17_0, rg_17_1, rq_1 hk, zv hk, c_Se_isMissing hk, z1_0]
      by_cases h3 : R.2 (1 + 2 * k) = 0
      · rw [if_neg (not_not_intro h3), if_pos h3]
        simp only [s_R_words_38, s_R_words_43, Option.bind_some, Option.bind_none, Option.toList_some, Option.toList_none, List.cons_append, List.nil_append, List.append_nil, rv_0, rg_0_0, rg_0_1, rg_0_2, rg_0_3, rg_0_4, rg_0_5, rg_0_6, rg_0_7, rg_0_8, rg_0_9, rv_17, rg_17_0, rg_17_1, c_R_error2]
        rfl
      · rw [if_pos h3, if_neg h3]
        have hm : min (szs R k) (cn S) ≤ 8 := Nat.le_trans (Nat.min_le_right _ _) hc2
        have hl := l_R_words (X := X) (d := d + 1) (R := R) (V := V) (B2 := shC 2 T Y) (B3 := shC 3 K U) (B4 := B4) hq8 hk hm (nI k) (min (szs R k) (cn S)) 0 S Z (by omega)
        have e : (if nI (cn S) < nI (szs R k) then nI (cn S) else nI (szs R k)) = nI (min (szs R k) (cn S)) := by
          rw [nI_min (by omega) (by omega), Nat.min_comm]
        have e2 : (if nI (szs R k) < nI (cn S) then nI (szs R k) else nI (cn S)) = nI (min (szs R k) (cn S)) := nI_min (by omega) (by omega)
        simp only [s_R_words_44, s_R_words_48, s_R_words_52, s_R_words_55, Option.bind_some, Option.bind_none, Option.toList_some, Option.toList_none, List.cons_append, List.nil_append, List.append_nil, nv_0, ng_0_0, ng_0_1, ng_0_2, ng_0_3, ng_0_4, ng_0_5, ng_0_6, ng_0_7, ng_0_8, ng_0_9, ng_0_10, ng_0_11, ng_0_12, ng_0_13, ng_0_14, rv_0, rg_0_0, rg_0_1, rg_0_2, rg_0_3, rg_0_4, rg_0_5, rg_0_6, rg_0_7, rg_0_8, rg_0_9, rv_17, rg_17_0, rg_17_1, zg2 hk, hz1, hc1, e, e2]
        exact hl
    · have h2' : ¬ (0 ≤ s ∧ s ≤ 3) := h2
      rw [if_neg (not_not_intro h1), if_pos h2', if_pos (fun e : hasP S p ∧ isSh s => h2 e.2)]
      rfl
  · rw [if_pos h1, if_pos (fun e : hasP S p ∧ isSh s => h1 e.1)]
    rfl
theorem l_R_check (hS : okS S) {w : Nat} (hw : w ≤ 24) {Z : xS} : ∀ k i : Nat, i + k = w → xrun (X, xcall X d) j_R_check 18 [.ref (sh 0 0), .int (nI w), .int (nI i)] [] (w5 (rsC R V) (shC 1 (S.1, u1 S.2 2 0) Z) B2 B3 B4) = some (some (.int (ckL S k i)), w5 (rsC R V) (shC 1 (S.1, u1 S.2 2 0) Z) B2 B3 B4) := by
  intro k
  obtain ⟨hc1, hc2⟩ := hS.1
  induction k with
  | zero =>
    intro i hi
    have h1 : nI w ≤ nI i := (nI_le_iff (by omega) (by omega)).mpr (by omega)
    rw [s_R_check_18, if_pos h1, s_R_check_65]
    rfl
  | succ k ih =>
    intro i hi
    have h1 : ¬ nI w ≤ nI i := fun h => absurd ((nI_le_iff (by omega) (by omega)).mp h) (by omega)
    have hi24 : i < 24 := by omega
    have hcn : (u1 S.2 2 0) 0 = nI (cn S) := hc1
    rw [s_R_check_18, if_neg h1]
    unfold ckL
    simp only [s_R_check_23, s_R_check_28, s_R_check_31, Option.bind_some, Option.bind_none, Option.toList_some, Option.toList_none, List.cons_append, List.nil_append, List.append_nil, nv_0, ng_0_0, ng_0_1, ng_0_2, ng_0_3, ng_0_4, ng_0_5, ng_0_6, ng_0_7, ng_0_8, ng_0_9, ng_0_10, ng_0_11, ng_0_12, ng_0_13, ng_0_14, rv_0, rg_0_0, rg_0_1, rg_0_2, rg_0_3, rg_0_4, rg_0_5, rg_0_6, rg_0_7, rg_0_8, rg_0_9, rv_17, rg_17_0, rg_17_1, hcn, nI_le_iff (a := cn S) (b := i) (by omega) (by omega)]
    by_cases h2 : cn S ≤ i
    · rw [if_pos h2, if_pos (Or.inl h2), s_R_check_55]
    · rw [if_neg h2]
      have hi8 : i < 8 := by omega
      simp only [s_R_check_34, s_R_check_38, s_R_check_41, s_R_check_43, s_R_check_47, s_R_check_50, s_R_check_52, Option.bind_some, Option.bind_none, Option.toList_some, Option.toList_none, List.cons_append, List.nil_append, List.append_nil, nv_0, ng_0_0, ng_0_1, ng_0_2, ng_0_3, ng_0_4, ng_0_5, ng_0_6, ng_0_7, ng_0_8, ng_0_9, ng_0_10, ng_0_11, ng_0_12, ng_0_13, ng_0_14, rv_0, rg_0_0, rg_0_1, rg_0_2, rg_0_3, rg_0_4, rg_0_5, rg_0_6, rg_0_7, rg_0_8, rg_0_9, rv_17, rg_17_0, rg_17_1, nr_24 hi24, nr_11 hi8]
      by_cases h3 : S.1 8 i = S.1 2 i
      · rw [if_pos h3, if_neg (fun e => e.elim h2 (fun z => z h3)), s_R_check_59, nI_add1]
        exact ih (i + 1) (by omega)
      · rw [if_neg h3, if_pos (Or.inr h3), s_R_check_55]
theorem q_check (hS : okS S) {w : Nat} (hw : S.2 2 = nI w) (hw2 : w ≤ 24) : CQ X (d + 1) j_R_check [.ref (sh 0 0)] R S K B4 (sp_check R S K) := by
  refine CQ.of fun V Z T Y U => ?_
  rw [e_R_check]
  unfold sp_check
  have hl := l_R_check (X := X) (d := d) (R := R) (V := V) (B2 := shC 2 T Y) (B3 := shC 3 K U) (B4 := B4) (Z := Z) hS hw2 w 0 (by omega)
  simp only [s_R_check_0, s_R_check_4, s_R_check_7, s_R_check_12, s_R_check_16, Option.bind_some, Option.bind_none, Option.toList_some, Option.toList_none, List.cons_append, List.nil_append, List.append_nil, nv_0, ng_0_0, ng_0_1, ng_0_2, ng_0_3, ng_0_4, ng_0_5, ng_0_6, ng_0_7, ng_0_8, ng_0_9, ng_0_10, ng_0_11, ng_0_12, ng_0_13, ng_0_14, rv_0, rg_0_0, rg_0_1, rg_0_2, rg_0_3, rg_0_4, rg_0_5, rg_0_6, rg_0_7, rg_0_8, rg_0_9, rv_17, rg_17_0, rg_17_1, np_0_11, hw, ix_nI (show w < 2 ^ 31 by omega)]
  exact hl
theorem l_R_feed (w : Int64) {a n : Nat} (han : a + n ≤ 60) (ha : S.2 1 = nI a) {Z : xS} : ∀ (k i : Nat), i + k = n →
    xrun (X, xcall X d) j_R_feed 39 [.ref (sh 0 0), .long w, .null, .int (nI n), .int (nI i)] [] (w5 (rsC R V) (shC 1 (u2 S.1 7 (fedA (S.1 7) w a i), S.2) Z) B2 B3 B4) = xrun (X, xcall X d) j_R_feed 78 [.ref (sh 0 0), .long w, .null, .int (nI n), .int (nI n)] [] (w5 (rsC R V) (shC 1 (u2 S.1 7 (fedA (S.1 7) w a n), S.2) Z) B2 B3 B4) := by
  intro k
  induction k with
  | zero =>
    intro i hi
    have h1 : nI n ≤ nI i := (nI_le_iff (by omega) (by omega)).mpr (by omega)
    rw [s_R_feed_39, if_pos h1, show i = n by omega]
  | succ k ih =>
    intro i hi
    have h1 : ¬ nI n ≤ nI i := fun h => absurd ((nI_le_iff (by omega) (by omega)).mp h) (by omega)
    have hi60 : a + i < 60 := by omega
    have hb := byt_nw w i
    unfold byt at hb
    rw [s_R_feed_39, if_neg h1]
    simp only [s_R_feed_45, s_R_feed_49, s_R_feed_52, s_R_feed_56, s_R_feed_59, s_R_feed_72, Option.bind_some, Option.bind_none, Option.toList_some, Option.toList_none, List.cons_append, List.nil_append, List.append_nil, nv_0, ng_0_0, ng_0_1, ng_0_2, ng_0_3, ng_0_4, ng_0_5, ng_0_6, ng_0_7, ng_0_8, ng_0_9, ng_0_10, ng_0_11, ng_0_12, ng_0_13, ng_0_14, rv_0, rg_0_0, rg_0_1, rg_0_2, rg_0_3, rg_0_4, rg_0_5, rg_0_6, rg_0_7, rg_0_8, rg_0_9, rv_17, rg_17_0, rg_17_1, ha, nI_add, nw_23 hi60, hb, u2_at, u2_u2, nI_add1]
    have hst := fedA_step (S.1 7) w a i
    unfold byt at hst
    rw [hst]
    exact ih (i + 1) (by omega)
theorem q_feed {a : Nat} (ha : S.2 1 = nI a) (ha2 : a ≤ 60) (w : Int64) (n : Int32) : CQ X (d + 2) j_R_feed [.ref (sh 0 0), .long w, .int n] R S K B4 (sp_feed R S K w n) := by
  refine CQ.of fun V Z T Y U => ?_
  rw [e_R_feed]
  unfold sp_feed
  simp only [s_R_feed_0, s_R_feed_7, s_R_feed_10, s_R_feed_15, Option.bind_some, Option.bind_none, Option.toList_some, Option.toList_none, List.cons_append, List.nil_append, List.append_nil, rv_0, rg_0_0, rg_0_1, rg_0_2, rg_0_3, rg_0_4, rg_0_5, rg_0_6, rg_0_7, rg_0_8, rg_0_9, rv_17, rg_17_0, rg_17_1, c_R_within, c_R_error1, z1_0]
  by_cases h1 : 1 ≤ n ∧ n ≤ 8
  · rw [if_neg (not_not_intro h1), if_neg (not_not_intro h1)]
    obtain ⟨N, rfl, hN⟩ := i32_ix (v := n) (n := 8) (by decide) ⟨Int32.le_trans (by decide) h1.1, h1.2⟩
    simp only [s_R_feed_16, s_R_feed_23, s_R_feed_26, Option.bind_some, Option.bind_none, Option.toList_some, Option.toList_none, List.cons_append, List.nil_append, List.append_nil, nv_0, ng_0_0, ng_0_1, ng_0_2, ng_0_3, ng_0_4, ng_0_5, ng_0_6, ng_0_7, ng_0_8, ng_0_9, ng_0_10, ng_0_11, ng_0_12, ng_0_13, ng_0_14, rv_0, rg_0_0, rg_0_1, rg_0_2, rg_0_3, rg_0_4, rg_0_5, rg_0_6, rg_0_7, rg_0_8, rg_0_9, rv_17, rg_17_0, rg_17_1, ha]
    have e : (60 : Int32) - nI a = nI (60 - a) := by
      rw [Int32.sub_eq_add_neg]
      have : (60 : Int32) = nI (60 - a) + nI a := by
        rw [nI_add, Nat.sub_add_cancel ha2]
        rfl
      rw [this, Int32.add_assoc, Int32.add_right_neg, Int32.add_zero]
    rw [e]
    by_cases h2 : nI N ≤ nI (60 - a)
    · rw [if_pos h2, if_neg (not_not_intro h2), s_R_feed_36]
      have han : a + N ≤ 60 := by
        have := (nI_le_iff (by omega) (by omega)).mp h2
        omega
      have hl := l_R_feed (X := X) (d := d + 1) (R := R) (V := V) (B2 := shC 2 T Y) (B3 := shC 3 K U) (B4 := B4) (Z := Z) w han ha N 0 (by omega)
      rw [fedA_0, u2_self] at hl
      have hl : xrun (X, xcall X (d + 1)) j_R_feed 39 [.ref (sh 0 0), .long w, .null, .int (nI N), .int (0 : Int32)] [] (w5 (rsC R V) (shC 1 S Z) (shC 2 T Y) (shC 3 K U) B4) = _ := hl
      rw [hl]
      simp only [s_R_feed_78, s_R_feed_82, s_R_feed_86, s_R_feed_89, s_R_feed_94, s_R_feed_98, s_R_feed_101, Option.bind_some, Option.bind_none, Option.toList_some, Option.toList_none, List.cons_append, List.nil_append, List.append_nil, nv_0, ng_0_0, ng_0_1, ng_0_2, ng_0_3, ng_0_4, ng_0_5, ng_0_6, ng_0_7, ng_0_8, ng_0_9, ng_0_10, ng_0_11, ng_0_12, ng_0_13, ng_0_14, rv_0, rg_0_0, rg_0_1, rg_0_2, rg_0_3, rg_0_4, rg_0_5, rg_0_6, rg_0_7, rg_0_8, rg_0_9, rv_17, rg_17_0, rg_17_1, ha, np_0_10, ix_nI (show a < 2 ^ 31 by omega), ix_nI (show N < 2 ^ 31 by omega)]
      rfl
    · rw [if_neg h2, if_pos h2]
      simp only [s_R_feed_30, s_R_feed_35, Option.bind_some, Option.bind_none, Option.toList_some, Option.toList_none, List.cons_append, List.nil_append, List.append_nil, rv_0, rg_0_0, rg_0_1, rg_0_2, rg_0_3, rg_0_4, rg_0_5, rg_0_6, rg_0_7, rg_0_8, rg_0_9, rv_17, rg_17_0, rg_17_1, c_R_error4]
      rfl
  · rw [if_pos h1, if_pos h1]
    rfl
end RCalls5
