/-! ===== contracts: RopeShore's calls, 3: days, then, odds, sheets looked at ===== -/
theorem okS_dy {S : xS} (h : okS S) : okS (dyS S) := h
theorem okN_dy {S : xS} (hS : okS S) (h : okN S) : okN (dyS S) := by
  obtain ⟨h0, h4, h5, h8, hl, hb⟩ := h
  have hc2 := hS.1.2
  refine ⟨fun p hp => ⟨(h0 p hp).1, (h0 p hp).2.1, (h0 p hp).2.2.1, ?_⟩, ?_, h5, h8, ?_, hb⟩
  · show lsS S (cn S) p = 0
    unfold lsS
    rw [if_neg (by omega)]
    exact (h0 p hp).2.2.2
  · intro c hc
    show tk (sL S (cn S)) (cn S) (cn S) 0 c = 0
    unfold tk
    rw [if_neg (by omega)]
    exact h4 c hc
  · intro p hp
    show lsS S (cn S) p = 0 ∨ lsS S (cn S) p = 1
    unfold lsS
    split
    · split
      · split
        · exact Or.inl rfl
        · exact Or.inr rfl
      · exact Or.inr rfl
    · exact hl p hp
theorem okS_ds {S : xS} (h : okS S) : okS (dsS S) := by
  unfold dsS
  by_cases h0 : cn S = 0
  · simp only [if_pos h0]
    exact h
  · simp only [if_neg h0]
    split
    · exact h
    · exact h
theorem upd_ge {f : Nat → Int32} {k N : Nat} {x : Int32} (hk : k < N) (h : ∀ j, N ≤ j → f j = 0) : ∀ j, N ≤ j → upd f k x j = 0 := by
  intro j hj
  unfold upd
  rw [if_neg (by omega)]
  exact h j hj
theorem okN_ds {S : xS} (hS : okS S) (h : okN S) : okN (dsS S) := by
  obtain ⟨h0, h4, h5, h8, hl, hb⟩ := h
  have hc2 := hS.1.2
  unfold dsS
  by_cases hc : cn S = 0
  · simp only [if_pos hc]
    exact ⟨h0, h4, h5, h8, hl, hb⟩
  · simp only [if_neg hc]
    split
    · have hk : drn (nx (nx (S.2 5))) % cn S < 8 := Nat.lt_of_lt_of_le (Nat.mod_lt _ (by omega)) hc2
      exact ⟨fun p hp => ⟨(h0 p hp).1, (h0 p hp).2.1, upd_ge hk (fun j hj => (h0 j hj).2.2.1) p hp, (h0 p hp).2.2.2⟩, h4, h5, h8, hl, hb⟩
    · exact ⟨h0, h4, h5, h8, hl, hb⟩
/-- so many days: how many get lost, the state behind them -/
noncomputable def dyI : Nat → xS → Int32 → Int32 × xS
  | 0, S, g => (g, S)
  | n + 1, S, g => dyI n (dyS S) (g + bct (nI (gs S (cn S))))
noncomputable def drI : Nat → xS → Int32 → Int32 × xS
  | 0, S, g => (g, S)
  | n + 1, S, g => drI n (dyS (dsS S)) (g + bct (nI (gs (dsS S) (cn (dsS S)))))
theorem okS_dyI : ∀ (n : Nat) {S : xS} (g : Int32), okS S → okS (dyI n S g).2
  | 0, _, _, h => h
  | n + 1, _, _, h => okS_dyI n _ (okS_dy h)
theorem okN_dyI : ∀ (n : Nat) {S : xS} (g : Int32), okS S → okN S → okN (dyI n S g).2
  | 0, _, _, _, h => h
  | n + 1, _, _, hS, h => okN_dyI n _ (okS_dy hS) (okN_dy hS h)
noncomputable def sp_days (R S K : xS) (n : Int32) : Int32 × xQS :=
  if ¬ (1 ≤ n ∧ n ≤ 60) then eQ 1 R S K
  else if ¬ S.2 4 + n ≤ 9999 then eQ 3 R S K
  else ((dyI (ix n) S 0).1, R, (dyI (ix n) S 0).2, K)
noncomputable def sp_loose (R S K : xS) (n : Int32) : Int32 × xQS :=
  if ¬ (1 ≤ n ∧ n ≤ 30) then eQ 1 R S K
  else if ¬ S.2 4 + n ≤ 9999 then eQ 3 R S K
  else ((drI (ix n) S 0).1, R, (drI (ix n) S 0).2, K)
noncomputable def sp_then (R S K : xS) (p n w : Int32) : Int32 × xQS :=
  if ¬ (hasP S p ∧ (0 ≤ n ∧ n ≤ 60) ∧ (0 ≤ w ∧ w ≤ 1)) then eQ 1 R S K
  else (if w = 0 then ro (dyI (ix n) S 0).2 (ix p) else if (dyI (ix n) S 0).2.1 3 (ix p) = 0 then 0 else 1, R, S, K)
/-- seas at which he holds -/
noncomputable def odL (S : xS) (o : Nat) (far : Int32) : Nat → Nat → Nat → Nat
  | 0, _, r => r
  | n + 1, s, r => odL S o far n (s + 1) (@ite _ (far + 5 * nI s ≤ ro (S.1, u1 S.2 3 (nI s)) o) (Classical.propDecidable _) (r + 1) r)
noncomputable def sp_odds (R S K : xS) (p far w : Int32) : Int32 × xQS :=
  if ¬ (hasP S p ∧ (0 ≤ far ∧ far ≤ 500) ∧ (0 ≤ w ∧ w ≤ 1)) then eQ 1 R S K
  else (nI ((if w = 0 then odL S (ix p) far 10 0 0 else 10) / Nat.gcd (odL S (ix p) far 10 0 0) 10), R, S, K)
/-- gain by a good word -/
def gain (S : xS) (i o : Nat) : Int32 := rb S i o (if S.1 4 (8 * i + o) + 10 < 99 then S.1 4 (8 * i + o) + 10 else 99) - rb S i o (S.1 4 (8 * i + o))
noncomputable def spkL (S : xS) (o : Nat) : Nat → Nat → Int32 → Int32 → Int32 × Int32
  | 0, _, who, most => (who, most)
  | n + 1, i, who, most => @ite _ (i ≠ o ∧ ash S i ∧ (who < 0 ∨ most < gain S i o)) (Classical.propDecidable _) (spkL S o n (i + 1) (nI i) (gain S i o)) (spkL S o n (i + 1) who most)
noncomputable def sp_speaks (R S K : xS) (p w : Int32) : Int32 × xQS :=
  if ¬ (hasP S p ∧ (0 ≤ w ∧ w ≤ 1)) then eQ 1 R S K
  else if (spkL S (ix p) (cn S) 0 (-1) 0).1 < 0 then eQ 2 R S K
  else (if w = 0 then (spkL S (ix p) (cn S) 0 (-1) 0).1 else (spkL S (ix p) (cn S) 0 (-1) 0).2, R, S, K)
/-- how many ropes from the first on are as told -/
noncomputable def rrL (S : xS) (f : Nat → Int32) : Nat → Nat → Nat
  | 0, i => i
  | n + 1, i => if f i = ro S i then rrL S f n (i + 1) else i
noncomputable def rr (R S : xS) (s : Nat) : Nat := rrL S (R.1 (1 + s)) (min (ix (R.2 (2 + 2 * s))) (cn S)) 0
noncomputable def sp_judge (R S K : xS) (s : Int32) : Int32 × xQS :=
  if ¬ (0 ≤ s ∧ s ≤ 3) then eQ 1 R S K
  else if R.2 (1 + 2 * ix s) = 0 then eQ 2 R S K
  else (nI (rr R S (ix s)), R, S, K)
noncomputable def fiL (R : xS) (s : Nat) : Nat → Nat → xS → Option Nat
  | 0, _, _ => none
  | n + 1, d, S => if nI (rr R S s) = R.2 (2 + 2 * s) then some d else fiL R s n (d + 1) (dyS S)
noncomputable def sp_fits (R S K : xS) (s : Int32) : Int32 × xQS :=
  if ¬ (0 ≤ s ∧ s ≤ 3) then eQ 1 R S K
  else if R.2 (1 + 2 * ix s) = 0 then eQ 2 R S K
  else match fiL R (ix s) 61 0 S with
    | none => eQ 2 R S K
    | some d => (nI d, R, S, K)
section RCalls3
variable {X : xX} {d : Nat} {R S K V : xS} {B0 B1 B2 B3 B4 : List xE}
theorem l_R_days {N : Nat} (hN : N ≤ 60) : ∀ (k i : Nat) (g : Int32) (S Z : xS), okS S → i + k = N → ∃ Z' : xS,
    xrun (X, xcall X (d + 6)) j_R_days 41 [.ref (sh 0 0), .int (nI N), .int g, .int (nI i)] [] (w5 (rsC R V) (shC 1 S Z) B2 B3 B4) = some (some (.int (dyI k S g).1), w5 (rsC R V) (shC 1 (dyI k S g).2 Z') B2 B3 B4) := by
  intro k
  induction k with
  | zero =>
    intro i g S Z hS hi
    have h1 : nI N ≤ nI i := (nI_le_iff (by omega) (by omega)).mpr (by omega)
    refine ⟨Z, ?_⟩
    rw [s_R_days_41, if_pos h1, s_R_days_62]
    rfl
  | succ k ih =>
    intro i g S Z hS hi
    have h1 : ¬ nI N ≤ nI i := fun h => absurd ((nI_le_iff (by omega) (by omega)).mp h) (by omega)
    obtain ⟨Z1, hd⟩ := n_dayGoesBy (X := X) (d := d) (B0 := rsC R V) (B2 := B2) (B3 := B3) (B4 := B4) hS Z
    rw [s_R_days_41, if_neg h1]
    simp only [s_R_days_0, s_R_days_16, s_R_days_37, s_R_days_62, s_R_days_7, s_R_days_20, s_R_days_46, s_R_days_10, s_R_days_23, s_R_days_51, s_R_days_15, s_R_days_31, s_R_days_54, s_R_days_36, Option.bind_some, Option.bind_none, Option.toList_some, Option.toList_none, List.cons_append, List.nil_append, List.append_nil, nv_0, ng_0_0, ng_0_1, ng_0_2, ng_0_3, ng_0_4, ng_0_5, ng_0_6, ng_0_7, ng_0_8, ng_0_9, ng_0_10, ng_0_11, ng_0_12, ng_0_13, ng_0_14, rv_0, rg_0_0, rg_0_1, rg_0_2, rg_0_3, rg_0_4, rg_0_5, rg_0_6, rg_0_7, rg_0_8, rg_0_9, rv_17, rg_17_0, rg_17_1, hd, nI_add1]
    exact ih (i + 1) _ (dyS S) Z1 (okS_dy hS) (by omega)
theorem q_days (hS : okS S) (n : Int32) : CQ X (d + 7) j_R_days [.ref (sh 0 0), .int n] R S K B4 (sp_days R S K n) := by
  intro V Z T Y U hT
  show ∃ V' Z' T' Y' U' : xS, okN T' ∧ xcall X (d + 7) j_R_days [.ref (sh 0 0), .int n] (w5 (rsC R V) (shC 1 S Z) (shC 2 T Y) (shC 3 K U) B4) = _
  rw [e_R_days]
  unfold sp_days
  simp only [s_R_days_0, s_R_days_7, s_R_days_10, s_R_days_15, s_R_days_16, s_R_days_20, s_R_days_23, s_R_days_31, s_R_days_36, Option.bind_some, Option.bind_none, Option.toList_some, Option.toList_none, List.cons_append, List.nil_append, List.append_nil, nv_0, ng_0_0, ng_0_1, ng_0_2, ng_0_3, ng_0_4, ng_0_5, ng_0_6, ng_0_7, ng_0_8, ng_0_9, ng_0_10, ng_0_11, ng_0_12, ng_0_13, ng_0_14, rv_0, rg_0_0, rg_0_1, rg_0_2, rg_0_3, rg_0_4, rg_0_5, rg_0_6, rg_0_7, rg_0_8, rg_0_9, rv_17, rg_17_0, rg_17_1, c_R_within, c_R_error1, c_R_error3, z1_0]
  by_cases h1 : 1 ≤ n ∧ n ≤ 60
  · rw [if_neg (not_not_intro h1), if_neg (not_not_intro h1)]
    obtain ⟨N, rfl, hN⟩ := i32_ix (v := n) (n := 60) (by decide) ⟨Int32.le_trans (by decide) h1.1, h1.2⟩
    by_cases h2 : S.2 4 + nI N ≤ 9999
    · rw [if_pos h2, if_neg (not_not_intro h2), s_R_days_37, ix_nI (Nat.lt_of_le_of_lt hN (by decide))]
      obtain ⟨Z', hl⟩ := l_R_days (X := X) (d := d) (R := R) (V := V) (B2 := shC 2 T Y) (B3 := shC 3 K U) (B4 := B4) hN N 0 0 S Z hS (by omega)
      exact ⟨V, Z', T, Y, U, hT, hl⟩
    · rw [if_neg h2, if_pos h2]
      exact ⟨V, Z, T, Y, U, hT, rfl⟩
  · rw [if_pos h1, if_pos h1]
    exact ⟨V, Z, T, Y, U, hT, rfl⟩
theorem l_R_loose {N : Nat} (hN : N ≤ 30) : ∀ (k i : Nat) (g : Int32) (S Z : xS), okS S → i + k = N → ∃ Z' : xS,
    xrun (X, xcall X (d + 6)) j_R_loose 41 [.ref (sh 0 0), .int (nI N), .int g, .int (nI i)] [] (w5 (rsC R V) (shC 1 S Z) B2 B3 B4) = some (some (.int (drI k S g).1), w5 (rsC R V) (shC 1 (drI k S g).2 Z') B2 B3 B4) := by
  intro k
  induction k with
  | zero =>
    intro i g S Z hS hi
    have h1 : nI N ≤ nI i := (nI_le_iff (by omega) (by omega)).mpr (by omega)
    refine ⟨Z, ?_⟩
    rw [s_R_loose_41, if_pos h1, s_R_loose_69]
    rfl
  | succ k ih =>
    intro i g S Z hS hi
    have h1 : ¬ nI N ≤ nI i := fun h => absurd ((nI_le_iff (by omega) (by omega)).mp h) (by omega)
    obtain ⟨Z1, hd⟩ := n_dayGoesBy (X := X) (d := d) (B0 := rsC R V) (B2 := B2) (B3 := B3) (B4 := B4) (okS_ds hS) Z
    rw [s_R_loose_41, if_neg h1]
    simp only [s_R_loose_0, s_R_loose_16, s_R_loose_37, s_R_loose_69, s_R_loose_7, s_R_loose_20, s_R_loose_46, s_R_loose_10, s_R_loose_23, s_R_loose_50, s_R_loose_15, s_R_loose_31, s_R_loose_53, s_R_loose_36, s_R_loose_58, s_R_loose_61, Option.bind_some, Option.bind_none, Option.toList_some, Option.toList_none, List.cons_append, List.nil_append, List.append_nil, nv_0, ng_0_0, ng_0_1, ng_0_2, ng_0_3, ng_0_4, ng_0_5, ng_0_6, ng_0_7, ng_0_8, ng_0_9, ng_0_10, ng_0_11, ng_0_12, ng_0_13, ng_0_14, rv_0, rg_0_0, rg_0_1, rg_0_2, rg_0_3, rg_0_4, rg_0_5, rg_0_6, rg_0_7, rg_0_8, rg_0_9, rv_17, rg_17_0, rg_17_1, n_drawSeaAndSwimmer hS, hd, nI_add1]
    exact ih (i + 1) _ (dyS (dsS S)) Z1 (okS_dy (okS_ds hS)) (by omega)
theorem q_loose (hS : okS S) (n : Int32) : CQ X (d + 7) j_R_loose [.ref (sh 0 0), .int n] R S K B4 (sp_loose R S K n) := by
  intro V Z T Y U hT
  show ∃ V' Z' T' Y' U' : xS, okN T' ∧ xcall X (d + 7) j_R_loose [.ref (sh 0 0), .int n] (w5 (rsC R V) (shC 1 S Z) (shC 2 T Y) (shC 3 K U) B4) = _
  rw [e_R_loose]
  unfold sp_loose
  simp only [s_R_loose_0, s_R_loose_7, s_R_loose_10, s_R_loose_15, s_R_loose_16, s_R_loose_20, s_R_loose_23, s_R_loose_31, s_R_loose_36, Option.bind_some, Option.bind_none, Option.toList_some, Option.toList_none, List.cons_append, List.nil_append, List.append_nil, nv_0, ng_0_0, ng_0_1, ng_0_2, ng_0_3, ng_0_4, ng_0_5, ng_0_6, ng_0_7, ng_0_8, ng_0_9, ng_0_10, ng_0_11, ng_0_12, ng_0_13, ng_0_14, rv_0, rg_0_0, rg_0_1, rg_0_2, rg_0_3, rg_0_4, rg_0_5, rg_0_6, rg_0_7, rg_0_8, rg_0_9, rv_17, rg_17_0, rg_17_1, c_R_within, c_R_error1, c_R_error3, z1_0]
  by_cases h1 : 1 ≤ n ∧ n ≤ 30
  · rw [if_neg (not_not_intro h1), if_neg (not_not_intro h1)]
    obtain ⟨N, rfl, hN⟩ := i32_ix (v := n) (n := 30) (by decide) ⟨Int32.le_trans (by decide) h1.1, h1.2⟩
    by_cases h2 : S.2 4 + nI N ≤ 9999
    · rw [if_pos h2, if_neg (not_not_intro h2), s_R_loose_37, ix_nI (Nat.lt_of_le_of_lt hN (by decide))]
      obtain ⟨Z', hl⟩ := l_R_loose (X := X) (d := d) (R := R) (V := V) (B2 := shC 2 T Y) (B3 := shC 3 K U) (B4 := B4) hN N 0 0 S Z hS (by omega)
      exact ⟨V, Z', T, Y, U, hT, hl⟩
    · rw [if_neg h2, if_pos h2]
      exact ⟨V, Z, T, Y, U, hT, rfl⟩
  · rw [if_pos h1, if_pos h1]
    exact ⟨V, Z, T, Y, U, hT, rfl⟩
theorem l_R_then {N : Nat} (hN : N ≤ 60) (p w : Int32) : ∀ (k i : Nat) (g : Int32) (S Z : xS), okS S → i + k = N → ∃ Z' : xS,
    xrun (X, xcall X (d + 6)) j_R_then 50 [.ref (sh 0 0), .int p, .int (nI N), .int w, .int (nI i)] [] (w5 (rsC R V) B1 (shC 2 S Z) B3 B4) = xrun (X, xcall X (d + 6)) j_R_then 70 [.ref (sh 0 0), .int p, .int (nI N), .int w, .int (nI N)] [] (w5 (rsC R V) B1 (shC 2 (dyI k S g).2 Z') B3 B4) := by
  intro k
  induction k with
  | zero =>
    intro i g S Z hS hi
    have h1 : nI N ≤ nI i := (nI_le_iff (by omega) (by omega)).mpr (by omega)
    refine ⟨Z, ?_⟩
    rw [s_R_then_50, if_pos h1, show i = N by omega]
    rfl
  | succ k ih =>
    intro i g S Z hS hi
    have h1 : ¬ nI N ≤ nI i := fun h => absurd ((nI_le_iff (by omega) (by omega)).mp h) (by omega)
    obtain ⟨Z1, hd⟩ := t_dayGoesBy (X := X) (d := d) (B0 := rsC R V) (B1 := B1) (B3 := B3) (B4 := B4) hS Z
    rw [s_R_then_50, if_neg h1]
    simp only [s_R_then_56, s_R_then_60, s_R_then_63, Option.bind_some, Option.bind_none, Option.toList_some, Option.toList_none, List.cons_append, List.nil_append, List.append_nil, tv_0, tg_0_0, tg_0_1, tg_0_2, tg_0_3, tg_0_4, tg_0_5, tg_0_6, tg_0_7, tg_0_8, tg_0_9, tg_0_10, tg_0_11, tg_0_12, tg_0_13, tg_0_14, rv_0, rg_0_0, rg_0_1, rg_0_2, rg_0_3, rg_0_4, rg_0_5, rg_0_6, rg_0_7, rg_0_8, rg_0_9, rv_17, rg_17_0, rg_17_1, hd, nI_add1]
    exact ih (i + 1) _ (dyS S) Z1 (okS_dy hS) (by omega)
theorem q_then (hS : okS S) (hN : okN S) (p n w : Int32) : CQ X (d + 7) j_R_then [.ref (sh 0 0), .int p, .int n, .int w] R S K B4 (sp_then R S K p n w) := by
  intro V Z T Y U hT
  show ∃ V' Z' T' Y' U' : xS, okN T' ∧ xcall X (d + 7) j_R_then [.ref (sh 0 0), .int p, .int n, .int w] (w5 (rsC R V) (shC 1 S Z) (shC 2 T Y) (shC 3 K U) B4) = _
  rw [e_R_then]
  unfold sp_then
  simp only [s_R_then_0, s_R_then_4, s_R_then_8, s_R_then_11, s_R_then_18, s_R_then_21, s_R_then_27, s_R_then_30, s_R_then_35, Option.bind_some, Option.bind_none, Option.toList_some, Option.toList_none, List.cons_append, List.nil_append, List.append_nil, nv_0, ng_0_0, ng_0_1, ng_0_2, ng_0_3, ng_0_4, ng_0_5, ng_0_6, ng_0_7, ng_0_8, ng_0_9, ng_0_10, ng_0_11, ng_0_12, ng_0_13, ng_0_14, rv_0, rg_0_0, rg_0_1, rg_0_2, rg_0_3, rg_0_4, rg_0_5, rg_0_6, rg_0_7, rg_0_8, rg_0_9, rv_17, rg_17_0, rg_17_1, n_has, c_R_within, c_R_error1, z1_0]
  by_cases h1 : hasP S p
  · by_cases h2 : 0 ≤ n ∧ n ≤ 60
    · by_cases h3 : 0 ≤ w ∧ w ≤ 1
      · rw [if_neg (not_not_intro h1), if_neg (not_not_intro h2), if_neg (not_not_intro h3), if_neg (fun e => e ⟨h1, h2, h3⟩)]
        obtain ⟨k, rfl, -, hk8⟩ := hasP_ix hS h1
        obtain ⟨N, rfl, hN60⟩ := i32_ix (v := n) (n := 60) (by decide) h2
        obtain ⟨Y1, hc⟩ := c_Sh_copy21 (X := X) (d := d + 4) (B0 := rsC R V) (B3 := shC 3 K U) (B4 := B4) (S := T) (T := S) (Z := Y) (Y := Z) hT hN
        obtain ⟨Y2, hl⟩ := l_R_then (X := X) (d := d) (R := R) (V := V) (B1 := shC 1 S Z) (B3 := shC 3 K U) (B4 := B4) hN60 (nI k) w N 0 0 S Y1 hS (by omega)
        have hl : xrun (X, xcall X (d + 6)) j_R_then 50 [.ref (sh 0 0), .int (nI k), .int (nI N), .int w, .int (0 : Int32)] [] (w5 (rsC R V) (shC 1 S Z) (shC 2 S Y1) (shC 3 K U) B4) = _ := hl
        have hSd : okS (dyI N S 0).2 := okS_dyI N 0 hS
        have hNd : okN (dyI N S 0).2 := okN_dyI N 0 hS hN
        simp only [s_R_then_36, s_R_then_40, s_R_then_44, s_R_then_47, Option.bind_some, Option.bind_none, Option.toList_some, Option.toList_none, List.cons_append, List.nil_append, List.append_nil, nv_0, ng_0_0, ng_0_1, ng_0_2, ng_0_3, ng_0_4, ng_0_5, ng_0_6, ng_0_7, ng_0_8, ng_0_9, ng_0_10, ng_0_11, ng_0_12, ng_0_13, ng_0_14, tv_0, tg_0_0, tg_0_1, tg_0_2, tg_0_3, tg_0_4, tg_0_5, tg_0_6, tg_0_7, tg_0_8, tg_0_9, tg_0_10, tg_0_11, tg_0_12, tg_0_13, tg_0_14, rv_0, rg_0_0, rg_0_1, rg_0_2, rg_0_3, rg_0_4, rg_0_5, rg_0_6, rg_0_7, rg_0_8, rg_0_9, rv_17, rg_17_0, rg_17_1, hc]
        rw [hl, s_R_then_70, ix_nI (Nat.lt_trans hk8 (by decide)), ix_nI (Nat.lt_of_le_of_lt hN60 (by decide))]
        by_cases hw : w = 0
        · obtain ⟨Y3, hr⟩ := t_ropeOf (X := X) (d := d + 1) (B0 := rsC R V) (B1 := shC 1 S Z) (B3 := shC 3 K U) (B4 := B4) hSd Y2 hk8
          refine ⟨V, Z, (dyI N S 0).2, Y3, U, hNd, ?_⟩
          rw [if_pos hw, if_pos hw]
          simp only [s_R_then_74, s_R_then_78, s_R_then_82, Option.bind_some, Option.bind_none, Option.toList_some, Option.toList_none, List.cons_append, List.nil_append, List.append_nil, tv_0, tg_0_0, tg_0_1, tg_0_2, tg_0_3, tg_0_4, tg_0_5, tg_0_6, tg_0_7, tg_0_8, tg_0_9, tg_0_10, tg_0_11, tg_0_12, tg_0_13, tg_0_14, rv_0, rg_0_0, rg_0_1, rg_0_2, rg_0_3, rg_0_4, rg_0_5, rg_0_6, rg_0_7, rg_0_8, rg_0_9, rv_17, rg_17_0, rg_17_1, hr]
          rfl
        · refine ⟨V, Z, (dyI N S 0).2, Y2, U, hNd, ?_⟩
          rw [if_neg hw, if_neg hw]
          simp only [s_R_then_83, s_R_then_87, s_R_then_90, s_R_then_92, Option.bind_some, Option.bind_none, Option.toList_some, Option.toList_none, List.cons_append, List.nil_append, List.append_nil, tv_0, tg_0_0, tg_0_1, tg_0_2, tg_0_3, tg_0_4, tg_0_5, tg_0_6, tg_0_7, tg_0_8, tg_0_9, tg_0_10, tg_0_11, tg_0_12, tg_0_13, tg_0_14, rv_0, rg_0_0, rg_0_1, rg_0_2, rg_0_3, rg_0_4, rg_0_5, rg_0_6, rg_0_7, rg_0_8, rg_0_9, rv_17, rg_17_0, rg_17_1, tr_12 hk8]
          by_cases h0 : (dyI N S 0).2.1 3 k = 0
          · rw [if_pos h0, if_pos h0, s_R_then_99, s_R_then_100]
            rfl
          · rw [if_neg h0, if_neg h0, s_R_then_95, s_R_then_100]
            rfl
      · rw [if_neg (not_not_intro h1), if_neg (not_not_intro h2), if_pos h3, if_pos (fun e => h3 e.2.2)]
        exact ⟨V, Z, T, Y, U, hT, rfl⟩
    · rw [if_neg (not_not_intro h1), if_pos h2, if_pos (fun e => h2 e.2.1)]
      exact ⟨V, Z, T, Y, U, hT, rfl⟩
  · rw [if_pos h1, if_pos (fun e => h1 e.1)]
    exact ⟨V, Z, T, Y, U, hT, rfl⟩
/-! odds -/
/-- Euclid's steps -/
def gdL : Nat → Int32 → Int32 → Int32
  | 0, of, _ => if of = 0 then 1 else of
  | n + 1, of, by' => if by' = 0 then (if of = 0 then 1 else of) else gdL n by' (of - of / by' * by')
theorem l_R_gd {σ : xW} (a b : Int32) : ∀ (k i : Nat) (of by' : Int32) (l5 : Value), i + k = 64 → xrun (X, xcall X d) j_R_greatestDivisor 7 [.int a, .int b, .int of, .int by', .int (nI i), l5] [] σ = some (some (.int (gdL k of by')), σ) := by
  intro k
  induction k with
  | zero =>
    intro i of by' l5 hi
    have h1 : (64 : Int32) ≤ nI i := (nI_le_iff (a := 64) (b := i) (by omega) (by omega)).mpr (by omega)
    rw [s_R_greatestDivisor_7, if_pos h1, s_R_greatestDivisor_34]
    unfold gdL
    by_cases h : of = 0
    · rw [if_pos h, if_pos h, s_R_greatestDivisor_38, s_R_greatestDivisor_43]
    · rw [if_neg h, if_neg h, s_R_greatestDivisor_42, s_R_greatestDivisor_43]
  | succ k ih =>
    intro i of by' l5 hi
    have h1 : ¬ (64 : Int32) ≤ nI i := fun h => absurd ((nI_le_iff (a := 64) (b := i) (by omega) (by omega)).mp h) (by omega)
    rw [s_R_greatestDivisor_7, if_neg h1, s_R_greatestDivisor_14]
    unfold gdL
    by_cases h0 : by' = 0
    · rw [if_pos h0, if_pos h0, s_R_greatestDivisor_34]
      by_cases h : of = 0
      · rw [if_pos h, if_pos h, s_R_greatestDivisor_38, s_R_greatestDivisor_43]
      · rw [if_neg h, if_neg h, s_R_greatestDivisor_42, s_R_greatestDivisor_43]
    · rw [if_neg h0, if_neg h0, s_R_greatestDivisor_18, if_neg h0, s_R_greatestDivisor_21, nI_add1]
      exact ih (i + 1) _ _ _ (by omega)
theorem gd_eq : ∀ r : Nat, r < 11 → gdL 64 10 (nI r) = nI (Nat.gcd r 10) := by decide +kernel
theorem gd_div : ∀ r : Nat, r < 11 → nI r / nI (Nat.gcd r 10) = nI (r / Nat.gcd r 10) ∧ (10 : Int32) / nI (Nat.gcd r 10) = nI (10 / Nat.gcd r 10) ∧ ¬ nI (Nat.gcd r 10) = 0 := by decide +kernel
theorem c_R_gd {σ : xW} {r : Nat} (hr : r < 11) : xcall X (d + 1) j_R_greatestDivisor [.int (nI r), .int (10 : Int32)] σ = some (some (.int (nI (Nat.gcd r 10))), σ) := by
  rw [e_R_greatestDivisor, s_R_greatestDivisor_0, ← gd_eq r hr]
  exact l_R_gd (nI r) 10 64 0 10 (nI r) _ (by omega)
theorem odL_le (S : xS) (o : Nat) (far : Int32) : ∀ n s r : Nat, odL S o far n s r ≤ r + n
  | 0, _, _ => Nat.le_refl _
  | n + 1, s, r => by
    unfold odL
    split
    · exact Nat.le_trans (odL_le S o far n _ _) (by omega)
    · exact Nat.le_trans (odL_le S o far n _ _) (by omega)
theorem l_R_odds (hS : okS S) {o : Nat} (ho : o < 8) (far w : Int32) : ∀ (k s r : Nat) (l6 : Value) (x : Int32) (Y : xS), s + k = 10 → ∃ (x' : Int32) (Y' : xS),
    xrun (X, xcall X (d + 5)) j_R_odds 54 [.ref (sh 0 0), .int (nI o), .int far, .int w, .int (nI r), .int (nI s), l6] [] (w5 (rsC R V) B1 (shC 2 (S.1, u1 S.2 3 x) Y) B3 B4) = xrun (X, xcall X (d + 5)) j_R_odds 96 [.ref (sh 0 0), .int (nI o), .int far, .int w, .int (nI (odL S o far k s r)), .int (nI 10), l6] [] (w5 (rsC R V) B1 (shC 2 (S.1, u1 S.2 3 x') Y') B3 B4) := by
  intro k
  induction k with
  | zero =>
    intro s r l6 x Y hs
    have hs' : s = 10 := by omega
    subst hs'
    have h1 : (9 : Int32) < nI 10 := by decide
    refine ⟨x, Y, ?_⟩
    rw [s_R_odds_54, if_pos h1]
    rfl
  | succ k ih =>
    intro s r l6 x Y hs
    have h1 : ¬ (9 : Int32) < nI s := fun h => absurd ((nI_lt_iff (a := 9) (b := s) (by omega) (by omega)).mp h) (by omega)
    have hS2 : okS (S.1, u1 S.2 3 (nI s)) := hS
    obtain ⟨Y1, hr⟩ := t_ropeOf (X := X) (d := d) (B0 := rsC R V) (B1 := B1) (B3 := B3) (B4 := B4) hS2 Y ho
    have hu : u1 (u1 S.2 3 x) 3 (nI s) = u1 S.2 3 (nI s) := by
      funext j
      unfold u1
      by_cases h : j = 3
      · rw [if_pos h, if_pos h]
      · rw [if_neg h, if_neg h, if_neg h]
    rw [s_R_odds_54, if_neg h1]
    unfold odL
    simp only [s_R_odds_61, s_R_odds_65, s_R_odds_70, s_R_odds_80, s_R_odds_84, Option.bind_some, Option.bind_none, Option.toList_some, Option.toList_none, List.cons_append, List.nil_append, List.append_nil, tv_0, tg_0_0, tg_0_1, tg_0_2, tg_0_3, tg_0_4, tg_0_5, tg_0_6, tg_0_7, tg_0_8, tg_0_9, tg_0_10, tg_0_11, tg_0_12, tg_0_13, tg_0_14, rv_0, rg_0_0, rg_0_1, rg_0_2, rg_0_3, rg_0_4, rg_0_5, rg_0_6, rg_0_7, rg_0_8, rg_0_9, rv_17, rg_17_0, rg_17_1, tp_0_12, hu, hr]
    by_cases h2 : far + 5 * nI s ≤ ro (S.1, u1 S.2 3 (nI s)) o
    · rw [if_neg (fun e => i32_nle.mpr e h2), if_pos h2, s_R_odds_87, s_R_odds_90, nI_add1, nI_add1]
      exact ih (s + 1) (r + 1) l6 _ Y1 (by omega)
    · rw [if_pos (i32_nle.mp h2), if_neg h2, s_R_odds_90, nI_add1]
      exact ih (s + 1) r l6 _ Y1 (by omega)
theorem q_odds (hS : okS S) (hN : okN S) (p far w : Int32) : CQ X (d + 6) j_R_odds [.ref (sh 0 0), .int p, .int far, .int w] R S K B4 (sp_odds R S K p far w) := by
  intro V Z T Y U hT
  show ∃ V' Z' T' Y' U' : xS, okN T' ∧ xcall X (d + 6) j_R_odds [.ref (sh 0 0), .int p, .int far, .int w] (w5 (rsC R V) (shC 1 S Z) (shC 2 T Y) (shC 3 K U) B4) = _
  rw [e_R_odds]
  unfold sp_odds
  simp only [s_R_odds_0, s_R_odds_4, s_R_odds_8, s_R_odds_11, s_R_odds_19, s_R_odds_22, s_R_odds_28, s_R_odds_31, s_R_odds_36, Option.bind_some, Option.bind_none, Option.toList_some, Option.toList_none, List.cons_append, List.nil_append, List.append_nil, nv_0, ng_0_0, ng_0_1, ng_0_2, ng_0_3, ng_0_4, ng_0_5, ng_0_6, ng_0_7, ng_0_8, ng_0_9, ng_0_10, ng_0_11, ng_0_12, ng_0_13, ng_0_14, rv_0, rg_0_0, rg_0_1, rg_0_2, rg_0_3, rg_0_4, rg_0_5, rg_0_6, rg_0_7, rg_0_8, rg_0_9, rv_17, rg_17_0, rg_17_1, n_has, c_R_within, c_R_error1, z1_0]
  by_cases h1 : hasP S p
  · by_cases h2 : 0 ≤ far ∧ far ≤ 500
    · by_cases h3 : 0 ≤ w ∧ w ≤ 1
      · rw [if_neg (not_not_intro h1), if_neg (not_not_intro h2), if_neg (not_not_intro h3), if_neg (fun e => e ⟨h1, h2, h3⟩)]
        obtain ⟨k, rfl, -, hk8⟩ := hasP_ix hS h1
        obtain ⟨Y1, hc⟩ := c_Sh_copy21 (X := X) (d := d + 3) (B0 := rsC R V) (B3 := shC 3 K U) (B4 := B4) (S := T) (T := S) (Z := Y) (Y := Z) hT hN
        obtain ⟨x', Y2, hl⟩ := l_R_odds (X := X) (d := d) (R := R) (V := V) (B1 := shC 1 S Z) (B3 := shC 3 K U) (B4 := B4) hS hk8 far w 10 0 0 .null (S.2 3) Y1 (by omega)
        have hu : u1 S.2 3 (S.2 3) = S.2 := by
          funext j
          unfold u1
          by_cases h : j = 3
          · rw [if_pos h, h]
          · rw [if_neg h]
        rw [hu] at hl
        have hl : xrun (X, xcall X (d + 5)) j_R_odds 54 [.ref (sh 0 0), .int (nI k), .int far, .int w, .int (0 : Int32), .int (0 : Int32), .null] [] (w5 (rsC R V) (shC 1 S Z) (shC 2 S Y1) (shC 3 K U) B4) = _ := hl
        have hNd : okN (S.1, u1 S.2 3 x') := hN
        have hr11 : odL S k far 10 0 0 < 11 := Nat.lt_succ_of_le (Nat.le_trans (odL_le S k far 10 0 0) (by omega))
        obtain ⟨g1, g2, g3⟩ := gd_div _ hr11
        refine ⟨V, Z, (S.1, u1 S.2 3 x'), Y2, U, hNd, ?_⟩
        simp only [s_R_odds_37, s_R_odds_41, s_R_odds_45, s_R_odds_48, Option.bind_some, Option.bind_none, Option.toList_some, Option.toList_none, List.cons_append, List.nil_append, List.append_nil, nv_0, ng_0_0, ng_0_1, ng_0_2, ng_0_3, ng_0_4, ng_0_5, ng_0_6, ng_0_7, ng_0_8, ng_0_9, ng_0_10, ng_0_11, ng_0_12, ng_0_13, ng_0_14, tv_0, tg_0_0, tg_0_1, tg_0_2, tg_0_3, tg_0_4, tg_0_5, tg_0_6, tg_0_7, tg_0_8, tg_0_9, tg_0_10, tg_0_11, tg_0_12, tg_0_13, tg_0_14, rv_0, rg_0_0, rg_0_1, rg_0_2, rg_0_3, rg_0_4, rg_0_5, rg_0_6, rg_0_7, rg_0_8, rg_0_9, rv_17, rg_17_0, rg_17_1, hc]
        rw [hl]
        simp only [s_R_odds_96, c_R_gd hr11, Option.bind_some, Option.bind_none, Option.toList_some, Option.toList_none, List.cons_append, List.nil_append, List.append_nil, s_R_odds_107, ix_nI (Nat.lt_trans hk8 (by decide))]
        by_cases hw : w = 0
        · rw [if_pos hw, if_pos hw, s_R_odds_113, s_R_odds_120, if_neg g3, s_R_odds_123, g1]
          rfl
        · rw [if_neg hw, if_neg hw, s_R_odds_118, s_R_odds_120, if_neg g3, s_R_odds_123, g2]
          rfl
      · rw [if_neg (not_not_intro h1), if_neg (not_not_intro h2), if_pos h3, if_pos (fun e => h3 e.2.2)]
        exact ⟨V, Z, T, Y, U, hT, rfl⟩
    · rw [if_neg (not_not_intro h1), if_pos h2, if_pos (fun e => h2 e.2.1)]
      exact ⟨V, Z, T, Y, U, hT, rfl⟩
  · rw [if_pos h1, if_pos (fun e => h1 e.1)]
    exact ⟨V, Z, T, Y, U, hT, rfl⟩
end RCalls3
