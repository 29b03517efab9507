/-! ===== contracts: RopeShore's calls, 4: sheets ===== -/
def szs (R : xS) (s : Nat) : Nat := ix (R.2 (2 + 2 * s))
def okR (R : xS) : Prop := (∀ s, s < 4 → R.2 (2 + 2 * s) = nI (szs R s) ∧ szs R s ≤ 24) ∧ R.2 9 = nI (ix (R.2 9)) ∧ ix (R.2 9) ≤ 30
section Sheets
variable {B1 B2 B3 B4 : List xE} {R V : xS} {X : xX}
theorem c4s {P : Nat → Prop} (h0 : P 0) (h1 : P 1) (h2 : P 2) (h3 : P 3) {s : Nat} (hs : s < 4) : P s := by
  obtain rfl | rfl | rfl | rfl : s = 0 ∨ s = 1 ∨ s = 2 ∨ s = 3 := by omega
  · exact h0
  · exact h1
  · exact h2
  · exact h3
theorem zv {s : Nat} (hs : s < 4) : xv1 (w5 (rsC R V) B1 B2 B3 B4) (sh 0 (5 + 2 * s)) 3 = some () :=
  c4s (P := fun s => xv1 (w5 (rsC R V) B1 B2 B3 B4) (sh 0 (5 + 2 * s)) 3 = some ()) rv_5 rv_7 rv_9 rv_11 hs
theorem zg0 {s : Nat} (hs : s < 4) : xgf (w5 (rsC R V) B1 B2 B3 B4) (sh 0 (5 + 2 * s)) 3 0 = some (.ref (sh 0 (6 + 2 * s))) :=
  c4s (P := fun s => xgf (w5 (rsC R V) B1 B2 B3 B4) (sh 0 (5 + 2 * s)) 3 0 = some (.ref (sh 0 (6 + 2 * s)))) rg_5_0 rg_7_0 rg_9_0 rg_11_0 hs
theorem zg1 {s : Nat} (hs : s < 4) : xgf (w5 (rsC R V) B1 B2 B3 B4) (sh 0 (5 + 2 * s)) 3 1 = some (.int (R.2 (1 + 2 * s))) :=
  c4s (P := fun s => xgf (w5 (rsC R V) B1 B2 B3 B4) (sh 0 (5 + 2 * s)) 3 1 = some (.int (R.2 (1 + 2 * s)))) rg_5_1 rg_7_1 rg_9_1 rg_11_1 hs
theorem zg2 {s : Nat} (hs : s < 4) : xgf (w5 (rsC R V) B1 B2 B3 B4) (sh 0 (5 + 2 * s)) 3 2 = some (.int (R.2 (2 + 2 * s))) :=
  c4s (P := fun s => xgf (w5 (rsC R V) B1 B2 B3 B4) (sh 0 (5 + 2 * s)) 3 2 = some (.int (R.2 (2 + 2 * s)))) rg_5_2 rg_7_2 rg_9_2 rg_11_2 hs
theorem zp1 {s : Nat} (hs : s < 4) (x : Int32) : xpf (w5 (rsC R V) B1 B2 B3 B4) (sh 0 (5 + 2 * s)) 3 1 x = some (w5 (rsC (R.1, u1 R.2 (1 + 2 * s) x) V) B1 B2 B3 B4) :=
  c4s (P := fun s => xpf (w5 (rsC R V) B1 B2 B3 B4) (sh 0 (5 + 2 * s)) 3 1 x = some (w5 (rsC (R.1, u1 R.2 (1 + 2 * s) x) V) B1 B2 B3 B4)) (rp_5_1 x) (rp_7_1 x) (rp_9_1 x) (rp_11_1 x) hs
theorem zp2 {s : Nat} (hs : s < 4) (x : Int32) : xpf (w5 (rsC R V) B1 B2 B3 B4) (sh 0 (5 + 2 * s)) 3 2 x = some (w5 (rsC (R.1, u1 R.2 (2 + 2 * s) x) V) B1 B2 B3 B4) :=
  c4s (P := fun s => xpf (w5 (rsC R V) B1 B2 B3 B4) (sh 0 (5 + 2 * s)) 3 2 x = some (w5 (rsC (R.1, u1 R.2 (2 + 2 * s) x) V) B1 B2 B3 B4)) (rp_5_2 x) (rp_7_2 x) (rp_9_2 x) (rp_11_2 x) hs
theorem zr {s k : Nat} (hs : s < 4) (hk : k < 24) : xrd X (w5 (rsC R V) B1 B2 B3 B4) [0] (sh 0 (6 + 2 * s)) (nI k) = some (R.1 (1 + s) k) :=
  c4s (P := fun s => xrd X (w5 (rsC R V) B1 B2 B3 B4) [0] (sh 0 (6 + 2 * s)) (nI k) = some (R.1 (1 + s) k)) (rr_6 hk) (rr_8 hk) (rr_10 hk) (rr_12 hk) hs
theorem zw {s k : Nat} (hs : s < 4) (hk : k < 24) {x : Int32} : xwr (w5 (rsC R V) B1 B2 B3 B4) [0] (sh 0 (6 + 2 * s)) (nI k) x = some (w5 (rsC (u2 R.1 (1 + s) (upd (R.1 (1 + s)) k x), R.2) V) B1 B2 B3 B4) :=
  c4s (P := fun s => xwr (w5 (rsC R V) B1 B2 B3 B4) [0] (sh 0 (6 + 2 * s)) (nI k) x = some (w5 (rsC (u2 R.1 (1 + s) (upd (R.1 (1 + s)) k x), R.2) V) B1 B2 B3 B4)) (rw_6 hk) (rw_8 hk) (rw_10 hk) (rw_12 hk) hs
theorem zl {s : Nat} (hs : s < 4) : xal X (w5 (rsC R V) B1 B2 B3 B4) (sh 0 (6 + 2 * s)) = some 24 :=
  c4s (P := fun s => xal X (w5 (rsC R V) B1 B2 B3 B4) (sh 0 (6 + 2 * s)) = some 24) rl_6 rl_8 rl_10 rl_12 hs
theorem zc {s : Nat} (hs : s < 4) : (w5 (rsC R V) B1 B2 B3 B4 0)[6 + 2 * s]? = some (.inl (0, 24, .inl (R.1 (1 + s)))) :=
  c4s (P := fun s => (w5 (rsC R V) B1 B2 B3 B4 0)[6 + 2 * s]? = some (.inl (0, 24, .inl (R.1 (1 + s))))) rfl rfl rfl rfl hs
theorem zset {s : Nat} (hs : s < 4) (f : Nat → Int32) : ub (w5 (rsC R V) B1 B2 B3 B4) 0 ((w5 (rsC R V) B1 B2 B3 B4 0).set (6 + 2 * s) (.inl (0, 24, .inl f))) = w5 (rsC (u2 R.1 (1 + s) f, R.2) V) B1 B2 B3 B4 :=
  c4s (P := fun s => ub (w5 (rsC R V) B1 B2 B3 B4) 0 ((w5 (rsC R V) B1 B2 B3 B4 0).set (6 + 2 * s) (.inl (0, 24, .inl f))) = w5 (rsC (u2 R.1 (1 + s) f, R.2) V) B1 B2 B3 B4) (ub_w5_0 _ _ _ _ _ _) (ub_w5_0 _ _ _ _ _ _) (ub_w5_0 _ _ _ _ _ _) (ub_w5_0 _ _ _ _ _ _) hs
end Sheets
def zer (f : Nat → Int32) (n : Nat) : Nat → Int32 := fun k => if k < n then 0 else f k
theorem zer_step (f : Nat → Int32) (n : Nat) : upd (zer f n) n 0 = zer f (n + 1) := by
  funext k
  unfold upd zer
  by_cases h : k = n
  · rw [if_pos h, if_pos (by omega)]
  · rw [if_neg h]
    by_cases h2 : k < n
    · rw [if_pos h2, if_pos (by omega)]
    · rw [if_neg h2, if_neg (by omega)]
theorem zer_0 (f : Nat → Int32) : zer f 0 = f := by
  funext k
  exact if_neg (Nat.not_lt_zero k)
def rnw (R : xS) (s : Nat) (b n : Int32) : xS := (u2 R.1 (1 + s) (zer (R.1 (1 + s)) 24), u1 (u1 R.2 (1 + 2 * s) b) (2 + 2 * s) n)
def nar (b v : Int32) : Int32 := if b = 8 then v.toInt8.toInt32 else if b = 16 then v.toInt16.toInt32 else v
abbrev isB (b : Int32) : Prop := b = 0 ∨ b = 8 ∨ b = 16 ∨ b = 32
abbrev isSh (s : Int32) : Prop := 0 ≤ s ∧ s ≤ 3
def sp_sheet (R S K : xS) (s b n : Int32) : Int32 × xQS :=
  if ¬ (isSh s ∧ isB b) then eQ 1 R S K
  else if b = 0 then (1, rnw R (ix s) 0 0, S, K)
  else if ¬ 0 ≤ n then eQ 3 R S K
  else if ¬ n ≤ 24 then eQ 1 R S K
  else (1, rnw R (ix s) b n, S, K)
def sp_put (R S K : xS) (s i v : Int32) : Int32 × xQS :=
  if ¬ isSh s then eQ 1 R S K
  else if R.2 (1 + 2 * ix s) = 0 then eQ 2 R S K
  else if ¬ (0 ≤ i ∧ i ≤ R.2 (2 + 2 * ix s) - 1) then eQ 1 R S K
  else (1, (u2 R.1 (1 + ix s) (upd (R.1 (1 + ix s)) (ix i) (nar (R.2 (1 + 2 * ix s)) v)), R.2), S, K)
abbrev hol (R : xS) (s : Nat) (i n : Int32) : Prop := 0 ≤ i ∧ 0 ≤ n ∧ n ≤ R.2 (2 + 2 * s) ∧ i ≤ R.2 (2 + 2 * s) - n
def sp_move (R S K : xS) (s i o j n : Int32) : Int32 × xQS :=
  if ¬ (isSh s ∧ isSh o) then eQ 1 R S K
  else if R.2 (1 + 2 * ix s) = 0 ∨ R.2 (1 + 2 * ix o) = 0 then eQ 2 R S K
  else if ¬ R.2 (1 + 2 * ix s) = R.2 (1 + 2 * ix o) then eQ 5 R S K
  else if ¬ (hol R (ix s) i n ∧ hol R (ix o) j n) then eQ 1 R S K
  else (n, (u2 R.1 (1 + ix o) (va_cpy (R.1 (1 + ix s)) (R.1 (1 + ix o)) (ix i) (ix j) (ix n)), R.2), S, K)
section RCalls4
variable {X : xX} {d : Nat} {R S K V : xS} {B1 B2 B3 B4 : List xE}
theorem sh_ix {s : Int32} (h : isSh s) : ∃ k : Nat, s = nI k ∧ k < 4 := by
  obtain ⟨k, rfl, hk⟩ := i32_ix (v := s) (n := 3) (by decide) h
  exact ⟨k, rfl, by omega⟩
theorem c_Se_isMissing {s : Nat} (hs : s < 4) : xcall X (d + 1) j_Se_isMissing [.ref (sh 0 (5 + 2 * s))] (w5 (rsC R V) B1 B2 B3 B4) = some (some (.int (z1 (R.2 (1 + 2 * s) = 0))), w5 (rsC R V) B1 B2 B3 B4) := by
  rw [e_Se_isMissing]
  simp only [s_Se_isMissing_0, s_Se_isMissing_11, s_Se_isMissing_12, s_Se_isMissing_4, s_Se_isMissing_7, Option.bind_some, Option.bind_none, Option.toList_some, Option.toList_none, List.cons_append, List.nil_append, List.append_nil, zg1 hs, xz1, xz0, if_true]
  by_cases h : R.2 (1 + 2 * s) = 0
  · rw [if_pos h, z1_t h]
  · rw [if_neg h, z1_f h]
theorem c_Se_holds {s : Nat} (hs : s < 4) (i n : Int32) : xcall X (d + 1) j_Se_holds [.ref (sh 0 (5 + 2 * s)), .int i, .int n] (w5 (rsC R V) B1 B2 B3 B4) = some (some (.int (z1 (hol R s i n))), w5 (rsC R V) B1 B2 B3 B4) := by
  rw [e_Se_holds]
  simp only [s_Se_holds_0, s_Se_holds_30, s_Se_holds_31, s_Se_holds_4, s_Se_holds_8, s_Se_holds_13, s_Se_holds_16, s_Se_holds_21, s_Se_holds_26, Option.bind_some, Option.bind_none, Option.toList_some, Option.toList_none, List.cons_append, List.nil_append, List.append_nil, zg2 hs, xz1, xz0, if_true]
  by_cases h1 : i < 0
  · rw [if_pos h1, z1_f (fun h => absurd h.1 (i32_nle.mpr h1))]
  rw [if_neg h1]
  by_cases h2 : n < 0
  · rw [if_pos h2, z1_f (fun h => absurd h.2.1 (i32_nle.mpr h2))]
  rw [if_neg h2]
  by_cases h3 : R.2 (2 + 2 * s) < n
  · rw [if_pos h3, z1_f (fun h => absurd h.2.2.1 (i32_nle.mpr h3))]
  rw [if_neg h3]
  by_cases h4 : R.2 (2 + 2 * s) - n < i
  · rw [if_pos h4, z1_f (fun h => absurd h.2.2.2 (i32_nle.mpr h4))]
  rw [if_neg h4, z1_t ⟨i32_nlt.mp h1, i32_nlt.mp h2, i32_nlt.mp h3, i32_nlt.mp h4⟩]
theorem c_Se_set {s k : Nat} (hs : s < 4) (hk : k < 24) (v : Int32) : xcall X (d + 1) j_Se_set [.ref (sh 0 (5 + 2 * s)), .int (nI k), .int v] (w5 (rsC R V) B1 B2 B3 B4) = some (none, w5 (rsC (u2 R.1 (1 + s) (upd (R.1 (1 + s)) k (nar (R.2 (1 + 2 * s)) v)), R.2) V) B1 B2 B3 B4) := by
  rw [e_Se_set]
  unfold nar
  simp only [s_Se_set_0, s_Se_set_19, s_Se_set_33, s_Se_set_34, s_Se_set_4, s_Se_set_23, s_Se_set_35, s_Se_set_9, s_Se_set_28, s_Se_set_14, Option.bind_some, Option.bind_none, Option.toList_some, Option.toList_none, List.cons_append, List.nil_append, List.append_nil, zg0 hs, zg1 hs, zw hs hk]
  by_cases h1 : R.2 (1 + 2 * s) = 8
  · rw [if_pos h1, if_pos h1]
  rw [if_neg h1, if_neg h1]
  by_cases h2 : R.2 (1 + 2 * s) = 16
  · rw [if_pos h2, if_pos h2]
  rw [if_neg h2, if_neg h2]
theorem l_Se_renew {s : Nat} (hs : s < 4) (b n : Int32) : ∀ k i : Nat, i + k = 24 → xrun (X, xcall X d) j_Se_renew 2 [.ref (sh 0 (5 + 2 * s)), .int b, .int n, .int (nI i)] [] (w5 (rsC (u2 R.1 (1 + s) (zer (R.1 (1 + s)) i), R.2) V) B1 B2 B3 B4) = some (none, w5 (rsC (rnw R s b n) V) B1 B2 B3 B4) := by
  intro k
  induction k with
  | zero =>
    intro i hi
    have hi' : i = 24 := by omega
    subst hi'
    have h1 : Int32.ofNat 24 ≤ nI 24 := by decide
    rw [s_Se_renew_2]
    simp only [s_Se_renew_7, s_Se_renew_8, Option.bind_some, Option.bind_none, Option.toList_some, Option.toList_none, List.cons_append, List.nil_append, List.append_nil, zg0 hs, zl hs, if_pos h1, s_Se_renew_24, s_Se_renew_29, s_Se_renew_34, zp1 hs, zp2 hs]
    rfl
  | succ k ih =>
    intro i hi
    have h1 : ¬ Int32.ofNat 24 ≤ nI i := fun h => absurd ((nI_le_iff (a := 24) (b := i) (by omega) (by omega)).mp h) (by omega)
    have hi24 : i < 24 := by omega
    rw [s_Se_renew_2]
    simp only [s_Se_renew_7, s_Se_renew_8, Option.bind_some, Option.bind_none, Option.toList_some, Option.toList_none, List.cons_append, List.nil_append, List.append_nil, zg0 hs, zl hs, if_neg h1, s_Se_renew_11, s_Se_renew_15, s_Se_renew_18, zw hs hi24, nI_add1, u2_at, u2_u2, zer_step]
    exact ih (i + 1) (by omega)
theorem c_Se_renew {s : Nat} (hs : s < 4) (b n : Int32) : xcall X (d + 1) j_Se_renew [.ref (sh 0 (5 + 2 * s)), .int b, .int n] (w5 (rsC R V) B1 B2 B3 B4) = some (none, w5 (rsC (rnw R s b n) V) B1 B2 B3 B4) := by
  rw [e_Se_renew, s_Se_renew_0]
  have h := l_Se_renew (X := X) (d := d) (R := R) (V := V) (B1 := B1) (B2 := B2) (B3 := B3) (B4 := B4) hs b n 24 0 (by omega)
  rw [zer_0, u2_self] at h
  exact h
theorem q_sheet (s b n : Int32) : CQ X (d + 3) j_R_sheet [.ref (sh 0 0), .int s, .int b, .int n] R S K B4 (sp_sheet R S K s b n) := by
  refine CQ.of fun V Z T Y U => ?_
  rw [e_R_sheet]
  unfold sp_sheet
  simp only [s_R_sheet_0, s_R_sheet_4, s_R_sheet_7, s_R_sheet_11, s_R_sheet_14, s_R_sheet_19, Option.bind_some, Option.bind_none, Option.toList_some, Option.toList_none, List.cons_append, List.nil_append, List.append_nil, rv_0, rg_0_0, rg_0_1, rg_0_2, rg_0_3, rg_0_4, rg_0_5, rg_0_6, rg_0_7, rg_0_8, rg_0_9, rv_17, rg_17_0, rg_17_1, c_R_isSheet, c_R_isBits, c_R_error1, z1_0]
  by_cases h1 : isSh s
  · by_cases h2 : isB b
    · have h1' : ¬ ¬ (0 ≤ s ∧ s ≤ 3) := not_not_intro h1
      have h2' : ¬ ¬ (b = 0 ∨ b = 8 ∨ b = 16 ∨ b = 32) := not_not_intro h2
      rw [if_neg h1', if_neg h2', if_neg (not_not_intro (show isSh s ∧ isB b from ⟨h1, h2⟩)), s_R_sheet_20]
      obtain ⟨k, rfl, hk⟩ := sh_ix h1
      by_cases h3 : b = 0
      · rw [if_pos h3, if_pos h3]
        simp only [s_R_sheet_24, s_R_sheet_28, s_R_sheet_30, s_R_sheet_35, Option.bind_some, Option.bind_none, Option.toList_some, Option.toList_none, List.cons_append, List.nil_append, List.append_nil, rv_0, rg_0_0, rg_0_1, rg_0_2, rg_0_3, rg_0_4, rg_0_5, rg_0_6, rg_0_7, rg_0_8, rg_0_9, rv_17, rg_17_0, rg_17_1, rq_1 hk, zv hk, c_Se_renew hk, ix_nI (Nat.lt_trans hk (by decide))]
      · rw [if_neg h3, if_neg h3, s_R_sheet_37]
        by_cases h4 : 0 ≤ n
        · rw [if_pos h4, if_neg (not_not_intro h4), s_R_sheet_47]
          by_cases h5 : n ≤ 24
          · rw [if_pos h5, if_neg (not_not_intro h5)]
            simp only [s_R_sheet_59, s_R_sheet_63, s_R_sheet_65, s_R_sheet_70, Option.bind_some, Option.bind_none, Option.toList_some, Option.toList_none, List.cons_append, List.nil_append, List.append_nil, rv_0, rg_0_0, rg_0_1, rg_0_2, rg_0_3, rg_0_4, rg_0_5, rg_0_6, rg_0_7, rg_0_8, rg_0_9, rv_17, rg_17_0, rg_17_1, rq_1 hk, zv hk, c_Se_renew hk, ix_nI (Nat.lt_trans hk (by decide))]
          · rw [if_neg h5, if_pos h5]
            simp only [s_R_sheet_53, s_R_sheet_58, Option.bind_some, Option.bind_none, Option.toList_some, Option.toList_none, List.cons_append, List.nil_append, List.append_nil, rv_0, rg_0_0, rg_0_1, rg_0_2, rg_0_3, rg_0_4, rg_0_5, rg_0_6, rg_0_7, rg_0_8, rg_0_9, rv_17, rg_17_0, rg_17_1, c_R_error1]
            rfl
        · rw [if_neg h4, if_pos h4]
          simp only [s_R_sheet_41, s_R_sheet_46, Option.bind_some, Option.bind_none, Option.toList_some, Option.toList_none, List.cons_append, List.nil_append, List.append_nil, rv_0, rg_0_0, rg_0_1, rg_0_2, rg_0_3, rg_0_4, rg_0_5, rg_0_6, rg_0_7, rg_0_8, rg_0_9, rv_17, rg_17_0, rg_17_1, c_R_error3]
          rfl
    · have h1' : ¬ ¬ (0 ≤ s ∧ s ≤ 3) := not_not_intro h1
      have h2' : ¬ (b = 0 ∨ b = 8 ∨ b = 16 ∨ b = 32) := h2
      rw [if_neg h1', if_pos h2', if_pos (fun e : isSh s ∧ isB b => h2 e.2)]
      rfl
  · have h1' : ¬ (0 ≤ s ∧ s ≤ 3) := h1
    rw [if_pos h1', if_pos (fun e : isSh s ∧ isB b => h1 e.1)]
    rfl
theorem q_put (hR : okR R) (s i v : Int32) : CQ X (d + 3) j_R_put [.ref (sh 0 0), .int s, .int i, .int v] R S K B4 (sp_put R S K s i v) := by
  refine CQ.of fun V Z T Y U => ?_
  rw [e_R_put]
  unfold sp_put
  simp only [s_R_put_0, s_R_put_4, s_R_put_7, s_R_put_12, Option.bind_some, Option.bind_none, Option.toList_some, Option.toList_none, List.cons_append, List.nil_append, List.append_nil, rv_0, rg_0_0, rg_0_1, rg_0_2, rg_0_3, rg_0_4, rg_0_5, rg_0_6, rg_0_7, rg_0_8, rg_0_9, rv_17, rg_17_0, rg_17_1, c_R_isSheet, c_R_error1, z1_0]
  by_cases h1 : isSh s
  · have h1' : ¬ ¬ (0 ≤ s ∧ s ≤ 3) := not_not_intro h1
    rw [if_neg h1', if_neg (not_not_intro h1)]
    obtain ⟨k, rfl, hk⟩ := sh_ix h1
    obtain ⟨hz1, hz2⟩ := hR.1 k hk
    rw [ix_nI (Nat.lt_trans hk (by decide))]
    simp only [s_R_put_13, s_R_put_17, s_R_put_19, s_R_put_26, Option.bind_some, Option.bind_none, Option.toList_some, Option.toList_none, List.cons_append, List.nil_append, List.append_nil, rv_0, rg_0_0, rg_0_1, rg_0_2, rg_0_3, rg_0_4, rg_0_5, rg_0_6, rg_0_7, rg_0_8, rg_0_9, rv_17, rg_17_0, rg_17_1, rq_1 hk, zv hk, c_Se_isMissing hk, z1_0]
    by_cases h2 : R.2 (1 + 2 * k) = 0
    · rw [if_neg (not_not_intro h2), if_pos h2]
      simp only [s_R_put_29, s_R_put_34, Option.bind_some, Option.bind_none, Option.toList_some, Option.toList_none, List.cons_append, List.nil_append, List.append_nil, rv_0, rg_0_0, rg_0_1, rg_0_2, rg_0_3, rg_0_4, rg_0_5, rg_0_6, rg_0_7, rg_0_8, rg_0_9, rv_17, rg_17_0, rg_17_1, c_R_error2]
      rfl
    · rw [if_pos h2, if_neg h2]
      simp only [s_R_put_35, s_R_put_42, s_R_put_47, Option.bind_some, Option.bind_none, Option.toList_some, Option.toList_none, List.cons_append, List.nil_append, List.append_nil, rv_0, rg_0_0, rg_0_1, rg_0_2, rg_0_3, rg_0_4, rg_0_5, rg_0_6, rg_0_7, rg_0_8, rg_0_9, rv_17, rg_17_0, rg_17_1, zg2 hk, c_R_within, z1_0]
      by_cases h3 : 0 ≤ i ∧ i ≤ R.2 (2 + 2 * k) - 1
      · rw [if_neg (not_not_intro h3), if_neg (not_not_intro h3)]
        have hi : ∃ m : Nat, i = nI m ∧ m < 24 := by
          rw [hz1] at h3
          by_cases hz0 : szs R k = 0
          · rw [hz0] at h3
            exact absurd (Int32.le_trans h3.1 h3.2) (by decide)
          · obtain ⟨m, rfl, hm⟩ := i32_ix (v := i) (n := szs R k - 1) (by omega) ⟨h3.1, by rw [← nI_sub1 (by omega)]; exact h3.2⟩
            exact ⟨m, rfl, by omega⟩
        obtain ⟨m, rfl, hm⟩ := hi
        simp only [s_R_put_56, s_R_put_63, Option.bind_some, Option.bind_none, Option.toList_some, Option.toList_none, List.cons_append, List.nil_append, List.append_nil, rv_0, rg_0_0, rg_0_1, rg_0_2, rg_0_3, rg_0_4, rg_0_5, rg_0_6, rg_0_7, rg_0_8, rg_0_9, rv_17, rg_17_0, rg_17_1, zv hk, c_Se_set hk hm, ix_nI (Nat.lt_trans hm (by decide))]
      · rw [if_pos h3, if_pos h3]
        simp only [s_R_put_50, s_R_put_55, Option.bind_some, Option.bind_none, Option.toList_some, Option.toList_none, List.cons_append, List.nil_append, List.append_nil, rv_0, rg_0_0, rg_0_1, rg_0_2, rg_0_3, rg_0_4, rg_0_5, rg_0_6, rg_0_7, rg_0_8, rg_0_9, rv_17, rg_17_0, rg_17_1, c_R_error1]
        rfl
  · have h1' : ¬ (0 ≤ s ∧ s ≤ 3) := h1
    rw [if_pos h1', if_pos h1]
    rfl
theorem hol_ix (hR : okR R) {s : Nat} (hs : s < 4) {i n : Int32} (h : hol R s i n) : ∃ a c : Nat, i = nI a ∧ n = nI c ∧ a + c ≤ 24 := by
  obtain ⟨hz1, hz2⟩ := hR.1 s hs
  obtain ⟨h1, h2, h3, h4⟩ := h
  rw [hz1] at h3 h4
  obtain ⟨c, rfl, hc⟩ := i32_ix (v := n) (n := szs R s) (by omega) ⟨h2, h3⟩
  have e : nI (szs R s) - nI c = nI (szs R s - c) := by
    rw [Int32.sub_eq_add_neg]
    have : nI (szs R s) = nI (szs R s - c) + nI c := by
      rw [show nI (szs R s - c) + nI c = nI (szs R s - c + c) from (Int32.ofNat_add _ _).symm, Nat.sub_add_cancel hc]
    rw [this, Int32.add_assoc, Int32.add_right_neg, Int32.add_zero]
  rw [e] at h4
  obtain ⟨a, rfl, ha⟩ := i32_ix (v := i) (n := szs R s - c) (by omega) ⟨h1, h4⟩
  exact ⟨a, c, rfl, rfl, by omega⟩
theorem z_cp {s o a c b : Nat} (hs : s < 4) (ho : o < 4) (h1 : a + c ≤ 24) (h2 : b + c ≤ 24) : xcp (w5 (rsC R V) B1 B2 B3 B4) (nI c) (nI b) (sh 0 (6 + 2 * o)) (nI a) (sh 0 (6 + 2 * s)) = some (w5 (rsC (u2 R.1 (1 + o) (va_cpy (R.1 (1 + s)) (R.1 (1 + o)) a b c), R.2) V) B1 B2 B3 B4) := by
  unfold xcp
  rw [xg_sh (by omega), xg_sh (by omega), zc hs, zc ho]
  simp only
  rw [show (nI c).toNatClampNeg = c from nI_clamp (by omega), show (nI b).toNatClampNeg = b from nI_clamp (by omega), show (nI a).toNatClampNeg = a from nI_clamp (by omega), xs_sh (by omega), if_pos ⟨trivial, by decide, nI_pos (by omega), nI_pos (by omega), nI_pos (by omega), h1, h2, Or.inl trivial⟩, zset ho]
theorem q_move (hR : okR R) (s i o j n : Int32) : CQ X (d + 3) j_R_move [.ref (sh 0 0), .int s, .int i, .int o, .int j, .int n] R S K B4 (sp_move R S K s i o j n) := by
  refine CQ.of fun V Z T Y U => ?_
  rw [e_R_move]
  unfold sp_move
  simp only [s_R_move_0, s_R_move_4, s_R_move_7, s_R_move_11, s_R_move_14, s_R_move_19, Option.bind_some, Option.bind_none, Option.toList_some, Option.toList_none, List.cons_append, List.nil_append, List.append_nil, rv_0, rg_0_0, rg_0_1, rg_0_2, rg_0_3, rg_0_4, rg_0_5, rg_0_6, rg_0_7, rg_0_8, rg_0_9, rv_17, rg_17_0, rg_17_1, c_R_isSheet, c_R_error1, z1_0]
  by_cases h1 : isSh s
  · have h1' : ¬ ¬ (0 ≤ s ∧ s ≤ 3) := not_not_intro h1
    by_cases h2 : isSh o
    · have h2' : ¬ ¬ (0 ≤ o ∧ o ≤ 3) := not_not_intro h2
      rw [if_neg h1', if_neg h2', if_neg (not_not_intro (show isSh s ∧ isSh o from ⟨h1, h2⟩))]
      obtain ⟨k, rfl, hk⟩ := sh_ix h1
      obtain ⟨l, rfl, hl⟩ := sh_ix h2
      rw [ix_nI (Nat.lt_trans hk (by decide)), ix_nI (Nat.lt_trans hl (by decide))]
      simp only [s_R_move_20, s_R_move_24, s_R_move_26, s_R_move_32, s_R_move_34, s_R_move_41, Option.bind_some, Option.bind_none, Option.toList_some, Option.toList_none, List.cons_append, List.nil_append, List.append_nil, rv_0, rg_0_0, rg_0_1, rg_0_2, rg_0_3, rg_0_4, rg_0_5, rg_0_6, rg_0_7, rg_0_8, rg_0_9, rv_17, rg_17_0, rg_17_1, rq_1 hk, rq_1 hl, zv hk, c_Se_isMissing hk, z1_0]
      have em : xrun (X, xcall X (d + 2)) j_R_move 52 [.ref (sh 0 0), .int (nI k), .int i, .int (nI l), .int j, .int n, .ref (sh 0 (5 + 2 * k)), .ref (sh 0 (5 + 2 * l))] [] (w5 (rsC R V) (shC 1 S Z) (shC 2 T Y) (shC 3 K U) B4) = some (some (.int (eQ 2 R S K).1), w5 (rsC (eQ 2 R S K).2.1 V) (shC 1 (eQ 2 R S K).2.2.1 Z) (shC 2 T Y) (shC 3 (eQ 2 R S K).2.2.2 U) B4) := by
        simp only [s_R_move_52, s_R_move_57, Option.bind_some, Option.bind_none, Option.toList_some, Option.toList_none, List.cons_append, List.nil_append, List.append_nil, rv_0, rg_0_0, rg_0_1, rg_0_2, rg_0_3, rg_0_4, rg_0_5, rg_0_6, rg_0_7, rg_0_8, rg_0_9, rv_17, rg_17_0, rg_17_1, c_R_error2]
        rfl
      by_cases h3 : R.2 (1 + 2 * k) = 0
      · rw [if_neg (not_not_intro h3), if_pos (Or.inl h3)]
        exact em
      rw [if_pos h3]
      simp only [s_R_move_44, s_R_move_49, Option.bind_some, Option.bind_none, Option.toList_some, Option.toList_none, List.cons_append, List.nil_append, List.append_nil, rv_0, rg_0_0, rg_0_1, rg_0_2, rg_0_3, rg_0_4, rg_0_5, rg_0_6, rg_0_7, rg_0_8, rg_0_9, rv_17, rg_17_0, rg_17_1, zv hl, c_Se_isMissing hl, z1_0]
      by_cases h4 : R.2 (1 + 2 * l) = 0
      · rw [if_neg (not_not_intro h4), if_pos (Or.inr h4)]
        exact em
      rw [if_pos h4, if_neg (fun e => e.elim h3 h4)]
      simp only [s_R_move_58, s_R_move_63, s_R_move_68, Option.bind_some, Option.bind_none, Option.toList_some, Option.toList_none, List.cons_append, List.nil_append, List.append_nil, rv_0, rg_0_0, rg_0_1, rg_0_2, rg_0_3, rg_0_4, rg_0_5, rg_0_6, rg_0_7, rg_0_8, rg_0_9, rv_17, rg_17_0, rg_17_1, zg1 hk, zg1 hl]
      by_cases h5 : R.2 (1 + 2 * k) = R.2 (1 + 2 * l)
      · rw [if_pos h5, if_neg (not_not_intro h5)]
        have eb : xrun (X, xcall X (d + 2)) j_R_move 100 [.ref (sh 0 0), .int (nI k), .int i, .int (nI l), .int j, .int n, .ref (sh 0 (5 + 2 * k)), .ref (sh 0 (5 + 2 * l))] [] (w5 (rsC R V) (shC 1 S Z) (shC 2 T Y) (shC 3 K U) B4) = some (some (.int (eQ 1 R S K).1), w5 (rsC (eQ 1 R S K).2.1 V) (shC 1 (eQ 1 R S K).2.2.1 Z) (shC 2 T Y) (shC 3 (eQ 1 R S K).2.2.2 U) B4) := by
          simp only [s_R_move_100, s_R_move_105, Option.bind_some, Option.bind_none, Option.toList_some, Option.toList_none, List.cons_append, List.nil_append, List.append_nil, rv_0, rg_0_0, rg_0_1, rg_0_2, rg_0_3, rg_0_4, rg_0_5, rg_0_6, rg_0_7, rg_0_8, rg_0_9, rv_17, rg_17_0, rg_17_1, c_R_error1]
          rfl
        simp only [s_R_move_77, s_R_move_85, Option.bind_some, Option.bind_none, Option.toList_some, Option.toList_none, List.cons_append, List.nil_append, List.append_nil, rv_0, rg_0_0, rg_0_1, rg_0_2, rg_0_3, rg_0_4, rg_0_5, rg_0_6, rg_0_7, rg_0_8, rg_0_9, rv_17, rg_17_0, rg_17_1, zv hk, c_Se_holds hk, z1_0]
        by_cases h6 : hol R k i n
        · rw [if_neg (not_not_intro h6)]
          simp only [s_R_move_88, s_R_move_97, Option.bind_some, Option.bind_none, Option.toList_some, Option.toList_none, List.cons_append, List.nil_append, List.append_nil, rv_0, rg_0_0, rg_0_1, rg_0_2, rg_0_3, rg_0_4, rg_0_5, rg_0_6, rg_0_7, rg_0_8, rg_0_9, rv_17, rg_17_0, rg_17_1, zv hl, c_Se_holds hl, z1_0]
          by_cases h7 : hol R l j n
          · rw [if_neg (not_not_intro h7), if_neg (not_not_intro (show hol R k i n ∧ hol R l j n from ⟨h6, h7⟩))]
            obtain ⟨a, c, rfl, rfl, hac⟩ := hol_ix hR hk h6
            obtain ⟨b, c', rfl, hc', hbc⟩ := hol_ix hR hl h7
            have hcc : c = c' := (nI_inj (by omega) (by omega)).mp hc'
            subst hcc
            simp only [s_R_move_106, s_R_move_111, s_R_move_117, s_R_move_124, Option.bind_some, Option.bind_none, Option.toList_some, Option.toList_none, List.cons_append, List.nil_append, List.append_nil, zg0 hk, zg0 hl, z_cp hk hl hac hbc, ix_nI (show a < 2 ^ 31 by omega), ix_nI (show b < 2 ^ 31 by omega), ix_nI (show c < 2 ^ 31 by omega)]
          · rw [if_pos h7, if_pos (fun e : hol R k i n ∧ hol R l j n => h7 e.2)]
            exact eb
        · rw [if_pos h6, if_pos (fun e : hol R k i n ∧ hol R l j n => h6 e.1)]
          exact eb
      · rw [if_neg h5, if_pos h5]
        simp only [s_R_move_71, s_R_move_76, Option.bind_some, Option.bind_none, Option.toList_some, Option.toList_none, List.cons_append, List.nil_append, List.append_nil, rv_0, rg_0_0, rg_0_1, rg_0_2, rg_0_3, rg_0_4, rg_0_5, rg_0_6, rg_0_7, rg_0_8, rg_0_9, rv_17, rg_17_0, rg_17_1, c_R_error5]
        rfl
    · have h2' : ¬ (0 ≤ o ∧ o ≤ 3) := h2
      rw [if_neg h1', if_pos h2', if_pos (fun e : isSh s ∧ isSh o => h2 e.2)]
      rfl
  · have h1' : ¬ (0 ≤ s ∧ s ≤ 3) := h1
    rw [if_pos h1', if_pos (fun e : isSh s ∧ isSh o => h1 e.1)]
    rfl
end RCalls4
