/-! ===== contracts: RopeShore, what its methods rest on ===== -/
def er (R : xS) (k : Nat) : xS := (u2 R.1 0 (upd (R.1 0) k (R.1 0 k + 1)), R.2)
abbrev hasP (S : xS) (p : Int32) : Prop := 0 ≤ p ∧ p ≤ S.2 0 - 1
theorem hasP_ix {S : xS} (hS : okS S) {p : Int32} (h : hasP S p) : ∃ k : Nat, p = nI k ∧ k < cn S ∧ k < 8 := by
  obtain ⟨⟨hc1, hc2⟩, -⟩ := hS
  obtain ⟨h1, h2⟩ := h
  rw [hc1] at h2
  rcases pk_ix p (n := 8) (by omega) with h | h | ⟨j, hj, rfl⟩
  · exact absurd h (i32_nlt.mpr h1)
  · exfalso
    rw [Int32.le_iff_toInt_le] at h h2
    have h8 : (nI 8).toInt = 8 := nI_toInt (n := 8) (by omega)
    rw [h8] at h
    by_cases h0 : cn S = 0
    · rw [h0] at h2
      have : (nI 0 - 1 : Int32).toInt = -1 := by decide
      rw [this] at h2
      omega
    · rw [nI_sub1 (by omega), nI_toInt (by omega)] at h2
      omega
  · refine ⟨j, rfl, ?_, hj⟩
    by_cases h0 : cn S = 0
    · exfalso
      rw [h0] at h2
      rw [Int32.le_iff_toInt_le, nI_toInt (by omega)] at h2
      have : (nI 0 - 1 : Int32).toInt = -1 := by decide
      rw [this] at h2
      omega
    · rw [nI_sub1 (by omega), nI_le_iff (by omega) (by omega)] at h2
      omega
theorem hasP_nI {S : xS} (hS : okS S) {k : Nat} (h : k < cn S) : hasP S (nI k) := by
  obtain ⟨⟨hc1, hc2⟩, -⟩ := hS
  refine ⟨nI_pos' (by omega), ?_⟩
  rw [hc1, nI_sub1 (by omega), nI_le_iff (by omega) (by omega)]
  omega
section RHelp
variable {X : xX} {d : Nat} {σ : xW} {B0 B1 B2 B3 B4 : List xE} {R V S Z T Y : xS}
theorem c_R_error1 : xcall X (d + 1) j_R_error [.ref (sh 0 0), .int (1 : Int32)] (w5 (rsC R V) B1 B2 B3 B4) = some (some (.int (-1000000000 - 1)), w5 (rsC (er R 1) V) B1 B2 B3 B4) := by
  have hr : xrd X (w5 (rsC R V) B1 B2 B3 B4) [0] (sh 0 2) (1 : Int32) = some (R.1 0 1) := rr_2 (k := 1) (by decide)
  have hw : ∀ x, xwr (w5 (rsC R V) B1 B2 B3 B4) [0] (sh 0 2) (1 : Int32) x = some (w5 (rsC (u2 R.1 0 (upd (R.1 0) 1 x), R.2) V) B1 B2 B3 B4) := fun x => rw_2 (k := 1) (by decide)
  rw [e_R_error]
  simp only [s_R_error_0, s_R_error_4, s_R_error_7, s_R_error_10, Option.bind_some, Option.bind_none, Option.toList_some, Option.toList_none, List.cons_append, List.nil_append, List.append_nil, rg_0_4, hr, hw]
  rfl
theorem c_R_error2 : xcall X (d + 1) j_R_error [.ref (sh 0 0), .int (2 : Int32)] (w5 (rsC R V) B1 B2 B3 B4) = some (some (.int (-1000000000 - 2)), w5 (rsC (er R 2) V) B1 B2 B3 B4) := by
  have hr : xrd X (w5 (rsC R V) B1 B2 B3 B4) [0] (sh 0 2) (2 : Int32) = some (R.1 0 2) := rr_2 (k := 2) (by decide)
  have hw : ∀ x, xwr (w5 (rsC R V) B1 B2 B3 B4) [0] (sh 0 2) (2 : Int32) x = some (w5 (rsC (u2 R.1 0 (upd (R.1 0) 2 x), R.2) V) B1 B2 B3 B4) := fun x => rw_2 (k := 2) (by decide)
  rw [e_R_error]
  simp only [s_R_error_0, s_R_error_4, s_R_error_7, s_R_error_10, Option.bind_some, Option.bind_none, Option.toList_some, Option.toList_none, List.cons_append, List.nil_append, List.append_nil, rg_0_4, hr, hw]
  rfl
theorem c_R_error3 : xcall X (d + 1) j_R_error [.ref (sh 0 0), .int (3 : Int32)] (w5 (rsC R V) B1 B2 B3 B4) = some (some (.int (-1000000000 - 3)), w5 (rsC (er R 3) V) B1 B2 B3 B4) := by
  have hr : xrd X (w5 (rsC R V) B1 B2 B3 B4) [0] (sh 0 2) (3 : Int32) = some (R.1 0 3) := rr_2 (k := 3) (by decide)
  have hw : ∀ x, xwr (w5 (rsC R V) B1 B2 B3 B4) [0] (sh 0 2) (3 : Int32) x = some (w5 (rsC (u2 R.1 0 (upd (R.1 0) 3 x), R.2) V) B1 B2 B3 B4) := fun x => rw_2 (k := 3) (by decide)
  rw [e_R_error]
  simp only [s_R_error_0, s_R_error_4, s_R_error_7, s_R_error_10, Option.bind_some, Option.bind_none, Option.toList_some, Option.toList_none, List.cons_append, List.nil_append, List.append_nil, rg_0_4, hr, hw]
  rfl
theorem c_R_error4 : xcall X (d + 1) j_R_error [.ref (sh 0 0), .int (4 : Int32)] (w5 (rsC R V) B1 B2 B3 B4) = some (some (.int (-1000000000 - 4)), w5 (rsC (er R 4) V) B1 B2 B3 B4) := by
  have hr : xrd X (w5 (rsC R V) B1 B2 B3 B4) [0] (sh 0 2) (4 : Int32) = some (R.1 0 4) := rr_2 (k := 4) (by decide)
  have hw : ∀ x, xwr (w5 (rsC R V) B1 B2 B3 B4) [0] (sh 0 2) (4 : Int32) x = some (w5 (rsC (u2 R.1 0 (upd (R.1 0) 4 x), R.2) V) B1 B2 B3 B4) := fun x => rw_2 (k := 4) (by decide)
  rw [e_R_error]
  simp only [s_R_error_0, s_R_error_4, s_R_error_7, s_R_error_10, Option.bind_some, Option.bind_none, Option.toList_some, Option.toList_none, List.cons_append, List.nil_append, List.append_nil, rg_0_4, hr, hw]
  rfl
theorem c_R_error5 : xcall X (d + 1) j_R_error [.ref (sh 0 0), .int (5 : Int32)] (w5 (rsC R V) B1 B2 B3 B4) = some (some (.int (-1000000000 - 5)), w5 (rsC (er R 5) V) B1 B2 B3 B4) := by
  have hr : xrd X (w5 (rsC R V) B1 B2 B3 B4) [0] (sh 0 2) (5 : Int32) = some (R.1 0 5) := rr_2 (k := 5) (by decide)
  have hw : ∀ x, xwr (w5 (rsC R V) B1 B2 B3 B4) [0] (sh 0 2) (5 : Int32) x = some (w5 (rsC (u2 R.1 0 (upd (R.1 0) 5 x), R.2) V) B1 B2 B3 B4) := fun x => rw_2 (k := 5) (by decide)
  rw [e_R_error]
  simp only [s_R_error_0, s_R_error_4, s_R_error_7, s_R_error_10, Option.bind_some, Option.bind_none, Option.toList_some, Option.toList_none, List.cons_append, List.nil_append, List.append_nil, rg_0_4, hr, hw]
  rfl
theorem c_R_error6 : xcall X (d + 1) j_R_error [.ref (sh 0 0), .int (6 : Int32)] (w5 (rsC R V) B1 B2 B3 B4) = some (some (.int (-1000000000 - 6)), w5 (rsC (er R 6) V) B1 B2 B3 B4) := by
  have hr : xrd X (w5 (rsC R V) B1 B2 B3 B4) [0] (sh 0 2) (6 : Int32) = some (R.1 0 6) := rr_2 (k := 6) (by decide)
  have hw : ∀ x, xwr (w5 (rsC R V) B1 B2 B3 B4) [0] (sh 0 2) (6 : Int32) x = some (w5 (rsC (u2 R.1 0 (upd (R.1 0) 6 x), R.2) V) B1 B2 B3 B4) := fun x => rw_2 (k := 6) (by decide)
  rw [e_R_error]
  simp only [s_R_error_0, s_R_error_4, s_R_error_7, s_R_error_10, Option.bind_some, Option.bind_none, Option.toList_some, Option.toList_none, List.cons_append, List.nil_append, List.append_nil, rg_0_4, hr, hw]
  rfl
theorem c_R_isKindAndNumber (v : Int32) : xcall X (d + 2) j_R_isKindAndNumber [.int v] σ = some (some (.int (z1 (0 ≤ v ∧ v ≤ 69))), σ) := by
  rw [e_R_isKindAndNumber]
  simp only [s_R_isKindAndNumber_0, s_R_isKindAndNumber_7, Option.bind_some, Option.bind_none, Option.toList_some, Option.toList_none, List.cons_append, List.nil_append, List.append_nil, c_R_within, xzz, if_true]
theorem c_R_isUse (v : Int32) : xcall X (d + 2) j_R_isUse [.int v] σ = some (some (.int (z1 (0 ≤ v ∧ v ≤ 1))), σ) := by
  rw [e_R_isUse]
  simp only [s_R_isUse_0, s_R_isUse_6, Option.bind_some, Option.bind_none, Option.toList_some, Option.toList_none, List.cons_append, List.nil_append, List.append_nil, c_R_within, xzz, if_true]
theorem c_R_isSheet (v : Int32) : xcall X (d + 2) j_R_isSheet [.int v] σ = some (some (.int (z1 (0 ≤ v ∧ v ≤ 3))), σ) := by
  rw [e_R_isSheet]
  simp only [s_R_isSheet_0, s_R_isSheet_6, Option.bind_some, Option.bind_none, Option.toList_some, Option.toList_none, List.cons_append, List.nil_append, List.append_nil, c_R_within, xzz, if_true]
theorem c_R_isBits (v : Int32) : xcall X (d + 1) j_R_isBits [.int v] σ = some (some (.int (z1 (v = 0 ∨ v = 8 ∨ v = 16 ∨ v = 32))), σ) := by
  rw [e_R_isBits]
  simp only [s_R_isBits_0, s_R_isBits_22, s_R_isBits_26, s_R_isBits_27, s_R_isBits_4, s_R_isBits_10, s_R_isBits_16, xz1, xz0, if_true]
  by_cases h0 : v = 0
  · rw [if_pos h0, z1_t (Or.inl h0)]
  rw [if_neg h0]
  by_cases h1 : v = 8
  · rw [if_pos h1, z1_t (Or.inr (Or.inl h1))]
  rw [if_neg h1]
  by_cases h2 : v = 16
  · rw [if_pos h2, z1_t (Or.inr (Or.inr (Or.inl h2)))]
  rw [if_neg h2]
  by_cases h3 : v = 32
  · rw [if_pos h3, z1_t (Or.inr (Or.inr (Or.inr h3)))]
  rw [if_neg h3, z1_f (by rintro (h | h | h | h) <;> contradiction)]
/-! Shore's contracts on the whole world -/
theorem n_has (p : Int32) : xcall X (d + 2) j_Sh_has [.ref (sh 1 0), .int p] (w5 B0 (shC 1 S Z) B2 B3 B4) = some (some (.int (z1 (hasP S p))), w5 B0 (shC 1 S Z) B2 B3 B4) := by
  have h := c_Sh_has (X := X) (d := d) (σ := w5 B0 (shC 1 S Z) B2 B3 B4) (b := 1) (S := S) (Z := Z) p
  rw [ub_w5_1] at h
  exact h
theorem n_isAshore {p : Nat} (hp : p < 8) : xcall X (d + 1) j_Sh_isAshore [.ref (sh 1 0), .int (nI p)] (w5 B0 (shC 1 S Z) B2 B3 B4) = some (some (.int (z1 (S.1 2 p = 0 ∧ S.1 3 p = 0))), w5 B0 (shC 1 S Z) B2 B3 B4) := by
  have h := c_Sh_isAshore (X := X) (d := d) (σ := w5 B0 (shC 1 S Z) B2 B3 B4) (b := 1) (S := S) (Z := Z) hp
  rw [ub_w5_1] at h
  exact h
theorem n_said {p o : Nat} (hp : p < 8) (ho : o < 8) : xcall X (d + 1) j_Sh_said [.ref (sh 1 0), .int (nI p), .int (nI o)] (w5 B0 (shC 1 S Z) B2 B3 B4) = some (some (.int (S.1 4 (8 * p + o))), w5 B0 (shC 1 S Z) B2 B3 B4) := by
  have h := c_Sh_said (X := X) (d := d) (σ := w5 B0 (shC 1 S Z) B2 B3 B4) (b := 1) (S := S) (Z := Z) hp ho
  rw [ub_w5_1] at h
  exact h
theorem n_say {p o : Nat} (hp : p < 8) (ho : o < 8) (v : Int32) : xcall X (d + 1) j_Sh_say [.ref (sh 1 0), .int (nI p), .int (nI o), .int v] (w5 B0 (shC 1 S Z) B2 B3 B4) = some (none, w5 B0 (shC 1 (u2 S.1 4 (upd (S.1 4) (8 * p + o) v), S.2) Z) B2 B3 B4) := by
  have h := c_Sh_say (X := X) (d := d) (σ := w5 B0 (shC 1 S Z) B2 B3 B4) (b := 1) (S := S) (Z := Z) hp ho v
  rw [ub_w5_1, ub_w5_1] at h
  exact h
theorem n_setKind {p : Nat} (hp : p < 8) (v : Int32) : xcall X (d + 1) j_Sh_setKind [.ref (sh 1 0), .int (nI p), .int v] (w5 B0 (shC 1 S Z) B2 B3 B4) = some (none, w5 B0 (shC 1 (u2 (u2 S.1 0 (upd (S.1 0) p (v / 10))) 1 (upd (S.1 1) p (v - v / 10 * 10)), S.2) Z) B2 B3 B4) := by
  have h := c_Sh_setKind (X := X) (d := d) (σ := w5 B0 (shC 1 S Z) B2 B3 B4) (b := 1) (S := S) (Z := Z) hp v
  rw [ub_w5_1, ub_w5_1] at h
  exact h
theorem n_kindOf {p k : Nat} (hp : p < 8) (hk : k < 7) (hS : S.1 0 p = nI k) : xcall X (d + 2) j_Sh_kindOf [.ref (sh 1 0), .int (nI p)] (w5 B0 (shC 1 S Z) B2 B3 B4) = some (some (.ref (sh 1 (2 + k))), w5 B0 (shC 1 S Z) B2 B3 B4) := by
  have h := c_Sh_kindOf (X := X) (d := d) (σ := w5 B0 (shC 1 S Z) B2 B3 B4) (b := 1) (S := S) (Z := Z) hp hk hS
  rw [ub_w5_1] at h
  exact h
theorem n_isThere0 : xcall X (d + 1) j_Tx_isThere [.ref (sh 1 15)] (w5 B0 (shC 1 S Z) B2 B3 B4) = some (some (.int (z1 (0 < S.2 (6 + 0)))), w5 B0 (shC 1 S Z) B2 B3 B4) := by
  have h := c_Tx_isThere0 (X := X) (d := d) (σ := w5 B0 (shC 1 S Z) B2 B3 B4) (b := 1) (S := S) (Z := Z)
  rw [ub_w5_1] at h
  exact h
theorem n_forget0 : xcall X (d + 1) j_Tx_forget [.ref (sh 1 15)] (w5 B0 (shC 1 S Z) B2 B3 B4) = some (none, w5 B0 (shC 1 (S.1, u1 S.2 (6 + 0) 0) Z) B2 B3 B4) := by
  have h := c_Tx_forget0 (X := X) (d := d) (σ := w5 B0 (shC 1 S Z) B2 B3 B4) (b := 1) (S := S) (Z := Z)
  rw [ub_w5_1, ub_w5_1] at h
  exact h
theorem n_lawGives0 (hS : okS S) (Z : xS) (a c e : Int32) : ∃ Z', xcall X (d + 3) j_Sh_lawGives [.ref (sh 1 0), .int (0 : Int32), .int a, .int c, .int e] (w5 B0 (shC 1 S Z) B2 B3 B4) = some (some (.int (lg0 S a c e)), w5 B0 (shC 1 S Z') B2 B3 B4) := by
  obtain ⟨Z', h⟩ := c_Sh_lawGives0 (X := X) (d := d) (σ := w5 B0 (shC 1 S Z) B2 B3 B4) (b := 1) hS Z a c e
  rw [ub_w5_1, ub_w5_1] at h
  exact ⟨Z', h⟩
theorem n_isThere1 : xcall X (d + 1) j_Tx_isThere [.ref (sh 1 19)] (w5 B0 (shC 1 S Z) B2 B3 B4) = some (some (.int (z1 (0 < S.2 (6 + 1)))), w5 B0 (shC 1 S Z) B2 B3 B4) := by
  have h := c_Tx_isThere1 (X := X) (d := d) (σ := w5 B0 (shC 1 S Z) B2 B3 B4) (b := 1) (S := S) (Z := Z)
  rw [ub_w5_1] at h
  exact h
theorem n_forget1 : xcall X (d + 1) j_Tx_forget [.ref (sh 1 19)] (w5 B0 (shC 1 S Z) B2 B3 B4) = some (none, w5 B0 (shC 1 (S.1, u1 S.2 (6 + 1) 0) Z) B2 B3 B4) := by
  have h := c_Tx_forget1 (X := X) (d := d) (σ := w5 B0 (shC 1 S Z) B2 B3 B4) (b := 1) (S := S) (Z := Z)
  rw [ub_w5_1, ub_w5_1] at h
  exact h
theorem n_lawGives1 (hS : okS S) (Z : xS) (a c e : Int32) : ∃ Z', xcall X (d + 3) j_Sh_lawGives [.ref (sh 1 0), .int (1 : Int32), .int a, .int c, .int e] (w5 B0 (shC 1 S Z) B2 B3 B4) = some (some (.int (lg1 S a c e)), w5 B0 (shC 1 S Z') B2 B3 B4) := by
  obtain ⟨Z', h⟩ := c_Sh_lawGives1 (X := X) (d := d) (σ := w5 B0 (shC 1 S Z) B2 B3 B4) (b := 1) hS Z a c e
  rw [ub_w5_1, ub_w5_1] at h
  exact ⟨Z', h⟩
theorem n_ropeBy (hS : okS S) (Z : xS) {p o : Nat} (hp : p < 8) (ho : o < 8) (t : Int32) : ∃ Z', xcall X (d + 4) j_Sh_ropeBy [.ref (sh 1 0), .int (nI p), .int (nI o), .int t] (w5 B0 (shC 1 S Z) B2 B3 B4) = some (some (.int (rb S p o t)), w5 B0 (shC 1 S Z') B2 B3 B4) := by
  obtain ⟨Z', h⟩ := c_Sh_ropeBy (X := X) (d := d) (σ := w5 B0 (shC 1 S Z) B2 B3 B4) (b := 1) hS Z hp ho t
  rw [ub_w5_1, ub_w5_1] at h
  exact ⟨Z', h⟩
theorem n_ropeOf (hS : okS S) (Z : xS) {o : Nat} (ho : o < 8) : ∃ Z', xcall X (d + 5) j_Sh_ropeOf [.ref (sh 1 0), .int (nI o)] (w5 B0 (shC 1 S Z) B2 B3 B4) = some (some (.int (ro S o)), w5 B0 (shC 1 S Z') B2 B3 B4) := by
  obtain ⟨Z', h⟩ := c_Sh_ropeOf (X := X) (d := d) (σ := w5 B0 (shC 1 S Z) B2 B3 B4) (b := 1) hS Z ho
  rw [ub_w5_1, ub_w5_1] at h
  exact ⟨Z', h⟩
theorem n_dayGoesBy (hS : okS S) (Z : xS) : ∃ Z', xcall X (d + 6) j_Sh_dayGoesBy [.ref (sh 1 0)] (w5 B0 (shC 1 S Z) B2 B3 B4) = some (some (.int (bct (nI (gs S (cn S))))), w5 B0 (shC 1 (dyS S) Z') B2 B3 B4) := by
  obtain ⟨Z', h⟩ := c_Sh_dayGoesBy (X := X) (d := d) (σ := w5 B0 (shC 1 S Z) B2 B3 B4) (b := 1) hS Z
  rw [ub_w5_1, ub_w5_1] at h
  exact ⟨Z', h⟩
theorem n_drawSeaAndSwimmer (hS : okS S) : xcall X (d + 2) j_Sh_drawSeaAndSwimmer [.ref (sh 1 0)] (w5 B0 (shC 1 S Z) B2 B3 B4) = some (none, w5 B0 (shC 1 (dsS S) Z) B2 B3 B4) := by
  have h := c_Sh_drawSeaAndSwimmer (X := X) (d := d) (σ := w5 B0 (shC 1 S Z) B2 B3 B4) (b := 1) (Z := Z) hS
  rw [ub_w5_1, ub_w5_1] at h
  exact h
theorem t_has (p : Int32) : xcall X (d + 2) j_Sh_has [.ref (sh 2 0), .int p] (w5 B0 B1 (shC 2 S Z) B3 B4) = some (some (.int (z1 (hasP S p))), w5 B0 B1 (shC 2 S Z) B3 B4) := by
  have h := c_Sh_has (X := X) (d := d) (σ := w5 B0 B1 (shC 2 S Z) B3 B4) (b := 2) (S := S) (Z := Z) p
  rw [ub_w5_2] at h
  exact h
theorem t_isAshore {p : Nat} (hp : p < 8) : xcall X (d + 1) j_Sh_isAshore [.ref (sh 2 0), .int (nI p)] (w5 B0 B1 (shC 2 S Z) B3 B4) = some (some (.int (z1 (S.1 2 p = 0 ∧ S.1 3 p = 0))), w5 B0 B1 (shC 2 S Z) B3 B4) := by
  have h := c_Sh_isAshore (X := X) (d := d) (σ := w5 B0 B1 (shC 2 S Z) B3 B4) (b := 2) (S := S) (Z := Z) hp
  rw [ub_w5_2] at h
  exact h
theorem t_said {p o : Nat} (hp : p < 8) (ho : o < 8) : xcall X (d + 1) j_Sh_said [.ref (sh 2 0), .int (nI p), .int (nI o)] (w5 B0 B1 (shC 2 S Z) B3 B4) = some (some (.int (S.1 4 (8 * p + o))), w5 B0 B1 (shC 2 S Z) B3 B4) := by
  have h := c_Sh_said (X := X) (d := d) (σ := w5 B0 B1 (shC 2 S Z) B3 B4) (b := 2) (S := S) (Z := Z) hp ho
  rw [ub_w5_2] at h
  exact h
theorem t_say {p o : Nat} (hp : p < 8) (ho : o < 8) (v : Int32) : xcall X (d + 1) j_Sh_say [.ref (sh 2 0), .int (nI p), .int (nI o), .int v] (w5 B0 B1 (shC 2 S Z) B3 B4) = some (none, w5 B0 B1 (shC 2 (u2 S.1 4 (upd (S.1 4) (8 * p + o) v), S.2) Z) B3 B4) := by
  have h := c_Sh_say (X := X) (d := d) (σ := w5 B0 B1 (shC 2 S Z) B3 B4) (b := 2) (S := S) (Z := Z) hp ho v
  rw [ub_w5_2, ub_w5_2] at h
  exact h
theorem t_setKind {p : Nat} (hp : p < 8) (v : Int32) : xcall X (d + 1) j_Sh_setKind [.ref (sh 2 0), .int (nI p), .int v] (w5 B0 B1 (shC 2 S Z) B3 B4) = some (none, w5 B0 B1 (shC 2 (u2 (u2 S.1 0 (upd (S.1 0) p (v / 10))) 1 (upd (S.1 1) p (v - v / 10 * 10)), S.2) Z) B3 B4) := by
  have h := c_Sh_setKind (X := X) (d := d) (σ := w5 B0 B1 (shC 2 S Z) B3 B4) (b := 2) (S := S) (Z := Z) hp v
  rw [ub_w5_2, ub_w5_2] at h
  exact h
theorem t_kindOf {p k : Nat} (hp : p < 8) (hk : k < 7) (hS : S.1 0 p = nI k) : xcall X (d + 2) j_Sh_kindOf [.ref (sh 2 0), .int (nI p)] (w5 B0 B1 (shC 2 S Z) B3 B4) = some (some (.ref (sh 2 (2 + k))), w5 B0 B1 (shC 2 S Z) B3 B4) := by
  have h := c_Sh_kindOf (X := X) (d := d) (σ := w5 B0 B1 (shC 2 S Z) B3 B4) (b := 2) (S := S) (Z := Z) hp hk hS
  rw [ub_w5_2] at h
  exact h
theorem t_isThere0 : xcall X (d + 1) j_Tx_isThere [.ref (sh 2 15)] (w5 B0 B1 (shC 2 S Z) B3 B4) = some (some (.int (z1 (0 < S.2 (6 + 0)))), w5 B0 B1 (shC 2 S Z) B3 B4) := by
  have h := c_Tx_isThere0 (X := X) (d := d) (σ := w5 B0 B1 (shC 2 S Z) B3 B4) (b := 2) (S := S) (Z := Z)
  rw [ub_w5_2] at h
  exact h
theorem t_forget0 : xcall X (d + 1) j_Tx_forget [.ref (sh 2 15)] (w5 B0 B1 (shC 2 S Z) B3 B4) = some (none, w5 B0 B1 (shC 2 (S.1, u1 S.2 (6 + 0) 0) Z) B3 B4) := by
  have h := c_Tx_forget0 (X := X) (d := d) (σ := w5 B0 B1 (shC 2 S Z) B3 B4) (b := 2) (S := S) (Z := Z)
  rw [ub_w5_2, ub_w5_2] at h
  exact h
theorem t_lawGives0 (hS : okS S) (Z : xS) (a c e : Int32) : ∃ Z', xcall X (d + 3) j_Sh_lawGives [.ref (sh 2 0), .int (0 : Int32), .int a, .int c, .int e] (w5 B0 B1 (shC 2 S Z) B3 B4) = some (some (.int (lg0 S a c e)), w5 B0 B1 (shC 2 S Z') B3 B4) := by
  obtain ⟨Z', h⟩ := c_Sh_lawGives0 (X := X) (d := d) (σ := w5 B0 B1 (shC 2 S Z) B3 B4) (b := 2) hS Z a c e
  rw [ub_w5_2, ub_w5_2] at h
  exact ⟨Z', h⟩
theorem t_isThere1 : xcall X (d + 1) j_Tx_isThere [.ref (sh 2 19)] (w5 B0 B1 (shC 2 S Z) B3 B4) = some (some (.int (z1 (0 < S.2 (6 + 1)))), w5 B0 B1 (shC 2 S Z) B3 B4) := by
  have h := c_Tx_isThere1 (X := X) (d := d) (σ := w5 B0 B1 (shC 2 S Z) B3 B4) (b := 2) (S := S) (Z := Z)
  rw [ub_w5_2] at h
  exact h
theorem t_forget1 : xcall X (d + 1) j_Tx_forget [.ref (sh 2 19)] (w5 B0 B1 (shC 2 S Z) B3 B4) = some (none, w5 B0 B1 (shC 2 (S.1, u1 S.2 (6 + 1) 0) Z) B3 B4) := by
  have h := c_Tx_forget1 (X := X) (d := d) (σ := w5 B0 B1 (shC 2 S Z) B3 B4) (b := 2) (S := S) (Z := Z)
  rw [ub_w5_2, ub_w5_2] at h
  exact h
theorem t_lawGives1 (hS : okS S) (Z : xS) (a c e : Int32) : ∃ Z', xcall X (d + 3) j_Sh_lawGives [.ref (sh 2 0), .int (1 : Int32), .int a, .int c, .int e] (w5 B0 B1 (shC 2 S Z) B3 B4) = some (some (.int (lg1 S a c e)), w5 B0 B1 (shC 2 S Z') B3 B4) := by
  obtain ⟨Z', h⟩ := c_Sh_lawGives1 (X := X) (d := d) (σ := w5 B0 B1 (shC 2 S Z) B3 B4) (b := 2) hS Z a c e
  rw [ub_w5_2, ub_w5_2] at h
  exact ⟨Z', h⟩
theorem t_ropeBy (hS : okS S) (Z : xS) {p o : Nat} (hp : p < 8) (ho : o < 8) (t : Int32) : ∃ Z', xcall X (d + 4) j_Sh_ropeBy [.ref (sh 2 0), .int (nI p), .int (nI o), .int t] (w5 B0 B1 (shC 2 S Z) B3 B4) = some (some (.int (rb S p o t)), w5 B0 B1 (shC 2 S Z') B3 B4) := by
  obtain ⟨Z', h⟩ := c_Sh_ropeBy (X := X) (d := d) (σ := w5 B0 B1 (shC 2 S Z) B3 B4) (b := 2) hS Z hp ho t
  rw [ub_w5_2, ub_w5_2] at h
  exact ⟨Z', h⟩
theorem t_ropeOf (hS : okS S) (Z : xS) {o : Nat} (ho : o < 8) : ∃ Z', xcall X (d + 5) j_Sh_ropeOf [.ref (sh 2 0), .int (nI o)] (w5 B0 B1 (shC 2 S Z) B3 B4) = some (some (.int (ro S o)), w5 B0 B1 (shC 2 S Z') B3 B4) := by
  obtain ⟨Z', h⟩ := c_Sh_ropeOf (X := X) (d := d) (σ := w5 B0 B1 (shC 2 S Z) B3 B4) (b := 2) hS Z ho
  rw [ub_w5_2, ub_w5_2] at h
  exact ⟨Z', h⟩
theorem t_dayGoesBy (hS : okS S) (Z : xS) : ∃ Z', xcall X (d + 6) j_Sh_dayGoesBy [.ref (sh 2 0)] (w5 B0 B1 (shC 2 S Z) B3 B4) = some (some (.int (bct (nI (gs S (cn S))))), w5 B0 B1 (shC 2 (dyS S) Z') B3 B4) := by
  obtain ⟨Z', h⟩ := c_Sh_dayGoesBy (X := X) (d := d) (σ := w5 B0 B1 (shC 2 S Z) B3 B4) (b := 2) hS Z
  rw [ub_w5_2, ub_w5_2] at h
  exact ⟨Z', h⟩
theorem t_drawSeaAndSwimmer (hS : okS S) : xcall X (d + 2) j_Sh_drawSeaAndSwimmer [.ref (sh 2 0)] (w5 B0 B1 (shC 2 S Z) B3 B4) = some (none, w5 B0 B1 (shC 2 (dsS S) Z) B3 B4) := by
  have h := c_Sh_drawSeaAndSwimmer (X := X) (d := d) (σ := w5 B0 B1 (shC 2 S Z) B3 B4) (b := 2) (Z := Z) hS
  rw [ub_w5_2, ub_w5_2] at h
  exact h
theorem c_R_arePair (a c : Int32) : xcall X (d + 3) j_R_arePair [.ref (sh 0 0), .int a, .int c] (w5 (rsC R V) (shC 1 S Z) B2 B3 B4) = some (some (.int (z1 (hasP S a ∧ hasP S c ∧ a ≠ c))), w5 (rsC R V) (shC 1 S Z) B2 B3 B4) := by
  rw [e_R_arePair]
  simp only [s_R_arePair_0, s_R_arePair_31, s_R_arePair_32, s_R_arePair_4, s_R_arePair_8, s_R_arePair_11, s_R_arePair_15, s_R_arePair_19, s_R_arePair_22, s_R_arePair_27, Option.bind_some, Option.bind_none, Option.toList_some, Option.toList_none, List.cons_append, List.nil_append, List.append_nil, rg_0_0, nv_0, n_has, z1_0, xz1, xz0, if_true]
  by_cases h1 : hasP S a
  · rw [if_neg (fun e => e h1)]
    by_cases h2 : hasP S c
    · rw [if_neg (fun e => e h2)]
      by_cases h3 : a = c
      · rw [if_pos h3, z1_f (fun h => h.2.2 h3)]
      · rw [if_neg h3, z1_t ⟨h1, h2, h3⟩]
    · rw [if_pos h2, z1_f (fun h => h2 h.2.1)]
  · rw [if_pos h1, z1_f (fun h => h1 h.1)]
end RHelp
