/-! ===== contracts: the reader of texts ===== -/
abbrev xPR : Type := Nat × List Int32 × Bool
def nxt (by_ : Nat → Int32) (n a : Nat) : Int32 := if a < n then by_ a else -1
def bnd (s : Int32) : Int32 :=
  if s = Int32.ofNat 37 then 4
  else if s = Int32.ofNat 38 then 1
  else if s = Int32.ofNat 42 then 4
  else if s = Int32.ofNat 43 then 3
  else if s = Int32.ofNat 45 then 3
  else if s = Int32.ofNat 47 then 4
  else if s = Int32.ofNat 60 then 2
  else if s = Int32.ofNat 61 then 2
  else if s = Int32.ofNat 62 then 2
  else if s = Int32.ofNat 124 then 0
  else -1
abbrev isD (s : Int32) : Prop := 48 ≤ s ∧ s ≤ 57
def namv : Nat → Int32 := fun j => ([103, 116, 115, 99, 108, 100] : List Int32).getD j 0
def nam (u : Nat) (s : Int32) : Int32 := if namv (3 * u) = s then 0 else if namv (3 * u + 1) = s then 1 else if namv (3 * u + 2) = s then 2 else -1
def nmL (by_ : Nat → Int32) (n : Nat) : Nat → Nat → Int32 → Nat × Int32
  | 0, a, v => (a, v)
  | k + 1, a, v => if isD (nxt by_ n a) then nmL by_ n k (a + 1) (v * 10 + nxt by_ n a - 48) else (a, v)
/-- one that is no number and no name: what a sign opens -/
def sgl (by_ : Nat → Int32) (n u : Nat) (deep : Bool) (one parts : Nat → xPR) (a : Nat) : xPR :=
  if isD (nxt by_ n a) then ((nmL by_ n 4 a 0).1, [(nmL by_ n 4 a 0).2], false)
  else if 0 ≤ nam u (nxt by_ n a) then (a + 1, [-1 - nam u (nxt by_ n a)], false)
  else if nxt by_ n a = 33 ∧ deep = true then ((one (a + 1)).1, (one (a + 1)).2.1 ++ [-33], (one (a + 1)).2.2)
  else if nxt by_ n a = 40 ∧ deep = true then (if (parts (a + 1)).2.2 = false ∧ nxt by_ n (parts (a + 1)).1 = 41 then ((parts (a + 1)).1 + 1, (parts (a + 1)).2.1, false) else ((parts (a + 1)).1, (parts (a + 1)).2.1, true))
  else (a, [], true)
def prtL (by_ : Nat → Int32) (n : Nat) (sub : Nat → xPR) (b : Nat) : Nat → xPR → xPR
  | 0, r => r
  | k + 1, r => if r.2.2 = false ∧ bnd (nxt by_ n r.1) = nI b then prtL by_ n sub b k ((sub (r.1 + 1)).1, r.2.1 ++ ((sub (r.1 + 1)).2.1 ++ [-(nxt by_ n r.1)]), (sub (r.1 + 1)).2.2) else r
def prt (by_ : Nat → Int32) (n : Nat) (one : Nat → xPR) : Nat → Nat → xPR
  | 0, a => one a
  | j + 1, a => prtL by_ n (prt by_ n one j) (4 - j) (if 4 - j = 2 then 1 else 60) (prt by_ n one j a)
def sg (by_ : Nat → Int32) (n u : Nat) : Nat → Nat → xPR
  | 0, a => sgl by_ n u false (fun a => (a, [], true)) (fun a => (a, [], true)) a
  | o + 1, a => sgl by_ n u true (sg by_ n u o) (prt by_ n (sg by_ n u o) 5) a
/-- the reader's state: what it read, C, place, fault -/
def PV (by_ : Nat → Int32) (n u : Nat) (V : xS) (C : List Int32) (a : Nat) (f : Bool) : Prop :=
  (V.2 0 = nI C.length ∧ V.2 1 = nI n ∧ V.2 2 = nI u ∧ V.2 3 = nI a ∧ V.2 4 = (if f = true then 1 else 0)) ∧ (∀ c, c < 60 → V.1 4 c &&& 255 = by_ c) ∧ (∀ j, j < C.length → V.1 2 j = C.getD j 0) ∧ C.length ≤ a ∧ a ≤ n ∧ n ≤ 60 ∧ u < 2
theorem nxt_lt {by_ : Nat → Int32} {n a : Nat} (h : nxt by_ n a ≠ -1) : a < n := by
  unfold nxt at h
  by_cases e : a < n
  · exact e
  · rw [if_neg e] at h
    exact absurd rfl h
theorem bnd_ne {s : Int32} {b : Nat} (hb : b < 5) (h : bnd s = nI b) : s ≠ -1 := by
  rintro rfl
  have e : bnd (-1) = -1 := by decide
  rw [e] at h
  obtain rfl | rfl | rfl | rfl | rfl : b = 0 ∨ b = 1 ∨ b = 2 ∨ b = 3 ∨ b = 4 := by omega
  all_goals exact absurd h (by decide)
section Reader
variable {X : xX} {d : Nat} {R : xS} {B1 B2 B3 B4 : List xE} {by_ : Nat → Int32} {n u : Nat}
theorem c_Tx_bindsOf {σ : xW} (s : Int32) : xcall X (d + 1) j_Tx_bindsOf [.int s] σ = some (some (.int (bnd s)), σ) := by
  rw [e_Tx_bindsOf, s_Tx_bindsOf_0]
  unfold bnd
  by_cases h37 : s = Int32.ofNat 37
  · simp only [xsw, if_pos h37, s_Tx_bindsOf_92, s_Tx_bindsOf_94, s_Tx_bindsOf_96, s_Tx_bindsOf_98, s_Tx_bindsOf_100, s_Tx_bindsOf_102]
  by_cases h38 : s = Int32.ofNat 38
  · simp only [xsw, if_neg h37, if_pos h38, s_Tx_bindsOf_92, s_Tx_bindsOf_94, s_Tx_bindsOf_96, s_Tx_bindsOf_98, s_Tx_bindsOf_100, s_Tx_bindsOf_102]
  by_cases h42 : s = Int32.ofNat 42
  · simp only [xsw, if_neg h37, if_neg h38, if_pos h42, s_Tx_bindsOf_92, s_Tx_bindsOf_94, s_Tx_bindsOf_96, s_Tx_bindsOf_98, s_Tx_bindsOf_100, s_Tx_bindsOf_102]
  by_cases h43 : s = Int32.ofNat 43
  · simp only [xsw, if_neg h37, if_neg h38, if_neg h42, if_pos h43, s_Tx_bindsOf_92, s_Tx_bindsOf_94, s_Tx_bindsOf_96, s_Tx_bindsOf_98, s_Tx_bindsOf_100, s_Tx_bindsOf_102]
  by_cases h45 : s = Int32.ofNat 45
  · simp only [xsw, if_neg h37, if_neg h38, if_neg h42, if_neg h43, if_pos h45, s_Tx_bindsOf_92, s_Tx_bindsOf_94, s_Tx_bindsOf_96, s_Tx_bindsOf_98, s_Tx_bindsOf_100, s_Tx_bindsOf_102]
  by_cases h47 : s = Int32.ofNat 47
  · simp only [xsw, if_neg h37, if_neg h38, if_neg h42, if_neg h43, if_neg h45, if_pos h47, s_Tx_bindsOf_92, s_Tx_bindsOf_94, s_Tx_bindsOf_96, s_Tx_bindsOf_98, s_Tx_bindsOf_100, s_Tx_bindsOf_102]
  by_cases h60 : s = Int32.ofNat 60
  · simp only [xsw, if_neg h37, if_neg h38, if_neg h42, if_neg h43, if_neg h45, if_neg h47, if_pos h60, s_Tx_bindsOf_92, s_Tx_bindsOf_94, s_Tx_bindsOf_96, s_Tx_bindsOf_98, s_Tx_bindsOf_100, s_Tx_bindsOf_102]
  by_cases h61 : s = Int32.ofNat 61
  · simp only [xsw, if_neg h37, if_neg h38, if_neg h42, if_neg h43, if_neg h45, if_neg h47, if_neg h60, if_pos h61, s_Tx_bindsOf_92, s_Tx_bindsOf_94, s_Tx_bindsOf_96, s_Tx_bindsOf_98, s_Tx_bindsOf_100, s_Tx_bindsOf_102]
  by_cases h62 : s = Int32.ofNat 62
  · simp only [xsw, if_neg h37, if_neg h38, if_neg h42, if_neg h43, if_neg h45, if_neg h47, if_neg h60, if_neg h61, if_pos h62, s_Tx_bindsOf_92, s_Tx_bindsOf_94, s_Tx_bindsOf_96, s_Tx_bindsOf_98, s_Tx_bindsOf_100, s_Tx_bindsOf_102]
  by_cases h124 : s = Int32.ofNat 124
  · simp only [xsw, if_neg h37, if_neg h38, if_neg h42, if_neg h43, if_neg h45, if_neg h47, if_neg h60, if_neg h61, if_neg h62, if_pos h124, s_Tx_bindsOf_92, s_Tx_bindsOf_94, s_Tx_bindsOf_96, s_Tx_bindsOf_98, s_Tx_bindsOf_100, s_Tx_bindsOf_102]
  simp only [xsw, if_neg h37, if_neg h38, if_neg h42, if_neg h43, if_neg h45, if_neg h47, if_neg h60, if_neg h61, if_neg h62, if_neg h124, s_Tx_bindsOf_92, s_Tx_bindsOf_94, s_Tx_bindsOf_96, s_Tx_bindsOf_98, s_Tx_bindsOf_100, s_Tx_bindsOf_102]
theorem c_Tx_isDigit {σ : xW} (s : Int32) : xcall X (d + 1) j_Tx_isDigit [.int s] σ = some (some (.int (z1 (isD s))), σ) := by
  rw [e_Tx_isDigit]
  simp only [s_Tx_isDigit_0, s_Tx_isDigit_16, s_Tx_isDigit_17, s_Tx_isDigit_6, s_Tx_isDigit_12, xz1, xz0, if_true]
  by_cases h1 : s < 48
  · rw [if_pos h1, z1_f (fun h => i32_nle.mpr h1 h.1)]
  rw [if_neg h1]
  by_cases h2 : 57 < s
  · rw [if_pos h2, z1_f (fun h => i32_nle.mpr h2 h.2)]
  rw [if_neg h2, z1_t ⟨i32_nlt.mp h1, i32_nlt.mp h2⟩]
theorem c_Tx_next {V : xS} {C : List Int32} {a : Nat} {f : Bool} (h : PV by_ n u V C a f) : xcall X (d + 1) j_Tx_next [.ref (sh 0 13)] (w5 (rsC R V) B1 B2 B3 B4) = some (some (.int (nxt by_ n a)), w5 (rsC R V) B1 B2 B3 B4) := by
  obtain ⟨⟨h0, h1, h2, h3, h4⟩, h5, h6, h7, h8, h9, h10⟩ := h
  rw [e_Tx_next]
  unfold nxt
  simp only [s_Tx_next_0, s_Tx_next_4, s_Tx_next_8, Option.bind_some, Option.bind_none, Option.toList_some, Option.toList_none, List.cons_append, List.nil_append, List.append_nil, rg_13_4, rg_13_6, h1, h3, nI_le_iff (a := n) (b := a) (by omega) (by omega)]
  by_cases hl : n ≤ a
  · rw [if_pos hl, if_neg (by omega), s_Tx_next_39, s_Tx_next_40]
  · have h60 : ¬ Int32.ofNat 60 ≤ nI a := fun e => absurd ((nI_le_iff (a := 60) (b := a) (by omega) (by omega)).mp e) (by omega)
    have ha : a < 60 := by omega
    rw [if_neg hl, if_pos (by omega)]
    simp only [s_Tx_next_11, s_Tx_next_15, s_Tx_next_19, s_Tx_next_20, if_neg h60, s_Tx_next_23, s_Tx_next_27, s_Tx_next_31, s_Tx_next_32, s_Tx_next_40, Option.bind_some, Option.bind_none, Option.toList_some, Option.toList_none, List.cons_append, List.nil_append, List.append_nil, rg_13_2, rg_13_6, rl_16, h3, rr_16 ha, h5 a ha]
theorem PV_at {V : xS} {C : List Int32} {a : Nat} {f : Bool} (h : PV by_ n u V C a f) (ha : a < n) : PV by_ n u (V.1, u1 V.2 3 (nI (a + 1))) C (a + 1) f := by
  obtain ⟨⟨h0, h1, h2, h3, h4⟩, h5, h6, h7, h8, h9, h10⟩ := h
  exact ⟨⟨h0, h1, h2, rfl, h4⟩, h5, h6, by omega, by omega, h9, h10⟩
theorem PV_bad {V : xS} {C : List Int32} {a : Nat} {f : Bool} (h : PV by_ n u V C a f) : PV by_ n u (V.1, u1 V.2 4 1) C a true := by
  obtain ⟨⟨h0, h1, h2, h3, h4⟩, h5, h6, h7, h8, h9, h10⟩ := h
  exact ⟨⟨h0, h1, h2, h3, rfl⟩, h5, h6, h7, h8, h9, h10⟩
theorem c_Tx_add {V : xS} {C : List Int32} {a : Nat} {f : Bool} (h : PV by_ n u V C a f) (hl : C.length < a) (s : Int32) : ∃ V', PV by_ n u V' (C ++ [s]) a f ∧ xcall X (d + 1) j_Tx_add [.ref (sh 0 13), .int s] (w5 (rsC R V) B1 B2 B3 B4) = some (none, w5 (rsC R V') B1 B2 B3 B4) := by
  obtain ⟨⟨h0, h1, h2, h3, h4⟩, h5, h6, h7, h8, h9, h10⟩ := h
  have h60 : ¬ Int32.ofNat 60 ≤ nI C.length := fun e => absurd ((nI_le_iff (a := 60) (b := C.length) (by omega) (by omega)).mp e) (by omega)
  have hC : C.length < 60 := by omega
  refine ⟨(u2 V.1 2 (upd (V.1 2) C.length s), u1 V.2 0 (nI (C.length + 1))), ⟨⟨?_, h1, h2, h3, h4⟩, h5, ?_, ?_, h8, h9, h10⟩, ?_⟩
  · rw [List.length_append]
    rfl
  · intro j hj
    rw [List.length_append] at hj
    have hj : j < C.length + 1 := hj
    show upd (V.1 2) C.length s j = _
    unfold upd
    by_cases e : j = C.length
    · rw [if_pos e, e, List.getD_eq_getElem?_getD, List.getElem?_append_right (Nat.le_refl _), Nat.sub_self]
      rfl
    · rw [if_neg e, h6 j (by omega), List.getD_eq_getElem?_getD, List.getD_eq_getElem?_getD, List.getElem?_append_left (by omega)]
  · rw [List.length_append]
    show C.length + 1 ≤ a
    omega
  · rw [e_Tx_add]
    have hw : xwr (w5 (rsC R V) B1 B2 B3 B4) [0] (sh 0 14) (nI C.length) s = some (w5 (rsC R (u2 V.1 2 (upd (V.1 2) C.length s), V.2)) B1 B2 B3 B4) := rw_14 hC
    simp only [s_Tx_add_0, s_Tx_add_4, s_Tx_add_8, s_Tx_add_9, if_neg h60, s_Tx_add_12, s_Tx_add_16, s_Tx_add_20, s_Tx_add_22, s_Tx_add_27, s_Tx_add_32, Option.bind_some, Option.bind_none, Option.toList_some, Option.toList_none, List.cons_append, List.nil_append, List.append_nil, rg_13_0, rg_13_3, rl_14, h0, hw, rp_13_3, nI_add1]
theorem rd_nam {σ : xW} (hok : σ 15 = []) {k : Nat} (hk : k < 6) : xrd X σ [9] 1001 (nI k) = some (namv k) := by
  unfold xrd
  have hg : xg σ 1001 = none := by
    unfold xg
    rw [show 1001 / 64 = 15 from rfl, hok]
    rfl
  rw [hg]
  have h1 : ¬ nI k < 0 := nI_pos (by omega)
  have h2 : (nI k).toNatClampNeg = k := nI_clamp (by omega)
  show (if (9 ∈ ([9] : List Nat)) ∧ ¬ nI k < 0 ∧ (nI k).toNatClampNeg < 6 then some _ else none) = _
  rw [h2, if_pos ⟨List.mem_cons_self, h1, hk⟩]
  rfl
theorem al_nam {σ : xW} (hok : σ 15 = []) : xal X σ 1001 = some 6 := by
  unfold xal
  have hg : xg σ 1001 = none := by
    unfold xg
    rw [show 1001 / 64 = 15 from rfl, hok]
    rfl
  rw [hg]
  rfl
theorem c_Tx_nameOf {V : xS} (hu : V.2 2 = nI u) (hu2 : u < 2) (s : Int32) : xcall X (d + 1) j_Tx_nameOf [.ref (sh 0 13), .int s] (w5 (rsC R V) B1 B2 B3 B4) = some (some (.int (nam u s)), w5 (rsC R V) B1 B2 B3 B4) := by
  have step : ∀ (i : Nat) (l3 : Value), i < 3 → xrun (X, xcall X d) j_Tx_nameOf 2 [.ref (sh 0 13), .int s, .int (nI i), l3] [] (w5 (rsC R V) B1 B2 B3 B4) = if namv (3 * u + i) = s then some (some (.int (nI i)), w5 (rsC R V) B1 B2 B3 B4) else xrun (X, xcall X d) j_Tx_nameOf 2 [.ref (sh 0 13), .int s, .int (nI (i + 1)), .int (nI (3 * u + i))] [] (w5 (rsC R V) B1 B2 B3 B4) := by
    intro i l3 hi
    have h3 : ¬ (3 : Int32) ≤ nI i := fun e => absurd ((nI_le_iff (a := 3) (b := i) (by omega) (by omega)).mp e) (by omega)
    have hp : nI u * 3 + nI i = nI (3 * u + i) := by
      rw [show nI u * 3 = nI (u * 3) from (Int32.ofNat_mul u 3).symm, nI_add, Nat.mul_comm]
    have hp0 : ¬ nI (3 * u + i) < 0 := nI_pos (by omega)
    have hp6 : 3 * u + i < 6 := by omega
    have h6 : ¬ Int32.ofNat 6 ≤ nI (3 * u + i) := fun e => absurd ((nI_le_iff (a := 6) (b := 3 * u + i) (by omega) (by omega)).mp e) (by omega)
    have hrd := rd_nam (X := X) (σ := w5 (rsC R V) B1 B2 B3 B4) rfl hp6
    have hal := al_nam (X := X) (σ := w5 (rsC R V) B1 B2 B3 B4) rfl
    rw [s_Tx_nameOf_2, if_neg h3]
    simp only [s_Tx_nameOf_7, s_Tx_nameOf_11, Option.bind_some, Option.bind_none, Option.toList_some, Option.toList_none, List.cons_append, List.nil_append, List.append_nil, rg_13_5, hu, hp, if_neg hp0, s_Tx_nameOf_20, s_Tx_nameOf_25, hal, if_neg h6, s_Tx_nameOf_28, hrd, s_Tx_nameOf_33, s_Tx_nameOf_37, s_Tx_nameOf_39, nI_add1]
  have fin : ∀ l3 : Value, xrun (X, xcall X d) j_Tx_nameOf 2 [.ref (sh 0 13), .int s, .int (nI 3), l3] [] (w5 (rsC R V) B1 B2 B3 B4) = some (some (.int (-1)), w5 (rsC R V) B1 B2 B3 B4) := by
    intro l3
    rw [s_Tx_nameOf_2, if_pos (show (3 : Int32) ≤ nI 3 by decide), s_Tx_nameOf_45]
  rw [e_Tx_nameOf, s_Tx_nameOf_0]
  unfold nam
  have st0 := step 0 .null (by omega)
  have st0 : xrun (X, xcall X d) j_Tx_nameOf 2 [.ref (sh 0 13), .int s, .int (0 : Int32), .null] [] (w5 (rsC R V) B1 B2 B3 B4) = _ := st0
  rw [st0, Nat.add_zero]
  by_cases a0 : namv (3 * u) = s
  · rw [if_pos a0, if_pos a0]
    rfl
  rw [if_neg a0, if_neg a0, step 1 _ (by omega)]
  by_cases a1 : namv (3 * u + 1) = s
  · rw [if_pos a1, if_pos a1]
    rfl
  rw [if_neg a1, if_neg a1, step 2 _ (by omega)]
  by_cases a2 : namv (3 * u + 2) = s
  · rw [if_pos a2, if_pos a2]
    rfl
  rw [if_neg a2, if_neg a2]
  exact fin _
theorem isD_lt {a : Nat} (h : isD (nxt by_ n a)) : a < n := by
  apply nxt_lt (by_ := by_)
  intro e
  rw [e] at h
  exact absurd h (by decide)
theorem nmL_at : ∀ (k a : Nat) (v : Int32), a ≤ (nmL by_ n k a v).1 ∧ (a ≤ n → (nmL by_ n k a v).1 ≤ n)
  | 0, a, v => ⟨Nat.le_refl _, fun h => h⟩
  | k + 1, a, v => by
    unfold nmL
    by_cases h : isD (nxt by_ n a)
    · rw [if_pos h]
      have := nmL_at k (a + 1) (v * 10 + nxt by_ n a - 48)
      have h2 := isD_lt h
      exact ⟨by omega, fun _ => this.2 (by omega)⟩
    · rw [if_neg h]
      exact ⟨Nat.le_refl _, fun h => h⟩
theorem l_Tx_number : ∀ (k i : Nat) (v : Int32) (V : xS) (C : List Int32) (a : Nat), i + k = 4 → PV by_ n u V C a false → (C.length < a ∨ isD (nxt by_ n a) ∧ 0 < k) → ∃ V', PV by_ n u V' (C ++ [(nmL by_ n k a v).2]) (nmL by_ n k a v).1 false ∧
    xrun (X, xcall X (d + 1)) j_Tx_readNumber 4 [.ref (sh 0 13), .int v, .int (nI i)] [] (w5 (rsC R V) B1 B2 B3 B4) = some (none, w5 (rsC R V') B1 B2 B3 B4) := by
  intro k
  induction k with
  | zero =>
    intro i v V C a hi h hl
    have h4 : (4 : Int32) ≤ nI i := (nI_le_iff (a := 4) (b := i) (by omega) (by omega)).mpr (by omega)
    obtain ⟨V', hV', ha⟩ := c_Tx_add (X := X) (d := d) (R := R) (B1 := B1) (B2 := B2) (B3 := B3) (B4 := B4) h (hl.elim id (fun e => absurd e.2 (by omega))) v
    refine ⟨V', hV', ?_⟩
    rw [s_Tx_readNumber_4, if_pos h4]
    simp only [s_Tx_readNumber_48, s_Tx_readNumber_53, Option.bind_some, Option.bind_none, Option.toList_some, Option.toList_none, List.cons_append, List.nil_append, List.append_nil, rv_13, ha]
  | succ k ih =>
    intro i v V C a hi h hl
    have h4 : ¬ (4 : Int32) ≤ nI i := fun e => absurd ((nI_le_iff (a := 4) (b := i) (by omega) (by omega)).mp e) (by omega)
    have h3 : V.2 3 = nI a := h.1.2.2.2.1
    rw [s_Tx_readNumber_4, if_neg h4]
    unfold nmL
    simp only [s_Tx_readNumber_9, s_Tx_readNumber_13, s_Tx_readNumber_16, Option.bind_some, Option.bind_none, Option.toList_some, Option.toList_none, List.cons_append, List.nil_append, List.append_nil, rv_13, c_Tx_next h, c_Tx_isDigit, z1_0]
    by_cases hd : isD (nxt by_ n a)
    · rw [if_neg (not_not_intro hd)]
      have hP := PV_at h (isD_lt hd)
      have hCa := h.2.2.2.1
      obtain ⟨V', hV', hx⟩ := ih (i + 1) (v * 10 + nxt by_ n a - 48) _ C (a + 1) (by omega) hP (Or.inl (by omega))
      refine ⟨V', ?_, ?_⟩
      · rw [if_pos hd]
        exact hV'
      · simp only [s_Tx_readNumber_19, s_Tx_readNumber_27, s_Tx_readNumber_37, s_Tx_readNumber_42, Option.bind_some, Option.bind_none, Option.toList_some, Option.toList_none, List.cons_append, List.nil_append, List.append_nil, rv_13, c_Tx_next h, rg_13_6, h3, rp_13_6, nI_add1]
        exact hx
    · rw [if_pos hd]
      obtain ⟨V', hV', ha⟩ := c_Tx_add (X := X) (d := d) (R := R) (B1 := B1) (B2 := B2) (B3 := B3) (B4 := B4) h (hl.elim id (fun e => absurd e.1 hd)) v
      refine ⟨V', ?_, ?_⟩
      · rw [if_neg hd]
        exact hV'
      · simp only [s_Tx_readNumber_48, s_Tx_readNumber_53, Option.bind_some, Option.bind_none, Option.toList_some, Option.toList_none, List.cons_append, List.nil_append, List.append_nil, rv_13, ha]
/-- what a reading part does -/
def RD (X : xX) (R : xS) (B1 B2 B3 B4 : List xE) (by_ : Nat → Int32) (n u d j : Nat) (as : List Value) (p : Nat → xPR) : Prop :=
  ∀ (V : xS) (C : List Int32) (a : Nat), PV by_ n u V C a false → ∃ V', PV by_ n u V' (C ++ (p a).2.1) (p a).1 (p a).2.2 ∧ (p a).2.1.length + a ≤ (p a).1 ∧ xcall X d j (.ref (sh 0 13) :: as) (w5 (rsC R V) B1 B2 B3 B4) = some (none, w5 (rsC R V') B1 B2 B3 B4)
theorem RD_lt {V : xS} {C : List Int32} {a : Nat} {f : Bool} (h : PV by_ n u V C a f) : C.length ≤ a := h.2.2.2.1
theorem nmL_pos {k a : Nat} {v : Int32} (h : isD (nxt by_ n a)) : a + 1 ≤ (nmL by_ n (k + 1) a v).1 := by
  unfold nmL
  rw [if_pos h]
  exact (nmL_at k (a + 1) _).1
theorem c_Tx_close {V : xS} {C : List Int32} {a : Nat} {f : Bool} (h : PV by_ n u V C a f) : ∃ V', PV by_ n u V' C (if f = false ∧ nxt by_ n a = 41 then (a + 1) else a) (if f = false ∧ nxt by_ n a = 41 then false else true) ∧ xcall X (d + 2) j_Tx_close [.ref (sh 0 13)] (w5 (rsC R V) B1 B2 B3 B4) = some (none, w5 (rsC R V') B1 B2 B3 B4) := by
  have h3 : V.2 3 = nI a := h.1.2.2.2.1
  have h4 := h.1.2.2.2.2
  have hb : xrun (X, xcall X (d + 1)) j_Tx_close 29 [.ref (sh 0 13)] [] (w5 (rsC R V) B1 B2 B3 B4) = some (none, w5 (rsC R (V.1, u1 V.2 4 1)) B1 B2 B3 B4) := by
    simp only [s_Tx_close_29, s_Tx_close_34, Option.bind_some, Option.bind_none, Option.toList_some, Option.toList_none, List.cons_append, List.nil_append, List.append_nil, rp_13_7]
  rw [e_Tx_close]
  cases f with
  | true =>
    have h4 : V.2 4 = 1 := h4
    refine ⟨(V.1, u1 V.2 4 1), ?_, ?_⟩
    · rw [if_neg (fun e => absurd e.1 (by decide)), if_neg (fun e => absurd e.1 (by decide))]
      exact PV_bad h
    · have z10 : ¬ (1 : Int32) = 0 := by decide
      simp only [s_Tx_close_0, s_Tx_close_4, Option.bind_some, Option.bind_none, Option.toList_some, Option.toList_none, List.cons_append, List.nil_append, List.append_nil, rg_13_7, h4, if_neg z10]
      exact hb
  | false =>
    have h4 : V.2 4 = 0 := h4
    simp only [s_Tx_close_0, s_Tx_close_4, s_Tx_close_7, s_Tx_close_11, Option.bind_some, Option.bind_none, Option.toList_some, Option.toList_none, List.cons_append, List.nil_append, List.append_nil, rg_13_7, rv_13, h4, if_true, c_Tx_next h]
    by_cases h41 : nxt by_ n a = 41
    · have hlt : a < n := nxt_lt (by_ := by_) (by rw [h41]; decide)
      refine ⟨(V.1, u1 V.2 3 (nI (a + 1))), ?_, ?_⟩
      · rw [if_pos (show True ∧ nxt by_ n a = 41 from ⟨trivial, h41⟩), if_pos (show True ∧ nxt by_ n a = 41 from ⟨trivial, h41⟩)]
        exact PV_at h hlt
      · rw [if_pos h41]
        simp only [s_Tx_close_16, s_Tx_close_21, s_Tx_close_26, s_Tx_close_34, Option.bind_some, Option.bind_none, Option.toList_some, Option.toList_none, List.cons_append, List.nil_append, List.append_nil, rg_13_6, h3, rp_13_6, nI_add1]
    · refine ⟨(V.1, u1 V.2 4 1), ?_, ?_⟩
      · rw [if_neg (fun e => h41 e.2), if_neg (fun e => h41 e.2)]
        exact PV_bad h
      · rw [if_neg h41]
        exact hb
theorem c_Tx_single {o : Int32} {deep : Bool} {one parts : Nat → xPR} (ho : deep = true ↔ ¬ 5 ≤ o)
    (h1 : deep = true → RD X R B1 B2 B3 B4 by_ n u (d + 3) j_Tx_readSingle [.int (o + 1)] one) (h2 : deep = true → RD X R B1 B2 B3 B4 by_ n u (d + 3) j_Tx_readParts [.int 0, .int (o + 1)] parts) :
    RD X R B1 B2 B3 B4 by_ n u (d + 4) j_Tx_readSingle [.int o] (sgl by_ n u deep one parts) := by
  intro V C a h
  have h3 : V.2 3 = nI a := h.1.2.2.2.1
  have hu := h.1.2.2.1
  have hu2 : u < 2 := h.2.2.2.2.2.2
  have hCa := RD_lt h
  rw [e_Tx_readSingle]
  unfold sgl
  simp only [s_Tx_readSingle_0, s_Tx_readSingle_4, s_Tx_readSingle_9, Option.bind_some, Option.bind_none, Option.toList_some, Option.toList_none, List.cons_append, List.nil_append, List.append_nil, rv_13, c_Tx_next h, c_Tx_isDigit, z1_0]
  by_cases hd : isD (nxt by_ n a)
  · rw [if_neg (not_not_intro hd)]
    obtain ⟨V', hV', hx⟩ := l_Tx_number (X := X) (d := d + 1) (R := R) (B1 := B1) (B2 := B2) (B3 := B3) (B4 := B4) 4 0 0 V C a rfl h (Or.inr ⟨hd, by omega⟩)
    have hx : xrun (X, xcall X (d + 2)) j_Tx_readNumber 4 [.ref (sh 0 13), .int (0 : Int32), .int (0 : Int32)] [] (w5 (rsC R V) B1 B2 B3 B4) = _ := hx
    have hc : xcall X (d + 3) j_Tx_readNumber [.ref (sh 0 13)] (w5 (rsC R V) B1 B2 B3 B4) = some (none, w5 (rsC R V') B1 B2 B3 B4) := by
      rw [e_Tx_readNumber, s_Tx_readNumber_0]
      exact hx
    rw [if_pos hd]
    refine ⟨V', hV', ?_, ?_⟩
    · have : a + 1 ≤ (nmL by_ n 4 a 0).1 := nmL_pos (k := 3) (v := 0) hd
      show 1 + a ≤ (nmL by_ n 4 a 0).1
      omega
    · simp only [s_Tx_readSingle_12, s_Tx_readSingle_16, s_Tx_readSingle_129, Option.bind_some, Option.bind_none, Option.toList_some, Option.toList_none, List.cons_append, List.nil_append, List.append_nil, rv_13, hc]
  rw [if_pos hd, if_neg hd]
  simp only [s_Tx_readSingle_19, s_Tx_readSingle_24, Option.bind_some, Option.bind_none, Option.toList_some, Option.toList_none, List.cons_append, List.nil_append, List.append_nil, rv_13, c_Tx_nameOf hu hu2]
  by_cases hn : 0 ≤ nam u (nxt by_ n a)
  · have hlt : a < n := by
      apply nxt_lt (by_ := by_)
      intro e
      rw [e] at hn
      obtain rfl | rfl : u = 0 ∨ u = 1 := by omega
      · exact absurd hn (by decide)
      · exact absurd hn (by decide)
    have hP := PV_at h hlt
    obtain ⟨V', hV', ha⟩ := c_Tx_add (X := X) (d := d + 2) (R := R) (B1 := B1) (B2 := B2) (B3 := B3) (B4 := B4) hP (by omega) (-1 - nam u (nxt by_ n a))
    have hu' : (V.1, u1 V.2 3 (nI (a + 1))).2 2 = nI u := hu
    rw [if_pos hn]
    refine ⟨V', hV', Nat.le_of_eq (Nat.add_comm 1 a), ?_⟩
    rw [if_neg (i32_nlt.mpr hn)]
    simp only [s_Tx_readSingle_27, s_Tx_readSingle_32, s_Tx_readSingle_37, s_Tx_readSingle_44, s_Tx_readSingle_48, s_Tx_readSingle_129, Option.bind_some, Option.bind_none, Option.toList_some, Option.toList_none, List.cons_append, List.nil_append, List.append_nil, rv_13, rg_13_6, h3, rp_13_6, nI_add1, c_Tx_nameOf hu' hu2, ha]
  rw [if_pos (i32_nle.mp hn), if_neg hn]
  have bad : ∃ V', PV by_ n u V' (C ++ []) a true ∧ ([] : List Int32).length + a ≤ a ∧ xrun (X, xcall X (d + 3)) j_Tx_readSingle 124 [.ref (sh 0 13), .int o, .int (nxt by_ n a)] [] (w5 (rsC R V) B1 B2 B3 B4) = some (none, w5 (rsC R V') B1 B2 B3 B4) := by
    refine ⟨_, by rw [List.append_nil]; exact PV_bad h, Nat.le_of_eq (Nat.zero_add a), ?_⟩
    simp only [s_Tx_readSingle_124, s_Tx_readSingle_129, Option.bind_some, Option.bind_none, Option.toList_some, Option.toList_none, List.cons_append, List.nil_append, List.append_nil, rp_13_7]
  rw [s_Tx_readSingle_51]
  by_cases h33 : nxt by_ n a = 33
  · have hlt : a < n := nxt_lt (by_ := by_) (by rw [h33]; decide)
    cases deep with
    | true =>
      have ho5 : ¬ 5 ≤ o := ho.mp rfl
      have hP := PV_at h hlt
      obtain ⟨V1, hV1, hl1, hx⟩ := h1 rfl _ C (a + 1) hP
      obtain ⟨V2, hV2, hx2⟩ := c_Tx_add (X := X) (d := d + 2) (R := R) (B1 := B1) (B2 := B2) (B3 := B3) (B4 := B4) hV1 (by rw [List.length_append]; omega) (-33)
      rw [if_pos (show nxt by_ n a = 33 ∧ true = true from ⟨h33, rfl⟩)]
      refine ⟨V2, ?_, ?_, ?_⟩
      · rw [← List.append_assoc]
        exact hV2
      · rw [List.length_append]
        show (one (a + 1)).2.1.length + 1 + a ≤ (one (a + 1)).1
        omega
      · rw [if_pos h33, s_Tx_readSingle_57, if_neg ho5, h33]
        simp only [s_Tx_readSingle_62, s_Tx_readSingle_67, s_Tx_readSingle_72, s_Tx_readSingle_79, s_Tx_readSingle_85, s_Tx_readSingle_129, Option.bind_some, Option.bind_none, Option.toList_some, Option.toList_none, List.cons_append, List.nil_append, List.append_nil, rv_13, rg_13_6, h3, rp_13_6, nI_add1, hx, hx2]
    | false =>
      have ho5 : 5 ≤ o := Classical.not_not.mp (fun e => absurd (ho.mpr e) (by decide))
      rw [if_neg (fun e : nxt by_ n a = 33 ∧ false = true => absurd e.2 (by decide)), if_neg (fun e : nxt by_ n a = 40 ∧ false = true => absurd e.2 (by decide))]
      rw [if_pos h33, s_Tx_readSingle_57, if_pos ho5, s_Tx_readSingle_88, if_neg (by rw [h33]; decide)]
      exact bad
  rw [if_neg h33, if_neg (fun e : nxt by_ n a = 33 ∧ deep = true => h33 e.1), s_Tx_readSingle_88]
  by_cases h40 : nxt by_ n a = 40
  · have hlt : a < n := nxt_lt (by_ := by_) (by rw [h40]; decide)
    rw [if_pos h40, s_Tx_readSingle_94]
    cases deep with
    | true =>
      have ho5 : ¬ 5 ≤ o := ho.mp rfl
      have hP := PV_at h hlt
      obtain ⟨V1, hV1, hl1, hx⟩ := h2 rfl _ C (a + 1) hP
      obtain ⟨V2, hV2, hx2⟩ := c_Tx_close (X := X) (d := d + 1) (R := R) (B1 := B1) (B2 := B2) (B3 := B3) (B4 := B4) hV1
      rw [if_pos (show nxt by_ n a = 40 ∧ true = true from ⟨h40, rfl⟩)]
      have hrun : xrun (X, xcall X (d + 3)) j_Tx_readSingle 99 [.ref (sh 0 13), .int o, .int (nxt by_ n a)] [] (w5 (rsC R V) B1 B2 B3 B4) = some (none, w5 (rsC R V2) B1 B2 B3 B4) := by
        simp only [s_Tx_readSingle_99, s_Tx_readSingle_104, s_Tx_readSingle_109, s_Tx_readSingle_117, s_Tx_readSingle_121, s_Tx_readSingle_129, Option.bind_some, Option.bind_none, Option.toList_some, Option.toList_none, List.cons_append, List.nil_append, List.append_nil, rv_13, rg_13_6, h3, rp_13_6, nI_add1, hx, hx2]
      by_cases hc : (parts (a + 1)).2.2 = false ∧ nxt by_ n (parts (a + 1)).1 = 41
      · rw [if_pos hc, if_pos hc] at hV2
        rw [if_pos hc, if_neg ho5]
        refine ⟨V2, hV2, ?_, hrun⟩
        show (parts (a + 1)).2.1.length + a ≤ (parts (a + 1)).1 + 1
        omega
      · rw [if_neg hc, if_neg hc] at hV2
        rw [if_neg hc, if_neg ho5]
        refine ⟨V2, hV2, ?_, hrun⟩
        show (parts (a + 1)).2.1.length + a ≤ (parts (a + 1)).1
        omega
    | false =>
      have ho5 : 5 ≤ o := Classical.not_not.mp (fun e => absurd (ho.mpr e) (by decide))
      rw [if_neg (fun e : nxt by_ n a = 40 ∧ false = true => absurd e.2 (by decide)), if_pos ho5]
      exact bad
  · rw [if_neg h40, if_neg (fun e : nxt by_ n a = 40 ∧ deep = true => h40 e.1)]
    exact bad
theorem l_Tx_parts {b : Nat} (hb : b < 5) {o : Int32} {sub : Nat → xPR} {most : Nat} (hm : most ≤ 60) (hsub : RD X R B1 B2 B3 B4 by_ n u (d + 2) j_Tx_readParts [.int (nI (b + 1)), .int o] sub) : ∀ (k i : Nat) (l5 : Value) (V : xS) (C : List Int32) (a0 : Nat) (r : xPR), i + k = most → PV by_ n u V (C ++ r.2.1) r.1 r.2.2 → r.2.1.length + a0 ≤ r.1 → C.length ≤ a0 →
    ∃ V', PV by_ n u V' (C ++ (prtL by_ n sub b k r).2.1) (prtL by_ n sub b k r).1 (prtL by_ n sub b k r).2.2 ∧ (prtL by_ n sub b k r).2.1.length + a0 ≤ (prtL by_ n sub b k r).1 ∧ xrun (X, xcall X (d + 2)) j_Tx_readParts 34 [.ref (sh 0 13), .int (nI b), .int o, .int (nI most), .int (nI i), l5] [] (w5 (rsC R V) B1 B2 B3 B4) = some (none, w5 (rsC R V') B1 B2 B3 B4) := by
  intro k
  induction k with
  | zero =>
    intro i l5 V C a0 r hi h hl hC
    have h1 : nI most ≤ nI i := (nI_le_iff (by omega) (by omega)).mpr (by omega)
    refine ⟨V, h, hl, ?_⟩
    rw [s_Tx_readParts_34, if_pos h1, s_Tx_readParts_95]
  | succ k ih =>
    intro i l5 V C a0 r hi h hl hC
    have h1 : ¬ nI most ≤ nI i := fun e => absurd ((nI_le_iff (by omega) (by omega)).mp e) (by omega)
    have h4 := h.1.2.2.2.2
    have h3 : V.2 3 = nI r.1 := h.1.2.2.2.1
    rw [s_Tx_readParts_34, if_neg h1]
    unfold prtL
    simp only [s_Tx_readParts_40, s_Tx_readParts_44, Option.bind_some, Option.bind_none, Option.toList_some, Option.toList_none, List.cons_append, List.nil_append, List.append_nil, rg_13_7]
    have stop : r.2.2 = true ∨ bnd (nxt by_ n r.1) ≠ nI b → (if r.2.2 = false ∧ bnd (nxt by_ n r.1) = nI b then prtL by_ n sub b k ((sub (r.1 + 1)).1, r.2.1 ++ ((sub (r.1 + 1)).2.1 ++ [-(nxt by_ n r.1)]), (sub (r.1 + 1)).2.2) else r) = r := by
      intro hs
      rw [if_neg]
      rintro ⟨e1, e2⟩
      rcases hs with e | e
      · rw [e] at e1
        exact absurd e1 (by decide)
      · exact e e2
    by_cases hf : r.2.2 = true
    · rw [stop (Or.inl hf)]
      rw [if_pos hf] at h4
      rw [h4, if_neg (by decide), s_Tx_readParts_95]
      exact ⟨V, h, hl, rfl⟩
    · rw [if_neg hf] at h4
      have hf' : r.2.2 = false := by revert hf; cases r.2.2 <;> simp
      rw [h4, if_pos rfl]
      simp only [s_Tx_readParts_47, s_Tx_readParts_51, s_Tx_readParts_54, Option.bind_some, Option.bind_none, Option.toList_some, Option.toList_none, List.cons_append, List.nil_append, List.append_nil, rv_13, c_Tx_next h, c_Tx_bindsOf]
      by_cases hbd : bnd (nxt by_ n r.1) = nI b
      · have hlt : r.1 < n := nxt_lt (by_ := by_) (bnd_ne hb hbd)
        have hnx := c_Tx_next (X := X) (d := d + 1) (R := R) (B1 := B1) (B2 := B2) (B3 := B3) (B4 := B4) h
        rw [hf'] at h
        have hP := PV_at h hlt
        obtain ⟨V1, hV1, hl1, hx⟩ := hsub _ _ _ hP
        obtain ⟨V2, hV2, hx2⟩ := c_Tx_add (X := X) (d := d + 1) (R := R) (B1 := B1) (B2 := B2) (B3 := B3) (B4 := B4) hV1 (by rw [List.length_append, List.length_append]; omega) (-(nxt by_ n r.1))
        rw [if_pos ⟨hf', hbd⟩, if_pos hbd]
        obtain ⟨V3, hV3, hl3, hx3⟩ := ih (i + 1) (.int (nxt by_ n r.1)) V2 C a0 ((sub (r.1 + 1)).1, r.2.1 ++ ((sub (r.1 + 1)).2.1 ++ [-(nxt by_ n r.1)]), (sub (r.1 + 1)).2.2) (by omega) (by
          show PV by_ n u V2 (C ++ (r.2.1 ++ ((sub (r.1 + 1)).2.1 ++ [-(nxt by_ n r.1)]))) (sub (r.1 + 1)).1 (sub (r.1 + 1)).2.2
          rw [← List.append_assoc, ← List.append_assoc]
          exact hV2) (by
          show (r.2.1 ++ ((sub (r.1 + 1)).2.1 ++ [-(nxt by_ n r.1)])).length + a0 ≤ (sub (r.1 + 1)).1
          rw [List.length_append, List.length_append, List.length_singleton]
          omega) hC
        refine ⟨V3, hV3, hl3, ?_⟩
        simp only [s_Tx_readParts_58, s_Tx_readParts_62, s_Tx_readParts_69, s_Tx_readParts_74, s_Tx_readParts_82, s_Tx_readParts_89, Option.bind_some, Option.bind_none, Option.toList_some, Option.toList_none, List.cons_append, List.nil_append, List.append_nil, rv_13, hnx, rg_13_6, h3, rp_13_6, nI_add1, hx, hx2]
        exact hx3
      · rw [stop (Or.inr hbd), if_neg hbd, s_Tx_readParts_95]
        exact ⟨V, h, hl, rfl⟩
theorem c_Tx_parts {o : Int32} {one : Nat → xPR} (h1 : RD X R B1 B2 B3 B4 by_ n u (d + 2) j_Tx_readSingle [.int o] one) : ∀ j, j ≤ 5 → RD X R B1 B2 B3 B4 by_ n u (d + 3 + j) j_Tx_readParts [.int (nI (5 - j)), .int o] (prt by_ n one j) := by
  intro j
  induction j with
  | zero =>
    intro _ V C a h
    obtain ⟨V', hV', hl, hx⟩ := h1 V C a h
    refine ⟨V', hV', hl, ?_⟩
    show xcall X (d + 2 + 1) j_Tx_readParts [.ref (sh 0 13), .int (nI 5), .int o] _ = _
    rw [e_Tx_readParts, s_Tx_readParts_0, if_neg (show ¬ nI 5 < 5 by decide)]
    simp only [s_Tx_readParts_5, s_Tx_readParts_10, Option.bind_some, Option.bind_none, Option.toList_some, Option.toList_none, List.cons_append, List.nil_append, List.append_nil, rv_13, hx]
  | succ j ih =>
    intro hj V C a h
    have hs := ih (by omega)
    have e5 : 5 - j = 4 - j + 1 := by omega
    have e4 : 5 - (j + 1) = 4 - j := by omega
    have hC := RD_lt h
    rw [e5] at hs
    obtain ⟨V1, hV1, hl1, hx1⟩ := hs V C a h
    have hs' : RD X R B1 B2 B3 B4 by_ n u (d + 1 + j + 2) j_Tx_readParts [.int (nI (4 - j + 1)), .int o] (prt by_ n one j) := by
      rw [show d + 1 + j + 2 = d + 3 + j by omega]
      exact hs
    have hm : (if 4 - j = 2 then 1 else 60) ≤ 60 := by split <;> omega
    obtain ⟨V2, hV2, hl2, hx2⟩ := l_Tx_parts (X := X) (d := d + 1 + j) (R := R) (B1 := B1) (B2 := B2) (B3 := B3) (B4 := B4) (by_ := by_) (n := n) (u := u) (b := 4 - j) (by omega) hm hs' (if 4 - j = 2 then 1 else 60) 0 .null V1 C a (prt by_ n one j a) (by omega) hV1 hl1 hC
    rw [show d + 1 + j + 2 = d + 3 + j by omega] at hx2
    refine ⟨V2, hV2, hl2, ?_⟩
    rw [e4]
    show xcall X (d + 3 + j + 1) j_Tx_readParts [.ref (sh 0 13), .int (nI (4 - j)), .int o] _ = _
    have hlt : nI (4 - j) < 5 := (nI_lt_iff (a := 4 - j) (b := 5) (by omega) (by omega)).mpr (by omega)
    rw [e_Tx_readParts, s_Tx_readParts_0, if_pos hlt]
    simp only [s_Tx_readParts_11, s_Tx_readParts_19, Option.bind_some, Option.bind_none, Option.toList_some, Option.toList_none, List.cons_append, List.nil_append, List.append_nil, rv_13, nI_add1, hx1]
    have e2 : nI (4 - j) = 2 ↔ 4 - j = 2 := nI_inj (a := 4 - j) (b := 2) (by omega) (by omega)
    by_cases h2 : 4 - j = 2
    · rw [if_pos h2] at hx2
      rw [if_pos (e2.mpr h2), s_Tx_readParts_24, s_Tx_readParts_30]
      exact hx2
    · rw [if_neg h2] at hx2
      rw [if_neg (fun e => h2 (e2.mp e)), s_Tx_readParts_28, s_Tx_readParts_30]
      exact hx2
theorem c_Tx_sg : ∀ o, o ≤ 5 → ∀ d : Nat, RD X R B1 B2 B3 B4 by_ n u (d + 7 * o + 4) j_Tx_readSingle [.int (nI (5 - o))] (sg by_ n u o) := by
  intro o
  induction o with
  | zero =>
    intro _ d
    have h := c_Tx_single (X := X) (d := d) (R := R) (B1 := B1) (B2 := B2) (B3 := B3) (B4 := B4) (by_ := by_) (n := n) (u := u) (o := nI 5) (deep := false) (one := fun a => (a, [], true)) (parts := fun a => (a, [], true)) (by constructor <;> intro e <;> exact absurd e (by decide)) (fun e => absurd e (by decide)) (fun e => absurd e (by decide))
    exact h
  | succ o ih =>
    intro ho d
    have h0 := ih (by omega) d
    have e1 : nI (5 - (o + 1)) + 1 = nI (5 - o) := by
      rw [nI_add1, show 5 - (o + 1) + 1 = 5 - o by omega]
    have hone : RD X R B1 B2 B3 B4 by_ n u (d + 7 * o + 7 + 3) j_Tx_readSingle [.int (nI (5 - (o + 1)) + 1)] (sg by_ n u o) := by
      rw [e1]
      have h6 := ih (by omega) (d + 6)
      rw [show d + 6 + 7 * o + 4 = d + 7 * o + 7 + 3 by omega] at h6
      exact h6
    have hp : RD X R B1 B2 B3 B4 by_ n u (d + 7 * o + 7 + 3) j_Tx_readParts [.int 0, .int (nI (5 - (o + 1)) + 1)] (prt by_ n (sg by_ n u o) 5) := by
      rw [e1]
      have h0' : RD X R B1 B2 B3 B4 by_ n u (d + 7 * o + 2 + 2) j_Tx_readSingle [.int (nI (5 - o))] (sg by_ n u o) := h0
      have h := c_Tx_parts h0' 5 (by omega)
      have h : RD X R B1 B2 B3 B4 by_ n u (d + 7 * o + 2 + 3 + 5) j_Tx_readParts [.int 0, .int (nI (5 - o))] (prt by_ n (sg by_ n u o) 5) := h
      exact h
    have hd : (true = true ↔ ¬ 5 ≤ nI (5 - (o + 1))) := by
      constructor
      · intro _ e
        have := (nI_le_iff (a := 5) (b := 5 - (o + 1)) (by omega) (by omega)).mp e
        omega
      · intro _; rfl
    have h := c_Tx_single (X := X) (d := d + 7 * o + 7) (R := R) (B1 := B1) (B2 := B2) (B3 := B3) (B4 := B4) (by_ := by_) (n := n) (u := u) hd (fun _ => hone) (fun _ => hp)
    exact h
end Reader
