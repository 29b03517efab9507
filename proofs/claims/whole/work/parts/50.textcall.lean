/-! ===== contracts: text ===== -/
def tby (S : xS) : Nat → Int32 := fun c => S.1 7 c &&& 255
def rdr (S : xS) (u : Nat) : xPR := prt (tby S) (ix (S.2 1)) (sg (tby S) (ix (S.2 1)) u 5) 5 0
def sp_text (R S K : xS) (use : Int32) (f : Nat → Int32) : Int32 × xQS :=
  if ¬ (use = 0 ∨ use = 1) then eQ 1 R S K
  else if (rdr S (ix use)).2.2 = false ∧ (rdr S (ix use)).1 = ix (S.2 1) then (1, R, (u2 S.1 (5 + ix use) f, u1 (u1 S.2 1 0) (6 + ix use) (nI (rdr S (ix use)).2.1.length)), K)
  else (-10 - nI (rdr S (ix use)).1, R, (S.1, u1 S.2 1 0), K)
theorem cp_ofg {σ : xW} {b b2 i i2 t N : Nat} {f g : Nat → Int32} (hi : i < 64) (hi2 : i2 < 64) (hd : (σ b)[i]? = some (.inl (t, N, .inl g))) (hs : (σ b2)[i2]? = some (.inl (t, N, .inl f))) (ht : t < 2) (hN : N ≤ 1000) (hf : t = 0 ∨ ∀ j, j < N → fits .byte (.int (f j)) = true) :
    xcp σ (Int32.ofNat N) (0 : Int32) (sh b i) (0 : Int32) (sh b2 i2) = some (ub σ b ((σ b).set i (.inl (t, N, .inl (va_cpy f g 0 0 N))))) := by
  unfold xcp
  rw [xg_sh hi, xg_sh hi2, hd, hs]
  simp only
  have h1 : ¬ (Int32.ofNat N) < 0 := nI_pos (by omega)
  have h2 : (Int32.ofNat N).toNatClampNeg = N := nI_clamp (by omega)
  have h3 : (0 : Int32).toNatClampNeg = 0 := by decide
  have h4 : ¬ (0 : Int32) < 0 := by decide
  rw [h2, h3, xs_sh hi, if_pos]
  refine ⟨trivial, ht, h4, h4, h1, by omega, by omega, hf.imp id fun h => ?_⟩
  rw [List.all_eq_true]
  intro j hj
  rw [Nat.zero_add]
  exact h j (List.mem_range.mp hj)
theorem cpy_lt {f g : Nat → Int32} {N j : Nat} (h : j < N) : va_cpy f g 0 0 N j = f j := by
  unfold va_cpy
  rw [if_pos (by omega), Nat.zero_add, Nat.sub_zero]
theorem cpy_ge {f g : Nat → Int32} {N j : Nat} (h : N ≤ j) : va_cpy f g 0 0 N j = g j := by
  unfold va_cpy
  rw [if_neg (by omega)]
section TextCall
variable {X : xX} {d : Nat} {R S K V Z T Y U : xS} {B2 B3 B4 : List xE}
theorem c_Tx_reads (hN : okN S) {n u : Nat} (hn : S.2 1 = nI n) (hn2 : n ≤ 60) (hu : u < 2) : ∃ V', PV (tby S) n u V' (rdr S u).2.1 (rdr S u).1 (rdr S u).2.2 ∧
    xcall X (d + 46) j_Tx_reads [.ref (sh 0 13), .ref (sh 1 23), .int (nI n), .int (nI u)] (w5 (rsC R V) (shC 1 S Z) B2 B3 B4) = some (some (.int (z1 ((rdr S u).2.2 = false ∧ (rdr S u).1 = n))), w5 (rsC R V') (shC 1 S Z) B2 B3 B4) := by
  have hix : ix (S.2 1) = n := by rw [hn, ix_nI (by omega)]
  have hcp : xcp (w5 (rsC R V) (shC 1 S Z) B2 B3 B4) (Int32.ofNat 60) (0 : Int32) (sh 0 16) (0 : Int32) (sh 1 23) = some (w5 (rsC R (u2 V.1 4 (va_cpy (S.1 7) (V.1 4) 0 0 60), V.2)) (shC 1 S Z) B2 B3 B4) :=
    (cp_ofg (t := 1) (N := 60) (f := S.1 7) (g := V.1 4) (by decide) (by decide) rfl rfl (by decide) (by decide) (Or.inr hN.2.2.2.2.2)).trans (congrArg some (ub_w5_0 _ _ _ _ _ _))
  have hP : PV (tby S) n u (u2 V.1 4 (va_cpy (S.1 7) (V.1 4) 0 0 60), u1 (u1 (u1 (u1 (u1 V.2 1 (nI n)) 2 (nI u)) 3 0) 0 0) 4 0) [] 0 false := by
    refine ⟨⟨rfl, rfl, rfl, rfl, rfl⟩, ?_, ?_, Nat.le_refl _, by omega, hn2, hu⟩
    · intro c hc
      show va_cpy (S.1 7) (V.1 4) 0 0 60 c &&& 255 = _
      rw [cpy_lt hc]
      rfl
    · intro j hj
      exact absurd hj (Nat.not_lt_zero j)
  have hsg := c_Tx_sg (X := X) (R := R) (B1 := shC 1 S Z) (B2 := B2) (B3 := B3) (B4 := B4) (by_ := tby S) (n := n) (u := u) 5 (by omega) d
  have hsg : RD X R (shC 1 S Z) B2 B3 B4 (tby S) n u (d + 37 + 2) j_Tx_readSingle [.int 0] (sg (tby S) n u 5) := hsg
  have hpt := c_Tx_parts hsg 5 (by omega)
  have hpt : RD X R (shC 1 S Z) B2 B3 B4 (tby S) n u (d + 45) j_Tx_readParts [.int 0, .int 0] (prt (tby S) n (sg (tby S) n u 5) 5) := hpt
  obtain ⟨V', hV', -, hx⟩ := hpt _ _ _ hP
  rw [List.nil_append] at hV'
  have hr : prt (tby S) n (sg (tby S) n u 5) 5 0 = rdr S u := by unfold rdr; rw [hix]
  rw [hr] at hV'
  refine ⟨V', hV', ?_⟩
  obtain ⟨⟨h0, h1, h2, h3, h4⟩, -, -, -, hle, -⟩ := hV'
  rw [e_Tx_reads]
  simp only [s_Tx_reads_0, s_Tx_reads_6, s_Tx_reads_11, s_Tx_reads_12, s_Tx_reads_15, s_Tx_reads_20, s_Tx_reads_25, s_Tx_reads_30, s_Tx_reads_35, s_Tx_reads_40, s_Tx_reads_46, s_Tx_reads_50, Option.bind_some, Option.bind_none, Option.toList_some, Option.toList_none, List.cons_append, List.nil_append, List.append_nil, rv_13, rg_13_2, rg_13_7, rl_16, hcp, rp_13_4, rp_13_5, rp_13_6, rp_13_3, rp_13_7, hx, h4]
  have z10 : ¬ (1 : Int32) = 0 := by decide
  cases hf : (rdr S u).2.2 with
  | true =>
    rw [if_neg (show ¬ (if true = true then (1 : Int32) else 0) = 0 from z10), s_Tx_reads_68, s_Tx_reads_69, if_pos xz0, z1_f (fun e => absurd e.1 (by decide))]
  | false =>
    rw [if_pos (show (if false = true then (1 : Int32) else 0) = 0 from rfl)]
    simp only [s_Tx_reads_53, s_Tx_reads_57, s_Tx_reads_61, Option.bind_some, Option.bind_none, Option.toList_some, Option.toList_none, List.cons_append, List.nil_append, List.append_nil, rg_13_4, rg_13_6, h1, h3]
    have hin := nI_inj (a := (rdr S u).1) (b := n) (by omega) (by omega)
    by_cases he : (rdr S u).1 = n
    · rw [if_pos (hin.mpr he), s_Tx_reads_64, s_Tx_reads_69, if_pos xz1, z1_t ⟨trivial, he⟩]
    · rw [if_neg (fun e => he (hin.mp e)), s_Tx_reads_68, s_Tx_reads_69, if_pos xz0, z1_f (fun e => he e.2)]
theorem q_text (hN : okN S) {n : Nat} (hn : S.2 1 = nI n) (hn2 : n ≤ 60) (use : Int32) (V Z T Y U : xS) (hT : okN T) : ∃ f : Nat → Int32, (use = 0 ∨ use = 1 → ∀ j, j < (rdr S (ix use)).2.1.length → f j = (rdr S (ix use)).2.1.getD j 0) ∧ (∀ c, 60 ≤ c → f c = 0) ∧ (use = 0 ∨ use = 1 → (rdr S (ix use)).2.1.length ≤ 60) ∧ ∃ V' Z' T' Y' U' : xS, okN T' ∧
    xcall X (d + 47) j_R_text [.ref (sh 0 0), .int use] (wC R S K V Z T Y U B4) = some (some (.int (sp_text R S K use f).1), wC (sp_text R S K use f).2.1 (sp_text R S K use f).2.2.1 (sp_text R S K use f).2.2.2 V' Z' T' Y' U' B4) := by
  have hix : ix (S.2 1) = n := by rw [hn, ix_nI (by omega)]
  have z10 : ¬ (1 : Int32) = 0 := by decide
  show ∃ f : Nat → Int32, _ ∧ _ ∧ _ ∧ ∃ V' Z' T' Y' U' : xS, okN T' ∧ xcall X (d + 47) j_R_text [.ref (sh 0 0), .int use] (w5 (rsC R V) (shC 1 S Z) (shC 2 T Y) (shC 3 K U) B4) = _
  rw [e_R_text]
  unfold sp_text
  simp only [s_R_text_0, s_R_text_4, s_R_text_7, s_R_text_12, Option.bind_some, Option.bind_none, Option.toList_some, Option.toList_none, List.cons_append, List.nil_append, List.append_nil, rv_0, rg_0_0, rg_0_1, rg_0_2, rg_0_3, rg_0_4, rg_0_5, rg_0_6, rg_0_7, rg_0_8, rg_0_9, rv_17, rg_17_0, rg_17_1, c_R_isUse, c_R_error1, z1_0, use_cases]
  by_cases h0 : use = 0
  · subst h0
    have hu : (((0 : Int32) = 0 ∨ (0 : Int32) = 1)) := by decide
    obtain ⟨V1, hV1, hx⟩ := c_Tx_reads (X := X) (d := d) (R := R) (V := V) (Z := Z) (B2 := shC 2 T Y) (B3 := shC 3 K U) (B4 := B4) hN hn hn2 (u := 0) (by decide)
    have hx : xcall X (d + 46) j_Tx_reads [.ref (sh 0 13), .ref (sh 1 23), .int (nI n), .int (0 : Int32)] (w5 (rsC R V) (shC 1 S Z) (shC 2 T Y) (shC 3 K U) B4) = _ := hx
    obtain ⟨⟨g0, g1, g2, g3, g4⟩, g5, g6, g7, g8, g9, g10⟩ := hV1
    have e0 : ix (0 : Int32) = 0 := by decide
    have hL : (rdr S 0).2.1.length ≤ 60 := by omega
    rw [e0, hix]
    refine ⟨va_cpy (V1.1 2) (S.1 (5 + 0)) 0 0 60, ?_, ?_, fun _ => hL, V1, Z, T, Y, U, hT, ?_⟩
    · intro _ j hj
      rw [cpy_lt (by omega)]
      exact g6 j hj
    · intro c hc
      rw [cpy_ge hc]
      have hz := hN.2.2.1 c hc
      first
      | exact hz.1
      | exact hz.2.1
    rw [if_neg (not_not_intro hu), if_neg (not_not_intro hu)]
    simp only [s_R_text_13, s_R_text_17, s_R_text_21, s_R_text_24, s_R_text_28, s_R_text_31, s_R_text_35, s_R_text_40, s_R_text_44, Option.bind_some, Option.bind_none, Option.toList_some, Option.toList_none, List.cons_append, List.nil_append, List.append_nil, nv_0, ng_0_0, ng_0_1, ng_0_2, ng_0_3, ng_0_4, ng_0_5, ng_0_6, ng_0_7, ng_0_8, ng_0_9, ng_0_10, ng_0_11, ng_0_12, ng_0_13, ng_0_14, rv_0, rg_0_0, rg_0_1, rg_0_2, rg_0_3, rg_0_4, rg_0_5, rg_0_6, rg_0_7, rg_0_8, rg_0_9, rv_17, rg_17_0, rg_17_1, rv_13, hn, hx, np_0_10, z1_0]
    by_cases hw : (rdr S 0).2.2 = false ∧ (rdr S 0).1 = n
    · have hq : ∀ S' Z', xrr (w5 (rsC R V1) (shC 1 S' Z') (shC 2 T Y) (shC 3 K U) B4) (sh 1 14) (0 : Int32) = some (sh 1 15) := fun S' Z' => nq_14 (k := 0) (by decide)
      have hcp : xcp (w5 (rsC R V1) (shC 1 (S.1, u1 S.2 1 0) Z) (shC 2 T Y) (shC 3 K U) B4) (Int32.ofNat 60) (0 : Int32) (sh 1 16) (0 : Int32) (sh 0 14) = some (w5 (rsC R V1) (shC 1 (u2 S.1 (5 + 0) (va_cpy (V1.1 2) (S.1 (5 + 0)) 0 0 60), u1 S.2 1 0) Z) (shC 2 T Y) (shC 3 K U) B4) :=
        (cp_ofg (t := 0) (N := 60) (f := V1.1 2) (g := S.1 (5 + 0)) (by decide) (by decide) rfl rfl (by decide) (by decide) (Or.inl rfl)).trans (congrArg some (ub_w5_1 _ _ _ _ _ _))
      have hc := c_Tx_copy (X := X) (d := d + 45) (σ := w5 (rsC R V1) (shC 1 (S.1, u1 S.2 1 0) Z) (shC 2 T Y) (shC 3 K U) B4) (l0 := sh 1 15) (l1 := sh 0 13) rg_13_0 ng_15_0 nl_16 hcp (by rw [rg_13_3, g0]) (np_15_3 _)
      rw [if_neg (not_not_intro hw), if_pos hw]
      simp only [s_R_text_59, s_R_text_63, s_R_text_66, s_R_text_68, s_R_text_72, s_R_text_75, Option.bind_some, Option.bind_none, Option.toList_some, Option.toList_none, List.cons_append, List.nil_append, List.append_nil, nv_0, ng_0_0, ng_0_1, ng_0_2, ng_0_3, ng_0_4, ng_0_5, ng_0_6, ng_0_7, ng_0_8, ng_0_9, ng_0_10, ng_0_11, ng_0_12, ng_0_13, ng_0_14, rv_0, rg_0_0, rg_0_1, rg_0_2, rg_0_3, rg_0_4, rg_0_5, rg_0_6, rg_0_7, rg_0_8, rg_0_9, rv_17, rg_17_0, rg_17_1, hq, nv_15, hc]
      rfl
    · rw [if_pos hw, if_neg hw]
      have hpl : ∀ S' Z', xcall X (d + 46) j_Tx_place [.ref (sh 0 13)] (w5 (rsC R V1) (shC 1 S' Z') (shC 2 T Y) (shC 3 K U) B4) = some (some (.int (nI (rdr S 0).1)), w5 (rsC R V1) (shC 1 S' Z') (shC 2 T Y) (shC 3 K U) B4) := by
        intro S' Z'
        rw [e_Tx_place]
        simp only [s_Tx_place_0, s_Tx_place_4, Option.bind_some, Option.bind_none, Option.toList_some, Option.toList_none, List.cons_append, List.nil_append, List.append_nil, rg_13_6, g3]
      simp only [s_R_text_48, s_R_text_54, s_R_text_57, Option.bind_some, Option.bind_none, Option.toList_some, Option.toList_none, List.cons_append, List.nil_append, List.append_nil, nv_0, ng_0_0, ng_0_1, ng_0_2, ng_0_3, ng_0_4, ng_0_5, ng_0_6, ng_0_7, ng_0_8, ng_0_9, ng_0_10, ng_0_11, ng_0_12, ng_0_13, ng_0_14, rv_0, rg_0_0, rg_0_1, rg_0_2, rg_0_3, rg_0_4, rg_0_5, rg_0_6, rg_0_7, rg_0_8, rg_0_9, rv_17, rg_17_0, rg_17_1, rv_13, hpl]
      rfl
  by_cases h1 : use = 1
  · subst h1
    have hu : (((1 : Int32) = 0 ∨ (1 : Int32) = 1)) := by decide
    obtain ⟨V1, hV1, hx⟩ := c_Tx_reads (X := X) (d := d) (R := R) (V := V) (Z := Z) (B2 := shC 2 T Y) (B3 := shC 3 K U) (B4 := B4) hN hn hn2 (u := 1) (by decide)
    have hx : xcall X (d + 46) j_Tx_reads [.ref (sh 0 13), .ref (sh 1 23), .int (nI n), .int (1 : Int32)] (w5 (rsC R V) (shC 1 S Z) (shC 2 T Y) (shC 3 K U) B4) = _ := hx
    obtain ⟨⟨g0, g1, g2, g3, g4⟩, g5, g6, g7, g8, g9, g10⟩ := hV1
    have e1 : ix (1 : Int32) = 1 := by decide
    have hL : (rdr S 1).2.1.length ≤ 60 := by omega
    rw [e1, hix]
    refine ⟨va_cpy (V1.1 2) (S.1 (5 + 1)) 0 0 60, ?_, ?_, fun _ => hL, V1, Z, T, Y, U, hT, ?_⟩
    · intro _ j hj
      rw [cpy_lt (by omega)]
      exact g6 j hj
    · intro c hc
      rw [cpy_ge hc]
      have hz := hN.2.2.1 c hc
      first
      | exact hz.1
      | exact hz.2.1
    rw [if_neg (not_not_intro hu), if_neg (not_not_intro hu)]
    simp only [s_R_text_13, s_R_text_17, s_R_text_21, s_R_text_24, s_R_text_28, s_R_text_31, s_R_text_35, s_R_text_40, s_R_text_44, Option.bind_some, Option.bind_none, Option.toList_some, Option.toList_none, List.cons_append, List.nil_append, List.append_nil, nv_0, ng_0_0, ng_0_1, ng_0_2, ng_0_3, ng_0_4, ng_0_5, ng_0_6, ng_0_7, ng_0_8, ng_0_9, ng_0_10, ng_0_11, ng_0_12, ng_0_13, ng_0_14, rv_0, rg_0_0, rg_0_1, rg_0_2, rg_0_3, rg_0_4, rg_0_5, rg_0_6, rg_0_7, rg_0_8, rg_0_9, rv_17, rg_17_0, rg_17_1, rv_13, hn, hx, np_0_10, z1_0]
    by_cases hw : (rdr S 1).2.2 = false ∧ (rdr S 1).1 = n
    · have hq : ∀ S' Z', xrr (w5 (rsC R V1) (shC 1 S' Z') (shC 2 T Y) (shC 3 K U) B4) (sh 1 14) (1 : Int32) = some (sh 1 19) := fun S' Z' => nq_14 (k := 1) (by decide)
      have hcp : xcp (w5 (rsC R V1) (shC 1 (S.1, u1 S.2 1 0) Z) (shC 2 T Y) (shC 3 K U) B4) (Int32.ofNat 60) (0 : Int32) (sh 1 20) (0 : Int32) (sh 0 14) = some (w5 (rsC R V1) (shC 1 (u2 S.1 (5 + 1) (va_cpy (V1.1 2) (S.1 (5 + 1)) 0 0 60), u1 S.2 1 0) Z) (shC 2 T Y) (shC 3 K U) B4) :=
        (cp_ofg (t := 0) (N := 60) (f := V1.1 2) (g := S.1 (5 + 1)) (by decide) (by decide) rfl rfl (by decide) (by decide) (Or.inl rfl)).trans (congrArg some (ub_w5_1 _ _ _ _ _ _))
      have hc := c_Tx_copy (X := X) (d := d + 45) (σ := w5 (rsC R V1) (shC 1 (S.1, u1 S.2 1 0) Z) (shC 2 T Y) (shC 3 K U) B4) (l0 := sh 1 19) (l1 := sh 0 13) rg_13_0 ng_19_0 nl_20 hcp (by rw [rg_13_3, g0]) (np_19_3 _)
      rw [if_neg (not_not_intro hw), if_pos hw]
      simp only [s_R_text_59, s_R_text_63, s_R_text_66, s_R_text_68, s_R_text_72, s_R_text_75, Option.bind_some, Option.bind_none, Option.toList_some, Option.toList_none, List.cons_append, List.nil_append, List.append_nil, nv_0, ng_0_0, ng_0_1, ng_0_2, ng_0_3, ng_0_4, ng_0_5, ng_0_6, ng_0_7, ng_0_8, ng_0_9, ng_0_10, ng_0_11, ng_0_12, ng_0_13, ng_0_14, rv_0, rg_0_0, rg_0_1, rg_0_2, rg_0_3, rg_0_4, rg_0_5, rg_0_6, rg_0_7, rg_0_8, rg_0_9, rv_17, rg_17_0, rg_17_1, hq, nv_19, hc]
      rfl
    · rw [if_pos hw, if_neg hw]
      have hpl : ∀ S' Z', xcall X (d + 46) j_Tx_place [.ref (sh 0 13)] (w5 (rsC R V1) (shC 1 S' Z') (shC 2 T Y) (shC 3 K U) B4) = some (some (.int (nI (rdr S 1).1)), w5 (rsC R V1) (shC 1 S' Z') (shC 2 T Y) (shC 3 K U) B4) := by
        intro S' Z'
        rw [e_Tx_place]
        simp only [s_Tx_place_0, s_Tx_place_4, Option.bind_some, Option.bind_none, Option.toList_some, Option.toList_none, List.cons_append, List.nil_append, List.append_nil, rg_13_6, g3]
      simp only [s_R_text_48, s_R_text_54, s_R_text_57, Option.bind_some, Option.bind_none, Option.toList_some, Option.toList_none, List.cons_append, List.nil_append, List.append_nil, nv_0, ng_0_0, ng_0_1, ng_0_2, ng_0_3, ng_0_4, ng_0_5, ng_0_6, ng_0_7, ng_0_8, ng_0_9, ng_0_10, ng_0_11, ng_0_12, ng_0_13, ng_0_14, rv_0, rg_0_0, rg_0_1, rg_0_2, rg_0_3, rg_0_4, rg_0_5, rg_0_6, rg_0_7, rg_0_8, rg_0_9, rv_17, rg_17_0, rg_17_1, rv_13, hpl]
      rfl
  refine ⟨fun _ => 0, fun e => absurd e (fun e => e.elim h0 h1), fun c hc => rfl, fun e => absurd e (fun e => e.elim h0 h1), V, Z, T, Y, U, hT, ?_⟩
  rw [if_pos (fun e => e.elim h0 h1), if_pos (fun e => e.elim h0 h1)]
  rfl
end TextCall
