/-! ===== the model: calls, 2: feed, days, then, speaks, odds, ropes of a sheet ===== -/
theorem u1_u1 (V : Nat → Int32) (k : Nat) (x y : Int32) : u1 (u1 V k x) k y = u1 V k y := by
  funext j
  unfold u1
  by_cases e : j = k
  · rw [if_pos e, if_pos e]
  · rw [if_neg e, if_neg e, if_neg e]
theorem u1_same {V : Nat → Int32} {k : Nat} {x : Int32} (h : V k = x) : u1 V k x = V := by
  funext j
  unfold u1
  split
  · next e => rw [e, h]
  · rfl
theorem okI_se {S : xS} (hI : okI S) (x : Int32) : okI (S.1, u1 S.2 3 x) := hI
theorem RMb {M R S K : xS} {f : Nat → Int32} (h : RM M R S K) : RM (u2 M.1 2 f, M.2) R S K := ⟨h.row, h.kept, h.errs, h.bits, h.size, h.cell, h.imgs, h.trcd, h.trce⟩
theorem hel_10 : ∀ j : Nat, j < 100 → hel (nI j + 10) 0 99 = if nI j + 10 < 99 then nI j + 10 else 99 := by decide +kernel
def rdL : Nat → Nat → Nat → Nat × Nat
  | 0, a, b => (a, b)
  | j + 1, a, b => if a % (j + 2) = 0 ∧ b % (j + 2) = 0 then rdL j (a / (j + 2)) (b / (j + 2)) else rdL j a b
theorem rd_gcd : ∀ r : Nat, r < 11 → rdL 9 r 10 = (r / Nat.gcd r 10, 10 / Nat.gcd r 10) := by decide +kernel
theorem rrL_le (S : xS) (f : Nat → Int32) : ∀ n i : Nat, rrL S f n i ≤ i + n
  | 0, i => Nat.le_refl i
  | n + 1, i => by
    unfold rrL
    split
    · have := rrL_le S f n (i + 1)
      omega
    · omega
section MDays
variable {X : xX} {d : Nat} {M R S K : xS} {σ : xW}
theorem c_M_thinks (M : xS) : ∃ g : Nat → Int32, (∀ j, j < 428 → g j = M.1 0 j) ∧ xcall X (d + 2) j_M_thinks [.ref (sh 4 0)] (ub σ 4 (mdC M)) = some (none, ub σ 4 (mdC (u2 M.1 2 g, M.2))) := by
  obtain ⟨g, hg, hx⟩ := c_M_copy (X := X) (d := d) (σ := σ) (b1 := 0) (b2 := 2) (by decide) (by decide) (by decide) M
  have hx' : xcall X (d + 1) j_M_copyAll [.ref (sh 4 1), .ref (sh 4 3)] (ub σ 4 (mdC M)) = _ := hx
  refine ⟨g, hg, ?_⟩
  rw [e_M_thinks]
  simp only [s_M_thinks_0, s_M_thinks_4, s_M_thinks_8, s_M_thinks_11, Option.bind_some, Option.bind_none, Option.toList_some, Option.toList_none, List.cons_append, List.nil_append, List.append_nil, mv_0, mg_0_0, mg_0_1, mg_0_2, mg_0_3, mg_0_4, mg_0_5, mg_0_6, mg_0_7, mg_0_8, mg_0_9, mg_0_10, mg_0_11, mg_0_12, mg_0_13, mg_0_14, mg_0_15, mg_0_16, mg_0_17, mg_0_18, mg_0_19, mg_0_20, hx']
theorem c_M_putsBack (M : xS) : ∃ g : Nat → Int32, (∀ j, j < 428 → g j = M.1 2 j) ∧ xcall X (d + 2) j_M_putsBack [.ref (sh 4 0)] (ub σ 4 (mdC M)) = some (none, ub σ 4 (mdC (u2 M.1 0 g, M.2))) := by
  obtain ⟨g, hg, hx⟩ := c_M_copy (X := X) (d := d) (σ := σ) (b1 := 2) (b2 := 0) (by decide) (by decide) (by decide) M
  have hx' : xcall X (d + 1) j_M_copyAll [.ref (sh 4 3), .ref (sh 4 1)] (ub σ 4 (mdC M)) = _ := hx
  refine ⟨g, hg, ?_⟩
  rw [e_M_putsBack]
  simp only [s_M_putsBack_0, s_M_putsBack_4, s_M_putsBack_8, s_M_putsBack_11, Option.bind_some, Option.bind_none, Option.toList_some, Option.toList_none, List.cons_append, List.nil_append, List.append_nil, mv_0, mg_0_0, mg_0_1, mg_0_2, mg_0_3, mg_0_4, mg_0_5, mg_0_6, mg_0_7, mg_0_8, mg_0_9, mg_0_10, mg_0_11, mg_0_12, mg_0_13, mg_0_14, mg_0_15, mg_0_16, mg_0_17, mg_0_18, mg_0_19, mg_0_20, hx']
theorem m_days (hI : okI S) (hM : RM M R S K) (n : Int32) : MC X (d + 10) j_M_days [.int n] M (sp_days R S K n) := by
  intro σ
  have h := hM.row
  rw [e_M_days]
  unfold sp_days
  simp only [s_M_days_0, s_M_days_7, Option.bind_some, Option.bind_none, Option.toList_some, Option.toList_none, List.cons_append, List.nil_append, List.append_nil, c_M_in, z1_0]
  by_cases h1 : 1 ≤ n ∧ n ≤ 60
  · rw [if_neg (not_not_intro h1), if_neg (not_not_intro h1)]
    simp only [s_M_days_17, s_M_days_21, s_M_days_23, Option.bind_some, Option.bind_none, Option.toList_some, Option.toList_none, List.cons_append, List.nil_append, List.append_nil, mv_0, mg_0_0, mg_0_1, mg_0_2, mg_0_3, mg_0_4, mg_0_5, mg_0_6, mg_0_7, mg_0_8, mg_0_9, mg_0_10, mg_0_11, mg_0_12, mg_0_13, mg_0_14, mg_0_15, mg_0_16, mg_0_17, mg_0_18, mg_0_19, mg_0_20, mrc_0, h.dy]
    by_cases h2 : S.2 4 + n ≤ 9999
    · rw [if_pos h2, if_neg (not_not_intro h2)]
      obtain ⟨j, rfl, hj⟩ := i32_ix (v := n) (n := 60) (by decide) ⟨Int32.le_trans (by decide) h1.1, h1.2⟩
      have ej : ix (nI j) = j := ix_nI (by omega)
      obtain ⟨N, hN, hr, hx⟩ := c_M_goesFor (X := X) (d := d) (σ := σ) hI h (n := j) (by omega)
      rw [ej]
      refine ⟨N, hN.rm hM hr, ?_⟩
      simp only [s_M_days_40, s_M_days_45, Option.bind_some, Option.bind_none, Option.toList_some, Option.toList_none, List.cons_append, List.nil_append, List.append_nil, mv_0, hx]
    · rw [if_neg h2, if_pos h2]
      obtain ⟨N, hN, hx⟩ := c_M_error3 (X := X) (d := d + 8) (σ := σ) hM
      refine ⟨N, hN, ?_⟩
      simp only [s_M_days_31, s_M_days_37, s_M_days_45, Option.bind_some, Option.bind_none, Option.toList_some, Option.toList_none, List.cons_append, List.nil_append, List.append_nil, mv_0, hx]
      rfl
  · rw [if_pos h1, if_pos h1]
    obtain ⟨N, hN, hx⟩ := c_M_error1 (X := X) (d := d + 8) (σ := σ) hM
    refine ⟨N, hN, ?_⟩
    simp only [s_M_days_10, s_M_days_16, Option.bind_some, Option.bind_none, Option.toList_some, Option.toList_none, List.cons_append, List.nil_append, List.append_nil, mv_0, hx]
    rfl
theorem l_M_loose {N0 : Nat} (hN : N0 < 2 ^ 31) : ∀ (k i : Nat) (g : Int32) (S : xS) (M : xS), okI S → RS (M.1 0) S → i + k = N0 → ∃ N : xS, SD M N ∧ RS (N.1 0) (drI k S g).2 ∧
    xrun (X, xcall X (d + 9)) j_M_loose 42 [.ref (sh 4 0), .int (nI N0), .int g, .int (nI i)] [] (ub σ 4 (mdC M)) = some (some (.int (drI k S g).1), ub σ 4 (mdC N)) := by
  intro k
  induction k with
  | zero =>
    intro i g S M hI h hi
    have h1 : nI N0 ≤ nI i := (nI_le_iff (by omega) (by omega)).mpr (by omega)
    refine ⟨M, SD.rfl' M, h, ?_⟩
    rw [s_M_loose_42, if_pos h1, s_M_loose_60]
    rfl
  | succ k ih =>
    intro i g S M hI h hi
    have h1 : ¬ nI N0 ≤ nI i := fun e => absurd ((nI_le_iff (by omega) (by omega)).mp e) (by omega)
    obtain ⟨N1, hN1, hr1, hx1⟩ := c_M_drawn (X := X) (d := d) (σ := σ) hI h
    obtain ⟨N, hN, hr, hx⟩ := ih (i + 1) (g + bct (nI (gs (dsS S) (cn (dsS S))))) (dyS (dsS S)) N1 (okI_dy (okI_ds hI)) hr1 (by omega)
    refine ⟨N, SD.trans hN1 hN, hr, ?_⟩
    rw [s_M_loose_42, if_neg h1]
    simp only [s_M_loose_47, s_M_loose_52, Option.bind_some, Option.bind_none, Option.toList_some, Option.toList_none, List.cons_append, List.nil_append, List.append_nil, mv_0, hx1, nI_add1]
    exact hx
theorem m_loose (hI : okI S) (hM : RM M R S K) (n : Int32) : MC X (d + 10) j_M_loose [.int n] M (sp_loose R S K n) := by
  intro σ
  have h := hM.row
  rw [e_M_loose]
  unfold sp_loose
  simp only [s_M_loose_0, s_M_loose_7, Option.bind_some, Option.bind_none, Option.toList_some, Option.toList_none, List.cons_append, List.nil_append, List.append_nil, c_M_in, z1_0]
  by_cases h1 : 1 ≤ n ∧ n ≤ 30
  · rw [if_neg (not_not_intro h1), if_neg (not_not_intro h1)]
    simp only [s_M_loose_17, s_M_loose_21, s_M_loose_23, Option.bind_some, Option.bind_none, Option.toList_some, Option.toList_none, List.cons_append, List.nil_append, List.append_nil, mv_0, mg_0_0, mg_0_1, mg_0_2, mg_0_3, mg_0_4, mg_0_5, mg_0_6, mg_0_7, mg_0_8, mg_0_9, mg_0_10, mg_0_11, mg_0_12, mg_0_13, mg_0_14, mg_0_15, mg_0_16, mg_0_17, mg_0_18, mg_0_19, mg_0_20, mrc_0, h.dy]
    by_cases h2 : S.2 4 + n ≤ 9999
    · rw [if_pos h2, if_neg (not_not_intro h2)]
      obtain ⟨j, rfl, hj⟩ := i32_ix (v := n) (n := 30) (by decide) ⟨Int32.le_trans (by decide) h1.1, h1.2⟩
      have ej : ix (nI j) = j := ix_nI (by omega)
      obtain ⟨N, hN, hr, hx⟩ := l_M_loose (X := X) (d := d) (σ := σ) (N0 := j) (by omega) j 0 0 S M hI h (by omega)
      rw [ej]
      refine ⟨N, hN.rm hM hr, ?_⟩
      rw [s_M_loose_38]
      exact hx
    · rw [if_neg h2, if_pos h2]
      obtain ⟨N, hN, hx⟩ := c_M_error3 (X := X) (d := d + 8) (σ := σ) hM
      refine ⟨N, hN, ?_⟩
      simp only [s_M_loose_31, s_M_loose_37, Option.bind_some, Option.bind_none, Option.toList_some, Option.toList_none, List.cons_append, List.nil_append, List.append_nil, mv_0, hx]
      rfl
  · rw [if_pos h1, if_pos h1]
    obtain ⟨N, hN, hx⟩ := c_M_error1 (X := X) (d := d + 8) (σ := σ) hM
    refine ⟨N, hN, ?_⟩
    simp only [s_M_loose_10, s_M_loose_16, Option.bind_some, Option.bind_none, Option.toList_some, Option.toList_none, List.cons_append, List.nil_append, List.append_nil, mv_0, hx]
    rfl
theorem m_then (hI : okI S) (hM : RM M R S K) (p n w : Int32) : MC X (d + 10) j_M_then [.int p, .int n, .int w] M (sp_then R S K p n w) := by
  intro σ
  have h := hM.row
  have hl := hI.1.ln
  have ee : ∃ N : xS, RM N (er R 1) S K ∧ xrun (X, xcall X (d + 9)) j_M_then 27 [.ref (sh 4 0), .int p, .int n, .int w, .null, .null] [] (ub σ 4 (mdC M)) = some (some (.int (lw 1)), ub σ 4 (mdC N)) := by
    obtain ⟨N, hN, hx⟩ := c_M_error1 (X := X) (d := d + 8) (σ := σ) hM
    refine ⟨N, hN, ?_⟩
    simp only [s_M_then_27, s_M_then_33, Option.bind_some, Option.bind_none, Option.toList_some, Option.toList_none, List.cons_append, List.nil_append, List.append_nil, mv_0, hx]
  rw [e_M_then]
  unfold sp_then
  simp only [s_M_then_0, s_M_then_5, Option.bind_some, Option.bind_none, Option.toList_some, Option.toList_none, List.cons_append, List.nil_append, List.append_nil, mv_0, c_M_isPerson h, z1_0]
  by_cases h1 : hasP S p
  · rw [if_neg (not_not_intro h1)]
    simp only [s_M_then_8, s_M_then_15, Option.bind_some, Option.bind_none, Option.toList_some, Option.toList_none, List.cons_append, List.nil_append, List.append_nil, c_M_in, z1_0]
    by_cases h2 : 0 ≤ n ∧ n ≤ 60
    · rw [if_neg (not_not_intro h2)]
      simp only [s_M_then_18, s_M_then_24, Option.bind_some, Option.bind_none, Option.toList_some, Option.toList_none, List.cons_append, List.nil_append, List.append_nil, c_M_in, z1_0]
      by_cases h3 : 0 ≤ w ∧ w ≤ 1
      · rw [if_neg (not_not_intro h3), if_neg (not_not_intro (⟨h1, h2, h3⟩ : hasP S p ∧ (0 ≤ n ∧ n ≤ 60) ∧ (0 ≤ w ∧ w ≤ 1)))]
        obtain ⟨k, rfl, -, hk8⟩ := hasP_ix hI.1 h1
        obtain ⟨j, rfl, hj⟩ := i32_ix (v := n) (n := 60) (by decide) h2
        have ek := ix_nI (Nat.lt_trans hk8 (by decide))
        have ej : ix (nI j) = j := ix_nI (by omega)
        rw [ek, ej]
        obtain ⟨g, hg, hx1⟩ := c_M_thinks (X := X) (d := d + 7) (σ := σ) M
        obtain ⟨N2, hN2, hr2, hx2⟩ := c_M_goesFor (X := X) (d := d) (σ := σ) (M := (u2 M.1 2 g, M.2)) hI h (n := j) (by omega)
        have hIT : okI (dyI j S 0).2 := okI_dyI j 0 hI
        have back : ∀ P : xS, SF N2 P → ∃ N : xS, RM N R S K ∧ xcall X (d + 9) j_M_putsBack [.ref (sh 4 0)] (ub σ 4 (mdC P)) = some (none, ub σ 4 (mdC N)) := by
          intro P hP
          obtain ⟨g2, hg2, hx3⟩ := c_M_putsBack (X := X) (d := d + 7) (σ := σ) P
          have e2 : P.1 2 = g := (hP.1 2 (by decide) (by decide)).trans (hN2.1 2 (by decide) (by decide) (by decide) (by decide))
          refine ⟨_, ?_, hx3⟩
          refine SD.rm (S' := S) (SD.trans hN2 (SD.trans hP.sd (SD.row P g2))) (RMb hM) (RS_cp h hl fun q hq => ?_)
          show g2 q = M.1 0 q
          rw [hg2 q hq, e2, hg q hq]
        simp only [s_M_then_34, s_M_then_38, s_M_then_43, Option.bind_some, Option.bind_none, Option.toList_some, Option.toList_none, List.cons_append, List.nil_append, List.append_nil, mv_0, hx1, hx2]
        by_cases hw : w = 0
        · obtain ⟨N3, hN3, hx3⟩ := c_M_ropeOf (X := X) (d := d + 2) (σ := σ) hIT hr2 hk8
          obtain ⟨N, hN, hx4⟩ := back N3 hN3
          rw [if_pos hw, if_pos hw]
          refine ⟨N, hN, ?_⟩
          simp only [s_M_then_49, s_M_then_54, s_M_then_63, s_M_then_69, Option.bind_some, Option.bind_none, Option.toList_some, Option.toList_none, List.cons_append, List.nil_append, List.append_nil, mv_0, hx3, hx4]
        · obtain ⟨N, hN, hx4⟩ := back N2 (SF.rfl' N2)
          rw [if_neg hw, if_neg hw]
          refine ⟨N, hN, ?_⟩
          simp only [s_M_then_57, s_M_then_63, s_M_then_69, Option.bind_some, Option.bind_none, Option.toList_some, Option.toList_none, List.cons_append, List.nil_append, List.append_nil, mv_0, c_M_of3 hr2 hk8, hx4]
          rcases hIT.2.1.2.2.2.2.1 k hk8 with e3 | e3
          · rw [if_pos e3, e3]
          · rw [if_neg (by rw [e3]; decide), e3]
      · rw [if_pos h3, if_pos (fun e : hasP S p ∧ (0 ≤ n ∧ n ≤ 60) ∧ (0 ≤ w ∧ w ≤ 1) => h3 e.2.2)]
        exact ee
    · rw [if_pos h2, if_pos (fun e : hasP S p ∧ (0 ≤ n ∧ n ≤ 60) ∧ (0 ≤ w ∧ w ≤ 1) => h2 e.2.1)]
      exact ee
  · rw [if_pos h1, if_pos (fun e : hasP S p ∧ (0 ≤ n ∧ n ≤ 60) ∧ (0 ≤ w ∧ w ≤ 1) => h1 e.1)]
    exact ee
/-! speaks -/
theorem l_M_speaks (hI : okI S) {o : Nat} (ho : o < 8) (w : Int32) : ∀ (k i : Nat) (who most : Int32) (l7 l8 l9 : Value) (M : xS), RS (M.1 0) S → i + k = cn S → ∃ (N : xS) (l7' l8' l9' : Value), SF M N ∧
    xrun (X, xcall X (d + 5)) j_M_speaks 39 [.ref (sh 4 0), .int (nI o), .int w, .int (nI (abS S o (cn S))), .int who, .int most, .int (nI i), l7, l8, l9] [] (ub σ 4 (mdC M)) = xrun (X, xcall X (d + 5)) j_M_speaks 154 [.ref (sh 4 0), .int (nI o), .int w, .int (nI (abS S o (cn S))), .int (spkL S o k i who most).1, .int (spkL S o k i who most).2, .int (nI (cn S)), l7', l8', l9'] [] (ub σ 4 (mdC N)) := by
  intro k
  obtain ⟨hc1, hc2⟩ := hI.1.1
  induction k with
  | zero =>
    intro i who most l7 l8 l9 M h hi
    have hi' : i = cn S := by omega
    subst hi'
    have h1 : nI (cn S) ≤ nI (cn S) := (nI_le_iff (by omega) (by omega)).mpr (by omega)
    have hct : M.1 0 2 = nI (cn S) := h.ct.trans hc1
    refine ⟨M, l7, l8, l9, SF.rfl' M, ?_⟩
    rw [s_M_speaks_39]
    simp only [s_M_speaks_45, s_M_speaks_47, Option.bind_some, Option.bind_none, Option.toList_some, Option.toList_none, List.cons_append, List.nil_append, List.append_nil, mv_0, mg_0_0, mg_0_1, mg_0_2, mg_0_3, mg_0_4, mg_0_5, mg_0_6, mg_0_7, mg_0_8, mg_0_9, mg_0_10, mg_0_11, mg_0_12, mg_0_13, mg_0_14, mg_0_15, mg_0_16, mg_0_17, mg_0_18, mg_0_19, mg_0_20, mrc_2, hct, if_pos h1]
    rfl
  | succ k ih =>
    intro i who most l7 l8 l9 M h hi
    have h1 : ¬ nI (cn S) ≤ nI i := fun e => absurd ((nI_le_iff (by omega) (by omega)).mp e) (by omega)
    have hi8 : i < 8 := by omega
    have h64 : 8 * i + o < 64 := by omega
    have hsp : 38 + (8 * i + o) < 428 := by omega
    have hct : M.1 0 2 = nI (cn S) := h.ct.trans hc1
    have hb := abS_bit S o (cn S) i
    have hb2 := shr_bit i hi8 (abS S o (cn S)) (abS_256 S o hc2)
    rw [s_M_speaks_39]
    simp only [s_M_speaks_45, s_M_speaks_47, Option.bind_some, Option.bind_none, Option.toList_some, Option.toList_none, List.cons_append, List.nil_append, List.append_nil, mv_0, mg_0_0, mg_0_1, mg_0_2, mg_0_3, mg_0_4, mg_0_5, mg_0_6, mg_0_7, mg_0_8, mg_0_9, mg_0_10, mg_0_11, mg_0_12, mg_0_13, mg_0_14, mg_0_15, mg_0_16, mg_0_17, mg_0_18, mg_0_19, mg_0_20, mrc_2, hct, if_neg h1, s_M_speaks_50, hb2]
    by_cases hc : i ≠ o ∧ ash S i
    · rw [if_pos (hb.mpr ⟨by omega, hc⟩)]
      obtain ⟨q, hq, hq2⟩ := i32_ix (v := S.1 4 (8 * i + o)) (n := 99) (by decide) (hI.2.2.2.2.2.1 (8 * i + o) h64)
      have hle : (0 : Int32) ≤ 99 := by decide
      have hh : hel (S.1 4 (8 * i + o) + 10) 0 99 = if S.1 4 (8 * i + o) + 10 < 99 then S.1 4 (8 * i + o) + 10 else 99 := by
        rw [hq]
        exact hel_10 q (by omega)
      obtain ⟨N1, hN1, hx1⟩ := c_M_ropeBy (X := X) (d := d + 1) (σ := σ) hI h hi8 ho (hel (S.1 4 (8 * i + o) + 10) 0 99)
      have h' : RS (N1.1 0) S := by rw [hN1.row]; exact h
      obtain ⟨N2, hN2, hx2⟩ := c_M_ropeNow (X := X) (d := d) (σ := σ) hI h' hi8 ho
      have h'' : RS (N2.1 0) S := by rw [hN2.row]; exact h'
      have eg : rb S i o (hel (S.1 4 (8 * i + o) + 10) 0 99) - rb S i o (S.1 4 (8 * i + o)) = gain S i o := by
        unfold gain
        rw [hh]
      simp only [s_M_speaks_60, s_M_speaks_64, s_M_speaks_70, s_M_speaks_71, s_M_speaks_80, s_M_speaks_91, s_M_speaks_98, Option.bind_some, Option.bind_none, Option.toList_some, Option.toList_none, List.cons_append, List.nil_append, List.append_nil, mv_0, mg_0_0, mg_0_1, mg_0_2, mg_0_3, mg_0_4, mg_0_5, mg_0_6, mg_0_7, mg_0_8, mg_0_9, mg_0_10, mg_0_11, mg_0_12, mg_0_13, mg_0_14, mg_0_15, mg_0_16, mg_0_17, mg_0_18, mg_0_19, mg_0_20, c_M_spotOf, mr1 hsp, h.tk (8 * i + o) h64, c_M_held hle, hx1, hx2, eg]
      have z10 : ¬ (1 : Int32) = 0 := by decide
      have yes : (who < 0 ∨ most < gain S i o) → ∃ (N : xS) (l7' l8' l9' : Value), SF M N ∧ xrun (X, xcall X (d + 5)) j_M_speaks 113 [.ref (sh 4 0), .int (nI o), .int w, .int (nI (abS S o (cn S))), .int who, .int most, .int (nI i), .int (hel (S.1 4 (8 * i + o) + 10) 0 99), .int (gain S i o), l9] [] (ub σ 4 (mdC N2)) = xrun (X, xcall X (d + 5)) j_M_speaks 154 [.ref (sh 4 0), .int (nI o), .int w, .int (nI (abS S o (cn S))), .int (spkL S o (k + 1) i who most).1, .int (spkL S o (k + 1) i who most).2, .int (nI (cn S)), l7', l8', l9'] [] (ub σ 4 (mdC N)) := by
        intro hy
        obtain ⟨N, l7', l8', l9', hN, hx⟩ := ih (i + 1) (nI i) (gain S i o) (.int (hel (S.1 4 (8 * i + o) + 10) 0 99)) (.int (gain S i o)) (.int 1) N2 h'' (by omega)
        have e : spkL S o (k + 1) i who most = spkL S o k (i + 1) (nI i) (gain S i o) := by
          show @ite _ (i ≠ o ∧ ash S i ∧ (who < 0 ∨ most < gain S i o)) (Classical.propDecidable _) _ _ = _
          rw [if_pos ⟨hc.1, hc.2, hy⟩]
        refine ⟨N, l7', l8', l9', SF.trans hN1 (SF.trans hN2 hN), ?_⟩
        rw [e, ← hx]
        simp only [s_M_speaks_113, s_M_speaks_118, if_neg z10, s_M_speaks_125, s_M_speaks_132, s_M_speaks_139, s_M_speaks_146, s_M_speaks_148, nI_add1]
      by_cases hw0 : who < 0
      · rw [if_pos hw0]
        exact yes (Or.inl hw0)
      rw [if_neg hw0, s_M_speaks_106]
      by_cases hw1 : gain S i o ≤ most
      · rw [if_pos hw1]
        obtain ⟨N, l7', l8', l9', hN, hx⟩ := ih (i + 1) who most (.int (hel (S.1 4 (8 * i + o) + 10) 0 99)) (.int (gain S i o)) (.int 0) N2 h'' (by omega)
        have e : spkL S o (k + 1) i who most = spkL S o k (i + 1) who most := by
          show @ite _ (i ≠ o ∧ ash S i ∧ (who < 0 ∨ most < gain S i o)) (Classical.propDecidable _) _ _ = _
          rw [if_neg (fun z => z.2.2.elim hw0 (fun y => i32_nlt.mpr hw1 y))]
        refine ⟨N, l7', l8', l9', SF.trans hN1 (SF.trans hN2 hN), ?_⟩
        rw [e, ← hx, s_M_speaks_117, s_M_speaks_118, if_pos rfl, s_M_speaks_130, s_M_speaks_132, if_pos rfl, s_M_speaks_144, s_M_speaks_146, s_M_speaks_148, nI_add1]
      · rw [if_neg hw1]
        exact yes (Or.inr (i32_nle.mp hw1))
    · rw [if_neg (fun e => hc (hb.mp e).2)]
      obtain ⟨N, l7', l8', l9', hN, hx⟩ := ih (i + 1) who most l7 l8 l9 M h (by omega)
      have e : spkL S o (k + 1) i who most = spkL S o k (i + 1) who most := by
        show @ite _ (i ≠ o ∧ ash S i ∧ (who < 0 ∨ most < gain S i o)) (Classical.propDecidable _) _ _ = _
        rw [if_neg (fun z => hc ⟨z.1, z.2.1⟩)]
      refine ⟨N, l7', l8', l9', hN, ?_⟩
      rw [e, ← hx, s_M_speaks_148, nI_add1]
theorem m_speaks (hI : okI S) (hM : RM M R S K) (p w : Int32) : MC X (d + 6) j_M_speaks [.int p, .int w] M (sp_speaks R S K p w) := by
  intro σ
  have h := hM.row
  have ee : ∃ N : xS, RM N (er R 1) S K ∧ xrun (X, xcall X (d + 5)) j_M_speaks 17 [.ref (sh 4 0), .int p, .int w, .null, .null, .null, .null, .null, .null, .null] [] (ub σ 4 (mdC M)) = some (some (.int (lw 1)), ub σ 4 (mdC N)) := by
    obtain ⟨N, hN, hx⟩ := c_M_error1 (X := X) (d := d + 4) (σ := σ) hM
    refine ⟨N, hN, ?_⟩
    simp only [s_M_speaks_17, s_M_speaks_23, Option.bind_some, Option.bind_none, Option.toList_some, Option.toList_none, List.cons_append, List.nil_append, List.append_nil, mv_0, hx]
  rw [e_M_speaks]
  unfold sp_speaks
  simp only [s_M_speaks_0, s_M_speaks_5, Option.bind_some, Option.bind_none, Option.toList_some, Option.toList_none, List.cons_append, List.nil_append, List.append_nil, mv_0, c_M_isPerson h, z1_0]
  by_cases h1 : hasP S p
  · rw [if_neg (not_not_intro h1)]
    simp only [s_M_speaks_8, s_M_speaks_14, Option.bind_some, Option.bind_none, Option.toList_some, Option.toList_none, List.cons_append, List.nil_append, List.append_nil, c_M_in, z1_0]
    by_cases h2 : 0 ≤ w ∧ w ≤ 1
    · rw [if_neg (not_not_intro h2), if_neg (not_not_intro (⟨h1, h2⟩ : hasP S p ∧ (0 ≤ w ∧ w ≤ 1)))]
      obtain ⟨k, rfl, -, hk8⟩ := hasP_ix hI.1 h1
      have ek := ix_nI (Nat.lt_trans hk8 (by decide))
      rw [ek]
      obtain ⟨N, l7, l8, l9, hN, hx⟩ := l_M_speaks (X := X) (d := d) (σ := σ) hI hk8 w (cn S) 0 (-1) 0 .null .null .null M h (by omega)
      have hx' : xrun (X, xcall X (d + 5)) j_M_speaks 39 [.ref (sh 4 0), .int (nI k), .int w, .int (nI (abS S k (cn S))), .int (-1 : Int32), .int (0 : Int32), .int (0 : Int32), .null, .null, .null] [] (ub σ 4 (mdC M)) = _ := hx
      simp only [s_M_speaks_24, s_M_speaks_29, Option.bind_some, Option.bind_none, Option.toList_some, Option.toList_none, List.cons_append, List.nil_append, List.append_nil, mv_0, c_M_ashoreBut hI.1 h hk8, hx', s_M_speaks_154]
      generalize spkL S k (cn S) 0 (-1) 0 = res
      have hM' := hN.rm hM
      by_cases h3 : res.1 < 0
      · rw [if_pos h3, if_neg (i32_nle.mpr h3)]
        obtain ⟨N', hN', hx2⟩ := c_M_error2 (X := X) (d := d + 4) (σ := σ) hM'
        refine ⟨N', hN', ?_⟩
        simp only [s_M_speaks_159, s_M_speaks_165, s_M_speaks_179, Option.bind_some, Option.bind_none, Option.toList_some, Option.toList_none, List.cons_append, List.nil_append, List.append_nil, mv_0, hx2]
        rfl
      · rw [if_neg h3, if_pos (i32_nlt.mp h3), s_M_speaks_168]
        refine ⟨N, hM', ?_⟩
        by_cases hw : w = 0
        · rw [if_pos hw, if_pos hw, s_M_speaks_172, s_M_speaks_179]
        · rw [if_neg hw, if_neg hw, s_M_speaks_177, s_M_speaks_179]
    · rw [if_pos h2, if_pos (fun e : hasP S p ∧ (0 ≤ w ∧ w ≤ 1) => h2 e.2)]
      exact ee
  · rw [if_pos h1, if_pos (fun e : hasP S p ∧ (0 ≤ w ∧ w ≤ 1) => h1 e.1)]
    exact ee
/-! odds -/
theorem l_M_odds1 (hI : okI S) {o : Nat} (ho : o < 8) (far w sea : Int32) (l7 : Value) : ∀ (k s r : Nat) (x : Int32) (M : xS), RS (M.1 0) (S.1, u1 S.2 3 x) → s + k = 10 → ∃ (x' : Int32) (N : xS), SD M N ∧ RS (N.1 0) (S.1, u1 S.2 3 x') ∧
    xrun (X, xcall X (d + 7)) j_M_odds 49 [.ref (sh 4 0), .int (nI o), .int far, .int w, .int sea, .int (nI r), .int (nI s), l7] [] (ub σ 4 (mdC M)) = xrun (X, xcall X (d + 7)) j_M_odds 94 [.ref (sh 4 0), .int (nI o), .int far, .int w, .int sea, .int (nI (odL S o far k s r)), .int (nI 10), l7] [] (ub σ 4 (mdC N)) := by
  intro k
  induction k with
  | zero =>
    intro s r x M h hs
    have hs' : s = 10 := by omega
    subst hs'
    have h1 : (10 : Int32) ≤ nI 10 := by decide
    refine ⟨x, M, SD.rfl' M, h, ?_⟩
    rw [s_M_odds_49, if_pos h1]
    rfl
  | succ k ih =>
    intro s r x M h hs
    have h1 : ¬ (10 : Int32) ≤ nI s := fun e => absurd ((nI_le_iff (a := 10) (b := s) (by omega) (by omega)).mp e) (by omega)
    have hl : lnS (S.1, u1 S.2 3 x) := hI.1.ln
    have a1 := RS_se h hl (nI s)
    have a2 : RS (upd (M.1 0) 3 (nI s)) (S.1, u1 S.2 3 (nI s)) := by rw [← u1_u1 S.2 3 x]; exact a1
    obtain ⟨N1, hN1, hx1⟩ := c_M_ropeOf (X := X) (d := d) (σ := σ) (M := (u2 M.1 0 (upd (M.1 0) 3 (nI s)), M.2)) (okI_se hI (nI s)) a2 ho
    have a3 : RS (N1.1 0) (S.1, u1 S.2 3 (nI s)) := by rw [hN1.row]; exact a2
    have hD1 : SD M N1 := SD.trans (SD.row M _) hN1.sd
    rw [s_M_odds_49, if_neg h1]
    simp only [s_M_odds_56, s_M_odds_60, s_M_odds_64, s_M_odds_77, Option.bind_some, Option.bind_none, Option.toList_some, Option.toList_none, List.cons_append, List.nil_append, List.append_nil, mv_0, mg_0_0, mg_0_1, mg_0_2, mg_0_3, mg_0_4, mg_0_5, mg_0_6, mg_0_7, mg_0_8, mg_0_9, mg_0_10, mg_0_11, mg_0_12, mg_0_13, mg_0_14, mg_0_15, mg_0_16, mg_0_17, mg_0_18, mg_0_19, mg_0_20, mwc_3, hx1]
    by_cases hc : far + 5 * nI s ≤ ro (S.1, u1 S.2 3 (nI s)) o
    · obtain ⟨x', N, hN, hr, hx⟩ := ih (s + 1) (r + 1) (nI s) N1 a3 (by omega)
      refine ⟨x', N, SD.trans hD1 hN, hr, ?_⟩
      have e : odL S o far (k + 1) s r = odL S o far k (s + 1) (r + 1) := by
        show odL S o far k (s + 1) (@ite _ (far + 5 * nI s ≤ ro (S.1, u1 S.2 3 (nI s)) o) (Classical.propDecidable _) (r + 1) r) = _
        rw [if_pos hc]
      rw [e, ← hx, if_neg (i32_nlt.mpr hc), s_M_odds_80, s_M_odds_85, nI_add1, nI_add1]
    · obtain ⟨x', N, hN, hr, hx⟩ := ih (s + 1) r (nI s) N1 a3 (by omega)
      refine ⟨x', N, SD.trans hD1 hN, hr, ?_⟩
      have e : odL S o far (k + 1) s r = odL S o far k (s + 1) r := by
        show odL S o far k (s + 1) (@ite _ (far + 5 * nI s ≤ ro (S.1, u1 S.2 3 (nI s)) o) (Classical.propDecidable _) (r + 1) r) = _
        rw [if_neg hc]
      rw [e, ← hx, if_pos (i32_nle.mp hc), s_M_odds_84, s_M_odds_85, nI_add1, Int32.add_zero]
theorem l_M_odds2 (l1 l2 l3 l4 : Int32) : ∀ (j a b : Nat), a ≤ 10 → b ≤ 10 → j ≤ 9 →
    xrun (X, xcall X d) j_M_odds 110 [.ref (sh 4 0), .int l1, .int l2, .int l3, .int l4, .int (nI a), .int (nI b), .int (nI (j + 1))] [] σ = xrun (X, xcall X d) j_M_odds 152 [.ref (sh 4 0), .int l1, .int l2, .int l3, .int l4, .int (nI (rdL j a b).1), .int (nI (rdL j a b).2), .int (1 : Int32)] [] σ := by
  intro j
  induction j with
  | zero =>
    intro a b ha hb hj
    have h1 : nI (0 + 1) ≤ 1 := by decide
    rw [s_M_odds_110, if_pos h1]
    rfl
  | succ j ih =>
    intro a b ha hb hj
    have h1 : ¬ nI (j + 1 + 1) ≤ 1 := fun e => absurd ((nI_le_iff (a := j + 1 + 1) (b := 1) (by omega) (by omega)).mp e) (by omega)
    have h0 : ¬ nI (j + 1 + 1) = 0 := nI_ne0 (by omega) (by omega)
    have ra : nI a - nI a / nI (j + 1 + 1) * nI (j + 1 + 1) = nI (a % (j + 2)) := pk_rem (by omega) (by omega) (by omega)
    have rbb : nI b - nI b / nI (j + 1 + 1) * nI (j + 1 + 1) = nI (b % (j + 2)) := pk_rem (by omega) (by omega) (by omega)
    have da : nI a / nI (j + 1 + 1) = nI (a / (j + 2)) := pk_div (by omega) (by omega) (by omega)
    have db : nI b / nI (j + 1 + 1) = nI (b / (j + 2)) := pk_div (by omega) (by omega) (by omega)
    have za : nI (a % (j + 2)) = 0 ↔ a % (j + 2) = 0 := by
      have := Nat.mod_lt a (show 0 < j + 2 by omega)
      exact nI_inj (b := 0) (by omega) (by omega)
    have zb : nI (b % (j + 2)) = 0 ↔ b % (j + 2) = 0 := by
      have := Nat.mod_lt b (show 0 < j + 2 by omega)
      exact nI_inj (b := 0) (by omega) (by omega)
    have dec : nI (j + 1 + 1) + (-1 : Int32) = nI (j + 1) := nI_addm1 (n := j + 1 + 1) (by omega)
    have la : a / (j + 2) ≤ 10 := Nat.le_trans (Nat.div_le_self _ _) ha
    have lb : b / (j + 2) ≤ 10 := Nat.le_trans (Nat.div_le_self _ _) hb
    rw [s_M_odds_110, if_neg h1, s_M_odds_116, if_neg h0, ra, s_M_odds_121]
    unfold rdL
    by_cases ca : a % (j + 2) = 0
    · rw [if_pos (za.mpr ca), s_M_odds_124, if_neg h0, rbb, s_M_odds_129]
      by_cases cb : b % (j + 2) = 0
      · rw [if_pos (zb.mpr cb), s_M_odds_132, if_neg h0, da, s_M_odds_137, if_neg h0, db, s_M_odds_144, s_M_odds_146, dec, if_pos ⟨ca, cb⟩]
        exact ih _ _ la lb (by omega)
      · rw [if_neg (fun e => cb (zb.mp e)), s_M_odds_146, dec, if_neg (fun e => cb e.2)]
        exact ih _ _ ha hb (by omega)
    · rw [if_neg (fun e => ca (za.mp e)), s_M_odds_146, dec, if_neg (fun e => ca e.1)]
      exact ih _ _ ha hb (by omega)
theorem m_odds (hI : okI S) (hM : RM M R S K) (p far w : Int32) : MC X (d + 8) j_M_odds [.int p, .int far, .int w] M (sp_odds R S K p far w) := by
  intro σ
  have h := hM.row
  have ee : ∃ N : xS, RM N (er R 1) S K ∧ xrun (X, xcall X (d + 7)) j_M_odds 28 [.ref (sh 4 0), .int p, .int far, .int w, .null, .null, .null, .null] [] (ub σ 4 (mdC M)) = some (some (.int (lw 1)), ub σ 4 (mdC N)) := by
    obtain ⟨N, hN, hx⟩ := c_M_error1 (X := X) (d := d + 6) (σ := σ) hM
    refine ⟨N, hN, ?_⟩
    simp only [s_M_odds_28, s_M_odds_34, Option.bind_some, Option.bind_none, Option.toList_some, Option.toList_none, List.cons_append, List.nil_append, List.append_nil, mv_0, hx]
  rw [e_M_odds]
  unfold sp_odds
  simp only [s_M_odds_0, s_M_odds_5, Option.bind_some, Option.bind_none, Option.toList_some, Option.toList_none, List.cons_append, List.nil_append, List.append_nil, mv_0, c_M_isPerson h, z1_0]
  by_cases h1 : hasP S p
  · rw [if_neg (not_not_intro h1)]
    simp only [s_M_odds_8, s_M_odds_16, Option.bind_some, Option.bind_none, Option.toList_some, Option.toList_none, List.cons_append, List.nil_append, List.append_nil, c_M_in, z1_0]
    by_cases h2 : 0 ≤ far ∧ far ≤ 500
    · rw [if_neg (not_not_intro h2)]
      simp only [s_M_odds_19, s_M_odds_25, Option.bind_some, Option.bind_none, Option.toList_some, Option.toList_none, List.cons_append, List.nil_append, List.append_nil, c_M_in, z1_0]
      by_cases h3 : 0 ≤ w ∧ w ≤ 1
      · rw [if_neg (not_not_intro h3), if_neg (not_not_intro (⟨h1, h2, h3⟩ : hasP S p ∧ (0 ≤ far ∧ far ≤ 500) ∧ (0 ≤ w ∧ w ≤ 1)))]
        obtain ⟨k, rfl, -, hk8⟩ := hasP_ix hI.1 h1
        have ek := ix_nI (Nat.lt_trans hk8 (by decide))
        rw [ek]
        have h0 : RS (M.1 0) (S.1, u1 S.2 3 (S.2 3)) := by rw [u1_same rfl]; exact h
        obtain ⟨x', N, hN, hr, hx⟩ := l_M_odds1 (X := X) (d := d) (σ := σ) hI hk8 far w (S.2 3) .null 10 0 0 (S.2 3) M h0 (by omega)
        have hx' : xrun (X, xcall X (d + 7)) j_M_odds 49 [.ref (sh 4 0), .int (nI k), .int far, .int w, .int (S.2 3), .int (0 : Int32), .int (0 : Int32), .null] [] (ub σ 4 (mdC M)) = _ := hx
        have hl : lnS (S.1, u1 S.2 3 x') := hI.1.ln
        have a1 := RS_se hr hl (S.2 3)
        have a2 : RS (upd (N.1 0) 3 (S.2 3)) S := by
          have e : ((S.1, u1 (u1 S.2 3 x') 3 (S.2 3)) : xS) = S := by rw [u1_u1, u1_same rfl]
          rw [← e]
          exact a1
        have hq := odL_le S k far 10 0 0
        simp only [s_M_odds_35, s_M_odds_39, s_M_odds_41, Option.bind_some, Option.bind_none, Option.toList_some, Option.toList_none, List.cons_append, List.nil_append, List.append_nil, mv_0, mg_0_0, mg_0_1, mg_0_2, mg_0_3, mg_0_4, mg_0_5, mg_0_6, mg_0_7, mg_0_8, mg_0_9, mg_0_10, mg_0_11, mg_0_12, mg_0_13, mg_0_14, mg_0_15, mg_0_16, mg_0_17, mg_0_18, mg_0_19, mg_0_20, mrc_3, h.se, hx', s_M_odds_94, s_M_odds_98, mwc_3, s_M_odds_102]
        generalize odL S k far 10 0 0 = q at hq
        have h10 := l_M_odds2 (X := X) (d := d + 7) (σ := ub σ 4 (mdC (u2 N.1 0 (upd (N.1 0) 3 (S.2 3)), N.2))) (nI k) far w (S.2 3) 9 q 10 (by omega) (by omega) (by omega)
        have h10' : xrun (X, xcall X (d + 7)) j_M_odds 110 [.ref (sh 4 0), .int (nI k), .int far, .int w, .int (S.2 3), .int (nI q), .int (10 : Int32), .int (10 : Int32)] [] (ub σ 4 (mdC (u2 N.1 0 (upd (N.1 0) 3 (S.2 3)), N.2))) = _ := h10
        rw [rd_gcd q (by omega)] at h10'
        refine ⟨_, RMr (SD.rm hN hM hr) a2, ?_⟩
        rw [h10', s_M_odds_152]
        by_cases hw : w = 0
        · rw [if_pos hw, if_pos hw, s_M_odds_156, s_M_odds_163]
        · rw [if_neg hw, if_neg hw, s_M_odds_161, s_M_odds_163]
      · rw [if_pos h3, if_pos (fun e : hasP S p ∧ (0 ≤ far ∧ far ≤ 500) ∧ (0 ≤ w ∧ w ≤ 1) => h3 e.2.2)]
        exact ee
    · rw [if_pos h2, if_pos (fun e : hasP S p ∧ (0 ≤ far ∧ far ≤ 500) ∧ (0 ≤ w ∧ w ≤ 1) => h2 e.2.1)]
      exact ee
  · rw [if_pos h1, if_pos (fun e : hasP S p ∧ (0 ≤ far ∧ far ≤ 500) ∧ (0 ≤ w ∧ w ≤ 1) => h1 e.1)]
    exact ee
end MDays
