/-! ===== the model: text ===== -/
def tlr (r : Nat → Int32) (at_ : Nat) (A B : Nat → Int32) (i : Nat) : Nat → Int32 := fun q => if at_ + 1 ≤ q ∧ q < at_ + 1 + i then A (q - (at_ + 1)) else if at_ + 61 ≤ q ∧ q < at_ + 61 + i then B (q - (at_ + 61)) else r q
theorem tlr_0 (r : Nat → Int32) (at_ : Nat) (A B : Nat → Int32) : tlr r at_ A B 0 = r := by
  funext q
  unfold tlr
  rw [if_neg (by omega), if_neg (by omega)]
theorem tlr_step {r : Nat → Int32} {at_ : Nat} {A B : Nat → Int32} {i : Nat} (hi : i < 60) : upd (upd (tlr r at_ A B i) (at_ + 1 + i) (A i)) (at_ + 61 + i) (B i) = tlr r at_ A B (i + 1) := by
  funext q
  by_cases e1 : q = at_ + 61 + i
  · rw [e1, upk]
    unfold tlr
    rw [if_neg (by omega), if_pos (by omega), show at_ + 61 + i - (at_ + 61) = i by omega]
  · rw [upq e1]
    by_cases e2 : q = at_ + 1 + i
    · rw [e2, upk]
      unfold tlr
      rw [if_pos (by omega), show at_ + 1 + i - (at_ + 1) = i by omega]
    · rw [upq e2]
      unfold tlr
      by_cases g1 : at_ + 1 ≤ q ∧ q < at_ + 1 + i
      · rw [if_pos g1, if_pos (by omega)]
      · rw [if_neg g1, if_neg (show ¬ (at_ + 1 ≤ q ∧ q < at_ + 1 + (i + 1)) by omega)]
        by_cases g2 : at_ + 61 ≤ q ∧ q < at_ + 61 + i
        · rw [if_pos g2, if_pos (by omega)]
        · rw [if_neg g2, if_neg (by omega)]
theorem tlr_out {r : Nat → Int32} {at_ : Nat} {A B : Nat → Int32} {i q : Nat} (hi : i ≤ 60) (h : q < at_ + 1 ∨ at_ + 121 ≤ q) : tlr r at_ A B i q = r q := by
  unfold tlr
  rw [if_neg (by omega), if_neg (by omega)]
theorem tlr_1 {r : Nat → Int32} {at_ : Nat} {A B : Nat → Int32} {i j : Nat} (hi : i ≤ 60) (hj : j < i) : tlr r at_ A B i (at_ + 1 + j) = A j := by
  unfold tlr
  rw [if_pos (by omega), show at_ + 1 + j - (at_ + 1) = j by omega]
theorem tlr_2 {r : Nat → Int32} {at_ : Nat} {A B : Nat → Int32} {i j : Nat} (hi : i ≤ 60) (hj : j < i) : tlr r at_ A B i (at_ + 61 + j) = B j := by
  unfold tlr
  rw [if_neg (by omega), if_pos (by omega), show at_ + 61 + j - (at_ + 61) = j by omega]
section MTextC
variable {X : xX} {d : Nat} {M R S K : xS} {σ : xW}
theorem RS_tx0 {r A B f : Nat → Int32} {len : Nat} (h : RS r S) (hS : lnS S) (hl : len ≤ 60) (hc : ∀ j, j < len → A j = (enc (f j)).1 ∧ B j = (enc (f j)).2) : RS (tlr (upd (upd r 4 0) 186 (nI len)) 186 A B len) (u2 S.1 (5 + 0) f, u1 (u1 S.2 1 0) (6 + 0) (nI len)) := by
  obtain ⟨l0, l1⟩ := hS
  exact ⟨fun q hq => (tlr_out hl (by omega)).trans ((upq (by omega)).trans ((upq (by omega)).trans (h.p0 q hq))),
    fun q hq => (tlr_out hl (by omega)).trans ((upq (by omega)).trans ((upq (by omega)).trans (h.p1 q hq))),
    fun q hq => (tlr_out hl (by omega)).trans ((upq (by omega)).trans ((upq (by omega)).trans (h.p2 q hq))),
    fun q hq => (tlr_out hl (by omega)).trans ((upq (by omega)).trans ((upq (by omega)).trans (h.p3 q hq))),
    fun q hq => (tlr_out hl (by omega)).trans ((upq (by omega)).trans ((upq (by omega)).trans (h.tk q hq))),
    fun q hq => (tlr_out hl (by omega)).trans ((upq (by omega)).trans ((upq (by omega)).trans (h.tp q hq))),
    fun q hq => (tlr_out hl (by omega)).trans ((upq (by omega)).trans ((upq (by omega)).trans (h.wt q hq))),
    (tlr_out hl (by omega)).trans ((upq (by omega)).trans ((upq (by omega)).trans h.dy)),
    (tlr_out hl (by omega)).trans ((upq (by omega)).trans ((upq (by omega)).trans h.zz)),
    (tlr_out hl (by omega)).trans ((upq (by omega)).trans ((upq (by omega)).trans h.ct)),
    (tlr_out hl (by omega)).trans ((upq (by omega)).trans ((upq (by omega)).trans h.se)),
    (tlr_out hl (by omega)).trans ((upq (by omega)).trans (upk r 4 0)),
    (tlr_out hl (by omega)).trans ((upq (by omega)).trans ((upq (by omega)).trans h.ws)),
    (tlr_out hl (by omega)).trans (upk _ 186 _),
    fun q (hq : q < (nI len).toNatClampNeg) => (fun hq' : q < len => ⟨(tlr_1 hl hq').trans (hc q hq').1, (tlr_2 hl hq').trans (hc q hq').2⟩) (Nat.lt_of_lt_of_eq hq (nI_clamp (by omega))),
    (tlr_out hl (by omega)).trans ((upq (by omega)).trans ((upq (by omega)).trans h.n1)),
    fun q (hq : q < ln1 S) => ⟨(tlr_out hl (by omega)).trans ((upq (by omega)).trans ((upq (by omega)).trans (h.c1 q hq).1)), (tlr_out hl (by omega)).trans ((upq (by omega)).trans ((upq (by omega)).trans (h.c1 q hq).2))⟩⟩
theorem RS_tx1 {r A B f : Nat → Int32} {len : Nat} (h : RS r S) (hS : lnS S) (hl : len ≤ 60) (hc : ∀ j, j < len → A j = (enc (f j)).1 ∧ B j = (enc (f j)).2) : RS (tlr (upd (upd r 4 0) 307 (nI len)) 307 A B len) (u2 S.1 (5 + 1) f, u1 (u1 S.2 1 0) (6 + 1) (nI len)) := by
  obtain ⟨l0, l1⟩ := hS
  exact ⟨fun q hq => (tlr_out hl (by omega)).trans ((upq (by omega)).trans ((upq (by omega)).trans (h.p0 q hq))),
    fun q hq => (tlr_out hl (by omega)).trans ((upq (by omega)).trans ((upq (by omega)).trans (h.p1 q hq))),
    fun q hq => (tlr_out hl (by omega)).trans ((upq (by omega)).trans ((upq (by omega)).trans (h.p2 q hq))),
    fun q hq => (tlr_out hl (by omega)).trans ((upq (by omega)).trans ((upq (by omega)).trans (h.p3 q hq))),
    fun q hq => (tlr_out hl (by omega)).trans ((upq (by omega)).trans ((upq (by omega)).trans (h.tk q hq))),
    fun q hq => (tlr_out hl (by omega)).trans ((upq (by omega)).trans ((upq (by omega)).trans (h.tp q hq))),
    fun q hq => (tlr_out hl (by omega)).trans ((upq (by omega)).trans ((upq (by omega)).trans (h.wt q hq))),
    (tlr_out hl (by omega)).trans ((upq (by omega)).trans ((upq (by omega)).trans h.dy)),
    (tlr_out hl (by omega)).trans ((upq (by omega)).trans ((upq (by omega)).trans h.zz)),
    (tlr_out hl (by omega)).trans ((upq (by omega)).trans ((upq (by omega)).trans h.ct)),
    (tlr_out hl (by omega)).trans ((upq (by omega)).trans ((upq (by omega)).trans h.se)),
    (tlr_out hl (by omega)).trans ((upq (by omega)).trans (upk r 4 0)),
    (tlr_out hl (by omega)).trans ((upq (by omega)).trans ((upq (by omega)).trans h.ws)),
    (tlr_out hl (by omega)).trans ((upq (by omega)).trans ((upq (by omega)).trans h.n0)),
    fun q (hq : q < ln0 S) => ⟨(tlr_out hl (by omega)).trans ((upq (by omega)).trans ((upq (by omega)).trans (h.c0 q hq).1)), (tlr_out hl (by omega)).trans ((upq (by omega)).trans ((upq (by omega)).trans (h.c0 q hq).2))⟩,
    (tlr_out hl (by omega)).trans (upk _ 307 _),
    fun q (hq : q < (nI len).toNatClampNeg) => (fun hq' : q < len => ⟨(tlr_1 hl hq').trans (hc q hq').1, (tlr_2 hl hq').trans (hc q hq').2⟩) (Nat.lt_of_lt_of_eq hq (nI_clamp (by omega)))⟩
theorem l_M_tl {at_ len : Nat} (hat : at_ + 121 ≤ 428) (hl : len ≤ 60) (use : Int32) (r : Nat → Int32) : ∀ (k i : Nat) (P : xS), P.2 1 = nI len → P.1 0 = tlr r at_ (P.1 7) (P.1 8) i → i + k = len →
    xrun (X, xcall X d) j_M_text 117 [.ref (sh 4 0), .int use, .int (nI at_), .int (nI i)] [] (ub σ 4 (mdC P)) = some (some (.int (1 : Int32)), ub σ 4 (mdC (u2 P.1 0 (tlr r at_ (P.1 7) (P.1 8) len), P.2))) := by
  intro k
  induction k with
  | zero =>
    intro i P h1 hr hi
    have e : i = len := by omega
    subst e
    have g : nI i ≤ nI i := Int32.le_refl _
    rw [← hr, u2_self, s_M_text_117]
    simp only [s_M_text_122, Option.bind_some, Option.bind_none, Option.toList_some, Option.toList_none, List.cons_append, List.nil_append, List.append_nil, mv_0, mg_0_0, mg_0_1, mg_0_2, mg_0_3, mg_0_4, mg_0_5, mg_0_6, mg_0_7, mg_0_8, mg_0_9, mg_0_10, mg_0_11, mg_0_12, mg_0_13, mg_0_14, mg_0_15, mg_0_16, mg_0_17, mg_0_18, mg_0_19, mg_0_20, h1, if_pos g, s_M_text_164]
  | succ k ih =>
    intro i P h1 hr hi
    have g : ¬ nI len ≤ nI i := fun e => absurd ((nI_le_iff (by omega) (by omega)).mp e) (by omega)
    have i60 : i < 60 := by omega
    have x1 : nI (at_ + 1) + nI i = nI (at_ + 1 + i) := nI_add _ _
    have x61 : nI at_ + 61 + nI i = nI (at_ + 61 + i) := by rw [show (61 : Int32) = nI 61 from rfl, nI_add, nI_add]
    have q1 : at_ + 1 + i < 428 := by omega
    have q61 : at_ + 61 + i < 428 := by omega
    have hx := ih (i + 1) (u2 P.1 0 (upd (upd (P.1 0) (at_ + 1 + i) (P.1 7 i)) (at_ + 61 + i) (P.1 8 i)), P.2) h1 (by
      show upd (upd (P.1 0) (at_ + 1 + i) (P.1 7 i)) (at_ + 61 + i) (P.1 8 i) = tlr r at_ (P.1 7) (P.1 8) (i + 1)
      rw [hr, tlr_step i60]) (by omega)
    have hx' : xrun (X, xcall X d) j_M_text 117 [.ref (sh 4 0), .int use, .int (nI at_), .int (nI (i + 1))] [] (ub σ 4 (mdC (u2 P.1 0 (upd (upd (P.1 0) (at_ + 1 + i) (P.1 7 i)) (at_ + 61 + i) (P.1 8 i)), P.2))) = some (some (.int (1 : Int32)), ub σ 4 (mdC (u2 (u2 P.1 0 (upd (upd (P.1 0) (at_ + 1 + i) (P.1 7 i)) (at_ + 61 + i) (P.1 8 i))) 0 (tlr r at_ (P.1 7) (P.1 8) len), P.2))) := hx
    rw [u2_u2] at hx'
    have r8 : xrd X (ub σ 4 (mdC P)) [0] (sh 4 8) (nI i) = some (P.1 7 i) := mr_8 i60
    have r9 : xrd X (ub σ 4 (mdC (u2 P.1 0 (upd (P.1 0) (at_ + 1 + i) (P.1 7 i)), P.2))) [0] (sh 4 9) (nI i) = some (P.1 8 i) := mr_9 i60
    rw [s_M_text_117, ← hx']
    simp only [s_M_text_122, Option.bind_some, Option.bind_none, Option.toList_some, Option.toList_none, List.cons_append, List.nil_append, List.append_nil, mv_0, mg_0_0, mg_0_1, mg_0_2, mg_0_3, mg_0_4, mg_0_5, mg_0_6, mg_0_7, mg_0_8, mg_0_9, mg_0_10, mg_0_11, mg_0_12, mg_0_13, mg_0_14, mg_0_15, mg_0_16, mg_0_17, mg_0_18, mg_0_19, mg_0_20, h1, if_neg g, s_M_text_125, s_M_text_129, s_M_text_138, s_M_text_140, s_M_text_141, s_M_text_145, s_M_text_155, s_M_text_157, s_M_text_158, x1, x61, r8, r9, mw1 q1, mw1 q61, u2_at, u2_u2, nI_add1]
theorem m_text (hI : okI S) (hM : RM M R S K) (use : Int32) {f : Nat → Int32} (f1 : use = 0 ∨ use = 1 → ∀ j, j < (rdr S (ix use)).2.1.length → f j = (rdr S (ix use)).2.1.getD j 0) (f3 : use = 0 ∨ use = 1 → (rdr S (ix use)).2.1.length ≤ 60) : MC X (d + 45) j_M_text [.int use] M (sp_text R S K use f) := by
  intro σ
  have h := hM.row
  have hl := hI.1.ln
  obtain ⟨hn, hn2⟩ := hI.2.2.2.1
  rw [e_M_text]
  unfold sp_text
  simp only [s_M_text_0, s_M_text_6, Option.bind_some, Option.bind_none, Option.toList_some, Option.toList_none, List.cons_append, List.nil_append, List.append_nil, c_M_in, z1_0, use_cases]
  by_cases hu : use = 0 ∨ use = 1
  · rw [if_neg (not_not_intro hu), if_neg (not_not_intro hu)]
    have f1 := f1 hu
    have f3 := f3 hu
    have hus : ∃ u : Nat, u < 2 ∧ use = nI u := by
      rcases hu with e | e
      · exact ⟨0, by decide, e⟩
      · exact ⟨1, by decide, e⟩
    obtain ⟨u, hu2, rfl⟩ := hus
    have eu : ix (nI u) = u := ix_nI (by omega)
    rw [eu] at f1 f3 ⊢
    have hM1 : RM (M.1, u1 (u1 (u1 (u1 (u1 M.2 5 (nI u)) 1 0) 2 0) 3 0) 4 0) R S K := ⟨h, hM.kept, hM.errs, hM.bits, hM.size, hM.cell, hM.imgs, hM.trcd, hM.trce⟩
    have hP1 : PM S (ix (S.2 1)) u 0 (M.1, u1 (u1 (u1 (u1 (u1 M.2 5 (nI u)) 1 0) 2 0) 3 0) 4 0) [] 0 false := ⟨h, ⟨0, by decide, rfl, fun _ => ⟨rfl, Nat.le_refl _, fun j hj => absurd hj (Nat.not_lt_zero j)⟩⟩, rfl, rfl, rfl, rfl, Nat.zero_le _⟩
    obtain ⟨N, hN, hS, hx⟩ := c_M_rdr (X := X) (d := d) (σ := σ) hn hn2 hu2 _ _ _ hP1
    have hN' : PM S (ix (S.2 1)) u 0 N (rdr S u).2.1 (rdr S u).1 (rdr S u).2.2 := hN
    have hMN := hS.rm hM1
    have hr := hMN.row
    have hfl := hN'.fl
    have hle := hN'.le
    have h22 : N.2 2 = nI (rdr S u).1 := hN'.2.2.1
    obtain ⟨-, ⟨l, hl1, hl2, hl3⟩, -⟩ := id hN'
    have hfd : N.1 0 4 = nI (ix (S.2 1)) := hr.fd.trans hn
    have z10 : ¬ (1 : Int32) = 0 := by decide
    have e16 : ∀ (P : xS) (x : Int32), xpf (ub σ 4 (mdC P)) (sh 4 0) 5 16 x = some (ub σ 4 (mdC (P.1, u1 P.2 5 x))) := fun P x => mp_0_16 x
    have e15 : ∀ (P : xS) (x : Int32), xpf (ub σ 4 (mdC P)) (sh 4 0) 5 15 x = some (ub σ 4 (mdC (P.1, u1 P.2 4 x))) := fun P x => mp_0_15 x
    have start : xrun (X, xcall X (d + 44)) j_M_text 16 [.ref (sh 4 0), .int (nI u), .null, .null] [] (ub σ 4 (mdC M)) = xrun (X, xcall X (d + 44)) j_M_text 45 [.ref (sh 4 0), .int (nI u), .null, .null] [] (ub σ 4 (mdC N)) := by
      simp only [s_M_text_16, s_M_text_21, s_M_text_26, s_M_text_31, s_M_text_36, s_M_text_41, Option.bind_some, Option.bind_none, Option.toList_some, Option.toList_none, List.cons_append, List.nil_append, List.append_nil, e16, mp_0_12, mp_0_13, mp_0_14, e15, mv_0, hx]
    rw [start]
    have badend : ∀ P : xS, P.1 = N.1 → P.2 2 = N.2 2 → RM P R S K → ∃ N' : xS, RM N' R (S.1, u1 S.2 1 0) K ∧ xrun (X, xcall X (d + 44)) j_M_text 66 [.ref (sh 4 0), .int (nI u), .null, .null] [.ref (sh 4 0)] (ub σ 4 (mdC P)) = some (some (.int (-10 - nI (rdr S u).1)), ub σ 4 (mdC N')) := by
      intro P hP1 hP2 hPM
      have a1 : RS (upd (P.1 0) 4 0) (S.1, u1 S.2 1 0) := RS_fd hPM.row hl 0
      have a2 : RM (P.1, u1 P.2 4 1) R S K := ⟨hPM.row, hPM.kept, hPM.errs, hPM.bits, hPM.size, hPM.cell, hPM.imgs, hPM.trcd, hPM.trce⟩
      have k1 : u1 P.2 4 1 4 = 1 := rfl
      have k2 : u1 P.2 4 1 2 = nI (rdr S u).1 := hP2.trans h22
      refine ⟨_, RMr a2 a1, ?_⟩
      rw [s_M_text_66, s_M_text_71, if_pos xz1, e15]
      simp only [Option.bind_some, Option.bind_none, Option.toList_some, Option.toList_none, List.cons_append, List.nil_append, List.append_nil, s_M_text_74, mv_0, mg_0_0, mg_0_1, mg_0_2, mg_0_3, mg_0_4, mg_0_5, mg_0_6, mg_0_7, mg_0_8, mg_0_9, mg_0_10, mg_0_11, mg_0_12, mg_0_13, mg_0_14, mg_0_15, mg_0_16, mg_0_17, mg_0_18, mg_0_19, mg_0_20, s_M_text_78, mwc_4, s_M_text_81, s_M_text_85, k1, if_neg z10, s_M_text_88, s_M_text_94, k2]
    simp only [s_M_text_45, s_M_text_50, Option.bind_some, Option.bind_none, Option.toList_some, Option.toList_none, List.cons_append, List.nil_append, List.append_nil, mv_0, mg_0_0, mg_0_1, mg_0_2, mg_0_3, mg_0_4, mg_0_5, mg_0_6, mg_0_7, mg_0_8, mg_0_9, mg_0_10, mg_0_11, mg_0_12, mg_0_13, mg_0_14, mg_0_15, mg_0_16, mg_0_17, mg_0_18, mg_0_19, mg_0_20, hfl]
    by_cases hgood : (rdr S u).2.2 = false ∧ (rdr S u).1 = ix (S.2 1)
    · rw [if_pos hgood]
      obtain ⟨g1, g2⟩ := hgood
      obtain ⟨q1, q2, q3⟩ := hl3 g1
      have nb : ¬ (rdr S u).2.2 = true := by rw [g1]; decide
      have g3 : nI (ix (S.2 1)) ≤ nI (rdr S u).1 := by rw [g2]; exact Int32.le_refl _
      have k1 : u1 N.2 4 0 4 = 0 := rfl
      have k2 : u1 N.2 4 0 1 = nI l := hl2
      rw [if_neg nb, if_pos rfl]
      have hc : ∀ j, j < l → N.1 7 j = (enc (f j)).1 ∧ N.1 8 j = (enc (f j)).2 := by
        intro j hj
        rw [f1 j (by omega)]
        exact q3 j (by omega)
      have a2 : RM (N.1, u1 N.2 4 0) R S K := ⟨hMN.row, hMN.kept, hMN.errs, hMN.bits, hMN.size, hMN.cell, hMN.imgs, hMN.trcd, hMN.trce⟩
      rw [← q1]
      obtain rfl | rfl : u = 0 ∨ u = 1 := by omega
      · have at_ : (186 : Int32) + 121 * nI 0 = nI 186 := by decide
        have qat : 186 < 428 := by decide
        have a3 := RS_tx0 (f := f) hMN.row hl hl1 hc
        have hy := l_M_tl (X := X) (d := d + 44) (σ := σ) (at_ := 186) (len := l) (by decide) hl1 (nI 0) (upd (upd (N.1 0) 4 0) 186 (nI l)) l 0 (u2 N.1 0 (upd (upd (N.1 0) 4 0) 186 (nI l)), u1 N.2 4 0) hl2 (tlr_0 _ _ _ _).symm (by omega)
        have hy' : xrun (X, xcall X (d + 44)) j_M_text 117 [.ref (sh 4 0), .int (nI 0), .int (nI 186), .int (0 : Int32)] [] (ub σ 4 (mdC (u2 N.1 0 (upd (upd (N.1 0) 4 0) 186 (nI l)), u1 N.2 4 0))) = some (some (.int (1 : Int32)), ub σ 4 (mdC (u2 (u2 N.1 0 (upd (upd (N.1 0) 4 0) 186 (nI l))) 0 (tlr (upd (upd (N.1 0) 4 0) 186 (nI l)) 186 (N.1 7) (N.1 8) l), u1 N.2 4 0))) := hy
        rw [u2_u2] at hy'
        refine ⟨_, RMr a2 a3, ?_⟩
        simp only [s_M_text_53, s_M_text_57, s_M_text_61, s_M_text_63, Option.bind_some, Option.bind_none, Option.toList_some, Option.toList_none, List.cons_append, List.nil_append, List.append_nil, mv_0, mg_0_0, mg_0_1, mg_0_2, mg_0_3, mg_0_4, mg_0_5, mg_0_6, mg_0_7, mg_0_8, mg_0_9, mg_0_10, mg_0_11, mg_0_12, mg_0_13, mg_0_14, mg_0_15, mg_0_16, mg_0_17, mg_0_18, mg_0_19, mg_0_20, h22, mrc_4, hfd, if_pos g3, s_M_text_70, s_M_text_71, if_pos xz0, e15, s_M_text_74, s_M_text_78, mwc_4, s_M_text_81, s_M_text_85, k1, if_true, s_M_text_96, s_M_text_109, k2, at_, s_M_text_114, mw1 qat, u2_at, u2_u2, s_M_text_115, hy']
      · have at_ : (186 : Int32) + 121 * nI 1 = nI 307 := by decide
        have qat : 307 < 428 := by decide
        have a3 := RS_tx1 (f := f) hMN.row hl hl1 hc
        have hy := l_M_tl (X := X) (d := d + 44) (σ := σ) (at_ := 307) (len := l) (by decide) hl1 (nI 1) (upd (upd (N.1 0) 4 0) 307 (nI l)) l 0 (u2 N.1 0 (upd (upd (N.1 0) 4 0) 307 (nI l)), u1 N.2 4 0) hl2 (tlr_0 _ _ _ _).symm (by omega)
        have hy' : xrun (X, xcall X (d + 44)) j_M_text 117 [.ref (sh 4 0), .int (nI 1), .int (nI 307), .int (0 : Int32)] [] (ub σ 4 (mdC (u2 N.1 0 (upd (upd (N.1 0) 4 0) 307 (nI l)), u1 N.2 4 0))) = some (some (.int (1 : Int32)), ub σ 4 (mdC (u2 (u2 N.1 0 (upd (upd (N.1 0) 4 0) 307 (nI l))) 0 (tlr (upd (upd (N.1 0) 4 0) 307 (nI l)) 307 (N.1 7) (N.1 8) l), u1 N.2 4 0))) := hy
        rw [u2_u2] at hy'
        refine ⟨_, RMr a2 a3, ?_⟩
        simp only [s_M_text_53, s_M_text_57, s_M_text_61, s_M_text_63, Option.bind_some, Option.bind_none, Option.toList_some, Option.toList_none, List.cons_append, List.nil_append, List.append_nil, mv_0, mg_0_0, mg_0_1, mg_0_2, mg_0_3, mg_0_4, mg_0_5, mg_0_6, mg_0_7, mg_0_8, mg_0_9, mg_0_10, mg_0_11, mg_0_12, mg_0_13, mg_0_14, mg_0_15, mg_0_16, mg_0_17, mg_0_18, mg_0_19, mg_0_20, h22, mrc_4, hfd, if_pos g3, s_M_text_70, s_M_text_71, if_pos xz0, e15, s_M_text_74, s_M_text_78, mwc_4, s_M_text_81, s_M_text_85, k1, if_true, s_M_text_96, s_M_text_109, k2, at_, s_M_text_114, mw1 qat, u2_at, u2_u2, s_M_text_115, hy']
    · rw [if_neg hgood]
      obtain ⟨N', hN2, hx2⟩ := badend N rfl rfl hMN
      refine ⟨N', hN2, ?_⟩
      rw [← hx2]
      by_cases hb : (rdr S u).2.2 = true
      · rw [if_pos hb, if_neg z10]
      · have hb' : (rdr S u).2.2 = false := by
          cases hz : (rdr S u).2.2 with
          | true => exact absurd hz hb
          | false => rfl
        have g3 : ¬ nI (ix (S.2 1)) ≤ nI (rdr S u).1 := fun e => hgood ⟨hb', by have := (nI_le_iff (by omega) (by omega)).mp e; omega⟩
        rw [if_neg hb, if_pos rfl]
        simp only [s_M_text_53, s_M_text_57, s_M_text_61, s_M_text_63, Option.bind_some, Option.bind_none, Option.toList_some, Option.toList_none, List.cons_append, List.nil_append, List.append_nil, mv_0, mg_0_0, mg_0_1, mg_0_2, mg_0_3, mg_0_4, mg_0_5, mg_0_6, mg_0_7, mg_0_8, mg_0_9, mg_0_10, mg_0_11, mg_0_12, mg_0_13, mg_0_14, mg_0_15, mg_0_16, mg_0_17, mg_0_18, mg_0_19, mg_0_20, h22, mrc_4, hfd, if_neg g3]
  · rw [if_pos hu, if_pos hu]
    obtain ⟨N, hN, hx⟩ := c_M_error1 (X := X) (d := d + 43) (σ := σ) hM
    refine ⟨N, hN, ?_⟩
    simp only [s_M_text_9, s_M_text_15, Option.bind_some, Option.bind_none, Option.toList_some, Option.toList_none, List.cons_append, List.nil_append, List.append_nil, mv_0, hx]
    rfl
end MTextC
