/-! ===== the model: calls, 4: words, move, feed ===== -/
theorem bp_b (x : Int32) : x.toInt8.toInt32 &&& 255 = x &&& 255 := by
  apply Int32.toBitVec_inj.mp
  rw [Int32.toBitVec_and, Int32.toBitVec_and, Int8.toBitVec_toInt32, Int32.toBitVec_toInt8]
  apply BitVec.eq_of_getLsbD_eq
  intro i hi
  rw [BitVec.getLsbD_and, BitVec.getLsbD_and]
  have hm : ∀ i < 32, 8 ≤ i → (255 : Int32).toBitVec.getLsbD i = false := by decide
  rcases Nat.lt_or_ge i 8 with z | z
  · rw [BitVec.getLsbD_signExtend, BitVec.getLsbD_signExtend, if_pos z, if_pos hi]
    simp only [z, hi, decide_true, Bool.true_and]
  · rw [hm i hi z]; simp
section MWords
variable {X : xX} {d : Nat} {M R S K : xS} {σ : xW}
theorem l_M_words {p s z : Nat} {f : Nat → Int32} (hp : p < 8) (hs : s < 4) (hz : z ≤ 24) (l3 : Int32) : ∀ (k i : Nat) (S M : xS), okI S → RS (M.1 0) S → M.1 5 s = nI z → (∀ c, c < 24 → M.1 6 (24 * s + c) = f c) → i + k = min z (cn S) → ∃ N : xS, SD M N ∧ RS (N.1 0) (wdL p f k i S).2 ∧
    xrun (X, xcall X (d + 1)) j_M_words 34 [.ref (sh 4 0), .int (nI p), .int (nI s), .int l3, .int (nI i)] [] (ub σ 4 (mdC M)) = some (some (.int (nI (wdL p f k i S).1)), ub σ 4 (mdC N)) := by
  intro k
  induction k with
  | zero =>
    intro i S M hI h h5 h6 hi
    obtain ⟨hc1, hc2⟩ := hI.1.1
    have hct : M.1 0 2 = nI (cn S) := h.ct.trans hc1
    have hr5 : xrd X (ub σ 4 (mdC M)) [0] (sh 4 6) (nI s) = some (nI z) := by rw [← h5]; exact mr_6 hs
    refine ⟨M, SD.rfl' M, h, ?_⟩
    rw [s_M_words_34]
    unfold wdL
    simp only [s_M_words_40, s_M_words_42, Option.bind_some, Option.bind_none, Option.toList_some, Option.toList_none, List.cons_append, List.nil_append, List.append_nil, mv_0, mg_0_0, mg_0_1, mg_0_2, mg_0_3, mg_0_4, mg_0_5, mg_0_6, mg_0_7, mg_0_8, mg_0_9, mg_0_10, mg_0_11, mg_0_12, mg_0_13, mg_0_14, mg_0_15, mg_0_16, mg_0_17, mg_0_18, mg_0_19, mg_0_20, hr5]
    by_cases hzi : z ≤ i
    · have h1 : nI z ≤ nI i := (nI_le_iff (by omega) (by omega)).mpr hzi
      rw [if_pos h1, s_M_words_122]
    · have h1 : ¬ nI z ≤ nI i := fun e => hzi ((nI_le_iff (by omega) (by omega)).mp e)
      have h2 : nI (cn S) ≤ nI i := (nI_le_iff (by omega) (by omega)).mpr (by omega)
      rw [if_neg h1]
      simp only [s_M_words_45, s_M_words_51, s_M_words_53, Option.bind_some, Option.bind_none, Option.toList_some, Option.toList_none, List.cons_append, List.nil_append, List.append_nil, mv_0, mg_0_0, mg_0_1, mg_0_2, mg_0_3, mg_0_4, mg_0_5, mg_0_6, mg_0_7, mg_0_8, mg_0_9, mg_0_10, mg_0_11, mg_0_12, mg_0_13, mg_0_14, mg_0_15, mg_0_16, mg_0_17, mg_0_18, mg_0_19, mg_0_20, mrc_2, hct, if_pos h2, s_M_words_122]
  | succ k ih =>
    intro i S M hI h h5 h6 hi
    obtain ⟨hc1, hc2⟩ := hI.1.1
    have hct : M.1 0 2 = nI (cn S) := h.ct.trans hc1
    have hr5 : xrd X (ub σ 4 (mdC M)) [0] (sh 4 6) (nI s) = some (nI z) := by rw [← h5]; exact mr_6 hs
    have h1 : ¬ nI z ≤ nI i := fun e => absurd ((nI_le_iff (by omega) (by omega)).mp e) (by omega)
    have h2 : ¬ nI (cn S) ≤ nI i := fun e => absurd ((nI_le_iff (by omega) (by omega)).mp e) (by omega)
    have hi8 : i < 8 := by omega
    have hq : 24 * s + i < 96 := by omega
    have h64 : 8 * p + i < 64 := by omega
    have hsp : 38 + (8 * p + i) < 428 := by omega
    have hr7 : xrd X (ub σ 4 (mdC M)) [0] (sh 4 7) (nI (24 * s + i)) = some (f i) := by rw [← h6 i (by omega)]; exact mr_7 hq
    have hl := hI.1.ln
    have go : ∀ (x : Int32) (S' : xS), okI S' → cn S' = cn S → RS (upd (M.1 0) (38 + (8 * p + i)) x) S' → ∃ N : xS, SD M N ∧ RS (N.1 0) (wdL p f k (i + 1) S').2 ∧ xrun (X, xcall X (d + 1)) j_M_words 115 [.ref (sh 4 0), .int (nI p), .int (nI s), .int l3, .int (nI i)] [.int x, .int (nI (38 + (8 * p + i))), .ref (sh 4 1)] (ub σ 4 (mdC M)) = some (some (.int (nI (wdL p f k (i + 1) S').1)), ub σ 4 (mdC N)) := by
      intro x S' hI' hc' hr
      obtain ⟨N, hN, hr2, hx⟩ := ih (i + 1) S' (u2 M.1 0 (upd (M.1 0) (38 + (8 * p + i)) x), M.2) hI' hr h5 h6 (by rw [hc']; omega)
      refine ⟨N, SD.trans (SD.row M _) hN, hr2, ?_⟩
      rw [← hx]
      simp only [s_M_words_115, s_M_words_116, Option.bind_some, Option.bind_none, Option.toList_some, Option.toList_none, List.cons_append, List.nil_append, List.append_nil, mw1 hsp, nI_add1]
    rw [s_M_words_34]
    unfold wdL
    simp only [s_M_words_40, s_M_words_42, s_M_words_45, s_M_words_51, s_M_words_53, Option.bind_some, Option.bind_none, Option.toList_some, Option.toList_none, List.cons_append, List.nil_append, List.append_nil, mv_0, mg_0_0, mg_0_1, mg_0_2, mg_0_3, mg_0_4, mg_0_5, mg_0_6, mg_0_7, mg_0_8, mg_0_9, mg_0_10, mg_0_11, mg_0_12, mg_0_13, mg_0_14, mg_0_15, mg_0_16, mg_0_17, mg_0_18, mg_0_19, mg_0_20, hr5, mrc_2, hct, if_neg h1, if_neg h2, s_M_words_56, nI_inj (a := i) (b := p) (by omega) (by omega)]
    by_cases hip : i = p
    · rw [if_pos hip, if_pos hip]
      have hd : S.1 4 (8 * p + i) = 0 := by
        rw [hip, show 8 * p + p = 9 * p by omega]
        exact hI.2.2.2.2.2.2.1 p hp
      have a1 := RS_tk h hl h64 0
      have e : ((u2 S.1 4 (upd (S.1 4) (8 * p + i) 0), S.2) : xS) = S := by rw [u2_same hd]
      rw [e] at a1
      obtain ⟨N, hN, hr, hx⟩ := go 0 S hI rfl a1
      refine ⟨N, hN, hr, ?_⟩
      rw [← hx]
      simp only [s_M_words_83, s_M_words_87, s_M_words_93, s_M_words_99, Option.bind_some, Option.bind_none, Option.toList_some, Option.toList_none, List.cons_append, List.nil_append, List.append_nil, mv_0, mg_0_0, mg_0_1, mg_0_2, mg_0_3, mg_0_4, mg_0_5, mg_0_6, mg_0_7, mg_0_8, mg_0_9, mg_0_10, mg_0_11, mg_0_12, mg_0_13, mg_0_14, mg_0_15, mg_0_16, mg_0_17, mg_0_18, mg_0_19, mg_0_20, c_M_spotOf, nI_inj (a := i) (b := p) (by omega) (by omega), if_pos hip]
    · rw [if_neg hip, if_neg hip]
      simp only [s_M_words_62, s_M_words_66, s_M_words_74, s_M_words_80, Option.bind_some, Option.bind_none, Option.toList_some, Option.toList_none, List.cons_append, List.nil_append, List.append_nil, mv_0, mg_0_0, mg_0_1, mg_0_2, mg_0_3, mg_0_4, mg_0_5, mg_0_6, mg_0_7, mg_0_8, mg_0_9, mg_0_10, mg_0_11, mg_0_12, mg_0_13, mg_0_14, mg_0_15, mg_0_16, mg_0_17, mg_0_18, mg_0_19, mg_0_20, e24, hr7, c_M_in, z1_0]
      by_cases hf : 0 ≤ f i ∧ f i ≤ 99
      · rw [if_neg (not_not_intro hf), if_neg (not_not_intro hf)]
        have a1 : RS _ (sT S (upd (S.1 4) (8 * p + i) (f i))) := RS_tk h hl h64 (f i)
        obtain ⟨N, hN, hr, hx⟩ := go (f i) (sT S (upd (S.1 4) (8 * p + i) (f i))) (okI_say hI hp hi8 (fun e => hip e.symm) hf) rfl a1
        refine ⟨N, hN, hr, ?_⟩
        rw [← hx]
        simp only [s_M_words_83, s_M_words_87, s_M_words_93, s_M_words_103, s_M_words_107, Option.bind_some, Option.bind_none, Option.toList_some, Option.toList_none, List.cons_append, List.nil_append, List.append_nil, mv_0, mg_0_0, mg_0_1, mg_0_2, mg_0_3, mg_0_4, mg_0_5, mg_0_6, mg_0_7, mg_0_8, mg_0_9, mg_0_10, mg_0_11, mg_0_12, mg_0_13, mg_0_14, mg_0_15, mg_0_16, mg_0_17, mg_0_18, mg_0_19, mg_0_20, c_M_spotOf, nI_inj (a := i) (b := p) (by omega) (by omega), if_neg hip, e24, hr7]
      · rw [if_pos hf, if_pos hf, s_M_words_122]
        exact ⟨M, SD.rfl' M, h, rfl⟩
theorem m_words (hR : okR R) (hI : okI S) (hM : RM M R S K) (p s : Int32) : MC X (d + 4) j_M_words [.int p, .int s] M (sp_words R S K p s) := by
  intro σ
  have h := hM.row
  rw [e_M_words]
  unfold sp_words
  simp only [s_M_words_0, s_M_words_5, Option.bind_some, Option.bind_none, Option.toList_some, Option.toList_none, List.cons_append, List.nil_append, List.append_nil, mv_0, c_M_isPerson h, z1_0]
  by_cases h0 : hasP S p
  · rw [if_neg (not_not_intro h0)]
    obtain ⟨q, rfl, -, hq8⟩ := hasP_ix hI.1 h0
    have eq := ix_nI (Nat.lt_trans hq8 (by decide))
    by_cases h1 : isSh s
    · rw [if_neg (not_not_intro (⟨h0, h1⟩ : hasP S (nI q) ∧ isSh s))]
      obtain ⟨k, rfl, hk⟩ := sh_ix h1
      have ek : ix (nI k) = k := ix_nI (by omega)
      rw [ek, eq]
      simp only [s_M_words_15, s_M_words_20, Option.bind_some, Option.bind_none, Option.toList_some, Option.toList_none, List.cons_append, List.nil_append, List.append_nil, mv_0, c_M_nt hk hM]
      by_cases hb : R.2 (1 + 2 * k) = 0
      · have z : ¬ (-1000000002 : Int32) = 0 := by decide
        obtain ⟨N, hN, hx⟩ := c_M_error2 (X := X) (d := d + 2) (σ := σ) hM
        rw [if_pos hb, if_pos hb, if_neg z]
        refine ⟨N, hN, ?_⟩
        simp only [s_M_words_25, s_M_words_30, Option.bind_some, Option.bind_none, Option.toList_some, Option.toList_none, List.cons_append, List.nil_append, List.append_nil, mv_0, hx]
        rfl
      · obtain ⟨z1, z2⟩ := hR.1 k hk
        obtain ⟨N, hN, hr, hx⟩ := l_M_words (X := X) (d := d + 2) (σ := σ) (p := q) (f := R.1 (1 + k)) hq8 hk z2 0 (min (szs R k) (cn S)) 0 S M hI h ((hM.size k hk).trans z1) (hM.cell k hk) (by omega)
        rw [if_neg hb, if_neg hb, if_pos rfl]
        refine ⟨N, hN.rm hM hr, ?_⟩
        rw [s_M_words_31]
        exact hx
    · rw [if_pos (fun e : hasP S (nI q) ∧ isSh s => h1 e.2)]
      have z : ¬ (-1000000001 : Int32) = 0 := by decide
      obtain ⟨N, hN, hx⟩ := c_M_error1 (X := X) (d := d + 2) (σ := σ) hM
      refine ⟨N, hN, ?_⟩
      simp only [s_M_words_15, s_M_words_20, Option.bind_some, Option.bind_none, Option.toList_some, Option.toList_none, List.cons_append, List.nil_append, List.append_nil, mv_0, c_M_nt1 h1, if_neg z, s_M_words_25, s_M_words_30, hx]
      rfl
  · rw [if_pos h0, if_pos (fun e : hasP S p ∧ isSh s => h0 e.1)]
    obtain ⟨N, hN, hx⟩ := c_M_error1 (X := X) (d := d + 2) (σ := σ) hM
    refine ⟨N, hN, ?_⟩
    simp only [s_M_words_8, s_M_words_14, Option.bind_some, Option.bind_none, Option.toList_some, Option.toList_none, List.cons_append, List.nil_append, List.append_nil, mv_0, hx]
    rfl
/-! move -/
def mvC (f : Nat → Int32) (a b lo hi : Nat) : Nat → Int32 := fun q => if b + lo ≤ q ∧ q < b + hi then f (a + (q - b)) else f q
theorem mvC_0 (f : Nat → Int32) (a b lo : Nat) : mvC f a b lo lo = f := by
  funext q
  exact if_neg (by omega)
theorem mvC_up {f : Nat → Int32} {a b hi : Nat} : upd (mvC f a b 0 hi) (b + hi) (f (a + hi)) = mvC f a b 0 (hi + 1) := by
  funext q
  unfold mvC
  by_cases e : q = b + hi
  · rw [e, upk, if_pos (by omega), show b + hi - b = hi by omega]
  · rw [upq e]
    by_cases g : b + 0 ≤ q ∧ q < b + hi
    · rw [if_pos g, if_pos (by omega)]
    · rw [if_neg g, if_neg (by omega)]
theorem mvC_down {f : Nat → Int32} {a b lo hi : Nat} (h : lo + 1 ≤ hi) : upd (mvC f a b (lo + 1) hi) (b + lo) (f (a + lo)) = mvC f a b lo hi := by
  funext q
  unfold mvC
  by_cases e : q = b + lo
  · rw [e, upk, if_pos (by omega), show b + lo - b = lo by omega]
  · rw [upq e]
    by_cases g : b + (lo + 1) ≤ q ∧ q < b + hi
    · rw [if_pos g, if_pos (by omega)]
    · rw [if_neg g, if_neg (by omega)]
theorem e24b (s a e : Nat) : (24 : Int32) * nI s + nI a + nI e = nI (24 * s + a + e) := by rw [e24, nI_add]
theorem u2_at' (M : xS) (g : Nat → Int32) : ((u2 M.1 6 g, M.2) : xS).1 6 = g := rfl
theorem l_M_moveU {s a o b c : Nat} (h1 : 24 * s + a + c ≤ 96) (h2 : 24 * o + b + c ≤ 96) (hle : b ≤ a) (hso : s = o ∨ (24 * s + a + c ≤ 24 * o + b ∨ 24 * o + b + c ≤ 24 * s + a)) (f : Nat → Int32) (l6 : Int32) : ∀ (k t : Nat) (l8 : Value) (M : xS), M.1 6 = mvC f (24 * s + a) (24 * o + b) 0 t → t + k = c →
    xrun (X, xcall X d) j_M_move 28 [.ref (sh 4 0), .int (nI s), .int (nI a), .int (nI o), .int (nI b), .int (nI c), .int l6, .int (nI t), l8] [] (ub σ 4 (mdC M)) = some (some (.int (nI c)), ub σ 4 (mdC (u2 M.1 6 (mvC f (24 * s + a) (24 * o + b) 0 c), M.2))) := by
  intro k
  induction k with
  | zero =>
    intro t l8 M h ht
    have ht' : t = c := by omega
    subst ht'
    have g1 : nI t ≤ nI t := Int32.le_refl _
    rw [s_M_move_28, if_pos g1, s_M_move_90, ← h, u2_self]
  | succ k ih =>
    intro t l8 M h ht
    have g1 : ¬ nI c ≤ nI t := fun e => absurd ((nI_le_iff (by omega) (by omega)).mp e) (by omega)
    have g2 : nI b ≤ nI a := (nI_le_iff (by omega) (by omega)).mpr hle
    have q1 : 24 * s + a + t < 96 := by omega
    have q2 : 24 * o + b + t < 96 := by omega
    have hv : M.1 6 (24 * s + a + t) = f (24 * s + a + t) := by
      rw [h]
      exact if_neg (by omega)
    have hr : xrd X (ub σ 4 (mdC M)) [0] (sh 4 7) (nI (24 * s + a + t)) = some (f (24 * s + a + t)) := by rw [← hv]; exact mr_7 q1
    have hw : ∀ x : Int32, xwr (ub σ 4 (mdC M)) [0] (sh 4 7) (nI (24 * o + b + t)) x = some (ub σ 4 (mdC (u2 M.1 6 (upd (M.1 6) (24 * o + b + t) x), M.2))) := fun x => mw_7 q2
    have hx := ih (t + 1) (.int (nI t)) (u2 M.1 6 (upd (M.1 6) (24 * o + b + t) (f (24 * s + a + t))), M.2) (by rw [u2_at', h, mvC_up]) (by omega)
    have hx' : xrun (X, xcall X d) j_M_move 28 [.ref (sh 4 0), .int (nI s), .int (nI a), .int (nI o), .int (nI b), .int (nI c), .int l6, .int (nI (t + 1)), .int (nI t)] [] (ub σ 4 (mdC (u2 M.1 6 (upd (M.1 6) (24 * o + b + t) (f (24 * s + a + t))), M.2))) = some (some (.int (nI c)), ub σ 4 (mdC (u2 (u2 M.1 6 (upd (M.1 6) (24 * o + b + t) (f (24 * s + a + t)))) 6 (mvC f (24 * s + a) (24 * o + b) 0 c), M.2))) := hx
    rw [u2_u2] at hx'
    rw [s_M_move_28, if_neg g1, s_M_move_35, if_pos g2, s_M_move_51, ← hx']
    simp only [s_M_move_53, s_M_move_59, s_M_move_73, s_M_move_83, s_M_move_84, Option.bind_some, Option.bind_none, Option.toList_some, Option.toList_none, List.cons_append, List.nil_append, List.append_nil, mv_0, mg_0_0, mg_0_1, mg_0_2, mg_0_3, mg_0_4, mg_0_5, mg_0_6, mg_0_7, mg_0_8, mg_0_9, mg_0_10, mg_0_11, mg_0_12, mg_0_13, mg_0_14, mg_0_15, mg_0_16, mg_0_17, mg_0_18, mg_0_19, mg_0_20, e24b, hr, hw, nI_add1]
theorem l_M_moveD {s a o b c : Nat} (h1 : 24 * s + a + c ≤ 96) (h2 : 24 * o + b + c ≤ 96) (hle : a < b) (hso : s = o ∨ (24 * s + a + c ≤ 24 * o + b ∨ 24 * o + b + c ≤ 24 * s + a)) (f : Nat → Int32) (l6 : Int32) : ∀ (k t : Nat) (l8 : Value) (M : xS), M.1 6 = mvC f (24 * s + a) (24 * o + b) k c → t + k = c →
    xrun (X, xcall X d) j_M_move 28 [.ref (sh 4 0), .int (nI s), .int (nI a), .int (nI o), .int (nI b), .int (nI c), .int l6, .int (nI t), l8] [] (ub σ 4 (mdC M)) = some (some (.int (nI c)), ub σ 4 (mdC (u2 M.1 6 (mvC f (24 * s + a) (24 * o + b) 0 c), M.2))) := by
  intro k
  induction k with
  | zero =>
    intro t l8 M h ht
    have ht' : t = c := by omega
    subst ht'
    have g1 : nI t ≤ nI t := Int32.le_refl _
    rw [s_M_move_28, if_pos g1, s_M_move_90, ← h, u2_self]
  | succ k ih =>
    intro t l8 M h ht
    have g1 : ¬ nI c ≤ nI t := fun e => absurd ((nI_le_iff (by omega) (by omega)).mp e) (by omega)
    have g2 : ¬ nI b ≤ nI a := fun e => absurd ((nI_le_iff (by omega) (by omega)).mp e) (by omega)
    have q1 : 24 * s + a + k < 96 := by omega
    have q2 : 24 * o + b + k < 96 := by omega
    have ek : nI c - 1 - nI t = nI k := by
      rw [nI_sub1 (by omega), nI_sub (by omega), show c - 1 - t = k by omega]
    have hv : M.1 6 (24 * s + a + k) = f (24 * s + a + k) := by
      rw [h]
      exact if_neg (by omega)
    have hr : xrd X (ub σ 4 (mdC M)) [0] (sh 4 7) (nI (24 * s + a + k)) = some (f (24 * s + a + k)) := by rw [← hv]; exact mr_7 q1
    have hw : ∀ x : Int32, xwr (ub σ 4 (mdC M)) [0] (sh 4 7) (nI (24 * o + b + k)) x = some (ub σ 4 (mdC (u2 M.1 6 (upd (M.1 6) (24 * o + b + k) x), M.2))) := fun x => mw_7 q2
    have hx := ih (t + 1) (.int (nI k)) (u2 M.1 6 (upd (M.1 6) (24 * o + b + k) (f (24 * s + a + k))), M.2) (by rw [u2_at', h, mvC_down (by omega)]) (by omega)
    have hx' : xrun (X, xcall X d) j_M_move 28 [.ref (sh 4 0), .int (nI s), .int (nI a), .int (nI o), .int (nI b), .int (nI c), .int l6, .int (nI (t + 1)), .int (nI k)] [] (ub σ 4 (mdC (u2 M.1 6 (upd (M.1 6) (24 * o + b + k) (f (24 * s + a + k))), M.2))) = some (some (.int (nI c)), ub σ 4 (mdC (u2 (u2 M.1 6 (upd (M.1 6) (24 * o + b + k) (f (24 * s + a + k)))) 6 (mvC f (24 * s + a) (24 * o + b) 0 c), M.2))) := hx
    rw [u2_u2] at hx'
    rw [s_M_move_28, if_neg g1, s_M_move_35, if_neg g2, s_M_move_41, ek, ← hx']
    simp only [s_M_move_53, s_M_move_59, s_M_move_73, s_M_move_83, s_M_move_84, Option.bind_some, Option.bind_none, Option.toList_some, Option.toList_none, List.cons_append, List.nil_append, List.append_nil, mv_0, mg_0_0, mg_0_1, mg_0_2, mg_0_3, mg_0_4, mg_0_5, mg_0_6, mg_0_7, mg_0_8, mg_0_9, mg_0_10, mg_0_11, mg_0_12, mg_0_13, mg_0_14, mg_0_15, mg_0_16, mg_0_17, mg_0_18, mg_0_19, mg_0_20, e24b, hr, hw, nI_add1]
theorem sub_ti {z a : Nat} (hz : z ≤ 24) (ha : a < 2 ^ 31) : (nI z - nI a).toInt = (z : Int) - a := by
  rw [Int32.toInt_sub, nI_toInt (by omega), nI_toInt ha]
  exact Int.bmod_eq_of_le (by omega) (by omega)
theorem holM {R : xS} {s z : Nat} {i n : Int32} (hz : R.2 (2 + 2 * s) = nI z) (hz2 : z ≤ 24) (hi : 0 ≤ i) (hn : 0 ≤ n) : hol R s i n ↔ ¬ nI z - i < n := by
  obtain ⟨a, ha, rfl⟩ := nI_of (i32_nlt.mpr hi)
  obtain ⟨c, hc, rfl⟩ := nI_of (i32_nlt.mpr hn)
  have e1 := sub_ti hz2 ha
  have e2 := sub_ti hz2 hc
  have t1 := nI_toInt ha
  have t2 := nI_toInt hc
  have t3 := nI_toInt (n := z) (by omega)
  unfold hol
  rw [hz, Int32.lt_iff_toInt_lt, e1, Int32.le_iff_toInt_le (x := nI c) (y := nI z), Int32.le_iff_toInt_le (x := nI a), e2, t1, t2, t3]
  constructor
  · rintro ⟨-, -, h1, h2⟩
    omega
  · intro h
    exact ⟨hi, hn, by omega, by omega⟩
theorem c_M_notMoved (hR : okR R) (hM : RM M R S K) (s i o j n : Int32) : xcall X (d + 3) j_M_notMoved [.ref (sh 4 0), .int s, .int i, .int o, .int j, .int n] (ub σ 4 (mdC M)) = some (some (.int (if ¬ (isSh s ∧ isSh o) then (-1000000001 : Int32) else if R.2 (1 + 2 * ix s) = 0 ∨ R.2 (1 + 2 * ix o) = 0 then (-1000000002 : Int32) else if ¬ R.2 (1 + 2 * ix s) = R.2 (1 + 2 * ix o) then (-1000000005 : Int32) else if ¬ (hol R (ix s) i n ∧ hol R (ix o) j n) then (-1000000001 : Int32) else 0)), ub σ 4 (mdC M)) := by
  rw [e_M_notMoved]
  simp only [s_M_notMoved_0, s_M_notMoved_4, Option.bind_some, Option.bind_none, Option.toList_some, Option.toList_none, List.cons_append, List.nil_append, List.append_nil, c_M_isSheet, z1_0]
  by_cases h1 : isSh s
  · rw [if_neg (not_not_intro h1)]
    simp only [s_M_notMoved_7, s_M_notMoved_11, Option.bind_some, Option.bind_none, Option.toList_some, Option.toList_none, List.cons_append, List.nil_append, List.append_nil, c_M_isSheet, z1_0]
    by_cases h2 : isSh o
    · rw [if_neg (not_not_intro h2), if_neg (not_not_intro (⟨h1, h2⟩ : isSh s ∧ isSh o))]
      obtain ⟨k, rfl, hk⟩ := sh_ix h1
      obtain ⟨l, rfl, hl⟩ := sh_ix h2
      have ek : ix (nI k) = k := ix_nI (by omega)
      have el : ix (nI l) = l := ix_nI (by omega)
      rw [ek, el]
      obtain ⟨z1, z2⟩ := hR.1 k hk
      obtain ⟨y1, y2⟩ := hR.1 l hl
      have b1 : xrd X (ub σ 4 (mdC M)) [0] (sh 4 5) (nI k) = some (R.2 (1 + 2 * k)) := by rw [← hM.bits k hk]; exact mr_5 hk
      have b2 : xrd X (ub σ 4 (mdC M)) [0] (sh 4 5) (nI l) = some (R.2 (1 + 2 * l)) := by rw [← hM.bits l hl]; exact mr_5 hl
      have c1 : xrd X (ub σ 4 (mdC M)) [0] (sh 4 6) (nI k) = some (nI (szs R k)) := by rw [← z1, ← hM.size k hk]; exact mr_6 hk
      have c2 : xrd X (ub σ 4 (mdC M)) [0] (sh 4 6) (nI l) = some (nI (szs R l)) := by rw [← y1, ← hM.size l hl]; exact mr_6 hl
      simp only [s_M_notMoved_17, s_M_notMoved_21, s_M_notMoved_23, Option.bind_some, Option.bind_none, Option.toList_some, Option.toList_none, List.cons_append, List.nil_append, List.append_nil, mv_0, mg_0_0, mg_0_1, mg_0_2, mg_0_3, mg_0_4, mg_0_5, mg_0_6, mg_0_7, mg_0_8, mg_0_9, mg_0_10, mg_0_11, mg_0_12, mg_0_13, mg_0_14, mg_0_15, mg_0_16, mg_0_17, mg_0_18, mg_0_19, mg_0_20, b1]
      by_cases e1 : R.2 (1 + 2 * k) = 0
      · rw [if_pos e1, if_pos (Or.inl e1), s_M_notMoved_35]
      rw [if_neg e1]
      simp only [s_M_notMoved_26, s_M_notMoved_30, s_M_notMoved_32, Option.bind_some, Option.bind_none, Option.toList_some, Option.toList_none, List.cons_append, List.nil_append, List.append_nil, mv_0, mg_0_0, mg_0_1, mg_0_2, mg_0_3, mg_0_4, mg_0_5, mg_0_6, mg_0_7, mg_0_8, mg_0_9, mg_0_10, mg_0_11, mg_0_12, mg_0_13, mg_0_14, mg_0_15, mg_0_16, mg_0_17, mg_0_18, mg_0_19, mg_0_20, b2]
      by_cases e2 : R.2 (1 + 2 * l) = 0
      · rw [if_pos e2, if_pos (Or.inr e2), s_M_notMoved_35]
      rw [if_neg e2, if_neg (fun e => e.elim e1 e2)]
      simp only [s_M_notMoved_38, s_M_notMoved_42, s_M_notMoved_44, s_M_notMoved_48, s_M_notMoved_50, Option.bind_some, Option.bind_none, Option.toList_some, Option.toList_none, List.cons_append, List.nil_append, List.append_nil, mv_0, mg_0_0, mg_0_1, mg_0_2, mg_0_3, mg_0_4, mg_0_5, mg_0_6, mg_0_7, mg_0_8, mg_0_9, mg_0_10, mg_0_11, mg_0_12, mg_0_13, mg_0_14, mg_0_15, mg_0_16, mg_0_17, mg_0_18, mg_0_19, mg_0_20, b1, b2]
      by_cases e3 : R.2 (1 + 2 * k) = R.2 (1 + 2 * l)
      · rw [if_pos e3, if_neg (not_not_intro e3)]
        have no : ¬ (hol R k i n ∧ hol R l j n) → xrun (X, xcall X (d + 2)) j_M_notMoved 101 [.ref (sh 4 0), .int (nI k), .int i, .int (nI l), .int j, .int n, .null] [] (ub σ 4 (mdC M)) = some (some (.int (if ¬ (hol R k i n ∧ hol R l j n) then (-1000000001 : Int32) else 0)), ub σ 4 (mdC M)) := by
          intro h
          rw [if_pos h, s_M_notMoved_101, s_M_notMoved_102, if_pos rfl, s_M_notMoved_113, s_M_notMoved_115]
        rw [s_M_notMoved_56]
        by_cases f1 : n < 0
        · rw [if_pos f1]
          exact no (fun e => i32_nlt.mpr e.1.2.1 f1)
        rw [if_neg f1, s_M_notMoved_61]
        by_cases f2 : i < 0
        · rw [if_pos f2]
          exact no (fun e => i32_nlt.mpr e.1.1 f2)
        rw [if_neg f2, s_M_notMoved_65]
        by_cases f3 : j < 0
        · rw [if_pos f3]
          exact no (fun e => i32_nlt.mpr e.2.1 f3)
        rw [if_neg f3]
        have u1 := holM z1 z2 (i32_nlt.mp f2) (i32_nlt.mp f1)
        have u2 := holM y1 y2 (i32_nlt.mp f3) (i32_nlt.mp f1)
        simp only [s_M_notMoved_70, s_M_notMoved_76, s_M_notMoved_78, Option.bind_some, Option.bind_none, Option.toList_some, Option.toList_none, List.cons_append, List.nil_append, List.append_nil, mv_0, mg_0_0, mg_0_1, mg_0_2, mg_0_3, mg_0_4, mg_0_5, mg_0_6, mg_0_7, mg_0_8, mg_0_9, mg_0_10, mg_0_11, mg_0_12, mg_0_13, mg_0_14, mg_0_15, mg_0_16, mg_0_17, mg_0_18, mg_0_19, mg_0_20, c1]
        by_cases f4 : nI (szs R k) - i < n
        · rw [if_pos f4]
          exact no (fun e => u1.mp e.1 f4)
        rw [if_neg f4]
        simp only [s_M_notMoved_83, s_M_notMoved_89, s_M_notMoved_91, Option.bind_some, Option.bind_none, Option.toList_some, Option.toList_none, List.cons_append, List.nil_append, List.append_nil, mv_0, mg_0_0, mg_0_1, mg_0_2, mg_0_3, mg_0_4, mg_0_5, mg_0_6, mg_0_7, mg_0_8, mg_0_9, mg_0_10, mg_0_11, mg_0_12, mg_0_13, mg_0_14, mg_0_15, mg_0_16, mg_0_17, mg_0_18, mg_0_19, mg_0_20, c2]
        by_cases f5 : nI (szs R l) - j < n
        · rw [if_pos f5]
          exact no (fun e => u2.mp e.2 f5)
        have z10 : ¬ (1 : Int32) = 0 := by decide
        rw [if_neg f5, s_M_notMoved_97, s_M_notMoved_102, if_neg z10, s_M_notMoved_109, s_M_notMoved_115, if_neg (not_not_intro (⟨u1.mpr f4, u2.mpr f5⟩ : hol R k i n ∧ hol R l j n))]
      · rw [if_neg e3, if_pos e3, s_M_notMoved_53]
    · rw [if_pos h2, if_pos (fun e : isSh s ∧ isSh o => h2 e.2), s_M_notMoved_14]
  · rw [if_pos h1, if_pos (fun e : isSh s ∧ isSh o => h1 e.1), s_M_notMoved_14]
theorem m_move (hR : okR R) (hM : RM M R S K) (s i o j n : Int32) : MC X (d + 4) j_M_move [.int s, .int i, .int o, .int j, .int n] M (sp_move R S K s i o j n) := by
  intro σ
  rw [e_M_move]
  simp only [s_M_move_0, s_M_move_11, Option.bind_some, Option.bind_none, Option.toList_some, Option.toList_none, List.cons_append, List.nil_append, List.append_nil, mv_0, c_M_notMoved hR hM]
  unfold sp_move
  have z1 : ¬ (-1000000001 : Int32) = 0 := by decide
  have z2 : ¬ (-1000000002 : Int32) = 0 := by decide
  have z5 : ¬ (-1000000005 : Int32) = 0 := by decide
  have e1 : ∃ N : xS, RM N (er R 1) S K ∧ xrun (X, xcall X (d + 3)) j_M_move 18 [.ref (sh 4 0), .int s, .int i, .int o, .int j, .int n, .int (-1000000001 : Int32), .null, .null] [] (ub σ 4 (mdC M)) = some (some (.int (lw 1)), ub σ 4 (mdC N)) := by
    obtain ⟨N, hN, hx⟩ := c_M_error1 (X := X) (d := d + 2) (σ := σ) hM
    refine ⟨N, hN, ?_⟩
    simp only [s_M_move_18, s_M_move_24, Option.bind_some, Option.bind_none, Option.toList_some, Option.toList_none, List.cons_append, List.nil_append, List.append_nil, mv_0, hx]
  by_cases h1 : isSh s ∧ isSh o
  · simp only [if_neg (not_not_intro h1)]
    by_cases h2 : R.2 (1 + 2 * ix s) = 0 ∨ R.2 (1 + 2 * ix o) = 0
    · simp only [if_pos h2, if_neg z2]
      obtain ⟨N, hN, hx⟩ := c_M_error2 (X := X) (d := d + 2) (σ := σ) hM
      refine ⟨N, hN, ?_⟩
      simp only [s_M_move_18, s_M_move_24, Option.bind_some, Option.bind_none, Option.toList_some, Option.toList_none, List.cons_append, List.nil_append, List.append_nil, mv_0, hx]
      rfl
    · simp only [if_neg h2]
      by_cases h3 : R.2 (1 + 2 * ix s) = R.2 (1 + 2 * ix o)
      · simp only [if_neg (not_not_intro h3)]
        by_cases h4 : hol R (ix s) i n ∧ hol R (ix o) j n
        · simp only [if_neg (not_not_intro h4), if_true]
          obtain ⟨k, rfl, hk⟩ := sh_ix h1.1
          obtain ⟨l, rfl, hl⟩ := sh_ix h1.2
          have ek : ix (nI k) = k := ix_nI (by omega)
          have el : ix (nI l) = l := ix_nI (by omega)
          rw [ek, el] at h4
          obtain ⟨a, c, rfl, rfl, hac⟩ := hol_ix hR hk h4.1
          obtain ⟨b, c', rfl, hcc, hbc⟩ := hol_ix hR hl h4.2
          have ecc : c = c' := (nI_inj (by omega) (by omega)).mp hcc
          subst ecc
          have ea : ix (nI a) = a := ix_nI (by omega)
          have eb : ix (nI b) = b := ix_nI (by omega)
          have ec : ix (nI c) = c := ix_nI (by omega)
          rw [ek, el, ea, eb, ec]
          have hso : k = l ∨ (24 * k + a + c ≤ 24 * l + b ∨ 24 * l + b + c ≤ 24 * k + a) := by omega
          have hx : xrun (X, xcall X (d + 3)) j_M_move 28 [.ref (sh 4 0), .int (nI k), .int (nI a), .int (nI l), .int (nI b), .int (nI c), .int (0 : Int32), .int (nI 0), .null] [] (ub σ 4 (mdC M)) = some (some (.int (nI c)), ub σ 4 (mdC (u2 M.1 6 (mvC (M.1 6) (24 * k + a) (24 * l + b) 0 c), M.2))) := by
            by_cases hle : b ≤ a
            · exact l_M_moveU (by omega) (by omega) hle hso (M.1 6) 0 c 0 .null M (mvC_0 _ _ _ _).symm (by omega)
            · exact l_M_moveD (by omega) (by omega) (by omega) hso (M.1 6) 0 c 0 .null M (mvC_0 _ _ _ _).symm (by omega)
          refine ⟨_, RM_cells hM hl (g := mvC (M.1 6) (24 * k + a) (24 * l + b) 0 c) (fun q hq => ?_) (fun s' hs' hne q hq => ?_), ?_⟩
          · unfold mvC va_cpy
            by_cases g : b ≤ q ∧ q < b + c
            · rw [if_pos (by omega), if_pos g, show 24 * k + a + (24 * l + q - (24 * l + b)) = 24 * k + (a + (q - b)) by omega]
              exact hM.cell k hk _ (by omega)
            · rw [if_neg (by omega), if_neg g]
              exact hM.cell l hl q hq
          · unfold mvC
            rw [if_neg (by omega)]
          · rw [s_M_move_25]
            exact hx
        · simp only [if_pos h4, if_neg z1]
          exact e1
      · simp only [if_pos h3, if_neg z5]
        obtain ⟨N, hN, hx⟩ := c_M_error5 (X := X) (d := d + 2) (σ := σ) hM
        refine ⟨N, hN, ?_⟩
        simp only [s_M_move_18, s_M_move_24, Option.bind_some, Option.bind_none, Option.toList_some, Option.toList_none, List.cons_append, List.nil_append, List.append_nil, mv_0, hx]
        rfl
  · simp only [if_pos h1, if_neg z1]
    exact e1
/-! feed -/
theorem byt_bits (B : BitVec 64) {m : Nat} (hm : m ≤ 56) : BitVec.signExtend 32 (B.sshiftRight m &&& 255#64) = BitVec.signExtend 32 (B >>> m) &&& 255#32 := by
  rw [BitVec.signExtend_eq_setWidth_of_le _ (by omega), BitVec.signExtend_eq_setWidth_of_le _ (by omega)]
  apply BitVec.eq_of_getLsbD_eq
  intro i hi
  have t : Nat.testBit 255 i = decide (i < 8) := Nat.testBit_two_pow_sub_one 8 i
  rw [BitVec.getLsbD_and, BitVec.getLsbD_setWidth, BitVec.getLsbD_setWidth, BitVec.getLsbD_and, BitVec.getLsbD_sshiftRight, BitVec.getLsbD_ushiftRight, BitVec.getLsbD_ofNat, BitVec.getLsbD_ofNat, t]
  by_cases h : i < 8
  · have h1 : m + i < 64 := by omega
    have h2 : ¬ 64 ≤ i := by omega
    have h3 : i < 64 := by omega
    simp [h, h1, h2, h3, hi]
  · simp [h]
theorem byt_sh1 {k : Nat} (hk : k < 8) : (((8 : Int32) * nI k).toInt64 &&& 63).toBitVec.smod 64 = BitVec.ofNat 64 (8 * k) := by
  revert k
  decide
theorem byt_sh2 {k : Nat} (hk : k < 8) : (((8 : Int32) * nI k).toInt64.toUInt64 &&& Int64.toUInt64 63).toNat = 8 * k := by
  revert k
  decide
theorem byt_eq (w : Int64) {k : Nat} (hk : k < 8) : ((w >>> (((8 : Int32) * nI k).toInt64 &&& 63)) &&& Int64.ofNat 255).toInt32 = byt w k &&& 255 := by
  unfold byt
  rw [bp_b]
  apply Int32.toBitVec_inj.mp
  have e2 : ((w.toUInt64 >>> (((8 : Int32) * nI k).toInt64.toUInt64 &&& Int64.toUInt64 63)).toInt64).toBitVec = w.toBitVec >>> (8 * k) := by
    apply BitVec.eq_of_toNat_eq
    show (w.toUInt64 >>> _).toNat = _
    rw [UInt64.toNat_shiftRight, byt_sh2 hk, Nat.mod_eq_of_lt (by omega), BitVec.toNat_ushiftRight]
    rfl
  have e1 : (w >>> (((8 : Int32) * nI k).toInt64 &&& 63)).toBitVec = w.toBitVec.sshiftRight (8 * k) := by
    rw [Int64.toBitVec_shiftRight, byt_sh1 hk, BitVec.sshiftRight_eq', BitVec.toNat_ofNat, Nat.mod_eq_of_lt (by omega)]
  rw [Int32.toBitVec_and, Int64.toBitVec_toInt32, Int64.toBitVec_toInt32, Int64.toBitVec_and, e1, e2]
  exact byt_bits w.toBitVec (by omega)
theorem RS_feed {r : Nat → Int32} {w : Int64} {a j : Nat} {x : Int32} (h : RS r (u2 S.1 7 (fedA (S.1 7) w a j), u1 S.2 1 (nI (a + j)))) (hS : lnS S) (haj : a + j < 60) (hx : x = byt w j &&& 255) :
    RS (upd (upd r (102 + (a + j)) x) 4 (nI (a + j) + 1)) (u2 S.1 7 (fedA (S.1 7) w a (j + 1)), u1 S.2 1 (nI (a + (j + 1)))) := by
  obtain ⟨l0, l1⟩ := hS
  have h' : RS (upd r (102 + (a + j)) x) (u2 S.1 7 (fedA (S.1 7) w a (j + 1)), u1 S.2 1 (nI (a + j))) := by
    refine ⟨fun q hq => (upq (by omega)).trans (h.p0 q hq), fun q hq => (upq (by omega)).trans (h.p1 q hq), fun q hq => (upq (by omega)).trans (h.p2 q hq), fun q hq => (upq (by omega)).trans (h.p3 q hq), fun q hq => (upq (by omega)).trans (h.tk q hq), fun q hq => ?_, fun q hq => (upq (by omega)).trans (h.wt q hq), (upq (by omega)).trans h.dy, (upq (by omega)).trans h.zz, (upq (by omega)).trans h.ct, (upq (by omega)).trans h.se, (upq (by omega)).trans h.fd, (upq (by omega)).trans h.ws, (upq (by omega)).trans h.n0, fun q (hq : q < ln0 S) => ⟨(upq (by omega)).trans (h.c0 q hq).1, (upq (by omega)).trans (h.c0 q hq).2⟩, (upq (by omega)).trans h.n1, fun q (hq : q < ln1 S) => ⟨(upq (by omega)).trans (h.c1 q hq).1, (upq (by omega)).trans (h.c1 q hq).2⟩⟩
    show upd r (102 + (a + j)) x (102 + q) = fedA (S.1 7) w a (j + 1) q &&& 255
    rw [← fedA_step]
    by_cases e : q = a + j
    · rw [e, upk, upk, hx]
    · rw [upq (by omega), upq e]
      exact h.tp q hq
  have h2 := RS_fd h' (show lnS (u2 S.1 7 (fedA (S.1 7) w a (j + 1)), u1 S.2 1 (nI (a + j))) from ⟨l0, l1⟩) (nI (a + j) + 1)
  have e : ((u2 S.1 7 (fedA (S.1 7) w a (j + 1)), u1 (u1 S.2 1 (nI (a + j))) 1 (nI (a + j) + 1)) : xS) = (u2 S.1 7 (fedA (S.1 7) w a (j + 1)), u1 S.2 1 (nI (a + (j + 1)))) := by
    rw [u1_u1, nI_add1, Nat.add_assoc]
  rw [← e]
  exact h2
theorem l_M_feed (hS : lnS S) (w : Int64) {a n : Nat} (han : a + n ≤ 60) (hn : n ≤ 8) : ∀ (k j : Nat) (M : xS), RS (M.1 0) (u2 S.1 7 (fedA (S.1 7) w a j), u1 S.2 1 (nI (a + j))) → j + k = n → ∃ N : xS, SD M N ∧ RS (N.1 0) (u2 S.1 7 (fedA (S.1 7) w a n), u1 S.2 1 (nI (a + n))) ∧
    xrun (X, xcall X d) j_M_feed 40 [.ref (sh 4 0), .long w, .null, .int (nI n), .int (nI j)] [] (ub σ 4 (mdC M)) = some (some (.int (nI (a + n))), ub σ 4 (mdC N)) := by
  intro k
  induction k with
  | zero =>
    intro j M h hj
    have hj' : j = n := by omega
    subst hj'
    have h1 : nI j ≤ nI j := Int32.le_refl _
    have hfd : M.1 0 4 = nI (a + j) := h.fd
    refine ⟨M, SD.rfl' M, h, ?_⟩
    rw [s_M_feed_40, if_pos h1]
    simp only [s_M_feed_88, s_M_feed_92, s_M_feed_94, Option.bind_some, Option.bind_none, Option.toList_some, Option.toList_none, List.cons_append, List.nil_append, List.append_nil, mv_0, mg_0_0, mg_0_1, mg_0_2, mg_0_3, mg_0_4, mg_0_5, mg_0_6, mg_0_7, mg_0_8, mg_0_9, mg_0_10, mg_0_11, mg_0_12, mg_0_13, mg_0_14, mg_0_15, mg_0_16, mg_0_17, mg_0_18, mg_0_19, mg_0_20, mrc_4, hfd]
  | succ k ih =>
    intro j M h hj
    have h1 : ¬ nI n ≤ nI j := fun e => absurd ((nI_le_iff (by omega) (by omega)).mp e) (by omega)
    have hfd : M.1 0 4 = nI (a + j) := h.fd
    have hb := byt_eq w (k := j) (by omega)
    have a1 := RS_feed h hS (by omega) hb
    have e102 : (102 : Int32) + nI (a + j) = nI (102 + (a + j)) := nI_add 102 (a + j)
    have q1 : 102 + (a + j) < 428 := by omega
    obtain ⟨N, hN, hr, hx⟩ := ih (j + 1) (u2 M.1 0 (upd (upd (M.1 0) (102 + (a + j)) (((w >>> (((8 : Int32) * nI j).toInt64 &&& 63)) &&& Int64.ofNat 255).toInt32)) 4 (nI (a + j) + 1)), M.2) a1 (by omega)
    have hfd2 : upd (M.1 0) (102 + (a + j)) (((w >>> (((8 : Int32) * nI j).toInt64 &&& 63)) &&& Int64.ofNat 255).toInt32) 4 = nI (a + j) := (upq (by omega)).trans hfd
    refine ⟨N, SD.trans (SD.row M _) hN, hr, ?_⟩
    rw [← hx, s_M_feed_40, if_neg h1]
    simp only [s_M_feed_46, s_M_feed_50, s_M_feed_56, s_M_feed_58, Option.bind_some, Option.bind_none, Option.toList_some, Option.toList_none, List.cons_append, List.nil_append, List.append_nil, mv_0, mg_0_0, mg_0_1, mg_0_2, mg_0_3, mg_0_4, mg_0_5, mg_0_6, mg_0_7, mg_0_8, mg_0_9, mg_0_10, mg_0_11, mg_0_12, mg_0_13, mg_0_14, mg_0_15, mg_0_16, mg_0_17, mg_0_18, mg_0_19, mg_0_20, mrc_4, hfd, e102, mw1 q1, s_M_feed_72, s_M_feed_76, s_M_feed_79, mwc_4, u2_at, u2_u2, hfd2, s_M_feed_82, nI_add1]
theorem m_feed (hI : okI S) (hM : RM M R S K) (w : Int64) (n : Int32) : MC X (d + 2) j_M_feed [.long w, .int n] M (sp_feed R S K w n) := by
  intro σ
  have h := hM.row
  obtain ⟨g1, g2⟩ := hI.2.2.2.1
  have hfd : M.1 0 4 = nI (ix (S.2 1)) := h.fd.trans g1
  rw [e_M_feed]
  unfold sp_feed
  simp only [s_M_feed_0, s_M_feed_7, Option.bind_some, Option.bind_none, Option.toList_some, Option.toList_none, List.cons_append, List.nil_append, List.append_nil, c_M_in, z1_0]
  by_cases h1 : 1 ≤ n ∧ n ≤ 8
  · rw [if_neg (not_not_intro h1), if_neg (not_not_intro h1)]
    obtain ⟨j, rfl, hj⟩ := i32_ix (v := n) (n := 8) (by decide) ⟨Int32.le_trans (by decide) h1.1, h1.2⟩
    have ej : ix (nI j) = j := ix_nI (by omega)
    simp only [s_M_feed_17, s_M_feed_21, s_M_feed_23, Option.bind_some, Option.bind_none, Option.toList_some, Option.toList_none, List.cons_append, List.nil_append, List.append_nil, mv_0, mg_0_0, mg_0_1, mg_0_2, mg_0_3, mg_0_4, mg_0_5, mg_0_6, mg_0_7, mg_0_8, mg_0_9, mg_0_10, mg_0_11, mg_0_12, mg_0_13, mg_0_14, mg_0_15, mg_0_16, mg_0_17, mg_0_18, mg_0_19, mg_0_20, mrc_4, hfd, nI_add]
    have e60 : (60 : Int32) - S.2 1 = nI (60 - ix (S.2 1)) := (congrArg (fun z => (60 : Int32) - z) g1).trans (nI_sub (a := 60) g2)
    by_cases h2 : ix (S.2 1) + j ≤ 60
    · have h3 : nI (ix (S.2 1) + j) ≤ 60 := (nI_le_iff (b := 60) (by omega) (by omega)).mpr h2
      have h4 : nI j ≤ 60 - S.2 1 := by rw [e60]; exact (nI_le_iff (by omega) (by omega)).mpr (by omega)
      rw [if_pos h3, if_neg (not_not_intro h4), ej]
      have h0 : RS (M.1 0) (u2 S.1 7 (fedA (S.1 7) w (ix (S.2 1)) 0), u1 S.2 1 (nI (ix (S.2 1) + 0))) := by
        rw [fedA_0, u2_self, Nat.add_zero, u1_same g1]
        exact h
      obtain ⟨N, hN, hr, hx⟩ := l_M_feed (X := X) (d := d + 1) (σ := σ) hI.1.ln w (a := ix (S.2 1)) (n := j) h2 hj j 0 M h0 (by omega)
      have e5 : S.2 1 + nI j = nI (ix (S.2 1) + j) := by rw [← nI_add, ← g1]
      rw [e5]
      refine ⟨N, hN.rm hM hr, ?_⟩
      rw [s_M_feed_37]
      exact hx
    · have h3 : ¬ nI (ix (S.2 1) + j) ≤ 60 := fun e => h2 ((nI_le_iff (b := 60) (by omega) (by omega)).mp e)
      have h4 : ¬ nI j ≤ 60 - S.2 1 := by rw [e60]; exact fun e => absurd ((nI_le_iff (by omega) (by omega)).mp e) (by omega)
      rw [if_neg h3, if_pos h4]
      obtain ⟨N, hN, hx⟩ := c_M_error4 (X := X) (d := d) (σ := σ) hM
      refine ⟨N, hN, ?_⟩
      simp only [s_M_feed_30, s_M_feed_36, Option.bind_some, Option.bind_none, Option.toList_some, Option.toList_none, List.cons_append, List.nil_append, List.append_nil, mv_0, hx]
      rfl
  · rw [if_pos h1, if_pos h1]
    obtain ⟨N, hN, hx⟩ := c_M_error1 (X := X) (d := d) (σ := σ) hM
    refine ⟨N, hN, ?_⟩
    simp only [s_M_feed_10, s_M_feed_16, Option.bind_some, Option.bind_none, Option.toList_some, Option.toList_none, List.cons_append, List.nil_append, List.append_nil, mv_0, hx]
    rfl
end MWords
