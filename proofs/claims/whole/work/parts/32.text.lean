/-! ===== contracts: a text's value ===== -/
theorem nI_add1 (n : Nat) : nI n + (1 : Int32) = nI (n + 1) := (nI_succ n).symm
theorem nI_sub1 {n : Nat} (h : 1 ≤ n) : nI n - (1 : Int32) = nI (n - 1) := by
  obtain ⟨m, rfl⟩ : ∃ m, n = m + 1 := ⟨n - 1, by omega⟩
  rw [nI_succ]
  show nI m + 1 - 1 = nI (m + 1 - 1)
  rw [Nat.add_sub_cancel, Int32.add_sub_cancel]
theorem nI_addm1 {n : Nat} (h : 1 ≤ n) : nI n + (-1 : Int32) = nI (n - 1) := by
  rw [← nI_sub1 h, Int32.sub_eq_add_neg]
theorem nI_lit (n : Nat) : Int32.ofNat n = nI n := rfl
theorem nI_inj {a b : Nat} (ha : a < 2 ^ 31) (hb : b < 2 ^ 31) : nI a = nI b ↔ a = b := by
  refine ⟨fun h => ?_, fun h => by rw [h]⟩
  have h1 := nI_toInt ha
  have h2 := nI_toInt hb
  rw [h, h2] at h1
  exact (Int.ofNat.inj h1).symm
theorem nI_le_iff {a b : Nat} (ha : a < 2 ^ 31) (hb : b < 2 ^ 31) : nI a ≤ nI b ↔ a ≤ b := by
  rw [Int32.le_iff_toInt_le, nI_toInt ha, nI_toInt hb]
  omega
theorem nI_lt_iff {a b : Nat} (ha : a < 2 ^ 31) (hb : b < 2 ^ 31) : nI a < nI b ↔ a < b := by
  rw [Int32.lt_iff_toInt_lt, nI_toInt ha, nI_toInt hb]
  omega
/-- a sign at work -/
def wk (s a b : Int32) : Int32 :=
  if s = Int32.ofNat 38 then z1 (a ≠ 0 ∧ b ≠ 0)
  else if s = Int32.ofNat 42 then a * b
  else if s = Int32.ofNat 43 then a + b
  else if s = Int32.ofNat 45 then a - b
  else if s = Int32.ofNat 47 then (if b = 0 then 0 else a / b)
  else if s = Int32.ofNat 60 then z1 (a < b)
  else if s = Int32.ofNat 61 then z1 (a = b)
  else if s = Int32.ofNat 62 then z1 (b < a)
  else if s = Int32.ofNat 124 then z1 (a ≠ 0 ∨ b ≠ 0)
  else (if b = 0 then 0 else a - a / b * b)
theorem c_Tx_worked {X : xX} {d : Nat} {σ : xW} (s a b : Int32) : xcall X (d + 1) j_Tx_worked [.int s, .int a, .int b] σ = some (some (.int (wk s a b)), σ) := by
  rw [e_Tx_worked, s_Tx_worked_0]
  unfold wk
  by_cases h38 : s = Int32.ofNat 38
  · simp only [xsw, if_pos h38, s_Tx_worked_84, s_Tx_worked_92, s_Tx_worked_96, s_Tx_worked_97, s_Tx_worked_98, s_Tx_worked_110, s_Tx_worked_111, s_Tx_worked_112, s_Tx_worked_121, s_Tx_worked_122, s_Tx_worked_123, s_Tx_worked_132, s_Tx_worked_133, s_Tx_worked_134, s_Tx_worked_143, s_Tx_worked_144, s_Tx_worked_145, s_Tx_worked_149, s_Tx_worked_153, s_Tx_worked_157, s_Tx_worked_165, s_Tx_worked_168, s_Tx_worked_169, s_Tx_worked_177, s_Tx_worked_180, s_Tx_worked_88, s_Tx_worked_102, s_Tx_worked_117, s_Tx_worked_128, s_Tx_worked_139, s_Tx_worked_161, s_Tx_worked_173, s_Tx_worked_106]
    by_cases ha : a = 0
    · rw [if_pos ha, z1_f (fun h => h.1 ha)]
    · rw [if_neg ha]
      by_cases hb : b = 0
      · rw [if_pos hb, z1_f (fun h => h.2 hb)]
      · rw [if_neg hb, z1_t ⟨ha, hb⟩]
  rw [if_neg h38]
  by_cases h42 : s = Int32.ofNat 42
  · simp only [xsw, if_neg h38, if_pos h42, s_Tx_worked_84, s_Tx_worked_92, s_Tx_worked_96, s_Tx_worked_97, s_Tx_worked_98, s_Tx_worked_110, s_Tx_worked_111, s_Tx_worked_112, s_Tx_worked_121, s_Tx_worked_122, s_Tx_worked_123, s_Tx_worked_132, s_Tx_worked_133, s_Tx_worked_134, s_Tx_worked_143, s_Tx_worked_144, s_Tx_worked_145, s_Tx_worked_149, s_Tx_worked_153, s_Tx_worked_157, s_Tx_worked_165, s_Tx_worked_168, s_Tx_worked_169, s_Tx_worked_177, s_Tx_worked_180, s_Tx_worked_88, s_Tx_worked_102, s_Tx_worked_117, s_Tx_worked_128, s_Tx_worked_139, s_Tx_worked_161, s_Tx_worked_173, s_Tx_worked_106]
  rw [if_neg h42]
  by_cases h43 : s = Int32.ofNat 43
  · simp only [xsw, if_neg h38, if_neg h42, if_pos h43, s_Tx_worked_84, s_Tx_worked_92, s_Tx_worked_96, s_Tx_worked_97, s_Tx_worked_98, s_Tx_worked_110, s_Tx_worked_111, s_Tx_worked_112, s_Tx_worked_121, s_Tx_worked_122, s_Tx_worked_123, s_Tx_worked_132, s_Tx_worked_133, s_Tx_worked_134, s_Tx_worked_143, s_Tx_worked_144, s_Tx_worked_145, s_Tx_worked_149, s_Tx_worked_153, s_Tx_worked_157, s_Tx_worked_165, s_Tx_worked_168, s_Tx_worked_169, s_Tx_worked_177, s_Tx_worked_180, s_Tx_worked_88, s_Tx_worked_102, s_Tx_worked_117, s_Tx_worked_128, s_Tx_worked_139, s_Tx_worked_161, s_Tx_worked_173, s_Tx_worked_106]
  rw [if_neg h43]
  by_cases h45 : s = Int32.ofNat 45
  · simp only [xsw, if_neg h38, if_neg h42, if_neg h43, if_pos h45, s_Tx_worked_84, s_Tx_worked_92, s_Tx_worked_96, s_Tx_worked_97, s_Tx_worked_98, s_Tx_worked_110, s_Tx_worked_111, s_Tx_worked_112, s_Tx_worked_121, s_Tx_worked_122, s_Tx_worked_123, s_Tx_worked_132, s_Tx_worked_133, s_Tx_worked_134, s_Tx_worked_143, s_Tx_worked_144, s_Tx_worked_145, s_Tx_worked_149, s_Tx_worked_153, s_Tx_worked_157, s_Tx_worked_165, s_Tx_worked_168, s_Tx_worked_169, s_Tx_worked_177, s_Tx_worked_180, s_Tx_worked_88, s_Tx_worked_102, s_Tx_worked_117, s_Tx_worked_128, s_Tx_worked_139, s_Tx_worked_161, s_Tx_worked_173, s_Tx_worked_106]
  rw [if_neg h45]
  by_cases h47 : s = Int32.ofNat 47
  · simp only [xsw, if_neg h38, if_neg h42, if_neg h43, if_neg h45, if_pos h47, s_Tx_worked_84, s_Tx_worked_92, s_Tx_worked_96, s_Tx_worked_97, s_Tx_worked_98, s_Tx_worked_110, s_Tx_worked_111, s_Tx_worked_112, s_Tx_worked_121, s_Tx_worked_122, s_Tx_worked_123, s_Tx_worked_132, s_Tx_worked_133, s_Tx_worked_134, s_Tx_worked_143, s_Tx_worked_144, s_Tx_worked_145, s_Tx_worked_149, s_Tx_worked_153, s_Tx_worked_157, s_Tx_worked_165, s_Tx_worked_168, s_Tx_worked_169, s_Tx_worked_177, s_Tx_worked_180, s_Tx_worked_88, s_Tx_worked_102, s_Tx_worked_117, s_Tx_worked_128, s_Tx_worked_139, s_Tx_worked_161, s_Tx_worked_173, s_Tx_worked_106]
    by_cases hb : b = 0
    · rw [if_pos hb, if_pos hb]
    · rw [if_neg hb, if_neg hb, if_neg hb]
  rw [if_neg h47]
  by_cases h60 : s = Int32.ofNat 60
  · simp only [xsw, if_neg h38, if_neg h42, if_neg h43, if_neg h45, if_neg h47, if_pos h60, s_Tx_worked_84, s_Tx_worked_92, s_Tx_worked_96, s_Tx_worked_97, s_Tx_worked_98, s_Tx_worked_110, s_Tx_worked_111, s_Tx_worked_112, s_Tx_worked_121, s_Tx_worked_122, s_Tx_worked_123, s_Tx_worked_132, s_Tx_worked_133, s_Tx_worked_134, s_Tx_worked_143, s_Tx_worked_144, s_Tx_worked_145, s_Tx_worked_149, s_Tx_worked_153, s_Tx_worked_157, s_Tx_worked_165, s_Tx_worked_168, s_Tx_worked_169, s_Tx_worked_177, s_Tx_worked_180, s_Tx_worked_88, s_Tx_worked_102, s_Tx_worked_117, s_Tx_worked_128, s_Tx_worked_139, s_Tx_worked_161, s_Tx_worked_173, s_Tx_worked_106]
    by_cases hb : a < b
    · rw [if_neg (i32_nle.mpr hb), z1_t hb]
    · rw [if_pos (i32_nlt.mp hb), z1_f hb]
  rw [if_neg h60]
  by_cases h61 : s = Int32.ofNat 61
  · simp only [xsw, if_neg h38, if_neg h42, if_neg h43, if_neg h45, if_neg h47, if_neg h60, if_pos h61, s_Tx_worked_84, s_Tx_worked_92, s_Tx_worked_96, s_Tx_worked_97, s_Tx_worked_98, s_Tx_worked_110, s_Tx_worked_111, s_Tx_worked_112, s_Tx_worked_121, s_Tx_worked_122, s_Tx_worked_123, s_Tx_worked_132, s_Tx_worked_133, s_Tx_worked_134, s_Tx_worked_143, s_Tx_worked_144, s_Tx_worked_145, s_Tx_worked_149, s_Tx_worked_153, s_Tx_worked_157, s_Tx_worked_165, s_Tx_worked_168, s_Tx_worked_169, s_Tx_worked_177, s_Tx_worked_180, s_Tx_worked_88, s_Tx_worked_102, s_Tx_worked_117, s_Tx_worked_128, s_Tx_worked_139, s_Tx_worked_161, s_Tx_worked_173, s_Tx_worked_106]
    by_cases hb : a = b
    · rw [if_pos hb, z1_t hb]
    · rw [if_neg hb, z1_f hb]
  rw [if_neg h61]
  by_cases h62 : s = Int32.ofNat 62
  · simp only [xsw, if_neg h38, if_neg h42, if_neg h43, if_neg h45, if_neg h47, if_neg h60, if_neg h61, if_pos h62, s_Tx_worked_84, s_Tx_worked_92, s_Tx_worked_96, s_Tx_worked_97, s_Tx_worked_98, s_Tx_worked_110, s_Tx_worked_111, s_Tx_worked_112, s_Tx_worked_121, s_Tx_worked_122, s_Tx_worked_123, s_Tx_worked_132, s_Tx_worked_133, s_Tx_worked_134, s_Tx_worked_143, s_Tx_worked_144, s_Tx_worked_145, s_Tx_worked_149, s_Tx_worked_153, s_Tx_worked_157, s_Tx_worked_165, s_Tx_worked_168, s_Tx_worked_169, s_Tx_worked_177, s_Tx_worked_180, s_Tx_worked_88, s_Tx_worked_102, s_Tx_worked_117, s_Tx_worked_128, s_Tx_worked_139, s_Tx_worked_161, s_Tx_worked_173, s_Tx_worked_106]
    by_cases hb : b < a
    · rw [if_neg (i32_nle.mpr hb), z1_t hb]
    · rw [if_pos (i32_nlt.mp hb), z1_f hb]
  rw [if_neg h62]
  by_cases h124 : s = Int32.ofNat 124
  · simp only [xsw, if_neg h38, if_neg h42, if_neg h43, if_neg h45, if_neg h47, if_neg h60, if_neg h61, if_neg h62, if_pos h124, s_Tx_worked_84, s_Tx_worked_92, s_Tx_worked_96, s_Tx_worked_97, s_Tx_worked_98, s_Tx_worked_110, s_Tx_worked_111, s_Tx_worked_112, s_Tx_worked_121, s_Tx_worked_122, s_Tx_worked_123, s_Tx_worked_132, s_Tx_worked_133, s_Tx_worked_134, s_Tx_worked_143, s_Tx_worked_144, s_Tx_worked_145, s_Tx_worked_149, s_Tx_worked_153, s_Tx_worked_157, s_Tx_worked_165, s_Tx_worked_168, s_Tx_worked_169, s_Tx_worked_177, s_Tx_worked_180, s_Tx_worked_88, s_Tx_worked_102, s_Tx_worked_117, s_Tx_worked_128, s_Tx_worked_139, s_Tx_worked_161, s_Tx_worked_173, s_Tx_worked_106]
    by_cases ha : a = 0
    · rw [if_pos ha]
      by_cases hb : b = 0
      · rw [if_pos hb, z1_f (fun h => h.elim (fun h => h ha) (fun h => h hb))]
      · rw [if_neg hb, z1_t (Or.inr hb)]
    · rw [if_neg ha, z1_t (Or.inl ha)]
  rw [if_neg h124]
  simp only [xsw, if_neg h38, if_neg h42, if_neg h43, if_neg h45, if_neg h47, if_neg h60, if_neg h61, if_neg h62, if_neg h124, s_Tx_worked_84, s_Tx_worked_92, s_Tx_worked_96, s_Tx_worked_97, s_Tx_worked_98, s_Tx_worked_110, s_Tx_worked_111, s_Tx_worked_112, s_Tx_worked_121, s_Tx_worked_122, s_Tx_worked_123, s_Tx_worked_132, s_Tx_worked_133, s_Tx_worked_134, s_Tx_worked_143, s_Tx_worked_144, s_Tx_worked_145, s_Tx_worked_149, s_Tx_worked_153, s_Tx_worked_157, s_Tx_worked_165, s_Tx_worked_168, s_Tx_worked_169, s_Tx_worked_177, s_Tx_worked_180, s_Tx_worked_88, s_Tx_worked_102, s_Tx_worked_117, s_Tx_worked_128, s_Tx_worked_139, s_Tx_worked_161, s_Tx_worked_173, s_Tx_worked_106]
  by_cases hb : b = 0
  · rw [if_pos hb, if_pos hb]
  · rw [if_neg hb, if_neg hb, if_neg hb]
def pshv (a b c s : Int32) : Int32 := if s < 0 then (if s = -1 then a else if s = -2 then b else c) else s
/-- one step of a text's code on a stack K of t numbers -/
def tstep (a b c s : Int32) (K : Nat → Int32) (t : Nat) : (Nat → Int32) × Nat :=
  if ¬ s < -3 ∧ t < 60 then (upd K t (pshv a b c s), t + 1)
  else if s = -33 ∧ 1 ≤ t then (upd K (t - 1) (if K (t - 1) = 0 then 1 else 0), t)
  else if 2 ≤ t then (upd K (t - 2) (wk (-s) (K (t - 2)) (K (t - 1))), t - 1)
  else (K, t)
def trun (f : Nat → Int32) (a b c : Int32) : Nat → Nat → (Nat → Int32) → Nat → (Nat → Int32) × Nat
  | 0, _, K, t => (K, t)
  | n + 1, i, K, t => trun f a b c n (i + 1) (tstep a b c (f i) K t).1 (tstep a b c (f i) K t).2
theorem tstep_le {a b c s : Int32} {K : Nat → Int32} {t : Nat} (h : t ≤ 60) : (tstep a b c s K t).2 ≤ 60 := by
  unfold tstep
  split
  · rename_i h1; exact h1.2
  · split
    · exact h
    · split
      · show t - 1 ≤ 60; omega
      · exact h
theorem u2_at (A : Nat → Nat → Int32) (k : Nat) (f : Nat → Int32) : u2 A k f k = f := if_pos rfl
theorem u2_u2 (A : Nat → Nat → Int32) (k : Nat) (f g : Nat → Int32) : u2 (u2 A k f) k g = u2 A k g := by
  funext j
  unfold u2
  by_cases h : j = k
  · rw [if_pos h, if_pos h]
  · rw [if_neg h, if_neg h, if_neg h]
theorem u2_self (A : Nat → Nat → Int32) (k : Nat) : u2 A k (A k) = A := by
  funext j
  unfold u2
  by_cases h : j = k
  · rw [if_pos h, h]
  · rw [if_neg h]
section TxVal
variable {X : xX} {d : Nat} {σ : xW} {b : Nat} {S Z : xS}
theorem c_Tx_isThere0 : xcall X (d + 1) j_Tx_isThere [.ref (sh b 15)] (ub σ b (shC b S Z)) = some (some (.int (z1 (0 < S.2 (6 + 0)))), ub σ b (shC b S Z)) := by
  rw [e_Tx_isThere]
  simp only [s_Tx_isThere_0, s_Tx_isThere_11, s_Tx_isThere_12, s_Tx_isThere_4, s_Tx_isThere_7, Option.bind_some, Option.bind_none, Option.toList_some, Option.toList_none, List.cons_append, List.nil_append, List.append_nil, bg_15_3, xz1, xz0, if_true]
  by_cases h : 0 < S.2 (6 + 0)
  · rw [if_neg (i32_nle.mpr h), z1_t h]
  · rw [if_pos (i32_nlt.mp h), z1_f h]
theorem c_Tx_forget0 : xcall X (d + 1) j_Tx_forget [.ref (sh b 15)] (ub σ b (shC b S Z)) = some (none, ub σ b (shC b (S.1, u1 S.2 (6 + 0) 0) Z)) := by
  rw [e_Tx_forget]
  simp only [s_Tx_forget_0, s_Tx_forget_5, Option.bind_some, Option.bind_none, Option.toList_some, Option.toList_none, List.cons_append, List.nil_append, List.append_nil, bp_15_3]
theorem l_Tx_value0 (N : Nat) (hN : N ≤ 60) (hS : S.2 (6 + 0) = nI N) (a c e : Int32) : ∀ (n i : Nat) (K : Nat → Int32) (t : Nat) (l6 : Value), i + n = N → t ≤ 60 →
    xrun (X, xcall X (d + 1)) j_Tx_value 6 [.ref (sh b 15), .int a, .int c, .int e, .int (nI t), .int (nI i), l6] [] (ub σ b (shC b S (u2 Z.1 0 K, Z.2))) = some (some (.int ((trun (S.1 (5 + 0)) a c e n i K t).1 0)), ub σ b (shC b S (u2 Z.1 0 (trun (S.1 (5 + 0)) a c e n i K t).1, Z.2))) := by
  intro n
  induction n with
  | zero =>
    intro i K t l6 hi ht
    rw [s_Tx_value_6]
    have h1 : nI N ≤ nI i := (nI_le_iff (by omega) (by omega)).mpr (by omega)
    have h2 : ¬ (0 : Nat) = 1 := by decide
    have hr := br_17 (σ := σ) (b := b) (S := S) (Z := (u2 Z.1 0 K, Z.2)) (X := X) (k := 0) (by decide)
    have hr : xrd X (ub σ b (shC b S (u2 Z.1 0 K, Z.2))) [0] (sh b 17) (0 : Int32) = some (K 0) := hr.trans rfl
    simp only [Option.bind_some, Option.bind_none, Option.toList_some, Option.toList_none, List.cons_append, List.nil_append, List.append_nil, bg_15_3, bg_15_1, s_Tx_value_12, s_Tx_value_174, s_Tx_value_178, s_Tx_value_180, hS, if_pos h1, hr]
    rfl
  | succ n ih =>
    intro i K t l6 hi ht
    rw [s_Tx_value_6]
    have h1 : ¬ nI N ≤ nI i := fun h => absurd ((nI_le_iff (by omega) (by omega)).mp h) (by omega)
    have hi60 : i < 60 := by omega
    have hrc := br_16 (σ := σ) (b := b) (S := S) (Z := (u2 Z.1 0 K, Z.2)) (X := X) hi60
    simp only [Option.bind_some, Option.bind_none, Option.toList_some, Option.toList_none, List.cons_append, List.nil_append, List.append_nil, bg_15_3, bg_15_0, s_Tx_value_12, s_Tx_value_15, s_Tx_value_19, s_Tx_value_22, hS, if_neg h1, hrc]
    show _ = some (some (Value.int ((trun (S.1 (5 + 0)) a c e n (i + 1) (tstep a c e (S.1 (5 + 0) i) K t).1 (tstep a c e (S.1 (5 + 0) i) K t).2).1 0)), ub σ b (shC b S (u2 Z.1 0 (trun (S.1 (5 + 0)) a c e n (i + 1) (tstep a c e (S.1 (5 + 0) i) K t).1 (tstep a c e (S.1 (5 + 0) i) K t).2).1, Z.2)))
    have hle := tstep_le (a := a) (b := c) (c := e) (s := S.1 (5 + 0) i) (K := K) ht
    have IH := ih (i + 1) (tstep a c e (S.1 (5 + 0) i) K t).1 (tstep a c e (S.1 (5 + 0) i) K t).2 (.int (S.1 (5 + 0) i)) (by omega) hle
    rw [← IH]
    clear IH ih hle
    have hS5 : S.1 (5 + 0) = S.1 (5 + 0) := rfl
    generalize hs : S.1 (5 + 0) i = s
    have hs' : S.1 (5 + 0) i = s := hs
    unfold tstep
    have hw : ∀ {k : Nat} {x : Int32}, k < 60 → xwr (ub σ b (shC b S (u2 Z.1 0 K, Z.2))) [0] (sh b 17) (nI k) x = some (ub σ b (shC b S (u2 Z.1 0 (upd K k x), Z.2))) := by
      intro k x hk
      refine (bw_17 hk).trans ?_
      simp only [u2_at, u2_u2]
      rfl
    have hr : ∀ {k : Nat}, k < 60 → xrd X (ub σ b (shC b S (u2 Z.1 0 K, Z.2))) [0] (sh b 17) (nI k) = some (K k) := by
      intro k hk
      exact (br_17 hk).trans rfl
    -- what stands behind a number or a name
    have back1 : xrun (X, xcall X (d + 1)) j_Tx_value 168 [.ref (sh b 15), .int a, .int c, .int e, .int (nI t + 1), .int (nI i), .int s] [] = fun τ => xrun (X, xcall X (d + 1)) j_Tx_value 6 [.ref (sh b 15), .int a, .int c, .int e, .int (nI (t + 1)), .int (nI (i + 1)), .int s] [] τ := by
      funext τ
      rw [s_Tx_value_168, nI_add1, nI_add1]
    have back0 : ∀ t', xrun (X, xcall X (d + 1)) j_Tx_value 168 [.ref (sh b 15), .int a, .int c, .int e, .int (nI t'), .int (nI i), .int s] [] = fun τ => xrun (X, xcall X (d + 1)) j_Tx_value 6 [.ref (sh b 15), .int a, .int c, .int e, .int (nI t'), .int (nI (i + 1)), .int s] [] τ := by
      intro t'
      funext τ
      rw [s_Tx_value_168, nI_add1]
    -- the road of signs
    have road : (¬ (¬ s < -3 ∧ t < 60)) → xrun (X, xcall X (d + 1)) j_Tx_value 86 [.ref (sh b 15), .int a, .int c, .int e, .int (nI t), .int (nI i), .int s] [] (ub σ b (shC b S (u2 Z.1 0 K, Z.2))) =
        xrun (X, xcall X (d + 1)) j_Tx_value 6 [.ref (sh b 15), .int a, .int c, .int e, .int (nI (if s = -33 ∧ 1 ≤ t then (upd K (t - 1) (if K (t - 1) = 0 then (1 : Int32) else 0), t) else if 2 ≤ t then (upd K (t - 2) (wk (-s) (K (t - 2)) (K (t - 1))), t - 1) else (K, t)).2), .int (nI (i + 1)), .int s] []
          (ub σ b (shC b S (u2 Z.1 0 (if s = -33 ∧ 1 ≤ t then (upd K (t - 1) (if K (t - 1) = 0 then (1 : Int32) else 0), t) else if 2 ≤ t then (upd K (t - 2) (wk (-s) (K (t - 2)) (K (t - 1))), t - 1) else (K, t)).1, Z.2))) := by
      intro _
      have r128 : xrun (X, xcall X (d + 1)) j_Tx_value 128 [.ref (sh b 15), .int a, .int c, .int e, .int (nI t), .int (nI i), .int s] [] (ub σ b (shC b S (u2 Z.1 0 K, Z.2))) =
          xrun (X, xcall X (d + 1)) j_Tx_value 6 [.ref (sh b 15), .int a, .int c, .int e, .int (nI (if 2 ≤ t then (upd K (t - 2) (wk (-s) (K (t - 2)) (K (t - 1))), t - 1) else (K, t)).2), .int (nI (i + 1)), .int s] []
            (ub σ b (shC b S (u2 Z.1 0 (if 2 ≤ t then (upd K (t - 2) (wk (-s) (K (t - 2)) (K (t - 1))), t - 1) else (K, t)).1, Z.2))) := by
        rw [s_Tx_value_128]
        by_cases h2 : 2 ≤ t
        · have hn : ¬ nI t < (2 : Int32) := fun h => absurd ((nI_lt_iff (a := t) (b := 2) (by omega) (by omega)).mp h) (by omega)
          have e1 : nI t + (-1 : Int32) = nI (t - 1) := nI_addm1 (by omega)
          have e2 : nI (t - 1) - (1 : Int32) = nI (t - 2) := by rw [nI_sub1 (by omega)]; rfl
          have k1 : t - 1 < 60 := by omega
          have k2 : t - 2 < 60 := by omega
          simp only [if_neg hn, if_pos h2, Option.bind_some, Option.bind_none, Option.toList_some, Option.toList_none, List.cons_append, List.nil_append, List.append_nil, s_Tx_value_134, s_Tx_value_141, s_Tx_value_152, s_Tx_value_157, s_Tx_value_161, s_Tx_value_164, s_Tx_value_167, bg_15_1, e1, e2, hr k1, hr k2, c_Tx_worked, hw k2, back0]
        · have hn : nI t < (2 : Int32) := (nI_lt_iff (a := t) (b := 2) (by omega) (by omega)).mpr (by omega)
          simp only [if_pos hn, if_neg h2, back0]
      rw [s_Tx_value_86]
      by_cases h33 : s = -33
      · rw [if_pos h33, s_Tx_value_93]
        by_cases h1t : 1 ≤ t
        · have hn : ¬ nI t < (1 : Int32) := fun h => absurd ((nI_lt_iff (a := t) (b := 1) (by omega) (by omega)).mp h) (by omega)
          have e1 : nI t - (1 : Int32) = nI (t - 1) := nI_sub1 h1t
          have k1 : t - 1 < 60 := by omega
          rw [if_neg hn, if_pos ⟨h33, h1t⟩]
          simp only [Option.bind_some, Option.bind_none, Option.toList_some, Option.toList_none, List.cons_append, List.nil_append, List.append_nil, s_Tx_value_99, s_Tx_value_103, s_Tx_value_111, s_Tx_value_116, bg_15_1, e1, hr k1]
          by_cases hK : K (t - 1) = 0
          · simp only [if_pos hK, s_Tx_value_119, s_Tx_value_124, s_Tx_value_125, hw k1, Option.bind_some, Option.bind_none, Option.toList_some, Option.toList_none, List.cons_append, List.nil_append, List.append_nil, back0]
          · simp only [if_neg hK, s_Tx_value_123, s_Tx_value_124, s_Tx_value_125, hw k1, Option.bind_some, Option.bind_none, Option.toList_some, Option.toList_none, List.cons_append, List.nil_append, List.append_nil, back0]
        · have hn : nI t < (1 : Int32) := (nI_lt_iff (a := t) (b := 1) (by omega) (by omega)).mpr (by omega)
          rw [if_pos hn, if_neg (fun h => h1t h.2)]
          exact r128
      · rw [if_neg h33, if_neg (fun h => h33 h.1)]
        exact r128
    by_cases h3 : s < -3
    · rw [if_pos h3, if_neg (fun h => h.1 h3)]
      exact road (fun h => h.1 h3)
    · rw [if_neg h3]
      simp only [Option.bind_some, Option.bind_none, Option.toList_some, Option.toList_none, List.cons_append, List.nil_append, List.append_nil, s_Tx_value_31, s_Tx_value_37, s_Tx_value_38, bg_15_1, bl_17]
      by_cases h60 : t < 60
      · have hn : ¬ Int32.ofNat 60 ≤ nI t := fun h => absurd ((nI_le_iff (a := 60) (b := t) (by omega) (by omega)).mp h) (by omega)
        rw [if_neg hn, if_pos ⟨h3, h60⟩]
        simp only [Option.bind_some, Option.bind_none, Option.toList_some, Option.toList_none, List.cons_append, List.nil_append, List.append_nil, s_Tx_value_41, s_Tx_value_45, bg_15_1]
        unfold pshv
        by_cases h0 : s < 0
        · rw [if_pos h0, if_pos h0, s_Tx_value_57]
          by_cases hm1 : s = -1
          · simp only [if_pos hm1, s_Tx_value_63, s_Tx_value_79, s_Tx_value_80, hw h60, Option.bind_some, Option.bind_none, Option.toList_some, Option.toList_none, List.cons_append, List.nil_append, List.append_nil, back1]
          · rw [if_neg hm1, if_neg hm1, s_Tx_value_67]
            by_cases hm2 : s = -2
            · simp only [if_pos hm2, s_Tx_value_74, s_Tx_value_79, s_Tx_value_80, hw h60, Option.bind_some, Option.bind_none, Option.toList_some, Option.toList_none, List.cons_append, List.nil_append, List.append_nil, back1]
            · simp only [if_neg hm2, s_Tx_value_78, s_Tx_value_79, s_Tx_value_80, hw h60, Option.bind_some, Option.bind_none, Option.toList_some, Option.toList_none, List.cons_append, List.nil_append, List.append_nil, back1]
        · rw [if_neg h0, if_neg h0]
          simp only [s_Tx_value_52, s_Tx_value_79, s_Tx_value_80, hw h60, Option.bind_some, Option.bind_none, Option.toList_some, Option.toList_none, List.cons_append, List.nil_append, List.append_nil, back1]
      · have hn : Int32.ofNat 60 ≤ nI t := (nI_le_iff (a := 60) (b := t) (by omega) (by omega)).mpr (by omega)
        rw [if_pos hn, if_neg (fun h => h60 h.2)]
        exact road (fun h => h60 h.2)
theorem c_Tx_value0 (N : Nat) (hN : N ≤ 60) (hS : S.2 (6 + 0) = nI N) (a c e : Int32) : xcall X (d + 2) j_Tx_value [.ref (sh b 15), .int a, .int c, .int e] (ub σ b (shC b S Z)) = some (some (.int ((trun (S.1 (5 + 0)) a c e N 0 (Z.1 0) 0).1 0)), ub σ b (shC b S (u2 Z.1 0 (trun (S.1 (5 + 0)) a c e N 0 (Z.1 0) 0).1, Z.2))) := by
  rw [e_Tx_value, s_Tx_value_0]
  have h := l_Tx_value0 (X := X) (d := d) (σ := σ) (b := b) (Z := Z) N hN hS a c e N 0 (Z.1 0) 0 .null (by omega) (by omega)
  rw [u2_self] at h
  exact h
theorem c_Tx_isThere1 : xcall X (d + 1) j_Tx_isThere [.ref (sh b 19)] (ub σ b (shC b S Z)) = some (some (.int (z1 (0 < S.2 (6 + 1)))), ub σ b (shC b S Z)) := by
  rw [e_Tx_isThere]
  simp only [s_Tx_isThere_0, s_Tx_isThere_11, s_Tx_isThere_12, s_Tx_isThere_4, s_Tx_isThere_7, Option.bind_some, Option.bind_none, Option.toList_some, Option.toList_none, List.cons_append, List.nil_append, List.append_nil, bg_19_3, xz1, xz0, if_true]
  by_cases h : 0 < S.2 (6 + 1)
  · rw [if_neg (i32_nle.mpr h), z1_t h]
  · rw [if_pos (i32_nlt.mp h), z1_f h]
theorem c_Tx_forget1 : xcall X (d + 1) j_Tx_forget [.ref (sh b 19)] (ub σ b (shC b S Z)) = some (none, ub σ b (shC b (S.1, u1 S.2 (6 + 1) 0) Z)) := by
  rw [e_Tx_forget]
  simp only [s_Tx_forget_0, s_Tx_forget_5, Option.bind_some, Option.bind_none, Option.toList_some, Option.toList_none, List.cons_append, List.nil_append, List.append_nil, bp_19_3]
theorem l_Tx_value1 (N : Nat) (hN : N ≤ 60) (hS : S.2 (6 + 1) = nI N) (a c e : Int32) : ∀ (n i : Nat) (K : Nat → Int32) (t : Nat) (l6 : Value), i + n = N → t ≤ 60 →
    xrun (X, xcall X (d + 1)) j_Tx_value 6 [.ref (sh b 19), .int a, .int c, .int e, .int (nI t), .int (nI i), l6] [] (ub σ b (shC b S (u2 Z.1 1 K, Z.2))) = some (some (.int ((trun (S.1 (5 + 1)) a c e n i K t).1 0)), ub σ b (shC b S (u2 Z.1 1 (trun (S.1 (5 + 1)) a c e n i K t).1, Z.2))) := by
  intro n
  induction n with
  | zero =>
    intro i K t l6 hi ht
    rw [s_Tx_value_6]
    have h1 : nI N ≤ nI i := (nI_le_iff (by omega) (by omega)).mpr (by omega)
    have h2 : ¬ (0 : Nat) = 1 := by decide
    have hr := br_21 (σ := σ) (b := b) (S := S) (Z := (u2 Z.1 1 K, Z.2)) (X := X) (k := 0) (by decide)
    have hr : xrd X (ub σ b (shC b S (u2 Z.1 1 K, Z.2))) [0] (sh b 21) (0 : Int32) = some (K 0) := hr.trans rfl
    simp only [Option.bind_some, Option.bind_none, Option.toList_some, Option.toList_none, List.cons_append, List.nil_append, List.append_nil, bg_19_3, bg_19_1, s_Tx_value_12, s_Tx_value_174, s_Tx_value_178, s_Tx_value_180, hS, if_pos h1, hr]
    rfl
  | succ n ih =>
    intro i K t l6 hi ht
    rw [s_Tx_value_6]
    have h1 : ¬ nI N ≤ nI i := fun h => absurd ((nI_le_iff (by omega) (by omega)).mp h) (by omega)
    have hi60 : i < 60 := by omega
    have hrc := br_20 (σ := σ) (b := b) (S := S) (Z := (u2 Z.1 1 K, Z.2)) (X := X) hi60
    simp only [Option.bind_some, Option.bind_none, Option.toList_some, Option.toList_none, List.cons_append, List.nil_append, List.append_nil, bg_19_3, bg_19_0, s_Tx_value_12, s_Tx_value_15, s_Tx_value_19, s_Tx_value_22, hS, if_neg h1, hrc]
    show _ = some (some (Value.int ((trun (S.1 (5 + 1)) a c e n (i + 1) (tstep a c e (S.1 (5 + 1) i) K t).1 (tstep a c e (S.1 (5 + 1) i) K t).2).1 0)), ub σ b (shC b S (u2 Z.1 1 (trun (S.1 (5 + 1)) a c e n (i + 1) (tstep a c e (S.1 (5 + 1) i) K t).1 (tstep a c e (S.1 (5 + 1) i) K t).2).1, Z.2)))
    have hle := tstep_le (a := a) (b := c) (c := e) (s := S.1 (5 + 1) i) (K := K) ht
    have IH := ih (i + 1) (tstep a c e (S.1 (5 + 1) i) K t).1 (tstep a c e (S.1 (5 + 1) i) K t).2 (.int (S.1 (5 + 1) i)) (by omega) hle
    rw [← IH]
    clear IH ih hle
    have hS5 : S.1 (5 + 1) = S.1 (5 + 1) := rfl
    generalize hs : S.1 (5 + 1) i = s
    have hs' : S.1 (5 + 1) i = s := hs
    unfold tstep
    have hw : ∀ {k : Nat} {x : Int32}, k < 60 → xwr (ub σ b (shC b S (u2 Z.1 1 K, Z.2))) [0] (sh b 21) (nI k) x = some (ub σ b (shC b S (u2 Z.1 1 (upd K k x), Z.2))) := by
      intro k x hk
      refine (bw_21 hk).trans ?_
      simp only [u2_at, u2_u2]
      rfl
    have hr : ∀ {k : Nat}, k < 60 → xrd X (ub σ b (shC b S (u2 Z.1 1 K, Z.2))) [0] (sh b 21) (nI k) = some (K k) := by
      intro k hk
      exact (br_21 hk).trans rfl
    -- what stands behind a number or a name
    have back1 : xrun (X, xcall X (d + 1)) j_Tx_value 168 [.ref (sh b 19), .int a, .int c, .int e, .int (nI t + 1), .int (nI i), .int s] [] = fun τ => xrun (X, xcall X (d + 1)) j_Tx_value 6 [.ref (sh b 19), .int a, .int c, .int e, .int (nI (t + 1)), .int (nI (i + 1)), .int s] [] τ := by
      funext τ
      rw [s_Tx_value_168, nI_add1, nI_add1]
    have back0 : ∀ t', xrun (X, xcall X (d + 1)) j_Tx_value 168 [.ref (sh b 19), .int a, .int c, .int e, .int (nI t'), .int (nI i), .int s] [] = fun τ => xrun (X, xcall X (d + 1)) j_Tx_value 6 [.ref (sh b 19), .int a, .int c, .int e, .int (nI t'), .int (nI (i + 1)), .int s] [] τ := by
      intro t'
      funext τ
      rw [s_Tx_value_168, nI_add1]
    -- the road of signs
    have road : (¬ (¬ s < -3 ∧ t < 60)) → xrun (X, xcall X (d + 1)) j_Tx_value 86 [.ref (sh b 19), .int a, .int c, .int e, .int (nI t), .int (nI i), .int s] [] (ub σ b (shC b S (u2 Z.1 1 K, Z.2))) =
        xrun (X, xcall X (d + 1)) j_Tx_value 6 [.ref (sh b 19), .int a, .int c, .int e, .int (nI (if s = -33 ∧ 1 ≤ t then (upd K (t - 1) (if K (t - 1) = 0 then (1 : Int32) else 0), t) else if 2 ≤ t then (upd K (t - 2) (wk (-s) (K (t - 2)) (K (t - 1))), t - 1) else (K, t)).2), .int (nI (i + 1)), .int s] []
          (ub σ b (shC b S (u2 Z.1 1 (if s = -33 ∧ 1 ≤ t then (upd K (t - 1) (if K (t - 1) = 0 then (1 : Int32) else 0), t) else if 2 ≤ t then (upd K (t - 2) (wk (-s) (K (t - 2)) (K (t - 1))), t - 1) else (K, t)).1, Z.2))) := by
      intro _
      have r128 : xrun (X, xcall X (d + 1)) j_Tx_value 128 [.ref (sh b 19), .int a, .int c, .int e, .int (nI t), .int (nI i), .int s] [] (ub σ b (shC b S (u2 Z.1 1 K, Z.2))) =
          xrun (X, xcall X (d + 1)) j_Tx_value 6 [.ref (sh b 19), .int a, .int c, .int e, .int (nI (if 2 ≤ t then (upd K (t - 2) (wk (-s) (K (t - 2)) (K (t - 1))), t - 1) else (K, t)).2), .int (nI (i + 1)), .int s] []
            (ub σ b (shC b S (u2 Z.1 1 (if 2 ≤ t then (upd K (t - 2) (wk (-s) (K (t - 2)) (K (t - 1))), t - 1) else (K, t)).1, Z.2))) := by
        rw [s_Tx_value_128]
        by_cases h2 : 2 ≤ t
        · have hn : ¬ nI t < (2 : Int32) := fun h => absurd ((nI_lt_iff (a := t) (b := 2) (by omega) (by omega)).mp h) (by omega)
          have e1 : nI t + (-1 : Int32) = nI (t - 1) := nI_addm1 (by omega)
          have e2 : nI (t - 1) - (1 : Int32) = nI (t - 2) := by rw [nI_sub1 (by omega)]; rfl
          have k1 : t - 1 < 60 := by omega
          have k2 : t - 2 < 60 := by omega
          simp only [if_neg hn, if_pos h2, Option.bind_some, Option.bind_none, Option.toList_some, Option.toList_none, List.cons_append, List.nil_append, List.append_nil, s_Tx_value_134, s_Tx_value_141, s_Tx_value_152, s_Tx_value_157, s_Tx_value_161, s_Tx_value_164, s_Tx_value_167, bg_19_1, e1, e2, hr k1, hr k2, c_Tx_worked, hw k2, back0]
        · have hn : nI t < (2 : Int32) := (nI_lt_iff (a := t) (b := 2) (by omega) (by omega)).mpr (by omega)
          simp only [if_pos hn, if_neg h2, back0]
      rw [s_Tx_value_86]
      by_cases h33 : s = -33
      · rw [if_pos h33, s_Tx_value_93]
        by_cases h1t : 1 ≤ t
        · have hn : ¬ nI t < (1 : Int32) := fun h => absurd ((nI_lt_iff (a := t) (b := 1) (by omega) (by omega)).mp h) (by omega)
          have e1 : nI t - (1 : Int32) = nI (t - 1) := nI_sub1 h1t
          have k1 : t - 1 < 60 := by omega
          rw [if_neg hn, if_pos ⟨h33, h1t⟩]
          simp only [Option.bind_some, Option.bind_none, Option.toList_some, Option.toList_none, List.cons_append, List.nil_append, List.append_nil, s_Tx_value_99, s_Tx_value_103, s_Tx_value_111, s_Tx_value_116, bg_19_1, e1, hr k1]
          by_cases hK : K (t - 1) = 0
          · simp only [if_pos hK, s_Tx_value_119, s_Tx_value_124, s_Tx_value_125, hw k1, Option.bind_some, Option.bind_none, Option.toList_some, Option.toList_none, List.cons_append, List.nil_append, List.append_nil, back0]
          · simp only [if_neg hK, s_Tx_value_123, s_Tx_value_124, s_Tx_value_125, hw k1, Option.bind_some, Option.bind_none, Option.toList_some, Option.toList_none, List.cons_append, List.nil_append, List.append_nil, back0]
        · have hn : nI t < (1 : Int32) := (nI_lt_iff (a := t) (b := 1) (by omega) (by omega)).mpr (by omega)
          rw [if_pos hn, if_neg (fun h => h1t h.2)]
          exact r128
      · rw [if_neg h33, if_neg (fun h => h33 h.1)]
        exact r128
    by_cases h3 : s < -3
    · rw [if_pos h3, if_neg (fun h => h.1 h3)]
      exact road (fun h => h.1 h3)
    · rw [if_neg h3]
      simp only [Option.bind_some, Option.bind_none, Option.toList_some, Option.toList_none, List.cons_append, List.nil_append, List.append_nil, s_Tx_value_31, s_Tx_value_37, s_Tx_value_38, bg_19_1, bl_21]
      by_cases h60 : t < 60
      · have hn : ¬ Int32.ofNat 60 ≤ nI t := fun h => absurd ((nI_le_iff (a := 60) (b := t) (by omega) (by omega)).mp h) (by omega)
        rw [if_neg hn, if_pos ⟨h3, h60⟩]
        simp only [Option.bind_some, Option.bind_none, Option.toList_some, Option.toList_none, List.cons_append, List.nil_append, List.append_nil, s_Tx_value_41, s_Tx_value_45, bg_19_1]
        unfold pshv
        by_cases h0 : s < 0
        · rw [if_pos h0, if_pos h0, s_Tx_value_57]
          by_cases hm1 : s = -1
          · simp only [if_pos hm1, s_Tx_value_63, s_Tx_value_79, s_Tx_value_80, hw h60, Option.bind_some, Option.bind_none, Option.toList_some, Option.toList_none, List.cons_append, List.nil_append, List.append_nil, back1]
          · rw [if_neg hm1, if_neg hm1, s_Tx_value_67]
            by_cases hm2 : s = -2
            · simp only [if_pos hm2, s_Tx_value_74, s_Tx_value_79, s_Tx_value_80, hw h60, Option.bind_some, Option.bind_none, Option.toList_some, Option.toList_none, List.cons_append, List.nil_append, List.append_nil, back1]
            · simp only [if_neg hm2, s_Tx_value_78, s_Tx_value_79, s_Tx_value_80, hw h60, Option.bind_some, Option.bind_none, Option.toList_some, Option.toList_none, List.cons_append, List.nil_append, List.append_nil, back1]
        · rw [if_neg h0, if_neg h0]
          simp only [s_Tx_value_52, s_Tx_value_79, s_Tx_value_80, hw h60, Option.bind_some, Option.bind_none, Option.toList_some, Option.toList_none, List.cons_append, List.nil_append, List.append_nil, back1]
      · have hn : Int32.ofNat 60 ≤ nI t := (nI_le_iff (a := 60) (b := t) (by omega) (by omega)).mpr (by omega)
        rw [if_pos hn, if_neg (fun h => h60 h.2)]
        exact road (fun h => h60 h.2)
theorem c_Tx_value1 (N : Nat) (hN : N ≤ 60) (hS : S.2 (6 + 1) = nI N) (a c e : Int32) : xcall X (d + 2) j_Tx_value [.ref (sh b 19), .int a, .int c, .int e] (ub σ b (shC b S Z)) = some (some (.int ((trun (S.1 (5 + 1)) a c e N 0 (Z.1 1) 0).1 0)), ub σ b (shC b S (u2 Z.1 1 (trun (S.1 (5 + 1)) a c e N 0 (Z.1 1) 0).1, Z.2))) := by
  rw [e_Tx_value, s_Tx_value_0]
  have h := l_Tx_value1 (X := X) (d := d) (σ := σ) (b := b) (Z := Z) N hN hS a c e N 0 (Z.1 1) 0 .null (by omega) (by omega)
  rw [u2_self] at h
  exact h
end TxVal
