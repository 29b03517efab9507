/-! ===== the model: calls, 5: sets ===== -/
/-- what of s isn't in a -/
def dif (s a : Nat) : Nat := s &&& (2 ^ 32 - (a + 1))
theorem tb_big {a i : Nat} (h : a < 2 ^ 32) (hi : ¬ i < 32) : a.testBit i = false := Nat.testBit_lt_two_pow (Nat.lt_of_lt_of_le h (Nat.pow_le_pow_right (by omega) (by omega)))
theorem dif_bit {s a : Nat} (hs : s < 256) (ha : a < 256) (i : Nat) : (dif s a).testBit i = (s.testBit i && !a.testBit i) := by
  unfold dif
  rw [Nat.testBit_and, Nat.testBit_two_pow_sub_succ (by omega)]
  by_cases h : i < 32
  · simp [h]
  · rw [tb_big (by omega) h]
    simp
theorem dif_le (s a : Nat) : dif s a ≤ s := Nat.and_le_left
theorem and_not {s a : Nat} (hs : s < 256) (ha : a < 256) : nI s &&& (nI a ^^^ (-1 : Int32)) = nI (dif s a) := by
  have hd := dif_le s a
  refine i32_of_toNat ?_ (by omega)
  rw [Int32.toBitVec_and, Int32.toBitVec_xor, BitVec.toNat_and, BitVec.toNat_xor, pk_tn (by omega), pk_tn (by omega)]
  show s &&& (a ^^^ (2 ^ 32 - 1)) = s &&& (2 ^ 32 - (a + 1))
  congr 1
  apply Nat.eq_of_testBit_eq
  intro i
  rw [Nat.testBit_xor, Nat.testBit_two_pow_sub_one, Nat.testBit_two_pow_sub_succ (by omega)]
  by_cases h : i < 32
  · simp [h]
  · rw [tb_big (by omega) h]
    simp [h]
theorem dif_0 {s a : Nat} (hs : s < 256) (ha : a < 256) : dif s a = 0 ↔ ∀ i, s.testBit i = true → a.testBit i = true := by
  constructor
  · intro h i hi
    have := dif_bit hs ha i
    rw [h, Nat.zero_testBit, hi] at this
    cases hx : a.testBit i with
    | true => rfl
    | false => rw [hx] at this; exact absurd this (by decide)
  · intro h
    apply Nat.eq_of_testBit_eq
    intro i
    rw [dif_bit hs ha, Nat.zero_testBit]
    cases hx : s.testBit i with
    | false => rfl
    | true => rw [h i hx]; rfl
theorem bits_st : ∀ r : Nat, r < 256 → 0 < r → nI r &&& (nI r - 1) = nI (r &&& (r - 1)) ∧ (r &&& (r - 1)) < r ∧ pcN 8 (r &&& (r - 1)) + 1 = pcN 8 r := by decide +kernel
theorem shr_bit0 : ∀ i : Nat, i < 8 → ∀ m : Nat, m < 256 → ((nI m >>> (nI i &&& 31)) &&& 1 = 0 ↔ m.testBit i = false) := by decide +kernel
theorem pc_full : ∀ n : Nat, n < 9 → ∀ t : Nat, t < 2 ^ n → pcN 8 t = pcN 8 (2 ^ n - 1) → t = 2 ^ n - 1 := by decide +kernel
theorem pc_and {a A : Nat} : ∀ n : Nat, pcN n (a &&& A) ≤ pcN n a ∧ (pcN n (a &&& A) = pcN n a → ∀ i, i < n → a.testBit i = true → A.testBit i = true)
  | 0 => ⟨Nat.le_refl _, fun _ i hi => absurd hi (Nat.not_lt_zero i)⟩
  | n + 1 => by
    obtain ⟨h1, h2⟩ := pc_and (a := a) (A := A) n
    unfold pcN
    rw [Nat.testBit_and]
    cases ha : a.testBit n with
    | false =>
      refine ⟨by simpa using h1, fun e i hi hb => ?_⟩
      by_cases hin : i = n
      · rw [hin, ha] at hb; exact absurd hb (by decide)
      · exact h2 (by simpa using e) i (by omega) hb
    | true =>
      cases hA : A.testBit n with
      | false =>
        refine ⟨?_, fun e => ?_⟩
        · simp
          omega
        · simp at e
          omega
      | true =>
        refine ⟨by simpa using h1, fun e i hi hb => ?_⟩
        by_cases hin : i = n
        · rw [hin, hA]
        · exact h2 (by simpa using e) i (by omega) hb
/-- the best so far -/
def btr (s : Nat) : Option Nat → Prop
  | none => True
  | some m => pcN 8 s < pcN 8 m
def bO : Option Nat → Int32
  | none => -1
  | some m => nI m
def bestO (C : Nat → Prop) (s : Nat) : Option Nat → Prop
  | none => ∀ t, t < s → ¬ C t
  | some m => m < s ∧ C m ∧ ∀ t, t < s → C t → pcN 8 m < pcN 8 t ∨ (pcN 8 m = pcN 8 t ∧ m ≤ t)
theorem best_y {C : Nat → Prop} {s : Nat} {b : Option Nat} (h : bestO C s b) (hc : C s) (hb : btr s b) : bestO C (s + 1) (some s) := by
  refine ⟨Nat.lt_succ_self s, hc, fun t ht hct => ?_⟩
  by_cases e : t = s
  · exact Or.inr ⟨by rw [e], by omega⟩
  cases b with
  | none => exact absurd hct (h t (by omega))
  | some m =>
    have hb : pcN 8 s < pcN 8 m := hb
    have := h.2.2 t (by omega) hct
    exact Or.inl (by omega)
theorem best_n {C : Nat → Prop} {s : Nat} {b : Option Nat} (h : bestO C s b) (hc : ¬ (C s ∧ btr s b)) : bestO C (s + 1) b := by
  cases b with
  | none =>
    intro t ht hct
    by_cases e : t = s
    · exact hc ⟨e ▸ hct, trivial⟩
    · exact h t (by omega) hct
  | some m =>
    obtain ⟨h1, h2, h3⟩ := h
    refine ⟨by omega, h2, fun t ht hct => ?_⟩
    by_cases e : t = s
    · have : ¬ pcN 8 s < pcN 8 m := fun z => hc ⟨e ▸ hct, z⟩
      rw [e]
      omega
    · exact h3 t (by omega) hct
theorem fw_char {P : Nat → Prop} {n : Nat} (hn : n < 9) : ∀ k s b : Nat, s + k = 2 ^ n → b < 2 ^ n → P b → (b < s ∨ b = 2 ^ n - 1) → (∀ t, t < s → P t → pcN 8 b < pcN 8 t ∨ (pcN 8 b = pcN 8 t ∧ b ≤ t)) →
    fwL P k s b < 2 ^ n ∧ P (fwL P k s b) ∧ ∀ t, t < 2 ^ n → P t → pcN 8 (fwL P k s b) < pcN 8 t ∨ (pcN 8 (fwL P k s b) = pcN 8 t ∧ fwL P k s b ≤ t)
  | 0, s, b, hs, hb, hp, _, hm => by
    have e : s = 2 ^ n := by omega
    subst e
    exact ⟨hb, hp, hm⟩
  | k + 1, s, b, hs, hb, hp, hbs, hm => by
    unfold fwL
    by_cases hc : pcN 8 s < pcN 8 b ∧ P s
    · rw [if_pos hc]
      refine fw_char hn k (s + 1) s (by omega) (by omega) hc.2 (Or.inl (by omega)) fun t ht hpt => ?_
      by_cases e : t = s
      · exact Or.inr ⟨by rw [e], by omega⟩
      · have := hm t (by omega) hpt
        exact Or.inl (by omega)
    · rw [if_neg hc]
      refine fw_char hn k (s + 1) b (by omega) hb hp (by omega) fun t ht hpt => ?_
      by_cases e : t = s
      · have h1 : ¬ pcN 8 s < pcN 8 b := fun z => hc ⟨z, e ▸ hpt⟩
        rw [e]
        by_cases h2 : pcN 8 b = pcN 8 s
        · rcases hbs with z | z
          · exact Or.inr ⟨h2, by omega⟩
          · have := pc_full n hn s (by omega) (by rw [← h2, z])
            exact Or.inr ⟨h2, by omega⟩
        · exact Or.inl (by omega)
      · exact hm t (by omega) hpt
theorem fw_mw {P : Nat → Prop} {n A : Nat} (hn : n ≤ 8) (hA : A < 2 ^ n) (hfull : P (2 ^ n - 1)) (hand : ∀ s, s < 2 ^ n → P s → P (s &&& A)) {r : Option Nat} (hr : bestO (fun s => dif s A = 0 ∧ P s) (A + 1) r) : r = some (fwL P (2 ^ n) 0 (2 ^ n - 1)) := by
  have h256 := (pow_256 (c := n) hn)
  obtain ⟨h1, h2, h3⟩ := fw_char (P := P) (n := n) (by omega) (2 ^ n) 0 (2 ^ n - 1) (by omega) (by omega) hfull (Or.inr rfl) (fun t ht => absurd ht (Nat.not_lt_zero t))
  generalize fwL P (2 ^ n) 0 (2 ^ n - 1) = a at h1 h2 h3
  have h4 := h3 (a &&& A) (Nat.lt_of_le_of_lt Nat.and_le_left h1) (hand a h1 h2)
  obtain ⟨p1, p2⟩ := pc_and (a := a) (A := A) 8
  have h5 : dif a A = 0 := by
    refine (dif_0 (by omega) (by omega)).mpr fun i hi => ?_
    refine p2 (by omega) i ?_ hi
    by_cases z : i < 8
    · exact z
    · rw [Nat.testBit_lt_two_pow (Nat.lt_of_lt_of_le (show a < 2 ^ 8 by omega) (Nat.pow_le_pow_right (by omega) (by omega)))] at hi
      exact absurd hi (by decide)
  have h6 : a ≤ A := by
    have : a &&& A = a := by
      apply Nat.eq_of_testBit_eq
      intro i
      rw [Nat.testBit_and]
      cases hx : a.testBit i with
      | false => rfl
      | true => rw [(dif_0 (by omega) (by omega)).mp h5 i hx]; rfl
    rw [← this]
    exact Nat.and_le_right
  cases r with
  | none => exact absurd ⟨h5, h2⟩ (hr a (by omega))
  | some m =>
    obtain ⟨r1, ⟨r2, r3⟩, r4⟩ := hr
    have q1 := r4 a (by omega) ⟨h5, h2⟩
    have q2 := h3 m (by omega) r3
    congr 1
    omega
theorem smN_bits {f : Nat → Nat} {s t : Nat} : ∀ n, (∀ i, i < n → f i ≠ 0 → (s.testBit i = t.testBit i)) → smN f s n = smN f t n
  | 0, _ => rfl
  | n + 1, h => by
    unfold smN
    rw [smN_bits n (fun i hi => h i (by omega))]
    by_cases e : f n = 0
    · rw [e]
      split <;> split <;> rfl
    · rw [h n (by omega) e]
theorem smN_le_A {f : Nat → Nat} {s : Nat} : ∀ n, smN f s n ≤ smA f n
  | 0 => Nat.le_refl _
  | n + 1 => by
    have := smN_le_A (f := f) (s := s) n
    unfold smN smA
    split <;> omega
theorem smN_full {f : Nat → Nat} {s : Nat} : ∀ n, (∀ i, i < n → s.testBit i = true) → smN f s n = smA f n
  | 0, _ => rfl
  | n + 1, h => by
    unfold smN smA
    rw [smN_full n (fun i hi => h i (by omega)), if_pos (h n (by omega))]
theorem smN_dif {f : Nat → Nat} {s A : Nat} (hs : s < 256) (hA : A < 256) : ∀ n, (∀ i, i < n → f i ≠ 0 → A.testBit i = true) → smA f n = smN f s n + smN f (dif A s) n
  | 0, _ => rfl
  | n + 1, h => by
    unfold smN smA
    rw [smN_dif hs hA n (fun i hi => h i (by omega)), dif_bit hA hs]
    by_cases e : f n = 0
    · rw [e]
      split <;> split <;> omega
    · rw [h n (by omega) e]
      cases s.testBit n <;> simp <;> omega
theorem hN_A {S : xS} {o i : Nat} (hi : i < cn S) (h : hN S o i ≠ 0) : (abS S o (cn S)).testBit i = true := by
  refine (abS_bit S o (cn S) i).mpr ⟨hi, ?_⟩
  by_cases c : i ≠ o ∧ ash S i
  · exact c
  · exfalso
    apply h
    unfold hN
    rw [if_neg c]
theorem hN_eq {S : xS} {o i : Nat} (h : (abS S o (cn S)).testBit i = true) : hN S o i = rN S i o := by
  have c := ((abS_bit S o (cn S) i).mp h).2
  unfold hN
  rw [if_pos c]
theorem rsL_sm (S : xS) (o s : Nat) (f : Nat → Nat) (hf : ∀ i, i < cn S → s.testBit i = true → f i = rN S i o) : ∀ (k i : Nat), i + k = cn S → rsL S s o k i (nI (smN f s i)) = nI (smN f s (cn S))
  | 0, i, h => by
    have e : i = cn S := by omega
    rw [e]
    rfl
  | k + 1, i, h => by
    unfold rsL
    have e : nI (smN f s i) + (if s.testBit i = true then rb S i o (S.1 4 (8 * i + o)) else 0) = nI (smN f s (i + 1)) := by
      show _ = nI (smN f s i + (if s.testBit i = true then f i else 0))
      by_cases hb : s.testBit i = true
      · rw [if_pos hb, if_pos hb, rN_eq, hf i (by omega) hb, nI_add]
      · rw [if_neg hb, if_neg hb, Int32.add_zero, Nat.add_zero]
    rw [e]
    exact rsL_sm S o s f hf k (i + 1) (by omega)
section MSets
variable {X : xX} {d : Nat} {M R S K : xS} {σ : xW}
theorem l_M_bits (l0 : Int32) : ∀ (n r c : Nat), r ≤ n → r < 256 → xrun (X, xcall X d) j_M_bits 4 [.int l0, .int (nI c), .int (nI r)] [] σ = some (some (.int (nI (c + pcN 8 r))), σ) := by
  intro n
  induction n with
  | zero =>
    intro r c hr h
    have e : r = 0 := by omega
    subst e
    rw [s_M_bits_4, if_pos nI_0, s_M_bits_20]
    rfl
  | succ n ih =>
    intro r c hr h
    by_cases e : r = 0
    · subst e
      rw [s_M_bits_4, if_pos nI_0, s_M_bits_20]
      rfl
    · obtain ⟨b1, b2, b3⟩ := bits_st r h (by omega)
      rw [s_M_bits_4, if_neg (nI_ne0 (by omega) (by omega)), s_M_bits_8, b1, nI_add1, ih _ (c + 1) (by omega) (by omega), ← b3, show c + 1 + pcN 8 (r &&& (r - 1)) = c + (pcN 8 (r &&& (r - 1)) + 1) by omega]
theorem c_M_bits {r : Nat} (h : r < 256) : xcall X (d + 1) j_M_bits [.int (nI r)] σ = some (some (.int (nI (pcN 8 r))), σ) := by
  have := l_M_bits (X := X) (d := d) (σ := σ) (nI r) r r 0 (Nat.le_refl _) h
  rw [Nat.zero_add] at this
  rw [e_M_bits, s_M_bits_0]
  exact this
theorem c_M_better {s : Nat} (hs : s < 256) {b : Option Nat} (hb : ∀ m, b = some m → m < 256) : ∃ q : Int32, (q = 0 ↔ ¬ btr s b) ∧ xcall X (d + 2) j_M_isBetter [.int (nI s), .int (bO b)] σ = some (some (.int q), σ) := by
  rw [e_M_isBetter, s_M_isBetter_0]
  cases b with
  | none =>
    have h1 : bO none < 0 := by decide
    refine ⟨1, ⟨fun e => absurd e (by decide), fun e => absurd trivial e⟩, ?_⟩
    rw [if_pos h1, s_M_isBetter_15, s_M_isBetter_20, if_pos xz1]
  | some m =>
    have hm := hb m rfl
    have h1 : ¬ bO (some m) < 0 := i32_nlt.mpr (nI_pos' (by omega))
    have hb' : bO (some m) = nI m := rfl
    rw [if_neg h1, hb']
    simp only [s_M_isBetter_4, s_M_isBetter_8, s_M_isBetter_12, Option.bind_some, Option.bind_none, Option.toList_some, Option.toList_none, List.cons_append, List.nil_append, List.append_nil, c_M_bits hs, c_M_bits hm]
    have p1 := pcN_le 8 s
    have p2 := pcN_le 8 m
    by_cases h : pcN 8 m ≤ pcN 8 s
    · refine ⟨0, ⟨fun _ e => absurd (show pcN 8 s < pcN 8 m from e) (by omega), fun _ => rfl⟩, ?_⟩
      rw [if_pos ((nI_le_iff (by omega) (by omega)).mpr h), s_M_isBetter_19, s_M_isBetter_20, if_pos xz0]
    · refine ⟨1, ⟨fun e => absurd e (by decide), fun e => absurd (show pcN 8 s < pcN 8 m by omega) e⟩, ?_⟩
      rw [if_neg (fun e => h ((nI_le_iff (by omega) (by omega)).mp e)), s_M_isBetter_15, s_M_isBetter_20, if_pos xz1]
/-- the model's loop over sets -/
noncomputable def mwL (C : Nat → Prop) : Nat → Nat → Option Nat → Option Nat
  | 0, _, b => b
  | k + 1, s, b => mwL C k (s + 1) (@ite _ (C s ∧ btr s b) (Classical.propDecidable _) (some s) b)
theorem mw_best {C : Nat → Prop} : ∀ (k s : Nat) (b : Option Nat), bestO C s b → bestO C (s + k) (mwL C k s b)
  | 0, _, _, h => h
  | k + 1, s, b, h => by
    unfold mwL
    rw [show s + (k + 1) = s + 1 + k by omega]
    by_cases c : C s ∧ btr s b
    · rw [if_pos c]
      exact mw_best k (s + 1) _ (best_y h c.1 c.2)
    · rw [if_neg c]
      exact mw_best k (s + 1) _ (best_n h c)
theorem l_M_cuts (hI : okI S) {o f : Nat} (ho : o < 8) (hf : f ≤ 500) (w : Int32) {A : Nat} (hA : A = abS S o (cn S)) : ∀ (k s : Nat) (b : Option Nat) (l7 : Value) (M : xS), RS (M.1 0) S → s + k = A + 1 → (∀ m, b = some m → m < 256) → ∃ (N : xS) (l7' : Value), SF M N ∧
    xrun (X, xcall X (d + 6)) j_M_cuts 48 [.ref (sh 4 0), .int (nI o), .int (nI f), .int w, .int (nI A), .int (bO b), .int (nI s), l7] [] (ub σ 4 (mdC M)) = xrun (X, xcall X (d + 6)) j_M_cuts 118 [.ref (sh 4 0), .int (nI o), .int (nI f), .int w, .int (nI A), .int (bO (mwL (fun s => dif s A = 0 ∧ smN (hN S o) (dif A s) (cn S) < f) k s b)), .int (nI (A + 1)), l7'] [] (ub σ 4 (mdC N)) := by
  have hAA : A < 256 := by rw [hA]; exact abS_256 S o hI.1.1.2
  intro k
  induction k with
  | zero =>
    intro s b l7 M h hs hb
    have e : s = A + 1 := by omega
    subst e
    have g1 : nI A < nI (A + 1) := (nI_lt_iff (by omega) (by omega)).mpr (by omega)
    refine ⟨M, l7, SF.rfl' M, ?_⟩
    rw [s_M_cuts_48, if_pos g1]
    rfl
  | succ k ih =>
    intro s b l7 M h hs hb
    have g1 : ¬ nI A < nI s := fun e => absurd ((nI_lt_iff (by omega) (by omega)).mp e) (by omega)
    have hs2 : s < 256 := by omega
    have skip : ∀ (M' : xS) (l7 : Int32), SF M M' → ¬ ((dif s A = 0 ∧ smN (hN S o) (dif A s) (cn S) < f) ∧ btr s b) → ∃ (N : xS) (l7' : Value), SF M N ∧ xrun (X, xcall X (d + 6)) j_M_cuts 108 [.ref (sh 4 0), .int (nI o), .int (nI f), .int w, .int (nI A), .int (bO b), .int (nI s), .int l7] [] (ub σ 4 (mdC M')) = xrun (X, xcall X (d + 6)) j_M_cuts 118 [.ref (sh 4 0), .int (nI o), .int (nI f), .int w, .int (nI A), .int (bO (mwL (fun s => dif s A = 0 ∧ smN (hN S o) (dif A s) (cn S) < f) (k + 1) s b)), .int (nI (A + 1)), l7'] [] (ub σ 4 (mdC N)) := by
      intro M' l7 hM hn
      obtain ⟨N, l7', hQ, hx⟩ := ih (s + 1) b (.int l7) M' (by rw [hM.row]; exact h) (by omega) hb
      have e : mwL (fun s => dif s A = 0 ∧ smN (hN S o) (dif A s) (cn S) < f) (k + 1) s b = mwL (fun s => dif s A = 0 ∧ smN (hN S o) (dif A s) (cn S) < f) k (s + 1) b := by
        show mwL _ k (s + 1) (@ite _ ((dif s A = 0 ∧ smN (hN S o) (dif A s) (cn S) < f) ∧ btr s b) (Classical.propDecidable _) (some s) b) = _
        rw [if_neg hn]
      refine ⟨N, l7', SF.trans hM hQ, ?_⟩
      rw [e, ← hx, s_M_cuts_108, s_M_cuts_110, nI_add1]
    have take : ∀ (M' : xS) (l7 : Int32), SF M M' → ((dif s A = 0 ∧ smN (hN S o) (dif A s) (cn S) < f) ∧ btr s b) → ∃ (N : xS) (l7' : Value), SF M N ∧ xrun (X, xcall X (d + 6)) j_M_cuts 103 [.ref (sh 4 0), .int (nI o), .int (nI f), .int w, .int (nI A), .int (bO b), .int (nI s), .int l7] [] (ub σ 4 (mdC M')) = xrun (X, xcall X (d + 6)) j_M_cuts 118 [.ref (sh 4 0), .int (nI o), .int (nI f), .int w, .int (nI A), .int (bO (mwL (fun s => dif s A = 0 ∧ smN (hN S o) (dif A s) (cn S) < f) (k + 1) s b)), .int (nI (A + 1)), l7'] [] (ub σ 4 (mdC N)) := by
      intro M' l7 hM hn
      obtain ⟨N, l7', hQ, hx⟩ := ih (s + 1) (some s) (.int l7) M' (by rw [hM.row]; exact h) (by omega) (fun m hm => by cases hm; exact hs2)
      have e : mwL (fun s => dif s A = 0 ∧ smN (hN S o) (dif A s) (cn S) < f) (k + 1) s b = mwL (fun s => dif s A = 0 ∧ smN (hN S o) (dif A s) (cn S) < f) k (s + 1) (some s) := by
        show mwL _ k (s + 1) (@ite _ ((dif s A = 0 ∧ smN (hN S o) (dif A s) (cn S) < f) ∧ btr s b) (Classical.propDecidable _) (some s) b) = _
        rw [if_pos hn]
      refine ⟨N, l7', SF.trans hM hQ, ?_⟩
      rw [e, ← hx, s_M_cuts_103, s_M_cuts_110, nI_add1]
      rfl
    have z10 : ¬ (1 : Int32) = 0 := by decide
    have q0 : nI (dif s A) = 0 ↔ dif s A = 0 := by
      have := dif_le s A
      exact nI_inj (b := 0) (by omega) (by omega)
    rw [s_M_cuts_48, if_neg g1, s_M_cuts_55, and_not hs2 hAA]
    by_cases c1 : dif s A = 0
    · rw [if_pos (q0.mpr c1)]
      obtain ⟨bq, hbq, hbx⟩ := c_M_better (X := X) (d := d + 4) (σ := ub σ 4 (mdC M)) hs2 hb
      simp only [s_M_cuts_65, s_M_cuts_72, Option.bind_some, Option.bind_none, Option.toList_some, Option.toList_none, List.cons_append, List.nil_append, List.append_nil, hbx]
      by_cases c2 : btr s b
      · rw [if_neg (fun e => hbq.mp e c2), s_M_cuts_75, s_M_cuts_80, if_neg z10]
        have hsub := (dif_0 hs2 hAA).mp c1
        have hf2 : ∀ i, i < cn S → (dif A s).testBit i = true → hN S o i = rN S i o := by
          intro i hi hb2
          refine hN_eq ?_
          rw [← hA]
          first
          | exact hsub i hb2
          | (rw [dif_bit hAA hs2] at hb2
             cases hx : A.testBit i with
             | true => rfl
             | false => rw [hx] at hb2; exact absurd hb2 (by simp))
        have hY : dif A s < 256 := by
          have := dif_le A s
          omega
        obtain ⟨N1, hN1, hx1⟩ := c_M_ropeOfBy (X := X) (d := d) (σ := σ) hI h hY ho
        have er := rsL_sm S o (dif A s) (hN S o) hf2 (cn S) 0 (by omega)
        have er' : rsL S (dif A s) o (cn S) 0 0 = nI (smN (hN S o) (dif A s) (cn S)) := er
        rw [er'] at hx1
        have hle := smN_le (hN_le S o) (dif A s) (cn S)
        have hc8 := hI.1.1.2
        have cmp1 : nI f ≤ nI (smN (hN S o) (dif A s) (cn S)) ↔ f ≤ smN (hN S o) (dif A s) (cn S) := nI_le_iff (by omega) (by omega)
        have cmp2 : nI (smN (hN S o) (dif A s) (cn S)) < nI f ↔ smN (hN S o) (dif A s) (cn S) < f := nI_lt_iff (by omega) (by omega)
        by_cases c3 : smN (hN S o) (dif A s) (cn S) < f
        · first
          | (simp only [s_M_cuts_87, s_M_cuts_99, Option.bind_some, Option.bind_none, Option.toList_some, Option.toList_none, List.cons_append, List.nil_append, List.append_nil, mv_0, and_not hAA hs2, hx1, cmp1, if_neg (show ¬ f ≤ smN (hN S o) (dif A s) (cn S) from fun e => absurd c3 (by omega))]
             exact take N1 1 hN1 ⟨⟨c1, c3⟩, c2⟩)
          | (simp only [s_M_cuts_87, s_M_cuts_94, Option.bind_some, Option.bind_none, Option.toList_some, Option.toList_none, List.cons_append, List.nil_append, List.append_nil, mv_0, hx1, cmp2, if_neg (show ¬ smN (hN S o) (dif A s) (cn S) < f from fun e => absurd c3 (by omega))]
             exact take N1 1 hN1 ⟨⟨c1, c3⟩, c2⟩)
        · first
          | (simp only [s_M_cuts_87, s_M_cuts_99, Option.bind_some, Option.bind_none, Option.toList_some, Option.toList_none, List.cons_append, List.nil_append, List.append_nil, mv_0, and_not hAA hs2, hx1, cmp1, if_pos (show f ≤ smN (hN S o) (dif A s) (cn S) from Nat.le_of_not_lt c3)]
             exact skip N1 1 hN1 (fun e => c3 e.1.2))
          | (simp only [s_M_cuts_87, s_M_cuts_94, Option.bind_some, Option.bind_none, Option.toList_some, Option.toList_none, List.cons_append, List.nil_append, List.append_nil, mv_0, hx1, cmp2, if_pos (show smN (hN S o) (dif A s) (cn S) < f from Nat.lt_of_not_le c3)]
             exact skip N1 1 hN1 (fun e => c3 e.1.2))
      · rw [if_pos (hbq.mpr c2), s_M_cuts_79, s_M_cuts_80, if_pos rfl]
        exact skip M 0 (SF.rfl' M) (fun e => c2 e.2)
    · rw [if_neg (fun e => c1 (q0.mp e)), s_M_cuts_79, s_M_cuts_80, if_pos rfl]
      exact skip M 0 (SF.rfl' M) (fun e => c1 e.1.1)
theorem l_M_hauls (hI : okI S) {o f : Nat} (ho : o < 8) (hf : f ≤ 500) (w : Int32) {A : Nat} (hA : A = abS S o (cn S)) : ∀ (k s : Nat) (b : Option Nat) (l7 : Value) (M : xS), RS (M.1 0) S → s + k = A + 1 → (∀ m, b = some m → m < 256) → ∃ (N : xS) (l7' : Value), SF M N ∧
    xrun (X, xcall X (d + 6)) j_M_hauls 48 [.ref (sh 4 0), .int (nI o), .int (nI f), .int w, .int (nI A), .int (bO b), .int (nI s), l7] [] (ub σ 4 (mdC M)) = xrun (X, xcall X (d + 6)) j_M_hauls 113 [.ref (sh 4 0), .int (nI o), .int (nI f), .int w, .int (nI A), .int (bO (mwL (fun s => dif s A = 0 ∧ f ≤ smN (hN S o) s (cn S)) k s b)), .int (nI (A + 1)), l7'] [] (ub σ 4 (mdC N)) := by
  have hAA : A < 256 := by rw [hA]; exact abS_256 S o hI.1.1.2
  intro k
  induction k with
  | zero =>
    intro s b l7 M h hs hb
    have e : s = A + 1 := by omega
    subst e
    have g1 : nI A < nI (A + 1) := (nI_lt_iff (by omega) (by omega)).mpr (by omega)
    refine ⟨M, l7, SF.rfl' M, ?_⟩
    rw [s_M_hauls_48, if_pos g1]
    rfl
  | succ k ih =>
    intro s b l7 M h hs hb
    have g1 : ¬ nI A < nI s := fun e => absurd ((nI_lt_iff (by omega) (by omega)).mp e) (by omega)
    have hs2 : s < 256 := by omega
    have skip : ∀ (M' : xS) (l7 : Int32), SF M M' → ¬ ((dif s A = 0 ∧ f ≤ smN (hN S o) s (cn S)) ∧ btr s b) → ∃ (N : xS) (l7' : Value), SF M N ∧ xrun (X, xcall X (d + 6)) j_M_hauls 103 [.ref (sh 4 0), .int (nI o), .int (nI f), .int w, .int (nI A), .int (bO b), .int (nI s), .int l7] [] (ub σ 4 (mdC M')) = xrun (X, xcall X (d + 6)) j_M_hauls 113 [.ref (sh 4 0), .int (nI o), .int (nI f), .int w, .int (nI A), .int (bO (mwL (fun s => dif s A = 0 ∧ f ≤ smN (hN S o) s (cn S)) (k + 1) s b)), .int (nI (A + 1)), l7'] [] (ub σ 4 (mdC N)) := by
      intro M' l7 hM hn
      obtain ⟨N, l7', hQ, hx⟩ := ih (s + 1) b (.int l7) M' (by rw [hM.row]; exact h) (by omega) hb
      have e : mwL (fun s => dif s A = 0 ∧ f ≤ smN (hN S o) s (cn S)) (k + 1) s b = mwL (fun s => dif s A = 0 ∧ f ≤ smN (hN S o) s (cn S)) k (s + 1) b := by
        show mwL _ k (s + 1) (@ite _ ((dif s A = 0 ∧ f ≤ smN (hN S o) s (cn S)) ∧ btr s b) (Classical.propDecidable _) (some s) b) = _
        rw [if_neg hn]
      refine ⟨N, l7', SF.trans hM hQ, ?_⟩
      rw [e, ← hx, s_M_hauls_103, s_M_hauls_105, nI_add1]
    have take : ∀ (M' : xS) (l7 : Int32), SF M M' → ((dif s A = 0 ∧ f ≤ smN (hN S o) s (cn S)) ∧ btr s b) → ∃ (N : xS) (l7' : Value), SF M N ∧ xrun (X, xcall X (d + 6)) j_M_hauls 98 [.ref (sh 4 0), .int (nI o), .int (nI f), .int w, .int (nI A), .int (bO b), .int (nI s), .int l7] [] (ub σ 4 (mdC M')) = xrun (X, xcall X (d + 6)) j_M_hauls 113 [.ref (sh 4 0), .int (nI o), .int (nI f), .int w, .int (nI A), .int (bO (mwL (fun s => dif s A = 0 ∧ f ≤ smN (hN S o) s (cn S)) (k + 1) s b)), .int (nI (A + 1)), l7'] [] (ub σ 4 (mdC N)) := by
      intro M' l7 hM hn
      obtain ⟨N, l7', hQ, hx⟩ := ih (s + 1) (some s) (.int l7) M' (by rw [hM.row]; exact h) (by omega) (fun m hm => by cases hm; exact hs2)
      have e : mwL (fun s => dif s A = 0 ∧ f ≤ smN (hN S o) s (cn S)) (k + 1) s b = mwL (fun s => dif s A = 0 ∧ f ≤ smN (hN S o) s (cn S)) k (s + 1) (some s) := by
        show mwL _ k (s + 1) (@ite _ ((dif s A = 0 ∧ f ≤ smN (hN S o) s (cn S)) ∧ btr s b) (Classical.propDecidable _) (some s) b) = _
        rw [if_pos hn]
      refine ⟨N, l7', SF.trans hM hQ, ?_⟩
      rw [e, ← hx, s_M_hauls_98, s_M_hauls_105, nI_add1]
      rfl
    have z10 : ¬ (1 : Int32) = 0 := by decide
    have q0 : nI (dif s A) = 0 ↔ dif s A = 0 := by
      have := dif_le s A
      exact nI_inj (b := 0) (by omega) (by omega)
    rw [s_M_hauls_48, if_neg g1, s_M_hauls_55, and_not hs2 hAA]
    by_cases c1 : dif s A = 0
    · rw [if_pos (q0.mpr c1)]
      obtain ⟨bq, hbq, hbx⟩ := c_M_better (X := X) (d := d + 4) (σ := ub σ 4 (mdC M)) hs2 hb
      simp only [s_M_hauls_65, s_M_hauls_72, Option.bind_some, Option.bind_none, Option.toList_some, Option.toList_none, List.cons_append, List.nil_append, List.append_nil, hbx]
      by_cases c2 : btr s b
      · rw [if_neg (fun e => hbq.mp e c2), s_M_hauls_75, s_M_hauls_80, if_neg z10]
        have hsub := (dif_0 hs2 hAA).mp c1
        have hf2 : ∀ i, i < cn S → (s).testBit i = true → hN S o i = rN S i o := by
          intro i hi hb2
          refine hN_eq ?_
          rw [← hA]
          first
          | exact hsub i hb2
          | (rw [dif_bit hAA hs2] at hb2
             cases hx : A.testBit i with
             | true => rfl
             | false => rw [hx] at hb2; exact absurd hb2 (by simp))
        have hY : s < 256 := by
          have := dif_le A s
          omega
        obtain ⟨N1, hN1, hx1⟩ := c_M_ropeOfBy (X := X) (d := d) (σ := σ) hI h hY ho
        have er := rsL_sm S o (s) (hN S o) hf2 (cn S) 0 (by omega)
        have er' : rsL S (s) o (cn S) 0 0 = nI (smN (hN S o) (s) (cn S)) := er
        rw [er'] at hx1
        have hle := smN_le (hN_le S o) (s) (cn S)
        have hc8 := hI.1.1.2
        have cmp1 : nI f ≤ nI (smN (hN S o) (s) (cn S)) ↔ f ≤ smN (hN S o) (s) (cn S) := nI_le_iff (by omega) (by omega)
        have cmp2 : nI (smN (hN S o) (s) (cn S)) < nI f ↔ smN (hN S o) (s) (cn S) < f := nI_lt_iff (by omega) (by omega)
        by_cases c3 : f ≤ smN (hN S o) s (cn S)
        · first
          | (simp only [s_M_hauls_87, s_M_hauls_99, Option.bind_some, Option.bind_none, Option.toList_some, Option.toList_none, List.cons_append, List.nil_append, List.append_nil, mv_0, and_not hAA hs2, hx1, cmp1, if_neg (show ¬ f ≤ smN (hN S o) (s) (cn S) from fun e => absurd c3 (by omega))]
             exact take N1 1 hN1 ⟨⟨c1, c3⟩, c2⟩)
          | (simp only [s_M_hauls_87, s_M_hauls_94, Option.bind_some, Option.bind_none, Option.toList_some, Option.toList_none, List.cons_append, List.nil_append, List.append_nil, mv_0, hx1, cmp2, if_neg (show ¬ smN (hN S o) (s) (cn S) < f from fun e => absurd c3 (by omega))]
             exact take N1 1 hN1 ⟨⟨c1, c3⟩, c2⟩)
        · first
          | (simp only [s_M_hauls_87, s_M_hauls_99, Option.bind_some, Option.bind_none, Option.toList_some, Option.toList_none, List.cons_append, List.nil_append, List.append_nil, mv_0, and_not hAA hs2, hx1, cmp1, if_pos (show f ≤ smN (hN S o) (s) (cn S) from Nat.le_of_not_lt c3)]
             exact skip N1 1 hN1 (fun e => c3 e.1.2))
          | (simp only [s_M_hauls_87, s_M_hauls_94, Option.bind_some, Option.bind_none, Option.toList_some, Option.toList_none, List.cons_append, List.nil_append, List.append_nil, mv_0, hx1, cmp2, if_pos (show smN (hN S o) (s) (cn S) < f from Nat.lt_of_not_le c3)]
             exact skip N1 1 hN1 (fun e => c3 e.1.2))
      · rw [if_pos (hbq.mpr c2), s_M_hauls_79, s_M_hauls_80, if_pos rfl]
        exact skip M 0 (SF.rfl' M) (fun e => c2 e.2)
    · rw [if_neg (fun e => c1 (q0.mp e)), s_M_hauls_79, s_M_hauls_80, if_pos rfl]
      exact skip M 0 (SF.rfl' M) (fun e => c1 e.1.1)
theorem full_bit {n i : Nat} (h : i < n) : (2 ^ n - 1).testBit i = true := by rw [Nat.testBit_two_pow_sub_one]; exact decide_eq_true h
theorem cut_P (S : xS) {o f s : Nat} (hc : cn S ≤ 8) (hs : s < 256) : smA (hN S o) (cn S) < f + smN (hN S o) s (cn S) ↔ smN (hN S o) (dif (abS S o (cn S)) s) (cn S) < f := by
  rw [smN_dif hs (abS_256 S o hc) (cn S) (fun i hi h => hN_A hi h)]
  omega
theorem cut_res (hI : okI S) {o f : Nat} (hf : 1 ≤ f) : mwL (fun s => dif s (abS S o (cn S)) = 0 ∧ smN (hN S o) (dif (abS S o (cn S)) s) (cn S) < f) (abS S o (cn S) + 1) 0 none = some (cutB S o f) := by
  have hc := hI.1.1.2
  have hb := mw_best (C := fun s => dif s (abS S o (cn S)) = 0 ∧ smN (hN S o) (dif (abS S o (cn S)) s) (cn S) < f) (abS S o (cn S) + 1) 0 none (fun t ht => absurd ht (Nat.not_lt_zero t))
  rw [Nat.zero_add] at hb
  generalize mwL _ _ _ _ = r at hb ⊢
  unfold cutB
  have hA2 := abS_256 S o hc
  have h256 := pow_256 hc
  refine fw_mw hc (abS_lt S o (cn S)) ?_ ?_ ?_
  · rw [smN_full (cn S) (fun i hi => full_bit hi)]
    omega
  · intro s hs hp
    have hs2 : s < 256 := by omega
    have hs3 : s &&& abS S o (cn S) < 256 := Nat.lt_of_le_of_lt Nat.and_le_left hs2
    have e : smN (hN S o) (s &&& abS S o (cn S)) (cn S) = smN (hN S o) s (cn S) := by
      apply smN_bits
      intro i hi h
      rw [Nat.testBit_and, hN_A hi h, Bool.and_true]
    show _ < f + smN (hN S o) (s &&& abS S o (cn S)) (cn S)
    rw [e]
    exact hp
  · have conv : ∀ s, s < abS S o (cn S) + 1 → ((dif s (abS S o (cn S)) = 0 ∧ smN (hN S o) (dif (abS S o (cn S)) s) (cn S) < f) ↔ (dif s (abS S o (cn S)) = 0 ∧ smA (hN S o) (cn S) < f + smN (hN S o) s (cn S))) := by
      intro s hs
      rw [cut_P S hc (by omega)]
    cases r with
    | none => exact fun t ht hct => hb t ht ((conv t ht).mpr hct)
    | some m =>
      obtain ⟨r1, r2, r3⟩ := hb
      exact ⟨r1, (conv m r1).mp r2, fun t ht hct => r3 t ht ((conv t ht).mpr hct)⟩
theorem hau_res (hI : okI S) {o f : Nat} : mwL (fun s => dif s (abS S o (cn S)) = 0 ∧ f ≤ smN (hN S o) s (cn S)) (abS S o (cn S) + 1) 0 none = if smA (hN S o) (cn S) < f then none else some (hauB S o f) := by
  have hc := hI.1.1.2
  have hb := mw_best (C := fun s => dif s (abS S o (cn S)) = 0 ∧ f ≤ smN (hN S o) s (cn S)) (abS S o (cn S) + 1) 0 none (fun t ht => absurd ht (Nat.not_lt_zero t))
  rw [Nat.zero_add] at hb
  generalize mwL _ _ _ _ = r at hb ⊢
  by_cases ht : smA (hN S o) (cn S) < f
  · rw [if_pos ht]
    cases r with
    | none => rfl
    | some m =>
      obtain ⟨r1, ⟨r2, r3⟩, r4⟩ := hb
      have := smN_le_A (f := hN S o) (s := m) (cn S)
      omega
  · rw [if_neg ht]
    unfold hauB
    refine fw_mw hc (abS_lt S o (cn S)) ?_ ?_ hb
    · rw [smN_full (cn S) (fun i hi => full_bit hi)]
      omega
    · intro s hs hp
      have e : smN (hN S o) (s &&& abS S o (cn S)) (cn S) = smN (hN S o) s (cn S) := by
        apply smN_bits
        intro i hi h
        rw [Nat.testBit_and, hN_A hi h, Bool.and_true]
      show f ≤ smN (hN S o) (s &&& abS S o (cn S)) (cn S)
      rw [e]
      exact hp
theorem cutB_lt (hI : okI S) (o f : Nat) : cutB S o f < 256 := by
  have h256 := pow_256 hI.1.1.2
  exact fwL_lt _ _ _ _ (by omega) (by omega)
theorem hauB_lt (hI : okI S) (o f : Nat) : hauB S o f < 256 := by
  have h256 := pow_256 hI.1.1.2
  exact fwL_lt _ _ _ _ (by omega) (by omega)
theorem m_cuts (hI : okI S) (hM : RM M R S K) (p far w : Int32) : MC X (d + 7) j_M_cuts [.int p, .int far, .int w] M (sp_cuts R S K p far w) := by
  intro σ
  have h := hM.row
  have ee : ∃ N : xS, RM N (er R 1) S K ∧ xrun (X, xcall X (d + 6)) j_M_cuts 28 [.ref (sh 4 0), .int p, .int far, .int w, .null, .null, .null, .null] [] (ub σ 4 (mdC M)) = some (some (.int (lw 1)), ub σ 4 (mdC N)) := by
    obtain ⟨N, hQ, hx⟩ := c_M_error1 (X := X) (d := d + 5) (σ := σ) hM
    refine ⟨N, hQ, ?_⟩
    simp only [s_M_cuts_28, s_M_cuts_34, Option.bind_some, Option.bind_none, Option.toList_some, Option.toList_none, List.cons_append, List.nil_append, List.append_nil, mv_0, hx]
  rw [e_M_cuts]
  unfold sp_cuts
  simp only [s_M_cuts_0, s_M_cuts_5, Option.bind_some, Option.bind_none, Option.toList_some, Option.toList_none, List.cons_append, List.nil_append, List.append_nil, mv_0, c_M_isPerson h, z1_0]
  by_cases h1 : hasP S p
  · rw [if_neg (not_not_intro h1)]
    simp only [s_M_cuts_8, s_M_cuts_16, Option.bind_some, Option.bind_none, Option.toList_some, Option.toList_none, List.cons_append, List.nil_append, List.append_nil, c_M_in, z1_0]
    by_cases h2 : 1 ≤ far ∧ far ≤ 500
    · rw [if_neg (not_not_intro h2)]
      simp only [s_M_cuts_19, s_M_cuts_25, Option.bind_some, Option.bind_none, Option.toList_some, Option.toList_none, List.cons_append, List.nil_append, List.append_nil, c_M_in, z1_0]
      by_cases h3 : 0 ≤ w ∧ w ≤ 1
      · rw [if_neg (not_not_intro h3), if_neg (not_not_intro (⟨h1, h2, h3⟩ : hasP S p ∧ (1 ≤ far ∧ far ≤ 500) ∧ (0 ≤ w ∧ w ≤ 1)))]
        obtain ⟨k, rfl, -, hk8⟩ := hasP_ix hI.1 h1
        have ek := ix_nI (Nat.lt_trans hk8 (by decide))
        obtain ⟨f, rfl, hf1, hf2⟩ := i32_far h2
        have ef : ix (nI f) = f := ix_nI (by omega)
        rw [ek, ef]
        obtain ⟨N, l7, hQ, hx⟩ := l_M_cuts (X := X) (d := d) (σ := σ) hI hk8 hf2 w (A := abS S k (cn S)) rfl (abS S k (cn S) + 1) 0 none .null M h (by omega) (fun m hm => by cases hm)
        rw [cut_res hI hf1] at hx
        have hx' : xrun (X, xcall X (d + 6)) j_M_cuts 48 [.ref (sh 4 0), .int (nI k), .int (nI f), .int w, .int (nI (abS S k (cn S))), .int (-1 : Int32), .int (0 : Int32), .null] [] (ub σ 4 (mdC M)) = xrun (X, xcall X (d + 6)) j_M_cuts 118 [.ref (sh 4 0), .int (nI k), .int (nI f), .int w, .int (nI (abS S k (cn S))), .int (nI (cutB S k f)), .int (nI (abS S k (cn S) + 1)), l7] [] (ub σ 4 (mdC N)) := hx
        refine ⟨N, hQ.rm hM, ?_⟩
        simp only [s_M_cuts_35, s_M_cuts_40, Option.bind_some, Option.bind_none, Option.toList_some, Option.toList_none, List.cons_append, List.nil_append, List.append_nil, mv_0, c_M_ashoreBut hI.1 h hk8, hx', s_M_cuts_118]
        by_cases hw : w = 0
        · rw [if_pos hw, if_pos hw]
          simp only [s_M_cuts_122, s_M_cuts_127, s_M_cuts_132, Option.bind_some, Option.bind_none, Option.toList_some, Option.toList_none, List.cons_append, List.nil_append, List.append_nil, c_M_bits (cutB_lt hI k f)]
        · rw [if_neg hw, if_neg hw, s_M_cuts_130, s_M_cuts_132]
      · rw [if_pos h3, if_pos (fun e : hasP S p ∧ (1 ≤ far ∧ far ≤ 500) ∧ (0 ≤ w ∧ w ≤ 1) => h3 e.2.2)]
        exact ee
    · rw [if_pos h2, if_pos (fun e : hasP S p ∧ (1 ≤ far ∧ far ≤ 500) ∧ (0 ≤ w ∧ w ≤ 1) => h2 e.2.1)]
      exact ee
  · rw [if_pos h1, if_pos (fun e : hasP S p ∧ (1 ≤ far ∧ far ≤ 500) ∧ (0 ≤ w ∧ w ≤ 1) => h1 e.1)]
    exact ee
theorem m_hauls (hI : okI S) (hM : RM M R S K) (p far w : Int32) : MC X (d + 7) j_M_hauls [.int p, .int far, .int w] M (sp_hauls R S K p far w) := by
  intro σ
  have h := hM.row
  have ee : ∃ N : xS, RM N (er R 1) S K ∧ xrun (X, xcall X (d + 6)) j_M_hauls 28 [.ref (sh 4 0), .int p, .int far, .int w, .null, .null, .null, .null] [] (ub σ 4 (mdC M)) = some (some (.int (lw 1)), ub σ 4 (mdC N)) := by
    obtain ⟨N, hQ, hx⟩ := c_M_error1 (X := X) (d := d + 5) (σ := σ) hM
    refine ⟨N, hQ, ?_⟩
    simp only [s_M_hauls_28, s_M_hauls_34, Option.bind_some, Option.bind_none, Option.toList_some, Option.toList_none, List.cons_append, List.nil_append, List.append_nil, mv_0, hx]
  rw [e_M_hauls]
  unfold sp_hauls
  simp only [s_M_hauls_0, s_M_hauls_5, Option.bind_some, Option.bind_none, Option.toList_some, Option.toList_none, List.cons_append, List.nil_append, List.append_nil, mv_0, c_M_isPerson h, z1_0]
  by_cases h1 : hasP S p
  · rw [if_neg (not_not_intro h1)]
    simp only [s_M_hauls_8, s_M_hauls_16, Option.bind_some, Option.bind_none, Option.toList_some, Option.toList_none, List.cons_append, List.nil_append, List.append_nil, c_M_in, z1_0]
    by_cases h2 : 1 ≤ far ∧ far ≤ 500
    · rw [if_neg (not_not_intro h2)]
      simp only [s_M_hauls_19, s_M_hauls_25, Option.bind_some, Option.bind_none, Option.toList_some, Option.toList_none, List.cons_append, List.nil_append, List.append_nil, c_M_in, z1_0]
      by_cases h3 : 0 ≤ w ∧ w ≤ 1
      · rw [if_neg (not_not_intro h3), if_neg (not_not_intro (⟨h1, h2, h3⟩ : hasP S p ∧ (1 ≤ far ∧ far ≤ 500) ∧ (0 ≤ w ∧ w ≤ 1)))]
        obtain ⟨k, rfl, -, hk8⟩ := hasP_ix hI.1 h1
        have ek := ix_nI (Nat.lt_trans hk8 (by decide))
        obtain ⟨f, rfl, hf1, hf2⟩ := i32_far h2
        have ef : ix (nI f) = f := ix_nI (by omega)
        rw [ek, ef]
        obtain ⟨N, l7, hQ, hx⟩ := l_M_hauls (X := X) (d := d) (σ := σ) hI hk8 hf2 w (A := abS S k (cn S)) rfl (abS S k (cn S) + 1) 0 none .null M h (by omega) (fun m hm => by cases hm)
        rw [hau_res hI] at hx
        have hM' := hQ.rm hM
        by_cases ht : smA (hN S k) (cn S) < f
        · rw [if_pos ht] at hx ⊢
          have hx' : xrun (X, xcall X (d + 6)) j_M_hauls 48 [.ref (sh 4 0), .int (nI k), .int (nI f), .int w, .int (nI (abS S k (cn S))), .int (-1 : Int32), .int (0 : Int32), .null] [] (ub σ 4 (mdC M)) = xrun (X, xcall X (d + 6)) j_M_hauls 113 [.ref (sh 4 0), .int (nI k), .int (nI f), .int w, .int (nI (abS S k (cn S))), .int (-1 : Int32), .int (nI (abS S k (cn S) + 1)), l7] [] (ub σ 4 (mdC N)) := hx
          have z : ¬ (0 : Int32) ≤ -1 := by decide
          obtain ⟨N', hQ', hx2⟩ := c_M_error2 (X := X) (d := d + 5) (σ := σ) hM'
          refine ⟨N', hQ', ?_⟩
          simp only [s_M_hauls_35, s_M_hauls_40, Option.bind_some, Option.bind_none, Option.toList_some, Option.toList_none, List.cons_append, List.nil_append, List.append_nil, mv_0, c_M_ashoreBut hI.1 h hk8, hx', s_M_hauls_113, if_neg z, s_M_hauls_118, s_M_hauls_124, s_M_hauls_141, hx2]
          rfl
        · rw [if_neg ht] at hx ⊢
          have hx' : xrun (X, xcall X (d + 6)) j_M_hauls 48 [.ref (sh 4 0), .int (nI k), .int (nI f), .int w, .int (nI (abS S k (cn S))), .int (-1 : Int32), .int (0 : Int32), .null] [] (ub σ 4 (mdC M)) = xrun (X, xcall X (d + 6)) j_M_hauls 113 [.ref (sh 4 0), .int (nI k), .int (nI f), .int w, .int (nI (abS S k (cn S))), .int (nI (hauB S k f)), .int (nI (abS S k (cn S) + 1)), l7] [] (ub σ 4 (mdC N)) := hx
          have hlt := hauB_lt hI k f
          have z : (0 : Int32) ≤ nI (hauB S k f) := nI_pos' (by omega)
          refine ⟨N, hM', ?_⟩
          simp only [s_M_hauls_35, s_M_hauls_40, Option.bind_some, Option.bind_none, Option.toList_some, Option.toList_none, List.cons_append, List.nil_append, List.append_nil, mv_0, c_M_ashoreBut hI.1 h hk8, hx', s_M_hauls_113, if_pos z, s_M_hauls_127]
          by_cases hw : w = 0
          · rw [if_pos hw, if_pos hw]
            simp only [s_M_hauls_131, s_M_hauls_136, s_M_hauls_141, Option.bind_some, Option.bind_none, Option.toList_some, Option.toList_none, List.cons_append, List.nil_append, List.append_nil, c_M_bits hlt]
          · rw [if_neg hw, if_neg hw, s_M_hauls_139, s_M_hauls_141]
      · rw [if_pos h3, if_pos (fun e : hasP S p ∧ (1 ≤ far ∧ far ≤ 500) ∧ (0 ≤ w ∧ w ≤ 1) => h3 e.2.2)]
        exact ee
    · rw [if_pos h2, if_pos (fun e : hasP S p ∧ (1 ≤ far ∧ far ≤ 500) ∧ (0 ≤ w ∧ w ≤ 1) => h2 e.2.1)]
      exact ee
  · rw [if_pos h1, if_pos (fun e : hasP S p ∧ (1 ≤ far ∧ far ≤ 500) ∧ (0 ≤ w ∧ w ≤ 1) => h1 e.1)]
    exact ee
end MSets
