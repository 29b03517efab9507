/-! ===== contracts: RopeShore's calls, 6: sets ===== -/
def pcN : Nat → Nat → Nat
  | 0, _ => 0
  | n + 1, s => pcN n s + (if s.testBit n = true then 1 else 0)
theorem bct_pc : ∀ s : Nat, s < 256 → bct (nI s) = nI (pcN 8 s) := by decide +kernel
theorem pcN_le : ∀ n s : Nat, pcN n s ≤ n
  | 0, _ => Nat.le_refl _
  | n + 1, s => by
    unfold pcN
    have := pcN_le n s
    split <;> omega
theorem hel_ix {v : Int32} : hel v 0 199 = nI (ix (hel v 0 199)) ∧ ix (hel v 0 199) ≤ 199 := by
  have h : 0 ≤ hel v 0 199 ∧ hel v 0 199 ≤ 199 := by
    unfold hel
    by_cases h1 : v < 199
    · rw [if_pos h1]
      by_cases h2 : 0 < v
      · rw [if_pos h2]
        exact ⟨Int32.le_of_lt h2, Int32.le_of_lt h1⟩
      · rw [if_neg h2]
        exact ⟨by decide, by decide⟩
    · rw [if_neg h1]
      exact ⟨by decide, by decide⟩
  obtain ⟨k, hk, h199⟩ := i32_ix (v := hel v 0 199) (n := 199) (by decide) h
  rw [hk, ix_nI (Nat.lt_of_le_of_lt h199 (by decide))]
  exact ⟨rfl, h199⟩
/-- rope of i for o now, as a number -/
def rN (S : xS) (i o : Nat) : Nat := ix (rb S i o (S.1 4 (8 * i + o)))
theorem rN_eq (S : xS) (i o : Nat) : rb S i o (S.1 4 (8 * i + o)) = nI (rN S i o) := hel_ix.1
theorem rN_le (S : xS) (i o : Nat) : rN S i o ≤ 199 := hel_ix.2
noncomputable def hN (S : xS) (o i : Nat) : Nat := @ite _ (i ≠ o ∧ ash S i) (Classical.propDecidable _) (rN S i o) 0
theorem hN_le (S : xS) (o i : Nat) : hN S o i ≤ 199 := by
  unfold hN
  split
  · exact rN_le S i o
  · omega
def smN (f : Nat → Nat) (s : Nat) : Nat → Nat
  | 0 => 0
  | n + 1 => smN f s n + (if s.testBit n = true then f n else 0)
def smA (f : Nat → Nat) : Nat → Nat
  | 0 => 0
  | n + 1 => smA f n + f n
theorem smN_le {f : Nat → Nat} (hf : ∀ i, f i ≤ 199) (s : Nat) : ∀ n, smN f s n ≤ 199 * n
  | 0 => Nat.le_refl _
  | n + 1 => by
    unfold smN
    have := smN_le hf s n
    have := hf n
    split <;> omega
theorem smA_le {f : Nat → Nat} (hf : ∀ i, f i ≤ 199) : ∀ n, smA f n ≤ 199 * n
  | 0 => Nat.le_refl _
  | n + 1 => by
    unfold smA
    have := smA_le hf n
    have := hf n
    omega
/-- the fewest -/
noncomputable def fwL (P : Nat → Prop) : Nat → Nat → Nat → Nat
  | 0, _, b => b
  | k + 1, s, b => fwL P k (s + 1) (@ite _ (pcN 8 s < pcN 8 b ∧ P s) (Classical.propDecidable _) s b)
noncomputable def cutB (S : xS) (o far : Nat) : Nat := fwL (fun s => smA (hN S o) (cn S) < far + smN (hN S o) s (cn S)) (2 ^ cn S) 0 (2 ^ cn S - 1)
noncomputable def hauB (S : xS) (o far : Nat) : Nat := fwL (fun s => far ≤ smN (hN S o) s (cn S)) (2 ^ cn S) 0 (2 ^ cn S - 1)
noncomputable def sp_cuts (R S K : xS) (p far w : Int32) : Int32 × xQS :=
  if ¬ (hasP S p ∧ (1 ≤ far ∧ far ≤ 500) ∧ (0 ≤ w ∧ w ≤ 1)) then eQ 1 R S K
  else (nI (if w = 0 then pcN 8 (cutB S (ix p) (ix far)) else cutB S (ix p) (ix far)), R, S, K)
noncomputable def sp_hauls (R S K : xS) (p far w : Int32) : Int32 × xQS :=
  if ¬ (hasP S p ∧ (1 ≤ far ∧ far ≤ 500) ∧ (0 ≤ w ∧ w ≤ 1)) then eQ 1 R S K
  else if smA (hN S (ix p)) (cn S) < ix far then eQ 2 R S K
  else (nI (if w = 0 then pcN 8 (hauB S (ix p) (ix far)) else hauB S (ix p) (ix far)), R, S, K)
def ropv (S : xS) (i o : Nat) : Int32 := if i ≠ o ∧ S.1 3 i = 0 then rb S i o (S.1 4 (8 * i + o)) else 0
def soL (S : xS) (s o : Nat) : Nat → Nat → Int32 → Int32
  | 0, _, acc => acc
  | n + 1, i, acc => soL S s o n (i + 1) (if s.testBit i = false then acc + ropv S i o else acc)
def cbL (S : xS) (s : Nat) (need : Int32) : Nat → Nat → Bool
  | 0, _ => true
  | n + 1, o => if s.testBit o = true ∧ (¬ S.1 3 o = 0 ∨ soL S s o (cn S) 0 0 < need) then false else cbL S s need n (o + 1)
def ptL (P : Nat → Bool) : Nat → Nat → Nat → Nat
  | 0, _, b => b
  | k + 1, s, b => ptL P k (s + 1) (if pcN 8 b < pcN 8 s ∧ P s = true then s else b)
def parB (S : xS) (far : Int32) : Nat := ptL (fun s => cbL S s (far + 5 * S.2 3) (cn S) 0) (2 ^ cn S - 1) 1 0
def sp_party (R S K : xS) (far w : Int32) : Int32 × xQS :=
  if ¬ ((1 ≤ far ∧ far ≤ 500) ∧ (0 ≤ w ∧ w ≤ 1)) then eQ 1 R S K
  else (nI (if w = 0 then pcN 8 (parB S far) else parB S far), R, S, K)
theorem shl_pow : ∀ c : Nat, c < 9 → (1 : Int32) <<< (nI c &&& 31) = nI (2 ^ c) ∧ nI (2 ^ c) - 1 = nI (2 ^ c - 1) := by decide +kernel
theorem pow_256 {c : Nat} (h : c ≤ 8) : 2 ^ c ≤ 256 ∧ 1 ≤ 2 ^ c := ⟨Nat.pow_le_pow_right (n := 2) (by omega) h, Nat.one_le_two_pow⟩
section RSets
variable {X : xX} {d : Nat} {R S K : xS} {B2 B3 B4 : List xE}
theorem l_R_handsOn (hS : okS S) {o : Nat} (ho : o < 8) : ∀ (k i : Nat) (l4 : Value) (V Z : xS), i + k = cn S → (∀ j, j < i → V.1 0 j = nI (hN S o j)) → ∃ V' Z' : xS, (∀ j, j < cn S → V'.1 0 j = nI (hN S o j)) ∧
    xrun (X, xcall X (d + 4)) j_R_handsOn 4 [.ref (sh 0 0), .int (nI o), .int (nI (smA (hN S o) i)), .int (nI i), l4] [] (w5 (rsC R V) (shC 1 S Z) B2 B3 B4) = some (some (.int (nI (smA (hN S o) (cn S)))), w5 (rsC R V') (shC 1 S Z') B2 B3 B4) := by
  intro k
  obtain ⟨hc1, hc2⟩ := hS.1
  induction k with
  | zero =>
    intro i l4 V Z hi hV
    have hi' : i = cn S := by omega
    subst hi'
    have h1 : nI (cn S) ≤ nI (cn S) := (nI_le_iff (by omega) (by omega)).mpr (by omega)
    refine ⟨V, Z, hV, ?_⟩
    rw [s_R_handsOn_4]
    simp only [s_R_handsOn_9, s_R_handsOn_12, Option.bind_some, Option.bind_none, Option.toList_some, Option.toList_none, List.cons_append, List.nil_append, List.append_nil, nv_0, ng_0_0, ng_0_1, ng_0_2, ng_0_3, ng_0_4, ng_0_5, ng_0_6, ng_0_7, ng_0_8, ng_0_9, ng_0_10, ng_0_11, ng_0_12, ng_0_13, ng_0_14, rv_0, rg_0_0, rg_0_1, rg_0_2, rg_0_3, rg_0_4, rg_0_5, rg_0_6, rg_0_7, rg_0_8, rg_0_9, rv_17, rg_17_0, rg_17_1, hc1, if_pos h1, s_R_handsOn_86]
  | succ k ih =>
    intro i l4 V Z hi hV
    have h1 : ¬ nI (cn S) ≤ nI i := fun h => absurd ((nI_le_iff (by omega) (by omega)).mp h) (by omega)
    have hi8 : i < 8 := by omega
    have hV2 : ∀ j, j < i + 1 → (u2 V.1 0 (upd (V.1 0) i (nI (hN S o i))), V.2).1 0 j = nI (hN S o j) := by
      intro j hj
      show upd (V.1 0) i (nI (hN S o i)) j = _
      unfold upd
      by_cases e : j = i
      · rw [if_pos e, e]
      · rw [if_neg e]
        exact hV j (by omega)
    have hr : ∀ V : xS, xrd X (w5 (rsC R (u2 V.1 0 (upd (V.1 0) i (nI (hN S o i))), V.2)) (shC 1 S Z) B2 B3 B4) [0] (sh 0 3) (nI i) = some (nI (hN S o i)) := fun V => (rr_3 hi8).trans (by show some (upd (V.1 0) i (nI (hN S o i)) i) = _; unfold upd; rw [if_pos rfl])
    have zero : hN S o i = 0 → ∀ l4, ∃ V' Z' : xS, (∀ j, j < cn S → V'.1 0 j = nI (hN S o j)) ∧ xrun (X, xcall X (d + 4)) j_R_handsOn 35 [.ref (sh 0 0), .int (nI o), .int (nI (smA (hN S o) i)), .int (nI i), l4] [] (w5 (rsC R V) (shC 1 S Z) B2 B3 B4) = some (some (.int (nI (smA (hN S o) (cn S)))), w5 (rsC R V') (shC 1 S Z') B2 B3 B4) := by
      intro h0 l4
      have hr2 := hr V
      have hV3 := hV2
      rw [h0] at hr2 hV3
      have e : nI (smA (hN S o) i) + nI 0 = nI (smA (hN S o) (i + 1)) := by
        rw [nI_add]
        show _ = nI (smA (hN S o) i + hN S o i)
        rw [h0]
      obtain ⟨V', Z', hV', hx⟩ := ih (i + 1) (.int 0) _ Z (by omega) hV3
      refine ⟨V', Z', hV', ?_⟩
      rw [s_R_handsOn_35]
      have hw : xwr (w5 (rsC R V) (shC 1 S Z) B2 B3 B4) [0] (sh 0 3) (nI i) (0 : Int32) = some (w5 (rsC R (u2 V.1 0 (upd (V.1 0) i (nI 0)), V.2)) (shC 1 S Z) B2 B3 B4) := rw_3 hi8
      simp only [s_R_handsOn_36, s_R_handsOn_42, s_R_handsOn_69, s_R_handsOn_70, s_R_handsOn_71, s_R_handsOn_76, s_R_handsOn_78, Option.bind_some, Option.bind_none, Option.toList_some, Option.toList_none, List.cons_append, List.nil_append, List.append_nil, rv_0, rg_0_0, rg_0_1, rg_0_2, rg_0_3, rg_0_4, rg_0_5, rg_0_6, rg_0_7, rg_0_8, rg_0_9, rv_17, rg_17_0, rg_17_1, if_true, hw, hr2, e, nI_add1]
      exact hx
    rw [s_R_handsOn_4]
    simp only [s_R_handsOn_9, s_R_handsOn_12, Option.bind_some, Option.bind_none, Option.toList_some, Option.toList_none, List.cons_append, List.nil_append, List.append_nil, nv_0, ng_0_0, ng_0_1, ng_0_2, ng_0_3, ng_0_4, ng_0_5, ng_0_6, ng_0_7, ng_0_8, ng_0_9, ng_0_10, ng_0_11, ng_0_12, ng_0_13, ng_0_14, rv_0, rg_0_0, rg_0_1, rg_0_2, rg_0_3, rg_0_4, rg_0_5, rg_0_6, rg_0_7, rg_0_8, rg_0_9, rv_17, rg_17_0, rg_17_1, hc1, if_neg h1, s_R_handsOn_15, nI_inj (a := i) (b := o) (by omega) (by omega)]
    by_cases hio : i = o
    · rw [if_pos hio]
      exact zero (by unfold hN; rw [if_neg (fun e => e.1 hio)]) l4
    rw [if_neg hio]
    simp only [s_R_handsOn_20, s_R_handsOn_24, s_R_handsOn_28, Option.bind_some, Option.bind_none, Option.toList_some, Option.toList_none, List.cons_append, List.nil_append, List.append_nil, nv_0, ng_0_0, ng_0_1, ng_0_2, ng_0_3, ng_0_4, ng_0_5, ng_0_6, ng_0_7, ng_0_8, ng_0_9, ng_0_10, ng_0_11, ng_0_12, ng_0_13, ng_0_14, rv_0, rg_0_0, rg_0_1, rg_0_2, rg_0_3, rg_0_4, rg_0_5, rg_0_6, rg_0_7, rg_0_8, rg_0_9, rv_17, rg_17_0, rg_17_1, n_isAshore hi8, z1_0]
    by_cases ha : S.1 2 i = 0 ∧ S.1 3 i = 0
    · have hh : hN S o i = rN S i o := by unfold hN; rw [if_pos ⟨hio, ha⟩]
      have e : nI (smA (hN S o) i) + nI (hN S o i) = nI (smA (hN S o) (i + 1)) := by
        rw [nI_add]
        rfl
      obtain ⟨Z1, hr1⟩ := n_ropeBy (X := X) (d := d) (B0 := rsC R V) (B2 := B2) (B3 := B3) (B4 := B4) hS Z hi8 ho (S.1 4 (8 * i + o))
      rw [rN_eq, ← hh] at hr1
      obtain ⟨V', Z', hV', hx⟩ := ih (i + 1) (.int 1) _ Z1 (by omega) hV2
      refine ⟨V', Z', hV', ?_⟩
      have hrr : xrd X (w5 (rsC R (u2 V.1 0 (upd (V.1 0) i (nI (hN S o i))), V.2)) (shC 1 S Z1) B2 B3 B4) [0] (sh 0 3) (nI i) = some (nI (hN S o i)) := (rr_3 hi8).trans (by show some (upd (V.1 0) i (nI (hN S o i)) i) = _; unfold upd; rw [if_pos rfl])
      have hw : xwr (w5 (rsC R V) (shC 1 S Z1) B2 B3 B4) [0] (sh 0 3) (nI i) (nI (hN S o i)) = some (w5 (rsC R (u2 V.1 0 (upd (V.1 0) i (nI (hN S o i))), V.2)) (shC 1 S Z1) B2 B3 B4) := rw_3 hi8
      have z10 : ¬ (1 : Int32) = 0 := by decide
      rw [if_neg (not_not_intro ha), s_R_handsOn_31]
      simp only [s_R_handsOn_36, s_R_handsOn_42, if_neg z10, s_R_handsOn_48, s_R_handsOn_52, s_R_handsOn_58, s_R_handsOn_63, s_R_handsOn_66, s_R_handsOn_70, s_R_handsOn_71, s_R_handsOn_76, s_R_handsOn_78, Option.bind_some, Option.bind_none, Option.toList_some, Option.toList_none, List.cons_append, List.nil_append, List.append_nil, nv_0, ng_0_0, ng_0_1, ng_0_2, ng_0_3, ng_0_4, ng_0_5, ng_0_6, ng_0_7, ng_0_8, ng_0_9, ng_0_10, ng_0_11, ng_0_12, ng_0_13, ng_0_14, rv_0, rg_0_0, rg_0_1, rg_0_2, rg_0_3, rg_0_4, rg_0_5, rg_0_6, rg_0_7, rg_0_8, rg_0_9, rv_17, rg_17_0, rg_17_1, n_said hi8 ho, hr1, hw, hrr, e, nI_add1]
      exact hx
    · rw [if_pos ha]
      exact zero (by unfold hN; rw [if_neg (fun e => ha e.2)]) l4
theorem c_R_handsOn (hS : okS S) {o : Nat} (ho : o < 8) (V Z : xS) : ∃ V' Z' : xS, (∀ j, j < cn S → V'.1 0 j = nI (hN S o j)) ∧
    xcall X (d + 5) j_R_handsOn [.ref (sh 0 0), .int (nI o)] (w5 (rsC R V) (shC 1 S Z) B2 B3 B4) = some (some (.int (nI (smA (hN S o) (cn S)))), w5 (rsC R V') (shC 1 S Z') B2 B3 B4) := by
  rw [e_R_handsOn, s_R_handsOn_0]
  exact l_R_handsOn hS ho (cn S) 0 .null V Z (by omega) (fun j hj => absurd hj (by omega))
theorem l_R_holding (hS : okS S) {V Z : xS} {f : Nat → Nat} (hV : ∀ j, j < cn S → V.1 0 j = nI (f j)) {s : Nat} (hs : s < 256) : ∀ k i : Nat, i + k = cn S →
    xrun (X, xcall X d) j_R_holding 4 [.ref (sh 0 0), .int (nI s), .int (nI (smN f s i)), .int (nI i)] [] (w5 (rsC R V) (shC 1 S Z) B2 B3 B4) = some (some (.int (nI (smN f s (cn S)))), w5 (rsC R V) (shC 1 S Z) B2 B3 B4) := by
  intro k
  obtain ⟨hc1, hc2⟩ := hS.1
  induction k with
  | zero =>
    intro i hi
    have hi' : i = cn S := by omega
    subst hi'
    have h1 : nI (cn S) ≤ nI (cn S) := (nI_le_iff (by omega) (by omega)).mpr (by omega)
    rw [s_R_holding_4]
    simp only [s_R_holding_9, s_R_holding_12, Option.bind_some, Option.bind_none, Option.toList_some, Option.toList_none, List.cons_append, List.nil_append, List.append_nil, nv_0, ng_0_0, ng_0_1, ng_0_2, ng_0_3, ng_0_4, ng_0_5, ng_0_6, ng_0_7, ng_0_8, ng_0_9, ng_0_10, ng_0_11, ng_0_12, ng_0_13, ng_0_14, rv_0, rg_0_0, rg_0_1, rg_0_2, rg_0_3, rg_0_4, rg_0_5, rg_0_6, rg_0_7, rg_0_8, rg_0_9, rv_17, rg_17_0, rg_17_1, hc1, if_pos h1, s_R_holding_38]
  | succ k ih =>
    intro i hi
    have h1 : ¬ nI (cn S) ≤ nI i := fun h => absurd ((nI_le_iff (by omega) (by omega)).mp h) (by omega)
    have hi8 : i < 8 := by omega
    have hx := ih (i + 1) (by omega)
    rw [s_R_holding_4]
    simp only [s_R_holding_9, s_R_holding_12, Option.bind_some, Option.bind_none, Option.toList_some, Option.toList_none, List.cons_append, List.nil_append, List.append_nil, nv_0, ng_0_0, ng_0_1, ng_0_2, ng_0_3, ng_0_4, ng_0_5, ng_0_6, ng_0_7, ng_0_8, ng_0_9, ng_0_10, ng_0_11, ng_0_12, ng_0_13, ng_0_14, rv_0, rg_0_0, rg_0_1, rg_0_2, rg_0_3, rg_0_4, rg_0_5, rg_0_6, rg_0_7, rg_0_8, rg_0_9, rv_17, rg_17_0, rg_17_1, hc1, if_neg h1, s_R_holding_15, and_bit i hi8 s hs]
    by_cases hb : s.testBit i = true
    · have e : nI (smN f s i) + nI (f i) = nI (smN f s (i + 1)) := by
        rw [nI_add]
        show _ = nI (smN f s i + (if s.testBit i = true then f i else 0))
        rw [if_pos hb]
      rw [if_neg (by rw [hb]; decide)]
      simp only [s_R_holding_23, s_R_holding_28, s_R_holding_30, s_R_holding_32, Option.bind_some, Option.bind_none, Option.toList_some, Option.toList_none, List.cons_append, List.nil_append, List.append_nil, rv_0, rg_0_0, rg_0_1, rg_0_2, rg_0_3, rg_0_4, rg_0_5, rg_0_6, rg_0_7, rg_0_8, rg_0_9, rv_17, rg_17_0, rg_17_1, rr_3 hi8, hV i (by omega), e, nI_add1]
      exact hx
    · have e : smN f s (i + 1) = smN f s i := by
        show smN f s i + (if s.testBit i = true then f i else 0) = _
        rw [if_neg hb, Nat.add_zero]
      rw [if_pos (by revert hb; cases s.testBit i <;> simp), s_R_holding_32, nI_add1, ← e]
      exact hx
theorem c_R_holding (hS : okS S) {V Z : xS} {f : Nat → Nat} (hV : ∀ j, j < cn S → V.1 0 j = nI (f j)) {s : Nat} (hs : s < 256) :
    xcall X (d + 1) j_R_holding [.ref (sh 0 0), .int (nI s)] (w5 (rsC R V) (shC 1 S Z) B2 B3 B4) = some (some (.int (nI (smN f s (cn S)))), w5 (rsC R V) (shC 1 S Z) B2 B3 B4) := by
  rw [e_R_holding, s_R_holding_0]
  exact l_R_holding hS hV hs (cn S) 0 (by omega)
theorem l_R_fewest (hS : okS S) {V Z : xS} {f : Nat → Nat} (hV : ∀ j, j < cn S → V.1 0 j = nI (f j)) {need : Int32} {P : Nat → Prop} (hP : ∀ s, s < 256 → (P s ↔ ¬ nI (smN f s (cn S)) < need)) : ∀ k s b : Nat, s + k = 2 ^ cn S → b < 256 →
    xrun (X, xcall X (d + 1)) j_R_fewestHolding 14 [.ref (sh 0 0), .int need, .int (nI b), .int (nI s)] [] (w5 (rsC R V) (shC 1 S Z) B2 B3 B4) = some (some (.int (nI (fwL P k s b))), w5 (rsC R V) (shC 1 S Z) B2 B3 B4) := by
  intro k
  obtain ⟨hc1, hc2⟩ := hS.1
  obtain ⟨hp1, hp2⟩ := pow_256 hc2
  obtain ⟨hs1, hs2⟩ := shl_pow (cn S) (by omega)
  induction k with
  | zero =>
    intro s b hi hb
    have h1 : nI (2 ^ cn S) ≤ nI s := (nI_le_iff (by omega) (by omega)).mpr (by omega)
    rw [s_R_fewestHolding_14]
    simp only [s_R_fewestHolding_20, s_R_fewestHolding_23, Option.bind_some, Option.bind_none, Option.toList_some, Option.toList_none, List.cons_append, List.nil_append, List.append_nil, nv_0, ng_0_0, ng_0_1, ng_0_2, ng_0_3, ng_0_4, ng_0_5, ng_0_6, ng_0_7, ng_0_8, ng_0_9, ng_0_10, ng_0_11, ng_0_12, ng_0_13, ng_0_14, rv_0, rg_0_0, rg_0_1, rg_0_2, rg_0_3, rg_0_4, rg_0_5, rg_0_6, rg_0_7, rg_0_8, rg_0_9, rv_17, rg_17_0, rg_17_1, hc1, hs1, if_pos h1, s_R_fewestHolding_55]
    rfl
  | succ k ih =>
    intro s b hi hb
    have hs256 : s < 256 := by omega
    have h1 : ¬ nI (2 ^ cn S) ≤ nI s := fun h => absurd ((nI_le_iff (by omega) (by omega)).mp h) (by omega)
    have hb1 := pcN_le 8 s
    have hb2 := pcN_le 8 b
    have keep : ¬ (pcN 8 s < pcN 8 b ∧ P s) → xrun (X, xcall X (d + 1)) j_R_fewestHolding 49 [.ref (sh 0 0), .int need, .int (nI b), .int (nI s)] [] (w5 (rsC R V) (shC 1 S Z) B2 B3 B4) = some (some (.int (nI (fwL P (k + 1) s b))), w5 (rsC R V) (shC 1 S Z) B2 B3 B4) := by
      intro hn
      have he : fwL P (k + 1) s b = fwL P k (s + 1) b := by
        show fwL P k (s + 1) (@ite _ (pcN 8 s < pcN 8 b ∧ P s) (Classical.propDecidable _) s b) = _
        rw [if_neg hn]
      rw [s_R_fewestHolding_49, nI_add1, he]
      exact ih (s + 1) b (by omega) hb
    rw [s_R_fewestHolding_14]
    simp only [s_R_fewestHolding_20, s_R_fewestHolding_23, s_R_fewestHolding_27, s_R_fewestHolding_31, s_R_fewestHolding_35, Option.bind_some, Option.bind_none, Option.toList_some, Option.toList_none, List.cons_append, List.nil_append, List.append_nil, nv_0, ng_0_0, ng_0_1, ng_0_2, ng_0_3, ng_0_4, ng_0_5, ng_0_6, ng_0_7, ng_0_8, ng_0_9, ng_0_10, ng_0_11, ng_0_12, ng_0_13, ng_0_14, rv_0, rg_0_0, rg_0_1, rg_0_2, rg_0_3, rg_0_4, rg_0_5, rg_0_6, rg_0_7, rg_0_8, rg_0_9, rv_17, rg_17_0, rg_17_1, hc1, hs1, if_neg h1, c_Integer_bitCount, bct_pc s hs256, bct_pc b hb, nI_le_iff (a := pcN 8 b) (b := pcN 8 s) (by omega) (by omega)]
    by_cases h2 : pcN 8 b ≤ pcN 8 s
    · rw [if_pos h2]
      exact keep (fun e => absurd e.1 (by omega))
    · rw [if_neg h2]
      simp only [s_R_fewestHolding_38, s_R_fewestHolding_43, Option.bind_some, Option.bind_none, Option.toList_some, Option.toList_none, List.cons_append, List.nil_append, List.append_nil, rv_0, rg_0_0, rg_0_1, rg_0_2, rg_0_3, rg_0_4, rg_0_5, rg_0_6, rg_0_7, rg_0_8, rg_0_9, rv_17, rg_17_0, rg_17_1, c_R_holding hS hV hs256]
      by_cases h3 : nI (smN f s (cn S)) < need
      · rw [if_pos h3]
        exact keep (fun e => (hP s hs256).mp e.2 h3)
      · have he : fwL P (k + 1) s b = fwL P k (s + 1) s := by
          show fwL P k (s + 1) (@ite _ (pcN 8 s < pcN 8 b ∧ P s) (Classical.propDecidable _) s b) = _
          rw [if_pos ⟨by omega, (hP s hs256).mpr h3⟩]
        rw [if_neg h3, s_R_fewestHolding_47, s_R_fewestHolding_49, nI_add1, he]
        exact ih (s + 1) s (by omega) hs256
theorem c_R_fewest (hS : okS S) {V Z : xS} {f : Nat → Nat} (hV : ∀ j, j < cn S → V.1 0 j = nI (f j)) {need : Int32} {P : Nat → Prop} (hP : ∀ s, s < 256 → (P s ↔ ¬ nI (smN f s (cn S)) < need)) :
    xcall X (d + 2) j_R_fewestHolding [.ref (sh 0 0), .int need] (w5 (rsC R V) (shC 1 S Z) B2 B3 B4) = some (some (.int (nI (fwL P (2 ^ cn S) 0 (2 ^ cn S - 1)))), w5 (rsC R V) (shC 1 S Z) B2 B3 B4) := by
  obtain ⟨hc1, hc2⟩ := hS.1
  obtain ⟨hp1, hp2⟩ := pow_256 hc2
  obtain ⟨hs1, hs2⟩ := shl_pow (cn S) (by omega)
  rw [e_R_fewestHolding]
  simp only [s_R_fewestHolding_0, s_R_fewestHolding_5, s_R_fewestHolding_8, Option.bind_some, Option.bind_none, Option.toList_some, Option.toList_none, List.cons_append, List.nil_append, List.append_nil, nv_0, ng_0_0, ng_0_1, ng_0_2, ng_0_3, ng_0_4, ng_0_5, ng_0_6, ng_0_7, ng_0_8, ng_0_9, ng_0_10, ng_0_11, ng_0_12, ng_0_13, ng_0_14, rv_0, rg_0_0, rg_0_1, rg_0_2, rg_0_3, rg_0_4, rg_0_5, rg_0_6, rg_0_7, rg_0_8, rg_0_9, rv_17, rg_17_0, rg_17_1, hc1, hs1, hs2]
  exact l_R_fewest hS hV hP (2 ^ cn S) 0 (2 ^ cn S - 1) (by omega) (by omega)
theorem fwL_lt (P : Nat → Prop) : ∀ k s b : Nat, s + k ≤ 256 → b < 256 → fwL P k s b < 256
  | 0, _, _, _, h => h
  | k + 1, s, b, h1, h2 => by
    unfold fwL
    refine fwL_lt P k (s + 1) _ (by omega) ?_
    split
    · omega
    · exact h2
theorem ptL_lt (P : Nat → Bool) : ∀ k s b : Nat, s + k ≤ 256 → b < 256 → ptL P k s b < 256
  | 0, _, _, _, h => h
  | k + 1, s, b, h1, h2 => by
    unfold ptL
    refine ptL_lt P k (s + 1) _ (by omega) ?_
    split
    · omega
    · exact h2
theorem i32_far {far : Int32} (h : 1 ≤ far ∧ far ≤ 500) : ∃ n : Nat, far = nI n ∧ 1 ≤ n ∧ n ≤ 500 := by
  obtain ⟨n, rfl, hn⟩ := i32_ix (v := far) (n := 500) (by decide) ⟨Int32.le_trans (by decide) h.1, h.2⟩
  have := (nI_le_iff (a := 1) (b := n) (by omega) (by omega)).mp h.1
  exact ⟨n, rfl, this, hn⟩
theorem cut_need {t f m : Nat} (ht : t ≤ 2000) (hf : f ≤ 500) (hm : m ≤ 2000) : (t < f + m ↔ ¬ nI m < nI t - nI f + 1) := by
  rw [Int32.lt_iff_toInt_lt, Int32.toInt_add, Int32.toInt_sub, nI_toInt (by omega), nI_toInt (by omega), nI_toInt (by omega)]
  rw [show (1 : Int32).toInt = 1 from rfl]
  have e1 : ((t : Int) - f).bmod (2 ^ 32) = (t : Int) - f := Int.bmod_eq_of_le (by omega) (by omega)
  rw [e1]
  have e2 : ((t : Int) - f + 1).bmod (2 ^ 32) = (t : Int) - f + 1 := Int.bmod_eq_of_le (by omega) (by omega)
  rw [e2]
  omega
theorem q_cuts (hS : okS S) (p far w : Int32) : CQ X (d + 6) j_R_cuts [.ref (sh 0 0), .int p, .int far, .int w] R S K B4 (sp_cuts R S K p far w) := by
  intro V Z T Y U hT
  show ∃ V' Z' T' Y' U' : xS, okN T' ∧ xcall X (d + 6) j_R_cuts [.ref (sh 0 0), .int p, .int far, .int w] (w5 (rsC R V) (shC 1 S Z) (shC 2 T Y) (shC 3 K U) B4) = _
  obtain ⟨hc1, hc2⟩ := hS.1
  obtain ⟨hp1, hp2⟩ := pow_256 hc2
  rw [e_R_cuts]
  unfold sp_cuts
  simp only [s_R_cuts_0, s_R_cuts_4, s_R_cuts_8, s_R_cuts_11, s_R_cuts_19, s_R_cuts_22, s_R_cuts_28, s_R_cuts_31, s_R_cuts_36, Option.bind_some, Option.bind_none, Option.toList_some, Option.toList_none, List.cons_append, List.nil_append, List.append_nil, nv_0, ng_0_0, ng_0_1, ng_0_2, ng_0_3, ng_0_4, ng_0_5, ng_0_6, ng_0_7, ng_0_8, ng_0_9, ng_0_10, ng_0_11, ng_0_12, ng_0_13, ng_0_14, rv_0, rg_0_0, rg_0_1, rg_0_2, rg_0_3, rg_0_4, rg_0_5, rg_0_6, rg_0_7, rg_0_8, rg_0_9, rv_17, rg_17_0, rg_17_1, n_has, c_R_within, c_R_error1, z1_0]
  by_cases h1 : hasP S p
  · by_cases h2 : 1 ≤ far ∧ far ≤ 500
    · by_cases h3 : 0 ≤ w ∧ w ≤ 1
      · rw [if_neg (not_not_intro h1), if_neg (not_not_intro h2), if_neg (not_not_intro h3), if_neg (not_not_intro (show hasP S p ∧ (1 ≤ far ∧ far ≤ 500) ∧ (0 ≤ w ∧ w ≤ 1) from ⟨h1, h2, h3⟩))]
        obtain ⟨k, rfl, -, hk8⟩ := hasP_ix hS h1
        obtain ⟨F, rfl, hF1, hF2⟩ := i32_far h2
        obtain ⟨V', Z', hV', hh⟩ := c_R_handsOn (X := X) (d := d) (R := R) (B2 := shC 2 T Y) (B3 := shC 3 K U) (B4 := B4) hS hk8 V Z
        have ht : smA (hN S k) (cn S) ≤ 2000 := Nat.le_trans (smA_le (hN_le S k) (cn S)) (by omega)
        have hf := c_R_fewest (X := X) (d := d + 3) (R := R) (S := S) (Z := Z') (B2 := shC 2 T Y) (B3 := shC 3 K U) (B4 := B4) hS hV' (need := nI (smA (hN S k) (cn S)) - nI F + 1) (P := fun s => smA (hN S k) (cn S) < F + smN (hN S k) s (cn S)) (fun s hs => cut_need ht hF2 (Nat.le_trans (smN_le (hN_le S k) s (cn S)) (by omega)))
        refine ⟨V', Z', T, Y, U, hT, ?_⟩
        have hb : cutB S k F < 256 := fwL_lt _ _ _ _ (by omega) (by omega)
        simp only [s_R_cuts_37, s_R_cuts_43, s_R_cuts_50, Option.bind_some, Option.bind_none, Option.toList_some, Option.toList_none, List.cons_append, List.nil_append, List.append_nil, rv_0, rg_0_0, rg_0_1, rg_0_2, rg_0_3, rg_0_4, rg_0_5, rg_0_6, rg_0_7, rg_0_8, rg_0_9, rv_17, rg_17_0, rg_17_1, hh, hf, ix_nI (show k < 2 ^ 31 by omega), ix_nI (show F < 2 ^ 31 by omega)]
        by_cases h4 : w = 0
        · rw [if_pos h4, if_pos h4]
          simp only [s_R_cuts_56, s_R_cuts_61, s_R_cuts_66, Option.bind_some, Option.bind_none, Option.toList_some, Option.toList_none, List.cons_append, List.nil_append, List.append_nil, c_Integer_bitCount]
          rw [show bct (nI (fwL (fun s => smA (hN S k) (cn S) < F + smN (hN S k) s (cn S)) (2 ^ cn S) 0 (2 ^ cn S - 1))) = nI (pcN 8 (cutB S k F)) from bct_pc _ hb]
          rfl
        · rw [if_neg h4, if_neg h4, s_R_cuts_64, s_R_cuts_66]
          rfl
      · rw [if_neg (not_not_intro h1), if_neg (not_not_intro h2), if_pos h3, if_pos (fun e : hasP S p ∧ (1 ≤ far ∧ far ≤ 500) ∧ (0 ≤ w ∧ w ≤ 1) => h3 e.2.2)]
        exact ⟨V, Z, T, Y, U, hT, rfl⟩
    · rw [if_neg (not_not_intro h1), if_pos h2, if_pos (fun e : hasP S p ∧ (1 ≤ far ∧ far ≤ 500) ∧ (0 ≤ w ∧ w ≤ 1) => h2 e.2.1)]
      exact ⟨V, Z, T, Y, U, hT, rfl⟩
  · rw [if_pos h1, if_pos (fun e : hasP S p ∧ (1 ≤ far ∧ far ≤ 500) ∧ (0 ≤ w ∧ w ≤ 1) => h1 e.1)]
    exact ⟨V, Z, T, Y, U, hT, rfl⟩
theorem q_hauls (hS : okS S) (p far w : Int32) : CQ X (d + 6) j_R_hauls [.ref (sh 0 0), .int p, .int far, .int w] R S K B4 (sp_hauls R S K p far w) := by
  intro V Z T Y U hT
  show ∃ V' Z' T' Y' U' : xS, okN T' ∧ xcall X (d + 6) j_R_hauls [.ref (sh 0 0), .int p, .int far, .int w] (w5 (rsC R V) (shC 1 S Z) (shC 2 T Y) (shC 3 K U) B4) = _
  obtain ⟨hc1, hc2⟩ := hS.1
  obtain ⟨hp1, hp2⟩ := pow_256 hc2
  rw [e_R_hauls]
  unfold sp_hauls
  simp only [s_R_hauls_0, s_R_hauls_4, s_R_hauls_8, s_R_hauls_11, s_R_hauls_19, s_R_hauls_22, s_R_hauls_28, s_R_hauls_31, s_R_hauls_36, Option.bind_some, Option.bind_none, Option.toList_some, Option.toList_none, List.cons_append, List.nil_append, List.append_nil, nv_0, ng_0_0, ng_0_1, ng_0_2, ng_0_3, ng_0_4, ng_0_5, ng_0_6, ng_0_7, ng_0_8, ng_0_9, ng_0_10, ng_0_11, ng_0_12, ng_0_13, ng_0_14, rv_0, rg_0_0, rg_0_1, rg_0_2, rg_0_3, rg_0_4, rg_0_5, rg_0_6, rg_0_7, rg_0_8, rg_0_9, rv_17, rg_17_0, rg_17_1, n_has, c_R_within, c_R_error1, z1_0]
  by_cases h1 : hasP S p
  · by_cases h2 : 1 ≤ far ∧ far ≤ 500
    · by_cases h3 : 0 ≤ w ∧ w ≤ 1
      · rw [if_neg (not_not_intro h1), if_neg (not_not_intro h2), if_neg (not_not_intro h3), if_neg (not_not_intro (show hasP S p ∧ (1 ≤ far ∧ far ≤ 500) ∧ (0 ≤ w ∧ w ≤ 1) from ⟨h1, h2, h3⟩))]
        obtain ⟨k, rfl, -, hk8⟩ := hasP_ix hS h1
        obtain ⟨F, rfl, hF1, hF2⟩ := i32_far h2
        obtain ⟨V', Z', hV', hh⟩ := c_R_handsOn (X := X) (d := d) (R := R) (B2 := shC 2 T Y) (B3 := shC 3 K U) (B4 := B4) hS hk8 V Z
        have ht : smA (hN S k) (cn S) ≤ 2000 := Nat.le_trans (smA_le (hN_le S k) (cn S)) (by omega)
        have hsm : ∀ s, smN (hN S k) s (cn S) ≤ 2000 := fun s => Nat.le_trans (smN_le (hN_le S k) s (cn S)) (by omega)
        have hf := c_R_fewest (X := X) (d := d + 3) (R := R) (S := S) (Z := Z') (B2 := shC 2 T Y) (B3 := shC 3 K U) (B4 := B4) hS hV' (need := nI F) (P := fun s => F ≤ smN (hN S k) s (cn S)) (fun s hs => by
          have := hsm s
          rw [nI_lt_iff (by omega) (by omega)]
          omega)
        refine ⟨V', Z', T, Y, U, hT, ?_⟩
        have hb : hauB S k F < 256 := fwL_lt _ _ _ _ (by omega) (by omega)
        simp only [s_R_hauls_37, s_R_hauls_42, Option.bind_some, Option.bind_none, Option.toList_some, Option.toList_none, List.cons_append, List.nil_append, List.append_nil, rv_0, rg_0_0, rg_0_1, rg_0_2, rg_0_3, rg_0_4, rg_0_5, rg_0_6, rg_0_7, rg_0_8, rg_0_9, rv_17, rg_17_0, rg_17_1, hh, ix_nI (show k < 2 ^ 31 by omega), ix_nI (show F < 2 ^ 31 by omega), nI_le_iff (a := F) (b := smA (hN S k) (cn S)) (by omega) (by omega)]
        by_cases h5 : F ≤ smA (hN S k) (cn S)
        · rw [if_pos h5, if_neg (show ¬ smA (hN S k) (cn S) < F by omega)]
          simp only [s_R_hauls_52, s_R_hauls_57, Option.bind_some, Option.bind_none, Option.toList_some, Option.toList_none, List.cons_append, List.nil_append, List.append_nil, rv_0, rg_0_0, rg_0_1, rg_0_2, rg_0_3, rg_0_4, rg_0_5, rg_0_6, rg_0_7, rg_0_8, rg_0_9, rv_17, rg_17_0, rg_17_1, hf]
          by_cases h4 : w = 0
          · rw [if_pos h4, if_pos h4]
            simp only [s_R_hauls_63, s_R_hauls_68, s_R_hauls_73, Option.bind_some, Option.bind_none, Option.toList_some, Option.toList_none, List.cons_append, List.nil_append, List.append_nil, c_Integer_bitCount]
            rw [show bct (nI (fwL (fun s => F ≤ smN (hN S k) s (cn S)) (2 ^ cn S) 0 (2 ^ cn S - 1))) = nI (pcN 8 (hauB S k F)) from bct_pc _ hb]
            rfl
          · rw [if_neg h4, if_neg h4, s_R_hauls_71, s_R_hauls_73]
            rfl
        · rw [if_neg h5, if_pos (show smA (hN S k) (cn S) < F by omega)]
          simp only [s_R_hauls_46, s_R_hauls_51, Option.bind_some, Option.bind_none, Option.toList_some, Option.toList_none, List.cons_append, List.nil_append, List.append_nil, rv_0, rg_0_0, rg_0_1, rg_0_2, rg_0_3, rg_0_4, rg_0_5, rg_0_6, rg_0_7, rg_0_8, rg_0_9, rv_17, rg_17_0, rg_17_1, c_R_error2]
          rfl
      · rw [if_neg (not_not_intro h1), if_neg (not_not_intro h2), if_pos h3, if_pos (fun e : hasP S p ∧ (1 ≤ far ∧ far ≤ 500) ∧ (0 ≤ w ∧ w ≤ 1) => h3 e.2.2)]
        exact ⟨V, Z, T, Y, U, hT, rfl⟩
    · rw [if_neg (not_not_intro h1), if_pos h2, if_pos (fun e : hasP S p ∧ (1 ≤ far ∧ far ≤ 500) ∧ (0 ≤ w ∧ w ≤ 1) => h2 e.2.1)]
      exact ⟨V, Z, T, Y, U, hT, rfl⟩
  · rw [if_pos h1, if_pos (fun e : hasP S p ∧ (1 ≤ far ∧ far ≤ 500) ∧ (0 ≤ w ∧ w ≤ 1) => h1 e.1)]
    exact ⟨V, Z, T, Y, U, hT, rfl⟩
/-! party -/
theorem l_R_rr1 (hS : okS S) {i : Nat} (hi : i < cn S) : ∀ (k o : Nat) (l3 : Value) (V Z : xS), o + k = cn S → (∀ a, a < i → ∀ c, c < cn S → V.1 1 (8 * a + c) = ropv S a c) → (∀ c, c < o → V.1 1 (8 * i + c) = ropv S i c) → ∃ (V' Z' : xS) (l3' : Value), (∀ a, a < i + 1 → ∀ c, c < cn S → V'.1 1 (8 * a + c) = ropv S a c) ∧
    xrun (X, xcall X (d + 4)) j_R_readRopes 15 [.ref (sh 0 0), .int (nI i), .int (nI o), l3] [] (w5 (rsC R V) (shC 1 S Z) B2 B3 B4) = xrun (X, xcall X (d + 4)) j_R_readRopes 92 [.ref (sh 0 0), .int (nI i), .int (nI (cn S)), l3'] [] (w5 (rsC R V') (shC 1 S Z') B2 B3 B4) := by
  intro k
  obtain ⟨hc1, hc2⟩ := hS.1
  induction k with
  | zero =>
    intro o l3 V Z ho hA hB
    have ho' : o = cn S := by omega
    subst ho'
    have h1 : nI (cn S) ≤ nI (cn S) := (nI_le_iff (by omega) (by omega)).mpr (by omega)
    refine ⟨V, Z, l3, fun a ha c hc => ?_, ?_⟩
    · by_cases e : a = i
      · rw [e]; exact hB c hc
      · exact hA a (by omega) c hc
    rw [s_R_readRopes_15]
    simp only [s_R_readRopes_20, s_R_readRopes_23, Option.bind_some, Option.bind_none, Option.toList_some, Option.toList_none, List.cons_append, List.nil_append, List.append_nil, nv_0, ng_0_0, ng_0_1, ng_0_2, ng_0_3, ng_0_4, ng_0_5, ng_0_6, ng_0_7, ng_0_8, ng_0_9, ng_0_10, ng_0_11, ng_0_12, ng_0_13, ng_0_14, rv_0, rg_0_0, rg_0_1, rg_0_2, rg_0_3, rg_0_4, rg_0_5, rg_0_6, rg_0_7, rg_0_8, rg_0_9, rv_17, rg_17_0, rg_17_1, hc1, if_pos h1]
  | succ k ih =>
    intro o l3 V Z ho hA hB
    have h1 : ¬ nI (cn S) ≤ nI o := fun h => absurd ((nI_le_iff (by omega) (by omega)).mp h) (by omega)
    have ho8 : o < 8 := by omega
    have hi8 : i < 8 := by omega
    have hio64 : 8 * i + o < 64 := by omega
    have step : ∀ (l3 : Int32) (Z1 : xS), ∃ (V' Z' : xS) (l3' : Value), (∀ a, a < i + 1 → ∀ c, c < cn S → V'.1 1 (8 * a + c) = ropv S a c) ∧ xrun (X, xcall X (d + 4)) j_R_readRopes 85 [.ref (sh 0 0), .int (nI i), .int (nI o), .int l3] [.int (ropv S i o), .int (nI (8 * i + o)), .ref (sh 0 4)] (w5 (rsC R V) (shC 1 S Z1) B2 B3 B4) = xrun (X, xcall X (d + 4)) j_R_readRopes 92 [.ref (sh 0 0), .int (nI i), .int (nI (cn S)), l3'] [] (w5 (rsC R V') (shC 1 S Z') B2 B3 B4) := by
      intro l3 Z1
      have hw : xwr (w5 (rsC R V) (shC 1 S Z1) B2 B3 B4) [0] (sh 0 4) (nI (8 * i + o)) (ropv S i o) = some (w5 (rsC R (u2 V.1 1 (upd (V.1 1) (8 * i + o) (ropv S i o)), V.2)) (shC 1 S Z1) B2 B3 B4) := rw_4 hio64
      obtain ⟨V', Z', l3', hV', hx⟩ := ih (o + 1) (.int l3) (u2 V.1 1 (upd (V.1 1) (8 * i + o) (ropv S i o)), V.2) Z1 (by omega) (by
        intro a ha c hc
        show upd (V.1 1) (8 * i + o) (ropv S i o) (8 * a + c) = _
        unfold upd
        rw [if_neg (by omega)]
        exact hA a ha c hc) (by
        intro c hc
        show upd (V.1 1) (8 * i + o) (ropv S i o) (8 * i + c) = _
        unfold upd
        by_cases e : c = o
        · rw [if_pos (by omega), e]
        · rw [if_neg (by omega)]
          exact hB c (by omega))
      refine ⟨V', Z', l3', hV', ?_⟩
      rw [← hx]
      simp only [s_R_readRopes_85, s_R_readRopes_86, Option.bind_some, Option.bind_none, Option.toList_some, Option.toList_none, List.cons_append, List.nil_append, List.append_nil, hw, nI_add1]
    rw [s_R_readRopes_15]
    have h0 : (0 : Int32) = ropv S i o → ∃ (V' Z' : xS) (l3' : Value), (∀ a, a < i + 1 → ∀ c, c < cn S → V'.1 1 (8 * a + c) = ropv S a c) ∧ xrun (X, xcall X (d + 4)) j_R_readRopes 47 [.ref (sh 0 0), .int (nI i), .int (nI o), l3] [] (w5 (rsC R V) (shC 1 S Z) B2 B3 B4) = xrun (X, xcall X (d + 4)) j_R_readRopes 92 [.ref (sh 0 0), .int (nI i), .int (nI (cn S)), l3'] [] (w5 (rsC R V') (shC 1 S Z') B2 B3 B4) := by
      intro h0
      obtain ⟨V', Z', l3', hV', hx⟩ := step 0 Z
      refine ⟨V', Z', l3', hV', ?_⟩
      rw [← hx, ← h0, s_R_readRopes_47]
      simp only [s_R_readRopes_48, s_R_readRopes_53, s_R_readRopes_84, Option.bind_some, Option.bind_none, Option.toList_some, Option.toList_none, List.cons_append, List.nil_append, List.append_nil, rv_0, rg_0_0, rg_0_1, rg_0_2, rg_0_3, rg_0_4, rg_0_5, rg_0_6, rg_0_7, rg_0_8, rg_0_9, rv_17, rg_17_0, rg_17_1, if_true, nI_88]
    simp only [s_R_readRopes_20, s_R_readRopes_23, Option.bind_some, Option.bind_none, Option.toList_some, Option.toList_none, List.cons_append, List.nil_append, List.append_nil, nv_0, ng_0_0, ng_0_1, ng_0_2, ng_0_3, ng_0_4, ng_0_5, ng_0_6, ng_0_7, ng_0_8, ng_0_9, ng_0_10, ng_0_11, ng_0_12, ng_0_13, ng_0_14, rv_0, rg_0_0, rg_0_1, rg_0_2, rg_0_3, rg_0_4, rg_0_5, rg_0_6, rg_0_7, rg_0_8, rg_0_9, rv_17, rg_17_0, rg_17_1, hc1, if_neg h1, s_R_readRopes_26, nI_inj (a := i) (b := o) (by omega) (by omega)]
    by_cases hio : i = o
    · rw [if_pos hio]
      exact h0 (by unfold ropv; rw [if_neg (fun e => e.1 hio)])
    rw [if_neg hio]
    simp only [s_R_readRopes_31, s_R_readRopes_35, s_R_readRopes_38, s_R_readRopes_40, Option.bind_some, Option.bind_none, Option.toList_some, Option.toList_none, List.cons_append, List.nil_append, List.append_nil, nv_0, ng_0_0, ng_0_1, ng_0_2, ng_0_3, ng_0_4, ng_0_5, ng_0_6, ng_0_7, ng_0_8, ng_0_9, ng_0_10, ng_0_11, ng_0_12, ng_0_13, ng_0_14, rv_0, rg_0_0, rg_0_1, rg_0_2, rg_0_3, rg_0_4, rg_0_5, rg_0_6, rg_0_7, rg_0_8, rg_0_9, rv_17, rg_17_0, rg_17_1, nr_12 hi8]
    by_cases hl : S.1 3 i = 0
    · obtain ⟨Z1, hr1⟩ := n_ropeBy (X := X) (d := d) (B0 := rsC R V) (B2 := B2) (B3 := B3) (B4 := B4) hS Z hi8 ho8 (S.1 4 (8 * i + o))
      have hv : rb S i o (S.1 4 (8 * i + o)) = ropv S i o := by unfold ropv; rw [if_pos ⟨hio, hl⟩]
      rw [hv] at hr1
      obtain ⟨V', Z', l3', hV', hx⟩ := step 1 Z1
      refine ⟨V', Z', l3', hV', ?_⟩
      have z10 : ¬ (1 : Int32) = 0 := by decide
      rw [← hx, if_pos hl, s_R_readRopes_43]
      simp only [s_R_readRopes_48, s_R_readRopes_53, if_neg z10, s_R_readRopes_63, s_R_readRopes_67, s_R_readRopes_73, s_R_readRopes_78, s_R_readRopes_81, Option.bind_some, Option.bind_none, Option.toList_some, Option.toList_none, List.cons_append, List.nil_append, List.append_nil, rv_0, rg_0_0, rg_0_1, rg_0_2, rg_0_3, rg_0_4, rg_0_5, rg_0_6, rg_0_7, rg_0_8, rg_0_9, rv_17, rg_17_0, rg_17_1, nv_0, n_said hi8 ho8, hr1, nI_88]
    · rw [if_neg hl]
      exact h0 (by unfold ropv; rw [if_neg (fun e => hl e.2)])
theorem l_R_rr2 (hS : okS S) : ∀ (k i : Nat) (l2 l3 : Value) (V Z : xS), i + k = cn S → (∀ a, a < i → ∀ c, c < cn S → V.1 1 (8 * a + c) = ropv S a c) → ∃ V' Z' : xS, (∀ a, a < cn S → ∀ c, c < cn S → V'.1 1 (8 * a + c) = ropv S a c) ∧
    xrun (X, xcall X (d + 4)) j_R_readRopes 2 [.ref (sh 0 0), .int (nI i), l2, l3] [] (w5 (rsC R V) (shC 1 S Z) B2 B3 B4) = some (none, w5 (rsC R V') (shC 1 S Z') B2 B3 B4) := by
  intro k
  obtain ⟨hc1, hc2⟩ := hS.1
  induction k with
  | zero =>
    intro i l2 l3 V Z hi hA
    have hi' : i = cn S := by omega
    subst hi'
    have h1 : nI (cn S) ≤ nI (cn S) := (nI_le_iff (by omega) (by omega)).mpr (by omega)
    refine ⟨V, Z, hA, ?_⟩
    rw [s_R_readRopes_2]
    simp only [s_R_readRopes_7, s_R_readRopes_10, s_R_readRopes_98, Option.bind_some, Option.bind_none, Option.toList_some, Option.toList_none, List.cons_append, List.nil_append, List.append_nil, nv_0, ng_0_0, ng_0_1, ng_0_2, ng_0_3, ng_0_4, ng_0_5, ng_0_6, ng_0_7, ng_0_8, ng_0_9, ng_0_10, ng_0_11, ng_0_12, ng_0_13, ng_0_14, rv_0, rg_0_0, rg_0_1, rg_0_2, rg_0_3, rg_0_4, rg_0_5, rg_0_6, rg_0_7, rg_0_8, rg_0_9, rv_17, rg_17_0, rg_17_1, hc1, if_pos h1]
  | succ k ih =>
    intro i l2 l3 V Z hi hA
    have h1 : ¬ nI (cn S) ≤ nI i := fun h => absurd ((nI_le_iff (by omega) (by omega)).mp h) (by omega)
    obtain ⟨V1, Z1, l3', hV1, hx⟩ := l_R_rr1 (X := X) (d := d) (R := R) (B2 := B2) (B3 := B3) (B4 := B4) hS (i := i) (by omega) (cn S) 0 l3 V Z (by omega) hA (fun c hc => absurd hc (by omega))
    have hx : xrun (X, xcall X (d + 4)) j_R_readRopes 15 [.ref (sh 0 0), .int (nI i), .int (0 : Int32), l3] [] (w5 (rsC R V) (shC 1 S Z) B2 B3 B4) = _ := hx
    obtain ⟨V', Z', hV', hy⟩ := ih (i + 1) (.int (nI (cn S))) l3' V1 Z1 (by omega) hV1
    refine ⟨V', Z', hV', ?_⟩
    rw [s_R_readRopes_2]
    simp only [s_R_readRopes_7, s_R_readRopes_10, s_R_readRopes_13, Option.bind_some, Option.bind_none, Option.toList_some, Option.toList_none, List.cons_append, List.nil_append, List.append_nil, nv_0, ng_0_0, ng_0_1, ng_0_2, ng_0_3, ng_0_4, ng_0_5, ng_0_6, ng_0_7, ng_0_8, ng_0_9, ng_0_10, ng_0_11, ng_0_12, ng_0_13, ng_0_14, rv_0, rg_0_0, rg_0_1, rg_0_2, rg_0_3, rg_0_4, rg_0_5, rg_0_6, rg_0_7, rg_0_8, rg_0_9, rv_17, rg_17_0, rg_17_1, hc1, if_neg h1]
    rw [hx, s_R_readRopes_92, nI_add1]
    exact hy
theorem l_R_out (hS : okS S) {V Z : xS} (hV : ∀ a, a < cn S → ∀ c, c < cn S → V.1 1 (8 * a + c) = ropv S a c) {s o : Nat} (hs : s < 256) (ho : o < cn S) : ∀ (k i : Nat) (acc : Int32), i + k = cn S →
    xrun (X, xcall X d) j_R_ropeFromOutside 5 [.ref (sh 0 0), .int (nI s), .int (nI o), .int acc, .int (nI i)] [] (w5 (rsC R V) (shC 1 S Z) B2 B3 B4) = some (some (.int (soL S s o k i acc)), w5 (rsC R V) (shC 1 S Z) B2 B3 B4) := by
  intro k
  obtain ⟨hc1, hc2⟩ := hS.1
  induction k with
  | zero =>
    intro i acc hi
    have h1 : nI (cn S) ≤ nI i := (nI_le_iff (by omega) (by omega)).mpr (by omega)
    rw [s_R_ropeFromOutside_5]
    simp only [s_R_ropeFromOutside_11, s_R_ropeFromOutside_14, s_R_ropeFromOutside_47, Option.bind_some, Option.bind_none, Option.toList_some, Option.toList_none, List.cons_append, List.nil_append, List.append_nil, nv_0, ng_0_0, ng_0_1, ng_0_2, ng_0_3, ng_0_4, ng_0_5, ng_0_6, ng_0_7, ng_0_8, ng_0_9, ng_0_10, ng_0_11, ng_0_12, ng_0_13, ng_0_14, rv_0, rg_0_0, rg_0_1, rg_0_2, rg_0_3, rg_0_4, rg_0_5, rg_0_6, rg_0_7, rg_0_8, rg_0_9, rv_17, rg_17_0, rg_17_1, hc1, if_pos h1]
    rfl
  | succ k ih =>
    intro i acc hi
    have h1 : ¬ nI (cn S) ≤ nI i := fun h => absurd ((nI_le_iff (by omega) (by omega)).mp h) (by omega)
    have hi8 : i < 8 := by omega
    have h64 : 8 * i + o < 64 := by omega
    rw [s_R_ropeFromOutside_5]
    unfold soL
    simp only [s_R_ropeFromOutside_11, s_R_ropeFromOutside_14, Option.bind_some, Option.bind_none, Option.toList_some, Option.toList_none, List.cons_append, List.nil_append, List.append_nil, nv_0, ng_0_0, ng_0_1, ng_0_2, ng_0_3, ng_0_4, ng_0_5, ng_0_6, ng_0_7, ng_0_8, ng_0_9, ng_0_10, ng_0_11, ng_0_12, ng_0_13, ng_0_14, rv_0, rg_0_0, rg_0_1, rg_0_2, rg_0_3, rg_0_4, rg_0_5, rg_0_6, rg_0_7, rg_0_8, rg_0_9, rv_17, rg_17_0, rg_17_1, hc1, if_neg h1, s_R_ropeFromOutside_17, and_bit i hi8 s hs]
    by_cases hb : s.testBit i = false
    · rw [if_pos hb, if_pos hb]
      simp only [s_R_ropeFromOutside_26, s_R_ropeFromOutside_31, s_R_ropeFromOutside_39, s_R_ropeFromOutside_41, Option.bind_some, Option.bind_none, Option.toList_some, Option.toList_none, List.cons_append, List.nil_append, List.append_nil, rv_0, rg_0_0, rg_0_1, rg_0_2, rg_0_3, rg_0_4, rg_0_5, rg_0_6, rg_0_7, rg_0_8, rg_0_9, rv_17, rg_17_0, rg_17_1, nI_88, rr_4 h64, hV i (by omega) o ho, nI_add1]
      exact ih (i + 1) _ (by omega)
    · rw [if_neg hb, if_neg hb, s_R_ropeFromOutside_41, nI_add1]
      exact ih (i + 1) _ (by omega)
theorem l_R_can (hS : okS S) {V Z : xS} (hV : ∀ a, a < cn S → ∀ c, c < cn S → V.1 1 (8 * a + c) = ropv S a c) {s : Nat} (hs : s < 256) (need : Int32) : ∀ (k o : Nat), o + k = cn S →
    xrun (X, xcall X (d + 1)) j_R_canBeOut 2 [.ref (sh 0 0), .int (nI s), .int need, .int (nI o)] [] (w5 (rsC R V) (shC 1 S Z) B2 B3 B4) = some (some (.int (if cbL S s need k o = true then 1 else 0)), w5 (rsC R V) (shC 1 S Z) B2 B3 B4) := by
  intro k
  obtain ⟨hc1, hc2⟩ := hS.1
  induction k with
  | zero =>
    intro o ho
    have h1 : nI (cn S) ≤ nI o := (nI_le_iff (by omega) (by omega)).mpr (by omega)
    rw [s_R_canBeOut_2]
    simp only [s_R_canBeOut_7, s_R_canBeOut_10, s_R_canBeOut_51, Option.bind_some, Option.bind_none, Option.toList_some, Option.toList_none, List.cons_append, List.nil_append, List.append_nil, nv_0, ng_0_0, ng_0_1, ng_0_2, ng_0_3, ng_0_4, ng_0_5, ng_0_6, ng_0_7, ng_0_8, ng_0_9, ng_0_10, ng_0_11, ng_0_12, ng_0_13, ng_0_14, rv_0, rg_0_0, rg_0_1, rg_0_2, rg_0_3, rg_0_4, rg_0_5, rg_0_6, rg_0_7, rg_0_8, rg_0_9, rv_17, rg_17_0, rg_17_1, hc1, if_pos h1]
    rfl
  | succ k ih =>
    intro o ho
    have h1 : ¬ nI (cn S) ≤ nI o := fun h => absurd ((nI_le_iff (by omega) (by omega)).mp h) (by omega)
    have ho8 : o < 8 := by omega
    have hx := l_R_out (X := X) (d := d) (R := R) (Z := Z) (B2 := B2) (B3 := B3) (B4 := B4) hS hV hs (o := o) (by omega) (cn S) 0 0 (by omega)
    have hout : xcall X (d + 1) j_R_ropeFromOutside [.ref (sh 0 0), .int (nI s), .int (nI o)] (w5 (rsC R V) (shC 1 S Z) B2 B3 B4) = some (some (.int (soL S s o (cn S) 0 0)), w5 (rsC R V) (shC 1 S Z) B2 B3 B4) := by
      rw [e_R_ropeFromOutside, s_R_ropeFromOutside_0]
      exact hx
    have e1 : (s.testBit o = true ∧ (¬ S.1 3 o = 0 ∨ soL S s o (cn S) 0 0 < need)) → cbL S s need (k + 1) o = false := fun h => if_pos h
    have e2 : ¬ (s.testBit o = true ∧ (¬ S.1 3 o = 0 ∨ soL S s o (cn S) 0 0 < need)) → cbL S s need (k + 1) o = cbL S s need k (o + 1) := fun h => if_neg h
    rw [s_R_canBeOut_2]
    simp only [s_R_canBeOut_7, s_R_canBeOut_10, Option.bind_some, Option.bind_none, Option.toList_some, Option.toList_none, List.cons_append, List.nil_append, List.append_nil, nv_0, ng_0_0, ng_0_1, ng_0_2, ng_0_3, ng_0_4, ng_0_5, ng_0_6, ng_0_7, ng_0_8, ng_0_9, ng_0_10, ng_0_11, ng_0_12, ng_0_13, ng_0_14, rv_0, rg_0_0, rg_0_1, rg_0_2, rg_0_3, rg_0_4, rg_0_5, rg_0_6, rg_0_7, rg_0_8, rg_0_9, rv_17, rg_17_0, rg_17_1, hc1, if_neg h1, s_R_canBeOut_13, and_bit o ho8 s hs]
    by_cases hb : s.testBit o = false
    · rw [if_pos hb, e2 (fun e => by rw [hb] at e; exact absurd e.1 (by decide)), s_R_canBeOut_45, nI_add1]
      exact ih (o + 1) (by omega)
    · rw [if_neg hb]
      have hb' : s.testBit o = true := by revert hb; cases s.testBit o <;> simp
      simp only [s_R_canBeOut_21, s_R_canBeOut_25, s_R_canBeOut_28, s_R_canBeOut_30, Option.bind_some, Option.bind_none, Option.toList_some, Option.toList_none, List.cons_append, List.nil_append, List.append_nil, nv_0, ng_0_0, ng_0_1, ng_0_2, ng_0_3, ng_0_4, ng_0_5, ng_0_6, ng_0_7, ng_0_8, ng_0_9, ng_0_10, ng_0_11, ng_0_12, ng_0_13, ng_0_14, rv_0, rg_0_0, rg_0_1, rg_0_2, rg_0_3, rg_0_4, rg_0_5, rg_0_6, rg_0_7, rg_0_8, rg_0_9, rv_17, rg_17_0, rg_17_1, nr_12 ho8]
      by_cases hl : S.1 3 o = 0
      · rw [if_pos hl]
        simp only [s_R_canBeOut_33, s_R_canBeOut_39, Option.bind_some, Option.bind_none, Option.toList_some, Option.toList_none, List.cons_append, List.nil_append, List.append_nil, rv_0, rg_0_0, rg_0_1, rg_0_2, rg_0_3, rg_0_4, rg_0_5, rg_0_6, rg_0_7, rg_0_8, rg_0_9, rv_17, rg_17_0, rg_17_1, hout]
        by_cases hn : need ≤ soL S s o (cn S) 0 0
        · rw [if_pos hn, e2 (fun e => e.2.elim (fun z => z hl) (fun z => i32_nle.mpr z hn)), s_R_canBeOut_45, nI_add1]
          exact ih (o + 1) (by omega)
        · rw [if_neg hn, e1 ⟨hb', Or.inr (i32_nle.mp hn)⟩, s_R_canBeOut_43]
          rfl
      · rw [if_neg hl, e1 ⟨hb', Or.inl hl⟩, s_R_canBeOut_43]
        rfl
theorem l_R_party (hS : okS S) {V Z : xS} (hV : ∀ a, a < cn S → ∀ c, c < cn S → V.1 1 (8 * a + c) = ropv S a c) (far w need : Int32) : ∀ (k s b : Nat), s + k = 2 ^ cn S → b < 256 →
    xrun (X, xcall X (d + 2)) j_R_party 48 [.ref (sh 0 0), .int far, .int w, .int need, .int (nI b), .int (nI s)] [] (w5 (rsC R V) (shC 1 S Z) B2 B3 B4) = xrun (X, xcall X (d + 2)) j_R_party 95 [.ref (sh 0 0), .int far, .int w, .int need, .int (nI (ptL (fun s => cbL S s need (cn S) 0) k s b)), .int (nI (2 ^ cn S))] [] (w5 (rsC R V) (shC 1 S Z) B2 B3 B4) := by
  intro k
  obtain ⟨hc1, hc2⟩ := hS.1
  obtain ⟨hp1, hp2⟩ := pow_256 hc2
  obtain ⟨hs1, hs2⟩ := shl_pow (cn S) (by omega)
  induction k with
  | zero =>
    intro s b hi hb
    have h1 : nI (2 ^ cn S) ≤ nI s := (nI_le_iff (by omega) (by omega)).mpr (by omega)
    rw [s_R_party_48]
    simp only [s_R_party_55, s_R_party_58, Option.bind_some, Option.bind_none, Option.toList_some, Option.toList_none, List.cons_append, List.nil_append, List.append_nil, nv_0, ng_0_0, ng_0_1, ng_0_2, ng_0_3, ng_0_4, ng_0_5, ng_0_6, ng_0_7, ng_0_8, ng_0_9, ng_0_10, ng_0_11, ng_0_12, ng_0_13, ng_0_14, rv_0, rg_0_0, rg_0_1, rg_0_2, rg_0_3, rg_0_4, rg_0_5, rg_0_6, rg_0_7, rg_0_8, rg_0_9, rv_17, rg_17_0, rg_17_1, hc1, hs1, if_pos h1]
    rw [show s = 2 ^ cn S by omega]
    rfl
  | succ k ih =>
    intro s b hi hb
    have hs256 : s < 256 := by omega
    have h1 : ¬ nI (2 ^ cn S) ≤ nI s := fun h => absurd ((nI_le_iff (by omega) (by omega)).mp h) (by omega)
    have hb1 := pcN_le 8 s
    have hb2 := pcN_le 8 b
    have hcan : xcall X (d + 2) j_R_canBeOut [.ref (sh 0 0), .int (nI s), .int need] (w5 (rsC R V) (shC 1 S Z) B2 B3 B4) = some (some (.int (if cbL S s need (cn S) 0 = true then 1 else 0)), w5 (rsC R V) (shC 1 S Z) B2 B3 B4) := by
      rw [e_R_canBeOut, s_R_canBeOut_0]
      exact l_R_can hS hV hs256 need (cn S) 0 (by omega)
    rw [s_R_party_48]
    unfold ptL
    simp only [s_R_party_55, s_R_party_58, s_R_party_62, s_R_party_67, s_R_party_72, Option.bind_some, Option.bind_none, Option.toList_some, Option.toList_none, List.cons_append, List.nil_append, List.append_nil, nv_0, ng_0_0, ng_0_1, ng_0_2, ng_0_3, ng_0_4, ng_0_5, ng_0_6, ng_0_7, ng_0_8, ng_0_9, ng_0_10, ng_0_11, ng_0_12, ng_0_13, ng_0_14, rv_0, rg_0_0, rg_0_1, rg_0_2, rg_0_3, rg_0_4, rg_0_5, rg_0_6, rg_0_7, rg_0_8, rg_0_9, rv_17, rg_17_0, rg_17_1, hc1, hs1, if_neg h1, c_Integer_bitCount, bct_pc s hs256, bct_pc b hb, nI_le_iff (a := pcN 8 s) (b := pcN 8 b) (by omega) (by omega)]
    by_cases h2 : pcN 8 s ≤ pcN 8 b
    · rw [if_pos h2, if_neg (fun e => absurd e.1 (by omega)), s_R_party_89, nI_add1]
      exact ih (s + 1) b (by omega) hb
    · rw [if_neg h2]
      simp only [s_R_party_75, s_R_party_82, Option.bind_some, Option.bind_none, Option.toList_some, Option.toList_none, List.cons_append, List.nil_append, List.append_nil, rv_0, rg_0_0, rg_0_1, rg_0_2, rg_0_3, rg_0_4, rg_0_5, rg_0_6, rg_0_7, rg_0_8, rg_0_9, rv_17, rg_17_0, rg_17_1, hcan]
      cases hc : cbL S s need (cn S) 0 with
      | true =>
        rw [if_neg (show ¬ (if true = true then (1 : Int32) else 0) = 0 by decide), if_pos ⟨by omega, rfl⟩, s_R_party_85, s_R_party_89, nI_add1]
        exact ih (s + 1) s (by omega) hs256
      | false =>
        rw [if_pos (show (if false = true then (1 : Int32) else 0) = 0 by decide), if_neg (fun e => absurd e.2 (by decide)), s_R_party_89, nI_add1]
        exact ih (s + 1) b (by omega) hb
theorem q_party (hS : okS S) (far w : Int32) : CQ X (d + 6) j_R_party [.ref (sh 0 0), .int far, .int w] R S K B4 (sp_party R S K far w) := by
  intro V Z T Y U hT
  show ∃ V' Z' T' Y' U' : xS, okN T' ∧ xcall X (d + 6) j_R_party [.ref (sh 0 0), .int far, .int w] (w5 (rsC R V) (shC 1 S Z) (shC 2 T Y) (shC 3 K U) B4) = _
  obtain ⟨hc1, hc2⟩ := hS.1
  obtain ⟨hp1, hp2⟩ := pow_256 hc2
  rw [e_R_party]
  unfold sp_party
  simp only [s_R_party_0, s_R_party_8, s_R_party_11, s_R_party_17, s_R_party_20, s_R_party_25, Option.bind_some, Option.bind_none, Option.toList_some, Option.toList_none, List.cons_append, List.nil_append, List.append_nil, rv_0, rg_0_0, rg_0_1, rg_0_2, rg_0_3, rg_0_4, rg_0_5, rg_0_6, rg_0_7, rg_0_8, rg_0_9, rv_17, rg_17_0, rg_17_1, c_R_within, c_R_error1, z1_0]
  by_cases h2 : 1 ≤ far ∧ far ≤ 500
  · by_cases h3 : 0 ≤ w ∧ w ≤ 1
    · rw [if_neg (not_not_intro h2), if_neg (not_not_intro h3), if_neg (not_not_intro (show (1 ≤ far ∧ far ≤ 500) ∧ (0 ≤ w ∧ w ≤ 1) from ⟨h2, h3⟩))]
      obtain ⟨V', Z', hV', hx⟩ := l_R_rr2 (X := X) (d := d) (R := R) (B2 := shC 2 T Y) (B3 := shC 3 K U) (B4 := B4) hS (cn S) 0 .null .null V Z (by omega) (fun a ha => absurd ha (by omega))
      have hrr : xcall X (d + 5) j_R_readRopes [.ref (sh 0 0)] (w5 (rsC R V) (shC 1 S Z) (shC 2 T Y) (shC 3 K U) B4) = some (none, w5 (rsC R V') (shC 1 S Z') (shC 2 T Y) (shC 3 K U) B4) := by
        rw [e_R_readRopes, s_R_readRopes_0]
        exact hx
      have hl := l_R_party (X := X) (d := d + 3) (R := R) (Z := Z') (B2 := shC 2 T Y) (B3 := shC 3 K U) (B4 := B4) hS hV' far w (far + 5 * S.2 3) (2 ^ cn S - 1) 1 0 (by omega) (by omega)
      have hl : xrun (X, xcall X (d + 5)) j_R_party 48 [.ref (sh 0 0), .int far, .int w, .int (far + 5 * S.2 3), .int (0 : Int32), .int (1 : Int32)] [] (w5 (rsC R V') (shC 1 S Z') (shC 2 T Y) (shC 3 K U) B4) = _ := hl
      have hb : parB S far < 256 := ptL_lt _ _ _ _ (by omega) (by omega)
      refine ⟨V', Z', T, Y, U, hT, ?_⟩
      simp only [s_R_party_26, s_R_party_30, s_R_party_36, s_R_party_39, Option.bind_some, Option.bind_none, Option.toList_some, Option.toList_none, List.cons_append, List.nil_append, List.append_nil, nv_0, ng_0_0, ng_0_1, ng_0_2, ng_0_3, ng_0_4, ng_0_5, ng_0_6, ng_0_7, ng_0_8, ng_0_9, ng_0_10, ng_0_11, ng_0_12, ng_0_13, ng_0_14, rv_0, rg_0_0, rg_0_1, rg_0_2, rg_0_3, rg_0_4, rg_0_5, rg_0_6, rg_0_7, rg_0_8, rg_0_9, rv_17, rg_17_0, rg_17_1, hrr]
      rw [hl, s_R_party_95]
      by_cases h4 : w = 0
      · rw [if_pos h4, if_pos h4]
        simp only [s_R_party_99, s_R_party_104, s_R_party_109, Option.bind_some, Option.bind_none, Option.toList_some, Option.toList_none, List.cons_append, List.nil_append, List.append_nil, c_Integer_bitCount]
        rw [show bct (nI (ptL (fun s => cbL S s (far + 5 * S.2 3) (cn S) 0) (2 ^ cn S - 1) 1 0)) = nI (pcN 8 (parB S far)) from bct_pc _ hb]
        rfl
      · rw [if_neg h4, if_neg h4, s_R_party_107, s_R_party_109]
        rfl
    · rw [if_neg (not_not_intro h2), if_pos h3, if_pos (fun e : (1 ≤ far ∧ far ≤ 500) ∧ (0 ≤ w ∧ w ≤ 1) => h3 e.2)]
      exact ⟨V, Z, T, Y, U, hT, rfl⟩
  · rw [if_pos h2, if_pos (fun e : (1 ≤ far ∧ far ≤ 500) ∧ (0 ≤ w ∧ w ≤ 1) => h2 e.1)]
    exact ⟨V, Z, T, Y, U, hT, rfl⟩
end RSets
