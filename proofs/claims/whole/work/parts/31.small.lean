/-! ===== contracts: small ones ===== -/
def z1 (c : Prop) [Decidable c] : Int32 := if c then 1 else 0
theorem xz1 : xretz 1 (1 : Int32) = true := rfl
theorem xz0 : xretz 1 (0 : Int32) = true := rfl
theorem xzz (c : Prop) [Decidable c] : xretz 1 (z1 c) = true := by
  unfold z1
  by_cases h : c
  · rw [if_pos h]; rfl
  · rw [if_neg h]; rfl
theorem z1_t {c : Prop} [Decidable c] (h : c) : z1 c = 1 := if_pos h
theorem z1_f {c : Prop} [Decidable c] (h : ¬ c) : z1 c = 0 := if_neg h
theorem z1_0 {c : Prop} [Decidable c] : z1 c = 0 ↔ ¬ c := by
  by_cases h : c
  · rw [z1_t h]; exact ⟨fun e => absurd e (by decide), fun e => absurd h e⟩
  · rw [z1_f h]; exact ⟨fun _ => h, fun _ => rfl⟩
theorem i32_nlt {a b : Int32} : ¬ a < b ↔ b ≤ a := by rw [Int32.lt_iff_toInt_lt, Int32.le_iff_toInt_le]; omega
theorem i32_nle {a b : Int32} : ¬ a ≤ b ↔ b < a := by rw [Int32.lt_iff_toInt_lt, Int32.le_iff_toInt_le]; omega
theorem c_R_within {X : xX} {d : Nat} {σ : xW} (v a c : Int32) : xcall X (d + 1) j_R_within [.int v, .int a, .int c] σ = some (some (.int (z1 (a ≤ v ∧ v ≤ c))), σ) := by
  rw [e_R_within]
  simp only [s_R_within_0, s_R_within_14, s_R_within_15, s_R_within_5, s_R_within_10, xz1, xz0, if_true]
  by_cases h1 : v < a
  · rw [if_pos h1, z1_f (fun h => i32_nlt.mpr h.1 h1)]
  · rw [if_neg h1]
    by_cases h2 : c < v
    · rw [if_pos h2, z1_f (fun h => i32_nlt.mpr h.2 h2)]
    · rw [if_neg h2, z1_t ⟨i32_nlt.mp h1, i32_nlt.mp h2⟩]
def hel (v a c : Int32) : Int32 := if a < (if v < c then v else c) then (if v < c then v else c) else a
theorem c_R_held {X : xX} {d : Nat} {σ : xW} (v a c : Int32) : xcall X (d + 1) j_R_held [.int v, .int a, .int c] σ = some (some (.int (hel v a c)), σ) := by
  rw [e_R_held]
  simp only [s_R_held_0]
  rfl
def bct (x : Int32) : Int32 :=
  let sr (x : Int32) (k : Int32) : Int32 := (x.toUInt32 >>> (k.toUInt32 &&& Int32.toUInt32 31)).toInt32
  let x1 := x - (sr x 1 &&& 1431655765)
  let x2 := (x1 &&& 858993459) + (sr x1 2 &&& 858993459)
  let x3 := (x2 + sr x2 4) &&& 252645135
  let x4 := x3 + sr x3 8
  let x5 := x4 + sr x4 16
  x5 &&& 63
theorem c_Integer_bitCount {X : xX} {d : Nat} {σ : xW} (x : Int32) : xcall X (d + 1) j_Integer_bitCount [.int x] σ = some (some (.int (bct x)), σ) := by
  rw [e_Integer_bitCount, s_Integer_bitCount_0]
  rfl
section ShSmall
variable {X : xX} {d : Nat} {σ : xW} {b : Nat} {S Z : xS}
theorem c_Sh_has (p : Int32) : xcall X (d + 2) j_Sh_has [.ref (sh b 0), .int p] (ub σ b (shC b S Z)) = some (some (.int (z1 (0 ≤ p ∧ p ≤ S.2 0 - 1))), ub σ b (shC b S Z)) := by
  rw [e_Sh_has]
  simp only [s_Sh_has_0, s_Sh_has_6, s_Sh_has_11, Option.bind_some, Option.bind_none, Option.toList_some, Option.toList_none, List.cons_append, List.nil_append, List.append_nil, bg_0_9, c_R_within, xzz, if_true]
theorem c_Sh_isAshore {p : Nat} (hp : p < 8) : xcall X (d + 1) j_Sh_isAshore [.ref (sh b 0), .int (nI p)] (ub σ b (shC b S Z)) = some (some (.int (z1 (S.1 2 p = 0 ∧ S.1 3 p = 0))), ub σ b (shC b S Z)) := by
  rw [e_Sh_isAshore]
  simp only [s_Sh_isAshore_0, s_Sh_isAshore_22, s_Sh_isAshore_23, s_Sh_isAshore_4, s_Sh_isAshore_6, s_Sh_isAshore_9, s_Sh_isAshore_13, s_Sh_isAshore_15, s_Sh_isAshore_18, Option.bind_some, Option.bind_none, Option.toList_some, Option.toList_none, List.cons_append, List.nil_append, List.append_nil, bg_0_3, bg_0_4, br_11 hp, br_12 hp, xz1, xz0, if_true]
  by_cases h1 : S.1 2 p = 0
  · rw [if_pos h1]
    by_cases h2 : S.1 3 p = 0
    · rw [if_pos h2, z1_t ⟨h1, h2⟩]
    · rw [if_neg h2, z1_f (fun h => h2 h.2)]
  · rw [if_neg h1, z1_f (fun h => h1 h.1)]
theorem nI_88 {p o : Nat} : nI p * 8 + nI o = nI (8 * p + o) := by
  unfold nI
  have h : (8 : Int32) = Int32.ofNat 8 := rfl
  rw [h, ← Int32.ofNat_mul, ← Int32.ofNat_add, Nat.mul_comm]
theorem c_Sh_said {p o : Nat} (hp : p < 8) (ho : o < 8) : xcall X (d + 1) j_Sh_said [.ref (sh b 0), .int (nI p), .int (nI o)] (ub σ b (shC b S Z)) = some (some (.int (S.1 4 (8 * p + o))), ub σ b (shC b S Z)) := by
  rw [e_Sh_said]
  have h : 8 * p + o < 64 := by omega
  simp only [s_Sh_said_0, s_Sh_said_4, s_Sh_said_11, Option.bind_some, Option.bind_none, Option.toList_some, Option.toList_none, List.cons_append, List.nil_append, List.append_nil, bg_0_5, nI_88, br_13 h]
theorem c_Sh_say {p o : Nat} (hp : p < 8) (ho : o < 8) (v : Int32) : xcall X (d + 1) j_Sh_say [.ref (sh b 0), .int (nI p), .int (nI o), .int v] (ub σ b (shC b S Z)) = some (none, ub σ b (shC b (u2 S.1 4 (upd (S.1 4) (8 * p + o) v), S.2) Z)) := by
  rw [e_Sh_say]
  have h : 8 * p + o < 64 := by omega
  simp only [s_Sh_say_0, s_Sh_say_4, s_Sh_say_12, Option.bind_some, Option.bind_none, Option.toList_some, Option.toList_none, List.cons_append, List.nil_append, List.append_nil, bg_0_5, nI_88, bw_13 h]
  rfl
theorem c_Sh_setKind {p : Nat} (hp : p < 8) (v : Int32) : xcall X (d + 1) j_Sh_setKind [.ref (sh b 0), .int (nI p), .int v] (ub σ b (shC b S Z)) = some (none, ub σ b (shC b (u2 (u2 S.1 0 (upd (S.1 0) p (v / 10))) 1 (upd (S.1 1) p (v - v / 10 * 10)), S.2) Z)) := by
  rw [e_Sh_setKind]
  simp only [s_Sh_setKind_0, s_Sh_setKind_4, s_Sh_setKind_10, s_Sh_setKind_14, s_Sh_setKind_20, Option.bind_some, Option.bind_none, Option.toList_some, Option.toList_none, List.cons_append, List.nil_append, List.append_nil, bg_0_1, bg_0_2, bw_9 hp, bw_10 hp]
  rfl
theorem c_Sh_kindOf {p k : Nat} (hp : p < 8) (hk : k < 7) (hS : S.1 0 p = nI k) : xcall X (d + 2) j_Sh_kindOf [.ref (sh b 0), .int (nI p)] (ub σ b (shC b S Z)) = some (some (.ref (sh b (2 + k))), ub σ b (shC b S Z)) := by
  rw [e_Sh_kindOf]
  have h1 : z1 ((0 : Int32) ≤ nI k ∧ nI k ≤ 6) = 1 := z1_t ⟨nI_pos' (by omega), nI_le (a := k) (b := 6) (by omega) (by omega)⟩
  have h2 : ¬ (1 : Int32) = 0 := by decide
  simp only [s_Sh_kindOf_0, s_Sh_kindOf_25, s_Sh_kindOf_26, s_Sh_kindOf_4, s_Sh_kindOf_27, s_Sh_kindOf_6, s_Sh_kindOf_11, s_Sh_kindOf_18, s_Sh_kindOf_21, Option.bind_some, Option.bind_none, Option.toList_some, Option.toList_none, List.cons_append, List.nil_append, List.append_nil, bg_0_1, bg_0_0, br_9 hp, c_R_within, hS, h1, h2, if_false, bq_1 hk]
end ShSmall
/-! what one gives, what a word turns by -/
def gv (k : Nat) (m sea out told : Int32) : Int32 := match k with
  | 1 => told + m
  | 2 => told / 2 + 10
  | 3 => if told < 10 + m then 0 else told
  | 4 => told + m + sea
  | 5 => told / 2 + 10 - m
  | 6 => if 50 < out then 2 * told else told
  | _ => told
def tn0 (out : Int32) : Int32 := if 0 < out then 1 else -1
def tn (k : Nat) (day out told : Int32) : Int32 := match k with
  | 1 => tn0 out + (day - day / 3 * 3)
  | 2 => 0
  | 4 => tn0 out + (day - day / 3 * 3) - 1
  | 5 => if told < 20 then 0 + 2 else 0 - 2
  | 6 => 2 * tn0 out
  | _ => tn0 out
section Gives
variable {X : xX} {d : Nat} {σ : xW} {b : Nat} {S Z : xS}
theorem c_Person_gives (r : Nat) (t m s o : Int32) : xcall X (d + 1) j_Person_gives [.ref r, .int t, .int m, .int s, .int o] σ = some (some (.int (gv 0 m s o t)), σ) := by
  rw [e_Person_gives]
  simp only [s_Person_gives_0]
  rfl
theorem c_Gossip_gives (r : Nat) (t m s o : Int32) : xcall X (d + 1) j_Gossip_gives [.ref r, .int t, .int m, .int s, .int o] σ = some (some (.int (gv 1 m s o t)), σ) := by
  rw [e_Gossip_gives]
  simp only [s_Gossip_gives_0]
  rfl
theorem c_Mayor_gives (r : Nat) (t m s o : Int32) : xcall X (d + 1) j_Mayor_gives [.ref r, .int t, .int m, .int s, .int o] σ = some (some (.int (gv 2 m s o t)), σ) := by
  rw [e_Mayor_gives]
  simp only [s_Mayor_gives_0]
  rfl
theorem c_Cutter_gives (r : Nat) (t m s o : Int32) : xcall X (d + 1) j_Cutter_gives [.ref r, .int t, .int m, .int s, .int o] σ = some (some (.int (gv 3 m s o t)), σ) := by
  rw [e_Cutter_gives]
  simp only [s_Cutter_gives_0, s_Cutter_gives_12, s_Cutter_gives_13, s_Cutter_gives_8]
  show _ = some (some (Value.int (if t < 10 + m then 0 else t)), σ)
  by_cases h : t < 10 + m
  · rw [if_neg (i32_nle.mpr h), if_pos h]
  · rw [if_pos (i32_nlt.mp h), if_neg h]
theorem c_Doctor_gives (k : Nat) (t m s o : Int32) (hc : xcc σ k = some 10) : xcall X (d + 2) j_Doctor_gives [.ref k, .int t, .int m, .int s, .int o] σ = some (some (.int (gv 4 m s o t)), σ) := by
  rw [e_Doctor_gives]
  simp only [s_Doctor_gives_0, s_Doctor_gives_9, Option.bind_some, Option.bind_none, Option.toList_some, Option.toList_none, List.cons_append, List.nil_append, List.append_nil, hc, c_Gossip_gives]
  rfl
theorem c_Judge_gives (k : Nat) (t m s o : Int32) (hc : xcc σ k = some 11) : xcall X (d + 2) j_Judge_gives [.ref k, .int t, .int m, .int s, .int o] σ = some (some (.int (gv 5 m s o t)), σ) := by
  rw [e_Judge_gives]
  simp only [s_Judge_gives_0, s_Judge_gives_9, Option.bind_some, Option.bind_none, Option.toList_some, Option.toList_none, List.cons_append, List.nil_append, List.append_nil, hc, c_Mayor_gives]
  rfl
theorem c_Widow_gives (r : Nat) (t m s o : Int32) : xcall X (d + 1) j_Widow_gives [.ref r, .int t, .int m, .int s, .int o] σ = some (some (.int (gv 6 m s o t)), σ) := by
  rw [e_Widow_gives]
  simp only [s_Widow_gives_0, s_Widow_gives_13, s_Widow_gives_14, s_Widow_gives_7]
  show _ = some (some (Value.int (if 50 < o then 2 * t else t)), σ)
  by_cases h : (50 : Int32) < o
  · rw [if_neg (i32_nle.mpr h), if_pos h]
  · rw [if_pos (i32_nlt.mp h), if_neg h]
theorem c_Person_turns (r : Nat) (t y o : Int32) : xcall X (d + 1) j_Person_turns [.ref r, .int t, .int y, .int o] σ = some (some (.int (tn0 o)), σ) := by
  rw [e_Person_turns]
  simp only [s_Person_turns_0, s_Person_turns_8, s_Person_turns_9, s_Person_turns_4]
  unfold tn0
  by_cases h : (0 : Int32) < o
  · rw [if_neg (i32_nle.mpr h), if_pos h]
  · rw [if_pos (i32_nlt.mp h), if_neg h]
theorem c_Gossip_turns (k : Nat) (t y o : Int32) {c : Nat} (hc : xcc σ k = some c) : xcall X (d + 2) j_Gossip_turns [.ref k, .int t, .int y, .int o] σ = some (some (.int (tn 1 y o t)), σ) := by
  rw [e_Gossip_turns]
  simp only [s_Gossip_turns_0, s_Gossip_turns_7, Option.bind_some, Option.bind_none, Option.toList_some, Option.toList_none, List.cons_append, List.nil_append, List.append_nil, hc, c_Person_turns]
  rfl
theorem c_Mayor_turns (r : Nat) (t y o : Int32) : xcall X (d + 1) j_Mayor_turns [.ref r, .int t, .int y, .int o] σ = some (some (.int 0), σ) := by
  rw [e_Mayor_turns]
  simp only [s_Mayor_turns_0]
theorem c_Doctor_turns (k : Nat) (t y o : Int32) (hc : xcc σ k = some 10) : xcall X (d + 3) j_Doctor_turns [.ref k, .int t, .int y, .int o] σ = some (some (.int (tn 4 y o t)), σ) := by
  rw [e_Doctor_turns]
  simp only [s_Doctor_turns_0, s_Doctor_turns_7, Option.bind_some, Option.bind_none, Option.toList_some, Option.toList_none, List.cons_append, List.nil_append, List.append_nil, hc, c_Gossip_turns k t y o hc]
  rfl
theorem c_Judge_turns (k : Nat) (t y o : Int32) (hc : xcc σ k = some 11) : xcall X (d + 2) j_Judge_turns [.ref k, .int t, .int y, .int o] σ = some (some (.int (tn 5 y o t)), σ) := by
  rw [e_Judge_turns]
  simp only [s_Judge_turns_0, s_Judge_turns_22, s_Judge_turns_26, s_Judge_turns_7, s_Judge_turns_15, Option.bind_some, Option.bind_none, Option.toList_some, Option.toList_none, List.cons_append, List.nil_append, List.append_nil, hc, c_Mayor_turns]
  show _ = some (some (Value.int (if t < 20 then 0 + 2 else 0 - 2)), σ)
  by_cases h : t < 20
  · rw [if_neg (i32_nle.mpr h), if_pos h]
  · rw [if_pos (i32_nlt.mp h), if_neg h]
theorem c_Widow_turns (k : Nat) (t y o : Int32) (hc : xcc σ k = some 12) : xcall X (d + 2) j_Widow_turns [.ref k, .int t, .int y, .int o] σ = some (some (.int (tn 6 y o t)), σ) := by
  rw [e_Widow_turns]
  simp only [s_Widow_turns_0, s_Widow_turns_8, Option.bind_some, Option.bind_none, Option.toList_some, Option.toList_none, List.cons_append, List.nil_append, List.append_nil, hc, c_Person_turns]
  rfl
end Gives
