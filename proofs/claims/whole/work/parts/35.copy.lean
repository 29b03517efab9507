/-! ===== contracts: draws, copies ===== -/
def nx (z : Int32) : Int32 := z * 1103515245 + 12345
def drv (z : Int32) : Int32 := (z.toUInt32 >>> ((8 : Int32).toUInt32 &&& Int32.toUInt32 31)).toInt32
def drn (z : Int32) : Nat := z.toBitVec.toNat / 2 ^ 8
theorem drn_lt (z : Int32) : drn z < 2 ^ 24 := by
  unfold drn
  have := z.toBitVec.isLt
  omega
theorem i32_of_toNat {x : Int32} {n : Nat} (h : x.toBitVec.toNat = n) (hn : n < 2 ^ 32) : x = nI n := by
  apply Int32.toBitVec_inj.mp
  apply BitVec.eq_of_toNat_eq
  rw [h, pk_tn hn]
theorem drv_nI (z : Int32) : drv z = nI (drn z) := by
  refine i32_of_toNat ?_ (Nat.lt_trans (drn_lt z) (by decide))
  exact pk_ushr z 8 8 (by decide +kernel)
def okN (S : xS) : Prop := (∀ p, 8 ≤ p → S.1 0 p = 0 ∧ S.1 1 p = 0 ∧ S.1 2 p = 0 ∧ S.1 3 p = 0) ∧ (∀ c, 64 ≤ c → S.1 4 c = 0) ∧ (∀ c, 60 ≤ c → S.1 5 c = 0 ∧ S.1 6 c = 0 ∧ S.1 7 c = 0) ∧ (∀ c, 24 ≤ c → S.1 8 c = 0) ∧
  (∀ p, p < 8 → S.1 3 p = 0 ∨ S.1 3 p = 1) ∧ (∀ c, c < 60 → fits .byte (.int (S.1 7 c)) = true)
/-- the state behind drawSeaAndSwimmer -/
def dsS (S : xS) : xS :=
  let z1 := nx (S.2 5)
  let V1 := u1 (u1 S.2 5 z1) 3 (nI (drn z1 % 10))
  if cn S = 0 then (S.1, V1) else
    let z2 := nx z1
    let k := drn z2 % cn S
    let z3 := nx z2
    (if S.1 3 k = 0 then u2 S.1 2 (upd (S.1 2) k (nI (drn z3 % 60))) else S.1, u1 (u1 V1 5 z2) 5 z3)
section ShDraw
variable {X : xX} {d : Nat} {σ : xW} {b : Nat} {S Z : xS}
theorem c_Sh_draw : xcall X (d + 1) j_Sh_draw [.ref (sh b 0)] (ub σ b (shC b S Z)) = some (some (.int (nI (drn (nx (S.2 5))))), ub σ b (shC b (S.1, u1 S.2 5 (nx (S.2 5))) Z)) := by
  rw [e_Sh_draw, ← drv_nI]
  simp only [s_Sh_draw_0, s_Sh_draw_5, s_Sh_draw_15, s_Sh_draw_19, Option.bind_some, Option.bind_none, Option.toList_some, Option.toList_none, List.cons_append, List.nil_append, List.append_nil, bg_0_14, bp_0_14]
  rfl
theorem c_Sh_drawSeaAndSwimmer (hS : okS S) : xcall X (d + 2) j_Sh_drawSeaAndSwimmer [.ref (sh b 0)] (ub σ b (shC b S Z)) = some (none, ub σ b (shC b (dsS S) Z)) := by
  obtain ⟨hc1, hc2⟩ := hS.1
  rw [e_Sh_drawSeaAndSwimmer]
  have r10 : ∀ z : Int32, nI (drn z) - nI (drn z) / (10 : Int32) * (10 : Int32) = nI (drn z % 10) := fun z => pk_rem (d := 10) (Nat.lt_trans (drn_lt z) (by decide)) (by omega) (by omega)
  have r60 : ∀ z : Int32, nI (drn z) - nI (drn z) / (60 : Int32) * (60 : Int32) = nI (drn z % 60) := fun z => pk_rem (d := 60) (Nat.lt_trans (drn_lt z) (by decide)) (by omega) (by omega)
  have e0 : ∀ z1 y : Int32, u1 (u1 S.2 5 z1) 3 y 0 = nI (cn S) := fun _ _ => hc1
  simp only [Option.bind_some, Option.bind_none, Option.toList_some, Option.toList_none, List.cons_append, List.nil_append, List.append_nil, s_Sh_drawSeaAndSwimmer_0, bv_0, c_Sh_draw, s_Sh_drawSeaAndSwimmer_5, bp_0_12, r10, s_Sh_drawSeaAndSwimmer_11, bg_0_9, e0, s_Sh_drawSeaAndSwimmer_15]
  unfold dsS
  by_cases h0 : cn S = 0
  · have h1 : nI (cn S) ≤ 0 := by rw [h0]; decide
    simp only [if_pos h1, s_Sh_drawSeaAndSwimmer_52, if_pos h0]
  · have h1 : ¬ nI (cn S) ≤ 0 := fun h => absurd ((nI_le_iff (a := cn S) (b := 0) (by omega) (by omega)).mp h) (by omega)
    have hne : ¬ nI (cn S) = 0 := nI_ne0 (by omega) (by omega)
    have rc : ∀ z : Int32, nI (drn z) - nI (drn z) / nI (cn S) * nI (cn S) = nI (drn z % cn S) := fun z => pk_rem (Nat.lt_trans (drn_lt z) (by decide)) (by omega) (by omega)
    have hk : ∀ z : Int32, drn z % cn S < 8 := fun z => Nat.lt_of_lt_of_le (Nat.mod_lt _ (by omega)) hc2
    have e1 : ∀ z1 y z2 : Int32, u1 (u1 (u1 S.2 5 z1) 3 y) 5 z2 0 = nI (cn S) := fun _ _ _ => hc1
    have e2 : ∀ z1 y z2 : Int32, u1 (u1 (u1 S.2 5 z1) 3 y) 5 z2 5 = z2 := fun _ _ _ => rfl
    have e3 : ∀ z1 y : Int32, u1 (u1 S.2 5 z1) 3 y 5 = z1 := fun _ _ => rfl
    simp only [if_neg h1, if_neg h0, Option.bind_some, Option.bind_none, Option.toList_some, Option.toList_none, List.cons_append, List.nil_append, List.append_nil, s_Sh_drawSeaAndSwimmer_18, bv_0, c_Sh_draw, s_Sh_drawSeaAndSwimmer_22, bg_0_9, e1, s_Sh_drawSeaAndSwimmer_26, if_neg hne, rc, s_Sh_drawSeaAndSwimmer_27, e2, e3, s_Sh_drawSeaAndSwimmer_32, bg_0_4, r60, s_Sh_drawSeaAndSwimmer_40, br_12 (hk _), s_Sh_drawSeaAndSwimmer_42]
    by_cases hl : S.1 3 (drn (nx (nx (S.2 5))) % cn S) = 0
    · simp only [if_pos hl, Option.bind_some, Option.bind_none, Option.toList_some, Option.toList_none, List.cons_append, List.nil_append, List.append_nil, s_Sh_drawSeaAndSwimmer_45, bg_0_3, s_Sh_drawSeaAndSwimmer_49, bw_11 (hk _), s_Sh_drawSeaAndSwimmer_52]
      rfl
    · simp only [if_neg hl, s_Sh_drawSeaAndSwimmer_52]
end ShDraw
/-! copies -/
theorem cpy_all {f g : Nat → Int32} {N : Nat} (h : ∀ j, N ≤ j → f j = g j) : va_cpy f g 0 0 N = f := by
  funext k
  unfold va_cpy
  by_cases hk : 0 ≤ k ∧ k < 0 + N
  · rw [if_pos hk]; congr 1; omega
  · rw [if_neg hk]; exact (h k (by omega)).symm
theorem cp_of {σ : xW} {b b2 i i2 t N : Nat} {f g : Nat → Int32} (hi : i < 64) (hi2 : i2 < 64) (hd : (σ b)[i]? = some (.inl (t, N, .inl g))) (hs : (σ b2)[i2]? = some (.inl (t, N, .inl f))) (ht : t < 2) (hN : N ≤ 1000) (hf : t = 0 ∨ ∀ j, j < N → fits .byte (.int (f j)) = true) (hz : ∀ j, N ≤ j → f j = g j) :
    xcp σ (Int32.ofNat N) (0 : Int32) (sh b i) (0 : Int32) (sh b2 i2) = some (ub σ b ((σ b).set i (.inl (t, N, .inl f)))) := by
  unfold xcp
  rw [xg_sh hi, xg_sh hi2, hd, hs]
  simp only
  have h1 : ¬ (Int32.ofNat N) < 0 := nI_pos (by omega)
  have h2 : (Int32.ofNat N).toNatClampNeg = N := nI_clamp (by omega)
  have h3 : (0 : Int32).toNatClampNeg = 0 := by decide
  have h4 : ¬ (0 : Int32) < 0 := by decide
  rw [h2, h3, cpy_all hz, xs_sh hi, if_pos]
  refine ⟨trivial, ht, h4, h4, h1, by omega, by omega, hf.imp id fun h => ?_⟩
  rw [List.all_eq_true]
  intro j hj
  rw [Nat.zero_add]
  exact h j (List.mem_range.mp hj)
theorem c_Tx_copy {X : xX} {d : Nat} {σ τ υ : xW} {l0 l1 sc dc : Nat} {n : Int32} (h1 : xgf σ l1 2 0 = some (.ref sc)) (h2 : xgf σ l0 2 0 = some (.ref dc)) (h3 : xal X σ dc = some 60) (h4 : xcp σ (Int32.ofNat 60) (0 : Int32) dc (0 : Int32) sc = some τ) (h5 : xgf τ l1 2 3 = some (.int n)) (h6 : xpf τ l0 2 3 n = some υ) :
    xcall X (d + 1) j_Tx_copy [.ref l0, .ref l1] σ = some (none, υ) := by
  rw [e_Tx_copy]
  simp only [s_Tx_copy_0, s_Tx_copy_4, s_Tx_copy_9, s_Tx_copy_14, s_Tx_copy_15, s_Tx_copy_18, s_Tx_copy_23, s_Tx_copy_26, Option.bind_some, Option.bind_none, Option.toList_some, Option.toList_none, List.cons_append, List.nil_append, List.append_nil, h1, h2, h3, h4, h5, h6]
def cpA (f g : Nat → Int32) (i : Nat) : Nat → Int32 := fun p => if p < i then g p else f p
theorem cpA_step (f g : Nat → Int32) (i : Nat) : upd (cpA f g i) i (g i) = cpA f g (i + 1) := by
  funext p
  unfold upd cpA
  by_cases h : p = i
  · subst h; rw [if_pos rfl, if_pos (Nat.lt_succ_self p)]
  · rw [if_neg h]
    by_cases h2 : p < i
    · rw [if_pos h2, if_pos (show p < i + 1 by omega)]
    · rw [if_neg h2, if_neg (show ¬ p < i + 1 by omega)]
theorem cpA_0 (f g : Nat → Int32) : cpA f g 0 = f := by
  funext p
  exact if_neg (Nat.not_lt_zero p)
theorem cpA_8 {f g : Nat → Int32} (h : ∀ p, 8 ≤ p → g p = f p) : cpA f g 8 = g := by
  funext p
  unfold cpA
  by_cases h2 : p < 8
  · rw [if_pos h2]
  · rw [if_neg h2]; exact (h p (by omega)).symm
/-- four rows copied before i -/
def c4 (S T : xS) (i : Nat) : xS := (u2 (u2 (u2 (u2 S.1 0 (cpA (S.1 0) (T.1 0) i)) 1 (cpA (S.1 1) (T.1 1) i)) 2 (cpA (S.1 2) (T.1 2) i)) 3 (cpA (S.1 3) (T.1 3) i), S.2)
theorem c4_step {S T : xS} {i : Nat} (b : Nat) (Z : xS) (x0 x1 x2 x3 : Int32) (h0 : x0 = T.1 0 i) (h1 : x1 = T.1 1 i) (h2 : x2 = T.1 2 i) (h3 : x3 = T.1 3 i) :
    shC b (u2 (u2 (u2 (u2 (c4 S T i).1 0 (upd ((c4 S T i).1 0) i x0)) 1 (upd ((c4 S T i).1 1) i x1)) 2 (upd ((c4 S T i).1 2) i x2)) 3 (upd ((c4 S T i).1 3) i x3), S.2) Z = shC b (c4 S T (i + 1)) Z := by
  subst h0 h1 h2 h3
  unfold c4
  rw [← cpA_step (S.1 0), ← cpA_step (S.1 1), ← cpA_step (S.1 2), ← cpA_step (S.1 3)]
  rfl
section ShCopy
variable {X : xX} {d : Nat} {B0 B1 B2 B3 B4 : List xE} {S T Z Y : xS}
theorem l_Sh_copy21 (hT : okN T) : ∀ (k i : Nat), i + k = 8 →
    xrun (X, xcall X (d + 1)) j_Sh_copy 2 [.ref (sh 2 0), .ref (sh 1 0), .int (nI i)] [] (w5 B0 (shC 1 T Y) (shC 2 (c4 S T i) Z) B3 B4) = xrun (X, xcall X (d + 1)) j_Sh_copy 62 [.ref (sh 2 0), .ref (sh 1 0), .int (nI 8)] [] (w5 B0 (shC 1 T Y) (shC 2 (c4 S T 8) Z) B3 B4) := by
  intro k
  induction k with
  | zero =>
    intro i hi
    have hi' : i = 8 := by omega
    subst hi'
    have h1 : (8 : Int32) ≤ nI 8 := by decide
    rw [s_Sh_copy_2, if_pos h1]
  | succ k ih =>
    intro i hi
    have h1 : ¬ (8 : Int32) ≤ nI i := fun h => absurd ((nI_le_iff (a := 8) (b := i) (by omega) (by omega)).mp h) (by omega)
    have hi8 : i < 8 := by omega
    have hx : xnw 2 (T.1 3 i) = T.1 3 i := by
      rcases hT.2.2.2.2.1 i hi8 with h | h <;> rw [h] <;> rfl
    rw [s_Sh_copy_2, if_neg h1]
    simp only [Option.bind_some, Option.bind_none, Option.toList_some, Option.toList_none, List.cons_append, List.nil_append, List.append_nil, s_Sh_copy_8, tg_0_1, s_Sh_copy_12, ng_0_1, s_Sh_copy_17, nr_9 hi8, s_Sh_copy_19, tw_9 hi8, s_Sh_copy_20, tg_0_2, s_Sh_copy_24, ng_0_2, s_Sh_copy_29, nr_10 hi8, s_Sh_copy_31, tw_10 hi8, s_Sh_copy_32, tg_0_3, s_Sh_copy_36, ng_0_3, s_Sh_copy_41, nr_11 hi8, s_Sh_copy_43, tw_11 hi8,
      s_Sh_copy_44, tg_0_4, s_Sh_copy_48, ng_0_4, s_Sh_copy_53, nr_12 hi8, s_Sh_copy_55, tw_12 hi8, s_Sh_copy_56, nI_add1, hx]
    have h9 := c4_step (S := S) (T := T) (i := i) 2 Z (xnw 0 (T.1 0 i)) (xnw 0 (T.1 1 i)) (xnw 0 (T.1 2 i)) (T.1 3 i) rfl rfl rfl rfl
    have h10 := ih (i + 1) (by omega)
    rw [← h9] at h10
    exact h10
theorem c_Sh_copy21 (hS : okN S) (hT : okN T) : ∃ Z' : xS, xcall X (d + 2) j_Sh_copy [.ref (sh 2 0), .ref (sh 1 0)] (w5 B0 (shC 1 T Y) (shC 2 S Z) B3 B4) = some (none, w5 B0 (shC 1 T Y) (shC 2 T Z') B3 B4) := by
  refine ⟨Z, ?_⟩
  have hl := l_Sh_copy21 (X := X) (d := d) (B0 := B0) (B3 := B3) (B4 := B4) (S := S) (T := T) (Z := Z) (Y := Y) hT 8 0 (by omega)
  have h0 : shC 2 (c4 S T 0) Z = shC 2 S Z := by
    unfold c4
    rw [cpA_0, cpA_0, cpA_0, cpA_0]
    rfl
  have h8 : shC 2 (c4 S T 8) Z = shC 2 (u2 (u2 (u2 (u2 S.1 0 (T.1 0)) 1 (T.1 1)) 2 (T.1 2)) 3 (T.1 3), S.2) Z := by
    unfold c4
    rw [cpA_8 (fun p hp => (hT.1 p hp).1.trans (hS.1 p hp).1.symm), cpA_8 (fun p hp => (hT.1 p hp).2.1.trans (hS.1 p hp).2.1.symm), cpA_8 (fun p hp => (hT.1 p hp).2.2.1.trans (hS.1 p hp).2.2.1.symm), cpA_8 (fun p hp => (hT.1 p hp).2.2.2.trans (hS.1 p hp).2.2.2.symm)]
  rw [h0, h8] at hl
  have hl : xrun (X, xcall X (d + 1)) j_Sh_copy 2 [.ref (sh 2 0), .ref (sh 1 0), .int (0 : Int32)] [] (w5 B0 (shC 1 T Y) (shC 2 S Z) B3 B4) = _ := hl
  rw [e_Sh_copy, s_Sh_copy_0, hl]
  generalize hA : (u2 (u2 (u2 (u2 S.1 0 (T.1 0)) 1 (T.1 1)) 2 (T.1 2)) 3 (T.1 3)) = A1
  have a4 : A1 4 = S.1 4 := by rw [← hA]; rfl
  have a7 : A1 7 = S.1 7 := by rw [← hA]; rfl
  have a8 : A1 8 = S.1 8 := by rw [← hA]; rfl
  have a5 : A1 5 = S.1 5 := by rw [← hA]; rfl
  have a6 : A1 6 = S.1 6 := by rw [← hA]; rfl
  have cp4 : xcp (w5 B0 (shC 1 T Y) (shC 2 (A1, S.2) Z) B3 B4) (Int32.ofNat 64) (0 : Int32) (sh 2 13) (0 : Int32) (sh 1 13) = some (w5 B0 (shC 1 T Y) (shC 2 (u2 A1 4 (T.1 4), S.2) Z) B3 B4) :=
    (cp_of (t := 0) (N := 64) (f := T.1 4) (g := A1 4) (by decide) (by decide) rfl rfl (by decide) (by decide) (Or.inl rfl) (fun j hj => by rw [a4, hT.2.1 j hj, hS.2.1 j hj])).trans (congrArg some (ub_w5_2 _ _ _ _ _ _))
  have cp7 : xcp (w5 B0 (shC 1 T Y) (shC 2 (u2 A1 4 (T.1 4), S.2) Z) B3 B4) (Int32.ofNat 60) (0 : Int32) (sh 2 23) (0 : Int32) (sh 1 23) = some (w5 B0 (shC 1 T Y) (shC 2 (u2 (u2 A1 4 (T.1 4)) 7 (T.1 7), S.2) Z) B3 B4) :=
    (cp_of (t := 1) (N := 60) (f := T.1 7) (g := A1 7) (by decide) (by decide) rfl rfl (by decide) (by decide) (Or.inr hT.2.2.2.2.2) (fun j hj => by rw [a7, (hT.2.2.1 j hj).2.2, (hS.2.2.1 j hj).2.2])).trans (congrArg some (ub_w5_2 _ _ _ _ _ _))
  have cp8 : xcp (w5 B0 (shC 1 T Y) (shC 2 (u2 (u2 A1 4 (T.1 4)) 7 (T.1 7), S.2) Z) B3 B4) (Int32.ofNat 24) (0 : Int32) (sh 2 24) (0 : Int32) (sh 1 24) = some (w5 B0 (shC 1 T Y) (shC 2 (u2 (u2 (u2 A1 4 (T.1 4)) 7 (T.1 7)) 8 (T.1 8), S.2) Z) B3 B4) :=
    (cp_of (t := 0) (N := 24) (f := T.1 8) (g := A1 8) (by decide) (by decide) rfl rfl (by decide) (by decide) (Or.inl rfl) (fun j hj => by rw [a8, hT.2.2.2.1 j hj, hS.2.2.2.1 j hj])).trans (congrArg some (ub_w5_2 _ _ _ _ _ _))
  generalize hA2 : (u2 (u2 (u2 A1 4 (T.1 4)) 7 (T.1 7)) 8 (T.1 8)) = A2 at cp8
  have b5 : A2 5 = S.1 5 := by rw [← hA2, ← a5]; rfl
  have b6 : A2 6 = S.1 6 := by rw [← hA2, ← a6]; rfl
  have q0 : xrr (w5 B0 (shC 1 T Y) (shC 2 (A2, S.2) Z) B3 B4) (sh 2 14) (0 : Int32) = some (sh 2 15) := tq_14 (k := 0) (by decide)
  have p0 : xrr (w5 B0 (shC 1 T Y) (shC 2 (A2, S.2) Z) B3 B4) (sh 1 14) (0 : Int32) = some (sh 1 15) := nq_14 (k := 0) (by decide)
  have t0 : xcall X (d + 1) j_Tx_copy [.ref (sh 2 15), .ref (sh 1 15)] (w5 B0 (shC 1 T Y) (shC 2 (A2, S.2) Z) B3 B4) = some (none, w5 B0 (shC 1 T Y) (shC 2 (u2 A2 5 (T.1 5), u1 S.2 6 (T.2 6)) Z) B3 B4) :=
    c_Tx_copy (τ := w5 B0 (shC 1 T Y) (shC 2 (u2 A2 5 (T.1 5), S.2) Z) B3 B4) ng_15_0 tg_15_0 tl_16 ((cp_of (t := 0) (N := 60) (f := T.1 5) (g := A2 5) (by decide) (by decide) rfl rfl (by decide) (by decide) (Or.inl rfl) (fun j hj => by rw [b5, (hT.2.2.1 j hj).1, (hS.2.2.1 j hj).1])).trans (congrArg some (ub_w5_2 _ _ _ _ _ _))) ng_15_3 (tp_15_3 _)
  have q1 : xrr (w5 B0 (shC 1 T Y) (shC 2 (u2 A2 5 (T.1 5), u1 S.2 6 (T.2 6)) Z) B3 B4) (sh 2 14) (1 : Int32) = some (sh 2 19) := tq_14 (k := 1) (by decide)
  have p1 : xrr (w5 B0 (shC 1 T Y) (shC 2 (u2 A2 5 (T.1 5), u1 S.2 6 (T.2 6)) Z) B3 B4) (sh 1 14) (1 : Int32) = some (sh 1 19) := nq_14 (k := 1) (by decide)
  have t1 : xcall X (d + 1) j_Tx_copy [.ref (sh 2 19), .ref (sh 1 19)] (w5 B0 (shC 1 T Y) (shC 2 (u2 A2 5 (T.1 5), u1 S.2 6 (T.2 6)) Z) B3 B4) = some (none, w5 B0 (shC 1 T Y) (shC 2 (u2 (u2 A2 5 (T.1 5)) 6 (T.1 6), u1 (u1 S.2 6 (T.2 6)) 7 (T.2 7)) Z) B3 B4) :=
    c_Tx_copy (τ := w5 B0 (shC 1 T Y) (shC 2 (u2 (u2 A2 5 (T.1 5)) 6 (T.1 6), u1 S.2 6 (T.2 6)) Z) B3 B4) ng_19_0 tg_19_0 tl_20 ((cp_of (t := 0) (N := 60) (f := T.1 6) (g := A2 6) (by decide) (by decide) rfl rfl (by decide) (by decide) (Or.inl rfl) (fun j hj => by rw [b6, (hT.2.2.1 j hj).2.1, (hS.2.2.1 j hj).2.1])).trans (congrArg some (ub_w5_2 _ _ _ _ _ _))) ng_19_3 (tp_19_3 _)
  have i0 : ¬ (2 : Int32) ≤ 0 := by decide
  have i1 : ¬ (2 : Int32) ≤ 0 + 1 := by decide
  have i2 : (2 : Int32) ≤ 0 + 1 + 1 := by decide
  have z1' : (0 : Int32) + 1 = 1 := by decide
  simp only [Option.bind_some, Option.bind_none, Option.toList_some, Option.toList_none, List.cons_append, List.nil_append, List.append_nil, s_Sh_copy_62, ng_0_5, s_Sh_copy_66, tg_0_5, s_Sh_copy_71, s_Sh_copy_76, tl_13, s_Sh_copy_77, cp4, s_Sh_copy_80, ng_0_7, s_Sh_copy_84, tg_0_7, s_Sh_copy_89, s_Sh_copy_94, tl_23, s_Sh_copy_95, cp7, s_Sh_copy_98, ng_0_8, s_Sh_copy_102, tg_0_8, s_Sh_copy_107, s_Sh_copy_112, tl_24, s_Sh_copy_113, cp8, s_Sh_copy_116]
  rw [s_Sh_copy_118, if_neg i0]
  simp only [Option.bind_some, Option.bind_none, Option.toList_some, Option.toList_none, List.cons_append, List.nil_append, List.append_nil, s_Sh_copy_123, tg_0_6, s_Sh_copy_127, q0, s_Sh_copy_129, ng_0_6, s_Sh_copy_133, p0, s_Sh_copy_135, tv_15, t0, s_Sh_copy_138]
  rw [s_Sh_copy_118, if_neg i1, z1']
  simp only [Option.bind_some, Option.bind_none, Option.toList_some, Option.toList_none, List.cons_append, List.nil_append, List.append_nil, s_Sh_copy_123, tg_0_6, s_Sh_copy_127, q1, s_Sh_copy_129, ng_0_6, s_Sh_copy_133, p1, s_Sh_copy_135, tv_19, t1, s_Sh_copy_138]
  rw [s_Sh_copy_118, if_pos (show (2 : Int32) ≤ 1 + 1 by decide)]
  simp only [Option.bind_some, Option.bind_none, Option.toList_some, Option.toList_none, List.cons_append, List.nil_append, List.append_nil, s_Sh_copy_144, ng_0_9, s_Sh_copy_149, tp_0_9, s_Sh_copy_152, ng_0_10, s_Sh_copy_157, tp_0_10, s_Sh_copy_160, ng_0_11, s_Sh_copy_165, tp_0_11, s_Sh_copy_168, ng_0_12, s_Sh_copy_173, tp_0_12, s_Sh_copy_176, ng_0_13, s_Sh_copy_181, tp_0_13, s_Sh_copy_184, ng_0_14, s_Sh_copy_189, tp_0_14, s_Sh_copy_192]
  rw [← hA2, ← hA]
  rfl
theorem l_Sh_copy31 (hT : okN T) : ∀ (k i : Nat), i + k = 8 →
    xrun (X, xcall X (d + 1)) j_Sh_copy 2 [.ref (sh 3 0), .ref (sh 1 0), .int (nI i)] [] (w5 B0 (shC 1 T Y) B2 (shC 3 (c4 S T i) Z) B4) = xrun (X, xcall X (d + 1)) j_Sh_copy 62 [.ref (sh 3 0), .ref (sh 1 0), .int (nI 8)] [] (w5 B0 (shC 1 T Y) B2 (shC 3 (c4 S T 8) Z) B4) := by
  intro k
  induction k with
  | zero =>
    intro i hi
    have hi' : i = 8 := by omega
    subst hi'
    have h1 : (8 : Int32) ≤ nI 8 := by decide
    rw [s_Sh_copy_2, if_pos h1]
  | succ k ih =>
    intro i hi
    have h1 : ¬ (8 : Int32) ≤ nI i := fun h => absurd ((nI_le_iff (a := 8) (b := i) (by omega) (by omega)).mp h) (by omega)
    have hi8 : i < 8 := by omega
    have hx : xnw 2 (T.1 3 i) = T.1 3 i := by
      rcases hT.2.2.2.2.1 i hi8 with h | h <;> rw [h] <;> rfl
    rw [s_Sh_copy_2, if_neg h1]
    simp only [Option.bind_some, Option.bind_none, Option.toList_some, Option.toList_none, List.cons_append, List.nil_append, List.append_nil, s_Sh_copy_8, kg_0_1, s_Sh_copy_12, ng_0_1, s_Sh_copy_17, nr_9 hi8, s_Sh_copy_19, kw_9 hi8, s_Sh_copy_20, kg_0_2, s_Sh_copy_24, ng_0_2, s_Sh_copy_29, nr_10 hi8, s_Sh_copy_31, kw_10 hi8, s_Sh_copy_32, kg_0_3, s_Sh_copy_36, ng_0_3, s_Sh_copy_41, nr_11 hi8, s_Sh_copy_43, kw_11 hi8,
      s_Sh_copy_44, kg_0_4, s_Sh_copy_48, ng_0_4, s_Sh_copy_53, nr_12 hi8, s_Sh_copy_55, kw_12 hi8, s_Sh_copy_56, nI_add1, hx]
    have h9 := c4_step (S := S) (T := T) (i := i) 3 Z (xnw 0 (T.1 0 i)) (xnw 0 (T.1 1 i)) (xnw 0 (T.1 2 i)) (T.1 3 i) rfl rfl rfl rfl
    have h10 := ih (i + 1) (by omega)
    rw [← h9] at h10
    exact h10
theorem c_Sh_copy31 (hS : okN S) (hT : okN T) : ∃ Z' : xS, xcall X (d + 2) j_Sh_copy [.ref (sh 3 0), .ref (sh 1 0)] (w5 B0 (shC 1 T Y) B2 (shC 3 S Z) B4) = some (none, w5 B0 (shC 1 T Y) B2 (shC 3 T Z') B4) := by
  refine ⟨Z, ?_⟩
  have hl := l_Sh_copy31 (X := X) (d := d) (B0 := B0) (B2 := B2) (B4 := B4) (S := S) (T := T) (Z := Z) (Y := Y) hT 8 0 (by omega)
  have h0 : shC 3 (c4 S T 0) Z = shC 3 S Z := by
    unfold c4
    rw [cpA_0, cpA_0, cpA_0, cpA_0]
    rfl
  have h8 : shC 3 (c4 S T 8) Z = shC 3 (u2 (u2 (u2 (u2 S.1 0 (T.1 0)) 1 (T.1 1)) 2 (T.1 2)) 3 (T.1 3), S.2) Z := by
    unfold c4
    rw [cpA_8 (fun p hp => (hT.1 p hp).1.trans (hS.1 p hp).1.symm), cpA_8 (fun p hp => (hT.1 p hp).2.1.trans (hS.1 p hp).2.1.symm), cpA_8 (fun p hp => (hT.1 p hp).2.2.1.trans (hS.1 p hp).2.2.1.symm), cpA_8 (fun p hp => (hT.1 p hp).2.2.2.trans (hS.1 p hp).2.2.2.symm)]
  rw [h0, h8] at hl
  have hl : xrun (X, xcall X (d + 1)) j_Sh_copy 2 [.ref (sh 3 0), .ref (sh 1 0), .int (0 : Int32)] [] (w5 B0 (shC 1 T Y) B2 (shC 3 S Z) B4) = _ := hl
  rw [e_Sh_copy, s_Sh_copy_0, hl]
  generalize hA : (u2 (u2 (u2 (u2 S.1 0 (T.1 0)) 1 (T.1 1)) 2 (T.1 2)) 3 (T.1 3)) = A1
  have a4 : A1 4 = S.1 4 := by rw [← hA]; rfl
  have a7 : A1 7 = S.1 7 := by rw [← hA]; rfl
  have a8 : A1 8 = S.1 8 := by rw [← hA]; rfl
  have a5 : A1 5 = S.1 5 := by rw [← hA]; rfl
  have a6 : A1 6 = S.1 6 := by rw [← hA]; rfl
  have cp4 : xcp (w5 B0 (shC 1 T Y) B2 (shC 3 (A1, S.2) Z) B4) (Int32.ofNat 64) (0 : Int32) (sh 3 13) (0 : Int32) (sh 1 13) = some (w5 B0 (shC 1 T Y) B2 (shC 3 (u2 A1 4 (T.1 4), S.2) Z) B4) :=
    (cp_of (t := 0) (N := 64) (f := T.1 4) (g := A1 4) (by decide) (by decide) rfl rfl (by decide) (by decide) (Or.inl rfl) (fun j hj => by rw [a4, hT.2.1 j hj, hS.2.1 j hj])).trans (congrArg some (ub_w5_3 _ _ _ _ _ _))
  have cp7 : xcp (w5 B0 (shC 1 T Y) B2 (shC 3 (u2 A1 4 (T.1 4), S.2) Z) B4) (Int32.ofNat 60) (0 : Int32) (sh 3 23) (0 : Int32) (sh 1 23) = some (w5 B0 (shC 1 T Y) B2 (shC 3 (u2 (u2 A1 4 (T.1 4)) 7 (T.1 7), S.2) Z) B4) :=
    (cp_of (t := 1) (N := 60) (f := T.1 7) (g := A1 7) (by decide) (by decide) rfl rfl (by decide) (by decide) (Or.inr hT.2.2.2.2.2) (fun j hj => by rw [a7, (hT.2.2.1 j hj).2.2, (hS.2.2.1 j hj).2.2])).trans (congrArg some (ub_w5_3 _ _ _ _ _ _))
  have cp8 : xcp (w5 B0 (shC 1 T Y) B2 (shC 3 (u2 (u2 A1 4 (T.1 4)) 7 (T.1 7), S.2) Z) B4) (Int32.ofNat 24) (0 : Int32) (sh 3 24) (0 : Int32) (sh 1 24) = some (w5 B0 (shC 1 T Y) B2 (shC 3 (u2 (u2 (u2 A1 4 (T.1 4)) 7 (T.1 7)) 8 (T.1 8), S.2) Z) B4) :=
    (cp_of (t := 0) (N := 24) (f := T.1 8) (g := A1 8) (by decide) (by decide) rfl rfl (by decide) (by decide) (Or.inl rfl) (fun j hj => by rw [a8, hT.2.2.2.1 j hj, hS.2.2.2.1 j hj])).trans (congrArg some (ub_w5_3 _ _ _ _ _ _))
  generalize hA2 : (u2 (u2 (u2 A1 4 (T.1 4)) 7 (T.1 7)) 8 (T.1 8)) = A2 at cp8
  have b5 : A2 5 = S.1 5 := by rw [← hA2, ← a5]; rfl
  have b6 : A2 6 = S.1 6 := by rw [← hA2, ← a6]; rfl
  have q0 : xrr (w5 B0 (shC 1 T Y) B2 (shC 3 (A2, S.2) Z) B4) (sh 3 14) (0 : Int32) = some (sh 3 15) := kq_14 (k := 0) (by decide)
  have p0 : xrr (w5 B0 (shC 1 T Y) B2 (shC 3 (A2, S.2) Z) B4) (sh 1 14) (0 : Int32) = some (sh 1 15) := nq_14 (k := 0) (by decide)
  have t0 : xcall X (d + 1) j_Tx_copy [.ref (sh 3 15), .ref (sh 1 15)] (w5 B0 (shC 1 T Y) B2 (shC 3 (A2, S.2) Z) B4) = some (none, w5 B0 (shC 1 T Y) B2 (shC 3 (u2 A2 5 (T.1 5), u1 S.2 6 (T.2 6)) Z) B4) :=
    c_Tx_copy (τ := w5 B0 (shC 1 T Y) B2 (shC 3 (u2 A2 5 (T.1 5), S.2) Z) B4) ng_15_0 kg_15_0 kl_16 ((cp_of (t := 0) (N := 60) (f := T.1 5) (g := A2 5) (by decide) (by decide) rfl rfl (by decide) (by decide) (Or.inl rfl) (fun j hj => by rw [b5, (hT.2.2.1 j hj).1, (hS.2.2.1 j hj).1])).trans (congrArg some (ub_w5_3 _ _ _ _ _ _))) ng_15_3 (kp_15_3 _)
  have q1 : xrr (w5 B0 (shC 1 T Y) B2 (shC 3 (u2 A2 5 (T.1 5), u1 S.2 6 (T.2 6)) Z) B4) (sh 3 14) (1 : Int32) = some (sh 3 19) := kq_14 (k := 1) (by decide)
  have p1 : xrr (w5 B0 (shC 1 T Y) B2 (shC 3 (u2 A2 5 (T.1 5), u1 S.2 6 (T.2 6)) Z) B4) (sh 1 14) (1 : Int32) = some (sh 1 19) := nq_14 (k := 1) (by decide)
  have t1 : xcall X (d + 1) j_Tx_copy [.ref (sh 3 19), .ref (sh 1 19)] (w5 B0 (shC 1 T Y) B2 (shC 3 (u2 A2 5 (T.1 5), u1 S.2 6 (T.2 6)) Z) B4) = some (none, w5 B0 (shC 1 T Y) B2 (shC 3 (u2 (u2 A2 5 (T.1 5)) 6 (T.1 6), u1 (u1 S.2 6 (T.2 6)) 7 (T.2 7)) Z) B4) :=
    c_Tx_copy (τ := w5 B0 (shC 1 T Y) B2 (shC 3 (u2 (u2 A2 5 (T.1 5)) 6 (T.1 6), u1 S.2 6 (T.2 6)) Z) B4) ng_19_0 kg_19_0 kl_20 ((cp_of (t := 0) (N := 60) (f := T.1 6) (g := A2 6) (by decide) (by decide) rfl rfl (by decide) (by decide) (Or.inl rfl) (fun j hj => by rw [b6, (hT.2.2.1 j hj).2.1, (hS.2.2.1 j hj).2.1])).trans (congrArg some (ub_w5_3 _ _ _ _ _ _))) ng_19_3 (kp_19_3 _)
  have i0 : ¬ (2 : Int32) ≤ 0 := by decide
  have i1 : ¬ (2 : Int32) ≤ 0 + 1 := by decide
  have i2 : (2 : Int32) ≤ 0 + 1 + 1 := by decide
  have z1' : (0 : Int32) + 1 = 1 := by decide
  simp only [Option.bind_some, Option.bind_none, Option.toList_some, Option.toList_none, List.cons_append, List.nil_append, List.append_nil, s_Sh_copy_62, ng_0_5, s_Sh_copy_66, kg_0_5, s_Sh_copy_71, s_Sh_copy_76, kl_13, s_Sh_copy_77, cp4, s_Sh_copy_80, ng_0_7, s_Sh_copy_84, kg_0_7, s_Sh_copy_89, s_Sh_copy_94, kl_23, s_Sh_copy_95, cp7, s_Sh_copy_98, ng_0_8, s_Sh_copy_102, kg_0_8, s_Sh_copy_107, s_Sh_copy_112, kl_24, s_Sh_copy_113, cp8, s_Sh_copy_116]
  rw [s_Sh_copy_118, if_neg i0]
  simp only [Option.bind_some, Option.bind_none, Option.toList_some, Option.toList_none, List.cons_append, List.nil_append, List.append_nil, s_Sh_copy_123, kg_0_6, s_Sh_copy_127, q0, s_Sh_copy_129, ng_0_6, s_Sh_copy_133, p0, s_Sh_copy_135, kv_15, t0, s_Sh_copy_138]
  rw [s_Sh_copy_118, if_neg i1, z1']
  simp only [Option.bind_some, Option.bind_none, Option.toList_some, Option.toList_none, List.cons_append, List.nil_append, List.append_nil, s_Sh_copy_123, kg_0_6, s_Sh_copy_127, q1, s_Sh_copy_129, ng_0_6, s_Sh_copy_133, p1, s_Sh_copy_135, kv_19, t1, s_Sh_copy_138]
  rw [s_Sh_copy_118, if_pos (show (2 : Int32) ≤ 1 + 1 by decide)]
  simp only [Option.bind_some, Option.bind_none, Option.toList_some, Option.toList_none, List.cons_append, List.nil_append, List.append_nil, s_Sh_copy_144, ng_0_9, s_Sh_copy_149, kp_0_9, s_Sh_copy_152, ng_0_10, s_Sh_copy_157, kp_0_10, s_Sh_copy_160, ng_0_11, s_Sh_copy_165, kp_0_11, s_Sh_copy_168, ng_0_12, s_Sh_copy_173, kp_0_12, s_Sh_copy_176, ng_0_13, s_Sh_copy_181, kp_0_13, s_Sh_copy_184, ng_0_14, s_Sh_copy_189, kp_0_14, s_Sh_copy_192]
  rw [← hA2, ← hA]
  rfl
theorem l_Sh_copy13 (hT : okN T) : ∀ (k i : Nat), i + k = 8 →
    xrun (X, xcall X (d + 1)) j_Sh_copy 2 [.ref (sh 1 0), .ref (sh 3 0), .int (nI i)] [] (w5 B0 (shC 1 (c4 S T i) Z) B2 (shC 3 T Y) B4) = xrun (X, xcall X (d + 1)) j_Sh_copy 62 [.ref (sh 1 0), .ref (sh 3 0), .int (nI 8)] [] (w5 B0 (shC 1 (c4 S T 8) Z) B2 (shC 3 T Y) B4) := by
  intro k
  induction k with
  | zero =>
    intro i hi
    have hi' : i = 8 := by omega
    subst hi'
    have h1 : (8 : Int32) ≤ nI 8 := by decide
    rw [s_Sh_copy_2, if_pos h1]
  | succ k ih =>
    intro i hi
    have h1 : ¬ (8 : Int32) ≤ nI i := fun h => absurd ((nI_le_iff (a := 8) (b := i) (by omega) (by omega)).mp h) (by omega)
    have hi8 : i < 8 := by omega
    have hx : xnw 2 (T.1 3 i) = T.1 3 i := by
      rcases hT.2.2.2.2.1 i hi8 with h | h <;> rw [h] <;> rfl
    rw [s_Sh_copy_2, if_neg h1]
    simp only [Option.bind_some, Option.bind_none, Option.toList_some, Option.toList_none, List.cons_append, List.nil_append, List.append_nil, s_Sh_copy_8, ng_0_1, s_Sh_copy_12, kg_0_1, s_Sh_copy_17, kr_9 hi8, s_Sh_copy_19, nw_9 hi8, s_Sh_copy_20, ng_0_2, s_Sh_copy_24, kg_0_2, s_Sh_copy_29, kr_10 hi8, s_Sh_copy_31, nw_10 hi8, s_Sh_copy_32, ng_0_3, s_Sh_copy_36, kg_0_3, s_Sh_copy_41, kr_11 hi8, s_Sh_copy_43, nw_11 hi8,
      s_Sh_copy_44, ng_0_4, s_Sh_copy_48, kg_0_4, s_Sh_copy_53, kr_12 hi8, s_Sh_copy_55, nw_12 hi8, s_Sh_copy_56, nI_add1, hx]
    have h9 := c4_step (S := S) (T := T) (i := i) 1 Z (xnw 0 (T.1 0 i)) (xnw 0 (T.1 1 i)) (xnw 0 (T.1 2 i)) (T.1 3 i) rfl rfl rfl rfl
    have h10 := ih (i + 1) (by omega)
    rw [← h9] at h10
    exact h10
theorem c_Sh_copy13 (hS : okN S) (hT : okN T) : ∃ Z' : xS, xcall X (d + 2) j_Sh_copy [.ref (sh 1 0), .ref (sh 3 0)] (w5 B0 (shC 1 S Z) B2 (shC 3 T Y) B4) = some (none, w5 B0 (shC 1 T Z') B2 (shC 3 T Y) B4) := by
  refine ⟨Z, ?_⟩
  have hl := l_Sh_copy13 (X := X) (d := d) (B0 := B0) (B2 := B2) (B4 := B4) (S := S) (T := T) (Z := Z) (Y := Y) hT 8 0 (by omega)
  have h0 : shC 1 (c4 S T 0) Z = shC 1 S Z := by
    unfold c4
    rw [cpA_0, cpA_0, cpA_0, cpA_0]
    rfl
  have h8 : shC 1 (c4 S T 8) Z = shC 1 (u2 (u2 (u2 (u2 S.1 0 (T.1 0)) 1 (T.1 1)) 2 (T.1 2)) 3 (T.1 3), S.2) Z := by
    unfold c4
    rw [cpA_8 (fun p hp => (hT.1 p hp).1.trans (hS.1 p hp).1.symm), cpA_8 (fun p hp => (hT.1 p hp).2.1.trans (hS.1 p hp).2.1.symm), cpA_8 (fun p hp => (hT.1 p hp).2.2.1.trans (hS.1 p hp).2.2.1.symm), cpA_8 (fun p hp => (hT.1 p hp).2.2.2.trans (hS.1 p hp).2.2.2.symm)]
  rw [h0, h8] at hl
  have hl : xrun (X, xcall X (d + 1)) j_Sh_copy 2 [.ref (sh 1 0), .ref (sh 3 0), .int (0 : Int32)] [] (w5 B0 (shC 1 S Z) B2 (shC 3 T Y) B4) = _ := hl
  rw [e_Sh_copy, s_Sh_copy_0, hl]
  generalize hA : (u2 (u2 (u2 (u2 S.1 0 (T.1 0)) 1 (T.1 1)) 2 (T.1 2)) 3 (T.1 3)) = A1
  have a4 : A1 4 = S.1 4 := by rw [← hA]; rfl
  have a7 : A1 7 = S.1 7 := by rw [← hA]; rfl
  have a8 : A1 8 = S.1 8 := by rw [← hA]; rfl
  have a5 : A1 5 = S.1 5 := by rw [← hA]; rfl
  have a6 : A1 6 = S.1 6 := by rw [← hA]; rfl
  have cp4 : xcp (w5 B0 (shC 1 (A1, S.2) Z) B2 (shC 3 T Y) B4) (Int32.ofNat 64) (0 : Int32) (sh 1 13) (0 : Int32) (sh 3 13) = some (w5 B0 (shC 1 (u2 A1 4 (T.1 4), S.2) Z) B2 (shC 3 T Y) B4) :=
    (cp_of (t := 0) (N := 64) (f := T.1 4) (g := A1 4) (by decide) (by decide) rfl rfl (by decide) (by decide) (Or.inl rfl) (fun j hj => by rw [a4, hT.2.1 j hj, hS.2.1 j hj])).trans (congrArg some (ub_w5_1 _ _ _ _ _ _))
  have cp7 : xcp (w5 B0 (shC 1 (u2 A1 4 (T.1 4), S.2) Z) B2 (shC 3 T Y) B4) (Int32.ofNat 60) (0 : Int32) (sh 1 23) (0 : Int32) (sh 3 23) = some (w5 B0 (shC 1 (u2 (u2 A1 4 (T.1 4)) 7 (T.1 7), S.2) Z) B2 (shC 3 T Y) B4) :=
    (cp_of (t := 1) (N := 60) (f := T.1 7) (g := A1 7) (by decide) (by decide) rfl rfl (by decide) (by decide) (Or.inr hT.2.2.2.2.2) (fun j hj => by rw [a7, (hT.2.2.1 j hj).2.2, (hS.2.2.1 j hj).2.2])).trans (congrArg some (ub_w5_1 _ _ _ _ _ _))
  have cp8 : xcp (w5 B0 (shC 1 (u2 (u2 A1 4 (T.1 4)) 7 (T.1 7), S.2) Z) B2 (shC 3 T Y) B4) (Int32.ofNat 24) (0 : Int32) (sh 1 24) (0 : Int32) (sh 3 24) = some (w5 B0 (shC 1 (u2 (u2 (u2 A1 4 (T.1 4)) 7 (T.1 7)) 8 (T.1 8), S.2) Z) B2 (shC 3 T Y) B4) :=
    (cp_of (t := 0) (N := 24) (f := T.1 8) (g := A1 8) (by decide) (by decide) rfl rfl (by decide) (by decide) (Or.inl rfl) (fun j hj => by rw [a8, hT.2.2.2.1 j hj, hS.2.2.2.1 j hj])).trans (congrArg some (ub_w5_1 _ _ _ _ _ _))
  generalize hA2 : (u2 (u2 (u2 A1 4 (T.1 4)) 7 (T.1 7)) 8 (T.1 8)) = A2 at cp8
  have b5 : A2 5 = S.1 5 := by rw [← hA2, ← a5]; rfl
  have b6 : A2 6 = S.1 6 := by rw [← hA2, ← a6]; rfl
  have q0 : xrr (w5 B0 (shC 1 (A2, S.2) Z) B2 (shC 3 T Y) B4) (sh 1 14) (0 : Int32) = some (sh 1 15) := nq_14 (k := 0) (by decide)
  have p0 : xrr (w5 B0 (shC 1 (A2, S.2) Z) B2 (shC 3 T Y) B4) (sh 3 14) (0 : Int32) = some (sh 3 15) := kq_14 (k := 0) (by decide)
  have t0 : xcall X (d + 1) j_Tx_copy [.ref (sh 1 15), .ref (sh 3 15)] (w5 B0 (shC 1 (A2, S.2) Z) B2 (shC 3 T Y) B4) = some (none, w5 B0 (shC 1 (u2 A2 5 (T.1 5), u1 S.2 6 (T.2 6)) Z) B2 (shC 3 T Y) B4) :=
    c_Tx_copy (τ := w5 B0 (shC 1 (u2 A2 5 (T.1 5), S.2) Z) B2 (shC 3 T Y) B4) kg_15_0 ng_15_0 nl_16 ((cp_of (t := 0) (N := 60) (f := T.1 5) (g := A2 5) (by decide) (by decide) rfl rfl (by decide) (by decide) (Or.inl rfl) (fun j hj => by rw [b5, (hT.2.2.1 j hj).1, (hS.2.2.1 j hj).1])).trans (congrArg some (ub_w5_1 _ _ _ _ _ _))) kg_15_3 (np_15_3 _)
  have q1 : xrr (w5 B0 (shC 1 (u2 A2 5 (T.1 5), u1 S.2 6 (T.2 6)) Z) B2 (shC 3 T Y) B4) (sh 1 14) (1 : Int32) = some (sh 1 19) := nq_14 (k := 1) (by decide)
  have p1 : xrr (w5 B0 (shC 1 (u2 A2 5 (T.1 5), u1 S.2 6 (T.2 6)) Z) B2 (shC 3 T Y) B4) (sh 3 14) (1 : Int32) = some (sh 3 19) := kq_14 (k := 1) (by decide)
  have t1 : xcall X (d + 1) j_Tx_copy [.ref (sh 1 19), .ref (sh 3 19)] (w5 B0 (shC 1 (u2 A2 5 (T.1 5), u1 S.2 6 (T.2 6)) Z) B2 (shC 3 T Y) B4) = some (none, w5 B0 (shC 1 (u2 (u2 A2 5 (T.1 5)) 6 (T.1 6), u1 (u1 S.2 6 (T.2 6)) 7 (T.2 7)) Z) B2 (shC 3 T Y) B4) :=
    c_Tx_copy (τ := w5 B0 (shC 1 (u2 (u2 A2 5 (T.1 5)) 6 (T.1 6), u1 S.2 6 (T.2 6)) Z) B2 (shC 3 T Y) B4) kg_19_0 ng_19_0 nl_20 ((cp_of (t := 0) (N := 60) (f := T.1 6) (g := A2 6) (by decide) (by decide) rfl rfl (by decide) (by decide) (Or.inl rfl) (fun j hj => by rw [b6, (hT.2.2.1 j hj).2.1, (hS.2.2.1 j hj).2.1])).trans (congrArg some (ub_w5_1 _ _ _ _ _ _))) kg_19_3 (np_19_3 _)
  have i0 : ¬ (2 : Int32) ≤ 0 := by decide
  have i1 : ¬ (2 : Int32) ≤ 0 + 1 := by decide
  have i2 : (2 : Int32) ≤ 0 + 1 + 1 := by decide
  have z1' : (0 : Int32) + 1 = 1 := by decide
  simp only [Option.bind_some, Option.bind_none, Option.toList_some, Option.toList_none, List.cons_append, List.nil_append, List.append_nil, s_Sh_copy_62, kg_0_5, s_Sh_copy_66, ng_0_5, s_Sh_copy_71, s_Sh_copy_76, nl_13, s_Sh_copy_77, cp4, s_Sh_copy_80, kg_0_7, s_Sh_copy_84, ng_0_7, s_Sh_copy_89, s_Sh_copy_94, nl_23, s_Sh_copy_95, cp7, s_Sh_copy_98, kg_0_8, s_Sh_copy_102, ng_0_8, s_Sh_copy_107, s_Sh_copy_112, nl_24, s_Sh_copy_113, cp8, s_Sh_copy_116]
  rw [s_Sh_copy_118, if_neg i0]
  simp only [Option.bind_some, Option.bind_none, Option.toList_some, Option.toList_none, List.cons_append, List.nil_append, List.append_nil, s_Sh_copy_123, ng_0_6, s_Sh_copy_127, q0, s_Sh_copy_129, kg_0_6, s_Sh_copy_133, p0, s_Sh_copy_135, nv_15, t0, s_Sh_copy_138]
  rw [s_Sh_copy_118, if_neg i1, z1']
  simp only [Option.bind_some, Option.bind_none, Option.toList_some, Option.toList_none, List.cons_append, List.nil_append, List.append_nil, s_Sh_copy_123, ng_0_6, s_Sh_copy_127, q1, s_Sh_copy_129, kg_0_6, s_Sh_copy_133, p1, s_Sh_copy_135, nv_19, t1, s_Sh_copy_138]
  rw [s_Sh_copy_118, if_pos (show (2 : Int32) ≤ 1 + 1 by decide)]
  simp only [Option.bind_some, Option.bind_none, Option.toList_some, Option.toList_none, List.cons_append, List.nil_append, List.append_nil, s_Sh_copy_144, kg_0_9, s_Sh_copy_149, np_0_9, s_Sh_copy_152, kg_0_10, s_Sh_copy_157, np_0_10, s_Sh_copy_160, kg_0_11, s_Sh_copy_165, np_0_11, s_Sh_copy_168, kg_0_12, s_Sh_copy_173, np_0_12, s_Sh_copy_176, kg_0_13, s_Sh_copy_181, np_0_13, s_Sh_copy_184, kg_0_14, s_Sh_copy_189, np_0_14, s_Sh_copy_192]
  rw [← hA2, ← hA]
  rfl
end ShCopy
