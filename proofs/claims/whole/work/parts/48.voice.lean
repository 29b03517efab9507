/-! ===== contracts: RopeShore's calls, 7: voices ===== -/
def vbg (R : xS) (b : Int32) : xS := if Int32.ofNat 30 ≤ R.2 9 then R else (u2 R.1 5 (upd (R.1 5) (ix (R.2 9)) b), u1 R.2 9 (R.2 9 + 1))
def okB (R : xS) : Prop := R.2 9 = nI (ix (R.2 9)) ∧ ix (R.2 9) ≤ 30
theorem vbg_lt {R : xS} (h : okB R) (hl : ¬ Int32.ofNat 30 ≤ R.2 9) : ix (R.2 9) < 30 := by
  obtain ⟨h1, h2⟩ := h
  rw [h1] at hl
  have : ¬ 30 ≤ ix (R.2 9) := fun e => hl ((nI_le_iff (a := 30) (b := ix (R.2 9)) (by omega) (by omega)).mpr e)
  omega
theorem okB_vbg {R : xS} (h : okB R) (b : Int32) : okB (vbg R b) := by
  unfold vbg
  split
  · exact h
  · next hl =>
    have h3 := vbg_lt h hl
    have e : R.2 9 + 1 = nI (ix (R.2 9) + 1) := by rw [← nI_add1, ← h.1]
    show (R.2 9 + 1 = nI (ix (R.2 9 + 1)) ∧ ix (R.2 9 + 1) ≤ 30)
    rw [e, ix_nI (by omega)]
    exact ⟨rfl, by omega⟩
def psay (n : Int32) (R : xS) (x : Int32) : Int32 × xS := (x + n, vbg R 10)
def gsay (n : Int32) (R : xS) (x : Int32) : Int32 × xS := ((psay n (vbg R 20) x).1 - 4, (psay n (vbg R 20) x).2)
def vsay (k : Nat) (n : Int32) (R : xS) (x : Int32) : Int32 × xS := match k with
  | 1 => gsay n R x
  | 4 => ((gsay n (vbg R 50) x).1 * 3, (gsay n (vbg R 50) x).2)
  | 6 => (9, vbg R 70)
  | _ => psay n R x
def plet (k : Nat) (n : Int32) (R : xS) (x : Int32) : Int32 × xS := ((vsay k n (vbg R 11) x).1 * 2, (vsay k n (vbg R 11) x).2)
def mlet (k : Nat) (n : Int32) (R : xS) (x : Int32) : Int32 × xS := (0 - (plet k n (vbg R 30) x).1, (plet k n (vbg R 30) x).2)
def vlet (k : Nat) (n m : Int32) (R : xS) (x : Int32) : Int32 × xS := match k with
  | 2 => mlet k n R x
  | 5 => mlet k n (vbg R 60) (x + 1)
  | 6 => ((plet k n (vbg R 71) x).1 + m, (plet k n (vbg R 71) x).2)
  | _ => plet k n R x
def phaul (k : Nat) (n m : Int32) (R : xS) (x : Int32) : Int32 × xS := ((vlet k n m (vbg R 12) x).1 - m, (vlet k n m (vbg R 12) x).2)
def vhaul (k : Nat) (n m : Int32) (R : xS) (x : Int32) : Int32 × xS := match k with
  | 3 => phaul k n m (vbg R 40) (x / 2)
  | 4 => ((phaul k n m (vbg R 51) x).1 ^^^ n, (phaul k n m (vbg R 51) x).2)
  | _ => phaul k n m R x
theorem vhaul_4 (n m : Int32) (R : xS) (x : Int32) : vhaul 4 n m R x = ((phaul 4 n m (vbg R 51) x).1 ^^^ n, (phaul 4 n m (vbg R 51) x).2) := rfl
def ppart (n m : Int32) (R : xS) (x : Int32) : Int32 × xS × Int32 := if m - n = 0 then (0, vbg R 13, 1) else (x / (m - n), vbg R 13, 0)
def gpart (k : Nat) (n m : Int32) (R : xS) (x : Int32) : Int32 × xS × Int32 := if m - n = 0 then (0, vbg (vbg R 21) 13, 1) else (x / (m - n) + (plet k n (vbg (vbg R 21) 13) 1).1, (plet k n (vbg (vbg R 21) 13) 1).2, 0)
def vpart (k : Nat) (n m : Int32) (R : xS) (x : Int32) : Int32 × xS × Int32 := match k with
  | 1 => gpart k n m R x
  | 4 => gpart k n m R x
  | _ => ppart n m R x
def vall (k : Nat) (v n m : Int32) (R : xS) (x : Int32) : Int32 × xS × Int32 :=
  if v = 0 then ((vsay k n R x).1, (vsay k n R x).2, 0) else if v = 1 then ((vlet k n m R x).1, (vlet k n m R x).2, 0) else if v = 2 then ((vhaul k n m R x).1, (vhaul k n m R x).2, 0) else vpart k n m R x
def sp_voice (R S K : xS) (p v x : Int32) : Int32 × xQS :=
  if ¬ (hasP S p ∧ (0 ≤ v ∧ v ≤ 3)) then eQ 1 R S K
  else if (vall (kd S (ix p)) v p (S.1 1 (ix p)) (R.1, u1 R.2 9 0) x).2.2 = 0 then ((vall (kd S (ix p)) v p (S.1 1 (ix p)) (R.1, u1 R.2 9 0) x).1, (vall (kd S (ix p)) v p (S.1 1 (ix p)) (R.1, u1 R.2 9 0) x).2.1, S, K)
  else eQ 6 (vall (kd S (ix p)) v p (S.1 1 (ix p)) (R.1, u1 R.2 9 0) x).2.1 S K
section RVoice
variable {X : xX} {d : Nat} {R S K V Z : xS} {B1 B2 B3 B4 : List xE}
theorem okB_psay (h : okB R) (n x : Int32) : okB (psay n R x).2 := okB_vbg h 10
theorem okB_gsay (h : okB R) (n x : Int32) : okB (gsay n R x).2 := okB_vbg (okB_vbg h 20) 10
theorem okB_vsay (h : okB R) (k : Nat) (n x : Int32) : okB (vsay k n R x).2 := by
  unfold vsay
  split
  · exact okB_gsay h n x
  · exact okB_gsay (okB_vbg h 50) n x
  · exact okB_vbg h 70
  · exact okB_psay h n x
theorem okB_plet (h : okB R) (k : Nat) (n x : Int32) : okB (plet k n R x).2 := okB_vsay (okB_vbg h 11) k n x
theorem okB_mlet (h : okB R) (k : Nat) (n x : Int32) : okB (mlet k n R x).2 := okB_plet (okB_vbg h 30) k n x
theorem okB_vlet (h : okB R) (k : Nat) (n m x : Int32) : okB (vlet k n m R x).2 := by
  unfold vlet
  split
  · exact okB_mlet h _ n x
  · exact okB_mlet (okB_vbg h 60) _ n _
  · exact okB_plet (okB_vbg h 71) _ n x
  · exact okB_plet h _ n x
theorem okB_phaul (h : okB R) (k : Nat) (n m x : Int32) : okB (phaul k n m R x).2 := okB_vlet (okB_vbg h 12) k n m x
theorem okB_vhaul (h : okB R) (k : Nat) (n m x : Int32) : okB (vhaul k n m R x).2 := by
  unfold vhaul
  split
  · exact okB_phaul (okB_vbg h 40) _ n m _
  · have e := okB_phaul (okB_vbg h 51) 4 n m x
    dsimp only
    exact e
  · exact okB_phaul h _ n m x
theorem okB_vpart (h : okB R) (k : Nat) (n m x : Int32) : okB (vpart k n m R x).2.1 := by
  have hg : okB (gpart k n m R x).2.1 := by
    unfold gpart
    split
    · exact okB_vbg (okB_vbg h 21) 13
    · exact okB_plet (okB_vbg (okB_vbg h 21) 13) k n 1
  have hp : okB (ppart n m R x).2.1 := by
    unfold ppart
    split
    · exact okB_vbg h 13
    · exact okB_vbg h 13
  unfold vpart
  split
  · exact hg
  · exact hg
  · exact hp
theorem okB_vall (h : okB R) (k : Nat) (v n m x : Int32) : okB (vall k v n m R x).2.1 := by
  unfold vall
  split
  · exact okB_vsay h k n x
  · split
    · exact okB_vlet h k n m x
    · split
      · exact okB_vhaul h k n m x
      · exact okB_vpart h k n m x
/-- the other rows of R stay -/
def sameB (R R' : xS) : Prop := (∀ a, a ≠ 5 → R'.1 a = R.1 a) ∧ ∀ a, a ≠ 9 → R'.2 a = R.2 a
theorem c_begin (h : okB R) (b : Int32) : xcall X (d + 1) j_Vo_begin [.ref (sh 0 17), .int b] (w5 (rsC R V) B1 B2 B3 B4) = some (none, w5 (rsC (vbg R b) V) B1 B2 B3 B4) := by
  rw [e_Vo_begin]
  unfold vbg
  simp only [s_Vo_begin_0, s_Vo_begin_4, s_Vo_begin_8, s_Vo_begin_9, Option.bind_some, Option.bind_none, Option.toList_some, Option.toList_none, List.cons_append, List.nil_append, List.append_nil, rv_0, rg_0_0, rg_0_1, rg_0_2, rg_0_3, rg_0_4, rg_0_5, rg_0_6, rg_0_7, rg_0_8, rg_0_9, rv_17, rg_17_0, rg_17_1, rl_18]
  by_cases hl : Int32.ofNat 30 ≤ R.2 9
  · rw [if_pos hl, if_pos hl, s_Vo_begin_32]
  · rw [if_neg hl, if_neg hl]
    have h3 := vbg_lt h hl
    have hw : xwr (w5 (rsC R V) B1 B2 B3 B4) [0] (sh 0 18) (R.2 9) b = some (w5 (rsC (u2 R.1 5 (upd (R.1 5) (ix (R.2 9)) b), R.2) V) B1 B2 B3 B4) := by
      have := rw_18 (S := R) (Z := V) (B1 := B1) (B2 := B2) (B3 := B3) (B4 := B4) (x := b) h3
      rw [← h.1] at this
      exact this
    simp only [s_Vo_begin_12, s_Vo_begin_16, s_Vo_begin_20, s_Vo_begin_22, s_Vo_begin_27, s_Vo_begin_32, Option.bind_some, Option.bind_none, Option.toList_some, Option.toList_none, List.cons_append, List.nil_append, List.append_nil, rv_0, rg_0_0, rg_0_1, rg_0_2, rg_0_3, rg_0_4, rg_0_5, rg_0_6, rg_0_7, rg_0_8, rg_0_9, rv_17, rg_17_0, rg_17_1, hw, rp_17_1]
theorem c_Person_say (h : okB R) (r : Nat) (x : Int32) : xcall X (d + 2) j_Person_say [.ref r, .ref (sh 0 17), .int x] (w5 (rsC R V) B1 B2 B3 B4) = some (some (.int (psay (V.2 5) R x).1), w5 (rsC (psay (V.2 5) R x).2 V) B1 B2 B3 B4) := by
  rw [e_Person_say]
  simp only [s_Person_say_0, s_Person_say_6, s_Person_say_11, Option.bind_some, Option.bind_none, Option.toList_some, Option.toList_none, List.cons_append, List.nil_append, List.append_nil, rv_0, rg_0_0, rg_0_1, rg_0_2, rg_0_3, rg_0_4, rg_0_5, rg_0_6, rg_0_7, rg_0_8, rg_0_9, rv_17, rg_17_0, rg_17_1, c_begin h, rg_17_2]
  rfl
theorem kc {k : Nat} (hk : k < 7) : xcc (w5 (rsC R V) (shC 1 S Z) B2 B3 B4) (sh 1 (2 + k)) = some (6 + k) := by
  obtain rfl | rfl | rfl | rfl | rfl | rfl | rfl : k = 0 ∨ k = 1 ∨ k = 2 ∨ k = 3 ∨ k = 4 ∨ k = 5 ∨ k = 6 := by omega
  · exact nc_2
  · exact nc_3
  · exact nc_4
  · exact nc_5
  · exact nc_6
  · exact nc_7
  · exact nc_8
theorem c_Gossip_say (h : okB R) {k : Nat} (hk : k < 7) (x : Int32) : xcall X (d + 3) j_Gossip_say [.ref (sh 1 (2 + k)), .ref (sh 0 17), .int x] (w5 (rsC R V) (shC 1 S Z) B2 B3 B4) = some (some (.int (gsay (V.2 5) R x).1), w5 (rsC (gsay (V.2 5) R x).2 V) (shC 1 S Z) B2 B3 B4) := by
  rw [e_Gossip_say]
  simp only [s_Gossip_say_0, s_Gossip_say_6, s_Gossip_say_12, Option.bind_some, Option.bind_none, Option.toList_some, Option.toList_none, List.cons_append, List.nil_append, List.append_nil, rv_0, rg_0_0, rg_0_1, rg_0_2, rg_0_3, rg_0_4, rg_0_5, rg_0_6, rg_0_7, rg_0_8, rg_0_9, rv_17, rg_17_0, rg_17_1, c_begin h, kc hk, c_Person_say (okB_vbg h _)]
  rfl
theorem disp_say {β : Type} (F : xQ → Option β) (h : okB R) {k : Nat} (hk : k < 7) (x : Int32) :
    ((xcc (w5 (rsC R V) (shC 1 S Z) B2 B3 B4) (sh 1 (2 + k))).bind fun ci => (List.lookup ci [(6, j_Person_say), (7, j_Gossip_say), (8, j_Person_say), (9, j_Person_say), (10, j_Doctor_say), (11, j_Person_say), (12, j_Widow_say)]).bind fun jj => (xcall X (d + 4) jj [.ref (sh 1 (2 + k)), .ref (sh 0 17), .int x] (w5 (rsC R V) (shC 1 S Z) B2 B3 B4)).bind F) = F (some (.int (vsay k (V.2 5) R x).1), w5 (rsC (vsay k (V.2 5) R x).2 V) (shC 1 S Z) B2 B3 B4) := by
  rw [kc hk]
  have hp := c_Person_say (X := X) (d := d + 2) (V := V) (B1 := shC 1 S Z) (B2 := B2) (B3 := B3) (B4 := B4) h (sh 1 (2 + k)) x
  have hg := c_Gossip_say (X := X) (d := d + 1) (V := V) (S := S) (Z := Z) (B2 := B2) (B3 := B3) (B4 := B4) h hk x
  obtain rfl | rfl | rfl | rfl | rfl | rfl | rfl : k = 0 ∨ k = 1 ∨ k = 2 ∨ k = 3 ∨ k = 4 ∨ k = 5 ∨ k = 6 := by omega
  · show (xcall X (d + 4) j_Person_say _ _).bind F = _
    rw [hp]; rfl
  · show (xcall X (d + 4) j_Gossip_say _ _).bind F = _
    rw [hg]; rfl
  · show (xcall X (d + 4) j_Person_say _ _).bind F = _
    rw [hp]; rfl
  · show (xcall X (d + 4) j_Person_say _ _).bind F = _
    rw [hp]; rfl
  · show (xcall X (d + 4) j_Doctor_say _ _).bind F = _
    have e : xcall X (d + 4) j_Doctor_say [.ref (sh 1 (2 + 4)), .ref (sh 0 17), .int x] (w5 (rsC R V) (shC 1 S Z) B2 B3 B4) = some (some (.int (vsay 4 (V.2 5) R x).1), w5 (rsC (vsay 4 (V.2 5) R x).2 V) (shC 1 S Z) B2 B3 B4) := by
      rw [e_Doctor_say]
      simp only [s_Doctor_say_0, s_Doctor_say_6, s_Doctor_say_12, Option.bind_some, Option.bind_none, Option.toList_some, Option.toList_none, List.cons_append, List.nil_append, List.append_nil, rv_0, rg_0_0, rg_0_1, rg_0_2, rg_0_3, rg_0_4, rg_0_5, rg_0_6, rg_0_7, rg_0_8, rg_0_9, rv_17, rg_17_0, rg_17_1, c_begin h, kc hk, c_Gossip_say (okB_vbg h _) hk]
      rfl
    rw [e]; rfl
  · show (xcall X (d + 4) j_Person_say _ _).bind F = _
    rw [hp]; rfl
  · show (xcall X (d + 4) j_Widow_say _ _).bind F = _
    have e : xcall X (d + 4) j_Widow_say [.ref (sh 1 (2 + 6)), .ref (sh 0 17), .int x] (w5 (rsC R V) (shC 1 S Z) B2 B3 B4) = some (some (.int (vsay 6 (V.2 5) R x).1), w5 (rsC (vsay 6 (V.2 5) R x).2 V) (shC 1 S Z) B2 B3 B4) := by
      rw [e_Widow_say]
      simp only [s_Widow_say_0, s_Widow_say_6, Option.bind_some, Option.bind_none, Option.toList_some, Option.toList_none, List.cons_append, List.nil_append, List.append_nil, rv_0, rg_0_0, rg_0_1, rg_0_2, rg_0_3, rg_0_4, rg_0_5, rg_0_6, rg_0_7, rg_0_8, rg_0_9, rv_17, rg_17_0, rg_17_1, c_begin h]
      rfl
    rw [e]; rfl
theorem c_Person_let (h : okB R) {k : Nat} (hk : k < 7) (x : Int32) : xcall X (d + 5) j_Person_let [.ref (sh 1 (2 + k)), .ref (sh 0 17), .int x] (w5 (rsC R V) (shC 1 S Z) B2 B3 B4) = some (some (.int (plet k (V.2 5) R x).1), w5 (rsC (plet k (V.2 5) R x).2 V) (shC 1 S Z) B2 B3 B4) := by
  rw [e_Person_let]
  simp only [s_Person_let_0, s_Person_let_6, Option.bind_some, Option.bind_none, Option.toList_some, Option.toList_none, List.cons_append, List.nil_append, List.append_nil, rv_0, rg_0_0, rg_0_1, rg_0_2, rg_0_3, rg_0_4, rg_0_5, rg_0_6, rg_0_7, rg_0_8, rg_0_9, rv_17, rg_17_0, rg_17_1, c_begin h]
  rw [disp_say _ (okB_vbg h 11) hk]
  simp only [s_Person_let_12, Option.bind_some, Option.bind_none, Option.toList_some, Option.toList_none, List.cons_append, List.nil_append, List.append_nil]
  rfl
theorem c_Mayor_let (h : okB R) {k : Nat} (hk : k < 7) (x : Int32) : xcall X (d + 6) j_Mayor_let [.ref (sh 1 (2 + k)), .ref (sh 0 17), .int x] (w5 (rsC R V) (shC 1 S Z) B2 B3 B4) = some (some (.int (mlet k (V.2 5) R x).1), w5 (rsC (mlet k (V.2 5) R x).2 V) (shC 1 S Z) B2 B3 B4) := by
  rw [e_Mayor_let]
  simp only [s_Mayor_let_0, s_Mayor_let_6, s_Mayor_let_13, Option.bind_some, Option.bind_none, Option.toList_some, Option.toList_none, List.cons_append, List.nil_append, List.append_nil, rv_0, rg_0_0, rg_0_1, rg_0_2, rg_0_3, rg_0_4, rg_0_5, rg_0_6, rg_0_7, rg_0_8, rg_0_9, rv_17, rg_17_0, rg_17_1, c_begin h, kc hk, c_Person_let (okB_vbg h _) hk]
  rfl
theorem disp_let {β : Type} (F : xQ → Option β) (h : okB R) {k : Nat} (hk : k < 7) (x : Int32) :
    ((xcc (w5 (rsC R V) (shC 1 S Z) B2 B3 B4) (sh 1 (2 + k))).bind fun ci => (List.lookup ci [(6, j_Person_let), (7, j_Person_let), (8, j_Mayor_let), (9, j_Person_let), (10, j_Person_let), (11, j_Judge_let), (12, j_Widow_let)]).bind fun jj => (xcall X (d + 7) jj [.ref (sh 1 (2 + k)), .ref (sh 0 17), .int x] (w5 (rsC R V) (shC 1 S Z) B2 B3 B4)).bind F) = F (some (.int (vlet k (V.2 5) (V.2 6) R x).1), w5 (rsC (vlet k (V.2 5) (V.2 6) R x).2 V) (shC 1 S Z) B2 B3 B4) := by
  rw [kc hk]
  have hp := c_Person_let (X := X) (d := d + 2) (V := V) (S := S) (Z := Z) (B2 := B2) (B3 := B3) (B4 := B4) h hk x
  have hm := c_Mayor_let (X := X) (d := d + 1) (V := V) (S := S) (Z := Z) (B2 := B2) (B3 := B3) (B4 := B4) h hk x
  obtain rfl | rfl | rfl | rfl | rfl | rfl | rfl : k = 0 ∨ k = 1 ∨ k = 2 ∨ k = 3 ∨ k = 4 ∨ k = 5 ∨ k = 6 := by omega
  · show (xcall X (d + 7) j_Person_let _ _).bind F = _
    rw [hp]; rfl
  · show (xcall X (d + 7) j_Person_let _ _).bind F = _
    rw [hp]; rfl
  · show (xcall X (d + 7) j_Mayor_let _ _).bind F = _
    rw [hm]; rfl
  · show (xcall X (d + 7) j_Person_let _ _).bind F = _
    rw [hp]; rfl
  · show (xcall X (d + 7) j_Person_let _ _).bind F = _
    rw [hp]; rfl
  · show (xcall X (d + 7) j_Judge_let _ _).bind F = _
    have e : xcall X (d + 7) j_Judge_let [.ref (sh 1 (2 + 5)), .ref (sh 0 17), .int x] (w5 (rsC R V) (shC 1 S Z) B2 B3 B4) = some (some (.int (vlet 5 (V.2 5) (V.2 6) R x).1), w5 (rsC (vlet 5 (V.2 5) (V.2 6) R x).2 V) (shC 1 S Z) B2 B3 B4) := by
      rw [e_Judge_let]
      simp only [s_Judge_let_0, s_Judge_let_6, s_Judge_let_14, Option.bind_some, Option.bind_none, Option.toList_some, Option.toList_none, List.cons_append, List.nil_append, List.append_nil, rv_0, rg_0_0, rg_0_1, rg_0_2, rg_0_3, rg_0_4, rg_0_5, rg_0_6, rg_0_7, rg_0_8, rg_0_9, rv_17, rg_17_0, rg_17_1, c_begin h, kc hk, c_Mayor_let (okB_vbg h _) hk]
      rfl
    rw [e]; rfl
  · show (xcall X (d + 7) j_Widow_let _ _).bind F = _
    have e : xcall X (d + 7) j_Widow_let [.ref (sh 1 (2 + 6)), .ref (sh 0 17), .int x] (w5 (rsC R V) (shC 1 S Z) B2 B3 B4) = some (some (.int (vlet 6 (V.2 5) (V.2 6) R x).1), w5 (rsC (vlet 6 (V.2 5) (V.2 6) R x).2 V) (shC 1 S Z) B2 B3 B4) := by
      rw [e_Widow_let]
      simp only [s_Widow_let_0, s_Widow_let_6, s_Widow_let_12, s_Widow_let_16, Option.bind_some, Option.bind_none, Option.toList_some, Option.toList_none, List.cons_append, List.nil_append, List.append_nil, rv_0, rg_0_0, rg_0_1, rg_0_2, rg_0_3, rg_0_4, rg_0_5, rg_0_6, rg_0_7, rg_0_8, rg_0_9, rv_17, rg_17_0, rg_17_1, c_begin h, kc hk, c_Person_let (okB_vbg h _) hk, rg_17_3]
      rfl
    rw [e]; rfl
theorem c_Person_haul (h : okB R) {k : Nat} (hk : k < 7) (x : Int32) : xcall X (d + 8) j_Person_haul [.ref (sh 1 (2 + k)), .ref (sh 0 17), .int x] (w5 (rsC R V) (shC 1 S Z) B2 B3 B4) = some (some (.int (phaul k (V.2 5) (V.2 6) R x).1), w5 (rsC (phaul k (V.2 5) (V.2 6) R x).2 V) (shC 1 S Z) B2 B3 B4) := by
  rw [e_Person_haul]
  simp only [s_Person_haul_0, s_Person_haul_6, Option.bind_some, Option.bind_none, Option.toList_some, Option.toList_none, List.cons_append, List.nil_append, List.append_nil, rv_0, rg_0_0, rg_0_1, rg_0_2, rg_0_3, rg_0_4, rg_0_5, rg_0_6, rg_0_7, rg_0_8, rg_0_9, rv_17, rg_17_0, rg_17_1, c_begin h]
  rw [disp_let _ (okB_vbg h 12) hk]
  simp only [s_Person_haul_12, s_Person_haul_16, Option.bind_some, Option.bind_none, Option.toList_some, Option.toList_none, List.cons_append, List.nil_append, List.append_nil, rg_17_3]
  rfl
theorem disp_haul {β : Type} (F : xQ → Option β) (h : okB R) {k : Nat} (hk : k < 7) (x : Int32) :
    ((xcc (w5 (rsC R V) (shC 1 S Z) B2 B3 B4) (sh 1 (2 + k))).bind fun ci => (List.lookup ci [(6, j_Person_haul), (7, j_Person_haul), (8, j_Person_haul), (9, j_Cutter_haul), (10, j_Doctor_haul), (11, j_Person_haul), (12, j_Person_haul)]).bind fun jj => (xcall X (d + 9) jj [.ref (sh 1 (2 + k)), .ref (sh 0 17), .int x] (w5 (rsC R V) (shC 1 S Z) B2 B3 B4)).bind F) = F (some (.int (vhaul k (V.2 5) (V.2 6) R x).1), w5 (rsC (vhaul k (V.2 5) (V.2 6) R x).2 V) (shC 1 S Z) B2 B3 B4) := by
  rw [kc hk]
  have hp := c_Person_haul (X := X) (d := d + 1) (V := V) (S := S) (Z := Z) (B2 := B2) (B3 := B3) (B4 := B4) h hk x
  obtain rfl | rfl | rfl | rfl | rfl | rfl | rfl : k = 0 ∨ k = 1 ∨ k = 2 ∨ k = 3 ∨ k = 4 ∨ k = 5 ∨ k = 6 := by omega
  · show (xcall X (d + 9) j_Person_haul _ _).bind F = _
    rw [hp]; rfl
  · show (xcall X (d + 9) j_Person_haul _ _).bind F = _
    rw [hp]; rfl
  · show (xcall X (d + 9) j_Person_haul _ _).bind F = _
    rw [hp]; rfl
  · show (xcall X (d + 9) j_Cutter_haul _ _).bind F = _
    have e : xcall X (d + 9) j_Cutter_haul [.ref (sh 1 (2 + 3)), .ref (sh 0 17), .int x] (w5 (rsC R V) (shC 1 S Z) B2 B3 B4) = some (some (.int (vhaul 3 (V.2 5) (V.2 6) R x).1), w5 (rsC (vhaul 3 (V.2 5) (V.2 6) R x).2 V) (shC 1 S Z) B2 B3 B4) := by
      rw [e_Cutter_haul]
      simp only [s_Cutter_haul_0, s_Cutter_haul_6, s_Cutter_haul_14, Option.bind_some, Option.bind_none, Option.toList_some, Option.toList_none, List.cons_append, List.nil_append, List.append_nil, rv_0, rg_0_0, rg_0_1, rg_0_2, rg_0_3, rg_0_4, rg_0_5, rg_0_6, rg_0_7, rg_0_8, rg_0_9, rv_17, rg_17_0, rg_17_1, c_begin h, kc hk, c_Person_haul (okB_vbg h _) hk]
      rfl
    rw [e]; rfl
  · show (xcall X (d + 9) j_Doctor_haul _ _).bind F = _
    have e : xcall X (d + 9) j_Doctor_haul [.ref (sh 1 (2 + 4)), .ref (sh 0 17), .int x] (w5 (rsC R V) (shC 1 S Z) B2 B3 B4) = some (some (.int (vhaul 4 (V.2 5) (V.2 6) R x).1), w5 (rsC (vhaul 4 (V.2 5) (V.2 6) R x).2 V) (shC 1 S Z) B2 B3 B4) := by
      rw [e_Doctor_haul]
      rw [vhaul_4]
      simp only [s_Doctor_haul_0, s_Doctor_haul_6, s_Doctor_haul_12, s_Doctor_haul_16, Option.bind_some, Option.bind_none, Option.toList_some, Option.toList_none, List.cons_append, List.nil_append, List.append_nil, rv_0, rg_0_0, rg_0_1, rg_0_2, rg_0_3, rg_0_4, rg_0_5, rg_0_6, rg_0_7, rg_0_8, rg_0_9, rv_17, rg_17_0, rg_17_1, c_begin h, kc hk, c_Person_haul (okB_vbg h _) hk, rg_17_2]
    rw [e, Option.bind_some]
  · show (xcall X (d + 9) j_Person_haul _ _).bind F = _
    rw [hp]; rfl
  · show (xcall X (d + 9) j_Person_haul _ _).bind F = _
    rw [hp]; rfl
theorem c_Person_part (h : okB R) (hv : V.2 7 = 0) (r : Nat) (x : Int32) : xcall X (d + 2) j_Person_part [.ref r, .ref (sh 0 17), .int x] (w5 (rsC R V) B1 B2 B3 B4) = some (some (.int (ppart (V.2 5) (V.2 6) R x).1), w5 (rsC (ppart (V.2 5) (V.2 6) R x).2.1 (V.1, u1 V.2 7 (ppart (V.2 5) (V.2 6) R x).2.2)) B1 B2 B3 B4) := by
  have hs : (V.1, u1 V.2 7 0) = V := by
    have : u1 V.2 7 0 = V.2 := by
      funext j
      unfold u1
      by_cases e : j = 7
      · rw [if_pos e, e, hv]
      · rw [if_neg e]
    rw [this]
  rw [e_Person_part]
  unfold ppart
  simp only [s_Person_part_0, s_Person_part_6, s_Person_part_10, s_Person_part_14, Option.bind_some, Option.bind_none, Option.toList_some, Option.toList_none, List.cons_append, List.nil_append, List.append_nil, rv_0, rg_0_0, rg_0_1, rg_0_2, rg_0_3, rg_0_4, rg_0_5, rg_0_6, rg_0_7, rg_0_8, rg_0_9, rv_17, rg_17_0, rg_17_1, c_begin h, rg_17_2, rg_17_3]
  by_cases h0 : V.2 6 - V.2 5 = 0
  · rw [if_pos h0, if_pos h0]
    simp only [s_Person_part_20, s_Person_part_25, Option.bind_some, Option.bind_none, Option.toList_some, Option.toList_none, List.cons_append, List.nil_append, List.append_nil, rp_17_4]
  · rw [if_neg h0, if_neg h0, s_Person_part_27, if_neg h0, s_Person_part_30, hs]
theorem c_Gossip_part (h : okB R) (hv : V.2 7 = 0) {k : Nat} (hk : k = 1 ∨ k = 4) (x : Int32) : xcall X (d + 6) j_Gossip_part [.ref (sh 1 (2 + k)), .ref (sh 0 17), .int x] (w5 (rsC R V) (shC 1 S Z) B2 B3 B4) = some (some (.int (gpart k (V.2 5) (V.2 6) R x).1), w5 (rsC (gpart k (V.2 5) (V.2 6) R x).2.1 (V.1, u1 V.2 7 (gpart k (V.2 5) (V.2 6) R x).2.2)) (shC 1 S Z) B2 B3 B4) := by
  have hk7 : k < 7 := by omega
  have z10 : ¬ (1 : Int32) = 0 := by decide
  have hpp := c_Person_part (X := X) (d := d + 3) (V := V) (B1 := shC 1 S Z) (B2 := B2) (B3 := B3) (B4 := B4) (okB_vbg h 21) hv (sh 1 (2 + k)) x
  rw [e_Gossip_part]
  unfold gpart
  simp only [s_Gossip_part_0, s_Gossip_part_6, Option.bind_some, Option.bind_none, Option.toList_some, Option.toList_none, List.cons_append, List.nil_append, List.append_nil, rv_0, rg_0_0, rg_0_1, rg_0_2, rg_0_3, rg_0_4, rg_0_5, rg_0_6, rg_0_7, rg_0_8, rg_0_9, rv_17, rg_17_0, rg_17_1, c_begin h, kc hk7, hpp]
  unfold ppart
  by_cases h0 : V.2 6 - V.2 5 = 0
  · have e1 : u1 V.2 7 1 7 = 1 := rfl
    simp only [if_pos h0, s_Gossip_part_12, s_Gossip_part_17, Option.bind_some, Option.bind_none, Option.toList_some, Option.toList_none, List.cons_append, List.nil_append, List.append_nil, rg_17_4, e1, if_neg z10, s_Gossip_part_20, s_Gossip_part_32]
  · have e1 : u1 V.2 7 0 7 = 0 := rfl
    have e5 : u1 V.2 7 0 5 = V.2 5 := rfl
    have hl : ∀ ci, ci = 6 + k → List.lookup ci [(7, j_Person_let), (10, j_Person_let)] = some j_Person_let := by
      rintro ci rfl
      rcases hk with rfl | rfl <;> rfl
    have hpl := c_Person_let (X := X) (d := d) (V := (V.1, u1 V.2 7 0)) (S := S) (Z := Z) (B2 := B2) (B3 := B3) (B4 := B4) (okB_vbg (okB_vbg h 21) 13) hk7 1
    simp only [if_neg h0, s_Gossip_part_12, s_Gossip_part_17, Option.bind_some, Option.bind_none, Option.toList_some, Option.toList_none, List.cons_append, List.nil_append, List.append_nil, rg_17_4, e1, if_true, s_Gossip_part_24, kc hk7, hl _ rfl, hpl, s_Gossip_part_31, s_Gossip_part_32]
    rfl
theorem disp_part {β : Type} (F : xQ → Option β) (h : okB R) (hv : V.2 7 = 0) {k : Nat} (hk : k < 7) (x : Int32) :
    ((xcc (w5 (rsC R V) (shC 1 S Z) B2 B3 B4) (sh 1 (2 + k))).bind fun ci => (List.lookup ci [(6, j_Person_part), (7, j_Gossip_part), (8, j_Person_part), (9, j_Person_part), (10, j_Gossip_part), (11, j_Person_part), (12, j_Person_part)]).bind fun jj => (xcall X (d + 6) jj [.ref (sh 1 (2 + k)), .ref (sh 0 17), .int x] (w5 (rsC R V) (shC 1 S Z) B2 B3 B4)).bind F) = F (some (.int (vpart k (V.2 5) (V.2 6) R x).1), w5 (rsC (vpart k (V.2 5) (V.2 6) R x).2.1 (V.1, u1 V.2 7 (vpart k (V.2 5) (V.2 6) R x).2.2)) (shC 1 S Z) B2 B3 B4) := by
  rw [kc hk]
  have hp := c_Person_part (X := X) (d := d + 4) (V := V) (B1 := shC 1 S Z) (B2 := B2) (B3 := B3) (B4 := B4) h hv (sh 1 (2 + k)) x
  obtain rfl | rfl | rfl | rfl | rfl | rfl | rfl : k = 0 ∨ k = 1 ∨ k = 2 ∨ k = 3 ∨ k = 4 ∨ k = 5 ∨ k = 6 := by omega
  · show (xcall X (d + 6) j_Person_part _ _).bind F = _
    rw [hp]; rfl
  · show (xcall X (d + 6) j_Gossip_part _ _).bind F = _
    rw [c_Gossip_part h hv (Or.inl rfl)]; rfl
  · show (xcall X (d + 6) j_Person_part _ _).bind F = _
    rw [hp]; rfl
  · show (xcall X (d + 6) j_Person_part _ _).bind F = _
    rw [hp]; rfl
  · show (xcall X (d + 6) j_Gossip_part _ _).bind F = _
    rw [c_Gossip_part h hv (Or.inr rfl)]; rfl
  · show (xcall X (d + 6) j_Person_part _ _).bind F = _
    rw [hp]; rfl
  · show (xcall X (d + 6) j_Person_part _ _).bind F = _
    rw [hp]; rfl
theorem q_voice (hS : okS S) (p v x : Int32) : CQ X (d + 10) j_R_voice [.ref (sh 0 0), .int p, .int v, .int x] R S K B4 (sp_voice R S K p v x) := by
  intro V Z T Y U hT
  show ∃ V' Z' T' Y' U' : xS, okN T' ∧ xcall X (d + 10) j_R_voice [.ref (sh 0 0), .int p, .int v, .int x] (w5 (rsC R V) (shC 1 S Z) (shC 2 T Y) (shC 3 K U) B4) = _
  rw [e_R_voice]
  unfold sp_voice
  simp only [s_R_voice_0, s_R_voice_4, s_R_voice_8, s_R_voice_11, s_R_voice_17, s_R_voice_20, s_R_voice_25, Option.bind_some, Option.bind_none, Option.toList_some, Option.toList_none, List.cons_append, List.nil_append, List.append_nil, nv_0, ng_0_0, ng_0_1, ng_0_2, ng_0_3, ng_0_4, ng_0_5, ng_0_6, ng_0_7, ng_0_8, ng_0_9, ng_0_10, ng_0_11, ng_0_12, ng_0_13, ng_0_14, rv_0, rg_0_0, rg_0_1, rg_0_2, rg_0_3, rg_0_4, rg_0_5, rg_0_6, rg_0_7, rg_0_8, rg_0_9, rv_17, rg_17_0, rg_17_1, n_has, c_R_within, c_R_error1, z1_0]
  by_cases h1 : hasP S p
  · by_cases h2 : 0 ≤ v ∧ v ≤ 3
    · rw [if_neg (not_not_intro h1), if_neg (not_not_intro h2), if_neg (not_not_intro (show hasP S p ∧ (0 ≤ v ∧ v ≤ 3) from ⟨h1, h2⟩))]
      obtain ⟨k, rfl, -, hk8⟩ := hasP_ix hS h1
      obtain ⟨hk1, hk2⟩ := hS.2.1 k hk8
      rw [ix_nI (Nat.lt_trans hk8 (by decide))]
      have hst : ∀ n m : Int32, xcall X (d + 9) j_Vo_start [.ref (sh 0 17), .int n, .int m] (w5 (rsC R V) (shC 1 S Z) (shC 2 T Y) (shC 3 K U) B4) = some (none, w5 (rsC (R.1, u1 R.2 9 0) (V.1, u1 (u1 (u1 V.2 5 n) 6 m) 7 0)) (shC 1 S Z) (shC 2 T Y) (shC 3 K U) B4) := by
        intro n m
        rw [e_Vo_start]
        simp only [s_Vo_start_0, s_Vo_start_5, s_Vo_start_10, s_Vo_start_15, s_Vo_start_20, Option.bind_some, Option.bind_none, Option.toList_some, Option.toList_none, List.cons_append, List.nil_append, List.append_nil, rp_17_1, rp_17_2, rp_17_3, rp_17_4]
      have hkof := n_kindOf (X := X) (d := d + 7) (B0 := rsC (R.1, u1 R.2 9 0) (V.1, u1 (u1 (u1 V.2 5 (nI k)) 6 (S.1 1 k)) 7 0)) (Z := Z) (B2 := shC 2 T Y) (B3 := shC 3 K U) (B4 := B4) hk8 hk2 hk1
      have hB : okB (R.1, u1 R.2 9 0) := ⟨rfl, show ix 0 ≤ 30 by decide⟩
      simp only [s_R_voice_26, s_R_voice_30, s_R_voice_35, s_R_voice_38, s_R_voice_40, s_R_voice_43, s_R_voice_47, Option.bind_some, Option.bind_none, Option.toList_some, Option.toList_none, List.cons_append, List.nil_append, List.append_nil, nv_0, ng_0_0, ng_0_1, ng_0_2, ng_0_3, ng_0_4, ng_0_5, ng_0_6, ng_0_7, ng_0_8, ng_0_9, ng_0_10, ng_0_11, ng_0_12, ng_0_13, ng_0_14, rv_0, rg_0_0, rg_0_1, rg_0_2, rg_0_3, rg_0_4, rg_0_5, rg_0_6, rg_0_7, rg_0_8, rg_0_9, rv_17, rg_17_0, rg_17_1, nr_10 hk8, hst, hkof]
      have fin : ∀ (q : Int32 × xS × Int32) (l4 : Nat), ∃ V' Z' T' Y' U' : xS, okN T' ∧ xrun (X, xcall X (d + 9)) j_R_voice 137 [.ref (sh 0 0), .int (nI k), .int v, .int x, .ref l4, .int q.1] [] (w5 (rsC q.2.1 (V.1, u1 (u1 (u1 (u1 V.2 5 (nI k)) 6 (S.1 1 k)) 7 0) 7 q.2.2)) (shC 1 S Z) (shC 2 T Y) (shC 3 K U) B4) =
          some (some (.int (if q.2.2 = 0 then (q.1, q.2.1, S, K) else eQ 6 q.2.1 S K).1), wC (if q.2.2 = 0 then (q.1, q.2.1, S, K) else eQ 6 q.2.1 S K).2.1 (if q.2.2 = 0 then (q.1, q.2.1, S, K) else eQ 6 q.2.1 S K).2.2.1 (if q.2.2 = 0 then (q.1, q.2.1, S, K) else eQ 6 q.2.1 S K).2.2.2 V' Z' T' Y' U' B4) := by
        intro q l4
        refine ⟨(V.1, u1 (u1 (u1 (u1 V.2 5 (nI k)) 6 (S.1 1 k)) 7 0) 7 q.2.2), Z, T, Y, U, hT, ?_⟩
        have e7 : u1 (u1 (u1 (u1 V.2 5 (nI k)) 6 (S.1 1 k)) 7 0) 7 q.2.2 7 = q.2.2 := rfl
        simp only [s_R_voice_137, s_R_voice_141, s_R_voice_144, Option.bind_some, Option.bind_none, Option.toList_some, Option.toList_none, List.cons_append, List.nil_append, List.append_nil, rv_0, rg_0_0, rg_0_1, rg_0_2, rg_0_3, rg_0_4, rg_0_5, rg_0_6, rg_0_7, rg_0_8, rg_0_9, rv_17, rg_17_0, rg_17_1, rg_17_4, e7]
        by_cases h0 : q.2.2 = 0
        · rw [if_pos h0, if_pos h0, s_R_voice_156, s_R_voice_158]
          rfl
        · rw [if_neg h0, if_neg h0]
          simp only [s_R_voice_147, s_R_voice_153, s_R_voice_158, Option.bind_some, Option.bind_none, Option.toList_some, Option.toList_none, List.cons_append, List.nil_append, List.append_nil, rv_0, rg_0_0, rg_0_1, rg_0_2, rg_0_3, rg_0_4, rg_0_5, rg_0_6, rg_0_7, rg_0_8, rg_0_9, rv_17, rg_17_0, rg_17_1, c_R_error6]
          rfl
      have hu7 : ∀ f : Nat → Int32, u1 (u1 f 7 0) 7 0 = u1 f 7 0 := by
        intro f
        funext j
        unfold u1
        by_cases e : j = 7
        · rw [if_pos e, if_pos e]
        · rw [if_neg e, if_neg e]
      have e5 : u1 (u1 (u1 V.2 5 (nI k)) 6 (S.1 1 k)) 7 0 5 = nI k := rfl
      have e6 : u1 (u1 (u1 V.2 5 (nI k)) 6 (S.1 1 k)) 7 0 6 = S.1 1 k := rfl
      obtain ⟨j, rfl, hj⟩ := i32_ix (v := v) (n := 3) (by decide) h2
      obtain rfl | rfl | rfl | rfl : j = 0 ∨ j = 1 ∨ j = 2 ∨ j = 3 := by omega
      · rw [s_R_voice_51, show xsw [(0, 80), (1, 95), (2, 110)] 125 (nI 0) = 80 from by decide +kernel]
        simp only [s_R_voice_80, s_R_voice_86, Option.bind_some, Option.bind_none, Option.toList_some, Option.toList_none, List.cons_append, List.nil_append, List.append_nil, rv_0, rg_0_0, rg_0_1, rg_0_2, rg_0_3, rg_0_4, rg_0_5, rg_0_6, rg_0_7, rg_0_8, rg_0_9, rv_17, rg_17_0, rg_17_1]
        rw [disp_say (d := d + 5) _ hB hk2]
        simp only [s_R_voice_90, Option.bind_some, Option.bind_none, Option.toList_some, Option.toList_none, List.cons_append, List.nil_append, List.append_nil]
        have hf := fin (vall (kd S k) (nI 0) (nI k) (S.1 1 k) (R.1, u1 R.2 9 0) x) (sh 1 (2 + kd S k))
        unfold vall at hf ⊢
        rw [if_pos (show nI 0 = 0 from rfl)] at hf ⊢
        simp only [hu7] at hf
        exact hf
      · rw [s_R_voice_51, show xsw [(0, 80), (1, 95), (2, 110)] 125 (nI 1) = 95 from by decide +kernel]
        simp only [s_R_voice_95, s_R_voice_101, Option.bind_some, Option.bind_none, Option.toList_some, Option.toList_none, List.cons_append, List.nil_append, List.append_nil, rv_0, rg_0_0, rg_0_1, rg_0_2, rg_0_3, rg_0_4, rg_0_5, rg_0_6, rg_0_7, rg_0_8, rg_0_9, rv_17, rg_17_0, rg_17_1]
        rw [disp_let (d := d + 2) _ hB hk2]
        simp only [s_R_voice_105, Option.bind_some, Option.bind_none, Option.toList_some, Option.toList_none, List.cons_append, List.nil_append, List.append_nil]
        have hf := fin (vall (kd S k) (nI 1) (nI k) (S.1 1 k) (R.1, u1 R.2 9 0) x) (sh 1 (2 + kd S k))
        unfold vall at hf ⊢
        rw [if_neg (show ¬ nI 1 = 0 by decide), if_pos (show nI 1 = 1 from rfl)] at hf ⊢
        simp only [hu7] at hf
        exact hf
      · rw [s_R_voice_51, show xsw [(0, 80), (1, 95), (2, 110)] 125 (nI 2) = 110 from by decide +kernel]
        simp only [s_R_voice_110, s_R_voice_116, Option.bind_some, Option.bind_none, Option.toList_some, Option.toList_none, List.cons_append, List.nil_append, List.append_nil, rv_0, rg_0_0, rg_0_1, rg_0_2, rg_0_3, rg_0_4, rg_0_5, rg_0_6, rg_0_7, rg_0_8, rg_0_9, rv_17, rg_17_0, rg_17_1]
        rw [disp_haul (d := d) _ hB hk2]
        simp only [s_R_voice_120, Option.bind_some, Option.bind_none, Option.toList_some, Option.toList_none, List.cons_append, List.nil_append, List.append_nil]
        have hf := fin (vall (kd S k) (nI 2) (nI k) (S.1 1 k) (R.1, u1 R.2 9 0) x) (sh 1 (2 + kd S k))
        unfold vall at hf ⊢
        rw [if_neg (show ¬ nI 2 = 0 by decide), if_neg (show ¬ nI 2 = 1 by decide), if_pos (show nI 2 = 2 from rfl)] at hf ⊢
        simp only [hu7] at hf
        exact hf
      · rw [s_R_voice_51, show xsw [(0, 80), (1, 95), (2, 110)] 125 (nI 3) = 125 from by decide +kernel]
        simp only [s_R_voice_125, s_R_voice_131, Option.bind_some, Option.bind_none, Option.toList_some, Option.toList_none, List.cons_append, List.nil_append, List.append_nil, rv_0, rg_0_0, rg_0_1, rg_0_2, rg_0_3, rg_0_4, rg_0_5, rg_0_6, rg_0_7, rg_0_8, rg_0_9, rv_17, rg_17_0, rg_17_1]
        rw [disp_part (d := d + 3) _ hB rfl hk2]
        simp only [s_R_voice_135, Option.bind_some, Option.bind_none, Option.toList_some, Option.toList_none, List.cons_append, List.nil_append, List.append_nil]
        have hf := fin (vall (kd S k) (nI 3) (nI k) (S.1 1 k) (R.1, u1 R.2 9 0) x) (sh 1 (2 + kd S k))
        unfold vall at hf ⊢
        rw [if_neg (show ¬ nI 3 = 0 by decide), if_neg (show ¬ nI 3 = 1 by decide), if_neg (show ¬ nI 3 = 2 by decide)] at hf ⊢
        exact hf
    · rw [if_neg (not_not_intro h1), if_pos h2, if_pos (fun e : hasP S p ∧ (0 ≤ v ∧ v ≤ 3) => h2 e.2)]
      exact ⟨V, Z, T, Y, U, hT, rfl⟩
  · rw [if_pos h1, if_pos (fun e : hasP S p ∧ (0 ≤ v ∧ v ≤ 3) => h1 e.1)]
    exact ⟨V, Z, T, Y, U, hT, rfl⟩
end RVoice
