abbrev xZ : Type := Option (Nat × List Value × List Value × xW)
def xln : Nat → Nat := fun b => if b = 0 then 19 else if b < 4 then 25 else if b = 4 then 14 else 0
def xoo (σ : xW) : Prop := ∀ b, (σ b).length = xln b
theorem xoo_xs {σ : xW} (h : xoo σ) (n : Nat) (e : xE) : xoo (xs σ n e) := by
  intro b
  unfold xs
  split
  · rw [List.length_set]; exact h b
  · exact h b
/-! ===== the machine of pictures: what an instruction does ===== -/
/-- arrays of ints that nobody writes: ABOVE, NAMES, the script -/
def xct (X : xX) (n : Nat) : Option (Nat × Nat × (Nat → Int32)) :=
  if n = 1000 then some (0, 7, fun j => ([-1, 0, 0, 0, 1, 2, 0] : List Int32).getD j 0)
  else if n = 1001 then some (9, 6, fun j => ([103, 116, 115, 99, 108, 100] : List Int32).getD j 0)
  else if n = 1002 then some (0, X.1, X.2) else none
/-- an int out of an array of a type in ts -/
def xrd (X : xX) (σ : xW) (ts : List Nat) (n : Nat) (i : Int32) : Option Int32 :=
  match xg σ n with
  | some (.inl (t, N, .inl f)) => if t ∈ ts ∧ ¬ i < 0 ∧ i.toNatClampNeg < N then some (f i.toNatClampNeg) else none
  | some _ => none
  | none => match xct X n with
    | some (t, N, f) => if t ∈ ts ∧ ¬ i < 0 ∧ i.toNatClampNeg < N then some (f i.toNatClampNeg) else none
    | none => none
def xnw (t : Nat) (x : Int32) : Int32 := if t = 0 then x else if t = 1 then vp_nar .byte x else vp_nar .boolean x
/-- an int into an array of a type in ts -/
def xwr (σ : xW) (ts : List Nat) (n : Nat) (i x : Int32) : Option xW :=
  match xg σ n with
  | some (.inl (t, N, .inl f)) => if t ∈ ts ∧ ¬ i < 0 ∧ i.toNatClampNeg < N then some (xs σ n (.inl (t, N, .inl (upd f i.toNatClampNeg (xnw t x))))) else none
  | _ => none
/-- a reference out of an array -/
def xrr (σ : xW) (n : Nat) (i : Int32) : Option Nat :=
  match xg σ n with
  | some (.inl (t, N, .inr (.inr (.inr (.inr f))))) => if (3 ≤ t ∧ t < 6) ∧ ¬ i < 0 ∧ i.toNatClampNeg < N then f i.toNatClampNeg else none
  | _ => none
def xal (X : xX) (σ : xW) (n : Nat) : Option Nat :=
  match xg σ n with
  | some (.inl (t, N, _)) => if t < 6 then some N else none
  | some (.inr _) => none
  | none => (xct X n).map (fun q => q.2.1)
/-- a field of an object of class ci -/
def xgf (σ : xW) (n ci k : Nat) : Option Value :=
  match xg σ n with
  | some (.inr (c, fs)) => if c = ci then fs[k]? else none
  | _ => none
def xpf (σ : xW) (n ci k : Nat) (x : Int32) : Option xW :=
  match xg σ n with
  | some (.inr (c, fs)) => if c = ci ∧ k < fs.length then some (xs σ n (.inr (c, fs.set k (.int x)))) else none
  | _ => none
/-- the class of an object -/
def xcc (σ : xW) (n : Nat) : Option Nat :=
  match xg σ n with
  | some (.inr (c, _)) => some c
  | _ => none
def xcp (σ : xW) (n dp : Int32) (a : Nat) (sp : Int32) (a0 : Nat) : Option xW :=
  match xg σ a0, xg σ a with
  | some (.inl (t0, N0, .inl f)), some (.inl (t1, N1, .inl g)) =>
    if t0 = t1 ∧ t0 < 2 ∧ ¬ sp < 0 ∧ ¬ dp < 0 ∧ ¬ n < 0 ∧ sp.toNatClampNeg + n.toNatClampNeg ≤ N0 ∧ dp.toNatClampNeg + n.toNatClampNeg ≤ N1 ∧ (t0 = 0 ∨ (List.range n.toNatClampNeg).all (fun i => fits .byte (.int (f (sp.toNatClampNeg + i)))) = true)
    then some (xs σ a (.inl (t1, N1, .inl (va_cpy f g sp.toNatClampNeg dp.toNatClampNeg n.toNatClampNeg)))) else none
  | _, _ => none
/-- where a switch goes -/
def xsw : List (Nat × Nat) → Nat → Int32 → Nat
  | [], d, _ => d
  | (k, t) :: r, d, x => if x = Int32.ofNat k then t else xsw r d x
def xcat (v : Value) : Nat := v.category
/-- a place of the locals that may be written -/
def xsto (ls : List Value) (n : Nat) : Bool := decide (n < ls.length) && (match n with
  | 0 => true
  | k + 1 => match ls[k]? with
    | some v => v.category == 1
    | none => false)
def x1 (st : List Value) (k : Int32 → List Value → xZ) : xZ := match st with
  | .int x :: r => k x r
  | _ => none
def x2 (st : List Value) (k : Int32 → Int32 → List Value → xZ) : xZ := match st with
  | .int y :: .int x :: r => k x y r
  | _ => none
def xl1 (st : List Value) (k : Int64 → List Value → xZ) : xZ := match st with
  | .long x :: r => k x r
  | _ => none
def xl2 (st : List Value) (k : Int64 → Int64 → List Value → xZ) : xZ := match st with
  | .long y :: .long x :: r => k x y r
  | _ => none
def xli (st : List Value) (k : Int64 → Int32 → List Value → xZ) : xZ := match st with
  | .int y :: .long x :: r => k x y r
  | _ => none
def xa1 (st : List Value) (k : Nat → List Value → xZ) : xZ := match st with
  | .ref x :: r => k x r
  | _ => none
def xai (st : List Value) (k : Nat → Int32 → List Value → xZ) : xZ := match st with
  | .int i :: .ref a :: r => k a i r
  | _ => none
def xaii (st : List Value) (k : Nat → Int32 → Int32 → List Value → xZ) : xZ := match st with
  | .int x :: .int i :: .ref a :: r => k a i x r
  | _ => none
def xia (st : List Value) (k : Nat → Int32 → List Value → xZ) : xZ := match st with
  | .int x :: .ref a :: r => k a x r
  | _ => none
def xcp5 (st : List Value) (k : Int32 → Int32 → Nat → Int32 → Nat → List Value → xZ) : xZ := match st with
  | .int n :: .int dp :: .ref a :: .int sp :: .ref a0 :: r => k n dp a sp a0 r
  | _ => none
def xgo (pc : Nat) (ls st : List Value) (σ : xW) : xZ := some ((pc, ls, st, σ))
def xvi (ls : List Value) (n : Nat) (k : Int32 → xZ) : xZ := match ls[n]? with
  | some (.int x) => k x
  | _ => none
def xvl (ls : List Value) (n : Nat) (k : Int64 → xZ) : xZ := match ls[n]? with
  | some (.long x) => k x
  | _ => none
def xva (ls : List Value) (n : Nat) (k : Nat → xZ) : xZ := match ls[n]? with
  | some (.ref x) => k x
  | _ => none
def xcallr (r : Option xQ) (pc : Nat) (ls rest : List Value) : xZ := r.map fun q => (pc, ls, q.1.toList ++ rest, q.2)
def xretz (c : Nat) (x : Int32) : Bool := decide (c = 0) || decide (x = 0) || decide (x = 1)
/-- a call's arguments off the stack: n of them, the last on top, and a rest that is small -/
def xarg (n : Nat) (st : List Value) (k : List Value → List Value → xZ) : xZ :=
  if n ≤ st.length ∧ ((st.drop n).map fun v => v.category).sum ≤ 8 then k (st.take n).reverse (st.drop n) else none
def xstep (O : xO) (I : xI) (pc : Nat) (ls st : List Value) (σ : xW) : xZ :=
  match I with
  | (i, _, (a, b, c, v, l), _) =>
  match i with
  | .iconst _ => xgo (pc + 1) ls (.int v :: st) σ
  | .bipush _ => xgo (pc + 2) ls (.int v :: st) σ
  | .sipush _ => xgo (pc + 3) ls (.int v :: st) σ
  | .ldc _ => xgo (pc + 2) ls (.int v :: st) σ
  | .ldc_w _ => xgo (pc + 3) ls (.int v :: st) σ
  | .ldc2_w _ => xgo (pc + 3) ls (.long (Int64.ofNat a) :: st) σ
  | .iload_n n => xvi ls n fun x => xgo (pc + 1) ls (.int x :: st) σ
  | .iload n => xvi ls n fun x => xgo (pc + 2) ls (.int x :: st) σ
  | .lload_n n => xvl ls n fun x => xgo (pc + 1) ls (.long x :: st) σ
  | .lload n => xvl ls n fun x => xgo (pc + 2) ls (.long x :: st) σ
  | .aload_n n => xva ls n fun x => xgo (pc + 1) ls (.ref x :: st) σ
  | .aload n => xva ls n fun x => xgo (pc + 2) ls (.ref x :: st) σ
  | .istore_n n => x1 st fun x r => if xsto ls n then xgo (pc + 1) (ls.set n (.int x)) r σ else none
  | .istore n => x1 st fun x r => if xsto ls n then xgo (pc + 2) (ls.set n (.int x)) r σ else none
  | .astore_n n => xa1 st fun x r => if xsto ls n then xgo (pc + 1) (ls.set n (.ref x)) r σ else none
  | .astore n => xa1 st fun x r => if xsto ls n then xgo (pc + 2) (ls.set n (.ref x)) r σ else none
  | .iinc n _ => xvi ls n fun x => if xsto ls n then xgo (pc + 3) (ls.set n (.int (x + v))) st σ else none
  | .iadd => x2 st fun x y r => xgo (pc + 1) ls (.int (x + y) :: r) σ
  | .isub => x2 st fun x y r => xgo (pc + 1) ls (.int (x - y) :: r) σ
  | .imul => x2 st fun x y r => xgo (pc + 1) ls (.int (x * y) :: r) σ
  | .iand => x2 st fun x y r => xgo (pc + 1) ls (.int (x &&& y) :: r) σ
  | .ior => x2 st fun x y r => xgo (pc + 1) ls (.int (x ||| y) :: r) σ
  | .ixor => x2 st fun x y r => xgo (pc + 1) ls (.int (x ^^^ y) :: r) σ
  | .idiv => x2 st fun x y r => if y = 0 then none else xgo (pc + 1) ls (.int (x / y) :: r) σ
  | .irem => x2 st fun x y r => if y = 0 then none else xgo (pc + 1) ls (.int (x - x / y * y) :: r) σ
  | .ineg => x1 st fun x r => xgo (pc + 1) ls (.int (-x) :: r) σ
  | .ishl => x2 st fun x y r => xgo (pc + 1) ls (.int (x <<< (y &&& 31)) :: r) σ
  | .ishr => x2 st fun x y r => xgo (pc + 1) ls (.int (x >>> (y &&& 31)) :: r) σ
  | .iushr => x2 st fun x y r => xgo (pc + 1) ls (.int (x.toUInt32 >>> (y.toUInt32 &&& Int32.toUInt32 31)).toInt32 :: r) σ
  | .i2l => x1 st fun x r => xgo (pc + 1) ls (.long x.toInt64 :: r) σ
  | .l2i => xl1 st fun x r => xgo (pc + 1) ls (.int x.toInt32 :: r) σ
  | .i2b => x1 st fun x r => xgo (pc + 1) ls (.int x.toInt8.toInt32 :: r) σ
  | .i2s => x1 st fun x r => xgo (pc + 1) ls (.int x.toInt16.toInt32 :: r) σ
  | .land => xl2 st fun x y r => xgo (pc + 1) ls (.long (x &&& y) :: r) σ
  | .lor => xl2 st fun x y r => xgo (pc + 1) ls (.long (x ||| y) :: r) σ
  | .lshl => xli st fun x y r => xgo (pc + 1) ls (.long (x <<< (y.toInt64 &&& 63)) :: r) σ
  | .lshr => xli st fun x y r => xgo (pc + 1) ls (.long (x >>> (y.toInt64 &&& 63)) :: r) σ
  | .lushr => xli st fun x y r => xgo (pc + 1) ls (.long (x.toUInt64 >>> (y.toInt64.toUInt64 &&& Int64.toUInt64 63)).toInt64 :: r) σ
  | .dup => match st with
    | .int x :: r => xgo (pc + 1) ls (.int x :: .int x :: r) σ
    | .ref x :: r => xgo (pc + 1) ls (.ref x :: .ref x :: r) σ
    | _ => none
  | .dup2 => xai st fun x i r => xgo (pc + 1) ls (.int i :: .ref x :: .int i :: .ref x :: r) σ
  | .pop => x1 st fun _ r => xgo (pc + 1) ls r σ
  | .ifCond .eq _ => x1 st fun x r => xgo (if x = 0 then a else pc + 3) ls r σ
  | .ifCond .ne _ => x1 st fun x r => xgo (if x = 0 then pc + 3 else a) ls r σ
  | .ifCond .lt _ => x1 st fun x r => xgo (if x < 0 then a else pc + 3) ls r σ
  | .ifCond .ge _ => x1 st fun x r => xgo (if 0 ≤ x then a else pc + 3) ls r σ
  | .ifCond .gt _ => x1 st fun x r => xgo (if 0 < x then a else pc + 3) ls r σ
  | .ifCond .le _ => x1 st fun x r => xgo (if x ≤ 0 then a else pc + 3) ls r σ
  | .if_icmp .eq _ => x2 st fun x y r => xgo (if x = y then a else pc + 3) ls r σ
  | .if_icmp .ne _ => x2 st fun x y r => xgo (if x = y then pc + 3 else a) ls r σ
  | .if_icmp .lt _ => x2 st fun x y r => xgo (if x < y then a else pc + 3) ls r σ
  | .if_icmp .ge _ => x2 st fun x y r => xgo (if y ≤ x then a else pc + 3) ls r σ
  | .if_icmp .gt _ => x2 st fun x y r => xgo (if y < x then a else pc + 3) ls r σ
  | .if_icmp .le _ => x2 st fun x y r => xgo (if x ≤ y then a else pc + 3) ls r σ
  | .goto _ => xgo a ls st σ
  | .tableswitch _ _ _ _ => x1 st fun x r => xgo (xsw l b x) ls r σ
  | .lookupswitch _ _ => x1 st fun x r => xgo (xsw l b x) ls r σ
  | .getfield _ => xa1 st fun n r => (xgf σ n a b).map fun w => (pc + 3, ls, w :: r, σ)
  | .putfield _ => xia st fun n x r => if xretz (c % 10) x = true ∧ c % 10 < 2 then (xpf σ n a b x).map fun σ' => (pc + 3, ls, r, σ') else none
  | .getstatic _ => xgo (pc + 3) ls (.ref (1000 + a) :: st) σ
  | .iaload => xai st fun n i r => (xrd O.1 σ [0] n i).map fun w => (pc + 1, ls, .int w :: r, σ)
  | .baload => xai st fun n i r => (xrd O.1 σ [1, 2] n i).map fun w => (pc + 1, ls, .int w :: r, σ)
  | .caload => xai st fun n i r => if n = 1001 then (xrd O.1 σ [9] n i).map fun w => (pc + 1, ls, .int w :: r, σ) else none
  | .iastore => xaii st fun n i x r => (xwr σ [0] n i x).map fun σ' => (pc + 1, ls, r, σ')
  | .bastore => xaii st fun n i x r => (xwr σ [1, 2] n i x).map fun σ' => (pc + 1, ls, r, σ')
  | .aaload => xai st fun n i r => (xrr σ n i).map fun w => (pc + 1, ls, .ref w :: r, σ)
  | .arraylength => xa1 st fun n r => (xal O.1 σ n).map fun w => (pc + 1, ls, .int (Int32.ofNat w) :: r, σ)
  | .invokestatic _ => if c = 2 then xcp5 st fun n dp d sp s r => if r.length ≤ 4 then (xcp σ n dp d sp s).map fun σ' => (pc + 3, ls, r, σ') else none
    else if c = 3 then x2 st fun x y r => if r.length ≤ 4 then xgo (pc + 3) ls (.int (if y < x then y else x) :: r) σ else none
    else if c = 4 then x2 st fun x y r => if r.length ≤ 4 then xgo (pc + 3) ls (.int (if x < y then y else x) :: r) σ else none
    else if c < 2 then xarg b st fun as r => xcallr (O.2 a as σ) (pc + 3) ls r else none
  | .invokevirtual _ => xarg (b + 1) st fun as r => match as with
    | .ref n :: _ => (xcc σ n).bind fun ci => (l.lookup ci).bind fun j => xcallr (O.2 j as σ) (pc + 3) ls r
    | _ => none
  | .invokespecial _ => xarg (b + 1) st fun as r => match as with
    | .ref n :: _ => (xcc σ n).bind fun _ => xcallr (O.2 a as σ) (pc + 3) ls r
    | _ => none
  | _ => none
/-- the returns -/
def xret (I : xI) (st : List Value) (σ : xW) : Option xQ :=
  match I.1 with
  | .ireturn => match st with
    | [.int x] => if xretz I.2.2.1.2.2.1 x then some (some (.int x), σ) else none
    | _ => none
  | .areturn => match st with
    | [.ref x] => some (some (.ref x), σ)
    | _ => none
  | .return_ => match st with
    | [] => some (none, σ)
    | _ => none
  | _ => none
def xft (j pc : Nat) : Option xI := match xMs[j]? with
  | some q => bif Nat.blt pc q.2.2.2.2.2 then q.2.2.2.2.1 pc else none
  | none => none
def xrunN (O : xO) (j : Nat) : Nat → Nat → List Value → List Value → xW → Option xQ
  | 0, _, _, _, _ => none
  | n + 1, pc, ls, st, σ => match xft j pc with
    | none => none
    | some I => match xret I st σ with
      | some q => some q
      | none => match xstep O I pc ls st σ with
        | none => none
        | some z => xrunN O j n z.1 z.2.1 z.2.2.1 z.2.2.2
theorem xrunN_mono (O : xO) (j : Nat) : ∀ (n m : Nat), n ≤ m → ∀ (pc : Nat) (ls st : List Value) (σ : xW) (q : xQ), xrunN O j n pc ls st σ = some q → xrunN O j m pc ls st σ = some q := by
  intro n
  induction n with
  | zero => intro m _ pc ls st σ q h; cases h
  | succ n ih =>
    intro m hm pc ls st σ q h
    obtain ⟨m, rfl⟩ : ∃ k, m = k + 1 := ⟨m - 1, by omega⟩
    unfold xrunN at h ⊢
    cases hf : xft j pc with
    | none => rw [hf] at h; cases h
    | some I =>
      rw [hf] at h
      simp only at h ⊢
      cases hr : xret I st σ with
      | some q' => rw [hr] at h; exact h
      | none =>
        rw [hr] at h
        simp only at h ⊢
        cases hs : xstep O I pc ls st σ with
        | none => rw [hs] at h; cases h
        | some z =>
          rw [hs] at h
          exact ih m (by omega) _ _ _ _ _ h
noncomputable def xrun (O : xO) (j pc : Nat) (ls st : List Value) (σ : xW) : Option xQ :=
  @dite _ (∃ q, ∃ n, xrunN O j n pc ls st σ = some q) (Classical.propDecidable _) (fun h => some h.choose) (fun _ => none)
theorem xrun_iff {O : xO} {j pc : Nat} {ls st : List Value} {σ : xW} {q : xQ} : xrun O j pc ls st σ = some q ↔ ∃ n, xrunN O j n pc ls st σ = some q := by
  unfold xrun
  split
  · rename_i h
    obtain ⟨n, hn⟩ := h.choose_spec
    constructor
    · intro e
      cases e
      exact ⟨n, hn⟩
    · rintro ⟨m, hm⟩
      have h1 := xrunN_mono O j n (max n m) (Nat.le_max_left _ _) _ _ _ _ _ hn
      have h2 := xrunN_mono O j m (max n m) (Nat.le_max_right _ _) _ _ _ _ _ hm
      exact h1.symm.trans h2
  · rename_i h
    constructor
    · intro e; cases e
    · rintro ⟨m, hm⟩
      exact absurd ⟨q, m, hm⟩ h
theorem xrun_eq {O : xO} {j pc : Nat} {ls st : List Value} {σ : xW} {I : xI} (hf : xft j pc = some I) (hr : xret I st σ = none) : xrun O j pc ls st σ = (xstep O I pc ls st σ).bind fun z => xrun O j z.1 z.2.1 z.2.2.1 z.2.2.2 := by
  apply Option.ext
  intro q
  rw [xrun_iff]
  constructor
  · rintro ⟨n, hn⟩
    cases n with
    | zero => cases hn
    | succ n =>
      unfold xrunN at hn
      rw [hf] at hn
      simp only at hn
      rw [hr] at hn
      simp only at hn
      cases hs : xstep O I pc ls st σ with
      | none => rw [hs] at hn; cases hn
      | some z =>
        rw [hs] at hn
        exact xrun_iff.mpr ⟨n, hn⟩
  · intro h
    cases hs : xstep O I pc ls st σ with
    | none => rw [hs] at h; cases h
    | some z =>
      rw [hs] at h
      obtain ⟨n, hn⟩ := xrun_iff.mp h
      exact ⟨n + 1, by unfold xrunN; rw [hf]; simp only; rw [hr]; simp only; rw [hs]; exact hn⟩
theorem xrun_go {O : xO} {j pc pc' : Nat} {ls st ls' st' : List Value} {σ σ' : xW} {I : xI} (hf : xft j pc = some I) (hr : xret I st σ = none) (hs : xstep O I pc ls st σ = some (pc', ls', st', σ')) : xrun O j pc ls st σ = xrun O j pc' ls' st' σ' := by
  rw [xrun_eq hf hr, hs]; rfl
theorem xrun_ret {O : xO} {j pc : Nat} {ls st : List Value} {σ : xW} {q : xQ} {I : xI} (hf : xft j pc = some I) (hr : xret I st σ = some q) : xrun O j pc ls st σ = some q := by
  rw [xrun_iff]
  exact ⟨1, by unfold xrunN; rw [hf]; simp only; rw [hr]⟩
theorem xrun_if {O : xO} {j pc a b : Nat} {ls st ls' st' : List Value} {σ σ' : xW} {I : xI} {c : Prop} [d : Decidable c] (hf : xft j pc = some I) (hr : xret I st σ = none) (hs : xstep O I pc ls st σ = some (if c then a else b, ls', st', σ')) : xrun O j pc ls st σ = if c then xrun O j a ls' st' σ' else xrun O j b ls' st' σ' := by
  rw [xrun_eq hf hr, hs]
  by_cases h : c
  · simp [h]
  · simp [h]
theorem xrun_bd {α : Type} {O : xO} {j pc : Nat} {ls st : List Value} {σ : xW} {I : xI} {o : Option α} {k : α → Nat × List Value × List Value × xW} (hf : xft j pc = some I) (hr : xret I st σ = none) (hs : xstep O I pc ls st σ = o.map k) : xrun O j pc ls st σ = o.bind fun w => xrun O j (k w).1 (k w).2.1 (k w).2.2.1 (k w).2.2.2 := by
  rw [xrun_eq hf hr, hs]
  cases o with
  | none => rfl
  | some w => rfl
def xargs (as : List Value) : List Value := as.flatMap fun v => if v.category = 2 then [v, .null] else [v]
def xent (n : Nat) (as : List Value) : List Value := xargs as ++ List.replicate (n - (xargs as).length) .null
noncomputable def xcall (X : xX) : Nat → Nat → List Value → xW → Option xQ
  | 0, _, _, _ => none
  | d + 1, j, as, σ => match xMs[j]? with
    | some M => if (xargs as).length ≤ M.2.2.1 then xrun (X, xcall X d) j 0 (xent M.2.2.1 as) [] σ else none
    | none => none
