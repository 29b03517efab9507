/-! ===== the law's start ===== -/
theorem kInst : ∀ q ∈ xcl, Cond.instantiable q.1 q.2.2 ∈ xT2 := List.forall_mem_cons.mpr ⟨xi_108, List.forall_mem_cons.mpr ⟨xi_116, List.forall_mem_cons.mpr ⟨xi_173, List.forall_mem_cons.mpr ⟨xi_267, List.forall_mem_cons.mpr ⟨xi_288, List.forall_mem_cons.mpr ⟨xi_867, List.forall_mem_cons.mpr ⟨xi_123, List.forall_mem_cons.mpr ⟨xi_130, List.forall_mem_cons.mpr ⟨xi_137, List.forall_mem_cons.mpr ⟨xi_144, List.forall_mem_cons.mpr ⟨xi_151, List.forall_mem_cons.mpr ⟨xi_158, List.forall_mem_cons.mpr ⟨xi_165, fun _ h => absurd h List.not_mem_nil⟩⟩⟩⟩⟩⟩⟩⟩⟩⟩⟩⟩⟩
section KX
variable {args : Array Value} {s : State}
theorem kAp {ty : FieldType} (h : (Cond.arrayClass ty).before args s = true) (hno : ∀ C, ty ≠ .object C) : ∃ c, ArrOfT s c ty ∧ va_RA s c ty := by
  obtain ⟨c, k, comp, h1, h2, h3⟩ := Cond.arrayClass_spec h
  refine ⟨c, fun n z => ⟨fun k h => (by cases h), k, h2, comp, h3⟩, ?_⟩
  cases ty <;> first | exact absurd rfl (hno _) | exact h1
theorem kAo {C : String} (h : (Cond.arrayOver (.object C)).before args s = true) : ∃ c, ArrOfT s c (.object C) ∧ va_RA s c (.object C) := by
  obtain ⟨comp, c, k, h1, h2, h3, h4, h5⟩ := Cond.arrayOver_spec h
  exact ⟨c, fun n z => ⟨fun k h => (by cases h), k, h3, comp, h4⟩, k, comp, h3, h4, h1, h5⟩
theorem kKx (ht2 : ∀ w ∈ xT2, w.before args s = true) : ∃ (D : va_G) (cA : Nat → ClassId), va_K D xcl (xtys cA) s := by
  have h1 : ∀ c : Nat, ∃ x : ClassId × (Nat → Nat), ∀ q, xcl[c]? = some q → u_Kn s q.1 q.2.1 q.2.2 x.1 x.2 := by
    intro c
    cases hc : xcl[c]? with
    | none => exact ⟨(0, fun _ => 0), fun q h => by cases h⟩
    | some q =>
      obtain ⟨cC, iS, h⟩ := u_known ht2 (fun w hw => xT_2 (xcl_w hc w hw)) (ht2 _ (kInst q (List.mem_of_getElem? hc)))
      exact ⟨(cC, iS), fun q' h' => by cases h'; exact h⟩
  obtain ⟨c0, h0⟩ := kAp (ht2 _ xi_203) (fun C h => by cases h)
  obtain ⟨c1, h10⟩ := kAp (ht2 _ xi_205) (fun C h => by cases h)
  obtain ⟨c2, h20⟩ := kAp (ht2 _ xi_204) (fun C h => by cases h)
  obtain ⟨c3, h30⟩ := kAo (ht2 _ xi_122)
  obtain ⟨c4, h40⟩ := kAo (ht2 _ xi_172)
  obtain ⟨c5, h50⟩ := kAo (ht2 _ xi_266)
  refine ⟨(fun c => (Classical.choose (h1 c)).1, fun c => (Classical.choose (h1 c)).2), fun k => ([c0, c1, c2, c3, c4, c5] : List ClassId).getD k c0, fun c q hq => Classical.choose_spec (h1 c) q hq, fun k q hk => ?_⟩
  have hl : k < 6 := (List.getElem?_eq_some_iff.mp hk).1
  rcases (show k = 0 ∨ k = 1 ∨ k = 2 ∨ k = 3 ∨ k = 4 ∨ k = 5 by omega) with rfl | rfl | rfl | rfl | rfl | rfl
  · cases hk; exact h0
  · cases hk; exact h10
  · cases hk; exact h20
  · cases hk; exact h30
  · cases hk; exact h40
  · cases hk; exact h50
end KX
theorem kT0 {b : Nat} {s : State} {A : Nat → Prop} (hs : ∀ c ∈ flatC (Jvm.Cond.and given_1 narrow_1), c.before #[Value.ref b] s = true) (hA : ∀ a : Nat, a < s.heap.size → ¬ A a) : ∃ t : Nat, ((Term.static "RopeShore" "ABOVE" "[I").eval #[Value.ref b] s none [] s = some (.ref t)) ∧ va_T .int t 7 (fun j => .int (([-1, 0, 0, 0, 1, 2, 0] : List Int32).getD j 0)) A s s.heap := by
  refine va_Tof (by decide) (hs (.arrayOf (Term.static "RopeShore" "ABOVE" "[I") .int) (by decide +kernel)) (va_eqt (hs (.eq (.length (Term.static "RopeShore" "ABOVE" "[I")) (.int 7)) (by decide +kernel))) (fun j hj => ?_) hA
  rcases (show j = 0 ∨ j = 1 ∨ j = 2 ∨ j = 3 ∨ j = 4 ∨ j = 5 ∨ j = 6 by omega) with rfl | rfl | rfl | rfl | rfl | rfl | rfl
  · exact va_eqt (z := (-1)) (hs (.eq (.elem (Term.static "RopeShore" "ABOVE" "[I") (.int 0)) (.int (-1))) (by decide +kernel))
  · exact va_eqt (z := (0)) (hs (.eq (.elem (Term.static "RopeShore" "ABOVE" "[I") (.int 1)) (.int (0))) (by decide +kernel))
  · exact va_eqt (z := (0)) (hs (.eq (.elem (Term.static "RopeShore" "ABOVE" "[I") (.int 2)) (.int (0))) (by decide +kernel))
  · exact va_eqt (z := (0)) (hs (.eq (.elem (Term.static "RopeShore" "ABOVE" "[I") (.int 3)) (.int (0))) (by decide +kernel))
  · exact va_eqt (z := (1)) (hs (.eq (.elem (Term.static "RopeShore" "ABOVE" "[I") (.int 4)) (.int (1))) (by decide +kernel))
  · exact va_eqt (z := (2)) (hs (.eq (.elem (Term.static "RopeShore" "ABOVE" "[I") (.int 5)) (.int (2))) (by decide +kernel))
  · exact va_eqt (z := (0)) (hs (.eq (.elem (Term.static "RopeShore" "ABOVE" "[I") (.int 6)) (.int (0))) (by decide +kernel))
theorem kT1 {b : Nat} {s : State} {A : Nat → Prop} (hs : ∀ c ∈ flatC (Jvm.Cond.and given_1 narrow_1), c.before #[Value.ref b] s = true) (hA : ∀ a : Nat, a < s.heap.size → ¬ A a) : ∃ t : Nat, ((Term.static "RopeShore$Text" "NAMES" "[C").eval #[Value.ref b] s none [] s = some (.ref t)) ∧ va_T .char t 6 (fun j => .int (([103, 116, 115, 99, 108, 100] : List Int32).getD j 0)) A s s.heap := by
  refine va_Tof (by decide) (hs (.arrayOf (Term.static "RopeShore$Text" "NAMES" "[C") .char) (by decide +kernel)) (va_eqt (hs (.eq (.length (Term.static "RopeShore$Text" "NAMES" "[C")) (.int 6)) (by decide +kernel))) (fun j hj => ?_) hA
  rcases (show j = 0 ∨ j = 1 ∨ j = 2 ∨ j = 3 ∨ j = 4 ∨ j = 5 by omega) with rfl | rfl | rfl | rfl | rfl | rfl
  · exact va_eqt (z := (103)) (hs (.eq (.elem (Term.static "RopeShore$Text" "NAMES" "[C") (.int 0)) (.int (103))) (by decide +kernel))
  · exact va_eqt (z := (116)) (hs (.eq (.elem (Term.static "RopeShore$Text" "NAMES" "[C") (.int 1)) (.int (116))) (by decide +kernel))
  · exact va_eqt (z := (115)) (hs (.eq (.elem (Term.static "RopeShore$Text" "NAMES" "[C") (.int 2)) (.int (115))) (by decide +kernel))
  · exact va_eqt (z := (99)) (hs (.eq (.elem (Term.static "RopeShore$Text" "NAMES" "[C") (.int 3)) (.int (99))) (by decide +kernel))
  · exact va_eqt (z := (108)) (hs (.eq (.elem (Term.static "RopeShore$Text" "NAMES" "[C") (.int 4)) (.int (108))) (by decide +kernel))
  · exact va_eqt (z := (100)) (hs (.eq (.elem (Term.static "RopeShore$Text" "NAMES" "[C") (.int 5)) (.int (100))) (by decide +kernel))
theorem kOk : xoo kW0 := fun b => match b with
  | 0 => rfl
  | 1 => rfl
  | 2 => rfl
  | 3 => rfl
  | 4 => rfl
  | n + 5 => by
    show 0 = xln (n + 5)
    unfold xln
    rw [if_neg (by omega), if_neg (by omega), if_neg (by omega)]
theorem kAp_of {A : Nat → Prop} {cA : Nat → ClassId} {ad : Nat → Nat} {σ : xW} (hD : va_D A (xcw cA ad σ)) : xAp ad ∧ ∀ q, xA ad q → A q := by
  have key : ∀ (k : Nat) (p : Nat × Nat), xPL[k]? = some p → ∃ e, (xcw cA ad σ)[k]? = some (ad (sh p.1 p.2), e) := fun k p h => ⟨_, by unfold xcw; rw [List.getElem?_map, h]; rfl⟩
  refine ⟨fun i j p q hi hj he => ?_, fun q hq => ?_⟩
  · obtain ⟨e1, h1⟩ := key i p hi
    obtain ⟨e2, h2⟩ := key j q hj
    exact hD.1 i j _ _ h1 h2 he
  · obtain ⟨p, hp, rfl⟩ := hq
    obtain ⟨k, hk⟩ := List.getElem?_of_mem hp
    obtain ⟨e1, h1⟩ := key k p hk
    exact hD.2 k _ h1
theorem kRet {I : xI} {st : List Value} {σ σ2 : xW} {pc : Nat} (hf : xft j_L_law pc = some I) (hr : xret I st σ = some (some (.int 1), σ2)) : decode code pc = .ok (.ireturn, 1) ∧ st = [.int 1] := by
  obtain ⟨hd, ho, hn⟩ := xft_inv (j := j_L_law) (M := xm_L_law) rfl hf
  obtain ⟨i, L, ⟨a, b, cc, v, l0⟩, ix⟩ := I
  have hd : decode code pc = .ok (i, L) := hd
  cases i with
  | ireturn =>
    have ho : (decide (L = 1) && (decide (cc = 0 ∧ xm_L_law.2.2.2.1 = some .int) || decide (cc = 1 ∧ xm_L_law.2.2.2.1 = some .boolean))) = true := ho
    rw [Bool.and_eq_true] at ho
    have h1 : L = 1 := of_decide_eq_true ho.1
    subst h1
    obtain ⟨x, e0, hz, hv⟩ := xri hr
    cases hv
    exact ⟨hd, e0⟩
  | areturn =>
    obtain ⟨x, e0, hv⟩ := xra hr
    cases hv
  | return_ =>
    obtain ⟨e0, hv⟩ := xrv hr
    cases hv
  | _ => cases hr
theorem kd_L_0 : decode code 0 = .ok (.new 7, 3) := by decide +kernel
theorem kd_L_3 : decode code 3 = .ok (.dup, 1) := by decide +kernel
theorem kd_L_4 : decode code 4 = .ok (.invokespecial 9, 3) := by decide +kernel
theorem kd_L_7 : decode code 7 = .ok (.astore_n 1, 1) := by decide +kernel
theorem kd_L_8 : decode code 8 = .ok (.new 10, 3) := by decide +kernel
theorem kd_L_11 : decode code 11 = .ok (.dup, 1) := by decide +kernel
theorem kd_L_12 : decode code 12 = .ok (.invokespecial 12, 3) := by decide +kernel
theorem kd_L_15 : decode code 15 = .ok (.astore_n 2, 1) := by decide +kernel
theorem kd_L_16 : decode code 16 = .ok (.iconst 0, 1) := by decide +kernel
theorem kd_L_17 : decode code 17 = .ok (.istore_n 3, 1) := by decide +kernel
