/-! ===== the machine does what the pictures do: methods ===== -/
theorem xri {L a b cc : Nat} {v : Int32} {l : List (Nat × Nat)} {ix : List Nat} {st : List Value} {σ : xW} {q : xQ} (h : xret (.ireturn, L, (a, b, cc, v, l), ix) st σ = some q) : ∃ x, st = [.int x] ∧ xretz cc x = true ∧ q = (some (.int x), σ) := by
  unfold xret at h
  simp only at h
  split at h
  · rename_i x
    obtain ⟨hz, h⟩ := ite_inv h
    exact ⟨x, rfl, hz, (Option.some.inj h).symm⟩
  · cases h
theorem xra {L a b cc : Nat} {v : Int32} {l : List (Nat × Nat)} {ix : List Nat} {st : List Value} {σ : xW} {q : xQ} (h : xret (.areturn, L, (a, b, cc, v, l), ix) st σ = some q) : ∃ x, st = [.ref x] ∧ q = (some (.ref x), σ) := by
  unfold xret at h
  simp only at h
  split at h
  · rename_i x
    exact ⟨x, rfl, (Option.some.inj h).symm⟩
  · cases h
theorem xrv {L a b cc : Nat} {v : Int32} {l : List (Nat × Nat)} {ix : List Nat} {st : List Value} {σ : xW} {q : xQ} (h : xret (.return_, L, (a, b, cc, v, l), ix) st σ = some q) : st = [] ∧ q = (none, σ) := by
  unfold xret at h
  simp only at h
  split at h
  · exact ⟨rfl, (Option.some.inj h).symm⟩
  · cases h
section XW4
variable {p : Program} {l : Launch} {e : Env} {R : Room} {s : State} {m : MethodId} {args : Array Value} {below : List Frame} {meth : Method} {c : Code} {cells slots : Nat} {Q : State → Prop}
variable {D : va_G} {cA : Nat → ClassId} {ad : Nat → Nat} {X : xX} {A : Nat → Prop} {d : Nat} {O : xO} {M : xM}
theorem xwalk (C : xCx p l e R s m args below meth c cells slots D cA ad X A d O M) {j : Nat} (hj : xMs[j]? = some M) {q : xQ}
    (hret : ∀ (I : xI) (pc : Nat) (st : List Value) (σ : xW) (H : Heap) (locs : List Loc) (lsC : Array Slot), xft j pc = some I → xret I st σ = some q → xoo σ → va_P D xcl (xcw cA ad σ) H → va_S A s.heap H locs → W p l e R s m args below meth c H locs cells slots Q (F0 m pc lsC (st.map (xcv ad)))) :
    ∀ (n pc : Nat) (ls st : List Value) (σ : xW) (H : Heap) (locs : List Loc) (lsC : Array Slot), xrunN O j n pc ls st σ = some q → xoo σ → xL ad ls lsC → ls.length = M.2.2.1 → va_P D xcl (xcw cA ad σ) H → va_S A s.heap H locs → W p l e R s m args below meth c H locs cells slots Q (F0 m pc lsC (st.map (xcv ad))) := by
  intro n
  induction n with
  | zero => intro pc ls st σ H locs lsC h; cases h
  | succ n ih =>
    intro pc ls st σ H locs lsC h hok hL hlen hP hS
    unfold xrunN at h
    cases hf : xft j pc with
    | none => rw [hf] at h; cases h
    | some I =>
      rw [hf] at h
      simp only at h
      cases hr : xret I st σ with
      | some q' =>
        rw [hr] at h
        cases h
        exact hret I pc st σ H locs lsC hf hr hok hP hS
      | none =>
        rw [hr] at h
        simp only at h
        cases hs : xstep O I pc ls st σ with
        | none => rw [hs] at h; cases h
        | some z =>
          rw [hs] at h
          obtain ⟨pc', ls', st', σ'⟩ := z
          exact xstep_W C hj hf hs hok hL hlen hP hS fun lsC' H' locs' hok' hL' hlen' hP' hS' => ih _ _ _ _ _ _ _ h hok' hL' hlen' hP' hS'
/-- a method's end -/
theorem xend (C : xCx p l e R s m args below meth c 0 0 D cA ad X (xA ad) d O M) {j : Nat} (hj : xMs[j]? = some M) (hrt : meth.sig.returnType = M.2.2.2.1) (hlocks : meth.locks = false) {q : xQ} {I : xI} {pc : Nat} {st : List Value} {σ : xW} {H : Heap} {locs : List Loc} {lsC : Array Slot}
    (hf : xft j pc = some I) (hr : xret I st σ = some q) (hok : xoo σ) (hP : va_P D xcl (xcw cA ad σ) H) (hS : va_S (xA ad) s.heap H locs) :
    W p l e R s m args below meth c H locs 0 0 (MQ below (xQc D cA ad X q) args s 0 0 (xA ad)) (F0 m pc lsC (st.map (xcv ad))) := by
  have C' := C
  obtain ⟨hx, hb, hml, hown, hts, hK, hAp, hsub, hSt, hO, hOX, hR, hcs⟩ := C
  obtain ⟨hd, ho, hn⟩ := xft_inv hj hf
  obtain ⟨i, L, ⟨a, b, cc, v, l0⟩, ix⟩ := I
  have hd : decode M.2.1 pc = .ok (i, L) := hd
  have hq : ∀ (v : Option Value), q = (v, σ) → ∀ t : State, t.heap = H → s.WarmedH t.vm → xQc D cA ad X q args s (.returned (v.map (xcv ad))) t := by
    intro v hv t ht hW
    subst hv
    exact ⟨rfl, hok, xB_at C' hP hS ht hW, hS.F ht⟩
  cases i with
  | ireturn =>
    have ho : (decide (L = 1) && (decide (cc = 0 ∧ M.2.2.2.1 = some .int) || decide (cc = 1 ∧ M.2.2.2.1 = some .boolean))) = true := ho
    simp only [Bool.and_eq_true, Bool.or_eq_true, decide_eq_true_eq] at ho
    obtain ⟨h1, ho2⟩ := ho
    subst h1
    obtain ⟨x, e0, hz, hv⟩ := xri hr
    have h1 := hq (some (.int x)) hv
    subst e0
    rcases ho2 with ⟨hc, hm⟩ | ⟨hc, hm⟩
    · exact W.zret hx hb (hrt.trans hm) rfl (fun t ht hW => h1 t ht hW) hS.2.2 hd hlocks
    · refine W.zret hx hb (hrt.trans hm) ?_ (fun t ht hW => h1 t ht hW) hS.2.2 hd hlocks
      unfold xretz at hz
      simp only [Bool.or_eq_true, decide_eq_true_eq] at hz
      rcases hz with (hz | hz) | hz
      · omega
      · subst hz; rfl
      · subst hz; rfl
  | areturn =>
    have ho : (decide (L = 1) && (match M.2.2.2.1 with
      | some (.object _) => true
      | _ => false)) = true := ho
    rw [Bool.and_eq_true] at ho
    obtain ⟨ho, h2⟩ := ho
    have ho : L = 1 := of_decide_eq_true ho
    subst ho
    obtain ⟨x, e0, hv⟩ := xra hr
    have h1 := hq (some (.ref x)) hv
    subst e0
    split at h2
    · rename_i nm hm
      exact W.aret hx hb (hrt.trans hm) (Or.inl ⟨nm, rfl⟩) (Or.inr ⟨_, rfl⟩) (fun t ht hW => h1 t ht hW) hS.2.2 hd hlocks
    · cases h2
  | return_ =>
    have ho : (decide (L = 1) && decide (M.2.2.2.1 = none)) = true := ho
    simp only [Bool.and_eq_true, decide_eq_true_eq] at ho
    obtain ⟨h1, hm⟩ := ho
    subst h1
    obtain ⟨e0, hv⟩ := xrv hr
    have h1 := hq none hv
    subst e0
    exact W.vret hx hb (hrt.trans hm) (fun t ht hW => h1 t ht hW) hS.2.2 hd hlocks
  | _ => exact absurd (show (none : Option xQ) = some _ from hr) (by simp)
end XW4
theorem xsound (l : Launch) (D : va_G) (cA : Nat → ClassId) (ad : Nat → Nat) (X : xX) (hAp : xAp ad) : ∀ d : Nat, xHolds l D cA ad X (xcall X d) d := by
  intro d
  induction d with
  | zero => intro j M as σ q _ _ h; cases h
  | succ d ih =>
    intro j M as σ q hj hok h
    unfold xcall at h
    rw [hj] at h
    obtain ⟨hle, h⟩ := ite_inv h
    obtain ⟨n, hn⟩ := xrun_iff.mp h
    refine Met.ofW (cc := M.2.1) (maxL := M.2.2.1) (ret := M.2.2.2.1) (xM_inv hj).1 rfl ?_
    intro p e s m args below meth c s₁ B hml hv
    obtain ⟨rfl, hK, hP, hSt⟩ := hv
    have hts0 := atoms_spec (ws := xws M) B.pre
    have hown : s.vm.findClass M.1.cls = some m.cls := findClass_of_methodNamed B.named
    have C : xCx p l e (headSpec (xws M) (xrm (d + 1))).room s m (as.map (xcv ad)).toArray below meth c 0 0 D cA ad X (xA ad) d (X, xcall X d) M :=
      ⟨B.exec, B.bytes, hml, hown, fun w hw => hts0 w (List.mem_cons_of_mem _ hw), hK, hAp, fun q h => h, hSt, ih, rfl, ⟨Nat.le_refl _, by show 40 * d + 40 ≤ 40 * (d + 1); omega⟩, ⟨Nat.zero_le _, Nat.zero_le _⟩⟩
    have hl := lv_entry (as.map (xcv ad)) (n := M.2.2.1) (by rw [xargs_len]; exact hle)
    obtain ⟨hL, hlen⟩ := xL_ent hle hl
    rw [lg_entry_eq]
    exact xwalk C hj (fun I pc st σ' H locs lsC hf hr hok' hP' hS' => xend C hj B.returns B.notSynchronized hf hr hok' hP' hS') n 0 _ [] σ _ _ _ hn hok hL hlen hP va_S.rf
