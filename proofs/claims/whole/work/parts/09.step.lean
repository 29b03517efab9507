section XW3
variable {p : Program} {l : Launch} {e : Env} {R : Room} {s : State} {m : MethodId} {args : Array Value} {below : List Frame} {meth : Method} {c : Code} {cells slots : Nat} {Q : State → Prop}
variable {D : va_G} {cA : Nat → ClassId} {ad : Nat → Nat} {X : xX} {A : Nat → Prop} {d : Nat} {O : xO} {M : xM}
/-- super.m(..), where the superclass may only inherit m -/
theorem xrunUp {H : Heap} {locs : List Loc} {y : MethodName} {bytes cc : ByteArray} {maxL nL n index : Nat} {ret : Option FieldType} {ws : List Cond} {rm : Room} {Pc : Array Value → State → Prop} {Qc : Array Value → State → Outcome → State → Prop} {free : Addr → Prop} {Ts : List Cond} {own up C : String} {cC : ClassId} {b : Addr} {As rest : List Value} {g : JFrame}
    (hat : ClassAt s C cC) (S : CallFix p m c cc nL s args Ts own) (hM : Met l y ws rm Pc Qc 0 0 free)
    (cw : rm.cells = 0 ∧ rm.slots = 0 ∧ rm.frames + 1 ≤ R.frames ∧ 8 + (maxL + 11) + rm.locals ≤ R.locals ∧ (∀ w ∈ ws, ∀ (a' : Array Value) (U : State), s.WarmedH U.vm → w.before a' U = true) ∧ Cond.code y bytes maxL ret ∈ ws)
    (hlink : (Cond.methodLink own index ⟨up, y.name, y.desc⟩).before args s = true) (hsame : (Cond.sameMethod up y.cls y.name y.desc).before args s = true) (hsup : (Cond.superclass own up).before args s = true) (hsub2 : up = y.cls ∨ (Cond.superclass up y.cls).before args s = true) (hinst : (Cond.instanceMethod y).before args s = true) (hini : (Cond.initialized y.cls).before args s = true) (hcode : (Cond.code y bytes maxL ret).before args s = true) (hno : y.name ≠ "<init>") (hlen : ∀ sig, parseMethodDescriptor y.desc = some sig → n = sig.parameters.length)
    (hp : PreV s H C b Pc As)
    (hg : g.method = m) (hn : As.length = n) (hsize : g.locals.size = nL) (hstack : g.stack = As.reverse ++ .ref b :: rest) (hW : 2 * g.monitorRoom + (rest.map fun v => v.category).sum ≤ 8) (hdg : decode cc g.pc = .ok (.invokespecial index, 3)) (hf : cells ≤ R.cells ∧ slots ≤ R.slots) :
    va_Run p l e R s m args below meth c H locs cells slots 0 0 g rest (Qc (Value.ref b :: As).toArray) (free) := by
  obtain ⟨hrc, hrs, hfr, hlo, hws, hcw⟩ := cw
  have hK : Back l R p e below s args y 3 8 (PreOf R 0 0 Pc) (PostOf Qc 0 0 free) := back_of (bytes := bytes) (maxL := maxL) (ret := ret) hM hp.1 hrc hrs hfr hlo hws hcw (fun a' U hW => word_at hW (Or.inl (by first | rfl | simp [Cond.onTables, Cond.keeps, Cond.steady])) hini)
  obtain ⟨hx, hb, hml, hown, -⟩ := S
  obtain ⟨-, ⟨cellB, hcB, hoB, hclB⟩, hPc⟩ := hp
  obtain ⟨hfc, kB, hkB, -⟩ := hat
  cases hfc.symm.trans hclB
  obtain ⟨mk, methM, hnamed, hmethM, hstM, habM⟩ := Cond.instanceMethod_spec hinst
  obtain ⟨methM', cM, hmethM', -, -, -, -, -, -, hsigM⟩ := Cond.code_spec hnamed hcode
  cases hmethM.symm.trans hmethM'
  obtain ⟨ps, dk, kp, hps, hdk, hkp, hsuper, -, -, hnid⟩ := Cond.superclass_spec hown hsup
  have hnm : s.methodNamed? ⟨y.cls, y.name, y.desc⟩ = some mk := hnamed
  have hyc := findClass_of_methodNamed hnamed
  have hsub : s.vm.isSubclass ps mk.cls = true := by
    rcases hsub2 with he | h2
    · have hpm : ps = mk.cls := by rw [he] at hps; exact Option.some.inj (hps.symm.trans hyc)
      rw [hpm]; simp [Vm.isSubclass, Vm.isSubclassAux]
    · obtain ⟨ps2, dk2, kp2, hps2, hdk2, hkp2, hsuper2, -⟩ := Cond.superclass_spec hps h2
      have hpm : ps2 = mk.cls := Option.some.inj (hps2.symm.trans hyc)
      subst hpm
      have hsz : ∃ n, s.vm.classes.size = n + 1 := ⟨s.vm.classes.size - 1, by have := (Array.getElem?_eq_some_iff.mp hdk2).1; omega⟩
      obtain ⟨n', hn'⟩ := hsz
      unfold Vm.isSubclass
      rw [hn']
      unfold Vm.isSubclassAux
      rw [hdk2]
      simp only [hsuper2]
      unfold Vm.isSubclassAux
      simp
  intro T hT X
  obtain ⟨vm₁, X₁, hstep₁⟩ := X.invokespecialUp hx (x := ⟨up, y.name, y.desc⟩) (owner := y.cls) hown hlink hsame hnm hmethM hstM habM hno hdk hnid hps hsuper hsub (a := b) (cell := cellB) (by rw [hT]; exact hcB)
    (fun z h => by rw [h] at hoB; cases hoB) hkB (g := g) hg (argsL := As) (rest := rest) (hn.trans (hlen _ hsigM)) hstack (by rw [hb]; exact hdg)
  obtain ⟨v, B, X', hpost, hsteps⟩ := hK m meth c ⟨T.setVm vm₁, locs, cells, slots⟩ { g with stack := rest } (.invokespecial index) mk (Value.ref b :: As).toArray X₁ hg (hsize.trans hml.symm) (by rw [hb]; exact hdg) hW (X₁.named hnamed) ⟨hf.1, hf.2, hPc (T.setVm vm₁) hT X₁.warmed⟩
  obtain ⟨U', l2, c2, s2⟩ := B
  obtain ⟨g', mk', t, L, e1, e2, hq, h1, hL, h2, h3⟩ := hpost
  dsimp only [Pt.U, Pt.locs, Pt.cells, Pt.slots] at X' e1 e2 h1 h2 h3 hsteps
  subst h1; subst h2; subst h3
  exact ⟨v, (T.setVm vm₁).calling g' mk' (Value.ref b :: As).toArray, t, U', L, hT, X', hL, e1, e2, hq, fun target h => hstep₁ _ (by rw [doInvoke_state]; exact hsteps.trans h)⟩
theorem xw_special (C : xCx p l e R s m args below meth c cells slots D cA ad X A d O M) {j : Nat} (hj : xMs[j]? = some M) {k a b cc : Nat} {v : Int32} {l0 : List (Nat × Nat)} {ix : List Nat} {pc : Nat} {ls st : List Value} {σ : xW} {pc' : Nat} {ls' st' : List Value} {σ' : xW}
    (hd : decode M.2.1 pc = .ok (.invokespecial k, 3)) (ho : xoth M.2.2.2.1 pc (.invokespecial k, 3, (a, b, cc, v, l0), ix) = true) (hn : ∀ w ∈ xneed M.1 (.invokespecial k, 3, (a, b, cc, v, l0), ix), w ∈ xT)
    (hs : xstep O (.invokespecial k, 3, (a, b, cc, v, l0), ix) pc ls st σ = some ((pc', ls', st', σ'))) (hok : xoo σ) {lsC : Array Slot} {H : Heap} {locs : List Loc} (hL : xL ad ls lsC) (hlen : ls.length = M.2.2.1) (hP : va_P D xcl (xcw cA ad σ) H) (hS : va_S A s.heap H locs)
    (k1 : ∀ (lsC' : Array Slot) (H' : Heap) (locs' : List Loc), xoo σ' → xL ad ls' lsC' → ls'.length = M.2.2.1 → va_P D xcl (xcw cA ad σ') H' → va_S A s.heap H' locs' → W p l e R s m args below meth c H' locs' cells slots Q (F0 m pc' lsC' (st'.map (xcv ad)))) :
    W p l e R s m args below meth c H locs cells slots Q (F0 m pc lsC (st.map (xcv ad))) := by
  have C' := C
  obtain ⟨hx, hb, hml, hown, hts, hK, hAp, hsub, hSt, hO, hOX, hR, hcs⟩ := C
  unfold xstep at hs
  obtain ⟨as, r, hal, hrl, e0, hz⟩ := xarg_inv hs
  clear hs
  subst e0
  have hs := hz
  clear hz
  cases as with
  | nil => cases hal
  | cons a0 as =>
    cases a0 with
    | ref n =>
      simp only at hs
      cases hci : xcc σ n with
      | none => rw [hci] at hs; cases hs
      | some ci =>
        rw [hci] at hs
        simp only [Option.bind_some] at hs
        obtain ⟨q, hq, rfl, rfl, rfl, rfl⟩ := xcallr_inv hs
        simp only [xoth, Bool.and_eq_true, decide_eq_true_eq] at ho
        cases hMa : xMs[a]? with
        | none => rw [hMa] at ho; exact absurd ho.2 (by simp)
        | some Mc =>
          rw [hMa] at ho
          simp only [Bool.and_eq_true, decide_eq_true_eq] at ho
          obtain ⟨-, hpl, hno⟩ := ho
          have hmlc := (xM_inv hMa).2
          have hM := hO a Mc (.ref n :: as) σ q hMa hok hq
          obtain ⟨fs, hfs⟩ := xcc_inv hci
          obtain ⟨k0, hk0, -⟩ := xcw_at (cA := cA) (ad := ad) hok hfs
          obtain ⟨Cn, hCi, -⟩ := hP k0 _ hk0
          have hrecv := va_recv hK hP hCi hk0
          have hp : PreV s H Cn.1 (ad n) (va_Pc ((.ref n :: as).map (xcv ad)) (xB D cA ad X (xA ad) σ)) (as.map (xcv ad)) := ⟨xblind, hrecv, fun U hU hW => ⟨rfl, xB_at C' hP hS hU hW⟩⟩
          have hstack : (F0 m pc lsC (((.ref n :: as).reverse ++ r).map (xcv ad))).stack = (as.map (xcv ad)).reverse ++ .ref (ad n) :: r.map (xcv ad) := by simp [F0, xcv]
          have hsz : (F0 m pc lsC (((.ref n :: as).reverse ++ r).map (xcv ad))).locals.size = M.2.2.1 := hL.1.trans hlen
          have hal' : (as.map (xcv ad)).length = b := by rw [List.length_map]; simpa using hal
          have hroom : 2 * (F0 m pc lsC (((.ref n :: as).reverse ++ r).map (xcv ad))).monitorRoom + ((r.map (xcv ad)).map fun v => v.category).sum ≤ 8 := lv_room (pc := pc) (m := m) (ls := lsC) (rest := []) (xrest hrl)
          have hat : ClassAt s Cn.1 (D.1 ci) := (hK.1 ci Cn hCi).2
          obtain ⟨up, h1, h2, h3, h3b, h4, h5, h6⟩ : ∃ up : String, (Cond.methodLink M.1.cls k ⟨up, Mc.1.name, Mc.1.desc⟩) ∈ xT ∧ (Cond.sameMethod up Mc.1.cls Mc.1.name Mc.1.desc) ∈ xT ∧ (Cond.superclass M.1.cls up) ∈ xT ∧ (up = Mc.1.cls ∨ Cond.superclass up Mc.1.cls ∈ xT) ∧ Cond.instanceMethod Mc.1 ∈ xT ∧ Cond.initialized Mc.1.cls ∈ xT ∧ xwd Mc ∈ xT := by
            unfold xneed at hn
            simp only at hn
            rw [hMa] at hn
            simp only at hn
            by_cases hc0 : cc = 0
            · rw [if_pos hc0] at hn
              simp only [List.forall_mem_cons] at hn
              obtain ⟨h1, h2, h3, h4, h5, h6, -⟩ := hn
              exact ⟨Mc.1.cls, h1, h2, h3, Or.inl rfl, h4, h5, h6⟩
            · rw [if_neg hc0] at hn
              simp only [List.forall_mem_cons] at hn
              obtain ⟨h1, h2, h3, h4, h5, h6, h7, -⟩ := hn
              exact ⟨xGo, h1, h2, h3, Or.inr h7, h4, h5, h6⟩
          unfold xplain at hpl
          simp only [Bool.and_eq_true, decide_eq_true_eq] at hpl
          have hrun : va_Run p l e R s m args below meth c H locs cells slots 0 0 (F0 m pc lsC (((.ref n :: as).reverse ++ r).map (xcv ad))) (r.map (xcv ad)) (xQc D cA ad X q (.ref (ad n) :: as.map (xcv ad)).toArray) (xA ad) := by
            refine xrunUp (up := up) (y := Mc.1) (bytes := Mc.2.1) (maxL := Mc.2.2.1) (ret := Mc.2.2.2.1) (n := b) hat ⟨hx, hb, hml, hown, hts⟩ hM ⟨rfl, rfl, hR.1, ?_, fun w hw => ?_, List.mem_cons_self⟩ (hts _ h1) (hts _ h2) (hts _ h3) (h3b.imp id (hts _)) (hts _ h4) (hts _ h5) (hts _ h6) hno (fun sig h => ?_) hp rfl hal' hsz hstack hroom hd hcs
            · show 8 + (Mc.2.2.1 + 11) + 40 * d ≤ R.locals
              omega
            · rcases List.mem_cons.mp hw with rfl | hw
              · exact xwarm hts _ h6
              · exact xwarm hts _ hw
            · have h9 := hpl.2
              rw [h] at h9
              exact (Option.some.inj h9).symm
          refine x_run C' hS hrun fun H1 locs1 hok1 hP1 hS1 => ?_
          rw [← xtol]
          exact k1 lsC H1 locs1 hok1 hL hlen hP1 hS1
    | _ => cases hs

theorem xw_iconst (C : xCx p l e R s m args below meth c cells slots D cA ad X A d O M) {j : Nat} (hj : xMs[j]? = some M) {n : Int} {L a b cc : Nat} {v : Int32} {l0 : List (Nat × Nat)} {ix : List Nat} {pc : Nat} {ls st : List Value} {σ : xW} {pc' : Nat} {ls' st' : List Value} {σ' : xW} (hf : xft j pc = some (.iconst n, L, (a, b, cc, v, l0), ix))
    (hs : xstep O (.iconst n, L, (a, b, cc, v, l0), ix) pc ls st σ = some (pc', ls', st', σ')) (hok : xoo σ) {lsC : Array Slot} {H : Heap} {locs : List Loc} (hL : xL ad ls lsC) (hlen : ls.length = M.2.2.1) (hP : va_P D xcl (xcw cA ad σ) H) (hS : va_S A s.heap H locs)
    (k1 : ∀ (lsC' : Array Slot) (H' : Heap) (locs' : List Loc), xoo σ' → xL ad ls' lsC' → ls'.length = M.2.2.1 → va_P D xcl (xcw cA ad σ') H' → va_S A s.heap H' locs' → W p l e R s m args below meth c H' locs' cells slots Q (F0 m pc' lsC' (st'.map (xcv ad)))) :
    W p l e R s m args below meth c H locs cells slots Q (F0 m pc lsC (st.map (xcv ad))) := by
  have C' := C
  obtain ⟨hx, hb, hml, hown, hts, hK, hAp, hsub, hSt, hO, hOX, hR, hcs⟩ := C
  obtain ⟨hd, ho, hn⟩ := xft_inv hj hf
  have hD := xD hAp hsub cA σ
  have ho : (decide (L = 1) && decide (Int32.ofInt n = v)) = true := ho
  simp only [Bool.and_eq_true, decide_eq_true_eq] at ho
  obtain ⟨rfl, hv⟩ := ho
  obtain ⟨rfl, rfl, rfl, rfl⟩ := xgo_inv hs
  exact lv_iconst hx hb hd hv (k1 _ _ _ hok hL hlen hP hS)
theorem xw_bipush (C : xCx p l e R s m args below meth c cells slots D cA ad X A d O M) {j : Nat} (hj : xMs[j]? = some M) {n : Int} {L a b cc : Nat} {v : Int32} {l0 : List (Nat × Nat)} {ix : List Nat} {pc : Nat} {ls st : List Value} {σ : xW} {pc' : Nat} {ls' st' : List Value} {σ' : xW} (hf : xft j pc = some (.bipush n, L, (a, b, cc, v, l0), ix))
    (hs : xstep O (.bipush n, L, (a, b, cc, v, l0), ix) pc ls st σ = some (pc', ls', st', σ')) (hok : xoo σ) {lsC : Array Slot} {H : Heap} {locs : List Loc} (hL : xL ad ls lsC) (hlen : ls.length = M.2.2.1) (hP : va_P D xcl (xcw cA ad σ) H) (hS : va_S A s.heap H locs)
    (k1 : ∀ (lsC' : Array Slot) (H' : Heap) (locs' : List Loc), xoo σ' → xL ad ls' lsC' → ls'.length = M.2.2.1 → va_P D xcl (xcw cA ad σ') H' → va_S A s.heap H' locs' → W p l e R s m args below meth c H' locs' cells slots Q (F0 m pc' lsC' (st'.map (xcv ad)))) :
    W p l e R s m args below meth c H locs cells slots Q (F0 m pc lsC (st.map (xcv ad))) := by
  have C' := C
  obtain ⟨hx, hb, hml, hown, hts, hK, hAp, hsub, hSt, hO, hOX, hR, hcs⟩ := C
  obtain ⟨hd, ho, hn⟩ := xft_inv hj hf
  have hD := xD hAp hsub cA σ
  have ho : (decide (L = 2) && decide ((Int8.ofInt n).toInt32 = v)) = true := ho
  simp only [Bool.and_eq_true, decide_eq_true_eq] at ho
  obtain ⟨rfl, hv⟩ := ho
  obtain ⟨rfl, rfl, rfl, rfl⟩ := xgo_inv hs
  exact lv_bipush hx hb hd hv (k1 _ _ _ hok hL hlen hP hS)
theorem xw_sipush (C : xCx p l e R s m args below meth c cells slots D cA ad X A d O M) {j : Nat} (hj : xMs[j]? = some M) {n : Int} {L a b cc : Nat} {v : Int32} {l0 : List (Nat × Nat)} {ix : List Nat} {pc : Nat} {ls st : List Value} {σ : xW} {pc' : Nat} {ls' st' : List Value} {σ' : xW} (hf : xft j pc = some (.sipush n, L, (a, b, cc, v, l0), ix))
    (hs : xstep O (.sipush n, L, (a, b, cc, v, l0), ix) pc ls st σ = some (pc', ls', st', σ')) (hok : xoo σ) {lsC : Array Slot} {H : Heap} {locs : List Loc} (hL : xL ad ls lsC) (hlen : ls.length = M.2.2.1) (hP : va_P D xcl (xcw cA ad σ) H) (hS : va_S A s.heap H locs)
    (k1 : ∀ (lsC' : Array Slot) (H' : Heap) (locs' : List Loc), xoo σ' → xL ad ls' lsC' → ls'.length = M.2.2.1 → va_P D xcl (xcw cA ad σ') H' → va_S A s.heap H' locs' → W p l e R s m args below meth c H' locs' cells slots Q (F0 m pc' lsC' (st'.map (xcv ad)))) :
    W p l e R s m args below meth c H locs cells slots Q (F0 m pc lsC (st.map (xcv ad))) := by
  have C' := C
  obtain ⟨hx, hb, hml, hown, hts, hK, hAp, hsub, hSt, hO, hOX, hR, hcs⟩ := C
  obtain ⟨hd, ho, hn⟩ := xft_inv hj hf
  have hD := xD hAp hsub cA σ
  have ho : (decide (L = 3) && decide ((Int16.ofInt n).toInt32 = v)) = true := ho
  simp only [Bool.and_eq_true, decide_eq_true_eq] at ho
  obtain ⟨rfl, hv⟩ := ho
  obtain ⟨rfl, rfl, rfl, rfl⟩ := xgo_inv hs
  exact lv_sipush hx hb hd hv (k1 _ _ _ hok hL hlen hP hS)
theorem xw_ldc (C : xCx p l e R s m args below meth c cells slots D cA ad X A d O M) {j : Nat} (hj : xMs[j]? = some M) {n : Nat} {L a b cc : Nat} {v : Int32} {l0 : List (Nat × Nat)} {ix : List Nat} {pc : Nat} {ls st : List Value} {σ : xW} {pc' : Nat} {ls' st' : List Value} {σ' : xW} (hf : xft j pc = some (.ldc n, L, (a, b, cc, v, l0), ix))
    (hs : xstep O (.ldc n, L, (a, b, cc, v, l0), ix) pc ls st σ = some (pc', ls', st', σ')) (hok : xoo σ) {lsC : Array Slot} {H : Heap} {locs : List Loc} (hL : xL ad ls lsC) (hlen : ls.length = M.2.2.1) (hP : va_P D xcl (xcw cA ad σ) H) (hS : va_S A s.heap H locs)
    (k1 : ∀ (lsC' : Array Slot) (H' : Heap) (locs' : List Loc), xoo σ' → xL ad ls' lsC' → ls'.length = M.2.2.1 → va_P D xcl (xcw cA ad σ') H' → va_S A s.heap H' locs' → W p l e R s m args below meth c H' locs' cells slots Q (F0 m pc' lsC' (st'.map (xcv ad)))) :
    W p l e R s m args below meth c H locs cells slots Q (F0 m pc lsC (st.map (xcv ad))) := by
  have C' := C
  obtain ⟨hx, hb, hml, hown, hts, hK, hAp, hsub, hSt, hO, hOX, hR, hcs⟩ := C
  obtain ⟨hd, ho, hn⟩ := xft_inv hj hf
  have hD := xD hAp hsub cA σ
  have h1 : L = 2 := of_decide_eq_true ho
  subst h1
  obtain ⟨rfl, rfl, rfl, rfl⟩ := xgo_inv hs
  have h2 : Cond.constant M.1.cls n v ∈ xT := hn _ List.mem_cons_self
  exact lv_ldc hx hb hown (hts _ h2) hd (k1 _ _ _ hok hL hlen hP hS)
theorem xw_ldc_w (C : xCx p l e R s m args below meth c cells slots D cA ad X A d O M) {j : Nat} (hj : xMs[j]? = some M) {n : Nat} {L a b cc : Nat} {v : Int32} {l0 : List (Nat × Nat)} {ix : List Nat} {pc : Nat} {ls st : List Value} {σ : xW} {pc' : Nat} {ls' st' : List Value} {σ' : xW} (hf : xft j pc = some (.ldc_w n, L, (a, b, cc, v, l0), ix))
    (hs : xstep O (.ldc_w n, L, (a, b, cc, v, l0), ix) pc ls st σ = some (pc', ls', st', σ')) (hok : xoo σ) {lsC : Array Slot} {H : Heap} {locs : List Loc} (hL : xL ad ls lsC) (hlen : ls.length = M.2.2.1) (hP : va_P D xcl (xcw cA ad σ) H) (hS : va_S A s.heap H locs)
    (k1 : ∀ (lsC' : Array Slot) (H' : Heap) (locs' : List Loc), xoo σ' → xL ad ls' lsC' → ls'.length = M.2.2.1 → va_P D xcl (xcw cA ad σ') H' → va_S A s.heap H' locs' → W p l e R s m args below meth c H' locs' cells slots Q (F0 m pc' lsC' (st'.map (xcv ad)))) :
    W p l e R s m args below meth c H locs cells slots Q (F0 m pc lsC (st.map (xcv ad))) := by
  have C' := C
  obtain ⟨hx, hb, hml, hown, hts, hK, hAp, hsub, hSt, hO, hOX, hR, hcs⟩ := C
  obtain ⟨hd, ho, hn⟩ := xft_inv hj hf
  have hD := xD hAp hsub cA σ
  have h1 : L = 3 := of_decide_eq_true ho
  subst h1
  obtain ⟨rfl, rfl, rfl, rfl⟩ := xgo_inv hs
  have h2 : Cond.constant M.1.cls n v ∈ xT := hn _ List.mem_cons_self
  exact lv_ldcw hx hb hown (hts _ h2) hd (k1 _ _ _ hok hL hlen hP hS)
theorem xw_ldc2_w (C : xCx p l e R s m args below meth c cells slots D cA ad X A d O M) {j : Nat} (hj : xMs[j]? = some M) {n : Nat} {L a b cc : Nat} {v : Int32} {l0 : List (Nat × Nat)} {ix : List Nat} {pc : Nat} {ls st : List Value} {σ : xW} {pc' : Nat} {ls' st' : List Value} {σ' : xW} (hf : xft j pc = some (.ldc2_w n, L, (a, b, cc, v, l0), ix))
    (hs : xstep O (.ldc2_w n, L, (a, b, cc, v, l0), ix) pc ls st σ = some (pc', ls', st', σ')) (hok : xoo σ) {lsC : Array Slot} {H : Heap} {locs : List Loc} (hL : xL ad ls lsC) (hlen : ls.length = M.2.2.1) (hP : va_P D xcl (xcw cA ad σ) H) (hS : va_S A s.heap H locs)
    (k1 : ∀ (lsC' : Array Slot) (H' : Heap) (locs' : List Loc), xoo σ' → xL ad ls' lsC' → ls'.length = M.2.2.1 → va_P D xcl (xcw cA ad σ') H' → va_S A s.heap H' locs' → W p l e R s m args below meth c H' locs' cells slots Q (F0 m pc' lsC' (st'.map (xcv ad)))) :
    W p l e R s m args below meth c H locs cells slots Q (F0 m pc lsC (st.map (xcv ad))) := by
  have C' := C
  obtain ⟨hx, hb, hml, hown, hts, hK, hAp, hsub, hSt, hO, hOX, hR, hcs⟩ := C
  obtain ⟨hd, ho, hn⟩ := xft_inv hj hf
  have hD := xD hAp hsub cA σ
  have h1 : L = 3 := of_decide_eq_true ho
  subst h1
  obtain ⟨rfl, rfl, rfl, rfl⟩ := xgo_inv hs
  have h2 : Cond.constantLong M.1.cls n (Int64.ofNat a) ∈ xT := hn _ List.mem_cons_self
  exact lv_ldc2 hx hb hown (hts _ h2) hd (k1 _ _ _ hok hL hlen hP hS)
theorem xw_iload_n (C : xCx p l e R s m args below meth c cells slots D cA ad X A d O M) {j : Nat} (hj : xMs[j]? = some M) {n : Fin 4} {L a b cc : Nat} {v : Int32} {l0 : List (Nat × Nat)} {ix : List Nat} {pc : Nat} {ls st : List Value} {σ : xW} {pc' : Nat} {ls' st' : List Value} {σ' : xW} (hf : xft j pc = some (.iload_n n, L, (a, b, cc, v, l0), ix))
    (hs : xstep O (.iload_n n, L, (a, b, cc, v, l0), ix) pc ls st σ = some (pc', ls', st', σ')) (hok : xoo σ) {lsC : Array Slot} {H : Heap} {locs : List Loc} (hL : xL ad ls lsC) (hlen : ls.length = M.2.2.1) (hP : va_P D xcl (xcw cA ad σ) H) (hS : va_S A s.heap H locs)
    (k1 : ∀ (lsC' : Array Slot) (H' : Heap) (locs' : List Loc), xoo σ' → xL ad ls' lsC' → ls'.length = M.2.2.1 → va_P D xcl (xcw cA ad σ') H' → va_S A s.heap H' locs' → W p l e R s m args below meth c H' locs' cells slots Q (F0 m pc' lsC' (st'.map (xcv ad)))) :
    W p l e R s m args below meth c H locs cells slots Q (F0 m pc lsC (st.map (xcv ad))) := by
  have C' := C
  obtain ⟨hx, hb, hml, hown, hts, hK, hAp, hsub, hSt, hO, hOX, hR, hcs⟩ := C
  obtain ⟨hd, ho, hn⟩ := xft_inv hj hf
  have hD := xD hAp hsub cA σ
  have h1 : L = 1 := of_decide_eq_true ho
  subst h1
  obtain ⟨x, hv, hs⟩ := xvi_inv hs
  obtain ⟨rfl, rfl, rfl, rfl⟩ := xgo_inv hs
  exact lv_iload_n hx hb hd rfl (hL.2.2 _ _ hv (fun z => by cases z)) (k1 _ _ _ hok hL hlen hP hS)
theorem xw_iload (C : xCx p l e R s m args below meth c cells slots D cA ad X A d O M) {j : Nat} (hj : xMs[j]? = some M) {n : Nat} {L a b cc : Nat} {v : Int32} {l0 : List (Nat × Nat)} {ix : List Nat} {pc : Nat} {ls st : List Value} {σ : xW} {pc' : Nat} {ls' st' : List Value} {σ' : xW} (hf : xft j pc = some (.iload n, L, (a, b, cc, v, l0), ix))
    (hs : xstep O (.iload n, L, (a, b, cc, v, l0), ix) pc ls st σ = some (pc', ls', st', σ')) (hok : xoo σ) {lsC : Array Slot} {H : Heap} {locs : List Loc} (hL : xL ad ls lsC) (hlen : ls.length = M.2.2.1) (hP : va_P D xcl (xcw cA ad σ) H) (hS : va_S A s.heap H locs)
    (k1 : ∀ (lsC' : Array Slot) (H' : Heap) (locs' : List Loc), xoo σ' → xL ad ls' lsC' → ls'.length = M.2.2.1 → va_P D xcl (xcw cA ad σ') H' → va_S A s.heap H' locs' → W p l e R s m args below meth c H' locs' cells slots Q (F0 m pc' lsC' (st'.map (xcv ad)))) :
    W p l e R s m args below meth c H locs cells slots Q (F0 m pc lsC (st.map (xcv ad))) := by
  have C' := C
  obtain ⟨hx, hb, hml, hown, hts, hK, hAp, hsub, hSt, hO, hOX, hR, hcs⟩ := C
  obtain ⟨hd, ho, hn⟩ := xft_inv hj hf
  have hD := xD hAp hsub cA σ
  have h1 : L = 2 := of_decide_eq_true ho
  subst h1
  obtain ⟨x, hv, hs⟩ := xvi_inv hs
  obtain ⟨rfl, rfl, rfl, rfl⟩ := xgo_inv hs
  exact lv_iload hx hb hd (hL.2.2 _ _ hv (fun z => by cases z)) (k1 _ _ _ hok hL hlen hP hS)
theorem xw_lload_n (C : xCx p l e R s m args below meth c cells slots D cA ad X A d O M) {j : Nat} (hj : xMs[j]? = some M) {n : Fin 4} {L a b cc : Nat} {v : Int32} {l0 : List (Nat × Nat)} {ix : List Nat} {pc : Nat} {ls st : List Value} {σ : xW} {pc' : Nat} {ls' st' : List Value} {σ' : xW} (hf : xft j pc = some (.lload_n n, L, (a, b, cc, v, l0), ix))
    (hs : xstep O (.lload_n n, L, (a, b, cc, v, l0), ix) pc ls st σ = some (pc', ls', st', σ')) (hok : xoo σ) {lsC : Array Slot} {H : Heap} {locs : List Loc} (hL : xL ad ls lsC) (hlen : ls.length = M.2.2.1) (hP : va_P D xcl (xcw cA ad σ) H) (hS : va_S A s.heap H locs)
    (k1 : ∀ (lsC' : Array Slot) (H' : Heap) (locs' : List Loc), xoo σ' → xL ad ls' lsC' → ls'.length = M.2.2.1 → va_P D xcl (xcw cA ad σ') H' → va_S A s.heap H' locs' → W p l e R s m args below meth c H' locs' cells slots Q (F0 m pc' lsC' (st'.map (xcv ad)))) :
    W p l e R s m args below meth c H locs cells slots Q (F0 m pc lsC (st.map (xcv ad))) := by
  have C' := C
  obtain ⟨hx, hb, hml, hown, hts, hK, hAp, hsub, hSt, hO, hOX, hR, hcs⟩ := C
  obtain ⟨hd, ho, hn⟩ := xft_inv hj hf
  have hD := xD hAp hsub cA σ
  have h1 : L = 1 := of_decide_eq_true ho
  subst h1
  obtain ⟨x, hv, hs⟩ := xvl_inv hs
  obtain ⟨rfl, rfl, rfl, rfl⟩ := xgo_inv hs
  exact lv_lload_n hx hb hd rfl (hL.2.2 _ _ hv (fun z => by cases z)) (k1 _ _ _ hok hL hlen hP hS)
theorem xw_lload (C : xCx p l e R s m args below meth c cells slots D cA ad X A d O M) {j : Nat} (hj : xMs[j]? = some M) {n : Nat} {L a b cc : Nat} {v : Int32} {l0 : List (Nat × Nat)} {ix : List Nat} {pc : Nat} {ls st : List Value} {σ : xW} {pc' : Nat} {ls' st' : List Value} {σ' : xW} (hf : xft j pc = some (.lload n, L, (a, b, cc, v, l0), ix))
    (hs : xstep O (.lload n, L, (a, b, cc, v, l0), ix) pc ls st σ = some (pc', ls', st', σ')) (hok : xoo σ) {lsC : Array Slot} {H : Heap} {locs : List Loc} (hL : xL ad ls lsC) (hlen : ls.length = M.2.2.1) (hP : va_P D xcl (xcw cA ad σ) H) (hS : va_S A s.heap H locs)
    (k1 : ∀ (lsC' : Array Slot) (H' : Heap) (locs' : List Loc), xoo σ' → xL ad ls' lsC' → ls'.length = M.2.2.1 → va_P D xcl (xcw cA ad σ') H' → va_S A s.heap H' locs' → W p l e R s m args below meth c H' locs' cells slots Q (F0 m pc' lsC' (st'.map (xcv ad)))) :
    W p l e R s m args below meth c H locs cells slots Q (F0 m pc lsC (st.map (xcv ad))) := by
  have C' := C
  obtain ⟨hx, hb, hml, hown, hts, hK, hAp, hsub, hSt, hO, hOX, hR, hcs⟩ := C
  obtain ⟨hd, ho, hn⟩ := xft_inv hj hf
  have hD := xD hAp hsub cA σ
  have h1 : L = 2 := of_decide_eq_true ho
  subst h1
  obtain ⟨x, hv, hs⟩ := xvl_inv hs
  obtain ⟨rfl, rfl, rfl, rfl⟩ := xgo_inv hs
  exact lv_lload hx hb hd (hL.2.2 _ _ hv (fun z => by cases z)) (k1 _ _ _ hok hL hlen hP hS)
theorem xw_aload_n (C : xCx p l e R s m args below meth c cells slots D cA ad X A d O M) {j : Nat} (hj : xMs[j]? = some M) {n : Fin 4} {L a b cc : Nat} {v : Int32} {l0 : List (Nat × Nat)} {ix : List Nat} {pc : Nat} {ls st : List Value} {σ : xW} {pc' : Nat} {ls' st' : List Value} {σ' : xW} (hf : xft j pc = some (.aload_n n, L, (a, b, cc, v, l0), ix))
    (hs : xstep O (.aload_n n, L, (a, b, cc, v, l0), ix) pc ls st σ = some (pc', ls', st', σ')) (hok : xoo σ) {lsC : Array Slot} {H : Heap} {locs : List Loc} (hL : xL ad ls lsC) (hlen : ls.length = M.2.2.1) (hP : va_P D xcl (xcw cA ad σ) H) (hS : va_S A s.heap H locs)
    (k1 : ∀ (lsC' : Array Slot) (H' : Heap) (locs' : List Loc), xoo σ' → xL ad ls' lsC' → ls'.length = M.2.2.1 → va_P D xcl (xcw cA ad σ') H' → va_S A s.heap H' locs' → W p l e R s m args below meth c H' locs' cells slots Q (F0 m pc' lsC' (st'.map (xcv ad)))) :
    W p l e R s m args below meth c H locs cells slots Q (F0 m pc lsC (st.map (xcv ad))) := by
  have C' := C
  obtain ⟨hx, hb, hml, hown, hts, hK, hAp, hsub, hSt, hO, hOX, hR, hcs⟩ := C
  obtain ⟨hd, ho, hn⟩ := xft_inv hj hf
  have hD := xD hAp hsub cA σ
  have h1 : L = 1 := of_decide_eq_true ho
  subst h1
  obtain ⟨x, hv, hs⟩ := xva_inv hs
  obtain ⟨rfl, rfl, rfl, rfl⟩ := xgo_inv hs
  exact lv_aload_n hx hb hd rfl (hL.2.2 _ _ hv (fun z => by cases z)) (k1 _ _ _ hok hL hlen hP hS)
theorem xw_aload (C : xCx p l e R s m args below meth c cells slots D cA ad X A d O M) {j : Nat} (hj : xMs[j]? = some M) {n : Nat} {L a b cc : Nat} {v : Int32} {l0 : List (Nat × Nat)} {ix : List Nat} {pc : Nat} {ls st : List Value} {σ : xW} {pc' : Nat} {ls' st' : List Value} {σ' : xW} (hf : xft j pc = some (.aload n, L, (a, b, cc, v, l0), ix))
    (hs : xstep O (.aload n, L, (a, b, cc, v, l0), ix) pc ls st σ = some (pc', ls', st', σ')) (hok : xoo σ) {lsC : Array Slot} {H : Heap} {locs : List Loc} (hL : xL ad ls lsC) (hlen : ls.length = M.2.2.1) (hP : va_P D xcl (xcw cA ad σ) H) (hS : va_S A s.heap H locs)
    (k1 : ∀ (lsC' : Array Slot) (H' : Heap) (locs' : List Loc), xoo σ' → xL ad ls' lsC' → ls'.length = M.2.2.1 → va_P D xcl (xcw cA ad σ') H' → va_S A s.heap H' locs' → W p l e R s m args below meth c H' locs' cells slots Q (F0 m pc' lsC' (st'.map (xcv ad)))) :
    W p l e R s m args below meth c H locs cells slots Q (F0 m pc lsC (st.map (xcv ad))) := by
  have C' := C
  obtain ⟨hx, hb, hml, hown, hts, hK, hAp, hsub, hSt, hO, hOX, hR, hcs⟩ := C
  obtain ⟨hd, ho, hn⟩ := xft_inv hj hf
  have hD := xD hAp hsub cA σ
  have h1 : L = 2 := of_decide_eq_true ho
  subst h1
  obtain ⟨x, hv, hs⟩ := xva_inv hs
  obtain ⟨rfl, rfl, rfl, rfl⟩ := xgo_inv hs
  exact lv_aload hx hb hd (hL.2.2 _ _ hv (fun z => by cases z)) (k1 _ _ _ hok hL hlen hP hS)
theorem xw_istore_n (C : xCx p l e R s m args below meth c cells slots D cA ad X A d O M) {j : Nat} (hj : xMs[j]? = some M) {n : Fin 4} {L a b cc : Nat} {v : Int32} {l0 : List (Nat × Nat)} {ix : List Nat} {pc : Nat} {ls st : List Value} {σ : xW} {pc' : Nat} {ls' st' : List Value} {σ' : xW} (hf : xft j pc = some (.istore_n n, L, (a, b, cc, v, l0), ix))
    (hs : xstep O (.istore_n n, L, (a, b, cc, v, l0), ix) pc ls st σ = some (pc', ls', st', σ')) (hok : xoo σ) {lsC : Array Slot} {H : Heap} {locs : List Loc} (hL : xL ad ls lsC) (hlen : ls.length = M.2.2.1) (hP : va_P D xcl (xcw cA ad σ) H) (hS : va_S A s.heap H locs)
    (k1 : ∀ (lsC' : Array Slot) (H' : Heap) (locs' : List Loc), xoo σ' → xL ad ls' lsC' → ls'.length = M.2.2.1 → va_P D xcl (xcw cA ad σ') H' → va_S A s.heap H' locs' → W p l e R s m args below meth c H' locs' cells slots Q (F0 m pc' lsC' (st'.map (xcv ad)))) :
    W p l e R s m args below meth c H locs cells slots Q (F0 m pc lsC (st.map (xcv ad))) := by
  have C' := C
  obtain ⟨hx, hb, hml, hown, hts, hK, hAp, hsub, hSt, hO, hOX, hR, hcs⟩ := C
  obtain ⟨hd, ho, hn⟩ := xft_inv hj hf
  have hD := xD hAp hsub cA σ
  have h1 : L = 1 := of_decide_eq_true ho
  subst h1
  obtain ⟨x, r, e0, hz⟩ := x1_inv hs
  clear hs
  subst e0
  have hs := hz
  clear hz
  obtain ⟨hsto, hs⟩ := ite_inv hs
  obtain ⟨rfl, rfl, rfl, rfl⟩ := xgo_inv hs
  exact lv_istore_n hx hb hd rfl hL.has (xsto_lt hsto) rfl (fun ls2 h2 => k1 _ _ _ hok (xL_sto hsto h2) (by rw [List.length_set]; exact hlen) hP hS)
theorem xw_istore (C : xCx p l e R s m args below meth c cells slots D cA ad X A d O M) {j : Nat} (hj : xMs[j]? = some M) {n : Nat} {L a b cc : Nat} {v : Int32} {l0 : List (Nat × Nat)} {ix : List Nat} {pc : Nat} {ls st : List Value} {σ : xW} {pc' : Nat} {ls' st' : List Value} {σ' : xW} (hf : xft j pc = some (.istore n, L, (a, b, cc, v, l0), ix))
    (hs : xstep O (.istore n, L, (a, b, cc, v, l0), ix) pc ls st σ = some (pc', ls', st', σ')) (hok : xoo σ) {lsC : Array Slot} {H : Heap} {locs : List Loc} (hL : xL ad ls lsC) (hlen : ls.length = M.2.2.1) (hP : va_P D xcl (xcw cA ad σ) H) (hS : va_S A s.heap H locs)
    (k1 : ∀ (lsC' : Array Slot) (H' : Heap) (locs' : List Loc), xoo σ' → xL ad ls' lsC' → ls'.length = M.2.2.1 → va_P D xcl (xcw cA ad σ') H' → va_S A s.heap H' locs' → W p l e R s m args below meth c H' locs' cells slots Q (F0 m pc' lsC' (st'.map (xcv ad)))) :
    W p l e R s m args below meth c H locs cells slots Q (F0 m pc lsC (st.map (xcv ad))) := by
  have C' := C
  obtain ⟨hx, hb, hml, hown, hts, hK, hAp, hsub, hSt, hO, hOX, hR, hcs⟩ := C
  obtain ⟨hd, ho, hn⟩ := xft_inv hj hf
  have hD := xD hAp hsub cA σ
  have h1 : L = 2 := of_decide_eq_true ho
  subst h1
  obtain ⟨x, r, e0, hz⟩ := x1_inv hs
  clear hs
  subst e0
  have hs := hz
  clear hz
  obtain ⟨hsto, hs⟩ := ite_inv hs
  obtain ⟨rfl, rfl, rfl, rfl⟩ := xgo_inv hs
  exact lv_istore hx hb hd hL.has (xsto_lt hsto) rfl (fun ls2 h2 => k1 _ _ _ hok (xL_sto hsto h2) (by rw [List.length_set]; exact hlen) hP hS)
theorem xw_astore_n (C : xCx p l e R s m args below meth c cells slots D cA ad X A d O M) {j : Nat} (hj : xMs[j]? = some M) {n : Fin 4} {L a b cc : Nat} {v : Int32} {l0 : List (Nat × Nat)} {ix : List Nat} {pc : Nat} {ls st : List Value} {σ : xW} {pc' : Nat} {ls' st' : List Value} {σ' : xW} (hf : xft j pc = some (.astore_n n, L, (a, b, cc, v, l0), ix))
    (hs : xstep O (.astore_n n, L, (a, b, cc, v, l0), ix) pc ls st σ = some (pc', ls', st', σ')) (hok : xoo σ) {lsC : Array Slot} {H : Heap} {locs : List Loc} (hL : xL ad ls lsC) (hlen : ls.length = M.2.2.1) (hP : va_P D xcl (xcw cA ad σ) H) (hS : va_S A s.heap H locs)
    (k1 : ∀ (lsC' : Array Slot) (H' : Heap) (locs' : List Loc), xoo σ' → xL ad ls' lsC' → ls'.length = M.2.2.1 → va_P D xcl (xcw cA ad σ') H' → va_S A s.heap H' locs' → W p l e R s m args below meth c H' locs' cells slots Q (F0 m pc' lsC' (st'.map (xcv ad)))) :
    W p l e R s m args below meth c H locs cells slots Q (F0 m pc lsC (st.map (xcv ad))) := by
  have C' := C
  obtain ⟨hx, hb, hml, hown, hts, hK, hAp, hsub, hSt, hO, hOX, hR, hcs⟩ := C
  obtain ⟨hd, ho, hn⟩ := xft_inv hj hf
  have hD := xD hAp hsub cA σ
  have h1 : L = 1 := of_decide_eq_true ho
  subst h1
  obtain ⟨x, r, e0, hz⟩ := xa1_inv hs
  clear hs
  subst e0
  have hs := hz
  clear hz
  obtain ⟨hsto, hs⟩ := ite_inv hs
  obtain ⟨rfl, rfl, rfl, rfl⟩ := xgo_inv hs
  exact lv_astore_n hx hb hd rfl hL.has (xsto_lt hsto) rfl (fun ls2 h2 => k1 _ _ _ hok (xL_sto hsto h2) (by rw [List.length_set]; exact hlen) hP hS)
theorem xw_astore (C : xCx p l e R s m args below meth c cells slots D cA ad X A d O M) {j : Nat} (hj : xMs[j]? = some M) {n : Nat} {L a b cc : Nat} {v : Int32} {l0 : List (Nat × Nat)} {ix : List Nat} {pc : Nat} {ls st : List Value} {σ : xW} {pc' : Nat} {ls' st' : List Value} {σ' : xW} (hf : xft j pc = some (.astore n, L, (a, b, cc, v, l0), ix))
    (hs : xstep O (.astore n, L, (a, b, cc, v, l0), ix) pc ls st σ = some (pc', ls', st', σ')) (hok : xoo σ) {lsC : Array Slot} {H : Heap} {locs : List Loc} (hL : xL ad ls lsC) (hlen : ls.length = M.2.2.1) (hP : va_P D xcl (xcw cA ad σ) H) (hS : va_S A s.heap H locs)
    (k1 : ∀ (lsC' : Array Slot) (H' : Heap) (locs' : List Loc), xoo σ' → xL ad ls' lsC' → ls'.length = M.2.2.1 → va_P D xcl (xcw cA ad σ') H' → va_S A s.heap H' locs' → W p l e R s m args below meth c H' locs' cells slots Q (F0 m pc' lsC' (st'.map (xcv ad)))) :
    W p l e R s m args below meth c H locs cells slots Q (F0 m pc lsC (st.map (xcv ad))) := by
  have C' := C
  obtain ⟨hx, hb, hml, hown, hts, hK, hAp, hsub, hSt, hO, hOX, hR, hcs⟩ := C
  obtain ⟨hd, ho, hn⟩ := xft_inv hj hf
  have hD := xD hAp hsub cA σ
  have h1 : L = 2 := of_decide_eq_true ho
  subst h1
  obtain ⟨x, r, e0, hz⟩ := xa1_inv hs
  clear hs
  subst e0
  have hs := hz
  clear hz
  obtain ⟨hsto, hs⟩ := ite_inv hs
  obtain ⟨rfl, rfl, rfl, rfl⟩ := xgo_inv hs
  exact lv_astore hx hb hd hL.has (xsto_lt hsto) rfl (fun ls2 h2 => k1 _ _ _ hok (xL_sto hsto h2) (by rw [List.length_set]; exact hlen) hP hS)
theorem xw_iinc (C : xCx p l e R s m args below meth c cells slots D cA ad X A d O M) {j : Nat} (hj : xMs[j]? = some M) {n : Nat} {z : Int} {L a b cc : Nat} {v : Int32} {l0 : List (Nat × Nat)} {ix : List Nat} {pc : Nat} {ls st : List Value} {σ : xW} {pc' : Nat} {ls' st' : List Value} {σ' : xW} (hf : xft j pc = some (.iinc n z, L, (a, b, cc, v, l0), ix))
    (hs : xstep O (.iinc n z, L, (a, b, cc, v, l0), ix) pc ls st σ = some (pc', ls', st', σ')) (hok : xoo σ) {lsC : Array Slot} {H : Heap} {locs : List Loc} (hL : xL ad ls lsC) (hlen : ls.length = M.2.2.1) (hP : va_P D xcl (xcw cA ad σ) H) (hS : va_S A s.heap H locs)
    (k1 : ∀ (lsC' : Array Slot) (H' : Heap) (locs' : List Loc), xoo σ' → xL ad ls' lsC' → ls'.length = M.2.2.1 → va_P D xcl (xcw cA ad σ') H' → va_S A s.heap H' locs' → W p l e R s m args below meth c H' locs' cells slots Q (F0 m pc' lsC' (st'.map (xcv ad)))) :
    W p l e R s m args below meth c H locs cells slots Q (F0 m pc lsC (st.map (xcv ad))) := by
  have C' := C
  obtain ⟨hx, hb, hml, hown, hts, hK, hAp, hsub, hSt, hO, hOX, hR, hcs⟩ := C
  obtain ⟨hd, ho, hn⟩ := xft_inv hj hf
  have hD := xD hAp hsub cA σ
  have ho : (decide (L = 3) && decide (Int32.ofInt z = v)) = true := ho
  simp only [Bool.and_eq_true, decide_eq_true_eq] at ho
  obtain ⟨rfl, hv0⟩ := ho
  obtain ⟨x, hv, hs⟩ := xvi_inv hs
  obtain ⟨hsto, hs⟩ := ite_inv hs
  obtain ⟨rfl, rfl, rfl, rfl⟩ := xgo_inv hs
  obtain ⟨k2, hk2⟩ := List.getElem?_of_mem (xlv_mem (ad := ad) hv (fun z => by cases z))
  exact lv_iinc hx hb hd hL.has hk2 (by rw [hv0]) (xsto_lt hsto) rfl (fun ls2 h2 => k1 _ _ _ hok (xL_sto hsto h2) (by rw [List.length_set]; exact hlen) hP hS)
theorem xw_iadd (C : xCx p l e R s m args below meth c cells slots D cA ad X A d O M) {j : Nat} (hj : xMs[j]? = some M)  {L a b cc : Nat} {v : Int32} {l0 : List (Nat × Nat)} {ix : List Nat} {pc : Nat} {ls st : List Value} {σ : xW} {pc' : Nat} {ls' st' : List Value} {σ' : xW} (hf : xft j pc = some (.iadd, L, (a, b, cc, v, l0), ix))
    (hs : xstep O (.iadd, L, (a, b, cc, v, l0), ix) pc ls st σ = some (pc', ls', st', σ')) (hok : xoo σ) {lsC : Array Slot} {H : Heap} {locs : List Loc} (hL : xL ad ls lsC) (hlen : ls.length = M.2.2.1) (hP : va_P D xcl (xcw cA ad σ) H) (hS : va_S A s.heap H locs)
    (k1 : ∀ (lsC' : Array Slot) (H' : Heap) (locs' : List Loc), xoo σ' → xL ad ls' lsC' → ls'.length = M.2.2.1 → va_P D xcl (xcw cA ad σ') H' → va_S A s.heap H' locs' → W p l e R s m args below meth c H' locs' cells slots Q (F0 m pc' lsC' (st'.map (xcv ad)))) :
    W p l e R s m args below meth c H locs cells slots Q (F0 m pc lsC (st.map (xcv ad))) := by
  have C' := C
  obtain ⟨hx, hb, hml, hown, hts, hK, hAp, hsub, hSt, hO, hOX, hR, hcs⟩ := C
  obtain ⟨hd, ho, hn⟩ := xft_inv hj hf
  have hD := xD hAp hsub cA σ
  have h1 : L = 1 := of_decide_eq_true ho
  subst h1
  obtain ⟨x, y, r, e0, hz⟩ := x2_inv hs
  clear hs
  subst e0
  have hs := hz
  clear hz
  obtain ⟨rfl, rfl, rfl, rfl⟩ := xgo_inv hs
  exact lv_iadd hx hb hd (k1 _ _ _ hok hL hlen hP hS)
theorem xw_isub (C : xCx p l e R s m args below meth c cells slots D cA ad X A d O M) {j : Nat} (hj : xMs[j]? = some M)  {L a b cc : Nat} {v : Int32} {l0 : List (Nat × Nat)} {ix : List Nat} {pc : Nat} {ls st : List Value} {σ : xW} {pc' : Nat} {ls' st' : List Value} {σ' : xW} (hf : xft j pc = some (.isub, L, (a, b, cc, v, l0), ix))
    (hs : xstep O (.isub, L, (a, b, cc, v, l0), ix) pc ls st σ = some (pc', ls', st', σ')) (hok : xoo σ) {lsC : Array Slot} {H : Heap} {locs : List Loc} (hL : xL ad ls lsC) (hlen : ls.length = M.2.2.1) (hP : va_P D xcl (xcw cA ad σ) H) (hS : va_S A s.heap H locs)
    (k1 : ∀ (lsC' : Array Slot) (H' : Heap) (locs' : List Loc), xoo σ' → xL ad ls' lsC' → ls'.length = M.2.2.1 → va_P D xcl (xcw cA ad σ') H' → va_S A s.heap H' locs' → W p l e R s m args below meth c H' locs' cells slots Q (F0 m pc' lsC' (st'.map (xcv ad)))) :
    W p l e R s m args below meth c H locs cells slots Q (F0 m pc lsC (st.map (xcv ad))) := by
  have C' := C
  obtain ⟨hx, hb, hml, hown, hts, hK, hAp, hsub, hSt, hO, hOX, hR, hcs⟩ := C
  obtain ⟨hd, ho, hn⟩ := xft_inv hj hf
  have hD := xD hAp hsub cA σ
  have h1 : L = 1 := of_decide_eq_true ho
  subst h1
  obtain ⟨x, y, r, e0, hz⟩ := x2_inv hs
  clear hs
  subst e0
  have hs := hz
  clear hz
  obtain ⟨rfl, rfl, rfl, rfl⟩ := xgo_inv hs
  exact lv_isub hx hb hd (k1 _ _ _ hok hL hlen hP hS)
theorem xw_imul (C : xCx p l e R s m args below meth c cells slots D cA ad X A d O M) {j : Nat} (hj : xMs[j]? = some M)  {L a b cc : Nat} {v : Int32} {l0 : List (Nat × Nat)} {ix : List Nat} {pc : Nat} {ls st : List Value} {σ : xW} {pc' : Nat} {ls' st' : List Value} {σ' : xW} (hf : xft j pc = some (.imul, L, (a, b, cc, v, l0), ix))
    (hs : xstep O (.imul, L, (a, b, cc, v, l0), ix) pc ls st σ = some (pc', ls', st', σ')) (hok : xoo σ) {lsC : Array Slot} {H : Heap} {locs : List Loc} (hL : xL ad ls lsC) (hlen : ls.length = M.2.2.1) (hP : va_P D xcl (xcw cA ad σ) H) (hS : va_S A s.heap H locs)
    (k1 : ∀ (lsC' : Array Slot) (H' : Heap) (locs' : List Loc), xoo σ' → xL ad ls' lsC' → ls'.length = M.2.2.1 → va_P D xcl (xcw cA ad σ') H' → va_S A s.heap H' locs' → W p l e R s m args below meth c H' locs' cells slots Q (F0 m pc' lsC' (st'.map (xcv ad)))) :
    W p l e R s m args below meth c H locs cells slots Q (F0 m pc lsC (st.map (xcv ad))) := by
  have C' := C
  obtain ⟨hx, hb, hml, hown, hts, hK, hAp, hsub, hSt, hO, hOX, hR, hcs⟩ := C
  obtain ⟨hd, ho, hn⟩ := xft_inv hj hf
  have hD := xD hAp hsub cA σ
  have h1 : L = 1 := of_decide_eq_true ho
  subst h1
  obtain ⟨x, y, r, e0, hz⟩ := x2_inv hs
  clear hs
  subst e0
  have hs := hz
  clear hz
  obtain ⟨rfl, rfl, rfl, rfl⟩ := xgo_inv hs
  exact lv_imul hx hb hd (k1 _ _ _ hok hL hlen hP hS)
theorem xw_iand (C : xCx p l e R s m args below meth c cells slots D cA ad X A d O M) {j : Nat} (hj : xMs[j]? = some M)  {L a b cc : Nat} {v : Int32} {l0 : List (Nat × Nat)} {ix : List Nat} {pc : Nat} {ls st : List Value} {σ : xW} {pc' : Nat} {ls' st' : List Value} {σ' : xW} (hf : xft j pc = some (.iand, L, (a, b, cc, v, l0), ix))
    (hs : xstep O (.iand, L, (a, b, cc, v, l0), ix) pc ls st σ = some (pc', ls', st', σ')) (hok : xoo σ) {lsC : Array Slot} {H : Heap} {locs : List Loc} (hL : xL ad ls lsC) (hlen : ls.length = M.2.2.1) (hP : va_P D xcl (xcw cA ad σ) H) (hS : va_S A s.heap H locs)
    (k1 : ∀ (lsC' : Array Slot) (H' : Heap) (locs' : List Loc), xoo σ' → xL ad ls' lsC' → ls'.length = M.2.2.1 → va_P D xcl (xcw cA ad σ') H' → va_S A s.heap H' locs' → W p l e R s m args below meth c H' locs' cells slots Q (F0 m pc' lsC' (st'.map (xcv ad)))) :
    W p l e R s m args below meth c H locs cells slots Q (F0 m pc lsC (st.map (xcv ad))) := by
  have C' := C
  obtain ⟨hx, hb, hml, hown, hts, hK, hAp, hsub, hSt, hO, hOX, hR, hcs⟩ := C
  obtain ⟨hd, ho, hn⟩ := xft_inv hj hf
  have hD := xD hAp hsub cA σ
  have h1 : L = 1 := of_decide_eq_true ho
  subst h1
  obtain ⟨x, y, r, e0, hz⟩ := x2_inv hs
  clear hs
  subst e0
  have hs := hz
  clear hz
  obtain ⟨rfl, rfl, rfl, rfl⟩ := xgo_inv hs
  exact lv_iand hx hb hd (k1 _ _ _ hok hL hlen hP hS)
theorem xw_ior (C : xCx p l e R s m args below meth c cells slots D cA ad X A d O M) {j : Nat} (hj : xMs[j]? = some M)  {L a b cc : Nat} {v : Int32} {l0 : List (Nat × Nat)} {ix : List Nat} {pc : Nat} {ls st : List Value} {σ : xW} {pc' : Nat} {ls' st' : List Value} {σ' : xW} (hf : xft j pc = some (.ior, L, (a, b, cc, v, l0), ix))
    (hs : xstep O (.ior, L, (a, b, cc, v, l0), ix) pc ls st σ = some (pc', ls', st', σ')) (hok : xoo σ) {lsC : Array Slot} {H : Heap} {locs : List Loc} (hL : xL ad ls lsC) (hlen : ls.length = M.2.2.1) (hP : va_P D xcl (xcw cA ad σ) H) (hS : va_S A s.heap H locs)
    (k1 : ∀ (lsC' : Array Slot) (H' : Heap) (locs' : List Loc), xoo σ' → xL ad ls' lsC' → ls'.length = M.2.2.1 → va_P D xcl (xcw cA ad σ') H' → va_S A s.heap H' locs' → W p l e R s m args below meth c H' locs' cells slots Q (F0 m pc' lsC' (st'.map (xcv ad)))) :
    W p l e R s m args below meth c H locs cells slots Q (F0 m pc lsC (st.map (xcv ad))) := by
  have C' := C
  obtain ⟨hx, hb, hml, hown, hts, hK, hAp, hsub, hSt, hO, hOX, hR, hcs⟩ := C
  obtain ⟨hd, ho, hn⟩ := xft_inv hj hf
  have hD := xD hAp hsub cA σ
  have h1 : L = 1 := of_decide_eq_true ho
  subst h1
  obtain ⟨x, y, r, e0, hz⟩ := x2_inv hs
  clear hs
  subst e0
  have hs := hz
  clear hz
  obtain ⟨rfl, rfl, rfl, rfl⟩ := xgo_inv hs
  exact lv_ior hx hb hd (k1 _ _ _ hok hL hlen hP hS)
theorem xw_ixor (C : xCx p l e R s m args below meth c cells slots D cA ad X A d O M) {j : Nat} (hj : xMs[j]? = some M)  {L a b cc : Nat} {v : Int32} {l0 : List (Nat × Nat)} {ix : List Nat} {pc : Nat} {ls st : List Value} {σ : xW} {pc' : Nat} {ls' st' : List Value} {σ' : xW} (hf : xft j pc = some (.ixor, L, (a, b, cc, v, l0), ix))
    (hs : xstep O (.ixor, L, (a, b, cc, v, l0), ix) pc ls st σ = some (pc', ls', st', σ')) (hok : xoo σ) {lsC : Array Slot} {H : Heap} {locs : List Loc} (hL : xL ad ls lsC) (hlen : ls.length = M.2.2.1) (hP : va_P D xcl (xcw cA ad σ) H) (hS : va_S A s.heap H locs)
    (k1 : ∀ (lsC' : Array Slot) (H' : Heap) (locs' : List Loc), xoo σ' → xL ad ls' lsC' → ls'.length = M.2.2.1 → va_P D xcl (xcw cA ad σ') H' → va_S A s.heap H' locs' → W p l e R s m args below meth c H' locs' cells slots Q (F0 m pc' lsC' (st'.map (xcv ad)))) :
    W p l e R s m args below meth c H locs cells slots Q (F0 m pc lsC (st.map (xcv ad))) := by
  have C' := C
  obtain ⟨hx, hb, hml, hown, hts, hK, hAp, hsub, hSt, hO, hOX, hR, hcs⟩ := C
  obtain ⟨hd, ho, hn⟩ := xft_inv hj hf
  have hD := xD hAp hsub cA σ
  have h1 : L = 1 := of_decide_eq_true ho
  subst h1
  obtain ⟨x, y, r, e0, hz⟩ := x2_inv hs
  clear hs
  subst e0
  have hs := hz
  clear hz
  obtain ⟨rfl, rfl, rfl, rfl⟩ := xgo_inv hs
  exact lv_ixor hx hb hd (k1 _ _ _ hok hL hlen hP hS)
theorem xw_ishl (C : xCx p l e R s m args below meth c cells slots D cA ad X A d O M) {j : Nat} (hj : xMs[j]? = some M)  {L a b cc : Nat} {v : Int32} {l0 : List (Nat × Nat)} {ix : List Nat} {pc : Nat} {ls st : List Value} {σ : xW} {pc' : Nat} {ls' st' : List Value} {σ' : xW} (hf : xft j pc = some (.ishl, L, (a, b, cc, v, l0), ix))
    (hs : xstep O (.ishl, L, (a, b, cc, v, l0), ix) pc ls st σ = some (pc', ls', st', σ')) (hok : xoo σ) {lsC : Array Slot} {H : Heap} {locs : List Loc} (hL : xL ad ls lsC) (hlen : ls.length = M.2.2.1) (hP : va_P D xcl (xcw cA ad σ) H) (hS : va_S A s.heap H locs)
    (k1 : ∀ (lsC' : Array Slot) (H' : Heap) (locs' : List Loc), xoo σ' → xL ad ls' lsC' → ls'.length = M.2.2.1 → va_P D xcl (xcw cA ad σ') H' → va_S A s.heap H' locs' → W p l e R s m args below meth c H' locs' cells slots Q (F0 m pc' lsC' (st'.map (xcv ad)))) :
    W p l e R s m args below meth c H locs cells slots Q (F0 m pc lsC (st.map (xcv ad))) := by
  have C' := C
  obtain ⟨hx, hb, hml, hown, hts, hK, hAp, hsub, hSt, hO, hOX, hR, hcs⟩ := C
  obtain ⟨hd, ho, hn⟩ := xft_inv hj hf
  have hD := xD hAp hsub cA σ
  have h1 : L = 1 := of_decide_eq_true ho
  subst h1
  obtain ⟨x, y, r, e0, hz⟩ := x2_inv hs
  clear hs
  subst e0
  have hs := hz
  clear hz
  obtain ⟨rfl, rfl, rfl, rfl⟩ := xgo_inv hs
  exact lv_ishl hx hb hd (k1 _ _ _ hok hL hlen hP hS)
theorem xw_ishr (C : xCx p l e R s m args below meth c cells slots D cA ad X A d O M) {j : Nat} (hj : xMs[j]? = some M)  {L a b cc : Nat} {v : Int32} {l0 : List (Nat × Nat)} {ix : List Nat} {pc : Nat} {ls st : List Value} {σ : xW} {pc' : Nat} {ls' st' : List Value} {σ' : xW} (hf : xft j pc = some (.ishr, L, (a, b, cc, v, l0), ix))
    (hs : xstep O (.ishr, L, (a, b, cc, v, l0), ix) pc ls st σ = some (pc', ls', st', σ')) (hok : xoo σ) {lsC : Array Slot} {H : Heap} {locs : List Loc} (hL : xL ad ls lsC) (hlen : ls.length = M.2.2.1) (hP : va_P D xcl (xcw cA ad σ) H) (hS : va_S A s.heap H locs)
    (k1 : ∀ (lsC' : Array Slot) (H' : Heap) (locs' : List Loc), xoo σ' → xL ad ls' lsC' → ls'.length = M.2.2.1 → va_P D xcl (xcw cA ad σ') H' → va_S A s.heap H' locs' → W p l e R s m args below meth c H' locs' cells slots Q (F0 m pc' lsC' (st'.map (xcv ad)))) :
    W p l e R s m args below meth c H locs cells slots Q (F0 m pc lsC (st.map (xcv ad))) := by
  have C' := C
  obtain ⟨hx, hb, hml, hown, hts, hK, hAp, hsub, hSt, hO, hOX, hR, hcs⟩ := C
  obtain ⟨hd, ho, hn⟩ := xft_inv hj hf
  have hD := xD hAp hsub cA σ
  have h1 : L = 1 := of_decide_eq_true ho
  subst h1
  obtain ⟨x, y, r, e0, hz⟩ := x2_inv hs
  clear hs
  subst e0
  have hs := hz
  clear hz
  obtain ⟨rfl, rfl, rfl, rfl⟩ := xgo_inv hs
  exact lv_ishr hx hb hd (k1 _ _ _ hok hL hlen hP hS)
theorem xw_iushr (C : xCx p l e R s m args below meth c cells slots D cA ad X A d O M) {j : Nat} (hj : xMs[j]? = some M)  {L a b cc : Nat} {v : Int32} {l0 : List (Nat × Nat)} {ix : List Nat} {pc : Nat} {ls st : List Value} {σ : xW} {pc' : Nat} {ls' st' : List Value} {σ' : xW} (hf : xft j pc = some (.iushr, L, (a, b, cc, v, l0), ix))
    (hs : xstep O (.iushr, L, (a, b, cc, v, l0), ix) pc ls st σ = some (pc', ls', st', σ')) (hok : xoo σ) {lsC : Array Slot} {H : Heap} {locs : List Loc} (hL : xL ad ls lsC) (hlen : ls.length = M.2.2.1) (hP : va_P D xcl (xcw cA ad σ) H) (hS : va_S A s.heap H locs)
    (k1 : ∀ (lsC' : Array Slot) (H' : Heap) (locs' : List Loc), xoo σ' → xL ad ls' lsC' → ls'.length = M.2.2.1 → va_P D xcl (xcw cA ad σ') H' → va_S A s.heap H' locs' → W p l e R s m args below meth c H' locs' cells slots Q (F0 m pc' lsC' (st'.map (xcv ad)))) :
    W p l e R s m args below meth c H locs cells slots Q (F0 m pc lsC (st.map (xcv ad))) := by
  have C' := C
  obtain ⟨hx, hb, hml, hown, hts, hK, hAp, hsub, hSt, hO, hOX, hR, hcs⟩ := C
  obtain ⟨hd, ho, hn⟩ := xft_inv hj hf
  have hD := xD hAp hsub cA σ
  have h1 : L = 1 := of_decide_eq_true ho
  subst h1
  obtain ⟨x, y, r, e0, hz⟩ := x2_inv hs
  clear hs
  subst e0
  have hs := hz
  clear hz
  obtain ⟨rfl, rfl, rfl, rfl⟩ := xgo_inv hs
  exact lv_iushr hx hb hd rfl (k1 _ _ _ hok hL hlen hP hS)
theorem xw_idiv (C : xCx p l e R s m args below meth c cells slots D cA ad X A d O M) {j : Nat} (hj : xMs[j]? = some M)  {L a b cc : Nat} {v : Int32} {l0 : List (Nat × Nat)} {ix : List Nat} {pc : Nat} {ls st : List Value} {σ : xW} {pc' : Nat} {ls' st' : List Value} {σ' : xW} (hf : xft j pc = some (.idiv, L, (a, b, cc, v, l0), ix))
    (hs : xstep O (.idiv, L, (a, b, cc, v, l0), ix) pc ls st σ = some (pc', ls', st', σ')) (hok : xoo σ) {lsC : Array Slot} {H : Heap} {locs : List Loc} (hL : xL ad ls lsC) (hlen : ls.length = M.2.2.1) (hP : va_P D xcl (xcw cA ad σ) H) (hS : va_S A s.heap H locs)
    (k1 : ∀ (lsC' : Array Slot) (H' : Heap) (locs' : List Loc), xoo σ' → xL ad ls' lsC' → ls'.length = M.2.2.1 → va_P D xcl (xcw cA ad σ') H' → va_S A s.heap H' locs' → W p l e R s m args below meth c H' locs' cells slots Q (F0 m pc' lsC' (st'.map (xcv ad)))) :
    W p l e R s m args below meth c H locs cells slots Q (F0 m pc lsC (st.map (xcv ad))) := by
  have C' := C
  obtain ⟨hx, hb, hml, hown, hts, hK, hAp, hsub, hSt, hO, hOX, hR, hcs⟩ := C
  obtain ⟨hd, ho, hn⟩ := xft_inv hj hf
  have hD := xD hAp hsub cA σ
  have h1 : L = 1 := of_decide_eq_true ho
  subst h1
  obtain ⟨x, y, r, e0, hz⟩ := x2_inv hs
  clear hs
  subst e0
  have hs := hz
  clear hz
  obtain ⟨hne, hs⟩ := iten_inv hs
  obtain ⟨rfl, rfl, rfl, rfl⟩ := xgo_inv hs
  exact lv_idiv hx hb hd hne (k1 _ _ _ hok hL hlen hP hS)
theorem xw_irem (C : xCx p l e R s m args below meth c cells slots D cA ad X A d O M) {j : Nat} (hj : xMs[j]? = some M)  {L a b cc : Nat} {v : Int32} {l0 : List (Nat × Nat)} {ix : List Nat} {pc : Nat} {ls st : List Value} {σ : xW} {pc' : Nat} {ls' st' : List Value} {σ' : xW} (hf : xft j pc = some (.irem, L, (a, b, cc, v, l0), ix))
    (hs : xstep O (.irem, L, (a, b, cc, v, l0), ix) pc ls st σ = some (pc', ls', st', σ')) (hok : xoo σ) {lsC : Array Slot} {H : Heap} {locs : List Loc} (hL : xL ad ls lsC) (hlen : ls.length = M.2.2.1) (hP : va_P D xcl (xcw cA ad σ) H) (hS : va_S A s.heap H locs)
    (k1 : ∀ (lsC' : Array Slot) (H' : Heap) (locs' : List Loc), xoo σ' → xL ad ls' lsC' → ls'.length = M.2.2.1 → va_P D xcl (xcw cA ad σ') H' → va_S A s.heap H' locs' → W p l e R s m args below meth c H' locs' cells slots Q (F0 m pc' lsC' (st'.map (xcv ad)))) :
    W p l e R s m args below meth c H locs cells slots Q (F0 m pc lsC (st.map (xcv ad))) := by
  have C' := C
  obtain ⟨hx, hb, hml, hown, hts, hK, hAp, hsub, hSt, hO, hOX, hR, hcs⟩ := C
  obtain ⟨hd, ho, hn⟩ := xft_inv hj hf
  have hD := xD hAp hsub cA σ
  have h1 : L = 1 := of_decide_eq_true ho
  subst h1
  obtain ⟨x, y, r, e0, hz⟩ := x2_inv hs
  clear hs
  subst e0
  have hs := hz
  clear hz
  obtain ⟨hne, hs⟩ := iten_inv hs
  obtain ⟨rfl, rfl, rfl, rfl⟩ := xgo_inv hs
  exact lv_irem hx hb hd hne (k1 _ _ _ hok hL hlen hP hS)
theorem xw_ineg (C : xCx p l e R s m args below meth c cells slots D cA ad X A d O M) {j : Nat} (hj : xMs[j]? = some M)  {L a b cc : Nat} {v : Int32} {l0 : List (Nat × Nat)} {ix : List Nat} {pc : Nat} {ls st : List Value} {σ : xW} {pc' : Nat} {ls' st' : List Value} {σ' : xW} (hf : xft j pc = some (.ineg, L, (a, b, cc, v, l0), ix))
    (hs : xstep O (.ineg, L, (a, b, cc, v, l0), ix) pc ls st σ = some (pc', ls', st', σ')) (hok : xoo σ) {lsC : Array Slot} {H : Heap} {locs : List Loc} (hL : xL ad ls lsC) (hlen : ls.length = M.2.2.1) (hP : va_P D xcl (xcw cA ad σ) H) (hS : va_S A s.heap H locs)
    (k1 : ∀ (lsC' : Array Slot) (H' : Heap) (locs' : List Loc), xoo σ' → xL ad ls' lsC' → ls'.length = M.2.2.1 → va_P D xcl (xcw cA ad σ') H' → va_S A s.heap H' locs' → W p l e R s m args below meth c H' locs' cells slots Q (F0 m pc' lsC' (st'.map (xcv ad)))) :
    W p l e R s m args below meth c H locs cells slots Q (F0 m pc lsC (st.map (xcv ad))) := by
  have C' := C
  obtain ⟨hx, hb, hml, hown, hts, hK, hAp, hsub, hSt, hO, hOX, hR, hcs⟩ := C
  obtain ⟨hd, ho, hn⟩ := xft_inv hj hf
  have hD := xD hAp hsub cA σ
  have h1 : L = 1 := of_decide_eq_true ho
  subst h1
  obtain ⟨x, r, e0, hz⟩ := x1_inv hs
  clear hs
  subst e0
  have hs := hz
  clear hz
  obtain ⟨rfl, rfl, rfl, rfl⟩ := xgo_inv hs
  exact lv_ineg hx hb hd (k1 _ _ _ hok hL hlen hP hS)
theorem xw_i2l (C : xCx p l e R s m args below meth c cells slots D cA ad X A d O M) {j : Nat} (hj : xMs[j]? = some M)  {L a b cc : Nat} {v : Int32} {l0 : List (Nat × Nat)} {ix : List Nat} {pc : Nat} {ls st : List Value} {σ : xW} {pc' : Nat} {ls' st' : List Value} {σ' : xW} (hf : xft j pc = some (.i2l, L, (a, b, cc, v, l0), ix))
    (hs : xstep O (.i2l, L, (a, b, cc, v, l0), ix) pc ls st σ = some (pc', ls', st', σ')) (hok : xoo σ) {lsC : Array Slot} {H : Heap} {locs : List Loc} (hL : xL ad ls lsC) (hlen : ls.length = M.2.2.1) (hP : va_P D xcl (xcw cA ad σ) H) (hS : va_S A s.heap H locs)
    (k1 : ∀ (lsC' : Array Slot) (H' : Heap) (locs' : List Loc), xoo σ' → xL ad ls' lsC' → ls'.length = M.2.2.1 → va_P D xcl (xcw cA ad σ') H' → va_S A s.heap H' locs' → W p l e R s m args below meth c H' locs' cells slots Q (F0 m pc' lsC' (st'.map (xcv ad)))) :
    W p l e R s m args below meth c H locs cells slots Q (F0 m pc lsC (st.map (xcv ad))) := by
  have C' := C
  obtain ⟨hx, hb, hml, hown, hts, hK, hAp, hsub, hSt, hO, hOX, hR, hcs⟩ := C
  obtain ⟨hd, ho, hn⟩ := xft_inv hj hf
  have hD := xD hAp hsub cA σ
  have h1 : L = 1 := of_decide_eq_true ho
  subst h1
  obtain ⟨x, r, e0, hz⟩ := x1_inv hs
  clear hs
  subst e0
  have hs := hz
  clear hz
  obtain ⟨rfl, rfl, rfl, rfl⟩ := xgo_inv hs
  exact lv_i2l hx hb hd rfl (k1 _ _ _ hok hL hlen hP hS)
theorem xw_l2i (C : xCx p l e R s m args below meth c cells slots D cA ad X A d O M) {j : Nat} (hj : xMs[j]? = some M)  {L a b cc : Nat} {v : Int32} {l0 : List (Nat × Nat)} {ix : List Nat} {pc : Nat} {ls st : List Value} {σ : xW} {pc' : Nat} {ls' st' : List Value} {σ' : xW} (hf : xft j pc = some (.l2i, L, (a, b, cc, v, l0), ix))
    (hs : xstep O (.l2i, L, (a, b, cc, v, l0), ix) pc ls st σ = some (pc', ls', st', σ')) (hok : xoo σ) {lsC : Array Slot} {H : Heap} {locs : List Loc} (hL : xL ad ls lsC) (hlen : ls.length = M.2.2.1) (hP : va_P D xcl (xcw cA ad σ) H) (hS : va_S A s.heap H locs)
    (k1 : ∀ (lsC' : Array Slot) (H' : Heap) (locs' : List Loc), xoo σ' → xL ad ls' lsC' → ls'.length = M.2.2.1 → va_P D xcl (xcw cA ad σ') H' → va_S A s.heap H' locs' → W p l e R s m args below meth c H' locs' cells slots Q (F0 m pc' lsC' (st'.map (xcv ad)))) :
    W p l e R s m args below meth c H locs cells slots Q (F0 m pc lsC (st.map (xcv ad))) := by
  have C' := C
  obtain ⟨hx, hb, hml, hown, hts, hK, hAp, hsub, hSt, hO, hOX, hR, hcs⟩ := C
  obtain ⟨hd, ho, hn⟩ := xft_inv hj hf
  have hD := xD hAp hsub cA σ
  have h1 : L = 1 := of_decide_eq_true ho
  subst h1
  obtain ⟨x, r, e0, hz⟩ := xl1_inv hs
  clear hs
  subst e0
  have hs := hz
  clear hz
  obtain ⟨rfl, rfl, rfl, rfl⟩ := xgo_inv hs
  exact lv_l2i hx hb hd rfl (k1 _ _ _ hok hL hlen hP hS)
theorem xw_i2b (C : xCx p l e R s m args below meth c cells slots D cA ad X A d O M) {j : Nat} (hj : xMs[j]? = some M)  {L a b cc : Nat} {v : Int32} {l0 : List (Nat × Nat)} {ix : List Nat} {pc : Nat} {ls st : List Value} {σ : xW} {pc' : Nat} {ls' st' : List Value} {σ' : xW} (hf : xft j pc = some (.i2b, L, (a, b, cc, v, l0), ix))
    (hs : xstep O (.i2b, L, (a, b, cc, v, l0), ix) pc ls st σ = some (pc', ls', st', σ')) (hok : xoo σ) {lsC : Array Slot} {H : Heap} {locs : List Loc} (hL : xL ad ls lsC) (hlen : ls.length = M.2.2.1) (hP : va_P D xcl (xcw cA ad σ) H) (hS : va_S A s.heap H locs)
    (k1 : ∀ (lsC' : Array Slot) (H' : Heap) (locs' : List Loc), xoo σ' → xL ad ls' lsC' → ls'.length = M.2.2.1 → va_P D xcl (xcw cA ad σ') H' → va_S A s.heap H' locs' → W p l e R s m args below meth c H' locs' cells slots Q (F0 m pc' lsC' (st'.map (xcv ad)))) :
    W p l e R s m args below meth c H locs cells slots Q (F0 m pc lsC (st.map (xcv ad))) := by
  have C' := C
  obtain ⟨hx, hb, hml, hown, hts, hK, hAp, hsub, hSt, hO, hOX, hR, hcs⟩ := C
  obtain ⟨hd, ho, hn⟩ := xft_inv hj hf
  have hD := xD hAp hsub cA σ
  have h1 : L = 1 := of_decide_eq_true ho
  subst h1
  obtain ⟨x, r, e0, hz⟩ := x1_inv hs
  clear hs
  subst e0
  have hs := hz
  clear hz
  obtain ⟨rfl, rfl, rfl, rfl⟩ := xgo_inv hs
  exact lv_i2b hx hb hd rfl (k1 _ _ _ hok hL hlen hP hS)
theorem xw_i2s (C : xCx p l e R s m args below meth c cells slots D cA ad X A d O M) {j : Nat} (hj : xMs[j]? = some M)  {L a b cc : Nat} {v : Int32} {l0 : List (Nat × Nat)} {ix : List Nat} {pc : Nat} {ls st : List Value} {σ : xW} {pc' : Nat} {ls' st' : List Value} {σ' : xW} (hf : xft j pc = some (.i2s, L, (a, b, cc, v, l0), ix))
    (hs : xstep O (.i2s, L, (a, b, cc, v, l0), ix) pc ls st σ = some (pc', ls', st', σ')) (hok : xoo σ) {lsC : Array Slot} {H : Heap} {locs : List Loc} (hL : xL ad ls lsC) (hlen : ls.length = M.2.2.1) (hP : va_P D xcl (xcw cA ad σ) H) (hS : va_S A s.heap H locs)
    (k1 : ∀ (lsC' : Array Slot) (H' : Heap) (locs' : List Loc), xoo σ' → xL ad ls' lsC' → ls'.length = M.2.2.1 → va_P D xcl (xcw cA ad σ') H' → va_S A s.heap H' locs' → W p l e R s m args below meth c H' locs' cells slots Q (F0 m pc' lsC' (st'.map (xcv ad)))) :
    W p l e R s m args below meth c H locs cells slots Q (F0 m pc lsC (st.map (xcv ad))) := by
  have C' := C
  obtain ⟨hx, hb, hml, hown, hts, hK, hAp, hsub, hSt, hO, hOX, hR, hcs⟩ := C
  obtain ⟨hd, ho, hn⟩ := xft_inv hj hf
  have hD := xD hAp hsub cA σ
  have h1 : L = 1 := of_decide_eq_true ho
  subst h1
  obtain ⟨x, r, e0, hz⟩ := x1_inv hs
  clear hs
  subst e0
  have hs := hz
  clear hz
  obtain ⟨rfl, rfl, rfl, rfl⟩ := xgo_inv hs
  exact lv_i2s hx hb hd rfl (k1 _ _ _ hok hL hlen hP hS)
theorem xw_land (C : xCx p l e R s m args below meth c cells slots D cA ad X A d O M) {j : Nat} (hj : xMs[j]? = some M)  {L a b cc : Nat} {v : Int32} {l0 : List (Nat × Nat)} {ix : List Nat} {pc : Nat} {ls st : List Value} {σ : xW} {pc' : Nat} {ls' st' : List Value} {σ' : xW} (hf : xft j pc = some (.land, L, (a, b, cc, v, l0), ix))
    (hs : xstep O (.land, L, (a, b, cc, v, l0), ix) pc ls st σ = some (pc', ls', st', σ')) (hok : xoo σ) {lsC : Array Slot} {H : Heap} {locs : List Loc} (hL : xL ad ls lsC) (hlen : ls.length = M.2.2.1) (hP : va_P D xcl (xcw cA ad σ) H) (hS : va_S A s.heap H locs)
    (k1 : ∀ (lsC' : Array Slot) (H' : Heap) (locs' : List Loc), xoo σ' → xL ad ls' lsC' → ls'.length = M.2.2.1 → va_P D xcl (xcw cA ad σ') H' → va_S A s.heap H' locs' → W p l e R s m args below meth c H' locs' cells slots Q (F0 m pc' lsC' (st'.map (xcv ad)))) :
    W p l e R s m args below meth c H locs cells slots Q (F0 m pc lsC (st.map (xcv ad))) := by
  have C' := C
  obtain ⟨hx, hb, hml, hown, hts, hK, hAp, hsub, hSt, hO, hOX, hR, hcs⟩ := C
  obtain ⟨hd, ho, hn⟩ := xft_inv hj hf
  have hD := xD hAp hsub cA σ
  have h1 : L = 1 := of_decide_eq_true ho
  subst h1
  obtain ⟨x, y, r, e0, hz⟩ := xl2_inv hs
  clear hs
  subst e0
  have hs := hz
  clear hz
  obtain ⟨rfl, rfl, rfl, rfl⟩ := xgo_inv hs
  exact lv_land hx hb hd (k1 _ _ _ hok hL hlen hP hS)
theorem xw_lor (C : xCx p l e R s m args below meth c cells slots D cA ad X A d O M) {j : Nat} (hj : xMs[j]? = some M)  {L a b cc : Nat} {v : Int32} {l0 : List (Nat × Nat)} {ix : List Nat} {pc : Nat} {ls st : List Value} {σ : xW} {pc' : Nat} {ls' st' : List Value} {σ' : xW} (hf : xft j pc = some (.lor, L, (a, b, cc, v, l0), ix))
    (hs : xstep O (.lor, L, (a, b, cc, v, l0), ix) pc ls st σ = some (pc', ls', st', σ')) (hok : xoo σ) {lsC : Array Slot} {H : Heap} {locs : List Loc} (hL : xL ad ls lsC) (hlen : ls.length = M.2.2.1) (hP : va_P D xcl (xcw cA ad σ) H) (hS : va_S A s.heap H locs)
    (k1 : ∀ (lsC' : Array Slot) (H' : Heap) (locs' : List Loc), xoo σ' → xL ad ls' lsC' → ls'.length = M.2.2.1 → va_P D xcl (xcw cA ad σ') H' → va_S A s.heap H' locs' → W p l e R s m args below meth c H' locs' cells slots Q (F0 m pc' lsC' (st'.map (xcv ad)))) :
    W p l e R s m args below meth c H locs cells slots Q (F0 m pc lsC (st.map (xcv ad))) := by
  have C' := C
  obtain ⟨hx, hb, hml, hown, hts, hK, hAp, hsub, hSt, hO, hOX, hR, hcs⟩ := C
  obtain ⟨hd, ho, hn⟩ := xft_inv hj hf
  have hD := xD hAp hsub cA σ
  have h1 : L = 1 := of_decide_eq_true ho
  subst h1
  obtain ⟨x, y, r, e0, hz⟩ := xl2_inv hs
  clear hs
  subst e0
  have hs := hz
  clear hz
  obtain ⟨rfl, rfl, rfl, rfl⟩ := xgo_inv hs
  exact lv_lor hx hb hd (k1 _ _ _ hok hL hlen hP hS)
theorem xw_lshl (C : xCx p l e R s m args below meth c cells slots D cA ad X A d O M) {j : Nat} (hj : xMs[j]? = some M)  {L a b cc : Nat} {v : Int32} {l0 : List (Nat × Nat)} {ix : List Nat} {pc : Nat} {ls st : List Value} {σ : xW} {pc' : Nat} {ls' st' : List Value} {σ' : xW} (hf : xft j pc = some (.lshl, L, (a, b, cc, v, l0), ix))
    (hs : xstep O (.lshl, L, (a, b, cc, v, l0), ix) pc ls st σ = some (pc', ls', st', σ')) (hok : xoo σ) {lsC : Array Slot} {H : Heap} {locs : List Loc} (hL : xL ad ls lsC) (hlen : ls.length = M.2.2.1) (hP : va_P D xcl (xcw cA ad σ) H) (hS : va_S A s.heap H locs)
    (k1 : ∀ (lsC' : Array Slot) (H' : Heap) (locs' : List Loc), xoo σ' → xL ad ls' lsC' → ls'.length = M.2.2.1 → va_P D xcl (xcw cA ad σ') H' → va_S A s.heap H' locs' → W p l e R s m args below meth c H' locs' cells slots Q (F0 m pc' lsC' (st'.map (xcv ad)))) :
    W p l e R s m args below meth c H locs cells slots Q (F0 m pc lsC (st.map (xcv ad))) := by
  have C' := C
  obtain ⟨hx, hb, hml, hown, hts, hK, hAp, hsub, hSt, hO, hOX, hR, hcs⟩ := C
  obtain ⟨hd, ho, hn⟩ := xft_inv hj hf
  have hD := xD hAp hsub cA σ
  have h1 : L = 1 := of_decide_eq_true ho
  subst h1
  obtain ⟨x, y, r, e0, hz⟩ := xli_inv hs
  clear hs
  subst e0
  have hs := hz
  clear hz
  obtain ⟨rfl, rfl, rfl, rfl⟩ := xgo_inv hs
  exact lv_lshl hx hb hd rfl (k1 _ _ _ hok hL hlen hP hS)
theorem xw_lshr (C : xCx p l e R s m args below meth c cells slots D cA ad X A d O M) {j : Nat} (hj : xMs[j]? = some M)  {L a b cc : Nat} {v : Int32} {l0 : List (Nat × Nat)} {ix : List Nat} {pc : Nat} {ls st : List Value} {σ : xW} {pc' : Nat} {ls' st' : List Value} {σ' : xW} (hf : xft j pc = some (.lshr, L, (a, b, cc, v, l0), ix))
    (hs : xstep O (.lshr, L, (a, b, cc, v, l0), ix) pc ls st σ = some (pc', ls', st', σ')) (hok : xoo σ) {lsC : Array Slot} {H : Heap} {locs : List Loc} (hL : xL ad ls lsC) (hlen : ls.length = M.2.2.1) (hP : va_P D xcl (xcw cA ad σ) H) (hS : va_S A s.heap H locs)
    (k1 : ∀ (lsC' : Array Slot) (H' : Heap) (locs' : List Loc), xoo σ' → xL ad ls' lsC' → ls'.length = M.2.2.1 → va_P D xcl (xcw cA ad σ') H' → va_S A s.heap H' locs' → W p l e R s m args below meth c H' locs' cells slots Q (F0 m pc' lsC' (st'.map (xcv ad)))) :
    W p l e R s m args below meth c H locs cells slots Q (F0 m pc lsC (st.map (xcv ad))) := by
  have C' := C
  obtain ⟨hx, hb, hml, hown, hts, hK, hAp, hsub, hSt, hO, hOX, hR, hcs⟩ := C
  obtain ⟨hd, ho, hn⟩ := xft_inv hj hf
  have hD := xD hAp hsub cA σ
  have h1 : L = 1 := of_decide_eq_true ho
  subst h1
  obtain ⟨x, y, r, e0, hz⟩ := xli_inv hs
  clear hs
  subst e0
  have hs := hz
  clear hz
  obtain ⟨rfl, rfl, rfl, rfl⟩ := xgo_inv hs
  exact lv_lshr hx hb hd rfl (k1 _ _ _ hok hL hlen hP hS)
theorem xw_lushr (C : xCx p l e R s m args below meth c cells slots D cA ad X A d O M) {j : Nat} (hj : xMs[j]? = some M)  {L a b cc : Nat} {v : Int32} {l0 : List (Nat × Nat)} {ix : List Nat} {pc : Nat} {ls st : List Value} {σ : xW} {pc' : Nat} {ls' st' : List Value} {σ' : xW} (hf : xft j pc = some (.lushr, L, (a, b, cc, v, l0), ix))
    (hs : xstep O (.lushr, L, (a, b, cc, v, l0), ix) pc ls st σ = some (pc', ls', st', σ')) (hok : xoo σ) {lsC : Array Slot} {H : Heap} {locs : List Loc} (hL : xL ad ls lsC) (hlen : ls.length = M.2.2.1) (hP : va_P D xcl (xcw cA ad σ) H) (hS : va_S A s.heap H locs)
    (k1 : ∀ (lsC' : Array Slot) (H' : Heap) (locs' : List Loc), xoo σ' → xL ad ls' lsC' → ls'.length = M.2.2.1 → va_P D xcl (xcw cA ad σ') H' → va_S A s.heap H' locs' → W p l e R s m args below meth c H' locs' cells slots Q (F0 m pc' lsC' (st'.map (xcv ad)))) :
    W p l e R s m args below meth c H locs cells slots Q (F0 m pc lsC (st.map (xcv ad))) := by
  have C' := C
  obtain ⟨hx, hb, hml, hown, hts, hK, hAp, hsub, hSt, hO, hOX, hR, hcs⟩ := C
  obtain ⟨hd, ho, hn⟩ := xft_inv hj hf
  have hD := xD hAp hsub cA σ
  have h1 : L = 1 := of_decide_eq_true ho
  subst h1
  obtain ⟨x, y, r, e0, hz⟩ := xli_inv hs
  clear hs
  subst e0
  have hs := hz
  clear hz
  obtain ⟨rfl, rfl, rfl, rfl⟩ := xgo_inv hs
  exact lv_lushr hx hb hd rfl (k1 _ _ _ hok hL hlen hP hS)
theorem xw_dup (C : xCx p l e R s m args below meth c cells slots D cA ad X A d O M) {j : Nat} (hj : xMs[j]? = some M)  {L a b cc : Nat} {v : Int32} {l0 : List (Nat × Nat)} {ix : List Nat} {pc : Nat} {ls st : List Value} {σ : xW} {pc' : Nat} {ls' st' : List Value} {σ' : xW} (hf : xft j pc = some (.dup, L, (a, b, cc, v, l0), ix))
    (hs : xstep O (.dup, L, (a, b, cc, v, l0), ix) pc ls st σ = some (pc', ls', st', σ')) (hok : xoo σ) {lsC : Array Slot} {H : Heap} {locs : List Loc} (hL : xL ad ls lsC) (hlen : ls.length = M.2.2.1) (hP : va_P D xcl (xcw cA ad σ) H) (hS : va_S A s.heap H locs)
    (k1 : ∀ (lsC' : Array Slot) (H' : Heap) (locs' : List Loc), xoo σ' → xL ad ls' lsC' → ls'.length = M.2.2.1 → va_P D xcl (xcw cA ad σ') H' → va_S A s.heap H' locs' → W p l e R s m args below meth c H' locs' cells slots Q (F0 m pc' lsC' (st'.map (xcv ad)))) :
    W p l e R s m args below meth c H locs cells slots Q (F0 m pc lsC (st.map (xcv ad))) := by
  have C' := C
  obtain ⟨hx, hb, hml, hown, hts, hK, hAp, hsub, hSt, hO, hOX, hR, hcs⟩ := C
  obtain ⟨hd, ho, hn⟩ := xft_inv hj hf
  have hD := xD hAp hsub cA σ
  have h1 : L = 1 := of_decide_eq_true ho
  subst h1
  have hs : (match (generalizing := false) st with
    | .int x :: r => xgo (pc + 1) ls (.int x :: .int x :: r) σ
    | .ref x :: r => xgo (pc + 1) ls (.ref x :: .ref x :: r) σ
    | _ => none) = some ((pc', ls', st', σ')) := hs
  split at hs
  · obtain ⟨rfl, rfl, rfl, rfl⟩ := xgo_inv hs
    exact lv_dup hx hb hd rfl (k1 _ _ _ hok hL hlen hP hS)
  · obtain ⟨rfl, rfl, rfl, rfl⟩ := xgo_inv hs
    exact lv_dup hx hb hd rfl (k1 _ _ _ hok hL hlen hP hS)
  · cases hs
theorem xw_dup2 (C : xCx p l e R s m args below meth c cells slots D cA ad X A d O M) {j : Nat} (hj : xMs[j]? = some M)  {L a b cc : Nat} {v : Int32} {l0 : List (Nat × Nat)} {ix : List Nat} {pc : Nat} {ls st : List Value} {σ : xW} {pc' : Nat} {ls' st' : List Value} {σ' : xW} (hf : xft j pc = some (.dup2, L, (a, b, cc, v, l0), ix))
    (hs : xstep O (.dup2, L, (a, b, cc, v, l0), ix) pc ls st σ = some (pc', ls', st', σ')) (hok : xoo σ) {lsC : Array Slot} {H : Heap} {locs : List Loc} (hL : xL ad ls lsC) (hlen : ls.length = M.2.2.1) (hP : va_P D xcl (xcw cA ad σ) H) (hS : va_S A s.heap H locs)
    (k1 : ∀ (lsC' : Array Slot) (H' : Heap) (locs' : List Loc), xoo σ' → xL ad ls' lsC' → ls'.length = M.2.2.1 → va_P D xcl (xcw cA ad σ') H' → va_S A s.heap H' locs' → W p l e R s m args below meth c H' locs' cells slots Q (F0 m pc' lsC' (st'.map (xcv ad)))) :
    W p l e R s m args below meth c H locs cells slots Q (F0 m pc lsC (st.map (xcv ad))) := by
  have C' := C
  obtain ⟨hx, hb, hml, hown, hts, hK, hAp, hsub, hSt, hO, hOX, hR, hcs⟩ := C
  obtain ⟨hd, ho, hn⟩ := xft_inv hj hf
  have hD := xD hAp hsub cA σ
  have h1 : L = 1 := of_decide_eq_true ho
  subst h1
  obtain ⟨n, z, r, e0, hz⟩ := xai_inv hs
  clear hs
  subst e0
  have hs := hz
  clear hz
  obtain ⟨rfl, rfl, rfl, rfl⟩ := xgo_inv hs
  exact lv_dup2_11 hx hb hd rfl rfl (k1 _ _ _ hok hL hlen hP hS)
theorem xw_pop (C : xCx p l e R s m args below meth c cells slots D cA ad X A d O M) {j : Nat} (hj : xMs[j]? = some M)  {L a b cc : Nat} {v : Int32} {l0 : List (Nat × Nat)} {ix : List Nat} {pc : Nat} {ls st : List Value} {σ : xW} {pc' : Nat} {ls' st' : List Value} {σ' : xW} (hf : xft j pc = some (.pop, L, (a, b, cc, v, l0), ix))
    (hs : xstep O (.pop, L, (a, b, cc, v, l0), ix) pc ls st σ = some (pc', ls', st', σ')) (hok : xoo σ) {lsC : Array Slot} {H : Heap} {locs : List Loc} (hL : xL ad ls lsC) (hlen : ls.length = M.2.2.1) (hP : va_P D xcl (xcw cA ad σ) H) (hS : va_S A s.heap H locs)
    (k1 : ∀ (lsC' : Array Slot) (H' : Heap) (locs' : List Loc), xoo σ' → xL ad ls' lsC' → ls'.length = M.2.2.1 → va_P D xcl (xcw cA ad σ') H' → va_S A s.heap H' locs' → W p l e R s m args below meth c H' locs' cells slots Q (F0 m pc' lsC' (st'.map (xcv ad)))) :
    W p l e R s m args below meth c H locs cells slots Q (F0 m pc lsC (st.map (xcv ad))) := by
  have C' := C
  obtain ⟨hx, hb, hml, hown, hts, hK, hAp, hsub, hSt, hO, hOX, hR, hcs⟩ := C
  obtain ⟨hd, ho, hn⟩ := xft_inv hj hf
  have hD := xD hAp hsub cA σ
  have h1 : L = 1 := of_decide_eq_true ho
  subst h1
  obtain ⟨x, r, e0, hz⟩ := x1_inv hs
  clear hs
  subst e0
  have hs := hz
  clear hz
  obtain ⟨rfl, rfl, rfl, rfl⟩ := xgo_inv hs
  exact lv_pop hx hb hd rfl (k1 _ _ _ hok hL hlen hP hS)
theorem xw_ifCond (C : xCx p l e R s m args below meth c cells slots D cA ad X A d O M) {j : Nat} (hj : xMs[j]? = some M) {cnd : Jvm.ClassFile.Cond} {o : Int} {L a b cc : Nat} {v : Int32} {l0 : List (Nat × Nat)} {ix : List Nat} {pc : Nat} {ls st : List Value} {σ : xW} {pc' : Nat} {ls' st' : List Value} {σ' : xW} (hf : xft j pc = some (.ifCond cnd o, L, (a, b, cc, v, l0), ix))
    (hs : xstep O (.ifCond cnd o, L, (a, b, cc, v, l0), ix) pc ls st σ = some (pc', ls', st', σ')) (hok : xoo σ) {lsC : Array Slot} {H : Heap} {locs : List Loc} (hL : xL ad ls lsC) (hlen : ls.length = M.2.2.1) (hP : va_P D xcl (xcw cA ad σ) H) (hS : va_S A s.heap H locs)
    (k1 : ∀ (lsC' : Array Slot) (H' : Heap) (locs' : List Loc), xoo σ' → xL ad ls' lsC' → ls'.length = M.2.2.1 → va_P D xcl (xcw cA ad σ') H' → va_S A s.heap H' locs' → W p l e R s m args below meth c H' locs' cells slots Q (F0 m pc' lsC' (st'.map (xcv ad)))) :
    W p l e R s m args below meth c H locs cells slots Q (F0 m pc lsC (st.map (xcv ad))) := by
  have C' := C
  obtain ⟨hx, hb, hml, hown, hts, hK, hAp, hsub, hSt, hO, hOX, hR, hcs⟩ := C
  obtain ⟨hd, ho, hn⟩ := xft_inv hj hf
  have hD := xD hAp hsub cA σ
  have ho : (decide (L = 3) && decide ((pc : Int) + o = (a : Int))) = true := ho
  simp only [Bool.and_eq_true, decide_eq_true_eq] at ho
  obtain ⟨rfl, ht⟩ := ho
  cases cnd with
  | eq =>
    obtain ⟨x, r, e0, hz⟩ := x1_inv hs
    clear hs
    subst e0
    have hs := hz
    clear hz
    obtain ⟨hpc, rfl, rfl, rfl⟩ := xgo_inv hs
    exact lv_if_eq hx hb hd ht (fun h => by rw [if_pos h] at hpc; subst hpc; exact k1 _ _ _ hok hL hlen hP hS) (fun h => by rw [if_neg h] at hpc; subst hpc; exact k1 _ _ _ hok hL hlen hP hS)
  | ne =>
    obtain ⟨x, r, e0, hz⟩ := x1_inv hs
    clear hs
    subst e0
    have hs := hz
    clear hz
    obtain ⟨hpc, rfl, rfl, rfl⟩ := xgo_inv hs
    exact lv_if_ne hx hb hd ht (fun h => by rw [if_neg h] at hpc; subst hpc; exact k1 _ _ _ hok hL hlen hP hS) (fun h => by rw [if_pos h] at hpc; subst hpc; exact k1 _ _ _ hok hL hlen hP hS)
  | lt =>
    obtain ⟨x, r, e0, hz⟩ := x1_inv hs
    clear hs
    subst e0
    have hs := hz
    clear hz
    obtain ⟨hpc, rfl, rfl, rfl⟩ := xgo_inv hs
    exact lv_if_lt hx hb hd ht (fun h => by rw [if_pos h] at hpc; subst hpc; exact k1 _ _ _ hok hL hlen hP hS) (fun h => by rw [if_neg h] at hpc; subst hpc; exact k1 _ _ _ hok hL hlen hP hS)
  | ge =>
    obtain ⟨x, r, e0, hz⟩ := x1_inv hs
    clear hs
    subst e0
    have hs := hz
    clear hz
    obtain ⟨hpc, rfl, rfl, rfl⟩ := xgo_inv hs
    exact lv_if_ge hx hb hd ht (fun h => by rw [if_pos h] at hpc; subst hpc; exact k1 _ _ _ hok hL hlen hP hS) (fun h => by rw [if_neg h] at hpc; subst hpc; exact k1 _ _ _ hok hL hlen hP hS)
  | gt =>
    obtain ⟨x, r, e0, hz⟩ := x1_inv hs
    clear hs
    subst e0
    have hs := hz
    clear hz
    obtain ⟨hpc, rfl, rfl, rfl⟩ := xgo_inv hs
    exact lv_if_gt hx hb hd ht (fun h => by rw [if_pos h] at hpc; subst hpc; exact k1 _ _ _ hok hL hlen hP hS) (fun h => by rw [if_neg h] at hpc; subst hpc; exact k1 _ _ _ hok hL hlen hP hS)
  | le =>
    obtain ⟨x, r, e0, hz⟩ := x1_inv hs
    clear hs
    subst e0
    have hs := hz
    clear hz
    obtain ⟨hpc, rfl, rfl, rfl⟩ := xgo_inv hs
    exact lv_if_le hx hb hd ht (fun h => by rw [if_pos h] at hpc; subst hpc; exact k1 _ _ _ hok hL hlen hP hS) (fun h => by rw [if_neg h] at hpc; subst hpc; exact k1 _ _ _ hok hL hlen hP hS)
theorem xw_if_icmp (C : xCx p l e R s m args below meth c cells slots D cA ad X A d O M) {j : Nat} (hj : xMs[j]? = some M) {cnd : Jvm.ClassFile.Cond} {o : Int} {L a b cc : Nat} {v : Int32} {l0 : List (Nat × Nat)} {ix : List Nat} {pc : Nat} {ls st : List Value} {σ : xW} {pc' : Nat} {ls' st' : List Value} {σ' : xW} (hf : xft j pc = some (.if_icmp cnd o, L, (a, b, cc, v, l0), ix))
    (hs : xstep O (.if_icmp cnd o, L, (a, b, cc, v, l0), ix) pc ls st σ = some (pc', ls', st', σ')) (hok : xoo σ) {lsC : Array Slot} {H : Heap} {locs : List Loc} (hL : xL ad ls lsC) (hlen : ls.length = M.2.2.1) (hP : va_P D xcl (xcw cA ad σ) H) (hS : va_S A s.heap H locs)
    (k1 : ∀ (lsC' : Array Slot) (H' : Heap) (locs' : List Loc), xoo σ' → xL ad ls' lsC' → ls'.length = M.2.2.1 → va_P D xcl (xcw cA ad σ') H' → va_S A s.heap H' locs' → W p l e R s m args below meth c H' locs' cells slots Q (F0 m pc' lsC' (st'.map (xcv ad)))) :
    W p l e R s m args below meth c H locs cells slots Q (F0 m pc lsC (st.map (xcv ad))) := by
  have C' := C
  obtain ⟨hx, hb, hml, hown, hts, hK, hAp, hsub, hSt, hO, hOX, hR, hcs⟩ := C
  obtain ⟨hd, ho, hn⟩ := xft_inv hj hf
  have hD := xD hAp hsub cA σ
  have ho : (decide (L = 3) && decide ((pc : Int) + o = (a : Int))) = true := ho
  simp only [Bool.and_eq_true, decide_eq_true_eq] at ho
  obtain ⟨rfl, ht⟩ := ho
  cases cnd with
  | eq =>
    obtain ⟨x, y, r, e0, hz⟩ := x2_inv hs
    clear hs
    subst e0
    have hs := hz
    clear hz
    obtain ⟨hpc, rfl, rfl, rfl⟩ := xgo_inv hs
    exact lv_icmp_eq hx hb hd ht (fun h => by rw [if_pos h] at hpc; subst hpc; exact k1 _ _ _ hok hL hlen hP hS) (fun h => by rw [if_neg h] at hpc; subst hpc; exact k1 _ _ _ hok hL hlen hP hS)
  | ne =>
    obtain ⟨x, y, r, e0, hz⟩ := x2_inv hs
    clear hs
    subst e0
    have hs := hz
    clear hz
    obtain ⟨hpc, rfl, rfl, rfl⟩ := xgo_inv hs
    exact lv_icmp_ne hx hb hd ht (fun h => by rw [if_neg h] at hpc; subst hpc; exact k1 _ _ _ hok hL hlen hP hS) (fun h => by rw [if_pos h] at hpc; subst hpc; exact k1 _ _ _ hok hL hlen hP hS)
  | lt =>
    obtain ⟨x, y, r, e0, hz⟩ := x2_inv hs
    clear hs
    subst e0
    have hs := hz
    clear hz
    obtain ⟨hpc, rfl, rfl, rfl⟩ := xgo_inv hs
    exact lv_icmp_lt hx hb hd ht (fun h => by rw [if_pos h] at hpc; subst hpc; exact k1 _ _ _ hok hL hlen hP hS) (fun h => by rw [if_neg h] at hpc; subst hpc; exact k1 _ _ _ hok hL hlen hP hS)
  | ge =>
    obtain ⟨x, y, r, e0, hz⟩ := x2_inv hs
    clear hs
    subst e0
    have hs := hz
    clear hz
    obtain ⟨hpc, rfl, rfl, rfl⟩ := xgo_inv hs
    exact lv_icmp_ge hx hb hd ht (fun h => by rw [if_pos h] at hpc; subst hpc; exact k1 _ _ _ hok hL hlen hP hS) (fun h => by rw [if_neg h] at hpc; subst hpc; exact k1 _ _ _ hok hL hlen hP hS)
  | gt =>
    obtain ⟨x, y, r, e0, hz⟩ := x2_inv hs
    clear hs
    subst e0
    have hs := hz
    clear hz
    obtain ⟨hpc, rfl, rfl, rfl⟩ := xgo_inv hs
    exact lv_icmp_gt hx hb hd ht (fun h => by rw [if_pos h] at hpc; subst hpc; exact k1 _ _ _ hok hL hlen hP hS) (fun h => by rw [if_neg h] at hpc; subst hpc; exact k1 _ _ _ hok hL hlen hP hS)
  | le =>
    obtain ⟨x, y, r, e0, hz⟩ := x2_inv hs
    clear hs
    subst e0
    have hs := hz
    clear hz
    obtain ⟨hpc, rfl, rfl, rfl⟩ := xgo_inv hs
    exact lv_icmp_le hx hb hd ht (fun h => by rw [if_pos h] at hpc; subst hpc; exact k1 _ _ _ hok hL hlen hP hS) (fun h => by rw [if_neg h] at hpc; subst hpc; exact k1 _ _ _ hok hL hlen hP hS)
theorem xw_goto (C : xCx p l e R s m args below meth c cells slots D cA ad X A d O M) {j : Nat} (hj : xMs[j]? = some M) {o : Int} {L a b cc : Nat} {v : Int32} {l0 : List (Nat × Nat)} {ix : List Nat} {pc : Nat} {ls st : List Value} {σ : xW} {pc' : Nat} {ls' st' : List Value} {σ' : xW} (hf : xft j pc = some (.goto o, L, (a, b, cc, v, l0), ix))
    (hs : xstep O (.goto o, L, (a, b, cc, v, l0), ix) pc ls st σ = some (pc', ls', st', σ')) (hok : xoo σ) {lsC : Array Slot} {H : Heap} {locs : List Loc} (hL : xL ad ls lsC) (hlen : ls.length = M.2.2.1) (hP : va_P D xcl (xcw cA ad σ) H) (hS : va_S A s.heap H locs)
    (k1 : ∀ (lsC' : Array Slot) (H' : Heap) (locs' : List Loc), xoo σ' → xL ad ls' lsC' → ls'.length = M.2.2.1 → va_P D xcl (xcw cA ad σ') H' → va_S A s.heap H' locs' → W p l e R s m args below meth c H' locs' cells slots Q (F0 m pc' lsC' (st'.map (xcv ad)))) :
    W p l e R s m args below meth c H locs cells slots Q (F0 m pc lsC (st.map (xcv ad))) := by
  have C' := C
  obtain ⟨hx, hb, hml, hown, hts, hK, hAp, hsub, hSt, hO, hOX, hR, hcs⟩ := C
  obtain ⟨hd, ho, hn⟩ := xft_inv hj hf
  have hD := xD hAp hsub cA σ
  have ho : (decide (L = 3) && decide ((pc : Int) + o = (a : Int))) = true := ho
  simp only [Bool.and_eq_true, decide_eq_true_eq] at ho
  obtain ⟨rfl, ht⟩ := ho
  obtain ⟨rfl, rfl, rfl, rfl⟩ := xgo_inv hs
  exact lv_goto hx hb hd ht (k1 _ _ _ hok hL hlen hP hS)
theorem xw_tableswitch (C : xCx p l e R s m args below meth c cells slots D cA ad X A d O M) {j : Nat} (hj : xMs[j]? = some M) {df : Int} {lo : Int} {hi : Int} {os : Array Int} {L a b cc : Nat} {v : Int32} {l0 : List (Nat × Nat)} {ix : List Nat} {pc : Nat} {ls st : List Value} {σ : xW} {pc' : Nat} {ls' st' : List Value} {σ' : xW} (hf : xft j pc = some (.tableswitch df lo hi os, L, (a, b, cc, v, l0), ix))
    (hs : xstep O (.tableswitch df lo hi os, L, (a, b, cc, v, l0), ix) pc ls st σ = some (pc', ls', st', σ')) (hok : xoo σ) {lsC : Array Slot} {H : Heap} {locs : List Loc} (hL : xL ad ls lsC) (hlen : ls.length = M.2.2.1) (hP : va_P D xcl (xcw cA ad σ) H) (hS : va_S A s.heap H locs)
    (k1 : ∀ (lsC' : Array Slot) (H' : Heap) (locs' : List Loc), xoo σ' → xL ad ls' lsC' → ls'.length = M.2.2.1 → va_P D xcl (xcw cA ad σ') H' → va_S A s.heap H' locs' → W p l e R s m args below meth c H' locs' cells slots Q (F0 m pc' lsC' (st'.map (xcv ad)))) :
    W p l e R s m args below meth c H locs cells slots Q (F0 m pc lsC (st.map (xcv ad))) := by
  have C' := C
  obtain ⟨hx, hb, hml, hown, hts, hK, hAp, hsub, hSt, hO, hOX, hR, hcs⟩ := C
  obtain ⟨hd, ho, hn⟩ := xft_inv hj hf
  have hD := xD hAp hsub cA σ
  obtain ⟨x, r, e0, hz⟩ := x1_inv hs
  clear hs
  subst e0
  have hs := hz
  clear hz
  obtain ⟨hpc, rfl, rfl, rfl⟩ := xgo_inv hs
  have ho : (decide ((pc : Int) + df = (b : Int)) && decide (l0.map (fun q => (q.1 : Int)) = (List.range os.size).map (fun (i : Nat) => lo + (i : Int))) && decide (l0.map (fun q => (q.2 : Int)) = os.toList.map (fun o => (pc : Int) + o)) && decide (hi + 1 - lo = (os.size : Int)) && decide (0 ≤ lo ∧ hi < 1000)) = true := ho
  simp only [Bool.and_eq_true, decide_eq_true_eq] at ho
  obtain ⟨⟨⟨⟨h1, h2⟩, h3⟩, h4⟩, h5, h6⟩ := ho
  have hll : l0.length = os.size := by have := congrArg List.length h2; simpa using this
  have hkey : ∀ (i : Nat) (q : Nat × Nat), l0[i]? = some q → (q.1 : Int) = lo + (i : Int) ∧ i < os.size ∧ ∃ o, os[i]? = some o ∧ (pc : Int) + o = (q.2 : Int) := by
    intro i q hq
    have hi : i < os.size := by rw [← hll]; exact (List.getElem?_eq_some_iff.mp hq).1
    have g1 := congrArg (fun z => z[i]?) h2
    simp only [List.getElem?_map, hq, Option.map_some, List.getElem?_range hi] at g1
    have g2 := congrArg (fun z => z[i]?) h3
    simp only [List.getElem?_map, hq, Option.map_some, Array.getElem?_toList] at g2
    refine ⟨Option.some.inj g1, hi, os[i], Array.getElem?_eq_getElem hi, ?_⟩
    rw [Array.getElem?_eq_getElem hi] at g2
    exact (Option.some.inj g2).symm
  rcases xsw_cases l0 b x with ⟨i, q, g1, g2, g3⟩ | ⟨g1, g2⟩
  · obtain ⟨g4, g5, o, g6, g7⟩ := hkey i q g1
    have g8 : x.toInt = (q.1 : Int) := toInt_of g2 (by omega)
    rw [g3] at hpc
    subst hpc
    exact lv_tableIn hx hb hd (by omega) (by omega) (by rw [g8, g4, show lo + (i : Int) - lo = (i : Int) by omega, Int.toNat_natCast]; exact g6) g7 (k1 _ _ _ hok hL hlen hP hS)
  · rw [g1] at hpc
    subst hpc
    refine lv_tableOut hx hb hd ?_ h1 (k1 _ _ _ hok hL hlen hP hS)
    by_cases hin : x.toInt < lo ∨ hi < x.toInt
    · exact hin
    · exfalso
      have hlt : (x.toInt - lo).toNat < l0.length := by omega
      obtain ⟨g4, -⟩ := hkey _ _ (List.getElem?_eq_getElem hlt)
      refine g2 _ (List.getElem_mem hlt) (Int32.toInt_inj.mp ?_)
      rw [toInt_of (c := (l0[(x.toInt - lo).toNat]).1) rfl (by omega), g4]
      omega
theorem xw_lookupswitch (C : xCx p l e R s m args below meth c cells slots D cA ad X A d O M) {j : Nat} (hj : xMs[j]? = some M) {df : Int} {ps : Array (Int × Int)} {L a b cc : Nat} {v : Int32} {l0 : List (Nat × Nat)} {ix : List Nat} {pc : Nat} {ls st : List Value} {σ : xW} {pc' : Nat} {ls' st' : List Value} {σ' : xW} (hf : xft j pc = some (.lookupswitch df ps, L, (a, b, cc, v, l0), ix))
    (hs : xstep O (.lookupswitch df ps, L, (a, b, cc, v, l0), ix) pc ls st σ = some (pc', ls', st', σ')) (hok : xoo σ) {lsC : Array Slot} {H : Heap} {locs : List Loc} (hL : xL ad ls lsC) (hlen : ls.length = M.2.2.1) (hP : va_P D xcl (xcw cA ad σ) H) (hS : va_S A s.heap H locs)
    (k1 : ∀ (lsC' : Array Slot) (H' : Heap) (locs' : List Loc), xoo σ' → xL ad ls' lsC' → ls'.length = M.2.2.1 → va_P D xcl (xcw cA ad σ') H' → va_S A s.heap H' locs' → W p l e R s m args below meth c H' locs' cells slots Q (F0 m pc' lsC' (st'.map (xcv ad)))) :
    W p l e R s m args below meth c H locs cells slots Q (F0 m pc lsC (st.map (xcv ad))) := by
  have C' := C
  obtain ⟨hx, hb, hml, hown, hts, hK, hAp, hsub, hSt, hO, hOX, hR, hcs⟩ := C
  obtain ⟨hd, ho, hn⟩ := xft_inv hj hf
  have hD := xD hAp hsub cA σ
  obtain ⟨x, r, e0, hz⟩ := x1_inv hs
  clear hs
  subst e0
  have hs := hz
  clear hz
  obtain ⟨hpc, rfl, rfl, rfl⟩ := xgo_inv hs
  have ho : (decide ((pc : Int) + df = (b : Int)) && decide (l0.map (fun q => ((q.1 : Int), (q.2 : Int))) = ps.toList.map (fun q => (q.1, (pc : Int) + q.2))) && (ps.toList.zip (ps.toList.drop 1)).all (fun (a, next) => a.1 < next.1) && l0.all (fun q => decide (q.1 < 1000))) = true := ho
  simp only [Bool.and_eq_true, decide_eq_true_eq] at ho
  obtain ⟨⟨⟨h1, h2⟩, h3⟩, h4⟩ := ho
  have h5 := xlsw h1 x l0 ps.toList h2 (fun q hq => of_decide_eq_true (List.all_eq_true.mp h4 q hq))
  subst hpc
  exact lv_lookup hx hb hd h3 rfl h5 (k1 _ _ _ hok hL hlen hP hS)
theorem xw_getfield (C : xCx p l e R s m args below meth c cells slots D cA ad X A d O M) {j : Nat} (hj : xMs[j]? = some M) {k : Nat} {L a b cc : Nat} {v : Int32} {l0 : List (Nat × Nat)} {ix : List Nat} {pc : Nat} {ls st : List Value} {σ : xW} {pc' : Nat} {ls' st' : List Value} {σ' : xW} (hf : xft j pc = some (.getfield k, L, (a, b, cc, v, l0), ix))
    (hs : xstep O (.getfield k, L, (a, b, cc, v, l0), ix) pc ls st σ = some (pc', ls', st', σ')) (hok : xoo σ) {lsC : Array Slot} {H : Heap} {locs : List Loc} (hL : xL ad ls lsC) (hlen : ls.length = M.2.2.1) (hP : va_P D xcl (xcw cA ad σ) H) (hS : va_S A s.heap H locs)
    (k1 : ∀ (lsC' : Array Slot) (H' : Heap) (locs' : List Loc), xoo σ' → xL ad ls' lsC' → ls'.length = M.2.2.1 → va_P D xcl (xcw cA ad σ') H' → va_S A s.heap H' locs' → W p l e R s m args below meth c H' locs' cells slots Q (F0 m pc' lsC' (st'.map (xcv ad)))) :
    W p l e R s m args below meth c H locs cells slots Q (F0 m pc lsC (st.map (xcv ad))) := by
  have C' := C
  obtain ⟨hx, hb, hml, hown, hts, hK, hAp, hsub, hSt, hO, hOX, hR, hcs⟩ := C
  obtain ⟨hd, ho, hn⟩ := xft_inv hj hf
  have hD := xD hAp hsub cA σ
  have ho : (decide (L = 3) && (match xcl[a]? with
    | some q => decide (b < q.2.2) && decide ((q.2.1 b).1 = q.1)
    | none => false)) = true := ho
  have hn2 : ∀ w ∈ (match xcl[a]? with
    | some q => [if cc < 10 then Cond.fieldLink M.1.cls k q.1 (q.2.1 b).2.1 (q.2.1 b).2.2.1 else Cond.fieldLinkNest M.1.cls k q.1 (q.2.1 b).2.1 (q.2.1 b).2.2.1 xHo]
    | none => []), w ∈ xT := hn
  cases hq : xcl[a]? with
  | none => rw [hq] at ho; exact absurd ho (by simp)
  | some q =>
    rw [hq] at ho hn2
    simp only [Bool.and_eq_true, decide_eq_true_eq] at ho
    obtain ⟨rfl, h1, h2⟩ := ho
    have hn3 := hn2 _ List.mem_cons_self
    obtain ⟨n, r, e0, hz⟩ := xa1_inv hs
    clear hs
    subst e0
    have hs := hz
    clear hz
    obtain ⟨w, hw, hs⟩ := xmap_inv hs
    obtain ⟨rfl, rfl, rfl, rfl⟩ := xpr hs
    obtain ⟨fs, hg, hfs⟩ := xgf_inv hw
    obtain ⟨k0, hk0, -⟩ := xcw_at (cA := cA) (ad := ad) hok hg
    have hfs' : (fs.map (xcv ad))[b]? = some (xcv ad w) := by rw [List.getElem?_map, hfs]; rfl
    by_cases hcc : cc < 10
    · rw [if_pos hcc] at hn3
      exact va_get hx hb hts (xcl_w hq) hown hK hP k0 hk0 hq b h1 (hts _ hn3) (fun x h => by rw [h2] at h; exact h) hfs' hd (k1 _ _ _ hok hL hlen hP hS)
    · rw [if_neg hcc] at hn3
      exact va_getN hx hb hts (xcl_w hq) hown hK hP k0 hk0 hq b h1 (hts _ hn3) (fun x h => by rw [h2] at h; exact h) hfs' hd (k1 _ _ _ hok hL hlen hP hS)
theorem xw_putfield (C : xCx p l e R s m args below meth c cells slots D cA ad X A d O M) {j : Nat} (hj : xMs[j]? = some M) {k : Nat} {L a b cc : Nat} {v : Int32} {l0 : List (Nat × Nat)} {ix : List Nat} {pc : Nat} {ls st : List Value} {σ : xW} {pc' : Nat} {ls' st' : List Value} {σ' : xW} (hf : xft j pc = some (.putfield k, L, (a, b, cc, v, l0), ix))
    (hs : xstep O (.putfield k, L, (a, b, cc, v, l0), ix) pc ls st σ = some (pc', ls', st', σ')) (hok : xoo σ) {lsC : Array Slot} {H : Heap} {locs : List Loc} (hL : xL ad ls lsC) (hlen : ls.length = M.2.2.1) (hP : va_P D xcl (xcw cA ad σ) H) (hS : va_S A s.heap H locs)
    (k1 : ∀ (lsC' : Array Slot) (H' : Heap) (locs' : List Loc), xoo σ' → xL ad ls' lsC' → ls'.length = M.2.2.1 → va_P D xcl (xcw cA ad σ') H' → va_S A s.heap H' locs' → W p l e R s m args below meth c H' locs' cells slots Q (F0 m pc' lsC' (st'.map (xcv ad)))) :
    W p l e R s m args below meth c H locs cells slots Q (F0 m pc lsC (st.map (xcv ad))) := by
  have C' := C
  obtain ⟨hx, hb, hml, hown, hts, hK, hAp, hsub, hSt, hO, hOX, hR, hcs⟩ := C
  obtain ⟨hd, ho, hn⟩ := xft_inv hj hf
  have hD := xD hAp hsub cA σ
  have ho : (decide (L = 3) && (match xcl[a]? with
    | some q => decide (b < q.2.2) && decide ((q.2.1 b).1 = q.1) && decide ((q.2.1 b).2.2.2 = false) && decide (cc % 10 = 0 ∧ (q.2.1 b).2.2.1 = "I" ∨ cc % 10 = 1 ∧ (q.2.1 b).2.2.1 = "Z" ∨ 2 ≤ cc % 10)
    | none => false)) = true := ho
  have hn2 : ∀ w ∈ (match xcl[a]? with
    | some q => [if cc < 10 then Cond.fieldLink M.1.cls k q.1 (q.2.1 b).2.1 (q.2.1 b).2.2.1 else Cond.fieldLinkNest M.1.cls k q.1 (q.2.1 b).2.1 (q.2.1 b).2.2.1 xHo]
    | none => []), w ∈ xT := hn
  cases hq : xcl[a]? with
  | none => rw [hq] at ho; exact absurd ho (by simp)
  | some q =>
    rw [hq] at ho hn2
    simp only [Bool.and_eq_true, decide_eq_true_eq] at ho
    obtain ⟨rfl, ⟨⟨h1, h2⟩, h3⟩, h4⟩ := ho
    have hn3 := hn2 _ List.mem_cons_self
    obtain ⟨n, x, r, e0, hz⟩ := xia_inv hs
    clear hs
    subst e0
    have hs := hz
    clear hz
    obtain ⟨⟨hz, hz2⟩, hs⟩ := ite_inv hs
    obtain ⟨w, hw, hs⟩ := xmap_inv hs
    obtain ⟨rfl, rfl, rfl, rfl⟩ := xpr hs
    obtain ⟨fs, hg, hlt, rfl⟩ := xpf_inv hw
    obtain ⟨k0, hk0, hset⟩ := xcw_at (cA := cA) (ad := ad) hok hg
    obtain ⟨⟨ty0, hty⟩, hnm⟩ := xcl_f q (List.mem_of_getElem? hq)
    have hty2 : ∃ ty : FieldType, parseFieldDescriptor (q.2.1 b).2.2.1 = some ty ∧ narrow ty (.int x) = .int x ∧ fits ty (.int x) = true := by
      unfold xretz at hz
      simp only [Bool.or_eq_true, decide_eq_true_eq] at hz
      rcases h4 with ⟨-, h5⟩ | ⟨h6, h5⟩ | h5
      · rw [h5]; exact ⟨.int, by decide +kernel, rfl, rfl⟩
      · rw [h5]
        rcases hz with (hz | rfl) | rfl
        · omega
        · exact ⟨.boolean, by decide +kernel, rfl, rfl⟩
        · exact ⟨.boolean, by decide +kernel, rfl, rfl⟩
      · omega
    obtain ⟨ty, t1, t2, t3⟩ := hty2
    have hlt' : b < (fs.map (xcv ad)).length := by rw [List.length_map]; exact hlt
    have hfin : ∀ (H1 : Heap) (locs1 : List Loc), va_P D xcl ((xcw cA ad σ).set k0 (ad n, .inr (a, (fs.map (xcv ad)).set b (.int x)))) H1 → va_D A ((xcw cA ad σ).set k0 (ad n, .inr (a, (fs.map (xcv ad)).set b (.int x)))) → va_S A s.heap H1 locs1 → W p l e R s m args below meth c H1 locs1 cells slots Q (F0 m (pc + 3) lsC (r.map (xcv ad))) := by
      intro H1 locs1 hP1 _ hS1
      refine k1 _ _ _ (xoo_xs hok _ _) hL hlen ?_ hS1
      rw [hset]
      show va_P D xcl ((xcw cA ad σ).set k0 (ad n, .inr (a, (fs.set b (.int x)).map (xcv ad)))) H1
      rw [List.map_set]
      exact hP1
    by_cases hcc : cc < 10
    · rw [if_pos hcc] at hn3
      exact va_put hx hb hts (xcl_w hq) ty0 hty hnm hown hK hP hD hS k0 hk0 hq b h1 (hts _ hn3) (fun x h => by rw [h2] at h; exact h) h3 t1 t2 t3 hlt' hd hfin
    · rw [if_neg hcc] at hn3
      exact va_putN hx hb hts (xcl_w hq) ty0 hty hnm hown hK hP hD hS k0 hk0 hq b h1 (hts _ hn3) (fun x h => by rw [h2] at h; exact h) h3 t1 t2 t3 hlt' hd hfin
theorem xw_getstatic (C : xCx p l e R s m args below meth c cells slots D cA ad X A d O M) {j : Nat} (hj : xMs[j]? = some M) {k : Nat} {L a b cc : Nat} {v : Int32} {l0 : List (Nat × Nat)} {ix : List Nat} {pc : Nat} {ls st : List Value} {σ : xW} {pc' : Nat} {ls' st' : List Value} {σ' : xW} (hf : xft j pc = some (.getstatic k, L, (a, b, cc, v, l0), ix))
    (hs : xstep O (.getstatic k, L, (a, b, cc, v, l0), ix) pc ls st σ = some (pc', ls', st', σ')) (hok : xoo σ) {lsC : Array Slot} {H : Heap} {locs : List Loc} (hL : xL ad ls lsC) (hlen : ls.length = M.2.2.1) (hP : va_P D xcl (xcw cA ad σ) H) (hS : va_S A s.heap H locs)
    (k1 : ∀ (lsC' : Array Slot) (H' : Heap) (locs' : List Loc), xoo σ' → xL ad ls' lsC' → ls'.length = M.2.2.1 → va_P D xcl (xcw cA ad σ') H' → va_S A s.heap H' locs' → W p l e R s m args below meth c H' locs' cells slots Q (F0 m pc' lsC' (st'.map (xcv ad)))) :
    W p l e R s m args below meth c H locs cells slots Q (F0 m pc lsC (st.map (xcv ad))) := by
  have C' := C
  obtain ⟨hx, hb, hml, hown, hts, hK, hAp, hsub, hSt, hO, hOX, hR, hcs⟩ := C
  obtain ⟨hd, ho, hn⟩ := xft_inv hj hf
  have hD := xD hAp hsub cA σ
  have ho : (decide (L = 3) && decide (a < 2)) = true := ho
  simp only [Bool.and_eq_true, decide_eq_true_eq] at ho
  obtain ⟨rfl, ha⟩ := ho
  obtain ⟨rfl, rfl, rfl, rfl⟩ := xgo_inv hs
  by_cases h0 : a = 0
  · subst h0
    have h2 : Cond.fieldLink M.1.cls k "RopeShore" "ABOVE" "[I" ∈ xT := hn _ List.mem_cons_self
    exact va_gets hx hb hSt.2.2.2.1 hS hown (hts _ h2) (fun x h => h) hd (k1 _ _ _ hok hL hlen hP hS)
  · have h1 : a = 1 := by omega
    subst h1
    have h2 : Cond.fieldLink M.1.cls k "RopeShore$Text" "NAMES" "[C" ∈ xT := hn _ List.mem_cons_self
    exact va_gets hx hb hSt.2.2.2.2 hS hown (hts _ h2) (fun x h => h) hd (k1 _ _ _ hok hL hlen hP hS)
theorem xw_iaload (C : xCx p l e R s m args below meth c cells slots D cA ad X A d O M) {j : Nat} (hj : xMs[j]? = some M)  {L a b cc : Nat} {v : Int32} {l0 : List (Nat × Nat)} {ix : List Nat} {pc : Nat} {ls st : List Value} {σ : xW} {pc' : Nat} {ls' st' : List Value} {σ' : xW} (hf : xft j pc = some (.iaload, L, (a, b, cc, v, l0), ix))
    (hs : xstep O (.iaload, L, (a, b, cc, v, l0), ix) pc ls st σ = some (pc', ls', st', σ')) (hok : xoo σ) {lsC : Array Slot} {H : Heap} {locs : List Loc} (hL : xL ad ls lsC) (hlen : ls.length = M.2.2.1) (hP : va_P D xcl (xcw cA ad σ) H) (hS : va_S A s.heap H locs)
    (k1 : ∀ (lsC' : Array Slot) (H' : Heap) (locs' : List Loc), xoo σ' → xL ad ls' lsC' → ls'.length = M.2.2.1 → va_P D xcl (xcw cA ad σ') H' → va_S A s.heap H' locs' → W p l e R s m args below meth c H' locs' cells slots Q (F0 m pc' lsC' (st'.map (xcv ad)))) :
    W p l e R s m args below meth c H locs cells slots Q (F0 m pc lsC (st.map (xcv ad))) := by
  have C' := C
  obtain ⟨hx, hb, hml, hown, hts, hK, hAp, hsub, hSt, hO, hOX, hR, hcs⟩ := C
  obtain ⟨hd, ho, hn⟩ := xft_inv hj hf
  have hD := xD hAp hsub cA σ
  have h1 : L = 1 := of_decide_eq_true ho
  subst h1
  obtain ⟨n, z, r, e0, hz⟩ := xai_inv hs
  clear hs
  subst e0
  have hs := hz
  clear hz
  obtain ⟨w, hw, hs⟩ := xmap_inv hs
  obtain ⟨rfl, rfl, rfl, rfl⟩ := xpr hs
  rw [hOX] at hw
  rcases xrd_inv hw with ⟨t, N, f, hg, ht, hin, rfl⟩ | ⟨hg, t, N, f, hc, ht, hin, rfl⟩
  · obtain ⟨k0, hk0, -⟩ := xcw_at (cA := cA) (ad := ad) hok hg
    have ht : t = 0 := List.mem_singleton.mp ht
    subst ht
    exact va_iald hx hb hK hP k0 0 hk0 rfl hin hd (k1 _ _ _ hok hL hlen hP hS)
  · have ht : t = 0 := List.mem_singleton.mp ht
    subst ht
    rcases xct_lt hc with ⟨rfl, h⟩ | ⟨rfl, h⟩ | ⟨rfl, h⟩
    · cases h
      exact va_ti hx hb hSt.1 hS hin rfl hd (k1 _ _ _ hok hL hlen hP hS)
    · cases h
    · cases h
      exact va_ti hx hb hSt.2.2.1 hS hin rfl hd (k1 _ _ _ hok hL hlen hP hS)
theorem xw_baload (C : xCx p l e R s m args below meth c cells slots D cA ad X A d O M) {j : Nat} (hj : xMs[j]? = some M)  {L a b cc : Nat} {v : Int32} {l0 : List (Nat × Nat)} {ix : List Nat} {pc : Nat} {ls st : List Value} {σ : xW} {pc' : Nat} {ls' st' : List Value} {σ' : xW} (hf : xft j pc = some (.baload, L, (a, b, cc, v, l0), ix))
    (hs : xstep O (.baload, L, (a, b, cc, v, l0), ix) pc ls st σ = some (pc', ls', st', σ')) (hok : xoo σ) {lsC : Array Slot} {H : Heap} {locs : List Loc} (hL : xL ad ls lsC) (hlen : ls.length = M.2.2.1) (hP : va_P D xcl (xcw cA ad σ) H) (hS : va_S A s.heap H locs)
    (k1 : ∀ (lsC' : Array Slot) (H' : Heap) (locs' : List Loc), xoo σ' → xL ad ls' lsC' → ls'.length = M.2.2.1 → va_P D xcl (xcw cA ad σ') H' → va_S A s.heap H' locs' → W p l e R s m args below meth c H' locs' cells slots Q (F0 m pc' lsC' (st'.map (xcv ad)))) :
    W p l e R s m args below meth c H locs cells slots Q (F0 m pc lsC (st.map (xcv ad))) := by
  have C' := C
  obtain ⟨hx, hb, hml, hown, hts, hK, hAp, hsub, hSt, hO, hOX, hR, hcs⟩ := C
  obtain ⟨hd, ho, hn⟩ := xft_inv hj hf
  have hD := xD hAp hsub cA σ
  have h1 : L = 1 := of_decide_eq_true ho
  subst h1
  obtain ⟨n, z, r, e0, hz⟩ := xai_inv hs
  clear hs
  subst e0
  have hs := hz
  clear hz
  obtain ⟨w, hw, hs⟩ := xmap_inv hs
  obtain ⟨rfl, rfl, rfl, rfl⟩ := xpr hs
  rcases xrd_inv hw with ⟨t, N, f, hg, ht, hin, rfl⟩ | ⟨hg, t, N, f, hc, ht, hin, rfl⟩
  · obtain ⟨k0, hk0, -⟩ := xcw_at (cA := cA) (ad := ad) hok hg
    rcases List.mem_cons.mp ht with rfl | ht
    · exact va_bald hx hb hK hP k0 1 hk0 rfl hin hd (k1 _ _ _ hok hL hlen hP hS)
    · have ht : t = 2 := List.mem_singleton.mp ht
      subst ht
      exact va_zald hx hb hK hP k0 2 hk0 rfl hin hd (k1 _ _ _ hok hL hlen hP hS)
  · rcases xct_lt hc with ⟨rfl, h⟩ | ⟨rfl, h⟩ | ⟨rfl, h⟩ <;> (cases h; exact absurd ht (by decide))
theorem xw_caload (C : xCx p l e R s m args below meth c cells slots D cA ad X A d O M) {j : Nat} (hj : xMs[j]? = some M)  {L a b cc : Nat} {v : Int32} {l0 : List (Nat × Nat)} {ix : List Nat} {pc : Nat} {ls st : List Value} {σ : xW} {pc' : Nat} {ls' st' : List Value} {σ' : xW} (hf : xft j pc = some (.caload, L, (a, b, cc, v, l0), ix))
    (hs : xstep O (.caload, L, (a, b, cc, v, l0), ix) pc ls st σ = some (pc', ls', st', σ')) (hok : xoo σ) {lsC : Array Slot} {H : Heap} {locs : List Loc} (hL : xL ad ls lsC) (hlen : ls.length = M.2.2.1) (hP : va_P D xcl (xcw cA ad σ) H) (hS : va_S A s.heap H locs)
    (k1 : ∀ (lsC' : Array Slot) (H' : Heap) (locs' : List Loc), xoo σ' → xL ad ls' lsC' → ls'.length = M.2.2.1 → va_P D xcl (xcw cA ad σ') H' → va_S A s.heap H' locs' → W p l e R s m args below meth c H' locs' cells slots Q (F0 m pc' lsC' (st'.map (xcv ad)))) :
    W p l e R s m args below meth c H locs cells slots Q (F0 m pc lsC (st.map (xcv ad))) := by
  have C' := C
  obtain ⟨hx, hb, hml, hown, hts, hK, hAp, hsub, hSt, hO, hOX, hR, hcs⟩ := C
  obtain ⟨hd, ho, hn⟩ := xft_inv hj hf
  have hD := xD hAp hsub cA σ
  have h1 : L = 1 := of_decide_eq_true ho
  subst h1
  obtain ⟨n, z, r, e0, hz⟩ := xai_inv hs
  clear hs
  subst e0
  have hs := hz
  clear hz
  obtain ⟨hn1, hs⟩ := ite_inv hs
  obtain ⟨w, hw, hs⟩ := xmap_inv hs
  obtain ⟨rfl, rfl, rfl, rfl⟩ := xpr hs
  subst hn1
  rcases xrd_inv hw with ⟨t, N, f, hg, ht, hin, rfl⟩ | ⟨hg, t, N, f, hc, ht, hin, rfl⟩
  · have h3 : 1001 % 64 < (σ (1001 / 64)).length := (List.getElem?_eq_some_iff.mp hg).1
    rw [hok] at h3
    exact absurd h3 (by decide)
  · rcases xct_lt hc with ⟨h, -⟩ | ⟨-, h⟩ | ⟨h, -⟩
    · cases h
    · cases h
      exact va_tc hx hb hSt.2.1 hS hin rfl hd (k1 _ _ _ hok hL hlen hP hS)
    · cases h
theorem xw_iastore (C : xCx p l e R s m args below meth c cells slots D cA ad X A d O M) {j : Nat} (hj : xMs[j]? = some M)  {L a b cc : Nat} {v : Int32} {l0 : List (Nat × Nat)} {ix : List Nat} {pc : Nat} {ls st : List Value} {σ : xW} {pc' : Nat} {ls' st' : List Value} {σ' : xW} (hf : xft j pc = some (.iastore, L, (a, b, cc, v, l0), ix))
    (hs : xstep O (.iastore, L, (a, b, cc, v, l0), ix) pc ls st σ = some (pc', ls', st', σ')) (hok : xoo σ) {lsC : Array Slot} {H : Heap} {locs : List Loc} (hL : xL ad ls lsC) (hlen : ls.length = M.2.2.1) (hP : va_P D xcl (xcw cA ad σ) H) (hS : va_S A s.heap H locs)
    (k1 : ∀ (lsC' : Array Slot) (H' : Heap) (locs' : List Loc), xoo σ' → xL ad ls' lsC' → ls'.length = M.2.2.1 → va_P D xcl (xcw cA ad σ') H' → va_S A s.heap H' locs' → W p l e R s m args below meth c H' locs' cells slots Q (F0 m pc' lsC' (st'.map (xcv ad)))) :
    W p l e R s m args below meth c H locs cells slots Q (F0 m pc lsC (st.map (xcv ad))) := by
  have C' := C
  obtain ⟨hx, hb, hml, hown, hts, hK, hAp, hsub, hSt, hO, hOX, hR, hcs⟩ := C
  obtain ⟨hd, ho, hn⟩ := xft_inv hj hf
  have hD := xD hAp hsub cA σ
  have h1 : L = 1 := of_decide_eq_true ho
  subst h1
  obtain ⟨n, z, x, r, e0, hz⟩ := xaii_inv hs
  clear hs
  subst e0
  have hs := hz
  clear hz
  obtain ⟨w, hw, hs⟩ := xmap_inv hs
  obtain ⟨rfl, rfl, rfl, rfl⟩ := xpr hs
  obtain ⟨t, N, f, hg, ht, hin, rfl⟩ := xwr_inv hw
  obtain ⟨k0, hk0, hset⟩ := xcw_at (cA := cA) (ad := ad) hok hg
  have ht : t = 0 := List.mem_singleton.mp ht
  subst ht
  exact va_iast hx hb hK hP hD hS k0 0 hk0 rfl hin hd (fun H1 locs1 hP1 _ hS1 => k1 _ _ _ (xoo_xs hok _ _) hL hlen (by rw [hset]; exact hP1) hS1)
theorem xw_bastore (C : xCx p l e R s m args below meth c cells slots D cA ad X A d O M) {j : Nat} (hj : xMs[j]? = some M)  {L a b cc : Nat} {v : Int32} {l0 : List (Nat × Nat)} {ix : List Nat} {pc : Nat} {ls st : List Value} {σ : xW} {pc' : Nat} {ls' st' : List Value} {σ' : xW} (hf : xft j pc = some (.bastore, L, (a, b, cc, v, l0), ix))
    (hs : xstep O (.bastore, L, (a, b, cc, v, l0), ix) pc ls st σ = some (pc', ls', st', σ')) (hok : xoo σ) {lsC : Array Slot} {H : Heap} {locs : List Loc} (hL : xL ad ls lsC) (hlen : ls.length = M.2.2.1) (hP : va_P D xcl (xcw cA ad σ) H) (hS : va_S A s.heap H locs)
    (k1 : ∀ (lsC' : Array Slot) (H' : Heap) (locs' : List Loc), xoo σ' → xL ad ls' lsC' → ls'.length = M.2.2.1 → va_P D xcl (xcw cA ad σ') H' → va_S A s.heap H' locs' → W p l e R s m args below meth c H' locs' cells slots Q (F0 m pc' lsC' (st'.map (xcv ad)))) :
    W p l e R s m args below meth c H locs cells slots Q (F0 m pc lsC (st.map (xcv ad))) := by
  have C' := C
  obtain ⟨hx, hb, hml, hown, hts, hK, hAp, hsub, hSt, hO, hOX, hR, hcs⟩ := C
  obtain ⟨hd, ho, hn⟩ := xft_inv hj hf
  have hD := xD hAp hsub cA σ
  have h1 : L = 1 := of_decide_eq_true ho
  subst h1
  obtain ⟨n, z, x, r, e0, hz⟩ := xaii_inv hs
  clear hs
  subst e0
  have hs := hz
  clear hz
  obtain ⟨w, hw, hs⟩ := xmap_inv hs
  obtain ⟨rfl, rfl, rfl, rfl⟩ := xpr hs
  obtain ⟨t, N, f, hg, ht, hin, rfl⟩ := xwr_inv hw
  obtain ⟨k0, hk0, hset⟩ := xcw_at (cA := cA) (ad := ad) hok hg
  rcases List.mem_cons.mp ht with rfl | ht
  · exact va_bast hx hb hK hP hD hS k0 1 hk0 rfl hin hd (fun H1 locs1 hP1 _ hS1 => k1 _ _ _ (xoo_xs hok _ _) hL hlen (by rw [hset]; exact hP1) hS1)
  · have ht : t = 2 := List.mem_singleton.mp ht
    subst ht
    exact va_zast hx hb hK hP hD hS k0 2 hk0 rfl hin hd (fun H1 locs1 hP1 _ hS1 => k1 _ _ _ (xoo_xs hok _ _) hL hlen (by rw [hset]; exact hP1) hS1)
theorem xw_aaload (C : xCx p l e R s m args below meth c cells slots D cA ad X A d O M) {j : Nat} (hj : xMs[j]? = some M)  {L a b cc : Nat} {v : Int32} {l0 : List (Nat × Nat)} {ix : List Nat} {pc : Nat} {ls st : List Value} {σ : xW} {pc' : Nat} {ls' st' : List Value} {σ' : xW} (hf : xft j pc = some (.aaload, L, (a, b, cc, v, l0), ix))
    (hs : xstep O (.aaload, L, (a, b, cc, v, l0), ix) pc ls st σ = some (pc', ls', st', σ')) (hok : xoo σ) {lsC : Array Slot} {H : Heap} {locs : List Loc} (hL : xL ad ls lsC) (hlen : ls.length = M.2.2.1) (hP : va_P D xcl (xcw cA ad σ) H) (hS : va_S A s.heap H locs)
    (k1 : ∀ (lsC' : Array Slot) (H' : Heap) (locs' : List Loc), xoo σ' → xL ad ls' lsC' → ls'.length = M.2.2.1 → va_P D xcl (xcw cA ad σ') H' → va_S A s.heap H' locs' → W p l e R s m args below meth c H' locs' cells slots Q (F0 m pc' lsC' (st'.map (xcv ad)))) :
    W p l e R s m args below meth c H locs cells slots Q (F0 m pc lsC (st.map (xcv ad))) := by
  have C' := C
  obtain ⟨hx, hb, hml, hown, hts, hK, hAp, hsub, hSt, hO, hOX, hR, hcs⟩ := C
  obtain ⟨hd, ho, hn⟩ := xft_inv hj hf
  have hD := xD hAp hsub cA σ
  have h1 : L = 1 := of_decide_eq_true ho
  subst h1
  obtain ⟨n, z, r, e0, hz⟩ := xai_inv hs
  clear hs
  subst e0
  have hs := hz
  clear hz
  obtain ⟨w, hw, hs⟩ := xmap_inv hs
  obtain ⟨rfl, rfl, rfl, rfl⟩ := xpr hs
  obtain ⟨t, N, f, hg, ht, hin, hfw⟩ := xrr_inv hw
  obtain ⟨k0, hk0, -⟩ := xcw_at (cA := cA) (ad := ad) hok hg
  have hval : va_rf ((f z.toNatClampNeg).map ad) = .ref (ad w) := by rw [hfw]; rfl
  have hk0 : (xcw cA ad σ)[k0]? = some (ad n, .inl (cA t, N, .inr (.inr (.inr (.inr fun k => (f k).map ad))))) := hk0
  obtain ⟨t1, t2⟩ := ht
  obtain rfl | rfl | rfl : t = 3 ∨ t = 4 ∨ t = 5 := by omega
  · exact va_aldq (C := "RopeShore$Person") hx hb hK hP k0 3 hk0 rfl hin hd (by rw [hval]; exact k1 _ _ _ hok hL hlen hP hS)
  · exact va_aldq (C := "RopeShore$Text") hx hb hK hP k0 4 hk0 rfl hin hd (by rw [hval]; exact k1 _ _ _ hok hL hlen hP hS)
  · exact va_aldq (C := "RopeShore$Sheet") hx hb hK hP k0 5 hk0 rfl hin hd (by rw [hval]; exact k1 _ _ _ hok hL hlen hP hS)
theorem xw_arraylength (C : xCx p l e R s m args below meth c cells slots D cA ad X A d O M) {j : Nat} (hj : xMs[j]? = some M)  {L a b cc : Nat} {v : Int32} {l0 : List (Nat × Nat)} {ix : List Nat} {pc : Nat} {ls st : List Value} {σ : xW} {pc' : Nat} {ls' st' : List Value} {σ' : xW} (hf : xft j pc = some (.arraylength, L, (a, b, cc, v, l0), ix))
    (hs : xstep O (.arraylength, L, (a, b, cc, v, l0), ix) pc ls st σ = some (pc', ls', st', σ')) (hok : xoo σ) {lsC : Array Slot} {H : Heap} {locs : List Loc} (hL : xL ad ls lsC) (hlen : ls.length = M.2.2.1) (hP : va_P D xcl (xcw cA ad σ) H) (hS : va_S A s.heap H locs)
    (k1 : ∀ (lsC' : Array Slot) (H' : Heap) (locs' : List Loc), xoo σ' → xL ad ls' lsC' → ls'.length = M.2.2.1 → va_P D xcl (xcw cA ad σ') H' → va_S A s.heap H' locs' → W p l e R s m args below meth c H' locs' cells slots Q (F0 m pc' lsC' (st'.map (xcv ad)))) :
    W p l e R s m args below meth c H locs cells slots Q (F0 m pc lsC (st.map (xcv ad))) := by
  have C' := C
  obtain ⟨hx, hb, hml, hown, hts, hK, hAp, hsub, hSt, hO, hOX, hR, hcs⟩ := C
  obtain ⟨hd, ho, hn⟩ := xft_inv hj hf
  have hD := xD hAp hsub cA σ
  have h1 : L = 1 := of_decide_eq_true ho
  subst h1
  obtain ⟨n, r, e0, hz⟩ := xa1_inv hs
  clear hs
  subst e0
  have hs := hz
  clear hz
  obtain ⟨w, hw, hs⟩ := xmap_inv hs
  obtain ⟨rfl, rfl, rfl, rfl⟩ := xpr hs
  rw [hOX] at hw
  rcases xal_inv hw with ⟨t, z, hg, ht⟩ | ⟨hg, t, f, hc⟩
  · obtain ⟨k0, hk0, -⟩ := xcw_at (cA := cA) (ad := ad) hok hg
    have hk0 : (xcw cA ad σ)[k0]? = some (ad n, .inl (cA t, xca ad (w, z))) := hk0
    have hz1 : (xca ad (w, z)).1 = w := by unfold xca; split <;> first | rfl | (rename_i h; cases h; rfl)
    obtain ⟨ty, hty⟩ : ∃ ty, (xtys cA)[t]? = some (cA t, ty) := by
      obtain rfl | rfl | rfl | rfl | rfl | rfl : t = 0 ∨ t = 1 ∨ t = 2 ∨ t = 3 ∨ t = 4 ∨ t = 5 := by omega
      all_goals exact ⟨_, rfl⟩
    exact va_alen hx hb hK hP k0 t hk0 hty (by rw [hz1]) hd (k1 _ _ _ hok hL hlen hP hS)
  · rcases xct_lt hc with ⟨rfl, h⟩ | ⟨rfl, h⟩ | ⟨rfl, h⟩
    · cases h
      exact va_tlen hx hb hSt.1 hS rfl hd (k1 _ _ _ hok hL hlen hP hS)
    · cases h
      exact va_tlen hx hb hSt.2.1 hS rfl hd (k1 _ _ _ hok hL hlen hP hS)
    · cases h
      exact va_tlen hx hb hSt.2.2.1 hS rfl hd (k1 _ _ _ hok hL hlen hP hS)
theorem xw_invokestatic (C : xCx p l e R s m args below meth c cells slots D cA ad X A d O M) {j : Nat} (hj : xMs[j]? = some M) {k : Nat} {L a b cc : Nat} {v : Int32} {l0 : List (Nat × Nat)} {ix : List Nat} {pc : Nat} {ls st : List Value} {σ : xW} {pc' : Nat} {ls' st' : List Value} {σ' : xW} (hf : xft j pc = some (.invokestatic k, L, (a, b, cc, v, l0), ix))
    (hs : xstep O (.invokestatic k, L, (a, b, cc, v, l0), ix) pc ls st σ = some (pc', ls', st', σ')) (hok : xoo σ) {lsC : Array Slot} {H : Heap} {locs : List Loc} (hL : xL ad ls lsC) (hlen : ls.length = M.2.2.1) (hP : va_P D xcl (xcw cA ad σ) H) (hS : va_S A s.heap H locs)
    (k1 : ∀ (lsC' : Array Slot) (H' : Heap) (locs' : List Loc), xoo σ' → xL ad ls' lsC' → ls'.length = M.2.2.1 → va_P D xcl (xcw cA ad σ') H' → va_S A s.heap H' locs' → W p l e R s m args below meth c H' locs' cells slots Q (F0 m pc' lsC' (st'.map (xcv ad)))) :
    W p l e R s m args below meth c H locs cells slots Q (F0 m pc lsC (st.map (xcv ad))) := by
  have C' := C
  obtain ⟨hx, hb, hml, hown, hts, hK, hAp, hsub, hSt, hO, hOX, hR, hcs⟩ := C
  obtain ⟨hd, ho, hn⟩ := xft_inv hj hf
  have hD := xD hAp hsub cA σ
  have h3 : L = 3 := by
    have ho : (decide (L = 3) && (decide (2 ≤ cc) || (match xMs[a]? with
      | some M => xplain M.1 b
      | none => false))) = true := ho
    rw [Bool.and_eq_true] at ho
    exact of_decide_eq_true ho.1
  subst h3
  have hs : (if cc = 2 then xcp5 st fun n dp d sp s r => if r.length ≤ 4 then (xcp σ n dp d sp s).map fun σ' => (pc + 3, ls, r, σ') else none
    else if cc = 3 then x2 st fun x y r => if r.length ≤ 4 then xgo (pc + 3) ls (.int (if y < x then y else x) :: r) σ else none
    else if cc = 4 then x2 st fun x y r => if r.length ≤ 4 then xgo (pc + 3) ls (.int (if x < y then y else x) :: r) σ else none
    else if cc < 2 then xarg b st fun as r => xcallr (O.2 a as σ) (pc + 3) ls r else none) = some ((pc', ls', st', σ')) := hs
  have hml' : c.maxLocals = lsC.size := by rw [hml, hL.1, hlen]
  by_cases hc2 : cc = 2
  · rw [if_pos hc2] at hs
    subst hc2
    obtain ⟨n, dp, dst, sp, src, r, e0, hz⟩ := xcp5_inv hs
    clear hs
    subst e0
    have hs := hz
    clear hz
    obtain ⟨hrl, hs⟩ := ite_inv hs
    obtain ⟨w, hw, hs⟩ := xmap_inv hs
    obtain ⟨rfl, rfl, rfl, rfl⟩ := xpr hs
    obtain ⟨t, N0, N1, f, g, hg0, hg1, ⟨ht, g1, g2, g3, g4, g5, g6⟩, rfl⟩ := xcp_inv hw
    obtain ⟨k0, hk0, -⟩ := xcw_at (cA := cA) (ad := ad) hok hg0
    obtain ⟨k2, hk2, hset⟩ := xcw_at (cA := cA) (ad := ad) hok hg1
    have hn : ∀ w ∈ ([.methodLink M.1.cls k arraycopyName, .native arraycopyName, .static arraycopyName, .initialized "java/lang/System"] : List Cond), w ∈ xT := hn
    simp only [List.forall_mem_cons] at hn
    obtain ⟨n1, n2, n3, n4, -⟩ := hn
    have hsum := xcat_sum ad r
    have hnf : nativeFrameWords "java/lang/System" "arraycopy" 5 ≤ 20 := by decide +kernel
    have hfin : ∀ (H1 : Heap) (locs1 : List Loc), va_P D xcl ((xcw cA ad σ).set k2 (ad dst, .inl (cA t, N1, .inl (va_cpy f g sp.toNatClampNeg dp.toNatClampNeg n.toNatClampNeg)))) H1 → va_D A ((xcw cA ad σ).set k2 (ad dst, .inl (cA t, N1, .inl (va_cpy f g sp.toNatClampNeg dp.toNatClampNeg n.toNatClampNeg)))) → va_S A s.heap H1 locs1 → W p l e R s m args below meth c H1 locs1 cells slots Q (F0 m (pc + 3) lsC (r.map (xcv ad))) := by
      intro H1 locs1 hP1 _ hS1
      refine k1 _ _ _ (xoo_xs hok _ _) hL hlen ?_ hS1
      rw [hset]
      exact hP1
    obtain rfl | rfl : t = 0 ∨ t = 1 := by omega
    · exact va_copyi hx hb hml' hown (hts _ n1) (hts _ n2) (hts _ n3) (hts _ n4) hK hP hD hS k0 k2 0 0 (ty := .int) hk0 hk2 rfl rfl rfl g1 g2 g3 g4 g5 (fun i _ => rfl) (by omega) (by omega) hd hfin
    · refine va_copyi hx hb hml' hown (hts _ n1) (hts _ n2) (hts _ n3) (hts _ n4) hK hP hD hS k0 k2 1 1 (ty := .byte) hk0 hk2 rfl rfl rfl g1 g2 g3 g4 g5 (fun i hi => ?_) (by omega) (by omega) hd hfin
      rcases g6 with g6 | g6
      · cases g6
      · exact List.all_eq_true.mp g6 i (List.mem_range.mpr hi)
  · rw [if_neg hc2] at hs
    by_cases hc3 : cc = 3
    · rw [if_pos hc3] at hs
      subst hc3
      obtain ⟨x, y, r, e0, hz⟩ := x2_inv hs
      clear hs
      subst e0
      have hs := hz
      clear hz
      obtain ⟨hrl, hs⟩ := ite_inv hs
      obtain ⟨rfl, rfl, rfl, rfl⟩ := xgo_inv hs
      have hn : ∀ w ∈ ([.methodLink M.1.cls k Lib.Math.min.name, .static Lib.Math.min.name, .initialized "java/lang/Math", .code Lib.Math.min.name Lib.Math.min.code 2 (some .int)] : List Cond), w ∈ xT := hn
      simp only [List.forall_mem_cons] at hn
      obtain ⟨n1, n2, n3, n4, -⟩ := hn
      have hsum := xcat_sum ad r
      exact va_mmin hx hb hml' hown (hts _ n1) (hts _ n2) (hts _ n3) (hts _ n4) (by omega) (by omega) hcs.1 hcs.2 hd (k1 _ _ _ hok hL hlen hP hS)
    · rw [if_neg hc3] at hs
      by_cases hc4 : cc = 4
      · rw [if_pos hc4] at hs
        subst hc4
        obtain ⟨x, y, r, e0, hz⟩ := x2_inv hs
        clear hs
        subst e0
        have hs := hz
        clear hz
        obtain ⟨hrl, hs⟩ := ite_inv hs
        obtain ⟨rfl, rfl, rfl, rfl⟩ := xgo_inv hs
        have hn : ∀ w ∈ ([.methodLink M.1.cls k Lib.Math.max.name, .static Lib.Math.max.name, .initialized "java/lang/Math", .code Lib.Math.max.name Lib.Math.max.code 2 (some .int)] : List Cond), w ∈ xT := hn
        simp only [List.forall_mem_cons] at hn
        obtain ⟨n1, n2, n3, n4, -⟩ := hn
        have hsum := xcat_sum ad r
        exact va_mmax hx hb hml' hown (hts _ n1) (hts _ n2) (hts _ n3) (hts _ n4) (by omega) (by omega) hcs.1 hcs.2 hd (k1 _ _ _ hok hL hlen hP hS)
      · rw [if_neg hc4] at hs
        obtain ⟨hcl, hs⟩ := ite_inv hs
        exact xw_static C' hj hd ho hn hcl hs hok hL hlen hP hS k1
theorem xw_invokevirtual (C : xCx p l e R s m args below meth c cells slots D cA ad X A d O M) {j : Nat} (hj : xMs[j]? = some M) {k : Nat} {L a b cc : Nat} {v : Int32} {l0 : List (Nat × Nat)} {ix : List Nat} {pc : Nat} {ls st : List Value} {σ : xW} {pc' : Nat} {ls' st' : List Value} {σ' : xW} (hf : xft j pc = some (.invokevirtual k, L, (a, b, cc, v, l0), ix))
    (hs : xstep O (.invokevirtual k, L, (a, b, cc, v, l0), ix) pc ls st σ = some (pc', ls', st', σ')) (hok : xoo σ) {lsC : Array Slot} {H : Heap} {locs : List Loc} (hL : xL ad ls lsC) (hlen : ls.length = M.2.2.1) (hP : va_P D xcl (xcw cA ad σ) H) (hS : va_S A s.heap H locs)
    (k1 : ∀ (lsC' : Array Slot) (H' : Heap) (locs' : List Loc), xoo σ' → xL ad ls' lsC' → ls'.length = M.2.2.1 → va_P D xcl (xcw cA ad σ') H' → va_S A s.heap H' locs' → W p l e R s m args below meth c H' locs' cells slots Q (F0 m pc' lsC' (st'.map (xcv ad)))) :
    W p l e R s m args below meth c H locs cells slots Q (F0 m pc lsC (st.map (xcv ad))) := by
  have C' := C
  obtain ⟨hx, hb, hml, hown, hts, hK, hAp, hsub, hSt, hO, hOX, hR, hcs⟩ := C
  obtain ⟨hd, ho, hn⟩ := xft_inv hj hf
  have hD := xD hAp hsub cA σ
  have h3 : L = 3 := by
    unfold xoth at ho
    rw [Bool.and_eq_true] at ho
    exact of_decide_eq_true ho.1
  subst h3
  exact xw_virtual C' hj hd ho hn hs hok hL hlen hP hS k1
theorem xw_invokespecial (C : xCx p l e R s m args below meth c cells slots D cA ad X A d O M) {j : Nat} (hj : xMs[j]? = some M) {k : Nat} {L a b cc : Nat} {v : Int32} {l0 : List (Nat × Nat)} {ix : List Nat} {pc : Nat} {ls st : List Value} {σ : xW} {pc' : Nat} {ls' st' : List Value} {σ' : xW} (hf : xft j pc = some (.invokespecial k, L, (a, b, cc, v, l0), ix))
    (hs : xstep O (.invokespecial k, L, (a, b, cc, v, l0), ix) pc ls st σ = some (pc', ls', st', σ')) (hok : xoo σ) {lsC : Array Slot} {H : Heap} {locs : List Loc} (hL : xL ad ls lsC) (hlen : ls.length = M.2.2.1) (hP : va_P D xcl (xcw cA ad σ) H) (hS : va_S A s.heap H locs)
    (k1 : ∀ (lsC' : Array Slot) (H' : Heap) (locs' : List Loc), xoo σ' → xL ad ls' lsC' → ls'.length = M.2.2.1 → va_P D xcl (xcw cA ad σ') H' → va_S A s.heap H' locs' → W p l e R s m args below meth c H' locs' cells slots Q (F0 m pc' lsC' (st'.map (xcv ad)))) :
    W p l e R s m args below meth c H locs cells slots Q (F0 m pc lsC (st.map (xcv ad))) := by
  have C' := C
  obtain ⟨hx, hb, hml, hown, hts, hK, hAp, hsub, hSt, hO, hOX, hR, hcs⟩ := C
  obtain ⟨hd, ho, hn⟩ := xft_inv hj hf
  have hD := xD hAp hsub cA σ
  have h3 : L = 3 := by
    unfold xoth at ho
    rw [Bool.and_eq_true] at ho
    exact of_decide_eq_true ho.1
  subst h3
  exact xw_special C' hj hd ho hn hs hok hL hlen hP hS k1
theorem xstep_W (C : xCx p l e R s m args below meth c cells slots D cA ad X A d O M) {j : Nat} (hj : xMs[j]? = some M) {I : xI} {pc : Nat} {ls st : List Value} {σ : xW} {pc' : Nat} {ls' st' : List Value} {σ' : xW} (hf : xft j pc = some I)
    (hs : xstep O I pc ls st σ = some (pc', ls', st', σ')) (hok : xoo σ) {lsC : Array Slot} {H : Heap} {locs : List Loc} (hL : xL ad ls lsC) (hlen : ls.length = M.2.2.1) (hP : va_P D xcl (xcw cA ad σ) H) (hS : va_S A s.heap H locs)
    (k1 : ∀ (lsC' : Array Slot) (H' : Heap) (locs' : List Loc), xoo σ' → xL ad ls' lsC' → ls'.length = M.2.2.1 → va_P D xcl (xcw cA ad σ') H' → va_S A s.heap H' locs' → W p l e R s m args below meth c H' locs' cells slots Q (F0 m pc' lsC' (st'.map (xcv ad)))) :
    W p l e R s m args below meth c H locs cells slots Q (F0 m pc lsC (st.map (xcv ad))) := by
  obtain ⟨i, L, ⟨a, b, cc, v, l0⟩, ix⟩ := I
  cases i with
  | iconst n => exact xw_iconst C hj hf hs hok hL hlen hP hS k1
  | bipush n => exact xw_bipush C hj hf hs hok hL hlen hP hS k1
  | sipush n => exact xw_sipush C hj hf hs hok hL hlen hP hS k1
  | ldc n => exact xw_ldc C hj hf hs hok hL hlen hP hS k1
  | ldc_w n => exact xw_ldc_w C hj hf hs hok hL hlen hP hS k1
  | ldc2_w n => exact xw_ldc2_w C hj hf hs hok hL hlen hP hS k1
  | iload_n n => exact xw_iload_n C hj hf hs hok hL hlen hP hS k1
  | iload n => exact xw_iload C hj hf hs hok hL hlen hP hS k1
  | lload_n n => exact xw_lload_n C hj hf hs hok hL hlen hP hS k1
  | lload n => exact xw_lload C hj hf hs hok hL hlen hP hS k1
  | aload_n n => exact xw_aload_n C hj hf hs hok hL hlen hP hS k1
  | aload n => exact xw_aload C hj hf hs hok hL hlen hP hS k1
  | istore_n n => exact xw_istore_n C hj hf hs hok hL hlen hP hS k1
  | istore n => exact xw_istore C hj hf hs hok hL hlen hP hS k1
  | astore_n n => exact xw_astore_n C hj hf hs hok hL hlen hP hS k1
  | astore n => exact xw_astore C hj hf hs hok hL hlen hP hS k1
  | iinc n z => exact xw_iinc C hj hf hs hok hL hlen hP hS k1
  | iadd => exact xw_iadd C hj hf hs hok hL hlen hP hS k1
  | isub => exact xw_isub C hj hf hs hok hL hlen hP hS k1
  | imul => exact xw_imul C hj hf hs hok hL hlen hP hS k1
  | iand => exact xw_iand C hj hf hs hok hL hlen hP hS k1
  | ior => exact xw_ior C hj hf hs hok hL hlen hP hS k1
  | ixor => exact xw_ixor C hj hf hs hok hL hlen hP hS k1
  | ishl => exact xw_ishl C hj hf hs hok hL hlen hP hS k1
  | ishr => exact xw_ishr C hj hf hs hok hL hlen hP hS k1
  | iushr => exact xw_iushr C hj hf hs hok hL hlen hP hS k1
  | idiv => exact xw_idiv C hj hf hs hok hL hlen hP hS k1
  | irem => exact xw_irem C hj hf hs hok hL hlen hP hS k1
  | ineg => exact xw_ineg C hj hf hs hok hL hlen hP hS k1
  | i2l => exact xw_i2l C hj hf hs hok hL hlen hP hS k1
  | l2i => exact xw_l2i C hj hf hs hok hL hlen hP hS k1
  | i2b => exact xw_i2b C hj hf hs hok hL hlen hP hS k1
  | i2s => exact xw_i2s C hj hf hs hok hL hlen hP hS k1
  | land => exact xw_land C hj hf hs hok hL hlen hP hS k1
  | lor => exact xw_lor C hj hf hs hok hL hlen hP hS k1
  | lshl => exact xw_lshl C hj hf hs hok hL hlen hP hS k1
  | lshr => exact xw_lshr C hj hf hs hok hL hlen hP hS k1
  | lushr => exact xw_lushr C hj hf hs hok hL hlen hP hS k1
  | dup => exact xw_dup C hj hf hs hok hL hlen hP hS k1
  | dup2 => exact xw_dup2 C hj hf hs hok hL hlen hP hS k1
  | pop => exact xw_pop C hj hf hs hok hL hlen hP hS k1
  | ifCond cnd o => exact xw_ifCond C hj hf hs hok hL hlen hP hS k1
  | if_icmp cnd o => exact xw_if_icmp C hj hf hs hok hL hlen hP hS k1
  | goto o => exact xw_goto C hj hf hs hok hL hlen hP hS k1
  | tableswitch df lo hi os => exact xw_tableswitch C hj hf hs hok hL hlen hP hS k1
  | lookupswitch df ps => exact xw_lookupswitch C hj hf hs hok hL hlen hP hS k1
  | getfield k => exact xw_getfield C hj hf hs hok hL hlen hP hS k1
  | putfield k => exact xw_putfield C hj hf hs hok hL hlen hP hS k1
  | getstatic k => exact xw_getstatic C hj hf hs hok hL hlen hP hS k1
  | iaload => exact xw_iaload C hj hf hs hok hL hlen hP hS k1
  | baload => exact xw_baload C hj hf hs hok hL hlen hP hS k1
  | caload => exact xw_caload C hj hf hs hok hL hlen hP hS k1
  | iastore => exact xw_iastore C hj hf hs hok hL hlen hP hS k1
  | bastore => exact xw_bastore C hj hf hs hok hL hlen hP hS k1
  | aaload => exact xw_aaload C hj hf hs hok hL hlen hP hS k1
  | arraylength => exact xw_arraylength C hj hf hs hok hL hlen hP hS k1
  | invokestatic k => exact xw_invokestatic C hj hf hs hok hL hlen hP hS k1
  | invokevirtual k => exact xw_invokevirtual C hj hf hs hok hL hlen hP hS k1
  | invokespecial k => exact xw_invokespecial C hj hf hs hok hL hlen hP hS k1
  | _ => exact absurd (show (none : xZ) = some _ from hs) (by simp)
end XW3
