section XW2
variable {p : Program} {l : Launch} {e : Env} {R : Room} {s : State} {m : MethodId} {args : Array Value} {below : List Frame} {meth : Method} {c : Code} {cells slots : Nat} {Q : State → Prop}
variable {D : va_G} {cA : Nat → ClassId} {ad : Nat → Nat} {X : xX} {A : Nat → Prop} {d : Nat} {O : xO} {M : xM}

theorem xhw {own : String} {index : Nat} {Mc : xM} {n : Nat} (hts : ∀ w ∈ xT, w.before args s = true) (hR : d + 1 ≤ R.frames ∧ 40 * d + 40 ≤ R.locals) (hml : Mc.2.2.1 ≤ 20) (hcode : xwd Mc ∈ xT) (hini : Cond.initialized Mc.1.cls ∈ xT) (hpl : xplain Mc.1 n = true) (hl : (Cond.methodLink own index Mc.1).before args s = true) :
    CallB R s args own index Mc.1 Mc.2.1 Mc.2.2.1 Mc.2.2.2.1 (xws Mc) (xrm d) 0 0 n := by
  unfold xplain at hpl
  simp only [Bool.and_eq_true, decide_eq_true_eq] at hpl
  refine ⟨rfl, rfl, hR.1, ?_, fun w hw => ?_, List.mem_cons_self, hts _ hcode, hts _ hini, ⟨hpl.1.1, hpl.1.2⟩, fun sig h => ?_, hl⟩
  · show 8 + (Mc.2.2.1 + 11) + 40 * d ≤ R.locals
    omega
  · rcases List.mem_cons.mp hw with rfl | hw
    · exact xwarm hts _ hcode
    · exact xwarm hts _ hw
  · have h2 := hpl.2
    rw [h] at h2
    exact (Option.some.inj h2).symm
theorem xhwN {own : String} {index : Nat} {Mc : xM} {n : Nat} (hts : ∀ w ∈ xT, w.before args s = true) (hR : d + 1 ≤ R.frames ∧ 40 * d + 40 ≤ R.locals) (hml : Mc.2.2.1 ≤ 20) (hcode : xwd Mc ∈ xT) (hini : Cond.initialized Mc.1.cls ∈ xT) (hpl : xplain Mc.1 n = true) (hl : (Cond.methodLinkNest own index Mc.1 xHo).before args s = true) :
    va_CN R s args own index Mc.1 xHo Mc.2.1 Mc.2.2.1 Mc.2.2.2.1 (xws Mc) (xrm d) 0 0 n := by
  unfold xplain at hpl
  simp only [Bool.and_eq_true, decide_eq_true_eq] at hpl
  refine ⟨⟨rfl, rfl, hR.1, ?_, fun w hw => ?_, List.mem_cons_self⟩, hts _ hcode, hts _ hini, ⟨hpl.1.1, hpl.1.2⟩, fun sig h => ?_, hl⟩
  · show 8 + (Mc.2.2.1 + 11) + 40 * d ≤ R.locals
    omega
  · rcases List.mem_cons.mp hw with rfl | hw
    · exact xwarm hts _ hcode
    · exact xwarm hts _ hw
  · have h2 := hpl.2
    rw [h] at h2
    exact (Option.some.inj h2).symm

theorem xw_static (C : xCx p l e R s m args below meth c cells slots D cA ad X A d O M) {j : Nat} (hj : xMs[j]? = some M) {k a b cc : Nat} {v : Int32} {l0 : List (Nat × Nat)} {ix : List Nat} {pc : Nat} {ls st : List Value} {σ : xW} {pc' : Nat} {ls' st' : List Value} {σ' : xW}
    (hd : decode M.2.1 pc = .ok (.invokestatic k, 3)) (ho : xoth M.2.2.2.1 pc (.invokestatic k, 3, (a, b, cc, v, l0), ix) = true) (hn : ∀ w ∈ xneed M.1 (.invokestatic k, 3, (a, b, cc, v, l0), ix), w ∈ xT) (hcc : cc < 2)
    (hs : (xarg b st fun as r => xcallr (O.2 a as σ) (pc + 3) ls r) = some ((pc', ls', st', σ'))) (hok : xoo σ) {lsC : Array Slot} {H : Heap} {locs : List Loc} (hL : xL ad ls lsC) (hlen : ls.length = M.2.2.1) (hP : va_P D xcl (xcw cA ad σ) H) (hS : va_S A s.heap H locs)
    (k1 : ∀ (lsC' : Array Slot) (H' : Heap) (locs' : List Loc), xoo σ' → xL ad ls' lsC' → ls'.length = M.2.2.1 → va_P D xcl (xcw cA ad σ') H' → va_S A s.heap H' locs' → W p l e R s m args below meth c H' locs' cells slots Q (F0 m pc' lsC' (st'.map (xcv ad)))) :
    W p l e R s m args below meth c H locs cells slots Q (F0 m pc lsC (st.map (xcv ad))) := by
  have C' := C
  obtain ⟨hx, hb, hml, hown, hts, hK, hAp, hsub, hSt, hO, hOX, hR, hcs⟩ := C
  obtain ⟨as, r, hal, hrl, e0, hz⟩ := xarg_inv hs
  clear hs
  subst e0
  have hs := hz
  clear hz
  obtain ⟨q, hq, rfl, rfl, rfl, rfl⟩ := xcallr_inv hs
  simp only [xoth, Bool.and_eq_true, Bool.or_eq_true, decide_eq_true_eq] at ho
  have ho := ho.2.resolve_left (by omega)
  cases hMa : xMs[a]? with
  | none => rw [hMa] at ho; cases ho
  | some Mc =>
    rw [hMa] at ho
    have hpl : xplain Mc.1 b = true := ho
    have hn' : ∀ w ∈ ([if cc = 0 then Cond.methodLink M.1.cls k Mc.1 else Cond.methodLinkNest M.1.cls k Mc.1 xHo, .static Mc.1, .initialized Mc.1.cls, xwd Mc] : List Cond), w ∈ xT := by
      intro w hw
      apply hn
      unfold xneed
      simp only
      rw [if_neg (by omega), if_neg (by omega), if_neg (by omega), hMa]
      exact hw
    have hmlc := (xM_inv hMa).2
    have h1 : (if cc = 0 then Cond.methodLink M.1.cls k Mc.1 else Cond.methodLinkNest M.1.cls k Mc.1 xHo) ∈ xT := hn' _ List.mem_cons_self
    have h2 : Cond.static Mc.1 ∈ xT := hn' _ (List.mem_cons_of_mem _ List.mem_cons_self)
    have h3 : Cond.initialized Mc.1.cls ∈ xT := hn' _ (List.mem_cons_of_mem _ (List.mem_cons_of_mem _ List.mem_cons_self))
    have h4 : xwd Mc ∈ xT := hn' _ (List.mem_cons_of_mem _ (List.mem_cons_of_mem _ (List.mem_cons_of_mem _ List.mem_cons_self)))
    have hM := hO a Mc as σ q hMa hok hq
    have hp : PreS s H (va_Pc (as.map (xcv ad)) (xB D cA ad X (xA ad) σ)) (as.map (xcv ad)) := ⟨xblind, fun U hU hW => ⟨rfl, xB_at C' hP hS hU hW⟩⟩
    have hstack : (F0 m pc lsC ((as.reverse ++ r).map (xcv ad))).stack = (as.map (xcv ad)).reverse ++ r.map (xcv ad) := by simp [F0]
    have hsz : (F0 m pc lsC ((as.reverse ++ r).map (xcv ad))).locals.size = M.2.2.1 := hL.1.trans hlen
    have hrun : va_Run p l e R s m args below meth c H locs cells slots 0 0 (F0 m pc lsC ((as.reverse ++ r).map (xcv ad))) (r.map (xcv ad)) (xQc D cA ad X q (as.map (xcv ad)).toArray) (xA ad) := by
      by_cases hc0 : cc = 0
      · rw [if_pos hc0] at h1
        exact va_runS ⟨hx, hb, hml, hown, hts⟩ hM ⟨xhw hts hR hmlc h4 h3 hpl (hts _ h1), hts _ h2⟩ hp rfl (by rw [List.length_map]; exact hal) hsz hstack (lv_room (pc := pc) (m := m) (ls := lsC) (rest := []) (xrest hrl)) hd ⟨hcs.1, hcs.2⟩
      · rw [if_neg hc0] at h1
        exact va_runSN ⟨hx, hb, hml, hown, hts⟩ hM ⟨xhwN hts hR hmlc h4 h3 hpl (hts _ h1), hts _ h2, trivial⟩ hp rfl (by rw [List.length_map]; exact hal) hsz hstack (lv_room (pc := pc) (m := m) (ls := lsC) (rest := []) (xrest hrl)) hd ⟨hcs.1, hcs.2⟩
    refine x_run C' hS hrun fun H1 locs1 hok1 hP1 hS1 => ?_
    rw [← xtol]
    exact k1 lsC H1 locs1 hok1 hL hlen hP1 hS1

theorem xw_virtual (C : xCx p l e R s m args below meth c cells slots D cA ad X A d O M) {j : Nat} (hj : xMs[j]? = some M) {k a b cc : Nat} {v : Int32} {l0 : List (Nat × Nat)} {ix : List Nat} {pc : Nat} {ls st : List Value} {σ : xW} {pc' : Nat} {ls' st' : List Value} {σ' : xW}
    (hd : decode M.2.1 pc = .ok (.invokevirtual k, 3)) (ho : xoth M.2.2.2.1 pc (.invokevirtual k, 3, (a, b, cc, v, l0), ix) = true) (hn : ∀ w ∈ xneed M.1 (.invokevirtual k, 3, (a, b, cc, v, l0), ix), w ∈ xT)
    (hs : xstep O (.invokevirtual k, 3, (a, b, cc, v, l0), ix) pc ls st σ = some ((pc', ls', st', σ'))) (hok : xoo σ) {lsC : Array Slot} {H : Heap} {locs : List Loc} (hL : xL ad ls lsC) (hlen : ls.length = M.2.2.1) (hP : va_P D xcl (xcw cA ad σ) H) (hS : va_S A s.heap H locs)
    (k1 : ∀ (lsC' : Array Slot) (H' : Heap) (locs' : List Loc), xoo σ' → xL ad ls' lsC' → ls'.length = M.2.2.1 → va_P D xcl (xcw cA ad σ') H' → va_S A s.heap H' locs' → W p l e R s m args below meth c H' locs' cells slots Q (F0 m pc' lsC' (st'.map (xcv ad)))) :
    W p l e R s m args below meth c H locs cells slots Q (F0 m pc lsC (st.map (xcv ad))) := by
  have C' := C
  obtain ⟨hx, hb, hml, hown, hts, hK, hAp, hsub, hSt, hO, hOX, hR, hcs⟩ := C
  unfold xstep at hs
  obtain ⟨as, r, hal, hrl, e0, hz⟩ := xarg_inv hs
  clear hs
  subst e0
  have hs := hz
  clear hz
  cases as with
  | nil => cases hal
  | cons a0 as =>
    cases a0 with
    | ref n =>
      simp only at hs
      cases hci : xcc σ n with
      | none => rw [hci] at hs; cases hs
      | some ci =>
        rw [hci] at hs
        simp only [Option.bind_some] at hs
        cases hjj : l0.lookup ci with
        | none => rw [hjj] at hs; cases hs
        | some jj =>
          rw [hjj] at hs
          simp only [Option.bind_some] at hs
          obtain ⟨q, hq, rfl, rfl, rfl, rfl⟩ := xcallr_inv hs
          have hmem := xlook hjj
          simp only [xoth, Bool.and_eq_true, decide_eq_true_eq] at ho
          have ho1 := List.all_eq_true.mp ho.2 _ hmem
          simp only at ho1
          cases hCi : xcl[ci]? with
          | none => rw [hCi] at ho1; cases ho1
          | some Cn =>
            cases hMa : xMs[jj]? with
            | none => rw [hCi, hMa] at ho1; cases ho1
            | some Mc =>
              rw [hCi, hMa] at ho1
              simp only [Bool.and_eq_true, Bool.or_eq_true, decide_eq_true_eq] at ho1
              obtain ⟨hpl, ho2⟩ := ho1
              have hmlc := (xM_inv hMa).2
              have hM := hO jj Mc (.ref n :: as) σ q hMa hok hq
              obtain ⟨fs, hfs⟩ := xcc_inv hci
              obtain ⟨k0, hk0, -⟩ := xcw_at (cA := cA) (ad := ad) hok hfs
              have hrecv := va_recv hK hP hCi hk0
              have hp : PreV s H Cn.1 (ad n) (va_Pc ((.ref n :: as).map (xcv ad)) (xB D cA ad X (xA ad) σ)) (as.map (xcv ad)) := ⟨xblind, hrecv, fun U hU hW => ⟨rfl, xB_at C' hP hS hU hW⟩⟩
              have hstack : (F0 m pc lsC (((.ref n :: as).reverse ++ r).map (xcv ad))).stack = (as.map (xcv ad)).reverse ++ .ref (ad n) :: r.map (xcv ad) := by simp [F0, xcv]
              have hsz : (F0 m pc lsC (((.ref n :: as).reverse ++ r).map (xcv ad))).locals.size = M.2.2.1 := hL.1.trans hlen
              have hal' : (as.map (xcv ad)).length = b := by rw [List.length_map]; simpa using hal
              have hroom : 2 * (F0 m pc lsC (((.ref n :: as).reverse ++ r).map (xcv ad))).monitorRoom + ((r.map (xcv ad)).map fun v => v.category).sum ≤ 8 := lv_room (pc := pc) (m := m) (ls := lsC) (rest := []) (xrest hrl)
              have hrun : va_Run p l e R s m args below meth c H locs cells slots 0 0 (F0 m pc lsC (((.ref n :: as).reverse ++ r).map (xcv ad))) (r.map (xcv ad)) (xQc D cA ad X q (.ref (ad n) :: as.map (xcv ad)).toArray) (xA ad) := by
                by_cases hc2 : cc < 2
                · have hn' : ∀ w ∈ ([if cc = 0 then Cond.methodLink M.1.cls k Mc.1 else Cond.methodLinkNest M.1.cls k Mc.1 xHo, .instanceMethod Mc.1, .selects Cn.1 Mc.1 Mc.1, .initialized Mc.1.cls, xwd Mc] : List Cond), w ∈ xT := by
                    intro w hw
                    apply hn
                    unfold xneed
                    simp only
                    refine List.mem_flatMap.mpr ⟨_, hmem, ?_⟩
                    simp only
                    rw [hCi, hMa]
                    simp only
                    rw [if_pos hc2]
                    exact hw
                  simp only [List.forall_mem_cons] at hn'
                  obtain ⟨h1, h2, h3, h4, h5, -⟩ := hn'
                  by_cases hc0 : cc = 0
                  · rw [if_pos hc0] at h1
                    exact va_runV ⟨hx, hb, hml, hown, hts⟩ hM ⟨xhw hts hR hmlc h5 h4 hpl (hts _ h1), hts _ h2, hts _ h3⟩ hp rfl hal' hsz hstack hroom hd ⟨hcs.1, hcs.2⟩
                  · rw [if_neg hc0] at h1
                    exact va_runVN ⟨hx, hb, hml, hown, hts⟩ hM ⟨xhwN hts hR hmlc h5 h4 hpl (hts _ h1), hts _ h2, hts _ h3⟩ hp rfl hal' hsz hstack hroom hd ⟨hcs.1, hcs.2⟩
                · have ho3 := ho2.resolve_left hc2
                  cases hM0 : xMs[a]? with
                  | none => rw [hM0] at ho3; cases ho3
                  | some M0 =>
                    rw [hM0] at ho3
                    simp only [Bool.and_eq_true, decide_eq_true_eq] at ho3
                    have hn' : ∀ w ∈ ([.methodLink M.1.cls k ⟨if cc = 2 then xPn else xGo, M0.1.name, M0.1.desc⟩, .sameMethod (if cc = 2 then xPn else xGo) xPn M0.1.name M0.1.desc, .selects Cn.1 ⟨if cc = 2 then xPn else xGo, M0.1.name, M0.1.desc⟩ Mc.1, .instanceMethod Mc.1, .initialized Mc.1.cls, xwd Mc, .instanceMethod M0.1, xwd M0] : List Cond), w ∈ xT := by
                      intro w hw
                      apply hn
                      unfold xneed
                      simp only
                      refine List.mem_flatMap.mpr ⟨_, hmem, ?_⟩
                      simp only
                      rw [hCi, hMa]
                      simp only
                      rw [if_neg hc2, hM0]
                      exact hw
                    simp only [List.forall_mem_cons] at hn'
                    obtain ⟨h1, h2, h3, h4, h5, h6, h7, h8, -⟩ := hn'
                    have hm0 : (⟨xPn, M0.1.name, M0.1.desc⟩ : MethodName) = M0.1 := by rw [← ho3.1]
                    unfold xplain at hpl
                    simp only [Bool.and_eq_true, decide_eq_true_eq] at hpl
                    refine va_runU (x := ⟨if cc = 2 then xPn else xGo, M0.1.name, M0.1.desc⟩) (owner := xPn) (n := b) (bytes := Mc.2.1) (maxL := Mc.2.2.1) (ret := Mc.2.2.2.1) (ws := xws Mc) (rm := xrm d) ⟨hx, hb, hml, hown, hts⟩ hM ⟨⟨rfl, rfl, hR.1, ?_, fun w hw => ?_, List.mem_cons_self⟩, hts _ h6, hts _ h5, ⟨by decide, by decide⟩, fun sig h => ?_, hts _ h1, hts _ h2, ?_, hts _ h3, hts _ h4⟩ hp rfl hal' hsz hstack hroom hd ⟨hcs.1, hcs.2⟩
                    · show 8 + (Mc.2.2.1 + 11) + 40 * d ≤ R.locals
                      omega
                    · rcases List.mem_cons.mp hw with rfl | hw
                      · exact xwarm hts _ h6
                      · exact xwarm hts _ hw
                    · have h9 := ho3.2
                      have h : parseMethodDescriptor M0.1.desc = some sig := h
                      rw [h] at h9
                      exact (Option.some.inj h9).symm
                    · show va_Decl s ⟨xPn, M0.1.name, M0.1.desc⟩
                      rw [hm0]
                      exact va_Decl.of (hts _ h7) (hts _ h8)
              refine x_run C' hS hrun fun H1 locs1 hok1 hP1 hS1 => ?_
              rw [← xtol]
              exact k1 lsC H1 locs1 hok1 hL hlen hP1 hS1
    | _ => cases hs

end XW2
