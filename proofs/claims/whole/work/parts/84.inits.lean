/-! ===== constructors on the machine ===== -/
abbrev y_Person : MethodName := ⟨"RopeShore$Person", "<init>", "()V"⟩
abbrev kw_Person : List Cond := .code y_Person prog_7_method_1_code 1 none :: xT2
theorem kd_Person_0 : decode prog_7_method_1_code 0 = .ok (.aload_n 0, 1) := by decide +kernel
theorem kd_Person_1 : decode prog_7_method_1_code 1 = .ok (.invokespecial 1, 3) := by decide +kernel
theorem kd_Person_4 : decode prog_7_method_1_code 4 = .ok (.return_, 1) := by decide +kernel
abbrev kL_Person (cA : Nat → ClassId) (h0 : Nat) (u : Nat → Nat) : va_W := []
set_option maxHeartbeats 8000000 in
set_option maxRecDepth 100000 in
theorem c_Person (l : Launch) (D : va_G) (cA : Nat → ClassId) (h0 sz : Nat) : Met l y_Person kw_Person ({ frames := 1, cells := 0, slots := 0, locals := 12 }) (kPc D cA [] h0 sz) (kQ D cA (kL_Person cA h0) (va_A [] sz)) 0 0 (va_A [] sz) := by
  refine Met.ofW (cc := prog_7_method_1_code) (maxL := 1) (ret := none) (by decide) rfl ?_
  intro p e s m args below meth c s₁ B hml hv
  obtain ⟨rfl, hsz, hP, hK, hD0⟩ := hv
  have hx := B.exec
  have hb := B.bytes
  have hr := B.returns
  have hts := atoms_spec (ws := kw_Person) B.pre
  have ht2 : ∀ w ∈ xT2, w.before #[.ref h0] s = true := fun w h => hts w (List.mem_cons_of_mem _ h)
  have hown : s.vm.findClass "RopeShore$Person" = some m.cls := findClass_of_methodNamed B.named
  have hlocks := B.notSynchronized
  have hin : meth.name = "<init>" := (name_of_methodNamed B.named B.method).1
  subst hsz
  have hD := hD0.self (sz := s.heap.size)
  generalize hAe : va_A [] s.heap.size = A at hD ⊢
  have hA : ∀ q : Nat, s.heap.size ≤ q → A q := fun q h => by rw [← hAe]; exact Or.inr h
  have hS : va_S A s.heap s.heap [] := va_S.rf
  have hP : va_P D xcl [] s.heap := hP
  have hl := lv_entry ([.ref h0]) (n := 1) (Nat.le_of_ble_eq_true rfl)
  rw [lg_entry_eq]
  generalize (lg_sl ([.ref h0]) ++ List.replicate (1 - (lg_sl ([.ref h0])).length) Slot.unset).toArray = ls at hl ⊢
  have hl : lv_has ls 1 [(0, .ref h0)] := hl
  refine lv_aload_n hx hb kd_Person_0 rfl (lv_at hl 0 rfl) ?_
  refine W.objInit hx hb hown (ht2 _ xi_127) (ht2 _ xi_113) (ht2 _ xi_obj) rfl (by rw [hml]; exact hl.1) rfl kd_Person_1 (Nat.le_of_ble_eq_true rfl) (Nat.le_of_ble_eq_true rfl) ?_
  refine W.eq (g2 := F0 m 4 ls []) rfl ?_
  refine W.widen (k := 0) (n := 0) (Nat.le_of_ble_eq_true rfl) (Nat.le_of_ble_eq_true rfl) ?_
  exact W.vret hx hb hr (fun t ht hW => ⟨⟨fun k => ([] : List Nat).getD k 0, rfl, trivial, by rw [ht]; exact hP, va_K.moved hW.alike hK, hD⟩, hS.F ht⟩) hS.2.2 kd_Person_4
abbrev y_Gossip : MethodName := ⟨"RopeShore$Gossip", "<init>", "()V"⟩
abbrev kw_Gossip : List Cond := .code y_Gossip prog_4_method_1_code 1 none :: xT2
theorem kd_Gossip_0 : decode prog_4_method_1_code 0 = .ok (.aload_n 0, 1) := by decide +kernel
theorem kd_Gossip_1 : decode prog_4_method_1_code 1 = .ok (.invokespecial 1, 3) := by decide +kernel
theorem kd_Gossip_4 : decode prog_4_method_1_code 4 = .ok (.return_, 1) := by decide +kernel
abbrev kL_Gossip (cA : Nat → ClassId) (h0 : Nat) (u : Nat → Nat) : va_W := []
set_option maxHeartbeats 8000000 in
set_option maxRecDepth 100000 in
theorem c_Gossip (l : Launch) (D : va_G) (cA : Nat → ClassId) (h0 sz : Nat) : Met l y_Gossip kw_Gossip ({ frames := 2, cells := 0, slots := 0, locals := 32 }) (kPc D cA [] h0 sz) (kQ D cA (kL_Gossip cA h0) (va_A [] sz)) 0 0 (va_A [] sz) := by
  refine Met.ofW (cc := prog_4_method_1_code) (maxL := 1) (ret := none) (by decide) rfl ?_
  intro p e s m args below meth c s₁ B hml hv
  obtain ⟨rfl, hsz, hP, hK, hD0⟩ := hv
  have hx := B.exec
  have hb := B.bytes
  have hr := B.returns
  have hts := atoms_spec (ws := kw_Gossip) B.pre
  have ht2 : ∀ w ∈ xT2, w.before #[.ref h0] s = true := fun w h => hts w (List.mem_cons_of_mem _ h)
  have hown : s.vm.findClass "RopeShore$Gossip" = some m.cls := findClass_of_methodNamed B.named
  have hlocks := B.notSynchronized
  have hin : meth.name = "<init>" := (name_of_methodNamed B.named B.method).1
  subst hsz
  have hD := hD0.self (sz := s.heap.size)
  generalize hAe : va_A [] s.heap.size = A at hD ⊢
  have hA : ∀ q : Nat, s.heap.size ≤ q → A q := fun q h => by rw [← hAe]; exact Or.inr h
  have hS : va_S A s.heap s.heap [] := va_S.rf
  have hP : va_P D xcl [] s.heap := hP
  have hl := lv_entry ([.ref h0]) (n := 1) (Nat.le_of_ble_eq_true rfl)
  rw [lg_entry_eq]
  generalize (lg_sl ([.ref h0]) ++ List.replicate (1 - (lg_sl ([.ref h0])).length) Slot.unset).toArray = ls at hl ⊢
  have hl : lv_has ls 1 [(0, .ref h0)] := hl
  refine lv_aload_n hx hb kd_Gossip_0 rfl (lv_at hl 0 rfl) ?_
  have hPc := hP.sub (ws' := []) [] rfl
  have hDc := hD.sub (ws' := []) [] (by decide) rfl
  have hFc := va_free (wc := []) hD hS hA [] rfl
  refine va_callv (va_runIN (As := []) (rest := []) ⟨hx, hb, hml, hown, ht2⟩ (c_Person l D cA h0 s.heap.size) (kwN ht2 xi_126 xi_93 xi_134 xi_125 ⟨(Nat.le_of_ble_eq_true rfl), (Nat.le_of_ble_eq_true rfl)⟩) ⟨kBl, fun U hU hW => ⟨rfl, by rw [hU], by rw [hU]; exact hPc, va_K.moved hW.alike hK, hDc.weaken (fun _ _ _ _ => trivial)⟩⟩ rfl rfl hl.1 rfl (lv_room (Nat.le_of_ble_eq_true rfl)) kd_Gossip_1 ⟨(Nat.le_of_ble_eq_true rfl), (Nat.le_of_ble_eq_true rfl)⟩) hS (fun q _ h => hFc q h) hFc (fun v1 t H1 locs ht hvm _ hB hz1 hk1 hS => ?_)
  obtain ⟨hP1, hK1, hD1⟩ := hB
  rw [ht] at hP1
  obtain ⟨hP, hD⟩ := va_join (wr := []) (w1 := []) hP hD [] [] rfl rfl (by decide) (by decide) hk1 hFc hP1 hD1
  clear hPc hDc hFc hk1 hz1 hP1 hD1 hK1 ht hvm
  generalize H1 = H at hP hS ⊢
  have hP : va_P D xcl [] H := hP
  have hD : va_D A [] := hD
  refine W.widen (k := 0) (n := 0) (Nat.le_of_ble_eq_true rfl) (Nat.le_of_ble_eq_true rfl) ?_
  exact W.vret hx hb hr (fun t ht hW => ⟨⟨fun k => ([] : List Nat).getD k 0, rfl, trivial, by rw [ht]; exact hP, va_K.moved hW.alike hK, hD⟩, hS.F ht⟩) hS.2.2 kd_Gossip_4
abbrev y_Mayor : MethodName := ⟨"RopeShore$Mayor", "<init>", "()V"⟩
abbrev kw_Mayor : List Cond := .code y_Mayor prog_6_method_1_code 1 none :: xT2
theorem kd_Mayor_0 : decode prog_6_method_1_code 0 = .ok (.aload_n 0, 1) := by decide +kernel
theorem kd_Mayor_1 : decode prog_6_method_1_code 1 = .ok (.invokespecial 1, 3) := by decide +kernel
theorem kd_Mayor_4 : decode prog_6_method_1_code 4 = .ok (.return_, 1) := by decide +kernel
abbrev kL_Mayor (cA : Nat → ClassId) (h0 : Nat) (u : Nat → Nat) : va_W := []
set_option maxHeartbeats 8000000 in
set_option maxRecDepth 100000 in
theorem c_Mayor (l : Launch) (D : va_G) (cA : Nat → ClassId) (h0 sz : Nat) : Met l y_Mayor kw_Mayor ({ frames := 2, cells := 0, slots := 0, locals := 32 }) (kPc D cA [] h0 sz) (kQ D cA (kL_Mayor cA h0) (va_A [] sz)) 0 0 (va_A [] sz) := by
  refine Met.ofW (cc := prog_6_method_1_code) (maxL := 1) (ret := none) (by decide) rfl ?_
  intro p e s m args below meth c s₁ B hml hv
  obtain ⟨rfl, hsz, hP, hK, hD0⟩ := hv
  have hx := B.exec
  have hb := B.bytes
  have hr := B.returns
  have hts := atoms_spec (ws := kw_Mayor) B.pre
  have ht2 : ∀ w ∈ xT2, w.before #[.ref h0] s = true := fun w h => hts w (List.mem_cons_of_mem _ h)
  have hown : s.vm.findClass "RopeShore$Mayor" = some m.cls := findClass_of_methodNamed B.named
  have hlocks := B.notSynchronized
  have hin : meth.name = "<init>" := (name_of_methodNamed B.named B.method).1
  subst hsz
  have hD := hD0.self (sz := s.heap.size)
  generalize hAe : va_A [] s.heap.size = A at hD ⊢
  have hA : ∀ q : Nat, s.heap.size ≤ q → A q := fun q h => by rw [← hAe]; exact Or.inr h
  have hS : va_S A s.heap s.heap [] := va_S.rf
  have hP : va_P D xcl [] s.heap := hP
  have hl := lv_entry ([.ref h0]) (n := 1) (Nat.le_of_ble_eq_true rfl)
  rw [lg_entry_eq]
  generalize (lg_sl ([.ref h0]) ++ List.replicate (1 - (lg_sl ([.ref h0])).length) Slot.unset).toArray = ls at hl ⊢
  have hl : lv_has ls 1 [(0, .ref h0)] := hl
  refine lv_aload_n hx hb kd_Mayor_0 rfl (lv_at hl 0 rfl) ?_
  have hPc := hP.sub (ws' := []) [] rfl
  have hDc := hD.sub (ws' := []) [] (by decide) rfl
  have hFc := va_free (wc := []) hD hS hA [] rfl
  refine va_callv (va_runIN (As := []) (rest := []) ⟨hx, hb, hml, hown, ht2⟩ (c_Person l D cA h0 s.heap.size) (kwN ht2 xi_126 xi_93 xi_141 xi_125 ⟨(Nat.le_of_ble_eq_true rfl), (Nat.le_of_ble_eq_true rfl)⟩) ⟨kBl, fun U hU hW => ⟨rfl, by rw [hU], by rw [hU]; exact hPc, va_K.moved hW.alike hK, hDc.weaken (fun _ _ _ _ => trivial)⟩⟩ rfl rfl hl.1 rfl (lv_room (Nat.le_of_ble_eq_true rfl)) kd_Mayor_1 ⟨(Nat.le_of_ble_eq_true rfl), (Nat.le_of_ble_eq_true rfl)⟩) hS (fun q _ h => hFc q h) hFc (fun v1 t H1 locs ht hvm _ hB hz1 hk1 hS => ?_)
  obtain ⟨hP1, hK1, hD1⟩ := hB
  rw [ht] at hP1
  obtain ⟨hP, hD⟩ := va_join (wr := []) (w1 := []) hP hD [] [] rfl rfl (by decide) (by decide) hk1 hFc hP1 hD1
  clear hPc hDc hFc hk1 hz1 hP1 hD1 hK1 ht hvm
  generalize H1 = H at hP hS ⊢
  have hP : va_P D xcl [] H := hP
  have hD : va_D A [] := hD
  refine W.widen (k := 0) (n := 0) (Nat.le_of_ble_eq_true rfl) (Nat.le_of_ble_eq_true rfl) ?_
  exact W.vret hx hb hr (fun t ht hW => ⟨⟨fun k => ([] : List Nat).getD k 0, rfl, trivial, by rw [ht]; exact hP, va_K.moved hW.alike hK, hD⟩, hS.F ht⟩) hS.2.2 kd_Mayor_4
abbrev y_Cutter : MethodName := ⟨"RopeShore$Cutter", "<init>", "()V"⟩
abbrev kw_Cutter : List Cond := .code y_Cutter prog_2_method_1_code 1 none :: xT2
theorem kd_Cutter_0 : decode prog_2_method_1_code 0 = .ok (.aload_n 0, 1) := by decide +kernel
theorem kd_Cutter_1 : decode prog_2_method_1_code 1 = .ok (.invokespecial 1, 3) := by decide +kernel
theorem kd_Cutter_4 : decode prog_2_method_1_code 4 = .ok (.return_, 1) := by decide +kernel
abbrev kL_Cutter (cA : Nat → ClassId) (h0 : Nat) (u : Nat → Nat) : va_W := []
set_option maxHeartbeats 8000000 in
set_option maxRecDepth 100000 in
theorem c_Cutter (l : Launch) (D : va_G) (cA : Nat → ClassId) (h0 sz : Nat) : Met l y_Cutter kw_Cutter ({ frames := 2, cells := 0, slots := 0, locals := 32 }) (kPc D cA [] h0 sz) (kQ D cA (kL_Cutter cA h0) (va_A [] sz)) 0 0 (va_A [] sz) := by
  refine Met.ofW (cc := prog_2_method_1_code) (maxL := 1) (ret := none) (by decide) rfl ?_
  intro p e s m args below meth c s₁ B hml hv
  obtain ⟨rfl, hsz, hP, hK, hD0⟩ := hv
  have hx := B.exec
  have hb := B.bytes
  have hr := B.returns
  have hts := atoms_spec (ws := kw_Cutter) B.pre
  have ht2 : ∀ w ∈ xT2, w.before #[.ref h0] s = true := fun w h => hts w (List.mem_cons_of_mem _ h)
  have hown : s.vm.findClass "RopeShore$Cutter" = some m.cls := findClass_of_methodNamed B.named
  have hlocks := B.notSynchronized
  have hin : meth.name = "<init>" := (name_of_methodNamed B.named B.method).1
  subst hsz
  have hD := hD0.self (sz := s.heap.size)
  generalize hAe : va_A [] s.heap.size = A at hD ⊢
  have hA : ∀ q : Nat, s.heap.size ≤ q → A q := fun q h => by rw [← hAe]; exact Or.inr h
  have hS : va_S A s.heap s.heap [] := va_S.rf
  have hP : va_P D xcl [] s.heap := hP
  have hl := lv_entry ([.ref h0]) (n := 1) (Nat.le_of_ble_eq_true rfl)
  rw [lg_entry_eq]
  generalize (lg_sl ([.ref h0]) ++ List.replicate (1 - (lg_sl ([.ref h0])).length) Slot.unset).toArray = ls at hl ⊢
  have hl : lv_has ls 1 [(0, .ref h0)] := hl
  refine lv_aload_n hx hb kd_Cutter_0 rfl (lv_at hl 0 rfl) ?_
  have hPc := hP.sub (ws' := []) [] rfl
  have hDc := hD.sub (ws' := []) [] (by decide) rfl
  have hFc := va_free (wc := []) hD hS hA [] rfl
  refine va_callv (va_runIN (As := []) (rest := []) ⟨hx, hb, hml, hown, ht2⟩ (c_Person l D cA h0 s.heap.size) (kwN ht2 xi_126 xi_93 xi_148 xi_125 ⟨(Nat.le_of_ble_eq_true rfl), (Nat.le_of_ble_eq_true rfl)⟩) ⟨kBl, fun U hU hW => ⟨rfl, by rw [hU], by rw [hU]; exact hPc, va_K.moved hW.alike hK, hDc.weaken (fun _ _ _ _ => trivial)⟩⟩ rfl rfl hl.1 rfl (lv_room (Nat.le_of_ble_eq_true rfl)) kd_Cutter_1 ⟨(Nat.le_of_ble_eq_true rfl), (Nat.le_of_ble_eq_true rfl)⟩) hS (fun q _ h => hFc q h) hFc (fun v1 t H1 locs ht hvm _ hB hz1 hk1 hS => ?_)
  obtain ⟨hP1, hK1, hD1⟩ := hB
  rw [ht] at hP1
  obtain ⟨hP, hD⟩ := va_join (wr := []) (w1 := []) hP hD [] [] rfl rfl (by decide) (by decide) hk1 hFc hP1 hD1
  clear hPc hDc hFc hk1 hz1 hP1 hD1 hK1 ht hvm
  generalize H1 = H at hP hS ⊢
  have hP : va_P D xcl [] H := hP
  have hD : va_D A [] := hD
  refine W.widen (k := 0) (n := 0) (Nat.le_of_ble_eq_true rfl) (Nat.le_of_ble_eq_true rfl) ?_
  exact W.vret hx hb hr (fun t ht hW => ⟨⟨fun k => ([] : List Nat).getD k 0, rfl, trivial, by rw [ht]; exact hP, va_K.moved hW.alike hK, hD⟩, hS.F ht⟩) hS.2.2 kd_Cutter_4
abbrev y_Doctor : MethodName := ⟨"RopeShore$Doctor", "<init>", "()V"⟩
abbrev kw_Doctor : List Cond := .code y_Doctor prog_3_method_1_code 1 none :: xT2
theorem kd_Doctor_0 : decode prog_3_method_1_code 0 = .ok (.aload_n 0, 1) := by decide +kernel
theorem kd_Doctor_1 : decode prog_3_method_1_code 1 = .ok (.invokespecial 1, 3) := by decide +kernel
theorem kd_Doctor_4 : decode prog_3_method_1_code 4 = .ok (.return_, 1) := by decide +kernel
abbrev kL_Doctor (cA : Nat → ClassId) (h0 : Nat) (u : Nat → Nat) : va_W := []
set_option maxHeartbeats 8000000 in
set_option maxRecDepth 100000 in
theorem c_Doctor (l : Launch) (D : va_G) (cA : Nat → ClassId) (h0 sz : Nat) : Met l y_Doctor kw_Doctor ({ frames := 3, cells := 0, slots := 0, locals := 52 }) (kPc D cA [] h0 sz) (kQ D cA (kL_Doctor cA h0) (va_A [] sz)) 0 0 (va_A [] sz) := by
  refine Met.ofW (cc := prog_3_method_1_code) (maxL := 1) (ret := none) (by decide) rfl ?_
  intro p e s m args below meth c s₁ B hml hv
  obtain ⟨rfl, hsz, hP, hK, hD0⟩ := hv
  have hx := B.exec
  have hb := B.bytes
  have hr := B.returns
  have hts := atoms_spec (ws := kw_Doctor) B.pre
  have ht2 : ∀ w ∈ xT2, w.before #[.ref h0] s = true := fun w h => hts w (List.mem_cons_of_mem _ h)
  have hown : s.vm.findClass "RopeShore$Doctor" = some m.cls := findClass_of_methodNamed B.named
  have hlocks := B.notSynchronized
  have hin : meth.name = "<init>" := (name_of_methodNamed B.named B.method).1
  subst hsz
  have hD := hD0.self (sz := s.heap.size)
  generalize hAe : va_A [] s.heap.size = A at hD ⊢
  have hA : ∀ q : Nat, s.heap.size ≤ q → A q := fun q h => by rw [← hAe]; exact Or.inr h
  have hS : va_S A s.heap s.heap [] := va_S.rf
  have hP : va_P D xcl [] s.heap := hP
  have hl := lv_entry ([.ref h0]) (n := 1) (Nat.le_of_ble_eq_true rfl)
  rw [lg_entry_eq]
  generalize (lg_sl ([.ref h0]) ++ List.replicate (1 - (lg_sl ([.ref h0])).length) Slot.unset).toArray = ls at hl ⊢
  have hl : lv_has ls 1 [(0, .ref h0)] := hl
  refine lv_aload_n hx hb kd_Doctor_0 rfl (lv_at hl 0 rfl) ?_
  have hPc := hP.sub (ws' := []) [] rfl
  have hDc := hD.sub (ws' := []) [] (by decide) rfl
  have hFc := va_free (wc := []) hD hS hA [] rfl
  refine va_callv (va_runIN (As := []) (rest := []) ⟨hx, hb, hml, hown, ht2⟩ (c_Gossip l D cA h0 s.heap.size) (kwN ht2 xi_133 xi_94 xi_155 xi_132 ⟨(Nat.le_of_ble_eq_true rfl), (Nat.le_of_ble_eq_true rfl)⟩) ⟨kBl, fun U hU hW => ⟨rfl, by rw [hU], by rw [hU]; exact hPc, va_K.moved hW.alike hK, hDc.weaken (fun _ _ _ _ => trivial)⟩⟩ rfl rfl hl.1 rfl (lv_room (Nat.le_of_ble_eq_true rfl)) kd_Doctor_1 ⟨(Nat.le_of_ble_eq_true rfl), (Nat.le_of_ble_eq_true rfl)⟩) hS (fun q _ h => hFc q h) hFc (fun v1 t H1 locs ht hvm _ hB hz1 hk1 hS => ?_)
  obtain ⟨hP1, hK1, hD1⟩ := hB
  rw [ht] at hP1
  obtain ⟨hP, hD⟩ := va_join (wr := []) (w1 := []) hP hD [] [] rfl rfl (by decide) (by decide) hk1 hFc hP1 hD1
  clear hPc hDc hFc hk1 hz1 hP1 hD1 hK1 ht hvm
  generalize H1 = H at hP hS ⊢
  have hP : va_P D xcl [] H := hP
  have hD : va_D A [] := hD
  refine W.widen (k := 0) (n := 0) (Nat.le_of_ble_eq_true rfl) (Nat.le_of_ble_eq_true rfl) ?_
  exact W.vret hx hb hr (fun t ht hW => ⟨⟨fun k => ([] : List Nat).getD k 0, rfl, trivial, by rw [ht]; exact hP, va_K.moved hW.alike hK, hD⟩, hS.F ht⟩) hS.2.2 kd_Doctor_4
abbrev y_Judge : MethodName := ⟨"RopeShore$Judge", "<init>", "()V"⟩
abbrev kw_Judge : List Cond := .code y_Judge prog_5_method_1_code 1 none :: xT2
theorem kd_Judge_0 : decode prog_5_method_1_code 0 = .ok (.aload_n 0, 1) := by decide +kernel
theorem kd_Judge_1 : decode prog_5_method_1_code 1 = .ok (.invokespecial 1, 3) := by decide +kernel
theorem kd_Judge_4 : decode prog_5_method_1_code 4 = .ok (.return_, 1) := by decide +kernel
abbrev kL_Judge (cA : Nat → ClassId) (h0 : Nat) (u : Nat → Nat) : va_W := []
set_option maxHeartbeats 8000000 in
set_option maxRecDepth 100000 in
theorem c_Judge (l : Launch) (D : va_G) (cA : Nat → ClassId) (h0 sz : Nat) : Met l y_Judge kw_Judge ({ frames := 3, cells := 0, slots := 0, locals := 52 }) (kPc D cA [] h0 sz) (kQ D cA (kL_Judge cA h0) (va_A [] sz)) 0 0 (va_A [] sz) := by
  refine Met.ofW (cc := prog_5_method_1_code) (maxL := 1) (ret := none) (by decide) rfl ?_
  intro p e s m args below meth c s₁ B hml hv
  obtain ⟨rfl, hsz, hP, hK, hD0⟩ := hv
  have hx := B.exec
  have hb := B.bytes
  have hr := B.returns
  have hts := atoms_spec (ws := kw_Judge) B.pre
  have ht2 : ∀ w ∈ xT2, w.before #[.ref h0] s = true := fun w h => hts w (List.mem_cons_of_mem _ h)
  have hown : s.vm.findClass "RopeShore$Judge" = some m.cls := findClass_of_methodNamed B.named
  have hlocks := B.notSynchronized
  have hin : meth.name = "<init>" := (name_of_methodNamed B.named B.method).1
  subst hsz
  have hD := hD0.self (sz := s.heap.size)
  generalize hAe : va_A [] s.heap.size = A at hD ⊢
  have hA : ∀ q : Nat, s.heap.size ≤ q → A q := fun q h => by rw [← hAe]; exact Or.inr h
  have hS : va_S A s.heap s.heap [] := va_S.rf
  have hP : va_P D xcl [] s.heap := hP
  have hl := lv_entry ([.ref h0]) (n := 1) (Nat.le_of_ble_eq_true rfl)
  rw [lg_entry_eq]
  generalize (lg_sl ([.ref h0]) ++ List.replicate (1 - (lg_sl ([.ref h0])).length) Slot.unset).toArray = ls at hl ⊢
  have hl : lv_has ls 1 [(0, .ref h0)] := hl
  refine lv_aload_n hx hb kd_Judge_0 rfl (lv_at hl 0 rfl) ?_
  have hPc := hP.sub (ws' := []) [] rfl
  have hDc := hD.sub (ws' := []) [] (by decide) rfl
  have hFc := va_free (wc := []) hD hS hA [] rfl
  refine va_callv (va_runIN (As := []) (rest := []) ⟨hx, hb, hml, hown, ht2⟩ (c_Mayor l D cA h0 s.heap.size) (kwN ht2 xi_140 xi_95 xi_162 xi_139 ⟨(Nat.le_of_ble_eq_true rfl), (Nat.le_of_ble_eq_true rfl)⟩) ⟨kBl, fun U hU hW => ⟨rfl, by rw [hU], by rw [hU]; exact hPc, va_K.moved hW.alike hK, hDc.weaken (fun _ _ _ _ => trivial)⟩⟩ rfl rfl hl.1 rfl (lv_room (Nat.le_of_ble_eq_true rfl)) kd_Judge_1 ⟨(Nat.le_of_ble_eq_true rfl), (Nat.le_of_ble_eq_true rfl)⟩) hS (fun q _ h => hFc q h) hFc (fun v1 t H1 locs ht hvm _ hB hz1 hk1 hS => ?_)
  obtain ⟨hP1, hK1, hD1⟩ := hB
  rw [ht] at hP1
  obtain ⟨hP, hD⟩ := va_join (wr := []) (w1 := []) hP hD [] [] rfl rfl (by decide) (by decide) hk1 hFc hP1 hD1
  clear hPc hDc hFc hk1 hz1 hP1 hD1 hK1 ht hvm
  generalize H1 = H at hP hS ⊢
  have hP : va_P D xcl [] H := hP
  have hD : va_D A [] := hD
  refine W.widen (k := 0) (n := 0) (Nat.le_of_ble_eq_true rfl) (Nat.le_of_ble_eq_true rfl) ?_
  exact W.vret hx hb hr (fun t ht hW => ⟨⟨fun k => ([] : List Nat).getD k 0, rfl, trivial, by rw [ht]; exact hP, va_K.moved hW.alike hK, hD⟩, hS.F ht⟩) hS.2.2 kd_Judge_4
abbrev y_Widow : MethodName := ⟨"RopeShore$Widow", "<init>", "()V"⟩
abbrev kw_Widow : List Cond := .code y_Widow prog_12_method_1_code 1 none :: xT2
theorem kd_Widow_0 : decode prog_12_method_1_code 0 = .ok (.aload_n 0, 1) := by decide +kernel
theorem kd_Widow_1 : decode prog_12_method_1_code 1 = .ok (.invokespecial 1, 3) := by decide +kernel
theorem kd_Widow_4 : decode prog_12_method_1_code 4 = .ok (.return_, 1) := by decide +kernel
abbrev kL_Widow (cA : Nat → ClassId) (h0 : Nat) (u : Nat → Nat) : va_W := []
set_option maxHeartbeats 8000000 in
set_option maxRecDepth 100000 in
theorem c_Widow (l : Launch) (D : va_G) (cA : Nat → ClassId) (h0 sz : Nat) : Met l y_Widow kw_Widow ({ frames := 2, cells := 0, slots := 0, locals := 32 }) (kPc D cA [] h0 sz) (kQ D cA (kL_Widow cA h0) (va_A [] sz)) 0 0 (va_A [] sz) := by
  refine Met.ofW (cc := prog_12_method_1_code) (maxL := 1) (ret := none) (by decide) rfl ?_
  intro p e s m args below meth c s₁ B hml hv
  obtain ⟨rfl, hsz, hP, hK, hD0⟩ := hv
  have hx := B.exec
  have hb := B.bytes
  have hr := B.returns
  have hts := atoms_spec (ws := kw_Widow) B.pre
  have ht2 : ∀ w ∈ xT2, w.before #[.ref h0] s = true := fun w h => hts w (List.mem_cons_of_mem _ h)
  have hown : s.vm.findClass "RopeShore$Widow" = some m.cls := findClass_of_methodNamed B.named
  have hlocks := B.notSynchronized
  have hin : meth.name = "<init>" := (name_of_methodNamed B.named B.method).1
  subst hsz
  have hD := hD0.self (sz := s.heap.size)
  generalize hAe : va_A [] s.heap.size = A at hD ⊢
  have hA : ∀ q : Nat, s.heap.size ≤ q → A q := fun q h => by rw [← hAe]; exact Or.inr h
  have hS : va_S A s.heap s.heap [] := va_S.rf
  have hP : va_P D xcl [] s.heap := hP
  have hl := lv_entry ([.ref h0]) (n := 1) (Nat.le_of_ble_eq_true rfl)
  rw [lg_entry_eq]
  generalize (lg_sl ([.ref h0]) ++ List.replicate (1 - (lg_sl ([.ref h0])).length) Slot.unset).toArray = ls at hl ⊢
  have hl : lv_has ls 1 [(0, .ref h0)] := hl
  refine lv_aload_n hx hb kd_Widow_0 rfl (lv_at hl 0 rfl) ?_
  have hPc := hP.sub (ws' := []) [] rfl
  have hDc := hD.sub (ws' := []) [] (by decide) rfl
  have hFc := va_free (wc := []) hD hS hA [] rfl
  refine va_callv (va_runIN (As := []) (rest := []) ⟨hx, hb, hml, hown, ht2⟩ (c_Person l D cA h0 s.heap.size) (kwN ht2 xi_126 xi_93 xi_169 xi_125 ⟨(Nat.le_of_ble_eq_true rfl), (Nat.le_of_ble_eq_true rfl)⟩) ⟨kBl, fun U hU hW => ⟨rfl, by rw [hU], by rw [hU]; exact hPc, va_K.moved hW.alike hK, hDc.weaken (fun _ _ _ _ => trivial)⟩⟩ rfl rfl hl.1 rfl (lv_room (Nat.le_of_ble_eq_true rfl)) kd_Widow_1 ⟨(Nat.le_of_ble_eq_true rfl), (Nat.le_of_ble_eq_true rfl)⟩) hS (fun q _ h => hFc q h) hFc (fun v1 t H1 locs ht hvm _ hB hz1 hk1 hS => ?_)
  obtain ⟨hP1, hK1, hD1⟩ := hB
  rw [ht] at hP1
  obtain ⟨hP, hD⟩ := va_join (wr := []) (w1 := []) hP hD [] [] rfl rfl (by decide) (by decide) hk1 hFc hP1 hD1
  clear hPc hDc hFc hk1 hz1 hP1 hD1 hK1 ht hvm
  generalize H1 = H at hP hS ⊢
  have hP : va_P D xcl [] H := hP
  have hD : va_D A [] := hD
  refine W.widen (k := 0) (n := 0) (Nat.le_of_ble_eq_true rfl) (Nat.le_of_ble_eq_true rfl) ?_
  exact W.vret hx hb hr (fun t ht hW => ⟨⟨fun k => ([] : List Nat).getD k 0, rfl, trivial, by rw [ht]; exact hP, va_K.moved hW.alike hK, hD⟩, hS.F ht⟩) hS.2.2 kd_Widow_4
abbrev y_Text : MethodName := ⟨"RopeShore$Text", "<init>", "()V"⟩
abbrev kw_Text : List Cond := .code y_Text prog_10_method_1_code 1 none :: xT2
theorem kd_Text_0 : decode prog_10_method_1_code 0 = .ok (.aload_n 0, 1) := by decide +kernel
theorem kd_Text_1 : decode prog_10_method_1_code 1 = .ok (.invokespecial 3, 3) := by decide +kernel
theorem kd_Text_4 : decode prog_10_method_1_code 4 = .ok (.aload_n 0, 1) := by decide +kernel
theorem kd_Text_5 : decode prog_10_method_1_code 5 = .ok (.bipush 60, 2) := by decide +kernel
theorem kd_Text_7 : decode prog_10_method_1_code 7 = .ok (.newarray .int, 2) := by decide +kernel
theorem kd_Text_9 : decode prog_10_method_1_code 9 = .ok (.putfield 9, 3) := by decide +kernel
theorem kd_Text_12 : decode prog_10_method_1_code 12 = .ok (.aload_n 0, 1) := by decide +kernel
theorem kd_Text_13 : decode prog_10_method_1_code 13 = .ok (.bipush 60, 2) := by decide +kernel
theorem kd_Text_15 : decode prog_10_method_1_code 15 = .ok (.newarray .int, 2) := by decide +kernel
theorem kd_Text_17 : decode prog_10_method_1_code 17 = .ok (.putfield 15, 3) := by decide +kernel
theorem kd_Text_20 : decode prog_10_method_1_code 20 = .ok (.aload_n 0, 1) := by decide +kernel
theorem kd_Text_21 : decode prog_10_method_1_code 21 = .ok (.bipush 60, 2) := by decide +kernel
theorem kd_Text_23 : decode prog_10_method_1_code 23 = .ok (.newarray .byte, 2) := by decide +kernel
theorem kd_Text_25 : decode prog_10_method_1_code 25 = .ok (.putfield 18, 3) := by decide +kernel
theorem kd_Text_28 : decode prog_10_method_1_code 28 = .ok (.aload_n 0, 1) := by decide +kernel
theorem kd_Text_29 : decode prog_10_method_1_code 29 = .ok (.iconst 0, 1) := by decide +kernel
theorem kd_Text_30 : decode prog_10_method_1_code 30 = .ok (.putfield 22, 3) := by decide +kernel
theorem kd_Text_33 : decode prog_10_method_1_code 33 = .ok (.aload_n 0, 1) := by decide +kernel
theorem kd_Text_34 : decode prog_10_method_1_code 34 = .ok (.iconst 0, 1) := by decide +kernel
theorem kd_Text_35 : decode prog_10_method_1_code 35 = .ok (.putfield 26, 3) := by decide +kernel
theorem kd_Text_38 : decode prog_10_method_1_code 38 = .ok (.aload_n 0, 1) := by decide +kernel
theorem kd_Text_39 : decode prog_10_method_1_code 39 = .ok (.iconst 0, 1) := by decide +kernel
theorem kd_Text_40 : decode prog_10_method_1_code 40 = .ok (.putfield 29, 3) := by decide +kernel
theorem kd_Text_43 : decode prog_10_method_1_code 43 = .ok (.aload_n 0, 1) := by decide +kernel
theorem kd_Text_44 : decode prog_10_method_1_code 44 = .ok (.iconst 0, 1) := by decide +kernel
theorem kd_Text_45 : decode prog_10_method_1_code 45 = .ok (.putfield 32, 3) := by decide +kernel
theorem kd_Text_48 : decode prog_10_method_1_code 48 = .ok (.aload_n 0, 1) := by decide +kernel
theorem kd_Text_49 : decode prog_10_method_1_code 49 = .ok (.iconst 0, 1) := by decide +kernel
theorem kd_Text_50 : decode prog_10_method_1_code 50 = .ok (.putfield 35, 3) := by decide +kernel
theorem kd_Text_53 : decode prog_10_method_1_code 53 = .ok (.return_, 1) := by decide +kernel
abbrev kL_Text (cA : Nat → ClassId) (h0 : Nat) (u : Nat → Nat) : va_W := [(h0, .inr (2, [.ref (u 0), .ref (u 1), .ref (u 2), .int 0, .int 0, .int 0, .int 0, .int 0])), ((u 0), .inl (cA 0, 60, .inl (fun _ => 0))), ((u 1), .inl (cA 0, 60, .inl (fun _ => 0))), ((u 2), .inl (cA 1, 60, .inl (fun _ => 0)))]
set_option maxHeartbeats 8000000 in
set_option maxRecDepth 100000 in
theorem c_Text (l : Launch) (D : va_G) (cA : Nat → ClassId) (h0 sz : Nat) : Met l y_Text kw_Text ({ frames := 1, cells := 3, slots := 180, locals := 12 }) (kPc D cA [(h0, .inr (2, [.null, .null, .null, .int 0, .int 0, .int 0, .int 0, .int 0]))] h0 sz) (kQ D cA (kL_Text cA h0) (va_A [(h0, .inr (2, [.null, .null, .null, .int 0, .int 0, .int 0, .int 0, .int 0]))] sz)) 3 180 (va_A [(h0, .inr (2, [.null, .null, .null, .int 0, .int 0, .int 0, .int 0, .int 0]))] sz) := by
  refine Met.ofW (cc := prog_10_method_1_code) (maxL := 1) (ret := none) (by decide) rfl ?_
  intro p e s m args below meth c s₁ B hml hv
  obtain ⟨rfl, hsz, hP, hK, hD0⟩ := hv
  have hx := B.exec
  have hb := B.bytes
  have hr := B.returns
  have hts := atoms_spec (ws := kw_Text) B.pre
  have ht2 : ∀ w ∈ xT2, w.before #[.ref h0] s = true := fun w h => hts w (List.mem_cons_of_mem _ h)
  have hown : s.vm.findClass "RopeShore$Text" = some m.cls := findClass_of_methodNamed B.named
  have hlocks := B.notSynchronized
  have hin : meth.name = "<init>" := (name_of_methodNamed B.named B.method).1
  subst hsz
  have hD := hD0.self (sz := s.heap.size)
  generalize hAe : va_A [(h0, .inr (2, [.null, .null, .null, .int 0, .int 0, .int 0, .int 0, .int 0]))] s.heap.size = A at hD ⊢
  have hA : ∀ q : Nat, s.heap.size ≤ q → A q := fun q h => by rw [← hAe]; exact Or.inr h
  have hS : va_S A s.heap s.heap [] := va_S.rf
  have hP : va_P D xcl [(h0, .inr (2, [.null, .null, .null, .int 0, .int 0, .int 0, .int 0, .int 0]))] s.heap := hP
  have hl := lv_entry ([.ref h0]) (n := 1) (Nat.le_of_ble_eq_true rfl)
  rw [lg_entry_eq]
  generalize (lg_sl ([.ref h0]) ++ List.replicate (1 - (lg_sl ([.ref h0])).length) Slot.unset).toArray = ls at hl ⊢
  have hl : lv_has ls 1 [(0, .ref h0)] := hl
  refine lv_aload_n hx hb kd_Text_0 rfl (lv_at hl 0 rfl) ?_
  refine W.objInit hx hb hown (ht2 _ xi_177) (ht2 _ xi_113) (ht2 _ xi_obj) rfl (by rw [hml]; exact hl.1) rfl kd_Text_1 (Nat.le_of_ble_eq_true rfl) (Nat.le_of_ble_eq_true rfl) ?_
  refine W.eq (g2 := F0 m 4 ls []) rfl ?_
  refine lv_aload_n hx hb kd_Text_4 rfl (lv_at hl 0 rfl) ?_
  refine lv_bipush (v := 60) hx hb kd_Text_5 (by decide +kernel) ?_
  refine va_newa (atype := .int) (ty := .int) (N' := 60) (a0 := (60, .inl (fun _ => 0))) hx hb (ht2 _ xi_203) rfl hK hP hD hS hA (fun _ => rfl) (by decide) (by decide +kernel) (by decide) (Nat.le_of_ble_eq_true rfl) (Nat.le_of_ble_eq_true rfl) kd_Text_7 (fun q7 c7 H hK7 hP hD hS => ?_)
  obtain rfl : c7 = cA 0 := kU_0 hK7
  have hP : va_P D xcl [(h0, .inr (2, [.null, .null, .null, .int 0, .int 0, .int 0, .int 0, .int 0])), (q7, .inl (cA 0, 60, .inl (fun _ => 0)))] H := hP
  have hD : va_D A [(h0, .inr (2, [.null, .null, .null, .int 0, .int 0, .int 0, .int 0, .int 0])), (q7, .inl (cA 0, 60, .inl (fun _ => 0)))] := hD
  refine va_putF (D := D) (ci := 2) (v := .ref q7) (ty := xG2 0) (C := "RopeShore$Text") (T := xF2) (N := 8) hx hb ht2 kx_2 xG2 xty2 xnm2 hown hK hP hD hS 0 rfl rfl 0 (by decide) (ht2 _ xi_178) (fun _ h9 => h9) rfl hin rfl (xty2 0 (by decide)) rfl rfl (Nat.le_of_ble_eq_true rfl) kd_Text_9 (fun H locs hP hD hS => ?_)
  have hP : va_P D xcl [(h0, .inr (2, [.ref q7, .null, .null, .int 0, .int 0, .int 0, .int 0, .int 0])), (q7, .inl (cA 0, 60, .inl (fun _ => 0)))] H := hP
  have hD : va_D A [(h0, .inr (2, [.ref q7, .null, .null, .int 0, .int 0, .int 0, .int 0, .int 0])), (q7, .inl (cA 0, 60, .inl (fun _ => 0)))] := hD
  refine lv_aload_n hx hb kd_Text_12 rfl (lv_at hl 0 rfl) ?_
  refine lv_bipush (v := 60) hx hb kd_Text_13 (by decide +kernel) ?_
  refine va_newa (atype := .int) (ty := .int) (N' := 60) (a0 := (60, .inl (fun _ => 0))) hx hb (ht2 _ xi_203) rfl hK hP hD hS hA (fun _ => rfl) (by decide) (by decide +kernel) (by decide) (Nat.le_of_ble_eq_true rfl) (Nat.le_of_ble_eq_true rfl) kd_Text_15 (fun q15 c15 H hK15 hP hD hS => ?_)
  obtain rfl : c15 = cA 0 := kU_0 hK15
  have hP : va_P D xcl [(h0, .inr (2, [.ref q7, .null, .null, .int 0, .int 0, .int 0, .int 0, .int 0])), (q7, .inl (cA 0, 60, .inl (fun _ => 0))), (q15, .inl (cA 0, 60, .inl (fun _ => 0)))] H := hP
  have hD : va_D A [(h0, .inr (2, [.ref q7, .null, .null, .int 0, .int 0, .int 0, .int 0, .int 0])), (q7, .inl (cA 0, 60, .inl (fun _ => 0))), (q15, .inl (cA 0, 60, .inl (fun _ => 0)))] := hD
  refine va_putF (D := D) (ci := 2) (v := .ref q15) (ty := xG2 1) (C := "RopeShore$Text") (T := xF2) (N := 8) hx hb ht2 kx_2 xG2 xty2 xnm2 hown hK hP hD hS 0 rfl rfl 1 (by decide) (ht2 _ xi_179) (fun _ h9 => h9) rfl hin rfl (xty2 1 (by decide)) rfl rfl (Nat.le_of_ble_eq_true rfl) kd_Text_17 (fun H locs hP hD hS => ?_)
  have hP : va_P D xcl [(h0, .inr (2, [.ref q7, .ref q15, .null, .int 0, .int 0, .int 0, .int 0, .int 0])), (q7, .inl (cA 0, 60, .inl (fun _ => 0))), (q15, .inl (cA 0, 60, .inl (fun _ => 0)))] H := hP
  have hD : va_D A [(h0, .inr (2, [.ref q7, .ref q15, .null, .int 0, .int 0, .int 0, .int 0, .int 0])), (q7, .inl (cA 0, 60, .inl (fun _ => 0))), (q15, .inl (cA 0, 60, .inl (fun _ => 0)))] := hD
  refine lv_aload_n hx hb kd_Text_20 rfl (lv_at hl 0 rfl) ?_
  refine lv_bipush (v := 60) hx hb kd_Text_21 (by decide +kernel) ?_
  refine va_newa (atype := .byte) (ty := .byte) (N' := 60) (a0 := (60, .inl (fun _ => 0))) hx hb (ht2 _ xi_205) rfl hK hP hD hS hA (fun _ => rfl) (by decide) (by decide +kernel) (by decide) (Nat.le_of_ble_eq_true rfl) (Nat.le_of_ble_eq_true rfl) kd_Text_23 (fun q23 c23 H hK23 hP hD hS => ?_)
  obtain rfl : c23 = cA 1 := kU_1 hK23
  have hP : va_P D xcl [(h0, .inr (2, [.ref q7, .ref q15, .null, .int 0, .int 0, .int 0, .int 0, .int 0])), (q7, .inl (cA 0, 60, .inl (fun _ => 0))), (q15, .inl (cA 0, 60, .inl (fun _ => 0))), (q23, .inl (cA 1, 60, .inl (fun _ => 0)))] H := hP
  have hD : va_D A [(h0, .inr (2, [.ref q7, .ref q15, .null, .int 0, .int 0, .int 0, .int 0, .int 0])), (q7, .inl (cA 0, 60, .inl (fun _ => 0))), (q15, .inl (cA 0, 60, .inl (fun _ => 0))), (q23, .inl (cA 1, 60, .inl (fun _ => 0)))] := hD
  refine va_putF (D := D) (ci := 2) (v := .ref q23) (ty := xG2 2) (C := "RopeShore$Text") (T := xF2) (N := 8) hx hb ht2 kx_2 xG2 xty2 xnm2 hown hK hP hD hS 0 rfl rfl 2 (by decide) (ht2 _ xi_180) (fun _ h9 => h9) rfl hin rfl (xty2 2 (by decide)) rfl rfl (Nat.le_of_ble_eq_true rfl) kd_Text_25 (fun H locs hP hD hS => ?_)
  have hP : va_P D xcl [(h0, .inr (2, [.ref q7, .ref q15, .ref q23, .int 0, .int 0, .int 0, .int 0, .int 0])), (q7, .inl (cA 0, 60, .inl (fun _ => 0))), (q15, .inl (cA 0, 60, .inl (fun _ => 0))), (q23, .inl (cA 1, 60, .inl (fun _ => 0)))] H := hP
  have hD : va_D A [(h0, .inr (2, [.ref q7, .ref q15, .ref q23, .int 0, .int 0, .int 0, .int 0, .int 0])), (q7, .inl (cA 0, 60, .inl (fun _ => 0))), (q15, .inl (cA 0, 60, .inl (fun _ => 0))), (q23, .inl (cA 1, 60, .inl (fun _ => 0)))] := hD
  refine lv_aload_n hx hb kd_Text_28 rfl (lv_at hl 0 rfl) ?_
  refine lv_iconst (v := 0) hx hb kd_Text_29 (by decide) ?_
  refine va_put (D := D) (ci := 2) (v := .int 0) (ty := xG2 3) (C := "RopeShore$Text") (T := xF2) (N := 8) hx hb ht2 kx_2 xG2 xty2 xnm2 hown hK hP hD hS 0 rfl rfl 3 (by decide) (ht2 _ xi_181) (fun _ h9 => h9) rfl (xty2 3 (by decide)) rfl rfl (Nat.le_of_ble_eq_true rfl) kd_Text_30 (fun H locs hP hD hS => ?_)
  have hP : va_P D xcl [(h0, .inr (2, [.ref q7, .ref q15, .ref q23, .int 0, .int 0, .int 0, .int 0, .int 0])), (q7, .inl (cA 0, 60, .inl (fun _ => 0))), (q15, .inl (cA 0, 60, .inl (fun _ => 0))), (q23, .inl (cA 1, 60, .inl (fun _ => 0)))] H := hP
  have hD : va_D A [(h0, .inr (2, [.ref q7, .ref q15, .ref q23, .int 0, .int 0, .int 0, .int 0, .int 0])), (q7, .inl (cA 0, 60, .inl (fun _ => 0))), (q15, .inl (cA 0, 60, .inl (fun _ => 0))), (q23, .inl (cA 1, 60, .inl (fun _ => 0)))] := hD
  refine lv_aload_n hx hb kd_Text_33 rfl (lv_at hl 0 rfl) ?_
  refine lv_iconst (v := 0) hx hb kd_Text_34 (by decide) ?_
  refine va_put (D := D) (ci := 2) (v := .int 0) (ty := xG2 4) (C := "RopeShore$Text") (T := xF2) (N := 8) hx hb ht2 kx_2 xG2 xty2 xnm2 hown hK hP hD hS 0 rfl rfl 4 (by decide) (ht2 _ xi_182) (fun _ h9 => h9) rfl (xty2 4 (by decide)) rfl rfl (Nat.le_of_ble_eq_true rfl) kd_Text_35 (fun H locs hP hD hS => ?_)
  have hP : va_P D xcl [(h0, .inr (2, [.ref q7, .ref q15, .ref q23, .int 0, .int 0, .int 0, .int 0, .int 0])), (q7, .inl (cA 0, 60, .inl (fun _ => 0))), (q15, .inl (cA 0, 60, .inl (fun _ => 0))), (q23, .inl (cA 1, 60, .inl (fun _ => 0)))] H := hP
  have hD : va_D A [(h0, .inr (2, [.ref q7, .ref q15, .ref q23, .int 0, .int 0, .int 0, .int 0, .int 0])), (q7, .inl (cA 0, 60, .inl (fun _ => 0))), (q15, .inl (cA 0, 60, .inl (fun _ => 0))), (q23, .inl (cA 1, 60, .inl (fun _ => 0)))] := hD
  refine lv_aload_n hx hb kd_Text_38 rfl (lv_at hl 0 rfl) ?_
  refine lv_iconst (v := 0) hx hb kd_Text_39 (by decide) ?_
  refine va_put (D := D) (ci := 2) (v := .int 0) (ty := xG2 5) (C := "RopeShore$Text") (T := xF2) (N := 8) hx hb ht2 kx_2 xG2 xty2 xnm2 hown hK hP hD hS 0 rfl rfl 5 (by decide) (ht2 _ xi_183) (fun _ h9 => h9) rfl (xty2 5 (by decide)) rfl rfl (Nat.le_of_ble_eq_true rfl) kd_Text_40 (fun H locs hP hD hS => ?_)
  have hP : va_P D xcl [(h0, .inr (2, [.ref q7, .ref q15, .ref q23, .int 0, .int 0, .int 0, .int 0, .int 0])), (q7, .inl (cA 0, 60, .inl (fun _ => 0))), (q15, .inl (cA 0, 60, .inl (fun _ => 0))), (q23, .inl (cA 1, 60, .inl (fun _ => 0)))] H := hP
  have hD : va_D A [(h0, .inr (2, [.ref q7, .ref q15, .ref q23, .int 0, .int 0, .int 0, .int 0, .int 0])), (q7, .inl (cA 0, 60, .inl (fun _ => 0))), (q15, .inl (cA 0, 60, .inl (fun _ => 0))), (q23, .inl (cA 1, 60, .inl (fun _ => 0)))] := hD
  refine lv_aload_n hx hb kd_Text_43 rfl (lv_at hl 0 rfl) ?_
  refine lv_iconst (v := 0) hx hb kd_Text_44 (by decide) ?_
  refine va_put (D := D) (ci := 2) (v := .int 0) (ty := xG2 6) (C := "RopeShore$Text") (T := xF2) (N := 8) hx hb ht2 kx_2 xG2 xty2 xnm2 hown hK hP hD hS 0 rfl rfl 6 (by decide) (ht2 _ xi_184) (fun _ h9 => h9) rfl (xty2 6 (by decide)) rfl rfl (Nat.le_of_ble_eq_true rfl) kd_Text_45 (fun H locs hP hD hS => ?_)
  have hP : va_P D xcl [(h0, .inr (2, [.ref q7, .ref q15, .ref q23, .int 0, .int 0, .int 0, .int 0, .int 0])), (q7, .inl (cA 0, 60, .inl (fun _ => 0))), (q15, .inl (cA 0, 60, .inl (fun _ => 0))), (q23, .inl (cA 1, 60, .inl (fun _ => 0)))] H := hP
  have hD : va_D A [(h0, .inr (2, [.ref q7, .ref q15, .ref q23, .int 0, .int 0, .int 0, .int 0, .int 0])), (q7, .inl (cA 0, 60, .inl (fun _ => 0))), (q15, .inl (cA 0, 60, .inl (fun _ => 0))), (q23, .inl (cA 1, 60, .inl (fun _ => 0)))] := hD
  refine lv_aload_n hx hb kd_Text_48 rfl (lv_at hl 0 rfl) ?_
  refine lv_iconst (v := 0) hx hb kd_Text_49 (by decide) ?_
  refine va_put (D := D) (ci := 2) (v := .int 0) (ty := xG2 7) (C := "RopeShore$Text") (T := xF2) (N := 8) hx hb ht2 kx_2 xG2 xty2 xnm2 hown hK hP hD hS 0 rfl rfl 7 (by decide) (ht2 _ xi_185) (fun _ h9 => h9) rfl (xty2 7 (by decide)) rfl rfl (Nat.le_of_ble_eq_true rfl) kd_Text_50 (fun H locs hP hD hS => ?_)
  have hP : va_P D xcl [(h0, .inr (2, [.ref q7, .ref q15, .ref q23, .int 0, .int 0, .int 0, .int 0, .int 0])), (q7, .inl (cA 0, 60, .inl (fun _ => 0))), (q15, .inl (cA 0, 60, .inl (fun _ => 0))), (q23, .inl (cA 1, 60, .inl (fun _ => 0)))] H := hP
  have hD : va_D A [(h0, .inr (2, [.ref q7, .ref q15, .ref q23, .int 0, .int 0, .int 0, .int 0, .int 0])), (q7, .inl (cA 0, 60, .inl (fun _ => 0))), (q15, .inl (cA 0, 60, .inl (fun _ => 0))), (q23, .inl (cA 1, 60, .inl (fun _ => 0)))] := hD
  refine W.widen (k := 3) (n := 180) (Nat.le_of_ble_eq_true rfl) (Nat.le_of_ble_eq_true rfl) ?_
  exact W.vret hx hb hr (fun t ht hW => ⟨⟨fun k => ([q7, q15, q23] : List Nat).getD k 0, rfl, trivial, by rw [ht]; exact hP, va_K.moved hW.alike hK, hD⟩, hS.F ht⟩) hS.2.2 kd_Text_53
abbrev y_Sheet : MethodName := ⟨"RopeShore$Sheet", "<init>", "()V"⟩
abbrev kw_Sheet : List Cond := .code y_Sheet prog_8_method_1_code 1 none :: xT2
theorem kd_Sheet_0 : decode prog_8_method_1_code 0 = .ok (.aload_n 0, 1) := by decide +kernel
theorem kd_Sheet_1 : decode prog_8_method_1_code 1 = .ok (.invokespecial 3, 3) := by decide +kernel
theorem kd_Sheet_4 : decode prog_8_method_1_code 4 = .ok (.aload_n 0, 1) := by decide +kernel
theorem kd_Sheet_5 : decode prog_8_method_1_code 5 = .ok (.bipush 24, 2) := by decide +kernel
theorem kd_Sheet_7 : decode prog_8_method_1_code 7 = .ok (.newarray .int, 2) := by decide +kernel
theorem kd_Sheet_9 : decode prog_8_method_1_code 9 = .ok (.putfield 9, 3) := by decide +kernel
theorem kd_Sheet_12 : decode prog_8_method_1_code 12 = .ok (.aload_n 0, 1) := by decide +kernel
theorem kd_Sheet_13 : decode prog_8_method_1_code 13 = .ok (.iconst 0, 1) := by decide +kernel
theorem kd_Sheet_14 : decode prog_8_method_1_code 14 = .ok (.putfield 15, 3) := by decide +kernel
theorem kd_Sheet_17 : decode prog_8_method_1_code 17 = .ok (.aload_n 0, 1) := by decide +kernel
theorem kd_Sheet_18 : decode prog_8_method_1_code 18 = .ok (.iconst 0, 1) := by decide +kernel
theorem kd_Sheet_19 : decode prog_8_method_1_code 19 = .ok (.putfield 19, 3) := by decide +kernel
theorem kd_Sheet_22 : decode prog_8_method_1_code 22 = .ok (.return_, 1) := by decide +kernel
abbrev kL_Sheet (cA : Nat → ClassId) (h0 : Nat) (u : Nat → Nat) : va_W := [(h0, .inr (3, [.ref (u 0), .int 0, .int 0])), ((u 0), .inl (cA 0, 24, .inl (fun _ => 0)))]
set_option maxHeartbeats 8000000 in
set_option maxRecDepth 100000 in
theorem c_Sheet (l : Launch) (D : va_G) (cA : Nat → ClassId) (h0 sz : Nat) : Met l y_Sheet kw_Sheet ({ frames := 1, cells := 1, slots := 24, locals := 12 }) (kPc D cA [(h0, .inr (3, [.null, .int 0, .int 0]))] h0 sz) (kQ D cA (kL_Sheet cA h0) (va_A [(h0, .inr (3, [.null, .int 0, .int 0]))] sz)) 1 24 (va_A [(h0, .inr (3, [.null, .int 0, .int 0]))] sz) := by
  refine Met.ofW (cc := prog_8_method_1_code) (maxL := 1) (ret := none) (by decide) rfl ?_
  intro p e s m args below meth c s₁ B hml hv
  obtain ⟨rfl, hsz, hP, hK, hD0⟩ := hv
  have hx := B.exec
  have hb := B.bytes
  have hr := B.returns
  have hts := atoms_spec (ws := kw_Sheet) B.pre
  have ht2 : ∀ w ∈ xT2, w.before #[.ref h0] s = true := fun w h => hts w (List.mem_cons_of_mem _ h)
  have hown : s.vm.findClass "RopeShore$Sheet" = some m.cls := findClass_of_methodNamed B.named
  have hlocks := B.notSynchronized
  have hin : meth.name = "<init>" := (name_of_methodNamed B.named B.method).1
  subst hsz
  have hD := hD0.self (sz := s.heap.size)
  generalize hAe : va_A [(h0, .inr (3, [.null, .int 0, .int 0]))] s.heap.size = A at hD ⊢
  have hA : ∀ q : Nat, s.heap.size ≤ q → A q := fun q h => by rw [← hAe]; exact Or.inr h
  have hS : va_S A s.heap s.heap [] := va_S.rf
  have hP : va_P D xcl [(h0, .inr (3, [.null, .int 0, .int 0]))] s.heap := hP
  have hl := lv_entry ([.ref h0]) (n := 1) (Nat.le_of_ble_eq_true rfl)
  rw [lg_entry_eq]
  generalize (lg_sl ([.ref h0]) ++ List.replicate (1 - (lg_sl ([.ref h0])).length) Slot.unset).toArray = ls at hl ⊢
  have hl : lv_has ls 1 [(0, .ref h0)] := hl
  refine lv_aload_n hx hb kd_Sheet_0 rfl (lv_at hl 0 rfl) ?_
  refine W.objInit hx hb hown (ht2 _ xi_271) (ht2 _ xi_113) (ht2 _ xi_obj) rfl (by rw [hml]; exact hl.1) rfl kd_Sheet_1 (Nat.le_of_ble_eq_true rfl) (Nat.le_of_ble_eq_true rfl) ?_
  refine W.eq (g2 := F0 m 4 ls []) rfl ?_
  refine lv_aload_n hx hb kd_Sheet_4 rfl (lv_at hl 0 rfl) ?_
  refine lv_bipush (v := 24) hx hb kd_Sheet_5 (by decide +kernel) ?_
  refine va_newa (atype := .int) (ty := .int) (N' := 24) (a0 := (24, .inl (fun _ => 0))) hx hb (ht2 _ xi_203) rfl hK hP hD hS hA (fun _ => rfl) (by decide) (by decide +kernel) (by decide) (Nat.le_of_ble_eq_true rfl) (Nat.le_of_ble_eq_true rfl) kd_Sheet_7 (fun q7 c7 H hK7 hP hD hS => ?_)
  obtain rfl : c7 = cA 0 := kU_0 hK7
  have hP : va_P D xcl [(h0, .inr (3, [.null, .int 0, .int 0])), (q7, .inl (cA 0, 24, .inl (fun _ => 0)))] H := hP
  have hD : va_D A [(h0, .inr (3, [.null, .int 0, .int 0])), (q7, .inl (cA 0, 24, .inl (fun _ => 0)))] := hD
  refine va_putF (D := D) (ci := 3) (v := .ref q7) (ty := xG3 0) (C := "RopeShore$Sheet") (T := xF3) (N := 3) hx hb ht2 kx_3 xG3 xty3 xnm3 hown hK hP hD hS 0 rfl rfl 0 (by decide) (ht2 _ xi_272) (fun _ h9 => h9) rfl hin rfl (xty3 0 (by decide)) rfl rfl (Nat.le_of_ble_eq_true rfl) kd_Sheet_9 (fun H locs hP hD hS => ?_)
  have hP : va_P D xcl [(h0, .inr (3, [.ref q7, .int 0, .int 0])), (q7, .inl (cA 0, 24, .inl (fun _ => 0)))] H := hP
  have hD : va_D A [(h0, .inr (3, [.ref q7, .int 0, .int 0])), (q7, .inl (cA 0, 24, .inl (fun _ => 0)))] := hD
  refine lv_aload_n hx hb kd_Sheet_12 rfl (lv_at hl 0 rfl) ?_
  refine lv_iconst (v := 0) hx hb kd_Sheet_13 (by decide) ?_
  refine va_put (D := D) (ci := 3) (v := .int 0) (ty := xG3 1) (C := "RopeShore$Sheet") (T := xF3) (N := 3) hx hb ht2 kx_3 xG3 xty3 xnm3 hown hK hP hD hS 0 rfl rfl 1 (by decide) (ht2 _ xi_274) (fun _ h9 => h9) rfl (xty3 1 (by decide)) rfl rfl (Nat.le_of_ble_eq_true rfl) kd_Sheet_14 (fun H locs hP hD hS => ?_)
  have hP : va_P D xcl [(h0, .inr (3, [.ref q7, .int 0, .int 0])), (q7, .inl (cA 0, 24, .inl (fun _ => 0)))] H := hP
  have hD : va_D A [(h0, .inr (3, [.ref q7, .int 0, .int 0])), (q7, .inl (cA 0, 24, .inl (fun _ => 0)))] := hD
  refine lv_aload_n hx hb kd_Sheet_17 rfl (lv_at hl 0 rfl) ?_
  refine lv_iconst (v := 0) hx hb kd_Sheet_18 (by decide) ?_
  refine va_put (D := D) (ci := 3) (v := .int 0) (ty := xG3 2) (C := "RopeShore$Sheet") (T := xF3) (N := 3) hx hb ht2 kx_3 xG3 xty3 xnm3 hown hK hP hD hS 0 rfl rfl 2 (by decide) (ht2 _ xi_276) (fun _ h9 => h9) rfl (xty3 2 (by decide)) rfl rfl (Nat.le_of_ble_eq_true rfl) kd_Sheet_19 (fun H locs hP hD hS => ?_)
  have hP : va_P D xcl [(h0, .inr (3, [.ref q7, .int 0, .int 0])), (q7, .inl (cA 0, 24, .inl (fun _ => 0)))] H := hP
  have hD : va_D A [(h0, .inr (3, [.ref q7, .int 0, .int 0])), (q7, .inl (cA 0, 24, .inl (fun _ => 0)))] := hD
  refine W.widen (k := 1) (n := 24) (Nat.le_of_ble_eq_true rfl) (Nat.le_of_ble_eq_true rfl) ?_
  exact W.vret hx hb hr (fun t ht hW => ⟨⟨fun k => ([q7] : List Nat).getD k 0, rfl, trivial, by rw [ht]; exact hP, va_K.moved hW.alike hK, hD⟩, hS.F ht⟩) hS.2.2 kd_Sheet_22
abbrev y_Voice : MethodName := ⟨"RopeShore$Voice", "<init>", "()V"⟩
abbrev kw_Voice : List Cond := .code y_Voice prog_11_method_1_code 1 none :: xT2
theorem kd_Voice_0 : decode prog_11_method_1_code 0 = .ok (.aload_n 0, 1) := by decide +kernel
theorem kd_Voice_1 : decode prog_11_method_1_code 1 = .ok (.invokespecial 3, 3) := by decide +kernel
theorem kd_Voice_4 : decode prog_11_method_1_code 4 = .ok (.aload_n 0, 1) := by decide +kernel
theorem kd_Voice_5 : decode prog_11_method_1_code 5 = .ok (.bipush 30, 2) := by decide +kernel
theorem kd_Voice_7 : decode prog_11_method_1_code 7 = .ok (.newarray .int, 2) := by decide +kernel
theorem kd_Voice_9 : decode prog_11_method_1_code 9 = .ok (.putfield 9, 3) := by decide +kernel
theorem kd_Voice_12 : decode prog_11_method_1_code 12 = .ok (.aload_n 0, 1) := by decide +kernel
theorem kd_Voice_13 : decode prog_11_method_1_code 13 = .ok (.iconst 0, 1) := by decide +kernel
theorem kd_Voice_14 : decode prog_11_method_1_code 14 = .ok (.putfield 15, 3) := by decide +kernel
theorem kd_Voice_17 : decode prog_11_method_1_code 17 = .ok (.aload_n 0, 1) := by decide +kernel
theorem kd_Voice_18 : decode prog_11_method_1_code 18 = .ok (.iconst 0, 1) := by decide +kernel
theorem kd_Voice_19 : decode prog_11_method_1_code 19 = .ok (.putfield 19, 3) := by decide +kernel
theorem kd_Voice_22 : decode prog_11_method_1_code 22 = .ok (.aload_n 0, 1) := by decide +kernel
theorem kd_Voice_23 : decode prog_11_method_1_code 23 = .ok (.iconst 0, 1) := by decide +kernel
theorem kd_Voice_24 : decode prog_11_method_1_code 24 = .ok (.putfield 22, 3) := by decide +kernel
theorem kd_Voice_27 : decode prog_11_method_1_code 27 = .ok (.aload_n 0, 1) := by decide +kernel
theorem kd_Voice_28 : decode prog_11_method_1_code 28 = .ok (.iconst 0, 1) := by decide +kernel
theorem kd_Voice_29 : decode prog_11_method_1_code 29 = .ok (.putfield 25, 3) := by decide +kernel
theorem kd_Voice_32 : decode prog_11_method_1_code 32 = .ok (.return_, 1) := by decide +kernel
abbrev kL_Voice (cA : Nat → ClassId) (h0 : Nat) (u : Nat → Nat) : va_W := [(h0, .inr (4, [.ref (u 0), .int 0, .int 0, .int 0, .int 0])), ((u 0), .inl (cA 0, 30, .inl (fun _ => 0)))]
set_option maxHeartbeats 8000000 in
set_option maxRecDepth 100000 in
theorem c_Voice (l : Launch) (D : va_G) (cA : Nat → ClassId) (h0 sz : Nat) : Met l y_Voice kw_Voice ({ frames := 1, cells := 1, slots := 30, locals := 12 }) (kPc D cA [(h0, .inr (4, [.null, .int 0, .int 0, .int 0, .int 0]))] h0 sz) (kQ D cA (kL_Voice cA h0) (va_A [(h0, .inr (4, [.null, .int 0, .int 0, .int 0, .int 0]))] sz)) 1 30 (va_A [(h0, .inr (4, [.null, .int 0, .int 0, .int 0, .int 0]))] sz) := by
  refine Met.ofW (cc := prog_11_method_1_code) (maxL := 1) (ret := none) (by decide) rfl ?_
  intro p e s m args below meth c s₁ B hml hv
  obtain ⟨rfl, hsz, hP, hK, hD0⟩ := hv
  have hx := B.exec
  have hb := B.bytes
  have hr := B.returns
  have hts := atoms_spec (ws := kw_Voice) B.pre
  have ht2 : ∀ w ∈ xT2, w.before #[.ref h0] s = true := fun w h => hts w (List.mem_cons_of_mem _ h)
  have hown : s.vm.findClass "RopeShore$Voice" = some m.cls := findClass_of_methodNamed B.named
  have hlocks := B.notSynchronized
  have hin : meth.name = "<init>" := (name_of_methodNamed B.named B.method).1
  subst hsz
  have hD := hD0.self (sz := s.heap.size)
  generalize hAe : va_A [(h0, .inr (4, [.null, .int 0, .int 0, .int 0, .int 0]))] s.heap.size = A at hD ⊢
  have hA : ∀ q : Nat, s.heap.size ≤ q → A q := fun q h => by rw [← hAe]; exact Or.inr h
  have hS : va_S A s.heap s.heap [] := va_S.rf
  have hP : va_P D xcl [(h0, .inr (4, [.null, .int 0, .int 0, .int 0, .int 0]))] s.heap := hP
  have hl := lv_entry ([.ref h0]) (n := 1) (Nat.le_of_ble_eq_true rfl)
  rw [lg_entry_eq]
  generalize (lg_sl ([.ref h0]) ++ List.replicate (1 - (lg_sl ([.ref h0])).length) Slot.unset).toArray = ls at hl ⊢
  have hl : lv_has ls 1 [(0, .ref h0)] := hl
  refine lv_aload_n hx hb kd_Voice_0 rfl (lv_at hl 0 rfl) ?_
  refine W.objInit hx hb hown (ht2 _ xi_292) (ht2 _ xi_113) (ht2 _ xi_obj) rfl (by rw [hml]; exact hl.1) rfl kd_Voice_1 (Nat.le_of_ble_eq_true rfl) (Nat.le_of_ble_eq_true rfl) ?_
  refine W.eq (g2 := F0 m 4 ls []) rfl ?_
  refine lv_aload_n hx hb kd_Voice_4 rfl (lv_at hl 0 rfl) ?_
  refine lv_bipush (v := 30) hx hb kd_Voice_5 (by decide +kernel) ?_
  refine va_newa (atype := .int) (ty := .int) (N' := 30) (a0 := (30, .inl (fun _ => 0))) hx hb (ht2 _ xi_203) rfl hK hP hD hS hA (fun _ => rfl) (by decide) (by decide +kernel) (by decide) (Nat.le_of_ble_eq_true rfl) (Nat.le_of_ble_eq_true rfl) kd_Voice_7 (fun q7 c7 H hK7 hP hD hS => ?_)
  obtain rfl : c7 = cA 0 := kU_0 hK7
  have hP : va_P D xcl [(h0, .inr (4, [.null, .int 0, .int 0, .int 0, .int 0])), (q7, .inl (cA 0, 30, .inl (fun _ => 0)))] H := hP
  have hD : va_D A [(h0, .inr (4, [.null, .int 0, .int 0, .int 0, .int 0])), (q7, .inl (cA 0, 30, .inl (fun _ => 0)))] := hD
  refine va_putF (D := D) (ci := 4) (v := .ref q7) (ty := xG4 0) (C := "RopeShore$Voice") (T := xF4) (N := 5) hx hb ht2 kx_4 xG4 xty4 xnm4 hown hK hP hD hS 0 rfl rfl 0 (by decide) (ht2 _ xi_293) (fun _ h9 => h9) rfl hin rfl (xty4 0 (by decide)) rfl rfl (Nat.le_of_ble_eq_true rfl) kd_Voice_9 (fun H locs hP hD hS => ?_)
  have hP : va_P D xcl [(h0, .inr (4, [.ref q7, .int 0, .int 0, .int 0, .int 0])), (q7, .inl (cA 0, 30, .inl (fun _ => 0)))] H := hP
  have hD : va_D A [(h0, .inr (4, [.ref q7, .int 0, .int 0, .int 0, .int 0])), (q7, .inl (cA 0, 30, .inl (fun _ => 0)))] := hD
  refine lv_aload_n hx hb kd_Voice_12 rfl (lv_at hl 0 rfl) ?_
  refine lv_iconst (v := 0) hx hb kd_Voice_13 (by decide) ?_
  refine va_put (D := D) (ci := 4) (v := .int 0) (ty := xG4 1) (C := "RopeShore$Voice") (T := xF4) (N := 5) hx hb ht2 kx_4 xG4 xty4 xnm4 hown hK hP hD hS 0 rfl rfl 1 (by decide) (ht2 _ xi_295) (fun _ h9 => h9) rfl (xty4 1 (by decide)) rfl rfl (Nat.le_of_ble_eq_true rfl) kd_Voice_14 (fun H locs hP hD hS => ?_)
  have hP : va_P D xcl [(h0, .inr (4, [.ref q7, .int 0, .int 0, .int 0, .int 0])), (q7, .inl (cA 0, 30, .inl (fun _ => 0)))] H := hP
  have hD : va_D A [(h0, .inr (4, [.ref q7, .int 0, .int 0, .int 0, .int 0])), (q7, .inl (cA 0, 30, .inl (fun _ => 0)))] := hD
  refine lv_aload_n hx hb kd_Voice_17 rfl (lv_at hl 0 rfl) ?_
  refine lv_iconst (v := 0) hx hb kd_Voice_18 (by decide) ?_
  refine va_put (D := D) (ci := 4) (v := .int 0) (ty := xG4 2) (C := "RopeShore$Voice") (T := xF4) (N := 5) hx hb ht2 kx_4 xG4 xty4 xnm4 hown hK hP hD hS 0 rfl rfl 2 (by decide) (ht2 _ xi_297) (fun _ h9 => h9) rfl (xty4 2 (by decide)) rfl rfl (Nat.le_of_ble_eq_true rfl) kd_Voice_19 (fun H locs hP hD hS => ?_)
  have hP : va_P D xcl [(h0, .inr (4, [.ref q7, .int 0, .int 0, .int 0, .int 0])), (q7, .inl (cA 0, 30, .inl (fun _ => 0)))] H := hP
  have hD : va_D A [(h0, .inr (4, [.ref q7, .int 0, .int 0, .int 0, .int 0])), (q7, .inl (cA 0, 30, .inl (fun _ => 0)))] := hD
  refine lv_aload_n hx hb kd_Voice_22 rfl (lv_at hl 0 rfl) ?_
  refine lv_iconst (v := 0) hx hb kd_Voice_23 (by decide) ?_
  refine va_put (D := D) (ci := 4) (v := .int 0) (ty := xG4 3) (C := "RopeShore$Voice") (T := xF4) (N := 5) hx hb ht2 kx_4 xG4 xty4 xnm4 hown hK hP hD hS 0 rfl rfl 3 (by decide) (ht2 _ xi_300) (fun _ h9 => h9) rfl (xty4 3 (by decide)) rfl rfl (Nat.le_of_ble_eq_true rfl) kd_Voice_24 (fun H locs hP hD hS => ?_)
  have hP : va_P D xcl [(h0, .inr (4, [.ref q7, .int 0, .int 0, .int 0, .int 0])), (q7, .inl (cA 0, 30, .inl (fun _ => 0)))] H := hP
  have hD : va_D A [(h0, .inr (4, [.ref q7, .int 0, .int 0, .int 0, .int 0])), (q7, .inl (cA 0, 30, .inl (fun _ => 0)))] := hD
  refine lv_aload_n hx hb kd_Voice_27 rfl (lv_at hl 0 rfl) ?_
  refine lv_iconst (v := 0) hx hb kd_Voice_28 (by decide) ?_
  refine va_put (D := D) (ci := 4) (v := .int 0) (ty := xG4 4) (C := "RopeShore$Voice") (T := xF4) (N := 5) hx hb ht2 kx_4 xG4 xty4 xnm4 hown hK hP hD hS 0 rfl rfl 4 (by decide) (ht2 _ xi_303) (fun _ h9 => h9) rfl (xty4 4 (by decide)) rfl rfl (Nat.le_of_ble_eq_true rfl) kd_Voice_29 (fun H locs hP hD hS => ?_)
  have hP : va_P D xcl [(h0, .inr (4, [.ref q7, .int 0, .int 0, .int 0, .int 0])), (q7, .inl (cA 0, 30, .inl (fun _ => 0)))] H := hP
  have hD : va_D A [(h0, .inr (4, [.ref q7, .int 0, .int 0, .int 0, .int 0])), (q7, .inl (cA 0, 30, .inl (fun _ => 0)))] := hD
  refine W.widen (k := 1) (n := 30) (Nat.le_of_ble_eq_true rfl) (Nat.le_of_ble_eq_true rfl) ?_
  exact W.vret hx hb hr (fun t ht hW => ⟨⟨fun k => ([q7] : List Nat).getD k 0, rfl, trivial, by rw [ht]; exact hP, va_K.moved hW.alike hK, hD⟩, hS.F ht⟩) hS.2.2 kd_Voice_32
