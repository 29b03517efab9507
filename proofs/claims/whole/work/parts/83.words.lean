/-! ===== constructors: the words that they need; a callee's words ===== -/
def xgood2 (w : Cond) : Bool := xgood w || (match w with
  | .castable .. => true
  | .arrayOver (.object _) => true
  | _ => false)
def xT2 : List Cond := lw_tbl.filter xgood2
theorem xT_2 {w : Cond} (h : w ∈ xT) : w ∈ xT2 := List.mem_filter.mpr ⟨(List.mem_filter.mp h).1, by unfold xgood2; rw [(List.mem_filter.mp h).2]; rfl⟩
theorem xT2_in {w : Cond} (k : Nat) (h : (decide (lw_tbl[k]? = some w) && xgood2 w) = true) : w ∈ xT2 := by
  rw [Bool.and_eq_true] at h
  exact List.mem_filter.mpr ⟨List.mem_of_getElem? (of_decide_eq_true h.1), h.2⟩
theorem xwarm2 {args : Array Value} {s : State} (hts : ∀ w ∈ xT2, w.before args s = true) : ∀ w ∈ xT2, ∀ (a' : Array Value) (U : State), s.WarmedH U.vm → w.before a' U = true := by
  intro w hw a' U hW
  have h1 := hts w hw
  have h0 := List.mem_filter.mp hw
  have h2 := h0.2
  unfold xgood2 at h2
  rw [Bool.or_eq_true] at h2
  rcases h2 with h2 | h2
  · exact xwarm (fun w' h' => hts w' (xT_2 h')) w (List.mem_filter.mpr ⟨h0.1, h2⟩) a' U hW
  · cases w with
    | castable a b => exact va_Nw.use rfl (va_Nw.warmC hW (va_Nw.of rfl h1))
    | arrayOver t =>
      cases t with
      | object C => exact ((va_AO.of h1).moved hW.alike).use
      | _ => cases h2
    | _ => cases h2
theorem xTb_2 {ws : List Cond} (h : ∀ w ∈ ws, w ∈ xT) : ∀ w ∈ ws, w ∈ xT2 := fun w hw => xT_2 (h w hw)
abbrev kPc (D : va_G) (cA : Nat → ClassId) (ws : va_W) (h0 sz : Nat) : Array Value → State → Prop := va_Pc [.ref h0] (fun U => U.heap.size = sz ∧ va_P D xcl ws U.heap ∧ va_K D xcl (xtys cA) U ∧ va_D (fun _ => True) ws)
abbrev kQ (D : va_G) (cA : Nat → ClassId) (L : (Nat → Nat) → va_W) (A : Nat → Prop) : Array Value → State → Outcome → State → Prop := va_Qv (fun _ : Nat → Nat => True) (fun u t => va_P D xcl (L u) t.heap ∧ va_K D xcl (xtys cA) t ∧ va_D A (L u)) A
theorem kBl {D : va_G} {cA : Nat → ClassId} {ws : va_W} {h0 sz : Nat} : FrameBlind (kPc D cA ws h0 sz) := fun a U g mk q => by
  obtain ⟨q0, q1, qP, qK, qD⟩ := q
  exact ⟨q0, q1, qP, va_K.moved (u := U) (U := U.calling g mk a) (Vm.Alike.refl U.vm) qK, qD⟩
section KW
variable {R : Room} {s : State} {args : Array Value}
theorem kwN {own : String} {index mc ms : Nat} {y : MethodName} {bytes : ByteArray} {rm : Room} (hts : ∀ w ∈ xT2, w.before args s = true) (hcode : Cond.code y bytes 1 none ∈ xT2) (hini : Cond.initialized y.cls ∈ xT2) (hl : Cond.methodLinkNest own index y "RopeShore" ∈ xT2) (hins : Cond.instanceMethod y ∈ xT2)
    (hR : rm.frames + 1 ≤ R.frames ∧ 20 + rm.locals ≤ R.locals) (hm : (rm.cells = mc ∧ rm.slots = ms) ∧ xplain y 0 = true ∧ y.name = "<init>" := by exact ⟨⟨rfl, rfl⟩, by decide +kernel, rfl⟩) :
    va_CN R s args own index y "RopeShore" bytes 1 none (.code y bytes 1 none :: xT2) rm mc ms 0 ∧ y.name = "<init>" ∧ (Cond.instanceMethod y).before args s = true := by
  obtain ⟨hrm, hpl, hn⟩ := hm
  unfold xplain at hpl
  simp only [Bool.and_eq_true, decide_eq_true_eq] at hpl
  refine ⟨⟨⟨hrm.1, hrm.2, hR.1, ?_, fun w hw => ?_, List.mem_cons_self⟩, hts _ hcode, hts _ hini, ⟨hpl.1.1, hpl.1.2⟩, fun sig h => ?_, hts _ hl⟩, hn, hts _ hins⟩
  · have := hR.2
    omega
  · rcases List.mem_cons.mp hw with rfl | hw
    · exact xwarm2 hts _ hcode
    · exact xwarm2 hts _ hw
  · have h2 := hpl.2
    rw [h] at h2
    exact (Option.some.inj h2).symm
theorem kwI {own : String} {index mc ms : Nat} {y : MethodName} {bytes : ByteArray} {rm : Room} (hts : ∀ w ∈ xT2, w.before args s = true) (hcode : Cond.code y bytes 1 none ∈ xT2) (hini : Cond.initialized y.cls ∈ xT2) (hl : Cond.methodLink own index y ∈ xT2) (hins : Cond.instanceMethod y ∈ xT2)
    (hR : rm.frames + 1 ≤ R.frames ∧ 20 + rm.locals ≤ R.locals) (hm : (rm.cells = mc ∧ rm.slots = ms) ∧ xplain y 0 = true ∧ y.name = "<init>" := by exact ⟨⟨rfl, rfl⟩, by decide +kernel, rfl⟩) :
    CallB R s args own index y bytes 1 none (.code y bytes 1 none :: xT2) rm mc ms 0 ∧ y.name = "<init>" ∧ (Cond.instanceMethod y).before args s = true := by
  obtain ⟨hrm, hpl, hn⟩ := hm
  unfold xplain at hpl
  simp only [Bool.and_eq_true, decide_eq_true_eq] at hpl
  refine ⟨⟨hrm.1, hrm.2, hR.1, ?_, fun w hw => ?_, List.mem_cons_self, hts _ hcode, hts _ hini, ⟨hpl.1.1, hpl.1.2⟩, fun sig h => ?_, hts _ hl⟩, hn, hts _ hins⟩
  · have := hR.2
    omega
  · rcases List.mem_cons.mp hw with rfl | hw
    · exact xwarm2 hts _ hcode
    · exact xwarm2 hts _ hw
  · have h2 := hpl.2
    rw [h] at h2
    exact (Option.some.inj h2).symm
end KW

theorem kU_0 {D : va_G} {cA : Nat → ClassId} {c' : ClassId} {s : State} (h : va_K D xcl (xtys cA ++ [(c', .int)]) s) : c' = cA 0 := by
  have h1 : s.vm.findClass _ = some (cA 0) := (h.2 0 (cA 0, .int) rfl).2
  have h2 : s.vm.findClass _ = some c' := (h.2 6 (c', .int) rfl).2
  exact Option.some.inj (h2.symm.trans h1)

theorem kU_1 {D : va_G} {cA : Nat → ClassId} {c' : ClassId} {s : State} (h : va_K D xcl (xtys cA ++ [(c', .byte)]) s) : c' = cA 1 := by
  have h1 : s.vm.findClass _ = some (cA 1) := (h.2 1 (cA 1, .byte) rfl).2
  have h2 : s.vm.findClass _ = some c' := (h.2 6 (c', .byte) rfl).2
  exact Option.some.inj (h2.symm.trans h1)

theorem kU_2 {D : va_G} {cA : Nat → ClassId} {c' : ClassId} {s : State} (h : va_K D xcl (xtys cA ++ [(c', .boolean)]) s) : c' = cA 2 := by
  have h1 : s.vm.findClass _ = some (cA 2) := (h.2 2 (cA 2, .boolean) rfl).2
  have h2 : s.vm.findClass _ = some c' := (h.2 6 (c', .boolean) rfl).2
  exact Option.some.inj (h2.symm.trans h1)

theorem kU_3 {D : va_G} {cA : Nat → ClassId} {c' : ClassId} {s : State} (h : va_K D xcl (xtys cA ++ [(c', .object "RopeShore$Person")]) s) : c' = cA 3 := by
  obtain ⟨-, -, -, -, -, h1⟩ := (h.2 3 (cA 3, .object "RopeShore$Person") rfl).2
  obtain ⟨-, -, -, -, -, h2⟩ := (h.2 6 (c', .object "RopeShore$Person") rfl).2
  exact Option.some.inj (h2.symm.trans h1)

theorem kU_4 {D : va_G} {cA : Nat → ClassId} {c' : ClassId} {s : State} (h : va_K D xcl (xtys cA ++ [(c', .object "RopeShore$Text")]) s) : c' = cA 4 := by
  obtain ⟨-, -, -, -, -, h1⟩ := (h.2 4 (cA 4, .object "RopeShore$Text") rfl).2
  obtain ⟨-, -, -, -, -, h2⟩ := (h.2 6 (c', .object "RopeShore$Text") rfl).2
  exact Option.some.inj (h2.symm.trans h1)

theorem kU_5 {D : va_G} {cA : Nat → ClassId} {c' : ClassId} {s : State} (h : va_K D xcl (xtys cA ++ [(c', .object "RopeShore$Sheet")]) s) : c' = cA 5 := by
  obtain ⟨-, -, -, -, -, h1⟩ := (h.2 5 (cA 5, .object "RopeShore$Sheet") rfl).2
  obtain ⟨-, -, -, -, -, h2⟩ := (h.2 6 (c', .object "RopeShore$Sheet") rfl).2
  exact Option.some.inj (h2.symm.trans h1)

theorem kx_0 : ∀ w ∈ u_ws "RopeShore" xF0 10, w ∈ xT2 := xTb_2 (xcl_w (a := 0) (q := ("RopeShore", xF0, 10)) rfl)
theorem kf_0 : ∀ j, j < 10 → defaultValue (xG0 j) = vp_V [.null, .null, .null, .null, .null, .null, .null, .null, .null, .int 0] j := fun j hj => by rcases (show j = 0 ∨ j = 1 ∨ j = 2 ∨ j = 3 ∨ j = 4 ∨ j = 5 ∨ j = 6 ∨ j = 7 ∨ j = 8 ∨ j = 9 by omega) with rfl | rfl | rfl | rfl | rfl | rfl | rfl | rfl | rfl | rfl <;> rfl
theorem kx_1 : ∀ w ∈ u_ws "RopeShore$Shore" xF1 15, w ∈ xT2 := xTb_2 (xcl_w (a := 1) (q := ("RopeShore$Shore", xF1, 15)) rfl)
theorem kf_1 : ∀ j, j < 15 → defaultValue (xG1 j) = vp_V [.null, .null, .null, .null, .null, .null, .null, .null, .null, .int 0, .int 0, .int 0, .int 0, .int 0, .int 0] j := fun j hj => by rcases (show j = 0 ∨ j = 1 ∨ j = 2 ∨ j = 3 ∨ j = 4 ∨ j = 5 ∨ j = 6 ∨ j = 7 ∨ j = 8 ∨ j = 9 ∨ j = 10 ∨ j = 11 ∨ j = 12 ∨ j = 13 ∨ j = 14 by omega) with rfl | rfl | rfl | rfl | rfl | rfl | rfl | rfl | rfl | rfl | rfl | rfl | rfl | rfl | rfl <;> rfl
theorem kx_2 : ∀ w ∈ u_ws "RopeShore$Text" xF2 8, w ∈ xT2 := xTb_2 (xcl_w (a := 2) (q := ("RopeShore$Text", xF2, 8)) rfl)
theorem kf_2 : ∀ j, j < 8 → defaultValue (xG2 j) = vp_V [.null, .null, .null, .int 0, .int 0, .int 0, .int 0, .int 0] j := fun j hj => by rcases (show j = 0 ∨ j = 1 ∨ j = 2 ∨ j = 3 ∨ j = 4 ∨ j = 5 ∨ j = 6 ∨ j = 7 by omega) with rfl | rfl | rfl | rfl | rfl | rfl | rfl | rfl <;> rfl
theorem kx_3 : ∀ w ∈ u_ws "RopeShore$Sheet" xF3 3, w ∈ xT2 := xTb_2 (xcl_w (a := 3) (q := ("RopeShore$Sheet", xF3, 3)) rfl)
theorem kf_3 : ∀ j, j < 3 → defaultValue (xG3 j) = vp_V [.null, .int 0, .int 0] j := fun j hj => by rcases (show j = 0 ∨ j = 1 ∨ j = 2 by omega) with rfl | rfl | rfl <;> rfl
theorem kx_4 : ∀ w ∈ u_ws "RopeShore$Voice" xF4 5, w ∈ xT2 := xTb_2 (xcl_w (a := 4) (q := ("RopeShore$Voice", xF4, 5)) rfl)
theorem kf_4 : ∀ j, j < 5 → defaultValue (xG4 j) = vp_V [.null, .int 0, .int 0, .int 0, .int 0] j := fun j hj => by rcases (show j = 0 ∨ j = 1 ∨ j = 2 ∨ j = 3 ∨ j = 4 by omega) with rfl | rfl | rfl | rfl | rfl <;> rfl
theorem kx_5 : ∀ w ∈ u_ws "RopeShoreModel" xF5 21, w ∈ xT2 := xTb_2 (xcl_w (a := 5) (q := ("RopeShoreModel", xF5, 21)) rfl)
theorem kf_5 : ∀ j, j < 21 → defaultValue (xG5 j) = vp_V [.null, .null, .null, .int 0, .null, .null, .null, .null, .null, .null, .null, .null, .int 0, .int 0, .int 0, .int 0, .int 0, .null, .null, .int 0, .int 0] j := fun j hj => by rcases (show j = 0 ∨ j = 1 ∨ j = 2 ∨ j = 3 ∨ j = 4 ∨ j = 5 ∨ j = 6 ∨ j = 7 ∨ j = 8 ∨ j = 9 ∨ j = 10 ∨ j = 11 ∨ j = 12 ∨ j = 13 ∨ j = 14 ∨ j = 15 ∨ j = 16 ∨ j = 17 ∨ j = 18 ∨ j = 19 ∨ j = 20 by omega) with rfl | rfl | rfl | rfl | rfl | rfl | rfl | rfl | rfl | rfl | rfl | rfl | rfl | rfl | rfl | rfl | rfl | rfl | rfl | rfl | rfl <;> rfl
theorem kx_6 : ∀ w ∈ u_ws "RopeShore$Person" xF6 0, w ∈ xT2 := xTb_2 (xcl_w (a := 6) (q := ("RopeShore$Person", xF6, 0)) rfl)
theorem kf_6 : ∀ j, j < 0 → defaultValue (xG6 j) = vp_V [] j := fun j hj => absurd hj (Nat.not_lt_zero _)
theorem kx_7 : ∀ w ∈ u_ws "RopeShore$Gossip" xF7 0, w ∈ xT2 := xTb_2 (xcl_w (a := 7) (q := ("RopeShore$Gossip", xF7, 0)) rfl)
theorem kf_7 : ∀ j, j < 0 → defaultValue (xG7 j) = vp_V [] j := fun j hj => absurd hj (Nat.not_lt_zero _)
theorem kx_8 : ∀ w ∈ u_ws "RopeShore$Mayor" xF8 0, w ∈ xT2 := xTb_2 (xcl_w (a := 8) (q := ("RopeShore$Mayor", xF8, 0)) rfl)
theorem kf_8 : ∀ j, j < 0 → defaultValue (xG8 j) = vp_V [] j := fun j hj => absurd hj (Nat.not_lt_zero _)
theorem kx_9 : ∀ w ∈ u_ws "RopeShore$Cutter" xF9 0, w ∈ xT2 := xTb_2 (xcl_w (a := 9) (q := ("RopeShore$Cutter", xF9, 0)) rfl)
theorem kf_9 : ∀ j, j < 0 → defaultValue (xG9 j) = vp_V [] j := fun j hj => absurd hj (Nat.not_lt_zero _)
theorem kx_10 : ∀ w ∈ u_ws "RopeShore$Doctor" xF10 0, w ∈ xT2 := xTb_2 (xcl_w (a := 10) (q := ("RopeShore$Doctor", xF10, 0)) rfl)
theorem kf_10 : ∀ j, j < 0 → defaultValue (xG10 j) = vp_V [] j := fun j hj => absurd hj (Nat.not_lt_zero _)
theorem kx_11 : ∀ w ∈ u_ws "RopeShore$Judge" xF11 0, w ∈ xT2 := xTb_2 (xcl_w (a := 11) (q := ("RopeShore$Judge", xF11, 0)) rfl)
theorem kf_11 : ∀ j, j < 0 → defaultValue (xG11 j) = vp_V [] j := fun j hj => absurd hj (Nat.not_lt_zero _)
theorem kx_12 : ∀ w ∈ u_ws "RopeShore$Widow" xF12 0, w ∈ xT2 := xTb_2 (xcl_w (a := 12) (q := ("RopeShore$Widow", xF12, 0)) rfl)
theorem kf_12 : ∀ j, j < 0 → defaultValue (xG12 j) = vp_V [] j := fun j hj => absurd hj (Nat.not_lt_zero _)
theorem xi_obj : Cond.code Lib.objectInit ⟨#[0xb1]⟩ 1 none ∈ xT2 := xT2_in 114 (by decide +kernel)
theorem xi_91 : (Jvm.Cond.initialized "RopeShore") ∈ xT2 := xT2_in 91 (by decide +kernel)
theorem xi_92 : (Jvm.Cond.initialized "RopeShore$Shore") ∈ xT2 := xT2_in 92 (by decide +kernel)
theorem xi_93 : (Jvm.Cond.initialized "RopeShore$Person") ∈ xT2 := xT2_in 93 (by decide +kernel)
theorem xi_94 : (Jvm.Cond.initialized "RopeShore$Gossip") ∈ xT2 := xT2_in 94 (by decide +kernel)
theorem xi_95 : (Jvm.Cond.initialized "RopeShore$Mayor") ∈ xT2 := xT2_in 95 (by decide +kernel)
theorem xi_96 : (Jvm.Cond.initialized "RopeShore$Cutter") ∈ xT2 := xT2_in 96 (by decide +kernel)
theorem xi_97 : (Jvm.Cond.initialized "RopeShore$Doctor") ∈ xT2 := xT2_in 97 (by decide +kernel)
theorem xi_98 : (Jvm.Cond.initialized "RopeShore$Judge") ∈ xT2 := xT2_in 98 (by decide +kernel)
theorem xi_99 : (Jvm.Cond.initialized "RopeShore$Widow") ∈ xT2 := xT2_in 99 (by decide +kernel)
theorem xi_100 : (Jvm.Cond.initialized "RopeShore$Text") ∈ xT2 := xT2_in 100 (by decide +kernel)
theorem xi_101 : (Jvm.Cond.initialized "RopeShore$Sheet") ∈ xT2 := xT2_in 101 (by decide +kernel)
theorem xi_102 : (Jvm.Cond.initialized "RopeShore$Voice") ∈ xT2 := xT2_in 102 (by decide +kernel)
theorem xi_103 : (Jvm.Cond.initialized "RopeShoreModel") ∈ xT2 := xT2_in 103 (by decide +kernel)
theorem xi_107 : (Jvm.Cond.classLink "RopeShoreLaw" (7 : Nat) "RopeShore") ∈ xT2 := xT2_in 107 (by decide +kernel)
theorem xi_108 : (Jvm.Cond.instantiable "RopeShore" (10 : Nat)) ∈ xT2 := xT2_in 108 (by decide +kernel)
theorem xi_109 : (Jvm.Cond.methodLink "RopeShoreLaw" (9 : Nat) ({ cls := "RopeShore", name := "<init>", desc := "()V" } : Jvm.MethodName)) ∈ xT2 := xT2_in 109 (by decide +kernel)
theorem xi_110 : (Jvm.Cond.instanceMethod ({ cls := "RopeShore", name := "<init>", desc := "()V" } : Jvm.MethodName)) ∈ xT2 := xT2_in 110 (by decide +kernel)
theorem xi_111 : (Jvm.Cond.code ({ cls := "RopeShore", name := "<init>", desc := "()V" } : Jvm.MethodName) prog_1_method_1_code (1 : Nat) (Option.none : Option Jvm.ClassFile.FieldType)) ∈ xT2 := xT2_in 111 (by decide +kernel)
theorem xi_112 : (Jvm.Cond.methodLink "RopeShore" (1 : Nat) ({ cls := "java/lang/Object", name := "<init>", desc := "()V" } : Jvm.MethodName)) ∈ xT2 := xT2_in 112 (by decide +kernel)
theorem xi_113 : (Jvm.Cond.instanceMethod ({ cls := "java/lang/Object", name := "<init>", desc := "()V" } : Jvm.MethodName)) ∈ xT2 := xT2_in 113 (by decide +kernel)
theorem xi_115 : (Jvm.Cond.classLink "RopeShore" (7 : Nat) "RopeShore$Shore") ∈ xT2 := xT2_in 115 (by decide +kernel)
theorem xi_116 : (Jvm.Cond.instantiable "RopeShore$Shore" (15 : Nat)) ∈ xT2 := xT2_in 116 (by decide +kernel)
theorem xi_117 : (Jvm.Cond.methodLinkNest "RopeShore" (9 : Nat) ({ cls := "RopeShore$Shore", name := "<init>", desc := "()V" } : Jvm.MethodName) "RopeShore") ∈ xT2 := xT2_in 117 (by decide +kernel)
theorem xi_118 : (Jvm.Cond.instanceMethod ({ cls := "RopeShore$Shore", name := "<init>", desc := "()V" } : Jvm.MethodName)) ∈ xT2 := xT2_in 118 (by decide +kernel)
theorem xi_119 : (Jvm.Cond.code ({ cls := "RopeShore$Shore", name := "<init>", desc := "()V" } : Jvm.MethodName) prog_9_method_1_code (1 : Nat) (Option.none : Option Jvm.ClassFile.FieldType)) ∈ xT2 := xT2_in 119 (by decide +kernel)
theorem xi_120 : (Jvm.Cond.methodLink "RopeShore$Shore" (3 : Nat) ({ cls := "java/lang/Object", name := "<init>", desc := "()V" } : Jvm.MethodName)) ∈ xT2 := xT2_in 120 (by decide +kernel)
theorem xi_121 : (Jvm.Cond.classLink "RopeShore$Shore" (9 : Nat) "RopeShore$Person") ∈ xT2 := xT2_in 121 (by decide +kernel)
theorem xi_122 : (Jvm.Cond.arrayOver (Jvm.ClassFile.FieldType.object "RopeShore$Person")) ∈ xT2 := xT2_in 122 (by decide +kernel)
theorem xi_123 : (Jvm.Cond.instantiable "RopeShore$Person" (0 : Nat)) ∈ xT2 := xT2_in 123 (by decide +kernel)
theorem xi_124 : (Jvm.Cond.methodLinkNest "RopeShore$Shore" (11 : Nat) ({ cls := "RopeShore$Person", name := "<init>", desc := "()V" } : Jvm.MethodName) "RopeShore") ∈ xT2 := xT2_in 124 (by decide +kernel)
theorem xi_125 : (Jvm.Cond.instanceMethod ({ cls := "RopeShore$Person", name := "<init>", desc := "()V" } : Jvm.MethodName)) ∈ xT2 := xT2_in 125 (by decide +kernel)
theorem xi_126 : (Jvm.Cond.code ({ cls := "RopeShore$Person", name := "<init>", desc := "()V" } : Jvm.MethodName) prog_7_method_1_code (1 : Nat) (Option.none : Option Jvm.ClassFile.FieldType)) ∈ xT2 := xT2_in 126 (by decide +kernel)
theorem xi_127 : (Jvm.Cond.methodLink "RopeShore$Person" (1 : Nat) ({ cls := "java/lang/Object", name := "<init>", desc := "()V" } : Jvm.MethodName)) ∈ xT2 := xT2_in 127 (by decide +kernel)
theorem xi_129 : (Jvm.Cond.classLink "RopeShore$Shore" (12 : Nat) "RopeShore$Gossip") ∈ xT2 := xT2_in 129 (by decide +kernel)
theorem xi_130 : (Jvm.Cond.instantiable "RopeShore$Gossip" (0 : Nat)) ∈ xT2 := xT2_in 130 (by decide +kernel)
theorem xi_131 : (Jvm.Cond.methodLinkNest "RopeShore$Shore" (14 : Nat) ({ cls := "RopeShore$Gossip", name := "<init>", desc := "()V" } : Jvm.MethodName) "RopeShore") ∈ xT2 := xT2_in 131 (by decide +kernel)
theorem xi_132 : (Jvm.Cond.instanceMethod ({ cls := "RopeShore$Gossip", name := "<init>", desc := "()V" } : Jvm.MethodName)) ∈ xT2 := xT2_in 132 (by decide +kernel)
theorem xi_133 : (Jvm.Cond.code ({ cls := "RopeShore$Gossip", name := "<init>", desc := "()V" } : Jvm.MethodName) prog_4_method_1_code (1 : Nat) (Option.none : Option Jvm.ClassFile.FieldType)) ∈ xT2 := xT2_in 133 (by decide +kernel)
theorem xi_134 : (Jvm.Cond.methodLinkNest "RopeShore$Gossip" (1 : Nat) ({ cls := "RopeShore$Person", name := "<init>", desc := "()V" } : Jvm.MethodName) "RopeShore") ∈ xT2 := xT2_in 134 (by decide +kernel)
theorem xi_136 : (Jvm.Cond.classLink "RopeShore$Shore" (15 : Nat) "RopeShore$Mayor") ∈ xT2 := xT2_in 136 (by decide +kernel)
theorem xi_137 : (Jvm.Cond.instantiable "RopeShore$Mayor" (0 : Nat)) ∈ xT2 := xT2_in 137 (by decide +kernel)
theorem xi_138 : (Jvm.Cond.methodLinkNest "RopeShore$Shore" (17 : Nat) ({ cls := "RopeShore$Mayor", name := "<init>", desc := "()V" } : Jvm.MethodName) "RopeShore") ∈ xT2 := xT2_in 138 (by decide +kernel)
theorem xi_139 : (Jvm.Cond.instanceMethod ({ cls := "RopeShore$Mayor", name := "<init>", desc := "()V" } : Jvm.MethodName)) ∈ xT2 := xT2_in 139 (by decide +kernel)
theorem xi_140 : (Jvm.Cond.code ({ cls := "RopeShore$Mayor", name := "<init>", desc := "()V" } : Jvm.MethodName) prog_6_method_1_code (1 : Nat) (Option.none : Option Jvm.ClassFile.FieldType)) ∈ xT2 := xT2_in 140 (by decide +kernel)
theorem xi_141 : (Jvm.Cond.methodLinkNest "RopeShore$Mayor" (1 : Nat) ({ cls := "RopeShore$Person", name := "<init>", desc := "()V" } : Jvm.MethodName) "RopeShore") ∈ xT2 := xT2_in 141 (by decide +kernel)
theorem xi_143 : (Jvm.Cond.classLink "RopeShore$Shore" (18 : Nat) "RopeShore$Cutter") ∈ xT2 := xT2_in 143 (by decide +kernel)
theorem xi_144 : (Jvm.Cond.instantiable "RopeShore$Cutter" (0 : Nat)) ∈ xT2 := xT2_in 144 (by decide +kernel)
theorem xi_145 : (Jvm.Cond.methodLinkNest "RopeShore$Shore" (20 : Nat) ({ cls := "RopeShore$Cutter", name := "<init>", desc := "()V" } : Jvm.MethodName) "RopeShore") ∈ xT2 := xT2_in 145 (by decide +kernel)
theorem xi_146 : (Jvm.Cond.instanceMethod ({ cls := "RopeShore$Cutter", name := "<init>", desc := "()V" } : Jvm.MethodName)) ∈ xT2 := xT2_in 146 (by decide +kernel)
theorem xi_147 : (Jvm.Cond.code ({ cls := "RopeShore$Cutter", name := "<init>", desc := "()V" } : Jvm.MethodName) prog_2_method_1_code (1 : Nat) (Option.none : Option Jvm.ClassFile.FieldType)) ∈ xT2 := xT2_in 147 (by decide +kernel)
theorem xi_148 : (Jvm.Cond.methodLinkNest "RopeShore$Cutter" (1 : Nat) ({ cls := "RopeShore$Person", name := "<init>", desc := "()V" } : Jvm.MethodName) "RopeShore") ∈ xT2 := xT2_in 148 (by decide +kernel)
theorem xi_150 : (Jvm.Cond.classLink "RopeShore$Shore" (21 : Nat) "RopeShore$Doctor") ∈ xT2 := xT2_in 150 (by decide +kernel)
theorem xi_151 : (Jvm.Cond.instantiable "RopeShore$Doctor" (0 : Nat)) ∈ xT2 := xT2_in 151 (by decide +kernel)
theorem xi_152 : (Jvm.Cond.methodLinkNest "RopeShore$Shore" (23 : Nat) ({ cls := "RopeShore$Doctor", name := "<init>", desc := "()V" } : Jvm.MethodName) "RopeShore") ∈ xT2 := xT2_in 152 (by decide +kernel)
theorem xi_153 : (Jvm.Cond.instanceMethod ({ cls := "RopeShore$Doctor", name := "<init>", desc := "()V" } : Jvm.MethodName)) ∈ xT2 := xT2_in 153 (by decide +kernel)
theorem xi_154 : (Jvm.Cond.code ({ cls := "RopeShore$Doctor", name := "<init>", desc := "()V" } : Jvm.MethodName) prog_3_method_1_code (1 : Nat) (Option.none : Option Jvm.ClassFile.FieldType)) ∈ xT2 := xT2_in 154 (by decide +kernel)
theorem xi_155 : (Jvm.Cond.methodLinkNest "RopeShore$Doctor" (1 : Nat) ({ cls := "RopeShore$Gossip", name := "<init>", desc := "()V" } : Jvm.MethodName) "RopeShore") ∈ xT2 := xT2_in 155 (by decide +kernel)
theorem xi_157 : (Jvm.Cond.classLink "RopeShore$Shore" (24 : Nat) "RopeShore$Judge") ∈ xT2 := xT2_in 157 (by decide +kernel)
theorem xi_158 : (Jvm.Cond.instantiable "RopeShore$Judge" (0 : Nat)) ∈ xT2 := xT2_in 158 (by decide +kernel)
theorem xi_159 : (Jvm.Cond.methodLinkNest "RopeShore$Shore" (26 : Nat) ({ cls := "RopeShore$Judge", name := "<init>", desc := "()V" } : Jvm.MethodName) "RopeShore") ∈ xT2 := xT2_in 159 (by decide +kernel)
theorem xi_160 : (Jvm.Cond.instanceMethod ({ cls := "RopeShore$Judge", name := "<init>", desc := "()V" } : Jvm.MethodName)) ∈ xT2 := xT2_in 160 (by decide +kernel)
theorem xi_161 : (Jvm.Cond.code ({ cls := "RopeShore$Judge", name := "<init>", desc := "()V" } : Jvm.MethodName) prog_5_method_1_code (1 : Nat) (Option.none : Option Jvm.ClassFile.FieldType)) ∈ xT2 := xT2_in 161 (by decide +kernel)
theorem xi_162 : (Jvm.Cond.methodLinkNest "RopeShore$Judge" (1 : Nat) ({ cls := "RopeShore$Mayor", name := "<init>", desc := "()V" } : Jvm.MethodName) "RopeShore") ∈ xT2 := xT2_in 162 (by decide +kernel)
theorem xi_164 : (Jvm.Cond.classLink "RopeShore$Shore" (27 : Nat) "RopeShore$Widow") ∈ xT2 := xT2_in 164 (by decide +kernel)
theorem xi_165 : (Jvm.Cond.instantiable "RopeShore$Widow" (0 : Nat)) ∈ xT2 := xT2_in 165 (by decide +kernel)
theorem xi_166 : (Jvm.Cond.methodLinkNest "RopeShore$Shore" (29 : Nat) ({ cls := "RopeShore$Widow", name := "<init>", desc := "()V" } : Jvm.MethodName) "RopeShore") ∈ xT2 := xT2_in 166 (by decide +kernel)
theorem xi_167 : (Jvm.Cond.instanceMethod ({ cls := "RopeShore$Widow", name := "<init>", desc := "()V" } : Jvm.MethodName)) ∈ xT2 := xT2_in 167 (by decide +kernel)
theorem xi_168 : (Jvm.Cond.code ({ cls := "RopeShore$Widow", name := "<init>", desc := "()V" } : Jvm.MethodName) prog_12_method_1_code (1 : Nat) (Option.none : Option Jvm.ClassFile.FieldType)) ∈ xT2 := xT2_in 168 (by decide +kernel)
theorem xi_169 : (Jvm.Cond.methodLinkNest "RopeShore$Widow" (1 : Nat) ({ cls := "RopeShore$Person", name := "<init>", desc := "()V" } : Jvm.MethodName) "RopeShore") ∈ xT2 := xT2_in 169 (by decide +kernel)
theorem xi_171 : (Jvm.Cond.classLink "RopeShore$Shore" (53 : Nat) "RopeShore$Text") ∈ xT2 := xT2_in 171 (by decide +kernel)
theorem xi_172 : (Jvm.Cond.arrayOver (Jvm.ClassFile.FieldType.object "RopeShore$Text")) ∈ xT2 := xT2_in 172 (by decide +kernel)
theorem xi_173 : (Jvm.Cond.instantiable "RopeShore$Text" (8 : Nat)) ∈ xT2 := xT2_in 173 (by decide +kernel)
theorem xi_174 : (Jvm.Cond.methodLinkNest "RopeShore$Shore" (55 : Nat) ({ cls := "RopeShore$Text", name := "<init>", desc := "()V" } : Jvm.MethodName) "RopeShore") ∈ xT2 := xT2_in 174 (by decide +kernel)
theorem xi_175 : (Jvm.Cond.instanceMethod ({ cls := "RopeShore$Text", name := "<init>", desc := "()V" } : Jvm.MethodName)) ∈ xT2 := xT2_in 175 (by decide +kernel)
theorem xi_176 : (Jvm.Cond.code ({ cls := "RopeShore$Text", name := "<init>", desc := "()V" } : Jvm.MethodName) prog_10_method_1_code (1 : Nat) (Option.none : Option Jvm.ClassFile.FieldType)) ∈ xT2 := xT2_in 176 (by decide +kernel)
theorem xi_177 : (Jvm.Cond.methodLink "RopeShore$Text" (3 : Nat) ({ cls := "java/lang/Object", name := "<init>", desc := "()V" } : Jvm.MethodName)) ∈ xT2 := xT2_in 177 (by decide +kernel)
theorem xi_178 : (Jvm.Cond.fieldLink "RopeShore$Text" (9 : Nat) "RopeShore$Text" "code" "[I") ∈ xT2 := xT2_in 178 (by decide +kernel)
theorem xi_179 : (Jvm.Cond.fieldLink "RopeShore$Text" (15 : Nat) "RopeShore$Text" "stack" "[I") ∈ xT2 := xT2_in 179 (by decide +kernel)
theorem xi_180 : (Jvm.Cond.fieldLink "RopeShore$Text" (18 : Nat) "RopeShore$Text" "bytes" "[B") ∈ xT2 := xT2_in 180 (by decide +kernel)
theorem xi_181 : (Jvm.Cond.fieldLink "RopeShore$Text" (22 : Nat) "RopeShore$Text" "length" "I") ∈ xT2 := xT2_in 181 (by decide +kernel)
theorem xi_182 : (Jvm.Cond.fieldLink "RopeShore$Text" (26 : Nat) "RopeShore$Text" "size" "I") ∈ xT2 := xT2_in 182 (by decide +kernel)
theorem xi_183 : (Jvm.Cond.fieldLink "RopeShore$Text" (29 : Nat) "RopeShore$Text" "use" "I") ∈ xT2 := xT2_in 183 (by decide +kernel)
theorem xi_184 : (Jvm.Cond.fieldLink "RopeShore$Text" (32 : Nat) "RopeShore$Text" "at" "I") ∈ xT2 := xT2_in 184 (by decide +kernel)
theorem xi_185 : (Jvm.Cond.fieldLink "RopeShore$Text" (35 : Nat) "RopeShore$Text" "faulty" "Z") ∈ xT2 := xT2_in 185 (by decide +kernel)
theorem xi_203 : (Jvm.Cond.arrayClass Jvm.ClassFile.FieldType.int) ∈ xT2 := xT2_in 203 (by decide +kernel)
theorem xi_204 : (Jvm.Cond.arrayClass Jvm.ClassFile.FieldType.boolean) ∈ xT2 := xT2_in 204 (by decide +kernel)
theorem xi_205 : (Jvm.Cond.arrayClass Jvm.ClassFile.FieldType.byte) ∈ xT2 := xT2_in 205 (by decide +kernel)
theorem xi_206 : (Jvm.Cond.fieldLink "RopeShore$Shore" (30 : Nat) "RopeShore$Shore" "kinds" "[LRopeShore$Person;") ∈ xT2 := xT2_in 206 (by decide +kernel)
theorem xi_207 : (Jvm.Cond.fieldLink "RopeShore$Shore" (36 : Nat) "RopeShore$Shore" "kind" "[I") ∈ xT2 := xT2_in 207 (by decide +kernel)
theorem xi_209 : (Jvm.Cond.fieldLink "RopeShore$Shore" (40 : Nat) "RopeShore$Shore" "m" "[I") ∈ xT2 := xT2_in 209 (by decide +kernel)
theorem xi_211 : (Jvm.Cond.fieldLink "RopeShore$Shore" (43 : Nat) "RopeShore$Shore" "out" "[I") ∈ xT2 := xT2_in 211 (by decide +kernel)
theorem xi_213 : (Jvm.Cond.fieldLink "RopeShore$Shore" (46 : Nat) "RopeShore$Shore" "lost" "[Z") ∈ xT2 := xT2_in 213 (by decide +kernel)
theorem xi_215 : (Jvm.Cond.fieldLink "RopeShore$Shore" (50 : Nat) "RopeShore$Shore" "talk" "[I") ∈ xT2 := xT2_in 215 (by decide +kernel)
theorem xi_216 : (Jvm.Cond.fieldLink "RopeShore$Shore" (56 : Nat) "RopeShore$Shore" "texts" "[LRopeShore$Text;") ∈ xT2 := xT2_in 216 (by decide +kernel)
theorem xi_218 : (Jvm.Cond.fieldLink "RopeShore$Shore" (60 : Nat) "RopeShore$Shore" "tape" "[B") ∈ xT2 := xT2_in 218 (by decide +kernel)
theorem xi_220 : (Jvm.Cond.fieldLink "RopeShore$Shore" (64 : Nat) "RopeShore$Shore" "waiting" "[I") ∈ xT2 := xT2_in 220 (by decide +kernel)
theorem xi_222 : (Jvm.Cond.fieldLink "RopeShore$Shore" (67 : Nat) "RopeShore$Shore" "count" "I") ∈ xT2 := xT2_in 222 (by decide +kernel)
theorem xi_224 : (Jvm.Cond.fieldLink "RopeShore$Shore" (71 : Nat) "RopeShore$Shore" "fed" "I") ∈ xT2 := xT2_in 224 (by decide +kernel)
theorem xi_226 : (Jvm.Cond.fieldLink "RopeShore$Shore" (74 : Nat) "RopeShore$Shore" "waits" "I") ∈ xT2 := xT2_in 226 (by decide +kernel)
theorem xi_228 : (Jvm.Cond.fieldLink "RopeShore$Shore" (77 : Nat) "RopeShore$Shore" "sea" "I") ∈ xT2 := xT2_in 228 (by decide +kernel)
theorem xi_230 : (Jvm.Cond.fieldLink "RopeShore$Shore" (80 : Nat) "RopeShore$Shore" "day" "I") ∈ xT2 := xT2_in 230 (by decide +kernel)
theorem xi_232 : (Jvm.Cond.fieldLink "RopeShore$Shore" (83 : Nat) "RopeShore$Shore" "z" "I") ∈ xT2 := xT2_in 232 (by decide +kernel)
theorem xi_265 : (Jvm.Cond.classLink "RopeShore" (22 : Nat) "RopeShore$Sheet") ∈ xT2 := xT2_in 265 (by decide +kernel)
theorem xi_266 : (Jvm.Cond.arrayOver (Jvm.ClassFile.FieldType.object "RopeShore$Sheet")) ∈ xT2 := xT2_in 266 (by decide +kernel)
theorem xi_267 : (Jvm.Cond.instantiable "RopeShore$Sheet" (3 : Nat)) ∈ xT2 := xT2_in 267 (by decide +kernel)
theorem xi_268 : (Jvm.Cond.methodLinkNest "RopeShore" (24 : Nat) ({ cls := "RopeShore$Sheet", name := "<init>", desc := "()V" } : Jvm.MethodName) "RopeShore") ∈ xT2 := xT2_in 268 (by decide +kernel)
theorem xi_269 : (Jvm.Cond.instanceMethod ({ cls := "RopeShore$Sheet", name := "<init>", desc := "()V" } : Jvm.MethodName)) ∈ xT2 := xT2_in 269 (by decide +kernel)
theorem xi_270 : (Jvm.Cond.code ({ cls := "RopeShore$Sheet", name := "<init>", desc := "()V" } : Jvm.MethodName) prog_8_method_1_code (1 : Nat) (Option.none : Option Jvm.ClassFile.FieldType)) ∈ xT2 := xT2_in 270 (by decide +kernel)
theorem xi_271 : (Jvm.Cond.methodLink "RopeShore$Sheet" (3 : Nat) ({ cls := "java/lang/Object", name := "<init>", desc := "()V" } : Jvm.MethodName)) ∈ xT2 := xT2_in 271 (by decide +kernel)
theorem xi_272 : (Jvm.Cond.fieldLink "RopeShore$Sheet" (9 : Nat) "RopeShore$Sheet" "row" "[I") ∈ xT2 := xT2_in 272 (by decide +kernel)
theorem xi_274 : (Jvm.Cond.fieldLink "RopeShore$Sheet" (15 : Nat) "RopeShore$Sheet" "bits" "I") ∈ xT2 := xT2_in 274 (by decide +kernel)
theorem xi_276 : (Jvm.Cond.fieldLink "RopeShore$Sheet" (19 : Nat) "RopeShore$Sheet" "size" "I") ∈ xT2 := xT2_in 276 (by decide +kernel)
theorem xi_285 : (Jvm.Cond.classLink "RopeShore" (39 : Nat) "RopeShore$Text") ∈ xT2 := xT2_in 285 (by decide +kernel)
theorem xi_286 : (Jvm.Cond.methodLinkNest "RopeShore" (41 : Nat) ({ cls := "RopeShore$Text", name := "<init>", desc := "()V" } : Jvm.MethodName) "RopeShore") ∈ xT2 := xT2_in 286 (by decide +kernel)
theorem xi_287 : (Jvm.Cond.classLink "RopeShore" (46 : Nat) "RopeShore$Voice") ∈ xT2 := xT2_in 287 (by decide +kernel)
theorem xi_288 : (Jvm.Cond.instantiable "RopeShore$Voice" (5 : Nat)) ∈ xT2 := xT2_in 288 (by decide +kernel)
theorem xi_289 : (Jvm.Cond.methodLinkNest "RopeShore" (48 : Nat) ({ cls := "RopeShore$Voice", name := "<init>", desc := "()V" } : Jvm.MethodName) "RopeShore") ∈ xT2 := xT2_in 289 (by decide +kernel)
theorem xi_290 : (Jvm.Cond.instanceMethod ({ cls := "RopeShore$Voice", name := "<init>", desc := "()V" } : Jvm.MethodName)) ∈ xT2 := xT2_in 290 (by decide +kernel)
theorem xi_291 : (Jvm.Cond.code ({ cls := "RopeShore$Voice", name := "<init>", desc := "()V" } : Jvm.MethodName) prog_11_method_1_code (1 : Nat) (Option.none : Option Jvm.ClassFile.FieldType)) ∈ xT2 := xT2_in 291 (by decide +kernel)
theorem xi_292 : (Jvm.Cond.methodLink "RopeShore$Voice" (3 : Nat) ({ cls := "java/lang/Object", name := "<init>", desc := "()V" } : Jvm.MethodName)) ∈ xT2 := xT2_in 292 (by decide +kernel)
theorem xi_293 : (Jvm.Cond.fieldLink "RopeShore$Voice" (9 : Nat) "RopeShore$Voice" "bodies" "[I") ∈ xT2 := xT2_in 293 (by decide +kernel)
theorem xi_295 : (Jvm.Cond.fieldLink "RopeShore$Voice" (15 : Nat) "RopeShore$Voice" "began" "I") ∈ xT2 := xT2_in 295 (by decide +kernel)
theorem xi_297 : (Jvm.Cond.fieldLink "RopeShore$Voice" (19 : Nat) "RopeShore$Voice" "k" "I") ∈ xT2 := xT2_in 297 (by decide +kernel)
theorem xi_300 : (Jvm.Cond.fieldLink "RopeShore$Voice" (22 : Nat) "RopeShore$Voice" "m" "I") ∈ xT2 := xT2_in 300 (by decide +kernel)
theorem xi_303 : (Jvm.Cond.fieldLink "RopeShore$Voice" (25 : Nat) "RopeShore$Voice" "parted" "Z") ∈ xT2 := xT2_in 303 (by decide +kernel)
theorem xi_318 : (Jvm.Cond.fieldLink "RopeShore" (10 : Nat) "RopeShore" "now" "LRopeShore$Shore;") ∈ xT2 := xT2_in 318 (by decide +kernel)
theorem xi_319 : (Jvm.Cond.fieldLink "RopeShore" (16 : Nat) "RopeShore" "thought" "LRopeShore$Shore;") ∈ xT2 := xT2_in 319 (by decide +kernel)
theorem xi_320 : (Jvm.Cond.fieldLink "RopeShore" (19 : Nat) "RopeShore" "kept" "LRopeShore$Shore;") ∈ xT2 := xT2_in 320 (by decide +kernel)
theorem xi_321 : (Jvm.Cond.fieldLink "RopeShore" (25 : Nat) "RopeShore" "sheets" "[LRopeShore$Sheet;") ∈ xT2 := xT2_in 321 (by decide +kernel)
theorem xi_322 : (Jvm.Cond.fieldLink "RopeShore" (29 : Nat) "RopeShore" "errors" "[I") ∈ xT2 := xT2_in 322 (by decide +kernel)
theorem xi_323 : (Jvm.Cond.fieldLink "RopeShore" (33 : Nat) "RopeShore" "hands" "[I") ∈ xT2 := xT2_in 323 (by decide +kernel)
theorem xi_324 : (Jvm.Cond.fieldLink "RopeShore" (36 : Nat) "RopeShore" "ropes" "[I") ∈ xT2 := xT2_in 324 (by decide +kernel)
theorem xi_325 : (Jvm.Cond.fieldLink "RopeShore" (42 : Nat) "RopeShore" "read" "LRopeShore$Text;") ∈ xT2 := xT2_in 325 (by decide +kernel)
theorem xi_326 : (Jvm.Cond.fieldLink "RopeShore" (49 : Nat) "RopeShore" "latest" "LRopeShore$Voice;") ∈ xT2 := xT2_in 326 (by decide +kernel)
theorem xi_327 : (Jvm.Cond.fieldLink "RopeShore" (53 : Nat) "RopeShore" "images" "I") ∈ xT2 := xT2_in 327 (by decide +kernel)
theorem xi_866 : (Jvm.Cond.classLink "RopeShoreLaw" (10 : Nat) "RopeShoreModel") ∈ xT2 := xT2_in 866 (by decide +kernel)
theorem xi_867 : (Jvm.Cond.instantiable "RopeShoreModel" (21 : Nat)) ∈ xT2 := xT2_in 867 (by decide +kernel)
theorem xi_868 : (Jvm.Cond.methodLink "RopeShoreLaw" (12 : Nat) ({ cls := "RopeShoreModel", name := "<init>", desc := "()V" } : Jvm.MethodName)) ∈ xT2 := xT2_in 868 (by decide +kernel)
theorem xi_869 : (Jvm.Cond.instanceMethod ({ cls := "RopeShoreModel", name := "<init>", desc := "()V" } : Jvm.MethodName)) ∈ xT2 := xT2_in 869 (by decide +kernel)
theorem xi_870 : (Jvm.Cond.code ({ cls := "RopeShoreModel", name := "<init>", desc := "()V" } : Jvm.MethodName) prog_14_method_1_code (1 : Nat) (Option.none : Option Jvm.ClassFile.FieldType)) ∈ xT2 := xT2_in 870 (by decide +kernel)
theorem xi_871 : (Jvm.Cond.methodLink "RopeShoreModel" (3 : Nat) ({ cls := "java/lang/Object", name := "<init>", desc := "()V" } : Jvm.MethodName)) ∈ xT2 := xT2_in 871 (by decide +kernel)
theorem xi_872 : (Jvm.Cond.fieldLink "RopeShoreModel" (9 : Nat) "RopeShoreModel" "row" "[I") ∈ xT2 := xT2_in 872 (by decide +kernel)
theorem xi_873 : (Jvm.Cond.fieldLink "RopeShoreModel" (13 : Nat) "RopeShoreModel" "kept" "[I") ∈ xT2 := xT2_in 873 (by decide +kernel)
theorem xi_874 : (Jvm.Cond.fieldLink "RopeShoreModel" (16 : Nat) "RopeShoreModel" "before" "[I") ∈ xT2 := xT2_in 874 (by decide +kernel)
theorem xi_876 : (Jvm.Cond.fieldLink "RopeShoreModel" (19 : Nat) "RopeShoreModel" "errors" "[I") ∈ xT2 := xT2_in 876 (by decide +kernel)
theorem xi_877 : (Jvm.Cond.fieldLink "RopeShoreModel" (22 : Nat) "RopeShoreModel" "bitsOf" "[I") ∈ xT2 := xT2_in 877 (by decide +kernel)
theorem xi_878 : (Jvm.Cond.fieldLink "RopeShoreModel" (25 : Nat) "RopeShoreModel" "sizeOf" "[I") ∈ xT2 := xT2_in 878 (by decide +kernel)
theorem xi_879 : (Jvm.Cond.fieldLink "RopeShoreModel" (28 : Nat) "RopeShoreModel" "cells" "[I") ∈ xT2 := xT2_in 879 (by decide +kernel)
theorem xi_880 : (Jvm.Cond.fieldLink "RopeShoreModel" (31 : Nat) "RopeShoreModel" "act" "[I") ∈ xT2 := xT2_in 880 (by decide +kernel)
theorem xi_881 : (Jvm.Cond.fieldLink "RopeShoreModel" (34 : Nat) "RopeShoreModel" "with" "[I") ∈ xT2 := xT2_in 881 (by decide +kernel)
theorem xi_882 : (Jvm.Cond.fieldLink "RopeShoreModel" (37 : Nat) "RopeShoreModel" "facts" "[I") ∈ xT2 := xT2_in 882 (by decide +kernel)
theorem xi_883 : (Jvm.Cond.fieldLink "RopeShoreModel" (40 : Nat) "RopeShoreModel" "pile" "[I") ∈ xT2 := xT2_in 883 (by decide +kernel)
theorem xi_889 : (Jvm.Cond.fieldLink "RopeShoreModel" (43 : Nat) "RopeShoreModel" "more" "[I") ∈ xT2 := xT2_in 889 (by decide +kernel)
theorem xi_890 : (Jvm.Cond.fieldLink "RopeShoreModel" (46 : Nat) "RopeShoreModel" "trace" "[I") ∈ xT2 := xT2_in 890 (by decide +kernel)
theorem xi_1315 : (Jvm.Cond.castable "RopeShore$Gossip" "RopeShore$Person") ∈ xT2 := xT2_in 1315 (by decide +kernel)
theorem xi_1316 : (Jvm.Cond.castable "RopeShore$Mayor" "RopeShore$Person") ∈ xT2 := xT2_in 1316 (by decide +kernel)
theorem xi_1317 : (Jvm.Cond.castable "RopeShore$Cutter" "RopeShore$Person") ∈ xT2 := xT2_in 1317 (by decide +kernel)
theorem xi_1318 : (Jvm.Cond.castable "RopeShore$Doctor" "RopeShore$Person") ∈ xT2 := xT2_in 1318 (by decide +kernel)
theorem xi_1319 : (Jvm.Cond.castable "RopeShore$Judge" "RopeShore$Person") ∈ xT2 := xT2_in 1319 (by decide +kernel)
theorem xi_1320 : (Jvm.Cond.castable "RopeShore$Widow" "RopeShore$Person") ∈ xT2 := xT2_in 1320 (by decide +kernel)
