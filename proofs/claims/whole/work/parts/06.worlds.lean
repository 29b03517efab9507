/-! ===== the machine does what the pictures do: worlds ===== -/
def xcv (ad : Nat → Nat) : Value → Value
  | .ref k => .ref (ad k)
  | v => v
theorem xcv_cat (ad : Nat → Nat) (v : Value) : (xcv ad v).category = v.category := by cases v <;> rfl
def xtys (cA : Nat → ClassId) : List (ClassId × FieldType) := [(cA 0, .int), (cA 1, .byte), (cA 2, .boolean), (cA 3, .object "RopeShore$Person"), (cA 4, .object "RopeShore$Text"), (cA 5, .object "RopeShore$Sheet")]
def xca (ad : Nat → Nat) : vp_A → vp_A
  | (N, .inr (.inr (.inr (.inr f)))) => (N, .inr (.inr (.inr (.inr fun k => (f k).map ad))))
  | a => a
def xce (cA : Nat → ClassId) (ad : Nat → Nat) : xE → va_E
  | .inl (t, a) => .inl (cA t, xca ad a)
  | .inr (c, fs) => .inr (c, fs.map (xcv ad))
def xPL : List (Nat × Nat) := (List.range 5).flatMap fun b => (List.range (xln b)).map fun i => (b, i)
def xcw (cA : Nat → ClassId) (ad : Nat → Nat) (σ : xW) : va_W := xPL.map fun q => (ad (sh q.1 q.2), xce cA ad ((σ q.1).getD q.2 (.inr (0, []))))
theorem xPL_at {b i : Nat} (h : i < xln b) : ∃ k : Nat, xPL[k]? = some (b, i) := by
  have hb : b < 5 := by
    apply Classical.byContradiction
    intro hb
    unfold xln at h
    rw [if_neg (by omega), if_neg (by omega), if_neg (by omega)] at h
    omega
  exact List.getElem?_of_mem (List.mem_flatMap.mpr ⟨b, List.mem_range.mpr hb, List.mem_map.mpr ⟨i, List.mem_range.mpr h, rfl⟩⟩)
theorem xPL_lt {k : Nat} {q : Nat × Nat} (h : xPL[k]? = some q) : q.2 < xln q.1 := by
  obtain ⟨b, -, hb⟩ := List.mem_flatMap.mp (List.mem_of_getElem? h)
  obtain ⟨i, hi, rfl⟩ := List.mem_map.mp hb
  exact List.mem_range.mp hi
theorem xPL_nd : va_nd (xPL.map fun q => sh q.1 q.2) = true := by decide +kernel
theorem xPL_inj {i j : Nat} {q : Nat × Nat} (h1 : xPL[i]? = some q) (h2 : xPL[j]? = some q) : i = j := by
  refine va_nd_inj _ xPL_nd i j (sh q.1 q.2) ?_ ?_
  · rw [List.getElem?_map, h1]; rfl
  · rw [List.getElem?_map, h2]; rfl
theorem xcw_at {cA : Nat → ClassId} {ad : Nat → Nat} {σ : xW} {n : Nat} {e : xE} (hok : xoo σ) (h : xg σ n = some e) : ∃ k : Nat, (xcw cA ad σ)[k]? = some (ad n, xce cA ad e) ∧ ∀ e', xcw cA ad (xs σ n e') = (xcw cA ad σ).set k (ad n, xce cA ad e') := by
  have hlt : n % 64 < (σ (n / 64)).length := (List.getElem?_eq_some_iff.mp h).1
  have hi := hlt
  rw [hok] at hi
  obtain ⟨k, hk⟩ := xPL_at hi
  have hn : sh (n / 64) (n % 64) = n := Nat.div_add_mod n 64
  have hkl : k < xPL.length := (List.getElem?_eq_some_iff.mp hk).1
  have h0 : (σ (n / 64))[n % 64]? = some e := h
  refine ⟨k, ?_, fun e' => ?_⟩
  · unfold xcw
    rw [List.getElem?_map, hk]
    simp only [Option.map_some, hn]
    rw [List.getD_eq_getElem?_getD, h0]
    rfl
  · apply List.ext_getElem?
    intro k'
    by_cases hkk : k = k'
    · subst hkk
      rw [List.getElem?_set_self (by unfold xcw; rw [List.length_map]; exact hkl)]
      unfold xcw
      rw [List.getElem?_map, hk]
      simp only [Option.map_some, hn]
      rw [List.getD_eq_getElem?_getD]
      unfold xs
      rw [if_pos rfl, List.getElem?_set_self hlt]
      rfl
    · rw [List.getElem?_set_ne hkk]
      unfold xcw
      rw [List.getElem?_map, List.getElem?_map]
      cases hq : xPL[k']? with
      | none => rfl
      | some q =>
        simp only [Option.map_some]
        congr 2
        rw [List.getD_eq_getElem?_getD, List.getD_eq_getElem?_getD]
        unfold xs
        by_cases hb : q.1 = n / 64
        · rw [if_pos hb]
          have h2 : ¬ n % 64 = q.2 := by
            intro e2
            have : q = (n / 64, n % 64) := by rw [← hb, e2]
            rw [this] at hq
            exact hkk (xPL_inj hk hq)
          rw [List.getElem?_set_ne h2]
        · rw [if_neg hb]
def xSt (A : Nat → Prop) (ad : Nat → Nat) (X : xX) (U : State) (H : Heap) : Prop :=
  va_T .int (ad 1000) 7 (fun j => .int (([-1, 0, 0, 0, 1, 2, 0] : List Int32).getD j 0)) A U H ∧ va_T .char (ad 1001) 6 (fun j => .int (([103, 116, 115, 99, 108, 100] : List Int32).getD j 0)) A U H ∧ va_T .int (ad 1002) X.1 (fun j => .int (X.2 j)) A U H ∧
  va_Z "RopeShore" "ABOVE" "[I" (.ref (ad 1000)) A U H ∧ va_Z "RopeShore$Text" "NAMES" "[C" (.ref (ad 1001)) A U H
theorem xSt.kept {A : Nat → Prop} {ad : Nat → Nat} {X : xX} {U : State} {H H1 : Heap} (h : xSt A ad X U H) (hq : ∀ a : Nat, a < H.size → ¬ A a → H1[a]? = H[a]?) : xSt A ad X U H1 :=
  ⟨h.1.kept hq, h.2.1.kept hq, h.2.2.1.kept hq, h.2.2.2.1.kept hq, h.2.2.2.2.kept hq⟩
theorem xSt.moved {A : Nat → Prop} {ad : Nat → Nat} {X : xX} {u U : State} {H : Heap} (hvm : u.vm.Alike U.vm) (h : xSt A ad X u H) : xSt A ad X U H :=
  ⟨h.1.moved hvm, h.2.1.moved hvm, h.2.2.1.moved hvm, va_Z.moved hvm h.2.2.2.1, va_Z.moved hvm h.2.2.2.2⟩
theorem xSt.narrow {A B : Nat → Prop} {ad : Nat → Nat} {X : xX} {U : State} {H : Heap} (h : xSt A ad X U H) (hAB : ∀ q, B q → A q) : xSt B ad X U H :=
  ⟨h.1.narrow hAB, h.2.1.narrow hAB, h.2.2.1.narrow hAB, h.2.2.2.1.narrow hAB, h.2.2.2.2.narrow hAB⟩
def xA (ad : Nat → Nat) : Nat → Prop := fun q => ∃ p ∈ xPL, q = ad (sh p.1 p.2)
def xAp (ad : Nat → Nat) : Prop := ∀ (i j : Nat) (p q : Nat × Nat), xPL[i]? = some p → xPL[j]? = some q → ad (sh p.1 p.2) = ad (sh q.1 q.2) → i = j
theorem xD {ad : Nat → Nat} {A : Nat → Prop} (hAp : xAp ad) (hsub : ∀ q, xA ad q → A q) (cA : Nat → ClassId) (σ : xW) : va_D A (xcw cA ad σ) := by
  have key : ∀ (k : Nat) (q : Nat × va_E), (xcw cA ad σ)[k]? = some q → ∃ p, xPL[k]? = some p ∧ q.1 = ad (sh p.1 p.2) := by
    intro k q hk
    unfold xcw at hk
    rw [List.getElem?_map] at hk
    cases hp : xPL[k]? with
    | none => rw [hp] at hk; cases hk
    | some p =>
      rw [hp] at hk
      cases hk
      exact ⟨p, rfl, rfl⟩
  refine ⟨fun i j p q hi hj hpq => ?_, fun k q hk => ?_⟩
  · obtain ⟨p', h1, e1⟩ := key i p hi
    obtain ⟨q', h2, e2⟩ := key j q hj
    exact hAp i j p' q' h1 h2 (e1.symm.trans (hpq.trans e2))
  · obtain ⟨p, h1, e1⟩ := key k q hk
    exact hsub _ ⟨p, List.mem_of_getElem? h1, e1⟩
def xB (D : va_G) (cA : Nat → ClassId) (ad : Nat → Nat) (X : xX) (A : Nat → Prop) (σ : xW) : State → Prop := fun U => va_K D xcl (xtys cA) U ∧ va_P D xcl (xcw cA ad σ) U.heap ∧ xSt A ad X U U.heap
def xQc (D : va_G) (cA : Nat → ClassId) (ad : Nat → Nat) (X : xX) (q : xQ) : Array Value → State → Outcome → State → Prop := fun _ st o t => o = .returned (q.1.map (xcv ad)) ∧ xoo q.2 ∧ xB D cA ad X (xA ad) q.2 t ∧ va_F (xA ad) st t
def xrm (d : Nat) : Room := { frames := d, cells := 0, slots := 0, locals := 40 * d }
def xws (M : xM) : List Cond := xwd M :: xT
/-- what the calls of an oracle are, on the machine -/
def xHolds (l : Launch) (D : va_G) (cA : Nat → ClassId) (ad : Nat → Nat) (X : xX) (O : Nat → List Value → xW → Option xQ) (d : Nat) : Prop :=
  ∀ (j : Nat) (M : xM) (as : List Value) (σ : xW) (q : xQ), xMs[j]? = some M → xoo σ → O j as σ = some q → Met l M.1 (xws M) (xrm d) (va_Pc (as.map (xcv ad)) (xB D cA ad X (xA ad) σ)) (xQc D cA ad X q) 0 0 (xA ad)
theorem xblind {D : va_G} {cA : Nat → ClassId} {ad : Nat → Nat} {X : xX} {A : Nat → Prop} {σ : xW} {as : List Value} : FrameBlind (va_Pc as (xB D cA ad X A σ)) := by
  intro a U g mk q
  obtain ⟨q1, qK, qP, qS⟩ := q
  exact ⟨q1, va_K.moved (u := U) (U := U.calling g mk a) (Vm.Alike.refl U.vm) qK, qP, xSt.moved (u := U) (U := U.calling g mk a) (Vm.Alike.refl U.vm) qS⟩
/-! the locals -/
def xL (ad : Nat → Nat) (ls : List Value) (lsC : Array Slot) : Prop := lsC.size = ls.length ∧ lv_wf lsC ∧ ∀ (i : Nat) (v : Value), ls[i]? = some v → v ≠ .null → lsC[i]? = some (.val (xcv ad v))
def xlv1 (ad : Nat → Nat) (i : Nat) : Option Value → Option (Nat × Value)
  | some .null => none
  | some v => some (i, xcv ad v)
  | none => none
def xlv (ad : Nat → Nat) (ls : List Value) : List (Nat × Value) := (List.range ls.length).filterMap fun i => xlv1 ad i ls[i]?
theorem xlv_mem {ad : Nat → Nat} {ls : List Value} {i : Nat} {v : Value} (h : ls[i]? = some v) (hv : v ≠ .null) : (i, xcv ad v) ∈ xlv ad ls := by
  refine List.mem_filterMap.mpr ⟨i, List.mem_range.mpr (List.getElem?_eq_some_iff.mp h).1, ?_⟩
  rw [h]
  cases v <;> first | rfl | exact absurd rfl hv
theorem xlv_spec {ad : Nat → Nat} {ls : List Value} {q : Nat × Value} (h : q ∈ xlv ad ls) : ∃ v, ls[q.1]? = some v ∧ v ≠ .null ∧ q.2 = xcv ad v := by
  obtain ⟨i, -, hi⟩ := List.mem_filterMap.mp h
  cases hl : ls[i]? with
  | none => rw [hl] at hi; cases hi
  | some v =>
    rw [hl] at hi
    cases v <;> first | cases hi; done | (cases hi; exact ⟨_, hl, fun z => (by cases z), rfl⟩)
theorem xL.has {ad : Nat → Nat} {ls : List Value} {lsC : Array Slot} (h : xL ad ls lsC) : lv_has lsC ls.length (xlv ad ls) := by
  refine ⟨h.1, h.2.1, fun q hq => ?_⟩
  obtain ⟨v, h1, h2, h3⟩ := xlv_spec hq
  rw [h3]
  exact h.2.2 q.1 v h1 h2
theorem xsto_lt {ls : List Value} {n : Nat} (h : xsto ls n = true) : n < ls.length := by
  unfold xsto at h
  rw [Bool.and_eq_true] at h
  exact of_decide_eq_true h.1
theorem xL_sto {ad : Nat → Nat} {ls : List Value} {ls' : Array Slot} {n : Nat} {x : Value} (hsto : xsto ls n = true) (h : lv_has ls' ls.length ((n, xcv ad x) :: (xlv ad ls).filter (fun q => !(q.1 == n) && !(q.1 + 1 == n && q.2.category == 2)))) : xL ad (ls.set n x) ls' := by
  have hn := xsto_lt hsto
  refine ⟨by rw [List.length_set]; exact h.1, h.2.1, fun i v hv hne => ?_⟩
  by_cases hi : n = i
  · subst hi
    rw [List.getElem?_set_self hn] at hv
    cases hv
    exact h.2.2 (n, xcv ad x) List.mem_cons_self
  · rw [List.getElem?_set_ne hi] at hv
    refine h.2.2 (i, xcv ad v) (List.mem_cons_of_mem _ (List.mem_filter.mpr ⟨xlv_mem hv hne, ?_⟩))
    have h1 : (i == n) = false := by simp; omega
    by_cases h2 : i + 1 = n
    · subst h2
      unfold xsto at hsto
      rw [Bool.and_eq_true] at hsto
      have h3 := hsto.2
      simp only [hv] at h3
      have h4 : v.category = 1 := by simpa using h3
      simp [h1, xcv_cat, h4]
    · simp [h1, h2]
theorem xargs_mem {ad : Nat → Nat} : ∀ (as : List Value) (k i : Nat) (v : Value), (xargs as)[i]? = some v → v ≠ .null → (k + i, xcv ad v) ∈ lv_args k (as.map (xcv ad))
  | [], k, i, v, h, _ => by simp [xargs] at h
  | a :: as, k, i, v, h, hv => by
    have e : xargs (a :: as) = (if a.category = 2 then [a, .null] else [a]) ++ xargs as := by simp [xargs]
    rw [e] at h
    rw [List.map_cons]
    unfold lv_args
    rw [xcv_cat]
    by_cases hc : a.category = 2
    · rw [if_pos hc] at h ⊢
      match i, h with
      | 0, h =>
        have h : some a = some v := h
        cases h
        exact List.mem_cons_self
      | 1, h =>
        have h : some Value.null = some v := h
        cases h
        exact absurd rfl hv
      | i + 2, h =>
        have h : (xargs as)[i]? = some v := h
        refine List.mem_cons_of_mem _ ?_
        have := xargs_mem (ad := ad) as (k + 2) i v h hv
        rw [show k + (i + 2) = k + 2 + i by omega]
        exact this
    · rw [if_neg hc] at h ⊢
      match i, h with
      | 0, h =>
        have h : some a = some v := h
        cases h
        exact List.mem_cons_self
      | i + 1, h =>
        have h : (xargs as)[i]? = some v := h
        refine List.mem_cons_of_mem _ ?_
        have := xargs_mem (ad := ad) as (k + 1) i v h hv
        rw [show k + (i + 1) = k + 1 + i by omega]
        exact this
theorem xargs_len {ad : Nat → Nat} (as : List Value) : (lg_sl (as.map (xcv ad))).length = (xargs as).length := by
  induction as with
  | nil => rfl
  | cons a as ih =>
    have e : xargs (a :: as) = (if a.category = 2 then [a, .null] else [a]) ++ xargs as := by simp [xargs]
    have e2 : lg_sl ((a :: as).map (xcv ad)) = (if (xcv ad a).category = 2 then [.val (xcv ad a), .second] else [.val (xcv ad a)]) ++ lg_sl (as.map (xcv ad)) := by simp [lg_sl]
    rw [e, e2, xcv_cat]
    by_cases hc : a.category = 2
    · rw [if_pos hc, if_pos hc, List.length_append, List.length_append, ih]; rfl
    · rw [if_neg hc, if_neg hc, List.length_append, List.length_append, ih]; rfl
theorem xL_ent {ad : Nat → Nat} {as : List Value} {n : Nat} {lsC : Array Slot} (hle : (xargs as).length ≤ n) (h : lv_has lsC n (lv_args 0 (as.map (xcv ad)))) : xL ad (xent n as) lsC ∧ (xent n as).length = n := by
  have hlen : (xent n as).length = n := by unfold xent; rw [List.length_append, List.length_replicate]; omega
  refine ⟨⟨by rw [hlen]; exact h.1, h.2.1, fun i v hv hne => ?_⟩, hlen⟩
  unfold xent at hv
  by_cases hi : i < (xargs as).length
  · rw [List.getElem?_append_left hi] at hv
    have := xargs_mem (ad := ad) as 0 i v hv hne
    rw [Nat.zero_add] at this
    exact h.2.2 _ this
  · rw [List.getElem?_append_right (by omega)] at hv
    exact absurd (List.eq_of_mem_replicate (List.mem_of_getElem? hv)) hne
