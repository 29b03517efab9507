/-! ===== the machine does what the pictures do: instructions ===== -/
theorem xgo_inv {pc pc' : Nat} {ls ls' st st' : List Value} {σ σ' : xW} (h : xgo pc ls st σ = some ((pc', ls', st', σ'))) : pc = pc' ∧ ls = ls' ∧ st = st' ∧ σ = σ' := by
  unfold xgo at h
  cases h
  exact ⟨rfl, rfl, rfl, rfl⟩
theorem xpr {pc pc' : Nat} {ls ls' st st' : List Value} {σ σ' : xW} (h : (pc, ls, st, σ) = (pc', ls', st', σ')) : pc = pc' ∧ ls = ls' ∧ st = st' ∧ σ = σ' := by
  cases h
  exact ⟨rfl, rfl, rfl, rfl⟩
theorem ite_inv {α : Type} {c : Prop} [Decidable c] {a : Option α} {z : α} (h : (if c then a else none) = some z) : c ∧ a = some z := by
  by_cases hc : c
  · rw [if_pos hc] at h; exact ⟨hc, h⟩
  · rw [if_neg hc] at h; cases h
theorem iten_inv {α : Type} {c : Prop} [Decidable c] {a : Option α} {z : α} (h : (if c then none else a) = some z) : ¬ c ∧ a = some z := by
  by_cases hc : c
  · rw [if_pos hc] at h; cases h
  · rw [if_neg hc] at h; exact ⟨hc, h⟩
theorem x1_inv {st : List Value} {k : Int32 → List Value → xZ} {z : Nat × List Value × List Value × xW} (h : x1 st k = some z) : ∃ x r, st = .int x :: r ∧ k x r = some z := by
  unfold x1 at h
  split at h
  · exact ⟨_, _, rfl, h⟩
  · cases h
theorem x2_inv {st : List Value} {k : Int32 → Int32 → List Value → xZ} {z : Nat × List Value × List Value × xW} (h : x2 st k = some z) : ∃ x y r, st = .int y :: .int x :: r ∧ k x y r = some z := by
  unfold x2 at h
  split at h
  · exact ⟨_, _, _, rfl, h⟩
  · cases h
theorem xl1_inv {st : List Value} {k : Int64 → List Value → xZ} {z : Nat × List Value × List Value × xW} (h : xl1 st k = some z) : ∃ x r, st = .long x :: r ∧ k x r = some z := by
  unfold xl1 at h
  split at h
  · exact ⟨_, _, rfl, h⟩
  · cases h
theorem xl2_inv {st : List Value} {k : Int64 → Int64 → List Value → xZ} {z : Nat × List Value × List Value × xW} (h : xl2 st k = some z) : ∃ x y r, st = .long y :: .long x :: r ∧ k x y r = some z := by
  unfold xl2 at h
  split at h
  · exact ⟨_, _, _, rfl, h⟩
  · cases h
theorem xli_inv {st : List Value} {k : Int64 → Int32 → List Value → xZ} {z : Nat × List Value × List Value × xW} (h : xli st k = some z) : ∃ x y r, st = .int y :: .long x :: r ∧ k x y r = some z := by
  unfold xli at h
  split at h
  · exact ⟨_, _, _, rfl, h⟩
  · cases h
theorem xa1_inv {st : List Value} {k : Nat → List Value → xZ} {z : Nat × List Value × List Value × xW} (h : xa1 st k = some z) : ∃ x r, st = .ref x :: r ∧ k x r = some z := by
  unfold xa1 at h
  split at h
  · exact ⟨_, _, rfl, h⟩
  · cases h
theorem xai_inv {st : List Value} {k : Nat → Int32 → List Value → xZ} {z : Nat × List Value × List Value × xW} (h : xai st k = some z) : ∃ a i r, st = .int i :: .ref a :: r ∧ k a i r = some z := by
  unfold xai at h
  split at h
  · exact ⟨_, _, _, rfl, h⟩
  · cases h
theorem xaii_inv {st : List Value} {k : Nat → Int32 → Int32 → List Value → xZ} {z : Nat × List Value × List Value × xW} (h : xaii st k = some z) : ∃ a i x r, st = .int x :: .int i :: .ref a :: r ∧ k a i x r = some z := by
  unfold xaii at h
  split at h
  · exact ⟨_, _, _, _, rfl, h⟩
  · cases h
theorem xia_inv {st : List Value} {k : Nat → Int32 → List Value → xZ} {z : Nat × List Value × List Value × xW} (h : xia st k = some z) : ∃ a x r, st = .int x :: .ref a :: r ∧ k a x r = some z := by
  unfold xia at h
  split at h
  · exact ⟨_, _, _, rfl, h⟩
  · cases h
theorem xcp5_inv {st : List Value} {k : Int32 → Int32 → Nat → Int32 → Nat → List Value → xZ} {z : Nat × List Value × List Value × xW} (h : xcp5 st k = some z) : ∃ n dp a sp a0 r, st = .int n :: .int dp :: .ref a :: .int sp :: .ref a0 :: r ∧ k n dp a sp a0 r = some z := by
  unfold xcp5 at h
  split at h
  · exact ⟨_, _, _, _, _, _, rfl, h⟩
  · cases h
theorem xvi_inv {ls : List Value} {n : Nat} {k : Int32 → xZ} {z : Nat × List Value × List Value × xW} (h : xvi ls n k = some z) : ∃ x, ls[n]? = some (.int x) ∧ k x = some z := by
  unfold xvi at h
  split at h
  · rename_i x hx
    exact ⟨x, hx, h⟩
  · cases h
theorem xvl_inv {ls : List Value} {n : Nat} {k : Int64 → xZ} {z : Nat × List Value × List Value × xW} (h : xvl ls n k = some z) : ∃ x, ls[n]? = some (.long x) ∧ k x = some z := by
  unfold xvl at h
  split at h
  · rename_i x hx
    exact ⟨x, hx, h⟩
  · cases h
theorem xva_inv {ls : List Value} {n : Nat} {k : Nat → xZ} {z : Nat × List Value × List Value × xW} (h : xva ls n k = some z) : ∃ x, ls[n]? = some (.ref x) ∧ k x = some z := by
  unfold xva at h
  split at h
  · rename_i x hx
    exact ⟨x, hx, h⟩
  · cases h
theorem xmap_inv {α : Type} {o : Option α} {f : α → Nat × List Value × List Value × xW} {z : Nat × List Value × List Value × xW} (h : o.map f = some z) : ∃ w, o = some w ∧ f w = z := by
  cases o with
  | none => cases h
  | some w => cases h; exact ⟨w, rfl, rfl⟩
theorem xin_of {i : Int32} {N : Nat} (h : ¬ i < 0 ∧ i.toNatClampNeg < N) : vp_in i N := fun q => q.elim h.1 (fun q => absurd h.2 (Nat.not_lt.mpr q))
theorem xrd_inv {X : xX} {σ : xW} {ts : List Nat} {n : Nat} {i w : Int32} (h : xrd X σ ts n i = some w) : (∃ t N f, xg σ n = some (.inl (t, N, .inl f)) ∧ t ∈ ts ∧ vp_in i N ∧ w = f i.toNatClampNeg) ∨ (xg σ n = none ∧ ∃ t N f, xct X n = some (t, N, f) ∧ t ∈ ts ∧ vp_in i N ∧ w = f i.toNatClampNeg) := by
  unfold xrd at h
  split at h
  · rename_i t N f hg
    obtain ⟨⟨h1, h2⟩, h3⟩ := ite_inv h
    exact Or.inl ⟨t, N, f, hg, h1, xin_of h2, (Option.some.inj h3).symm⟩
  · cases h
  · rename_i hg
    split at h
    · rename_i t N f hc
      obtain ⟨⟨h1, h2⟩, h3⟩ := ite_inv h
      exact Or.inr ⟨hg, t, N, f, hc, h1, xin_of h2, (Option.some.inj h3).symm⟩
    · cases h
theorem xwr_inv {σ σ' : xW} {ts : List Nat} {n : Nat} {i x : Int32} (h : xwr σ ts n i x = some σ') : ∃ t N f, xg σ n = some (.inl (t, N, .inl f)) ∧ t ∈ ts ∧ vp_in i N ∧ σ' = xs σ n (.inl (t, N, .inl (upd f i.toNatClampNeg (xnw t x)))) := by
  unfold xwr at h
  split at h
  · rename_i t N f hg
    obtain ⟨⟨h1, h2⟩, h3⟩ := ite_inv h
    exact ⟨t, N, f, hg, h1, xin_of h2, (Option.some.inj h3).symm⟩
  · cases h
theorem xrr_inv {σ : xW} {n w : Nat} {i : Int32} (h : xrr σ n i = some w) : ∃ t N f, xg σ n = some (.inl (t, N, .inr (.inr (.inr (.inr f))))) ∧ (3 ≤ t ∧ t < 6) ∧ vp_in i N ∧ f i.toNatClampNeg = some w := by
  unfold xrr at h
  split at h
  · rename_i t N f hg
    obtain ⟨⟨h1, h2⟩, h3⟩ := ite_inv h
    exact ⟨t, N, f, hg, h1, xin_of h2, h3⟩
  · cases h
theorem xal_inv {X : xX} {σ : xW} {n w : Nat} (h : xal X σ n = some w) : (∃ t z, xg σ n = some (.inl (t, w, z)) ∧ t < 6) ∨ (xg σ n = none ∧ ∃ t f, xct X n = some (t, w, f)) := by
  unfold xal at h
  split at h
  · rename_i t N z hg
    obtain ⟨h1, h3⟩ := ite_inv h
    cases h3
    exact Or.inl ⟨t, z, hg, h1⟩
  · cases h
  · rename_i hg
    cases hc : xct X n with
    | none => rw [hc] at h; cases h
    | some q =>
      obtain ⟨t, N, f⟩ := q
      rw [hc] at h
      cases h
      exact Or.inr ⟨hg, t, f, rfl⟩
theorem xgf_inv {σ : xW} {n ci k : Nat} {w : Value} (h : xgf σ n ci k = some w) : ∃ fs, xg σ n = some (.inr (ci, fs)) ∧ fs[k]? = some w := by
  unfold xgf at h
  split at h
  · rename_i c fs hg
    obtain ⟨rfl, h3⟩ := ite_inv h
    exact ⟨fs, hg, h3⟩
  · cases h
theorem xpf_inv {σ σ' : xW} {n ci k : Nat} {x : Int32} (h : xpf σ n ci k x = some σ') : ∃ fs, xg σ n = some (.inr (ci, fs)) ∧ k < fs.length ∧ σ' = xs σ n (.inr (ci, fs.set k (.int x))) := by
  unfold xpf at h
  split at h
  · rename_i c fs hg
    obtain ⟨⟨rfl, h2⟩, h3⟩ := ite_inv h
    exact ⟨fs, hg, h2, (Option.some.inj h3).symm⟩
  · cases h
theorem xcc_inv {σ : xW} {n ci : Nat} (h : xcc σ n = some ci) : ∃ fs, xg σ n = some (.inr (ci, fs)) := by
  unfold xcc at h
  split at h
  · rename_i c fs hg
    cases h
    exact ⟨fs, hg⟩
  · cases h
theorem xcp_inv {σ σ' : xW} {n dp sp : Int32} {a a0 : Nat} (h : xcp σ n dp a sp a0 = some σ') : ∃ t N0 N1 f g, xg σ a0 = some (.inl (t, N0, .inl f)) ∧ xg σ a = some (.inl (t, N1, .inl g)) ∧
    (t < 2 ∧ ¬ sp < 0 ∧ ¬ dp < 0 ∧ ¬ n < 0 ∧ sp.toNatClampNeg + n.toNatClampNeg ≤ N0 ∧ dp.toNatClampNeg + n.toNatClampNeg ≤ N1 ∧ (t = 0 ∨ (List.range n.toNatClampNeg).all (fun i => fits .byte (.int (f (sp.toNatClampNeg + i)))) = true)) ∧
    σ' = xs σ a (.inl (t, N1, .inl (va_cpy f g sp.toNatClampNeg dp.toNatClampNeg n.toNatClampNeg))) := by
  unfold xcp at h
  split at h
  · rename_i t0 N0 f t1 N1 g h0 h1
    obtain ⟨⟨rfl, h2⟩, h3⟩ := ite_inv h
    exact ⟨t0, N0, N1, f, g, h0, h1, h2, (Option.some.inj h3).symm⟩
  · cases h
theorem xlook {α : Type} {l : List (Nat × α)} {a : Nat} {b : α} (h : l.lookup a = some b) : (a, b) ∈ l := by
  induction l with
  | nil => cases h
  | cons q l ih =>
    obtain ⟨k, v⟩ := q
    rw [List.lookup_cons] at h
    by_cases hk : a == k
    · rw [hk] at h
      cases h
      rw [show a = k from by simpa using hk]
      exact List.mem_cons_self
    · have hk2 : (a == k) = false := by simpa using hk
      rw [hk2] at h
      exact List.mem_cons_of_mem _ (ih h)
theorem xct_lt {X : xX} {n : Nat} {q : Nat × Nat × (Nat → Int32)} (h : xct X n = some q) : n = 1000 ∧ q = (0, 7, fun j => ([-1, 0, 0, 0, 1, 2, 0] : List Int32).getD j 0) ∨ n = 1001 ∧ q = (9, 6, fun j => ([103, 116, 115, 99, 108, 100] : List Int32).getD j 0) ∨ n = 1002 ∧ q = (0, X.1, X.2) := by
  unfold xct at h
  split at h
  · cases h; exact Or.inl ⟨by assumption, rfl⟩
  · split at h
    · cases h; exact Or.inr (Or.inl ⟨by assumption, rfl⟩)
    · split at h
      · cases h; exact Or.inr (Or.inr ⟨by assumption, rfl⟩)
      · cases h
theorem xsw_cases : ∀ (l : List (Nat × Nat)) (d : Nat) (x : Int32), (∃ (i : Nat) (q : Nat × Nat), l[i]? = some q ∧ x = Int32.ofNat q.1 ∧ xsw l d x = q.2) ∨ (xsw l d x = d ∧ ∀ q ∈ l, x ≠ Int32.ofNat q.1)
  | [], d, x => Or.inr ⟨rfl, fun q h => by cases h⟩
  | (k, t) :: r, d, x => by
    unfold xsw
    by_cases hx : x = Int32.ofNat k
    · rw [if_pos hx]
      exact Or.inl ⟨0, (k, t), rfl, hx, rfl⟩
    · rw [if_neg hx]
      rcases xsw_cases r d x with ⟨i, q, h1, h2, h3⟩ | ⟨h1, h2⟩
      · exact Or.inl ⟨i + 1, q, h1, h2, h3⟩
      · refine Or.inr ⟨h1, fun q hq => ?_⟩
        rcases List.mem_cons.mp hq with rfl | hq
        · exact hx
        · exact h2 q hq
theorem xlsw {pc : Nat} {d : Int} {b : Nat} (hb : (pc : Int) + d = (b : Int)) (x : Int32) : ∀ (l : List (Nat × Nat)) (ps : List (Int × Int)), l.map (fun q => ((q.1 : Int), (q.2 : Int))) = ps.map (fun q => (q.1, (pc : Int) + q.2)) → (∀ q ∈ l, q.1 < 1000) → (pc : Int) + Op.lookupswitch.offset ps d x.toInt = (xsw l b x : Int)
  | [], [], _, _ => hb
  | [], _ :: _, h, _ => by cases h
  | _ :: _, [], h, _ => by cases h
  | (k, t) :: l, (a, o) :: ps, h, hl => by
    simp only [List.map_cons, List.cons.injEq, Prod.mk.injEq] at h
    obtain ⟨⟨h1, h2⟩, h3⟩ := h
    have hk : k < 1000 := hl (k, t) List.mem_cons_self
    have hi : (Int32.ofNat k).toInt = (k : Int) := toInt_of rfl (by omega)
    rw [Op.lookupswitch.offset_cons]
    unfold xsw
    by_cases hx : x = Int32.ofNat k
    · rw [if_pos hx, if_pos (by rw [hx, hi]; exact h1.symm)]
      exact h2.symm
    · rw [if_neg hx, if_neg (fun e => hx (Int32.toInt_inj.mp (by rw [hi, h1]; exact e.symm)))]
      exact xlsw hb x l ps h3 (fun q hq => hl q (List.mem_cons_of_mem _ hq))
/-! the tables' words -/
theorem xwarm {args : Array Value} {s : State} (hts : ∀ w ∈ xT, w.before args s = true) : ∀ w ∈ xT, ∀ (a' : Array Value) (U : State), s.WarmedH U.vm → w.before a' U = true := by
  intro w hw a' U hW
  have h1 := hts w hw
  have h2 := (List.mem_filter.mp hw).2
  unfold xgood at h2
  rw [Bool.or_eq_true] at h2
  rcases h2 with h2 | h2
  · exact word_at hW (good_of_word h2) h1
  · cases w <;> first
      | exact va_Nw.use rfl (va_Nw.warmF hW (va_Nw.of rfl h1))
      | exact va_Nw.use rfl (va_Nw.warmM hW (va_Nw.of rfl h1))
      | cases h2
theorem xft_inv {j pc : Nat} {M : xM} {I : xI} (hj : xMs[j]? = some M) (hf : xft j pc = some I) : decode M.2.1 pc = .ok (I.1, I.2.1) ∧ xoth M.2.2.2.1 pc I = true ∧ ∀ w ∈ xneed M.1 I, w ∈ xT := by
  have hM := xMs_ok M (List.mem_of_getElem? hj)
  unfold xft at hf
  rw [hj] at hf
  have hf : (bif Nat.blt pc M.2.2.2.2.2 then M.2.2.2.2.1 pc else none) = some I := hf
  cases hlt : Nat.blt pc M.2.2.2.2.2 with
  | false => rw [hlt] at hf; cases hf
  | true =>
    rw [hlt] at hf
    have hf : M.2.2.2.2.1 pc = some I := hf
    unfold xchk at hM
    rw [Bool.and_eq_true, Bool.and_eq_true] at hM
    have h1 := List.all_eq_true.mp hM.2 pc (List.mem_range.mpr (Nat.blt_eq.mp hlt))
    unfold xchk1 at h1
    rw [hf] at h1
    simp only [Bool.and_eq_true, decide_eq_true_eq] at h1
    obtain ⟨⟨⟨h1, h2⟩, h3⟩, h4⟩ := h1
    refine ⟨h1, h2, fun w hw => ?_⟩
    refine List.mem_filter.mpr ⟨?_, List.all_eq_true.mp h4 w hw⟩
    have h5 : some w ∈ (xneed M.1 I).map some := List.mem_map.mpr ⟨w, hw, rfl⟩
    rw [h3] at h5
    obtain ⟨k, -, hk⟩ := List.mem_map.mp h5
    exact List.mem_of_getElem? hk
theorem xM_inv {j : Nat} {M : xM} (hj : xMs[j]? = some M) : plainName M.1.cls = true ∧ M.2.2.1 ≤ 20 := by
  have hM := xMs_ok M (List.mem_of_getElem? hj)
  unfold xchk at hM
  simp only [Bool.and_eq_true, decide_eq_true_eq] at hM
  exact hM.1
def xcf (q : vw_C) : Prop := (∃ ty : Nat → FieldType, ∀ k, k < q.2.2 → parseFieldDescriptor (q.2.1 k).2.2.1 = some (ty k)) ∧ ∀ a, a < q.2.2 → ∀ b, b < q.2.2 → a ≠ b → (q.2.1 a).2.1 ≠ (q.2.1 b).2.1
theorem xcl_f : ∀ q ∈ xcl, xcf q := List.forall_mem_cons.mpr ⟨⟨⟨xG0, xty0⟩, xnm0⟩, List.forall_mem_cons.mpr ⟨⟨⟨xG1, xty1⟩, xnm1⟩, List.forall_mem_cons.mpr ⟨⟨⟨xG2, xty2⟩, xnm2⟩, List.forall_mem_cons.mpr ⟨⟨⟨xG3, xty3⟩, xnm3⟩, List.forall_mem_cons.mpr ⟨⟨⟨xG4, xty4⟩, xnm4⟩, List.forall_mem_cons.mpr ⟨⟨⟨xG5, xty5⟩, xnm5⟩, List.forall_mem_cons.mpr ⟨⟨⟨xG6, xty6⟩, xnm6⟩, List.forall_mem_cons.mpr ⟨⟨⟨xG7, xty7⟩, xnm7⟩, List.forall_mem_cons.mpr ⟨⟨⟨xG8, xty8⟩, xnm8⟩, List.forall_mem_cons.mpr ⟨⟨⟨xG9, xty9⟩, xnm9⟩, List.forall_mem_cons.mpr ⟨⟨⟨xG10, xty10⟩, xnm10⟩, List.forall_mem_cons.mpr ⟨⟨⟨xG11, xty11⟩, xnm11⟩, List.forall_mem_cons.mpr ⟨⟨⟨xG12, xty12⟩, xnm12⟩, fun _ h => absurd h List.not_mem_nil⟩⟩⟩⟩⟩⟩⟩⟩⟩⟩⟩⟩⟩
theorem xcl_w {a : Nat} {q : vw_C} (h : xcl[a]? = some q) : ∀ w ∈ u_ws q.1 q.2.1 q.2.2, w ∈ xT := by
  have hl : xuw.length = xcl.length := by decide +kernel
  have ha : a < xcl.length := (List.getElem?_eq_some_iff.mp h).1
  obtain ⟨z, hz⟩ : ∃ z, xuw[a]? = some z := ⟨_, List.getElem?_eq_getElem (by omega)⟩
  have hm : (q, z) ∈ xcl.zip xuw := by
    refine List.mem_of_getElem? (i := a) ?_
    rw [List.getElem?_zip_eq_some]
    exact ⟨h, hz⟩
  have h1 := List.all_eq_true.mp xuw_ok (q, z) hm
  simp only [Bool.and_eq_true, decide_eq_true_eq] at h1
  intro w hw
  refine List.mem_filter.mpr ⟨?_, List.all_eq_true.mp h1.2 w hw⟩
  have h5 : some w ∈ (u_ws q.1 q.2.1 q.2.2).map some := List.mem_map.mpr ⟨w, hw, rfl⟩
  rw [h1.1] at h5
  obtain ⟨k, -, hk⟩ := List.mem_map.mp h5
  exact List.mem_of_getElem? hk

/-- where a walk stands -/
def xCx (p : Program) (l : Launch) (e : Env) (R : Room) (s : State) (m : MethodId) (args : Array Value) (below : List Frame) (meth : Method) (c : Code) (cells slots : Nat) (D : va_G) (cA : Nat → ClassId) (ad : Nat → Nat) (X : xX) (A : Nat → Prop) (d : Nat) (O : xO) (M : xM) : Prop :=
  p.tables.exec = Jvm.exec ∧ c.code = M.2.1 ∧ c.maxLocals = M.2.2.1 ∧ s.vm.findClass M.1.cls = some m.cls ∧ (∀ w ∈ xT, w.before args s = true) ∧ va_K D xcl (xtys cA) s ∧ xAp ad ∧ (∀ q, xA ad q → A q) ∧ xSt A ad X s s.heap ∧ xHolds l D cA ad X O.2 d ∧ O.1 = X ∧ (d + 1 ≤ R.frames ∧ 40 * d + 40 ≤ R.locals) ∧ (cells ≤ R.cells ∧ slots ≤ R.slots)
section XW
variable {p : Program} {l : Launch} {e : Env} {R : Room} {s : State} {m : MethodId} {args : Array Value} {below : List Frame} {meth : Method} {c : Code} {cells slots : Nat} {Q : State → Prop}
variable {D : va_G} {cA : Nat → ClassId} {ad : Nat → Nat} {X : xX} {A : Nat → Prop} {d : Nat} {O : xO} {M : xM}
theorem xSt_at (C : xCx p l e R s m args below meth c cells slots D cA ad X A d O M) {H : Heap} {locs : List Loc} (hS : va_S A s.heap H locs) {U : State} (hU : U.heap = H) (hW : s.WarmedH U.vm) : xSt (xA ad) ad X U U.heap := by
  obtain ⟨-, -, -, -, -, -, -, hsub, hSt, -⟩ := C
  rw [hU]
  exact ((hSt.kept hS.2.1).moved hW.alike).narrow hsub
theorem xB_at (C : xCx p l e R s m args below meth c cells slots D cA ad X A d O M) {σ : xW} {H : Heap} {locs : List Loc} (hP : va_P D xcl (xcw cA ad σ) H) (hS : va_S A s.heap H locs) {U : State} (hU : U.heap = H) (hW : s.WarmedH U.vm) : xB D cA ad X (xA ad) σ U := by
  refine ⟨va_K.moved hW.alike C.2.2.2.2.2.1, by rw [hU]; exact hP, xSt_at C hS hU hW⟩
/-- behind a call -/
theorem x_run (C : xCx p l e R s m args below meth c cells slots D cA ad X A d O M) {H : Heap} {locs : List Loc} {pc : Nat} {lsC : Array Slot} {st0 rest : List Value} {q : xQ} {a : Array Value} (hS : va_S A s.heap H locs)
    (hr : va_Run p l e R s m args below meth c H locs cells slots 0 0 (F0 m pc lsC st0) rest (xQc D cA ad X q a) (xA ad))
    (kk : ∀ (H1 : Heap) (locs1 : List Loc), xoo q.2 → va_P D xcl (xcw cA ad q.2) H1 → va_S A s.heap H1 locs1 → W p l e R s m args below meth c H1 locs1 cells slots Q (F0 m (pc + 3) lsC ((q.1.map (xcv ad)).toList ++ rest))) : W p l e R s m args below meth c H locs cells slots Q (F0 m pc lsC st0) := by
  have hsub := C.2.2.2.2.2.2.2.1
  intro T hT X'
  obtain ⟨v, st₀, t, T', L, h0, X2, hL, e1, e2, ⟨hv, hok, hB, hz, hk⟩, st⟩ := hr T hT X'
  rw [h0] at hz hk
  have hv : v = q.1.map (xcv ad) := Outcome.returned.inj hv
  subst hv
  obtain ⟨t2, a1, b1⟩ := kk T'.heap (locs ++ L) hok (by rw [e1]; exact hB.2.1)
    ⟨Nat.le_trans hS.1 (by rw [e1]; exact hz), fun z h1 h2 => by rw [e1, hk z (Nat.lt_of_lt_of_le h1 hS.1) (fun y => h2 (hsub z y))]; exact hS.2.1 z h1 h2, fun z hz => by
      rcases List.mem_append.mp hz with h | h
      · exact hS.2.2 z h
      · exact hsub _ (hL z h)⟩ T' rfl X2
  exact ⟨t2, st t2 a1, b1⟩
theorem xcat_sum (ad : Nat → Nat) : ∀ r : List Value, ((r.map (xcv ad)).map fun v => v.category).sum ≤ 2 * r.length
  | [] => by simp
  | v :: r => by
    have h1 := xcat_sum ad r
    have h2 : (xcv ad v).category ≤ 2 := by rcases lv_cat (xcv ad v) with h | h <;> omega
    simp only [List.map_cons, List.sum_cons, List.length_cons]
    omega
theorem xrest {ad : Nat → Nat} {r : List Value} (h : (r.map fun v => v.category).sum ≤ 8) : ((r.map (xcv ad)).map fun v => v.category).sum ≤ 8 := by
  rw [List.map_map]
  rw [show ((fun v : Value => v.category) ∘ xcv ad) = fun v => v.category from funext fun v => xcv_cat ad v]
  exact h
theorem xarg_inv {n : Nat} {st : List Value} {k : List Value → List Value → xZ} {z : Nat × List Value × List Value × xW} (h : xarg n st k = some z) : ∃ as r, as.length = n ∧ (r.map fun v => v.category).sum ≤ 8 ∧ st = as.reverse ++ r ∧ k as r = some z := by
  unfold xarg at h
  obtain ⟨⟨h1, h2⟩, h3⟩ := ite_inv h
  refine ⟨(st.take n).reverse, st.drop n, by simp; omega, h2, by simp, h3⟩
theorem xcallr_inv {r : Option xQ} {pc pc' : Nat} {ls ls' rest st' : List Value} {σ' : xW} (h : xcallr r pc ls rest = some ((pc', ls', st', σ'))) : ∃ q, r = some q ∧ pc = pc' ∧ ls = ls' ∧ st' = q.1.toList ++ rest ∧ σ' = q.2 := by
  unfold xcallr at h
  obtain ⟨q, rfl, h⟩ := xmap_inv h
  cases h
  exact ⟨q, rfl, rfl, rfl, rfl, rfl⟩
theorem xtol (ad : Nat → Nat) (q : Option Value) (r : List Value) : (q.toList ++ r).map (xcv ad) = (q.map (xcv ad)).toList ++ r.map (xcv ad) := by
  cases q <;> simp
end XW
