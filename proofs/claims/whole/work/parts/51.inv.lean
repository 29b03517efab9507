/-! ===== what holds of every state ===== -/
abbrev isOp (s : Int32) : Prop := s = 37 ∨ s = 38 ∨ s = 42 ∨ s = 43 ∨ s = 45 ∨ s = 47 ∨ s = 60 ∨ s = 61 ∨ s = 62 ∨ s = 124
def opc (c : Int32) : Prop := c < -3 → c ≠ -33 → isOp (-c)
theorem bnd_op {s : Int32} {b : Nat} (hb : b < 5) (h : bnd s = nI b) : isOp s := by
  by_cases e : isOp s
  · exact e
  · exfalso
    have h1 : bnd s = -1 := by
      show (if s = 37 then 4 else if s = 38 then 1 else if s = 42 then 4 else if s = 43 then 3 else if s = 45 then 3 else if s = 47 then 4 else if s = 60 then 2 else if s = 61 then 2 else if s = 62 then 2 else if s = 124 then 0 else -1 : Int32) = -1
      rw [if_neg (show ¬ s = 37 from fun z => e (Or.inl z)), if_neg (show ¬ s = 38 from fun z => e (Or.inr (Or.inl z))), if_neg (show ¬ s = 42 from fun z => e (Or.inr (Or.inr (Or.inl z)))), if_neg (show ¬ s = 43 from fun z => e (Or.inr (Or.inr (Or.inr (Or.inl z))))), if_neg (show ¬ s = 45 from fun z => e (Or.inr (Or.inr (Or.inr (Or.inr (Or.inl z)))))), if_neg (show ¬ s = 47 from fun z => e (Or.inr (Or.inr (Or.inr (Or.inr (Or.inr (Or.inl z))))))), if_neg (show ¬ s = 60 from fun z => e (Or.inr (Or.inr (Or.inr (Or.inr (Or.inr (Or.inr (Or.inl z)))))))), if_neg (show ¬ s = 61 from fun z => e (Or.inr (Or.inr (Or.inr (Or.inr (Or.inr (Or.inr (Or.inr (Or.inl z))))))))), if_neg (show ¬ s = 62 from fun z => e (Or.inr (Or.inr (Or.inr (Or.inr (Or.inr (Or.inr (Or.inr (Or.inr (Or.inl z)))))))))), if_neg (show ¬ s = 124 from fun z => e (Or.inr (Or.inr (Or.inr (Or.inr (Or.inr (Or.inr (Or.inr (Or.inr (Or.inr (z)))))))))))]
    rw [h1] at h
    obtain rfl | rfl | rfl | rfl | rfl : b = 0 ∨ b = 1 ∨ b = 2 ∨ b = 3 ∨ b = 4 := by omega
    all_goals exact absurd h (by decide)
theorem op_neg {s : Int32} (h : isOp s) : -s < -3 ∧ -s ≠ -33 ∧ - -s = s := by
  rcases h with rfl | rfl | rfl | rfl | rfl | rfl | rfl | rfl | rfl | rfl <;> decide
def wfr : List Int32 → Nat → Option Nat
  | [], t => some t
  | c :: L, t => if ¬ c < -3 then (if t < 60 then wfr L (t + 1) else none) else if c = -33 then (if 1 ≤ t then wfr L t else none) else (if 2 ≤ t then wfr L (t - 1) else none)
theorem wfr_app : ∀ (L M : List Int32) (t : Nat), wfr (L ++ M) t = (wfr L t).bind (wfr M)
  | [], _, _ => rfl
  | c :: L, M, t => by
    show wfr (c :: (L ++ M)) t = _
    unfold wfr
    split
    · split
      · exact wfr_app L M _
      · rfl
    · split
      · split
        · exact wfr_app L M _
        · rfl
      · split
        · exact wfr_app L M _
        · rfl
theorem wfr_T {f : Nat → Int32} : ∀ (L : List Int32) (i t t' : Nat), (∀ j, j < L.length → f (i + j) = L.getD j 0) → wfr L t = some t' → 1 ≤ t' → wfT f L.length i t = true := by
  intro L
  induction L with
  | nil =>
    intro i t t' _ h h1
    have e : t = t' := Option.some.inj h
    subst e
    exact decide_eq_true h1
  | cons c L ih =>
    intro i t t' hf h h1
    have h0 : f i = c := hf 0 (Nat.zero_lt_succ _)
    have hf' : ∀ j, j < L.length → f (i + 1 + j) = L.getD j 0 := by
      intro j hj
      have := hf (j + 1) (Nat.succ_lt_succ hj)
      rw [show i + 1 + j = i + (j + 1) by omega]
      exact this
    show wfT f (L.length + 1) i t = true
    unfold wfT
    unfold wfr at h
    rw [h0]
    by_cases hc : ¬ c < -3
    · rw [if_pos hc] at h ⊢
      by_cases ht : t < 60
      · rw [if_pos ht] at h
        rw [Bool.and_eq_true]
        exact ⟨decide_eq_true ht, ih _ _ _ hf' h h1⟩
      · rw [if_neg ht] at h
        exact absurd h (by simp)
    · rw [if_neg hc] at h ⊢
      by_cases h33 : c = -33
      · rw [if_pos h33] at h ⊢
        by_cases ht : 1 ≤ t
        · rw [if_pos ht] at h
          rw [Bool.and_eq_true]
          exact ⟨decide_eq_true ht, ih _ _ _ hf' h h1⟩
        · rw [if_neg ht] at h
          exact absurd h (by simp)
      · rw [if_neg h33] at h ⊢
        by_cases ht : 2 ≤ t
        · rw [if_pos ht] at h
          rw [Bool.and_eq_true]
          exact ⟨decide_eq_true ht, ih _ _ _ hf' h h1⟩
        · rw [if_neg ht] at h
          exact absurd h (by simp)
/-- a whole expression -/
def GL (L : List Int32) : Prop := (∀ t, t + L.length ≤ 60 → wfr L t = some (t + 1)) ∧ ∀ c, c ∈ L → opc c
def GP (p : Nat → xPR) : Prop := ∀ a, (p a).2.2 = false → GL (p a).2.1
theorem GL_push {v : Int32} (h : ¬ v < -3) : GL [v] := by
  refine ⟨fun t ht => ?_, fun c hc => ?_⟩
  · have ht : t + 1 ≤ 60 := ht
    unfold wfr
    rw [if_pos h, if_pos (by omega)]
    rfl
  · rw [List.mem_singleton] at hc
    subst hc
    exact fun e => absurd e h
theorem GL_deny {L : List Int32} (h : GL L) : GL (L ++ [-33]) := by
  refine ⟨fun t ht => ?_, fun c hc => ?_⟩
  · rw [List.length_append] at ht
    have ht : t + (L.length + 1) ≤ 60 := ht
    rw [wfr_app, h.1 t (by omega)]
    show wfr [-33] (t + 1) = _
    unfold wfr
    rw [if_neg (by decide), if_pos rfl, if_pos (by omega)]
    rfl
  · rw [List.mem_append, List.mem_singleton] at hc
    rcases hc with hc | rfl
    · exact h.2 c hc
    · exact fun _ e => absurd rfl e
theorem GL_op {L M : List Int32} {s : Int32} (h : GL L) (g : GL M) (hs : isOp s) : GL (L ++ (M ++ [-s])) := by
  obtain ⟨s1, s2, s3⟩ := op_neg hs
  refine ⟨fun t ht => ?_, fun c hc => ?_⟩
  · rw [List.length_append, List.length_append] at ht
    have ht : t + (L.length + (M.length + 1)) ≤ 60 := ht
    rw [wfr_app, h.1 t (by omega)]
    show wfr (M ++ [-s]) (t + 1) = _
    rw [wfr_app, g.1 (t + 1) (by omega)]
    show wfr [-s] (t + 1 + 1) = _
    unfold wfr
    rw [if_neg (not_not_intro s1), if_neg s2, if_pos (by omega)]
    rfl
  · rw [List.mem_append, List.mem_append, List.mem_singleton] at hc
    rcases hc with hc | hc | rfl
    · exact h.2 c hc
    · exact g.2 c hc
    · intro _ _
      rw [s3]
      exact hs
section GReader
variable {by_ : Nat → Int32} {n u : Nat}
theorem nI_sub {a c : Nat} (h : c ≤ a) : nI a - nI c = nI (a - c) := by
  rw [Int32.sub_eq_add_neg]
  have : nI a = nI (a - c) + nI c := by rw [nI_add, Nat.sub_add_cancel h]
  rw [this, Int32.add_assoc, Int32.add_right_neg, Int32.add_zero]
theorem nmL_nn : ∀ (k a w : Nat), (w + 1) * 10 ^ k ≤ 10 ^ 8 → ∃ w' : Nat, (nmL by_ n k a (nI w)).2 = nI w' ∧ w' + 1 ≤ 10 ^ 8
  | 0, a, w, hw => ⟨w, rfl, by omega⟩
  | k + 1, a, w, hw => by
    unfold nmL
    by_cases h : isD (nxt by_ n a)
    · rw [if_pos h]
      obtain ⟨e, he, he2⟩ := i32_ix (v := nxt by_ n a) (n := 57) (by decide) ⟨Int32.le_trans (by decide) h.1, h.2⟩
      rw [he] at h ⊢
      have h48 : 48 ≤ e := (nI_le_iff (a := 48) (b := e) (by omega) (by omega)).mp h.1
      have ev : nI w * 10 + nI e - 48 = nI (w * 10 + e - 48) := by
        rw [show nI w * 10 = nI (w * 10) from (Int32.ofNat_mul w 10).symm, nI_add]
        exact nI_sub (c := 48) (by omega)
      rw [ev]
      apply nmL_nn k (a + 1)
      rw [Nat.pow_succ, ← Nat.mul_assoc] at hw
      have h1 : (w * 10 + e - 48 + 1) * 10 ^ k ≤ ((w + 1) * 10) * 10 ^ k := Nat.mul_le_mul_right _ (by omega)
      have h2 : (w + 1) * 10 * 10 ^ k = (w + 1) * 10 ^ k * 10 := by rw [Nat.mul_assoc, Nat.mul_comm 10, Nat.mul_assoc]
      omega
    · rw [if_neg h]
      refine ⟨w, rfl, ?_⟩
      have h1 : 1 ≤ 10 ^ (k + 1) := Nat.one_le_pow _ _ (by omega)
      have h2 : (w + 1) * 1 ≤ (w + 1) * 10 ^ (k + 1) := Nat.mul_le_mul_left (w + 1) h1
      omega
theorem nam_rng (s : Int32) : nam u s = -1 ∨ nam u s = 0 ∨ nam u s = 1 ∨ nam u s = 2 := by
  unfold nam
  split
  · exact Or.inr (Or.inl rfl)
  · split
    · exact Or.inr (Or.inr (Or.inl rfl))
    · split
      · exact Or.inr (Or.inr (Or.inr rfl))
      · exact Or.inl rfl
theorem GP_single {deep : Bool} {one parts : Nat → xPR} (h1 : GP one) (h2 : GP parts) : GP (sgl by_ n u deep one parts) := by
  intro a hf
  unfold sgl at hf ⊢
  by_cases hd : isD (nxt by_ n a)
  · rw [if_pos hd]
    obtain ⟨w, hw, hw2⟩ := nmL_nn (by_ := by_) (n := n) 4 a 0 (by decide)
    have hw : (nmL by_ n 4 a 0).2 = nI w := hw
    show GL [(nmL by_ n 4 a 0).2]
    rw [hw]
    apply GL_push
    intro hc
    have h3 : nI w < 0 := Int32.lt_trans hc (by decide)
    exact nI_pos (by omega) h3
  rw [if_neg hd] at hf ⊢
  by_cases hn : 0 ≤ nam u (nxt by_ n a)
  · rw [if_pos hn]
    show GL [-1 - nam u (nxt by_ n a)]
    apply GL_push
    rcases nam_rng (u := u) (nxt by_ n a) with e | e | e | e
    · rw [e] at hn
      exact absurd hn (by decide)
    · rw [e]; decide
    · rw [e]; decide
    · rw [e]; decide
  rw [if_neg hn] at hf ⊢
  by_cases h33 : nxt by_ n a = 33 ∧ deep = true
  · rw [if_pos h33] at hf ⊢
    exact GL_deny (h1 _ hf)
  rw [if_neg h33] at hf ⊢
  by_cases h40 : nxt by_ n a = 40 ∧ deep = true
  · rw [if_pos h40] at hf ⊢
    by_cases hc : (parts (a + 1)).2.2 = false ∧ nxt by_ n (parts (a + 1)).1 = 41
    · rw [if_pos hc] at hf ⊢
      exact h2 _ hc.1
    · rw [if_neg hc] at hf
      exact absurd hf (by simp)
  · rw [if_neg h40] at hf
    exact absurd hf (by simp)
theorem GP_L {sub : Nat → xPR} {b : Nat} (hb : b < 5) (hs : GP sub) : ∀ (k : Nat) (r : xPR), (r.2.2 = false → GL r.2.1) → (prtL by_ n sub b k r).2.2 = false → GL (prtL by_ n sub b k r).2.1
  | 0, r, h, hf => h hf
  | k + 1, r, h, hf => by
    unfold prtL at hf ⊢
    by_cases hc : r.2.2 = false ∧ bnd (nxt by_ n r.1) = nI b
    · rw [if_pos hc] at hf ⊢
      exact GP_L hb hs k _ (fun e => GL_op (h hc.1) (hs _ e) (bnd_op hb hc.2)) hf
    · rw [if_neg hc] at hf ⊢
      exact h hf
theorem GP_parts {one : Nat → xPR} (h : GP one) : ∀ j, GP (prt by_ n one j)
  | 0 => h
  | j + 1 => fun a hf => GP_L (by omega) (GP_parts h j) _ _ (GP_parts h j a) hf
theorem GP_sg : ∀ o, GP (sg by_ n u o)
  | 0 => GP_single (fun a hf => absurd hf (by simp)) (fun a hf => absurd hf (by simp))
  | o + 1 => GP_single (GP_sg o) (GP_parts (GP_sg o) 5)
end GReader
theorem GL_rdr (S : xS) (u : Nat) (h : (rdr S u).2.2 = false) : GL (rdr S u).2.1 := GP_parts (GP_sg 5) 5 0 h
/-! the invariant -/
def okI (S : xS) : Prop := okS S ∧ okN S ∧ (S.2 2 = nI (ix (S.2 2)) ∧ ix (S.2 2) ≤ 24) ∧ (S.2 1 = nI (ix (S.2 1)) ∧ ix (S.2 1) ≤ 60) ∧
  (∀ p, cn S ≤ p → p < 8 → S.1 2 p = 0 ∧ S.1 3 p = 0) ∧ (∀ c, c < 64 → 0 ≤ S.1 4 c ∧ S.1 4 c ≤ 99) ∧ (∀ p, p < 8 → S.1 4 (9 * p) = 0) ∧
  (∀ j, j < ln0 S → opc (S.1 5 j)) ∧ (∀ j, j < ln1 S → opc (S.1 6 j))
def okQ (q : xQS) : Prop := okR q.1 ∧ okI q.2.1 ∧ okI q.2.2
theorem hel_99 (v : Int32) : 0 ≤ hel v 0 99 ∧ hel v 0 99 ≤ 99 := by
  unfold hel
  by_cases h1 : v < 99
  · rw [if_pos h1]
    by_cases h2 : 0 < v
    · rw [if_pos h2]
      exact ⟨Int32.le_of_lt h2, Int32.le_of_lt h1⟩
    · rw [if_neg h2]
      exact ⟨by decide, by decide⟩
  · rw [if_neg h1]
    exact ⟨by decide, by decide⟩
theorem okI_dy {S : xS} (h : okI S) : okI (dyS S) := by
  obtain ⟨hS, hN, hw, hf, hz, ht, hg, o0, o1⟩ := h
  refine ⟨okS_dy hS, okN_dy hS hN, hw, hf, fun p hp hp8 => ⟨(hz p hp hp8).1, ?_⟩, fun c hc => ?_, fun p hp => ?_, o0, o1⟩
  · show lsS S (cn S) p = 0
    have hp : cn S ≤ p := hp
    unfold lsS
    rw [if_neg (by omega)]
    exact (hz p hp hp8).2
  · show 0 ≤ tk (sL S (cn S)) (cn S) (cn S) 0 c ∧ tk (sL S (cn S)) (cn S) (cn S) 0 c ≤ 99
    unfold tk
    split
    · exact hel_99 _
    · exact ht c hc
  · show tk (sL S (cn S)) (cn S) (cn S) 0 (9 * p) = 0
    unfold tk
    rw [if_neg (by omega)]
    exact hg p hp
theorem okI_ds {S : xS} (h : okI S) : okI (dsS S) := by
  obtain ⟨hS, hN, hw, hf, hz, ht, hg, o0, o1⟩ := h
  have h1 := okS_ds hS
  have h2 := okN_ds hS hN
  unfold dsS at h1 h2 ⊢
  by_cases hc : cn S = 0
  · simp only [if_pos hc] at h1 h2 ⊢
    exact ⟨h1, h2, hw, hf, hz, ht, hg, o0, o1⟩
  · simp only [if_neg hc] at h1 h2 ⊢
    have hk : drn (nx (nx (S.2 5))) % cn S < cn S := Nat.mod_lt _ (by omega)
    split
    · next hl =>
      rw [if_pos hl] at h1 h2
      refine ⟨h1, h2, hw, hf, fun p hp hp8 => ?_, ht, hg, o0, o1⟩
      have hp : cn S ≤ p := hp
      refine ⟨?_, (hz p hp hp8).2⟩
      show upd (S.1 2) (drn (nx (nx (S.2 5))) % cn S) _ p = 0
      unfold upd
      rw [if_neg (by omega)]
      exact (hz p hp hp8).1
    · next hl =>
      rw [if_neg hl] at h1 h2
      exact ⟨h1, h2, hw, hf, hz, ht, hg, o0, o1⟩
theorem okI_dyI : ∀ (n : Nat) {S : xS} (g : Int32), okI S → okI (dyI n S g).2
  | 0, _, _, h => h
  | n + 1, _, _, h => okI_dyI n _ (okI_dy h)
theorem okI_drI : ∀ (n : Nat) {S : xS} (g : Int32), okI S → okI (drI n S g).2
  | 0, _, _, h => h
  | n + 1, _, _, h => okI_drI n _ (okI_dy (okI_ds h))
section Keeps
variable {R S K : xS}
theorem ok_e (h : okQ (R, S, K)) (k : Nat) : okQ (eQ k R S K).2 := ⟨h.1, h.2⟩
theorem km_ix {km : Int32} (h : 0 ≤ km ∧ km ≤ 69) : ∃ a : Nat, km / 10 = nI a ∧ a < 7 := by
  obtain ⟨k, rfl, hk⟩ := i32_ix (v := km) (n := 69) (by decide) h
  refine ⟨k / 10, ?_, by omega⟩
  have : ∀ k : Nat, k < 70 → nI k / 10 = nI (k / 10) := by decide +kernel
  exact this k (by omega)
theorem ok_kind {S : xS} (hS : okS S) {p : Nat} (hp : p < 8) {x : Int32} {f : Nat → Int32} {V : Nat → Int32} (hx : ∃ a : Nat, x = nI a ∧ a < 7) (hV : ∀ j, j ≠ 0 → V j = S.2 j) (h0 : V 0 = nI (ix (V 0)) ∧ ix (V 0) ≤ 8) : okS (u2 (u2 S.1 0 (upd (S.1 0) p x)) 1 f, V) := by
  obtain ⟨hc, hk, t0, t1⟩ := hS
  refine ⟨h0, fun q hq => ?_, ?_, ?_⟩
  · show upd (S.1 0) p x q = nI (upd (S.1 0) p x q).toNatClampNeg ∧ (upd (S.1 0) p x q).toNatClampNeg < 7
    unfold upd
    by_cases e : q = p
    · rw [if_pos e]
      obtain ⟨a, rfl, ha⟩ := hx
      rw [show (nI a).toNatClampNeg = a from nI_clamp (by omega)]
      exact ⟨rfl, ha⟩
    · rw [if_neg e]
      exact hk q hq
  · have e : V 6 = S.2 6 := hV 6 (by decide)
    show V 6 = nI (V 6).toNatClampNeg ∧ (V 6).toNatClampNeg ≤ 60 ∧ (0 < (V 6).toNatClampNeg → wfT (S.1 5) (V 6).toNatClampNeg 0 0 = true)
    rw [e]
    exact t0
  · have e : V 7 = S.2 7 := hV 7 (by decide)
    show V 7 = nI (V 7).toNatClampNeg ∧ (V 7).toNatClampNeg ≤ 60 ∧ (0 < (V 7).toNatClampNeg → wfT (S.1 6) (V 7).toNatClampNeg 0 0 = true)
    rw [e]
    exact t1
end Keeps
