/-! ===== the model: what is written into its row ===== -/
theorem upq {f : Nat → Int32} {k j : Nat} {x : Int32} (h : j ≠ k) : upd f k x j = f j := if_neg h
theorem upk (f : Nat → Int32) (k : Nat) (x : Int32) : upd f k x k = x := if_pos rfl
theorem upr {f g : Nat → Int32} {k l i j : Nat} {x : Int32} (h : f i = g j) (e : i = k ↔ j = l) : upd f k x i = upd g l x j := by
  unfold upd
  by_cases h1 : j = l
  · rw [if_pos h1, if_pos (e.mpr h1)]
  · rw [if_neg h1, if_neg (fun z => h1 (e.mp z))]
    exact h
abbrev lnS (S : xS) : Prop := ln0 S ≤ 60 ∧ ln1 S ≤ 60
theorem okS.ln {S : xS} (h : okS S) : lnS S := ⟨h.2.2.1.2.1, h.2.2.2.2.1⟩
section MRow
variable {r : Nat → Int32} {S : xS}
theorem RS_p0 (h : RS r S) (hS : lnS S) {p : Nat} (hp : p < 8) (x : Int32) : RS (upd r (6 + 4 * p) x) (u2 S.1 0 (upd (S.1 0) p x), S.2) := by
  obtain ⟨l0, l1⟩ := hS
  exact ⟨fun q hq => upr (h.p0 q hq) (by omega),
    fun q hq => (upq (by omega)).trans (h.p1 q hq),
    fun q hq => (upq (by omega)).trans (h.p2 q hq),
    fun q hq => (upq (by omega)).trans (h.p3 q hq),
    fun q hq => (upq (by omega)).trans (h.tk q hq),
    fun q hq => (upq (by omega)).trans (h.tp q hq),
    fun q hq => (upq (by omega)).trans (h.wt q hq),
    (upq (by omega)).trans h.dy,
    (upq (by omega)).trans h.zz,
    (upq (by omega)).trans h.ct,
    (upq (by omega)).trans h.se,
    (upq (by omega)).trans h.fd,
    (upq (by omega)).trans h.ws,
    (upq (by omega)).trans h.n0,
    fun q (hq : q < ln0 S) => ⟨(upq (by omega)).trans (h.c0 q hq).1, (upq (by omega)).trans (h.c0 q hq).2⟩,
    (upq (by omega)).trans h.n1,
    fun q (hq : q < ln1 S) => ⟨(upq (by omega)).trans (h.c1 q hq).1, (upq (by omega)).trans (h.c1 q hq).2⟩⟩
theorem RS_p1 (h : RS r S) (hS : lnS S) {p : Nat} (hp : p < 8) (x : Int32) : RS (upd r (6 + 4 * p + 1) x) (u2 S.1 1 (upd (S.1 1) p x), S.2) := by
  obtain ⟨l0, l1⟩ := hS
  exact ⟨fun q hq => (upq (by omega)).trans (h.p0 q hq),
    fun q hq => upr (h.p1 q hq) (by omega),
    fun q hq => (upq (by omega)).trans (h.p2 q hq),
    fun q hq => (upq (by omega)).trans (h.p3 q hq),
    fun q hq => (upq (by omega)).trans (h.tk q hq),
    fun q hq => (upq (by omega)).trans (h.tp q hq),
    fun q hq => (upq (by omega)).trans (h.wt q hq),
    (upq (by omega)).trans h.dy,
    (upq (by omega)).trans h.zz,
    (upq (by omega)).trans h.ct,
    (upq (by omega)).trans h.se,
    (upq (by omega)).trans h.fd,
    (upq (by omega)).trans h.ws,
    (upq (by omega)).trans h.n0,
    fun q (hq : q < ln0 S) => ⟨(upq (by omega)).trans (h.c0 q hq).1, (upq (by omega)).trans (h.c0 q hq).2⟩,
    (upq (by omega)).trans h.n1,
    fun q (hq : q < ln1 S) => ⟨(upq (by omega)).trans (h.c1 q hq).1, (upq (by omega)).trans (h.c1 q hq).2⟩⟩
theorem RS_p2 (h : RS r S) (hS : lnS S) {p : Nat} (hp : p < 8) (x : Int32) : RS (upd r (6 + 4 * p + 2) x) (u2 S.1 2 (upd (S.1 2) p x), S.2) := by
  obtain ⟨l0, l1⟩ := hS
  exact ⟨fun q hq => (upq (by omega)).trans (h.p0 q hq),
    fun q hq => (upq (by omega)).trans (h.p1 q hq),
    fun q hq => upr (h.p2 q hq) (by omega),
    fun q hq => (upq (by omega)).trans (h.p3 q hq),
    fun q hq => (upq (by omega)).trans (h.tk q hq),
    fun q hq => (upq (by omega)).trans (h.tp q hq),
    fun q hq => (upq (by omega)).trans (h.wt q hq),
    (upq (by omega)).trans h.dy,
    (upq (by omega)).trans h.zz,
    (upq (by omega)).trans h.ct,
    (upq (by omega)).trans h.se,
    (upq (by omega)).trans h.fd,
    (upq (by omega)).trans h.ws,
    (upq (by omega)).trans h.n0,
    fun q (hq : q < ln0 S) => ⟨(upq (by omega)).trans (h.c0 q hq).1, (upq (by omega)).trans (h.c0 q hq).2⟩,
    (upq (by omega)).trans h.n1,
    fun q (hq : q < ln1 S) => ⟨(upq (by omega)).trans (h.c1 q hq).1, (upq (by omega)).trans (h.c1 q hq).2⟩⟩
theorem RS_p3 (h : RS r S) (hS : lnS S) {p : Nat} (hp : p < 8) (x : Int32) : RS (upd r (6 + 4 * p + 3) x) (u2 S.1 3 (upd (S.1 3) p x), S.2) := by
  obtain ⟨l0, l1⟩ := hS
  exact ⟨fun q hq => (upq (by omega)).trans (h.p0 q hq),
    fun q hq => (upq (by omega)).trans (h.p1 q hq),
    fun q hq => (upq (by omega)).trans (h.p2 q hq),
    fun q hq => upr (h.p3 q hq) (by omega),
    fun q hq => (upq (by omega)).trans (h.tk q hq),
    fun q hq => (upq (by omega)).trans (h.tp q hq),
    fun q hq => (upq (by omega)).trans (h.wt q hq),
    (upq (by omega)).trans h.dy,
    (upq (by omega)).trans h.zz,
    (upq (by omega)).trans h.ct,
    (upq (by omega)).trans h.se,
    (upq (by omega)).trans h.fd,
    (upq (by omega)).trans h.ws,
    (upq (by omega)).trans h.n0,
    fun q (hq : q < ln0 S) => ⟨(upq (by omega)).trans (h.c0 q hq).1, (upq (by omega)).trans (h.c0 q hq).2⟩,
    (upq (by omega)).trans h.n1,
    fun q (hq : q < ln1 S) => ⟨(upq (by omega)).trans (h.c1 q hq).1, (upq (by omega)).trans (h.c1 q hq).2⟩⟩
theorem RS_tk (h : RS r S) (hS : lnS S) {p : Nat} (hp : p < 64) (x : Int32) : RS (upd r (38 + p) x) (u2 S.1 4 (upd (S.1 4) p x), S.2) := by
  obtain ⟨l0, l1⟩ := hS
  exact ⟨fun q hq => (upq (by omega)).trans (h.p0 q hq),
    fun q hq => (upq (by omega)).trans (h.p1 q hq),
    fun q hq => (upq (by omega)).trans (h.p2 q hq),
    fun q hq => (upq (by omega)).trans (h.p3 q hq),
    fun q hq => upr (h.tk q hq) (by omega),
    fun q hq => (upq (by omega)).trans (h.tp q hq),
    fun q hq => (upq (by omega)).trans (h.wt q hq),
    (upq (by omega)).trans h.dy,
    (upq (by omega)).trans h.zz,
    (upq (by omega)).trans h.ct,
    (upq (by omega)).trans h.se,
    (upq (by omega)).trans h.fd,
    (upq (by omega)).trans h.ws,
    (upq (by omega)).trans h.n0,
    fun q (hq : q < ln0 S) => ⟨(upq (by omega)).trans (h.c0 q hq).1, (upq (by omega)).trans (h.c0 q hq).2⟩,
    (upq (by omega)).trans h.n1,
    fun q (hq : q < ln1 S) => ⟨(upq (by omega)).trans (h.c1 q hq).1, (upq (by omega)).trans (h.c1 q hq).2⟩⟩
theorem RS_wt (h : RS r S) (hS : lnS S) {p : Nat} (hp : p < 24) (x : Int32) : RS (upd r (162 + p) x) (u2 S.1 8 (upd (S.1 8) p x), S.2) := by
  obtain ⟨l0, l1⟩ := hS
  exact ⟨fun q hq => (upq (by omega)).trans (h.p0 q hq),
    fun q hq => (upq (by omega)).trans (h.p1 q hq),
    fun q hq => (upq (by omega)).trans (h.p2 q hq),
    fun q hq => (upq (by omega)).trans (h.p3 q hq),
    fun q hq => (upq (by omega)).trans (h.tk q hq),
    fun q hq => (upq (by omega)).trans (h.tp q hq),
    fun q hq => upr (h.wt q hq) (by omega),
    (upq (by omega)).trans h.dy,
    (upq (by omega)).trans h.zz,
    (upq (by omega)).trans h.ct,
    (upq (by omega)).trans h.se,
    (upq (by omega)).trans h.fd,
    (upq (by omega)).trans h.ws,
    (upq (by omega)).trans h.n0,
    fun q (hq : q < ln0 S) => ⟨(upq (by omega)).trans (h.c0 q hq).1, (upq (by omega)).trans (h.c0 q hq).2⟩,
    (upq (by omega)).trans h.n1,
    fun q (hq : q < ln1 S) => ⟨(upq (by omega)).trans (h.c1 q hq).1, (upq (by omega)).trans (h.c1 q hq).2⟩⟩
theorem RS_dy (h : RS r S) (hS : lnS S) (x : Int32) : RS (upd r (0) x) (S.1, u1 S.2 4 x) := by
  obtain ⟨l0, l1⟩ := hS
  exact ⟨fun q hq => (upq (by omega)).trans (h.p0 q hq),
    fun q hq => (upq (by omega)).trans (h.p1 q hq),
    fun q hq => (upq (by omega)).trans (h.p2 q hq),
    fun q hq => (upq (by omega)).trans (h.p3 q hq),
    fun q hq => (upq (by omega)).trans (h.tk q hq),
    fun q hq => (upq (by omega)).trans (h.tp q hq),
    fun q hq => (upq (by omega)).trans (h.wt q hq),
    upk r 0 x,
    (upq (by omega)).trans h.zz,
    (upq (by omega)).trans h.ct,
    (upq (by omega)).trans h.se,
    (upq (by omega)).trans h.fd,
    (upq (by omega)).trans h.ws,
    (upq (by omega)).trans h.n0,
    fun q (hq : q < ln0 S) => ⟨(upq (by omega)).trans (h.c0 q hq).1, (upq (by omega)).trans (h.c0 q hq).2⟩,
    (upq (by omega)).trans h.n1,
    fun q (hq : q < ln1 S) => ⟨(upq (by omega)).trans (h.c1 q hq).1, (upq (by omega)).trans (h.c1 q hq).2⟩⟩
theorem RS_zz (h : RS r S) (hS : lnS S) (x : Int32) : RS (upd r (1) x) (S.1, u1 S.2 5 x) := by
  obtain ⟨l0, l1⟩ := hS
  exact ⟨fun q hq => (upq (by omega)).trans (h.p0 q hq),
    fun q hq => (upq (by omega)).trans (h.p1 q hq),
    fun q hq => (upq (by omega)).trans (h.p2 q hq),
    fun q hq => (upq (by omega)).trans (h.p3 q hq),
    fun q hq => (upq (by omega)).trans (h.tk q hq),
    fun q hq => (upq (by omega)).trans (h.tp q hq),
    fun q hq => (upq (by omega)).trans (h.wt q hq),
    (upq (by omega)).trans h.dy,
    upk r 1 x,
    (upq (by omega)).trans h.ct,
    (upq (by omega)).trans h.se,
    (upq (by omega)).trans h.fd,
    (upq (by omega)).trans h.ws,
    (upq (by omega)).trans h.n0,
    fun q (hq : q < ln0 S) => ⟨(upq (by omega)).trans (h.c0 q hq).1, (upq (by omega)).trans (h.c0 q hq).2⟩,
    (upq (by omega)).trans h.n1,
    fun q (hq : q < ln1 S) => ⟨(upq (by omega)).trans (h.c1 q hq).1, (upq (by omega)).trans (h.c1 q hq).2⟩⟩
theorem RS_ct (h : RS r S) (hS : lnS S) (x : Int32) : RS (upd r (2) x) (S.1, u1 S.2 0 x) := by
  obtain ⟨l0, l1⟩ := hS
  exact ⟨fun q hq => (upq (by omega)).trans (h.p0 q hq),
    fun q hq => (upq (by omega)).trans (h.p1 q hq),
    fun q hq => (upq (by omega)).trans (h.p2 q hq),
    fun q hq => (upq (by omega)).trans (h.p3 q hq),
    fun q hq => (upq (by omega)).trans (h.tk q hq),
    fun q hq => (upq (by omega)).trans (h.tp q hq),
    fun q hq => (upq (by omega)).trans (h.wt q hq),
    (upq (by omega)).trans h.dy,
    (upq (by omega)).trans h.zz,
    upk r 2 x,
    (upq (by omega)).trans h.se,
    (upq (by omega)).trans h.fd,
    (upq (by omega)).trans h.ws,
    (upq (by omega)).trans h.n0,
    fun q (hq : q < ln0 S) => ⟨(upq (by omega)).trans (h.c0 q hq).1, (upq (by omega)).trans (h.c0 q hq).2⟩,
    (upq (by omega)).trans h.n1,
    fun q (hq : q < ln1 S) => ⟨(upq (by omega)).trans (h.c1 q hq).1, (upq (by omega)).trans (h.c1 q hq).2⟩⟩
theorem RS_se (h : RS r S) (hS : lnS S) (x : Int32) : RS (upd r (3) x) (S.1, u1 S.2 3 x) := by
  obtain ⟨l0, l1⟩ := hS
  exact ⟨fun q hq => (upq (by omega)).trans (h.p0 q hq),
    fun q hq => (upq (by omega)).trans (h.p1 q hq),
    fun q hq => (upq (by omega)).trans (h.p2 q hq),
    fun q hq => (upq (by omega)).trans (h.p3 q hq),
    fun q hq => (upq (by omega)).trans (h.tk q hq),
    fun q hq => (upq (by omega)).trans (h.tp q hq),
    fun q hq => (upq (by omega)).trans (h.wt q hq),
    (upq (by omega)).trans h.dy,
    (upq (by omega)).trans h.zz,
    (upq (by omega)).trans h.ct,
    upk r 3 x,
    (upq (by omega)).trans h.fd,
    (upq (by omega)).trans h.ws,
    (upq (by omega)).trans h.n0,
    fun q (hq : q < ln0 S) => ⟨(upq (by omega)).trans (h.c0 q hq).1, (upq (by omega)).trans (h.c0 q hq).2⟩,
    (upq (by omega)).trans h.n1,
    fun q (hq : q < ln1 S) => ⟨(upq (by omega)).trans (h.c1 q hq).1, (upq (by omega)).trans (h.c1 q hq).2⟩⟩
theorem RS_fd (h : RS r S) (hS : lnS S) (x : Int32) : RS (upd r (4) x) (S.1, u1 S.2 1 x) := by
  obtain ⟨l0, l1⟩ := hS
  exact ⟨fun q hq => (upq (by omega)).trans (h.p0 q hq),
    fun q hq => (upq (by omega)).trans (h.p1 q hq),
    fun q hq => (upq (by omega)).trans (h.p2 q hq),
    fun q hq => (upq (by omega)).trans (h.p3 q hq),
    fun q hq => (upq (by omega)).trans (h.tk q hq),
    fun q hq => (upq (by omega)).trans (h.tp q hq),
    fun q hq => (upq (by omega)).trans (h.wt q hq),
    (upq (by omega)).trans h.dy,
    (upq (by omega)).trans h.zz,
    (upq (by omega)).trans h.ct,
    (upq (by omega)).trans h.se,
    upk r 4 x,
    (upq (by omega)).trans h.ws,
    (upq (by omega)).trans h.n0,
    fun q (hq : q < ln0 S) => ⟨(upq (by omega)).trans (h.c0 q hq).1, (upq (by omega)).trans (h.c0 q hq).2⟩,
    (upq (by omega)).trans h.n1,
    fun q (hq : q < ln1 S) => ⟨(upq (by omega)).trans (h.c1 q hq).1, (upq (by omega)).trans (h.c1 q hq).2⟩⟩
theorem RS_ws (h : RS r S) (hS : lnS S) (x : Int32) : RS (upd r (5) x) (S.1, u1 S.2 2 x) := by
  obtain ⟨l0, l1⟩ := hS
  exact ⟨fun q hq => (upq (by omega)).trans (h.p0 q hq),
    fun q hq => (upq (by omega)).trans (h.p1 q hq),
    fun q hq => (upq (by omega)).trans (h.p2 q hq),
    fun q hq => (upq (by omega)).trans (h.p3 q hq),
    fun q hq => (upq (by omega)).trans (h.tk q hq),
    fun q hq => (upq (by omega)).trans (h.tp q hq),
    fun q hq => (upq (by omega)).trans (h.wt q hq),
    (upq (by omega)).trans h.dy,
    (upq (by omega)).trans h.zz,
    (upq (by omega)).trans h.ct,
    (upq (by omega)).trans h.se,
    (upq (by omega)).trans h.fd,
    upk r 5 x,
    (upq (by omega)).trans h.n0,
    fun q (hq : q < ln0 S) => ⟨(upq (by omega)).trans (h.c0 q hq).1, (upq (by omega)).trans (h.c0 q hq).2⟩,
    (upq (by omega)).trans h.n1,
    fun q (hq : q < ln1 S) => ⟨(upq (by omega)).trans (h.c1 q hq).1, (upq (by omega)).trans (h.c1 q hq).2⟩⟩
theorem RS_n0 (h : RS r S) (hS : lnS S) (x : Int32) (hx : x = 0) : RS (upd r (186) x) (S.1, u1 S.2 6 x) := by
  subst hx
  obtain ⟨l0, l1⟩ := hS
  exact ⟨fun q hq => (upq (by omega)).trans (h.p0 q hq),
    fun q hq => (upq (by omega)).trans (h.p1 q hq),
    fun q hq => (upq (by omega)).trans (h.p2 q hq),
    fun q hq => (upq (by omega)).trans (h.p3 q hq),
    fun q hq => (upq (by omega)).trans (h.tk q hq),
    fun q hq => (upq (by omega)).trans (h.tp q hq),
    fun q hq => (upq (by omega)).trans (h.wt q hq),
    (upq (by omega)).trans h.dy,
    (upq (by omega)).trans h.zz,
    (upq (by omega)).trans h.ct,
    (upq (by omega)).trans h.se,
    (upq (by omega)).trans h.fd,
    (upq (by omega)).trans h.ws,
    upk r 186 0,
    fun q hq => absurd hq (Nat.not_lt_zero q),
    (upq (by omega)).trans h.n1,
    fun q (hq : q < ln1 S) => ⟨(upq (by omega)).trans (h.c1 q hq).1, (upq (by omega)).trans (h.c1 q hq).2⟩⟩
theorem RS_n1 (h : RS r S) (hS : lnS S) (x : Int32) (hx : x = 0) : RS (upd r (307) x) (S.1, u1 S.2 7 x) := by
  subst hx
  obtain ⟨l0, l1⟩ := hS
  exact ⟨fun q hq => (upq (by omega)).trans (h.p0 q hq),
    fun q hq => (upq (by omega)).trans (h.p1 q hq),
    fun q hq => (upq (by omega)).trans (h.p2 q hq),
    fun q hq => (upq (by omega)).trans (h.p3 q hq),
    fun q hq => (upq (by omega)).trans (h.tk q hq),
    fun q hq => (upq (by omega)).trans (h.tp q hq),
    fun q hq => (upq (by omega)).trans (h.wt q hq),
    (upq (by omega)).trans h.dy,
    (upq (by omega)).trans h.zz,
    (upq (by omega)).trans h.ct,
    (upq (by omega)).trans h.se,
    (upq (by omega)).trans h.fd,
    (upq (by omega)).trans h.ws,
    (upq (by omega)).trans h.n0,
    fun q (hq : q < ln0 S) => ⟨(upq (by omega)).trans (h.c0 q hq).1, (upq (by omega)).trans (h.c0 q hq).2⟩,
    upk r 307 0,
    fun q hq => absurd hq (Nat.not_lt_zero q)⟩
end MRow
/-- the row and scratch differ -/
def SD (M N : xS) : Prop := (∀ a, a ≠ 0 → a ≠ 9 → a ≠ 10 → a ≠ 11 → N.1 a = M.1 a) ∧ N.2 = M.2
theorem SD.rfl' (M : xS) : SD M M := ⟨fun _ _ _ _ _ => rfl, rfl⟩
theorem SD.trans {M N P : xS} (h : SD M N) (g : SD N P) : SD M P := ⟨fun a h0 h1 h2 h3 => (g.1 a h0 h1 h2 h3).trans (h.1 a h0 h1 h2 h3), g.2.trans h.2⟩
theorem SF.sd {M N : xS} (h : SF M N) : SD M N := ⟨fun a _ h1 h2 _ => h.1 a h1 h2, h.2⟩
theorem SD.row (M : xS) (f : Nat → Int32) : SD M (u2 M.1 0 f, M.2) := ⟨fun _ h0 _ _ _ => if_neg h0, rfl⟩
theorem SD.more (M : xS) (f : Nat → Int32) : SD M (u2 M.1 11 f, M.2) := ⟨fun _ _ _ _ h => if_neg h, rfl⟩
theorem SF.mo {M N : xS} (h : SF M N) : N.1 11 = M.1 11 := h.1 11 (by decide) (by decide)
theorem u2_comm (A : Nat → Nat → Int32) {k l : Nat} (f g : Nat → Int32) (h : k ≠ l) : u2 (u2 A k f) l g = u2 (u2 A l g) k f := by
  funext j
  unfold u2
  by_cases e : j = l
  · rw [if_pos e, if_neg (by omega), if_pos e]
  · rw [if_neg e, if_neg e]
theorem u2_same {A : Nat → Nat → Int32} {k c : Nat} {x : Int32} (h : A k c = x) : u2 A k (upd (A k) c x) = A := by
  have e : upd (A k) c x = A k := by
    funext j
    unfold upd
    split
    · next z => rw [z, h]
    · rfl
  rw [e, u2_self]
theorem SD.rm {M N R S S' K : xS} (h : SD M N) (g : RM M R S K) (hr : RS (N.1 0) S') : RM N R S' K := by
  obtain ⟨h1, h2⟩ := h
  obtain ⟨a, b, c, d, e, f, i, j, k⟩ := g
  refine ⟨hr, ?_, ?_, ?_, ?_, ?_, ?_, ?_, ?_⟩
  · rw [h1 1 (by decide) (by decide) (by decide) (by decide)]; exact b
  · rw [h1 3 (by decide) (by decide) (by decide) (by decide)]; exact c
  · rw [h1 4 (by decide) (by decide) (by decide) (by decide)]; exact d
  · rw [h1 5 (by decide) (by decide) (by decide) (by decide)]; exact e
  · rw [h1 6 (by decide) (by decide) (by decide) (by decide)]; exact f
  · rw [h2]; exact i
  · rw [h2]; exact j
  · rw [h1 12 (by decide) (by decide) (by decide) (by decide)]; exact k
theorem RMr {M R S S' K : xS} {f : Nat → Int32} (g : RM M R S K) (h : RS f S') : RM (u2 M.1 0 f, M.2) R S' K := SD.rm (SD.row M f) g h
