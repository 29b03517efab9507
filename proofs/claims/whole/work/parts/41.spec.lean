/-! ===== what the calls answer, by states: R (errors, sheets, trace, images), S (now), K (kept) ===== -/
abbrev xQS : Type := xS × xS × xS
def lw (k : Nat) : Int32 := -1000000000 - Int32.ofNat k
def eQ (k : Nat) (R S K : xS) : Int32 × xQS := (lw k, er R k, S, K)
def ix (p : Int32) : Nat := p.toNatClampNeg
theorem ix_nI {k : Nat} (h : k < 2 ^ 31) : ix (nI k) = k := nI_clamp h
def wC (R S K V Z T Y U : xS) (B4 : List xE) : xW := w5 (rsC R V) (shC 1 S Z) (shC 2 T Y) (shC 3 K U) B4
/-- a call's contract -/
def CQ (X : xX) (d j : Nat) (as : List Value) (R S K : xS) (B4 : List xE) (sp : Int32 × xQS) : Prop := ∀ V Z T Y U : xS, okN T → ∃ V' Z' T' Y' U' : xS, okN T' ∧ xcall X d j as (wC R S K V Z T Y U B4) = some (some (.int sp.1), wC sp.2.1 sp.2.2.1 sp.2.2.2 V' Z' T' Y' U' B4)
theorem CQ.of {X : xX} {d j : Nat} {as : List Value} {R S K : xS} {B4 : List xE} {sp : Int32 × xQS} (h : ∀ V Z T Y U : xS, xcall X d j as (w5 (rsC R V) (shC 1 S Z) (shC 2 T Y) (shC 3 K U) B4) = some (some (.int sp.1), w5 (rsC sp.2.1 V) (shC 1 sp.2.2.1 Z) (shC 2 T Y) (shC 3 sp.2.2.2 U) B4)) : CQ X d j as R S K B4 sp :=
  fun V Z T Y U hT => ⟨V, Z, T, Y, U, hT, h V Z T Y U⟩
def sp_person (R S K : xS) (km : Int32) : Int32 × xQS :=
  if ¬ (0 ≤ km ∧ km ≤ 69) then eQ 1 R S K
  else if ¬ S.2 0 < 8 then eQ 4 R S K
  else (S.2 0, R, (u2 (u2 S.1 0 (upd (S.1 0) (cn S) (km / 10))) 1 (upd (S.1 1) (cn S) (km - km / 10 * 10)), u1 S.2 0 (S.2 0 + 1)), K)
noncomputable def sp_personIs (R S K : xS) (p w : Int32) : Int32 × xQS :=
  if ¬ (hasP S p ∧ 0 ≤ w ∧ w ≤ 4) then eQ 1 R S K
  else (if w = 0 then S.1 0 (ix p) else if w = 1 then S.1 1 (ix p) else if w = 2 then S.1 2 (ix p) else if w = 3 then (if S.1 3 (ix p) = 0 then 0 else 1) else ro S (ix p), R, S, K)
def sp_become (R S K : xS) (p km : Int32) : Int32 × xQS :=
  if ¬ (hasP S p ∧ 0 ≤ km ∧ km ≤ 69) then eQ 1 R S K
  else (S.1 0 (ix p), R, (u2 (u2 S.1 0 (upd (S.1 0) (ix p) (km / 10))) 1 (upd (S.1 1) (ix p) (km - km / 10 * 10)), S.2), K)
/-- kind k stands under kind a, or is it -/
def under (k a : Nat) : Bool := a == 0 || k == a || (a == 1 && k == 4) || (a == 2 && k == 5)
def sp_as (R S K : xS) (p a : Int32) : Int32 × xQS :=
  if ¬ (hasP S p ∧ 0 ≤ a ∧ a ≤ 6) then eQ 1 R S K
  else if under (kd S (ix p)) (ix a) = false then eQ 5 R S K
  else (S.1 1 (ix p), R, S, K)
def pair (S : xS) (p o : Int32) : Prop := hasP S p ∧ hasP S o ∧ p ≠ o
def sp_tells (R S K : xS) (p o v : Int32) : Int32 × xQS :=
  if ¬ ((hasP S p ∧ hasP S o ∧ p ≠ o) ∧ 0 ≤ v ∧ v ≤ 99) then eQ 1 R S K
  else (S.1 4 (8 * ix p + ix o), R, (u2 S.1 4 (upd (S.1 4) (8 * ix p + ix o) v), S.2), K)
def sp_rope (R S K : xS) (p o : Int32) : Int32 × xQS :=
  if ¬ (hasP S p ∧ hasP S o ∧ p ≠ o) then eQ 1 R S K
  else (rb S (ix p) (ix o) (S.1 4 (8 * ix p + ix o)), R, S, K)
def sp_swim (R S K : xS) (p f : Int32) : Int32 × xQS :=
  if ¬ (hasP S p ∧ 0 ≤ f ∧ f ≤ 500) then eQ 1 R S K
  else if ¬ S.1 3 (ix p) = 0 then eQ 3 R S K
  else (S.1 2 (ix p), R, (u2 S.1 2 (upd (S.1 2) (ix p) f), S.2), K)
def sp_saves (R S K : xS) (p : Int32) : Int32 × xQS :=
  if ¬ hasP S p then eQ 1 R S K
  else (if S.1 3 (ix p) = 0 then 0 else 1, R, (u2 (u2 S.1 3 (upd (S.1 3) (ix p) 0)) 2 (upd (S.1 2) (ix p) 0), S.2), K)
def sp_weather (R S K : xS) (v : Int32) : Int32 × xQS :=
  if ¬ (0 ≤ v ∧ v ≤ 9) then eQ 1 R S K
  else (S.2 3, R, (S.1, u1 S.2 3 v), K)
def sp_untell (R S K : xS) (u : Int32) : Int32 × xQS :=
  if u = 0 then (z1 (0 < S.2 6), R, (S.1, u1 S.2 6 0), K)
  else if u = 1 then (z1 (0 < S.2 7), R, (S.1, u1 S.2 7 0), K)
  else eQ 1 R S K
def sp_law (R S K : xS) (u a b c : Int32) : Int32 × xQS :=
  if u = 0 then (lg0 S a b c, R, S, K)
  else if u = 1 then (lg1 S a b c, R, S, K)
  else eQ 1 R S K
def sp_seed (R S K : xS) (v : Int32) : Int32 × xQS := (S.2 5, R, (S.1, u1 S.2 5 v), K)
def sp_count (R S K : xS) (w : Int32) : Int32 × xQS :=
  if w = 0 then (S.2 0, R, S, K) else if w = 1 then (S.2 3, R, S, K) else if w = 2 then (S.2 4, R, S, K) else if w = 3 then (S.2 1, R, S, K)
  else if w = 4 then (S.2 2, R, S, K) else if w = 5 then (R.2 9, R, S, K) else if w = 6 then (S.2 5, R, S, K) else eQ 1 R S K
def sp_told (R S K : xS) (k : Int32) : Int32 × xQS :=
  if ¬ (1 ≤ k ∧ k ≤ 6) then eQ 1 R S K else (R.1 0 (ix k), R, S, K)
def sp_tell (R S K : xS) (v : Int32) : Int32 × xQS :=
  if ¬ S.2 2 < 24 then eQ 4 R S K
  else (S.2 2 + 1, R, (u2 S.1 8 (upd (S.1 8) (ix (S.2 2)) v), u1 S.2 2 (S.2 2 + 1)), K)
def sp_image (R S _K : xS) : Int32 × xQS := (R.2 0 + 1, (R.1, u1 R.2 0 (R.2 0 + 1)), S, S)
def sp_restore (R S K : xS) : Int32 × xQS :=
  if R.2 0 = 0 then eQ 2 R S K else (K.2 4, R, K, K)
def sp_body (R S K : xS) (i : Int32) : Int32 × xQS :=
  if ¬ (0 ≤ i ∧ i ≤ R.2 9 - 1) then eQ 2 R S K else (R.1 5 (ix i), R, S, K)
