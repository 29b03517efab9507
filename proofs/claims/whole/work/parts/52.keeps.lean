/-! ===== every call keeps the invariant ===== -/
section Keeps2
variable {R S K : xS}
theorem ok_personIs (h : okQ (R, S, K)) (p w : Int32) : okQ (sp_personIs R S K p w).2 := by
  unfold sp_personIs
  repeat' split
  all_goals first
  | exact h
  | exact ok_e h _
theorem ok_as (h : okQ (R, S, K)) (p w : Int32) : okQ (sp_as R S K p w).2 := by
  unfold sp_as
  repeat' split
  all_goals first
  | exact h
  | exact ok_e h _
theorem ok_rope (h : okQ (R, S, K)) (p o : Int32) : okQ (sp_rope R S K p o).2 := by
  unfold sp_rope
  repeat' split
  all_goals first
  | exact h
  | exact ok_e h _
theorem ok_law (h : okQ (R, S, K)) (u a b c : Int32) : okQ (sp_law R S K u a b c).2 := by
  unfold sp_law
  repeat' split
  all_goals first
  | exact h
  | exact ok_e h _
theorem ok_then (h : okQ (R, S, K)) (p n w : Int32) : okQ (sp_then R S K p n w).2 := by
  unfold sp_then
  repeat' split
  all_goals first
  | exact h
  | exact ok_e h _
theorem ok_cuts (h : okQ (R, S, K)) (p far w : Int32) : okQ (sp_cuts R S K p far w).2 := by
  unfold sp_cuts
  repeat' split
  all_goals first
  | exact h
  | exact ok_e h _
theorem ok_hauls (h : okQ (R, S, K)) (p far w : Int32) : okQ (sp_hauls R S K p far w).2 := by
  unfold sp_hauls
  repeat' split
  all_goals first
  | exact h
  | exact ok_e h _
theorem ok_party (h : okQ (R, S, K)) (far w : Int32) : okQ (sp_party R S K far w).2 := by
  unfold sp_party
  repeat' split
  all_goals first
  | exact h
  | exact ok_e h _
theorem ok_speaks (h : okQ (R, S, K)) (p w : Int32) : okQ (sp_speaks R S K p w).2 := by
  unfold sp_speaks
  repeat' split
  all_goals first
  | exact h
  | exact ok_e h _
theorem ok_odds (h : okQ (R, S, K)) (p far w : Int32) : okQ (sp_odds R S K p far w).2 := by
  unfold sp_odds
  repeat' split
  all_goals first
  | exact h
  | exact ok_e h _
theorem ok_fits (h : okQ (R, S, K)) (s : Int32) : okQ (sp_fits R S K s).2 := by
  unfold sp_fits
  repeat' split
  all_goals first
  | exact h
  | exact ok_e h _
theorem ok_body (h : okQ (R, S, K)) (i : Int32) : okQ (sp_body R S K i).2 := by
  unfold sp_body
  repeat' split
  all_goals first
  | exact h
  | exact ok_e h _
theorem ok_judge (h : okQ (R, S, K)) (s : Int32) : okQ (sp_judge R S K s).2 := by
  unfold sp_judge
  repeat' split
  all_goals first
  | exact h
  | exact ok_e h _
theorem ok_count (h : okQ (R, S, K)) (w : Int32) : okQ (sp_count R S K w).2 := by
  unfold sp_count
  repeat' split
  all_goals first
  | exact h
  | exact ok_e h _
theorem ok_told (h : okQ (R, S, K)) (k : Int32) : okQ (sp_told R S K k).2 := by
  unfold sp_told
  repeat' split
  all_goals first
  | exact h
  | exact ok_e h _
theorem ok_seed (h : okQ (R, S, K)) (v : Int32) : okQ (sp_seed R S K v).2 := h
theorem ok_weather (h : okQ (R, S, K)) (v : Int32) : okQ (sp_weather R S K v).2 := by
  unfold sp_weather
  split
  · exact ok_e h _
  · exact h
theorem okR_im (h : okR R) (x : Int32) : okR (R.1, u1 R.2 0 x) := by
  refine ⟨fun s hs => ?_, h.2⟩
  have e : u1 R.2 0 x (2 + 2 * s) = R.2 (2 + 2 * s) := by
    unfold u1
    rw [if_neg (by omega)]
  unfold szs
  show u1 R.2 0 x (2 + 2 * s) = nI (ix (u1 R.2 0 x (2 + 2 * s))) ∧ ix (u1 R.2 0 x (2 + 2 * s)) ≤ 24
  rw [e]
  exact h.1 s hs
theorem ok_image (h : okQ (R, S, K)) : okQ (sp_image R S K).2 := ⟨okR_im h.1 _, h.2.1, h.2.1⟩
theorem ok_restore (h : okQ (R, S, K)) : okQ (sp_restore R S K).2 := by
  unfold sp_restore
  split
  · exact ok_e h _
  · exact ⟨h.1, h.2.2, h.2.2⟩
theorem ok_days (h : okQ (R, S, K)) (n : Int32) : okQ (sp_days R S K n).2 := by
  unfold sp_days
  split
  · exact ok_e h _
  · split
    · exact ok_e h _
    · exact ⟨h.1, okI_dyI _ _ h.2.1, h.2.2⟩
theorem ok_loose (h : okQ (R, S, K)) (n : Int32) : okQ (sp_loose R S K n).2 := by
  unfold sp_loose
  split
  · exact ok_e h _
  · split
    · exact ok_e h _
    · exact ⟨h.1, okI_drI _ _ h.2.1, h.2.2⟩
theorem ok_person (h : okQ (R, S, K)) (km : Int32) : okQ (sp_person R S K km).2 := by
  unfold sp_person
  by_cases h1 : 0 ≤ km ∧ km ≤ 69
  · rw [if_neg (not_not_intro h1)]
    by_cases h2 : S.2 0 < 8
    · rw [if_neg (not_not_intro h2)]
      obtain ⟨hS, hN, hw, hf, hz, ht, hg, o0, o1⟩ := (show okI S from h.2.1)
      obtain ⟨hc1, hc2⟩ := hS.1
      have hc8 : cn S < 8 := by
        rw [hc1] at h2
        exact (nI_lt_iff (a := cn S) (b := 8) (by omega) (by omega)).mp h2
      have e0 : S.2 0 + 1 = nI (cn S + 1) := by rw [hc1, nI_add1]
      have ec : (S.2 0 + 1).toNatClampNeg = cn S + 1 := by rw [e0]; exact nI_clamp (by omega)
      obtain ⟨n0, n4, n5, n8, nl, nb⟩ := hN
      refine ⟨h.1, ⟨ok_kind hS hc8 (km_ix h1) (fun j hj => if_neg hj) ?_, ⟨fun p hp => ⟨upd_ge hc8 (fun j hj => (n0 j hj).1) p hp, upd_ge hc8 (fun j hj => (n0 j hj).2.1) p hp, (n0 p hp).2.2⟩, n4, n5, n8, nl, nb⟩, hw, hf, fun p hp hp8 => ?_, ht, hg, o0, o1⟩, h.2.2⟩
      · show S.2 0 + 1 = nI (ix (S.2 0 + 1)) ∧ ix (S.2 0 + 1) ≤ 8
        rw [e0, ix_nI (by omega)]
        exact ⟨rfl, by omega⟩
      · have hp : (S.2 0 + 1).toNatClampNeg ≤ p := hp
        rw [ec] at hp
        exact hz p (by omega) hp8
    · rw [if_pos h2]
      exact ok_e h _
  · rw [if_pos h1]
    exact ok_e h _
theorem ok_become (h : okQ (R, S, K)) (p km : Int32) : okQ (sp_become R S K p km).2 := by
  unfold sp_become
  by_cases h1 : hasP S p ∧ 0 ≤ km ∧ km ≤ 69
  · rw [if_neg (not_not_intro h1)]
    obtain ⟨hS, hN, hw, hf, hz, ht, hg, o0, o1⟩ := (show okI S from h.2.1)
    obtain ⟨k, rfl, hkc, hk8⟩ := hasP_ix hS h1.1
    rw [ix_nI (Nat.lt_trans hk8 (by decide))]
    obtain ⟨n0, n4, n5, n8, nl, nb⟩ := hN
    exact ⟨h.1, ⟨ok_kind hS hk8 (km_ix h1.2) (fun j hj => rfl) hS.1, ⟨fun p hp => ⟨upd_ge hk8 (fun j hj => (n0 j hj).1) p hp, upd_ge hk8 (fun j hj => (n0 j hj).2.1) p hp, (n0 p hp).2.2⟩, n4, n5, n8, nl, nb⟩, hw, hf, hz, ht, hg, o0, o1⟩, h.2.2⟩
  · rw [if_pos h1]
    exact ok_e h _
theorem okI_say {S : xS} (h : okI S) {p o : Nat} (hp : p < 8) (ho : o < 8) (hpo : p ≠ o) {v : Int32} (hv : 0 ≤ v ∧ v ≤ 99) : okI (sT S (upd (S.1 4) (8 * p + o) v)) := by
  obtain ⟨hS, hN, hw, hf, hz, ht, hg, o0, o1⟩ := h
  obtain ⟨n0, n4, n5, n8, nl, nb⟩ := hN
  refine ⟨hS, ⟨n0, upd_ge (by omega) n4, n5, n8, nl, nb⟩, hw, hf, hz, fun c hc => ?_, fun q hq => ?_, o0, o1⟩
  · show 0 ≤ upd (S.1 4) (8 * p + o) v c ∧ upd (S.1 4) (8 * p + o) v c ≤ 99
    unfold upd
    split
    · exact hv
    · exact ht c hc
  · show upd (S.1 4) (8 * p + o) v (9 * q) = 0
    unfold upd
    rw [if_neg (by omega)]
    exact hg q hq
theorem ok_tells (h : okQ (R, S, K)) (p o v : Int32) : okQ (sp_tells R S K p o v).2 := by
  unfold sp_tells
  by_cases h1 : (hasP S p ∧ hasP S o ∧ p ≠ o) ∧ 0 ≤ v ∧ v ≤ 99
  · rw [if_neg (not_not_intro h1)]
    obtain ⟨k, rfl, hkc, hk8⟩ := hasP_ix h.2.1.1 h1.1.1
    obtain ⟨i, rfl, hic, hi8⟩ := hasP_ix h.2.1.1 h1.1.2.1
    rw [ix_nI (Nat.lt_trans hk8 (by decide)), ix_nI (Nat.lt_trans hi8 (by decide))]
    have hki : k ≠ i := fun e => h1.1.2.2 (by rw [e])
    exact ⟨h.1, okI_say h.2.1 hk8 hi8 hki h1.2, h.2.2⟩
  · rw [if_pos h1]
    exact ok_e h _
theorem ok_swim (h : okQ (R, S, K)) (p f : Int32) : okQ (sp_swim R S K p f).2 := by
  unfold sp_swim
  by_cases h1 : hasP S p ∧ 0 ≤ f ∧ f ≤ 500
  · rw [if_neg (not_not_intro h1)]
    split
    · exact ok_e h _
    · obtain ⟨hS, hN, hw, hf, hz, ht, hg, o0, o1⟩ := (show okI S from h.2.1)
      obtain ⟨k, rfl, hkc, hk8⟩ := hasP_ix hS h1.1
      rw [ix_nI (Nat.lt_trans hk8 (by decide))]
      obtain ⟨n0, n4, n5, n8, nl, nb⟩ := hN
      refine ⟨h.1, ⟨hS, ⟨fun p hp => ⟨(n0 p hp).1, (n0 p hp).2.1, upd_ge hk8 (fun j hj => (n0 j hj).2.2.1) p hp, (n0 p hp).2.2.2⟩, n4, n5, n8, nl, nb⟩, hw, hf, fun p hp hp8 => ?_, ht, hg, o0, o1⟩, h.2.2⟩
      have hp : cn S ≤ p := hp
      refine ⟨?_, (hz p hp hp8).2⟩
      show upd (S.1 2) k f p = 0
      unfold upd
      rw [if_neg (by omega)]
      exact (hz p hp hp8).1
  · rw [if_pos h1]
    exact ok_e h _
theorem ok_saves (h : okQ (R, S, K)) (p : Int32) : okQ (sp_saves R S K p).2 := by
  unfold sp_saves
  by_cases h1 : hasP S p
  · rw [if_neg (not_not_intro h1)]
    obtain ⟨hS, hN, hw, hf, hz, ht, hg, o0, o1⟩ := (show okI S from h.2.1)
    obtain ⟨k, rfl, hkc, hk8⟩ := hasP_ix hS h1
    rw [ix_nI (Nat.lt_trans hk8 (by decide))]
    obtain ⟨n0, n4, n5, n8, nl, nb⟩ := hN
    have u0 : ∀ (g : Nat → Int32) (q : Nat), g q = 0 → upd g k 0 q = 0 := by
      intro g q hq
      unfold upd
      split
      · rfl
      · exact hq
    refine ⟨h.1, ⟨hS, ⟨fun p hp => ⟨(n0 p hp).1, (n0 p hp).2.1, u0 _ _ (n0 p hp).2.2.1, u0 _ _ (n0 p hp).2.2.2⟩, n4, n5, n8, fun q hq => ?_, nb⟩, hw, hf, fun p hp hp8 => ⟨u0 _ _ (hz p hp hp8).1, u0 _ _ (hz p hp hp8).2⟩, ht, hg, o0, o1⟩, h.2.2⟩
    show upd (S.1 3) k 0 q = 0 ∨ upd (S.1 3) k 0 q = 1
    unfold upd
    split
    · exact Or.inl rfl
    · exact nl q hq
  · rw [if_pos h1]
    exact ok_e h _
theorem ok_untell (h : okQ (R, S, K)) (u : Int32) : okQ (sp_untell R S K u).2 := by
  obtain ⟨hS, hN, hw, hf, hz, ht, hg, o0, o1⟩ := (show okI S from h.2.1)
  obtain ⟨a, b, c0, c1⟩ := hS
  unfold sp_untell
  split
  · exact ⟨h.1, ⟨⟨a, b, ⟨rfl, Nat.zero_le _, fun e => absurd e (Nat.lt_irrefl 0)⟩, c1⟩, hN, hw, hf, hz, ht, hg, fun j hj => absurd hj (Nat.not_lt_zero j), o1⟩, h.2.2⟩
  · split
    · exact ⟨h.1, ⟨⟨a, b, c0, ⟨rfl, Nat.zero_le _, fun e => absurd e (Nat.lt_irrefl 0)⟩⟩, hN, hw, hf, hz, ht, hg, o0, fun j hj => absurd hj (Nat.not_lt_zero j)⟩, h.2.2⟩
    · exact ok_e h _
theorem ok_tell (h : okQ (R, S, K)) (v : Int32) : okQ (sp_tell R S K v).2 := by
  unfold sp_tell
  by_cases h1 : S.2 2 < 24
  · rw [if_neg (not_not_intro h1)]
    obtain ⟨hS, hN, ⟨hw1, hw2⟩, hf, hz, ht, hg, o0, o1⟩ := (show okI S from h.2.1)
    obtain ⟨n0, n4, n5, n8, nl, nb⟩ := hN
    have hlt : ix (S.2 2) < 24 := by
      rw [hw1] at h1
      exact (nI_lt_iff (a := ix (S.2 2)) (b := 24) (by omega) (by omega)).mp h1
    have e0 : S.2 2 + 1 = nI (ix (S.2 2) + 1) := by rw [← nI_add1, ← hw1]
    refine ⟨h.1, ⟨hS, ⟨n0, n4, n5, upd_ge hlt n8, nl, nb⟩, ?_, hf, hz, ht, hg, o0, o1⟩, h.2.2⟩
    show S.2 2 + 1 = nI (ix (S.2 2 + 1)) ∧ ix (S.2 2 + 1) ≤ 24
    rw [e0, ix_nI (by omega)]
    exact ⟨rfl, by omega⟩
  · rw [if_pos h1]
    exact ok_e h _
theorem ok_check (h : okQ (R, S, K)) : okQ (sp_check R S K).2 := by
  obtain ⟨hS, hN, hw, hf, hz, ht, hg, o0, o1⟩ := (show okI S from h.2.1)
  exact ⟨h.1, ⟨hS, hN, ⟨rfl, show ix 0 ≤ 24 by decide⟩, hf, hz, ht, hg, o0, o1⟩, h.2.2⟩
theorem byt_fits (w : Int64) (k : Nat) : fits .byte (.int (byt w k)) = true := by
  unfold byt
  generalize ((w.toUInt64 >>> (((8 : Int32) * nI k).toInt64.toUInt64 &&& Int64.toUInt64 63)).toInt64).toInt32.toInt8 = y
  show (decide (-128 ≤ y.toInt32) && decide (y.toInt32 ≤ 127)) = true
  rw [Bool.and_eq_true]
  have h1 := Int8.le_toInt y
  have h2 := Int8.toInt_lt y
  refine ⟨decide_eq_true ?_, decide_eq_true ?_⟩
  · rw [Int32.le_iff_toInt_le, Int8.toInt_toInt32]
    exact h1
  · rw [Int32.le_iff_toInt_le, Int8.toInt_toInt32]
    have e : (127 : Int32).toInt = 127 := rfl
    rw [e]
    omega
theorem ok_feed (h : okQ (R, S, K)) (w : Int64) (n : Int32) : okQ (sp_feed R S K w n).2 := by
  unfold sp_feed
  by_cases h1 : 1 ≤ n ∧ n ≤ 8
  · rw [if_neg (not_not_intro h1)]
    by_cases h2 : n ≤ 60 - S.2 1
    · rw [if_neg (not_not_intro h2)]
      obtain ⟨hS, hN, hw, ⟨hf1, hf2⟩, hz, ht, hg, o0, o1⟩ := (show okI S from h.2.1)
      obtain ⟨n0, n4, n5, n8, nl, nb⟩ := hN
      obtain ⟨N, rfl, hN8⟩ := i32_ix (v := n) (n := 8) (by decide) ⟨Int32.le_trans (by decide) h1.1, h1.2⟩
      have hs : (60 : Int32) - S.2 1 = nI (60 - ix (S.2 1)) := by
        conv => lhs; rw [hf1]
        exact nI_sub (a := 60) hf2
      rw [hs] at h2
      have h3 := (nI_le_iff (by omega) (by omega)).mp h2
      have e0 : S.2 1 + nI N = nI (ix (S.2 1) + N) := by
        conv => lhs; rw [hf1]
        exact nI_add _ _
      rw [ix_nI (show N < 2 ^ 31 by omega)]
      refine ⟨h.1, ⟨hS, ⟨n0, n4, fun c hc => ⟨(n5 c hc).1, (n5 c hc).2.1, ?_⟩, n8, nl, fun c hc => ?_⟩, hw, ?_, hz, ht, hg, o0, o1⟩, h.2.2⟩
      · show fedA (S.1 7) w (ix (S.2 1)) N c = 0
        unfold fedA
        rw [if_neg (by omega)]
        exact (n5 c hc).2.2
      · show fits .byte (.int (fedA (S.1 7) w (ix (S.2 1)) N c)) = true
        unfold fedA
        split
        · exact byt_fits w _
        · exact nb c hc
      · show S.2 1 + nI N = nI (ix (S.2 1 + nI N)) ∧ ix (S.2 1 + nI N) ≤ 60
        rw [e0, ix_nI (by omega)]
        exact ⟨rfl, by omega⟩
    · rw [if_pos h2]
      exact ok_e h _
  · rw [if_pos h1]
    exact ok_e h _
theorem mem_getD {L : List Int32} {j : Nat} (h : j < L.length) : L.getD j 0 ∈ L := by
  rw [List.getD_eq_getElem?_getD, List.getElem?_eq_getElem h]
  exact List.getElem_mem h
theorem ok_text (h : okQ (R, S, K)) (use : Int32) {f : Nat → Int32} (f1 : use = 0 ∨ use = 1 → ∀ j, j < (rdr S (ix use)).2.1.length → f j = (rdr S (ix use)).2.1.getD j 0) (f2 : ∀ c, 60 ≤ c → f c = 0) (f3 : use = 0 ∨ use = 1 → (rdr S (ix use)).2.1.length ≤ 60) : okQ (sp_text R S K use f).2 := by
  obtain ⟨hS, hN, hw, hf, hz, ht, hg, o0, o1⟩ := (show okI S from h.2.1)
  obtain ⟨a, b, c0, c1⟩ := hS
  obtain ⟨n0, n4, n5, n8, nl, nb⟩ := hN
  have hf' : (0 : Int32) = nI (ix 0) ∧ ix 0 ≤ 60 := by decide
  unfold sp_text
  by_cases hu : use = 0 ∨ use = 1
  · rw [if_neg (not_not_intro hu)]
    have g1 := f1 hu
    have g3 := f3 hu
    split
    · next hr =>
      have hG := GL_rdr S (ix use) hr.1
      have hwf : wfT f (rdr S (ix use)).2.1.length 0 0 = true := wfr_T (rdr S (ix use)).2.1 0 0 1 (fun j hj => by rw [Nat.zero_add]; exact g1 j hj) (hG.1 0 (by omega)) (Nat.le_refl 1)
      have hcl : (nI (rdr S (ix use)).2.1.length).toNatClampNeg = (rdr S (ix use)).2.1.length := nI_clamp (by omega)
      have hop : ∀ j, j < (nI (rdr S (ix use)).2.1.length).toNatClampNeg → opc (f j) := by
        rw [hcl]
        intro j hj
        rw [g1 j hj]
        exact hG.2 _ (mem_getD hj)
      have ht' : nI (rdr S (ix use)).2.1.length = nI (nI (rdr S (ix use)).2.1.length).toNatClampNeg ∧ (nI (rdr S (ix use)).2.1.length).toNatClampNeg ≤ 60 ∧ (0 < (nI (rdr S (ix use)).2.1.length).toNatClampNeg → wfT f (nI (rdr S (ix use)).2.1.length).toNatClampNeg 0 0 = true) := by
        rw [hcl]
        exact ⟨rfl, g3, fun _ => hwf⟩
      revert ht' hop
      generalize nI (rdr S (ix use)).2.1.length = ln
      intro hop ht'
      rcases hu with rfl | rfl
      · exact ⟨h.1, ⟨⟨a, b, ht', c1⟩, ⟨n0, n4, fun c hc => ⟨f2 c hc, (n5 c hc).2⟩, n8, nl, nb⟩, hw, hf', hz, ht, hg, hop, o1⟩, h.2.2⟩
      · exact ⟨h.1, ⟨⟨a, b, c0, ht'⟩, ⟨n0, n4, fun c hc => ⟨(n5 c hc).1, f2 c hc, (n5 c hc).2.2⟩, n8, nl, nb⟩, hw, hf', hz, ht, hg, o0, hop⟩, h.2.2⟩
    · exact ⟨h.1, ⟨⟨a, b, c0, c1⟩, ⟨n0, n4, n5, n8, nl, nb⟩, hw, hf', hz, ht, hg, o0, o1⟩, h.2.2⟩
  · rw [if_pos hu]
    exact ok_e h _
theorem ok_put (h : okQ (R, S, K)) (s i v : Int32) : okQ (sp_put R S K s i v).2 := by
  unfold sp_put
  repeat' split
  all_goals first
  | exact ⟨h.1, h.2⟩
  | exact ok_e h _
theorem ok_move (h : okQ (R, S, K)) (s i o j n : Int32) : okQ (sp_move R S K s i o j n).2 := by
  unfold sp_move
  repeat' split
  all_goals first
  | exact ⟨h.1, h.2⟩
  | exact ok_e h _
theorem okR_rnw (h : okR R) {s : Nat} (hs : s < 4) {b : Int32} {n : Nat} (hn : n ≤ 24) : okR (rnw R s b (nI n)) := by
  obtain ⟨h1, h2, h3⟩ := h
  have e9 : (rnw R s b (nI n)).2 9 = R.2 9 := by
    show u1 (u1 R.2 (1 + 2 * s) b) (2 + 2 * s) (nI n) 9 = _
    unfold u1
    rw [if_neg (by omega), if_neg (by omega)]
  refine ⟨fun t ht => ?_, ?_, ?_⟩
  · unfold szs
    show u1 (u1 R.2 (1 + 2 * s) b) (2 + 2 * s) (nI n) (2 + 2 * t) = nI (ix (u1 (u1 R.2 (1 + 2 * s) b) (2 + 2 * s) (nI n) (2 + 2 * t))) ∧ ix (u1 (u1 R.2 (1 + 2 * s) b) (2 + 2 * s) (nI n) (2 + 2 * t)) ≤ 24
    by_cases e : t = s
    · have : u1 (u1 R.2 (1 + 2 * s) b) (2 + 2 * s) (nI n) (2 + 2 * t) = nI n := by unfold u1; rw [if_pos (by omega)]
      rw [this, ix_nI (by omega)]
      exact ⟨rfl, hn⟩
    · have : u1 (u1 R.2 (1 + 2 * s) b) (2 + 2 * s) (nI n) (2 + 2 * t) = R.2 (2 + 2 * t) := by unfold u1; rw [if_neg (by omega), if_neg (by omega)]
      rw [this]
      exact h1 t ht
  · rw [e9]; exact h2
  · rw [e9]; exact h3
theorem ok_sheet (h : okQ (R, S, K)) (s b n : Int32) : okQ (sp_sheet R S K s b n).2 := by
  unfold sp_sheet
  by_cases h1 : isSh s ∧ isB b
  · rw [if_neg (not_not_intro h1)]
    obtain ⟨k, rfl, hk⟩ := sh_ix h1.1
    rw [ix_nI (Nat.lt_trans hk (by decide))]
    split
    · exact ⟨okR_rnw h.1 hk (n := 0) (by omega), h.2⟩
    · by_cases h3 : 0 ≤ n
      · rw [if_neg (not_not_intro h3)]
        by_cases h4 : n ≤ 24
        · rw [if_neg (not_not_intro h4)]
          obtain ⟨N, rfl, hN⟩ := i32_ix (v := n) (n := 24) (by decide) ⟨h3, h4⟩
          exact ⟨okR_rnw h.1 hk hN, h.2⟩
        · rw [if_pos h4]
          exact ok_e h _
      · rw [if_pos h3]
        exact ok_e h _
  · rw [if_pos h1]
    exact ok_e h _
theorem okI_wd {p : Nat} (hp : p < 8) {f : Nat → Int32} : ∀ (n i : Nat) {S : xS}, i + n ≤ 8 → okI S → okI (wdL p f n i S).2
  | 0, _, _, _, h => h
  | n + 1, i, S, hi, h => by
    unfold wdL
    by_cases e : i = p
    · rw [if_pos e]
      exact okI_wd hp n (i + 1) (by omega) h
    · rw [if_neg e]
      by_cases g : 0 ≤ f i ∧ f i ≤ 99
      · rw [if_neg (not_not_intro g)]
        exact okI_wd hp n (i + 1) (by omega) (okI_say h hp (by omega) (fun z => e z.symm) g)
      · rw [if_pos g]
        exact h
theorem ok_words (h : okQ (R, S, K)) (p s : Int32) : okQ (sp_words R S K p s).2 := by
  unfold sp_words
  by_cases h1 : hasP S p ∧ isSh s
  · rw [if_neg (not_not_intro h1)]
    obtain ⟨k, rfl, hkc, hk8⟩ := hasP_ix h.2.1.1 h1.1
    rw [ix_nI (Nat.lt_trans hk8 (by decide))]
    split
    · exact ok_e h _
    · have hc2 : cn S ≤ 8 := h.2.1.1.1.2
      exact ⟨h.1, okI_wd hk8 _ _ (by have := Nat.min_le_right (szs R (ix s)) (cn S); omega) h.2.1, h.2.2⟩
  · rw [if_pos h1]
    exact ok_e h _
/-! the trace -/
theorem okR_vbg (h : okR R) (b : Int32) : okR (vbg R b) := by
  obtain ⟨h1, h2⟩ := h
  refine ⟨fun s hs => ?_, okB_vbg h2 b⟩
  have e : (vbg R b).2 (2 + 2 * s) = R.2 (2 + 2 * s) := by
    unfold vbg
    split
    · rfl
    · show u1 R.2 9 (R.2 9 + 1) (2 + 2 * s) = _
      unfold u1
      rw [if_neg (by omega)]
  unfold szs
  rw [e]
  exact h1 s hs
theorem okR_vsay (h : okR R) (k : Nat) (n x : Int32) : okR (vsay k n R x).2 := by
  unfold vsay
  split
  · exact okR_vbg (okR_vbg h 20) 10
  · exact okR_vbg (okR_vbg (okR_vbg h 50) 20) 10
  · exact okR_vbg h 70
  · exact okR_vbg h 10
theorem okR_plet (h : okR R) (k : Nat) (n x : Int32) : okR (plet k n R x).2 := okR_vsay (okR_vbg h 11) k n x
theorem okR_mlet (h : okR R) (k : Nat) (n x : Int32) : okR (mlet k n R x).2 := okR_plet (okR_vbg h 30) k n x
theorem okR_vlet (h : okR R) (k : Nat) (n m x : Int32) : okR (vlet k n m R x).2 := by
  unfold vlet
  split
  · exact okR_mlet h _ n x
  · exact okR_mlet (okR_vbg h 60) _ n _
  · exact okR_plet (okR_vbg h 71) _ n x
  · exact okR_plet h _ n x
theorem okR_phaul (h : okR R) (k : Nat) (n m x : Int32) : okR (phaul k n m R x).2 := okR_vlet (okR_vbg h 12) k n m x
theorem okR_vhaul (h : okR R) (k : Nat) (n m x : Int32) : okR (vhaul k n m R x).2 := by
  unfold vhaul
  split
  · exact okR_phaul (okR_vbg h 40) _ n m _
  · have e := okR_phaul (okR_vbg h 51) 4 n m x
    dsimp only
    exact e
  · exact okR_phaul h _ n m x
theorem okR_vpart (h : okR R) (k : Nat) (n m x : Int32) : okR (vpart k n m R x).2.1 := by
  have hg : okR (gpart k n m R x).2.1 := by
    unfold gpart
    split
    · exact okR_vbg (okR_vbg h 21) 13
    · exact okR_plet (okR_vbg (okR_vbg h 21) 13) k n 1
  have hp : okR (ppart n m R x).2.1 := by
    unfold ppart
    split
    · exact okR_vbg h 13
    · exact okR_vbg h 13
  unfold vpart
  split
  · exact hg
  · exact hg
  · exact hp
theorem okR_vall (h : okR R) (k : Nat) (v n m x : Int32) : okR (vall k v n m R x).2.1 := by
  unfold vall
  split
  · exact okR_vsay h k n x
  · split
    · exact okR_vlet h k n m x
    · split
      · exact okR_vhaul h k n m x
      · exact okR_vpart h k n m x
theorem okR_0 (h : okR R) : okR (R.1, u1 R.2 9 0) := by
  refine ⟨fun s hs => ?_, rfl, show ix 0 ≤ 30 by decide⟩
  have e : u1 R.2 9 0 (2 + 2 * s) = R.2 (2 + 2 * s) := by
    unfold u1
    rw [if_neg (by omega)]
  unfold szs
  show u1 R.2 9 0 (2 + 2 * s) = nI (ix (u1 R.2 9 0 (2 + 2 * s))) ∧ ix (u1 R.2 9 0 (2 + 2 * s)) ≤ 24
  rw [e]
  exact h.1 s hs
theorem ok_voice (h : okQ (R, S, K)) (p v x : Int32) : okQ (sp_voice R S K p v x).2 := by
  unfold sp_voice
  split
  · exact ok_e h _
  · have hr := okR_vall (okR_0 h.1) (kd S (ix p)) v p (S.1 1 (ix p)) x
    split
    · exact ⟨hr, h.2⟩
    · exact ⟨hr, h.2⟩
end Keeps2
