def xcr (M : xM) (a n : Nat) : Bool := (List.range n).all fun i => xchk1 M (a + i)
theorem xcr_app {M : xM} {a n m : Nat} (h1 : xcr M a n = true) (h2 : xcr M (a + n) m = true) : xcr M a (n + m) = true := by
  unfold xcr at *
  rw [List.all_eq_true] at *
  intro i hi
  have hi := List.mem_range.mp hi
  by_cases h : i < n
  · exact h1 i (List.mem_range.mpr h)
  · have h3 := h2 (i - n) (List.mem_range.mpr (by omega))
    rw [show a + n + (i - n) = a + i by omega] at h3
    exact h3
theorem xcr_chk {M : xM} (h1 : plainName M.1.cls = true) (h2 : M.2.2.1 ≤ 20) (h3 : xcr M 0 M.2.2.2.2.2 = true) : xchk M = true := by
  unfold xchk
  rw [Bool.and_eq_true, Bool.and_eq_true]
  refine ⟨⟨h1, decide_eq_true h2⟩, ?_⟩
  unfold xcr at h3
  rw [List.all_eq_true] at *
  intro i hi
  have := h3 i hi
  rw [Nat.zero_add] at this
  exact this
theorem xcl_0 : xcr xm_L_law 0 48 = true := by decide +kernel
theorem xcl_1 : xcr xm_L_law 48 48 = true := by decide +kernel
theorem xcl_2 : xcr xm_L_law 96 48 = true := by decide +kernel
theorem xcl_3 : xcr xm_L_law 144 48 = true := by decide +kernel
theorem xcl_4 : xcr xm_L_law 192 48 = true := by decide +kernel
theorem xcl_5 : xcr xm_L_law 240 48 = true := by decide +kernel
theorem xcl_6 : xcr xm_L_law 288 48 = true := by decide +kernel
theorem xcl_7 : xcr xm_L_law 336 48 = true := by decide +kernel
theorem xcl_8 : xcr xm_L_law 384 48 = true := by decide +kernel
theorem xcl_9 : xcr xm_L_law 432 48 = true := by decide +kernel
theorem xcl_10 : xcr xm_L_law 480 48 = true := by decide +kernel
theorem xcl_11 : xcr xm_L_law 528 48 = true := by decide +kernel
theorem xcl_12 : xcr xm_L_law 576 48 = true := by decide +kernel
theorem xcl_13 : xcr xm_L_law 624 48 = true := by decide +kernel
theorem xcl_14 : xcr xm_L_law 672 48 = true := by decide +kernel
theorem xcl_15 : xcr xm_L_law 720 48 = true := by decide +kernel
theorem xcl_16 : xcr xm_L_law 768 48 = true := by decide +kernel
theorem xcl_17 : xcr xm_L_law 816 48 = true := by decide +kernel
theorem xcl_18 : xcr xm_L_law 864 48 = true := by decide +kernel
theorem xcl_19 : xcr xm_L_law 912 48 = true := by decide +kernel
theorem xcl_20 : xcr xm_L_law 960 48 = true := by decide +kernel
theorem xcl_21 : xcr xm_L_law 1008 48 = true := by decide +kernel
theorem xcl_22 : xcr xm_L_law 1056 48 = true := by decide +kernel
theorem xcl_23 : xcr xm_L_law 1104 48 = true := by decide +kernel
theorem xcl_24 : xcr xm_L_law 1152 48 = true := by decide +kernel
theorem xcl_25 : xcr xm_L_law 1200 48 = true := by decide +kernel
theorem xcl_26 : xcr xm_L_law 1248 48 = true := by decide +kernel
theorem xcl_27 : xcr xm_L_law 1296 48 = true := by decide +kernel
theorem xcl_28 : xcr xm_L_law 1344 4 = true := by decide +kernel
theorem xcp_0 : xcr xm_L_law 0 48 = true := xcl_0
theorem xcp_1 : xcr xm_L_law 0 96 = true := xcr_app (M := xm_L_law) (a := 0) (n := 48) (m := 48) xcp_0 (by rw [Nat.zero_add]; exact xcl_1)
theorem xcp_2 : xcr xm_L_law 0 144 = true := xcr_app (M := xm_L_law) (a := 0) (n := 96) (m := 48) xcp_1 (by rw [Nat.zero_add]; exact xcl_2)
theorem xcp_3 : xcr xm_L_law 0 192 = true := xcr_app (M := xm_L_law) (a := 0) (n := 144) (m := 48) xcp_2 (by rw [Nat.zero_add]; exact xcl_3)
theorem xcp_4 : xcr xm_L_law 0 240 = true := xcr_app (M := xm_L_law) (a := 0) (n := 192) (m := 48) xcp_3 (by rw [Nat.zero_add]; exact xcl_4)
theorem xcp_5 : xcr xm_L_law 0 288 = true := xcr_app (M := xm_L_law) (a := 0) (n := 240) (m := 48) xcp_4 (by rw [Nat.zero_add]; exact xcl_5)
theorem xcp_6 : xcr xm_L_law 0 336 = true := xcr_app (M := xm_L_law) (a := 0) (n := 288) (m := 48) xcp_5 (by rw [Nat.zero_add]; exact xcl_6)
theorem xcp_7 : xcr xm_L_law 0 384 = true := xcr_app (M := xm_L_law) (a := 0) (n := 336) (m := 48) xcp_6 (by rw [Nat.zero_add]; exact xcl_7)
theorem xcp_8 : xcr xm_L_law 0 432 = true := xcr_app (M := xm_L_law) (a := 0) (n := 384) (m := 48) xcp_7 (by rw [Nat.zero_add]; exact xcl_8)
theorem xcp_9 : xcr xm_L_law 0 480 = true := xcr_app (M := xm_L_law) (a := 0) (n := 432) (m := 48) xcp_8 (by rw [Nat.zero_add]; exact xcl_9)
theorem xcp_10 : xcr xm_L_law 0 528 = true := xcr_app (M := xm_L_law) (a := 0) (n := 480) (m := 48) xcp_9 (by rw [Nat.zero_add]; exact xcl_10)
theorem xcp_11 : xcr xm_L_law 0 576 = true := xcr_app (M := xm_L_law) (a := 0) (n := 528) (m := 48) xcp_10 (by rw [Nat.zero_add]; exact xcl_11)
theorem xcp_12 : xcr xm_L_law 0 624 = true := xcr_app (M := xm_L_law) (a := 0) (n := 576) (m := 48) xcp_11 (by rw [Nat.zero_add]; exact xcl_12)
theorem xcp_13 : xcr xm_L_law 0 672 = true := xcr_app (M := xm_L_law) (a := 0) (n := 624) (m := 48) xcp_12 (by rw [Nat.zero_add]; exact xcl_13)
theorem xcp_14 : xcr xm_L_law 0 720 = true := xcr_app (M := xm_L_law) (a := 0) (n := 672) (m := 48) xcp_13 (by rw [Nat.zero_add]; exact xcl_14)
theorem xcp_15 : xcr xm_L_law 0 768 = true := xcr_app (M := xm_L_law) (a := 0) (n := 720) (m := 48) xcp_14 (by rw [Nat.zero_add]; exact xcl_15)
theorem xcp_16 : xcr xm_L_law 0 816 = true := xcr_app (M := xm_L_law) (a := 0) (n := 768) (m := 48) xcp_15 (by rw [Nat.zero_add]; exact xcl_16)
theorem xcp_17 : xcr xm_L_law 0 864 = true := xcr_app (M := xm_L_law) (a := 0) (n := 816) (m := 48) xcp_16 (by rw [Nat.zero_add]; exact xcl_17)
theorem xcp_18 : xcr xm_L_law 0 912 = true := xcr_app (M := xm_L_law) (a := 0) (n := 864) (m := 48) xcp_17 (by rw [Nat.zero_add]; exact xcl_18)
theorem xcp_19 : xcr xm_L_law 0 960 = true := xcr_app (M := xm_L_law) (a := 0) (n := 912) (m := 48) xcp_18 (by rw [Nat.zero_add]; exact xcl_19)
theorem xcp_20 : xcr xm_L_law 0 1008 = true := xcr_app (M := xm_L_law) (a := 0) (n := 960) (m := 48) xcp_19 (by rw [Nat.zero_add]; exact xcl_20)
theorem xcp_21 : xcr xm_L_law 0 1056 = true := xcr_app (M := xm_L_law) (a := 0) (n := 1008) (m := 48) xcp_20 (by rw [Nat.zero_add]; exact xcl_21)
theorem xcp_22 : xcr xm_L_law 0 1104 = true := xcr_app (M := xm_L_law) (a := 0) (n := 1056) (m := 48) xcp_21 (by rw [Nat.zero_add]; exact xcl_22)
theorem xcp_23 : xcr xm_L_law 0 1152 = true := xcr_app (M := xm_L_law) (a := 0) (n := 1104) (m := 48) xcp_22 (by rw [Nat.zero_add]; exact xcl_23)
theorem xcp_24 : xcr xm_L_law 0 1200 = true := xcr_app (M := xm_L_law) (a := 0) (n := 1152) (m := 48) xcp_23 (by rw [Nat.zero_add]; exact xcl_24)
theorem xcp_25 : xcr xm_L_law 0 1248 = true := xcr_app (M := xm_L_law) (a := 0) (n := 1200) (m := 48) xcp_24 (by rw [Nat.zero_add]; exact xcl_25)
theorem xcp_26 : xcr xm_L_law 0 1296 = true := xcr_app (M := xm_L_law) (a := 0) (n := 1248) (m := 48) xcp_25 (by rw [Nat.zero_add]; exact xcl_26)
theorem xcp_27 : xcr xm_L_law 0 1344 = true := xcr_app (M := xm_L_law) (a := 0) (n := 1296) (m := 48) xcp_26 (by rw [Nat.zero_add]; exact xcl_27)
theorem xcp_28 : xcr xm_L_law 0 1348 = true := xcr_app (M := xm_L_law) (a := 0) (n := 1344) (m := 4) xcp_27 (by rw [Nat.zero_add]; exact xcl_28)
theorem xc_L_law : xchk xm_L_law = true := xcr_chk (by decide +kernel) (by decide +kernel) xcp_28
set_option maxRecDepth 100000 in
theorem xMs_ok : ∀ M ∈ xMs, xchk M = true := List.forall_mem_cons.mpr ⟨xc_Integer_bitCount, List.forall_mem_cons.mpr ⟨xc_Vo_start, List.forall_mem_cons.mpr ⟨xc_Vo_begin, List.forall_mem_cons.mpr ⟨xc_Person_gives, List.forall_mem_cons.mpr ⟨xc_Person_turns, List.forall_mem_cons.mpr ⟨xc_Person_say, List.forall_mem_cons.mpr ⟨xc_Person_let, List.forall_mem_cons.mpr ⟨xc_Person_haul, List.forall_mem_cons.mpr ⟨xc_Person_part, List.forall_mem_cons.mpr ⟨xc_Gossip_gives, List.forall_mem_cons.mpr ⟨xc_Gossip_turns, List.forall_mem_cons.mpr ⟨xc_Gossip_say, List.forall_mem_cons.mpr ⟨xc_Gossip_part, List.forall_mem_cons.mpr ⟨xc_Mayor_gives, List.forall_mem_cons.mpr ⟨xc_Mayor_turns, List.forall_mem_cons.mpr ⟨xc_Mayor_let, List.forall_mem_cons.mpr ⟨xc_Cutter_gives, List.forall_mem_cons.mpr ⟨xc_Cutter_haul, List.forall_mem_cons.mpr ⟨xc_Doctor_gives, List.forall_mem_cons.mpr ⟨xc_Doctor_turns, List.forall_mem_cons.mpr ⟨xc_Doctor_say, List.forall_mem_cons.mpr ⟨xc_Doctor_haul, List.forall_mem_cons.mpr ⟨xc_Judge_gives, List.forall_mem_cons.mpr ⟨xc_Judge_turns, List.forall_mem_cons.mpr ⟨xc_Judge_let, List.forall_mem_cons.mpr ⟨xc_Widow_gives, List.forall_mem_cons.mpr ⟨xc_Widow_turns, List.forall_mem_cons.mpr ⟨xc_Widow_say, List.forall_mem_cons.mpr ⟨xc_Widow_let, List.forall_mem_cons.mpr ⟨xc_Se_isMissing, List.forall_mem_cons.mpr ⟨xc_Se_renew, List.forall_mem_cons.mpr ⟨xc_Se_set, List.forall_mem_cons.mpr ⟨xc_Se_holds, List.forall_mem_cons.mpr ⟨xc_Tx_isThere, List.forall_mem_cons.mpr ⟨xc_Tx_forget, List.forall_mem_cons.mpr ⟨xc_Tx_copy, List.forall_mem_cons.mpr ⟨xc_Tx_reads, List.forall_mem_cons.mpr ⟨xc_Tx_place, List.forall_mem_cons.mpr ⟨xc_Tx_next, List.forall_mem_cons.mpr ⟨xc_Tx_readParts, List.forall_mem_cons.mpr ⟨xc_Tx_bindsOf, List.forall_mem_cons.mpr ⟨xc_Tx_readSingle, List.forall_mem_cons.mpr ⟨xc_Tx_close, List.forall_mem_cons.mpr ⟨xc_Tx_isDigit, List.forall_mem_cons.mpr ⟨xc_Tx_readNumber, List.forall_mem_cons.mpr ⟨xc_Tx_nameOf, List.forall_mem_cons.mpr ⟨xc_Tx_add, List.forall_mem_cons.mpr ⟨xc_Tx_value, List.forall_mem_cons.mpr ⟨xc_Tx_worked, List.forall_mem_cons.mpr ⟨xc_Sh_copy, List.forall_mem_cons.mpr ⟨xc_Sh_has, List.forall_mem_cons.mpr ⟨xc_Sh_setKind, List.forall_mem_cons.mpr ⟨xc_Sh_kindOf, List.forall_mem_cons.mpr ⟨xc_Sh_isAshore, List.forall_mem_cons.mpr ⟨xc_Sh_said, List.forall_mem_cons.mpr ⟨xc_Sh_say, List.forall_mem_cons.mpr ⟨xc_Sh_lawGives, List.forall_mem_cons.mpr ⟨xc_Sh_ropeBy, List.forall_mem_cons.mpr ⟨xc_Sh_ropeOf, List.forall_mem_cons.mpr ⟨xc_Sh_dayGoesBy, List.forall_mem_cons.mpr ⟨xc_Sh_turnWords, List.forall_mem_cons.mpr ⟨xc_Sh_drawSeaAndSwimmer, List.forall_mem_cons.mpr ⟨xc_Sh_draw, List.forall_mem_cons.mpr ⟨xc_R_person, List.forall_mem_cons.mpr ⟨xc_R_personIs, List.forall_mem_cons.mpr ⟨xc_R_become, List.forall_mem_cons.mpr ⟨xc_R_as, List.forall_mem_cons.mpr ⟨xc_R_tells, List.forall_mem_cons.mpr ⟨xc_R_rope, List.forall_mem_cons.mpr ⟨xc_R_swim, List.forall_mem_cons.mpr ⟨xc_R_saves, List.forall_mem_cons.mpr ⟨xc_R_weather, List.forall_mem_cons.mpr ⟨xc_R_feed, List.forall_mem_cons.mpr ⟨xc_R_text, List.forall_mem_cons.mpr ⟨xc_R_untell, List.forall_mem_cons.mpr ⟨xc_R_law, List.forall_mem_cons.mpr ⟨xc_R_days, List.forall_mem_cons.mpr ⟨xc_R_loose, List.forall_mem_cons.mpr ⟨xc_R_seed, List.forall_mem_cons.mpr ⟨xc_R_then, List.forall_mem_cons.mpr ⟨xc_R_cuts, List.forall_mem_cons.mpr ⟨xc_R_hauls, List.forall_mem_cons.mpr ⟨xc_R_party, List.forall_mem_cons.mpr ⟨xc_R_speaks, List.forall_mem_cons.mpr ⟨xc_R_odds, List.forall_mem_cons.mpr ⟨xc_R_fits, List.forall_mem_cons.mpr ⟨xc_R_voice, List.forall_mem_cons.mpr ⟨xc_R_body, List.forall_mem_cons.mpr ⟨xc_R_sheet, List.forall_mem_cons.mpr ⟨xc_R_put, List.forall_mem_cons.mpr ⟨xc_R_move, List.forall_mem_cons.mpr ⟨xc_R_words, List.forall_mem_cons.mpr ⟨xc_R_judge, List.forall_mem_cons.mpr ⟨xc_R_image, List.forall_mem_cons.mpr ⟨xc_R_restore, List.forall_mem_cons.mpr ⟨xc_R_tell, List.forall_mem_cons.mpr ⟨xc_R_check, List.forall_mem_cons.mpr ⟨xc_R_count, List.forall_mem_cons.mpr ⟨xc_R_told, List.forall_mem_cons.mpr ⟨xc_R_error, List.forall_mem_cons.mpr ⟨xc_R_within, List.forall_mem_cons.mpr ⟨xc_R_held, List.forall_mem_cons.mpr ⟨xc_R_isKindAndNumber, List.forall_mem_cons.mpr ⟨xc_R_isUse, List.forall_mem_cons.mpr ⟨xc_R_isSheet, List.forall_mem_cons.mpr ⟨xc_R_isBits, List.forall_mem_cons.mpr ⟨xc_R_isUnder, List.forall_mem_cons.mpr ⟨xc_R_arePair, List.forall_mem_cons.mpr ⟨xc_R_handsOn, List.forall_mem_cons.mpr ⟨xc_R_fewestHolding, List.forall_mem_cons.mpr ⟨xc_R_holding, List.forall_mem_cons.mpr ⟨xc_R_readRopes, List.forall_mem_cons.mpr ⟨xc_R_canBeOut, List.forall_mem_cons.mpr ⟨xc_R_ropeFromOutside, List.forall_mem_cons.mpr ⟨xc_R_gainIfSpoken, List.forall_mem_cons.mpr ⟨xc_R_rightRopes, List.forall_mem_cons.mpr ⟨xc_R_greatestDivisor, List.forall_mem_cons.mpr ⟨xc_M_error, List.forall_mem_cons.mpr ⟨xc_M_in, List.forall_mem_cons.mpr ⟨xc_M_held, List.forall_mem_cons.mpr ⟨xc_M_copyAll, List.forall_mem_cons.mpr ⟨xc_M_thinks, List.forall_mem_cons.mpr ⟨xc_M_putsBack, List.forall_mem_cons.mpr ⟨xc_M_bits, List.forall_mem_cons.mpr ⟨xc_M_isPerson, List.forall_mem_cons.mpr ⟨xc_M_becomes, List.forall_mem_cons.mpr ⟨xc_M_of, List.forall_mem_cons.mpr ⟨xc_M_lets, List.forall_mem_cons.mpr ⟨xc_M_spotOf, List.forall_mem_cons.mpr ⟨xc_M_givesTo, List.forall_mem_cons.mpr ⟨xc_M_ropeBy, List.forall_mem_cons.mpr ⟨xc_M_ropeNow, List.forall_mem_cons.mpr ⟨xc_M_turnsOf, List.forall_mem_cons.mpr ⟨xc_M_isAshore, List.forall_mem_cons.mpr ⟨xc_M_ashoreBut, List.forall_mem_cons.mpr ⟨xc_M_ropeOfBy, List.forall_mem_cons.mpr ⟨xc_M_ropeOf, List.forall_mem_cons.mpr ⟨xc_M_isKm, List.forall_mem_cons.mpr ⟨xc_M_person, List.forall_mem_cons.mpr ⟨xc_M_personIs, List.forall_mem_cons.mpr ⟨xc_M_become, List.forall_mem_cons.mpr ⟨xc_M_as, List.forall_mem_cons.mpr ⟨xc_M_areTwo, List.forall_mem_cons.mpr ⟨xc_M_tells, List.forall_mem_cons.mpr ⟨xc_M_rope, List.forall_mem_cons.mpr ⟨xc_M_swim, List.forall_mem_cons.mpr ⟨xc_M_saves, List.forall_mem_cons.mpr ⟨xc_M_weather, List.forall_mem_cons.mpr ⟨xc_M_feed, List.forall_mem_cons.mpr ⟨xc_M_look, List.forall_mem_cons.mpr ⟨xc_M_lays, List.forall_mem_cons.mpr ⟨xc_M_nameOf, List.forall_mem_cons.mpr ⟨xc_M_number, List.forall_mem_cons.mpr ⟨xc_M_opens, List.forall_mem_cons.mpr ⟨xc_M_one, List.forall_mem_cons.mpr ⟨xc_M_times, List.forall_mem_cons.mpr ⟨xc_M_sum, List.forall_mem_cons.mpr ⟨xc_M_compares, List.forall_mem_cons.mpr ⟨xc_M_all, List.forall_mem_cons.mpr ⟨xc_M_any, List.forall_mem_cons.mpr ⟨xc_M_text, List.forall_mem_cons.mpr ⟨xc_M_untell, List.forall_mem_cons.mpr ⟨xc_M_twoOf, List.forall_mem_cons.mpr ⟨xc_M_works, List.forall_mem_cons.mpr ⟨xc_M_gives, List.forall_mem_cons.mpr ⟨xc_M_law, List.forall_mem_cons.mpr ⟨xc_M_goes, List.forall_mem_cons.mpr ⟨xc_M_goesFor, List.forall_mem_cons.mpr ⟨xc_M_days, List.forall_mem_cons.mpr ⟨xc_M_draw, List.forall_mem_cons.mpr ⟨xc_M_drawn, List.forall_mem_cons.mpr ⟨xc_M_loose, List.forall_mem_cons.mpr ⟨xc_M_seed, List.forall_mem_cons.mpr ⟨xc_M_then, List.forall_mem_cons.mpr ⟨xc_M_isBetter, List.forall_mem_cons.mpr ⟨xc_M_cuts, List.forall_mem_cons.mpr ⟨xc_M_hauls, List.forall_mem_cons.mpr ⟨xc_M_canAll, List.forall_mem_cons.mpr ⟨xc_M_party, List.forall_mem_cons.mpr ⟨xc_M_speaks, List.forall_mem_cons.mpr ⟨xc_M_odds, List.forall_mem_cons.mpr ⟨xc_M_rightOf, List.forall_mem_cons.mpr ⟨xc_M_fits, List.forall_mem_cons.mpr ⟨xc_M_begins, List.forall_mem_cons.mpr ⟨xc_M_plainSays, List.forall_mem_cons.mpr ⟨xc_M_gossipSays, List.forall_mem_cons.mpr ⟨xc_M_says, List.forall_mem_cons.mpr ⟨xc_M_plainLets, List.forall_mem_cons.mpr ⟨xc_M_mayorLets, List.forall_mem_cons.mpr ⟨xc_M_letsBy, List.forall_mem_cons.mpr ⟨xc_M_plainHauls, List.forall_mem_cons.mpr ⟨xc_M_haulsBy, List.forall_mem_cons.mpr ⟨xc_M_plainParts, List.forall_mem_cons.mpr ⟨xc_M_partsBy, List.forall_mem_cons.mpr ⟨xc_M_voice, List.forall_mem_cons.mpr ⟨xc_M_body, List.forall_mem_cons.mpr ⟨xc_M_isSheet, List.forall_mem_cons.mpr ⟨xc_M_sheet, List.forall_mem_cons.mpr ⟨xc_M_notThere, List.forall_mem_cons.mpr ⟨xc_M_put, List.forall_mem_cons.mpr ⟨xc_M_notMoved, List.forall_mem_cons.mpr ⟨xc_M_move, List.forall_mem_cons.mpr ⟨xc_M_words, List.forall_mem_cons.mpr ⟨xc_M_judge, List.forall_mem_cons.mpr ⟨xc_M_image, List.forall_mem_cons.mpr ⟨xc_M_restore, List.forall_mem_cons.mpr ⟨xc_M_tell, List.forall_mem_cons.mpr ⟨xc_M_check, List.forall_mem_cons.mpr ⟨xc_M_count, List.forall_mem_cons.mpr ⟨xc_M_told, List.forall_mem_cons.mpr ⟨xc_L_law, fun _ h => absurd h List.not_mem_nil⟩⟩⟩⟩⟩⟩⟩⟩⟩⟩⟩⟩⟩⟩⟩⟩⟩⟩⟩⟩⟩⟩⟩⟩⟩⟩⟩⟩⟩⟩⟩⟩⟩⟩⟩⟩⟩⟩⟩⟩⟩⟩⟩⟩⟩⟩⟩⟩⟩⟩⟩⟩⟩⟩⟩⟩⟩⟩⟩⟩⟩⟩⟩⟩⟩⟩⟩⟩⟩⟩⟩⟩⟩⟩⟩⟩⟩⟩⟩⟩⟩⟩⟩⟩⟩⟩⟩⟩⟩⟩⟩⟩⟩⟩⟩⟩⟩⟩⟩⟩⟩⟩⟩⟩⟩⟩⟩⟩⟩⟩⟩⟩⟩⟩⟩⟩⟩⟩⟩⟩⟩⟩⟩⟩⟩⟩⟩⟩⟩⟩⟩⟩⟩⟩⟩⟩⟩⟩⟩⟩⟩⟩⟩⟩⟩⟩⟩⟩⟩⟩⟩⟩⟩⟩⟩⟩⟩⟩⟩⟩⟩⟩⟩⟩⟩⟩⟩⟩⟩⟩⟩⟩⟩⟩⟩⟩⟩⟩⟩⟩⟩⟩⟩⟩⟩⟩⟩⟩⟩⟩⟩⟩⟩⟩⟩⟩⟩⟩⟩⟩⟩⟩⟩⟩⟩⟩⟩⟩⟩⟩⟩
