/-! ===== the law's loop: class against model ===== -/
theorem ub_wC (R S K V Z T Y U : xS) (B B' : List xE) : ub (wC R S K V Z T Y U B) 4 B' = wC R S K V Z T Y U B' := ub_w5_4 _ _ _ _ _ _
theorem wC_15 (R S K V Z T Y U : xS) (B : List xE) : (wC R S K V Z T Y U B) 15 = [] := rfl
/-- what holds of the law's world -/
def LI (σ : xW) : Prop := ∃ R S K V Z T Y U M : xS, okQ (R, S, K) ∧ okN T ∧ RM M R S K ∧ σ = wC R S K V Z T Y U (mdC M)
theorem LI.s15 {σ : xW} (h : LI σ) : σ 15 = [] := by
  obtain ⟨R, S, K, V, Z, T, Y, U, M, -, -, -, rfl⟩ := h
  rfl
theorem LI.r {σ : xW} (h : LI σ) : xv1 σ (sh 0 0) 0 = some () := by
  obtain ⟨R, S, K, V, Z, T, Y, U, M, -, -, -, rfl⟩ := h
  exact rv_0
theorem wC_m (R S K V Z T Y U M : xS) : xv1 (wC R S K V Z T Y U (mdC M)) (sh 4 0) 5 = some () := by
  rw [← ub_wC R S K V Z T Y U [] (mdC M)]
  exact mv_0
/-- one call of the law: both answer alike -/
def CS (X : xX) (jR jM : Nat) (as : List Value) (σ : xW) : Prop := ∃ (v : Int32) (σ1 σ2 : xW), xcall X 60 jR (.ref (sh 0 0) :: as) σ = some (some (.int v), σ1) ∧ xcall X 60 jM (.ref (sh 4 0) :: as) σ1 = some (some (.int v), σ2) ∧ σ1 15 = [] ∧ xv1 σ1 (sh 4 0) 5 = some () ∧ LI σ2
theorem CS.of {X : xX} {jR jM : Nat} {as : List Value} {R S K V Z T Y U M : xS} {sp : Int32 × xQS} (hT : okN T) (hQ : CQ X 60 jR (.ref (sh 0 0) :: as) R S K (mdC M) sp) (hC : MC X 60 jM as M sp) (hk : okQ sp.2) : CS X jR jM as (wC R S K V Z T Y U (mdC M)) := by
  obtain ⟨V', Z', T', Y', U', hT', h1⟩ := hQ V Z T Y U hT
  obtain ⟨N, hN, h2⟩ := hC (wC sp.2.1 sp.2.2.1 sp.2.2.2 V' Z' T' Y' U' (mdC M))
  rw [ub_wC, ub_wC] at h2
  exact ⟨sp.1, _, _, h1, h2, rfl, wC_m _ _ _ _ _ _ _ _ _, sp.2.1, sp.2.2.1, sp.2.2.2, V', Z', T', Y', U', N, hk, hT', hN, rfl⟩
section Law
variable {X : xX} {σ : xW}
theorem k_person (h : LI σ) (a : Int32) : CS X j_R_person j_M_person [.int a] σ := by
  obtain ⟨R, S, K, V, Z, T, Y, U, M, hQ, hT, hM, rfl⟩ := h
  obtain ⟨hR, hI, hK⟩ := id hQ
  obtain ⟨hS, hN, -⟩ := id hI
  exact CS.of hT (q_person (X := X) (d := 57) hS a) (m_person (X := X) (d := 57) hI hM a) (ok_person hQ a)
theorem k_personIs (h : LI σ) (a : Int32) (b : Int32) : CS X j_R_personIs j_M_personIs [.int a, .int b] σ := by
  obtain ⟨R, S, K, V, Z, T, Y, U, M, hQ, hT, hM, rfl⟩ := h
  obtain ⟨hR, hI, hK⟩ := id hQ
  obtain ⟨hS, hN, -⟩ := id hI
  exact CS.of hT (q_personIs (X := X) (d := 54) hS a b) (m_personIs (X := X) (d := 52) hI hM a b) (ok_personIs hQ a b)
theorem k_become (h : LI σ) (a : Int32) (b : Int32) : CS X j_R_become j_M_become [.int a, .int b] σ := by
  obtain ⟨R, S, K, V, Z, T, Y, U, M, hQ, hT, hM, rfl⟩ := h
  obtain ⟨hR, hI, hK⟩ := id hQ
  obtain ⟨hS, hN, -⟩ := id hI
  exact CS.of hT (q_become (X := X) (d := 57) hS a b) (m_become (X := X) (d := 57) hI hM a b) (ok_become hQ a b)
theorem k_as (h : LI σ) (a : Int32) (b : Int32) : CS X j_R_as j_M_as [.int a, .int b] σ := by
  obtain ⟨R, S, K, V, Z, T, Y, U, M, hQ, hT, hM, rfl⟩ := h
  obtain ⟨hR, hI, hK⟩ := id hQ
  obtain ⟨hS, hN, -⟩ := id hI
  exact CS.of hT (q_as (X := X) (d := 57) hS a b) (m_as (X := X) (d := 57) hI hM a b) (ok_as hQ a b)
theorem k_tells (h : LI σ) (a : Int32) (b : Int32) (c : Int32) : CS X j_R_tells j_M_tells [.int a, .int b, .int c] σ := by
  obtain ⟨R, S, K, V, Z, T, Y, U, M, hQ, hT, hM, rfl⟩ := h
  obtain ⟨hR, hI, hK⟩ := id hQ
  obtain ⟨hS, hN, -⟩ := id hI
  exact CS.of hT (q_tells (X := X) (d := 56) hS a b c) (m_tells (X := X) (d := 56) hI hM a b c) (ok_tells hQ a b c)
theorem k_rope (h : LI σ) (a : Int32) (b : Int32) : CS X j_R_rope j_M_rope [.int a, .int b] σ := by
  obtain ⟨R, S, K, V, Z, T, Y, U, M, hQ, hT, hM, rfl⟩ := h
  obtain ⟨hR, hI, hK⟩ := id hQ
  obtain ⟨hS, hN, -⟩ := id hI
  exact CS.of hT (q_rope (X := X) (d := 55) hS a b) (m_rope (X := X) (d := 54) hI hM a b) (ok_rope hQ a b)
theorem k_swim (h : LI σ) (a : Int32) (b : Int32) : CS X j_R_swim j_M_swim [.int a, .int b] σ := by
  obtain ⟨R, S, K, V, Z, T, Y, U, M, hQ, hT, hM, rfl⟩ := h
  obtain ⟨hR, hI, hK⟩ := id hQ
  obtain ⟨hS, hN, -⟩ := id hI
  exact CS.of hT (q_swim (X := X) (d := 57) hS a b) (m_swim (X := X) (d := 57) hI hM a b) (ok_swim hQ a b)
theorem k_saves (h : LI σ) (a : Int32) : CS X j_R_saves j_M_saves [.int a] σ := by
  obtain ⟨R, S, K, V, Z, T, Y, U, M, hQ, hT, hM, rfl⟩ := h
  obtain ⟨hR, hI, hK⟩ := id hQ
  obtain ⟨hS, hN, -⟩ := id hI
  exact CS.of hT (q_saves (X := X) (d := 57) hS a) (m_saves (X := X) (d := 57) hI hM a) (ok_saves hQ a)
theorem k_weather (h : LI σ) (a : Int32) : CS X j_R_weather j_M_weather [.int a] σ := by
  obtain ⟨R, S, K, V, Z, T, Y, U, M, hQ, hT, hM, rfl⟩ := h
  obtain ⟨hR, hI, hK⟩ := id hQ
  obtain ⟨hS, hN, -⟩ := id hI
  exact CS.of hT (q_weather (X := X) (d := 58)  a) (m_weather (X := X) (d := 58) hI hM a) (ok_weather hQ a)
theorem k_feed (h : LI σ) (w : Int64) (n : Int32) : CS X j_R_feed j_M_feed [.long w, .int n] σ := by
  obtain ⟨R, S, K, V, Z, T, Y, U, M, hQ, hT, hM, rfl⟩ := h
  obtain ⟨hR, hI, hK⟩ := id hQ
  obtain ⟨hS, hN, -⟩ := id hI
  exact CS.of hT (q_feed (X := X) (d := 58) hI.2.2.2.1.1 hI.2.2.2.1.2 w n) (m_feed (X := X) (d := 58) hI hM w n) (ok_feed hQ w n)
theorem k_text (h : LI σ) (use : Int32) : CS X j_R_text j_M_text [.int use] σ := by
  obtain ⟨R, S, K, V, Z, T, Y, U, M, hQ, hT, hM, rfl⟩ := h
  obtain ⟨hR, hI, hK⟩ := id hQ
  obtain ⟨f, f1, f2, f3, V', Z', T', Y', U', hT', h1⟩ := q_text (X := X) (d := 13) (R := R) (K := K) (B4 := mdC M) hI.2.1 hI.2.2.2.1.1 hI.2.2.2.1.2 use V Z T Y U hT
  obtain ⟨N, hN, h2⟩ := m_text (X := X) (d := 15) hI hM use f1 f3 (wC (sp_text R S K use f).2.1 (sp_text R S K use f).2.2.1 (sp_text R S K use f).2.2.2 V' Z' T' Y' U' (mdC M))
  rw [ub_wC, ub_wC] at h2
  exact ⟨(sp_text R S K use f).1, _, _, h1, h2, rfl, wC_m _ _ _ _ _ _ _ _ _, _, _, _, V', Z', T', Y', U', N, ok_text hQ use f1 f2 f3, hT', hN, rfl⟩
theorem k_untell (h : LI σ) (a : Int32) : CS X j_R_untell j_M_untell [.int a] σ := by
  obtain ⟨R, S, K, V, Z, T, Y, U, M, hQ, hT, hM, rfl⟩ := h
  obtain ⟨hR, hI, hK⟩ := id hQ
  obtain ⟨hS, hN, -⟩ := id hI
  exact CS.of hT (q_untell (X := X) (d := 57)  a) (m_untell (X := X) (d := 58) hI hM a) (ok_untell hQ a)
theorem k_law (h : LI σ) (a : Int32) (b : Int32) (c : Int32) (e : Int32) : CS X j_R_law j_M_law [.int a, .int b, .int c, .int e] σ := by
  obtain ⟨R, S, K, V, Z, T, Y, U, M, hQ, hT, hM, rfl⟩ := h
  obtain ⟨hR, hI, hK⟩ := id hQ
  obtain ⟨hS, hN, -⟩ := id hI
  exact CS.of hT (q_law (X := X) (d := 56) hS a b c e) (m_law (X := X) (d := 56) hI hM a b c e) (ok_law hQ a b c e)
theorem k_days (h : LI σ) (a : Int32) : CS X j_R_days j_M_days [.int a] σ := by
  obtain ⟨R, S, K, V, Z, T, Y, U, M, hQ, hT, hM, rfl⟩ := h
  obtain ⟨hR, hI, hK⟩ := id hQ
  obtain ⟨hS, hN, -⟩ := id hI
  exact CS.of hT (q_days (X := X) (d := 53) hS a) (m_days (X := X) (d := 50) hI hM a) (ok_days hQ a)
theorem k_loose (h : LI σ) (a : Int32) : CS X j_R_loose j_M_loose [.int a] σ := by
  obtain ⟨R, S, K, V, Z, T, Y, U, M, hQ, hT, hM, rfl⟩ := h
  obtain ⟨hR, hI, hK⟩ := id hQ
  obtain ⟨hS, hN, -⟩ := id hI
  exact CS.of hT (q_loose (X := X) (d := 53) hS a) (m_loose (X := X) (d := 50) hI hM a) (ok_loose hQ a)
theorem k_seed (h : LI σ) (a : Int32) : CS X j_R_seed j_M_seed [.int a] σ := by
  obtain ⟨R, S, K, V, Z, T, Y, U, M, hQ, hT, hM, rfl⟩ := h
  obtain ⟨hR, hI, hK⟩ := id hQ
  obtain ⟨hS, hN, -⟩ := id hI
  exact CS.of hT (q_seed (X := X) (d := 59)  a) (m_seed (X := X) (d := 58) hI hM a) (ok_seed hQ a)
theorem k_then (h : LI σ) (a : Int32) (b : Int32) (c : Int32) : CS X j_R_then j_M_then [.int a, .int b, .int c] σ := by
  obtain ⟨R, S, K, V, Z, T, Y, U, M, hQ, hT, hM, rfl⟩ := h
  obtain ⟨hR, hI, hK⟩ := id hQ
  obtain ⟨hS, hN, -⟩ := id hI
  exact CS.of hT (q_then (X := X) (d := 53) hS hN a b c) (m_then (X := X) (d := 50) hI hM a b c) (ok_then hQ a b c)
theorem k_cuts (h : LI σ) (a : Int32) (b : Int32) (c : Int32) : CS X j_R_cuts j_M_cuts [.int a, .int b, .int c] σ := by
  obtain ⟨R, S, K, V, Z, T, Y, U, M, hQ, hT, hM, rfl⟩ := h
  obtain ⟨hR, hI, hK⟩ := id hQ
  obtain ⟨hS, hN, -⟩ := id hI
  exact CS.of hT (q_cuts (X := X) (d := 54) hS a b c) (m_cuts (X := X) (d := 53) hI hM a b c) (ok_cuts hQ a b c)
theorem k_hauls (h : LI σ) (a : Int32) (b : Int32) (c : Int32) : CS X j_R_hauls j_M_hauls [.int a, .int b, .int c] σ := by
  obtain ⟨R, S, K, V, Z, T, Y, U, M, hQ, hT, hM, rfl⟩ := h
  obtain ⟨hR, hI, hK⟩ := id hQ
  obtain ⟨hS, hN, -⟩ := id hI
  exact CS.of hT (q_hauls (X := X) (d := 54) hS a b c) (m_hauls (X := X) (d := 53) hI hM a b c) (ok_hauls hQ a b c)
theorem k_party (h : LI σ) (a : Int32) (b : Int32) : CS X j_R_party j_M_party [.int a, .int b] σ := by
  obtain ⟨R, S, K, V, Z, T, Y, U, M, hQ, hT, hM, rfl⟩ := h
  obtain ⟨hR, hI, hK⟩ := id hQ
  obtain ⟨hS, hN, -⟩ := id hI
  exact CS.of hT (q_party (X := X) (d := 54) hS a b) (m_party (X := X) (d := 52) hI hM a b) (ok_party hQ a b)
theorem k_speaks (h : LI σ) (a : Int32) (b : Int32) : CS X j_R_speaks j_M_speaks [.int a, .int b] σ := by
  obtain ⟨R, S, K, V, Z, T, Y, U, M, hQ, hT, hM, rfl⟩ := h
  obtain ⟨hR, hI, hK⟩ := id hQ
  obtain ⟨hS, hN, -⟩ := id hI
  exact CS.of hT (q_speaks (X := X) (d := 54) hS a b) (m_speaks (X := X) (d := 54) hI hM a b) (ok_speaks hQ a b)
theorem k_odds (h : LI σ) (a : Int32) (b : Int32) (c : Int32) : CS X j_R_odds j_M_odds [.int a, .int b, .int c] σ := by
  obtain ⟨R, S, K, V, Z, T, Y, U, M, hQ, hT, hM, rfl⟩ := h
  obtain ⟨hR, hI, hK⟩ := id hQ
  obtain ⟨hS, hN, -⟩ := id hI
  exact CS.of hT (q_odds (X := X) (d := 54) hS hN a b c) (m_odds (X := X) (d := 52) hI hM a b c) (ok_odds hQ a b c)
theorem k_fits (h : LI σ) (a : Int32) : CS X j_R_fits j_M_fits [.int a] σ := by
  obtain ⟨R, S, K, V, Z, T, Y, U, M, hQ, hT, hM, rfl⟩ := h
  obtain ⟨hR, hI, hK⟩ := id hQ
  obtain ⟨hS, hN, -⟩ := id hI
  exact CS.of hT (q_fits (X := X) (d := 53) hR hS hN a) (m_fits (X := X) (d := 51) hR hI hM a) (ok_fits hQ a)
theorem k_voice (h : LI σ) (a : Int32) (b : Int32) (c : Int32) : CS X j_R_voice j_M_voice [.int a, .int b, .int c] σ := by
  obtain ⟨R, S, K, V, Z, T, Y, U, M, hQ, hT, hM, rfl⟩ := h
  obtain ⟨hR, hI, hK⟩ := id hQ
  obtain ⟨hS, hN, -⟩ := id hI
  exact CS.of hT (q_voice (X := X) (d := 50) hS a b c) (m_voice (X := X) (d := 50) hS hM a b c) (ok_voice hQ a b c)
theorem k_body (h : LI σ) (a : Int32) : CS X j_R_body j_M_body [.int a] σ := by
  obtain ⟨R, S, K, V, Z, T, Y, U, M, hQ, hT, hM, rfl⟩ := h
  obtain ⟨hR, hI, hK⟩ := id hQ
  obtain ⟨hS, hN, -⟩ := id hI
  exact CS.of hT (q_body (X := X) (d := 58) hR.2.1 hR.2.2 a) (m_body (X := X) (d := 58) hR hM a) (ok_body hQ a)
theorem k_sheet (h : LI σ) (a : Int32) (b : Int32) (c : Int32) : CS X j_R_sheet j_M_sheet [.int a, .int b, .int c] σ := by
  obtain ⟨R, S, K, V, Z, T, Y, U, M, hQ, hT, hM, rfl⟩ := h
  obtain ⟨hR, hI, hK⟩ := id hQ
  obtain ⟨hS, hN, -⟩ := id hI
  exact CS.of hT (q_sheet (X := X) (d := 57)  a b c) (m_sheet (X := X) (d := 57) hM a b c) (ok_sheet hQ a b c)
theorem k_put (h : LI σ) (a : Int32) (b : Int32) (c : Int32) : CS X j_R_put j_M_put [.int a, .int b, .int c] σ := by
  obtain ⟨R, S, K, V, Z, T, Y, U, M, hQ, hT, hM, rfl⟩ := h
  obtain ⟨hR, hI, hK⟩ := id hQ
  obtain ⟨hS, hN, -⟩ := id hI
  exact CS.of hT (q_put (X := X) (d := 57) hR a b c) (m_put (X := X) (d := 56) hR hM a b c) (ok_put hQ a b c)
theorem k_move (h : LI σ) (a : Int32) (b : Int32) (c : Int32) (e : Int32) (g : Int32) : CS X j_R_move j_M_move [.int a, .int b, .int c, .int e, .int g] σ := by
  obtain ⟨R, S, K, V, Z, T, Y, U, M, hQ, hT, hM, rfl⟩ := h
  obtain ⟨hR, hI, hK⟩ := id hQ
  obtain ⟨hS, hN, -⟩ := id hI
  exact CS.of hT (q_move (X := X) (d := 57) hR a b c e g) (m_move (X := X) (d := 56) hR hM a b c e g) (ok_move hQ a b c e g)
theorem k_words (h : LI σ) (a : Int32) (b : Int32) : CS X j_R_words j_M_words [.int a, .int b] σ := by
  obtain ⟨R, S, K, V, Z, T, Y, U, M, hQ, hT, hM, rfl⟩ := h
  obtain ⟨hR, hI, hK⟩ := id hQ
  obtain ⟨hS, hN, -⟩ := id hI
  exact CS.of hT (q_words (X := X) (d := 57) hR hS a b) (m_words (X := X) (d := 56) hR hI hM a b) (ok_words hQ a b)
theorem k_judge (h : LI σ) (a : Int32) : CS X j_R_judge j_M_judge [.int a] σ := by
  obtain ⟨R, S, K, V, Z, T, Y, U, M, hQ, hT, hM, rfl⟩ := h
  obtain ⟨hR, hI, hK⟩ := id hQ
  obtain ⟨hS, hN, -⟩ := id hI
  exact CS.of hT (q_judge (X := X) (d := 53) hR hS a) (m_judge (X := X) (d := 51) hR hI hM a) (ok_judge hQ a)
theorem k_image (h : LI σ)  : CS X j_R_image j_M_image [] σ := by
  obtain ⟨R, S, K, V, Z, T, Y, U, M, hQ, hT, hM, rfl⟩ := h
  obtain ⟨hR, hI, hK⟩ := id hQ
  obtain ⟨hS, hN, -⟩ := id hI
  exact CS.of hT (q_image (X := X) (d := 57) hN hK.2.1 ) (m_image (X := X) (d := 58) hI hM ) (ok_image hQ )
theorem k_restore (h : LI σ)  : CS X j_R_restore j_M_restore [] σ := by
  obtain ⟨R, S, K, V, Z, T, Y, U, M, hQ, hT, hM, rfl⟩ := h
  obtain ⟨hR, hI, hK⟩ := id hQ
  obtain ⟨hS, hN, -⟩ := id hI
  exact CS.of hT (q_restore (X := X) (d := 57) hN hK.2.1 ) (m_restore (X := X) (d := 58) hK hM ) (ok_restore hQ )
theorem k_tell (h : LI σ) (a : Int32) : CS X j_R_tell j_M_tell [.int a] σ := by
  obtain ⟨R, S, K, V, Z, T, Y, U, M, hQ, hT, hM, rfl⟩ := h
  obtain ⟨hR, hI, hK⟩ := id hQ
  obtain ⟨hS, hN, -⟩ := id hI
  exact CS.of hT (q_tell (X := X) (d := 58) hI.2.2.1.1 hI.2.2.1.2 a) (m_tell (X := X) (d := 58) hI hM a) (ok_tell hQ a)
theorem k_check (h : LI σ)  : CS X j_R_check j_M_check [] σ := by
  obtain ⟨R, S, K, V, Z, T, Y, U, M, hQ, hT, hM, rfl⟩ := h
  obtain ⟨hR, hI, hK⟩ := id hQ
  obtain ⟨hS, hN, -⟩ := id hI
  exact CS.of hT (q_check (X := X) (d := 59) hS hI.2.2.1.1 hI.2.2.1.2 ) (m_check (X := X) (d := 57) hI hM ) (ok_check hQ )
theorem k_count (h : LI σ) (a : Int32) : CS X j_R_count j_M_count [.int a] σ := by
  obtain ⟨R, S, K, V, Z, T, Y, U, M, hQ, hT, hM, rfl⟩ := h
  obtain ⟨hR, hI, hK⟩ := id hQ
  obtain ⟨hS, hN, -⟩ := id hI
  exact CS.of hT (q_count (X := X) (d := 58)  a) (m_count (X := X) (d := 58) hM a) (ok_count hQ a)
theorem k_told (h : LI σ) (a : Int32) : CS X j_R_told j_M_told [.int a] σ := by
  obtain ⟨R, S, K, V, Z, T, Y, U, M, hQ, hT, hM, rfl⟩ := h
  obtain ⟨hR, hI, hK⟩ := id hQ
  obtain ⟨hS, hN, -⟩ := id hI
  exact CS.of hT (q_told (X := X) (d := 58)  a) (m_told (X := X) (d := 58) hM a) (ok_told hQ a)
end Law
