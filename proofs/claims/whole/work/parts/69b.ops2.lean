theorem Rel_st {σ τ : zS} (h : core σ τ) (hc : cCa σ) (h2 : σ.1 0 2 = 1) : Rel σ τ := ⟨h, hc, Or.inl h2⟩
theorem cCa_e {σ σ' : zS} (h : cCa σ) (h1 : σ'.1 153 = σ.1 153) (h2 : σ'.1 155 = σ.1 155) : cCa σ' := by unfold cCa; rw [h1, h2]; exact h
theorem o_rows (σ τ : zS) (h : Rel σ τ) (a1 : Int32) : ∃ (r : Int32) (σ' τ' : zS), fX6_rows 0 a1 σ = some (r, σ') ∧ fX7_rows 0 a1 τ = some (r, τ') ∧ Rel σ' τ' := by
  obtain ⟨hco, hca, hfr⟩ := id h
  obtain ⟨hR, -, hM, hcr, -⟩ := id hco
  unfold fX6_rows fX7_rows
  rcases ok_dec a1 4 8 with h1 | h1
  · rw [(c_within a1 4 8 σ).1 h1, zb_s, if_neg n10, (m_in a1 4 8 τ).1 h1, zb_s, if_neg n10, m_persons hM, zb_s, bnd_e, cr_ hR 0 0 1 rfl (by decide), bnd_e, cr_ hR 1 0 5 rfl (by decide), bnd_e, bnd_e, cr_ hR 1 0 5 rfl (by decide), bnd_e, bnd_e, bnd_e]
    have hz := bs_z (cr_p hcr)
    have hle := cn_le (fun q => decide (¬ τ.1 1 q = -1)) 24
    obtain ⟨k, k1, k2, rfl⟩ := ok_n (a := 4) (n := 8) (by omega) (by omega) h1
    by_cases hp : σ.1 5 1 = 0
    · rw [if_pos hp, hz.mp hp, if_pos (by decide)]
      refine ⟨1, _, _, rfl, rfl, Rel_st (core_x hco rfl (fun a q1 q2 => by rw [zI_ne (by omega), zI_ne (by omega)]) rfl rfl (fun a q => by rw [zI_ne (by omega)]) rfl ?_ hco.2.2.2.2.1 hco.2.2.2.2.2.1 hco.2.2.2.2.2.2.1 hco.2.2.2.2.2.2.2.1 hco.2.2.2.2.2.2.2.2.1) (cCa_e hca rfl rfl) rfl⟩
      exact ⟨⟨k, k1, k2, rfl, rfl⟩, hcr.2.1, fun s hs => pSeat_c (fun j j1 j2 => by rw [zI_ne (by decide), zI_o (by omega)]) (hcr.2.2 s hs)⟩
    · rw [if_neg hp, if_neg (nI_nle (Nat.pos_of_ne_zero (fun q => hp (hz.mpr q))) (by omega))]
      exact ⟨0, σ, τ, rfl, rfl, h⟩
  · rw [(c_within a1 4 8 σ).2 h1, zb_s, if_pos rfl, (m_in a1 4 8 τ).2 h1, zb_s, if_pos rfl]
    exact ⟨0, σ, τ, rfl, rfl, h⟩
theorem ok_m1 {v : Int32} (h : ok v (-1) 3) : v = -1 ∨ ∃ k, k < 4 ∧ v = nI k := by
  by_cases h0 : v < 0
  · left
    have e1 : ¬ v.toInt < (-1 : Int) := fun q => h.1 (Int32.lt_iff_toInt_lt.mpr q)
    have e2 : v.toInt < (0 : Int) := Int32.lt_iff_toInt_lt.mp h0
    apply Int32.toInt_inj.mp
    show v.toInt = (-1 : Int)
    omega
  · right
    obtain ⟨k, -, k2, e⟩ := ok_n (a := 0) (n := 3) (v := v) (by omega) (by omega) ⟨h0, h.2⟩
    exact ⟨k, by omega, e⟩
theorem nm1 : ∀ k, k < 4 → ¬ nI k = -1 := by decide +kernel
theorem upd_s {τ : zS} {N s : Nat} {v : Int32} : (zI τ N s v).1 N s = v := zI_s
theorem o_seat (σ τ : zS) (h : Rel σ τ) (a1 a2 a3 : Int32) : ∃ (r : Int32) (σ' τ' : zS), fX6_seat 0 a1 a2 a3 σ = some (r, σ') ∧ fX7_seat 0 a1 a2 a3 τ = some (r, τ') ∧ Rel σ' τ' := by
  obtain ⟨hco, hca, hfr⟩ := id h
  obtain ⟨hR, -, hM, hcr, -⟩ := id hco
  unfold fX6_seat fX7_seat
  rcases ok_dec a1 0 23 with h1 | h1
  · rw [(c_isSeat a1 σ).1 h1, zb_s, if_neg n10, (m_isSeat a1 τ).1 h1, zb_s, if_neg n10]
    rcases ok_dec a2 (-1) 3 with h2 | h2
    · rw [(c_within a2 (-1) 3 σ).1 h2, zb_s, if_neg n10, (m_in a2 (-1) 3 τ).1 h2, zb_s, if_neg n10]
      rcases ok_dec a3 0 1 with h3 | h3
      · rw [(c_within a3 0 1 σ).1 h3, zb_s, if_neg n10, (m_in a3 0 1 τ).1 h3, zb_s, if_neg n10]
        obtain ⟨s, -, s2, rfl⟩ := ok_n (a := 0) (n := 23) (by omega) (by omega) h1
        obtain ⟨b, -, b2, rfl⟩ := ok_n (a := 0) (n := 1) (by omega) (by omega) h3
        have hs : s < 24 := by omega
        have ht0 := hcr.2.2 s hs
        unfold bX6_seat_59 bX7_seat_45
        simp only [bnd_e, mm6 hM, cr_ hR 0 0 1 rfl (by decide), cr_ hR 1 0 5 rfl (by decide)]
        have m55 : ∀ v : Int32, bX7_seat_55 0 (nI s) a2 (nI b) 3 (nI s) v τ = some (1, zI (zI (zI τ 3 s v) 1 s a2) 2 s (if a2 = -1 then 0 else nI b)) := by
          intro v
          unfold bX7_seat_55
          simp only [bnd_e, zI_2, mm4 hM, mm5 hM]
          rw [zX_n hs (by omega), zX_n hs (by omega), zX_n hs (by omega), zX_n hs (by omega), cl_n (by omega)]
          by_cases e : a2 = -1
          · rw [if_pos e, if_pos e]
          · rw [if_neg e, if_neg e]
        have fin : ∀ (σ1 : zS) (v : Int32), σ1.2 = σ.2 → (∀ a, ¬ a = 5 → σ1.1 a = σ.1 a) → pCrowd (σ1.1 5) (τ.1 0 0) ((zI (zI (zI τ 3 s v) 1 s a2) 2 s (if a2 = -1 then 0 else nI b)).1 1) ((zI (zI (zI τ 3 s v) 1 s a2) 2 s (if a2 = -1 then 0 else nI b)).1 2) ((zI (zI (zI τ 3 s v) 1 s a2) 2 s (if a2 = -1 then 0 else nI b)).1 3) → Rel (zI σ1 0 2 1) (zI (zI (zI τ 3 s v) 1 s a2) 2 s (if a2 = -1 then 0 else nI b)) := by
          intro σ1 v e2 e1 hp
          refine Rel_st (core_x hco e2 (fun a q1 q2 => by rw [zI_ne (by omega), e1 a (by omega)]) ?_ rfl (fun a q => by rw [zI_ne (by omega), zI_ne (by omega), zI_ne (by omega)]) rfl ?_ ?_ ?_ ?_ ?_ ?_) (cCa_e hca (by rw [zI_ne (by decide), e1 153 (by decide)]) (by rw [zI_ne (by decide), e1 155 (by decide)])) zI_s
          · rw [zI_o (by decide), e1 0 (by decide)]
          · rw [zI_ne (by decide)]; exact hp
          · rw [zI_ne (by decide), zI_ne (by decide), zI_ne (by decide), e1 2 (by decide), e1 3 (by decide), e1 4 (by decide)]; exact hco.2.2.2.2.1
          · rw [zI_ne (by decide), zI_ne (by decide), e1 169 (by decide), e1 170 (by decide)]; exact hco.2.2.2.2.2.1
          · rw [show (zI σ1 0 2 1).1 0 13 = σ1.1 0 13 from zI_o (by decide), show (zI σ1 0 2 1).1 0 14 = σ1.1 0 14 from zI_o (by decide), e1 0 (by decide), zI_ne (by decide), zI_ne (by decide), zI_ne (by decide)]; exact hco.2.2.2.2.2.2.1
          · rw [show (zI σ1 0 2 1).1 0 10 = σ1.1 0 10 from zI_o (by decide), zI_ne (by decide), e1 0 (by decide), e1 167 (by decide)]; exact hco.2.2.2.2.2.2.2.1
          · rw [zI_ne (by decide), zI_ne (by decide), e1 171 (by decide), e1 172 (by decide)]; exact hco.2.2.2.2.2.2.2.2.1
        have hmo : ∀ v : Int32, ∀ q, ¬ q = s → (zI (zI (zI τ 3 s v) 1 s a2) 2 s (if a2 = -1 then 0 else nI b)).1 1 q = τ.1 1 q ∧ (zI (zI (zI τ 3 s v) 1 s a2) 2 s (if a2 = -1 then 0 else nI b)).1 2 q = τ.1 2 q ∧ (zI (zI (zI τ 3 s v) 1 s a2) 2 s (if a2 = -1 then 0 else nI b)).1 3 q = τ.1 3 q := by
          intro v q hq
          refine ⟨?_, ?_, ?_⟩
          · rw [zI_ne (by decide), zI_o (by omega), zI_ne (by decide)]
          · rw [zI_o (by omega), zI_ne (by decide), zI_ne (by decide)]
          · rw [zI_ne (by decide), zI_ne (by decide), zI_o (by omega)]
        rcases ok_m1 h2 with e | ⟨k, hk, e⟩
        · rw [if_pos e, if_pos e, m55]
          obtain ⟨x1, x5, x6, q1, q2, q3, q4⟩ := c_leave (σ := σ) hs
          rw [q1, zb_s]
          refine ⟨1, _, _, rfl, rfl, fin _ 0 rfl (fun a ha => by rw [zI_ne ha, zI_ne ha, zI_ne ha]) ?_⟩
          refine pCrowd_u hs hcr (by rw [zI_o (by decide), zI_o (by decide), zI_o (by decide)]) ?_ (hmo 0) ?_
          · intro j j1 j2 i hi
            rcases (show j = 1 ∨ j = 5 ∨ j = 6 ∨ j = 2 ∨ j = 3 ∨ j = 4 by omega) with rfl | rfl | rfl | rfl | rfl | rfl
            · rw [zI_o (by decide), zI_o (by decide), zI_s, q2 i, decide_eq_false hi]; simp
            · rw [zI_o (by decide), zI_s, q3 i, decide_eq_false hi]; simp
            · rw [zI_s, q4 i, decide_eq_false hi]; simp
            · rw [zI_o (by decide), zI_o (by decide), zI_o (by decide)]
            · rw [zI_o (by decide), zI_o (by decide), zI_o (by decide)]
            · rw [zI_o (by decide), zI_o (by decide), zI_o (by decide)]
          · refine Or.inl ⟨?_, ?_, ?_, ?_, ?_, ?_⟩
            · rw [zI_ne (by decide), zI_s]; exact e
            · rw [zI_s, if_pos e]
            · rw [zI_ne (by decide), zI_ne (by decide), zI_s]
            · rw [zI_o (by decide), zI_o (by decide), zI_s, q2 s]; simp
            · rw [zI_o (by decide), zI_s, q3 s]; simp
            · rw [zI_s, q4 s]; simp
        · subst e
          rw [if_neg (nm1 k hk), if_neg (nm1 k hk), m_isTaken hM hs, zb_s]
          obtain ⟨x1, x2, x3, x4, q1, q2, q3, q4, q5⟩ := c_sit (σ := σ) (s := s) (k := k) (b := b) hs hk (by omega)
          rw [q1, zb_s]
          have hv : ∀ v, v = τ.1 3 s → ∃ (r : Int32) (σ' τ' : zS), some (1, zI (zI (zI (zI (zI σ 5 1 x1) 5 2 x2) 5 3 x3) 5 4 x4) 0 2 1) = some (r, σ') ∧ some (1, zI (zI (zI τ 3 s v) 1 s (nI k)) 2 s (if nI k = -1 then 0 else nI b)) = some (r, τ') ∧ Rel σ' τ' := by
            intro v hv
            refine ⟨1, _, _, rfl, rfl, fin _ v rfl (fun a ha => by rw [zI_ne ha, zI_ne ha, zI_ne ha, zI_ne ha]) ?_⟩
            refine pCrowd_u hs hcr (by rw [zI_o (by decide), zI_o (by decide), zI_o (by decide), zI_o (by decide)]) ?_ (hmo v) ?_
            · intro j j1 j2 i hi
              rcases (show j = 1 ∨ j = 2 ∨ j = 3 ∨ j = 4 ∨ j = 5 ∨ j = 6 by omega) with rfl | rfl | rfl | rfl | rfl | rfl
              · rw [zI_o (by decide), zI_o (by decide), zI_o (by decide), zI_s, q2 i, decide_eq_false hi]; simp
              · rw [zI_o (by decide), zI_o (by decide), zI_s, q3 i, decide_eq_false hi]; simp
              · rw [zI_o (by decide), zI_s, q4 i, decide_eq_false hi]; simp
              · rw [zI_s, q5 i, decide_eq_false hi]; simp
              · rw [zI_o (by decide), zI_o (by decide), zI_o (by decide), zI_o (by decide)]
              · rw [zI_o (by decide), zI_o (by decide), zI_o (by decide), zI_o (by decide)]
            · refine Or.inr ⟨k, hk, ?_, ?_, ?_, ?_, ?_, ?_⟩
              · rw [zI_ne (by decide), zI_s]
              · rw [zI_o (by decide), zI_o (by decide), zI_o (by decide), zI_s, q2 s]; simp
              · rw [zI_o (by decide), zI_s, q4 s]; simp
              · rw [zI_s, q5 s]; simp
              · rw [zI_s, if_neg (nm1 k hk), zI_o (by decide), zI_o (by decide), zI_s, q3 s]
                rcases (show b = 0 ∨ b = 1 by omega) with rfl | rfl
                · left; exact ⟨rfl, by simp⟩
                · right; exact ⟨rfl, by simp⟩
              · rw [zI_ne (by decide), zI_ne (by decide), zI_s, zI_o (by decide), zI_o (by decide), zI_o (by decide), zI_o (by decide), zI_o (by decide), zI_o (by decide), zI_o (by decide), zI_o (by decide), hv]
                rcases ht0 with ⟨-, -, g1, -, g2, g3⟩ | ⟨k', -, -, -, -, -, -, g⟩
                · exact Or.inl ⟨g1, g2, g3⟩
                · exact g
          by_cases c : τ.1 1 s = -1
          · rw [if_pos c, if_pos rfl, m55]
            exact hv 0 ((core_pa hco hs).2 c).symm
          · rw [if_neg c, if_neg n10, zX_n hs (by omega), cl_n (by omega), m55]
            exact hv _ (by rw [mm6 hM])
      · rw [(c_within a3 0 1 σ).2 h3, zb_s, if_pos rfl, (m_in a3 0 1 τ).2 h3, zb_s, if_pos rfl]
        exact ⟨0, σ, τ, rfl, rfl, h⟩
    · rw [(c_within a2 (-1) 3 σ).2 h2, zb_s, if_pos rfl, (m_in a2 (-1) 3 τ).2 h2, zb_s, if_pos rfl]
      exact ⟨0, σ, τ, rfl, rfl, h⟩
  · rw [(c_isSeat a1 σ).2 h1, zb_s, if_pos rfl, (m_isSeat a1 τ).2 h1, zb_s, if_pos rfl]
    exact ⟨0, σ, τ, rfl, rfl, h⟩
theorem o_paid (σ τ : zS) (h : Rel σ τ) (a1 a2 : Int32) : ∃ (r : Int32) (σ' τ' : zS), fX6_paid 0 a1 a2 σ = some (r, σ') ∧ fX7_paid 0 a1 a2 τ = some (r, τ') ∧ Rel σ' τ' := by
  obtain ⟨hco, hca, hfr⟩ := id h
  obtain ⟨hR, -, hM, hcr, -⟩ := id hco
  unfold fX6_paid fX7_paid
  rcases ok_dec a1 0 23 with h1 | h1
  · rw [(c_isSeat a1 σ).1 h1, zb_s, if_neg n10, (m_isSeat a1 τ).1 h1, zb_s, if_neg n10, bnd_e, cr_ hR 0 0 1 rfl (by decide), bnd_e, cr_ hR 1 0 5 rfl (by decide)]
    obtain ⟨s, -, s2, rfl⟩ := ok_n (a := 0) (n := 23) (by omega) (by omega) h1
    have hs : s < 24 := by omega
    rw [c_has hcr hs, zb_s, m_isTaken hM hs, zb_s]
    by_cases c : τ.1 1 s = -1
    · rw [if_pos c, if_pos rfl, if_pos rfl]
      exact ⟨0, σ, τ, rfl, rfl, h⟩
    · rw [if_neg c, if_neg n10, if_neg n10]
      rcases ok_dec a2 0 2 with h2 | h2
      · rw [(c_within a2 0 2 σ).1 h2, zb_s, if_neg n10, (m_in a2 0 2 τ).1 h2, zb_s, if_neg n10]
        simp only [bnd_e, mm6 hM, cr_ hR 0 0 1 rfl (by decide), cr_ hR 1 0 5 rfl (by decide)]
        rw [zX_n hs (by omega), cl_n (by omega)]
        obtain ⟨k, -, k2, rfl⟩ := ok_n (a := 0) (n := 2) (by omega) (by omega) h2
        obtain ⟨x, y, q1, q2, q3⟩ := c_hire (σ := σ) (s := s) (k := k) hs (by omega)
        rw [q1, zb_s]
        refine ⟨1, _, _, rfl, rfl, Rel_st (core_x hco rfl (fun a q1 q2 => by rw [zI_ne (by omega), zI_ne (by omega), zI_ne (by omega)]) rfl rfl (fun a q => by rw [zI_ne (by omega)]) rfl ?_ hco.2.2.2.2.1 hco.2.2.2.2.2.1 hco.2.2.2.2.2.2.1 hco.2.2.2.2.2.2.2.1 hco.2.2.2.2.2.2.2.2.1) (cCa_e hca rfl rfl) rfl⟩
        rw [zI_ne (by decide)]
        refine pCrowd_u hs hcr (by rw [zI_o (by decide), zI_o (by decide)]) ?_ (fun q hq => ⟨rfl, rfl, by rw [zI_o (by omega)]⟩) ?_
        · intro j j1 j2 i hi
          rcases (show j = 5 ∨ j = 6 ∨ j = 1 ∨ j = 2 ∨ j = 3 ∨ j = 4 by omega) with rfl | rfl | rfl | rfl | rfl | rfl
          · rw [zI_o (by decide), zI_s, q2 i, decide_eq_false hi]; simp
          · rw [zI_s, q3 i, decide_eq_false hi]; simp
          all_goals rw [zI_o (by decide), zI_o (by decide)]
        · rw [zI_s]
          rcases hcr.2.2 s hs with ⟨g, -⟩ | ⟨m, hm, g1, g2, g3, g4, g5, -⟩
          · exact absurd g c
          · refine Or.inr ⟨m, hm, g1, g2, g3, g4, g5, ?_⟩
            rw [zI_o (by decide), zI_s, zI_s, q2 s, q3 s]
            rcases (show k = 0 ∨ k = 1 ∨ k = 2 by omega) with rfl | rfl | rfl
            · left; exact ⟨rfl, by simp, by simp⟩
            · right; left; exact ⟨rfl, by simp, by simp⟩
            · right; right; exact ⟨rfl, by simp, by simp⟩
      · rw [(c_within a2 0 2 σ).2 h2, zb_s, if_pos rfl, (m_in a2 0 2 τ).2 h2, zb_s, if_pos rfl]
        exact ⟨0, σ, τ, rfl, rfl, h⟩
  · rw [(c_isSeat a1 σ).2 h1, zb_s, if_pos rfl, (m_isSeat a1 τ).2 h1, zb_s, if_pos rfl]
    exact ⟨0, σ, τ, rfl, rfl, h⟩
theorem o_seconds (σ τ : zS) (h : Rel σ τ) (a1 : Int32) : ∃ (r : Int32) (σ' τ' : zS), fX6_seconds 0 a1 σ = some (r, σ') ∧ fX7_seconds 0 a1 τ = some (r, τ') ∧ Rel σ' τ' := by
  obtain ⟨hco, hca, hfr⟩ := id h
  obtain ⟨hR, -, hM, hcr, hbi, -⟩ := id hco
  unfold fX6_seconds fX7_seconds
  rcases ok_dec a1 1 40 with h1 | h1
  · rw [(c_within a1 1 40 σ).1 h1, zb_s, if_neg n10, (m_in a1 1 40 τ).1 h1, zb_s, if_neg n10, bnd_e, bnd_e, cr_ hR 0 0 1 rfl (by decide), bnd_e, cr_ hR 1 1 2 rfl (by decide), bnd_e, bnd_e]
    obtain ⟨k, k1, k2, rfl⟩ := ok_n (a := 1) (n := 40) (by omega) (by omega) h1
    exact ⟨1, _, _, rfl, rfl, Rel_st (core_x hco rfl (fun a q1 q2 => by rw [zI_ne (by omega), zI_ne (by omega)]) rfl rfl (fun a q => by rw [zI_ne (by omega)]) rfl hcr ⟨⟨k, k1, k2, rfl, rfl⟩, hbi.2⟩ hco.2.2.2.2.2.1 hco.2.2.2.2.2.2.1 hco.2.2.2.2.2.2.2.1 hco.2.2.2.2.2.2.2.2.1) (cCa_e hca rfl rfl) rfl⟩
  · rw [(c_within a1 1 40 σ).2 h1, zb_s, if_pos rfl, (m_in a1 1 40 τ).2 h1, zb_s, if_pos rfl]
    exact ⟨0, σ, τ, rfl, rfl, h⟩
theorem o_good (σ τ : zS) (h : Rel σ τ) (a1 a2 a3 : Int32) : ∃ (r : Int32) (σ' τ' : zS), fX6_good 0 a1 a2 a3 σ = some (r, σ') ∧ fX7_good 0 a1 a2 a3 τ = some (r, τ') ∧ Rel σ' τ' := by
  obtain ⟨hco, hca, hfr⟩ := id h
  obtain ⟨hR, -, hM, hcr, hbi, -⟩ := id hco
  unfold fX6_good fX7_good
  rcases ok_dec a1 0 39 with h1 | h1
  · rw [(c_within a1 0 39 σ).1 h1, zb_s, if_neg n10, (m_isSecond a1 τ).1 h1, zb_s, if_neg n10]
    rcases ok_dec a2 0 100 with h2 | h2
    · rw [(c_within a2 0 100 σ).1 h2, zb_s, if_neg n10, (m_in a2 0 100 τ).1 h2, zb_s, if_neg n10]
      rcases ok_dec a3 0 100 with h3 | h3
      · rw [(c_within a3 0 100 σ).1 h3, zb_s, if_neg n10, (m_in a3 0 100 τ).1 h3, zb_s, if_neg n10]
        obtain ⟨t, -, t2, rfl⟩ := ok_n (a := 0) (n := 39) (by omega) (by omega) h1
        simp only [bnd_e, zI_2, mm7 hM, mm8 hM, cr_ hR 0 0 1 rfl (by decide), cr_ hR 1 1 2 rfl (by decide), cr_ hR 2 1 3 rfl (by decide), cr_ hR 2 2 4 rfl (by decide)]
        rw [zX_n (n := 40) (by omega) (by omega), zX_n (n := 40) (by omega) (by omega), zX_n (n := 40) (by omega) (by omega), zX_n (n := 40) (by omega) (by omega), cl_n (by omega)]
        refine ⟨1, _, _, rfl, rfl, Rel_st (core_x hco rfl (fun a q1 q2 => by rw [zI_ne (by omega), zI_ne (by omega), zI_ne (by omega)]) rfl rfl (fun a q => by rw [zI_ne (by omega), zI_ne (by omega)]) rfl hcr ⟨hbi.1, fun t' ht' => ?_⟩ hco.2.2.2.2.2.1 hco.2.2.2.2.2.2.1 hco.2.2.2.2.2.2.2.1 hco.2.2.2.2.2.2.2.2.1) (cCa_e hca rfl rfl) rfl⟩
        have e3 : (zI (zI (zI σ 3 t a2) 4 t a3) 0 2 1).1 3 = (zI σ 3 t a2).1 3 := by rw [zI_ne (by decide), zI_ne (by decide)]
        have e4 : (zI (zI (zI σ 3 t a2) 4 t a3) 0 2 1).1 4 t' = if t' = t then a3 else σ.1 4 t' := by
          rw [zI_ne (by decide)]
          by_cases e : t' = t
          · rw [e, zI_s, if_pos rfl]
          · rw [zI_o (by omega), if_neg e, zI_ne (by decide)]
        have e5 : (zI (zI τ 4 t a2) 5 t a3).1 4 = (zI τ 4 t a2).1 4 := by rw [zI_ne (by decide)]
        have e6 : (zI (zI τ 4 t a2) 5 t a3).1 5 t' = if t' = t then a3 else τ.1 5 t' := by
          by_cases e : t' = t
          · rw [e, zI_s, if_pos rfl]
          · rw [zI_o (by omega), if_neg e, zI_ne (by decide)]
        rw [e3, e4, e5, e6]
        by_cases e : t' = t
        · rw [if_pos e, if_pos e, e, zI_s, zI_s]; exact ⟨rfl, rfl⟩
        · rw [if_neg e, if_neg e, zI_o (by omega), zI_o (by omega)]; exact hbi.2 t' ht'
      · rw [(c_within a3 0 100 σ).2 h3, zb_s, if_pos rfl, (m_in a3 0 100 τ).2 h3, zb_s, if_pos rfl]
        exact ⟨0, σ, τ, rfl, rfl, h⟩
    · rw [(c_within a2 0 100 σ).2 h2, zb_s, if_pos rfl, (m_in a2 0 100 τ).2 h2, zb_s, if_pos rfl]
      exact ⟨0, σ, τ, rfl, rfl, h⟩
  · rw [(c_within a1 0 39 σ).2 h1, zb_s, if_pos rfl, (m_isSecond a1 τ).2 h1, zb_s, if_pos rfl]
    exact ⟨0, σ, τ, rfl, rfl, h⟩
