theorem o_plan (σ τ : zS) (h : Rel σ τ) (a1 a2 a3 : Int32) : ∃ (r : Int32) (σ' τ' : zS), fX6_plan 0 a1 a2 a3 σ = some (r, σ') ∧ fX7_plan 0 a1 a2 a3 τ = some (r, τ') ∧ Rel σ' τ' := by
  obtain ⟨hco, hca, hfr⟩ := id h
  obtain ⟨hR, -, hM, hcr, hbi, hpl, -⟩ := id hco
  unfold fX6_plan fX7_plan
  rcases ok_dec a1 1 2 with h1 | h1
  · rw [(c_isStick a1 σ).1 h1, zb_s, if_neg n10, (m_isStick a1 τ).1 h1, zb_s, if_neg n10]
    rcases ok_dec a2 0 39 with h2 | h2
    · rw [(c_within a2 0 39 σ).1 h2, zb_s, if_neg n10, (m_isSecond a2 τ).1 h2, zb_s, if_neg n10]
      rcases ok_dec a3 0 2 with h3 | h3
      · rw [(c_within a3 0 2 σ).1 h3, zb_s, if_neg n10, (m_in a3 0 2 τ).1 h3, zb_s, if_neg n10]
        obtain ⟨t, -, t2, rfl⟩ := ok_n (a := 0) (n := 39) (by omega) (by omega) h2
        obtain ⟨k, k1, k2, rfl⟩ := ok_n (a := 1) (n := 2) (by omega) (by omega) h1
        have hx : (40 : Int32) * nI k + nI t = nI (40 * k + t) := by
          show nI 40 * nI k + nI t = _
          rw [pk_mul, nI_add]
        have ha3 : a3 = 0 ∨ a3 = 1 ∨ a3 = 2 := by
          obtain ⟨m, -, m2, rfl⟩ := ok_n (a := 0) (n := 2) (by omega) (by omega) h3
          rcases (show m = 0 ∨ m = 1 ∨ m = 2 by omega) with rfl | rfl | rfl
          · exact Or.inl rfl
          · exact Or.inr (Or.inl rfl)
          · exact Or.inr (Or.inr rfl)
        simp only [bnd_e, mm9 hM]
        rw [hx, zX_n (by omega) (by omega), cl_n (i := 40 * k + t) (by omega)]
        unfold fX6_planOf
        simp only [bnd_e, cr_ hR 0 11 169 rfl (by decide), cr_ hR 0 12 170 rfl (by decide)]
        rcases (show k = 1 ∨ k = 2 by omega) with rfl | rfl
        · rw [if_pos (by decide), zb_s, zX_n (by omega) (by omega), cl_n (by omega)]
          refine ⟨1, _, _, rfl, rfl, Rel_st (core_x hco rfl (fun a q1 q2 => by rw [zI_ne (by omega), zI_ne (by omega)]) rfl rfl (fun a q => by rw [zI_ne (by omega)]) rfl hcr hbi (fun t' ht' => ?_) hco.2.2.2.2.2.2.1 hco.2.2.2.2.2.2.2.1 hco.2.2.2.2.2.2.2.2.1) (cCa_e hca rfl rfl) rfl⟩
          obtain ⟨p1, p2, p3, p4⟩ := hpl t' ht'
          have e1 : (zI (zI σ 169 t a3) 0 2 1).1 169 t' = if t' = t then a3 else σ.1 169 t' := by
            rw [zI_ne (by decide)]
            by_cases e : t' = t
            · rw [e, zI_s, if_pos rfl]
            · rw [zI_o (by omega), if_neg e]
          have e2 : (zI (zI σ 169 t a3) 0 2 1).1 170 t' = σ.1 170 t' := rfl
          have e3 : (zI τ 6 (40 * 1 + t) a3).1 6 (40 + t') = if t' = t then a3 else τ.1 6 (40 + t') := by
            by_cases e : t' = t
            · rw [e, show 40 * 1 + t = 40 + t by omega, zI_s, if_pos rfl]
            · rw [zI_o (by omega), if_neg e]
          have e4 : (zI τ 6 (40 * 1 + t) a3).1 6 (80 + t') = τ.1 6 (80 + t') := by rw [zI_o (by omega)]
          rw [e1, e2, e3, e4]
          by_cases e : t' = t
          · rw [if_pos e, if_pos e]; exact ⟨rfl, p2, ha3, p4⟩
          · rw [if_neg e, if_neg e]; exact ⟨p1, p2, p3, p4⟩
        · rw [if_neg (by decide), zb_s, zX_n (by omega) (by omega), cl_n (by omega)]
          refine ⟨1, _, _, rfl, rfl, Rel_st (core_x hco rfl (fun a q1 q2 => by rw [zI_ne (by omega), zI_ne (by omega)]) rfl rfl (fun a q => by rw [zI_ne (by omega)]) rfl hcr hbi (fun t' ht' => ?_) hco.2.2.2.2.2.2.1 hco.2.2.2.2.2.2.2.1 hco.2.2.2.2.2.2.2.2.1) (cCa_e hca rfl rfl) rfl⟩
          obtain ⟨p1, p2, p3, p4⟩ := hpl t' ht'
          have e1 : (zI (zI σ 170 t a3) 0 2 1).1 170 t' = if t' = t then a3 else σ.1 170 t' := by
            rw [zI_ne (by decide)]
            by_cases e : t' = t
            · rw [e, zI_s, if_pos rfl]
            · rw [zI_o (by omega), if_neg e]
          have e2 : (zI (zI σ 170 t a3) 0 2 1).1 169 t' = σ.1 169 t' := rfl
          have e3 : (zI τ 6 (40 * 2 + t) a3).1 6 (80 + t') = if t' = t then a3 else τ.1 6 (80 + t') := by
            by_cases e : t' = t
            · rw [e, show 40 * 2 + t = 80 + t by omega, zI_s, if_pos rfl]
            · rw [zI_o (by omega), if_neg e]
          have e4 : (zI τ 6 (40 * 2 + t) a3).1 6 (40 + t') = τ.1 6 (40 + t') := by rw [zI_o (by omega)]
          rw [e1, e2, e3, e4]
          by_cases e : t' = t
          · rw [if_pos e, if_pos e]; exact ⟨p1, rfl, p3, ha3⟩
          · rw [if_neg e, if_neg e]; exact ⟨p1, p2, p3, p4⟩
      · rw [(c_within a3 0 2 σ).2 h3, zb_s, if_pos rfl, (m_in a3 0 2 τ).2 h3, zb_s, if_pos rfl]
        exact ⟨0, σ, τ, rfl, rfl, h⟩
    · rw [(c_within a2 0 39 σ).2 h2, zb_s, if_pos rfl, (m_isSecond a2 τ).2 h2, zb_s, if_pos rfl]
      exact ⟨0, σ, τ, rfl, rfl, h⟩
  · rw [(c_isStick a1 σ).2 h1, zb_s, if_pos rfl, (m_isStick a1 τ).2 h1, zb_s, if_pos rfl]
    exact ⟨0, σ, τ, rfl, rfl, h⟩
theorem o_prices (σ τ : zS) (h : Rel σ τ) (a1 a2 : Int32) : ∃ (r : Int32) (σ' τ' : zS), fX6_prices 0 a1 a2 σ = some (r, σ') ∧ fX7_prices 0 a1 a2 τ = some (r, τ') ∧ Rel σ' τ' := by
  obtain ⟨hco, hca, hfr⟩ := id h
  by_cases h1 : ok a1 0 100 ∧ ok a2 0 100
  · refine ⟨1, _, _, (c_prices a1 a2 σ).1 h1, (m_prices a1 a2 τ).1 h1, core_x hco rfl (fun a q1 q2 => by rw [zI_ne (by omega), zI_ne (by omega)]) rfl rfl (fun a q => by rw [zI_ne (by omega), zI_ne (by omega)]) rfl hco.2.2.2.1 hco.2.2.2.2.1 hco.2.2.2.2.2.1 ⟨rfl, rfl⟩ hco.2.2.2.2.2.2.2.1 hco.2.2.2.2.2.2.2.2.1, cCa_e hca rfl rfl, ?_⟩
    exact hfr
  · exact ⟨0, σ, τ, (c_prices a1 a2 σ).2 h1, (m_prices a1 a2 τ).2 h1, h⟩
theorem o_table (σ τ : zS) (h : Rel σ τ) (a1 a2 a3 a4 : Int32) : ∃ (r : Int32) (σ' τ' : zS), fX6_table 0 a1 a2 a3 a4 σ = some (r, σ') ∧ fX7_table 0 a1 a2 a3 a4 τ = some (r, τ') ∧ Rel σ' τ' := by
  obtain ⟨hco, hca, hfr⟩ := id h
  obtain ⟨hR, -, hM, hcr, hbi, hpl, -, -, hsm, -⟩ := id hco
  unfold fX6_table fX7_table
  rcases ok_dec a1 0 1 with h1 | h1
  · rw [(c_within a1 0 1 σ).1 h1, zb_s, if_neg n10, (m_in a1 0 1 τ).1 h1, zb_s, if_neg n10]
    rcases ok_dec a2 0 4 with h2 | h2
    · rw [(c_within a2 0 4 σ).1 h2, zb_s, if_neg n10, (m_in a2 0 4 τ).1 h2, zb_s, if_neg n10]
      rcases ok_dec a3 0 4 with h3 | h3
      · rw [(c_within a3 0 4 σ).1 h3, zb_s, if_neg n10, (m_in a3 0 4 τ).1 h3, zb_s, if_neg n10]
        rcases ok_dec a4 (-1000) 1000 with h4 | h4
        · rw [(c_within a4 (-1000) 1000 σ).1 h4, zb_s, if_neg n10, (m_in a4 (-1000) 1000 τ).1 h4, zb_s, if_neg n10]
          obtain ⟨k, -, k2, rfl⟩ := ok_n (a := 0) (n := 1) (by omega) (by omega) h1
          obtain ⟨a, -, a2', rfl⟩ := ok_n (a := 0) (n := 4) (by omega) (by omega) h2
          obtain ⟨b, -, b2', rfl⟩ := ok_n (a := 0) (n := 4) (by omega) (by omega) h3
          have hx : ((25 : Int32) * nI k + (5 : Int32) * nI a) + nI b = nI (25 * k + 5 * a + b) := by
            show (nI 25 * nI k + nI 5 * nI a) + nI b = _
            rw [pk_mul, pk_mul, nI_add, nI_add]
          have hy : (5 : Int32) * nI a + nI b = nI (5 * a + b) := by
            show nI 5 * nI a + nI b = _
            rw [pk_mul, nI_add]
          unfold bX6_table_58
          simp only [bnd_e, mm38 hM, cr_ hR 0 15 171 rfl (by decide), cr_ hR 0 16 172 rfl (by decide)]
          rw [hx, hy, zX_n (n := 50) (by omega) (by omega), zX_n (n := 25) (by omega) (by omega), zX_n (n := 25) (by omega) (by omega), cl_n (i := 25 * k + 5 * a + b) (by omega), cl_n (i := 5 * a + b) (by omega)]
          rcases (show k = 0 ∨ k = 1 by omega) with rfl | rfl
          · rw [if_pos (by decide)]
            refine ⟨1, _, _, rfl, rfl, core_x hco rfl (fun a q1 q2 => by rw [zI_ne (by omega)]) rfl rfl (fun a q => by rw [zI_ne (by omega)]) rfl hcr hbi hpl hco.2.2.2.2.2.2.1 hco.2.2.2.2.2.2.2.1 (fun i hi => ?_), cCa_e hca rfl rfl, hfr⟩
            have e1 : (zI σ 171 (5 * a + b) a4).1 172 i = σ.1 172 i := rfl
            rw [e1]
            by_cases e : i = 5 * a + b
            · rw [e, zI_s, show 25 * 0 + 5 * a + b = 5 * a + b by omega, zI_s, zI_o (by omega)]
              exact ⟨rfl, (hsm _ (by omega)).2⟩
            · rw [zI_o (by omega), zI_o (by omega), zI_o (by omega)]
              exact hsm i hi
          · rw [if_neg (by decide)]
            refine ⟨1, _, _, rfl, rfl, core_x hco rfl (fun a q1 q2 => by rw [zI_ne (by omega)]) rfl rfl (fun a q => by rw [zI_ne (by omega)]) rfl hcr hbi hpl hco.2.2.2.2.2.2.1 hco.2.2.2.2.2.2.2.1 (fun i hi => ?_), cCa_e hca rfl rfl, hfr⟩
            have e1 : (zI σ 172 (5 * a + b) a4).1 171 i = σ.1 171 i := rfl
            rw [e1]
            by_cases e : i = 5 * a + b
            · rw [e, zI_s, show 25 * 1 + 5 * a + b = 25 + (5 * a + b) by omega, zI_s, zI_o (by omega)]
              exact ⟨(hsm _ (by omega)).1, rfl⟩
            · rw [zI_o (by omega), zI_o (by omega), zI_o (by omega)]
              exact hsm i hi
        · rw [(c_within a4 (-1000) 1000 σ).2 h4, zb_s, if_pos rfl, (m_in a4 (-1000) 1000 τ).2 h4, zb_s, if_pos rfl]
          exact ⟨0, σ, τ, rfl, rfl, h⟩
      · rw [(c_within a3 0 4 σ).2 h3, zb_s, if_pos rfl, (m_in a3 0 4 τ).2 h3, zb_s, if_pos rfl]
        exact ⟨0, σ, τ, rfl, rfl, h⟩
    · rw [(c_within a2 0 4 σ).2 h2, zb_s, if_pos rfl, (m_in a2 0 4 τ).2 h2, zb_s, if_pos rfl]
      exact ⟨0, σ, τ, rfl, rfl, h⟩
  · rw [(c_within a1 0 1 σ).2 h1, zb_s, if_pos rfl, (m_in a1 0 1 τ).2 h1, zb_s, if_pos rfl]
    exact ⟨0, σ, τ, rfl, rfl, h⟩
/-! feed -/
def fdS (σ τ σ' τ' : zS) (m : Nat) : Prop := σ'.1 0 10 = nI m ∧ τ'.1 0 11 = nI m ∧ (∀ i, i < 500 → σ'.1 167 i = τ'.1 7 i) ∧ (∀ a, ¬ a = 0 → ¬ a = 167 → σ'.1 a = σ.1 a) ∧ (∀ b, ¬ b = 10 → σ'.1 0 b = σ.1 0 b) ∧ σ'.2 = σ.2 ∧ (∀ a, ¬ a = 0 → ¬ a = 7 → τ'.1 a = τ.1 a) ∧ (∀ b, ¬ b = 11 → τ'.1 0 b = τ.1 0 b) ∧ τ'.2 = τ.2
theorem fd_1 {σ τ σ' τ' : zS} {m : Nat} (hR : cR σ.2) (hM : mR τ.2) (h : fdS σ τ σ' τ' m) (hm : m < 500) (n n2 : Nat) (v s s2 : Int32) (hs : ¬ s < 0) (hs2 : ¬ s2 < 0) (hss : (8 : Int32) * s2 = s) : ∃ σ2 τ2, fX6_append_3 (n + 1) 0 v s σ' = fX6_append_3 n 0 v (s + (-8)) σ2 ∧ fX7_types_2 (n2 + 1) 0 v s2 τ' = fX7_types_2 n2 0 v (s2 + (-1)) τ2 ∧ fdS σ τ σ2 τ2 (m + 1) := by
  obtain ⟨h1, h2, h3, h4, h5, h6, h7, h8, h9⟩ := h
  refine ⟨zI (zI σ' 167 m (((v >>> (s &&& 31)).toInt8.toInt32).toInt8.toInt32)) 0 10 (nI (m + 1)), zI (zI τ' 7 m (((v >>> (s &&& 31)).toInt8.toInt32).toInt8.toInt32)) 0 11 (nI (m + 1)), ?_, ?_, ?_⟩
  · show bX6_append_3 (fX6_append_3 n) 0 v s σ' = _
    unfold bX6_append_3
    have hR' : cR σ'.2 := by rw [h6]; exact hR
    rw [if_neg hs, h1, if_neg (nI_pos (by omega)), bnd_e, if_neg (geL 500 (500 : Int32) rfl hm (by omega)), bnd_e, cr_ hR' 0 9 167 rfl (by decide), zX_n hm (by omega), bnd_e, cl_n (by omega), bnd_e, zI_ne (by decide), h1, nI_1]
  · show bX7_types_2 (fX7_types_2 n2) 0 v s2 τ' = _
    unfold bX7_types_2
    have hM' : mR τ'.2 := by rw [h9]; exact hM
    rw [if_neg hs2, bnd_e, mm10 hM', h2, zX_n hm (by omega), bnd_e, cl_n (by omega), hss, bnd_e, zI_ne (by decide), h2, nI_1]
  · refine ⟨zI_s, zI_s, fun i hi => ?_, fun a q1 q2 => by rw [zI_ne q1, zI_ne q2]; exact h4 a q1 q2, fun b hb => by rw [zI_o (fun q => hb q.2), zI_ne (by decide)]; exact h5 b hb, h6, fun a q1 q2 => by rw [zI_ne q1, zI_ne q2]; exact h7 a q1 q2, fun b hb => by rw [zI_o (fun q => hb q.2), zI_ne (by decide)]; exact h8 b hb, h9⟩
    show (zI σ' 167 m _).1 167 i = (zI τ' 7 m _).1 7 i
    by_cases e : i = m
    · rw [e, zI_s, zI_s]
    · rw [zI_o (by omega), zI_o (by omega)]; exact h3 i hi
theorem fd_4 {σ τ σ' τ' : zS} {m : Nat} (hR : cR σ.2) (hM : mR τ.2) (h : fdS σ τ σ' τ' m) (hm : m + 4 ≤ 500) (v : Int32) : ∃ σ2 τ2, fX6_append 0 v σ' = some ((), σ2) ∧ fX7_types 0 v τ' = some ((), τ2) ∧ fdS σ τ σ2 τ2 (m + 4) := by
  obtain ⟨s1, t1, a1, b1, c1⟩ := fd_1 hR hM h (by omega) 4999 4999 v 24 3 (by decide) (by decide) (by decide)
  obtain ⟨s2, t2, a2, b2, c2⟩ := fd_1 hR hM c1 (by omega) 4998 4998 v (24 + (-8)) (3 + (-1)) (by decide) (by decide) (by decide)
  obtain ⟨s3, t3, a3, b3, c3⟩ := fd_1 hR hM c2 (by omega) 4997 4997 v (24 + (-8) + (-8)) (3 + (-1) + (-1)) (by decide) (by decide) (by decide)
  obtain ⟨s4, t4, a4, b4, c4⟩ := fd_1 hR hM c3 (by omega) 4996 4996 v (24 + (-8) + (-8) + (-8)) (3 + (-1) + (-1) + (-1)) (by decide) (by decide) (by decide)
  refine ⟨s4, t4, ?_, ?_, c4⟩
  · unfold fX6_append
    rw [show zFU = 4999 + 1 from rfl, a1, a2, a3, a4]
    show bX6_append_3 (fX6_append_3 4995) 0 v _ s4 = _
    unfold bX6_append_3
    rw [if_pos (by decide)]
  · unfold fX7_types
    rw [show zFU = 4999 + 1 from rfl, b1, b2, b3, b4]
    show bX7_types_2 (fX7_types_2 4995) 0 v _ t4 = _
    unfold bX7_types_2
    rw [if_pos (by decide)]
theorem o_feed (σ τ : zS) (h : Rel σ τ) (a1 a2 a3 a4 a5 : Int32) : ∃ (r : Int32) (σ' τ' : zS), fX6_feed 0 a1 a2 a3 a4 a5 σ = some (r, σ') ∧ fX7_feed 0 a1 a2 a3 a4 a5 τ = some (r, τ') ∧ Rel σ' τ' := by
  obtain ⟨hco, hca, hfr⟩ := id h
  obtain ⟨hR, -, hM, hcr, hbi, hpl, -, ⟨⟨k, k1, k2, k3⟩, htp⟩, hsm, -⟩ := id hco
  unfold fX6_feed fX7_feed
  rw [k2, k3]
  have hx : nI (20 * k) + (20 : Int32) = nI (20 * k + 20) := nI_add (20 * k) 20
  rw [hx]
  by_cases hk : k = 25
  · rw [if_neg (by rw [hk]; decide), if_neg (by rw [hk]; decide)]
    exact ⟨-1, σ, τ, rfl, rfl, h⟩
  · have hk : k ≤ 24 := by omega
    rw [if_pos (show nI (20 * k) ≤ (480 : Int32) from nI_le (b := 480) (by omega) (by omega)), if_pos (show nI (20 * k + 20) ≤ (500 : Int32) from nI_le (b := 500) (by omega) (by omega))]
    have h0 : fdS σ τ σ τ (20 * k) := ⟨k2, k3, htp, fun _ _ _ => rfl, fun _ _ => rfl, rfl, fun _ _ _ => rfl, fun _ _ => rfl, rfl⟩
    obtain ⟨s1, t1, x1, y1, z1⟩ := fd_4 hR hM h0 (by omega) a1
    obtain ⟨s2, t2, x2, y2, z2⟩ := fd_4 hR hM z1 (by omega) a2
    obtain ⟨s3, t3, x3, y3, z3⟩ := fd_4 hR hM z2 (by omega) a3
    obtain ⟨s4, t4, x4, y4, z4⟩ := fd_4 hR hM z3 (by omega) a4
    obtain ⟨s5, t5, x5, y5, z5⟩ := fd_4 hR hM z4 (by omega) a5
    rw [x1, zb_s, x2, zb_s, x3, zb_s, x4, zb_s, x5, zb_s, y1, zb_s, y2, zb_s, y3, zb_s, y4, zb_s, y5, zb_s]
    obtain ⟨q1, q2, q3, q4, q5, q6, q7, q8, q9⟩ := z5
    refine ⟨nI (20 * k + 4 + 4 + 4 + 4 + 4), s5, t5, by rw [q1], by rw [q2], core_x hco q6 (fun a w1 w2 => q4 a (by omega) (by omega)) (q5 4 (by decide)) q9 (fun a w => q7 a (by omega) (by omega)) (q8 39 (by decide)) ?_ ?_ ?_ ?_ ?_ ?_, cCa_e hca (q4 153 (by decide) (by decide)) (q4 155 (by decide) (by decide)), ?_⟩
    · rw [q4 5 (by decide) (by decide), q8 0 (by decide), q7 1 (by decide) (by decide), q7 2 (by decide) (by decide), q7 3 (by decide) (by decide)]; exact hcr
    · rw [q4 2 (by decide) (by decide), q4 3 (by decide) (by decide), q4 4 (by decide) (by decide), q8 1 (by decide), q7 4 (by decide) (by decide), q7 5 (by decide) (by decide)]; exact hbi
    · rw [q4 169 (by decide) (by decide), q4 170 (by decide) (by decide), q7 6 (by decide) (by decide)]; exact hpl
    · rw [q5 13 (by decide), q5 14 (by decide), q8 2 (by decide), q8 3 (by decide)]; exact hco.2.2.2.2.2.2.1
    · refine ⟨⟨k + 1, by omega, ?_, ?_⟩, q3⟩
      · rw [q1]; congr 1
      · rw [q2]; congr 1
    · rw [q4 171 (by decide) (by decide), q4 172 (by decide) (by decide), q7 22 (by decide) (by decide)]; exact hsm
    · unfold fresh mE mLw at *
      rw [q5 2 (by decide), q4 6 (by decide) (by decide), q4 7 (by decide) (by decide), q4 1 (by decide) (by decide), q8 0 (by decide), q8 1 (by decide), q7 1 (by decide) (by decide), q7 2 (by decide) (by decide), q7 3 (by decide) (by decide), q7 4 (by decide) (by decide), q7 5 (by decide) (by decide), q7 6 (by decide) (by decide), q7 13 (by decide) (by decide), q7 14 (by decide) (by decide), q7 15 (by decide) (by decide), q7 16 (by decide) (by decide), q7 17 (by decide) (by decide)]
      exact hfr
