section
/-- both read the text from its first sign on -/
theorem both_read {σ τ : zS} {n L q : Nat} (h0 : C0 (zI (zR σ 168 1 L) 168 2 (nI n)) n L q) (hm : mR τ.2) (hn1 : 1 ≤ n) (hT : ∀ i, i < 500 → σ.1 167 i = τ.1 7 i) (v1 : Int32) :
    ((∃ σ' τ' p' c' F' cd' lt', fX5_allClauses 168 (mkC (zI (zI (zR σ 168 1 L) 168 2 (nI n)) L 2 (nI 0)) L q (nI 0) (nI 0) 0 (nI 0) (σ.1 q)) = some (1, σ') ∧ (zb (fX7_readsClause 0 (mkM (zI (zI τ 0 13 (nI n)) 0 18 (nI 0)) (nI 0) (τ.1 0 14) (τ.1 0 15) (nI 0) (τ.1 0 17) (τ.1 0 19) (τ.1 8) (τ.1 9))) (fun r49 σ48 => fX7_law_54 zFU 0 v1 r49 σ48)) = bX7_law_94 0 v1 1 τ' ∧ CPL (zI (zR σ 168 1 L) 168 2 (nI n)) (zI τ 0 13 (nI n)) n L q σ' τ' p' c' F' cd' lt' ∧ 1 ≤ c') ∨ (∃ σ' τ' e, fX5_allClauses 168 (mkC (zI (zI (zR σ 168 1 L) 168 2 (nI n)) L 2 (nI 0)) L q (nI 0) (nI 0) 0 (nI 0) (σ.1 q)) = some (0, σ') ∧ (zb (fX7_readsClause 0 (mkM (zI (zI τ 0 13 (nI n)) 0 18 (nI 0)) (nI 0) (τ.1 0 14) (τ.1 0 15) (nI 0) (τ.1 0 17) (τ.1 0 19) (τ.1 8) (τ.1 9))) (fun r49 σ48 => fX7_law_54 zFU 0 v1 r49 σ48)) = bX7_law_94 0 v1 0 τ' ∧ CFx (zI (zR σ 168 1 L) 168 2 (nI n)) L q σ' e ∧ MFx (zI τ 0 13 (nI n)) τ' e)) := by
  have hn := h0.1.2.2.2.2
  have m0 : M0 (zI τ 0 13 (nI n)) n := ⟨hm, hn, zI_s⟩
  have hT2 : sgn ((zI (zR σ 168 1 L) 168 2 (nI n)).1 167) n = sgn ((zI τ 0 13 (nI n)).1 7) n := by
    funext p
    unfold sgn
    by_cases e : p < n
    · rw [if_pos e, if_pos e, zI_ne (by omega), zI_ne (by omega), ← hT p (by omega)]
      rfl
    · rw [if_neg e, if_neg e]
  have hst : CPL (zI (zR σ 168 1 L) 168 2 (nI n)) (zI τ 0 13 (nI n)) n L q (mkC (zI (zI (zR σ 168 1 L) 168 2 (nI n)) L 2 (nI 0)) L q (nI 0) (nI 0) 0 (nI 0) (σ.1 q)) (mkM (zI (zI τ 0 13 (nI n)) 0 18 (nI 0)) (nI 0) (τ.1 0 14) (τ.1 0 15) (nI 0) (τ.1 0 17) (τ.1 0 19) (τ.1 8) (τ.1 9)) 0 0 (fun _ => 0) (fun _ => 0) (fun _ => 0) := by
    refine ⟨⟨0, σ.1 q, rfl, fun j hj => absurd hj (Nat.not_lt_zero _)⟩, ⟨_, _, _, _, _, _, _, rfl, fun i hi => absurd hi (Nat.not_lt_zero _), rfl, fun a a0 _ _ _ => zI_ne a0, fun b hb => zI_o (by omega), zI_s, fun j hj => absurd hj (Nat.not_lt_zero _)⟩, fun j hj => absurd hj (Nat.not_lt_zero _), rfl, Nat.le_refl 0, by omega, by omega⟩
  unfold fX5_allClauses
  have stopC : ∀ (i : Int32) (σ : zS), fX5_allClauses_7 zFU 168 0 i σ = some (0, σ) := by
    intro i σ
    show bX5_allClauses_7 (fX5_allClauses_7 4999) 168 0 i σ = _
    unfold bX5_allClauses_7
    rw [if_pos rfl]
    split <;> rfl
  have stopM : ∀ (τ : zS), fX7_law_54 zFU 0 v1 0 τ = bX7_law_94 0 v1 0 τ := by
    intro τ
    show bX7_law_54 (fX7_law_54 4999) 0 v1 0 τ = _
    unfold bX7_law_54
    rw [if_pos rfl]
  rcases clause_step h0 m0 hT2 hst with ⟨σ', τ', p', F', cd', lt', x1, x2, x3, x4⟩ | ⟨σ', τ', e, x1, x2, x3, x4⟩
  · rw [x1, zb_s, x2, zb_s]
    exact all_loop h0 m0 hT2 v1 zFU zFU 0 σ' τ' p' 1 F' cd' lt' x3 (by unfold zFU; omega) (by unfold zFU; omega) (by omega) (by omega)
  · rw [x1, zb_s, x2, zb_s, stopC, stopM]
    exact Or.inr ⟨σ', τ', e, rfl, rfl, x3, x4⟩
theorem fresh_law {σ σ' τ τ' : zS} (h : fresh σ τ) (h2 : σ'.1 0 2 = σ.1 0 2) (ha : ∀ a, ¬ a = 0 → ¬ a = 168 → ¬ (157 ≤ a ∧ a ≤ 166) → σ'.1 a = σ.1 a) (hma : ∀ a, ¬ a = 0 → ¬ (8 ≤ a ∧ a ≤ 12) → τ'.1 a = τ.1 a) (hmb : ∀ b, b ≤ 3 ∨ b = 39 → τ'.1 0 b = τ.1 0 b) : fresh σ' τ' := by
  unfold fresh mE mLw at h ⊢
  rw [h2, ha 1 (by omega) (by omega) (by omega), ha 6 (by omega) (by omega) (by omega), ha 7 (by omega) (by omega) (by omega), hma 1 (by omega) (by omega), hma 2 (by omega) (by omega), hma 3 (by omega) (by omega), hma 4 (by omega) (by omega), hma 5 (by omega) (by omega), hma 6 (by omega) (by omega), hma 13 (by omega) (by omega), hma 14 (by omega) (by omega), hma 15 (by omega) (by omega), hma 16 (by omega) (by omega), hma 17 (by omega) (by omega), hmb 0 (by omega), hmb 1 (by omega)]
  exact h
theorem o_law (σ τ : zS) (h : Rel σ τ) (a1 a2 : Int32) : ∃ (r : Int32) (σ' τ' : zS), fX6_law 0 a1 a2 σ = some (r, σ') ∧ fX7_law 0 a1 a2 τ = some (r, τ') ∧ Rel σ' τ' := by
  obtain ⟨hco, hca, hfr⟩ := id h
  obtain ⟨hR, ⟨pm, pm1, pm2, pm3, pm4⟩, hM, -, -, -, -, hTp, -, hLs, -⟩ := id hco
  obtain ⟨⟨kt, kt1, kt2, kt3⟩, hTt⟩ := hTp
  unfold fX6_law fX7_law
  rcases ok_dec a1 0 3 with h1 | h1
  · rw [(c_within a1 0 3 σ).1 h1, zb_s, if_neg n10, (m_in a1 0 3 τ).1 h1, zb_s, if_neg n10]
    obtain ⟨j, -, j3, rfl⟩ := ok_n (a := 0) (n := 3) (by omega) (by omega) h1
    rcases ok_dec a2 1 120 with h2 | h2
    · rw [(c_within a2 1 120 σ).1 h2, zb_s, if_neg n10, (m_in a2 1 120 τ).1 h2, zb_s, if_neg n10]
      obtain ⟨n, n1, n2, rfl⟩ := ok_n (a := 1) (n := 120) (by omega) (by omega) h2
      rw [kt2, kt3]
      by_cases hle : nI n ≤ nI (20 * kt)
      · have p4 := pm3 4 (by omega)
        rw [if_pos hle, if_pos hle, bnd_e, cr_ hR 0 8 168 rfl (by decide), bnd_e, pm2]
        have h0 : C0 (zI (zR σ 168 1 (157 + 2 * pm 4)) 168 2 (nI n)) n (157 + 2 * pm 4) (158 + 2 * pm 4) := by
          refine ⟨⟨?_, show (zR σ 168 1 (157 + 2 * pm 4)).2 168 1 = _ from zR_s, ?_, zI_s, n2⟩, by omega, by omega, by omega, by omega, by omega⟩
          · show (zR σ 168 1 (157 + 2 * pm 4)).2 168 0 = 167
            rw [zR_o (by omega)]; exact cr_ hR 168 0 167 rfl (by decide)
          · show (zR σ 168 1 (157 + 2 * pm 4)).2 (157 + 2 * pm 4) 0 = _
            rw [zR_o (by omega)]; exact cr_law hR p4
        have hbr := both_read (σ := σ) (τ := τ) h0 hM n1 hTt (nI j)
        generalize hLg : 157 + 2 * pm 4 = L at *
        have hqL : 158 + 2 * pm 4 = L + 1 := by omega
        rw [hqL] at h0 hbr
        have hst : zI (zI (zI (zI (zI (zI (zR σ 168 1 L) L 1 0) L 2 0) 168 2 (nI n)) 168 3 0) 168 4 0) 168 5 0 = mkC (zI (zI (zR σ 168 1 L) 168 2 (nI n)) L 2 (nI 0)) L (L + 1) (nI 0) (nI 0) 0 (nI 0) (σ.1 (L + 1)) := by
          have e8 : ¬ L = 168 := h0.2.1
          have e9 : ¬ L + 1 = 168 := h0.2.2.1
          show (_, _) = (_, _)
          congr 1
          funext a b
          by_cases x1 : a = 168
          · subst x1
            by_cases y2 : b = 2
            · subst y2; simp [mkC, zI, zR, Ne.symm e8]
            · by_cases y3 : b = 3
              · subst y3; simp [zI, nI_0]
              · by_cases y4 : b = 4
                · subst y4; simp [zI, nI_0]
                · by_cases y5 : b = 5
                  · subst y5; simp [zI]
                  · simp [zI, zR, y2, y3, y4, y5, Ne.symm e8]
          · by_cases x2 : a = L
            · subst x2
              by_cases y1 : b = 1
              · subst y1; simp [zI, zR, e8, nI_0]
              · by_cases y2 : b = 2
                · subst y2; simp [zI, zR, e8, nI_0]
                · simp [zI, zR, e8, y1, y2]
            · by_cases x3 : a = L + 1
              · subst x3; simp [zI, zR, e9]
              · simp [zI, zR, x1, x2, x3]
        have hrd : ∀ r x, fX5_allClauses 168 (mkC (zI (zI (zR σ 168 1 L) 168 2 (nI n)) L 2 (nI 0)) L (L + 1) (nI 0) (nI 0) 0 (nI 0) (σ.1 (L + 1))) = some (r, x) → fX5_read 168 (nI n) L σ = (if r = 0 then some (-1000 * x.1 168 5 - x.1 168 3, x) else bnd (x.2 168 1) (fun q12 => some (x.1 q12 2, x))) := by
          intro r x hx
          unfold fX5_read fX4_clear
          simp only [bnd_e, zb_s, zR_s]
          rw [hst, hx, zb_s]
        have hms : zI (zI (zI (zI τ 0 12 0) 0 13 (nI n)) 0 16 0) 0 18 0 = mkM (zI (zI τ 0 13 (nI n)) 0 18 (nI 0)) (nI 0) (τ.1 0 14) (τ.1 0 15) (nI 0) (τ.1 0 17) (τ.1 0 19) (τ.1 8) (τ.1 9) := by
          show (_, _) = (_, _)
          congr 1
          funext a b
          by_cases x1 : a = 0
          · subst x1
            by_cases y1 : b = 12
            · subst y1; simp [zI, nI_0]
            · by_cases y2 : b = 13
              · subst y2; simp [zI]
              · by_cases y3 : b = 16
                · subst y3; simp [zI, nI_0]
                · by_cases y4 : b = 18
                  · subst y4; simp [zI, nI_0]
                  · by_cases z1 : b = 14
                    · subst z1; simp [zI]
                    · by_cases z2 : b = 15
                      · subst z2; simp [zI]
                      · by_cases z3 : b = 17
                        · subst z3; simp [zI]
                        · by_cases z4 : b = 19
                          · subst z4; simp [zI]
                          · simp [zI, y1, y2, y3, y4, z1, z2, z3, z4]
          · by_cases x8 : a = 8
            · subst x8; simp [zI]
            · by_cases x9 : a = 9
              · subst x9; simp [zI]
              · simp [zI, x1, x8, x9]
        simp only [bnd_e]
        rw [hms]
        rcases hbr with ⟨σ', τ', p', c', F', cd', lt', x1, x2, x3, x4⟩ | ⟨σ', τ', e, x1, x2, ⟨c, pp, ff, S, O, A, rfl, ee, ⟨e1, e2⟩, e3⟩, ⟨τc, cc, FF, ll, hb, P, O2, K, LL, V, A2, B2, rfl⟩⟩
        · obtain ⟨⟨Fv, A, rfl, hA⟩, ⟨τc, Fm, O, Lm, V, Am, B, rfl, hAm, hb⟩, hS, hF0, hk, hp, hc⟩ := x3
          have pj := pm3 j (by omega)
          have hmc : mR τc.2 := by rw [hb.1]; exact hM
          -- the class
          rw [hrd _ _ x1, if_neg n10, skR, (C0_z h0).1.2.1, bnd_e, skL2 h0, zb_s, if_neg (nI_nle (by omega) (by omega))]
          generalize hσ1 : zI (mkC (zI (zI (zR σ 168 1 L) 168 2 (nI n)) L 2 (nI c')) L (L + 1) (nI p') (nI 0) Fv (nI (F' c' + 2 * c')) A) 0 10 0 = σ1
          have c1 : ∀ a, ¬ a = 0 → ¬ a = 168 → ¬ a = L → ¬ a = L + 1 → σ1.1 a = σ.1 a := by
            intro a a0 a8 aL aq
            rw [← hσ1, zI_ne a0, ska a8 aL aq, zI_ne aL, zI_ne a8]
            rfl
          have c2 : ∀ b, ¬ b = 10 → σ1.1 0 b = σ.1 0 b := by
            intro b hb
            rw [← hσ1, zI_o (by omega), ska (by omega) (by omega) (by omega), zI_ne (by omega), zI_ne (by omega)]
            rfl
          have c3 : ∀ a b, ¬ (a = 168 ∧ b = 1) → σ1.2 a b = σ.2 a b := by
            intro a b hab
            rw [← hσ1]
            exact zR_o hab
          have cL1 : σ1.1 L 1 = nI (F' c' + 2 * c') := by rw [← hσ1, zI_ne (by omega), skS (C0_z h0)]
          have cL2 : σ1.1 L 2 = nI c' := by rw [← hσ1, zI_ne (by omega), skL2 h0]
          have cLq : σ1.1 (L + 1) = A := by rw [← hσ1, zI_ne (by omega), skA (C0_z h0)]
          have c10 : σ1.1 0 10 = 0 := by rw [← hσ1, zI_s]
          rw [c3 0 6 (by omega), cr_ hR 0 6 156 rfl (by decide), c3 0 7 (by omega), pm2, zX_n (show j < 4 by omega) (by omega), zX_n (show j < 4 by omega) (by omega), cl_n (show j < 2 ^ 31 by omega), c3 156 j (by omega), pm1 j (by omega)]
          -- the reference
          rw [x2]
          unfold bX7_law_94
          simp only [bnd_e]
          rw [if_neg n10, zI_2, rkR, mm26 hmc, zX_n (show j < 4 by omega) (by omega), cl_n (show j < 2 ^ 31 by omega), zI_o (show ¬ ((0 : Nat) = 0 ∧ 18 = 11) by omega), rk18, hb.2.2.2.1]
          generalize hτ1 : zI (zI (mkM τc (nI p') Fm O (nI (F' c')) Lm V Am B) 0 11 0) 14 j (nI c') = τ1
          have t2 : τ1.2 = τ.2 := by rw [← hτ1]; exact hb.1
          have tm : mR τ1.2 := by rw [t2]; exact hM
          have t8 : τ1.1 8 = Am := by rw [← hτ1, zI_ne (by omega), zI_ne (by omega), rk8]
          have t16 : τ1.1 0 16 = nI (F' c') := by rw [← hτ1, zI_ne (by omega), zI_o (by omega), rk16]
          have t18 : τ1.1 0 18 = nI c' := by rw [← hτ1, zI_ne (by omega), zI_o (by omega), rk18]; exact hb.2.2.2.1
          have t14 : τ1.1 14 j = nI c' := by rw [← hτ1, zI_s]
          have t14o : ∀ i, ¬ i = j → τ1.1 14 i = τ.1 14 i := fun i hi => by rw [← hτ1, zI_o (by omega), zI_ne (by omega), rka (by omega) (by omega) (by omega), hb.2.1 14 (by omega) (by omega) (by omega) (by omega), zI_ne (by omega)]
          have ta : ∀ a, ¬ a = 0 → ¬ (8 ≤ a ∧ a ≤ 12) → ¬ a = 14 → τ1.1 a = τ.1 a := fun a a0 a1 a2 => by rw [← hτ1, zI_ne a2, zI_ne a0, rka a0 (by omega) (by omega), hb.2.1 a a0 (by omega) (by omega) (by omega), zI_ne a0]
          have tb : ∀ b, b ≤ 3 ∨ b = 39 → τ1.1 0 b = τ.1 0 b := fun b hb2 => by rw [← hτ1, zI_ne (by omega), zI_o (by omega), rk0 (by omega), hb.2.2.1 b (by omega), zI_o (by omega)]
          have t11 : τ1.1 0 11 = 0 := by rw [← hτ1, zI_ne (by omega), zI_s]
          have tr : ∀ u, u < c' → τ1.1 10 u = nI (lt' u) ∧ τ1.1 11 u = nI (F' u) ∧ τ1.1 12 u = nI (F' (u + 1)) := fun u hu => by
            rw [← hτ1, zI_ne (by omega), zI_ne (by omega), zI_ne (by omega), zI_ne (by omega), zI_ne (by omega), zI_ne (by omega), rka (by omega) (by omega) (by omega), rka (by omega) (by omega) (by omega), rka (by omega) (by omega) (by omega)]
            exact hb.2.2.2.2 u hu
          have hcp := m_copy1 tm (j := j) (k := F' c') (by omega) (by omega) t16 zFU 0 (by omega) (by unfold zFU; omega)
          have hz : cpF j (τ1.1 8) (τ1.1 13) 0 = τ1.1 13 := by
            funext b
            unfold cpF
            rw [if_neg (by omega)]
          rw [hz, zA1_self] at hcp
          rw [show fX7_law_121 zFU 0 (nI j) 0 τ1 = _ from hcp]
          unfold bX7_law_156
          generalize hτ2 : zA1 τ1 13 (cpF j (τ1.1 8) (τ1.1 13) (F' c')) = τ2
          have u2 : τ2.2 = τ.2 := by rw [← hτ2]; exact t2
          have ua : ∀ a, ¬ a = 13 → τ2.1 a = τ1.1 a := fun a ha => by rw [← hτ2, zA1_o ha]
          have u13 : τ2.1 13 = cpF j (τ1.1 8) (τ1.1 13) (F' c') := by rw [← hτ2, zA1_s]
          obtain ⟨τf, w1, w2, w3, w4, w5⟩ := m_copy2 (τ2 := τ2) (by rw [u2]; exact hM) (j := j) (c := c') (by omega) hc (by rw [ua 0 (by omega)]; exact t18) zFU 0 τ2 (by omega) (by unfold zFU; omega) ⟨rfl, fun _ _ _ _ => rfl, fun _ _ => ⟨rfl, rfl, rfl⟩, fun u hu => absurd hu (by omega)⟩
          rw [show fX7_law_159 zFU 0 (nI j) 0 τ2 = _ from w1]
          generalize hσf : zI (zR (zR σ1 156 j L) 0 7 (157 + 2 * pm j)) 0 2 1 = σf
          have d1 : ∀ a, ¬ a = 0 → ¬ a = 168 → ¬ a = L → ¬ a = L + 1 → σf.1 a = σ.1 a := fun a a0 a8 aL aq => by
            rw [← hσf, zI_ne a0]; exact c1 a a0 a8 aL aq
          have d2 : ∀ b, ¬ b = 2 → ¬ b = 10 → σf.1 0 b = σ.1 0 b := fun b b2 b10 => by
            rw [← hσf, zI_o (by omega)]; exact c2 b b10
          have d3 : ∀ a b, ¬ (a = 168 ∧ b = 1) → ¬ (a = 156 ∧ b = j) → ¬ (a = 0 ∧ b = 7) → σf.2 a b = σ.2 a b := fun a b x y z => by
            rw [← hσf, zI_2, zR_o z, zR_o y]; exact c3 a b x
          have d4 : σf.2 156 j = L := by rw [← hσf, zI_2, zR_o (by omega), zR_s]
          have d5 : σf.2 0 7 = 157 + 2 * pm j := by rw [← hσf, zI_2, zR_s]
          have d6 : σf.1 L 1 = nI (F' c' + 2 * c') ∧ σf.1 L 2 = nI c' ∧ σf.1 (L + 1) = A := by
            rw [← hσf, zI_ne (by omega), zI_ne (by omega)]; exact ⟨cL1, cL2, cLq⟩
          have d7 : σf.1 0 2 = 1 := by rw [← hσf, zI_s]
          have d8 : σf.1 0 10 = 0 := by rw [← hσf, zI_o (by omega)]; exact c10
          have fa : ∀ a, ¬ a = 0 → ¬ (8 ≤ a ∧ a ≤ 17) → τf.1 a = τ.1 a := fun a a0 a1 => by
            rw [w3 a (by omega) (by omega) (by omega), ua a (by omega)]; exact ta a a0 (by omega) (by omega)
          have f0 : ∀ b, τf.1 0 b = τ1.1 0 b := fun b => by rw [w3 0 (by omega) (by omega) (by omega), ua 0 (by omega)]
          have hcl : cLaws σf (τf.1 13) (τf.1 14) (τf.1 15) (τf.1 16) (τf.1 17) := by
            intro i hi
            have e13 : τf.1 13 = cpF j (τ1.1 8) (τ1.1 13) (F' c') := by rw [w3 13 (by omega) (by omega) (by omega), u13]
            have e14 : τf.1 14 = τ1.1 14 := by rw [w3 14 (by omega) (by omega) (by omega), ua 14 (by omega)]
            by_cases eij : i = j
            · subst eij
              refine ⟨pm 4, by omega, by rw [d4]; exact hLg.symm, ?_⟩
              rw [hqL, hLg, d6.1, d6.2.1, d6.2.2]
              refine lawC_new (n := n) n2 hc hF0 (by omega) hA hS (fun u hu => ?_) (by rw [e14]; exact t14) (fun u hu => ?_)
              · rw [e13]
                unfold cpF
                rw [if_pos (by omega), show 140 * i + u - 140 * i = u by omega, t8]
                exact hAm u hu
              · obtain ⟨g1, g2, g3⟩ := w5 u hu
                obtain ⟨q1, q2, q3⟩ := tr u hu
                rw [g1, g2, g3, ua 10 (by omega), ua 11 (by omega), ua 12 (by omega), q1, q2, q3, nI_add, nI_add]
                exact ⟨rfl, rfl, rfl⟩
            · obtain ⟨m, hm5, g1, g2⟩ := hLs i hi
              have hmp : m = pm i := by have := pm1 i hi; omega
              have hne : ¬ m = pm 4 := fun q => by have := pm4 i 4 (by omega) (by omega) (by omega); omega
              refine ⟨m, hm5, by rw [d3 156 i (by omega) (by omega) (by omega)]; exact g1, ?_⟩
              rw [d1 (158 + 2 * m) (by omega) (by omega) (by omega) (by omega), d1 (157 + 2 * m) (by omega) (by omega) (by omega) (by omega)]
              refine lawC_keep g2 (fun u hu => ?_) (by rw [e14]; exact t14o i eij) (fun u hu => ?_)
              · rw [e13]
                unfold cpF
                rw [if_neg (by omega), ta 13 (by omega) (by omega) (by omega)]
              · obtain ⟨g1, g2, g3⟩ := w4 (12 * i + u) (by omega)
                rw [g1, g2, g3, ua 15 (by omega), ua 16 (by omega), ua 17 (by omega), ta 15 (by omega) (by omega) (by omega), ta 16 (by omega) (by omega) (by omega), ta 17 (by omega) (by omega) (by omega)]
                exact ⟨rfl, rfl, rfl⟩
          refine ⟨nI c', σf, τf, rfl, rfl, ⟨core_law hco (fun a a0 a8 aL => d1 a a0 a8 (by omega) (by omega)) d2 (fun a b x y z => d3 a b x (by omega) z) d8 (by rw [w2]; exact u2) fa (fun b hb => by rw [f0 b]; exact tb b hb) (by rw [f0 11]; exact t11) ?_ hcl, ?_, Or.inl d7⟩⟩
          · refine ⟨fun i => if i = j then pm 4 else if i = 4 then pm j else pm i, fun i hi => ?_, ?_, fun i hi => ?_, fun a b ha hb hab => ?_⟩
            · show σf.2 156 i = 157 + 2 * (if i = j then pm 4 else if i = 4 then pm j else pm i)
              by_cases eij : i = j
              · rw [if_pos eij, eij, d4]; exact hLg.symm
              · rw [if_neg eij, if_neg (by omega), d3 156 i (by omega) (by omega) (by omega)]; exact pm1 i hi
            · show σf.2 0 7 = 157 + 2 * (if 4 = j then pm 4 else if 4 = 4 then pm j else pm 4)
              rw [if_neg (by omega), if_pos rfl]; exact d5
            · show (if i = j then pm 4 else if i = 4 then pm j else pm i) < 5
              split
              · exact p4
              · split
                · exact pj
                · exact pm3 i hi
            · have hab : (if a = j then pm 4 else if a = 4 then pm j else pm a) = (if b = j then pm 4 else if b = 4 then pm j else pm b) := hab
              have inj : ∀ x y, x < 5 → y < 5 → ¬ x = y → ¬ pm x = pm y := fun x y hx hy hxy q => hxy (pm4 x y hx hy q)
              by_cases a1 : a = j
              · rw [if_pos a1] at hab
                by_cases b1 : b = j
                · omega
                · rw [if_neg b1] at hab
                  by_cases b4 : b = 4
                  · rw [if_pos b4] at hab; exact absurd hab (inj 4 j (by omega) (by omega) (by omega))
                  · rw [if_neg b4] at hab; exact absurd hab (inj 4 b (by omega) (by omega) (by omega))
              · rw [if_neg a1] at hab
                by_cases a4 : a = 4
                · rw [if_pos a4] at hab
                  by_cases b1 : b = j
                  · rw [if_pos b1] at hab; exact absurd hab (inj j 4 (by omega) (by omega) (by omega))
                  · rw [if_neg b1] at hab
                    by_cases b4 : b = 4
                    · omega
                    · rw [if_neg b4] at hab; exact absurd hab (inj j b (by omega) (by omega) (by omega))
                · rw [if_neg a4] at hab
                  by_cases b1 : b = j
                  · rw [if_pos b1] at hab; exact absurd hab (inj a 4 (by omega) (by omega) (by omega))
                  · rw [if_neg b1] at hab
                    by_cases b4 : b = 4
                    · rw [if_pos b4] at hab; exact absurd hab (inj a j (by omega) (by omega) (by omega))
                    · rw [if_neg b4] at hab; exact pm4 a b ha hb hab
          · unfold cCa
            rw [d1 153 (by omega) (by omega) (by omega) (by omega), d1 155 (by omega) (by omega) (by omega) (by omega)]
            exact hca
        · rw [x2, hrd _ _ x1, if_pos rfl, zb_s, sk5, sk3]
          have hre : (-1000 : Int32) * nI ff - nI pp = er e := by
            unfold er
            rw [ee, show (1000 * ff + pp) / 1000 = ff by omega, show (1000 * ff + pp) % 1000 = pp by omega]
          rw [if_pos (er_le ff (by omega) pp (by omega)), hre]
          unfold bX7_law_94
          rw [bnd_e, if_pos rfl, zI_o (by omega), rk14]
          have c1 : ∀ a, ¬ a = 0 → ¬ a = 168 → ¬ (157 ≤ a ∧ a ≤ 166) → (zI (mkC (zI (zI (zR σ 168 1 L) 168 2 (nI n)) L 2 (nI c)) L (L + 1) (nI pp) O (nI ff) (nI S) A) 0 10 0).1 a = σ.1 a := by
            intro a a0 a8 aL
            rw [zI_ne a0, ska a8 (by omega) (by omega), zI_ne (by omega), zI_ne a8]
            rfl
          have c2 : ∀ b, ¬ b = 10 → (zI (mkC (zI (zI (zR σ 168 1 L) 168 2 (nI n)) L 2 (nI c)) L (L + 1) (nI pp) O (nI ff) (nI S) A) 0 10 0).1 0 b = σ.1 0 b := by
            intro b hb
            rw [zI_o (by omega), ska (by omega) (by omega) (by omega), zI_ne (by omega), zI_ne (by omega)]
            rfl
          have c3 : ∀ a b, ¬ (a = 168 ∧ b = 1) → (zI (mkC (zI (zI (zR σ 168 1 L) 168 2 (nI n)) L 2 (nI c)) L (L + 1) (nI pp) O (nI ff) (nI S) A) 0 10 0).2 a b = σ.2 a b := by
            intro a b hab
            exact zR_o hab
          have m1 : ∀ a, ¬ a = 0 → ¬ (8 ≤ a ∧ a ≤ 12) → (zI (mkM τc P (er e) O2 K LL V A2 B2) 0 11 0).1 a = τ.1 a := by
            intro a a0 a1
            rw [zI_ne a0, rka a0 (by omega) (by omega), hb.2.1 a a0 (by omega) (by omega) (by omega), zI_ne a0]
          have m2 : ∀ b, b ≤ 3 ∨ b = 39 → (zI (mkM τc P (er e) O2 K LL V A2 B2) 0 11 0).1 0 b = τ.1 0 b := by
            intro b hb2
            rw [zI_o (by omega), rk0 (by omega), hb.2.2.1 b (by omega), zI_o (by omega)]
          have m3 : (zI (mkM τc P (er e) O2 K LL V A2 B2) 0 11 0).2 = τ.2 := hb.1
          refine ⟨er e, _, _, rfl, rfl, ⟨core_law hco c1 (fun b _ hb => c2 b hb) (fun a b hab _ _ => c3 a b hab) zI_s m3 (fun a a0 a1 => m1 a a0 (by omega)) m2 zI_s ?_ ?_, ?_, fresh_law hfr (c2 2 (by omega)) c1 m1 m2⟩⟩
          · refine ⟨pm, fun i hi => ?_, ?_, pm3, pm4⟩
            · rw [c3 156 i (by omega)]; exact pm1 i hi
            · rw [c3 0 7 (by omega), pm2, hLg]
          · intro i hi
            obtain ⟨m, hm5, g1, g2⟩ := hLs i hi
            have hmp : m = pm i := by have := pm1 i hi; omega
            have hne : ¬ m = pm 4 := fun q => by have := pm4 i 4 (by omega) (by omega) (by omega); omega
            refine ⟨m, hm5, by rw [c3 156 i (by omega)]; exact g1, ?_⟩
            have k1 : (zI (mkC (zI (zI (zR σ 168 1 L) 168 2 (nI n)) L 2 (nI c)) L (L + 1) (nI pp) O (nI ff) (nI S) A) 0 10 0).1 (158 + 2 * m) = σ.1 (158 + 2 * m) := by
              rw [zI_ne (by omega), ska (by omega) (by omega) (by omega), zI_ne (by omega), zI_ne (by omega)]; rfl
            have k2 : (zI (mkC (zI (zI (zR σ 168 1 L) 168 2 (nI n)) L 2 (nI c)) L (L + 1) (nI pp) O (nI ff) (nI S) A) 0 10 0).1 (157 + 2 * m) = σ.1 (157 + 2 * m) := by
              rw [zI_ne (by omega), ska (by omega) (by omega) (by omega), zI_ne (by omega), zI_ne (by omega)]; rfl
            rw [k1, k2, m1 13 (by omega) (by omega), m1 14 (by omega) (by omega), m1 15 (by omega) (by omega), m1 16 (by omega) (by omega), m1 17 (by omega) (by omega)]
            exact g2
          · unfold cCa
            rw [c1 153 (by omega) (by omega) (by omega), c1 155 (by omega) (by omega) (by omega)]
            exact hca
      · rw [if_neg hle, if_neg hle]
        exact ⟨-1, σ, τ, rfl, rfl, h⟩
    · rw [(c_within a2 1 120 σ).2 h2, zb_s, if_pos rfl, (m_in a2 1 120 τ).2 h2, zb_s, if_pos rfl]
      exact ⟨-1, σ, τ, rfl, rfl, h⟩
  · rw [(c_within a1 0 3 σ).2 h1, zb_s, if_pos rfl, (m_in a1 0 3 τ).2 h1, zb_s, if_pos rfl]
    exact ⟨-1, σ, τ, rfl, rfl, h⟩
end
