section
variable {σ0 : zS} {n L q c k0 : Nat} {A0 : Nat → Int32} {d : Nat}
theorem enc_op {m : Nat} (h : 2 ≤ m) (h2 : m ≤ 10) : enc c (1048576 * m) = 16 * 0 + kd m := by
  unfold enc
  rw [if_neg (by omega), if_neg (by omega), show 1048576 * m / 1048576 = m by omega]
  unfold nm
  rw [if_neg (by omega), if_neg (by omega), if_neg (by omega), if_neg (by omega)]
theorem kd_ne {m : Nat} : ¬ nI (kd m) = -1 := by
  have key : ∀ j, j < 16 → ¬ nI j = -1 := by decide +kernel
  exact key _ (kd_lt m)
theorem step5 (h0 : C0 σ0 n L q) (ih : S6 σ0 n L q c k0 A0 d) : S5 σ0 n L q c k0 A0 (d + 1) := by
  intro σ p o cd k h hd
  have hn := h0.1.2.2.2.2
  obtain ⟨hp, hk, hk0, ho⟩ := CS_n h
  show OUT σ0 n L q c k0 A0 (fX5_term (gX5 d) 168 σ) o _ _
  unfold fX5_term
  have loop : ∀ (N i : Nat) (σ1 : zS) (p1 : Nat) (cd1 : Nat → Nat) (k1 : Nat), n + 1 ≤ N + p1 → i < p1 → CS σ0 n L q c k0 A0 σ1 p1 o cd1 k1 → BB p k cd p1 cd1 k1 (2 + 2 * (6 - o)) → (∀ Kd W x, nMu W → yRL (sgn (σ0.1 167) n) Kd p1 o W cd1 k1 x → yRF (sgn (σ0.1 167) n) Kd p o W cd k x) → OUT σ0 n L q c k0 A0 (fX5_term_7 (gX5 d) N 168 1 (nI i) σ1) o (fun p' cd' k' => BB p k cd p' cd' k' (2 + 2 * (6 - o)) ∧ ssg (sgn (σ0.1 167) n p') < 4 ∧ ∀ Kd W x, nMu W → yRL (sgn (σ0.1 167) n) Kd p' o W cd' k' x → yRF (sgn (σ0.1 167) n) Kd p o W cd k x) (fun e => ∀ Kd W, nMu W → yRF (sgn (σ0.1 167) n) Kd p o W cd k (some (.inl e))) := by
    intro N
    induction N with
    | zero => intro i σ1 p1 cd1 k1 hN _ h1; have := (CS_n h1).1; omega
    | succ N ihN =>
      intro i σ1 p1 cd1 k1 hN hi h1 hB hM
      obtain ⟨hp1, hk1, hk01, -⟩ := CS_n h1
      show OUT σ0 n L q c k0 A0 (bX5_term_7 (gX5 d) (fX5_term_7 (gX5 d) N) 168 1 (nI i) σ1) o _ _
      unfold bX5_term_7
      by_cases hi2 : i < 120
      · rw [if_neg (geL 120 (120 : Int32) rfl hi2 (by omega)), if_neg n10, c_sign h0 h1, zb_s, c_tim, zb_s]
        by_cases e : 4 ≤ ssg (sgn (σ0.1 167) n p1)
        · have hs6 := ssg_le (sgn (σ0.1 167) n p1)
          have hlt : p1 < n := by
            by_cases hh : p1 < n
            · exact hh
            · exfalso
              unfold sgn at e
              rw [if_neg hh] at e
              exact absurd e (by decide)
          rw [if_pos e, if_neg kd_ne, c_sign h0 h1, zb_s, c_tim, zb_s, if_pos e, bnd_e]
          have ha := c_adv h1 hlt
          rcases ih _ (p1 + 1) o cd1 k1 ha (by omega) with ⟨σ2, p2, cd2, k2, x1, x2, ⟨b1, b2, b3, b4⟩, x5⟩ | ⟨σ2, e2, x1, x2, x3⟩
          · rw [x1, zb_s, CS_1 h0 x2, bnd_e]
            obtain ⟨hp2, hk2, hk02, -⟩ := CS_n x2
            obtain ⟨σ3, y1, y2⟩ := c_add h0 (v := 1048576 * ssg (sgn (σ0.1 167) n p1)) (num := 0) (kn := kd (ssg (sgn (σ0.1 167) n p1))) (kd_lt _) (by omega) (enc_op (by omega) (by omega)) x2 (by omega)
            rw [show (0 : Int32) = nI 0 from rfl, y1, zb_s, nI_1]
            obtain ⟨B1, B2, B3, B4⟩ := hB
            have l4 := b4.1
            have l1 := B4.1
            refine ihN (i + 1) σ3 p2 _ (k2 + 1) (by omega) (by omega) y2 ⟨by omega, by omega, fun j hj => ?_, ?_⟩ (fun Kd W x hW r => ?_)
            · rw [uN_o (by omega), b3 j (by omega), B3 j hj]
            · refine SEG_op2 (k1 := k1) (SEG_c B4 (fun j a b => ?_)) (SEG_c b4 (fun j a b => uN_o (by omega))) (h' := 1 + 2 * (6 - o)) (by omega) (by omega) ?_ ?_
              · rw [uN_o (by omega), b3 j b]
              · rw [uN_s]; omega
              · rw [uN_s]; omega
            · refine hM Kd W x hW (RL_sign (by omega) (by omega) (W2 := W) (cd2 := cd1) (k2 := k1) ?_ (x5 Kd _ x (RL_mul e hs6 (by omega) r)))
              rw [decide_eq_false (by omega)]
              exact yC_nMu hW
          · rw [x1, zb_s, CF_1 h0 x2, bnd_e]
            obtain ⟨r, σ3, y1, y2⟩ := c_addF h0 (nI (kd (ssg (sgn (σ0.1 167) n p1)))) 0 x2
            rw [y1, zb_s]
            obtain ⟨N, rfl⟩ : ∃ m, N = m + 1 := ⟨N - 1, by omega⟩
            refine Or.inr ⟨σ3, e2, ?_, y2, fun Kd W hW => hM Kd W _ hW (RL_sign (by omega) (by omega) (W2 := W) (cd2 := cd1) (k2 := k1) ?_ (x3 Kd _))⟩
            · show bX5_term_7 (gX5 d) (fX5_term_7 (gX5 d) N) 168 0 _ σ3 = _
              unfold bX5_term_7
              rw [if_pos rfl]
              split <;> rfl
            · rw [decide_eq_false (by omega)]
              exact yC_nMu hW
        · rw [if_neg e, if_pos rfl]
          exact Or.inl ⟨σ1, p1, cd1, k1, rfl, h1, hB, by omega, hM⟩
      · have : p1 = n := by omega
        rw [if_pos (show (120 : Int32) ≤ nI i from nI_le (a := 120) (by omega) (by omega))]
        refine Or.inl ⟨σ1, p1, cd1, k1, rfl, h1, hB, ?_, hM⟩
        unfold sgn
        rw [if_neg (by omega)]
        decide
  rcases ih σ p o cd k h (by omega) with ⟨σ1, p1, cd1, k1, x1, x2, ⟨b1, b2, b3, b4⟩, x5⟩ | ⟨σ1, e1, x1, x2, x3⟩
  · rw [x1, zb_s]
    exact loop zFU 0 σ1 p1 cd1 k1 (by unfold zFU; omega) (by omega) x2 ⟨b1, b2, b3, SEG_up b4 (by omega)⟩ (fun Kd W x _ r => x5 Kd W x r)
  · rw [x1, zb_s]
    exact Or.inr ⟨σ1, e1, rfl, x2, fun Kd W _ => x3 Kd W⟩
theorem step4 (h0 : C0 σ0 n L q) (ih : S5 σ0 n L q c k0 A0 d) : S4 σ0 n L q c k0 A0 (d + 1) := by
  intro σ p o cd k h hd
  have hn := h0.1.2.2.2.2
  obtain ⟨hp, hk, hk0, ho⟩ := CS_n h
  show OUT σ0 n L q c k0 A0 (fX5_sum (gX5 d) 168 σ) o _ _
  unfold fX5_sum
  have loop : ∀ (N i : Nat) (σ1 : zS) (p1 : Nat) (cd1 : Nat → Nat) (k1 : Nat), n + 1 ≤ N + p1 → i < p1 → CS σ0 n L q c k0 A0 σ1 p1 o cd1 k1 → BB p k cd p1 cd1 k1 (3 + 2 * (6 - o)) → ssg (sgn (σ0.1 167) n p1) < 4 → (∀ Kd W x, nAr W → yRL (sgn (σ0.1 167) n) Kd p1 o W cd1 k1 x → yRF (sgn (σ0.1 167) n) Kd p o W cd k x) → OUT σ0 n L q c k0 A0 (fX5_sum_7 (gX5 d) N 168 1 (nI i) σ1) o (fun p' cd' k' => BB p k cd p' cd' k' (3 + 2 * (6 - o)) ∧ ssg (sgn (σ0.1 167) n p') = 0 ∧ ∀ Kd W x, nAr W → yRL (sgn (σ0.1 167) n) Kd p' o W cd' k' x → yRF (sgn (σ0.1 167) n) Kd p o W cd k x) (fun e => ∀ Kd W, nAr W → yRF (sgn (σ0.1 167) n) Kd p o W cd k (some (.inl e))) := by
    intro N
    induction N with
    | zero => intro i σ1 p1 cd1 k1 hN _ h1; have := (CS_n h1).1; omega
    | succ N ihN =>
      intro i σ1 p1 cd1 k1 hN hi h1 hB hs4 hM
      obtain ⟨hp1, hk1, hk01, -⟩ := CS_n h1
      show OUT σ0 n L q c k0 A0 (bX5_sum_7 (gX5 d) (fX5_sum_7 (gX5 d) N) 168 1 (nI i) σ1) o _ _
      unfold bX5_sum_7
      by_cases hi2 : i < 120
      · rw [if_neg (geL 120 (120 : Int32) rfl hi2 (by omega)), if_neg n10, c_sign h0 h1, zb_s, c_adg, zb_s]
        by_cases e : ssg (sgn (σ0.1 167) n p1) = 2 ∨ ssg (sgn (σ0.1 167) n p1) = 3
        · have hlt : p1 < n := by
            by_cases hh : p1 < n
            · exact hh
            · exfalso
              unfold sgn at e
              rw [if_neg hh] at e
              exact absurd e (by decide)
          rw [if_pos e, if_neg kd_ne, c_sign h0 h1, zb_s, c_adg, zb_s, if_pos e, bnd_e]
          have ha := c_adv h1 hlt
          have hmu : ∀ W : List Nat, nMu (1048576 * ssg (sgn (σ0.1 167) n p1) :: W) := fun W w => by omega
          rcases ih _ (p1 + 1) o cd1 k1 ha (by omega) with ⟨σ2, p2, cd2, k2, x1, x2, ⟨b1, b2, b3, b4⟩, x4, x5⟩ | ⟨σ2, e2, x1, x2, x3⟩
          · rw [x1, zb_s, CS_1 h0 x2, bnd_e]
            obtain ⟨hp2, hk2, hk02, -⟩ := CS_n x2
            obtain ⟨σ3, y1, y2⟩ := c_add h0 (v := 1048576 * ssg (sgn (σ0.1 167) n p1)) (num := 0) (kn := kd (ssg (sgn (σ0.1 167) n p1))) (kd_lt _) (by omega) (enc_op (by omega) (by omega)) x2 (by omega)
            rw [show (0 : Int32) = nI 0 from rfl, y1, zb_s, nI_1]
            obtain ⟨B1, B2, B3, B4⟩ := hB
            have l4 := b4.1
            have l1 := B4.1
            refine ihN (i + 1) σ3 p2 _ (k2 + 1) (by omega) (by omega) y2 ⟨by omega, by omega, fun j hj => ?_, ?_⟩ x4 (fun Kd W x hW r => ?_)
            · rw [uN_o (by omega), b3 j (by omega), B3 j hj]
            · refine SEG_op2 (k1 := k1) (SEG_c B4 (fun j a b => ?_)) (SEG_c b4 (fun j a b => uN_o (by omega))) (h' := 2 + 2 * (6 - o)) (by omega) (by omega) ?_ ?_
              · rw [uN_o (by omega), b3 j b]
              · rw [uN_s]; omega
              · rw [uN_s]; omega
            · refine hM Kd W x hW (RL_sign (by omega) (by omega) (W2 := W) (cd2 := cd1) (k2 := k1) ?_ (x5 Kd _ x (hmu W) (RL_add e (by omega) x4 r)))
              rw [decide_eq_true hs4]
              exact yC_nAr hW
          · rw [x1, zb_s, CF_1 h0 x2, bnd_e]
            obtain ⟨r, σ3, y1, y2⟩ := c_addF h0 (nI (kd (ssg (sgn (σ0.1 167) n p1)))) 0 x2
            rw [y1, zb_s]
            obtain ⟨N, rfl⟩ : ∃ m, N = m + 1 := ⟨N - 1, by omega⟩
            refine Or.inr ⟨σ3, e2, ?_, y2, fun Kd W hW => hM Kd W _ hW (RL_sign (by omega) (by omega) (W2 := W) (cd2 := cd1) (k2 := k1) ?_ (x3 Kd _ (hmu W)))⟩
            · show bX5_sum_7 (gX5 d) (fX5_sum_7 (gX5 d) N) 168 0 _ σ3 = _
              unfold bX5_sum_7
              rw [if_pos rfl]
              split <;> rfl
            · rw [decide_eq_true hs4]
              exact yC_nAr hW
        · rw [if_neg e, if_pos rfl]
          refine Or.inl ⟨σ1, p1, cd1, k1, rfl, h1, hB, ?_, hM⟩
          by_cases z : ssg (sgn (σ0.1 167) n p1) = 0
          · exact z
          · have := ssg_2 z
            omega
      · have : p1 = n := by omega
        rw [if_pos (show (120 : Int32) ≤ nI i from nI_le (a := 120) (by omega) (by omega))]
        refine Or.inl ⟨σ1, p1, cd1, k1, rfl, h1, hB, ?_, hM⟩
        unfold sgn
        rw [if_neg (by omega)]
        decide
  rcases ih σ p o cd k h (by omega) with ⟨σ1, p1, cd1, k1, x1, x2, ⟨b1, b2, b3, b4⟩, x4, x5⟩ | ⟨σ1, e1, x1, x2, x3⟩
  · rw [x1, zb_s]
    exact loop zFU 0 σ1 p1 cd1 k1 (by unfold zFU; omega) (by omega) x2 ⟨b1, b2, b3, SEG_up b4 (by omega)⟩ x4 (fun Kd W x hW r => x5 Kd W x (nAr_u hW) r)
  · rw [x1, zb_s]
    exact Or.inr ⟨σ1, e1, rfl, x2, fun Kd W hW => x3 Kd W (nAr_u hW)⟩
theorem arith (h0 : C0 σ0 n L q) : ∀ d, S4 σ0 n L q c k0 A0 d ∧ S5 σ0 n L q c k0 A0 d ∧ S6 σ0 n L q c k0 A0 d
  | 0 => ⟨fun σ p o cd k _ h => absurd h (by omega), fun σ p o cd k _ h => absurd h (by omega), fun σ p o cd k _ h => absurd h (by omega)⟩
  | d + 1 => ⟨step4 h0 (arith h0 d).2.1, step5 h0 (arith h0 d).2.2, step6 h0 (arith h0 d).1⟩
end
