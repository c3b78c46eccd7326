section
variable {τ0 τ : zS} {n s p o k : Nat} {W Wb : List Nat} {cd : Nat → Nat}
theorem MS_push (hm : mR τ0.2) {P F O V : Int32} {A B : Nat → Int32} {w : Nat} (hs : stw B W) : stw (upd B W.length (nI w)) (w :: W) := ⟨pk_us, stw_upd hs (Nat.le_refl _)⟩
theorem m_sum14 (h0 : M0 τ0 n) (Kd : Nat → Nat → (Nat → Nat) → Nat → zX0) (hb : nAr Wb) : ∀ (N : Nat) (τ : zS) (p o : Nat) (W : List Nat) (cd : Nat → Nat) (k : Nat), MS τ0 n s τ p o (W ++ Wb) cd k → SIMS τ0 n s Wb Kd (fX7_readsSum_14 N 0 (nI Wb.length) τ) (yL (sgn (τ0.1 7) n) Kd N p o W cd k) := by
  intro N
  induction N with
  | zero => intro τ p o W cd k h; exact Or.inr (Or.inr rfl)
  | succ N ih =>
    intro τ p o W cd k h
    have hn := h0.2.1
    have hp := MS_n h
    have hWl : W.length < zFU := by
      obtain ⟨F, V, A, B, rfl, hs, hc, i1, i2, i3, i4, i5⟩ := id h
      have : W.length ≤ (W ++ Wb).length := by simp
      unfold zFU
      omega
    have cl : ∀ al : Bool, ∃ τ', fX7_closesSums 0 (if al = true then 1 else 0) τ = some ((), τ') ∧ MS τ0 n s τ' p o ((yC al W cd k).1 ++ Wb) (yC al W cd k).2.1 (yC al W cd k).2.2 := fun al => m_cl h0 al hb zFU W τ cd k hWl h
    have e138 : ssg (sgn (τ0.1 7) n p) = 0 → ¬ (sgn (τ0.1 7) n p = 93 ∧ hsO W = true) → SIMS τ0 n s Wb Kd (bX7_readsSum_138 0 (nI Wb.length) τ) (yL (sgn (τ0.1 7) n) Kd (N + 1) p o W cd k) := by
      intro z1 z2
      unfold bX7_readsSum_138
      rw [m_has h0 h, zb_s, yL, if_neg (show ¬ ¬ ssg (sgn (τ0.1 7) n p) = 0 from fun q => q z1), if_neg z2]
      by_cases c : hsO W = true
      · rw [if_pos c, if_neg n10, if_pos c]
        obtain ⟨τ', w1, w2⟩ := m_wrong 1 (by omega) (by omega) h
        rw [show (1 : Int32) = nI 1 from rfl, w1, zb_s]
        exact Or.inr (Or.inl ⟨τ', _, rfl, w2, rfl⟩)
      · rw [if_neg c, if_pos rfl, if_neg c]
        obtain ⟨τ', w1, w2⟩ := cl true
        have w1 : fX7_closesSums 0 1 τ = some ((), τ') := w1
        rw [w1, zb_s]
        match hy : (yC true W cd k).1 with
        | [] =>
          rw [hy] at w2
          exact Or.inl ⟨τ', p, o, _, _, rfl, w2, rfl⟩
        | _ :: _ => exact Or.inr (Or.inr rfl)
    show SIMS τ0 n s Wb Kd (bX7_readsSum_14 (fX7_readsSum_14 N) 0 (nI Wb.length) τ) _
    unfold bX7_readsSum_14 bX7_readsSum_163
    rw [m_here h0 h, zb_s, m_ssg, zb_s]
    by_cases z : ssg (sgn (τ0.1 7) n p) = 0
    · rw [if_pos z, if_pos rfl, m_here h0 h, zb_s]
      by_cases c : sgn (τ0.1 7) n p = 93
      · rw [if_pos c, m_has h0 h, zb_s]
        by_cases d : hsO W = true
        · rw [if_pos d, if_neg n10]
          obtain ⟨τ', w1, w2⟩ := cl true
          have w1 : fX7_closesSums 0 1 τ = some ((), τ') := w1
          rw [w1, zb_s, yL, if_neg (show ¬ ¬ ssg (sgn (τ0.1 7) n p) = 0 from fun q => q z), if_pos ⟨c, d⟩]
          match hy : (yC true W cd k).1 with
          | [] => exact Or.inr (Or.inr rfl)
          | w :: W2 =>
            rw [hy] at w2
            show SIMS τ0 n s Wb Kd _ (if w = 14680064 then _ else none)
            by_cases e : w = 14680064
            · rw [if_pos e]
              subst e
              obtain ⟨F, V, A, B, rfl, hs, hc, i1, i2, i3, i4, i5⟩ := w2
              have i2 : (W2 ++ Wb).length + 1 ≤ p := i2
              have i4 : o = 1 + opn (W2 ++ Wb) := i4
              have i1 : (yC true W cd k).2.2 + (0 + wtN (W2 ++ Wb)) + s ≤ p := i1
              have hlt := sgn_in c (by decide)
              rw [bnd_e, rk17, mk17, bnd_e, rk15, mk15, bnd_e, rk12, mk12]
              have e1 : nI (14680064 :: W2 ++ Wb).length - (1 : Int32) = nI (W2 ++ Wb).length := nI_pred _
              have e2 : nI o - (1 : Int32) = nI (o - 1) := by
                obtain ⟨o', rfl⟩ : ∃ j, o = j + 1 := ⟨o - 1, by omega⟩
                exact nI_pred _
              have e3 : nI p + (1 : Int32) = nI (p + 1) := nI_1 _
              rw [e1, e2, e3]
              exact ih _ (p + 1) (o - 1) W2 _ _ ⟨F, V, A, B, rfl, hs.2, hc, by omega, by omega, by omega, by omega, i5.2⟩
            · rw [if_neg e]
              exact Or.inr (Or.inr rfl)
        · rw [if_neg d, if_pos rfl]
          exact e138 z (fun q => d q.2)
      · rw [if_neg c]
        exact e138 z (fun q => c q.1)
    · have hs2 := ssg_2 z
      have hs6 := ssg_le (sgn (τ0.1 7) n p)
      have hlt : p < n := by
        by_cases e : p < n
        · exact e
        · exfalso
          apply z
          unfold sgn
          rw [if_neg e]
          rfl
      have go : ∀ al : Bool, al = decide (ssg (sgn (τ0.1 7) n p) < 4) → SIMS τ0 n s Wb Kd (bX7_readsSum_38 (fun (v0 : Nat) (v1 : Int32) (σ : zS) => fX7_readsSum_14 N v0 v1 σ) 0 (nI Wb.length) (nI (ssg (sgn (τ0.1 7) n p))) 0 (if al = true then 1 else 0) τ) (yL (sgn (τ0.1 7) n) Kd (N + 1) p o W cd k) := by
        intro al hal
        rw [yL, if_pos z, ← hal]
        generalize ssg (sgn (τ0.1 7) n p) = m at *
        obtain ⟨τ', w1, w2⟩ := cl al
        unfold bX7_readsSum_38
        rw [w1, zb_s]
        obtain ⟨F, V, A, B, rfl, hs, hc, i1, i2, i3, i4, i5⟩ := w2
        rw [rkR, mm21 h0.1, bnd_e, rk17, zX_n (by omega) (by omega), bnd_e, cl_n (by omega), mk9, bnd_e, rk17, mk17, bnd_e, rk12, mk12, nI_1, nI_1, show (1048576 : Int32) = nI 1048576 from rfl, pk_mul]
        have em : 1048576 * m / 1048576 = m := Nat.mul_div_cancel_left m (by omega)
        have hM : MS τ0 n s (mkM τ0 (nI (p + 1)) F (nI o) (nI (yC al W cd k).2.2) (nI (((yC al W cd k).1 ++ Wb).length + 1)) V A (upd B ((yC al W cd k).1 ++ Wb).length (nI (1048576 * m)))) (p + 1) o ((1048576 * m :: (yC al W cd k).1) ++ Wb) (yC al W cd k).2.1 (yC al W cd k).2.2 := by
          refine ⟨F, V, A, _, rfl, ⟨pk_us, stw_upd hs (Nat.le_refl _)⟩, hc, ?_, ?_, by omega, ?_, ⟨⟨by omega, fun a b => by omega⟩, i5⟩⟩
          · show _ + ((if 1048576 * m / 1048576 ≤ 10 then 1 else 0) + wtN ((yC al W cd k).1 ++ Wb)) + s ≤ p + 1
            rw [if_pos (by omega)]
            omega
          · show ((yC al W cd k).1 ++ Wb).length + 1 ≤ p + 1
            omega
          · show o = (if 1048576 * m / 1048576 = 10 ∨ 1048576 * m / 1048576 = 13 ∨ 1048576 * m / 1048576 = 14 then 1 else 0) + opn ((yC al W cd k).1 ++ Wb)
            rw [if_neg (by omega), Nat.zero_add]
            exact i4
        rcases m_fac h0 (yL (sgn (τ0.1 7) n) Kd N) zFU _ _ _ _ hM with ⟨τ1, p1, o1, W1, cd1, k1, x1, x2, x3⟩ | ⟨τ1, e, x1, x2, x3⟩ | x3
        · rw [show fX7_readsFactor 0 = fX7_readsFactor_0 zFU 0 from rfl, x1, zb_s, if_neg n10, x3]
          exact ih τ1 p1 o1 W1 cd1 k1 x2
        · rw [show fX7_readsFactor 0 = fX7_readsFactor_0 zFU 0 from rfl, x1, zb_s, if_pos rfl, x3]
          exact Or.inr (Or.inl ⟨τ1, e, rfl, x2, rfl⟩)
        · rw [x3]
          exact Or.inr (Or.inr rfl)
      rw [if_neg z, if_neg (by
        have key : ∀ m, m < 7 → ¬ nI m = -1 := by decide +kernel
        exact key _ (by omega))]
      by_cases c : ssg (sgn (τ0.1 7) n p) < 4
      · rw [if_neg (show ¬ (4 : Int32) ≤ nI _ from geL 4 (4 : Int32) rfl c (by omega))]
        exact go true (decide_eq_true c).symm
      · rw [if_pos (show (4 : Int32) ≤ nI _ from nI_le (a := 4) (by omega) (by omega))]
        exact go false (decide_eq_false c).symm
theorem m_sum (h0 : M0 τ0 n) (Kd : Nat → Nat → (Nat → Nat) → Nat → zX0) (hb : nAr W) (h : MS τ0 n s τ p o W cd k) : SIMS τ0 n s W Kd (fX7_readsSum 0 τ) (yF (sgn (τ0.1 7) n) (yL (sgn (τ0.1 7) n) Kd zFU) zFU p o [] cd k) := by
  have h17 : τ.1 0 17 = nI W.length := by obtain ⟨F, V, A, B, rfl, -⟩ := h; rfl
  unfold fX7_readsSum
  rw [bnd_e, h17]
  rcases m_fac h0 (Wb := W) (yL (sgn (τ0.1 7) n) Kd zFU) zFU τ p o [] h with ⟨τ1, p1, o1, W1, cd1, k1, x1, x2, x3⟩ | ⟨τ1, e, x1, x2, x3⟩ | x3
  · rw [show fX7_readsFactor 0 = fX7_readsFactor_0 zFU 0 from rfl, x1, zb_s, if_neg n10, x3]
    exact m_sum14 h0 Kd hb zFU τ1 p1 o1 W1 cd1 k1 x2
  · rw [show fX7_readsFactor 0 = fX7_readsFactor_0 zFU 0 from rfl, x1, zb_s, if_pos rfl, x3]
    exact Or.inr (Or.inl ⟨τ1, e, rfl, x2, rfl⟩)
  · rw [x3]
    exact Or.inr (Or.inr rfl)
theorem m_ends (h0 : M0 τ0 n) : ∀ (N : Nat) (W : List Nat) (τ : zS) (o : Nat) (cd : Nat → Nat) (k : Nat), W.length < N → MS τ0 n s τ p o W cd k → ∃ τ', fX7_endsPiece_0 N 0 τ = some ((), τ') ∧ MS τ0 n s τ' p (yE W o cd k).2.1 (yE W o cd k).1 (yE W o cd k).2.2.1 (yE W o cd k).2.2.2 := by
  intro N
  induction N with
  | zero => intro W τ o cd k h; exact absurd h (by omega)
  | succ N ih =>
    intro W τ o cd k hN h
    obtain ⟨F, V, A, B, rfl, hs, hc, i1, i2, i3, i4, i5⟩ := id h
    have hn := h0.2.1
    have ht := m_top h0 (P := nI p) (F := F) (O := nI o) (K := nI k) (V := V) (A := A) hs (by omega) i5
    show ∃ τ', bX7_endsPiece_0 (fX7_endsPiece_0 N) 0 _ = _ ∧ _
    unfold bX7_endsPiece_0
    rw [ht, zb_s]
    match W, h, hs, hN, i1, i2, i4, i5 with
    | [], h, hs, hN, i1, i2, i4, i5 => exact ⟨_, by rw [if_neg (show ¬ tpv [] = (10 : Int32) by decide)], h⟩
    | w :: W, h, hs, hN, i1, i2, i4, i5 =>
      have hw := i5.1.1
      have i2 : W.length + 1 ≤ p := i2
      have hN : W.length + 1 < N + 1 := hN
      show ∃ τ', (if nI (w / 1048576) = (10 : Int32) then _ else _) = _ ∧ _
      by_cases c : w / 1048576 = 10
      · have i1 : k + ((if w / 1048576 ≤ 10 then 1 else 0) + wtN W) + s ≤ p := i1
        have i4 : o = (if w / 1048576 = 10 ∨ w / 1048576 = 13 ∨ w / 1048576 = 14 then 1 else 0) + opn W := i4
        rw [if_pos (by omega)] at i1
        rw [if_pos (by omega)] at i4
        rw [c, if_pos (show nI 10 = (10 : Int32) from rfl), show (10 : Int32) = nI 10 from rfl, show (0 : Int32) = nI 0 from rfl, m_says h0 10 0 (by omega), zb_s, bnd_e, rk17, mk17, show nI (w :: W).length - 1 = nI W.length from nI_pred _, bnd_e, rk15, mk15]
        have e2 : nI o - 1 = nI (o - 1) := by
          obtain ⟨o', rfl⟩ : ∃ j, o = j + 1 := ⟨o - 1, by omega⟩
          exact nI_pred _
        rw [e2, yE, if_pos c]
        exact ih W _ (o - 1) _ (k + 1) (by omega) ⟨F, V, _, B, rfl, hs.2, code_up hc (by omega), by omega, by omega, i3, by omega, aOK_up (by omega) i5.2⟩
      · rw [if_neg (show ¬ nI (w / 1048576) = (10 : Int32) from fun q => c ((nI_eq (b := 10) (by omega) (by omega)).mp q)), yE, if_neg c]
        exact ⟨_, rfl, h⟩
theorem m_lands (h0 : M0 τ0 n) (al : Bool) : ∀ (N : Nat) (W : List Nat) (τ : zS) (cd : Nat → Nat), W.length < N → MS τ0 n s τ p o W cd k → ∃ τ', fX7_lands_0 N 0 (if al = true then 1 else 0) τ = some ((), τ') ∧ MS τ0 n s τ' p o (yD al W cd k).1 (yD al W cd k).2 k := by
  intro N
  induction N with
  | zero => intro W τ cd h; exact absurd h (by omega)
  | succ N ih =>
    intro W τ cd hN h
    obtain ⟨F, V, A, B, rfl, hs, hc, i1, i2, i3, i4, i5⟩ := id h
    have hn := h0.2.1
    have ht := m_top h0 (P := nI p) (F := F) (O := nI o) (K := nI k) (V := V) (A := A) hs (by omega) i5
    show ∃ τ', bX7_lands_0 (fX7_lands_0 N) 0 _ _ = _ ∧ _
    unfold bX7_lands_0
    simp only [ht, zb_s]
    match W, h, hs, hN, i1, i2, i4, i5 with
    | [], h, hs, hN, i1, i2, i4, i5 =>
      refine ⟨_, ?_, h⟩
      rw [if_neg (show ¬ tpv [] = (11 : Int32) by decide), if_neg (show ¬ tpv [] = (12 : Int32) by decide)]
      split <;> rfl
    | w :: W, h, hs, hN, i1, i2, i4, i5 =>
      have hw := i5.1.1
      have i2 : W.length + 1 ≤ p := i2
      have hN : W.length + 1 < N + 1 := hN
      have t11 : nI (w / 1048576) = (11 : Int32) ↔ w / 1048576 = 11 := nI_eq (b := 11) (by omega) (by omega)
      have t12 : nI (w / 1048576) = (12 : Int32) ↔ w / 1048576 = 12 := nI_eq (b := 12) (by omega) (by omega)
      show ∃ τ', (if nI (w / 1048576) = (11 : Int32) then _ else if (if al = true then (1 : Int32) else 0) = 0 then _ else if nI (w / 1048576) = (12 : Int32) then _ else _) = _ ∧ _
      by_cases c : w / 1048576 = 11 ∨ (al = true ∧ w / 1048576 = 12)
      · have i1 : k + ((if w / 1048576 ≤ 10 then 1 else 0) + wtN W) + s ≤ p := i1
        have i4 : o = (if w / 1048576 = 10 ∨ w / 1048576 = 13 ∨ w / 1048576 = 14 then 1 else 0) + opn W := i4
        rw [if_neg (by omega)] at i1
        rw [if_neg (by omega)] at i4
        have hx : w % 1048576 < k := i5.1.2 (by omega) (by omega)
        obtain ⟨c1, c2⟩ := hc _ hx
        rw [yD, if_pos c]
        have go : ∃ τ', bX7_lands_22 (fX7_lands_0 N) 0 (if al = true then 1 else 0) (mkM τ0 (nI p) F (nI o) (nI k) (nI (w :: W).length) V A B) = some ((), τ') ∧ MS τ0 n s τ' p o (yD al W (uN cd (w % 1048576) (1048576 * (cd (w % 1048576) / 1048576) + k)) k).1 (yD al W (uN cd (w % 1048576) (1048576 * (cd (w % 1048576) / 1048576) + k)) k).2 k := by
          unfold bX7_lands_22
          rw [rkR, mm21 h0.1, mm20 h0.1, bnd_e, rk17, show nI (w :: W).length - 1 = nI W.length from nI_pred _, zX_n (by omega) (by omega), cl_n (by omega), rk9, hs.1, show (1048576 : Int32) = nI 1048576 from rfl, pk_rem (by omega) (by omega) (by omega), bnd_e, bnd_e, bnd_e, zX_n (by omega) (by omega), cl_n (by omega), rk8, c1, pk_div (by omega) (by omega) (by omega), pk_mul, bnd_e, zX_n (by omega) (by omega), rk16, nI_add, mk8, bnd_e, rk17, mk17, show nI (w :: W).length - 1 = nI W.length from nI_pred _, bnd_e]
          refine ih W _ _ (by omega) ⟨F, V, _, B, rfl, hs.2, fun i hi => ?_, by omega, by omega, i3, by omega, i5.2⟩
          by_cases e : i = w % 1048576
          · subst e
            rw [pk_us, uN_s]
            exact ⟨rfl, by omega⟩
          · rw [pk_un e, uN_o e]
            exact hc i hi
        rcases c with c | ⟨rfl, c⟩
        · rw [if_pos (t11.mpr c)]; exact go
        · rw [if_neg (fun q => by have := t11.mp q; omega), if_neg (by decide), if_pos (t12.mpr c)]; exact go
      · rw [yD, if_neg c, if_neg (fun q => c (Or.inl (t11.mp q)))]
        cases al with
        | false => exact ⟨_, rfl, h⟩
        | true =>
          rw [if_neg (by decide), if_neg (fun q => c (Or.inr ⟨rfl, t12.mp q⟩))]
          exact ⟨_, rfl, h⟩
theorem m_jumps (h0 : M0 τ0 n) {m : Nat} (hm : m = 11 ∨ m = 12) (h : MS τ0 n s τ p o W cd k) (hp : p < n) : ∃ τ', fX7_jumps 0 (nI m) τ = some ((), τ') ∧ MS τ0 n s τ' (p + 1) o ((1048576 * m + k) :: W) (uN cd k (1048576 * m)) (k + 1) := by
  have hn := h0.2.1
  obtain ⟨F, V, A, B, rfl, hs, hc, i1, i2, i3, i4, i5⟩ := id h
  unfold fX7_jumps
  rw [rkR, mm21 h0.1, bnd_e, rk17, zX_n (by omega) (by omega), bnd_e, cl_n (by omega), rk16, show (1048576 : Int32) = nI 1048576 from rfl, pk_mul, nI_add, mk9, bnd_e, rk17, mk17, nI_1, show (0 : Int32) = nI 0 from rfl, m_says h0 m 0 (by omega), zb_s, bnd_e, rk12, mk12, nI_1]
  refine ⟨_, rfl, F, V, _, _, rfl, ⟨pk_us, stw_upd hs (Nat.le_refl _)⟩, code_up hc (by omega), ?_, ?_, by omega, ?_, ⟨⟨by omega, fun a b => by omega⟩, aOK_up (by omega) i5⟩⟩
  · show k + 1 + ((if (1048576 * m + k) / 1048576 ≤ 10 then 1 else 0) + wtN W) + s ≤ p + 1
    rw [if_neg (by omega)]
    omega
  · show W.length + 1 ≤ p + 1
    omega
  · show o = (if (1048576 * m + k) / 1048576 = 10 ∨ (1048576 * m + k) / 1048576 = 13 ∨ (1048576 * m + k) / 1048576 = 14 then 1 else 0) + opn W
    rw [if_neg (by omega), Nat.zero_add]
    exact i4
end
