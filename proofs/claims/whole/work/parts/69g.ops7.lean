/-! ===== who strays from the law: otherwise, suspects ===== -/
theorem fct_cc {w : Nat} {so so' kn kn' hi hi' : Nat → Int32} {g : Int32} {pr pr' : Nat → Int32} {s t : Nat} (hs : s < 24) (h0 : ∀ q, q < 24 → so q = so' q) (hk : kn s = kn' s) (h1 : ∀ q, q < 24 → hi q = hi' q) (h2 : ∀ q, q < 24 → pr q = pr' q) : fct w so kn hi g pr s t = fct w so' kn' hi' g pr' s t := by
  funext k
  unfold fct
  rw [h2 s hs, hk, cn_cong (p := fun q => decide (¬ so q = -1) && (near w s q && decide (pr q = 1))) (q := fun q => decide (¬ so' q = -1) && (near w s q && decide (pr' q = 1))) (fun q hq => by rw [h2 q hq, h0 q hq]), cn_cong (p := fun q => decide (¬ so q = -1) && (near w s q && decide (pr q = 2))) (q := fun q => decide (¬ so' q = -1) && (near w s q && decide (pr' q = 2))) (fun q hq => by rw [h2 q hq, h0 q hq]), cn_cong (p := fun q => decide (¬ so q = -1) && decide (pr q = 1)) (q := fun q => decide (¬ so' q = -1) && decide (pr' q = 1)) (fun q hq => by rw [h2 q hq, h0 q hq]), cn_cong (p := fun q => decide (¬ so q = -1) && decide (pr q = 2)) (q := fun q => decide (¬ so' q = -1) && decide (pr' q = 2)) (fun q hq => by rw [h2 q hq, h0 q hq]), cn_cong (p := fun q => decide (¬ so q = -1)) (q := fun q => decide (¬ so' q = -1)) (fun q hq => by rw [h0 q hq]), cn_cong (p := fun q => decide (¬ so q = -1) && (near w s q && decide (¬ hi q = 0))) (q := fun q => decide (¬ so' q = -1) && (near w s q && decide (¬ hi' q = 0))) (fun q hq => by rw [h1 q hq, h0 q hq])]
def kF (τ : zS) (e t q : Nat) : Int32 := τ.1 23 (960 * e + 24 * t + q)
def kSo (τ : zS) (e q : Nat) : Int32 := τ.1 24 (24 * e + q)
def kKn (τ : zS) (e q : Nat) : Int32 := τ.1 25 (24 * e + q)
def kPa (τ : zS) (e q : Nat) : Int32 := τ.1 26 (24 * e + q)
def sV (τ : zS) (e s t : Nat) : Int32 := mLw τ (kSo τ e s) (fct (τ.1 30 e).toNatClampNeg (kSo τ e) (kKn τ e) (kPa τ e) (if kKn τ e s = 1 then τ.1 27 (40 * e + t) else τ.1 28 (40 * e + t)) (pv (kF τ e) t) s t)
def strE (τ : zS) (e s : Nat) : Nat := if kSo τ e s = -1 then 0 else cn (fun t => decide (¬ sV τ e s t = kF τ e t s)) (τ.1 29 e).toNatClampNeg
def sumN (f : Nat → Nat) : Nat → Nat
  | 0 => 0
  | n + 1 => sumN f n + f n
theorem strE_s {τ τ' : zS} (h : mS τ τ') (e s : Nat) : strE τ' e s = strE τ e s := by
  unfold strE sV kSo kKn kPa kF mLw
  rw [h.1 13 (by omega), h.1 14 (by omega), h.1 15 (by omega), h.1 16 (by omega), h.1 17 (by omega), h.1 24 (by omega), h.1 25 (by omega), h.1 26 (by omega), h.1 27 (by omega), h.1 28 (by omega), h.1 29 (by omega), h.1 30 (by omega)]
  have : ∀ t q, τ'.1 23 (960 * e + 24 * t + q) = τ.1 23 (960 * e + 24 * t + q) := fun t q => by rw [h.1 23 (by omega)]
  simp only [this]
def XA : Nat → Bool := fun a => decide (a = 153 ∨ a = 154 ∨ a = 155)
theorem XA_f {a : Nat} (h : ¬ (a = 153 ∨ a = 154 ∨ a = 155)) : XA a = false := decide_eq_false h
theorem Rel_A {σ σ' τ : zS} (h : Rel σ τ) (hs : cSm XA σ σ') (hc : cCa σ') : Rel σ' τ := by
  have hS : cS σ σ' := ⟨hs.up (fun k q => XA_f (by have := of_decide_eq_false q; omega)), fun b _ => by rw [hs.1 0 (XA_f (by omega))]⟩
  exact ⟨core_s h.1 hS (mS.rf τ), hc, fresh_s h.2.2 (by rw [hs.1 0 (XA_f (by omega))]) (by rw [hs.1 1 (XA_f (by omega))]) (hs.1 6 (XA_f (by omega))) (hs.1 7 (XA_f (by omega))) (mS.rf τ)⟩
/-- references of kept evening e -/
theorem kr {r : Nat → Nat → Nat} (h : cR r) {e : Nat} (he : e < 20) : r 12 e = 13 + 7 * e ∧ r (13 + 7 * e) 0 = 17 + 7 * e ∧ r (13 + 7 * e) 1 = 14 + 7 * e ∧ r (13 + 7 * e) 2 = 18 + 7 * e ∧ r (13 + 7 * e) 3 = 19 + 7 * e ∧ r (14 + 7 * e) 1 = 15 + 7 * e ∧ r (14 + 7 * e) 2 = 16 + 7 * e := by
  have all : ∀ e, e < 20 → cT 12 e = 13 + 7 * e ∧ cT (13 + 7 * e) 0 = 17 + 7 * e ∧ cT (13 + 7 * e) 1 = 14 + 7 * e ∧ cT (13 + 7 * e) 2 = 18 + 7 * e ∧ cT (13 + 7 * e) 3 = 19 + 7 * e ∧ cT (14 + 7 * e) 1 = 15 + 7 * e ∧ cT (14 + 7 * e) 2 = 16 + 7 * e := by decide +kernel
  obtain ⟨a1, a2, a3, a4, a5, a6, a7⟩ := all e he
  exact ⟨cr_ h _ _ _ a1 (by omega), cr_ h _ _ _ a2 (by omega), cr_ h _ _ _ a3 (by omega), cr_ h _ _ _ a4 (by omega), cr_ h _ _ _ a5 (by omega), cr_ h _ _ _ a6 (by omega), cr_ h _ _ _ a7 (by omega)⟩
theorem c_shM {σ : zS} {E Bi : Nat} (a : Int32) : fX3_showing E (-1) a σ = some (0, σ) := by
  unfold fX3_showing fX3_hasSecond
  rw [if_pos (by decide), zb_s, if_pos rfl]
theorem c_strIn {σ τ : zS} (h : Rel σ τ) {K e s : Nat} (hK : K ≤ 20) (hK2 : σ.1 0 4 = nI K) (he : e < K) (hs : s < 24) : ∃ σ', fX6_straysIn 0 (13 + 7 * e) (nI s) σ = some (nI (strE τ e s), σ') ∧ cSm XA σ σ' ∧ Rel σ' τ := by
  obtain ⟨hco, hca, hfr⟩ := id h
  obtain ⟨hR, -, -, -, -, -, -, -, -, hlw, ⟨K', k1, k2, k3, k4⟩⟩ := id hco
  have : K' = K := (nI_eq (by omega) (by omega)).mp (k2.symm.trans hK2)
  subst this
  obtain ⟨N, w, ⟨N1, N2, N3, N4⟩, ⟨w1, w2, w3, w4⟩, hg, hev, hsum, -, hok⟩ := k4 e he
  have w4 : pCrowd (σ.1 (17 + 7 * e)) (nI w) (kSo τ e) (kKn τ e) (kPa τ e) := w4
  have he2 : e < 20 := by omega
  obtain ⟨r1, r2, r3, r4, r5, r6, r7⟩ := kr hR he2
  unfold fX6_straysIn
  rw [bnd_e, r2, c_has w4 hs, zb_s]
  have hcl : (τ.1 29 e).toNatClampNeg = N := by rw [N4, cl_n (by omega)]
  by_cases c : kSo τ e s = -1
  · rw [if_pos c, if_pos rfl]
    exact ⟨σ, by unfold strE; rw [if_pos c]; rfl, cSm.rf XA σ, h⟩
  · rw [if_neg c, if_neg n10, bnd_e, r2, c_sortOf w4 hs, zb_s]
    have hE : strE τ e s = cn (fun t => decide (¬ sV τ e s t = kF τ e t s)) N := by unfold strE; rw [if_neg c, hcl]
    rw [hE]
    have loop : ∀ (n t : Nat) (σc : zS), t ≤ N → N < t + n → cSm XA σ σc → cCa σc → ∃ σ', fX6_straysIn_28 n 0 (13 + 7 * e) (nI s) (kSo τ e s) (nI (cn (fun t => decide (¬ sV τ e s t = kF τ e t s)) t)) (nI t) σc = some (nI (cn (fun t => decide (¬ sV τ e s t = kF τ e t s)) N), σ') ∧ cSm XA σ σ' ∧ cCa σ' := by
      intro n
      induction n with
      | zero => intro t σc h1 h2; exact absurd h2 (by omega)
      | succ n ih =>
        intro t σc h1 h2 hS hc
        have hRc : cR σc.2 := hS.R hR
        obtain ⟨r1, r2, r3, r4, r5, r6, r7⟩ := kr hRc he2
        have f14 : σc.1 (14 + 7 * e) = σ.1 (14 + 7 * e) := hS.1 _ (XA_f (by omega))
        have N3' : σc.1 (14 + 7 * e) 0 = nI N := by rw [f14]; exact N3
        show ∃ σ', bX6_straysIn_28 (fX6_straysIn_28 n) 0 (13 + 7 * e) (nI s) (kSo τ e s) _ (nI t) σc = _ ∧ _
        unfold bX6_straysIn_28 bX6_straysIn_87
        rw [bnd_e, r3, N3']
        by_cases et : t = N
        · rw [et, if_pos (nI_le (Nat.le_refl _) (by omega))]
          exact ⟨σc, rfl, hS, hc⟩
        · have ht : t < N := by omega
          rw [if_neg (nI_ge ht (by omega)), bnd_e, cr_ hRc 0 5 153 rfl (by decide)]
          have f18 : σc.1 (18 + 7 * e) = σ.1 (18 + 7 * e) := hS.1 _ (XA_f (by omega))
          have f19 : σc.1 (19 + 7 * e) = σ.1 (19 + 7 * e) := hS.1 _ (XA_f (by omega))
          have f17 : σc.1 (17 + 7 * e) = σ.1 (17 + 7 * e) := hS.1 _ (XA_f (by omega))
          have hev' : evB (kF τ e) N (σc.1 (18 + 7 * e)) (σc.1 (19 + 7 * e)) := by rw [f18, f19]; exact hev
          have hsh : ∃ x y, fX3_showing (13 + 7 * e) (nI t - 1) 1 σc = some (x, σc) ∧ fX3_showing (13 + 7 * e) (nI t - 1) 2 σc = some (y, σc) ∧ bs x (fun q => decide (pv (kF τ e) t q = 1)) ∧ bs y (fun q => decide (pv (kF τ e) t q = 2)) := by
            by_cases t0 : t = 0
            · refine ⟨0, 0, ?_, ?_, bs_c bs_0 (fun q _ => by unfold pv; rw [if_pos t0]; decide), bs_c bs_0 (fun q _ => by unfold pv; rw [if_pos t0]; decide)⟩
              · rw [t0]; exact c_shM (Bi := 0) 1
              · rw [t0]; exact c_shM (Bi := 0) 2
            · have e1 : nI t - 1 = nI (t - 1) := by rw [show t = (t - 1) + 1 by omega]; exact nI_pred _
              rw [e1]
              refine ⟨_, _, c_sh1 r3 r4 N3' N2 (by omega), c_sh2 r3 r5 N3' N2 (by omega), ?_, ?_⟩
              · unfold pv; rw [if_neg t0]; exact (hev' (t - 1) (by omega)).1
              · unfold pv; rw [if_neg t0]; exact (hev' (t - 1) (by omega)).2
          obtain ⟨x, y, x1, y1, hx, hy⟩ := hsh
          have hpp : pOK (kSo τ e) (pv (kF τ e) t) := by
            unfold pv
            by_cases t0 : t = 0
            · rw [if_pos t0]; exact fun q _ => ⟨Or.inl rfl, fun _ => rfl⟩
            · rw [if_neg t0]; exact hok (t - 1) (by omega)
          obtain ⟨σ1, s1, s2, s3⟩ := c_stand (σ := σc) (E := 13 + 7 * e) (Cr := 17 + 7 * e) (Bi := 14 + 7 * e) (Fk := 15 + 7 * e) (Fo := 16 + 7 * e) (w := w) (so := kSo τ e) (kn := kKn τ e) (hi := kPa τ e) (prev := pv (kF τ e) t) (t := t) x y (by omega) r2 r3 r6 r7 (by omega) (by omega) (by omega) (by omega) (cr_ hRc 153 0 154 rfl (by decide)) (cr_ hRc 153 1 155 rfl (by decide)) (by rw [f17]; exact w4) w1 w2 (by omega) hc hx hy hpp
          have hS1 : cSm XA σ σ1 := hS.tr (s2.up (fun k q => X3_f (by have := of_decide_eq_false q; omega)))
          have hR1 : cR σ1.2 := hS1.R hR
          have hl1 : cLaws σ1 (τ.1 13) (τ.1 14) (τ.1 15) (τ.1 16) (τ.1 17) := cLaws_s hS1 (fun a q1 q2 => XA_f (by omega)) hlw
          rw [hS.1 (15 + 7 * e) (XA_f (by omega)), hS.1 (16 + 7 * e) (XA_f (by omega)), (hg t (by omega)).1, (hg t (by omega)).2] at s3
          obtain ⟨A, hA⟩ := c_asked hR1 hl1 s3 (by omega) hs c
          have hV : lawV (τ.1 13) (τ.1 14) (τ.1 15) (τ.1 16) (τ.1 17) (kSo τ e s) (fct w (kSo τ e) (kKn τ e) (kPa τ e) (if kKn τ e s = 1 then τ.1 27 (40 * e + t) else τ.1 28 (40 * e + t)) (pv (kF τ e) t) s t) = sV τ e s t := by
            unfold sV mLw
            rw [w3, cl_n (by omega)]
          rw [hV] at hA
          have hS2 : cSm XA σ (zA1 σ1 154 A) := hS1.a (decide_eq_true (Or.inr (Or.inl rfl)))
          have hR2 : cR (zA1 σ1 154 A).2 := hR1
          obtain ⟨z1, z2, z3, z4, z5, z6, z7⟩ := kr hR2 he2
          rw [x1, zb_s, y1, zb_s, s1, zb_s, hA, zb_s, c_shown (σ := zA1 σ1 154 A) (N := N) (f := kF τ e) z3 z4 z5 (by rw [hS2.1 _ (XA_f (by omega))]; exact N3) N2 ht hs (by rw [hS2.1 _ (XA_f (by omega)), hS2.1 _ (XA_f (by omega))]; exact hev) ((hok t ht) s hs).1, zb_s, nI_1 t]
          have hc2 : cCa (zA1 σ1 154 A) := by
            have := std_Ca s3
            unfold cCa
            rw [zA1_o (by decide), zA1_o (by decide)]
            exact this
          obtain ⟨σ', y1, y2, y3⟩ := ih (t + 1) _ (by omega) (by omega) hS2 hc2
          refine ⟨σ', ?_, y2, y3⟩
          rw [← y1]
          have k1 := cn_1 (fun t => decide (¬ sV τ e s t = kF τ e t s)) t
          by_cases cc : sV τ e s t = kF τ e t s
          · rw [if_neg (show ¬ (fun t => decide (¬ sV τ e s t = kF τ e t s)) t = true from fun q => of_decide_eq_true q cc), Int32.add_zero] at k1
            rw [if_pos cc, k1]
          · rw [if_pos (show (fun t => decide (¬ sV τ e s t = kF τ e t s)) t = true from decide_eq_true cc)] at k1
            rw [if_neg cc, k1]
    obtain ⟨σ', y1, y2, y3⟩ := loop zFU 0 σ (by omega) (by unfold zFU; omega) (cSm.rf XA σ) hca
    exact ⟨σ', y1, y2, Rel_A h y2 y3⟩
theorem c_strays {σ τ : zS} (h : Rel σ τ) {K s : Nat} (hK : K ≤ 20) (hK2 : σ.1 0 4 = nI K) (hs : s < 24) : ∃ σ', fX6_strays 0 (nI s) σ = some (nI (sumN (fun e => strE τ e s) K), σ') ∧ cSm XA σ σ' ∧ Rel σ' τ := by
  have loop : ∀ (n e : Nat) (σc : zS), e ≤ K → K < e + n → cSm XA σ σc → Rel σc τ → ∃ σ', fX6_strays_4 n 0 (nI s) (nI (sumN (fun e => strE τ e s) e)) (nI e) σc = some (nI (sumN (fun e => strE τ e s) K), σ') ∧ cSm XA σ σ' ∧ Rel σ' τ := by
    intro n
    induction n with
    | zero => intro e σc h1 h2; exact absurd h2 (by omega)
    | succ n ih =>
      intro e σc h1 h2 hS hr
      have hRc : cR σc.2 := hr.1.1
      have k2 : σc.1 0 4 = nI K := by rw [hS.1 0 (XA_f (by omega))]; exact hK2
      show ∃ σ', bX6_strays_4 (fX6_strays_4 n) 0 (nI s) _ (nI e) σc = _ ∧ _
      unfold bX6_strays_4
      rw [k2]
      by_cases ee : e = K
      · rw [ee, if_pos (nI_le (Nat.le_refl _) (by omega))]
        exact ⟨σc, rfl, hS, hr⟩
      · rw [if_neg (nI_ge (show e < K by omega) (by omega)), bnd_e, if_neg (geL 20 (20 : Int32) rfl (show e < 20 by omega) (by omega)), bnd_e, cr_ hRc 0 3 12 rfl (by decide), zX_n (by omega) (by omega), bnd_e, cl_n (by omega), (kr hRc (show e < 20 by omega)).1]
        obtain ⟨σ1, q1, q2, q3⟩ := c_strIn hr hK k2 (show e < K by omega) hs
        rw [q1, zb_s, bnd_e, nI_add, nI_1]
        exact ih (e + 1) σ1 (by omega) (by omega) (hS.tr q2) q3
  exact loop zFU 0 σ (by omega) (by unfold zFU; omega) (cSm.rf XA σ) h
/-! the reference: otherThan -/
theorem m_oth_15 (k4 : Nat → Int32 → Int32 → Int32 → zS → Option (Int32 × zS)) {τ : zS} (hM : mR τ.2) {e : Nat} (he : e < 20) (v1 v2 : Int32) : ∀ (n s : Nat) (τc : zS), s ≤ 24 → 24 < s + n → mS τ τc → (∀ q, q < s → τc.1 33 q = kSo τ e q ∧ τc.1 34 q = kKn τ e q ∧ τc.1 35 q = kPa τ e q) → ∃ τd, mS τ τd ∧ (∀ q, q < 24 → τd.1 33 q = kSo τ e q ∧ τd.1 34 q = kKn τ e q ∧ τd.1 35 q = kPa τ e q) ∧ fX7_otherThan_15 k4 n 0 v1 v2 (nI e) (nI s) τc = bX7_otherThan_85 k4 0 v1 v2 (nI e) τd := by
  intro n
  induction n with
  | zero => intro s τc h1 h2; exact absurd h2 (by omega)
  | succ n ih =>
    intro s τc h1 h2 hm hq
    have hMc : mR τc.2 := by rw [hm.2.2]; exact hM
    show ∃ τd, mS τ τd ∧ _ ∧ bX7_otherThan_15 k4 (fX7_otherThan_15 k4 n) 0 v1 v2 (nI e) (nI s) τc = _
    unfold bX7_otherThan_15
    by_cases hs : s = 24
    · subst hs
      rw [if_pos (by decide)]
      exact ⟨τc, hm, hq, rfl⟩
    · have hs : s < 24 := by omega
      have hx : (24 : Int32) * nI e + nI s = nI (24 * e + s) := by
        show nI 24 * nI e + nI s = _
        rw [pk_mul, nI_add]
      simp only [bnd_e, zI_2, mm50 hMc, mm51 hMc, mm52 hMc, mm41 hMc, mm42 hMc, mm43 hMc]
      rw [if_neg (geL 24 (24 : Int32) rfl hs (by omega)), hx, zX_n (n := 480) (by omega) (by omega), zX_n hs (by omega), zX_n (n := 480) (by omega) (by omega), zX_n hs (by omega), zX_n (n := 480) (by omega) (by omega), zX_n hs (by omega), cl_n (i := s) (by omega), cl_n (i := 24 * e + s) (by omega), nI_1]
      refine ih (s + 1) _ (by omega) (by omega) (((hm.i2 (by omega)).i2 (by omega)).i2 (by omega)) (fun q hq' => ?_)
      have g24 : (zI (zI τc 33 s (τc.1 24 (24 * e + s))) 34 s ((zI τc 33 s (τc.1 24 (24 * e + s))).1 25 (24 * e + s))).1 26 = τ.1 26 := by rw [zI_ne (by decide), zI_ne (by decide), hm.1 26 (by omega)]
      have g25 : (zI τc 33 s (τc.1 24 (24 * e + s))).1 25 = τ.1 25 := by rw [zI_ne (by decide), hm.1 25 (by omega)]
      rw [g24, g25, hm.1 24 (by omega)]
      have a33 : (zI (zI (zI τc 33 s (τ.1 24 (24 * e + s))) 34 s (τ.1 25 (24 * e + s))) 35 s (τ.1 26 (24 * e + s))).1 33 q = if q = s then kSo τ e s else τc.1 33 q := by
        rw [zI_ne (by decide), zI_ne (by decide)]
        by_cases c : q = s
        · rw [c, zI_s, if_pos rfl]; rfl
        · rw [zI_o (by omega), if_neg c]
      have a34 : (zI (zI (zI τc 33 s (τ.1 24 (24 * e + s))) 34 s (τ.1 25 (24 * e + s))) 35 s (τ.1 26 (24 * e + s))).1 34 q = if q = s then kKn τ e s else τc.1 34 q := by
        rw [zI_ne (by decide)]
        by_cases c : q = s
        · rw [c, zI_s, if_pos rfl]; rfl
        · rw [zI_o (by omega), if_neg c, zI_ne (by decide)]
      have a35 : (zI (zI (zI τc 33 s (τ.1 24 (24 * e + s))) 34 s (τ.1 25 (24 * e + s))) 35 s (τ.1 26 (24 * e + s))).1 35 q = if q = s then kPa τ e s else τc.1 35 q := by
        by_cases c : q = s
        · rw [c, zI_s, if_pos rfl]; rfl
        · rw [zI_o (by omega), if_neg c, zI_ne (by decide), zI_ne (by decide)]
      rw [a33, a34, a35]
      by_cases c : q = s
      · rw [if_pos c, if_pos c, if_pos c, c]; exact ⟨rfl, rfl, rfl⟩
      · rw [if_neg c, if_neg c, if_neg c]; exact hq q (by omega)
theorem m_oth_88 (k4 : Nat → Int32 → Int32 → Int32 → zS → Option (Int32 × zS)) {σ τ : zS} (h : core σ τ) {K e s : Nat} (hK : K ≤ 20) (hK2 : τ.1 0 39 = nI K) (he : e < K) (hs : s < 24) (c0 : Nat) {τ0 : zS} (hm0 : mS τ τ0) (h0 : ∀ q, q < 24 → τ0.1 33 q = kSo τ e q ∧ τ0.1 34 q = kKn τ e q ∧ τ0.1 35 q = kPa τ e q) : ∃ τd, mS τ τd ∧ bX7_otherThan_85 k4 0 (nI s) (nI c0) (nI e) τ0 = k4 0 (nI s) (nI (c0 + strE τ e s)) (nI (e + 1)) τd := by
  obtain ⟨hR, -, hM, -, -, -, -, -, -, hlw, ⟨K', k1, k2, k3, k4'⟩⟩ := id h
  have : K' = K := (nI_eq (by omega) (by omega)).mp (k3.symm.trans hK2)
  subst this
  obtain ⟨N, w, ⟨N1, N2, N3, N4⟩, ⟨w1, w2, w3, w4⟩, hg, hev, hsum, -, hok⟩ := k4' e he
  have w4 : pCrowd (σ.1 (17 + 7 * e)) (nI w) (kSo τ e) (kKn τ e) (kPa τ e) := w4
  have hcl : (τ.1 29 e).toNatClampNeg = N := by rw [N4, cl_n (by omega)]
  unfold bX7_otherThan_85
  have hMc : ∀ τc, mS τ τc → mR τc.2 := fun τc hm => by rw [hm.2.2]; exact hM
  by_cases c : kSo τ e s = -1
  · refine ⟨τ0, hm0, ?_⟩
    have hM0 := hMc τ0 hm0
    show bX7_otherThan_88 k4 (fX7_otherThan_88 k4 4999) 0 (nI s) (nI c0) (nI e) 0 τ0 = _
    unfold bX7_otherThan_88 bX7_otherThan_229
    simp only [bnd_e, mm46 hM0, mm50 hM0]
    rw [zX_n (n := 20) (by omega) (by omega), zX_n hs (by omega), cl_n (i := s) (by omega), (h0 s hs).1, if_pos c, cl_n (i := e) (by omega), hm0.1 29 (by omega), N4, if_neg (nI_nle (by omega) (by omega)), nI_1]
    unfold strE
    rw [if_pos c, Nat.add_zero c0]
  · have hE : strE τ e s = cn (fun t => decide (¬ sV τ e s t = kF τ e t s)) N := by unfold strE; rw [if_neg c, hcl]
    rw [hE]
    have loop : ∀ (n t : Nat) (τc : zS), t ≤ N → N < t + n → mS τ τc → (∀ q, q < 24 → τc.1 33 q = kSo τ e q ∧ τc.1 34 q = kKn τ e q ∧ τc.1 35 q = kPa τ e q) → ∃ τd, mS τ τd ∧ fX7_otherThan_88 k4 n 0 (nI s) (nI (c0 + cn (fun t => decide (¬ sV τ e s t = kF τ e t s)) t)) (nI e) (nI t) τc = k4 0 (nI s) (nI (c0 + cn (fun t => decide (¬ sV τ e s t = kF τ e t s)) N)) (nI (e + 1)) τd := by
      intro n
      induction n with
      | zero => intro t τc h1 h2; exact absurd h2 (by omega)
      | succ n ih =>
        intro t τc h1 h2 hm hq
        have hM1 := hMc τc hm
        show ∃ τd, mS τ τd ∧ bX7_otherThan_88 k4 (fX7_otherThan_88 k4 n) 0 (nI s) _ (nI e) (nI t) τc = _
        unfold bX7_otherThan_88 bX7_otherThan_229
        simp only [bnd_e, mm46 hM1, mm50 hM1, mm51 hM1, mm44 hM1, mm45 hM1]
        rw [zX_n (n := 20) (by omega) (by omega), cl_n (i := e) (by omega), hm.1 29 (by omega), N4]
        by_cases et : t = N
        · rw [et, if_pos (nI_le (Nat.le_refl _) (by omega)), nI_1]
          exact ⟨τc, hm, rfl⟩
        · have ht : t < N := by omega
          have hx : (40 : Int32) * nI e + nI t = nI (40 * e + t) := by
            show nI 40 * nI e + nI t = _
            rw [pk_mul, nI_add]
          rw [if_neg (nI_ge ht (by omega)), zX_n hs (by omega), cl_n (i := s) (by omega), (hq s hs).1, if_neg c, zX_n hs (by omega), (hq s hs).2.1, hx, zX_n (n := 800) (by omega) (by omega), zX_n (n := 800) (by omega) (by omega), cl_n (i := 40 * e + t) (by omega), hm.1 27 (by omega), hm.1 28 (by omega)]
          have go : ∀ g : Int32, g = (if kKn τ e s = 1 then τ.1 27 (40 * e + t) else τ.1 28 (40 * e + t)) → ∃ τd, mS τ τd ∧ bX7_otherThan_146 (fX7_otherThan_88 k4 n) 0 (nI s) (nI (c0 + cn (fun t => decide (¬ sV τ e s t = kF τ e t s)) t)) (nI e) (nI t) g τc = k4 0 (nI s) (nI (c0 + cn (fun t => decide (¬ sV τ e s t = kF τ e t s)) N)) (nI (e + 1)) τd := by
            intro g hgv
            unfold bX7_otherThan_146 bX7_otherThan_221
            have e960 : (960 : Int32) * nI e = nI (960 * e) := pk_mul 960 e
            simp only [bnd_e, mm40 hM1, mm50 hM1, mm51 hM1, mm52 hM1, mm47 hM1]
            have hp : mPrev τc 19200 23 (960 * e) t (pv (kF τ e) t) := by
              refine ⟨fun q => by unfold pv; rw [if_pos q], fun q r hr => ⟨by omega, ?_⟩⟩
              unfold pv
              rw [if_neg (by omega), hm.1 23 (by omega)]
              rfl
            have hfe := m_feels 19200 (by omega) 23 (960 * e) 33 35 34 w s t g (pv (kF τ e) t) τc hM1 (by decide) (by decide) (by decide) (by decide) w1 w2 hs (by omega) hp
            have hfc : fct w (τc.1 33) (τc.1 34) (τc.1 35) g (pv (kF τ e) t) s t = fct w (kSo τ e) (kKn τ e) (kPa τ e) g (pv (kF τ e) t) s t := fct_cc hs (fun q hq' => (hq q hq').1) (hq s hs).2.1 (fun q hq' => (hq q hq').2.2) (fun _ _ => rfl)
            obtain ⟨F, hF, hfe⟩ : ∃ F : Nat → Int32, (∀ k, k < 12 → F k = fct w (kSo τ e) (kKn τ e) (kPa τ e) g (pv (kF τ e) t) s t k) ∧ fX7_feels 19200 0 23 (nI (960 * e)) 33 35 34 g (nI w) (nI s) (nI t) τc = some ((), zA1 τc 19 F) := by
              refine ⟨_, fun k hk => ?_, hfe⟩
              rw [if_pos hk, hfc]
            obtain ⟨j, hj, hje⟩ := (cr_so w4 hs).resolve_left c
            have hm2 : mS τ (zA1 τc 19 F) := hm.a (by omega)
            obtain ⟨m, -, -, hlc⟩ := hlw j hj
            obtain ⟨A, hA⟩ := m_byLaw (σ := zA1 τc 19 F) hj hM1 (by
              rw [hm2.1 13 (by omega), hm2.1 14 (by omega), hm2.1 15 (by omega), hm2.1 16 (by omega), hm2.1 17 (by omega)]
              exact lawC_M hlc)
            have hV : lawV ((zA1 τc 19 F).1 13) ((zA1 τc 19 F).1 14) ((zA1 τc 19 F).1 15) ((zA1 τc 19 F).1 16) ((zA1 τc 19 F).1 17) (nI j) ((zA1 τc 19 F).1 19) = sV τ e s t := by
              rw [hm2.1 13 (by omega), hm2.1 14 (by omega), hm2.1 15 (by omega), hm2.1 16 (by omega), hm2.1 17 (by omega), zA1_s]
              unfold sV mLw lawV
              rw [msk_eq hF, w3, cl_n (i := w) (by omega), hje, hgv]
            rw [hV] at hA
            rw [zX_n (n := 20) (by omega) (by omega), cl_n (i := e) (by omega), hm.1 30 (by omega), w3, e960, hfe, zb_s, zA1_2, mm50 hM1, zX_n hs (by omega), cl_n (i := s) (by omega), zA1_o (by decide), (hq s hs).1, hje, hA, zb_s]
            have hx2 : (nI (960 * e) + (24 : Int32) * nI t) + nI s = nI (960 * e + 24 * t + s) := by
              show (nI (960 * e) + nI 24 * nI t) + nI s = _
              rw [pk_mul, nI_add, nI_add]
            have hm3 : mS τ (zA1 (zA1 τc 19 F) 18 A) := hm2.a (by omega)
            rw [zA1_2, zA1_2, mm40 hM1, hx2, zX_n (n := 19200) (by omega) (by omega), cl_n (i := 960 * e + 24 * t + s) (by omega), hm3.1 23 (by omega), nI_1 t]
            obtain ⟨τd, y1, y2⟩ := ih (t + 1) _ (by omega) (by omega) hm3 (fun q hq' => by
              rw [zA1_o (by decide), zA1_o (by decide), zA1_o (by decide), zA1_o (by decide), zA1_o (by decide), zA1_o (by decide)]; exact hq q hq')
            refine ⟨τd, y1, ?_⟩
            rw [← y2]
            have k1 := cn_1 (fun t => decide (¬ sV τ e s t = kF τ e t s)) t
            have k2 : ∀ x : Int32, nI (c0 + cn (fun t => decide (¬ sV τ e s t = kF τ e t s)) t) + x = nI c0 + (nI (cn (fun t => decide (¬ sV τ e s t = kF τ e t s)) t) + x) := fun x => by rw [← nI_add, Int32.add_assoc]
            by_cases cc : sV τ e s t = kF τ e t s
            · rw [if_neg (show ¬ (fun t => decide (¬ sV τ e s t = kF τ e t s)) t = true from fun q => of_decide_eq_true q cc)] at k1
              rw [if_pos (show sV τ e s t = τ.1 23 (960 * e + 24 * t + s) from cc), k2, k1, nI_add]
            · rw [if_pos (show (fun t => decide (¬ sV τ e s t = kF τ e t s)) t = true from decide_eq_true cc)] at k1
              rw [if_neg (show ¬ sV τ e s t = τ.1 23 (960 * e + 24 * t + s) from cc), k2, k1, nI_add]
          by_cases cg : kKn τ e s = 1
          · rw [if_pos cg]; exact go _ (by rw [if_pos cg])
          · rw [if_neg cg]; exact go _ (by rw [if_neg cg])
    exact loop zFU 0 τ0 (by omega) (by unfold zFU; omega) hm0 h0
theorem m_other {σ τ : zS} (h : core σ τ) {K s : Nat} (hK : K ≤ 20) (hK2 : τ.1 0 39 = nI K) (hs : s < 24) : ∃ τd, mS τ τd ∧ fX7_otherThan 0 (nI s) τ = some (nI (sumN (fun e => strE τ e s) K), τd) := by
  have loop : ∀ (n e : Nat) (τc : zS), e ≤ K → K < e + n → mS τ τc → ∃ τd, mS τ τd ∧ fX7_otherThan_4 n 0 (nI s) (nI (sumN (fun e => strE τ e s) e)) (nI e) τc = some (nI (sumN (fun e => strE τ e s) K), τd) := by
    intro n
    induction n with
    | zero => intro e τc h1 h2; exact absurd h2 (by omega)
    | succ n ih =>
      intro e τc h1 h2 hm
      show ∃ τd, mS τ τd ∧ bX7_otherThan_4 (fX7_otherThan_4 n) 0 (nI s) _ (nI e) τc = _
      unfold bX7_otherThan_4
      have hM1 : mR τc.2 := by rw [hm.2.2]; exact h.2.2.1
      rw [hm.2.1 39 (by omega), hK2]
      by_cases ee : e = K
      · rw [ee, if_pos (nI_le (Nat.le_refl _) (by omega))]
        exact ⟨τc, hm, rfl⟩
      · rw [if_neg (nI_ge (show e < K by omega) (by omega))]
        obtain ⟨τ1, q1, q2, q3⟩ := m_oth_15 (fX7_otherThan_4 n) h.2.2.1 (e := e) (by omega) (nI s) (nI (sumN (fun e => strE τ e s) e)) zFU 0 τc (by omega) (by unfold zFU; omega) hm (fun q hq => absurd hq (by omega))
        rw [show (0 : Int32) = nI 0 from rfl, q3]
        obtain ⟨τ2, w1, w2⟩ := m_oth_88 (fX7_otherThan_4 n) h hK hK2 (show e < K by omega) hs (sumN (fun e => strE τ e s) e) q1 q2
        rw [w2]
        exact ih (e + 1) τ2 (by omega) (by omega) w1
  exact loop zFU 0 τ (by omega) (by unfold zFU; omega) (mS.rf τ)
theorem o_otherwise (σ τ : zS) (h : Rel σ τ) (a1 : Int32) : ∃ (r : Int32) (σ' τ' : zS), fX6_otherwise 0 a1 σ = some (r, σ') ∧ fX7_otherwise 0 a1 τ = some (r, τ') ∧ Rel σ' τ' := by
  obtain ⟨hco, hca, hfr⟩ := id h
  obtain ⟨hR, -, hM, hcr, -, -, -, -, -, -, ⟨K, k1, k2, k3, -⟩⟩ := id hco
  unfold fX6_otherwise fX7_otherwise
  rcases ok_dec a1 0 23 with h1 | h1
  · rw [(c_isSeat a1 σ).1 h1, zb_s, if_neg n10, (m_isSeat a1 τ).1 h1, zb_s, if_neg n10, bnd_e, cr_ hR 0 0 1 rfl (by decide), bnd_e, cr_ hR 1 0 5 rfl (by decide)]
    obtain ⟨s, -, s2, rfl⟩ := ok_n (a := 0) (n := 23) (by omega) (by omega) h1
    have hs : s < 24 := by omega
    rw [c_has hcr hs, zb_s, m_isTaken hM hs, zb_s]
    by_cases c : τ.1 1 s = -1
    · rw [if_pos c, if_pos rfl, if_pos rfl]
      exact ⟨-1, σ, τ, rfl, rfl, h⟩
    · obtain ⟨σ', q1, -, q3⟩ := c_strays h k1 k2 hs
      obtain ⟨τ', w1, w2⟩ := m_other hco k1 k3 hs
      rw [if_neg c, if_neg n10, if_neg n10, q1, zb_s, w2, zb_s]
      exact ⟨_, σ', τ', rfl, rfl, Rel_m q3 w1⟩
  · rw [(c_isSeat a1 σ).2 h1, zb_s, if_pos rfl, (m_isSeat a1 τ).2 h1, zb_s, if_pos rfl]
    exact ⟨-1, σ, τ, rfl, rfl, h⟩
theorem sus_17 {σ τ : zS} (hr0 : Rel σ τ) (v1 : Int32) : ∀ (n s : Nat) (x : Int32) (σc τc : zS), s ≤ 24 → 24 < s + n → Rel σc τc → ∃ (r : Int32) (σ' τ' : zS), fX6_suspects_17 n 0 v1 x (nI s) σc = some (r, σ') ∧ fX7_suspects_17 n 0 v1 x (nI s) τc = some (r, τ') ∧ Rel σ' τ' := by
  intro n
  induction n with
  | zero => intro s x σc τc h1 h2; exact absurd h2 (by omega)
  | succ n ih =>
    intro s x σc τc h1 h2 hr
    obtain ⟨hR, -, hM, hcr, -, -, -, -, -, -, ⟨K, k1, k2, k3, -⟩⟩ := id hr.1
    show ∃ (r : Int32) (σ' τ' : zS), bX6_suspects_17 (fX6_suspects_17 n) 0 v1 x (nI s) σc = some (r, σ') ∧ bX7_suspects_17 (fX7_suspects_17 n) 0 v1 x (nI s) τc = some (r, τ') ∧ Rel σ' τ'
    unfold bX6_suspects_17 bX7_suspects_17 bX6_suspects_52 bX7_suspects_48 bX7_suspects_49
    by_cases hs : s = 24
    · subst hs
      rw [if_pos (by decide), if_pos (by decide)]
      exact ⟨x, σc, τc, rfl, rfl, hr⟩
    · have hs : s < 24 := by omega
      rw [if_neg (geL 24 (24 : Int32) rfl hs (by omega)), if_neg (geL 24 (24 : Int32) rfl hs (by omega)), bnd_e, cr_ hR 0 0 1 rfl (by decide), bnd_e, cr_ hR 1 0 5 rfl (by decide), c_has hcr hs, zb_s, m_isTaken hM hs, zb_s, nI_1]
      by_cases c : τc.1 1 s = -1
      · rw [if_pos c, if_pos rfl, if_pos rfl]
        exact ih (s + 1) x σc τc (by omega) (by omega) hr
      · obtain ⟨σ', q1, -, q3⟩ := c_strays hr k1 k2 hs
        obtain ⟨τ', w1, w2⟩ := m_other hr.1 k1 k3 hs
        rw [if_neg c, if_neg n10, if_neg n10, q1, zb_s, w2, zb_s, bnd_e]
        by_cases c2 : nI (sumN (fun e => strE τc e s) K) < v1
        · rw [if_pos c2, if_pos c2]
          exact ih (s + 1) x σ' τ' (by omega) (by omega) (Rel_m q3 w1)
        · rw [if_neg c2, if_neg c2]
          exact ih (s + 1) _ σ' τ' (by omega) (by omega) (Rel_m q3 w1)
theorem o_suspects (σ τ : zS) (h : Rel σ τ) (a1 : Int32) : ∃ (r : Int32) (σ' τ' : zS), fX6_suspects 0 a1 σ = some (r, σ') ∧ fX7_suspects 0 a1 τ = some (r, τ') ∧ Rel σ' τ' := by
  unfold fX6_suspects fX7_suspects
  rcases ok_dec a1 1 800 with h1 | h1
  · rw [(c_within a1 1 800 σ).1 h1, zb_s, if_neg n10, (m_in a1 1 800 τ).1 h1, zb_s, if_neg n10]
    exact sus_17 h a1 zFU 0 0 σ τ (by omega) (by unfold zFU; omega) h
  · rw [(c_within a1 1 800 σ).2 h1, zb_s, if_pos rfl, (m_in a1 1 800 τ).2 h1, zb_s, if_pos rfl]
    exact ⟨-1, σ, τ, rfl, rfl, h⟩
