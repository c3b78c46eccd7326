/-! ===== check ===== -/
theorem cm_num {σ τ : zS} (hR : cR σ.2) (hM : mR τ.2) (ht : ∀ i, i < 500 → σ.1 167 i = τ.1 7 i) {p : Nat} (hp : 4 * p + 4 ≤ 500) : ∃ v : Int32, fX6_numberAt 0 (nI p) σ = some (v, σ) ∧ fX7_tapeNumber 0 (nI p) τ = some (v, τ) := by
  have e4 : (4 : Int32) * nI p = nI (4 * p) := pk_mul 4 p
  have e44 : nI (4 * p) + (4 : Int32) = nI (4 * p + 4) := nI_add (4 * p) 4
  have loop : ∀ (n k : Nat) (x : Int32), 4 * p ≤ k → k ≤ 4 * p + 4 → 4 * p + 4 < k + n → ∃ v : Int32, fX6_numberAt_6 n 0 (nI p) x (nI k) σ = some (v, σ) ∧ fX7_tapeNumber_6 n 0 (nI p) x (nI k) τ = some (v, τ) := by
    intro n
    induction n with
    | zero => intro k x h1 h2 h3; exact absurd h3 (by omega)
    | succ n ih =>
      intro k x h1 h2 h3
      show ∃ v : Int32, bX6_numberAt_6 (fX6_numberAt_6 n) 0 (nI p) x (nI k) σ = some (v, σ) ∧ bX7_tapeNumber_6 (fX7_tapeNumber_6 n) 0 (nI p) x (nI k) τ = some (v, τ)
      unfold bX6_numberAt_6 bX7_tapeNumber_6 bX6_numberAt_44
      rw [e4, e44]
      by_cases e : k = 4 * p + 4
      · rw [e, if_pos (nI_le (Nat.le_refl _) (by omega)), if_pos (nI_le (Nat.le_refl _) (by omega))]
        exact ⟨x, rfl, rfl⟩
      · rw [if_neg (nI_ge (show k < 4 * p + 4 by omega) (by omega)), if_neg (nI_ge (show k < 4 * p + 4 by omega) (by omega)), if_neg (nI_pos (by omega)), if_neg (geL 500 (500 : Int32) rfl (show k < 500 by omega) (by omega))]
        simp only [bnd_e, cr_ hR 0 9 167 rfl (by decide), mm10 hM]
        rw [zX_n (n := 500) (by omega) (by omega), zX_n (n := 500) (by omega) (by omega), cl_n (by omega), ht k (by omega), nI_1]
        exact ih (k + 1) _ (by omega) (by omega) (by omega)
  unfold fX6_numberAt fX7_tapeNumber
  rw [bnd_e, bnd_e, e4]
  exact loop zFU (4 * p) 0 (by omega) (by omega) (by unfold zFU; omega)
def tld (f : Nat → Nat → Int32) (t r : Nat) : Int32 := if r = 0 then nI t else if r = 1 then nI (cn (fun q => decide (f t q = 1)) 24) else nI (cn (fun q => decide (f t q = 2)) 24)
theorem c_told {σ : zS} {N t r : Nat} {f : Nat → Nat → Int32} (hR : cR σ.2) (hN : σ.1 2 0 = nI N) (hN2 : N ≤ 40) (ht : t < N) (hr : r < 3) (hev : evB f N (σ.1 6) (σ.1 7)) : fX3_told 1 (nI t) (nI r) σ = some (tld f t r, σ) := by
  unfold fX3_told tld
  rcases (show r = 0 ∨ r = 1 ∨ r = 2 by omega) with rfl | rfl | rfl
  · rw [if_pos (by decide), if_pos rfl]
  · rw [if_neg (by decide), if_pos (by decide), c_cla (cr_ hR 1 1 2 rfl (by decide)) (cr_ hR 1 2 6 rfl (by decide)) hN hN2 ht (hev t ht).1, zb_s, if_neg (by decide), if_pos rfl]
  · rw [if_neg (by decide), if_neg (by decide), c_his (cr_ hR 1 1 2 rfl (by decide)) (cr_ hR 1 3 7 rfl (by decide)) hN hN2 ht (hev t ht).2, zb_s, if_neg (by decide), if_neg (by decide)]
theorem ck_step {σ : zS} {N n t r : Nat} {f : Nat → Nat → Int32} (hR : cR σ.2) (hN : σ.1 2 0 = nI N) (hN2 : N ≤ 40) (hn : n ≤ 41) (ht : t < N) (htn : t < n) (hr : r < 3) (hev : evB f N (σ.1 6) (σ.1 7)) {v : Int32} (hv : fX6_numberAt 0 (nI (3 * t + r)) σ = some (v, σ)) (m : Nat) : fX6_check_37 (m + 1) 0 (nI n) 1 (nI (3 * t + r)) σ = if v = tld f t r then fX6_check_37 m 0 (nI n) 1 (nI (3 * t + r + 1)) σ else some (nI (3 * t + r), σ) := by
  show bX6_check_37 (fX6_check_37 m) 0 (nI n) 1 (nI (3 * t + r)) σ = _
  unfold bX6_check_37
  have e3 : (3 : Int32) * nI n = nI (3 * n) := pk_mul 3 n
  have ed : nI (3 * t + r) / (3 : Int32) = nI t := by
    show nI (3 * t + r) / nI 3 = _
    rw [pk_div (by omega) (by omega) (by omega)]
    congr 1
    omega
  have er : nI (3 * t + r) - nI (3 * t + r) / (3 : Int32) * (3 : Int32) = nI r := by
    show nI (3 * t + r) - nI (3 * t + r) / nI 3 * nI 3 = _
    rw [pk_rem (by omega) (by omega) (by omega)]
    congr 1
    omega
  rw [e3, if_neg (nI_ge (show 3 * t + r < 3 * n by omega) (by omega)), bnd_e, er, ed, c_hs1 (cr_ hR 1 1 2 rfl (by decide)) hN hN2 ht, zb_s, if_neg n10, hv, zb_s, c_told hR hN hN2 ht hr hev, zb_s, nI_1]
theorem ck_loop {σ τ : zS} {N n : Nat} {f : Nat → Nat → Int32} (hR : cR σ.2) (hM : mR τ.2) (htp : ∀ i, i < 500 → σ.1 167 i = τ.1 7 i) (hN : σ.1 2 0 = nI N) (hN' : τ.1 0 1 = nI N) (hN2 : N ≤ 40) (hn : n ≤ 41) (hev : evB f N (σ.1 6) (σ.1 7)) : ∀ (nM t nC : Nat) (τc : zS), t ≤ N → t ≤ n → N < t + nM → 3 * n + 10 < 3 * t + nC → mS τ τc → (∀ t, t < N → ∀ q, q < 24 → τc.1 20 (24 * t + q) = f t q) → ∃ (r : Int32) (τd : zS), fX6_check_37 nC 0 (nI n) 1 (nI (3 * t)) σ = some (r, σ) ∧ fX7_check_30 nM 0 (nI n) (nI t) τc = some (r, τd) ∧ mS τ τd := by
  intro nM
  induction nM with
  | zero => intro t nC τc h1 h2 h3; exact absurd h3 (by omega)
  | succ nM ih =>
    intro t nC τc h1 h2 h3 h4 hm hf
    obtain ⟨m, rfl⟩ : ∃ m, nC = m + 1 + 1 + 1 := ⟨nC - 3, by omega⟩
    have e3 : ∀ k, (3 : Int32) * nI k = nI (3 * k) := fun k => pk_mul 3 k
    show ∃ (r : Int32) (τd : zS), _ ∧ bX7_check_30 (fX7_check_30 nM) 0 (nI n) (nI t) τc = some (r, τd) ∧ _
    unfold bX7_check_30
    have hMc : mR τc.2 := by rw [hm.2.2]; exact hM
    rw [hm.2.1 1 (by omega), hN']
    by_cases etN : t = N
    · subst etN
      rw [if_pos (nI_le (Nat.le_refl _) (by omega))]
      unfold bX7_check_113
      rw [hm.2.1 1 (by omega), hN', e3]
      by_cases en : n = t
      · subst en
        rw [if_pos (nI_le (Nat.le_refl _) (by omega))]
        refine ⟨-1, τc, ?_, rfl, hm⟩
        show bX6_check_37 (fX6_check_37 (m + 1 + 1)) 0 (nI n) 1 (nI (3 * n)) σ = _
        unfold bX6_check_37 bX6_check_83
        rw [e3, if_pos (nI_le (Nat.le_refl _) (by omega)), bnd_e, cr_ hR 1 1 2 rfl (by decide), hN, if_pos rfl]
      · rw [if_neg (nI_ge (show t < n by omega) (by omega))]
        refine ⟨nI (3 * t), τc, ?_, rfl, hm⟩
        show bX6_check_37 (fX6_check_37 (m + 1 + 1)) 0 (nI n) 1 (nI (3 * t)) σ = _
        unfold bX6_check_37
        have ed : nI (3 * t) / (3 : Int32) = nI t := by
          show nI (3 * t) / nI 3 = _
          rw [pk_div (by omega) (by omega) (by omega)]
          congr 1
          omega
        have hs0 : fX3_hasSecond 1 (nI t) σ = some (0, σ) := by
          unfold fX3_hasSecond
          rw [if_neg (nI_pos (by omega)), bnd_e, cr_ hR 1 1 2 rfl (by decide), hN, if_pos (nI_le (Nat.le_refl _) (by omega))]
        rw [e3, if_neg (nI_ge (show 3 * t < 3 * n by omega) (by omega)), bnd_e, ed, hs0, zb_s, if_pos rfl]
    · have ht : t < N := by omega
      obtain ⟨τ2, w1, w2, w3, w4, w5⟩ := m_counts (t := t) (by omega) hMc
      rw [if_neg (nI_ge ht (by omega)), w1, zb_s]
      have hm2 : mS τ τ2 := hm.tr (mS.of w2)
      have hM2 : mR τ2.2 := by rw [hm2.2.2]; exact hM
      have htp2 : ∀ i, i < 500 → σ.1 167 i = τ2.1 7 i := fun i hi => by rw [hm2.1 7 (by omega)]; exact htp i hi
      by_cases en : t = n
      · subst en
        rw [if_pos rfl, e3]
        refine ⟨nI (3 * t), τ2, ?_, rfl, hm2⟩
        show bX6_check_37 (fX6_check_37 (m + 1 + 1)) 0 (nI t) 1 (nI (3 * t)) σ = _
        unfold bX6_check_37 bX6_check_83
        rw [e3, if_pos (nI_le (Nat.le_refl _) (by omega)), bnd_e, cr_ hR 1 1 2 rfl (by decide), hN, if_neg (fun q => etN ((nI_eq (by omega) (by omega)).mp q))]
      · have htn : t < n := by omega
        rw [if_neg (fun q => en ((nI_eq (by omega) (by omega)).mp q)), e3, show nI (3 * t) + (1 : Int32) = nI (3 * t + 1) from nI_1 _, show nI (3 * t) + (2 : Int32) = nI (3 * t + 2) from nI_add _ 2]
        obtain ⟨x0, y0, z0⟩ := cm_num hR hM2 htp2 (p := 3 * t) (by omega)
        obtain ⟨x1, y1, z1⟩ := cm_num hR hM2 htp2 (p := 3 * t + 1) (by omega)
        obtain ⟨x2, y2, z2⟩ := cm_num hR hM2 htp2 (p := 3 * t + 2) (by omega)
        have c1 : cn (fun q => decide (τc.1 20 (24 * t + q) = 1)) 24 = cn (fun q => decide (f t q = 1)) 24 := cn_cong (fun q hq => by rw [hf t ht q hq])
        have c2 : cn (fun q => decide (τc.1 20 (24 * t + q) = 2)) 24 = cn (fun q => decide (f t q = 2)) 24 := cn_cong (fun q hq => by rw [hf t ht q hq])
        rw [z0, zb_s, z1, zb_s, z2, zb_s, w4, w5, c1, c2]
        have s0 := ck_step (r := 0) hR hN hN2 hn ht htn (by omega) hev y0 (m + 1 + 1)
        have s1 := ck_step (r := 1) hR hN hN2 hn ht htn (by omega) hev y1 (m + 1)
        have s2 := ck_step (r := 2) hR hN hN2 hn ht htn (by omega) hev y2 m
        rw [show nI (3 * t) = nI (3 * t + 0) from rfl, s0]
        by_cases q0 : x0 = nI t
        · rw [if_pos (show x0 = tld f t 0 from q0), if_pos q0, s1]
          by_cases q1 : x1 = nI (cn (fun q => decide (f t q = 1)) 24)
          · rw [if_pos (show x1 = tld f t 1 from q1), if_pos q1, s2]
            by_cases q2 : x2 = nI (cn (fun q => decide (f t q = 2)) 24)
            · rw [if_pos (show x2 = tld f t 2 from q2), if_pos q2, nI_1]
              obtain ⟨r, τd, v1, v2, v3⟩ := ih (t + 1) m τ2 (by omega) (by omega) (by omega) (by omega) hm2 (fun t' ht' q hq => by rw [w3]; exact hf t' ht' q hq)
              exact ⟨r, τd, by rw [← v1, show 3 * t + 2 + 1 = 3 * (t + 1) by omega], v2, v3⟩
            · rw [if_neg (show ¬ x2 = tld f t 2 from q2), if_neg q2]
              unfold bX7_check_101
              refine ⟨_, τ2, rfl, ?_, hm2⟩
              rw [e3, show nI (3 * t) + (2 : Int32) = nI (3 * t + 2) from nI_add _ 2]
          · rw [if_neg (show ¬ x1 = tld f t 1 from q1), if_neg q1]
            unfold bX7_check_79
            refine ⟨_, τ2, rfl, ?_, hm2⟩
            rw [e3, show nI (3 * t) + (1 : Int32) = nI (3 * t + 1) from nI_1 _]
        · rw [if_neg (show ¬ x0 = tld f t 0 from q0), if_neg q0]
          exact ⟨_, τ2, rfl, rfl, hm2⟩
theorem o_check (σ τ : zS) (h : Rel σ τ) (a1 : Int32) : ∃ (r : Int32) (σ' τ' : zS), fX6_check 0 a1 σ = some (r, σ') ∧ fX7_check 0 a1 τ = some (r, τ') ∧ Rel σ' τ' := by
  obtain ⟨hco, hca, hfr⟩ := id h
  obtain ⟨hR, -, hM, hcr, hbi, hpl, hpr, ⟨⟨k, k1, k2, k3⟩, htp⟩, hsm, -⟩ := id hco
  unfold fX6_check fX7_check
  rw [k3, show nI (20 * k) / (12 : Int32) = nI (20 * k / 12) from pk_div (d := 12) (by omega) (by omega) (by omega)]
  by_cases c0 : a1 < 0
  · rw [if_pos c0, (c_within a1 0 500 σ).2 (fun q => q.1 c0), zb_s, if_pos rfl]
    exact ⟨_, σ, τ, rfl, rfl, h⟩
  · rw [if_neg c0]
    obtain ⟨n, hn, rfl⟩ := nI_of c0
    by_cases c1 : n ≤ 20 * k / 12
    · have hn41 : n ≤ 41 := by omega
      have e12 : (12 : Int32) * nI n = nI (12 * n) := pk_mul 12 n
      rw [if_pos (nI_le c1 (by omega)), (c_within (nI n) 0 500 σ).1 (ok_of (k := n) (a := 0) (n := 500) (by omega) (by omega) (by omega)), zb_s, if_neg n10, k2, e12, if_pos (nI_le (show 12 * n ≤ 20 * k by omega) (by omega)), bnd_e, bnd_e]
      have hrel : Rel (zI σ 0 10 0) (zI τ 0 11 0) := by
        refine ⟨core_x hco rfl (fun a q1 q2 => by rw [zI_ne (by omega)]) rfl rfl (fun a q => by rw [zI_ne (by omega)]) rfl hcr hbi hpl hpr ⟨⟨0, by omega, rfl, rfl⟩, htp⟩ hsm, cCa_e hca rfl rfl, hfr⟩
      obtain ⟨N, N1, N2, N3, N4⟩ := core_N hrel.1
      obtain ⟨σ', q1, q2, q3, q4, q5, q6⟩ := c_played hrel N1 N2 N4
      obtain ⟨τ', p1, p2, p3⟩ := m_told hrel.1 N2 N4
      have hR' : cR σ'.2 := q3.1.1
      have hM' : mR τ'.2 := by rw [p1.2.2]; exact hM
      rw [q1, zb_s, p3, zb_s]
      have htp' : ∀ i, i < 500 → σ'.1 167 i = τ'.1 7 i := fun i hi => by
        rw [q2.1.1 167 (XP_f (by omega)), p1.1 7 (by omega)]; exact htp i hi
      obtain ⟨r, τd, v1, v2, v3⟩ := ck_loop (f := mE (zI τ 0 11 0) ((zI τ 0 11 0).1 3) noB) hR' hM' htp' (by rw [q2.1.1 2 (XP_f (by omega))]; exact N3) (by rw [p1.2.1 1 (by omega)]; exact N4) N2 hn41 q5 zFU 0 zFU τ' (by omega) (by omega) (by unfold zFU; omega) (by unfold zFU; omega) (mS.rf τ') p2
      exact ⟨r, σ', τd, v1, v2, Rel_m q3 (p1.tr v3)⟩
    · rw [if_neg (nI_ge (by omega) hn)]
      refine ⟨-2, σ, τ, ?_, rfl, h⟩
      rcases ok_dec (nI n) 0 500 with h1 | h1
      · obtain ⟨m, -, m2, e⟩ := ok_n (a := 0) (n := 500) (by omega) (by omega) h1
        have : n = m := (nI_eq hn (by omega)).mp e
        have e12 : (12 : Int32) * nI n = nI (12 * n) := pk_mul 12 n
        rw [(c_within (nI n) 0 500 σ).1 h1, zb_s, if_neg n10, k2, e12, if_neg (nI_ge (show 20 * k < 12 * n by omega) (by omega))]
      · rw [(c_within (nI n) 0 500 σ).2 h1, zb_s, if_pos rfl]
