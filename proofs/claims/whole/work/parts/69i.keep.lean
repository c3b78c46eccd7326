/-! ===== keep ===== -/
theorem clz : (0 : Int32).toNatClampNeg = 0 ∧ (40 : Int32).toNatClampNeg = 40 := by decide
theorem zY_s {σ : zS} {j0 j1 : Nat} {t : Nat} (ht : t < 40) : (zY σ j0 j1 0 0 40).1 j1 t = σ.1 j0 t := by
  show (if j1 = j1 then va_cpy (σ.1 j0) (σ.1 j1) 0 0 40 t else _) = _
  rw [if_pos rfl, pk_cpy_in (by omega) (by omega), show 0 + (t - 0) = t by omega]
theorem c_copy1 {σ : zS} {A A1 A2 : Nat} (hA1 : σ.2 A 1 = A1) (hA2 : σ.2 A 2 = A2) (hR : cR σ.2) (d : 13 ≤ A ∧ 13 ≤ A1 ∧ 13 ≤ A2 ∧ ¬ A = A1 ∧ ¬ A = A2 ∧ ¬ A1 = A2) : ∃ σ', fX1_copy A 2 σ = some ((), σ') ∧ σ'.2 = σ.2 ∧ (∀ a, ¬ a = A → ¬ a = A1 → ¬ a = A2 → σ'.1 a = σ.1 a) ∧ σ'.1 A 0 = σ.1 2 0 ∧ ∀ t, t < 40 → σ'.1 A1 t = σ.1 3 t ∧ σ'.1 A2 t = σ.1 4 t := by
  unfold fX1_copy
  obtain ⟨d1, d2, d3, d4, d5, d6⟩ := d
  have z2 : ∀ (s : zS) (a b : Nat), (zY s a b 0 0 40).2 = s.2 := fun _ _ _ => rfl
  simp only [bnd_e, clz.1, clz.2, zI_2, z2, hA1, hA2, cr_ hR 2 1 3 rfl (by decide), cr_ hR 2 2 4 rfl (by decide)]
  refine ⟨_, rfl, rfl, fun a q1 q2 q3 => by rw [zY_ne q3, zY_ne q2, zI_ne q1], ?_, fun t ht => ⟨?_, ?_⟩⟩
  · rw [zY_ne d5, zY_ne d4, zI_s]
  · rw [zY_ne d6, zY_s ht, zI_ne (by omega)]
  · rw [zY_s ht, zY_ne (by omega), zI_ne (by omega)]
theorem c_copy3 {σ : zS} (hR : cR σ.2) {K : Nat} (hK : K < 20) : ∃ σ', fX3_copy (13 + 7 * K) 1 σ = some ((), σ') ∧ σ'.2 = σ.2 ∧ (∀ a, ¬ (13 + 7 * K ≤ a ∧ a ≤ 19 + 7 * K) → σ'.1 a = σ.1 a) ∧ (∀ j, j < 7 → σ'.1 (17 + 7 * K) j = σ.1 5 j) ∧ σ'.1 (14 + 7 * K) 0 = σ.1 2 0 ∧ (∀ t, t < 40 → σ'.1 (15 + 7 * K) t = σ.1 3 t ∧ σ'.1 (16 + 7 * K) t = σ.1 4 t ∧ σ'.1 (18 + 7 * K) t = σ.1 6 t ∧ σ'.1 (19 + 7 * K) t = σ.1 7 t) ∧ σ'.1 (13 + 7 * K) 4 = σ.1 1 4 := by
  obtain ⟨r1, r2, r3, r4, r5, r6, r7⟩ := kr hR hK
  obtain ⟨σ1, a1, a2, a3, a4, a5⟩ := c_copy2 (σ := σ) (A := 17 + 7 * K) (B := 5) (by omega)
  have hR1 : cR σ1.2 := by rw [a5]; exact hR
  obtain ⟨σ2, b1, b2, b3, b4, b5⟩ := c_copy1 (σ := σ1) (A := 14 + 7 * K) (A1 := 15 + 7 * K) (A2 := 16 + 7 * K) (by rw [a5]; exact r6) (by rw [a5]; exact r7) hR1 (by omega)
  have hR2 : cR σ2.2 := by rw [b2]; exact hR1
  have e2 : σ2.2 = σ.2 := by rw [b2, a5]
  have z2 : ∀ (s : zS) (a b : Nat), (zY s a b 0 0 40).2 = s.2 := fun _ _ _ => rfl
  unfold fX3_copy
  rw [bnd_e, r2, bnd_e, cr_ hR 1 0 5 rfl (by decide), a1, zb_s, bnd_e, a5, r3, bnd_e, cr_ hR 1 1 2 rfl (by decide), b1, zb_s]
  simp only [bnd_e, clz.1, clz.2, z2, e2, r4, r5, cr_ hR 1 2 6 rfl (by decide), cr_ hR 1 3 7 rfl (by decide)]
  have g : ∀ a, ¬ (14 + 7 * K ≤ a ∧ a ≤ 17 + 7 * K) → σ2.1 a = σ.1 a := fun a ha => by rw [b3 a (by omega) (by omega) (by omega), a3 a (by omega)]
  refine ⟨_, rfl, e2, fun a ha => ?_, fun j hj => ?_, ?_, fun t ht => ⟨?_, ?_, ?_, ?_⟩, ?_⟩
  · rw [zI_ne (by omega), zY_ne (by omega), zY_ne (by omega), g a (by omega)]
  · rw [zI_ne (by omega), zY_ne (by omega), zY_ne (by omega), b3 _ (by omega) (by omega) (by omega), a2 j hj]
  · rw [zI_ne (by omega), zY_ne (by omega), zY_ne (by omega), b4, a3 2 (by omega)]
  · rw [zI_ne (by omega), zY_ne (by omega), zY_ne (by omega), (b5 t ht).1, a3 3 (by omega)]
  · rw [zI_ne (by omega), zY_ne (by omega), zY_ne (by omega), (b5 t ht).2, a3 4 (by omega)]
  · rw [zI_ne (by omega), zY_ne (by omega), zY_s ht, g 6 (by omega)]
  · rw [zI_ne (by omega), zY_s ht, zY_ne (by omega), g 7 (by omega)]
  · rw [zI_s, zY_ne (by omega), zY_ne (by omega), g 1 (by omega)]
theorem evB_1 {f g : Nat → Nat → Int32} {t : Nat} {cl hi : Int32} (h : bs cl (fun q => decide (f t q = 1)) ∧ bs hi (fun q => decide (f t q = 2))) (e : ∀ q, q < 24 → g t q = f t q) : bs cl (fun q => decide (g t q = 1)) ∧ bs hi (fun q => decide (g t q = 2)) :=
  ⟨bs_c h.1 (fun q hq => by rw [e q hq]), bs_c h.2 (fun q hq => by rw [e q hq])⟩
/-! the reference keeps -/
def kB (a K : Nat) : Nat := if a = 23 then 960 * K else if a ≤ 26 then 24 * K else if a ≤ 28 then 40 * K else K
def kFr (K : Nat) (τ τc : zS) : Prop := (∀ a, (1 ≤ a ∧ a ≤ 22) → τc.1 a = τ.1 a) ∧ (∀ b, τc.1 0 b = τ.1 0 b) ∧ τc.2 = τ.2 ∧ ∀ a, 23 ≤ a → a ≤ 32 → ∀ i, i < kB a K → τc.1 a i = τ.1 a i
theorem kFr.i {K : Nat} {τ τc : zS} (h : kFr K τ τc) {a i : Nat} {v : Int32} (h1 : 23 ≤ a) (h2 : a ≤ 32) (h3 : kB a K ≤ i) : kFr K τ (zI τc a i v) := by
  refine ⟨fun b hb => by rw [zI_ne (by omega)]; exact h.1 b hb, fun b => by rw [zI_ne (by omega)]; exact h.2.1 b, h.2.2.1, fun b b1 b2 j hj => ?_⟩
  by_cases e : b = a
  · subst e
    rw [zI_o (fun q => by omega)]
    exact h.2.2.2 b b1 b2 j hj
  · rw [zI_ne e]
    exact h.2.2.2 b b1 b2 j hj
def kV1 (K : Nat) (τ τc : zS) (H : Int32) : Prop := τc.1 31 K = H ∧ τc.1 29 K = τ.1 0 1 ∧ τc.1 30 K = τ.1 0 0
def kV5 (K N : Nat) (τ τc : zS) (t s : Nat) : Prop := ∀ t' q, t' < N → q < 24 → (t' < t ∨ (t' = t ∧ q < s)) → τc.1 23 (960 * K + 24 * t' + q) = τ.1 20 (24 * t' + q)
def kV2 (K N : Nat) (τ τc : zS) (t t2 t3 : Nat) : Prop := (∀ t', t' < t → τc.1 27 (40 * K + t') = τ.1 4 t') ∧ (∀ t', t' < t2 → τc.1 28 (40 * K + t') = τ.1 5 t') ∧ τc.1 32 K = gsum (τ.1 4) (if t3 < N then t3 else N)
theorem m_kp_147 (k62 : Nat → Int32 → zS → Option (Int32 × zS)) {τ : zS} (hM : mR τ.2) {K N : Nat} (hK : K < 20) (hK2 : τ.1 0 39 = nI K) (hN2 : N ≤ 40) (hN : τ.1 0 1 = nI N) {t : Nat} (ht : t < 40) (H : Int32) : ∀ (n s : Nat) (τc : zS), s ≤ 24 → 24 < s + n → kFr K τ τc → kV1 K τ τc H → kV2 K N τ τc (t + 1) (t + 1) (t + 1) → kV5 K N τ τc t s → ∃ τd, kFr K τ τd ∧ kV1 K τ τd H ∧ kV2 K N τ τd (t + 1) (t + 1) (t + 1) ∧ kV5 K N τ τd (t + 1) 0 ∧ fX7_keep_147 k62 n 0 (nI t) (nI s) τc = k62 0 (nI (t + 1)) τd := by
  intro n
  induction n with
  | zero => intro s τc h1 h2; exact absurd h2 (by omega)
  | succ n ih =>
    intro s τc h1 h2 hf hv1 hv2 hv5
    have hMc : mR τc.2 := by rw [hf.2.2.1]; exact hM
    show ∃ τd, _ ∧ _ ∧ _ ∧ _ ∧ bX7_keep_147 k62 (fX7_keep_147 k62 n) 0 (nI t) (nI s) τc = _
    unfold bX7_keep_147 bX7_keep_198
    rw [nI_1 t, hf.2.1 1, hN]
    by_cases hs : s = 24
    · subst hs
      rw [if_pos (by decide)]
      refine ⟨τc, hf, hv1, hv2, fun t' q a b c => ?_, rfl⟩
      exact hv5 t' q a b (by omega)
    · have hs : s < 24 := by omega
      rw [if_neg (geL 24 (24 : Int32) rfl hs (by omega))]
      by_cases htN : N ≤ t
      · rw [if_pos (nI_le htN (by omega))]
        refine ⟨τc, hf, hv1, hv2, fun t' q a b c => ?_, rfl⟩
        exact hv5 t' q a b (by omega)
      · rw [if_neg (nI_ge (by omega) (by omega)), bnd_e, mm40 hMc, bnd_e, mm32 hMc, hf.2.1 39, hK2]
        have hx : (24 : Int32) * nI t = nI (24 * t) := pk_mul 24 t
        have hy : (960 : Int32) * nI K = nI (960 * K) := pk_mul 960 K
        rw [hx, hy, nI_add, nI_add, nI_add, zX_n (by omega) (by omega), zX_n (by omega) (by omega), bnd_e, cl_n (by omega), cl_n (by omega), nI_1 s, hf.1 20 (by omega)]
        refine ih (s + 1) _ (by omega) (by omega) (hf.i (by omega) (by omega) (show 960 * K ≤ _ by omega)) ?_ ?_ ?_
        · unfold kV1; rw [zI_ne (by decide), zI_ne (by decide), zI_ne (by decide)]; exact hv1
        · unfold kV2; rw [zI_ne (by decide), zI_ne (by decide), zI_ne (by decide)]; exact hv2
        · intro t' q a b c
          by_cases e : t' = t ∧ q = s
          · rw [e.1, e.2, zI_s]
          · rw [zI_o (by omega)]
            exact hv5 t' q a b (by omega)
theorem gs_1 (g : Nat → Int32) (N t : Nat) : gsum g (if t < N then t else N) + (if N ≤ t then 0 else g t) = gsum g (if t + 1 < N then t + 1 else N) := by
  by_cases h : t < N
  · rw [if_pos h, if_neg (show ¬ N ≤ t by omega)]
    by_cases h2 : t + 1 < N
    · rw [if_pos h2]; rfl
    · rw [if_neg h2, show N = t + 1 by omega]; rfl
  · rw [if_neg h, if_pos (show N ≤ t by omega), if_neg (show ¬ t + 1 < N by omega), Int32.add_zero]
theorem m_kp_62 {τ : zS} (hM : mR τ.2) {K N : Nat} (hK : K < 20) (hK2 : τ.1 0 39 = nI K) (hN2 : N ≤ 40) (hN : τ.1 0 1 = nI N) (H : Int32) : ∀ (n t : Nat) (τc : zS), t ≤ 40 → 40 < t + n → kFr K τ τc → kV1 K τ τc H → kV2 K N τ τc t t t → kV5 K N τ τc t 0 → ∃ τd, kFr K τ τd ∧ kV1 K τ τd H ∧ kV2 K N τ τd 40 40 40 ∧ kV5 K N τ τd 40 0 ∧ fX7_keep_62 n 0 (nI t) τc = bX7_keep_204 0 τd := by
  intro n
  induction n with
  | zero => intro s τc h1 h2; exact absurd h2 (by omega)
  | succ n ih =>
    intro t τc h1 h2 hf hv1 hv2 hv5
    have hMc : mR τc.2 := by rw [hf.2.2.1]; exact hM
    show ∃ τd, _ ∧ _ ∧ _ ∧ _ ∧ bX7_keep_62 (fX7_keep_62 n) 0 (nI t) τc = _
    unfold bX7_keep_62
    by_cases ht : t = 40
    · subst ht
      rw [if_pos (by decide)]
      exact ⟨τc, hf, hv1, hv2, hv5, rfl⟩
    · have ht : t < 40 := by omega
      have f39 : τc.1 0 39 = nI K := by rw [hf.2.1 39]; exact hK2
      have hx : (40 : Int32) * nI K + nI t = nI (40 * K + t) := by
        show nI 40 * nI K + nI t = _
        rw [pk_mul, nI_add]
      have n27 : ∀ (s : zS) i v, (zI s 27 i v).1 0 39 = s.1 0 39 := fun s i v => by rw [zI_ne (by decide)]
      have n28 : ∀ (s : zS) i v, (zI s 28 i v).1 0 39 = s.1 0 39 := fun s i v => by rw [zI_ne (by decide)]
      simp only [bnd_e, zI_2, n27, n28, f39, hx, mm44 hMc, mm7 hMc, mm45 hMc, mm8 hMc, mm49 hMc]
      rw [if_neg (geL 40 (40 : Int32) rfl ht (by omega)), zX_n ht (by omega), zX_n (n := 800) (by omega) (by omega), cl_n (i := 40 * K + t) (by omega), cl_n (i := t) (by omega), zX_n ht (by omega), zX_n (n := 800) (by omega) (by omega), zX_n (n := 20) hK (by omega), zX_n ht (by omega), cl_n (i := K) (by omega)]
      generalize hg : zI (zI τc 27 (40 * K + t) (τc.1 4 t)) 28 (40 * K + t) ((zI τc 27 (40 * K + t) (τc.1 4 t)).1 5 t) = τ2
      have e5 : (zI τc 27 (40 * K + t) (τc.1 4 t)).1 5 t = τ.1 5 t := by rw [zI_ne (by decide), hf.1 5 (by omega)]
      rw [e5, hf.1 4 (by omega)] at hg
      have f2 : kFr K τ τ2 := by
        rw [← hg]
        exact (hf.i (by omega) (by omega) (show 40 * K ≤ _ by omega)).i (by omega) (by omega) (show 40 * K ≤ _ by omega)
      have g1 : τ2.1 0 1 = nI N := by rw [f2.2.1 1]; exact hN
      have g4 : τ2.1 4 = τ.1 4 := f2.1 4 (by omega)
      have g32 : τ2.1 32 K = gsum (τ.1 4) (if t < N then t else N) := by rw [← hg, zI_ne (by decide), zI_ne (by decide)]; exact hv2.2.2
      have g23 : τ2.1 23 = τc.1 23 := by rw [← hg, zI_ne (by decide), zI_ne (by decide)]
      have gv1 : kV1 K τ τ2 H := by
        unfold kV1
        rw [← hg, zI_ne (by decide), zI_ne (by decide), zI_ne (by decide), zI_ne (by decide), zI_ne (by decide), zI_ne (by decide)]
        exact hv1
      have g27 : ∀ t', t' < t + 1 → τ2.1 27 (40 * K + t') = τ.1 4 t' := by
        intro t' ht'
        rw [← hg, zI_ne (by decide)]
        by_cases e : t' = t
        · rw [e, zI_s]
        · rw [zI_o (by omega)]; exact hv2.1 t' (by omega)
      have g28 : ∀ t', t' < t + 1 → τ2.1 28 (40 * K + t') = τ.1 5 t' := by
        intro t' ht'
        rw [← hg]
        by_cases e : t' = t
        · rw [e, zI_s]
        · rw [zI_o (by omega), zI_ne (by decide)]; exact hv2.2.1 t' (by omega)
      rw [g1, g32, g4]
      unfold bX7_keep_143
      have go : ∀ v : Int32, v = (if N ≤ t then 0 else τ.1 4 t) → ∃ τd, kFr K τ τd ∧ kV1 K τ τd H ∧ kV2 K N τ τd 40 40 40 ∧ kV5 K N τ τd 40 0 ∧ (zX (nI K) 20 (bnd (zI τ2 32 (nI K).toNatClampNeg (gsum (τ.1 4) (if t < N then t else N) + v)) (fun σ26 => fX7_keep_147 (fX7_keep_62 n) zFU 0 (nI t) 0 σ26))) = bX7_keep_204 0 τd := by
        intro v hv
        rw [zX_n hK (by omega), bnd_e, cl_n (by omega), hv, gs_1]
        obtain ⟨τ3, q1, q2, q3, q4, q5⟩ := m_kp_147 (fX7_keep_62 n) hM hK hK2 hN2 hN ht H zFU 0 (zI τ2 32 K (gsum (τ.1 4) (if t + 1 < N then t + 1 else N))) (by omega) (by unfold zFU; omega) (f2.i (by omega) (by omega) (show K ≤ K by omega)) (by unfold kV1; rw [zI_ne (by decide), zI_ne (by decide), zI_ne (by decide)]; exact gv1) (by unfold kV2; rw [zI_ne (by decide), zI_ne (by decide), zI_s]; exact ⟨g27, g28, rfl⟩) (by intro t' q a b c; rw [zI_ne (by decide), g23]; exact hv5 t' q a b c)
        rw [show (0 : Int32) = nI 0 from rfl, q5]
        exact ih (t + 1) τ3 (by omega) (by omega) q1 q2 q3 q4
      by_cases c : N ≤ t
      · rw [if_pos (nI_le c (by omega))]
        exact go 0 (by rw [if_pos c])
      · rw [if_neg (nI_ge (by omega) (by omega))]
        exact go _ (by rw [if_neg c])
def kV6 (K : Nat) (τ τc : zS) (u : Nat) : Prop := ∀ q, q < u → τc.1 24 (24 * K + q) = τ.1 1 q ∧ τc.1 25 (24 * K + q) = τ.1 2 q ∧ τc.1 26 (24 * K + q) = τ.1 3 q
theorem m_kp_206 {τ : zS} (hM : mR τ.2) {K N : Nat} (hK : K < 20) (hK2 : τ.1 0 39 = nI K) (H : Int32) : ∀ (n s : Nat) (τc : zS), s ≤ 24 → 24 < s + n → kFr K τ τc → kV1 K τ τc H → kV2 K N τ τc 40 40 40 → kV5 K N τ τc 40 0 → kV6 K τ τc s → ∃ τd, kFr K τ τd ∧ kV1 K τ τd H ∧ kV2 K N τ τd 40 40 40 ∧ kV5 K N τ τd 40 0 ∧ kV6 K τ τd 24 ∧ fX7_keep_206 n 0 (nI s) τc = some (nI (K + 1), zI τd 0 39 (nI (K + 1))) := by
  intro n
  induction n with
  | zero => intro s τc h1 h2; exact absurd h2 (by omega)
  | succ n ih =>
    intro s τc h1 h2 hf hv1 hv2 hv5 hv6
    have hMc : mR τc.2 := by rw [hf.2.2.1]; exact hM
    show ∃ τd, _ ∧ _ ∧ _ ∧ _ ∧ _ ∧ bX7_keep_206 (fX7_keep_206 n) 0 (nI s) τc = _
    unfold bX7_keep_206
    have f39 : τc.1 0 39 = nI K := by rw [hf.2.1 39]; exact hK2
    by_cases hs : s = 24
    · subst hs
      rw [if_pos (by decide)]
      unfold bX7_keep_278
      rw [bnd_e, f39, nI_1, zI_s]
      exact ⟨τc, hf, hv1, hv2, hv5, hv6, rfl⟩
    · have hs : s < 24 := by omega
      have hx : (24 : Int32) * nI K + nI s = nI (24 * K + s) := by
        show nI 24 * nI K + nI s = _
        rw [pk_mul, nI_add]
      have n24 : ∀ (s : zS) i v, (zI s 24 i v).1 0 39 = s.1 0 39 := fun s i v => by rw [zI_ne (by decide)]
      have n25 : ∀ (s : zS) i v, (zI s 25 i v).1 0 39 = s.1 0 39 := fun s i v => by rw [zI_ne (by decide)]
      simp only [bnd_e, zI_2, n24, n25, f39, hx, mm41 hMc, mm42 hMc, mm43 hMc, mm4 hMc, mm5 hMc, mm6 hMc]
      rw [if_neg (geL 24 (24 : Int32) rfl hs (by omega)), zX_n hs (by omega), zX_n (n := 480) (by omega) (by omega), zX_n hs (by omega), zX_n (n := 480) (by omega) (by omega), zX_n hs (by omega), zX_n (n := 480) (by omega) (by omega), cl_n (i := 24 * K + s) (by omega), cl_n (i := s) (by omega), nI_1 s]
      have e2 : ∀ v, (zI τc 24 (24 * K + s) v).1 2 s = τ.1 2 s := fun v => by rw [zI_ne (by decide), hf.1 2 (by omega)]
      have e3 : ∀ v w, (zI (zI τc 24 (24 * K + s) v) 25 (24 * K + s) w).1 3 s = τ.1 3 s := fun v w => by rw [zI_ne (by decide), zI_ne (by decide), hf.1 3 (by omega)]
      rw [e2, e3, hf.1 1 (by omega)]
      refine ih (s + 1) _ (by omega) (by omega) (((hf.i (by omega) (by omega) (show 24 * K ≤ _ by omega)).i (by omega) (by omega) (show 24 * K ≤ _ by omega)).i (by omega) (by omega) (show 24 * K ≤ _ by omega)) ?_ ?_ ?_ ?_
      · unfold kV1; rw [zI_ne (by decide), zI_ne (by decide), zI_ne (by decide), zI_ne (by decide), zI_ne (by decide), zI_ne (by decide), zI_ne (by decide), zI_ne (by decide), zI_ne (by decide)]; exact hv1
      · unfold kV2; rw [zI_ne (by decide), zI_ne (by decide), zI_ne (by decide), zI_ne (by decide), zI_ne (by decide), zI_ne (by decide), zI_ne (by decide), zI_ne (by decide), zI_ne (by decide)]; exact hv2
      · intro t' q a b c; rw [zI_ne (by decide), zI_ne (by decide), zI_ne (by decide)]; exact hv5 t' q a b c
      · intro q hq
        by_cases e : q = s
        · subst e
          refine ⟨?_, ?_, ?_⟩
          · rw [zI_ne (by decide), zI_ne (by decide), zI_s]
          · rw [zI_ne (by decide), zI_s]
          · rw [zI_s]
        · obtain ⟨y1, y2, y3⟩ := hv6 q (by omega)
          refine ⟨?_, ?_, ?_⟩
          · rw [zI_ne (by decide), zI_ne (by decide), zI_o (by omega)]; exact y1
          · rw [zI_ne (by decide), zI_o (by omega), zI_ne (by decide)]; exact y2
          · rw [zI_o (by omega), zI_ne (by decide), zI_ne (by decide)]; exact y3
theorem keep_rel {σ τ σ1 τ1 σ2 τ4 : zS} (h : Rel σ τ) {K N : Nat} (hK : K < 20) (k2 : σ.1 0 4 = nI K) (k3 : τ.1 0 39 = nI K) (k4 : ∀ e, e < K → kptP σ τ e) (N1 : 1 ≤ N) (N2 : N ≤ 40) (N3 : σ.1 2 0 = nI N) (N5 : τ1.1 0 1 = nI N) (q2 : cS σ σ1) (q3 : Rel σ1 τ) (q5 : evB (mE τ (τ.1 3) noB) N (σ1.1 6) (σ1.1 7)) (q6 : σ1.1 1 4 = loudN (mE τ (τ.1 3) noB) N) (p1 : mS τ τ1) (p2 : ∀ t, t < N → ∀ q, q < 24 → τ1.1 20 (24 * t + q) = mE τ (τ.1 3) noB t q) (c2 : σ2.2 = σ1.2) (c3 : ∀ a, ¬ (13 + 7 * K ≤ a ∧ a ≤ 19 + 7 * K) → σ2.1 a = σ1.1 a) (c4 : ∀ j, j < 7 → σ2.1 (17 + 7 * K) j = σ1.1 5 j) (c5 : σ2.1 (14 + 7 * K) 0 = σ1.1 2 0) (c6 : ∀ t, t < 40 → σ2.1 (15 + 7 * K) t = σ1.1 3 t ∧ σ2.1 (16 + 7 * K) t = σ1.1 4 t ∧ σ2.1 (18 + 7 * K) t = σ1.1 6 t ∧ σ2.1 (19 + 7 * K) t = σ1.1 7 t) (c7 : σ2.1 (13 + 7 * K) 4 = σ1.1 1 4) (y1 : kFr K τ1 τ4) (y2 : kV1 K τ1 τ4 (loudN (mE τ (τ.1 3) noB) N)) (y3 : kV2 K N τ1 τ4 40 40 40) (y4 : kV5 K N τ1 τ4 40 0) (y5 : kV6 K τ1 τ4 24) : Rel (zI σ2 0 4 (nI (K + 1))) (zI τ4 0 39 (nI (K + 1))) := by
  obtain ⟨hco, hca, hfr⟩ := id h
  obtain ⟨hR, -, hM, hcr, hbi, hpl, hpr, htp, hsm, hlw, -⟩ := id hco
  have gm : ∀ a, (1 ≤ a ∧ a ≤ 7) ∨ (13 ≤ a ∧ a ≤ 17) ∨ a = 22 → (zI τ4 0 39 (nI (K + 1))).1 a = τ.1 a := fun a ha => by
    rw [zI_ne (by omega), y1.1 a (by omega), p1.1 a (by omega)]
  have gb : ∀ b, b ≤ 3 ∨ b = 11 → (zI τ4 0 39 (nI (K + 1))).1 0 b = τ.1 0 b := fun b hb => by
    rw [zI_o (by omega), y1.2.1 b, p1.2.1 b (by omega)]
  have gc : ∀ a, ¬ a = 0 → ¬ (13 + 7 * K ≤ a ∧ a ≤ 19 + 7 * K) → (zI σ2 0 4 (nI (K + 1))).1 a = σ1.1 a := fun a h0 ha => by rw [zI_ne h0, c3 a ha]
  have gr : (zI σ2 0 4 (nI (K + 1))).2 = σ1.2 := c2
  have g0 : ∀ b, ¬ b = 4 → (zI σ2 0 4 (nI (K + 1))).1 0 b = σ1.1 0 b := fun b hb => by rw [zI_o (fun q => hb q.2), c3 0 (by omega)]
  obtain ⟨hco1, hca1, hfr1⟩ := q3
  obtain ⟨s1, s2, s3, s4, s5, s6, s7, s8, s9, s10, -⟩ := hco1
  refine ⟨⟨by rw [gr]; exact s1, by rw [gr]; exact s2, by rw [zI_2, y1.2.2.1, p1.2.2]; exact hM, ?_, ?_, ?_, ?_, ?_, ?_, ?_, ⟨K + 1, by omega, zI_s, zI_s, fun e he => ?_⟩⟩, cCa_e hca1 (gc 153 (by omega) (by omega)) (gc 155 (by omega) (by omega)), ?_⟩
  · rw [gc 5 (by omega) (by omega), gb 0 (by omega), gm 1 (by omega), gm 2 (by omega), gm 3 (by omega)]; exact s4
  · rw [gc 2 (by omega) (by omega), gc 3 (by omega) (by omega), gc 4 (by omega) (by omega), gb 1 (by omega), gm 4 (by omega), gm 5 (by omega)]; exact s5
  · rw [gc 169 (by omega) (by omega), gc 170 (by omega) (by omega), gm 6 (by omega)]; exact s6
  · rw [g0 13 (by omega), g0 14 (by omega), gb 2 (by omega), gb 3 (by omega)]; exact s7
  · rw [g0 10 (by omega), gc 167 (by omega) (by omega), gb 11 (by omega), gm 7 (by omega)]; exact s8
  · rw [gc 171 (by omega) (by omega), gc 172 (by omega) (by omega), gm 22 (by omega)]; exact s9
  · intro j hj
    obtain ⟨m, hm, z1, z2⟩ := s10 j hj
    exact ⟨m, hm, by rw [gr]; exact z1, by rw [gc (158 + 2 * m) (by omega) (by omega), gc (157 + 2 * m) (by omega) (by omega), gm 13 (by omega), gm 14 (by omega), gm 15 (by omega), gm 16 (by omega), gm 17 (by omega)]; exact z2⟩
  · by_cases eK : e = K
    · subst eK
      obtain ⟨w, w1, w2, w3, w4⟩ := core_w hco
      obtain ⟨v11, v12, v13⟩ := y2
      obtain ⟨v21, v22, v23⟩ := y3
      have ne0 : ∀ a, ¬ a = 0 → (zI σ2 0 4 (nI (e + 1))).1 a = σ2.1 a := fun a ha => zI_ne ha
      have ne1 : ∀ a, ¬ a = 0 → (zI τ4 0 39 (nI (e + 1))).1 a = τ4.1 a := fun a ha => zI_ne ha
      refine ⟨N, w, ⟨N1, N2, ?_, ?_⟩, ⟨w1, w2, ?_, ?_⟩, fun t ht => ?_, fun t ht => ?_, ?_, ?_, fun t ht => ?_⟩
      · rw [ne0 _ (by omega), c5, q2.1.1 2 (XP_f (by omega))]; exact N3
      · rw [ne1 _ (by omega), v12]; exact N5
      · rw [ne1 _ (by omega), v13, p1.2.1 0 (by omega)]; exact w3
      · rw [ne0 _ (by omega), ne1 24 (by omega), ne1 25 (by omega), ne1 26 (by omega)]
        rw [w3] at hcr
        have hc5 : ∀ j, j < 7 → σ2.1 (17 + 7 * e) j = σ.1 5 j := fun j hj => by rw [c4 j hj, q2.1.1 5 (XP_f (by omega))]
        refine ⟨⟨w, w1, w2, rfl, by rw [hc5 0 (by omega)]; exact w4⟩, fun i hi => ?_, fun q hq => ?_⟩
        · rw [hc5 1 (by omega), hc5 5 (by omega), hc5 6 (by omega)]; exact hcr.2.1 i hi
        · obtain ⟨u1, u2, u3⟩ := y5 q hq
          dsimp only
          rw [u1, u2, u3, p1.1 1 (by omega), p1.1 2 (by omega), p1.1 3 (by omega)]
          exact pSeat_c (fun j j1 j2 => by rw [hc5 j (by omega)]) (hcr.2.2 q hq)
      · rw [ne0 _ (by omega), ne0 _ (by omega), ne1 27 (by omega), ne1 28 (by omega), (c6 t ht).1, (c6 t ht).2.1, v21 t ht, v22 t ht, p1.1 4 (by omega), p1.1 5 (by omega), q2.1.1 3 (XP_f (by omega)), q2.1.1 4 (XP_f (by omega))]
        exact hbi.2 t ht
      · rw [ne0 _ (by omega), ne0 _ (by omega), (c6 t (by omega)).2.2.1, (c6 t (by omega)).2.2.2]
        have hsh : ∀ q, q < 24 → (zI τ4 0 39 (nI (e + 1))).1 23 (960 * e + 24 * t + q) = mE τ (τ.1 3) noB t q := fun q hq => by
          rw [ne1 23 (by omega), y4 t q ht hq (by omega), p2 t ht q hq]
        exact evB_1 (f := mE τ (τ.1 3) noB) (g := fun t q => (zI τ4 0 39 (nI (e + 1))).1 23 (960 * e + 24 * t + q)) (q5 t ht) hsh
      · rw [ne0 _ (by omega), ne1 31 (by omega), c7, v11]; exact q6
      · rw [ne1 32 (by omega), ne1 27 (by omega), v23]
        have : ∀ n, n ≤ 40 → gsum (τ1.1 4) n = gsum (fun t => τ4.1 27 (40 * e + t)) n := by
          intro n
          induction n with
          | zero => intro _; rfl
          | succ n ih =>
            intro hn
            show gsum (τ1.1 4) n + τ1.1 4 n = gsum (fun t => τ4.1 27 (40 * e + t)) n + τ4.1 27 (40 * e + n)
            rw [ih (by omega), v21 n (by omega)]
        by_cases c40 : 40 < N
        · omega
        · rw [if_neg c40]; exact this N N2
      · intro q hq
        have a1 : (zI τ4 0 39 (nI (e + 1))).1 24 (24 * e + q) = τ.1 1 q := by rw [ne1 24 (by omega), (y5 q hq).1, p1.1 1 (by omega)]
        have a2 : (zI τ4 0 39 (nI (e + 1))).1 23 (960 * e + 24 * t + q) = mE τ (τ.1 3) noB t q := by rw [ne1 23 (by omega), y4 t q ht hq (by omega), p2 t ht q hq]
        show ((zI τ4 0 39 (nI (e + 1))).1 23 (960 * e + 24 * t + q) = 0 ∨ (zI τ4 0 39 (nI (e + 1))).1 23 (960 * e + 24 * t + q) = 1 ∨ (zI τ4 0 39 (nI (e + 1))).1 23 (960 * e + 24 * t + q) = 2) ∧ ((zI τ4 0 39 (nI (e + 1))).1 24 (24 * e + q) = -1 → (zI τ4 0 39 (nI (e + 1))).1 23 (960 * e + 24 * t + q) = 0)
        rw [a1, a2]
        exact (mE_ok hco (fun q hq => (core_pa hco hq).1) noB (show t < 40 by omega)) q hq
    · have he : e < K := by omega
      have k4e := k4 e he
      obtain ⟨n, w, ⟨a1, a2, a3, a4⟩, ⟨b1, b2, b3, b4⟩, hg4, hev4, hs4, hgs4, hok4⟩ := k4e
      have gk : ∀ a, 13 + 7 * e ≤ a → a ≤ 19 + 7 * e → (zI σ2 0 4 (nI (K + 1))).1 a = σ.1 a := fun a h1 h2 => by
        rw [gc a (by omega) (by omega), q2.1.1 a (XP_f (by omega))]
      have gt : ∀ a i, 23 ≤ a → a ≤ 32 → i < kB a K → (zI τ4 0 39 (nI (K + 1))).1 a i = τ.1 a i := fun a i h1 h2 h3 => by
        rw [zI_ne (by omega), y1.2.2.2 a h1 h2 i h3, p1.1 a (by omega)]
      have t23 : ∀ i, i < 960 * K → (zI τ4 0 39 (nI (K + 1))).1 23 i = τ.1 23 i := fun i hi => gt 23 i (by omega) (by omega) hi
      have t24 : ∀ i, i < 24 * K → (zI τ4 0 39 (nI (K + 1))).1 24 i = τ.1 24 i := fun i hi => gt 24 i (by omega) (by omega) hi
      have t25 : ∀ i, i < 24 * K → (zI τ4 0 39 (nI (K + 1))).1 25 i = τ.1 25 i := fun i hi => gt 25 i (by omega) (by omega) hi
      have t26 : ∀ i, i < 24 * K → (zI τ4 0 39 (nI (K + 1))).1 26 i = τ.1 26 i := fun i hi => gt 26 i (by omega) (by omega) hi
      have t27 : ∀ i, i < 40 * K → (zI τ4 0 39 (nI (K + 1))).1 27 i = τ.1 27 i := fun i hi => gt 27 i (by omega) (by omega) hi
      have t28 : ∀ i, i < 40 * K → (zI τ4 0 39 (nI (K + 1))).1 28 i = τ.1 28 i := fun i hi => gt 28 i (by omega) (by omega) hi
      have t29 : (zI τ4 0 39 (nI (K + 1))).1 29 e = τ.1 29 e := gt 29 e (by omega) (by omega) he
      have t30 : (zI τ4 0 39 (nI (K + 1))).1 30 e = τ.1 30 e := gt 30 e (by omega) (by omega) he
      have t31 : (zI τ4 0 39 (nI (K + 1))).1 31 e = τ.1 31 e := gt 31 e (by omega) (by omega) he
      have t32 : (zI τ4 0 39 (nI (K + 1))).1 32 e = τ.1 32 e := gt 32 e (by omega) (by omega) he
      refine ⟨n, w, ⟨a1, a2, by rw [gk _ (by omega) (by omega)]; exact a3, by rw [t29]; exact a4⟩, ⟨b1, b2, by rw [t30]; exact b3, ?_⟩, fun t ht => ?_, fun t ht => ?_, ?_, ?_, fun t ht => ?_⟩
      · rw [gk _ (by omega) (by omega)]
        refine ⟨b4.1, b4.2.1, fun q hq => ?_⟩
        dsimp only
        rw [t24 _ (by omega), t25 _ (by omega), t26 _ (by omega)]
        exact b4.2.2 q hq
      · rw [gk _ (by omega) (by omega), gk _ (by omega) (by omega), t27 _ (by omega), t28 _ (by omega)]; exact hg4 t ht
      · rw [gk _ (by omega) (by omega), gk _ (by omega) (by omega)]
        exact evB_1 (f := fun t q => τ.1 23 (960 * e + 24 * t + q)) (g := fun t q => (zI τ4 0 39 (nI (K + 1))).1 23 (960 * e + 24 * t + q)) (hev4 t ht) (fun q hq => t23 _ (by omega))
      · rw [gk _ (by omega) (by omega), t31]; exact hs4
      · rw [t32, hgs4]
        have : ∀ m, m ≤ 40 → gsum (fun t => τ.1 27 (40 * e + t)) m = gsum (fun t => (zI τ4 0 39 (nI (K + 1))).1 27 (40 * e + t)) m := by
          intro m
          induction m with
          | zero => intro _; rfl
          | succ m ih =>
            intro hm
            show gsum _ m + τ.1 27 (40 * e + m) = gsum _ m + (zI τ4 0 39 (nI (K + 1))).1 27 (40 * e + m)
            rw [ih (by omega), t27 _ (by omega)]
        exact this n a2
      · intro q hq
        have z1 := hok4 t ht q hq
        show ((zI τ4 0 39 (nI (K + 1))).1 23 (960 * e + 24 * t + q) = 0 ∨ (zI τ4 0 39 (nI (K + 1))).1 23 (960 * e + 24 * t + q) = 1 ∨ (zI τ4 0 39 (nI (K + 1))).1 23 (960 * e + 24 * t + q) = 2) ∧ ((zI τ4 0 39 (nI (K + 1))).1 24 (24 * e + q) = -1 → (zI τ4 0 39 (nI (K + 1))).1 23 (960 * e + 24 * t + q) = 0)
        rw [t23 _ (by omega), t24 _ (by omega)]
        exact z1
  · have hmE : mE (zI τ4 0 39 (nI (K + 1))) ((zI τ4 0 39 (nI (K + 1))).1 3) noB = mE τ (τ.1 3) noB := by
      unfold mE mLw
      rw [gm 1 (by omega), gm 2 (by omega), gm 3 (by omega), gm 4 (by omega), gm 5 (by omega), gm 6 (by omega), gm 13 (by omega), gm 14 (by omega), gm 15 (by omega), gm 16 (by omega), gm 17 (by omega), gb 0 (by omega)]
    unfold fresh at hfr1 ⊢
    rw [hmE, gb 1 (by omega), g0 2 (by omega), gc 6 (by omega) (by omega), gc 7 (by omega) (by omega), gc 1 (by omega) (by omega)]
    exact hfr1
theorem m_keep_0 {τ1 : zS} (hM1 : mR τ1.2) {K : Nat} (hK : K < 20) (K1 : τ1.1 0 39 = nI K) (H : Int32) : (bnd (zI τ1 31 K H) (fun (σ49 : zS) => bnd (σ49.2 0 46) (fun (q50 : Nat) => zX (σ49.1 0 39) 20 (bnd (zI σ49 q50 ((σ49.1 0 39)).toNatClampNeg (σ49.1 0 1)) (fun (σ52 : zS) => bnd (σ52.2 0 47) (fun (q53 : Nat) => zX (σ52.1 0 39) 20 (bnd (zI σ52 q53 ((σ52.1 0 39)).toNatClampNeg (σ52.1 0 0)) (fun (σ55 : zS) => bnd (σ55.2 0 49) (fun (q56 : Nat) => zX (σ55.1 0 39) 20 (bnd (zI σ55 q56 ((σ55.1 0 39)).toNatClampNeg (0 : Int32)) (fun (σ58 : zS) => fX7_keep_62 zFU 0 (0 : Int32) σ58))))))))))) = fX7_keep_62 zFU 0 0 (zI (zI (zI (zI τ1 31 K H) 29 K (τ1.1 0 1)) 30 K (τ1.1 0 0)) 32 K 0) := by
  have a : ∀ b, (zI τ1 31 K H).1 0 b = τ1.1 0 b := fun b => by rw [zI_ne (by decide)]
  rw [bnd_e, bnd_e, show (zI τ1 31 K H).2 0 46 = 29 from mm46 hM1, a 39, a 1, K1, zX_n hK (by omega), bnd_e, cl_n (by omega)]
  generalize hX : zI (zI τ1 31 K H) 29 K (τ1.1 0 1) = X
  have b : ∀ b, X.1 0 b = τ1.1 0 b := fun c => by rw [← hX, zI_ne (by decide)]; exact a c
  have b2 : X.2 = τ1.2 := by rw [← hX]; rfl
  rw [bnd_e, b2, mm47 hM1, b 39, b 0, K1, zX_n hK (by omega), bnd_e, cl_n (by omega)]
  generalize hY : zI X 30 K (τ1.1 0 0) = Y
  have c : ∀ b, Y.1 0 b = τ1.1 0 b := fun d => by rw [← hY, zI_ne (by decide)]; exact b d
  have c2 : Y.2 = τ1.2 := by rw [← hY, zI_2]; exact b2
  rw [bnd_e, c2, mm49 hM1, c 39, K1, zX_n hK (by omega), bnd_e, cl_n (by omega)]
theorem o_keep (σ τ : zS) (h : Rel σ τ) : ∃ (r : Int32) (σ' τ' : zS), fX6_keep 0 σ = some (r, σ') ∧ fX7_keep 0 τ = some (r, τ') ∧ Rel σ' τ' := by
  obtain ⟨hco, hca, hfr⟩ := id h
  obtain ⟨hR, -, hM, hcr, hbi, hpl, hpr, htp, hsm, hlw, ⟨K, k1, k2, k3, k4⟩⟩ := id hco
  obtain ⟨N, N1, N2, N3, N4⟩ := core_N hco
  unfold fX6_keep fX7_keep
  rw [k2, k3, if_neg (nI_pos (by omega)), bnd_e]
  by_cases hK : K = 20
  · rw [if_neg (by rw [hK]; decide), if_pos (by rw [hK]; rfl)]
    exact ⟨-1, σ, τ, rfl, rfl, h⟩
  · have hK : K < 20 := by omega
    rw [if_pos (ltL 20 (20 : Int32) rfl hK (by omega)), if_neg (show ¬ nI K = (20 : Int32) from fun q => absurd ((nI_eq (a := K) (b := 20) (by omega) (by omega)).mp q) (by omega)), bnd_e, cr_ hR 0 3 12 rfl (by decide), zX_n hK (by omega), bnd_e, cl_n (by omega), (kr hR hK).1, bnd_e, mm48 hM]
    obtain ⟨σ1, q1, q2, q3, q4, q5, q6⟩ := c_played h N1 N2 N4
    obtain ⟨τ1, p1, p2, p3⟩ := m_told hco N2 N4
    have hR1 : cR σ1.2 := q3.1.1
    have hM1 : mR τ1.2 := by rw [p1.2.2]; exact hM
    obtain ⟨σ2, c1, c2, c3, c4, c5, c6, c7⟩ := c_copy3 hR1 hK
    rw [q1, zb_s, c1, zb_s, bnd_e, p3, zb_s, zX_n hK (by omega)]
    have K1 : τ1.1 0 39 = nI K := by rw [p1.2.1 39 (by omega)]; exact k3
    have N5 : τ1.1 0 1 = nI N := by rw [p1.2.1 1 (by omega)]; exact N4
    rw [m_keep_0 hM1 hK K1]
    generalize hg : zI (zI (zI (zI τ1 31 K (loudN (mE τ (τ.1 3) noB) N)) 29 K (τ1.1 0 1)) 30 K (τ1.1 0 0)) 32 K 0 = τ2
    have f2 : kFr K τ1 τ2 := by
      rw [← hg]
      have f1 : kFr K τ1 τ1 := ⟨fun _ _ => rfl, fun _ => rfl, rfl, fun _ _ _ _ _ => rfl⟩
      exact (((f1.i (by omega) (by omega) (show K ≤ K by omega)).i (by omega) (by omega) (show K ≤ K by omega)).i (by omega) (by omega) (show K ≤ K by omega)).i (by omega) (by omega) (show K ≤ K by omega)
    have v1 : kV1 K τ1 τ2 (loudN (mE τ (τ.1 3) noB) N) := by
      rw [← hg]
      refine ⟨?_, ?_, ?_⟩
      · rw [zI_ne (by decide), zI_ne (by decide), zI_ne (by decide), zI_s]
      · rw [zI_ne (by decide), zI_ne (by decide), zI_s]
      · rw [zI_ne (by decide), zI_s]
    have v2 : kV2 K N τ1 τ2 0 0 0 := by
      refine ⟨fun t' ht' => absurd ht' (by omega), fun t' ht' => absurd ht' (by omega), ?_⟩
      rw [← hg, zI_s, if_pos (by omega)]
      rfl
    obtain ⟨τ3, x1, x2, x3, x4, x5⟩ := m_kp_62 hM1 hK K1 N2 N5 (loudN (mE τ (τ.1 3) noB) N) zFU 0 τ2 (by omega) (by unfold zFU; omega) f2 v1 v2 (fun t' q a b c => by omega)
    rw [show (0 : Int32) = nI 0 from rfl, x5]
    unfold bX7_keep_204
    obtain ⟨τ4, y1, y2, y3, y4, y5, y6⟩ := m_kp_206 hM1 hK K1 (N := N) (loudN (mE τ (τ.1 3) noB) N) zFU 0 τ3 (by omega) (by unfold zFU; omega) x1 x2 x3 x4 (fun q hq => absurd hq (by omega))
    rw [show (0 : Int32) = nI 0 from rfl, y6]
    have e04 : σ2.1 0 4 = nI K := by rw [c3 0 (by omega), q2.2 4 (by decide)]; exact k2
    rw [zI_s, e04, nI_1]
    refine ⟨nI (K + 1), _, _, rfl, rfl, ?_⟩
    exact keep_rel h hK k2 k3 k4 N1 N2 N3 N5 q2 q3 q5 q6 p1 p2 c2 c3 c4 c5 c6 c7 y1 y2 y3 y4 y5
