/-! ===== hears ===== -/
def gtP (a b c d : Int32) : Int32 := (if b ≤ a then (if a = b then 0 else 1) else -1) * (if d ≤ c then (if c = d then 0 else 1) else -1)
theorem cmp_s (a b : Int32) : (if b ≤ a then (if a = b then 0 else 1) else (-1 : Int32)) = -(if a ≤ b then (if b = a then 0 else 1) else (-1 : Int32)) := by
  by_cases e : a = b
  · subst e
    rw [if_pos (Int32.le_refl a), if_pos rfl]; rfl
  · have e2 : ¬ b = a := fun q => e q.symm
    by_cases h : b ≤ a
    · have h2 : ¬ a ≤ b := fun q => e (Int32.le_antisymm q h)
      rw [if_pos h, if_neg e, if_neg h2]; rfl
    · have h2 : a ≤ b := (Int32.le_total a b).resolve_right h
      rw [if_neg h, if_pos h2, if_neg e2]
theorem gtP_s (a b c d : Int32) : gtP a b c d = gtP b a d c := by
  unfold gtP
  rw [cmp_s a b, cmp_s c d, Int32.neg_mul, Int32.mul_neg, Int32.neg_neg]
def tri (p : Nat → Nat → Bool) (K : Nat) : Nat := sumN (fun i => cn (p i) i) K
def tri2 (p : Nat → Nat → Bool) (K n : Nat) : Nat := sumN (fun i => cn (fun d => p i (i + 1 + d)) (K - i - 1)) n
theorem sumN_c {f g : Nat → Nat} : ∀ n, (∀ i, i < n → f i = g i) → sumN f n = sumN g n
  | 0, _ => rfl
  | n + 1, h => by
    show sumN f n + f n = sumN g n + g n
    rw [sumN_c n (fun i hi => h i (by omega)), h n (by omega)]
theorem sumN_a (f : Nat → Nat) (p : Nat → Bool) : ∀ n, sumN (fun i => f i + (if p i = true then 1 else 0)) n = sumN f n + cn p n
  | 0 => rfl
  | n + 1 => by
    show sumN _ n + (f n + (if p n = true then 1 else 0)) = sumN f n + f n + (cn p n + (if p n = true then 1 else 0))
    rw [sumN_a f p n]
    omega
theorem tri_eq {p : Nat → Nat → Bool} (hs : ∀ i j, p i j = p j i) : ∀ K, tri2 p K K = tri p K
  | 0 => rfl
  | K + 1 => by
    show tri2 p (K + 1) K + cn (fun d => p K (K + 1 + d)) (K + 1 - K - 1) = tri p K + cn (p K) K
    rw [show K + 1 - K - 1 = 0 by omega, ← tri_eq hs K]
    show tri2 p (K + 1) K + 0 = _
    rw [Nat.add_zero]
    unfold tri2
    rw [cn_cong (p := p K) (q := fun i => p i K) (fun i _ => hs K i), ← sumN_a]
    refine sumN_c K (fun i hi => ?_)
    rw [show K + 1 - i - 1 = (K - i - 1) + 1 by omega]
    show cn _ (K - i - 1) + (if p i (i + 1 + (K - i - 1)) = true then 1 else 0) = _
    rw [show i + 1 + (K - i - 1) = K by omega]
def hrP (τ : zS) (i j : Nat) : Int32 := gtP (τ.1 31 i) (τ.1 31 j) (τ.1 32 i) (τ.1 32 j)
/-! the reference -/
theorem m_hr_j {τ : zS} (hM : mR τ.2) {K i j : Nat} (hK : K ≤ 20) (hK2 : τ.1 0 39 = nI K) (hi : i < K) (hj : j < K) (k18 : Nat → Int32 → Int32 → Int32 → Int32 → zS → Option (Int32 × zS)) (k33 : Nat → Int32 → Int32 → Int32 → Int32 → Int32 → zS → Option (Int32 × zS)) (v1 v2 v3 : Int32) : bX7_hears_33 k18 k33 0 v1 v2 v3 (nI i) (nI j) τ = k33 0 v1 (v2 + if hrP τ i j = 1 then 1 else 0) (v3 + if hrP τ i j = -1 then 1 else 0) (nI i) (nI (j + 1)) τ := by
  unfold bX7_hears_33 bX7_hears_101 bX7_hears_123 bX7_hears_131 bX7_hears_144 bX7_hears_157 bX7_hears_159
  simp only [bnd_e, mm48 hM, mm49 hM]
  rw [hK2, if_neg (nI_ge hj (by omega)), cl_n (i := i) (by omega), cl_n (i := j) (by omega), nI_1]
  have zi : ∀ a : Option (Int32 × zS), zX (nI i) 20 a = a := fun a => zX_n (by omega) (by omega)
  have zj : ∀ a : Option (Int32 × zS), zX (nI j) 20 a = a := fun a => zX_n (by omega) (by omega)
  simp only [zi, zj]
  unfold hrP gtP
  generalize τ.1 31 i = a
  generalize τ.1 31 j = b
  generalize τ.1 32 i = c
  generalize τ.1 32 j = d
  by_cases e1 : a = b
  · subst e1
    rw [if_pos rfl, if_pos (Int32.le_refl a), if_pos rfl, Int32.zero_mul, if_neg (show ¬ (0 : Int32) = 1 by decide), if_neg (show ¬ (0 : Int32) = -1 by decide), Int32.add_zero, Int32.add_zero]
  · rw [if_neg e1]
    by_cases e2 : c = d
    · subst e2
      rw [if_pos rfl, if_pos (Int32.le_refl c), if_pos rfl, Int32.mul_zero, if_neg (show ¬ (0 : Int32) = 1 by decide), if_neg (show ¬ (0 : Int32) = -1 by decide), Int32.add_zero, Int32.add_zero]
    · rw [if_neg e2]
      by_cases h1 : b ≤ a
      · rw [if_pos h1, if_pos h1, if_neg e1]
        by_cases h2 : d ≤ c
        · rw [if_pos h2, if_pos h2, if_neg e2]; rfl
        · rw [if_neg h2, if_neg h2]; rfl
      · rw [if_neg h1, if_neg h1]
        by_cases h2 : d ≤ c
        · rw [if_pos h2, if_pos h2, if_neg e2]; rfl
        · rw [if_neg h2, if_neg h2]; rfl
theorem m_hr_33 {τ : zS} (hM : mR τ.2) {K i : Nat} (hK : K ≤ 20) (hK2 : τ.1 0 39 = nI K) (hi : i < K) (k18 : Nat → Int32 → Int32 → Int32 → Int32 → zS → Option (Int32 × zS)) (v1 : Int32) (A B : Nat) : ∀ (n d : Nat), i + 1 + d ≤ K → K < i + 1 + d + n → fX7_hears_33 k18 n 0 v1 (nI (A + cn (fun d => decide (hrP τ i (i + 1 + d) = 1)) d)) (nI (B + cn (fun d => decide (hrP τ i (i + 1 + d) = -1)) d)) (nI i) (nI (i + 1 + d)) τ = k18 0 v1 (nI (A + cn (fun d => decide (hrP τ i (i + 1 + d) = 1)) (K - i - 1))) (nI (B + cn (fun d => decide (hrP τ i (i + 1 + d) = -1)) (K - i - 1))) (nI (i + 1)) τ := by
  intro n
  induction n with
  | zero => intro d h1 h2; exact absurd h2 (by omega)
  | succ n ih =>
    intro d h1 h2
    show bX7_hears_33 k18 (fX7_hears_33 k18 n) 0 v1 _ _ (nI i) (nI (i + 1 + d)) τ = _
    by_cases e : i + 1 + d = K
    · unfold bX7_hears_33 bX7_hears_165
      rw [hK2, if_pos (nI_le (by omega) (by omega)), nI_1, show d = K - i - 1 by omega]
    · rw [m_hr_j hM hK hK2 hi (by omega)]
      rw [show i + 1 + d + 1 = i + 1 + (d + 1) by omega, ← ih (d + 1) (by omega) (by omega)]
      have k1 := cn_1 (fun d => decide (hrP τ i (i + 1 + d) = 1)) d
      have k2 := cn_1 (fun d => decide (hrP τ i (i + 1 + d) = -1)) d
      rw [← nI_add A, ← nI_add B, ← nI_add A, ← nI_add B, ← k1, ← k2, Int32.add_assoc, Int32.add_assoc]
      have s1 : (if decide (hrP τ i (i + 1 + d) = 1) = true then (1 : Int32) else 0) = if hrP τ i (i + 1 + d) = 1 then 1 else 0 := by simp only [decide_eq_true_eq]
      have s2 : (if decide (hrP τ i (i + 1 + d) = -1) = true then (1 : Int32) else 0) = if hrP τ i (i + 1 + d) = -1 then 1 else 0 := by simp only [decide_eq_true_eq]
      rw [← s1, ← s2]
theorem m_hr_18 {τ : zS} (hM : mR τ.2) {K : Nat} (hK : K ≤ 20) (hK2 : τ.1 0 39 = nI K) (v1 : Int32) : ∀ (n i : Nat), i ≤ K → K < i + n → fX7_hears_18 n 0 v1 (nI (tri2 (fun i j => decide (hrP τ i j = 1)) K i)) (nI (tri2 (fun i j => decide (hrP τ i j = -1)) K i)) (nI i) τ = some (if v1 = 0 then nI (tri2 (fun i j => decide (hrP τ i j = 1)) K K) else nI (tri2 (fun i j => decide (hrP τ i j = -1)) K K), τ) := by
  intro n
  induction n with
  | zero => intro i h1 h2; exact absurd h2 (by omega)
  | succ n ih =>
    intro i h1 h2
    show bX7_hears_18 (fX7_hears_18 n) 0 v1 _ _ (nI i) τ = _
    unfold bX7_hears_18
    rw [hK2]
    by_cases e : i = K
    · rw [e, if_pos (nI_le (Nat.le_refl _) (by omega))]
      unfold bX7_hears_171
      split <;> rfl
    · have hi : i < K := by omega
      rw [if_neg (nI_ge hi (by omega)), bnd_e, nI_1]
      have := m_hr_33 hM hK hK2 hi (fX7_hears_18 n) v1 (tri2 (fun i j => decide (hrP τ i j = 1)) K i) (tri2 (fun i j => decide (hrP τ i j = -1)) K i) zFU 0 (by omega) (by unfold zFU; omega)
      rw [show i + 1 + 0 = i + 1 from rfl] at this
      rw [show fX7_hears_33 (fX7_hears_18 n) zFU 0 v1 (nI (tri2 (fun i j => decide (hrP τ i j = 1)) K i)) (nI (tri2 (fun i j => decide (hrP τ i j = -1)) K i)) (nI i) (nI (i + 1)) τ = _ from this]
      exact ih (i + 1) (by omega) (by omega)
/-! the class -/
theorem c_gfk {σ : zS} {B B1 N : Nat} (r1 : σ.2 B 1 = B1) (hN : σ.1 B 0 = nI N) (hN2 : N ≤ 40) : fX1_goodForKnowing B σ = some (gsum (σ.1 B1) N, σ) := by
  have loop : ∀ (n t : Nat), t ≤ N → N < t + n → fX1_goodForKnowing_4 n B (gsum (σ.1 B1) t) (nI t) σ = some (gsum (σ.1 B1) N, σ) := by
    intro n
    induction n with
    | zero => intro t h1 h2; exact absurd h2 (by omega)
    | succ n ih =>
      intro t h1 h2
      show bX1_goodForKnowing_4 (fX1_goodForKnowing_4 n) B _ (nI t) σ = _
      unfold bX1_goodForKnowing_4
      rw [hN]
      by_cases e : t = N
      · rw [e, if_pos (nI_le (Nat.le_refl _) (by omega))]
      · rw [if_neg (nI_ge (show t < N by omega) (by omega)), if_neg (geL 40 (40 : Int32) rfl (show t < 40 by omega) (by omega)), bnd_e, r1, zX_n (by omega) (by omega), bnd_e, cl_n (by omega), nI_1]
        exact ih (t + 1) (by omega) (by omega)
  exact loop zFU 0 (by omega) (by unfold zFU; omega)
theorem c_cmp (a b : Int32) (σ : zS) : fJ6_compare_7cf53 a b σ = some (if b ≤ a then (if a = b then 0 else 1) else -1, σ) := by
  unfold fJ6_compare_7cf53
  split
  · split <;> rfl
  · rfl
theorem gsum_c {f g : Nat → Int32} : ∀ n, (∀ t, t < n → f t = g t) → gsum f n = gsum g n
  | 0, _ => rfl
  | n + 1, h => by
    show gsum f n + f n = gsum g n + g n
    rw [gsum_c n (fun t ht => h t (by omega)), h n (by omega)]
theorem c_good {σ τ : zS} (h : core σ τ) {K e : Nat} (hK : K ≤ 20) (hK2 : σ.1 0 4 = nI K) (he : e < K) : fX1_goodForKnowing (14 + 7 * e) σ = some (τ.1 32 e, σ) ∧ σ.1 (13 + 7 * e) 4 = τ.1 31 e := by
  obtain ⟨hR, -, -, -, -, -, -, -, -, -, ⟨K', k1, k2, k3, k4⟩⟩ := id h
  have : K' = K := (nI_eq (by omega) (by omega)).mp (k2.symm.trans hK2)
  subst this
  obtain ⟨N, w, ⟨N1, N2, N3, N4⟩, -, hg, -, hsum, hgs, -⟩ := k4 e he
  obtain ⟨r1, r2, r3, r4, r5, r6, r7⟩ := kr hR (show e < 20 by omega)
  refine ⟨?_, hsum⟩
  rw [c_gfk r6 N3 N2, hgs, gsum_c N (fun t ht => (hg t (by omega)).1)]
theorem c_goT {σ τ : zS} (h : core σ τ) {K i j : Nat} (hK : K ≤ 20) (hK2 : σ.1 0 4 = nI K) (hi : i < K) (hj : j < K) : fX6_goTogether (13 + 7 * i) (13 + 7 * j) σ = some (hrP τ i j, σ) := by
  obtain ⟨a1, a2⟩ := c_good h hK hK2 hi
  obtain ⟨b1, b2⟩ := c_good h hK hK2 hj
  have hR := h.1
  unfold fX6_goTogether
  rw [a2, b2, c_cmp, zb_s, bnd_e, (kr hR (show i < 20 by omega)).2.2.1, a1, zb_s, bnd_e, (kr hR (show j < 20 by omega)).2.2.1, b1, zb_s, c_cmp, zb_s]
  rfl
theorem c_hr {σ τ : zS} (h : core σ τ) {K : Nat} (hK : K ≤ 20) (hK2 : σ.1 0 4 = nI K) (w : Int32) : fX6_hears_26 zFU 0 w 0 0 σ = some (nI (tri (fun i j => decide (hrP τ i j = w)) K), σ) := by
  have hR := h.1
  have inner : ∀ (k26 : Nat → Int32 → Int32 → Int32 → zS → Option (Int32 × zS)) (i : Nat), i < K → ∀ (A n j : Nat), j ≤ i → i < j + n → fX6_hears_48 k26 n 0 w (nI (A + cn (fun j => decide (hrP τ i j = w)) j)) (nI i) (nI j) σ = k26 0 w (nI (A + cn (fun j => decide (hrP τ i j = w)) i)) (nI (i + 1)) σ := by
    intro k26 i hi A n
    induction n with
    | zero => intro j h1 h2; exact absurd h2 (by omega)
    | succ n ih =>
      intro j h1 h2
      show bX6_hears_48 k26 (fX6_hears_48 k26 n) 0 w _ (nI i) (nI j) σ = _
      unfold bX6_hears_48 bX6_hears_85 bX6_hears_79
      by_cases e : j = i
      · rw [e, if_pos (nI_le (Nat.le_refl _) (by omega)), nI_1]
      · have hj : j < i := by omega
        rw [if_neg (nI_ge hj (by omega)), bnd_e, cr_ hR 0 3 12 rfl (by decide), zX_n (by omega) (by omega), bnd_e, cl_n (i := i) (by omega), (kr hR (show i < 20 by omega)).1, bnd_e, zX_n (by omega) (by omega), bnd_e, cl_n (i := j) (by omega), (kr hR (show j < 20 by omega)).1, c_goT h hK hK2 hi (by omega), zb_s, nI_1, nI_1, ← ih (j + 1) (by omega) (by omega)]
        show _ = fX6_hears_48 k26 n 0 w (nI (A + (cn (fun j => decide (hrP τ i j = w)) j + (if decide (hrP τ i j = w) = true then 1 else 0)))) (nI i) (nI (j + 1)) σ
        by_cases c : hrP τ i j = w
        · rw [if_pos c, if_pos (decide_eq_true c), Nat.add_assoc]
        · rw [if_neg c, if_neg (fun q => c (of_decide_eq_true q)), Nat.add_zero (cn _ j)]
  have outer : ∀ (n i : Nat), i ≤ K → K < i + n → fX6_hears_26 n 0 w (nI (tri (fun i j => decide (hrP τ i j = w)) i)) (nI i) σ = some (nI (tri (fun i j => decide (hrP τ i j = w)) K), σ) := by
    intro n
    induction n with
    | zero => intro j h1 h2; exact absurd h2 (by omega)
    | succ n ih =>
      intro i h1 h2
      show bX6_hears_26 (fX6_hears_26 n) 0 w _ (nI i) σ = _
      unfold bX6_hears_26
      rw [hK2]
      by_cases e : i = K
      · rw [e, if_pos (nI_le (Nat.le_refl _) (by omega))]
      · have hi : i < K := by omega
        rw [if_neg (nI_ge hi (by omega)), bnd_e, if_neg (geL 20 (20 : Int32) rfl (show i < 20 by omega) (by omega))]
        have := inner (fX6_hears_26 n) i hi (tri (fun i j => decide (hrP τ i j = w)) i) zFU 0 (by omega) (by unfold zFU; omega)
        rw [show fX6_hears_48 (fX6_hears_26 n) zFU 0 w (nI (tri (fun i j => decide (hrP τ i j = w)) i)) (nI i) 0 σ = _ from this]
        exact ih (i + 1) (by omega) (by omega)
  exact outer zFU 0 (by omega) (by unfold zFU; omega)
theorem o_hears (σ τ : zS) (h : Rel σ τ) (a1 : Int32) : ∃ (r : Int32) (σ' τ' : zS), fX6_hears 0 a1 σ = some (r, σ') ∧ fX7_hears 0 a1 τ = some (r, τ') ∧ Rel σ' τ' := by
  obtain ⟨hco, hca, hfr⟩ := id h
  obtain ⟨hR, -, hM, -, -, -, -, -, -, -, ⟨K, k1, k2, k3, k4⟩⟩ := id hco
  unfold fX6_hears fX7_hears
  rcases ok_dec a1 0 1 with h1 | h1
  · rw [(c_within a1 0 1 σ).1 h1, zb_s, if_neg n10, (m_in a1 0 1 τ).1 h1, zb_s, if_neg n10]
    have hm := m_hr_18 hM k1 k3 a1 zFU 0 (by omega) (by unfold zFU; omega)
    rw [show fX7_hears_18 zFU 0 a1 0 0 0 τ = _ from hm]
    have sy : ∀ v : Int32, ∀ i j, (fun i j => decide (hrP τ i j = v)) i j = (fun i j => decide (hrP τ i j = v)) j i := fun v i j => by
      show decide (hrP τ i j = v) = decide (hrP τ j i = v)
      unfold hrP
      rw [gtP_s]
    rw [tri_eq (sy 1), tri_eq (sy (-1))]
    unfold bX6_hears_20
    rw [c_hr hco k1 k2, c_hr hco k1 k2]
    by_cases c : a1 = 0
    · rw [if_pos c, if_pos c]; exact ⟨_, σ, τ, rfl, rfl, h⟩
    · rw [if_neg c, if_neg c]; exact ⟨_, σ, τ, rfl, rfl, h⟩
  · rw [(c_within a1 0 1 σ).2 h1, zb_s, if_pos rfl, (m_in a1 0 1 τ).2 h1, zb_s, if_pos rfl]
    exact ⟨-1, σ, τ, rfl, rfl, h⟩
