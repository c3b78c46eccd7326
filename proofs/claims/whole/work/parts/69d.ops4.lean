/-! rests, count -/
theorem sumAt_e {σ : zS} {N a b : Nat} (ha : a < 5) (hb : b < 5) : fX6_sumAt N (nI a) (nI b) σ = some (σ.1 N (5 * a + b), σ) := by
  unfold fX6_sumAt
  have hy : (5 : Int32) * nI a + nI b = nI (5 * a + b) := by
    show nI 5 * nI a + nI b = _
    rw [pk_mul, nI_add]
  rw [bnd_e, hy, if_neg (nI_pos (by omega)), if_neg (geL 25 (25 : Int32) rfl (show 5 * a + b < 25 by omega) (by omega)), zX_n (by omega) (by omega), cl_n (by omega)]
theorem rst_k {σ τ : zS} (h : core σ τ) {m a b : Nat} (hm : m ≤ 5) (ha : a < m) (hb : b < m) : ∀ (n k : Nat), k ≤ m → m < k + n → ∃ r : Int32, fX6_atRest_25 n 0 (nI a) (nI b) (nI m) (σ.1 171 (5 * a + b)) (σ.1 172 (5 * a + b)) (nI k) σ = some (r, σ) ∧ fX7_isRest_3 n 0 (nI m) (nI a) (nI b) (nI k) τ = some (r, τ) := by
  obtain ⟨hR, -, hM, -, -, -, -, -, hsm, -⟩ := id h
  intro n
  induction n with
  | zero => intro k a b; exact absurd b (by omega)
  | succ n ih =>
    intro k hk1 hk2
    show ∃ r : Int32, bX6_atRest_25 (fX6_atRest_25 n) 0 (nI a) (nI b) (nI m) (σ.1 171 (5 * a + b)) (σ.1 172 (5 * a + b)) (nI k) σ = some (r, σ) ∧ bX7_isRest_3 (fX7_isRest_3 n) 0 (nI m) (nI a) (nI b) (nI k) τ = some (r, τ)
    unfold bX6_atRest_25 bX7_isRest_3
    by_cases e : k = m
    · rw [e, if_pos (nI_le (Nat.le_refl _) (by omega)), if_pos (nI_le (Nat.le_refl _) (by omega))]
      exact ⟨1, rfl, rfl⟩
    · have hk : k < m := by omega
      rw [if_neg (nI_ge hk (by omega)), if_neg (nI_ge hk (by omega))]
      simp only [bnd_e, mm38 hM, cr_ hR 0 15 171 rfl (by decide), cr_ hR 0 16 172 rfl (by decide)]
      have x1 : (5 : Int32) * nI k + nI b = nI (5 * k + b) := by
        show nI 5 * nI k + nI b = _
        rw [pk_mul, nI_add]
      have x2 : (5 : Int32) * nI a + nI b = nI (5 * a + b) := by
        show nI 5 * nI a + nI b = _
        rw [pk_mul, nI_add]
      have x3 : ((25 : Int32) + (5 : Int32) * nI a) + nI k = nI (25 + 5 * a + k) := by
        show (nI 25 + nI 5 * nI a) + nI k = _
        rw [pk_mul, nI_add, nI_add]
      have x4 : ((25 : Int32) + (5 : Int32) * nI a) + nI b = nI (25 + 5 * a + b) := by
        show (nI 25 + nI 5 * nI a) + nI b = _
        rw [pk_mul, nI_add, nI_add]
      rw [x1, x2, x3, x4, sumAt_e (by omega) (by omega), zb_s, cr_ hR 0 16 172 rfl (by decide), sumAt_e (by omega) (by omega), zb_s]
      rw [zX_n (n := 50) (by omega) (by omega), zX_n (n := 50) (by omega) (by omega), zX_n (n := 50) (by omega) (by omega), zX_n (n := 50) (by omega) (by omega), cl_n (i := 5 * k + b) (by omega), cl_n (i := 5 * a + b) (by omega), cl_n (i := 25 + 5 * a + k) (by omega), cl_n (i := 25 + 5 * a + b) (by omega)]
      have s1 := (hsm (5 * k + b) (by omega)).1
      have s2 := (hsm (5 * a + b) (by omega)).1
      have s3 := (hsm (5 * a + k) (by omega)).2
      have s4 := (hsm (5 * a + b) (by omega)).2
      rw [← s1, ← s2, show 25 + 5 * a + k = 25 + (5 * a + k) by omega, show 25 + 5 * a + b = 25 + (5 * a + b) by omega, ← s3, ← s4]
      by_cases c1 : σ.1 171 (5 * a + b) < σ.1 171 (5 * k + b)
      · rw [if_pos c1, if_pos c1]; exact ⟨0, rfl, rfl⟩
      · rw [if_neg c1, if_neg c1]
        by_cases c2 : σ.1 172 (5 * a + k) ≤ σ.1 172 (5 * a + b)
        · rw [if_pos c2, if_pos c2, nI_1]
          exact ih (k + 1) (by omega) (by omega)
        · rw [if_neg c2, if_neg c2]; exact ⟨0, rfl, rfl⟩
theorem rst_1 {σ τ : zS} (h : core σ τ) {m a b : Nat} (hm : m ≤ 5) (ha : a < m) (hb : b < m) : ∃ r : Int32, fX6_atRest 0 (nI a) (nI b) (nI m) σ = some (r, σ) ∧ fX7_isRest 0 (nI m) (nI a) (nI b) τ = some (r, τ) := by
  obtain ⟨hR, -⟩ := id h
  unfold fX6_atRest fX7_isRest
  rw [bnd_e, cr_ hR 0 15 171 rfl (by decide), sumAt_e (by omega) (by omega), zb_s, bnd_e, cr_ hR 0 16 172 rfl (by decide), sumAt_e (by omega) (by omega), zb_s]
  exact rst_k h hm ha hb zFU 0 (by omega) (by unfold zFU; omega)
theorem rst_30 {σ τ : zS} (h : core σ τ) {m a : Nat} (v : Int32) (hm : m ≤ 5) (ha : a < m) (kC : Nat → Int32 → Int32 → Int32 → Int32 → zS → Option (Int32 × zS)) (kM : Nat → Int32 → Int32 → Int32 → Int32 → zS → Option (Int32 × zS)) (hk : ∀ c, ∃ r : Int32, kC 0 (nI m) v c (nI (a + 1)) σ = some (r, σ) ∧ kM 0 (nI m) v c (nI (a + 1)) τ = some (r, τ)) : ∀ (n b : Nat) (c : Int32), b ≤ m → m < b + n → ∃ r : Int32, fX6_rests_30 kC n 0 (nI m) v c (nI a) (nI b) σ = some (r, σ) ∧ fX7_rests_30 kM n 0 (nI m) v c (nI a) (nI b) τ = some (r, τ) := by
  intro n
  induction n with
  | zero => intro b c a b; exact absurd b (by omega)
  | succ n ih =>
    intro b c hb1 hb2
    show ∃ r : Int32, bX6_rests_30 kC (fX6_rests_30 kC n) 0 (nI m) v c (nI a) (nI b) σ = some (r, σ) ∧ bX7_rests_30 kM (fX7_rests_30 kM n) 0 (nI m) v c (nI a) (nI b) τ = some (r, τ)
    unfold bX6_rests_30 bX7_rests_30 bX6_rests_73 bX7_rests_74 bX6_rests_67 bX7_rests_68 bX6_rests_56 bX7_rests_56
    by_cases e : b = m
    · rw [e, if_pos (nI_le (Nat.le_refl _) (by omega)), if_pos (nI_le (Nat.le_refl _) (by omega)), nI_1]
      exact hk c
    · have hb : b < m := by omega
      obtain ⟨r, r1, r2⟩ := rst_1 h hm ha hb
      rw [if_neg (nI_ge hb (by omega)), if_neg (nI_ge hb (by omega)), r1, zb_s, r2, zb_s, nI_1, bnd_e]
      by_cases c1 : r = 0
      · rw [if_pos c1, if_pos c1]; exact ih (b + 1) c (by omega) (by omega)
      · rw [if_neg c1, if_neg c1]
        by_cases c2 : c = v
        · rw [if_pos c2, if_pos c2]; exact ⟨_, rfl, rfl⟩
        · rw [if_neg c2, if_neg c2]; exact ih (b + 1) (c + 1) (by omega) (by omega)
theorem rst_21 {σ τ : zS} (h : core σ τ) {m : Nat} (v : Int32) (hm : m ≤ 5) : ∀ (n a : Nat) (c : Int32), a ≤ m → m < a + n → ∃ r : Int32, fX6_rests_21 n 0 (nI m) v c (nI a) σ = some (r, σ) ∧ fX7_rests_21 n 0 (nI m) v c (nI a) τ = some (r, τ) := by
  intro n
  induction n with
  | zero => intro a c a b; exact absurd b (by omega)
  | succ n ih =>
    intro a c ha1 ha2
    show ∃ r : Int32, bX6_rests_21 (fX6_rests_21 n) 0 (nI m) v c (nI a) σ = some (r, σ) ∧ bX7_rests_21 (fX7_rests_21 n) 0 (nI m) v c (nI a) τ = some (r, τ)
    unfold bX6_rests_21 bX7_rests_21 bX6_rests_79 bX7_rests_80
    by_cases e : a = m
    · rw [e, if_pos (nI_le (Nat.le_refl _) (by omega)), if_pos (nI_le (Nat.le_refl _) (by omega))]
      by_cases c1 : v = -1
      · rw [if_pos c1, if_pos c1]; exact ⟨c, rfl, rfl⟩
      · rw [if_neg c1, if_neg c1]; exact ⟨-1, rfl, rfl⟩
    · have ha : a < m := by omega
      rw [if_neg (nI_ge ha (by omega)), if_neg (nI_ge ha (by omega))]
      exact rst_30 h v hm ha _ _ (fun c => ih (a + 1) c (by omega) (by omega)) zFU 0 c (by omega) (by unfold zFU; omega)
theorem o_rests (σ τ : zS) (h : Rel σ τ) (a1 a2 : Int32) : ∃ (r : Int32) (σ' τ' : zS), fX6_rests 0 a1 a2 σ = some (r, σ') ∧ fX7_rests 0 a1 a2 τ = some (r, τ') ∧ Rel σ' τ' := by
  obtain ⟨hco, hca, hfr⟩ := id h
  unfold fX6_rests fX7_rests
  rcases ok_dec a1 2 5 with h1 | h1
  · rw [(c_within a1 2 5 σ).1 h1, zb_s, if_neg n10, (m_in a1 2 5 τ).1 h1, zb_s, if_neg n10]
    obtain ⟨m, m1, m2, rfl⟩ := ok_n (a := 2) (n := 5) (by omega) (by omega) h1
    by_cases c : (-1 : Int32) ≤ a2
    · rw [if_pos c, if_pos c]
      obtain ⟨r, r1, r2⟩ := rst_21 hco a2 m2 zFU 0 0 (by omega) (by unfold zFU; omega)
      exact ⟨r, σ, τ, r1, r2, h⟩
    · rw [if_neg c, if_neg c]
      exact ⟨-1, σ, τ, rfl, rfl, h⟩
  · rw [(c_within a1 2 5 σ).2 h1, zb_s, if_pos rfl, (m_in a1 2 5 τ).2 h1, zb_s, if_pos rfl]
    exact ⟨-1, σ, τ, rfl, rfl, h⟩
theorem ok_sub {v : Int32} {a n : Nat} (c : Int32) (hc : c = nI a) (ha : a ≤ n) (hn : n < 2 ^ 31) (h : ok v c (nI n)) : ∃ k, k ≤ n - a ∧ v = nI (a + k) ∧ v - c = nI k := by
  subst hc
  obtain ⟨k, k1, k2, rfl⟩ := ok_n ha hn h
  exact ⟨k - a, by omega, by congr 1; omega, pk_sub k1⟩
theorem o_count (σ τ : zS) (h : Rel σ τ) (a1 : Int32) : ∃ (r : Int32) (σ' τ' : zS), fX6_count 0 a1 σ = some (r, σ') ∧ fX7_count 0 a1 τ = some (r, τ') ∧ Rel σ' τ' := by
  obtain ⟨hco, hca, hfr⟩ := id h
  obtain ⟨hR, -, hM, hcr, hbi, hpl, hpr, ⟨⟨kt, -, kt2, kt3⟩, -⟩, hsm, hlw, ⟨K, -, K2, K3, -⟩⟩ := id hco
  obtain ⟨w, -, -, w3, w4⟩ := core_w hco
  obtain ⟨N, -, -, N3, N4⟩ := core_N hco
  unfold fX6_count fX7_count
  simp only [bnd_e, cr_ hR 0 0 1 rfl (by decide), cr_ hR 1 0 5 rfl (by decide), cr_ hR 1 1 2 rfl (by decide), cr_ hR 0 6 156 rfl (by decide), mm4 hM, mm6 hM, mm26 hM]
  have big : ∀ (lo hi : Nat), lo ≤ hi → hi < 2 ^ 31 → 7 ≤ lo → ∀ (c d : Int32), c = nI lo → d = nI hi → ok a1 c d → ¬ a1 = 0 ∧ ¬ a1 = 1 ∧ ¬ a1 = 2 ∧ ¬ a1 = 3 ∧ ¬ a1 = 4 ∧ ¬ a1 = 5 ∧ ¬ a1 = 6 := by
    intro lo hi l1 l2 l3 c d hc hd hok
    subst hc; subst hd
    obtain ⟨k, k1, k2, rfl⟩ := ok_n l1 l2 hok
    have q : ∀ j, j < 7 → ¬ nI k = nI j := fun j hj e => by have := (nI_eq (by omega) (by omega)).mp e; omega
    exact ⟨q 0 (by omega), q 1 (by omega), q 2 (by omega), q 3 (by omega), q 4 (by omega), q 5 (by omega), q 6 (by omega)⟩
  rcases ok_dec a1 10 13 with h1 | h1
  · obtain ⟨b0, b1, b2, b3, b4, b5, b6⟩ := big 10 13 (by omega) (by omega) (by omega) 10 13 rfl rfl h1
    rw [(c_within a1 10 13 σ).1 h1, zb_s, if_neg n10, if_neg b0, if_neg b1, if_neg b2, if_neg b3, if_neg b4, if_neg b5, if_neg b6, (m_in a1 10 13 τ).1 h1, zb_s, if_neg n10]
    obtain ⟨k, k1, -, k3⟩ := ok_sub (a := 10) (n := 13) 10 rfl (by omega) (by omega) h1
    obtain ⟨m, hm, q1, q2⟩ := hlw k (by omega)
    rw [k3, zX_n (by omega) (by omega), zX_n (by omega) (by omega), cl_n (by omega), cr_ hR 0 6 156 rfl (by decide), mm26 hM, q1]
    obtain ⟨K', F, -, e1, e2, -⟩ := q2
    rw [e1, e2]
    exact ⟨_, σ, τ, rfl, rfl, h⟩
  · rw [(c_within a1 10 13 σ).2 h1, zb_s, if_pos rfl]
    rcases ok_dec a1 20 43 with h2 | h2
    · obtain ⟨b0, b1, b2, b3, b4, b5, b6⟩ := big 20 43 (by omega) (by omega) (by omega) 20 43 rfl rfl h2
      rw [(c_within a1 20 43 σ).1 h2, zb_s, if_neg n10, if_neg b0, if_neg b1, if_neg b2, if_neg b3, if_neg b4, if_neg b5, if_neg b6, (m_in a1 10 13 τ).2 h1, zb_s, if_pos rfl, (m_in a1 20 43 τ).1 h2, zb_s, if_neg n10]
      obtain ⟨k, k1, -, k3⟩ := ok_sub (a := 20) (n := 43) 20 rfl (by omega) (by omega) h2
      rw [k3, cr_ hR 0 0 1 rfl (by decide), cr_ hR 1 0 5 rfl (by decide), c_sortOf hcr (by omega), zb_s, mm4 hM, zX_n (by omega) (by omega), cl_n (by omega)]
      exact ⟨_, σ, τ, rfl, rfl, h⟩
    · rw [(c_within a1 20 43 σ).2 h2, zb_s, if_pos rfl]
      rcases ok_dec a1 50 73 with h3 | h3
      · obtain ⟨b0, b1, b2, b3, b4, b5, b6⟩ := big 50 73 (by omega) (by omega) (by omega) 50 73 rfl rfl h3
        rw [(c_within a1 50 73 σ).1 h3, zb_s, if_neg n10, if_neg b0, if_neg b1, if_neg b2, if_neg b3, if_neg b4, if_neg b5, if_neg b6, (m_in a1 10 13 τ).2 h1, zb_s, if_pos rfl, (m_in a1 20 43 τ).2 h2, zb_s, if_pos rfl, (m_in a1 50 73 τ).1 h3, zb_s, if_neg n10]
        obtain ⟨k, k1, -, k3⟩ := ok_sub (a := 50) (n := 73) 50 rfl (by omega) (by omega) h3
        rw [k3, cr_ hR 0 0 1 rfl (by decide), cr_ hR 1 0 5 rfl (by decide), c_payerOf hcr (by omega), zb_s, m_isTaken hM (by omega), zb_s]
        by_cases c : τ.1 1 k = -1
        · rw [if_pos c, if_pos c, if_pos rfl]
          exact ⟨_, σ, τ, rfl, rfl, h⟩
        · rw [if_neg c, if_neg c, if_neg n10, zX_n (by omega) (by omega), cl_n (by omega), mm6 hM]
          exact ⟨_, σ, τ, rfl, rfl, h⟩
      · rw [(c_within a1 50 73 σ).2 h3, zb_s, if_pos rfl, (m_in a1 10 13 τ).2 h1, zb_s, if_pos rfl, (m_in a1 20 43 τ).2 h2, zb_s, if_pos rfl, (m_in a1 50 73 τ).2 h3, zb_s, if_pos rfl, cr_ hR 0 0 1 rfl (by decide), cr_ hR 1 0 5 rfl (by decide), cr_ hR 1 1 2 rfl (by decide), f_bc (cr_p hcr), zb_s, m_persons hM, zb_s, w3, w4, N3, N4, kt2, kt3, K2, K3, hpr.1, hpr.2]
        by_cases c0 : a1 = 0
        · rw [if_pos c0, if_pos c0]; exact ⟨_, σ, τ, rfl, rfl, h⟩
        rw [if_neg c0, if_neg c0]
        by_cases c1 : a1 = 1
        · rw [if_pos c1, if_pos c1]; exact ⟨_, σ, τ, rfl, rfl, h⟩
        rw [if_neg c1, if_neg c1]
        by_cases c2 : a1 = 2
        · rw [if_pos c2, if_pos c2]; exact ⟨_, σ, τ, rfl, rfl, h⟩
        rw [if_neg c2, if_neg c2]
        by_cases c3 : a1 = 3
        · rw [if_pos c3, if_pos c3]; exact ⟨_, σ, τ, rfl, rfl, h⟩
        rw [if_neg c3, if_neg c3]
        by_cases c4 : a1 = 4
        · rw [if_pos c4, if_pos c4]; exact ⟨_, σ, τ, rfl, rfl, h⟩
        rw [if_neg c4, if_neg c4]
        by_cases c5 : a1 = 5
        · rw [if_pos c5, if_pos c5]; exact ⟨_, σ, τ, rfl, rfl, h⟩
        rw [if_neg c5, if_neg c5]
        by_cases c6 : a1 = 6
        · rw [if_pos c6, if_pos c6]; exact ⟨_, σ, τ, rfl, rfl, h⟩
        rw [if_neg c6, if_neg c6]
        exact ⟨_, σ, τ, rfl, rfl, h⟩
