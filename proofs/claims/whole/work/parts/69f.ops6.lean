/-! costs, wins, silent -/
def plF (k : Nat) : Nat := 168 + k
theorem cn_1 (p : Nat → Bool) (s : Nat) : nI (cn p s) + (if p s = true then 1 else 0) = nI (cn p (s + 1)) := by
  show _ = nI (cn p s + (if p s = true then 1 else 0))
  split
  · exact nI_1 _
  · rw [Nat.add_zero, Int32.add_zero]
theorem c_planned {σ : zS} (hR : cR σ.2) {N : Nat} (hN2 : N ≤ 40) (hN : σ.1 2 0 = nI N) {k : Nat} (hk : k = 1 ∨ k = 2) (a : Int32) : fX6_planned 0 (nI k) a σ = some (nI (cn (fun t => decide (σ.1 (168 + k) t = a)) N), σ) := by
  have loop : ∀ (n t : Nat), t ≤ N → N < t + n → fX6_planned_12 n 0 a (168 + k) (nI (cn (fun t => decide (σ.1 (168 + k) t = a)) t)) (nI t) σ = some (nI (cn (fun t => decide (σ.1 (168 + k) t = a)) N), σ) := by
    intro n
    induction n with
    | zero => intro t h1 h2; exact absurd h2 (by omega)
    | succ n ih =>
      intro t h1 h2
      show bX6_planned_12 (fX6_planned_12 n) 0 a (168 + k) (nI (cn (fun t => decide (σ.1 (168 + k) t = a)) t)) (nI t) σ = _
      unfold bX6_planned_12 bX6_planned_45
      rw [bnd_e, cr_ hR 0 0 1 rfl (by decide), bnd_e, cr_ hR 1 1 2 rfl (by decide), hN]
      by_cases e : t = N
      · rw [e, if_pos (nI_le (Nat.le_refl _) (by omega))]
      · rw [if_neg (nI_ge (show t < N by omega) (by omega)), if_neg (geL 40 (40 : Int32) rfl (show t < 40 by omega) (by omega)), zX_n (by omega) (by omega), cl_n (by omega), nI_1 t, ← ih (t + 1) (by omega) (by omega)]
        have key := cn_1 (fun t => decide (σ.1 (168 + k) t = a)) t
        by_cases c : σ.1 (168 + k) t = a
        · rw [if_pos (show (fun t => decide (σ.1 (168 + k) t = a)) t = true from decide_eq_true c)] at key
          rw [if_pos c, key]
        · rw [if_neg (show ¬ (fun t => decide (σ.1 (168 + k) t = a)) t = true from fun q => c (of_decide_eq_true q)), Int32.add_zero] at key
          rw [if_neg c, key]
  unfold fX6_planned fX6_planOf
  rcases hk with rfl | rfl
  · rw [if_pos (by decide), bnd_e, cr_ hR 0 11 169 rfl (by decide), zb_s]
    exact loop zFU 0 (by omega) (by unfold zFU; omega)
  · rw [if_neg (by decide), bnd_e, cr_ hR 0 12 170 rfl (by decide), zb_s]
    exact loop zFU 0 (by omega) (by unfold zFU; omega)
/-- the plan of stick k, as class and reference have it -/
theorem pl_k {σ τ : zS} (h : core σ τ) {k : Nat} (hk : k = 1 ∨ k = 2) {t : Nat} (ht : t < 40) : σ.1 (168 + k) t = τ.1 6 (40 * k + t) ∧ (σ.1 (168 + k) t = 0 ∨ σ.1 (168 + k) t = 1 ∨ σ.1 (168 + k) t = 2) := by
  obtain ⟨p1, p2, p3, p4⟩ := h.2.2.2.2.2.1 t ht
  rcases hk with rfl | rfl
  · exact ⟨p1, p3⟩
  · exact ⟨p2, p4⟩
theorem c_paidBy {σ τ : zS} (h : core σ τ) {k : Nat} (hk : k = 1 ∨ k = 2) : ∃ x, fX2_paidBy 5 (nI k) σ = some (x, σ) ∧ bs x (fun q => decide (τ.1 3 q = nI k)) := by
  unfold fX2_paidBy
  rcases hk with rfl | rfl
  · rw [if_pos (by decide)]; exact ⟨_, rfl, cr_1 h.2.2.2.1⟩
  · rw [if_neg (by decide)]; exact ⟨_, rfl, cr_2 h.2.2.2.1⟩
theorem i_mul (a b c d : Int32) : (a + 1) * b + c * d = a * b + c * d + b := by
  rw [Int32.add_mul, Int32.one_mul, Int32.add_assoc, Int32.add_comm b, ← Int32.add_assoc]
theorem i_mul2 (a b c d : Int32) : a * b + (c + 1) * d = a * b + c * d + d := by
  rw [Int32.add_mul, Int32.one_mul, Int32.add_assoc]
theorem m_costs_48 {τ : zS} (hM : mR τ.2) {N : Nat} (hN2 : N ≤ 40) (hN : τ.1 0 1 = nI N) {k : Nat} (hk : k = 1 ∨ k = 2) (v2 : Int32) : ∀ (n t : Nat), t ≤ N → N < t + n → fX7_costs_48 n 0 (nI k) v2 (nI (cn (fun t => decide (τ.1 6 (40 * k + t) = 1)) t) * τ.1 0 2 + nI (cn (fun t => decide (τ.1 6 (40 * k + t) = 2)) t) * τ.1 0 3) (nI t) τ = some (v2 * (nI (cn (fun t => decide (τ.1 6 (40 * k + t) = 1)) N) * τ.1 0 2 + nI (cn (fun t => decide (τ.1 6 (40 * k + t) = 2)) N) * τ.1 0 3), τ) := by
  intro n
  induction n with
  | zero => intro t h1 h2; exact absurd h2 (by omega)
  | succ n ih =>
    intro t h1 h2
    show bX7_costs_48 (fX7_costs_48 n) 0 (nI k) v2 _ (nI t) τ = _
    unfold bX7_costs_48 bX7_costs_105
    rw [hN]
    by_cases e : t = N
    · rw [e, if_pos (nI_le (Nat.le_refl _) (by omega))]
    · have hx : (40 : Int32) * nI k + nI t = nI (40 * k + t) := by
        show nI 40 * nI k + nI t = _
        rw [pk_mul, nI_add]
      simp only [bnd_e, mm9 hM]
      rw [if_neg (nI_ge (show t < N by omega) (by omega)), hx, zX_n (by omega) (by omega), zX_n (by omega) (by omega), cl_n (by omega), nI_1 t, ← ih (t + 1) (by omega) (by omega)]
      have k1 := cn_1 (fun t => decide (τ.1 6 (40 * k + t) = 1)) t
      have k2 := cn_1 (fun t => decide (τ.1 6 (40 * k + t) = 2)) t
      by_cases c1 : τ.1 6 (40 * k + t) = 1
      · rw [if_pos (show (fun t => decide (τ.1 6 (40 * k + t) = 1)) t = true from decide_eq_true c1)] at k1
        rw [if_neg (show ¬ (fun t => decide (τ.1 6 (40 * k + t) = 2)) t = true from fun q => by have := of_decide_eq_true q; rw [c1] at this; exact absurd this (by decide)), Int32.add_zero] at k2
        rw [if_pos c1, ← k1, ← k2, i_mul]
      · rw [if_neg (show ¬ (fun t => decide (τ.1 6 (40 * k + t) = 1)) t = true from fun q => c1 (of_decide_eq_true q)), Int32.add_zero] at k1
        rw [if_neg c1]
        by_cases c2 : τ.1 6 (40 * k + t) = 2
        · rw [if_pos (show (fun t => decide (τ.1 6 (40 * k + t) = 2)) t = true from decide_eq_true c2)] at k2
          rw [if_pos c2, ← k1, ← k2, i_mul2]
        · rw [if_neg (show ¬ (fun t => decide (τ.1 6 (40 * k + t) = 2)) t = true from fun q => c2 (of_decide_eq_true q)), Int32.add_zero] at k2
          rw [if_neg c2, ← k1, ← k2, Int32.add_zero]
theorem m_costs_13 {τ : zS} (hM : mR τ.2) (kv : Int32) : ∀ (n s : Nat), s ≤ 24 → 24 < s + n → fX7_costs_13 n 0 kv (nI (cn (fun q => decide (τ.1 3 q = kv)) s)) (nI s) τ = bX7_costs_43 0 kv (nI (cn (fun q => decide (τ.1 3 q = kv)) 24)) τ := by
  intro n
  induction n with
  | zero => intro t h1 h2; exact absurd h2 (by omega)
  | succ n ih =>
    intro s h1 h2
    show bX7_costs_13 (fX7_costs_13 n) 0 kv _ (nI s) τ = _
    unfold bX7_costs_13 bX7_costs_35
    by_cases hs : s = 24
    · subst hs
      rw [if_pos (by decide)]
    · have hs : s < 24 := by omega
      simp only [bnd_e, mm6 hM]
      rw [if_neg (geL 24 (24 : Int32) rfl hs (by omega)), zX_n hs (by omega), cl_n (by omega), nI_1 s, ← ih (s + 1) (by omega) (by omega)]
      have k1 := cn_1 (fun q => decide (τ.1 3 q = kv)) s
      by_cases c1 : τ.1 3 s = kv
      · rw [if_pos (show (fun q => decide (τ.1 3 q = kv)) s = true from decide_eq_true c1)] at k1
        rw [if_pos c1, k1]
      · rw [if_neg (show ¬ (fun q => decide (τ.1 3 q = kv)) s = true from fun q => c1 (of_decide_eq_true q))] at k1
        rw [if_neg c1, k1]
theorem o_costs (σ τ : zS) (h : Rel σ τ) (a1 : Int32) : ∃ (r : Int32) (σ' τ' : zS), fX6_costs 0 a1 σ = some (r, σ') ∧ fX7_costs 0 a1 τ = some (r, τ') ∧ Rel σ' τ' := by
  obtain ⟨hco, hca, hfr⟩ := id h
  obtain ⟨hR, -, hM, hcr, -⟩ := id hco
  obtain ⟨N, N1, N2, N3, N4⟩ := core_N hco
  unfold fX6_costs fX7_costs
  rcases ok_dec a1 1 2 with h1 | h1
  · rw [(c_isStick a1 σ).1 h1, zb_s, if_neg n10, (m_isStick a1 τ).1 h1, zb_s, if_neg n10]
    obtain ⟨k, k1, k2, rfl⟩ := ok_n (a := 1) (n := 2) (by omega) (by omega) h1
    obtain ⟨x, x1, x2⟩ := c_paidBy hco (k := k) (by omega)
    have m13 := m_costs_13 hM (nI k) zFU 0 (by omega) (by unfold zFU; omega)
    have m48 := m_costs_48 hM N2 N4 (k := k) (by omega) (nI (cn (fun q => decide (τ.1 3 q = nI k)) 24)) zFU 0 (by omega) (by unfold zFU; omega)
    rw [show nI (cn (fun t => decide (τ.1 6 (40 * k + t) = 1)) 0) * τ.1 0 2 + nI (cn (fun t => decide (τ.1 6 (40 * k + t) = 2)) 0) * τ.1 0 3 = 0 by show (0 : Int32) * _ + (0 : Int32) * _ = 0; rw [Int32.zero_mul, Int32.zero_mul]; rfl] at m48
    rw [c_planned hR N2 N3 (by omega), zb_s, c_planned hR N2 N3 (by omega), zb_s, bnd_e, bnd_e, cr_ hR 0 0 1 rfl (by decide), bnd_e, cr_ hR 1 0 5 rfl (by decide), x1, zb_s, f_bc x2, zb_s]
    rw [show (0 : Int32) = nI (cn (fun q => decide (τ.1 3 q = nI k)) 0) from rfl]
    rw [show fX7_costs_13 zFU 0 (nI k) (nI (cn (fun q => decide (τ.1 3 q = nI k)) 0)) (nI (cn (fun q => decide (τ.1 3 q = nI k)) 0)) τ = bX7_costs_43 0 (nI k) (nI (cn (fun q => decide (τ.1 3 q = nI k)) 24)) τ from m13]
    unfold bX7_costs_43
    rw [show fX7_costs_48 zFU 0 (nI k) (nI (cn (fun q => decide (τ.1 3 q = nI k)) 24)) 0 0 τ = _ from m48]
    have c1 : cn (fun t => decide (σ.1 (168 + k) t = 1)) N = cn (fun t => decide (τ.1 6 (40 * k + t) = 1)) N := cn_cong (fun t ht => by rw [(pl_k hco (by omega) (show t < 40 by omega)).1])
    have c2 : cn (fun t => decide (σ.1 (168 + k) t = 2)) N = cn (fun t => decide (τ.1 6 (40 * k + t) = 2)) N := cn_cong (fun t ht => by rw [(pl_k hco (by omega) (show t < 40 by omega)).1])
    rw [c1, c2, hco.2.2.2.2.2.2.1.1, hco.2.2.2.2.2.2.1.2]
    refine ⟨_, σ, τ, rfl, ?_, h⟩
    rw [Int32.mul_comm]
  · rw [(c_isStick a1 σ).2 h1, zb_s, if_pos rfl, (m_isStick a1 τ).2 h1, zb_s, if_pos rfl]
    exact ⟨_, σ, τ, rfl, rfl, h⟩
/-! wins -/
def folW (f : Nat → Int32) (so pa : Nat → Int32) (v : Int32) : Nat → Bool := fun q => decide (¬ so q = -1) && (decide (pa q = 0) && (decide (¬ f q = 0) && decide (f q = v)))
theorem c_fol {σ τ : zS} (h : Rel σ τ) {k : Nat} (hk : k = 1 ∨ k = 2) {N : Nat} (hN1 : 1 ≤ N) (hN2 : N ≤ 40) (hN : τ.1 0 1 = nI N) : ∃ σ', fX6_followers 0 (nI k) σ = some (nI (cn (folW (mE τ (τ.1 3) noB (N - 1)) (τ.1 1) (τ.1 3) (τ.1 6 (40 * k + (N - 1)))) 24), σ') ∧ Rel σ' τ := by
  obtain ⟨σ', q1, q2, q3, q4, q5, q6⟩ := c_played h hN1 hN2 hN
  have hR' : cR σ'.2 := q3.1.1
  obtain ⟨n, -, n2, N3, N4⟩ := core_N q3.1
  have : n = N := (nI_eq (by omega) (by omega)).mp (N4.symm.trans hN)
  subst this
  have hcr := q3.1.2.2.2.1
  unfold fX6_followers fX6_planOf
  rw [q1, zb_s, bnd_e, cr_ hR' 1 1 2 rfl (by decide), bnd_e, N3, show nI n - 1 = nI (n - 1) by rw [show n = (n - 1) + 1 by omega]; exact nI_pred _, c_hs1 (cr_ hR' 1 1 2 rfl (by decide)) N3 hN2 (show n - 1 < n by omega), zb_s, if_neg n10]
  have hp : (if nI k = (1 : Int32) then bnd (σ'.2 0 11) (fun q3 => some (q3, σ')) else bnd (σ'.2 0 12) (fun q2 => some (q2, σ'))) = some (168 + k, σ') := by
    rcases hk with rfl | rfl
    · rw [if_pos (by decide), bnd_e, cr_ hR' 0 11 169 rfl (by decide)]
    · rw [if_neg (by decide), bnd_e, cr_ hR' 0 12 170 rfl (by decide)]
  rw [hp, zb_s, zX_n (by omega) (by omega), bnd_e, cl_n (by omega)]
  obtain ⟨p1, p2⟩ := pl_k q3.1 hk (t := n - 1) (by omega)
  rw [p1] at p2
  rw [p1]
  refine ⟨σ', ?_, q3⟩
  have hev := q5 (n - 1) (by omega)
  have hun := cr_un hcr
  rcases p2 with e | e | e
  · rw [e, if_pos rfl, cn_zero (fun q _ => by unfold folW; by_cases c : mE τ (τ.1 3) noB (n - 1) q = 0 <;> simp [c])]
    rfl
  · rw [e, if_neg n10, c_sh1 (cr_ hR' 1 1 2 rfl (by decide)) (cr_ hR' 1 2 6 rfl (by decide)) N3 hN2 (show n - 1 < n by omega), zb_s, bnd_e, cr_ hR' 1 0 5 rfl (by decide), c_unpaid, zb_s, f_bc (bs_and hev.1 hun), zb_s]
    rw [cn_cong (fun q hq => ?_)]
    unfold folW
    by_cases c : mE τ (τ.1 3) noB (n - 1) q = 1
    · simp [c]
    · simp [c]
  · rw [e, if_neg (by decide), c_sh2 (cr_ hR' 1 1 2 rfl (by decide)) (cr_ hR' 1 3 7 rfl (by decide)) N3 hN2 (show n - 1 < n by omega), zb_s, bnd_e, cr_ hR' 1 0 5 rfl (by decide), c_unpaid, zb_s, f_bc (bs_and hev.2 hun), zb_s]
    rw [cn_cong (fun q hq => ?_)]
    unfold folW
    by_cases c : mE τ (τ.1 3) noB (n - 1) q = 2
    · simp [c]
    · simp [c]
theorem m_wins_19 {τ : zS} (hM : mR τ.2) {t : Nat} (ht : t < 40) (f : Nat → Int32) (hf : ∀ q, q < 24 → τ.1 20 (24 * t + q) = f q) : ∀ (n s : Nat), s ≤ 24 → 24 < s + n → fX7_wins_19 n 0 (nI t) (nI (cn (folW f (τ.1 1) (τ.1 3) (τ.1 6 (40 + t))) s)) (nI (cn (folW f (τ.1 1) (τ.1 3) (τ.1 6 (80 + t))) s)) (nI s) τ = bX7_wins_133 (nI (cn (folW f (τ.1 1) (τ.1 3) (τ.1 6 (40 + t))) 24)) (nI (cn (folW f (τ.1 1) (τ.1 3) (τ.1 6 (80 + t))) 24)) τ := by
  intro n
  induction n with
  | zero => intro t h1 h2; exact absurd h2 (by omega)
  | succ n ih =>
    intro s h1 h2
    show bX7_wins_19 (fX7_wins_19 n) 0 (nI t) _ _ (nI s) τ = _
    unfold bX7_wins_19 bX7_wins_93 bX7_wins_125 bX7_wins_127
    by_cases hs : s = 24
    · subst hs
      rw [if_pos (by decide)]
    · have hs : s < 24 := by omega
      have hx : (24 : Int32) * nI t + nI s = nI (24 * t + s) := by
        show nI 24 * nI t + nI s = _
        rw [pk_mul, nI_add]
      have hx1 : (40 : Int32) + nI t = nI (40 + t) := nI_add 40 t
      have hx2 : (80 : Int32) + nI t = nI (80 + t) := nI_add 80 t
      rw [if_neg (geL 24 (24 : Int32) rfl hs (by omega)), m_isTaken hM hs, zb_s]
      simp only [bnd_e, mm6 hM, mm32 hM, mm9 hM]
      rw [hx, hx1, hx2, zX_n hs (by omega), zX_n (n := 960) (by omega) (by omega), zX_n (n := 960) (by omega) (by omega), zX_n (n := 120) (i := 40 + t) (by omega) (by omega), zX_n (n := 960) (by omega) (by omega), zX_n (n := 120) (i := 80 + t) (by omega) (by omega), zX_n (n := 960) (by omega) (by omega), zX_n (n := 120) (i := 80 + t) (by omega) (by omega), cl_n (i := s) (by omega), cl_n (i := 24 * t + s) (by omega), cl_n (i := 40 + t) (by omega), cl_n (i := 80 + t) (by omega), nI_1 s, hf s hs, ← ih (s + 1) (by omega) (by omega)]
      have k1 := cn_1 (folW f (τ.1 1) (τ.1 3) (τ.1 6 (40 + t))) s
      have k2 := cn_1 (folW f (τ.1 1) (τ.1 3) (τ.1 6 (80 + t))) s
      rw [← k1, ← k2]
      generalize nI (cn (folW f (τ.1 1) (τ.1 3) (τ.1 6 (40 + t))) s) = P
      generalize nI (cn (folW f (τ.1 1) (τ.1 3) (τ.1 6 (80 + t))) s) = Q
      unfold folW
      generalize f s = y
      generalize τ.1 6 (40 + t) = u
      generalize τ.1 6 (80 + t) = v
      by_cases c0 : τ.1 1 s = -1
      · simp [c0]
      · by_cases c1 : τ.1 3 s = 0
        · by_cases c2 : y = 0
          · simp [c0, c1, c2]
          · by_cases c3 : y = u
            · subst c3
              by_cases c4 : y = v
              · subst c4; simp [c0, c1, c2]
              · simp [c0, c1, c2, c4]
            · by_cases c4 : y = v
              · subst c4; simp [c0, c1, c2, c3]
              · simp [c0, c1, c2, c3, c4]
        · simp [c0, c1]
theorem o_wins (σ τ : zS) (h : Rel σ τ) : ∃ (r : Int32) (σ' τ' : zS), fX6_wins 0 σ = some (r, σ') ∧ fX7_wins 0 τ = some (r, τ') ∧ Rel σ' τ' := by
  obtain ⟨N, N1, N2, N3, N4⟩ := core_N h.1
  obtain ⟨σ1, q1, q2⟩ := c_fol h (k := 1) (Or.inl rfl) N1 N2 N4
  obtain ⟨σ2, w1, w2⟩ := c_fol q2 (k := 2) (Or.inr rfl) N1 N2 N4
  obtain ⟨τ', p1, p2, p3⟩ := m_told h.1 N2 N4
  have hM' : mR τ'.2 := by rw [p1.2.2]; exact h.1.2.2.1
  unfold fX6_wins fX7_wins
  have N5 : τ'.1 0 1 = nI N := by rw [p1.2.1 1 (by omega)]; exact N4
  have hm := m_wins_19 hM' (t := N - 1) (by omega) (mE τ (τ.1 3) noB (N - 1)) (fun q hq => p2 (N - 1) (by omega) q hq) zFU 0 (by omega) (by unfold zFU; omega)
  rw [p1.1 1 (by omega), p1.1 3 (by omega), p1.1 6 (by omega)] at hm
  rw [show (1 : Int32) = nI 1 from rfl, show (2 : Int32) = nI 2 from rfl, q1, zb_s, w1, zb_s, p3, zb_s, bnd_e, N5, show nI N - nI 1 = nI (N - 1) from pk_sub N1]
  rw [show fX7_wins_19 zFU 0 (nI (N - 1)) 0 0 0 τ' = _ from hm]
  rw [show 40 * 1 + (N - 1) = 40 + (N - 1) by omega, show 40 * 2 + (N - 1) = 80 + (N - 1) by omega]
  generalize nI (cn (folW (mE τ (τ.1 3) noB (N - 1)) (τ.1 1) (τ.1 3) (τ.1 6 (40 + (N - 1)))) 24) = P
  generalize nI (cn (folW (mE τ (τ.1 3) noB (N - 1)) (τ.1 1) (τ.1 3) (τ.1 6 (80 + (N - 1)))) 24) = Q
  unfold bX7_wins_133
  by_cases e : P = Q
  · subst e
    rw [if_pos rfl, if_pos (Int32.le_refl P), if_pos (Int32.le_refl P)]
    exact ⟨0, σ2, τ', rfl, rfl, Rel_m w2 p1⟩
  · rw [if_neg e]
    by_cases c : P ≤ Q
    · rw [if_pos c, if_pos c, if_neg (fun w => e (Int32.le_antisymm c w))]
      exact ⟨2, σ2, τ', rfl, rfl, Rel_m w2 p1⟩
    · rw [if_neg c, if_neg c]
      exact ⟨1, σ2, τ', rfl, rfl, Rel_m w2 p1⟩
/-! silent -/
def anyN (f : Nat → Nat → Int32) (q : Nat) : Nat → Bool
  | 0 => false
  | t + 1 => anyN f q t || decide (¬ f t q = 0)
theorem c_heard {σ : zS} {E Bi Cl Hi N : Nat} {f : Nat → Nat → Int32} (e1 : σ.2 E 1 = Bi) (e2 : σ.2 E 2 = Cl) (e3 : σ.2 E 3 = Hi) (hN : σ.1 Bi 0 = nI N) (hN2 : N ≤ 40) (hev : evB f N (σ.1 Cl) (σ.1 Hi)) (hv : ∀ t, t < N → ∀ q, q < 24 → f t q = 0 ∨ f t q = 1 ∨ f t q = 2) : ∃ x, fX3_heard E σ = some (x, σ) ∧ bs x (fun q => anyN f q N) := by
  have loop : ∀ (n t : Nat) (x : Int32), t ≤ N → N < t + n → bs x (fun q => anyN f q t) → ∃ y, fX3_heard_4 n E x (nI t) σ = some (y, σ) ∧ bs y (fun q => anyN f q N) := by
    intro n
    induction n with
    | zero => intro t x h1 h2; exact absurd h2 (by omega)
    | succ n ih =>
      intro t x h1 h2 hx
      show ∃ y, bX3_heard_4 (fX3_heard_4 n) E x (nI t) σ = _ ∧ _
      unfold bX3_heard_4
      rw [bnd_e, e1, hN]
      by_cases e : t = N
      · rw [e, if_pos (nI_le (Nat.le_refl _) (by omega))]
        rw [e] at hx
        exact ⟨x, rfl, hx⟩
      · have ht : t < N := by omega
        rw [if_neg (nI_ge ht (by omega)), if_neg (geL 40 (40 : Int32) rfl (show t < 40 by omega) (by omega)), bnd_e, e2, zX_n (by omega) (by omega), bnd_e, e3, zX_n (by omega) (by omega), bnd_e, bnd_e, cl_n (by omega), nI_1]
        refine ih (t + 1) _ (by omega) (by omega) (bs_c (bs_or hx (bs_or (hev t ht).1 (hev t ht).2)) (fun q hq => ?_))
        show _ = (anyN f q t || decide (¬ f t q = 0))
        rcases hv t ht q hq with c | c | c <;> rw [c] <;> rfl
  exact loop zFU 0 0 (by omega) (by unfold zFU; omega) bs_0
theorem m_sil_47 (k34 : Nat → Int32 → Int32 → Int32 → zS → Option (Int32 × zS)) {τ : zS} (hM : mR τ.2) {N : Nat} (hN2 : N ≤ 40) (hN : τ.1 0 1 = nI N) (f : Nat → Nat → Int32) (hf : ∀ t, t < N → ∀ q, q < 24 → τ.1 20 (24 * t + q) = f t q) (v1 v3 : Int32) {s : Nat} (hs : s < 24) : ∀ (n t : Nat), t ≤ N → N < t + n → fX7_silent_47 k34 n 0 v1 v3 (nI s) (if anyN f s t = true then 1 else 0) (nI t) τ = bX7_silent_90 k34 0 v1 v3 (nI s) (if anyN f s N = true then 1 else 0) τ := by
  intro n
  induction n with
  | zero => intro t h1 h2; exact absurd h2 (by omega)
  | succ n ih =>
    intro t h1 h2
    show bX7_silent_47 k34 (fX7_silent_47 k34 n) 0 v1 v3 (nI s) _ (nI t) τ = _
    unfold bX7_silent_47 bX7_silent_77 bX7_silent_82
    rw [hN]
    by_cases e : t = N
    · rw [e, if_pos (nI_le (Nat.le_refl _) (by omega))]
    · have ht : t < N := by omega
      have hx : (24 : Int32) * nI t + nI s = nI (24 * t + s) := by
        show nI 24 * nI t + nI s = _
        rw [pk_mul, nI_add]
      simp only [bnd_e, mm32 hM]
      rw [if_neg (nI_ge ht (by omega)), hx, zX_n (by omega) (by omega), cl_n (by omega), hf t ht s hs, nI_1, ← ih (t + 1) (by omega) (by omega)]
      show _ = fX7_silent_47 k34 n 0 v1 v3 (nI s) (if (anyN f s t || decide (¬ f t s = 0)) = true then 1 else 0) (nI (t + 1)) τ
      cases hA : anyN f s t
      · rw [if_neg (show ¬ false = true by decide), if_pos (show (0 : Int32) = 0 from rfl), Bool.false_or]
        by_cases c : f t s = 0
        · rw [if_pos c, if_neg (by rw [c]; decide)]
        · rw [if_neg c, if_pos (decide_eq_true c)]
      · rw [if_pos (show true = true from rfl), if_neg n10, Bool.true_or, if_pos (show true = true from rfl)]
theorem m_sil_34 {τ : zS} (hM : mR τ.2) {N : Nat} (hN2 : N ≤ 40) (hN : τ.1 0 1 = nI N) (f : Nat → Nat → Int32) (hf : ∀ t, t < N → ∀ q, q < 24 → τ.1 20 (24 * t + q) = f t q) (v1 : Int32) : ∀ (n s : Nat), s ≤ 24 → 24 < s + n → fX7_silent_34 n 0 v1 (nI (cn (fun q => anyN f q N && (decide (v1 = 1) || decide (τ.1 2 q = 1))) s)) (nI s) τ = some (nI (cn (fun q => anyN f q N && (decide (v1 = 1) || decide (τ.1 2 q = 1))) 24), τ) := by
  intro n
  induction n with
  | zero => intro t h1 h2; exact absurd h2 (by omega)
  | succ n ih =>
    intro s h1 h2
    show bX7_silent_34 (fX7_silent_34 n) 0 v1 _ (nI s) τ = _
    unfold bX7_silent_34
    by_cases hs : s = 24
    · subst hs
      rw [if_pos (by decide)]
    · have hs : s < 24 := by omega
      have h47 := m_sil_47 (fX7_silent_34 n) hM hN2 hN f hf v1 (nI (cn (fun q => anyN f q N && (decide (v1 = 1) || decide (τ.1 2 q = 1))) s)) hs zFU 0 (by omega) (by unfold zFU; omega)
      rw [if_neg (geL 24 (24 : Int32) rfl hs (by omega))]
      rw [show fX7_silent_47 (fX7_silent_34 n) zFU 0 v1 (nI (cn (fun q => anyN f q N && (decide (v1 = 1) || decide (τ.1 2 q = 1))) s)) (nI s) 0 0 τ = _ from h47]
      unfold bX7_silent_90 bX7_silent_112 bX7_silent_116 bX7_silent_117
      simp only [bnd_e, mm5 hM]
      rw [zX_n hs (by omega), cl_n (by omega), nI_1 s, ← ih (s + 1) (by omega) (by omega), ← cn_1]
      generalize nI (cn (fun q => anyN f q N && (decide (v1 = 1) || decide (τ.1 2 q = 1))) s) = P
      cases hA : anyN f s N
      · simp [hA]
      · by_cases c1 : v1 = 1
        · simp [hA, c1]
        · by_cases c2 : τ.1 2 s = 1
          · simp [hA, c1, c2]
          · simp [hA, c1, c2]
theorem any_so {so : Nat → Int32} {f : Nat → Nat → Int32} {q : Nat} (hq : q < 24) : ∀ N, (∀ t, t < N → pOK so (f t)) → anyN f q N = true → ¬ so q = -1
  | 0, _, h => by cases h
  | N + 1, hp, h => by
    intro e
    have h : (anyN f q N || decide (¬ f N q = 0)) = true := h
    rw [((hp N (by omega)) q hq).2 e] at h
    rw [show decide (¬ (0 : Int32) = 0) = false by decide, Bool.or_false] at h
    exact any_so hq N (fun t ht => hp t (by omega)) h e
theorem o_silent (σ τ : zS) (h : Rel σ τ) (a1 : Int32) : ∃ (r : Int32) (σ' τ' : zS), fX6_silent 0 a1 σ = some (r, σ') ∧ fX7_silent 0 a1 τ = some (r, τ') ∧ Rel σ' τ' := by
  obtain ⟨hco, hca, hfr⟩ := id h
  obtain ⟨hR, -, hM, hcr, -⟩ := id hco
  obtain ⟨N, N1, N2, N3, N4⟩ := core_N hco
  unfold fX6_silent fX7_silent
  rcases ok_dec a1 0 2 with h1 | h1
  · rw [(c_within a1 0 2 σ).1 h1, zb_s, if_neg n10, (m_in a1 0 2 τ).1 h1, zb_s, if_neg n10]
    obtain ⟨σ', q1, q2, q3, q4, q5, q6, q7⟩ := c_unp h N1 N2 N4 (x := 0) (B := noB) bs_no (fun q _ hb => by cases hb)
    obtain ⟨τ1, p1, p2, p3, p4⟩ := m_nobody hM
    obtain ⟨τ2, w1, w2, w3, w4, w5⟩ := m_with hco p1 (H := no0) p3 (fun q _ => Or.inl rfl) N2 N4 0
    rw [bt_0] at w4 w5
    have hR' : cR σ'.2 := q3.1.1
    have hM2 : mR τ2.2 := by rw [w1.2.2]; exact hM
    have N5 : τ2.1 0 1 = nI N := by rw [w1.2.1 1 (by omega)]; exact N4
    have N6 : σ'.1 2 0 = nI N := by rw [q2.1.1 2 (XP_f (by omega))]; exact N3
    have hok : ∀ t, t < N → pOK (τ.1 1) (mE τ no0 noB t) := fun t ht => mE_ok hco (fun q _ => Or.inl rfl) noB (by omega)
    rw [q1, zb_s, p4, zb_s, w5, zb_s]
    simp only [bnd_e]
    rw [cr_ hR' 0 1 8 rfl (by decide), q7]
    obtain ⟨x, x1, x2⟩ := c_heard (σ := σ') (E := 8) (cr_ hR' 8 1 2 rfl (by decide)) (cr_ hR' 8 2 10 rfl (by decide)) (cr_ hR' 8 3 11 rfl (by decide)) N6 N2 q6 (fun t ht q hq => ((hok t ht) q hq).1)
    have hm := m_sil_34 hM2 N2 N5 (mE τ no0 noB) w4 a1 zFU 0 (by omega) (by unfold zFU; omega)
    rw [w1.1 2 (by omega)] at hm
    rw [x1, zb_s, show fX7_silent_34 zFU 0 a1 0 0 τ2 = _ from hm, cr_ hR' 0 1 8 rfl (by decide), cr_ hR' 8 0 9 rfl (by decide), q4]
    unfold bX6_silent_58
    by_cases c0 : a1 = 0
    · rw [if_pos c0, if_pos c0]
      exact ⟨_, σ', τ2, rfl, rfl, Rel_m q3 w1⟩
    · rw [if_neg c0, if_neg c0]
      by_cases c1 : a1 = 1
      · rw [if_pos c1, f_bc x2, zb_s]
        refine ⟨_, σ', τ2, rfl, ?_, Rel_m q3 w1⟩
        rw [cn_cong (fun q _ => by rw [decide_eq_true c1, Bool.true_or, Bool.and_true])]
      · rw [if_neg c1]
        have hk : bs (x &&& σ.1 5 2) (fun q => anyN (mE τ no0 noB) q N && (decide (a1 = 1) || decide (τ.1 2 q = 1))) := by
          intro i
          rw [b_and, x2 i]
          by_cases hi : i < 24
          · rw [decide_eq_true hi, Bool.true_and, Bool.true_and, decide_eq_false c1]
            show (anyN (mE τ no0 noB) i N && bt (σ.1 5 2) i) = (anyN (mE τ no0 noB) i N && (false || decide (τ.1 2 i = 1)))
            rw [Bool.false_or]
            cases hA : anyN (mE τ no0 noB) i N
            · rfl
            · rw [Bool.true_and, Bool.true_and]
              rcases cr_kn hcr hi (any_so hi N hok hA) with ⟨g1, g2⟩ | ⟨g1, g2⟩ <;> rw [g1, g2] <;> rfl
          · rw [decide_eq_false hi]; rfl
        rw [f_bc hk, zb_s]
        exact ⟨_, σ', τ2, rfl, rfl, Rel_m q3 w1⟩
  · rw [(c_within a1 0 2 σ).2 h1, zb_s, if_pos rfl, (m_in a1 0 2 τ).2 h1, zb_s, if_pos rfl]
    exact ⟨_, σ, τ, rfl, rfl, h⟩
