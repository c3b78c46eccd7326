section
/-! ===== funnier ===== -/
theorem ways_16 : ∀ (n : Nat) (a k : Int32) (c : Int64) (q : Int32) (σ : zS), fX6_ways_16 n a k c q σ = fX7_choose_16 n a k c q σ
  | 0, _, _, _, _, _ => rfl
  | n + 1, a, k, c, q, σ => by
    show bX6_ways_16 (fX6_ways_16 n) a k c q σ = bX7_choose_16 (fX7_choose_16 n) a k c q σ
    unfold bX6_ways_16 bX7_choose_16
    simp only [bnd_e, ways_16 n]
theorem ways_e (a k : Int32) (σ : zS) : fX6_ways a k σ = fX7_choose a k σ := by
  unfold fX6_ways fX7_choose
  rw [ways_16]
def chP : Nat → Int32 → Int32 → Int64 → Nat → Int64
  | 0, _, _, c, _ => c
  | d + 1, a, k, c, q => chP d a k ((c * ((a - k) + nI q).toInt64) / (nI q).toInt64) (q + 1)
def chV (a k : Int32) : Int64 := if k < 0 then 0 else if k ≤ a then chP k.toNatClampNeg a k 1 1 else 0
theorem nI64 {q : Nat} (h1 : 1 ≤ q) (h2 : q ≤ 20) : ¬ (nI q).toInt64 = 0 := by
  have key : ∀ q, q < 21 → 1 ≤ q → ¬ (nI q).toInt64 = 0 := by decide +kernel
  exact key q (by omega) h1
theorem ch_16 (a : Int32) (k : Nat) (hk : k ≤ 20) (σ : zS) : ∀ (d n q : Nat) (c : Int64), 1 ≤ q → q + d = k + 1 → d < n → fX7_choose_16 n a (nI k) c (nI q) σ = some (chP d a (nI k) c q, σ)
  | d, 0, q, c, _, _, h => absurd h (by omega)
  | 0, n + 1, q, c, h1, h2, h3 => by
    show bX7_choose_16 (fX7_choose_16 n) a (nI k) c (nI q) σ = _
    unfold bX7_choose_16
    rw [if_pos (nI_lt (show k < q by omega) (by omega))]
    rfl
  | d + 1, n + 1, q, c, h1, h2, h3 => by
    show bX7_choose_16 (fX7_choose_16 n) a (nI k) c (nI q) σ = _
    unfold bX7_choose_16
    rw [if_neg (nI_nlt (show q ≤ k by omega) (by omega)), zVL_in (nI64 h1 (by omega)), bnd_e, nI_1, ch_16 a k hk σ d n (q + 1) _ (by omega) (by omega) (by omega)]
    rfl
theorem ch_e (a : Int32) {k : Nat} (hk : k ≤ 20) (σ : zS) : fX7_choose a (nI k) σ = some (chV a (nI k), σ) := by
  unfold fX7_choose chV
  rw [if_neg (nI_pos (by omega)), if_neg (nI_pos (by omega))]
  by_cases h : nI k ≤ a
  · rw [if_pos h, if_pos h, cl_n (by omega)]
    exact ch_16 a k hk σ k zFU 1 1 (by omega) (by omega) (by unfold zFU; omega)
  · rw [if_neg h, if_neg h]
theorem ch_nz : ∀ n, n < 21 → ∀ m, m < 21 → m ≤ n → ¬ chV (nI n) (nI m) = 0 := by decide +kernel
/-! the greatest common divisor: |y| halves in two steps -/
theorem r64_toInt (x y : Int64) (hy : ¬ y = 0) : (x - x / y * y).toInt = x.toInt.tmod y.toInt := by
  have hy0 : y.toInt ≠ 0 := fun q => hy (Int64.toInt_inj.mp (q.trans Int64.toInt_zero.symm))
  rw [Int64.toInt_sub, Int64.toInt_mul, Int64.toInt_div, Int.bmod_mul_bmod, Int.sub_bmod_bmod, Int.mul_comm, ← Int.tmod_def]
  have h1 := Int64.toInt_lt y
  have h2 := Int64.le_toInt y
  have h3 : (x.toInt.tmod y.toInt).natAbs < y.toInt.natAbs := by
    rw [Int.natAbs_tmod]
    exact Nat.mod_lt _ (by omega)
  apply Int.bmod_eq_of_le <;> omega
theorem r64_abs (x y : Int64) (hy : ¬ y = 0) : (x - x / y * y).toInt.natAbs = x.toInt.natAbs % y.toInt.natAbs := by
  rw [r64_toInt x y hy, Int.natAbs_tmod]
def gP : Nat → Int64 → Int64 → Int64 × Int64
  | 0, x, y => (x, y)
  | n + 1, x, y => if y = 0 then (x, y) else gP n y (x - x / y * y)
theorem gP_z (n : Nat) (x : Int64) : gP n x 0 = (x, 0) := by cases n <;> rfl
theorem abs0 {y : Int64} (h : y.toInt.natAbs = 0) : y = 0 := Int64.toInt_inj.mp (by rw [Int64.toInt_zero]; omega)
theorem gP_end : ∀ (k : Nat) (x y : Int64), y.toInt.natAbs < 2 ^ k → (gP (2 * k) x y).2 = 0
  | 0, x, y, h => abs0 (y := y) (by omega)
  | k + 1, x, y, h => by
    show (gP (2 * k + 1 + 1) x y).2 = 0
    by_cases hy : y = 0
    · rw [hy, gP_z]
    · rw [gP, if_neg hy]
      have a1 := r64_abs x y hy
      have hyn : ¬ y.toInt.natAbs = 0 := fun q => hy (abs0 q)
      have l1 : (x - x / y * y).toInt.natAbs < y.toInt.natAbs := by rw [a1]; exact Nat.mod_lt _ (by omega)
      generalize x - x / y * y = r at *
      by_cases hr : r = 0
      · rw [hr, gP_z]
      · rw [gP, if_neg hr]
        apply gP_end k
        rw [r64_abs y r hr]
        have hrn : ¬ r.toInt.natAbs = 0 := fun q => hr (abs0 q)
        have l2 := Nat.mod_lt y.toInt.natAbs (show r.toInt.natAbs > 0 by omega)
        have l3 := Nat.div_add_mod y.toInt.natAbs r.toInt.natAbs
        have l4 : 1 ≤ y.toInt.natAbs / r.toInt.natAbs := (Nat.one_le_div_iff (by omega)).mpr (by omega)
        have l5 : r.toInt.natAbs ≤ r.toInt.natAbs * (y.toInt.natAbs / r.toInt.natAbs) := Nat.le_mul_of_pos_right _ (by omega)
        have e2 : (2 : Nat) ^ (k + 1) = 2 * 2 ^ k := by rw [Nat.pow_succ, Nat.mul_comm]
        omega
theorem gP_128 (x y : Int64) : (gP 128 x y).2 = 0 := by
  apply gP_end 64
  have h1 := Int64.toInt_lt y
  have h2 := Int64.le_toInt y
  omega
theorem c_div_9 (σ : zS) : ∀ (d n i : Nat) (x y : Int64), (gP d x y).2 = 0 → i + d ≤ 190 → d < n → fX6_divisor_9 n x y (nI i) σ = some ((gP d x y).1, σ)
  | _, 0, _, _, _, _, _, h => absurd h (by omega)
  | d, n + 1, i, x, y, hz, h1, h2 => by
    show bX6_divisor_9 (fX6_divisor_9 n) x y (nI i) σ = _
    unfold bX6_divisor_9
    rw [if_neg (geL 200 (200 : Int32) rfl (show i < 200 by omega) (by omega))]
    by_cases hy : y = 0
    · rw [if_pos ((lg_cmp_eq y 0).mpr hy), hy, gP_z]
    · rw [if_neg (fun q => hy ((lg_cmp_eq y 0).mp q)), zVL_in hy, bnd_e, nI_1]
      match d, hz, h1, h2 with
      | 0, hz, _, _ => exact absurd hz hy
      | d + 1, hz, h1, h2 =>
        rw [gP, if_neg hy] at hz ⊢
        exact c_div_9 σ d n (i + 1) _ _ hz (by omega) (by omega)
theorem c_div (x y : Int64) (σ : zS) : fX6_divisor x y σ = some ((gP 128 x y).1, σ) := c_div_9 σ 128 zFU 0 x y (gP_128 x y) (by omega) (by unfold zFU; omega)
theorem m_div_115 (σ : zS) (v5 : Int32) (a b : Int64) : ∀ (d n : Nat) (x y : Int64), (gP d x y).2 = 0 → d < n → fX7_funnier_115 n v5 a b x y σ = bX7_funnier_140 v5 a b (gP d x y).1 σ
  | _, 0, _, _, _, h => absurd h (by omega)
  | d, n + 1, x, y, hz, h2 => by
    show bX7_funnier_115 (fX7_funnier_115 n) v5 a b x y σ = _
    unfold bX7_funnier_115
    by_cases hy : y = 0
    · rw [if_pos ((lg_cmp_eq y 0).mpr hy), hy, gP_z]
    · rw [if_neg (fun q => hy ((lg_cmp_eq y 0).mp q)), zVL_in hy, bnd_e]
      match d, hz, h2 with
      | 0, hz, _ => exact absurd hz hy
      | d + 1, hz, h2 =>
        rw [gP, if_neg hy] at hz ⊢
        exact m_div_115 σ v5 a b d n _ _ hz (by omega)
theorem gP_nz : ∀ (d : Nat) (x y : Int64), (gP d x y).2 = 0 → ¬ y = 0 → ¬ (gP d x y).1 = 0
  | 0, x, y, hz, hy => absurd hz hy
  | d + 1, x, y, hz, hy => by
    rw [gP, if_neg hy] at hz ⊢
    by_cases hr : x - x / y * y = 0
    · rw [hr, gP_z]; exact hy
    · exact gP_nz d _ _ hz hr
theorem fun_end (n m : Nat) (hn : n ≤ 20) (hm : m ≤ n) (v5 : Int32) (ab : Int64) (σ τ : zS) : ∃ r, bX6_funnier_102 (nI n) (nI m) v5 ab σ = some (r, σ) ∧ bX7_funnier_100 (nI n) (nI m) v5 ab τ = some (r, τ) := by
  unfold bX6_funnier_102 bX7_funnier_100
  rw [ways_e, ch_e _ (show m ≤ 20 by omega), zb_s, c_div, zb_s, ch_e _ (show m ≤ 20 by omega), zb_s, m_div_115 τ v5 ab _ 128 zFU _ _ (gP_128 _ _) (by unfold zFU; omega)]
  have hz := gP_nz 128 ab _ (gP_128 ab _) (ch_nz n (by omega) m (by omega) hm)
  generalize (gP 128 ab (chV (nI n) (nI m))).1 = g at hz ⊢
  unfold bX6_funnier_130 bX7_funnier_140
  rw [zVL_in hz, zVL_in hz, zVL_in hz, zVL_in hz, if_neg (fun q => hz ((lg_cmp_eq g 0).mp q)), if_neg (fun q => hz ((lg_cmp_eq g 0).mp q))]
  by_cases h : v5 = 0
  · rw [if_pos h, if_pos h]; exact ⟨_, rfl, rfl⟩
  · rw [if_neg h, if_neg h]; exact ⟨_, rfl, rfl⟩
theorem fun_loop (n m : Nat) (hn : n ≤ 20) (hm : m ≤ n) (k j : Int32) (v5 : Int32) (σ τ : zS) : ∀ (d f g i : Nat) (ab : Int64), i + d = m + 1 → d < f → d < g → ∃ r, fX6_funnier_66 f (nI n) (nI m) v5 (k + j) ab (nI i) σ = some (r, σ) ∧ fX7_funnier_60 g (nI n) (nI m) k j v5 ab (nI i) τ = some (r, τ)
  | _, 0, _, _, _, _, h, _ => absurd h (by omega)
  | _, _, 0, _, _, _, _, h => absurd h (by omega)
  | 0, f + 1, g + 1, i, ab, h1, h2, h3 => by
    show ∃ r, bX6_funnier_66 (fX6_funnier_66 f) (nI n) (nI m) v5 (k + j) ab (nI i) σ = _ ∧ bX7_funnier_60 (fX7_funnier_60 g) (nI n) (nI m) k j v5 ab (nI i) τ = _
    unfold bX6_funnier_66 bX7_funnier_60
    rw [if_pos (nI_lt (show m < i by omega) (by omega)), if_pos (nI_lt (show m < i by omega) (by omega))]
    exact fun_end n m hn hm v5 ab σ τ
  | d + 1, f + 1, g + 1, i, ab, h1, h2, h3 => by
    show ∃ r, bX6_funnier_66 (fX6_funnier_66 f) (nI n) (nI m) v5 (k + j) ab (nI i) σ = _ ∧ bX7_funnier_60 (fX7_funnier_60 g) (nI n) (nI m) k j v5 ab (nI i) τ = _
    unfold bX6_funnier_66 bX7_funnier_60
    have e : nI n - k - j = nI n - (k + j) := by
      rw [Int32.sub_eq_add_neg, Int32.sub_eq_add_neg, Int32.sub_eq_add_neg, Int32.neg_add, Int32.sub_eq_add_neg, Int32.add_assoc]
    rw [if_neg (nI_nlt (show i ≤ m by omega) (by omega)), if_neg (nI_nlt (show i ≤ m by omega) (by omega)), e, pk_sub (show i ≤ m by omega), ways_e, ch_e _ (show i ≤ 20 by omega), zb_s, ways_e, ch_e _ (show m - i ≤ 20 by omega), zb_s, bnd_e, ch_e _ (show i ≤ 20 by omega), zb_s, ch_e _ (show m - i ≤ 20 by omega), zb_s, bnd_e, nI_1]
    exact fun_loop n m hn hm k j v5 σ τ d f g (i + 1) _ (by omega) (by omega) (by omega)
theorem o_funnier (σ τ : zS) (h : Rel σ τ) (a1 a2 a3 a4 a5 : Int32) : ∃ (r : Int64) (σ' τ' : zS), fX6_funnier 0 a1 a2 a3 a4 a5 σ = some (r, σ') ∧ fX7_funnier 0 a1 a2 a3 a4 a5 τ = some (r, τ') ∧ Rel σ' τ' := by
  unfold fX6_funnier fX7_funnier
  rcases ok_dec a1 1 20 with h1 | h1
  · rw [(c_within a1 1 20 σ).1 h1, zb_s, if_neg n10, (m_in a1 1 20 τ).1 h1, zb_s, if_neg n10]
    obtain ⟨n, n1, n2, rfl⟩ := ok_n (a := 1) (n := 20) (by omega) (by omega) h1
    rcases ok_dec a2 0 (nI n) with h2 | h2
    · rw [(c_within a2 0 (nI n) σ).1 h2, zb_s, if_neg n10, (m_in a2 0 (nI n) τ).1 h2, zb_s, if_neg n10]
      obtain ⟨m, -, m2, rfl⟩ := ok_n (a := 0) (n := n) (by omega) (by omega) h2
      rcases ok_dec a3 0 (nI m) with h3 | h3
      · rw [(c_within a3 0 (nI m) σ).1 h3, zb_s, if_neg n10, (m_in a3 0 (nI m) τ).1 h3, zb_s, if_neg n10]
        obtain ⟨k, -, k2, rfl⟩ := ok_n (a := 0) (n := m) (by omega) (by omega) h3
        rcases ok_dec a4 0 (nI n - nI m) with h4 | h4
        · rw [(c_within a4 0 (nI n - nI m) σ).1 h4, zb_s, if_neg n10, (m_in a4 0 (nI n - nI m) τ).1 h4, zb_s, if_neg n10]
          rcases ok_dec a5 0 1 with h5 | h5
          · rw [(c_within a5 0 1 σ).1 h5, zb_s, if_neg n10, (m_in a5 0 1 τ).1 h5, zb_s, if_neg n10, bnd_e]
            obtain ⟨r, r1, r2⟩ := fun_loop n m n2 m2 (nI k) a4 a5 σ τ (m + 1 - k) zFU zFU k 0 (by omega) (by unfold zFU; omega) (by unfold zFU; omega)
            exact ⟨r, σ, τ, r1, r2, h⟩
          · rw [(c_within a5 0 1 σ).2 h5, zb_s, if_pos rfl, (m_in a5 0 1 τ).2 h5, zb_s, if_pos rfl]
            exact ⟨-1, σ, τ, rfl, rfl, h⟩
        · rw [(c_within a4 0 (nI n - nI m) σ).2 h4, zb_s, if_pos rfl, (m_in a4 0 (nI n - nI m) τ).2 h4, zb_s, if_pos rfl]
          exact ⟨-1, σ, τ, rfl, rfl, h⟩
      · rw [(c_within a3 0 (nI m) σ).2 h3, zb_s, if_pos rfl, (m_in a3 0 (nI m) τ).2 h3, zb_s, if_pos rfl]
        exact ⟨-1, σ, τ, rfl, rfl, h⟩
    · rw [(c_within a2 0 (nI n) σ).2 h2, zb_s, if_pos rfl, (m_in a2 0 (nI n) τ).2 h2, zb_s, if_pos rfl]
      exact ⟨-1, σ, τ, rfl, rfl, h⟩
  · rw [(c_within a1 1 20 σ).2 h1, zb_s, if_pos rfl, (m_in a1 1 20 τ).2 h1, zb_s, if_pos rfl]
    exact ⟨-1, σ, τ, rfl, rfl, h⟩
end
