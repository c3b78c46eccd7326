section
/-! ===== sets of one, two or three ===== -/
def vd (n a b c : Nat) : Prop := (n = 1 ∧ a = b ∧ b = c) ∨ (n = 2 ∧ a < b ∧ b = c) ∨ (n = 3 ∧ a < b ∧ b < c)
def clx (a b c a' b' c' : Nat) : Prop := c < c' ∨ (c = c' ∧ (b < b' ∨ (b = b' ∧ a < a')))
def tI (a b c : Nat) : Int32 := ((1 : Int32) <<< (nI a &&& 31) ||| (1 : Int32) <<< (nI b &&& 31)) ||| (1 : Int32) <<< (nI c &&& 31)
def tS (a b c : Nat) : Nat → Bool := fun i => (decide (i = a) || decide (i = b)) || decide (i = c)
def tv (n a b c : Nat) : Nat := if n = 1 then 2 ^ a else if n = 2 then 2 ^ a + 2 ^ b else 2 ^ a + 2 ^ b + 2 ^ c
theorem tI_b {a b c : Nat} (ha : a < 24) (hb : b < 24) (hc : c < 24) : bs (tI a b c) (tS a b c) := bs_or (bs_or (bs_1 ha) (bs_1 hb)) (bs_1 hc)
theorem shl_p {a : Nat} (h : a < 31) : (1 : Int32) <<< (nI a &&& 31) = nI (2 ^ a) := by
  have h2 : 2 ^ a < 2 ^ 32 := Nat.pow_lt_pow_right (by omega) (by omega)
  have := pk_shlN (n := 1) (nI a &&& 31) a (s_l a (by omega)) (by omega)
  rw [Nat.one_mul] at this
  exact this
theorem or_p {a b : Nat} (h : a < b) : 2 ^ a ||| 2 ^ b = 2 ^ a + 2 ^ b := by
  have := Nat.two_pow_add_eq_or_of_lt (i := b) (b := 2 ^ a) (Nat.pow_lt_pow_right (by omega) h) 1
  rw [Nat.mul_one] at this
  rw [Nat.or_comm, ← this, Nat.add_comm]
theorem p2 {a b : Nat} (h : a < b) : 2 ^ a * 2 ≤ 2 ^ b := by
  rw [← Nat.pow_succ]
  exact Nat.pow_le_pow_right (by omega) h
theorem p1 (a : Nat) : 1 ≤ 2 ^ a := Nat.one_le_pow _ _ (by omega)
theorem tv_b {n a b c : Nat} (h : vd n a b c) : 2 ^ c ≤ tv n a b c ∧ tv n a b c < 2 ^ c * 2 := by
  unfold tv
  have h1 := p1 a
  rcases h with ⟨rfl, rfl, rfl⟩ | ⟨rfl, h1, rfl⟩ | ⟨rfl, h1, h2⟩
  · rw [if_pos rfl]; omega
  · rw [if_neg (by omega), if_pos rfl]
    have := p2 h1
    have := p1 a
    omega
  · rw [if_neg (by omega), if_neg (by omega)]
    have := p2 h1
    have := p2 h2
    have := p1 a
    omega
theorem tI_v {n a b c : Nat} (h : vd n a b c) (hc : c < 30) : tI a b c = nI (tv n a b c) := by
  unfold tI tv
  rcases h with ⟨rfl, rfl, rfl⟩ | ⟨rfl, h1, rfl⟩ | ⟨rfl, h1, h2⟩
  · rw [shl_p (by omega), nx_or, nx_or, Nat.or_self, Nat.or_self, if_pos rfl]
  · rw [shl_p (by omega), shl_p (by omega), nx_or, nx_or, Nat.or_assoc, Nat.or_self, or_p h1, if_neg (by omega), if_pos rfl]
  · rw [shl_p (by omega), shl_p (by omega), shl_p (by omega), nx_or, nx_or, or_p h1, if_neg (by omega), if_neg (by omega)]
    have q := Nat.two_pow_add_eq_or_of_lt (i := c) (b := 2 ^ a + 2 ^ b) (by
      have := p2 h1
      have := p2 h2
      have := p1 a
      omega) 1
    rw [Nat.mul_one] at q
    rw [Nat.or_comm, ← q, Nat.add_comm]
theorem p24 {c : Nat} (h : c < 24) : 2 ^ c * 2 ≤ 16777216 := by
  rw [← Nat.pow_succ]
  have : 2 ^ (c + 1) ≤ 2 ^ 24 := Nat.pow_le_pow_right (by omega) h
  exact this
theorem tv_lt {n a b c a' b' c' : Nat} (h : vd n a b c) (h' : vd n a' b' c') (hl : clx a b c a' b' c') : tv n a b c < tv n a' b' c' := by
  obtain ⟨u1, u2⟩ := tv_b h
  obtain ⟨w1, w2⟩ := tv_b h'
  rcases hl with hl | ⟨rfl, hl⟩
  · have := p2 hl
    omega
  · unfold tv
    rcases h with ⟨rfl, rfl, rfl⟩ | ⟨rfl, h1, rfl⟩ | ⟨rfl, h1, h2⟩
    · rcases h' with ⟨-, rfl, rfl⟩ | ⟨h, -⟩ | ⟨h, -⟩
      · omega
      · cases h
      · cases h
    · rcases h' with ⟨h, -⟩ | ⟨-, g1, rfl⟩ | ⟨h, -⟩
      · cases h
      · have : a < a' := by omega
        have := p2 this
        have := p1 a
        rw [if_neg (by omega), if_pos rfl, if_neg (by omega), if_pos rfl]
        omega
      · cases h
    · rcases h' with ⟨h, -⟩ | ⟨h, -⟩ | ⟨-, g1, g2⟩
      · cases h
      · cases h
      · rw [if_neg (by omega), if_neg (by omega), if_neg (by omega), if_neg (by omega)]
        have := p1 a
        rcases hl with hl | ⟨rfl, hl⟩
        · have := p2 hl
          have := p2 h1
          have := p1 a'
          omega
        · have := p2 hl
          omega
theorem tI_lt {n a b c a' b' c' : Nat} (h : vd n a b c) (h' : vd n a' b' c') (hc : c < 24) (hc' : c' < 24) (hl : clx a b c a' b' c') : tI a b c < tI a' b' c' := by
  have := (tv_b h').2
  have := p24 hc'
  rw [tI_v h (by omega), tI_v h' (by omega)]
  exact nI_lt (tv_lt h h' hl) (by omega)
theorem tI_ne {n a b c : Nat} (h : vd n a b c) (hc : c < 24) : ¬ tI a b c = -1 ∧ ¬ tI a b c = 0 := by
  obtain ⟨h1, h2⟩ := tv_b h
  have h3 := p24 hc
  have h4 := p1 c
  rw [tI_v h (by omega)]
  refine ⟨fun q => ?_, nI_ne0 (by omega) (by omega)⟩
  have : ¬ nI (tv n a b c) < 0 := nI_pos (by omega)
  rw [q] at this
  exact this (by decide)
theorem clx_3 (n : Nat) {a b c a' b' c' : Nat} : clx a b c a' b' c' ∨ (a = a' ∧ b = b' ∧ c = c') ∨ clx a' b' c' a b c := by
  unfold clx
  omega
/-! the next one -/
def nxA (n a b c : Nat) : Nat := if n = 1 then a + 1 else if a + 1 < b then a + 1 else 0
def nxB (n a b c : Nat) : Nat := if n = 1 then b + 1 else if a + 1 < b then b else if n = 2 then b + 1 else if b + 1 < c then b + 1 else 1
def nxC (n a b c : Nat) : Nat := if n = 1 then c + 1 else if a + 1 < b then c else if n = 2 then c + 1 else if b + 1 < c then c else c + 1
theorem nx_vd {n a b c : Nat} (h : vd n a b c) : vd n (nxA n a b c) (nxB n a b c) (nxC n a b c) := by
  unfold vd nxA nxB nxC
  rcases h with ⟨rfl, rfl, rfl⟩ | ⟨rfl, h1, rfl⟩ | ⟨rfl, h1, h2⟩
  · simp
  · by_cases e : a + 1 < b <;> simp [e]
  · by_cases e : a + 1 < b
    · simp [e, h2]
    · by_cases e2 : b + 1 < c
      · simp [e, e2]
      · simp [e, e2]; omega
theorem nx_clx {n a b c a' b' c' : Nat} (h : vd n a b c) (h' : vd n a' b' c') (hl : clx a' b' c' (nxA n a b c) (nxB n a b c) (nxC n a b c)) : clx a' b' c' a b c ∨ (a' = a ∧ b' = b ∧ c' = c) := by
  unfold clx nxA nxB nxC at *
  rcases h with ⟨rfl, rfl, rfl⟩ | ⟨rfl, h1, rfl⟩ | ⟨rfl, h1, h2⟩
  · rcases h' with ⟨-, rfl, rfl⟩ | ⟨h, -⟩ | ⟨h, -⟩
    · simp at hl; omega
    · cases h
    · cases h
  · rcases h' with ⟨h, -⟩ | ⟨-, g1, rfl⟩ | ⟨h, -⟩
    · cases h
    · by_cases e : a + 1 < b
      · simp [e] at hl; omega
      · simp [e] at hl; omega
    · cases h
  · rcases h' with ⟨h, -⟩ | ⟨h, -⟩ | ⟨-, g1, g2⟩
    · cases h
    · cases h
    · by_cases e : a + 1 < b
      · simp [e] at hl; omega
      · by_cases e2 : b + 1 < c
        · simp [e, e2] at hl; omega
        · simp [e, e2] at hl; omega
def npk (x : Int32) : Int32 := (x + (x &&& (-x))) ||| ((x ^^^ (x + (x &&& (-x)))) >>> ((nI (cn (bt ((x &&& (-x)) - 1)) 32) + 2) &&& 31))
theorem npk_1 : ∀ a, a < 24 → npk (tI a a a) = tI (a + 1) (a + 1) (a + 1) := by decide +kernel
theorem npk_2 : ∀ b, b < 24 → ∀ a, a < b → npk (tI a b b) = tI (nxA 2 a b b) (nxB 2 a b b) (nxC 2 a b b) := by decide +kernel
theorem npk_3 : ∀ c, c < 24 → ∀ b, b < c → ∀ a, a < b → npk (tI a b c) = tI (nxA 3 a b c) (nxB 3 a b c) (nxC 3 a b c) := by decide +kernel
theorem npk_e {n a b c : Nat} (h : vd n a b c) (hc : c < 24) : npk (tI a b c) = tI (nxA n a b c) (nxB n a b c) (nxC n a b c) := by
  rcases h with ⟨rfl, rfl, rfl⟩ | ⟨rfl, h1, rfl⟩ | ⟨rfl, h1, h2⟩
  · exact npk_1 a hc
  · exact npk_2 b hc a h1
  · exact npk_3 c hc b h2 a h1
theorem c_next {n a b c : Nat} (h : vd n a b c) (hc : c < 24) (σ : zS) : fX6_nextPicks (tI a b c) σ = some (tI (nxA n a b c) (nxB n a b c) (nxC n a b c), σ) := by
  unfold fX6_nextPicks
  rw [if_neg (tI_ne h hc).2, bnd_e, bnd_e, f_bitCount, zb_s, ← npk_e h hc]
  rfl
/-- how many come before -/
def rkT (n a b c : Nat) : Nat := if n = 1 then a else if n = 2 then b * (b - 1) / 2 + a else c * (c - 1) * (c - 2) / 6 + b * (b - 1) / 2 + a
theorem rk_2 : ∀ b, b < 24 → ∀ a, a < b → rkT 2 (nxA 2 a b b) (nxB 2 a b b) (nxC 2 a b b) = rkT 2 a b b + 1 ∧ rkT 2 a b b < 2500 := by decide +kernel
theorem rk_3 : ∀ c, c < 24 → ∀ b, b < c → ∀ a, a < b → rkT 3 (nxA 3 a b c) (nxB 3 a b c) (nxC 3 a b c) = rkT 3 a b c + 1 ∧ rkT 3 a b c < 2500 := by decide +kernel
theorem rk_e {n a b c : Nat} (h : vd n a b c) (hc : c < 24) : rkT n (nxA n a b c) (nxB n a b c) (nxC n a b c) = rkT n a b c + 1 ∧ rkT n a b c < 2500 := by
  rcases h with ⟨rfl, rfl, rfl⟩ | ⟨rfl, h1, rfl⟩ | ⟨rfl, h1, h2⟩
  · unfold rkT nxA
    simp
    omega
  · exact rk_2 b hc a h1
  · exact rk_3 c hc b h2 a h1
/-! a pool of seats, counted off -/
theorem cn_s (P : Nat → Bool) {i j : Nat} (h : i < j) (hi : P i = true) : cn P i < cn P j := by
  induction j with
  | zero => omega
  | succ j ih =>
    show cn P i < cn P j + (if P j then 1 else 0)
    by_cases e : i = j
    · subst e; rw [if_pos hi]; omega
    · have := ih (by omega)
      split <;> omega
theorem cn_m (P : Nat → Bool) {i j : Nat} (h : i ≤ j) : cn P i ≤ cn P j := by
  induction j with
  | zero => rw [show i = 0 by omega]; exact Nat.le_refl _
  | succ j ih =>
    by_cases e : i = j + 1
    · rw [e]; exact Nat.le_refl _
    · have := ih (by omega)
      show cn P i ≤ cn P j + (if P j then 1 else 0)
      omega
theorem cn_lt (P : Nat → Bool) {i j : Nat} (hi : P i = true) (hj : P j = true) : cn P i < cn P j ↔ i < j := by
  constructor
  · intro h
    rcases Nat.lt_or_ge i j with q | q
    · exact q
    · have := cn_m P q; omega
  · intro h; exact cn_s P h hi
theorem cn_eq (P : Nat → Bool) {i j : Nat} (hi : P i = true) (hj : P j = true) : cn P i = cn P j ↔ i = j := by
  constructor
  · intro h
    have a1 := (cn_lt P hi hj)
    have a2 := (cn_lt P hj hi)
    omega
  · intro h; rw [h]
theorem cn_ex (P : Nat → Bool) : ∀ (n i : Nat), i < cn P n → ∃ s, s < n ∧ P s = true ∧ cn P s = i
  | 0, i, h => absurd h (Nat.not_lt_zero _)
  | n + 1, i, h => by
    have h : i < cn P n + (if P n then 1 else 0) := h
    by_cases e : i < cn P n
    · obtain ⟨s, s1, s2, s3⟩ := cn_ex P n i e
      exact ⟨s, by omega, s2, s3⟩
    · by_cases hp : P n = true
      · rw [if_pos hp] at h
        exact ⟨n, by omega, hp, by omega⟩
      · rw [if_neg hp] at h; omega
theorem c_spread {pool x : Int32} {P : Nat → Bool} (hP : bs pool P) (σ : zS) : ∃ y, fX6_spread x pool σ = some (y, σ) ∧ bs y (fun s => P s && bt x (cn P s)) := by
  have loop : ∀ (N s : Nat) (y : Int32), s ≤ 24 → 24 < s + N → bs y (fun i => decide (i < s) && (P i && bt x (cn P i))) → ∃ y', fX6_spread_7 N x pool y (nI (cn P s)) (nI s) σ = some (y', σ) ∧ bs y' (fun i => P i && bt x (cn P i)) := by
    intro N
    induction N with
    | zero => intro s y h1 h2; exact absurd h2 (by omega)
    | succ N ih =>
      intro s y h1 h2 hy
      show ∃ y', bX6_spread_7 (fX6_spread_7 N) x pool y (nI (cn P s)) (nI s) σ = _ ∧ _
      unfold bX6_spread_7 bX6_spread_41 bX6_spread_44
      by_cases e : s = 24
      · subst e
        rw [if_pos (by decide)]
        exact ⟨y, rfl, bs_c hy (fun i hi => by rw [decide_eq_true hi, Bool.true_and])⟩
      · have hs : s < 24 := by omega
        have hcn := cn_le P s
        rw [if_neg (geL 24 (24 : Int32) rfl hs (by omega)), bitB hP hs, bitT x (show cn P s < 32 by omega), nI_1 s, nI_1 (cn P s)]
        have cs : cn P (s + 1) = cn P s + (if P s then 1 else 0) := rfl
        have same : (P s && bt x (cn P s)) = false → bs y (fun i => decide (i < s + 1) && (P i && bt x (cn P i))) := fun hf => bs_c hy (fun i hi => by
          by_cases q : i = s
          · subst q; rw [hf, Bool.and_false, Bool.and_false]
          · rw [show decide (i < s) = decide (i < s + 1) from decide_eq_decide.mpr (by omega)])
        by_cases hp : P s = true
        · rw [if_pos hp, if_neg n10]
          rw [if_pos hp] at cs
          by_cases hx : bt x (cn P s) = true
          · rw [if_pos hx, if_neg n10, bnd_e, ← cs]
            refine ih (s + 1) _ (by omega) (by omega) (bs_c (bs_or hy (bs_1 hs)) (fun i hi => ?_))
            by_cases q : i = s
            · subst q; rw [hp, hx]; simp
            · rw [decide_eq_false q, Bool.or_false, show decide (i < s) = decide (i < s + 1) from decide_eq_decide.mpr (by omega)]
          · rw [if_neg hx, if_pos rfl, ← cs]
            exact ih (s + 1) y (by omega) (by omega) (same (by rw [Bool.eq_false_iff.mpr hx, Bool.and_false]))
        · rw [if_neg hp, if_pos rfl]
          have cs2 : cn P s = cn P (s + 1) := by rw [cs, if_neg hp]; rfl
          have goal := ih (s + 1) y (by omega) (by omega) (same (by rw [Bool.eq_false_iff.mpr hp, Bool.false_and]))
          rw [← cs2] at goal
          exact goal
  exact loop zFU 0 0 (by omega) (by unfold zFU; omega) (bs_c bs_0 (fun i hi => by rw [decide_eq_false (by omega), Bool.false_and]))
/-- picks by places, spread over the pool: the seats with those places -/
theorem c_spr {pool : Int32} {P : Nat → Bool} (hP : bs pool P) {n a b c : Nat} (h : vd n a b c) (hc : c < cn P 24) (σ : zS) : ∃ s1 s2 s3, vd n s1 s2 s3 ∧ s3 < 24 ∧ (P s1 = true ∧ P s2 = true ∧ P s3 = true) ∧ (cn P s1 = a ∧ cn P s2 = b ∧ cn P s3 = c) ∧ fX6_spread (tI a b c) pool σ = some (tI s1 s2 s3, σ) := by
  have hle := cn_le P 24
  have hab : a ≤ b ∧ b ≤ c := by unfold vd at h; omega
  obtain ⟨s1, u1, u2, u3⟩ := cn_ex P 24 a (by omega)
  obtain ⟨s2, w1, w2, w3⟩ := cn_ex P 24 b (by omega)
  obtain ⟨s3, x1, x2, x3⟩ := cn_ex P 24 c (by omega)
  obtain ⟨y, y1, y2⟩ := c_spread (x := tI a b c) hP σ
  have hv : vd n s1 s2 s3 := by
    have l1 := cn_lt P u2 w2
    have l2 := cn_lt P w2 x2
    have e1 := cn_eq P u2 w2
    have e2 := cn_eq P w2 x2
    unfold vd at h ⊢
    omega
  refine ⟨s1, s2, s3, hv, x1, ⟨u2, w2, x2⟩, ⟨u3, w3, x3⟩, ?_⟩
  rw [y1]
  have : y = tI s1 s2 s3 := bs_e y2 (tI_b u1 w1 x1) (fun i hi => by
    show (P i && bt (tI a b c) (cn P i)) = ((decide (i = s1) || decide (i = s2)) || decide (i = s3))
    rw [tI_b (show a < 24 by omega) (show b < 24 by omega) (show c < 24 by omega) (cn P i)]
    by_cases hp : P i = true
    · have hi2 := cn_s P hi hp
      rw [hp, Bool.true_and, decide_eq_true (show cn P i < 24 by omega), Bool.true_and]
      show ((decide (cn P i = a) || decide (cn P i = b)) || decide (cn P i = c)) = _
      rw [← u3, ← w3, ← x3, show decide (cn P i = cn P s1) = decide (i = s1) from decide_eq_decide.mpr (cn_eq P hp u2), show decide (cn P i = cn P s2) = decide (i = s2) from decide_eq_decide.mpr (cn_eq P hp w2), show decide (cn P i = cn P s3) = decide (i = s3) from decide_eq_decide.mpr (cn_eq P hp x2)]
    · rw [Bool.eq_false_iff.mpr hp, Bool.false_and, decide_eq_false (fun q => hp (by rw [q]; exact u2)), decide_eq_false (fun q => hp (by rw [q]; exact w2)), decide_eq_false (fun q => hp (by rw [q]; exact x2))]
      rfl)
  rw [this]
end
