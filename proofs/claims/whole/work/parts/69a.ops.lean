/-! ===== calls that tell the house ===== -/
theorem core_x {σ σ' τ τ' : zS} (h : core σ τ) (hr : σ'.2 = σ.2) (hk : ∀ a, 13 ≤ a → a < 167 → σ'.1 a = σ.1 a) (h04 : σ'.1 0 4 = σ.1 0 4) (hm2 : τ'.2 = τ.2) (hmk : ∀ a, (13 ≤ a ∧ a ≤ 17) ∨ (23 ≤ a ∧ a ≤ 32) → τ'.1 a = τ.1 a) (h39 : τ'.1 0 39 = τ.1 0 39) (c4 : pCrowd (σ'.1 5) (τ'.1 0 0) (τ'.1 1) (τ'.1 2) (τ'.1 3)) (c5 : pBill (σ'.1 2 0) (σ'.1 3) (σ'.1 4) (τ'.1 0 1) (τ'.1 4) (τ'.1 5)) (c6 : pPlan (σ'.1 169) (σ'.1 170) (τ'.1 6)) (c7 : σ'.1 0 13 = τ'.1 0 2 ∧ σ'.1 0 14 = τ'.1 0 3) (c8 : pTape (σ'.1 0 10) (σ'.1 167) (τ'.1 0 11) (τ'.1 7)) (c9 : pSums (σ'.1 171) (σ'.1 172) (τ'.1 22)) : core σ' τ' := by
  obtain ⟨h1, h2, h3, -, -, -, -, -, -, h10, ⟨K, k1, k2, k3, k4⟩⟩ := h
  refine ⟨by rw [hr]; exact h1, by rw [hr]; exact h2, by rw [hm2]; exact h3, c4, c5, c6, c7, c8, c9, ?_, ⟨K, k1, by rw [h04]; exact k2, by rw [h39]; exact k3, fun e he => kptP_s' e (by omega) (k4 e he)⟩⟩
  · intro j hj
    obtain ⟨m, hm, q1, q2⟩ := h10 j hj
    exact ⟨m, hm, by rw [hr]; exact q1, by rw [hk (158 + 2 * m) (by omega) (by omega), hk (157 + 2 * m) (by omega) (by omega), hmk 13 (by omega), hmk 14 (by omega), hmk 15 (by omega), hmk 16 (by omega), hmk 17 (by omega)]; exact q2⟩
where
  kptP_s' (e : Nat) (he : e < 20) (q : kptP σ τ e) : kptP σ' τ' e := by
    unfold kptP
    rw [hk (14 + 7 * e) (by omega) (by omega), hk (17 + 7 * e) (by omega) (by omega), hk (15 + 7 * e) (by omega) (by omega), hk (16 + 7 * e) (by omega) (by omega), hk (18 + 7 * e) (by omega) (by omega), hk (19 + 7 * e) (by omega) (by omega), hk (13 + 7 * e) (by omega) (by omega), hmk 29 (by omega), hmk 30 (by omega), hmk 24 (by omega), hmk 25 (by omega), hmk 26 (by omega), hmk 27 (by omega), hmk 28 (by omega), hmk 23 (by omega), hmk 31 (by omega), hmk 32 (by omega)]
    exact q
theorem bs_z {x : Int32} {p : Nat → Bool} (h : bs x p) : x = 0 ↔ cn p 24 = 0 := by
  constructor
  · intro e
    refine cn_zero (fun k hk => ?_)
    have := h k
    rw [e, b_0, decide_eq_true hk, Bool.true_and] at this
    exact this.symm
  · intro e
    have key : ∀ n, cn p n = 0 → ∀ k, k < n → p k = false := by
      intro n
      induction n with
      | zero => intro _ k hk; exact absurd hk (by omega)
      | succ n ih =>
        intro e k hk
        have e : cn p n + (if p n = true then 1 else 0) = 0 := e
        by_cases hp : p n = true
        · rw [if_pos hp] at e; omega
        · rw [if_neg hp] at e
          by_cases q : k = n
          · rw [q]; exact Bool.eq_false_iff.mpr hp
          · exact ih (by omega) k (by omega)
    exact bs_e h bs_0 (fun i hi => key 24 e i hi)
theorem pSeat_c {c c' : Nat → Int32} {so kn pa : Int32} {s : Nat} (h : ∀ j, 1 ≤ j → j ≤ 6 → bt (c' j) s = bt (c j) s) (q : pSeat c so kn pa s) : pSeat c' so kn pa s := by
  unfold pSeat
  rw [h 1 (by omega) (by omega), h 2 (by omega) (by omega), h 3 (by omega) (by omega), h 4 (by omega) (by omega), h 5 (by omega) (by omega), h 6 (by omega) (by omega)]
  exact q
theorem pCrowd_u {c c' : Nat → Int32} {row : Int32} {so kn pa so' kn' pa' : Nat → Int32} {s : Nat} (hs : s < 24) (h : pCrowd c row so kn pa) (h0 : c' 0 = c 0) (hb : ∀ j, 1 ≤ j → j ≤ 6 → ∀ i, ¬ i = s → bt (c' j) i = bt (c j) i) (hm : ∀ q, ¬ q = s → so' q = so q ∧ kn' q = kn q ∧ pa' q = pa q) (hp : pSeat c' (so' s) (kn' s) (pa' s) s) : pCrowd c' row so' kn' pa' := by
  obtain ⟨⟨w, w1, w2, w3, w4⟩, h2, h3⟩ := h
  refine ⟨⟨w, w1, w2, w3, by rw [h0]; exact w4⟩, fun i hi => ?_, fun q hq => ?_⟩
  · rw [hb 1 (by omega) (by omega) i (by omega), hb 5 (by omega) (by omega) i (by omega), hb 6 (by omega) (by omega) i (by omega)]
    exact h2 i hi
  · by_cases e : q = s
    · rw [e]; exact hp
    · obtain ⟨m1, m2, m3⟩ := hm q e
      rw [m1, m2, m3]
      exact pSeat_c (fun j j1 j2 => hb j j1 j2 q e) (h3 q hq)
theorem set_or {x : Int32} {s : Nat} (hs : s < 24) (i : Nat) : bt (x ||| (1 : Int32) <<< (nI s &&& 31)) i = (bt x i || decide (i = s)) := by
  rw [b_or, bs_1 hs i]
  by_cases e : i = s
  · subst e; simp [hs]
  · simp [e]
theorem set_but {x : Int32} {s : Nat} (hs : s < 24) (i : Nat) : bt (x &&& ((1 : Int32) <<< (nI s &&& 31) ^^^ (-1 : Int32))) i = (bt x i && !decide (i = s)) := by
  rw [b_and, b_xor, bs_1 hs i]
  by_cases h : i < 32
  · rw [b_m1 i h]
    by_cases e : i = s
    · subst e; simp [hs]
    · simp [e]
  · rw [b_big (by omega)]; rfl
theorem set_v {b s : Nat} (hb : b < 2) (hs : s < 24) (i : Nat) : bt (nI b <<< (nI s &&& 31)) i = (decide (i = s) && decide (b = 1)) := by
  rcases (show b = 0 ∨ b = 1 by omega) with rfl | rfl
  · rw [Bool.and_comm]
    show _ = (false && _)
    rw [Bool.false_and]
    by_cases h : i < 32
    · rw [b_shl s (by omega) _ h, show nI 0 = 0 from rfl, b_0, Bool.and_false]
    · exact b_big (by omega)
  · show bt ((1 : Int32) <<< (nI s &&& 31)) i = _
    rw [bs_1 hs i]
    by_cases e : i = s
    · subst e; simp [hs]
    · simp [e]
/-! hire, leave, sit -/
theorem c_hire {σ : zS} {s k : Nat} (hs : s < 24) (hk : k ≤ 2) : ∃ x y : Int32, fX2_hire 5 (nI s) (nI k) σ = some ((), zI (zI σ 5 5 x) 5 6 y) ∧ (∀ i, bt x i = ((bt (σ.1 5 5) i && !decide (i = s)) || (decide (i = s) && decide (k = 1)))) ∧ ∀ i, bt y i = ((bt (σ.1 5 6) i && !decide (i = s)) || (decide (i = s) && decide (k = 2))) := by
  unfold fX2_hire bX2_hire_23
  rw [bnd_e]
  have or0 : ∀ (z : Int32) i, bt (z ||| 0) i = bt z i := fun z i => by rw [b_or, b_0, Bool.or_false]
  have h6 : ∀ v, (zI σ 5 5 v).1 5 6 = σ.1 5 6 := fun v => zI_o (by decide)
  rcases (show k = 0 ∨ k = 1 ∨ k = 2 by omega) with rfl | rfl | rfl
  · rw [if_neg (by decide), bnd_e, if_neg (by decide), bnd_e, h6]
    refine ⟨_, _, rfl, fun i => ?_, fun i => ?_⟩
    · rw [or0, set_but hs]; simp
    · rw [or0, set_but hs]; simp
  · rw [if_pos (by decide), bnd_e, if_neg (by decide), bnd_e, h6]
    refine ⟨_, _, rfl, fun i => ?_, fun i => ?_⟩
    · rw [set_or hs, set_but hs]; simp
    · rw [or0, set_but hs]; simp
  · rw [if_neg (by decide), bnd_e, if_pos (by decide), bnd_e, h6]
    refine ⟨_, _, rfl, fun i => ?_, fun i => ?_⟩
    · rw [or0, set_but hs]; simp
    · rw [set_or hs, set_but hs]; simp
theorem c_sit {σ : zS} {s k b : Nat} (hs : s < 24) (hk : k < 4) (hb : b < 2) : ∃ x1 x2 x3 x4 : Int32, fX2_sit 5 (nI s) (nI k) (nI b) σ = some ((), zI (zI (zI (zI σ 5 1 x1) 5 2 x2) 5 3 x3) 5 4 x4) ∧ (∀ i, bt x1 i = (bt (σ.1 5 1) i || decide (i = s))) ∧ (∀ i, bt x2 i = ((bt (σ.1 5 2) i && !decide (i = s)) || (decide (i = s) && decide (b = 1)))) ∧ (∀ i, bt x3 i = ((bt (σ.1 5 3) i && !decide (i = s)) || (decide (i = s) && decide (k % 2 = 1)))) ∧ ∀ i, bt x4 i = ((bt (σ.1 5 4) i && !decide (i = s)) || (decide (i = s) && decide (2 ≤ k))) := by
  unfold fX2_sit
  simp only [bnd_e]
  have e1 : nI k &&& (1 : Int32) = nI (k % 2) := by
    rcases (show k = 0 ∨ k = 1 ∨ k = 2 ∨ k = 3 by omega) with rfl | rfl | rfl | rfl <;> rfl
  have e2 : nI k >>> ((1 : Int32) &&& 31) &&& (1 : Int32) = nI (k / 2) := by
    rcases (show k = 0 ∨ k = 1 ∨ k = 2 ∨ k = 3 by omega) with rfl | rfl | rfl | rfl <;> rfl
  rw [e1, e2]
  have h2 : ∀ v, (zI σ 5 1 v).1 5 2 = σ.1 5 2 := fun v => zI_o (by decide)
  have h3 : ∀ v w, (zI (zI σ 5 1 v) 5 2 w).1 5 3 = σ.1 5 3 := fun v w => by rw [zI_o (by decide), zI_o (by decide)]
  have h4 : ∀ v w u, (zI (zI (zI σ 5 1 v) 5 2 w) 5 3 u).1 5 4 = σ.1 5 4 := fun v w u => by rw [zI_o (by decide), zI_o (by decide), zI_o (by decide)]
  rw [h2, h3, h4]
  refine ⟨_, _, _, _, rfl, fun i => set_or hs i, fun i => ?_, fun i => ?_, fun i => ?_⟩
  · rw [b_or, set_but hs, set_v hb hs]
  · rw [b_or, set_but hs, set_v (by omega) hs]
  · rw [b_or, set_but hs, set_v (by omega) hs]
    have : decide (k / 2 = 1) = decide (2 ≤ k) := by
      rcases (show k = 0 ∨ k = 1 ∨ k = 2 ∨ k = 3 by omega) with rfl | rfl | rfl | rfl <;> rfl
    rw [this]
theorem c_leave {σ : zS} {s : Nat} (hs : s < 24) : ∃ x1 x5 x6 : Int32, fX2_leave 5 (nI s) σ = some ((), zI (zI (zI σ 5 1 x1) 5 5 x5) 5 6 x6) ∧ (∀ i, bt x1 i = (bt (σ.1 5 1) i && !decide (i = s))) ∧ (∀ i, bt x5 i = (bt (σ.1 5 5) i && !decide (i = s))) ∧ ∀ i, bt x6 i = (bt (σ.1 5 6) i && !decide (i = s)) := by
  unfold fX2_leave
  rw [bnd_e, bnd_e]
  obtain ⟨x, y, q1, q2, q3⟩ := c_hire (σ := zI σ 5 1 (σ.1 5 1 &&& ((1 : Int32) <<< (nI s &&& 31) ^^^ (-1 : Int32)))) (s := s) (k := 0) hs (by omega)
  rw [show (0 : Int32) = nI 0 from rfl, q1, zb_s]
  refine ⟨_, x, y, rfl, fun i => set_but hs i, fun i => ?_, fun i => ?_⟩
  · rw [q2 i, zI_o (by decide)]; simp
  · rw [q3 i, zI_o (by decide)]; simp
