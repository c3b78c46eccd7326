/-! ===== the plain calls: what they answer and do ===== -/
def ok (v a b : Int32) : Prop := ¬ v < a ∧ ¬ b < v
theorem ok_dec (v a b : Int32) : ok v a b ∨ ¬ ok v a b := Classical.em _
theorem c_within (v a b : Int32) (σ : zS) : (ok v a b → fX6_within v a b σ = some (1, σ)) ∧ (¬ ok v a b → fX6_within v a b σ = some (0, σ)) := by
  unfold fX6_within ok
  refine ⟨fun h => by rw [if_neg h.1, if_neg h.2], fun h => ?_⟩
  by_cases h1 : v < a
  · rw [if_pos h1]
  · by_cases h2 : b < v
    · rw [if_neg h1, if_pos h2]
    · exact absurd ⟨h1, h2⟩ h
theorem m_in (v a b : Int32) (σ : zS) : (ok v a b → fX7_in v a b σ = some (1, σ)) ∧ (¬ ok v a b → fX7_in v a b σ = some (0, σ)) := by
  unfold fX7_in ok
  refine ⟨fun h => by rw [if_neg h.1, if_neg h.2], fun h => ?_⟩
  by_cases h1 : v < a
  · rw [if_pos h1]
  · by_cases h2 : b < v
    · rw [if_neg h1, if_pos h2]
    · exact absurd ⟨h1, h2⟩ h
theorem n10 : ¬ ((1 : Int32) = 0) := by decide
theorem ok_n {v : Int32} {a n : Nat} (ha : a ≤ n) (hn : n < 2 ^ 31) (h : ok v (nI a) (nI n)) : ∃ k, a ≤ k ∧ k ≤ n ∧ v = nI k := by
  obtain ⟨h1, h2⟩ := h
  have e1 : ¬ v.toInt < (a : Int) := fun q => h1 (Int32.lt_iff_toInt_lt.mpr (by rw [nI_toInt (by omega)]; exact q))
  have e2 : ¬ (n : Int) < v.toInt := fun q => h2 (Int32.lt_iff_toInt_lt.mpr (by rw [nI_toInt hn]; exact q))
  refine ⟨v.toInt.toNat, by omega, by omega, ?_⟩
  apply Int32.toInt_inj.mp
  rw [nI_toInt (by omega)]
  omega
theorem ok_of {k a n : Nat} (h1 : a ≤ k) (h2 : k ≤ n) (hn : n < 2 ^ 31) : ok (nI k) (nI a) (nI n) := ⟨nI_nlt h1 (by omega), nI_nlt h2 hn⟩
theorem m_isSeat (v : Int32) (σ : zS) : (ok v 0 23 → fX7_isSeat v σ = some (1, σ)) ∧ (¬ ok v 0 23 → fX7_isSeat v σ = some (0, σ)) := by
  unfold fX7_isSeat ok
  have e : (24 : Int32) ≤ v ↔ 23 < v := by
    rw [Int32.le_iff_toInt_le, Int32.lt_iff_toInt_lt]
    show (24 : Int) ≤ _ ↔ (23 : Int) < _
    omega
  refine ⟨fun h => by rw [if_neg h.1, if_neg (fun q => h.2 (e.mp q))], fun h => ?_⟩
  by_cases h1 : v < 0
  · rw [if_pos h1]
  · by_cases h2 : 23 < v
    · rw [if_neg h1, if_pos (e.mpr h2)]
    · exact absurd ⟨h1, h2⟩ h
theorem c_isSeat (v : Int32) (σ : zS) : (ok v 0 23 → fX6_isSeat v σ = some (1, σ)) ∧ (¬ ok v 0 23 → fX6_isSeat v σ = some (0, σ)) := by
  unfold fX6_isSeat
  exact ⟨fun h => by rw [(c_within v 0 23 σ).1 h]; rfl, fun h => by rw [(c_within v 0 23 σ).2 h]; rfl⟩
theorem m_isSecond (v : Int32) (σ : zS) : (ok v 0 39 → fX7_isSecond v σ = some (1, σ)) ∧ (¬ ok v 0 39 → fX7_isSecond v σ = some (0, σ)) := by
  unfold fX7_isSecond ok
  have e : (40 : Int32) ≤ v ↔ 39 < v := by
    rw [Int32.le_iff_toInt_le, Int32.lt_iff_toInt_lt]
    show (40 : Int) ≤ _ ↔ (39 : Int) < _
    omega
  refine ⟨fun h => by rw [if_neg h.1, if_neg (fun q => h.2 (e.mp q))], fun h => ?_⟩
  by_cases h1 : v < 0
  · rw [if_pos h1]
  · by_cases h2 : 39 < v
    · rw [if_neg h1, if_pos (e.mpr h2)]
    · exact absurd ⟨h1, h2⟩ h
theorem m_isStick (v : Int32) (σ : zS) : (ok v 1 2 → fX7_isStick v σ = some (1, σ)) ∧ (¬ ok v 1 2 → fX7_isStick v σ = some (0, σ)) := by
  unfold fX7_isStick
  refine ⟨fun h => ?_, fun h => ?_⟩
  · obtain ⟨k, h1, h2, rfl⟩ := ok_n (a := 1) (n := 2) (by omega) (by omega) h
    rcases (show k = 1 ∨ k = 2 by omega) with rfl | rfl
    · rfl
    · rfl
  · by_cases h1 : v = 1
    · exact absurd (by rw [h1]; exact ok_of (k := 1) (a := 1) (n := 2) (by omega) (by omega) (by omega)) h
    · by_cases h2 : v = 2
      · exact absurd (by rw [h2]; exact ok_of (k := 2) (a := 1) (n := 2) (by omega) (by omega) (by omega)) h
      · simp [h1, h2]
theorem c_isStick (v : Int32) (σ : zS) : (ok v 1 2 → fX6_isStick v σ = some (1, σ)) ∧ (¬ ok v 1 2 → fX6_isStick v σ = some (0, σ)) := by
  unfold fX6_isStick
  exact ⟨fun h => by rw [(c_within v 1 2 σ).1 h]; rfl, fun h => by rw [(c_within v 1 2 σ).2 h]; rfl⟩
/-- prices -/
theorem c_prices (a b : Int32) (σ : zS) : (ok a 0 100 ∧ ok b 0 100 → fX6_prices 0 a b σ = some (1, zI (zI σ 0 13 a) 0 14 b)) ∧ (¬ (ok a 0 100 ∧ ok b 0 100) → fX6_prices 0 a b σ = some (0, σ)) := by
  unfold fX6_prices
  refine ⟨fun h => by rw [(c_within a 0 100 σ).1 h.1, zb_s, if_neg n10, (c_within b 0 100 σ).1 h.2, zb_s, if_neg n10]; rfl, fun h => ?_⟩
  rcases ok_dec a 0 100 with h1 | h1
  · rcases ok_dec b 0 100 with h2 | h2
    · exact absurd ⟨h1, h2⟩ h
    · rw [(c_within a 0 100 σ).1 h1, zb_s, if_neg n10, (c_within b 0 100 σ).2 h2]; rfl
  · rw [(c_within a 0 100 σ).2 h1]; rfl
theorem m_prices (a b : Int32) (σ : zS) : (ok a 0 100 ∧ ok b 0 100 → fX7_prices 0 a b σ = some (1, zI (zI σ 0 2 a) 0 3 b)) ∧ (¬ (ok a 0 100 ∧ ok b 0 100) → fX7_prices 0 a b σ = some (0, σ)) := by
  unfold fX7_prices
  refine ⟨fun h => by rw [(m_in a 0 100 σ).1 h.1, zb_s, if_neg n10, (m_in b 0 100 σ).1 h.2, zb_s, if_neg n10]; rfl, fun h => ?_⟩
  rcases ok_dec a 0 100 with h1 | h1
  · rcases ok_dec b 0 100 with h2 | h2
    · exact absurd ⟨h1, h2⟩ h
    · rw [(m_in a 0 100 σ).1 h1, zb_s, if_neg n10, (m_in b 0 100 σ).2 h2]; rfl
  · rw [(m_in a 0 100 σ).2 h1]; rfl
