section
/-! ===== law ===== -/
theorem rk0 {τ0 : zS} {P F O K L V : Int32} {A B : Nat → Int32} {b : Nat} (h : ¬ b = 12 ∧ ¬ b = 14 ∧ ¬ b = 15 ∧ ¬ b = 16 ∧ ¬ b = 17 ∧ ¬ b = 19) : (mkM τ0 P F O K L V A B).1 0 b = τ0.1 0 b := by
  obtain ⟨h1, h2, h3, h4, h5, h6⟩ := h
  simp [mkM, h1, h2, h3, h4, h5, h6]
theorem rka {τ0 : zS} {P F O K L V : Int32} {A B : Nat → Int32} {a : Nat} (h0 : ¬ a = 0) (h8 : ¬ a = 8) (h9 : ¬ a = 9) : (mkM τ0 P F O K L V A B).1 a = τ0.1 a := by
  funext b
  simp [mkM, h0, h8, h9]
theorem ska {σ0 : zS} {L q : Nat} {P O F S : Int32} {A : Nat → Int32} {a : Nat} (h0 : ¬ a = 168) (h1 : ¬ a = L) (h2 : ¬ a = q) : (mkC σ0 L q P O F S A).1 a = σ0.1 a := by
  funext b
  simp [mkC, h0, h1, h2]
theorem core_law {σ σ' τ τ' : zS} (h : core σ τ) (ha : ∀ a, ¬ a = 0 → ¬ a = 168 → ¬ (157 ≤ a ∧ a ≤ 166) → σ'.1 a = σ.1 a) (hb : ∀ b, ¬ b = 2 → ¬ b = 10 → σ'.1 0 b = σ.1 0 b) (hr : ∀ a b, ¬ (a = 168 ∧ b = 1) → ¬ a = 156 → ¬ (a = 0 ∧ b = 7) → σ'.2 a b = σ.2 a b) (h10 : σ'.1 0 10 = 0) (hm2 : τ'.2 = τ.2) (hma : ∀ a, ¬ a = 0 → ¬ (8 ≤ a ∧ a ≤ 17) → τ'.1 a = τ.1 a) (hmb : ∀ b, b ≤ 3 ∨ b = 39 → τ'.1 0 b = τ.1 0 b) (h11 : τ'.1 0 11 = 0) (hP : cPm σ'.2) (hL : cLaws σ' (τ'.1 13) (τ'.1 14) (τ'.1 15) (τ'.1 16) (τ'.1 17)) : core σ' τ' := by
  obtain ⟨g1, g2, g3, g4, g5, g6, g7, g8, g9, g10, ⟨K, k1, k2, k3, k4⟩⟩ := h
  refine ⟨?_, hP, by rw [hm2]; exact g3, ?_, ?_, ?_, ?_, ?_, ?_, hL, ⟨K, k1, by rw [hb 4 (by omega) (by omega)]; exact k2, by rw [hmb 39 (by omega)]; exact k3, fun e he => kptP_s (fun a q1 q2 => ha a (by omega) (by omega) (by omega)) (fun a q => hma a (by omega) (by omega)) (by omega) (k4 e he)⟩⟩
  · intro j k hjk
    rw [hr j k ?_ ?_ ?_]
    · exact g1 j k hjk
    · rintro ⟨rfl, rfl⟩; exact hjk rfl
    · rintro rfl; exact hjk rfl
    · rintro ⟨rfl, rfl⟩; exact hjk rfl
  · rw [ha 5 (by omega) (by omega) (by omega), hmb 0 (by omega), hma 1 (by omega) (by omega), hma 2 (by omega) (by omega), hma 3 (by omega) (by omega)]; exact g4
  · rw [ha 2 (by omega) (by omega) (by omega), ha 3 (by omega) (by omega) (by omega), ha 4 (by omega) (by omega) (by omega), hmb 1 (by omega), hma 4 (by omega) (by omega), hma 5 (by omega) (by omega)]; exact g5
  · rw [ha 169 (by omega) (by omega) (by omega), ha 170 (by omega) (by omega) (by omega), hma 6 (by omega) (by omega)]; exact g6
  · rw [hb 13 (by omega) (by omega), hb 14 (by omega) (by omega), hmb 2 (by omega), hmb 3 (by omega)]; exact g7
  · rw [h10, h11, ha 167 (by omega) (by omega) (by omega), hma 7 (by omega) (by omega)]
    exact ⟨⟨0, by omega, rfl, rfl⟩, g8.2⟩
  · rw [ha 171 (by omega) (by omega) (by omega), ha 172 (by omega) (by omega) (by omega), hma 22 (by omega) (by omega)]; exact g9
theorem er_le : ∀ f, f < 6 → ∀ p, p < 121 → (-1000 : Int32) * nI f - nI p ≤ 0 := by decide +kernel
theorem lawC_keep {st : Nat → Int32} {sz cl : Int32} {co cm lt fr to_ co' cm' lt' fr' to' : Nat → Int32} {j : Nat} (h : lawC st sz cl co cm lt fr to_ j) (e1 : ∀ i, i < 140 → co' (140 * j + i) = co (140 * j + i)) (e2 : cm' j = cm j) (e3 : ∀ c, c < 12 → lt' (12 * j + c) = lt (12 * j + c) ∧ fr' (12 * j + c) = fr (12 * j + c) ∧ to' (12 * j + c) = to_ (12 * j + c)) : lawC st sz cl co' cm' lt' fr' to' j := by
  obtain ⟨K, F, hK, hcm, hcl, hF0, hsz, hS2, hc⟩ := h
  refine ⟨K, F, hK, by rw [e2]; exact hcm, hcl, hF0, hsz, hS2, fun c hcK => ?_⟩
  obtain ⟨a1, a2, a3, ⟨dep, bo, a4⟩, a5, a6, a7, a8⟩ := hc c hcK
  obtain ⟨f1, f2, f3⟩ := e3 c (by omega)
  have hT : F (c + 1) ≤ 124 := a4.2.2.2.2.2.1
  have eo : ∀ i, F c ≤ i → i < F (c + 1) → lOp co' j i = lOp co j i := fun i _ q => by unfold lOp; rw [e1 i (by omega)]
  have ev : ∀ i, F c ≤ i → i < F (c + 1) → lVl co' j i = lVl co j i := fun i _ q => by unfold lVl; rw [e1 i (by omega)]
  rw [f1, f2, f3]
  refine ⟨a1, a2, a3, ⟨dep, bo, a4.1, a4.2.1, a4.2.2.1, a4.2.2.2.1, a4.2.2.2.2.1, hT, fun i x y => ?_⟩, fun i x y => by rw [eo i x y, ev i x y, e1 i (by omega)]; exact a5 i x y, a6, a7, fun i x y => by rw [eo i x y, ev i x y]; exact a8 i x y⟩
  have := a4.2.2.2.2.2.2 i x y
  unfold wfI at this ⊢
  rw [eo i x y, ev i x y]
  exact this
theorem nI99 {m : Nat} (h : m = 99 ∨ m = 104) : (nI m = 99 ∨ nI m = 104) ∧ (nI m = 99 ↔ m = 99) := by
  rcases h with rfl | rfl <;> decide
/-- the law read, in the class's and the reference's rows -/
theorem lawC_new {A : Nat → Int32} {F cd lt : Nat → Nat} {c n : Nat} {co cm lt' fr to_ : Nat → Int32} {j : Nat} (hn : n ≤ 120) (hc : c ≤ 12) (hF0 : F 0 = 0) (hk : F c + 2 * c ≤ n) (hA : laC A F cd lt c) (hS : ∀ i, i < c → SEG cd (F i) (F (i + 1)) 14 ∧ LB cd (F (i + 1)) ∧ (lt i = 99 ∨ lt i = 104) ∧ F (i + 1) ≤ F c) (hcd : ∀ i, i < F c → co (140 * j + i) = nI (cd i) ∧ cd i < 15728640) (hcm : cm j = nI c) (hr : ∀ u, u < c → lt' (12 * j + u) = nI (lt u) ∧ fr (12 * j + u) = nI (140 * j + F u) ∧ to_ (12 * j + u) = nI (140 * j + F (u + 1))) : lawC A (nI (F c + 2 * c)) (nI c) co cm lt' fr to_ j := by
  have eo : ∀ i, i < F c → lOp co j i = cd i / 1048576 := fun i q => by
    obtain ⟨q1, q2⟩ := hcd i q
    unfold lOp; rw [q1, cl_n (by omega)]
  have ev : ∀ i, i < F c → lVl co j i = cd i % 1048576 := fun i q => by
    obtain ⟨q1, q2⟩ := hcd i q
    unfold lVl; rw [q1, cl_n (by omega)]
  refine ⟨c, F, hc, hcm, rfl, hF0, rfl, by omega, fun u hu => ?_⟩
  obtain ⟨r1, r2, r3⟩ := hr u hu
  obtain ⟨s1, s2, s3, s4⟩ := hS u hu
  obtain ⟨q1, q2, q3⟩ := hA u hu
  obtain ⟨l1, l2⟩ := nI99 s3
  rw [r1, r2, r3]
  refine ⟨rfl, rfl, l1, seg_wf s1 s2 (by omega) (fun i _ y => eo i (by omega)) (fun i _ y => ev i (by omega)), fun i x y => ?_, q1, ?_, fun i x y => ?_⟩
  · rw [eo i (by omega), ev i (by omega), (hcd i (by omega)).1]
    congr 1
    omega
  · rw [q2]
    by_cases e : lt u = 99
    · rw [if_pos e, if_pos (l2.mpr e)]
    · rw [if_neg e, if_neg (fun w => e (l2.mp w))]
  · rw [q3 i x y, enc_seg s1 x y, eo i (by omega), ev i (by omega)]
end
