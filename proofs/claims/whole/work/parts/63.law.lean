/-! ===== a law, as the class and as the reference hold it ===== -/
def lawC (st : Nat → Int32) (sz cl : Int32) (co cm lt fr to_ : Nat → Int32) (j : Nat) : Prop :=
  ∃ (K : Nat) (F : Nat → Nat), K ≤ 12 ∧ cm j = nI K ∧ cl = nI K ∧ F 0 = 0 ∧ sz = nI (F K + 2 * K) ∧ F K + 2 * K ≤ 128 ∧ ∀ c, c < K →
    (fr (12 * j + c) = nI (140 * j + F c) ∧ to_ (12 * j + c) = nI (140 * j + F (c + 1)) ∧ (lt (12 * j + c) = 99 ∨ lt (12 * j + c) = 104) ∧ (∃ dep bo, wf (lOp co j) (lVl co j) (F c) (F (c + 1)) dep bo) ∧ (∀ i, F c ≤ i → i < F (c + 1) → co (140 * j + i) = nI (1048576 * lOp co j i + lVl co j i)) ∧
     st (F c + 2 * c) = nI (16 * (F (c + 1) + 2 * c + 2)) ∧ st (F (c + 1) + 2 * c + 1) = nI (16 * (if lt (12 * j + c) = 99 then 1 else 2) + 1) ∧ ∀ i, F c ≤ i → i < F (c + 1) → st (i + 2 * c + 1) = nI (16 * nm c (lOp co j i) (lVl co j i) + kd (lOp co j i)))
theorem lawC_M {st : Nat → Int32} {sz cl : Int32} {co cm lt fr to_ : Nat → Int32} {j : Nat} (h : lawC st sz cl co cm lt fr to_ j) : lawM co cm lt fr to_ j := by
  obtain ⟨K, F, hK, hcm, -, -, -, -, h⟩ := h
  refine ⟨K, hK, hcm, fun c hc => ?_⟩
  obtain ⟨h1, h2, h3, h4, h5, -⟩ := h c hc
  exact ⟨F c, F (c + 1), h1, h2, h3, h4, h5⟩
theorem F_le {F : Nat → Nat} {K : Nat} (h : ∀ c, c < K → F c < F (c + 1)) : ∀ (k c : Nat), c + k = K → F c + 2 * c ≤ F K + 2 * K
  | 0, c, e => by rw [show K = c by omega]; exact Nat.le_refl _
  | k + 1, c, e => by
    have h1 := F_le h k (c + 1) (by omega)
    have h2 := h c (by omega)
    omega
theorem c_end (n L S v a : Nat) (sv beh : Int32) (σ : zS) (hS : σ.1 L 1 = nI S) (hS2 : S ≤ 128) (ha : a = S) (hv : v ≤ 128) : bX0_ask_11 (fX0_ask_11 n) 153 L sv beh (nI 2) (nI a) (nI v) σ = some (0, σ) := by
  subst ha
  unfold bX0_ask_11
  by_cases h : v = 128
  · rw [h, if_pos (show (128 : Int32) ≤ nI 128 by decide)]
  · rw [if_neg (geL 128 (128 : Int32) rfl (show v < 128 by omega) (by omega)), if_neg (nI_pos (by omega)), hS, if_pos (nI_le (Nat.le_refl a) (by omega))]
theorem c_enter (n L q S a v num : Nat) (sv beh : Int32) (σ : zS) (hS : σ.1 L 1 = nI S) (hS2 : S ≤ 128) (ha : a < S) (hv : v < 128) (hq : σ.2 L 0 = q) (hn : 16 * num < 2 ^ 31) (hst : σ.1 q a = nI (16 * num)) : bX0_ask_11 (fX0_ask_11 n) 153 L sv beh (nI 2) (nI a) (nI v) σ = fX0_ask_11 n 153 L sv (nI num) (nI 2) (nI (a + 1)) (nI (v + 1)) σ := by
  rw [c_hd (fX0_ask_11 n) L q S a 2 v 0 num sv beh σ hS hS2 ha hv (by omega) (by omega) hq (by omega) (by omega) hst]
  unfold askT
  rw [if_pos (show nI 0 = 0 from nI_0)]
  unfold bX0_ask_321
  rw [nI_1, nI_1]
theorem c_cl {co lt fr to_ : Nat → Int32} {j : Nat} (hj : j < 4) {K : Nat} {F : Nat → Nat} (hK : K ≤ 12) {σ : zS} {L q S : Nat} (hL : ¬ L = 154) (hq4 : ¬ q = 154) (hq : σ.2 L 0 = q) (hS : σ.1 L 1 = nI S) (hS1 : S = F K + 2 * K) (hS2 : S ≤ 128)
    (hc : ∀ c, c < K → (fr (12 * j + c) = nI (140 * j + F c) ∧ to_ (12 * j + c) = nI (140 * j + F (c + 1)) ∧ (lt (12 * j + c) = 99 ∨ lt (12 * j + c) = 104) ∧ (∃ dep bo, wf (lOp co j) (lVl co j) (F c) (F (c + 1)) dep bo) ∧ (∀ i, F c ≤ i → i < F (c + 1) → co (140 * j + i) = nI (1048576 * lOp co j i + lVl co j i)) ∧
     σ.1 q (F c + 2 * c) = nI (16 * (F (c + 1) + 2 * c + 2)) ∧ σ.1 q (F (c + 1) + 2 * c + 1) = nI (16 * (if lt (12 * j + c) = 99 then 1 else 2) + 1) ∧ ∀ i, F c ≤ i → i < F (c + 1) → σ.1 q (i + 2 * c + 1) = nI (16 * nm c (lOp co j i) (lVl co j i) + kd (lOp co j i))))
    {Cr w : Nat} {so kn hi : Nat → Int32} {gk go : Int32} {prev : Nat → Int32} {t : Nat} (H : std σ Cr w so kn hi gk go prev t) (hCr : ¬ Cr = 154) {s : Nat} (hs : s < 24) (hso : ¬ so s = -1) :
    ∀ (k c n v : Nat) (beh : Int32) (A : Nat → Int32), c + k = K → v ≤ F c + 2 * c → 200 ≤ n + (F c + 2 * c) → ∃ A', fX0_ask_11 n 153 L (nI s) beh (nI 2) (nI (F c + 2 * c)) (nI v) (zA1 σ 154 A) = some (aBy co lt fr to_ j (msk (fct w so kn hi (if kn s = 1 then gk else go) prev s t)) k c, zA1 σ 154 A') := by
  have hmono : ∀ c, c < K → F c < F (c + 1) := fun c h => by
    obtain ⟨-, -, -, ⟨dep, bo, hw⟩, -⟩ := hc c h
    exact hw.2.2.2.2.1
  intro k
  induction k with
  | zero =>
    intro c n v beh A e hv hn
    obtain ⟨n, rfl⟩ : ∃ k, n = k + 1 := ⟨n - 1, by have := F_le hmono 0 c e; omega⟩
    refine ⟨A, ?_⟩
    have e : c = K := by omega
    subst e
    show bX0_ask_11 (fX0_ask_11 n) 153 L (nI s) beh (nI 2) (nI (F c + 2 * c)) (nI v) (zA1 σ 154 A) = _
    rw [c_end n L S v (F c + 2 * c) (nI s) beh (zA1 σ 154 A) (by rw [zA1_o hL]; exact hS) hS2 (by omega) (by omega)]
    rfl
  | succ k ih =>
    intro c n v beh A e hv hn
    have hcK : c < K := by omega
    have hle := F_le hmono k (c + 1) (by omega)
    have hlt := hmono c hcK
    obtain ⟨n, rfl⟩ : ∃ k, n = k + 1 := ⟨n - 1, by omega⟩
    obtain ⟨h1, h2, h3, ⟨dep, bo, hw⟩, h5, h6, h7, h8⟩ := hc c hcK
    show ∃ A', bX0_ask_11 (fX0_ask_11 n) 153 L (nI s) beh (nI 2) (nI (F c + 2 * c)) (nI v) (zA1 σ 154 A) = _
    rw [c_enter n L q S (F c + 2 * c) v (F (c + 1) + 2 * c + 2) (nI s) beh (zA1 σ 154 A) (by rw [zA1_o hL]; exact hS) hS2 (by omega) (by omega) hq (by omega) (by rw [zA1_o hq4]; exact h6)]
    have hac : (if lt (12 * j + c) = 99 then 1 else 2) = 1 ∨ (if lt (12 * j + c) = 99 then 1 else 2) = 2 := by
      by_cases q : lt (12 * j + c) = 99
      · rw [if_pos q]; exact Or.inl rfl
      · rw [if_neg q]; exact Or.inr rfl
    obtain ⟨r, A', hr, ha, r1, r0⟩ := c_run hw (c := c) (by omega) hL hq4 hq hS hS2 (by omega) h8 hac h7 H hCr hs hso zFU (F c) [] A n (v + 1) (Nat.le_refl _) (by omega) (by unfold zFU; omega) hw.1.symm (by intro q; rw [hw.2.1] at q; cases q) trivial (by omega) (by omega)
    have hby : aBy co lt fr to_ j (msk (fct w so kn hi (if kn s = 1 then gk else go) prev s t)) (k + 1) c = if r = 1 then (if lt (12 * j + c) = 99 then 1 else 2) else aBy co lt fr to_ j (msk (fct w so kn hi (if kn s = 1 then gk else go) prev s t)) k (c + 1) := by
      show (if aRun _ _ _ (lFr to_ j c) zFU (lFr fr j c) [] = some 1 then _ else _) = _
      rw [lFr_eq h1 (by omega), lFr_eq h2 (by omega), ha]
      by_cases h : r = 1
      · rw [if_pos h, if_pos (by rw [h])]
      · rw [if_neg h, if_neg (fun q => h (Option.some.inj q))]
    rw [hby]
    rw [show ([] : List Int32).length + 2 = 2 from rfl] at r1 r0
    rcases hr with h | h
    · obtain ⟨n', v', q1, q2, q3⟩ := r0 h
      rw [q3, if_neg (show ¬ r = 1 by rw [h]; decide)]
      obtain ⟨A2, q4⟩ := ih (c + 1) n' v' (nI (F (c + 1) + 2 * c + 2)) A' (by omega) (by omega) (by omega)
      exact ⟨A2, by rw [show F (c + 1) + 2 * c + 2 = F (c + 1) + 2 * (c + 1) by omega] at q4 ⊢; exact q4⟩
    · rw [r1 h, if_pos h]
      refine ⟨A', ?_⟩
      by_cases q : lt (12 * j + c) = 99
      · rw [if_pos q, if_pos q]; rfl
      · rw [if_neg q, if_neg q]; rfl
theorem c_ask {co cm lt fr to_ : Nat → Int32} {j : Nat} (hj : j < 4) {σ : zS} {L q : Nat} (hL : ¬ L = 154) (hq4 : ¬ q = 154) (hq : σ.2 L 0 = q) (hl : lawC (σ.1 q) (σ.1 L 1) (σ.1 L 2) co cm lt fr to_ j)
    {Cr w : Nat} {so kn hi : Nat → Int32} {gk go : Int32} {prev : Nat → Int32} {t : Nat} (H : std σ Cr w so kn hi gk go prev t) (hCr : ¬ Cr = 154) {s : Nat} (hs : s < 24) (hso : ¬ so s = -1) :
    ∃ A, fX0_ask 153 L (nI s) σ = some (lawV co cm lt fr to_ (nI j) (fct w so kn hi (if kn s = 1 then gk else go) prev s t), zA1 σ 154 A) := by
  obtain ⟨K, F, hK, hcm, -, hF0, hsz, hS2, hc⟩ := hl
  obtain ⟨A, h⟩ := c_cl hj hK hL hq4 hq hsz rfl hS2 hc H hCr hs hso K 0 zFU 0 0 (σ.1 154) (by omega) (by omega) (by unfold zFU; omega)
  refine ⟨A, ?_⟩
  unfold fX0_ask lawV
  rw [cl_n (by omega), hcm, cl_n (by omega)]
  rw [hF0, zA1_self] at h
  exact h
