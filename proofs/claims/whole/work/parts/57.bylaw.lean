/-! ===== laws, as the reference holds them ===== -/
def lOp (co : Nat → Int32) (j i : Nat) : Nat := (co (140 * j + i)).toNatClampNeg / 1048576
def lVl (co : Nat → Int32) (j i : Nat) : Nat := (co (140 * j + i)).toNatClampNeg % 1048576
def lFr (fr : Nat → Int32) (j c : Nat) : Nat := (fr (12 * j + c)).toNatClampNeg - 140 * j
/-- the clauses of sort j from c on, n of them at most -/
def aBy (co lt fr to_ : Nat → Int32) (j : Nat) (φ : Nat → Int32) : Nat → Nat → Int32
  | 0, _ => 0
  | n + 1, c => if aRun (lOp co j) (lVl co j) φ (lFr to_ j c) zFU (lFr fr j c) [] = some 1 then (if lt (12 * j + c) = 99 then 1 else 2) else aBy co lt fr to_ j φ n (c + 1)
/-- a law asked, by its sort and the letters -/
def lawV (co cm lt fr to_ : Nat → Int32) (so : Int32) (φ : Nat → Int32) : Int32 := aBy co lt fr to_ so.toNatClampNeg (msk φ) (cm so.toNatClampNeg).toNatClampNeg 0
/-- sort j's law is well made -/
def lawM (co cm lt fr to_ : Nat → Int32) (j : Nat) : Prop := ∃ K : Nat, K ≤ 12 ∧ cm j = nI K ∧ ∀ c, c < K → (∃ (F T : Nat), fr (12 * j + c) = nI (140 * j + F) ∧ to_ (12 * j + c) = nI (140 * j + T) ∧ (lt (12 * j + c) = 99 ∨ lt (12 * j + c) = 104) ∧ (∃ dep bo, wf (lOp co j) (lVl co j) F T dep bo) ∧ ∀ i, F ≤ i → i < T → co (140 * j + i) = nI (1048576 * lOp co j i + lVl co j i))
theorem m_isTrue {σ : zS} (hm : mR σ.2) {j c K F T : Nat} (hj : j < 4) (hc : c < 12) (hf : σ.1 16 (12 * j + c) = nI (140 * j + F)) (ht : σ.1 17 (12 * j + c) = nI (140 * j + T)) {dep : Nat → Nat} {bo : Nat → Bool} (hw : wf (lOp (σ.1 13) j) (lVl (σ.1 13) j) F T dep bo) (hco : ∀ i, F ≤ i → i < T → σ.1 13 (140 * j + i) = nI (1048576 * lOp (σ.1 13) j i + lVl (σ.1 13) j i)) :
    ∃ (r : Int32) (A : Nat → Int32), (r = 0 ∨ r = 1) ∧ aRun (lOp (σ.1 13) j) (lVl (σ.1 13) j) (msk (σ.1 19)) T zFU F [] = some r ∧ fX7_isTrue 0 (nI (12 * j + c)) σ = some (r, zA1 σ 18 A) := by
  have hx : 12 * j + c < 48 := by omega
  have hT : T ≤ 124 := hw.2.2.2.2.2.1
  have hFT : F < T := hw.2.2.2.2.1
  obtain ⟨r, A, h1, h2, h3⟩ := m_true hw hm (x := 12 * j + c) (base := 140 * j) hx (by omega) ht hco zFU F [] (σ.1 18) (Nat.le_refl _) (Nat.le_of_lt hFT) (by unfold zFU; omega) hw.1.symm (by intro h; rw [hw.2.1] at h; cases h) trivial
  refine ⟨r, A, h1, h2, ?_⟩
  unfold fX7_isTrue
  simp only [bnd_e, mm28 hm]
  rw [zX_n hx (by omega), cl_n (by omega), hf]
  have e : (140 : Int32) * (nI (12 * j + c) / (12 : Int32)) = nI (140 * j) := by
    show nI 140 * (nI (12 * j + c) / nI 12) = _
    rw [pk_div (by omega) (by omega) (by omega), pk_mul]
    congr 1
    omega
  rw [e]
  rw [zA1_self] at h3
  exact h3
theorem lFr_eq {fr : Nat → Int32} {j c F : Nat} (h : fr (12 * j + c) = nI (140 * j + F)) (hb : 140 * j + F < 2 ^ 31) : lFr fr j c = F := by
  unfold lFr
  rw [h, cl_n hb]
  omega
/-- the same law over a store whose stack was used -/
theorem m_byLaw_5 {j K : Nat} (hj : j < 4) (hK : K ≤ 12) : ∀ (n c : Nat) (σ : zS), mR σ.2 → lawM (σ.1 13) (σ.1 14) (σ.1 15) (σ.1 16) (σ.1 17) j → σ.1 14 j = nI K → c ≤ K → K < c + n → ∃ A, fX7_byLaw_5 n 0 (nI j) (nI (12 * j + c)) σ = some (aBy (σ.1 13) (σ.1 15) (σ.1 16) (σ.1 17) j (msk (σ.1 19)) (K - c) c, zA1 σ 18 A) := by
  intro n
  induction n with
  | zero => intro c σ _ _ _ h1 h2; exact absurd h2 (by omega)
  | succ n ih =>
    intro c σ hm hl hcm h1 h2
    show ∃ A, bX7_byLaw_5 (fX7_byLaw_5 n) 0 (nI j) (nI (12 * j + c)) σ = _
    unfold bX7_byLaw_5
    simp only [bnd_e, mm26 hm]
    have e : (12 : Int32) * nI j + nI K = nI (12 * j + K) := by
      show nI 12 * nI j + nI K = _
      rw [pk_mul, nI_add]
    rw [zX_n hj (by omega), cl_n (by omega), hcm, e]
    by_cases hcK : c = K
    · subst hcK
      rw [if_pos (nI_le (by omega) (by omega)), Nat.sub_self]
      exact ⟨σ.1 18, by rw [zA1_self]; rfl⟩
    · have hc : c < K := by omega
      rw [if_neg (nI_ge (by omega) (by omega))]
      obtain ⟨K2, hK2, hcm2, hcl⟩ := id hl
      have : K2 = K := (nI_eq (by omega) (by omega)).mp (hcm2.symm.trans hcm)
      subst this
      obtain ⟨F, T, hf, ht, hlt, ⟨dep, bo, hw⟩, hco⟩ := hcl c hc
      obtain ⟨r, A, hr, ha, hi⟩ := m_isTrue hm hj (by omega) hf ht hw hco (K := K2)
      have hT : T ≤ 124 := hw.2.2.2.2.2.1
      have hFT : F < T := hw.2.2.2.2.1
      have hby : aBy (σ.1 13) (σ.1 15) (σ.1 16) (σ.1 17) j (msk (σ.1 19)) (K2 - c) c = if r = 1 then (if σ.1 15 (12 * j + c) = 99 then 1 else 2) else aBy (σ.1 13) (σ.1 15) (σ.1 16) (σ.1 17) j (msk (σ.1 19)) (K2 - (c + 1)) (c + 1) := by
        rw [show K2 - c = (K2 - (c + 1)) + 1 by omega]
        show (if aRun _ _ _ (lFr (σ.1 17) j c) zFU (lFr (σ.1 16) j c) [] = some 1 then _ else _) = _
        rw [lFr_eq hf (by omega), lFr_eq ht (by omega), ha]
        by_cases h : r = 1
        · rw [if_pos h, if_pos (by rw [h])]
        · rw [if_neg h, if_neg (fun q => h (Option.some.inj q))]
      rw [hi, zb_s, hby]
      rcases hr with rfl | rfl
      · rw [if_pos rfl, if_neg (by decide)]
        obtain ⟨A2, h3⟩ := ih (c + 1) (zA1 σ 18 A) hm hl hcm (by omega) (by omega)
        rw [show nI (12 * j + c) + 1 = nI (12 * j + (c + 1)) from nI_1 _, h3]
        exact ⟨A2, by rw [zA1_A1]; rfl⟩
      · rw [if_neg n10, if_pos rfl]
        unfold bX7_byLaw_28
        simp only [bnd_e, zA1_2, mm27 hm]
        rw [zX_n (by omega) (by omega), cl_n (by omega), zA1_o (by decide)]
        refine ⟨A, ?_⟩
        split <;> rfl
theorem m_byLaw {j : Nat} (hj : j < 4) {σ : zS} (hm : mR σ.2) (hl : lawM (σ.1 13) (σ.1 14) (σ.1 15) (σ.1 16) (σ.1 17) j) : ∃ A, fX7_byLaw 0 (nI j) σ = some (lawV (σ.1 13) (σ.1 14) (σ.1 15) (σ.1 16) (σ.1 17) (nI j) (σ.1 19), zA1 σ 18 A) := by
  obtain ⟨K, hK, hcm, -⟩ := id hl
  obtain ⟨A, h⟩ := m_byLaw_5 hj hK zFU 0 σ hm hl hcm (Nat.zero_le _) (by unfold zFU; omega)
  refine ⟨A, ?_⟩
  unfold fX7_byLaw lawV
  rw [bnd_e, cl_n (by omega), hcm, cl_n (by omega), show (12 : Int32) * nI j = nI (12 * j + 0) from pk_mul 12 j, h, Nat.sub_zero]
