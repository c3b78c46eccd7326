/-! ===== an evening played by the reference ===== -/
theorem bitT (x : Int32) {s : Nat} (hs : s < 32) : (x >>> (nI s &&& 31)) &&& 1 = if bt x s = true then 1 else 0 := by
  apply b_ext
  intro i hi
  rw [b_and]
  have h1 : ∀ i, i < 32 → bt 1 i = decide (i = 0) := by decide +kernel
  rw [h1 i hi, b_sshr s hs x hi]
  by_cases i0 : i = 0
  · subst i0
    rw [if_pos (by omega), Nat.add_zero]
    cases bt x s <;> decide
  · rw [decide_eq_false i0, Bool.and_false]
    cases bt x s
    · exact (b_0 i).symm
    · rw [if_pos rfl, h1 i hi, decide_eq_false i0]
def mSame (τ τ' : zS) : Prop := (∀ a, ¬ a = 0 → ¬ a = 18 → ¬ a = 19 → ¬ a = 20 → τ'.1 a = τ.1 a) ∧ (∀ b, ¬ b = 33 → ¬ b = 34 → τ'.1 0 b = τ.1 0 b) ∧ τ'.2 = τ.2
theorem mSame.rf (τ : zS) : mSame τ τ := ⟨fun _ _ _ _ _ => rfl, fun _ _ _ => rfl, rfl⟩
theorem mSame.tr {a b c : zS} (h1 : mSame a b) (h2 : mSame b c) : mSame a c := ⟨fun k q1 q2 q3 q4 => (h2.1 k q1 q2 q3 q4).trans (h1.1 k q1 q2 q3 q4), fun k q1 q2 => (h2.2.1 k q1 q2).trans (h1.2.1 k q1 q2), h2.2.2.trans h1.2.2⟩
theorem mSame.a {τ τ' : zS} {N : Nat} {F : Nat → Int32} (h : mSame τ τ') (hN : N = 18 ∨ N = 19 ∨ N = 20) : mSame τ (zA1 τ' N F) := by
  refine ⟨fun k q1 q2 q3 q4 => ?_, fun k q1 q2 => ?_, h.2.2⟩
  · rw [zA1_o (by omega)]; exact h.1 k q1 q2 q3 q4
  · rw [zA1_o (by omega)]; exact h.2.1 k q1 q2
def mLw (τ : zS) : Int32 → (Nat → Int32) → Int32 := lawV (τ.1 13) (τ.1 14) (τ.1 15) (τ.1 16) (τ.1 17)
/-- the evening as the reference's store tells it, with those hired of its array 21 -/
def mSh (τ : zS) (B : Nat → Bool) : Nat → Nat → Int32 := shw (τ.1 0 0).toNatClampNeg (τ.1 1) (τ.1 2) (τ.1 21) (τ.1 4) (τ.1 5) (τ.1 6) (mLw τ) B
/-- ready to be played -/
def mOK (τ : zS) : Prop := mR τ.2 ∧ (∃ w, 4 ≤ w ∧ w ≤ 8 ∧ τ.1 0 0 = nI w) ∧ (∃ n, 1 ≤ n ∧ n ≤ 40 ∧ τ.1 0 1 = nI n) ∧ (∀ s, s < 24 → τ.1 1 s = -1 ∨ ∃ k, k < 4 ∧ τ.1 1 s = nI k) ∧ (∀ s, s < 24 → ∃ k, k ≤ 2 ∧ τ.1 21 s = nI k) ∧ ∀ j, j < 4 → lawM (τ.1 13) (τ.1 14) (τ.1 15) (τ.1 16) (τ.1 17) j
theorem m_isTaken {σ : zS} (hm : mR σ.2) {s : Nat} (hs : s < 24) : fX7_isTaken 0 (nI s) σ = some (if σ.1 1 s = -1 then 0 else 1, σ) := by
  unfold fX7_isTaken
  rw [bnd_e, mm4 hm, zX_n hs (by omega), cl_n (by omega)]
  split <;> rfl
theorem m_goodFor {σ : zS} (hm : mR σ.2) {s t : Nat} (hs : s < 24) (ht : t < 40) : fX7_goodFor 0 (nI s) (nI t) σ = some (if σ.1 2 s = 1 then σ.1 4 t else σ.1 5 t, σ) := by
  unfold fX7_goodFor
  simp only [bnd_e, mm5 hm, mm7 hm, mm8 hm]
  rw [zX_n hs (by omega), cl_n (by omega), zX_n ht (by omega), zX_n ht (by omega), cl_n (by omega)]
  split <;> rfl
theorem mSh_act (τ : zS) (B : Nat → Bool) (t s : Nat) : mSh τ B t s = act (τ.1 0 0).toNatClampNeg (τ.1 1) (τ.1 2) (τ.1 21) (τ.1 4) (τ.1 5) (τ.1 6) (mLw τ) B (if t = 0 then (fun _ => 0) else mSh τ B (t - 1)) t s := by
  cases t with
  | zero => rfl
  | succ t => rfl
/-- one seat's act is told -/
theorem m_does (k : Nat → Int32 → Int32 → Int32 → Int32 → Int32 → zS → Option (Int32 × zS)) {τ τc : zS} (H : mOK τ) (hS : mSame τ τc) (v1 v2 : Int32) {t s : Nat} (ht : t < 40) (hs : s < 24) (hsh : ∀ t', t' < t → ∀ q, q < 24 → τc.1 20 (24 * t' + q) = mSh τ (bt v1) t' q) (hso : ¬ τ.1 1 s = -1) (hb : ¬ (t = 0 ∧ bt v1 s = true)) :
    ∃ τd, mSame τ τd ∧ τd.1 20 = τc.1 20 ∧ bX7_plays_54 k 0 v1 v2 (nI t) (nI s) τc = k 0 v1 v2 (nI t) (nI s) (mSh τ (bt v1) t s) τd := by
  obtain ⟨hm, ⟨w, hw1, hw2, hw⟩, -, hsort, hhire, hlaw⟩ := H
  have hm' : mR τc.2 := by rw [hS.2.2]; exact hm
  have e1 : τc.1 1 = τ.1 1 := hS.1 1 (by decide) (by decide) (by decide) (by decide)
  have e2 : τc.1 2 = τ.1 2 := hS.1 2 (by decide) (by decide) (by decide) (by decide)
  have e4 : τc.1 4 = τ.1 4 := hS.1 4 (by decide) (by decide) (by decide) (by decide)
  have e5 : τc.1 5 = τ.1 5 := hS.1 5 (by decide) (by decide) (by decide) (by decide)
  have e6 : τc.1 6 = τ.1 6 := hS.1 6 (by decide) (by decide) (by decide) (by decide)
  have e13 : τc.1 13 = τ.1 13 := hS.1 13 (by decide) (by decide) (by decide) (by decide)
  have e14 : τc.1 14 = τ.1 14 := hS.1 14 (by decide) (by decide) (by decide) (by decide)
  have e15 : τc.1 15 = τ.1 15 := hS.1 15 (by decide) (by decide) (by decide) (by decide)
  have e16 : τc.1 16 = τ.1 16 := hS.1 16 (by decide) (by decide) (by decide) (by decide)
  have e17 : τc.1 17 = τ.1 17 := hS.1 17 (by decide) (by decide) (by decide) (by decide)
  have e21 : τc.1 21 = τ.1 21 := hS.1 21 (by decide) (by decide) (by decide) (by decide)
  have e0 : τc.1 0 0 = nI w := by rw [hS.2.1 0 (by decide) (by decide)]; exact hw
  unfold bX7_plays_54
  simp only [bnd_e, mm35 hm', mm32 hm', mm4 hm', mm5 hm', mm9 hm']
  rw [zX_n hs (by omega), cl_n (i := s) (by omega), e21]
  obtain ⟨h, hh, he⟩ := hhire s hs
  rw [mSh_act]
  unfold act
  rw [if_neg hso, if_neg hb]
  by_cases h0 : τ.1 21 s = 0
  · rw [if_pos h0, if_pos h0, m_goodFor hm' hs ht, zb_s, e0]
    have hp : mPrev τc 960 20 0 t (if t = 0 then (fun _ => 0) else mSh τ (bt v1) (t - 1)) := by
      refine ⟨fun q => if_pos q, fun q r hr => ⟨by omega, ?_⟩⟩
      rw [if_neg (by omega), Nat.zero_add]
      exact hsh (t - 1) (by omega) r hr
    obtain ⟨F, hF, hfe⟩ : ∃ F : Nat → Int32, (∀ k, k < 12 → F k = fct (τ.1 0 0).toNatClampNeg (τ.1 1) (τ.1 2) (τ.1 21) (if τ.1 2 s = 1 then τ.1 4 t else τ.1 5 t) (if t = 0 then (fun _ => 0) else mSh τ (bt v1) (t - 1)) s t k) ∧ fX7_feels 960 0 20 (0 : Int32) 1 21 2 (if τc.1 2 s = 1 then τc.1 4 t else τc.1 5 t) (nI w) (nI s) (nI t) τc = some ((), zA1 τc 19 F) := by
      have h := m_feels 960 (by omega) 20 0 1 21 2 w s t (if τc.1 2 s = 1 then τc.1 4 t else τc.1 5 t) _ τc hm' (by decide) (by decide) (by decide) (by decide) hw1 hw2 hs (by omega) hp
      refine ⟨_, fun k hk => ?_, h⟩
      rw [if_pos hk, e1, e2, e4, e5, e21, hw, cl_n (i := w) (by omega)]
    rw [hfe, zb_s]
    simp only [zA1_2, mm4 hm']
    rw [zX_n hs (by omega), zA1_o (by decide), e1]
    obtain ⟨j, hj, hje⟩ := (hsort s hs).resolve_left hso
    rw [hje]
    obtain ⟨A, hA⟩ := m_byLaw (σ := zA1 τc 19 F) hj hm' (by
      rw [zA1_o (by decide), zA1_o (by decide), zA1_o (by decide), zA1_o (by decide), zA1_o (by decide), e13, e14, e15, e16, e17]
      exact hlaw j hj)
    rw [hA, zb_s]
    refine ⟨_, (hS.a (N := 19) (F := F) (Or.inr (Or.inl rfl))).a (N := 18) (F := A) (Or.inl rfl), by rw [zA1_o (by decide), zA1_o (by decide)], ?_⟩
    have hval : lawV ((zA1 τc 19 F).1 13) ((zA1 τc 19 F).1 14) ((zA1 τc 19 F).1 15) ((zA1 τc 19 F).1 16) ((zA1 τc 19 F).1 17) (nI j) ((zA1 τc 19 F).1 19) = mLw τ (nI j) (fct (τ.1 0 0).toNatClampNeg (τ.1 1) (τ.1 2) (τ.1 21) (if τ.1 2 s = 1 then τ.1 4 t else τ.1 5 t) (if t = 0 then fun _ => 0 else mSh τ (bt v1) (t - 1)) s t) := by
      rw [zA1_o (by decide), zA1_o (by decide), zA1_o (by decide), zA1_o (by decide), zA1_o (by decide), zA1_s, e13, e14, e15, e16, e17]
      unfold mLw lawV
      rw [msk_eq hF]
    rw [hval]
  · rw [if_neg h0, if_neg h0]
    rw [zX_n hs (by omega), e6, he]
    have hx : (40 : Int32) * nI h + nI t = nI (40 * h + t) := by
      show nI 40 * nI h + nI t = _
      rw [pk_mul, nI_add]
    rw [hx, zX_n (by omega) (by omega), cl_n (by omega), cl_n (i := h) (by omega)]
    exact ⟨τc, hS, rfl, rfl⟩
/-- how far the evening has been told -/
def mTold (τ τc : zS) (B : Nat → Bool) (t : Nat) : Prop := ∀ t', t' < t → ∀ q, q < 24 → τc.1 20 (24 * t' + q) = mSh τ B t' q
theorem m_plays_15 (k4 : Nat → Int32 → Int32 → Int32 → zS → Option (Int32 × zS)) {τ : zS} (H : mOK τ) (v1 v2 : Int32) {t : Nat} (ht : t < 40) : ∀ (n s : Nat) (τc : zS), s ≤ 24 → 24 < s + n → mSame τ τc → mTold τ τc (bt v1) t → (∀ q, q < s → τc.1 20 (24 * t + q) = mSh τ (bt v1) t q) → ∃ τd, mSame τ τd ∧ mTold τ τd (bt v1) (t + 1) ∧ fX7_plays_15 k4 n 0 v1 v2 (nI t) (nI s) τc = bX7_plays_154 k4 0 v1 v2 (nI t) τd := by
  intro n
  induction n with
  | zero => intro s τc h1 h2; exact absurd h2 (by omega)
  | succ n ih =>
    intro s τc h1 h2 hS hsh hq
    have hm : mR τ.2 := H.1
    have hm' : mR τc.2 := by rw [hS.2.2]; exact hm
    show ∃ τd, mSame τ τd ∧ mTold τ τd (bt v1) (t + 1) ∧ bX7_plays_15 k4 (fX7_plays_15 k4 n) 0 v1 v2 (nI t) (nI s) τc = bX7_plays_154 k4 0 v1 v2 (nI t) τd
    unfold bX7_plays_15
    by_cases hs : s = 24
    · subst hs
      rw [if_pos (by decide)]
      refine ⟨τc, hS, fun t' ht' q hq' => ?_, rfl⟩
      rcases Nat.lt_or_ge t' t with h | h
      · exact hsh t' h q hq'
      · rw [show t' = t by omega]; exact hq q hq'
    · have hs : s < 24 := by omega
      rw [if_neg (geL 24 (24 : Int32) rfl hs (by omega)), m_isTaken hm' hs, zb_s]
      have e1 : τc.1 1 = τ.1 1 := hS.1 1 (by decide) (by decide) (by decide) (by decide)
      rw [e1]
      -- the act is stored, the next seat follows
      have put : ∀ (v : Int32) (τd : zS), v = mSh τ (bt v1) t s → mSame τ τd → τd.1 20 = τc.1 20 → ∃ τe, mSame τ τe ∧ mTold τ τe (bt v1) (t + 1) ∧ bX7_plays_134 (fX7_plays_15 k4 n) 0 v1 v2 (nI t) (nI s) v τd = bX7_plays_154 k4 0 v1 v2 (nI t) τe := by
        intro v τd hv hSd h20
        have hmd : mR τd.2 := by rw [hSd.2.2]; exact hm
        unfold bX7_plays_134
        rw [bnd_e, mm32 hmd]
        have hx : (24 : Int32) * nI t + nI s = nI (24 * t + s) := by
          show nI 24 * nI t + nI s = _
          rw [pk_mul, nI_add]
        rw [hx, zX_n (by omega) (by omega), bnd_e, cl_n (by omega), nI_1, zI_A1]
        refine ih (s + 1) _ (by omega) (by omega) (hSd.a (Or.inr (Or.inr rfl))) (fun t' ht' q hq' => ?_) (fun q hq' => ?_)
        · rw [zA1_s, pk_un (by omega), h20]
          exact hsh t' ht' q hq'
        · rw [zA1_s]
          by_cases hqs : q = s
          · subst hqs; rw [pk_us]; exact hv
          · rw [pk_un (by omega), h20]
            exact hq q (by omega)
      by_cases hso : τ.1 1 s = -1
      · rw [if_pos hso, if_pos rfl]
        exact put 0 τc (by rw [mSh_act]; unfold act; rw [if_pos hso]) hS rfl
      · rw [if_neg hso, if_neg n10]
        have rest : ¬ (t = 0 ∧ bt v1 s = true) → ∃ τe, mSame τ τe ∧ mTold τ τe (bt v1) (t + 1) ∧ bX7_plays_54 (bX7_plays_134 (fX7_plays_15 k4 n)) 0 v1 v2 (nI t) (nI s) τc = bX7_plays_154 k4 0 v1 v2 (nI t) τe := by
          intro hb
          obtain ⟨τd, hSd, h20, hd⟩ := m_does (bX7_plays_134 (fX7_plays_15 k4 n)) H hS v1 v2 ht hs hsh hso hb
          rw [hd]
          exact put _ τd rfl hSd h20
        by_cases ht0 : t = 0
        · subst ht0
          rw [if_pos nI_0, bitT v1 (by omega)]
          by_cases hb : bt v1 s = true
          · rw [if_pos hb, if_pos rfl]
            exact put 1 τc (by rw [mSh_act]; unfold act; rw [if_neg hso, if_pos ⟨rfl, hb⟩]) hS rfl
          · rw [if_neg hb, if_neg (by decide)]
            exact rest (fun q => hb q.2)
        · rw [if_neg (nI_ne0 (by omega) (by omega))]
          exact rest (fun q => ht0 q.1)
theorem m_counts_12 {t : Nat} (ht : t < 40) : ∀ (n s : Nat) (σ : zS) (c h : Nat), mR σ.2 → s ≤ 24 → 24 < s + n → σ.1 0 33 = nI (cn (fun q => decide (σ.1 20 (24 * t + q) = 1)) s) → σ.1 0 34 = nI (cn (fun q => decide (σ.1 20 (24 * t + q) = 2)) s) → ∃ σ', fX7_counts_12 n 0 (nI t) (nI s) σ = some ((), σ') ∧ mSame σ σ' ∧ σ'.1 20 = σ.1 20 ∧ σ'.1 0 33 = nI (cn (fun q => decide (σ.1 20 (24 * t + q) = 1)) 24) ∧ σ'.1 0 34 = nI (cn (fun q => decide (σ.1 20 (24 * t + q) = 2)) 24) := by
  intro n
  induction n with
  | zero => intro s σ _ _ _ h1 h2; exact absurd h2 (by omega)
  | succ n ih =>
    intro s σ cc hh hm h1 h2 hc hh2
    show ∃ σ', bX7_counts_12 (fX7_counts_12 n) 0 (nI t) (nI s) σ = some ((), σ') ∧ _
    unfold bX7_counts_12
    by_cases hs : s = 24
    · subst hs
      rw [if_pos (by decide)]
      exact ⟨σ, rfl, mSame.rf σ, rfl, hc, hh2⟩
    · have hs : s < 24 := by omega
      rw [if_neg (geL 24 (24 : Int32) rfl hs (by omega)), bnd_e, mm32 hm]
      have hx : (24 : Int32) * nI t + nI s = nI (24 * t + s) := by
        show nI 24 * nI t + nI s = _
        rw [pk_mul, nI_add]
      rw [hx, zX_n (by omega) (by omega), cl_n (by omega), hc]
      have key : ∀ (p : Nat → Bool), nI (cn p s) + (if p s = true then 1 else 0) = nI (cn p (s + 1)) := by
        intro p
        show _ = nI (cn p s + (if p s = true then 1 else 0))
        split
        · exact nI_1 _
        · rw [Nat.add_zero, Int32.add_zero]
      have body : ∀ a b : Int32, nI (cn (fun q => decide (σ.1 20 (24 * t + q) = 1)) s) + a = nI (cn (fun q => decide (σ.1 20 (24 * t + q) = 1)) (s + 1)) → nI (cn (fun q => decide (σ.1 20 (24 * t + q) = 2)) s) + b = nI (cn (fun q => decide (σ.1 20 (24 * t + q) = 2)) (s + 1)) → ∃ σ', bX7_counts_72 (fX7_counts_12 n) 0 (nI t) (nI s) 0 (σ.1 0 34) b (zI σ 0 33 (nI (cn (fun q => decide (σ.1 20 (24 * t + q) = 1)) s) + a)) = some ((), σ') ∧ mSame σ σ' ∧ σ'.1 20 = σ.1 20 ∧ σ'.1 0 33 = nI (cn (fun q => decide (σ.1 20 (24 * t + q) = 1)) 24) ∧ σ'.1 0 34 = nI (cn (fun q => decide (σ.1 20 (24 * t + q) = 2)) 24) := by
        intro a b ha hb
        unfold bX7_counts_72
        rw [bnd_e, hh2, ha, hb, nI_1]
        generalize hg : zI (zI σ 0 33 (nI (cn (fun q => decide (σ.1 20 (24 * t + q) = 1)) (s + 1)))) 0 34 (nI (cn (fun q => decide (σ.1 20 (24 * t + q) = 2)) (s + 1))) = σ2
        have g20 : σ2.1 20 = σ.1 20 := by rw [← hg, zI_ne (by decide), zI_ne (by decide)]
        have gs : mSame σ σ2 := by
          rw [← hg]
          refine ⟨fun k q1 q2 q3 q4 => by rw [zI_ne q1, zI_ne q1], fun k q1 q2 => by rw [zI_o (fun q => q2 q.2), zI_o (fun q => q1 q.2)], rfl⟩
        have g33 : σ2.1 0 33 = nI (cn (fun q => decide (σ2.1 20 (24 * t + q) = 1)) (s + 1)) := by rw [g20, ← hg, zI_o (by decide), zI_s]
        have g34 : σ2.1 0 34 = nI (cn (fun q => decide (σ2.1 20 (24 * t + q) = 2)) (s + 1)) := by rw [g20, ← hg, zI_s]
        obtain ⟨σ', q1, q2, q3, q4, q5⟩ := ih (s + 1) σ2 cc hh (by rw [← hg]; exact hm) (by omega) (by omega) g33 g34
        rw [g20] at q3 q4 q5
        exact ⟨σ', q1, gs.tr q2, q3, q4, q5⟩
      have c43 : ∀ a : Int32, bX7_counts_43 (fX7_counts_12 n) 0 (nI t) (nI s) 0 (nI (cn (fun q => decide (σ.1 20 (24 * t + q) = 1)) s)) a σ = bX7_counts_72 (fX7_counts_12 n) 0 (nI t) (nI s) 0 (σ.1 0 34) (if σ.1 20 (24 * t + s) = 2 then 1 else 0) (zI σ 0 33 (nI (cn (fun q => decide (σ.1 20 (24 * t + q) = 1)) s) + a)) := by
        intro a
        unfold bX7_counts_43
        simp only [bnd_e]
        rw [show (zI σ 0 33 (nI (cn (fun q => decide (σ.1 20 (24 * t + q) = 1)) s) + a)).2 0 32 = 20 from mm32 hm, hx, zX_n (by omega) (by omega), cl_n (by omega), zI_ne (by decide), zI_o (by decide)]
        split <;> rfl
      rw [c43, c43]
      have kb := key (fun q => decide (σ.1 20 (24 * t + q) = 2))
      have ka := key (fun q => decide (σ.1 20 (24 * t + q) = 1))
      simp only [decide_eq_true_eq] at ka kb
      by_cases h1 : σ.1 20 (24 * t + s) = 1
      · rw [if_pos h1]
        rw [if_pos h1] at ka
        exact body 1 _ ka kb
      · rw [if_neg h1]
        rw [if_neg h1] at ka
        exact body 0 _ ka kb
theorem m_counts {t : Nat} (ht : t < 40) {σ : zS} (hm : mR σ.2) : ∃ σ', fX7_counts 0 (nI t) σ = some ((), σ') ∧ mSame σ σ' ∧ σ'.1 20 = σ.1 20 ∧ σ'.1 0 33 = nI (cn (fun q => decide (σ.1 20 (24 * t + q) = 1)) 24) ∧ σ'.1 0 34 = nI (cn (fun q => decide (σ.1 20 (24 * t + q) = 2)) 24) := by
  unfold fX7_counts
  simp only [bnd_e]
  generalize hg : zI (zI σ 0 33 0) 0 34 0 = σ2
  have g20 : σ2.1 20 = σ.1 20 := by rw [← hg, zI_ne (by decide), zI_ne (by decide)]
  have gs : mSame σ σ2 := by
    rw [← hg]
    refine ⟨fun k q1 q2 q3 q4 => by rw [zI_ne q1, zI_ne q1], fun k q1 q2 => by rw [zI_o (fun q => q2 q.2), zI_o (fun q => q1 q.2)], rfl⟩
  obtain ⟨σ', q1, q2, q3, q4, q5⟩ := m_counts_12 ht zFU 0 σ2 0 0 (by rw [← hg]; exact hm) (by omega) (by unfold zFU; omega) (by rw [← hg, zI_o (by decide), zI_s]; rfl) (by rw [← hg, zI_s]; rfl)
  rw [g20] at q3 q4 q5
  exact ⟨σ', q1, gs.tr q2, q3, q4, q5⟩
theorem mSh_same {τ τ' : zS} (h : mSame τ τ') (B : Nat → Bool) : mSh τ' B = mSh τ B := by
  unfold mSh mLw
  rw [h.1 1 (by decide) (by decide) (by decide) (by decide), h.1 2 (by decide) (by decide) (by decide) (by decide), h.1 21 (by decide) (by decide) (by decide) (by decide), h.1 4 (by decide) (by decide) (by decide) (by decide), h.1 5 (by decide) (by decide) (by decide) (by decide), h.1 6 (by decide) (by decide) (by decide) (by decide), h.1 13 (by decide) (by decide) (by decide) (by decide), h.1 14 (by decide) (by decide) (by decide) (by decide), h.1 15 (by decide) (by decide) (by decide) (by decide), h.1 16 (by decide) (by decide) (by decide) (by decide), h.1 17 (by decide) (by decide) (by decide) (by decide), h.2.1 0 (by decide) (by decide)]
theorem m_plays_4 {τ : zS} (H : mOK τ) (v1 : Int32) {N : Nat} (hN1 : 1 ≤ N) (hN2 : N ≤ 40) (hN : τ.1 0 1 = nI N) : ∀ (n t : Nat) (τc : zS), t ≤ N → N < t + n → mSame τ τc → mTold τ τc (bt v1) t → ∃ τd, mSame τ τd ∧ mTold τ τd (bt v1) N ∧ fX7_plays_4 n 0 v1 (loudN (mSh τ (bt v1)) t) (nI t) τc = some (loudN (mSh τ (bt v1)) N, τd) := by
  intro n
  induction n with
  | zero => intro t τc h1 h2; exact absurd h2 (by omega)
  | succ n ih =>
    intro t τc h1 h2 hS hsh
    show ∃ τd, mSame τ τd ∧ mTold τ τd (bt v1) N ∧ bX7_plays_4 (fX7_plays_4 n) 0 v1 (loudN (mSh τ (bt v1)) t) (nI t) τc = _
    unfold bX7_plays_4
    rw [hS.2.1 1 (by decide) (by decide), hN]
    by_cases htN : t = N
    · subst htN
      rw [if_pos (nI_le (Nat.le_refl _) (by omega))]
      exact ⟨τc, hS, hsh, rfl⟩
    · rw [if_neg (nI_ge (by omega) (by omega))]
      obtain ⟨τd, hSd, hTd, hd⟩ := m_plays_15 (fX7_plays_4 n) H v1 (loudN (mSh τ (bt v1)) t) (t := t) (by omega) zFU 0 τc (by omega) (by unfold zFU; omega) hS hsh (fun q hq => absurd hq (by omega))
      rw [show (0 : Int32) = nI 0 from rfl, hd]
      unfold bX7_plays_154
      obtain ⟨τe, he, hSe, h20, h33, h34⟩ := m_counts (t := t) (by omega) (σ := τd) (by rw [hSd.2.2]; exact H.1)
      rw [he, zb_s, bnd_e, h33, h34, nI_1]
      have hc1 : cn (fun q => decide (τd.1 20 (24 * t + q) = 1)) 24 = cn (fun q => decide (mSh τ (bt v1) t q = 1)) 24 := cn_cong (fun q hq => by rw [hTd t (by omega) q hq])
      have hc2 : cn (fun q => decide (τd.1 20 (24 * t + q) = 2)) 24 = cn (fun q => decide (mSh τ (bt v1) t q = 2)) 24 := cn_cong (fun q hq => by rw [hTd t (by omega) q hq])
      rw [hc1, hc2]
      exact ih (t + 1) τe (by omega) (by omega) (hSd.tr hSe) (fun t' ht' q hq => by rw [h20]; exact hTd t' ht' q hq)
/-- plays: the whole evening, and THE HOUSE -/
theorem m_plays {τ : zS} (H : mOK τ) (v1 : Int32) {N : Nat} (hN1 : 1 ≤ N) (hN2 : N ≤ 40) (hN : τ.1 0 1 = nI N) : ∃ τd, mSame τ τd ∧ mTold τ τd (bt v1) N ∧ fX7_plays 0 v1 τ = some (loudN (mSh τ (bt v1)) N, τd) := by
  unfold fX7_plays
  exact m_plays_4 H v1 hN1 hN2 hN zFU 0 τ (Nat.zero_le _) (by unfold zFU; omega) (mSame.rf τ) (fun t' ht' => absurd ht' (by omega))
