theorem bt_0 : bt 0 = noB := by funext i; exact b_0 i
theorem core_N {σ τ : zS} (h : core σ τ) : ∃ N, 1 ≤ N ∧ N ≤ 40 ∧ σ.1 2 0 = nI N ∧ τ.1 0 1 = nI N := h.2.2.2.2.1.1
theorem core_w {σ τ : zS} (h : core σ τ) : ∃ w, 4 ≤ w ∧ w ≤ 8 ∧ τ.1 0 0 = nI w ∧ σ.1 5 0 = nI w := h.2.2.2.1.1
theorem core_pa {σ τ : zS} (h : core σ τ) {q : Nat} (hq : q < 24) : (τ.1 3 q = 0 ∨ τ.1 3 q = 1 ∨ τ.1 3 q = 2) ∧ (τ.1 1 q = -1 → τ.1 3 q = 0) := cr_pa h.2.2.2.1 hq
theorem m_told_2 {σ τ : zS} (h : core σ τ) {N : Nat} (hN2 : N ≤ 40) (hN : τ.1 0 1 = nI N) : ∀ (n s : Nat) (τ' : zS), s ≤ 24 → 24 < s + n → mS τ τ' → (∀ q, q < s → τ'.1 21 q = τ.1 3 q) → ∃ τd, mS τ τd ∧ (∀ t, t < N → ∀ q, q < 24 → τd.1 20 (24 * t + q) = mE τ (τ.1 3) noB t q) ∧ fX7_playsAsTold_2 n 0 (nI s) τ' = some (loudN (mE τ (τ.1 3) noB) N, τd) := by
  intro n
  induction n with
  | zero => intro s τ' a b; exact absurd b (by omega)
  | succ n ih =>
    intro s τ' a b hm hq
    show ∃ τd, mS τ τd ∧ _ ∧ bX7_playsAsTold_2 (fX7_playsAsTold_2 n) 0 (nI s) τ' = _
    unfold bX7_playsAsTold_2
    have hm3 : mR τ'.2 := by rw [hm.2.2]; exact h.2.2.1
    by_cases hs : s = 24
    · subst hs
      rw [if_pos (by decide)]
      unfold bX7_playsAsTold_26
      obtain ⟨τd, q1, q2, q3, q4, q5⟩ := m_with h hm (H := τ.1 3) hq (fun q hq => (core_pa h hq).1) hN2 hN 0
      rw [q5, zb_s]
      rw [bt_0] at q4 ⊢
      exact ⟨τd, q1, q4, rfl⟩
    · have hs : s < 24 := by omega
      rw [if_neg (geL 24 (24 : Int32) rfl hs (by omega)), bnd_e, mm35 hm3, bnd_e, mm6 hm3, zX_n hs (by omega), zX_n hs (by omega), bnd_e, cl_n (by omega), nI_1]
      refine ih (s + 1) _ (by omega) (by omega) (hm.i2 (by omega)) (fun q hq' => ?_) 
      by_cases e : q = s
      · subst e; rw [zI_s, hm.1 3 (by omega)]
      · rw [zI_o (by omega)]; exact hq q (by omega)
/-- the reference plays the evening as told -/
theorem m_told {σ τ : zS} (h : core σ τ) {N : Nat} (hN2 : N ≤ 40) (hN : τ.1 0 1 = nI N) : ∃ τd, mS τ τd ∧ (∀ t, t < N → ∀ q, q < 24 → τd.1 20 (24 * t + q) = mE τ (τ.1 3) noB t q) ∧ fX7_playsAsTold 0 τ = some (loudN (mE τ (τ.1 3) noB) N, τd) := by
  exact m_told_2 h hN2 hN zFU 0 τ (by omega) (by unfold zFU; omega) (mS.rf τ) (fun q hq => absurd hq (by omega))
/-- those paid, but for one stick -/
def hWo (k : Int32) (pa : Nat → Int32) : Nat → Int32 := fun q => if pa q = k then 0 else pa q
theorem m_wo_2 {σ τ : zS} (h : core σ τ) {N : Nat} (hN2 : N ≤ 40) (hN : τ.1 0 1 = nI N) (k : Int32) : ∀ (n s : Nat) (τ' : zS), s ≤ 24 → 24 < s + n → mS τ τ' → (∀ q, q < s → τ'.1 21 q = hWo k (τ.1 3) q) → ∃ τd, mS τ τd ∧ fX7_playsWithout_2 n 0 k (nI s) τ' = some (loudN (mE τ (hWo k (τ.1 3)) noB) N, τd) := by
  intro n
  induction n with
  | zero => intro s τ' a b; exact absurd b (by omega)
  | succ n ih =>
    intro s τ' a b hm hq
    show ∃ τd, mS τ τd ∧ bX7_playsWithout_2 (fX7_playsWithout_2 n) 0 k (nI s) τ' = _
    unfold bX7_playsWithout_2
    have hm3 : mR τ'.2 := by rw [hm.2.2]; exact h.2.2.1
    by_cases hs : s = 24
    · subst hs
      rw [if_pos (by decide)]
      unfold bX7_playsWithout_40
      obtain ⟨τd, q1, q2, q3, q4, q5⟩ := m_with h hm (H := hWo k (τ.1 3)) hq (fun q hq => by
        unfold hWo
        by_cases e : τ.1 3 q = k
        · rw [if_pos e]; exact Or.inl rfl
        · rw [if_neg e]; exact (core_pa h hq).1) hN2 hN 0
      rw [q5, zb_s]
      rw [bt_0]
      exact ⟨τd, q1, rfl⟩
    · have hs : s < 24 := by omega
      rw [if_neg (geL 24 (24 : Int32) rfl hs (by omega)), bnd_e, mm35 hm3, bnd_e, mm6 hm3, zX_n hs (by omega), cl_n (by omega), bnd_e, zX_n hs (by omega)]
      unfold bX7_playsWithout_33
      have go : ∀ v, v = hWo k (τ.1 3) s → ∃ τd, mS τ τd ∧ (zX (nI s) 24 (bnd (zI τ' 21 (nI s).toNatClampNeg v) (fun σ4 => fX7_playsWithout_2 n 0 k (nI s + 1) σ4))) = some (loudN (mE τ (hWo k (τ.1 3)) noB) N, τd) := by
        intro v hv
        rw [zX_n hs (by omega), bnd_e, cl_n (by omega), nI_1]
        refine ih (s + 1) _ (by omega) (by omega) (hm.i2 (by omega)) (fun q hq' => ?_)
        by_cases e : q = s
        · subst e; rw [zI_s]; exact hv
        · rw [zI_o (by omega)]; exact hq q (by omega)
      rw [hm.1 3 (by omega)]
      by_cases e : τ.1 3 s = k
      · rw [if_pos e]; exact go 0 (by unfold hWo; rw [if_pos e])
      · rw [if_neg e]; exact go _ (by unfold hWo; rw [if_neg e])
theorem m_without {σ τ : zS} (h : core σ τ) {N : Nat} (hN2 : N ≤ 40) (hN : τ.1 0 1 = nI N) (k : Int32) : ∃ τd, mS τ τd ∧ fX7_playsWithout 0 k τ = some (loudN (mE τ (hWo k (τ.1 3)) noB) N, τd) :=
  m_wo_2 h hN2 hN k zFU 0 τ (by omega) (by unfold zFU; omega) (mS.rf τ) (fun q hq => absurd hq (by omega))
theorem m_nobody_2 {τ : zS} (h : mR τ.2) : ∀ (n s : Nat) (τ' : zS), s ≤ 24 → 24 < s + n → mS τ τ' → (∀ b, τ'.1 0 b = τ.1 0 b) → (∀ q, q < s → τ'.1 21 q = 0) → ∃ τd, mS τ τd ∧ (∀ b, τd.1 0 b = τ.1 0 b) ∧ (∀ q, q < 24 → τd.1 21 q = 0) ∧ fX7_nobody_2 n 0 (nI s) τ' = some ((), τd) := by
  intro n
  induction n with
  | zero => intro s τ' a b; exact absurd b (by omega)
  | succ n ih =>
    intro s τ' a b hm h0 hq
    show ∃ τd, mS τ τd ∧ _ ∧ _ ∧ bX7_nobody_2 (fX7_nobody_2 n) 0 (nI s) τ' = _
    unfold bX7_nobody_2
    have hm3 : mR τ'.2 := by rw [hm.2.2]; exact h
    by_cases hs : s = 24
    · subst hs
      rw [if_pos (by decide)]
      exact ⟨τ', hm, h0, hq, rfl⟩
    · have hs : s < 24 := by omega
      rw [if_neg (geL 24 (24 : Int32) rfl hs (by omega)), bnd_e, mm35 hm3, zX_n hs (by omega), bnd_e, cl_n (by omega), nI_1]
      refine ih (s + 1) _ (by omega) (by omega) (hm.i2 (by omega)) (fun b => by rw [zI_ne (by omega)]; exact h0 b) (fun q hq' => ?_)
      by_cases e : q = s
      · subst e; rw [zI_s]
      · rw [zI_o (by omega)]; exact hq q (by omega)
theorem m_nobody {τ : zS} (h : mR τ.2) : ∃ τd, mS τ τd ∧ (∀ b, τd.1 0 b = τ.1 0 b) ∧ (∀ q, q < 24 → τd.1 21 q = 0) ∧ fX7_nobody 0 τ = some ((), τd) :=
  m_nobody_2 h zFU 0 τ (by omega) (by unfold zFU; omega) (mS.rf τ) (fun _ => rfl) (fun q hq => absurd hq (by omega))
theorem m_persons_4 {τ : zS} (h : mR τ.2) : ∀ (n s : Nat), s ≤ 24 → 24 < s + n → fX7_persons_4 n 0 (nI (cn (fun q => decide (¬ τ.1 1 q = -1)) s)) (nI s) τ = some (nI (cn (fun q => decide (¬ τ.1 1 q = -1)) 24), τ) := by
  intro n
  induction n with
  | zero => intro s a b; exact absurd b (by omega)
  | succ n ih =>
    intro s a b
    show bX7_persons_4 (fX7_persons_4 n) 0 (nI (cn (fun q => decide (¬ τ.1 1 q = -1)) s)) (nI s) τ = _
    unfold bX7_persons_4
    by_cases hs : s = 24
    · subst hs
      rw [if_pos (by decide)]
    · have hs : s < 24 := by omega
      rw [if_neg (geL 24 (24 : Int32) rfl hs (by omega)), m_isTaken h hs, zb_s]
      unfold bX7_persons_24
      rw [nI_1, ← ih (s + 1) (by omega) (by omega)]
      have e : cn (fun q => decide (¬ τ.1 1 q = -1)) (s + 1) = cn (fun q => decide (¬ τ.1 1 q = -1)) s + (if decide (¬ τ.1 1 s = -1) = true then 1 else 0) := rfl
      rw [e]
      by_cases c : τ.1 1 s = -1
      · rw [if_pos c, if_pos rfl, bnd_e, if_neg (by rw [c]; decide), Int32.add_zero, Nat.add_zero (cn _ s)]
      · rw [if_neg c, if_neg n10, bnd_e, if_pos (by rw [decide_eq_true c]), nI_1]
theorem m_persons {τ : zS} (h : mR τ.2) : fX7_persons 0 τ = some (nI (cn (fun q => decide (¬ τ.1 1 q = -1)) 24), τ) := m_persons_4 h zFU 0 (by omega) (by unfold zFU; omega)
/-! ===== the class plays the evening now ===== -/
theorem core_play {σ τ : zS} (h : core σ τ) {N : Nat} (hN1 : 1 ≤ N) (hN2 : N ≤ 40) (hN : τ.1 0 1 = nI N) {σ1 : zS} (hc : cS σ σ1) (hca : cCa σ1) {E Cr Cl Hi : Nat} (hE : evn E Cr Cl Hi) {H : Nat → Int32} (hcr : pCrowd (σ1.1 Cr) (τ.1 0 0) (τ.1 1) (τ.1 2) H) (v : Int32) {B : Nat → Bool} (hB : bs v B) (hB2 : ∀ q, q < 24 → B q = true → ¬ τ.1 1 q = -1) :
    ∃ σ', fX6_play 0 E v σ1 = some ((), σ') ∧ cSm (XE E Cl Hi) σ1 σ' ∧ cCa σ' ∧ evB (mE τ H B) N (σ'.1 Cl) (σ'.1 Hi) ∧ σ'.1 E 4 = loudN (mE τ H B) N := by
  obtain ⟨w, w1, w2, w3, w4⟩ := core_w h
  have hco := core_s h hc (mS.rf τ)
  obtain ⟨k1, -, -, -, ⟨⟨n, n1, n2, n3, n4⟩, k5⟩, k6, -, -, -, k10, -⟩ := hco
  have : n = N := (nI_eq (by omega) (by omega)).mp (n4.symm.trans hN)
  subst this
  rw [w3] at hcr
  obtain ⟨σ', q1, q2, q3, q4, q5⟩ := c_play (co := τ.1 13) (cm := τ.1 14) (lt := τ.1 15) (fr := τ.1 16) (to_ := τ.1 17) k1 k10 hE hcr w1 w2 (gk := τ.1 4) (go := τ.1 5) k5 k6 hN1 hN2 n3 hca v B hB hB2
  have e : shw w (τ.1 1) (τ.1 2) H (τ.1 4) (τ.1 5) (τ.1 6) (lawV (τ.1 13) (τ.1 14) (τ.1 15) (τ.1 16) (τ.1 17)) B = mE τ H B := by
    unfold mE mLw
    rw [w3, cl_n (by omega)]
  rw [e] at q4 q5
  exact ⟨σ', q1, q2, q3, q4, q5⟩
theorem bs_no : bs 0 noB := bs_0
/-- played: the evening now -/
theorem c_played {σ τ : zS} (h : Rel σ τ) {N : Nat} (hN1 : 1 ≤ N) (hN2 : N ≤ 40) (hN : τ.1 0 1 = nI N) : ∃ σ', fX6_played 0 σ = some (1, σ') ∧ cS σ σ' ∧ Rel σ' τ ∧ σ'.1 0 2 = 0 ∧ evB (mE τ (τ.1 3) noB) N (σ'.1 6) (σ'.1 7) ∧ σ'.1 1 4 = loudN (mE τ (τ.1 3) noB) N := by
  obtain ⟨hco, hca, hfr⟩ := id h
  have hR : cR σ.2 := hco.1
  have hcl : (τ.1 0 1).toNatClampNeg = N := by rw [hN, cl_n (by omega)]
  unfold fX6_played
  rw [bnd_e, cr_ hR 0 0 1 rfl (by decide)]
  rcases hfr with h0 | ⟨h0, h1, h2⟩
  · rw [if_neg (by rw [h0]; decide), bnd_e]
    obtain ⟨σ', q1, q2, q3, q4, q5⟩ := core_play hco hN1 hN2 hN (cS.rf σ) hca (E := 1) (Cr := 5) (Cl := 6) (Hi := 7) (Or.inl ⟨rfl, rfl, rfl, rfl⟩) (H := τ.1 3) hco.2.2.2.1 0 bs_no (fun q _ hb => by cases hb)
    have hR' : cR σ'.2 := q2.R hR
    rw [q1, zb_s, bnd_e, bnd_e, zI_2, cr_ hR' 0 0 1 rfl (by decide)]
    have hS : cS σ (zI σ' 0 2 0) := by
      refine ⟨(q2.up (fun k q => XE_f (by have := of_decide_eq_false q; omega))).i (decide_eq_true (Or.inl rfl)), fun b hb => ?_⟩
      rw [zI_o (fun q => hb q.2), q2.1 0 (XE_f (by omega))]
    have e0 : (zI σ' 0 2 0).1 0 2 = 0 := zI_s
    have e6 : evB (mE τ (τ.1 3) noB) N ((zI σ' 0 2 0).1 6) ((zI σ' 0 2 0).1 7) := by rw [zI_ne (by decide), zI_ne (by decide)]; exact q4
    have e4 : (zI σ' 0 2 0).1 1 4 = loudN (mE τ (τ.1 3) noB) N := by rw [zI_ne (by decide)]; exact q5
    refine ⟨zI σ' 0 2 0, rfl, hS, ⟨core_s hco hS (mS.rf τ), ?_, Or.inr ⟨e0, by rw [hcl]; exact e6, by rw [hcl]; exact e4⟩⟩, e0, e6, e4⟩
    unfold cCa
    rw [zI_ne (by decide), zI_ne (by decide)]
    exact q3
  · rw [if_pos h0]
    rw [hcl] at h1 h2
    exact ⟨σ, rfl, cS.rf σ, h, h0, h1, h2⟩
