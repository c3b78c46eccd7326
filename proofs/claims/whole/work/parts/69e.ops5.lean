/-! ===== calls that play ===== -/
theorem Rel_m {σ τ τ' : zS} (h : Rel σ τ) (hm : mS τ τ') : Rel σ τ' := ⟨core_s h.1 (cS.rf σ) hm, h.2.1, fresh_s h.2.2 rfl rfl rfl rfl hm⟩
theorem mE_ok {σ τ : zS} (h : core σ τ) {H : Nat → Int32} (hH : ∀ q, q < 24 → H q = 0 ∨ H q = 1 ∨ H q = 2) (B : Nat → Bool) {t : Nat} (ht : t < 40) : pOK (τ.1 1) (mE τ H B t) := shw_ok (fun a b => lawV_v _ _ _ _ _ a b) h.2.2.2.2.2.1 hH t ht
theorem c_shown {σ : zS} {E Bi Cl Hi N t s : Nat} {f : Nat → Nat → Int32} (e1 : σ.2 E 1 = Bi) (e2 : σ.2 E 2 = Cl) (e3 : σ.2 E 3 = Hi) (hN : σ.1 Bi 0 = nI N) (hN2 : N ≤ 40) (ht : t < N) (hs : s < 24) (hev : evB f N (σ.1 Cl) (σ.1 Hi)) (hv : f t s = 0 ∨ f t s = 1 ∨ f t s = 2) : fX3_shown E (nI s) (nI t) σ = some (f t s, σ) := by
  unfold fX3_shown
  rw [c_sh1 e1 e2 hN hN2 ht, zb_s, c_sh2 e1 e3 hN hN2 ht, zb_s, bitB (hev t ht).1 hs, bitB (hev t ht).2 hs]
  rcases hv with e | e | e <;> rw [e] <;> rfl
theorem o_shows (σ τ : zS) (h : Rel σ τ) (a1 a2 : Int32) : ∃ (r : Int32) (σ' τ' : zS), fX6_shows 0 a1 a2 σ = some (r, σ') ∧ fX7_shows 0 a1 a2 τ = some (r, τ') ∧ Rel σ' τ' := by
  obtain ⟨hco, hca, hfr⟩ := id h
  obtain ⟨hR, -, hM, hcr, -⟩ := id hco
  obtain ⟨N, N1, N2, N3, N4⟩ := core_N hco
  unfold fX6_shows fX7_shows fX6_isNow
  simp only [bnd_e]
  rcases ok_dec a1 0 23 with h1 | h1
  · rw [(c_isSeat a1 σ).1 h1, zb_s, if_neg n10, (m_isSeat a1 τ).1 h1, zb_s, if_neg n10, cr_ hR 0 0 1 rfl (by decide), cr_ hR 1 0 5 rfl (by decide)]
    obtain ⟨s, -, s2, rfl⟩ := ok_n (a := 0) (n := 23) (by omega) (by omega) h1
    have hs : s < 24 := by omega
    rw [c_has hcr hs, zb_s, m_isTaken hM hs, zb_s]
    by_cases c : τ.1 1 s = -1
    · rw [if_pos c, if_pos rfl, if_pos rfl]
      exact ⟨-1, σ, τ, rfl, rfl, h⟩
    · rw [if_neg c, if_neg n10, if_neg n10, cr_ hR 0 0 1 rfl (by decide), N4, show nI N - 1 = nI (N - 1) by rw [show N = (N - 1) + 1 by omega]; exact nI_pred _]
      rcases ok_dec a2 0 (nI (N - 1)) with h2 | h2
      · obtain ⟨t, -, t2, rfl⟩ := ok_n (a := 0) (n := N - 1) (by omega) (by omega) h2
        rw [c_hs1 (cr_ hR 1 1 2 rfl (by decide)) N3 N2 (show t < N by omega), zb_s, zb_s, if_neg n10, (m_in (nI t) 0 _ τ).1 h2, zb_s, if_neg n10]
        obtain ⟨σ', q1, q2, q3, q4, q5, q6⟩ := c_played h N1 N2 N4
        obtain ⟨τ', p1, p2, p3⟩ := m_told hco N2 N4
        have hR' : cR σ'.2 := q3.1.1
        have hM' : mR τ'.2 := by rw [p1.2.2]; exact hM
        have hN' : σ'.1 2 0 = nI N := by rw [q2.1.1 2 (XP_f (by omega))]; exact N3
        have hx : (24 : Int32) * nI t + nI s = nI (24 * t + s) := by
          show nI 24 * nI t + nI s = _
          rw [pk_mul, nI_add]
        rw [q1, zb_s, c_shown (cr_ hR' 1 1 2 rfl (by decide)) (cr_ hR' 1 2 6 rfl (by decide)) (cr_ hR' 1 3 7 rfl (by decide)) hN' N2 (show t < N by omega) hs q5 ((mE_ok hco (fun q hq => (core_pa hco hq).1) noB (by omega)) s hs).1, zb_s, p3, zb_s, mm32 hM', hx, zX_n (by omega) (by omega), cl_n (by omega), p2 t (by omega) s hs]
        exact ⟨_, σ', τ', rfl, rfl, Rel_m q3 p1⟩
      · rw [c_hs0 (cr_ hR 1 1 2 rfl (by decide)) N3 N1 N2 h2, zb_s, zb_s, if_pos rfl, (m_in a2 0 _ τ).2 h2, zb_s, if_pos rfl]
        exact ⟨-1, σ, τ, rfl, rfl, h⟩
  · rw [(c_isSeat a1 σ).2 h1, zb_s, if_pos rfl, (m_isSeat a1 τ).2 h1, zb_s, if_pos rfl]
    exact ⟨-1, σ, τ, rfl, rfl, h⟩
theorem o_loud (σ τ : zS) (h : Rel σ τ) (a1 a2 : Int32) : ∃ (r : Int32) (σ' τ' : zS), fX6_loud 0 a1 a2 σ = some (r, σ') ∧ fX7_loud 0 a1 a2 τ = some (r, τ') ∧ Rel σ' τ' := by
  obtain ⟨hco, hca, hfr⟩ := id h
  obtain ⟨hR, -, hM, hcr, -⟩ := id hco
  obtain ⟨N, N1, N2, N3, N4⟩ := core_N hco
  unfold fX6_loud fX7_loud fX6_isNow
  simp only [bnd_e]
  rw [cr_ hR 0 0 1 rfl (by decide), N4, show nI N - 1 = nI (N - 1) by rw [show N = (N - 1) + 1 by omega]; exact nI_pred _]
  rcases ok_dec a1 0 (nI (N - 1)) with h1 | h1
  · obtain ⟨t, -, t2, rfl⟩ := ok_n (a := 0) (n := N - 1) (by omega) (by omega) h1
    rw [c_hs1 (cr_ hR 1 1 2 rfl (by decide)) N3 N2 (show t < N by omega), zb_s, zb_s, if_neg n10, (m_in (nI t) 0 _ τ).1 h1, zb_s, if_neg n10]
    rcases ok_dec a2 0 1 with h2 | h2
    · rw [(c_within a2 0 1 σ).1 h2, zb_s, if_neg n10, (m_in a2 0 1 τ).1 h2, zb_s, if_neg n10]
      obtain ⟨σ', q1, q2, q3, q4, q5, q6⟩ := c_played h N1 N2 N4
      obtain ⟨τ', p1, p2, p3⟩ := m_told hco N2 N4
      have hR' : cR σ'.2 := q3.1.1
      have hM' : mR τ'.2 := by rw [p1.2.2]; exact hM
      have hN' : σ'.1 2 0 = nI N := by rw [q2.1.1 2 (XP_f (by omega))]; exact N3
      obtain ⟨τ2, w1, w2, w3, w4, w5⟩ := m_counts (t := t) (by omega) hM'
      have ht : t < N := by omega
      rw [q1, zb_s, zb_s, c_cla (cr_ hR' 1 1 2 rfl (by decide)) (cr_ hR' 1 2 6 rfl (by decide)) hN' N2 ht (q5 t ht).1, zb_s, c_his (cr_ hR' 1 1 2 rfl (by decide)) (cr_ hR' 1 3 7 rfl (by decide)) hN' N2 ht (q5 t ht).2, zb_s, p3, zb_s, w1, zb_s, w4, w5]
      have c1 : cn (fun q => decide (τ'.1 20 (24 * t + q) = 1)) 24 = cn (fun q => decide (mE τ (τ.1 3) noB t q = 1)) 24 := cn_cong (fun q hq => by rw [p2 t ht q hq])
      have c2 : cn (fun q => decide (τ'.1 20 (24 * t + q) = 2)) 24 = cn (fun q => decide (mE τ (τ.1 3) noB t q = 2)) 24 := cn_cong (fun q hq => by rw [p2 t ht q hq])
      rw [c1, c2]
      by_cases e : a2 = 0
      · rw [if_pos e, if_pos e]; exact ⟨_, σ', τ2, rfl, rfl, Rel_m q3 (p1.tr (mS.of w2))⟩
      · rw [if_neg e, if_neg e]; exact ⟨_, σ', τ2, rfl, rfl, Rel_m q3 (p1.tr (mS.of w2))⟩
    · rw [(c_within a2 0 1 σ).2 h2, zb_s, if_pos rfl, (m_in a2 0 1 τ).2 h2, zb_s, if_pos rfl]
      exact ⟨-1, σ, τ, rfl, rfl, h⟩
  · rw [c_hs0 (cr_ hR 1 1 2 rfl (by decide)) N3 N1 N2 h1, zb_s, zb_s, if_pos rfl, (m_in a1 0 _ τ).2 h1, zb_s, if_pos rfl]
    exact ⟨-1, σ, τ, rfl, rfl, h⟩
theorem o_house (σ τ : zS) (h : Rel σ τ) : ∃ (r : Int32) (σ' τ' : zS), fX6_house 0 σ = some (r, σ') ∧ fX7_house 0 τ = some (r, τ') ∧ Rel σ' τ' := by
  obtain ⟨hco, hca, hfr⟩ := id h
  obtain ⟨N, N1, N2, N3, N4⟩ := core_N hco
  obtain ⟨σ', q1, q2, q3, q4, q5, q6⟩ := c_played h N1 N2 N4
  obtain ⟨τ', p1, p2, p3⟩ := m_told hco N2 N4
  unfold fX6_house fX7_house
  rw [q1, zb_s, p3, zb_s, q6]
  exact ⟨_, σ', τ', rfl, rfl, Rel_m q3 p1⟩
/-! evenings that are only supposed -/
theorem c_copy2 {σ : zS} {A B : Nat} (hAB : ¬ B = A) : ∃ σ1, fX2_copy A B σ = some ((), σ1) ∧ (∀ j, j < 7 → σ1.1 A j = σ.1 B j) ∧ (∀ a, ¬ a = A → σ1.1 a = σ.1 a) ∧ (∀ j, 7 ≤ j → σ1.1 A j = σ.1 A j) ∧ σ1.2 = σ.2 := by
  unfold fX2_copy
  simp only [bnd_e]
  refine ⟨_, rfl, fun j hj => ?_, fun a ha => ?_, fun j hj => ?_, rfl⟩
  · rcases (show j = 0 ∨ j = 1 ∨ j = 2 ∨ j = 3 ∨ j = 4 ∨ j = 5 ∨ j = 6 by omega) with rfl | rfl | rfl | rfl | rfl | rfl | rfl
    · rw [zI_o (by omega), zI_o (by omega), zI_o (by omega), zI_o (by omega), zI_o (by omega), zI_o (by omega), zI_s]
    · rw [zI_o (by omega), zI_o (by omega), zI_o (by omega), zI_o (by omega), zI_o (by omega), zI_s, zI_ne hAB]
    · rw [zI_o (by omega), zI_o (by omega), zI_o (by omega), zI_o (by omega), zI_s, zI_ne hAB, zI_ne hAB]
    · rw [zI_o (by omega), zI_o (by omega), zI_o (by omega), zI_s, zI_ne hAB, zI_ne hAB, zI_ne hAB]
    · rw [zI_o (by omega), zI_o (by omega), zI_s, zI_ne hAB, zI_ne hAB, zI_ne hAB, zI_ne hAB]
    · rw [zI_o (by omega), zI_s, zI_ne hAB, zI_ne hAB, zI_ne hAB, zI_ne hAB, zI_ne hAB]
    · rw [zI_s, zI_ne hAB, zI_ne hAB, zI_ne hAB, zI_ne hAB, zI_ne hAB, zI_ne hAB]
  · rw [zI_ne ha, zI_ne ha, zI_ne ha, zI_ne ha, zI_ne ha, zI_ne ha, zI_ne ha]
  · rw [zI_o (by omega), zI_o (by omega), zI_o (by omega), zI_o (by omega), zI_o (by omega), zI_o (by omega), zI_o (by omega)]
/-- those hired when stick k pays just the set S -/
def hSet (k : Int32) (S : Nat → Bool) (pa : Nat → Int32) : Nat → Int32 := fun q => if S q = true then k else hWo k pa q
theorem hSet_v {k : Nat} (hk : k = 1 ∨ k = 2) {S : Nat → Bool} {pa : Nat → Int32} {q : Nat} (h : pa q = 0 ∨ pa q = 1 ∨ pa q = 2) : hSet (nI k) S pa q = 0 ∨ hSet (nI k) S pa q = 1 ∨ hSet (nI k) S pa q = 2 := by
  unfold hSet hWo
  by_cases h1 : S q = true
  · rw [if_pos h1]
    rcases hk with rfl | rfl
    · exact Or.inr (Or.inl rfl)
    · exact Or.inr (Or.inr rfl)
  · rw [if_neg h1]
    by_cases h2 : pa q = nI k
    · rw [if_pos h2]; exact Or.inl rfl
    · rw [if_neg h2]; exact h
theorem pCrowd_h {c c' : Nat → Int32} {row : Int32} {so kn pa : Nat → Int32} {k : Nat} (hk : k = 1 ∨ k = 2) {x : Int32} {S : Nat → Bool} (hx : bs x S) (hS : ∀ q, q < 24 → S q = true → ¬ so q = -1 ∧ ¬ pa q = nI (3 - k)) (h : pCrowd c row so kn pa) (hc : ∀ j, j < 7 → c' j = if j = 4 + k then x else c j) : pCrowd c' row so kn (hSet (nI k) S pa) := by
  obtain ⟨⟨w, w1, w2, w3, w4⟩, h2, h3⟩ := h
  have hlow : ∀ j, j < 5 → c' j = c j := fun j hj => by rw [hc j (by omega), if_neg (by omega)]
  refine ⟨⟨w, w1, w2, w3, by rw [hlow 0 (by omega)]; exact w4⟩, fun i hi => ?_, fun q hq => ?_⟩
  · obtain ⟨g1, g2, g3⟩ := h2 i hi
    have gx : bt x i = false := by rw [hx i, decide_eq_false (by omega)]; rfl
    refine ⟨by rw [hlow 1 (by omega)]; exact g1, ?_, ?_⟩
    · rw [hc 5 (by omega)]
      by_cases e : 5 = 4 + k
      · rw [if_pos e]; exact gx
      · rw [if_neg e]; exact g2
    · rw [hc 6 (by omega)]
      by_cases e : 6 = 4 + k
      · rw [if_pos e]; exact gx
      · rw [if_neg e]; exact g3
  · have gx : bt x q = S q := by rw [hx q, decide_eq_true hq, Bool.true_and]
    unfold pSeat
    rw [hlow 1 (by omega), hlow 2 (by omega), hlow 3 (by omega), hlow 4 (by omega)]
    rcases h3 q hq with ⟨a1, a2, a3, a4, a5, a6⟩ | ⟨m, hm, b1, b2, b3, b4, b5, b6⟩
    · left
      have hSq : S q = false := by
        by_cases e : S q = true
        · exact absurd a1 (hS q hq e).1
        · exact Bool.eq_false_iff.mpr e
      refine ⟨a1, a2, ?_, a4, ?_, ?_⟩
      · unfold hSet hWo
        rw [hSq, if_neg (by decide), a3]
        by_cases e : (0 : Int32) = nI k
        · rw [if_pos e]
        · rw [if_neg e]
      · rw [hc 5 (by omega)]
        by_cases e : 5 = 4 + k
        · rw [if_pos e, gx]; exact hSq
        · rw [if_neg e]; exact a5
      · rw [hc 6 (by omega)]
        by_cases e : 6 = 4 + k
        · rw [if_pos e, gx]; exact hSq
        · rw [if_neg e]; exact a6
    · right
      refine ⟨m, hm, b1, b2, b3, b4, b5, ?_⟩
      rw [hc 5 (by omega), hc 6 (by omega)]
      unfold hSet hWo
      have hSq := hS q hq
      rcases hk with rfl | rfl
      · rw [if_pos (show 5 = 4 + 1 from rfl), if_neg (show ¬ 6 = 4 + 1 by decide), gx]
        by_cases e : S q = true
        · rw [if_pos e, e]
          obtain ⟨-, e2⟩ := hSq e
          rcases b6 with ⟨f1, f2, f3⟩ | ⟨f1, f2, f3⟩ | ⟨f1, f2, f3⟩
          · right; left; exact ⟨rfl, rfl, f3⟩
          · right; left; exact ⟨rfl, rfl, f3⟩
          · exact absurd f1 e2
        · rw [if_neg e, Bool.eq_false_iff.mpr e]
          rcases b6 with ⟨f1, f2, f3⟩ | ⟨f1, f2, f3⟩ | ⟨f1, f2, f3⟩
          · left; rw [f1]; exact ⟨rfl, rfl, f3⟩
          · left; rw [f1]; exact ⟨rfl, rfl, f3⟩
          · right; right; rw [f1]; exact ⟨rfl, rfl, f3⟩
      · rw [if_neg (show ¬ 5 = 4 + 2 by decide), if_pos (show 6 = 4 + 2 from rfl), gx]
        by_cases e : S q = true
        · rw [if_pos e, e]
          obtain ⟨-, e2⟩ := hSq e
          rcases b6 with ⟨f1, f2, f3⟩ | ⟨f1, f2, f3⟩ | ⟨f1, f2, f3⟩
          · right; right; exact ⟨rfl, f2, rfl⟩
          · exact absurd f1 e2
          · right; right; exact ⟨rfl, f2, rfl⟩
        · rw [if_neg e, Bool.eq_false_iff.mpr e]
          rcases b6 with ⟨f1, f2, f3⟩ | ⟨f1, f2, f3⟩ | ⟨f1, f2, f3⟩
          · left; rw [f1]; exact ⟨rfl, f2, rfl⟩
          · right; left; rw [f1]; exact ⟨rfl, f2, rfl⟩
          · left; rw [f1]; exact ⟨rfl, f2, rfl⟩
/-- a trial is played over some store -/
theorem c_trial {σ τ : zS} (h : Rel σ τ) {N : Nat} (hN1 : 1 ≤ N) (hN2 : N ≤ 40) (hN : τ.1 0 1 = nI N) {σ1 : zS} (h2 : σ1.2 = σ.2) (h1 : ∀ a, ¬ a = 9 → σ1.1 a = σ.1 a) {H : Nat → Int32} (hcr : pCrowd (σ1.1 9) (τ.1 0 0) (τ.1 1) (τ.1 2) H) (v : Int32) {B : Nat → Bool} (hB : bs v B) (hB2 : ∀ q, q < 24 → B q = true → ¬ τ.1 1 q = -1) :
    ∃ σ', fX6_play 0 8 v σ1 = some ((), σ') ∧ cS σ σ' ∧ Rel σ' τ ∧ σ'.1 9 = σ1.1 9 ∧ σ'.1 1 = σ.1 1 ∧ evB (mE τ H B) N (σ'.1 10) (σ'.1 11) ∧ σ'.1 8 4 = loudN (mE τ H B) N := by
  have hc1 : cS σ σ1 := ⟨⟨fun a ha => h1 a (fun e => by rw [e] at ha; cases ha), fun a b _ => by rw [h2]⟩, fun b _ => by rw [h1 0 (by decide)]⟩
  obtain ⟨σ', q1, q2, q3, q4, q5⟩ := core_play h.1 hN1 hN2 hN hc1 (cCa_e h.2.1 (h1 153 (by decide)) (h1 155 (by decide))) (E := 8) (Cr := 9) (Cl := 10) (Hi := 11) (Or.inr ⟨rfl, rfl, rfl, rfl⟩) hcr v hB hB2
  have hS : cS σ σ' := hc1.tr ⟨q2.up (fun k q => XE_f (by have := of_decide_eq_false q; omega)), fun b _ => by rw [q2.1 0 (XE_f (by omega))]⟩
  have g0 : σ'.1 0 = σ.1 0 := by rw [q2.1 0 (XE_f (by omega)), h1 0 (by decide)]
  have g1 : σ'.1 1 = σ.1 1 := by rw [q2.1 1 (XE_f (by omega)), h1 1 (by decide)]
  have g6 : σ'.1 6 = σ.1 6 := by rw [q2.1 6 (XE_f (by omega)), h1 6 (by decide)]
  have g7 : σ'.1 7 = σ.1 7 := by rw [q2.1 7 (XE_f (by omega)), h1 7 (by decide)]
  exact ⟨σ', q1, hS, ⟨core_s h.1 hS (mS.rf τ), q3, fresh_s h.2.2 (by rw [g0]) (by rw [g1]) g6 g7 (mS.rf τ)⟩, q2.1 9 (XE_f (by omega)), g1, q4, q5⟩
theorem c_hw {σ τ : zS} (h : Rel σ τ) {N : Nat} (hN1 : 1 ≤ N) (hN2 : N ≤ 40) (hN : τ.1 0 1 = nI N) {k : Nat} (hk : k = 1 ∨ k = 2) {x : Int32} {S : Nat → Bool} (hx : bs x S) (hS : ∀ q, q < 24 → S q = true → ¬ τ.1 1 q = -1 ∧ ¬ τ.1 3 q = nI (3 - k)) : ∃ σ', fX6_houseWith 0 (nI k) x σ = some (loudN (mE τ (hSet (nI k) S (τ.1 3)) noB) N, σ') ∧ cS σ σ' ∧ Rel σ' τ ∧ σ'.1 1 = σ.1 1 := by
  have hR : cR σ.2 := h.1.1
  obtain ⟨σ1, q1, q2, q3, q4, q5⟩ := c_copy2 (σ := σ) (A := 9) (B := 5) (by decide)
  unfold fX6_houseWith
  rw [bnd_e, cr_ hR 0 1 8 rfl (by decide), bnd_e, cr_ hR 8 0 9 rfl (by decide), bnd_e, cr_ hR 0 0 1 rfl (by decide), bnd_e, cr_ hR 1 0 5 rfl (by decide), q1, zb_s]
  have hR1 : cR σ1.2 := by rw [q5]; exact hR
  rw [bnd_e, cr_ hR1 0 1 8 rfl (by decide), bnd_e, cr_ hR1 8 0 9 rfl (by decide)]
  have hh : fX2_hireAll 9 (nI k) x σ1 = some ((), zI σ1 9 (4 + k) x) := by
    unfold fX2_hireAll
    rcases hk with rfl | rfl
    · rw [if_pos (by decide)]; rfl
    · rw [if_neg (by decide)]; rfl
  rw [hh, zb_s, bnd_e, zI_2, cr_ hR1 0 1 8 rfl (by decide)]
  obtain ⟨σ', w1, w2, w3, w4, w5, w6, w7⟩ := c_trial h hN1 hN2 hN (σ1 := zI σ1 9 (4 + k) x) q5 (fun a ha => by rw [zI_ne ha, q3 a ha]) (H := hSet (nI k) S (τ.1 3)) (pCrowd_h hk hx hS h.1.2.2.2.1 (fun j hj => by
    by_cases e : j = 4 + k
    · rw [if_pos e, e, zI_s]
    · rw [if_neg e, zI_o (fun q => e q.2), q2 j hj])) 0 bs_no (fun q _ hb => by cases hb)
  have hR' : cR σ'.2 := w3.1.1
  rw [w1, zb_s, bnd_e, cr_ hR' 0 1 8 rfl (by decide), w7]
  exact ⟨σ', rfl, w2, w3, w5⟩
theorem pCrowd_0 {c c' : Nat → Int32} {row : Int32} {so kn pa : Nat → Int32} (h : pCrowd c row so kn pa) (hc : ∀ j, j < 5 → c' j = c j) (h5 : c' 5 = 0) (h6 : c' 6 = 0) : pCrowd c' row so kn (fun _ => 0) := by
  obtain ⟨⟨w, w1, w2, w3, w4⟩, h2, h3⟩ := h
  refine ⟨⟨w, w1, w2, w3, by rw [hc 0 (by omega)]; exact w4⟩, fun i hi => ⟨by rw [hc 1 (by omega)]; exact (h2 i hi).1, by rw [h5, b_0], by rw [h6, b_0]⟩, fun q hq => ?_⟩
  unfold pSeat
  rw [hc 1 (by omega), hc 2 (by omega), hc 3 (by omega), hc 4 (by omega), h5, h6, b_0]
  rcases h3 q hq with ⟨a1, a2, a3, a4, a5, a6⟩ | ⟨m, hm, b1, b2, b3, b4, b5, b6⟩
  · exact Or.inl ⟨a1, a2, rfl, a4, rfl, rfl⟩
  · exact Or.inr ⟨m, hm, b1, b2, b3, b4, b5, Or.inl ⟨rfl, rfl, rfl⟩⟩
def no0 : Nat → Int32 := fun _ => 0
theorem c_unp {σ τ : zS} (h : Rel σ τ) {N : Nat} (hN1 : 1 ≤ N) (hN2 : N ≤ 40) (hN : τ.1 0 1 = nI N) {x : Int32} {B : Nat → Bool} (hx : bs x B) (hB2 : ∀ q, q < 24 → B q = true → ¬ τ.1 1 q = -1) : ∃ σ', fX6_playUnpaid 0 x σ = some ((), σ') ∧ cS σ σ' ∧ Rel σ' τ ∧ σ'.1 9 2 = σ.1 5 2 ∧ σ'.1 1 = σ.1 1 ∧ evB (mE τ no0 B) N (σ'.1 10) (σ'.1 11) ∧ σ'.1 8 4 = loudN (mE τ no0 B) N := by
  have hR : cR σ.2 := h.1.1
  obtain ⟨σ1, q1, q2, q3, q4, q5⟩ := c_copy2 (σ := σ) (A := 9) (B := 5) (by decide)
  unfold fX6_playUnpaid
  rw [bnd_e, cr_ hR 0 1 8 rfl (by decide), bnd_e, cr_ hR 8 0 9 rfl (by decide), bnd_e, cr_ hR 0 0 1 rfl (by decide), bnd_e, cr_ hR 1 0 5 rfl (by decide), q1, zb_s]
  have hR1 : cR σ1.2 := by rw [q5]; exact hR
  rw [bnd_e, cr_ hR1 0 1 8 rfl (by decide), bnd_e, cr_ hR1 8 0 9 rfl (by decide), bnd_e, bnd_e, zI_2, cr_ hR1 0 1 8 rfl (by decide), bnd_e, cr_ hR1 8 0 9 rfl (by decide), bnd_e, bnd_e, zI_2, zI_2, cr_ hR1 0 1 8 rfl (by decide)]
  obtain ⟨σ', w1, w2, w3, w4, w5, w6, w7⟩ := c_trial h hN1 hN2 hN (σ1 := zI (zI σ1 9 5 0) 9 6 0) q5 (fun a ha => by rw [zI_ne ha, zI_ne ha, q3 a ha]) (H := no0) (pCrowd_0 h.1.2.2.2.1 (fun j hj => by rw [zI_o (by omega), zI_o (by omega), q2 j (by omega)]) (by rw [zI_o (by decide), zI_s]) zI_s) x hx hB2
  rw [w1, zb_s]
  exact ⟨σ', rfl, w2, w3, by rw [w4, zI_o (by decide), zI_o (by decide), q2 2 (by omega)], w5, w6, w7⟩
/-! more, years -/
theorem hSet_0 {k : Int32} {pa : Nat → Int32} : hSet k noB pa = hWo k pa := by
  funext q
  unfold hSet
  rw [if_neg (by unfold noB; decide)]
theorem cm_added {σ τ : zS} (h : Rel σ τ) {k : Nat} (hk : k = 1 ∨ k = 2) : ∃ (r : Int32) (σ' τ' : zS), fX6_added 0 (nI k) σ = some (r, σ') ∧ fX7_moreBy 0 (nI k) τ = some (r, τ') ∧ Rel σ' τ' ∧ mS τ τ' := by
  obtain ⟨N, N1, N2, N3, N4⟩ := core_N h.1
  obtain ⟨σ1, q1, q2, q3, q4, q5, q6⟩ := c_played h N1 N2 N4
  obtain ⟨τ1, p1, p2, p3⟩ := m_told h.1 N2 N4
  obtain ⟨σ2, w1, w2, w3, w4⟩ := c_hw q3 N1 N2 N4 hk (x := 0) (S := noB) bs_no (fun q _ hb => by cases hb)
  have hR1 := Rel_m h p1
  have N5 : τ1.1 0 1 = nI N := by rw [p1.2.1 1 (by omega)]; exact N4
  obtain ⟨τ2, z1, z2⟩ := m_without hR1.1 N2 N5 (nI k)
  unfold fX6_added fX7_moreBy
  rw [q1, zb_s, w1, zb_s, p3, zb_s, z2, zb_s, q6, hSet_0, p1.1 3 (by omega), mE_s p1]
  exact ⟨_, σ2, τ2, rfl, rfl, Rel_m w3 (p1.tr z1), p1.tr z1⟩
theorem o_more (σ τ : zS) (h : Rel σ τ) (a1 : Int32) : ∃ (r : Int32) (σ' τ' : zS), fX6_more 0 a1 σ = some (r, σ') ∧ fX7_more 0 a1 τ = some (r, τ') ∧ Rel σ' τ' := by
  unfold fX6_more fX7_more
  rcases ok_dec a1 1 2 with h1 | h1
  · rw [(c_isStick a1 σ).1 h1, zb_s, if_neg n10, (m_isStick a1 τ).1 h1, zb_s, if_neg n10]
    obtain ⟨k, k1, k2, rfl⟩ := ok_n (a := 1) (n := 2) (by omega) (by omega) h1
    obtain ⟨r, σ', τ', q1, q2, q3, -⟩ := cm_added h (k := k) (by omega)
    rw [q1, zb_s, q2, zb_s]
    exact ⟨r, σ', τ', rfl, rfl, q3⟩
  · rw [(c_isStick a1 σ).2 h1, zb_s, if_pos rfl, (m_isStick a1 τ).2 h1, zb_s, if_pos rfl]
    exact ⟨_, σ, τ, rfl, rfl, h⟩
theorem yrs_eq (v3 v4 p q : Int32) (σ τ : zS) (hpq : p = q) {m : Nat} (hm : v3 = nI m) (hm2 : m ≤ 50) : ∀ (n y : Nat) (a b : Int32), y ≤ m → m < y + n → fX7_years_69 n v3 v4 p q a b (nI y) τ = some (a, τ) := by
  subst hpq
  intro n
  induction n with
  | zero => intro y a b h1 h2; exact absurd h2 (by omega)
  | succ n ih =>
    intro y a b h1 h2
    show bX7_years_69 (fX7_years_69 n) v3 v4 p p a b (nI y) τ = _
    unfold bX7_years_69 bX7_years_115
    rw [hm]
    by_cases e : y = m
    · rw [e, if_pos (nI_le (Nat.le_refl _) (by omega))]
    · rw [if_neg (nI_ge (by omega) (by omega)), if_pos (Int32.le_refl p), if_pos (Int32.le_refl p), bnd_e, bnd_e, nI_1, Int32.add_zero, Int32.sub_zero, ← hm]
      exact ih (y + 1) a b (by omega) (by omega)
theorem yrs_ne (v3 v4 p q : Int32) (σ τ : zS) (hpq : ¬ p = q) {m : Nat} (hm : v3 = nI m) (hm2 : m ≤ 50) : ∀ (n y : Nat) (a b : Int32), y ≤ m → m < y + n → ∃ r : Int32, fX6_years_69 n v3 v4 p q a b (nI y) σ = some (r, σ) ∧ fX7_years_69 n v3 v4 p q a b (nI y) τ = some (r, τ) := by
  intro n
  induction n with
  | zero => intro y a b h1 h2; exact absurd h2 (by omega)
  | succ n ih =>
    intro y a b h1 h2
    show ∃ r : Int32, bX6_years_69 (fX6_years_69 n) v3 v4 p q a b (nI y) σ = _ ∧ bX7_years_69 (fX7_years_69 n) v3 v4 p q a b (nI y) τ = _
    unfold bX7_years_69 bX7_years_115 bX6_years_69 bX6_years_111
    by_cases e : y = m
    · rw [hm, e, if_pos (nI_le (Nat.le_refl _) (by omega)), if_pos (nI_le (Nat.le_refl _) (by omega))]
      exact ⟨a, rfl, rfl⟩
    · have hy : ¬ v3 ≤ nI y := by rw [hm]; exact nI_ge (by omega) (by omega)
      rw [if_neg hy, if_neg hy, if_neg hpq]
      simp only [bnd_e]
      rw [nI_1]
      by_cases c : p ≤ q
      · have c2 : ¬ q ≤ p := fun w => hpq (Int32.le_antisymm c w)
        rw [if_pos c, if_pos c, if_neg c2]
        exact ih (y + 1) _ _ (by omega) (by omega)
      · rw [if_neg c, if_neg c]
        exact ih (y + 1) _ _ (by omega) (by omega)
theorem o_years (σ τ : zS) (h : Rel σ τ) (a1 a2 a3 a4 : Int32) : ∃ (r : Int32) (σ' τ' : zS), fX6_years 0 a1 a2 a3 a4 σ = some (r, σ') ∧ fX7_years 0 a1 a2 a3 a4 τ = some (r, τ') ∧ Rel σ' τ' := by
  unfold fX6_years fX7_years
  rcases ok_dec a1 0 10000 with h1 | h1
  · rw [(c_within a1 0 10000 σ).1 h1, zb_s, if_neg n10, (m_in a1 0 10000 τ).1 h1, zb_s, if_neg n10]
    rcases ok_dec a2 0 10000 with h2 | h2
    · rw [(c_within a2 0 10000 σ).1 h2, zb_s, if_neg n10, (m_in a2 0 10000 τ).1 h2, zb_s, if_neg n10]
      rcases ok_dec a3 1 50 with h3 | h3
      · rw [(c_within a3 1 50 σ).1 h3, zb_s, if_neg n10, (m_in a3 1 50 τ).1 h3, zb_s, if_neg n10]
        rcases ok_dec a4 0 1000 with h4 | h4
        · rw [(c_within a4 0 1000 σ).1 h4, zb_s, if_neg n10, (m_in a4 0 1000 τ).1 h4, zb_s, if_neg n10]
          obtain ⟨m, m1, m2, hm⟩ := ok_n (a := 1) (n := 50) (by omega) (by omega) h3
          obtain ⟨p, σ1, τ1, q1, q2, q3, -⟩ := cm_added h (k := 1) (by omega)
          obtain ⟨q, σ2, τ2, w1, w2, w3, -⟩ := cm_added q3 (k := 2) (by omega)
          rw [show (1 : Int32) = nI 1 from rfl, show (2 : Int32) = nI 2 from rfl, q1, zb_s, w1, zb_s, q2, zb_s, w2, zb_s]
          by_cases e : p = q
          · have hM := yrs_eq a3 a4 p q σ2 τ2 e hm m2 zFU 0 a1 a2 (by omega) (by unfold zFU; omega)
            rw [show (0 : Int32) = nI 0 from rfl, hM]
            have hC : fX6_years_69 zFU a3 a4 p q a1 a2 (nI 0) σ2 = some (a1, σ2) := by
              show bX6_years_69 (fX6_years_69 4999) a3 a4 p q a1 a2 (nI 0) σ2 = _
              unfold bX6_years_69
              by_cases c : a3 ≤ nI 0
              · rw [if_pos c]
              · rw [if_neg c, if_pos e]
            rw [hC]
            exact ⟨_, σ2, τ2, rfl, rfl, w3⟩
          · obtain ⟨r, r1, r2⟩ := yrs_ne a3 a4 p q σ2 τ2 e hm m2 zFU 0 a1 a2 (by omega) (by unfold zFU; omega)
            exact ⟨r, σ2, τ2, r1, r2, w3⟩
        · rw [(c_within a4 0 1000 σ).2 h4, zb_s, if_pos rfl, (m_in a4 0 1000 τ).2 h4, zb_s, if_pos rfl]
          exact ⟨_, σ, τ, rfl, rfl, h⟩
      · rw [(c_within a3 1 50 σ).2 h3, zb_s, if_pos rfl, (m_in a3 1 50 τ).2 h3, zb_s, if_pos rfl]
        exact ⟨_, σ, τ, rfl, rfl, h⟩
    · rw [(c_within a2 0 10000 σ).2 h2, zb_s, if_pos rfl, (m_in a2 0 10000 τ).2 h2, zb_s, if_pos rfl]
      exact ⟨_, σ, τ, rfl, rfl, h⟩
  · rw [(c_within a1 0 10000 σ).2 h1, zb_s, if_pos rfl, (m_in a1 0 10000 τ).2 h1, zb_s, if_pos rfl]
    exact ⟨_, σ, τ, rfl, rfl, h⟩
