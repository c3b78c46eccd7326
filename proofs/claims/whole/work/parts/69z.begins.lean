section
/-! ===== begins ===== -/
def Bgn (τ : zS) (N : Nat) (B : Nat → Bool) : Prop := ∀ s, s < 24 → ¬ τ.1 1 s = -1 → mE τ no0 B (N - 1) s = 1
def tkn (τ : zS) (s : Nat) : Bool := decide (¬ τ.1 1 s = -1)
theorem Bgn_c {τ : zS} {N : Nat} {B B' : Nat → Bool} (h : ∀ q, q < 24 → B q = B' q) : Bgn τ N B ↔ Bgn τ N B' := by
  unfold Bgn
  constructor
  · intro g s hs ht
    rw [← mE_c (H := no0) (H' := no0) (fun _ _ => rfl) h _ s hs]; exact g s hs ht
  · intro g s hs ht
    rw [mE_c (H := no0) (H' := no0) (fun _ _ => rfl) h _ s hs]; exact g s hs ht
/-- the class tries a set -/
theorem c_try {σ τ : zS} (h : Rel σ τ) {N : Nat} (hN1 : 1 ≤ N) (hN2 : N ≤ 40) (hN : τ.1 0 1 = nI N) {x : Int32} {B : Nat → Bool} (hx : bs x B) (hB : ∀ q, q < 24 → B q = true → ¬ τ.1 1 q = -1) : ∃ σ' y, fX6_playUnpaid 0 x σ = some ((), σ') ∧ Rel σ' τ ∧ σ'.1 5 = σ.1 5 ∧ fX3_showing 8 (σ'.1 2 0 - 1) 1 σ' = some (y, σ') ∧ (y = σ.1 5 1 ↔ Bgn τ N B) := by
  obtain ⟨σ', q1, q2, q3, q4, q5, q6, q7⟩ := c_unp h hN1 hN2 hN hx hB
  have hR' : cR σ'.2 := q3.1.1
  obtain ⟨N', n1, n2, n3, n4⟩ := core_N q3.1
  have : N' = N := (nI_eq (by omega) (by omega)).mp (n4.symm.trans hN)
  subst this
  obtain ⟨M, rfl⟩ : ∃ M, N' = M + 1 := ⟨N' - 1, by omega⟩
  refine ⟨σ', σ'.1 10 M, q1, q3, q2.1.1 5 (XP_f (by omega)), ?_, ?_⟩
  · rw [n3, nI_pred]
    exact c_sh1 (cr_ hR' 8 1 2 rfl (by decide)) (cr_ hR' 8 2 10 rfl (by decide)) n3 hN2 (by omega)
  · have hb := (q6 M (by omega)).1
    have hp := cr_p h.1.2.2.2.1
    have hok := mE_ok h.1 (H := no0) (fun q _ => Or.inl rfl) B (t := M) (by omega)
    constructor
    · intro e s hs ht
      show mE τ no0 B M s = 1
      have h1 := hb s
      rw [e, hp s, decide_eq_true hs, Bool.true_and, Bool.true_and] at h1
      have h1 : decide (¬ τ.1 1 s = -1) = decide (mE τ no0 B M s = 1) := h1
      rw [decide_eq_true ht] at h1
      exact of_decide_eq_true h1.symm
    · intro g
      refine bs_e hb hp (fun q hq => ?_)
      by_cases ht : τ.1 1 q = -1
      · rw [(hok q hq).2 ht, decide_eq_false (show ¬ ¬ τ.1 1 q = -1 from fun w => w ht)]; rfl
      · rw [decide_eq_true ht, decide_eq_true (show mE τ no0 B M q = 1 from g q hq ht)]
def RSC (τ : zS) (N n : Nat) (r : Int32) : Prop := (r = -1 ∧ ∀ a b c, vd n a b c → c < 24 → tkn τ a = true → tkn τ b = true → tkn τ c = true → ¬ Bgn τ N (tS a b c)) ∨ (∃ a b c, vd n a b c ∧ c < 24 ∧ (tkn τ a = true ∧ tkn τ b = true ∧ tkn τ c = true) ∧ r = tI a b c ∧ Bgn τ N (tS a b c) ∧ ∀ a' b' c', vd n a' b' c' → c' < 24 → tkn τ a' = true → tkn τ b' = true → tkn τ c' = true → Bgn τ N (tS a' b' c') → ¬ clx a' b' c' a b c)
theorem tS_tk {τ : zS} {a b c q : Nat} (h : tkn τ a = true ∧ tkn τ b = true ∧ tkn τ c = true) (hq : tS a b c q = true) : ¬ τ.1 1 q = -1 := by
  unfold tS at hq
  simp only [Bool.or_eq_true, decide_eq_true_eq] at hq
  rcases hq with (rfl | rfl) | rfl
  · exact of_decide_eq_true h.1
  · exact of_decide_eq_true h.2.1
  · exact of_decide_eq_true h.2.2
theorem vd_le {n a b c : Nat} (h : vd n a b c) : a ≤ b ∧ b ≤ c := by unfold vd at h; omega
theorem clx_cn {P : Nat → Bool} {a b c a' b' c' : Nat} (h1 : P a = true) (h2 : P b = true) (h3 : P c = true) (g1 : P a' = true) (g2 : P b' = true) (g3 : P c' = true) : clx (cn P a) (cn P b) (cn P c) (cn P a') (cn P b') (cn P c') ↔ clx a b c a' b' c' := by
  unfold clx
  rw [cn_lt P h3 g3, cn_eq P h3 g3, cn_lt P h2 g2, cn_eq P h2 g2, cn_lt P h1 g1]
theorem vd_cn {P : Nat → Bool} {n a b c : Nat} (h : vd n a b c) (h1 : P a = true) (h2 : P b = true) (h3 : P c = true) : vd n (cn P a) (cn P b) (cn P c) := by
  have l1 := cn_lt P h1 h2
  have l2 := cn_lt P h2 h3
  have e1 := cn_eq P h1 h2
  have e2 := cn_eq P h2 h3
  unfold vd at h ⊢
  omega
/-- end ≤ picks just when the greatest place is none of the pool's -/
theorem end_le {n a b c m : Nat} (h : vd n a b c) (hc : c ≤ 24) (hm : m ≤ 24) : ((1 : Int32) <<< (nI m &&& 31) ≤ tI a b c ↔ m ≤ c) := by
  obtain ⟨b1, b2⟩ := tv_b h
  have q1 : 2 ^ c ≤ 2 ^ 24 := Nat.pow_le_pow_right (by omega) hc
  have q2 : 2 ^ m ≤ 2 ^ 24 := Nat.pow_le_pow_right (by omega) hm
  rw [shl_p (by omega), tI_v h (by omega), nI_leI (by omega) (by omega)]
  constructor
  · intro g
    rcases Nat.lt_or_ge c m with w | w
    · have := p2 w; omega
    · exact w
  · intro g
    have : 2 ^ m ≤ 2 ^ c := Nat.pow_le_pow_right (by omega) g
    omega
theorem c_lb {σ τ : zS} (h : Rel σ τ) {N n : Nat} (hN1 : 1 ≤ N) (hN2 : N ≤ 40) (hN : τ.1 0 1 = nI N) : ∀ (M a b c : Nat) (σ' : zS), vd n a b c → c ≤ 24 → rkT n a b c ≤ 2500 → 2600 ≤ M + rkT n a b c → Rel σ' τ → σ'.1 5 = σ.1 5 → (∀ a' b' c', vd n a' b' c' → c' < 24 → tkn τ a' = true → tkn τ b' = true → tkn τ c' = true → clx (cn (tkn τ) a') (cn (tkn τ) b') (cn (tkn τ) c') a b c → ¬ Bgn τ N (tS a' b' c')) → ∃ r σ'', fX6_leastBeginners_28 M 0 (σ.1 5 1) ((1 : Int32) <<< (nI (cn (tkn τ) 24) &&& 31)) (tI a b c) (nI (rkT n a b c)) σ' = some (r, σ'') ∧ Rel σ'' τ ∧ σ''.1 5 = σ.1 5 ∧ RSC τ N n r := by
  have hpb : bs (σ.1 5 1) (tkn τ) := cr_p h.1.2.2.2.1
  have hm := cn_le (tkn τ) 24
  intro M
  induction M with
  | zero => intro a b c σ' _ _ h1 h2; omega
  | succ M ih =>
    intro a b c σ' hv hc hr hM hR h5 hinv
    show ∃ r σ'', bX6_leastBeginners_28 (fX6_leastBeginners_28 M) 0 _ _ (tI a b c) (nI (rkT n a b c)) σ' = _ ∧ _
    unfold bX6_leastBeginners_28
    rw [if_neg (geL 3000 (3000 : Int32) rfl (show rkT n a b c < 3000 by omega) (by omega))]
    by_cases e : cn (tkn τ) 24 ≤ c
    · rw [if_pos ((end_le hv hc hm).mpr e)]
      refine ⟨-1, σ', rfl, hR, h5, Or.inl ⟨rfl, fun a' b' c' v1 v2 v3 v4 v5 => hinv a' b' c' v1 v2 v3 v4 v5 (Or.inl ?_)⟩⟩
      have := cn_s (tkn τ) v2 v5
      omega
    · rw [if_neg (fun w => e ((end_le hv hc hm).mp w))]
      obtain ⟨s1, s2, s3, w1, w2, w3, ⟨w4, w5, w6⟩, w7⟩ := c_spr hpb hv (by omega) σ'
      have hle := vd_le w1
      rw [w7, zb_s]
      obtain ⟨σ1, y, q1, q2, q3, q4, q5⟩ := c_try hR hN1 hN2 hN (tI_b (show s1 < 24 by omega) (show s2 < 24 by omega) w2) (fun q _ hb => tS_tk w3 hb)
      have hR1 : cR σ1.2 := q2.1.1
      rw [q1, zb_s, bnd_e, bnd_e, cr_ hR1 0 1 8 rfl (by decide), bnd_e, cr_ hR1 8 1 2 rfl (by decide), q4, zb_s]
      rw [h5] at q5 q3
      by_cases g : Bgn τ N (tS s1 s2 s3)
      · rw [if_pos (q5.mpr g)]
        refine ⟨_, σ1, rfl, q2, q3, Or.inr ⟨s1, s2, s3, w1, w2, w3, rfl, g, fun a' b' c' v1 v2 v3 v4 v5 v6 v7 => ?_⟩⟩
        refine hinv a' b' c' v1 v2 v3 v4 v5 ?_ v6
        rw [← w4, ← w5, ← w6]
        exact (clx_cn v3 v4 v5 w3.1 w3.2.1 w3.2.2).mpr v7
      · have hc24 : c < 24 := by omega
        obtain ⟨k1, k2⟩ := rk_e hv hc24
        rw [if_neg (fun w => g (q5.mp w)), c_next hv hc24, zb_s, nI_1, ← k1]
        refine ih _ _ _ σ1 (nx_vd hv) (by unfold nxC; split <;> (try split) <;> (try split) <;> (try split) <;> omega) (by omega) (by omega) q2 q3 (fun a' b' c' v1 v2 v3 v4 v5 v6 => ?_)
        rcases nx_clx hv (vd_cn v1 v3 v4 v5) v6 with v | ⟨v7, v8, v9⟩
        · exact hinv a' b' c' v1 v2 v3 v4 v5 v
        · have i1 : a' = s1 := (cn_eq (tkn τ) v3 w3.1).mp (by omega)
          have i2 : b' = s2 := (cn_eq (tkn τ) v4 w3.2.1).mp (by omega)
          have i3 : c' = s3 := (cn_eq (tkn τ) v5 w3.2.2).mp (by omega)
          rw [i1, i2, i3]
          exact g
theorem tI_st : (1 : Int32) <<< (nI 1 &&& 31) - 1 = tI 0 0 0 ∧ (1 : Int32) <<< (nI 2 &&& 31) - 1 = tI 0 1 1 ∧ (1 : Int32) <<< (nI 3 &&& 31) - 1 = tI 0 1 2 := by decide +kernel
theorem c_least {σ τ : zS} (h : Rel σ τ) {N n : Nat} (hN1 : 1 ≤ N) (hN2 : N ≤ 40) (hN : τ.1 0 1 = nI N) (hn1 : 1 ≤ n) (hn3 : n ≤ 3) : ∃ r σ'', fX6_leastBeginners 0 (nI n) σ = some (r, σ'') ∧ Rel σ'' τ ∧ σ''.1 5 = σ.1 5 ∧ RSC τ N n r := by
  have hR : cR σ.2 := h.1.1
  have hpb : bs (σ.1 5 1) (tkn τ) := cr_p h.1.2.2.2.1
  unfold fX6_leastBeginners
  rw [bnd_e, cr_ hR 0 0 1 rfl (by decide), bnd_e, cr_ hR 1 0 5 rfl (by decide), bnd_e, f_bc hpb, zb_s, bnd_e, bnd_e]
  rcases (show n = 1 ∨ n = 2 ∨ n = 3 by omega) with rfl | rfl | rfl
  · rw [tI_st.1]
    exact c_lb h hN1 hN2 hN zFU 0 0 0 σ (Or.inl ⟨rfl, rfl, rfl⟩) (by omega) (by decide) (by unfold zFU; omega) h rfl (fun a' b' c' _ _ _ _ _ q => by unfold clx at q; omega)
  · rw [tI_st.2.1]
    exact c_lb h hN1 hN2 hN zFU 0 1 1 σ (Or.inr (Or.inl ⟨rfl, by omega, rfl⟩)) (by omega) (by decide) (by unfold zFU; omega) h rfl (fun a' b' c' v _ t1 t2 t3 q => by
      have := vd_cn v t1 t2 t3
      unfold clx at q
      unfold vd at this
      omega)
  · rw [tI_st.2.2]
    exact c_lb h hN1 hN2 hN zFU 0 1 2 σ (Or.inr (Or.inr ⟨rfl, by omega, by omega⟩)) (by omega) (by decide) (by unfold zFU; omega) h rfl (fun a' b' c' v _ t1 t2 t3 q => by
      have := vd_cn v t1 t2 t3
      unfold clx at q
      unfold vd at this
      omega)
/-- nobody begins -/
theorem c_least0 {σ τ : zS} (h : Rel σ τ) {N : Nat} (hN1 : 1 ≤ N) (hN2 : N ≤ 40) (hN : τ.1 0 1 = nI N) : ∃ r σ'', fX6_leastBeginners 0 (nI 0) σ = some (r, σ'') ∧ Rel σ'' τ ∧ σ''.1 5 = σ.1 5 ∧ ((r = 0 ∧ Bgn τ N noB) ∨ (r = -1 ∧ ¬ Bgn τ N noB)) := by
  have hR : cR σ.2 := h.1.1
  have hpb : bs (σ.1 5 1) (tkn τ) := cr_p h.1.2.2.2.1
  have hm := cn_le (tkn τ) 24
  unfold fX6_leastBeginners
  rw [bnd_e, cr_ hR 0 0 1 rfl (by decide), bnd_e, cr_ hR 1 0 5 rfl (by decide), bnd_e, f_bc hpb, zb_s, bnd_e, bnd_e, show (1 : Int32) <<< (nI 0 &&& 31) - 1 = 0 by decide]
  show ∃ r σ'', bX6_leastBeginners_28 (fX6_leastBeginners_28 4999) 0 _ _ 0 0 σ = _ ∧ _
  unfold bX6_leastBeginners_28
  have q2 : 2 ^ cn (tkn τ) 24 ≤ 2 ^ 24 := Nat.pow_le_pow_right (by omega) hm
  have q1 := p1 (cn (tkn τ) 24)
  rw [if_neg (by decide), shl_p (by omega), if_neg (nI_nle (by omega) (by omega))]
  obtain ⟨y, y1, y2⟩ := c_spread (x := 0) hpb σ
  have y0 : y = 0 := bs_e y2 bs_0 (fun i hi => by rw [b_0, Bool.and_false])
  subst y0
  rw [y1, zb_s]
  obtain ⟨σ1, y, w1, w2, w3, w4, w5⟩ := c_try h hN1 hN2 hN bs_no (fun q _ hb => by cases hb)
  have hR1 : cR σ1.2 := w2.1.1
  rw [w1, zb_s, bnd_e, bnd_e, cr_ hR1 0 1 8 rfl (by decide), bnd_e, cr_ hR1 8 1 2 rfl (by decide), w4, zb_s]
  by_cases g : Bgn τ N noB
  · rw [if_pos (w5.mpr g)]
    exact ⟨0, σ1, rfl, w2, w3, Or.inl ⟨rfl, g⟩⟩
  · rw [if_neg (fun w => g (w5.mp w))]
    unfold fX6_nextPicks
    rw [if_pos rfl, zb_s]
    show ∃ r σ'', bX6_leastBeginners_28 (fX6_leastBeginners_28 4998) 0 _ _ _ _ σ1 = _ ∧ _
    unfold bX6_leastBeginners_28
    rw [if_neg (by decide), if_pos (show nI (2 ^ cn (tkn τ) 24) ≤ (16777216 : Int32) from nI_le (b := 16777216) (by omega) (by omega))]
    exact ⟨-1, σ1, rfl, w2, w3, Or.inr ⟨rfl, g⟩⟩
/-! the reference -/
theorem m_isB {σ τ : zS} (h : core σ τ) {N : Nat} (hN1 : 1 ≤ N) (hN2 : N ≤ 40) (hN : τ.1 0 1 = nI N) {τ' : zS} (hm : mS τ τ') {x : Int32} {B : Nat → Bool} (hx : bs x B) : ∃ r τ'', fX7_isBegun 0 x τ' = some (r, τ'') ∧ mS τ τ'' ∧ ((r = 1 ∧ Bgn τ N B) ∨ (r = 0 ∧ ¬ Bgn τ N B)) := by
  have hM : mR τ'.2 := by rw [hm.2.2]; exact h.2.2.1
  obtain ⟨τ1, p1, p2, p3, p4⟩ := m_nobody hM
  obtain ⟨τ2, w1, w2, w3, w4, w5⟩ := m_with h (hm.tr p1) (H := no0) p3 (fun q _ => Or.inl rfl) hN2 hN x
  have hM2 : mR τ2.2 := by rw [w1.2.2]; exact h.2.2.1
  have N5 : τ2.1 0 1 = nI N := by rw [w1.2.1 1 (by omega)]; exact hN
  unfold fX7_isBegun
  rw [p4, zb_s, w5, zb_s]
  have hbx : ∀ q, q < 24 → bt x q = B q := fun q hq => by rw [hx q, decide_eq_true hq, Bool.true_and]
  obtain ⟨M, rfl⟩ : ∃ M, N = M + 1 := ⟨N - 1, by omega⟩
  have loop : ∀ (n s : Nat), s ≤ 24 → 24 < s + n → (∀ q, q < s → ¬ τ.1 1 q = -1 → mE τ no0 B M q = 1) → ∃ r, fX7_isBegun_12 n 0 (nI s) τ2 = some (r, τ2) ∧ ((r = 1 ∧ Bgn τ (M + 1) B) ∨ (r = 0 ∧ ¬ Bgn τ (M + 1) B)) := by
    intro n
    induction n with
    | zero => intro s a b; exact absurd b (by omega)
    | succ n ih =>
      intro s a b hq
      show ∃ r, bX7_isBegun_12 (fX7_isBegun_12 n) 0 (nI s) τ2 = _ ∧ _
      unfold bX7_isBegun_12 bX7_isBegun_48
      by_cases hs : s = 24
      · subst hs
        rw [if_pos (by decide)]
        exact ⟨1, rfl, Or.inl ⟨rfl, hq⟩⟩
      · have hs : s < 24 := by omega
        rw [if_neg (geL 24 (24 : Int32) rfl hs (by omega)), m_isTaken hM2 hs, zb_s, nI_1, w1.1 1 (by omega)]
        by_cases t : τ.1 1 s = -1
        · rw [if_pos t, if_pos rfl]
          refine ih (s + 1) (by omega) (by omega) (fun q hq1 ht => ?_)
          by_cases e : q = s
          · rw [e] at ht; exact absurd t ht
          · exact hq q (by omega) ht
        · have ev : mE τ no0 (bt x) M s = mE τ no0 B M s := mE_c (fun _ _ => rfl) hbx M s hs
          rw [if_neg t, if_neg n10, mm32 hM2, bnd_e, N5, nI_pred, show (24 : Int32) = nI 24 from rfl, pk_mul, nI_add, zX_n (by omega) (by omega), bnd_e, cl_n (by omega), w4 M (by omega) s hs, ev]
          by_cases v : mE τ no0 B M s = 1
          · rw [if_pos v]
            refine ih (s + 1) (by omega) (by omega) (fun q hq1 ht => ?_)
            by_cases e : q = s
            · rw [e]; exact v
            · exact hq q (by omega) ht
          · rw [if_neg v]
            exact ⟨0, rfl, Or.inr ⟨rfl, fun g => v (g s hs t)⟩⟩
  obtain ⟨r, r1, r2⟩ := loop zFU 0 (by omega) (by unfold zFU; omega) (fun q hq => absurd hq (by omega))
  exact ⟨r, τ2, r1, w1, r2⟩
def INB (τ : zS) (N n : Nat) (best : Int32) (D : Nat → Nat → Nat → Prop) : Prop := (best = -1 ∧ ∀ a b c, vd n a b c → c < 24 → tkn τ a = true → tkn τ b = true → tkn τ c = true → D a b c → ¬ Bgn τ N (tS a b c)) ∨ (∃ a b c, vd n a b c ∧ c < 24 ∧ (tkn τ a = true ∧ tkn τ b = true ∧ tkn τ c = true) ∧ best = tI a b c ∧ Bgn τ N (tS a b c) ∧ ∀ a' b' c', vd n a' b' c' → c' < 24 → tkn τ a' = true → tkn τ b' = true → tkn τ c' = true → D a' b' c' → Bgn τ N (tS a' b' c') → ¬ clx a' b' c' a b c)
theorem INB_c {τ : zS} {N n : Nat} {best : Int32} {D D' : Nat → Nat → Nat → Prop} (h : INB τ N n best D) (hD : ∀ a b c, vd n a b c → c < 24 → D' a b c → D a b c) : INB τ N n best D' := by
  rcases h with ⟨h1, h2⟩ | ⟨a, b, c, h1, h2, h3, h4, h5, h6⟩
  · exact Or.inl ⟨h1, fun a b c v1 v2 v3 v4 v5 v6 => h2 a b c v1 v2 v3 v4 v5 (hD a b c v1 v2 v6)⟩
  · exact Or.inr ⟨a, b, c, h1, h2, h3, h4, h5, fun a' b' c' v1 v2 v3 v4 v5 v6 => h6 a' b' c' v1 v2 v3 v4 v5 (hD a' b' c' v1 v2 v6)⟩
def dI (a b c : Nat) : Nat → Nat → Nat → Prop := fun a' b' c' => a' < a ∨ (a' = a ∧ (b' < b ∨ (b' = b ∧ c' < c)))
/-- one more set, looked at -/
theorem m_bg1 {σ τ : zS} (h : core σ τ) {N : Nat} (hN1 : 1 ≤ N) (hN2 : N ≤ 40) (hN : τ.1 0 1 = nI N) {n a b c : Nat} (hv : vd n a b c) (hc : c < 24) {τ' : zS} (hm : mS τ τ') {best : Int32} (hi : INB τ N n best (dI a b c)) (k24 : Nat → Int32 → Int32 → Int32 → Int32 → zS → Option (Int32 × zS)) (k58 : Nat → Int32 → Int32 → Int32 → Int32 → Int32 → zS → Option (Int32 × zS)) (s1 : Int32) (hs1 : ¬ s1 ≤ nI c) : ∃ best' τ'', bX7_beginners_74 k24 k58 0 (nI n) best (nI a) (nI b) (nI c) (nI c) s1 τ' = k58 0 (nI n) best' (nI a) (nI b) (nI (c + 1)) τ'' ∧ mS τ τ'' ∧ INB τ N n best' (dI a b (c + 1)) := by
  have hM : mR τ'.2 := by rw [hm.2.2]; exact h.2.2.1
  have hle := vd_le hv
  have htk : ∀ s, s < 24 → fX7_isTaken 0 (nI s) τ' = some (if tkn τ s = true then 1 else 0, τ') := fun s hs => by
    rw [m_isTaken hM hs, hm.1 1 (by omega)]
    by_cases e : τ.1 1 s = -1
    · rw [if_pos e, if_neg (fun w => (of_decide_eq_true w) e)]
    · rw [if_neg e, if_pos (show tkn τ s = true from decide_eq_true e)]
  have hk : ∀ bst st, k58 0 (nI n) bst (nI a) (nI b) (nI c + 1) st = k58 0 (nI n) bst (nI a) (nI b) (nI (c + 1)) st := fun _ _ => by rw [nI_1]
  unfold bX7_beginners_74 bX7_beginners_141
  rw [if_neg hs1, bnd_e, bnd_e, htk a (by omega), zb_s, nI_1]
  have dI_s : ∀ a' b' c', vd n a' b' c' → c' < 24 → dI a b (c + 1) a' b' c' → dI a b c a' b' c' ∨ (a' = a ∧ b' = b ∧ c' = c) := by
    intro a' b' c' _ _ d
    unfold dI at d ⊢
    omega
  have skip : ¬ (tkn τ a = true ∧ tkn τ b = true ∧ tkn τ c = true) → INB τ N n best (dI a b (c + 1)) := by
    intro hno
    rcases hi with ⟨h1, h2⟩ | ⟨x, y, z, h1, h2, h3, h4, h5, h6⟩
    · refine Or.inl ⟨h1, fun a' b' c' v1 v2 v3 v4 v5 v6 => ?_⟩
      rcases dI_s a' b' c' v1 v2 v6 with d | ⟨rfl, rfl, rfl⟩
      · exact h2 a' b' c' v1 v2 v3 v4 v5 d
      · exact absurd ⟨v3, v4, v5⟩ hno
    · refine Or.inr ⟨x, y, z, h1, h2, h3, h4, h5, fun a' b' c' v1 v2 v3 v4 v5 v6 => ?_⟩
      rcases dI_s a' b' c' v1 v2 v6 with d | ⟨rfl, rfl, rfl⟩
      · exact h6 a' b' c' v1 v2 v3 v4 v5 d
      · exact absurd ⟨v3, v4, v5⟩ hno
  by_cases ta : tkn τ a = true
  · rw [if_pos ta, if_neg n10, htk b (by omega), zb_s]
    by_cases tb : tkn τ b = true
    · rw [if_pos tb, if_neg n10, htk c hc, zb_s]
      by_cases tc : tkn τ c = true
      · rw [if_pos tc, if_neg n10]
        have hx : bs (tI a b c) (tS a b c) := tI_b (by omega) (by omega) hc
        obtain ⟨r, τ2, q1, q2, q3⟩ := m_isB h hN1 hN2 hN hm hx
        show ∃ best' τ'', (if best = -1 then bX7_beginners_129 _ 0 (nI n) best (nI a) (nI b) (nI c) (tI a b c) τ' else if best ≤ tI a b c then _ else bX7_beginners_129 _ 0 (nI n) best (nI a) (nI b) (nI c) (tI a b c) τ') = _ ∧ _
        unfold bX7_beginners_129
        rw [q1, zb_s]
        rcases hi with ⟨h1, h2⟩ | ⟨x, y, z, h1, h2, h3, h4, h5, h6⟩
        · rw [if_pos h1]
          rcases q3 with ⟨rfl, g⟩ | ⟨rfl, g⟩
          · rw [if_neg n10]
            refine ⟨_, τ2, hk _ _, q2, Or.inr ⟨a, b, c, hv, hc, ⟨ta, tb, tc⟩, rfl, g, fun a' b' c' v1 v2 v3 v4 v5 v6 v7 => ?_⟩⟩
            rcases dI_s a' b' c' v1 v2 v6 with d | ⟨rfl, rfl, rfl⟩
            · exact absurd v7 (h2 a' b' c' v1 v2 v3 v4 v5 d)
            · unfold clx; omega
          · rw [if_pos rfl]
            refine ⟨_, τ2, hk _ _, q2, Or.inl ⟨h1, fun a' b' c' v1 v2 v3 v4 v5 v6 => ?_⟩⟩
            rcases dI_s a' b' c' v1 v2 v6 with d | ⟨rfl, rfl, rfl⟩
            · exact h2 a' b' c' v1 v2 v3 v4 v5 d
            · exact g
        · have hne : ¬ best = -1 := by rw [h4]; exact (tI_ne h1 h2).1
          rw [if_neg hne]
          by_cases cl : clx a b c x y z
          · have hlt := tI_lt hv h1 hc h2 cl
            rw [if_neg (show ¬ best ≤ tI a b c by rw [h4]; exact Int32.not_le.mpr hlt)]
            rcases q3 with ⟨rfl, g⟩ | ⟨rfl, g⟩
            · rw [if_neg n10]
              refine ⟨_, τ2, hk _ _, q2, Or.inr ⟨a, b, c, hv, hc, ⟨ta, tb, tc⟩, rfl, g, fun a' b' c' v1 v2 v3 v4 v5 v6 v7 => ?_⟩⟩
              rcases dI_s a' b' c' v1 v2 v6 with d | ⟨rfl, rfl, rfl⟩
              · have := h6 a' b' c' v1 v2 v3 v4 v5 d v7
                unfold clx at this cl ⊢
                omega
              · unfold clx; omega
            · rw [if_pos rfl]
              refine ⟨_, τ2, hk _ _, q2, Or.inr ⟨x, y, z, h1, h2, h3, h4, h5, fun a' b' c' v1 v2 v3 v4 v5 v6 v7 => ?_⟩⟩
              rcases dI_s a' b' c' v1 v2 v6 with d | ⟨rfl, rfl, rfl⟩
              · exact h6 a' b' c' v1 v2 v3 v4 v5 d v7
              · exact absurd v7 g
          · have hge : tI x y z ≤ tI a b c := by
              rcases clx_3 n (a := a) (b := b) (c := c) (a' := x) (b' := y) (c' := z) with w | ⟨rfl, rfl, rfl⟩ | w
              · exact absurd w cl
              · exact Int32.le_refl _
              · exact Int32.le_of_lt (tI_lt h1 hv h2 hc w)
            rw [if_pos (show best ≤ tI a b c by rw [h4]; exact hge)]
            refine ⟨_, τ', rfl, hm, Or.inr ⟨x, y, z, h1, h2, h3, h4, h5, fun a' b' c' v1 v2 v3 v4 v5 v6 v7 => ?_⟩⟩
            rcases dI_s a' b' c' v1 v2 v6 with d | ⟨rfl, rfl, rfl⟩
            · exact h6 a' b' c' v1 v2 v3 v4 v5 d v7
            · exact cl
      · rw [if_neg tc, if_pos rfl]
        exact ⟨best, τ', rfl, hm, skip (fun w => tc w.2.2)⟩
    · rw [if_neg tb, if_pos rfl]
      exact ⟨best, τ', rfl, hm, skip (fun w => tb w.2.1)⟩
  · rw [if_neg ta, if_pos rfl]
    exact ⟨best, τ', rfl, hm, skip (fun w => ta w.1)⟩
end
