/-! ===== the relation of class and reference ===== -/
def gsum (f : Nat → Int32) : Nat → Int32
  | 0 => 0
  | n + 1 => gsum f n + f n
def cPm (r : Nat → Nat → Nat) : Prop := ∃ p : Nat → Nat, (∀ j, j < 4 → r 156 j = 157 + 2 * p j) ∧ r 0 7 = 157 + 2 * p 4 ∧ (∀ j, j < 5 → p j < 5) ∧ ∀ i j, i < 5 → j < 5 → p i = p j → i = j
def kptP (σ τ : zS) (e : Nat) : Prop := ∃ N w : Nat, (1 ≤ N ∧ N ≤ 40 ∧ σ.1 (14 + 7 * e) 0 = nI N ∧ τ.1 29 e = nI N) ∧ (4 ≤ w ∧ w ≤ 8 ∧ τ.1 30 e = nI w ∧ pCrowd (σ.1 (17 + 7 * e)) (nI w) (fun q => τ.1 24 (24 * e + q)) (fun q => τ.1 25 (24 * e + q)) (fun q => τ.1 26 (24 * e + q))) ∧ (∀ t, t < 40 → σ.1 (15 + 7 * e) t = τ.1 27 (40 * e + t) ∧ σ.1 (16 + 7 * e) t = τ.1 28 (40 * e + t)) ∧ evB (fun t q => τ.1 23 (960 * e + 24 * t + q)) N (σ.1 (18 + 7 * e)) (σ.1 (19 + 7 * e)) ∧ σ.1 (13 + 7 * e) 4 = τ.1 31 e ∧ τ.1 32 e = gsum (fun t => τ.1 27 (40 * e + t)) N ∧ ∀ t, t < N → pOK (fun q => τ.1 24 (24 * e + q)) (fun q => τ.1 23 (960 * e + 24 * t + q))
def kepts (σ τ : zS) : Prop := ∃ K : Nat, K ≤ 20 ∧ σ.1 0 4 = nI K ∧ τ.1 0 39 = nI K ∧ ∀ e, e < K → kptP σ τ e
def core (σ τ : zS) : Prop := cR σ.2 ∧ cPm σ.2 ∧ mR τ.2 ∧ pCrowd (σ.1 5) (τ.1 0 0) (τ.1 1) (τ.1 2) (τ.1 3) ∧ pBill (σ.1 2 0) (σ.1 3) (σ.1 4) (τ.1 0 1) (τ.1 4) (τ.1 5) ∧ pPlan (σ.1 169) (σ.1 170) (τ.1 6) ∧ (σ.1 0 13 = τ.1 0 2 ∧ σ.1 0 14 = τ.1 0 3) ∧ pTape (σ.1 0 10) (σ.1 167) (τ.1 0 11) (τ.1 7) ∧ pSums (σ.1 171) (σ.1 172) (τ.1 22) ∧ cLaws σ (τ.1 13) (τ.1 14) (τ.1 15) (τ.1 16) (τ.1 17) ∧ kepts σ τ
/-- the evening of the reference's store, with those hired and those who begin -/
def mE (τ : zS) (H : Nat → Int32) (B : Nat → Bool) : Nat → Nat → Int32 := shw (τ.1 0 0).toNatClampNeg (τ.1 1) (τ.1 2) H (τ.1 4) (τ.1 5) (τ.1 6) (mLw τ) B
def noB : Nat → Bool := fun _ => false
def fresh (σ τ : zS) : Prop := σ.1 0 2 = 1 ∨ (σ.1 0 2 = 0 ∧ evB (mE τ (τ.1 3) noB) (τ.1 0 1).toNatClampNeg (σ.1 6) (σ.1 7) ∧ σ.1 1 4 = loudN (mE τ (τ.1 3) noB) (τ.1 0 1).toNatClampNeg)
def Rel (σ τ : zS) : Prop := core σ τ ∧ cCa σ ∧ fresh σ τ
/-! what may change when evenings are played -/
def mS (τ τ' : zS) : Prop := (∀ a, (1 ≤ a ∧ a ≤ 7) ∨ (13 ≤ a ∧ a ≤ 17) ∨ (22 ≤ a ∧ a ≤ 32) → τ'.1 a = τ.1 a) ∧ (∀ b, b ≤ 3 ∨ b = 11 ∨ b = 39 → τ'.1 0 b = τ.1 0 b) ∧ τ'.2 = τ.2
theorem mS.rf (τ : zS) : mS τ τ := ⟨fun _ _ => rfl, fun _ _ => rfl, rfl⟩
theorem mS.tr {a b c : zS} (h1 : mS a b) (h2 : mS b c) : mS a c := ⟨fun k q => (h2.1 k q).trans (h1.1 k q), fun k q => (h2.2.1 k q).trans (h1.2.1 k q), h2.2.2.trans h1.2.2⟩
theorem mS.of {a b : zS} (h : mSame a b) : mS a b := ⟨fun k q => h.1 k (by omega) (by omega) (by omega) (by omega), fun k q => h.2.1 k (by omega) (by omega), h.2.2⟩
theorem mS.a {a b : zS} (h : mS a b) {N : Nat} {F : Nat → Int32} (hN : N = 8 ∨ N = 9 ∨ N = 10 ∨ N = 11 ∨ N = 12 ∨ N = 18 ∨ N = 19 ∨ N = 20 ∨ N = 21 ∨ N = 33 ∨ N = 34 ∨ N = 35) : mS a (zA1 b N F) := ⟨fun k q => by rw [zA1_o (by omega)]; exact h.1 k q, fun k q => by rw [zA1_o (by omega)]; exact h.2.1 k q, h.2.2⟩
theorem mS.i {a b : zS} (h : mS a b) {k : Nat} {v : Int32} (hk : (12 ≤ k ∧ k ≤ 38)) : mS a (zI b 0 k v) := ⟨fun m q => by rw [zI_ne (by omega)]; exact h.1 m q, fun m q => by rw [zI_o (by omega)]; exact h.2.1 m q, h.2.2⟩
theorem mS.i2 {a b : zS} (h : mS a b) {N k : Nat} {v : Int32} (hN : N = 8 ∨ N = 9 ∨ N = 10 ∨ N = 11 ∨ N = 12 ∨ N = 18 ∨ N = 19 ∨ N = 20 ∨ N = 21 ∨ N = 33 ∨ N = 34 ∨ N = 35) : mS a (zI b N k v) := ⟨fun m q => by rw [zI_ne (by omega)]; exact h.1 m q, fun m q => by rw [zI_ne (by omega)]; exact h.2.1 m q, h.2.2⟩
def XP : Nat → Bool := fun a => decide (a = 0 ∨ a = 1 ∨ (6 ≤ a ∧ a ≤ 11) ∨ a = 153 ∨ a = 154 ∨ a = 155)
def cS (σ σ' : zS) : Prop := cSm XP σ σ' ∧ ∀ b, ¬ b = 2 → σ'.1 0 b = σ.1 0 b
theorem XP_f {a : Nat} (h : ¬ (a = 0 ∨ a = 1 ∨ (6 ≤ a ∧ a ≤ 11) ∨ a = 153 ∨ a = 154 ∨ a = 155)) : XP a = false := decide_eq_false h
theorem cS.rf (σ : zS) : cS σ σ := ⟨cSm.rf XP σ, fun _ _ => rfl⟩
theorem cS.tr {a b c : zS} (h1 : cS a b) (h2 : cS b c) : cS a c := ⟨h1.1.tr h2.1, fun k q => (h2.2 k q).trans (h1.2 k q)⟩
theorem mE_s {τ τ' : zS} (h : mS τ τ') (H : Nat → Int32) (B : Nat → Bool) : mE τ' H B = mE τ H B := by
  unfold mE mLw
  rw [h.1 1 (by omega), h.1 2 (by omega), h.1 4 (by omega), h.1 5 (by omega), h.1 6 (by omega), h.1 13 (by omega), h.1 14 (by omega), h.1 15 (by omega), h.1 16 (by omega), h.1 17 (by omega), h.2.1 0 (by omega)]
theorem kptP_s {σ σ' τ τ' : zS} (h1 : ∀ a, 13 ≤ a → a < 153 → σ'.1 a = σ.1 a) (h2 : ∀ a, 22 ≤ a ∧ a ≤ 32 → τ'.1 a = τ.1 a) {e : Nat} (he : e < 20) (h : kptP σ τ e) : kptP σ' τ' e := by
  unfold kptP
  rw [h1 (14 + 7 * e) (by omega) (by omega), h1 (17 + 7 * e) (by omega) (by omega), h1 (15 + 7 * e) (by omega) (by omega), h1 (16 + 7 * e) (by omega) (by omega), h1 (18 + 7 * e) (by omega) (by omega), h1 (19 + 7 * e) (by omega) (by omega), h1 (13 + 7 * e) (by omega) (by omega), h2 29 (by omega), h2 30 (by omega), h2 24 (by omega), h2 25 (by omega), h2 26 (by omega), h2 27 (by omega), h2 28 (by omega), h2 23 (by omega), h2 31 (by omega), h2 32 (by omega)]
  exact h
theorem core_s {σ σ' τ τ' : zS} (h : core σ τ) (hc : cS σ σ') (hm : mS τ τ') : core σ' τ' := by
  obtain ⟨h1, h2, h3, h4, h5, h6, h7, h8, h9, h10, ⟨K, k1, k2, k3, k4⟩⟩ := h
  refine ⟨hc.1.R h1, ?_, by rw [hm.2.2]; exact h3, ?_, ?_, ?_, ?_, ?_, ?_, ?_, ⟨K, k1, by rw [hc.2 4 (by decide)]; exact k2, by rw [hm.2.1 39 (by omega)]; exact k3, fun e he => kptP_s (fun a q1 q2 => hc.1.1 a (XP_f (by omega))) (fun a q => hm.1 a (by omega)) (by omega) (k4 e he)⟩⟩
  · obtain ⟨p, q1, q2, q3, q4⟩ := h2
    exact ⟨p, fun j hj => by rw [hc.1.2 156 j (by omega)]; exact q1 j hj, by rw [hc.1.2 0 7 (by omega)]; exact q2, q3, q4⟩
  · rw [hc.1.1 5 (XP_f (by omega)), hm.2.1 0 (by omega), hm.1 1 (by omega), hm.1 2 (by omega), hm.1 3 (by omega)]; exact h4
  · rw [hc.1.1 2 (XP_f (by omega)), hc.1.1 3 (XP_f (by omega)), hc.1.1 4 (XP_f (by omega)), hm.2.1 1 (by omega), hm.1 4 (by omega), hm.1 5 (by omega)]; exact h5
  · rw [hc.1.1 169 (XP_f (by omega)), hc.1.1 170 (XP_f (by omega)), hm.1 6 (by omega)]; exact h6
  · rw [hc.2 13 (by decide), hc.2 14 (by decide), hm.2.1 2 (by omega), hm.2.1 3 (by omega)]; exact h7
  · rw [hc.2 10 (by decide), hc.1.1 167 (XP_f (by omega)), hm.2.1 11 (by omega), hm.1 7 (by omega)]; exact h8
  · rw [hc.1.1 171 (XP_f (by omega)), hc.1.1 172 (XP_f (by omega)), hm.1 22 (by omega)]; exact h9
  · rw [hm.1 13 (by omega), hm.1 14 (by omega), hm.1 15 (by omega), hm.1 16 (by omega), hm.1 17 (by omega)]
    exact cLaws_s hc.1 (fun a q1 q2 => XP_f (by omega)) h10
/-- fresh stays where neither the evening now nor what it is made of changes -/
theorem fresh_s {σ σ' τ τ' : zS} (h : fresh σ τ) (h0 : σ'.1 0 2 = σ.1 0 2) (h1 : σ'.1 1 4 = σ.1 1 4) (h6 : σ'.1 6 = σ.1 6) (h7 : σ'.1 7 = σ.1 7) (hm : mS τ τ') : fresh σ' τ' := by
  unfold fresh
  rw [h0, h1, h6, h7, hm.1 3 (by omega), hm.2.1 1 (by omega), mE_s hm]
  exact h
/-- the reference's store is ready to be played -/
theorem core_mOK {σ τ : zS} (h : core σ τ) {τ' : zS} (hm : mS τ τ') (hH : ∀ q, q < 24 → ∃ k, k ≤ 2 ∧ τ'.1 21 q = nI k) : mOK τ' := by
  obtain ⟨h1, h2, h3, h4, ⟨⟨n, n1, n2, -, n4⟩, -⟩, h6, h7, h8, h9, h10, -⟩ := h
  refine ⟨by rw [hm.2.2]; exact h3, ?_, ⟨n, n1, n2, by rw [hm.2.1 1 (by omega)]; exact n4⟩, ?_, hH, ?_⟩
  · obtain ⟨⟨w, w1, w2, w3, -⟩, -⟩ := h4
    exact ⟨w, w1, w2, by rw [hm.2.1 0 (by omega)]; exact w3⟩
  · intro s hs
    rw [hm.1 1 (by omega)]
    exact cr_so h4 hs
  · intro j hj
    rw [hm.1 13 (by omega), hm.1 14 (by omega), hm.1 15 (by omega), hm.1 16 (by omega), hm.1 17 (by omega)]
    obtain ⟨m, -, -, q⟩ := h10 j hj
    exact lawC_M q
/-! ===== evenings do not look beyond the 24 seats ===== -/
theorem fct_c {w : Nat} {so kn hi hi' : Nat → Int32} {g : Int32} {pr pr' : Nat → Int32} {s t : Nat} (hs : s < 24) (h1 : ∀ q, q < 24 → hi q = hi' q) (h2 : ∀ q, q < 24 → pr q = pr' q) : fct w so kn hi g pr s t = fct w so kn hi' g pr' s t := by
  funext k
  unfold fct
  rw [h2 s hs, cn_cong (p := fun q => decide (¬ so q = -1) && (near w s q && decide (pr q = 1))) (q := fun q => decide (¬ so q = -1) && (near w s q && decide (pr' q = 1))) (fun q hq => by rw [h2 q hq]), cn_cong (p := fun q => decide (¬ so q = -1) && (near w s q && decide (pr q = 2))) (q := fun q => decide (¬ so q = -1) && (near w s q && decide (pr' q = 2))) (fun q hq => by rw [h2 q hq]), cn_cong (p := fun q => decide (¬ so q = -1) && decide (pr q = 1)) (q := fun q => decide (¬ so q = -1) && decide (pr' q = 1)) (fun q hq => by rw [h2 q hq]), cn_cong (p := fun q => decide (¬ so q = -1) && decide (pr q = 2)) (q := fun q => decide (¬ so q = -1) && decide (pr' q = 2)) (fun q hq => by rw [h2 q hq]), cn_cong (p := fun q => decide (¬ so q = -1) && (near w s q && decide (¬ hi q = 0))) (q := fun q => decide (¬ so q = -1) && (near w s q && decide (¬ hi' q = 0))) (fun q hq => by rw [h1 q hq])]
theorem act_c {w : Nat} {so kn hi hi' gk go pl : Nat → Int32} {lw : Int32 → (Nat → Int32) → Int32} {B B' : Nat → Bool} {pr pr' : Nat → Int32} {t s : Nat} (hs : s < 24) (h1 : ∀ q, q < 24 → hi q = hi' q) (hB : ∀ q, q < 24 → B q = B' q) (h2 : ∀ q, q < 24 → pr q = pr' q) : act w so kn hi gk go pl lw B pr t s = act w so kn hi' gk go pl lw B' pr' t s := by
  unfold act
  rw [h1 s hs, hB s hs, fct_c hs h1 h2]
theorem shw_c {w : Nat} {so kn hi hi' gk go pl : Nat → Int32} {lw : Int32 → (Nat → Int32) → Int32} {B B' : Nat → Bool} (h1 : ∀ q, q < 24 → hi q = hi' q) (hB : ∀ q, q < 24 → B q = B' q) : ∀ t s, s < 24 → shw w so kn hi gk go pl lw B t s = shw w so kn hi' gk go pl lw B' t s
  | 0, s, hs => act_c hs h1 hB (fun _ _ => rfl)
  | t + 1, s, hs => act_c hs h1 hB (fun q hq => shw_c h1 hB t q hq)
theorem loudN_c {f g : Nat → Nat → Int32} : ∀ n, (∀ t, t < n → ∀ s, s < 24 → f t s = g t s) → loudN f n = loudN g n
  | 0, _ => rfl
  | n + 1, h => by
    show loudN f n + nI (cn (fun s => decide (f n s = 1)) 24) - nI (cn (fun s => decide (f n s = 2)) 24) = loudN g n + nI (cn (fun s => decide (g n s = 1)) 24) - nI (cn (fun s => decide (g n s = 2)) 24)
    rw [loudN_c n (fun t ht => h t (by omega)), cn_cong (p := fun s => decide (f n s = 1)) (q := fun s => decide (g n s = 1)) (fun k hk => by rw [h n (by omega) k hk]), cn_cong (p := fun s => decide (f n s = 2)) (q := fun s => decide (g n s = 2)) (fun k hk => by rw [h n (by omega) k hk])]
theorem mE_c {τ : zS} {H H' : Nat → Int32} {B B' : Nat → Bool} (h1 : ∀ q, q < 24 → H q = H' q) (hB : ∀ q, q < 24 → B q = B' q) (t s : Nat) (hs : s < 24) : mE τ H B t s = mE τ H' B' t s := shw_c h1 hB t s hs
/-- the reference plays with those hired of its array 21 -/
theorem m_with {σ τ : zS} (h : core σ τ) {τ' : zS} (hm : mS τ τ') {H : Nat → Int32} (hH : ∀ q, q < 24 → τ'.1 21 q = H q) (hH2 : ∀ q, q < 24 → H q = 0 ∨ H q = 1 ∨ H q = 2) {N : Nat} (hN2 : N ≤ 40) (hN : τ.1 0 1 = nI N) (v : Int32) : ∃ τd, mS τ τd ∧ τd.1 21 = τ'.1 21 ∧ (∀ b, ¬ b = 33 → ¬ b = 34 → τd.1 0 b = τ'.1 0 b) ∧ (∀ t, t < N → ∀ q, q < 24 → τd.1 20 (24 * t + q) = mE τ H (bt v) t q) ∧ fX7_plays 0 v τ' = some (loudN (mE τ H (bt v)) N, τd) := by
  have hok := core_mOK h hm (fun q hq => by
    rw [hH q hq]
    rcases hH2 q hq with e | e | e
    · exact ⟨0, by omega, e⟩
    · exact ⟨1, by omega, e⟩
    · exact ⟨2, by omega, e⟩)
  obtain ⟨n, n1, n2, n3⟩ := hok.2.2.1
  have : n = N := by
    rw [hm.2.1 1 (by omega), hN] at n3
    exact ((nI_eq (by omega) (by omega)).mp n3).symm
  subst this
  obtain ⟨τd, hS, hT, hp⟩ := m_plays hok v n1 n2 n3
  have hE : mSh τ' (bt v) = mE τ' (τ'.1 21) (bt v) := rfl
  have hcong : ∀ t q, q < 24 → mSh τ' (bt v) t q = mE τ H (bt v) t q := fun t q hq => by
    rw [hE, mE_s hm]
    exact mE_c hH (fun _ _ => rfl) t q hq
  refine ⟨τd, hm.tr (mS.of hS), hS.1 21 (by decide) (by decide) (by decide) (by decide), hS.2.1, fun t ht q hq => by rw [hT t ht q hq]; exact hcong t q hq, ?_⟩
  rw [hp, loudN_c n (fun t _ s hs => hcong t s hs)]
