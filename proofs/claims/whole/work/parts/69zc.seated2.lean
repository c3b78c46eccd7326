section
def lsT (τ : zS) (N k : Nat) : Bool := decide (cn (fun t => decide (τ.1 6 (40 * k + t) = 1)) N < cn (fun t => decide (τ.1 6 (40 * k + t) = 2)) N)
theorem c_best {σ τ : zS} (h : Rel σ τ) {N k n : Nat} (hN1 : 1 ≤ N) (hN2 : N ≤ 40) (hN : τ.1 0 1 = nI N) (hk : k = 1 ∨ k = 2) (hn1 : 1 ≤ n) (hn3 : n ≤ 3) : ∃ r σ'', fX6_bestSet 0 (nI k) (nI n) σ = some (r, σ'') ∧ Rel σ'' τ ∧ RSS τ N k n (lsT τ N k) r := by
  obtain ⟨hco, hca, hfr⟩ := id h
  obtain ⟨hR, -, hM, hcr, -, hpl, -⟩ := id hco
  obtain ⟨N', m1, m2, m3, m4⟩ := core_N hco
  have : N' = N := (nI_eq (by omega) (by omega)).mp (m4.symm.trans hN)
  subst this
  obtain ⟨x, x1, x2⟩ := c_paidBy hco (k := 3 - k) (by omega)
  have hpb : bs (σ.1 5 1 &&& (x ^^^ (-1 : Int32))) (may τ k) := bs_but (cr_p hcr) x2
  have pl : ∀ t, t < N' → σ.1 (168 + k) t = τ.1 6 (40 * k + t) := fun t ht => by
    obtain ⟨p1, p2, -⟩ := hpl t (by omega)
    rcases hk with rfl | rfl
    · exact p1
    · exact p2
  have cnp : ∀ v : Int32, cn (fun t => decide (σ.1 (168 + k) t = v)) N' = cn (fun t => decide (τ.1 6 (40 * k + t) = v)) N' := fun v => cn_cong (fun t ht => by rw [pl t ht])
  have c1 := cn_le (fun t => decide (τ.1 6 (40 * k + t) = 1)) N'
  have c2 := cn_le (fun t => decide (τ.1 6 (40 * k + t) = 2)) N'
  unfold fX6_bestSet
  rw [bnd_e, cr_ hR 0 0 1 rfl (by decide), bnd_e, cr_ hR 1 0 5 rfl (by decide), bnd_e, bnd_e, cr_ hR 1 0 5 rfl (by decide), show (3 : Int32) - nI k = nI (3 - k) from pk_sub (a := 3) (by omega), x1, zb_s, bnd_e, f_bc hpb, zb_s, bnd_e, c_planned hR hN2 m3 hk, zb_s, c_planned hR hN2 m3 hk, zb_s, cnp, cnp]
  have go : ∀ s0, s0 = sgI (lsT τ N' k) → ∃ r σ'', bX6_bestSet_55 0 (nI k) (nI n) (σ.1 5 1 &&& (x ^^^ (-1 : Int32))) ((1 : Int32) <<< (nI (cn (may τ k) 24) &&& 31)) s0 σ = some (r, σ'') ∧ Rel σ'' τ ∧ RSS τ N' k n (lsT τ N' k) r := by
    intro s0 hs0
    subst hs0
    unfold bX6_bestSet_55
    rw [bnd_e]
    rcases (show n = 1 ∨ n = 2 ∨ n = 3 by omega) with rfl | rfl | rfl
    · rw [tI_st.1]
      exact c_bs h hN1 hN2 hN hk (lsT τ N' k) hpb zFU 0 0 0 σ (-1) 0 (Or.inl ⟨rfl, rfl, rfl⟩) (by omega) (by decide) (by unfold zFU; omega) h (Or.inl ⟨rfl, fun a' b' c' _ _ _ _ _ q => by unfold clx at q; omega⟩)
    · rw [tI_st.2.1]
      exact c_bs h hN1 hN2 hN hk (lsT τ N' k) hpb zFU 0 1 1 σ (-1) 0 (Or.inr (Or.inl ⟨rfl, by omega, rfl⟩)) (by omega) (by decide) (by unfold zFU; omega) h (Or.inl ⟨rfl, fun a' b' c' v _ t1 t2 t3 q => by
        have := vd_cn v t1 t2 t3
        unfold clx at q
        unfold vd at this
        omega⟩)
    · rw [tI_st.2.2]
      exact c_bs h hN1 hN2 hN hk (lsT τ N' k) hpb zFU 0 1 2 σ (-1) 0 (Or.inr (Or.inr ⟨rfl, by omega, by omega⟩)) (by omega) (by decide) (by unfold zFU; omega) h (Or.inl ⟨rfl, fun a' b' c' v _ t1 t2 t3 q => by
        have := vd_cn v t1 t2 t3
        unfold clx at q
        unfold vd at this
        omega⟩)
  by_cases e : cn (fun t => decide (τ.1 6 (40 * k + t) = 2)) N' ≤ cn (fun t => decide (τ.1 6 (40 * k + t) = 1)) N'
  · rw [if_pos (nI_le e (by omega))]
    exact go 1 (by unfold sgI lsT; rw [decide_eq_false (by omega)]; rfl)
  · rw [if_neg (nI_ge (by omega) (by omega))]
    exact go (-1) (by unfold sgI lsT; rw [decide_eq_true (by omega)]; rfl)
/-! the reference tries -/
def INS (τ : zS) (N k n : Nat) (ls : Bool) (τ' : zS) (D : Nat → Nat → Nat → Prop) : Prop := (τ'.1 0 36 = 0 ∧ ∀ a b c, vd n a b c → c < 24 → may τ k a = true → may τ k b = true → may τ k c = true → ¬ D a b c) ∨ (∃ a b c, vd n a b c ∧ c < 24 ∧ (may τ k a = true ∧ may τ k b = true ∧ may τ k c = true) ∧ τ'.1 0 36 = tI a b c ∧ τ'.1 0 37 = Hs τ N k a b c ∧ ∀ a' b' c', vd n a' b' c' → c' < 24 → may τ k a' = true → may τ k b' = true → may τ k c' = true → D a' b' c' → ¬ bet ls (Hs τ N k a' b' c') (Hs τ N k a b c) ∧ (Hs τ N k a' b' c' = Hs τ N k a b c → ¬ clx a' b' c' a b c))
theorem INS_c {τ τ' : zS} {N k n : Nat} {ls : Bool} {D D' : Nat → Nat → Nat → Prop} (h : INS τ N k n ls τ' D) (hD : ∀ a b c, vd n a b c → c < 24 → D' a b c → D a b c) : INS τ N k n ls τ' D' := by
  rcases h with ⟨h1, h2⟩ | ⟨a, b, c, h1, h2, h3, h4, h5, h6⟩
  · exact Or.inl ⟨h1, fun a b c v1 v2 v3 v4 v5 v6 => h2 a b c v1 v2 v3 v4 v5 (hD a b c v1 v2 v6)⟩
  · exact Or.inr ⟨a, b, c, h1, h2, h3, h4, h5, fun a' b' c' v1 v2 v3 v4 v5 v6 => h6 a' b' c' v1 v2 v3 v4 v5 (hD a' b' c' v1 v2 v6)⟩
theorem m_tries {σ τ : zS} (h : core σ τ) {N k : Nat} (hN2 : N ≤ 40) (hN : τ.1 0 1 = nI N) (hk : k = 1 ∨ k = 2) {a b c : Nat} (hx : bs (tI a b c) (tS a b c)) (v3 : Int32) {τ0 : zS} (hm0 : mS τ τ0) : ∃ τ1, mS τ τ1 ∧ (∀ b, ¬ b = 33 → ¬ b = 34 → τ1.1 0 b = τ0.1 0 b) ∧ fX7_tries 0 (nI k) (tI a b c) v3 τ0 = (if (τ1.1 0 36) = 0 then (bX7_tries_115 (bX7_tries_120) 0 (tI a b c) (Hs τ N k a b c) τ1) else (if v3 = 0 then (if (τ1.1 0 37) < Hs τ N k a b c then (bX7_tries_115 (bX7_tries_120) 0 (tI a b c) (Hs τ N k a b c) τ1) else (bX7_tries_98 (bX7_tries_115 (bX7_tries_120)) (bX7_tries_120) 0 (tI a b c) (Hs τ N k a b c) τ1)) else (if (τ1.1 0 37) ≤ Hs τ N k a b c then (bX7_tries_98 (bX7_tries_115 (bX7_tries_120)) (bX7_tries_120) 0 (tI a b c) (Hs τ N k a b c) τ1) else (bX7_tries_115 (bX7_tries_120) 0 (tI a b c) (Hs τ N k a b c) τ1)))) := by
  have loop : ∀ (n s : Nat) (τ' : zS), s ≤ 24 → 24 < s + n → mS τ τ' → (∀ b, τ'.1 0 b = τ0.1 0 b) → (∀ q, q < s → τ'.1 21 q = hSet (nI k) (tS a b c) (τ.1 3) q) → ∃ τ2, mS τ τ2 ∧ (∀ b, τ2.1 0 b = τ0.1 0 b) ∧ (∀ q, q < 24 → τ2.1 21 q = hSet (nI k) (tS a b c) (τ.1 3) q) ∧ fX7_tries_3 n 0 (nI k) (tI a b c) v3 (nI s) τ' = bX7_tries_59 0 (tI a b c) v3 τ2 := by
    intro n
    induction n with
    | zero => intro s τ' p q; exact absurd q (by omega)
    | succ n ih =>
      intro s τ' h1 h2 hm hb hq
      have hM : mR τ'.2 := by rw [hm.2.2]; exact h.2.2.1
      show ∃ τ2, _ ∧ _ ∧ _ ∧ bX7_tries_3 (fX7_tries_3 n) 0 (nI k) (tI a b c) v3 (nI s) τ' = _
      unfold bX7_tries_3
      by_cases e : s = 24
      · subst e
        rw [if_pos (by decide)]
        exact ⟨τ', hm, hb, hq, rfl⟩
      · have hs : s < 24 := by omega
        have go : ∀ v, v = hSet (nI k) (tS a b c) (τ.1 3) s → ∃ τ2, mS τ τ2 ∧ (∀ b, τ2.1 0 b = τ0.1 0 b) ∧ (∀ q, q < 24 → τ2.1 21 q = hSet (nI k) (tS a b c) (τ.1 3) q) ∧ bX7_tries_52 (fX7_tries_3 n) 0 (nI k) (tI a b c) v3 (nI s) 21 (nI s) v τ' = bX7_tries_59 0 (tI a b c) v3 τ2 := by
          intro v hv
          unfold bX7_tries_52
          rw [zX_n hs (by omega), bnd_e, cl_n (by omega), nI_1]
          refine ih (s + 1) _ (by omega) (by omega) (hm.i2 (by omega)) (fun b => by rw [zI_ne (by omega)]; exact hb b) (fun q hq' => ?_)
          by_cases e : q = s
          · subst e; rw [zI_s]; exact hv
          · rw [zI_o (by omega)]; exact hq q (by omega)
        rw [if_neg (geL 24 (24 : Int32) rfl hs (by omega)), bnd_e, mm35 hM, bitB hx hs, bnd_e, mm6 hM, zX_n hs (by omega), bnd_e, zX_n hs (by omega), cl_n (by omega), hm.1 3 (by omega)]
        by_cases t : tS a b c s = true
        · rw [if_pos t, if_pos rfl]
          exact go _ (by unfold hSet; rw [if_pos t])
        · rw [if_neg t, if_neg (by decide)]
          by_cases p : τ.1 3 s = nI k
          · rw [if_pos p]
            exact go _ (by unfold hSet hWo; rw [if_neg t, if_pos p])
          · rw [if_neg p]
            exact go _ (by unfold hSet hWo; rw [if_neg t, if_neg p])
  obtain ⟨τ2, q1, q2, q3, q4⟩ := loop zFU 0 τ0 (by omega) (by unfold zFU; omega) hm0 (fun _ => rfl) (fun q hq => absurd hq (by omega))
  obtain ⟨τ3, w1, w2, w3, w4, w5⟩ := m_with h q1 q3 (fun q hq => hSet_v hk (core_pa h hq).1) hN2 hN 0
  rw [bt_0] at w5
  refine ⟨τ3, w1, fun b b1 b2 => by rw [w3 b b1 b2, q2 b], ?_⟩
  unfold fX7_tries
  rw [show fX7_tries_3 zFU 0 (nI k) (tI a b c) v3 0 τ0 = _ from q4]
  unfold bX7_tries_59
  rw [w5, zb_s]
  rfl
theorem toInt_ne {x y : Int32} (h : ¬ x = y) : ¬ x.toInt = y.toInt := fun q => h (Int32.toInt_inj.mp q)
theorem m_tr {σ τ : zS} (h : core σ τ) {N k n : Nat} (hN2 : N ≤ 40) (hN : τ.1 0 1 = nI N) (hk : k = 1 ∨ k = 2) {a b c : Nat} (hv : vd n a b c) (hc : c < 24) (hmy : may τ k a = true ∧ may τ k b = true ∧ may τ k c = true) (ls : Bool) {τ0 : zS} (hm0 : mS τ τ0) (hi : INS τ N k n ls τ0 (dI a b c)) : ∃ τ1, fX7_tries 0 (nI k) (tI a b c) (if ls = true then 1 else 0) τ0 = some ((), τ1) ∧ mS τ τ1 ∧ INS τ N k n ls τ1 (dI a b (c + 1)) := by
  have hle := vd_le hv
  obtain ⟨τ1, q1, q2, q3⟩ := m_tries h hN2 hN hk (tI_b (show a < 24 by omega) (show b < 24 by omega) hc) (if ls = true then 1 else 0) hm0
  rw [q3, q2 36 (by omega) (by omega), q2 37 (by omega) (by omega)]
  have dI_s : ∀ a' b' c', dI a b (c + 1) a' b' c' → dI a b c a' b' c' ∨ (a' = a ∧ b' = b ∧ c' = c) := by
    intro a' b' c' d
    unfold dI at d ⊢
    omega
  have take : bX7_tries_115 (bX7_tries_120) 0 (tI a b c) (Hs τ N k a b c) τ1 = some ((), zI (zI τ1 0 36 (tI a b c)) 0 37 (Hs τ N k a b c)) := rfl
  have leave : bX7_tries_119 (bX7_tries_120) 0 (tI a b c) (Hs τ N k a b c) τ1 = some ((), τ1) := rfl
  have tm : mS τ (zI (zI τ1 0 36 (tI a b c)) 0 37 (Hs τ N k a b c)) := (q1.i (by omega)).i (by omega)
  have t36 : (zI (zI τ1 0 36 (tI a b c)) 0 37 (Hs τ N k a b c)).1 0 36 = tI a b c := by rw [zI_o (by omega), zI_s]
  have t37 : (zI (zI τ1 0 36 (tI a b c)) 0 37 (Hs τ N k a b c)).1 0 37 = Hs τ N k a b c := zI_s
  rcases hi with ⟨g1, g2⟩ | ⟨x, y, z, g1, g2, g3, g4, g5, g6⟩
  · rw [if_pos g1, take]
    refine ⟨_, rfl, tm, Or.inr ⟨a, b, c, hv, hc, hmy, t36, t37, fun a' b' c' v1 v2 v3 v4 v5 v6 => ?_⟩⟩
    rcases dI_s a' b' c' v6 with d | ⟨rfl, rfl, rfl⟩
    · exact absurd d (g2 a' b' c' v1 v2 v3 v4 v5)
    · exact ⟨by unfold bet; split <;> omega, fun _ q => by unfold clx at q; omega⟩
  · rw [if_neg (by rw [g4]; exact (tI_ne g1 g2).2), g5]
    have r36 : τ1.1 0 36 = tI x y z := by rw [q2 36 (by omega) (by omega), g4]
    have r37 : τ1.1 0 37 = Hs τ N k x y z := by rw [q2 37 (by omega) (by omega), g5]
    -- the new one is taken
    have yes : (bet ls (Hs τ N k a b c) (Hs τ N k x y z) ∨ (Hs τ N k a b c = Hs τ N k x y z ∧ clx a b c x y z)) → INS τ N k n ls (zI (zI τ1 0 36 (tI a b c)) 0 37 (Hs τ N k a b c)) (dI a b (c + 1)) := by
      intro hb
      refine Or.inr ⟨a, b, c, hv, hc, hmy, t36, t37, fun a' b' c' v1 v2 v3 v4 v5 v6 => ?_⟩
      rcases dI_s a' b' c' v6 with d | ⟨rfl, rfl, rfl⟩
      · obtain ⟨f1, f2⟩ := g6 a' b' c' v1 v2 v3 v4 v5 d
        rcases hb with hb | ⟨hb1, hb2⟩
        · refine ⟨?_, fun q => ?_⟩
          · unfold bet at f1 hb ⊢
            split <;> simp_all <;> omega
          · exfalso
            rw [q] at f1
            exact f1 hb
        · rw [hb1]
          refine ⟨f1, fun q => ?_⟩
          have := f2 q
          unfold clx at this hb2 ⊢
          omega
      · exact ⟨by unfold bet; split <;> omega, fun _ q => by unfold clx at q; omega⟩
    -- the old one stays
    have no : ¬ bet ls (Hs τ N k a b c) (Hs τ N k x y z) → (Hs τ N k a b c = Hs τ N k x y z → ¬ clx a b c x y z) → INS τ N k n ls τ1 (dI a b (c + 1)) := by
      intro n1 n2
      refine Or.inr ⟨x, y, z, g1, g2, g3, r36, r37, fun a' b' c' v1 v2 v3 v4 v5 v6 => ?_⟩
      rcases dI_s a' b' c' v6 with d | ⟨rfl, rfl, rfl⟩
      · exact g6 a' b' c' v1 v2 v3 v4 v5 d
      · exact ⟨n1, n2⟩
    have p98 : ¬ bet ls (Hs τ N k a b c) (Hs τ N k x y z) → ∃ τ2, bX7_tries_98 (bX7_tries_115 (bX7_tries_120)) (bX7_tries_120) 0 (tI a b c) (Hs τ N k a b c) τ1 = some ((), τ2) ∧ mS τ τ2 ∧ INS τ N k n ls τ2 (dI a b (c + 1)) := by
      intro nb
      unfold bX7_tries_98
      rw [r37, r36, take, leave]
      by_cases eH : Hs τ N k a b c = Hs τ N k x y z
      · rw [if_pos eH]
        by_cases cl : clx a b c x y z
        · rw [if_neg (Int32.not_le.mpr (tI_lt hv g1 hc g2 cl))]
          exact ⟨_, rfl, tm, yes (Or.inr ⟨eH, cl⟩)⟩
        · have hge : tI x y z ≤ tI a b c := by
            rcases clx_3 n (a := a) (b := b) (c := c) (a' := x) (b' := y) (c' := z) with w | ⟨rfl, rfl, rfl⟩ | w
            · exact absurd w cl
            · exact Int32.le_refl _
            · exact Int32.le_of_lt (tI_lt g1 hv g2 hc w)
          rw [if_pos hge]
          exact ⟨_, rfl, q1, no nb (fun _ => cl)⟩
      · rw [if_neg eH]
        exact ⟨_, rfl, q1, no nb (fun w => absurd w eH)⟩
    cases ls with
    | false =>
      rw [if_pos (show (if false = true then (1 : Int32) else 0) = 0 from rfl)]
      by_cases lt : Hs τ N k x y z < Hs τ N k a b c
      · rw [if_pos lt, take]
        exact ⟨_, rfl, tm, yes (Or.inl (by unfold bet; rw [if_neg (by decide)]; exact Int32.lt_iff_toInt_lt.mp lt))⟩
      · rw [if_neg lt]
        exact p98 (by unfold bet; rw [if_neg (by decide)]; exact fun w => lt (Int32.lt_iff_toInt_lt.mpr w))
    | true =>
      rw [if_neg (show ¬ (if true = true then (1 : Int32) else 0) = 0 by decide)]
      by_cases le : Hs τ N k x y z ≤ Hs τ N k a b c
      · rw [if_pos le]
        refine p98 ?_
        unfold bet
        rw [if_pos rfl]
        have := Int32.le_iff_toInt_le.mp le
        omega
      · rw [if_neg le, take]
        refine ⟨_, rfl, tm, yes (Or.inl ?_)⟩
        unfold bet
        rw [if_pos rfl]
        have : ¬ (Hs τ N k x y z).toInt ≤ (Hs τ N k a b c).toInt := fun w => le (Int32.le_iff_toInt_le.mpr w)
        omega
end
