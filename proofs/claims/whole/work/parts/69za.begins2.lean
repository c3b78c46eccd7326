section
def okab (n a b : Nat) : Prop := (n = 1 ∧ a = b) ∨ ((n = 2 ∨ n = 3) ∧ a < b)
section
variable {σ τ : zS} {N n : Nat}
theorem m_b58 (h : core σ τ) (hN1 : 1 ≤ N) (hN2 : N ≤ 40) (hN : τ.1 0 1 = nI N) (hn3 : n ≤ 3) {a b : Nat} (hab : okab n a b) (hb : b < 24) (k24 : Nat → Int32 → Int32 → Int32 → Int32 → zS → Option (Int32 × zS)) : ∀ (M c : Nat) (best : Int32) (τ' : zS), (if n ≤ 2 then b else b + 1) ≤ c → c ≤ (if n ≤ 2 then b + 1 else 24) → 24 < c + M → mS τ τ' → INB τ N n best (dI a b c) → ∃ best' τ'', fX7_beginners_58 k24 M 0 (nI n) best (nI a) (nI b) (nI c) τ' = k24 0 (nI n) best' (nI a) (nI (b + 1)) τ'' ∧ mS τ τ'' ∧ INB τ N n best' (dI a (b + 1) 0) := by
  intro M
  induction M with
  | zero => intro c best τ' h1 h2 h3; exact absurd h3 (by split at h2 <;> omega)
  | succ M ih =>
    intro c best τ' h1 h2 h3 hm hi
    show ∃ best' τ'', bX7_beginners_58 k24 (fX7_beginners_58 k24 M) 0 (nI n) best (nI a) (nI b) (nI c) τ' = _ ∧ _
    unfold bX7_beginners_58
    have e2 : nI n ≤ (2 : Int32) ↔ n ≤ 2 := nI_leI (b := 2) (by omega) (by omega)
    have done : c = (if n ≤ 2 then b + 1 else 24) → ∀ s1 : Int32, s1 ≤ nI c → ∃ best' τ'', bX7_beginners_74 k24 (fX7_beginners_58 k24 M) 0 (nI n) best (nI a) (nI b) (nI c) (nI c) s1 τ' = k24 0 (nI n) best' (nI a) (nI (b + 1)) τ'' ∧ mS τ τ'' ∧ INB τ N n best' (dI a (b + 1) 0) := by
      intro ec s1 hs
      unfold bX7_beginners_74 bX7_beginners_147
      rw [if_pos hs, nI_1]
      refine ⟨best, τ', rfl, hm, INB_c hi (fun a' b' c' v1 v2 d => ?_)⟩
      unfold dI at d ⊢
      unfold vd at v1
      split at ec <;> omega
    have more : ¬ c = (if n ≤ 2 then b + 1 else 24) → ∀ s1 : Int32, ¬ s1 ≤ nI c → ∃ best' τ'', bX7_beginners_74 k24 (fX7_beginners_58 k24 M) 0 (nI n) best (nI a) (nI b) (nI c) (nI c) s1 τ' = k24 0 (nI n) best' (nI a) (nI (b + 1)) τ'' ∧ mS τ τ'' ∧ INB τ N n best' (dI a (b + 1) 0) := by
      intro ec s1 hs
      have hv : vd n a b c := by
        unfold vd
        unfold okab at hab
        split at h1 <;> split at h2 <;> split at ec <;> omega
      have hc : c < 24 := by split at h2 <;> split at ec <;> omega
      obtain ⟨b1, τ1, q1, q2, q3⟩ := m_bg1 h hN1 hN2 hN hv hc hm hi k24 (fX7_beginners_58 k24 M) s1 hs
      rw [q1]
      exact ih (c + 1) b1 τ1 (by split at h1 <;> split <;> omega) (by split at h2 <;> split at ec <;> split <;> omega) (by omega) q2 q3
    by_cases c2 : n ≤ 2
    · rw [if_pos (e2.mpr c2), nI_1]
      rw [if_pos c2] at h2
      by_cases ec : c = b + 1
      · exact done (by rw [if_pos c2]; exact ec) _ (nI_le (by omega) (by omega))
      · exact more (by rw [if_pos c2]; exact ec) _ (nI_ge (by omega) (by omega))
    · rw [if_neg (fun w => c2 (e2.mp w))]
      rw [if_neg c2] at h2
      by_cases ec : c = 24
      · exact done (by rw [if_neg c2]; exact ec) _ (nI_le (a := 24) (by omega) (by omega))
      · exact more (by rw [if_neg c2]; exact ec) _ (geL 24 (24 : Int32) rfl (by omega) (by omega))
theorem m_b24 (h : core σ τ) (hN1 : 1 ≤ N) (hN2 : N ≤ 40) (hN : τ.1 0 1 = nI N) (hn1 : 1 ≤ n) (hn3 : n ≤ 3) {a : Nat} (ha : a < 24) (k4 : Nat → Int32 → Int32 → Int32 → zS → Option (Int32 × zS)) : ∀ (M b : Nat) (best : Int32) (τ' : zS), (if n ≤ 1 then a else a + 1) ≤ b → b ≤ (if n ≤ 1 then a + 1 else 24) → 24 < b + M → mS τ τ' → INB τ N n best (dI a b 0) → ∃ best' τ'', fX7_beginners_24 k4 M 0 (nI n) best (nI a) (nI b) τ' = k4 0 (nI n) best' (nI (a + 1)) τ'' ∧ mS τ τ'' ∧ INB τ N n best' (dI (a + 1) 0 0) := by
  intro M
  induction M with
  | zero => intro b best τ' h1 h2 h3; exact absurd h3 (by split at h2 <;> omega)
  | succ M ih =>
    intro b best τ' h1 h2 h3 hm hi
    show ∃ best' τ'', bX7_beginners_24 k4 (fX7_beginners_24 k4 M) 0 (nI n) best (nI a) (nI b) τ' = _ ∧ _
    unfold bX7_beginners_24
    have e1 : nI n ≤ (1 : Int32) ↔ n ≤ 1 := nI_leI (b := 1) (by omega) (by omega)
    have e2 : nI n ≤ (2 : Int32) ↔ n ≤ 2 := nI_leI (b := 2) (by omega) (by omega)
    have done : b = (if n ≤ 1 then a + 1 else 24) → ∀ s1 : Int32, s1 ≤ nI b → ∃ best' τ'', bX7_beginners_39 k4 (fX7_beginners_24 k4 M) 0 (nI n) best (nI a) (nI b) (nI b) s1 τ' = k4 0 (nI n) best' (nI (a + 1)) τ'' ∧ mS τ τ'' ∧ INB τ N n best' (dI (a + 1) 0 0) := by
      intro ec s1 hs
      unfold bX7_beginners_39 bX7_beginners_153
      rw [if_pos hs, nI_1]
      refine ⟨best, τ', rfl, hm, INB_c hi (fun a' b' c' v1 v2 d => ?_)⟩
      unfold dI at d ⊢
      unfold vd at v1
      split at ec <;> omega
    have more : ¬ b = (if n ≤ 1 then a + 1 else 24) → ∀ s1 : Int32, ¬ s1 ≤ nI b → ∃ best' τ'', bX7_beginners_39 k4 (fX7_beginners_24 k4 M) 0 (nI n) best (nI a) (nI b) (nI b) s1 τ' = k4 0 (nI n) best' (nI (a + 1)) τ'' ∧ mS τ τ'' ∧ INB τ N n best' (dI (a + 1) 0 0) := by
      intro ec s1 hs
      have hab : okab n a b := by
        unfold okab
        split at h1 <;> split at h2 <;> split at ec <;> omega
      have hb : b < 24 := by split at h2 <;> split at ec <;> omega
      unfold bX7_beginners_39 bX7_beginners_56
      rw [if_neg hs]
      have st : ∀ c, c = (if n ≤ 2 then b else b + 1) → ∃ best' τ'', fX7_beginners_58 (fX7_beginners_24 k4 M) zFU 0 (nI n) best (nI a) (nI b) (nI c) τ' = k4 0 (nI n) best' (nI (a + 1)) τ'' ∧ mS τ τ'' ∧ INB τ N n best' (dI (a + 1) 0 0) := by
        intro c ec2
        obtain ⟨b1, τ1, q1, q2, q3⟩ := m_b58 h hN1 hN2 hN hn3 hab hb (fX7_beginners_24 k4 M) zFU c best τ' (by omega) (by rw [ec2]; split <;> omega) (by unfold zFU; omega) hm (INB_c hi (fun a' b' c' v1 v2 d => by
          unfold dI at d ⊢
          unfold vd at v1
          split at ec2 <;> omega))
        rw [q1]
        exact ih (b + 1) b1 τ1 (by split at h1 <;> split <;> omega) (by split at h2 <;> split at ec <;> split <;> omega) (by omega) q2 q3
      by_cases c2 : n ≤ 2
      · rw [if_pos (e2.mpr c2)]
        exact st b (by rw [if_pos c2])
      · rw [if_neg (fun w => c2 (e2.mp w)), nI_1]
        exact st (b + 1) (by rw [if_neg c2])
    by_cases c1 : n ≤ 1
    · rw [if_pos (e1.mpr c1), nI_1]
      rw [if_pos c1] at h2
      by_cases ec : b = a + 1
      · exact done (by rw [if_pos c1]; exact ec) _ (nI_le (by omega) (by omega))
      · exact more (by rw [if_pos c1]; exact ec) _ (nI_ge (by omega) (by omega))
    · rw [if_neg (fun w => c1 (e1.mp w))]
      rw [if_neg c1] at h2
      by_cases ec : b = 24
      · exact done (by rw [if_neg c1]; exact ec) _ (nI_le (a := 24) (by omega) (by omega))
      · exact more (by rw [if_neg c1]; exact ec) _ (geL 24 (24 : Int32) rfl (by omega) (by omega))
theorem m_beg (h : core σ τ) (hN1 : 1 ≤ N) (hN2 : N ≤ 40) (hN : τ.1 0 1 = nI N) (hn1 : 1 ≤ n) (hn3 : n ≤ 3) {τ0 : zS} (hm0 : mS τ τ0) : ∃ best τ'', fX7_beginners 0 (nI n) τ0 = some (best, τ'') ∧ mS τ τ'' ∧ INB τ N n best (dI 24 0 0) := by
  have loop : ∀ (M a : Nat) (best : Int32) (τ' : zS), a ≤ 24 → 24 < a + M → mS τ τ' → INB τ N n best (dI a 0 0) → ∃ best' τ'', fX7_beginners_4 M 0 (nI n) best (nI a) τ' = some (best', τ'') ∧ mS τ τ'' ∧ INB τ N n best' (dI 24 0 0) := by
    intro M
    induction M with
    | zero => intro a best τ' h1 h2; exact absurd h2 (by omega)
    | succ M ih =>
      intro a best τ' h1 h2 hm hi
      show ∃ best' τ'', bX7_beginners_4 (fX7_beginners_4 M) 0 (nI n) best (nI a) τ' = _ ∧ _
      unfold bX7_beginners_4 bX7_beginners_22
      have e1 : nI n ≤ (1 : Int32) ↔ n ≤ 1 := nI_leI (b := 1) (by omega) (by omega)
      by_cases e : a = 24
      · subst e
        rw [if_pos (by decide)]
        exact ⟨best, τ', rfl, hm, hi⟩
      · rw [if_neg (geL 24 (24 : Int32) rfl (by omega) (by omega))]
        have st : ∀ b, b = (if n ≤ 1 then a else a + 1) → ∃ best' τ'', fX7_beginners_24 (fX7_beginners_4 M) zFU 0 (nI n) best (nI a) (nI b) τ' = some (best', τ'') ∧ mS τ τ'' ∧ INB τ N n best' (dI 24 0 0) := by
          intro b eb
          obtain ⟨b1, τ1, q1, q2, q3⟩ := m_b24 h hN1 hN2 hN hn1 hn3 (a := a) (by omega) (fX7_beginners_4 M) zFU b best τ' (by omega) (by rw [eb]; split <;> omega) (by unfold zFU; omega) hm (INB_c hi (fun a' b' c' v1 v2 d => by
            unfold dI at d ⊢
            unfold vd at v1
            split at eb <;> omega))
          rw [q1]
          exact ih (a + 1) b1 τ1 (by omega) (by omega) q2 q3
        by_cases c1 : n ≤ 1
        · rw [if_pos (e1.mpr c1)]
          exact st a (by rw [if_pos c1])
        · rw [if_neg (fun w => c1 (e1.mp w)), nI_1]
          exact st (a + 1) (by rw [if_neg c1])
  exact loop zFU 0 (-1) τ0 (by omega) (by unfold zFU; omega) hm0 (Or.inl ⟨rfl, fun a b c _ _ _ _ _ d => by unfold dI at d; omega⟩)
theorem bg_same {r best : Int32} (h1 : RSC τ N n r) (h2 : INB τ N n best (dI 24 0 0)) : r = best := by
  have all : ∀ a b c, vd n a b c → c < 24 → dI 24 0 0 a b c := fun a b c v hc => Or.inl (by have := vd_le v; omega)
  rcases h1 with ⟨rfl, g1⟩ | ⟨a, b, c, v1, v2, v3, rfl, v5, v6⟩
  · rcases h2 with ⟨rfl, -⟩ | ⟨a, b, c, v1, v2, v3, rfl, v5, v6⟩
    · rfl
    · exact absurd v5 (g1 a b c v1 v2 v3.1 v3.2.1 v3.2.2)
  · rcases h2 with ⟨rfl, g1⟩ | ⟨a', b', c', w1, w2, w3, rfl, w5, w6⟩
    · exact absurd v5 (g1 a b c v1 v2 v3.1 v3.2.1 v3.2.2 (all a b c v1 v2))
    · have x1 := v6 a' b' c' w1 w2 w3.1 w3.2.1 w3.2.2 w5
      have x2 := w6 a b c v1 v2 v3.1 v3.2.1 v3.2.2 (all a b c v1 v2) v5
      rcases clx_3 n (a := a) (b := b) (c := c) (a' := a') (b' := b') (c' := c') with x | ⟨rfl, rfl, rfl⟩ | x
      · exact absurd x x2
      · rfl
      · exact absurd x x1
end
theorem o_begins (σ τ : zS) (h : Rel σ τ) : ∃ (r : Int32) (σ' τ' : zS), fX6_begins 0 σ = some (r, σ') ∧ fX7_begins 0 τ = some (r, τ') ∧ Rel σ' τ' := by
  obtain ⟨hco, hca, hfr⟩ := id h
  obtain ⟨hR, -, hM, hcr, -⟩ := id hco
  obtain ⟨N, N1, N2, N3, N4⟩ := core_N hco
  have hpb : bs (σ.1 5 1) (tkn τ) := cr_p hcr
  unfold fX6_begins fX7_begins
  rw [bnd_e, cr_ hR 0 0 1 rfl (by decide), bnd_e, cr_ hR 1 0 5 rfl (by decide), (show fX7_persons 0 τ = some (nI (cn (tkn τ) 24), τ) from m_persons hM), zb_s]
  have hz := bs_z hpb
  have hle := cn_le (tkn τ) 24
  by_cases z : cn (tkn τ) 24 = 0
  · rw [if_pos (hz.mpr z), if_pos (show nI (cn (tkn τ) 24) = 0 by rw [z]; rfl)]
    exact ⟨-1, σ, τ, rfl, rfl, h⟩
  · rw [if_neg (fun w => z (hz.mp w)), if_neg (show ¬ nI (cn (tkn τ) 24) = 0 from nI_ne0 (by omega) (by omega))]
    obtain ⟨r0, τ1, p1, p2, p3⟩ := m_isB hco N1 N2 N4 (mS.rf τ) bs_no
    obtain ⟨q0, σ1, w1, w2, w3, w4⟩ := c_least0 h N1 N2 N4
    rw [p1, zb_s]
    show ∃ (r : Int32) (σ' τ' : zS), bX6_begins_17 (fX6_begins_17 4999) 0 0 σ = _ ∧ _
    unfold bX6_begins_17
    rw [if_neg (by decide), show (0 : Int32) = nI 0 from rfl, w1, zb_s]
    have loop : ∀ (M M' n : Nat) (σ' τ' : zS), 1 ≤ n → n ≤ 4 → 4 < n + M → 4 < n + M' → Rel σ' τ → mS τ τ' → ∃ (r : Int32) (σ'' τ'' : zS), fX6_begins_17 M 0 (nI n) σ' = some (r, σ'') ∧ fX7_begins_21 M' 0 (nI n) τ' = some (r, τ'') ∧ Rel σ'' τ'' := by
      intro M
      induction M with
      | zero => intro M' n σ' τ' _ _ h3; omega
      | succ M ih =>
        intro M' n σ' τ' n1 n4 hM hM' hR' hm
        obtain ⟨M', rfl⟩ : ∃ m, M' = m + 1 := ⟨M' - 1, by omega⟩
        show ∃ (r : Int32) (σ'' τ'' : zS), bX6_begins_17 (fX6_begins_17 M) 0 (nI n) σ' = _ ∧ bX7_begins_21 (fX7_begins_21 M') 0 (nI n) τ' = _ ∧ _
        unfold bX6_begins_17 bX7_begins_21
        by_cases e : n = 4
        · subst e
          rw [if_pos (by decide), if_pos (by decide)]
          exact ⟨-2, σ', τ', rfl, rfl, Rel_m hR' hm⟩
        · have e3 : ¬ (3 : Int32) < nI n := nI_nlt (a := 3) (by omega) (by omega)
          rw [if_neg e3, if_neg e3]
          obtain ⟨r, σ2, x1, x2, x3, x4⟩ := c_least hR' N1 N2 N4 n1 (show n ≤ 3 by omega)
          obtain ⟨best, τ2, y1, y2, y3⟩ := m_beg hco N1 N2 N4 n1 (show n ≤ 3 by omega) hm
          have := bg_same x4 y3
          subst this
          rw [x1, zb_s, y1, zb_s, nI_1]
          by_cases g : r = -1
          · rw [if_pos g, if_pos g]
            exact ih M' (n + 1) σ2 τ2 (by omega) (by omega) (by omega) (by omega) x2 y2
          · rw [if_neg g, if_neg g]
            exact ⟨r, σ2, τ2, rfl, rfl, Rel_m x2 y2⟩
    rcases w4 with ⟨rfl, g⟩ | ⟨rfl, g⟩
    · rcases p3 with ⟨rfl, -⟩ | ⟨-, g2⟩
      · rw [if_neg (by decide), if_neg (by decide)]
        exact ⟨_, σ1, τ1, rfl, rfl, Rel_m w2 p2⟩
      · exact absurd g g2
    · rcases p3 with ⟨-, g2⟩ | ⟨rfl, -⟩
      · exact absurd g2 g
      · rw [if_pos rfl, if_pos (show (0 : Int32) = nI 0 from rfl)]
        exact loop 4999 zFU 1 σ1 τ1 (by omega) (by omega) (by omega) (by unfold zFU; omega) w2 p2
end
