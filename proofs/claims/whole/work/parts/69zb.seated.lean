section
/-! ===== seated ===== -/
theorem loud_rep (f : Nat → Nat → Int32) : ∀ n, ∃ A B : Nat, A ≤ 24 * n ∧ B ≤ 24 * n ∧ loudN f n = nI A - nI B
  | 0 => ⟨0, 0, by omega, by omega, rfl⟩
  | n + 1 => by
    obtain ⟨A, B, h1, h2, h3⟩ := loud_rep f n
    have c1 := cn_le (fun s => decide (f n s = 1)) 24
    have c2 := cn_le (fun s => decide (f n s = 2)) 24
    refine ⟨A + cn (fun s => decide (f n s = 1)) 24, B + cn (fun s => decide (f n s = 2)) 24, by omega, by omega, ?_⟩
    show loudN f n + nI (cn (fun s => decide (f n s = 1)) 24) - nI (cn (fun s => decide (f n s = 2)) 24) = _
    rw [h3, ← nI_add A, ← nI_add B]
    generalize nI (cn (fun s => decide (f n s = 1)) 24) = x
    generalize nI (cn (fun s => decide (f n s = 2)) 24) = y
    generalize nI A = a
    generalize nI B = b
    rw [Int32.sub_eq_add_neg, Int32.sub_eq_add_neg, Int32.sub_eq_add_neg, Int32.neg_add, Int32.sub_eq_add_neg, Int32.add_assoc a, Int32.add_assoc a, Int32.add_assoc, ← Int32.add_assoc (-b), Int32.add_comm (-b) x, Int32.add_assoc]
    exact (Int32.add_assoc a x (-b + -y)).symm
def rep (x : Int32) : Prop := ∃ A B : Nat, A ≤ 960 ∧ B ≤ 960 ∧ x = nI A - nI B
def bet (ls : Bool) (x y : Int32) : Prop := if ls = true then x.toInt < y.toInt else y.toInt < x.toInt
def sgI (ls : Bool) : Int32 := if ls = true then -1 else 1
theorem bet_cmp (ls : Bool) {x y : Int32} (hx : rep x) (hy : rep y) : sgI ls * x ≤ sgI ls * y ↔ ¬ bet ls x y := by
  obtain ⟨A, B, a1, a2, rfl⟩ := hx
  obtain ⟨C, D, c1, c2, rfl⟩ := hy
  unfold bet sgI
  cases ls with
  | false =>
    rw [if_neg (by decide), if_neg (by decide), Int32.one_mul, Int32.one_mul, Int32.le_iff_toInt_le]
    omega
  | true =>
    rw [if_pos rfl, if_pos rfl, ← Int32.neg_eq_neg_one_mul, ← Int32.neg_eq_neg_one_mul, Int32.neg_sub, Int32.neg_sub, Int32.le_iff_toInt_le, pk_sub_toInt (by omega) (by omega), pk_sub_toInt (by omega) (by omega), pk_sub_toInt (by omega) (by omega), pk_sub_toInt (by omega) (by omega)]
    omega
def Hs (τ : zS) (N k a b c : Nat) : Int32 := loudN (mE τ (hSet (nI k) (tS a b c) (τ.1 3)) noB) N
theorem Hs_rep {τ : zS} {N k a b c : Nat} (hN2 : N ≤ 40) : rep (Hs τ N k a b c) := by
  obtain ⟨A, B, h1, h2, h3⟩ := loud_rep (mE τ (hSet (nI k) (tS a b c) (τ.1 3)) noB) N
  exact ⟨A, B, by omega, by omega, h3⟩
def may (τ : zS) (k s : Nat) : Bool := tkn τ s && !decide (τ.1 3 s = nI (3 - k))
theorem may_t {τ : zS} {k s : Nat} (h : may τ k s = true) : ¬ τ.1 1 s = -1 ∧ ¬ τ.1 3 s = nI (3 - k) := by
  unfold may tkn at h
  simp only [Bool.and_eq_true, decide_eq_true_eq, Bool.not_eq_true', decide_eq_false_iff_not] at h
  exact h
theorem tS_may {τ : zS} {k a b c q : Nat} (h : may τ k a = true ∧ may τ k b = true ∧ may τ k c = true) (hq : tS a b c q = true) : ¬ τ.1 1 q = -1 ∧ ¬ τ.1 3 q = nI (3 - k) := by
  unfold tS at hq
  simp only [Bool.or_eq_true, decide_eq_true_eq] at hq
  rcases hq with (rfl | rfl) | rfl
  · exact may_t h.1
  · exact may_t h.2.1
  · exact may_t h.2.2
def RSS (τ : zS) (N k n : Nat) (ls : Bool) (r : Int32) : Prop := (r = -1 ∧ ∀ a b c, vd n a b c → c < 24 → may τ k a = true → may τ k b = true → may τ k c = true → False) ∨ (∃ a b c, vd n a b c ∧ c < 24 ∧ (may τ k a = true ∧ may τ k b = true ∧ may τ k c = true) ∧ r = tI a b c ∧ ∀ a' b' c', vd n a' b' c' → c' < 24 → may τ k a' = true → may τ k b' = true → may τ k c' = true → ¬ bet ls (Hs τ N k a' b' c') (Hs τ N k a b c) ∧ (clx a' b' c' a b c → bet ls (Hs τ N k a b c) (Hs τ N k a' b' c')))
theorem c_bs {σ τ : zS} (h : Rel σ τ) {N k n : Nat} (hN1 : 1 ≤ N) (hN2 : N ≤ 40) (hN : τ.1 0 1 = nI N) (hk : k = 1 ∨ k = 2) (ls : Bool) {pool : Int32} (hpb : bs pool (may τ k)) : ∀ (M a b c : Nat) (σ' : zS) (best gr : Int32), vd n a b c → c ≤ 24 → rkT n a b c ≤ 2500 → 2600 ≤ M + rkT n a b c → Rel σ' τ →
    ((best = -1 ∧ ∀ a' b' c', vd n a' b' c' → c' < 24 → may τ k a' = true → may τ k b' = true → may τ k c' = true → ¬ clx (cn (may τ k) a') (cn (may τ k) b') (cn (may τ k) c') a b c) ∨ (∃ x y z, vd n x y z ∧ z < 24 ∧ (may τ k x = true ∧ may τ k y = true ∧ may τ k z = true) ∧ best = tI x y z ∧ gr = sgI ls * Hs τ N k x y z ∧ clx (cn (may τ k) x) (cn (may τ k) y) (cn (may τ k) z) a b c ∧ ∀ a' b' c', vd n a' b' c' → c' < 24 → may τ k a' = true → may τ k b' = true → may τ k c' = true → clx (cn (may τ k) a') (cn (may τ k) b') (cn (may τ k) c') a b c → ¬ bet ls (Hs τ N k a' b' c') (Hs τ N k x y z) ∧ (clx a' b' c' x y z → bet ls (Hs τ N k x y z) (Hs τ N k a' b' c')))) →
    ∃ r σ'', fX6_bestSet_73 M 0 (nI k) pool ((1 : Int32) <<< (nI (cn (may τ k) 24) &&& 31)) (sgI ls) best gr (tI a b c) (nI (rkT n a b c)) σ' = some (r, σ'') ∧ Rel σ'' τ ∧ RSS τ N k n ls r := by
  have hm := cn_le (may τ k) 24
  intro M
  induction M with
  | zero => intro a b c σ' best gr _ _ h1 h2; omega
  | succ M ih =>
    intro a b c σ' best gr hv hc hr hM hR hinv
    show ∃ r σ'', bX6_bestSet_73 (fX6_bestSet_73 M) 0 (nI k) pool _ (sgI ls) best gr (tI a b c) (nI (rkT n a b c)) σ' = _ ∧ _
    unfold bX6_bestSet_73 bX6_bestSet_121 bX6_bestSet_129
    rw [if_neg (geL 3000 (3000 : Int32) rfl (show rkT n a b c < 3000 by omega) (by omega))]
    by_cases e : cn (may τ k) 24 ≤ c
    · rw [if_pos ((end_le hv hc hm).mpr e)]
      have bef : ∀ c', c' < 24 → may τ k c' = true → ∀ a' b', clx (cn (may τ k) a') (cn (may τ k) b') (cn (may τ k) c') a b c := fun c' q1 q2 a' b' => Or.inl (by have := cn_s (may τ k) q1 q2; omega)
      refine ⟨best, σ', rfl, hR, ?_⟩
      rcases hinv with ⟨g1, g2⟩ | ⟨x, y, z, g1, g2, g3, g4, g5, g6, g7⟩
      · exact Or.inl ⟨g1, fun a' b' c' v1 v2 v3 v4 v5 => g2 a' b' c' v1 v2 v3 v4 v5 (bef c' v2 v5 a' b')⟩
      · exact Or.inr ⟨x, y, z, g1, g2, g3, g4, fun a' b' c' v1 v2 v3 v4 v5 => g7 a' b' c' v1 v2 v3 v4 v5 (bef c' v2 v5 a' b')⟩
    · rw [if_neg (fun w => e ((end_le hv hc hm).mp w))]
      obtain ⟨s1, s2, s3, w1, w2, w3, ⟨w4, w5, w6⟩, w7⟩ := c_spr hpb hv (by omega) σ'
      have hle := vd_le w1
      have hc24 : c < 24 := by omega
      rw [w7, zb_s]
      obtain ⟨σ1, q1, q2, q3, q4⟩ := c_hw hR hN1 hN2 hN hk (tI_b (show s1 < 24 by omega) (show s2 < 24 by omega) w2) (fun q _ hb => tS_may w3 hb)
      rw [q1, zb_s, bnd_e]
      have eH : loudN (mE τ (hSet (nI k) (tS s1 s2 s3) (τ.1 3)) noB) N = Hs τ N k s1 s2 s3 := rfl
      rw [eH]
      obtain ⟨k1, k2⟩ := rk_e hv hc24
      simp only [c_next hv hc24, zb_s]
      rw [nI_1, ← k1]
      have hc25 : nxC n a b c ≤ 24 := by unfold nxC; split <;> (try split) <;> (try split) <;> (try split) <;> omega
      -- what comes before the next: what came before, and this one
      have bef : ∀ a' b' c', vd n a' b' c' → may τ k a' = true → may τ k b' = true → may τ k c' = true → clx (cn (may τ k) a') (cn (may τ k) b') (cn (may τ k) c') (nxA n a b c) (nxB n a b c) (nxC n a b c) → clx (cn (may τ k) a') (cn (may τ k) b') (cn (may τ k) c') a b c ∨ (a' = s1 ∧ b' = s2 ∧ c' = s3) := by
        intro a' b' c' v1 v3 v4 v5 v6
        rcases nx_clx hv (vd_cn v1 v3 v4 v5) v6 with v | ⟨v7, v8, v9⟩
        · exact Or.inl v
        · exact Or.inr ⟨(cn_eq (may τ k) v3 w3.1).mp (by omega), (cn_eq (may τ k) v4 w3.2.1).mp (by omega), (cn_eq (may τ k) v5 w3.2.2).mp (by omega)⟩
      have nxt : clx a b c (nxA n a b c) (nxB n a b c) (nxC n a b c) := by
        unfold clx nxA nxB nxC
        rcases hv with ⟨rfl, rfl, rfl⟩ | ⟨rfl, h1, rfl⟩ | ⟨rfl, h1, h2⟩
        · simp
        · by_cases e : a + 1 < b <;> simp [e]
        · by_cases e : a + 1 < b
          · simp [e]
          · by_cases e2 : b + 1 < c <;> simp [e, e2]
      have upto : ∀ a' b' c', clx a' b' c' a b c → clx a' b' c' (nxA n a b c) (nxB n a b c) (nxC n a b c) := by
        intro a' b' c' q
        unfold clx at q nxt ⊢
        omega
      have hr2 : rkT n (nxA n a b c) (nxB n a b c) (nxC n a b c) ≤ 2500 := by omega
      have this : clx (cn (may τ k) s1) (cn (may τ k) s2) (cn (may τ k) s3) (nxA n a b c) (nxB n a b c) (nxC n a b c) := by rw [w4, w5, w6]; exact nxt
      rcases hinv with ⟨g1, g2⟩ | ⟨x, y, z, g1, g2, g3, g4, g5, g6, g7⟩
      · rw [if_pos g1]
        refine ih _ _ _ σ1 _ _ (nx_vd hv) hc25 hr2 (by omega) q3 (Or.inr ⟨s1, s2, s3, w1, w2, w3, rfl, rfl, this, fun a' b' c' v1 v2 v3 v4 v5 v6 => ?_⟩)
        rcases bef a' b' c' v1 v3 v4 v5 v6 with v | ⟨rfl, rfl, rfl⟩
        · exact absurd v (g2 a' b' c' v1 v2 v3 v4 v5)
        · refine ⟨?_, fun q => ?_⟩
          · unfold bet; split <;> omega
          · unfold clx at q; omega
      · have hne : ¬ best = -1 := by rw [g4]; exact (tI_ne g1 g2).1
        rw [if_neg hne, g5]
        have cmp := bet_cmp ls (Hs_rep (τ := τ) (k := k) (a := s1) (b := s2) (c := s3) hN2) (Hs_rep (τ := τ) (k := k) (a := x) (b := y) (c := z) hN2)
        by_cases bb : bet ls (Hs τ N k s1 s2 s3) (Hs τ N k x y z)
        · rw [if_neg (fun w => (cmp.mp w) bb)]
          refine ih _ _ _ σ1 _ _ (nx_vd hv) hc25 hr2 (by omega) q3 (Or.inr ⟨s1, s2, s3, w1, w2, w3, rfl, rfl, this, fun a' b' c' v1 v2 v3 v4 v5 v6 => ?_⟩)
          rcases bef a' b' c' v1 v3 v4 v5 v6 with v | ⟨rfl, rfl, rfl⟩
          · have := (g7 a' b' c' v1 v2 v3 v4 v5 v).1
            unfold bet at this bb ⊢
            refine ⟨?_, fun _ => ?_⟩ <;> (split <;> simp_all <;> omega)
          · refine ⟨?_, fun q => ?_⟩
            · unfold bet; split <;> omega
            · unfold clx at q; omega
        · rw [if_pos (cmp.mpr bb)]
          refine ih _ _ _ σ1 _ _ (nx_vd hv) hc25 hr2 (by omega) q3 (Or.inr ⟨x, y, z, g1, g2, g3, g4, rfl, upto _ _ _ g6, fun a' b' c' v1 v2 v3 v4 v5 v6 => ?_⟩)
          rcases bef a' b' c' v1 v3 v4 v5 v6 with v | ⟨rfl, rfl, rfl⟩
          · exact g7 a' b' c' v1 v2 v3 v4 v5 v
          · refine ⟨bb, fun q => ?_⟩
            have q2 := (clx_cn (P := may τ k) v3 v4 v5 g3.1 g3.2.1 g3.2.2).mpr q
            rw [w4, w5, w6] at q2
            unfold clx at q2 g6
            omega
end
