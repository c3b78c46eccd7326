theorem ltL (k : Nat) {i : Nat} (v : Int32) (hv : v = nI k) (h : i < k) (hk : k < 2 ^ 31) : nI i < v := by rw [hv]; exact nI_lt h hk
theorem nltL (k : Nat) {i : Nat} (v : Int32) (hv : v = nI k) (h : k ≤ i) (hk : i < 2 ^ 31) : ¬ nI i < v := by rw [hv]; exact nI_nlt h hk
/-! ===== the class asks: letters ===== -/
def lc (k : Nat) : Nat := match k with
  | 0 => 103
  | 1 => 110
  | 2 => 122
  | 3 => 97
  | 4 => 98
  | 5 => 112
  | 6 => 108
  | 7 => 116
  | 8 => 115
  | 9 => 119
  | 10 => 113
  | _ => 107
def pOK (so prev : Nat → Int32) : Prop := ∀ q, q < 24 → (prev q = 0 ∨ prev q = 1 ∨ prev q = 2) ∧ (so q = -1 → prev q = 0)
/-- the asker stands before second t of an evening -/
def std (σ : zS) (Cr w : Nat) (so kn hi : Nat → Int32) (gk go : Int32) (prev : Nat → Int32) (t : Nat) : Prop :=
  (σ.2 153 2 = Cr ∧ σ.2 153 1 = 155 ∧ σ.2 153 0 = 154) ∧ pCrowd (σ.1 Cr) (nI w) so kn hi ∧ (4 ≤ w ∧ w ≤ 8) ∧ σ.1 153 3 = nI w ∧ (∀ s, s < 24 → σ.1 155 s = nbr w s) ∧ σ.1 153 4 = nI t ∧ σ.1 153 5 = gk ∧ σ.1 153 6 = go ∧ bs (σ.1 153 7) (fun q => decide (prev q = 1)) ∧ bs (σ.1 153 8) (fun q => decide (prev q = 2)) ∧ pOK so prev
theorem std_A {σ : zS} {Cr w : Nat} {so kn hi : Nat → Int32} {gk go : Int32} {prev : Nat → Int32} {t : Nat} {A : Nat → Int32} (h : std σ Cr w so kn hi gk go prev t) (hc : ¬ Cr = 154) : std (zA1 σ 154 A) Cr w so kn hi gk go prev t := by
  unfold std
  rw [zA1_2, zA1_o hc, zA1_o (show ¬ (153 : Nat) = 154 by decide), zA1_o (show ¬ (155 : Nat) = 154 by decide)]
  exact h
theorem tk_and {so prev : Nat → Int32} (h : pOK so prev) {v : Int32} (hv : ¬ v = 0) {q : Nat} (hq : q < 24) : (decide (¬ so q = -1) && decide (prev q = v)) = decide (prev q = v) := by
  by_cases e : so q = -1
  · have z : decide ((0 : Int32) = v) = false := decide_eq_false (fun q => hv q.symm)
    rw [(h q hq).2 e, z, Bool.and_false]
  · rw [decide_eq_true e, Bool.true_and]
theorem c_letter {σ : zS} {Cr w : Nat} {so kn hi : Nat → Int32} {gk go : Int32} {prev : Nat → Int32} {t : Nat} (h : std σ Cr w so kn hi gk go prev t) {s : Nat} (hs : s < 24) (hso : ¬ so s = -1) {k : Nat} (hk : k < 12) : fX0_letter 153 (nI (lc k)) (nI s) σ = some (fct w so kn hi (if kn s = 1 then gk else go) prev s t k, σ) := by
  obtain ⟨⟨r2, r1, r0⟩, hc, ⟨hw1, hw2⟩, h3, h155, h4, h5, h6, h7, h8, hp⟩ := h
  unfold fX0_letter
  rw [if_neg (nI_pos (by omega)), if_pos (ltL 24 (24 : Int32) rfl hs (by omega))]
  simp only [bnd_e, r2, r1, h3, h4, h5, h6]
  rw [zX_n hs (by omega), zX_n hs (by omega), zX_n hs (by omega), cl_n (by omega), h155 s hs, f_bc h7, f_bc h8, f_bc (cr_p hc), f_bc (bs_and h7 (nbr_bs hw1 hw2 hs)), f_bc (bs_and h8 (nbr_bs hw1 hw2 hs)), f_bc (bs_and (bs_or (cr_1 hc) (cr_2 hc)) (nbr_bs hw1 hw2 hs)), bitB h7 hs, bitB h8 hs, bitT _ (by omega)]
  simp only [zb_s]
  have K := cr_kn hc hs hso
  have A1 : ∀ (v : Int32), ¬ v = 0 → cn (fun q => decide (¬ so q = -1) && decide (prev q = v)) 24 = cn (fun q => decide (prev q = v)) 24 := fun v hv => cn_cong (fun q hq => tk_and hp hv hq)
  have A2 : ∀ (v : Int32), ¬ v = 0 → cn (fun q => decide (¬ so q = -1) && (near w s q && decide (prev q = v))) 24 = cn (fun q => decide (prev q = v) && near w s q) 24 := fun v hv => cn_cong (fun q hq => by
    rw [Bool.and_comm (near w s q), ← Bool.and_assoc, tk_and hp hv hq])
  rcases (show k = 0 ∨ k = 1 ∨ k = 2 ∨ k = 3 ∨ k = 4 ∨ k = 5 ∨ k = 6 ∨ k = 7 ∨ k = 8 ∨ k = 9 ∨ k = 10 ∨ k = 11 by omega) with rfl | rfl | rfl | rfl | rfl | rfl | rfl | rfl | rfl | rfl | rfl | rfl
  · repeat rw [if_neg (by decide)]
    rw [if_pos (by decide)]
    show _ = some (if kn s = 1 then gk else go, σ)
    rcases K with ⟨k1, k2⟩ | ⟨k1, k2⟩ <;> rw [k1, k2] <;> rfl
  · repeat rw [if_neg (by decide)]
    rw [if_pos (by decide)]
    show _ = some (nI (cn _ 24), σ)
    rw [A2 1 (by decide)]
  · repeat rw [if_neg (by decide)]
    rw [if_pos (by decide)]
    show _ = some (nI (cn _ 24), σ)
    rw [A2 2 (by decide)]
  · repeat rw [if_neg (by decide)]
    rw [if_pos (by decide)]
    show _ = some (nI (cn _ 24), σ)
    rw [A1 1 (by decide)]
  · repeat rw [if_neg (by decide)]
    rw [if_pos (by decide)]
    show _ = some (nI (cn _ 24), σ)
    rw [A1 2 (by decide)]
  · repeat rw [if_neg (by decide)]
    rw [if_pos (by decide)]
    rfl
  · repeat rw [if_neg (by decide)]
    rw [if_pos (by decide)]
    show _ = some (prev s, σ)
    rcases (hp s hs).1 with e | e | e <;> rw [e] <;> rfl
  · repeat rw [if_neg (by decide)]
    rw [if_pos (by decide)]
    rfl
  · repeat rw [if_neg (by decide)]
    rw [if_pos (by decide)]
    rfl
  · repeat rw [if_neg (by decide)]
    rw [if_pos (by decide), if_neg (nI_nle (by omega) (by omega)), zV_in (wne hw1 hw2), pk_div (by omega) (by omega) (by omega)]
    rfl
  · repeat rw [if_neg (by decide)]
    rw [if_pos (by decide)]
    show _ = some (nI (cn _ 24), σ)
    rw [cn_cong (fun q hq => ?_)]
    show ((decide (hi q = 1) || decide (hi q = 2)) && near w s q) = (decide (¬ so q = -1) && (near w s q && decide (¬ hi q = 0)))
    obtain ⟨c1, c2⟩ := cr_pa hc hq
    by_cases e : so q = -1
    · rw [c2 e, e]; rfl
    · rw [decide_eq_true e, Bool.true_and, Bool.and_comm]
      rcases c1 with c1 | c1 | c1 <;> rw [c1] <;> rfl
  · repeat rw [if_neg (by decide)]
    show _ = some (kn s, σ)
    rcases K with ⟨k1, k2⟩ | ⟨k1, k2⟩ <;> rw [k1, k2] <;> rfl
