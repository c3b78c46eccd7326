def cLaws (σ : zS) (co cm lt fr to_ : Nat → Int32) : Prop := ∀ j, j < 4 → ∃ m, m < 5 ∧ σ.2 156 j = 157 + 2 * m ∧ lawC (σ.1 (158 + 2 * m)) (σ.1 (157 + 2 * m) 1) (σ.1 (157 + 2 * m) 2) co cm lt fr to_ j
theorem cr_law {r : Nat → Nat → Nat} (h : cR r) {m : Nat} (hm : m < 5) : r (157 + 2 * m) 0 = 158 + 2 * m := by
  rcases (show m = 0 ∨ m = 1 ∨ m = 2 ∨ m = 3 ∨ m = 4 by omega) with rfl | rfl | rfl | rfl | rfl
  · exact cr_ h 157 0 158 rfl (by decide)
  · exact cr_ h 159 0 160 rfl (by decide)
  · exact cr_ h 161 0 162 rfl (by decide)
  · exact cr_ h 163 0 164 rfl (by decide)
  · exact cr_ h 165 0 166 rfl (by decide)
theorem c_bought {σ : zS} (hR : cR σ.2) {Cr : Nat} {row : Int32} {so kn hi : Nat → Int32} (hc : pCrowd (σ.1 Cr) row so kn hi) {t : Nat} (ht : t < 40) (a : Int32) : ∃ x, fX6_bought 0 Cr (nI t) a σ = some (x, σ) ∧ bs x (fun q => (decide (σ.1 169 t = a) && decide (hi q = 1)) || (decide (σ.1 170 t = a) && decide (hi q = 2))) := by
  unfold fX6_bought bX6_bought_33
  rw [if_neg (nI_pos (by omega)), if_neg (geL 40 (40 : Int32) rfl ht (by omega)), bnd_e, cr_ hR 0 11 169 rfl (by decide), zX_n ht (by omega), cl_n (by omega)]
  simp only [bnd_e, cr_ hR 0 12 170 rfl (by decide)]
  rw [zX_n ht (by omega), zX_n ht (by omega)]
  have k1 := cr_1 hc
  have k2 := cr_2 hc
  by_cases h1 : σ.1 169 t = a
  · rw [if_pos h1]
    by_cases h2 : σ.1 170 t = a
    · rw [if_pos h2]
      refine ⟨_, rfl, bs_c (bs_or (bs_or bs_0 k1) k2) (fun q _ => ?_)⟩
      rw [decide_eq_true h1, decide_eq_true h2]; simp
    · rw [if_neg h2]
      refine ⟨_, rfl, bs_c (bs_or (bs_or bs_0 k1) bs_0) (fun q _ => ?_)⟩
      rw [decide_eq_true h1, decide_eq_false h2]; simp
  · rw [if_neg h1]
    by_cases h2 : σ.1 170 t = a
    · rw [if_pos h2]
      refine ⟨_, rfl, bs_c (bs_or (bs_or bs_0 bs_0) k2) (fun q _ => ?_)⟩
      rw [decide_eq_false h1, decide_eq_true h2]; simp
    · rw [if_neg h2]
      refine ⟨_, rfl, bs_c (bs_or (bs_or bs_0 bs_0) bs_0) (fun q _ => ?_)⟩
      rw [decide_eq_false h1, decide_eq_false h2]; simp
theorem c_asked {co cm lt fr to_ : Nat → Int32} {σ : zS} (hR : cR σ.2) (hl : cLaws σ co cm lt fr to_) {Cr w : Nat} {so kn hi : Nat → Int32} {gk go : Int32} {prev : Nat → Int32} {t : Nat} (H : std σ Cr w so kn hi gk go prev t) (hCr : ¬ Cr = 154) {s : Nat} (hs : s < 24) (hso : ¬ so s = -1) :
    ∃ A, fX6_asked 0 (so s) (nI s) σ = some (lawV co cm lt fr to_ (so s) (fct w so kn hi (if kn s = 1 then gk else go) prev s t), zA1 σ 154 A) := by
  obtain ⟨j, hj, e⟩ := (cr_so H.2.1 hs).resolve_left hso
  obtain ⟨m, hm, h156, hlc⟩ := hl j hj
  obtain ⟨A, hA⟩ := c_ask hj (σ := σ) (L := 157 + 2 * m) (q := 158 + 2 * m) (by omega) (by omega) (cr_law hR hm) hlc H hCr hs hso
  refine ⟨A, ?_⟩
  unfold fX6_asked
  rw [e, (c_within (nI j) 0 3 σ).1 (ok_of (k := j) (a := 0) (n := 3) (by omega) (by omega) (by omega)), zb_s, if_neg n10, bnd_e, cr_ hR 0 5 153 rfl (by decide), bnd_e, cr_ hR 0 6 156 rfl (by decide), zX_n (n := 4) (by omega) (by omega), bnd_e, cl_n (by omega), h156, hA, zb_s]
def Dq (w : Nat) (so kn hi gk go pl : Nat → Int32) (lw : Int32 → (Nat → Int32) → Int32) (prev : Nat → Int32) (t q : Nat) : Int32 := act w so kn hi gk go pl lw (fun _ => false) prev t q
theorem Dq_n {w : Nat} {so kn hi gk go pl : Nat → Int32} {lw : Int32 → (Nat → Int32) → Int32} {prev : Nat → Int32} {t q : Nat} (h : so q = -1) : Dq w so kn hi gk go pl lw prev t q = 0 := by unfold Dq act; rw [if_pos h]
theorem Dq_f {w : Nat} {so kn hi gk go pl : Nat → Int32} {lw : Int32 → (Nat → Int32) → Int32} {prev : Nat → Int32} {t q : Nat} (h : ¬ so q = -1) (h2 : hi q = 0) : Dq w so kn hi gk go pl lw prev t q = lw (so q) (fct w so kn hi (if kn q = 1 then gk t else go t) prev q t) := by
  unfold Dq act
  rw [if_neg h, if_neg (fun q => by cases q.2), if_pos h2]
theorem Dq_p {w : Nat} {so kn hi gk go pl : Nat → Int32} {lw : Int32 → (Nat → Int32) → Int32} {prev : Nat → Int32} {t q : Nat} (h : ¬ so q = -1) (h2 : ¬ hi q = 0) : Dq w so kn hi gk go pl lw prev t q = pl (40 * (hi q).toNatClampNeg + t) := by
  unfold Dq act
  rw [if_neg h, if_neg (fun q => by cases q.2), if_neg h2]
/-- the seats of a second, one after the other -/
theorem c_play_82 (k13 : Nat → Nat → Int32 → Int32 → Int32 → Int32 → zS → Option (Unit × zS)) {co cm lt fr to_ : Nat → Int32} {σ : zS} (hR : cR σ.2) (hl : cLaws σ co cm lt fr to_) {E Cr w : Nat} {so kn hi gk go pl : Nat → Int32} {prev : Nat → Int32} {t : Nat} (H : std σ Cr w so kn hi (gk t) (go t) prev t) (hCr : ¬ Cr = 154) (hE : σ.2 E 0 = Cr) (v2 free : Int32) (hfree : bs free (fun s => decide (¬ so s = -1) && decide (hi s = 0))) :
    ∀ (n s : Nat) (x y : Int32) (A : Nat → Int32), s ≤ 24 → 24 < s + n → bs x (fun q => decide (Dq w so kn hi gk go pl (lawV co cm lt fr to_) prev t q = 1) && (decide (q < s) || decide (¬ hi q = 0))) → bs y (fun q => decide (Dq w so kn hi gk go pl (lawV co cm lt fr to_) prev t q = 2) && (decide (q < s) || decide (¬ hi q = 0))) →
      ∃ (x' y' : Int32) (A' : Nat → Int32), bs x' (fun q => decide (Dq w so kn hi gk go pl (lawV co cm lt fr to_) prev t q = 1)) ∧ bs y' (fun q => decide (Dq w so kn hi gk go pl (lawV co cm lt fr to_) prev t q = 2)) ∧ fX6_play_82 k13 n 0 E v2 x y (nI t) free (nI s) (zA1 σ 154 A) = bX6_play_161 k13 0 E v2 x' y' (nI t) (zA1 σ 154 A') := by
  generalize hD : Dq w so kn hi gk go pl (lawV co cm lt fr to_) prev t = D
  intro n
  induction n with
  | zero => intro s x y A a b; exact absurd b (by omega)
  | succ n ih =>
    intro s x y A a b hx hy
    show ∃ (x' y' : Int32) (A' : Nat → Int32), _ ∧ _ ∧ bX6_play_82 k13 (fX6_play_82 k13 n) 0 E v2 x y (nI t) free (nI s) (zA1 σ 154 A) = _
    unfold bX6_play_82
    by_cases hs : s = 24
    · subst hs
      rw [if_pos (by decide)]
      exact ⟨x, y, A, bs_c hx (fun q hq => by rw [decide_eq_true hq]; simp), bs_c hy (fun q hq => by rw [decide_eq_true hq]; simp), rfl⟩
    · have hs : s < 24 := by omega
      rw [if_neg (geL 24 (24 : Int32) rfl hs (by omega)), bitB hfree hs]
      by_cases hf : (decide (¬ so s = -1) && decide (hi s = 0)) = true
      · rw [if_pos hf, if_neg n10, bnd_e, zA1_2, hE]
        have hso : ¬ so s = -1 := by
          intro q; rw [q] at hf; cases hf
        have hhi : hi s = 0 := by
          rw [decide_eq_true hso, Bool.true_and] at hf
          exact of_decide_eq_true hf
        have H' := std_A (A := A) H hCr
        have hl' : cLaws (zA1 σ 154 A) co cm lt fr to_ := by
          intro j hj
          obtain ⟨m, hm, h1, h2⟩ := hl j hj
          exact ⟨m, hm, h1, by rw [zA1_o (by omega), zA1_o (by omega)]; exact h2⟩
        obtain ⟨A2, hA2⟩ := c_asked (σ := zA1 σ 154 A) hR hl' H' hCr hs hso
        rw [c_sortOf (σ := zA1 σ 154 A) H'.2.1 hs, zb_s, hA2, zb_s, zA1_A1]
        have hDs : D s = lawV co cm lt fr to_ (so s) (fct w so kn hi (if kn s = 1 then gk t else go t) prev s t) := by rw [← hD, Dq_f hso hhi]
        rw [← hDs]
        have hbit := bs_1 hs
        have step : ∀ (v : Int32) (z z' : Int32), bs z (fun q => decide (D q = v) && (decide (q < s) || decide (¬ hi q = 0))) → z' = (z ||| if D s = v then (1 : Int32) <<< (nI s &&& 31) else 0) → bs z' (fun q => decide (D q = v) && (decide (q < s + 1) || decide (¬ hi q = 0))) := by
          intro v z z' hz hz'
          rw [hz']
          by_cases hv : D s = v
          · rw [if_pos hv]
            refine bs_c (bs_or hz hbit) (fun q hq => ?_)
            by_cases e : q = s
            · subst e; simp [hv]
            · have e2 : decide (q < s + 1) = decide (q < s) := by
                by_cases h : q < s
                · rw [decide_eq_true h, decide_eq_true (by omega)]
                · rw [decide_eq_false h, decide_eq_false (by omega)]
              rw [e2]
              simp [e]
          · rw [if_neg hv]
            refine bs_c (bs_or hz bs_0) (fun q hq => ?_)
            by_cases e : q = s
            · subst e; simp [hv]
            · have e2 : decide (q < s + 1) = decide (q < s) := by
                by_cases h : q < s
                · rw [decide_eq_true h, decide_eq_true (by omega)]
                · rw [decide_eq_false h, decide_eq_false (by omega)]
              rw [e2]
              simp
        have c134 : ∀ z : Int32, bX6_play_134 (bX6_play_155 (fX6_play_82 k13 n)) 0 E v2 y (nI t) free (nI s) (D s) x z (zA1 σ 154 A2) = fX6_play_82 k13 n 0 E v2 (x ||| z) (y ||| if D s = 2 then (1 : Int32) <<< (nI s &&& 31) else 0) (nI t) free (nI (s + 1)) (zA1 σ 154 A2) := by
          intro z
          unfold bX6_play_134 bX6_play_152 bX6_play_155
          simp only [bnd_e]
          rw [nI_1]
          by_cases h : D s = 2
          · rw [if_pos h, if_pos h]
          · rw [if_neg h, if_neg h]
        rw [c134, c134]
        by_cases h1 : D s = 1
        · rw [if_pos h1]
          exact ih (s + 1) _ _ A2 (by omega) (by omega) (step 1 x _ hx (by rw [if_pos h1])) (step 2 y _ hy rfl)
        · rw [if_neg h1]
          exact ih (s + 1) _ _ A2 (by omega) (by omega) (step 1 x _ hx (by rw [if_neg h1])) (step 2 y _ hy rfl)
      · rw [if_neg hf, if_pos rfl]
        unfold bX6_play_155
        rw [nI_1]
        have same : ∀ (v z : Int32), ¬ v = 0 → bs z (fun q => decide (D q = v) && (decide (q < s) || decide (¬ hi q = 0))) → bs z (fun q => decide (D q = v) && (decide (q < s + 1) || decide (¬ hi q = 0))) := by
          intro v z hv hz
          refine bs_c hz (fun q hq => ?_)
          by_cases e : q = s
          · subst e
            by_cases hso : so q = -1
            · have : D q = 0 := by rw [← hD]; exact Dq_n hso
              rw [this]
              have z : decide ((0 : Int32) = v) = false := decide_eq_false (fun q => hv q.symm)
              simp [z]
            · have hhi : ¬ hi q = 0 := fun h => hf (by rw [decide_eq_true hso, decide_eq_true h]; rfl)
              simp [hhi]
          · have e2 : decide (q < s + 1) = decide (q < s) := by
              by_cases h : q < s
              · rw [decide_eq_true h, decide_eq_true (by omega)]
              · rw [decide_eq_false h, decide_eq_false (by omega)]
            rw [e2]
        exact ih (s + 1) x y A (by omega) (by omega) (same 1 x (by decide) hx) (same 2 y (by decide) hy)
