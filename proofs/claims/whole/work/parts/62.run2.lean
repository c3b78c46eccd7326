theorem c_run {op vl : Nat → Nat} {F T c : Nat} {dep : Nat → Nat} {bo : Nat → Bool} (hw : wf op vl F T dep bo) (hc : c ≤ 12) {σ : zS} {L q S : Nat} (hL : ¬ L = 154) (hq4 : ¬ q = 154) (hq : σ.2 L 0 = q) (hS : σ.1 L 1 = nI S) (hS2 : S ≤ 128) (hTS : T + 2 * c + 2 ≤ S) (hst : ∀ i, F ≤ i → i < T → σ.1 q (i + 2 * c + 1) = nI (16 * nm c (op i) (vl i) + kd (op i))) {ac : Nat} (hac : ac = 1 ∨ ac = 2) (hact : σ.1 q (T + 2 * c + 1) = nI (16 * ac + 1))
    {Cr w : Nat} {so kn hi : Nat → Int32} {gk go : Int32} {prev : Nat → Int32} {t : Nat} (H : std σ Cr w so kn hi gk go prev t) (hCr : ¬ Cr = 154) {s : Nat} (hs : s < 24) (hso : ¬ so s = -1) :
    ∀ (m i : Nat) (st : List Int32) (A : Nat → Int32) (n v : Nat), F ≤ i → i ≤ T → T < i + m → st.length = dep i → topB (bo i) st → stk (sh2 A) st → v ≤ i + 2 * c + 1 → 200 ≤ n + (i + 2 * c + 1) → ∃ (r : Int32) (A' : Nat → Int32), (r = 0 ∨ r = 1) ∧ aRun op vl (msk (fct w so kn hi (if kn s = 1 then gk else go) prev s t)) T m i st = some r ∧
      (r = 1 → fX0_ask_11 n 153 L (nI s) (nI (T + 2 * c + 2)) (nI (st.length + 2)) (nI (i + 2 * c + 1)) (nI v) (zA1 σ 154 A) = some (nI ac, zA1 σ 154 A')) ∧
      (r = 0 → ∃ n' v', v' ≤ T + 2 * c + 2 ∧ 200 ≤ n' + (T + 2 * c + 2) ∧ fX0_ask_11 n 153 L (nI s) (nI (T + 2 * c + 2)) (nI (st.length + 2)) (nI (i + 2 * c + 1)) (nI v) (zA1 σ 154 A) = fX0_ask_11 n' 153 L (nI s) (nI (T + 2 * c + 2)) (nI 2) (nI (T + 2 * c + 2)) (nI v') (zA1 σ 154 A')) := by
  obtain ⟨d0, b0, dT, bT, hFT, hT, hI⟩ := hw
  obtain ⟨⟨r2, r1, r0⟩, -⟩ := id H
  intro m
  induction m with
  | zero => intro i st A n v h1 h2 h3; exact absurd h3 (by omega)
  | succ m ih =>
    intro i st A n v h1 h2 h3 hlen htop hstk hv hn
    obtain ⟨n, rfl⟩ : ∃ k, n = k + 1 := ⟨n - 1, by omega⟩
    have hS' : (zA1 σ 154 A).1 L 1 = nI S := by rw [zA1_o hL]; exact hS
    have hunf : ∀ x y z u, fX0_ask_11 (n + 1) 153 L (nI s) x y z u (zA1 σ 154 A) = bX0_ask_11 (fX0_ask_11 n) 153 L (nI s) x y z u (zA1 σ 154 A) := fun _ _ _ _ => rfl
    simp only [hunf]
    unfold aRun
    by_cases hiT : i = T
    · subst hiT
      rw [if_pos (Nat.le_refl _)]
      obtain ⟨y, l, rfl, hy⟩ := htop bT
      have hl : l = [] := by
        rw [dT] at hlen
        exact List.length_eq_zero_iff.mp (by simpa using hlen)
      subst hl
      refine ⟨y, A, hy, rfl, ?_⟩
      have hA : A 2 = y := hstk.1
      have e : bX0_ask_11 (fX0_ask_11 n) 153 L (nI s) (nI (i + 2 * c + 2)) (nI ([y].length + 2)) (nI (i + 2 * c + 1)) (nI v) (zA1 σ 154 A) = if y = 0 then fX0_ask_11 n 153 L (nI s) (nI (i + 2 * c + 2)) (nI 2) (nI (i + 2 * c + 2)) (nI (v + 1)) (zA1 σ 154 A) else some (nI ac, zA1 σ 154 A) := by
        rw [show [y].length + 2 = 3 from rfl, c_hd (fX0_ask_11 n) L q S (i + 2 * c + 1) 3 v 1 ac (nI s) _ (zA1 σ 154 A) hS' hS2 (by omega) (by omega) (by omega) (by omega) hq (by omega) (by omega) (by rw [zA1_o hq4]; exact hact)]
        exact c_e1a n L i c i v ac (nI s) y A r0 hA
      rw [e]
      refine ⟨fun h => by rw [if_neg (show ¬ y = 0 by rw [h]; decide)], fun h => ⟨n, v + 1, by omega, by omega, by rw [if_pos h]⟩⟩
    · have hiL : i < T := by omega
      obtain ⟨hd, hvl, hcase⟩ := hI i h1 hiL
      rw [if_neg (show ¬ T ≤ i by omega)]
      have hs1 := hst i h1 hiL
      have hd2 : st.length + 2 < 40 := by omega
      rw [c_hd (fX0_ask_11 n) L q S (i + 2 * c + 1) (st.length + 2) v (kd (op i)) (nm c (op i) (vl i)) (nI s) _ (zA1 σ 154 A) hS' hS2 (by omega) (by omega) (by omega) hd2 hq (kd_lt _) (nm_lt hc hvl) (by rw [zA1_o hq4]; exact hs1)]
      rcases hcase with ⟨ho, hd1, hb1⟩ | ⟨ho, hv12, hd1, hb1⟩ | ⟨ho, hd0, hb0, hd1⟩ | ⟨ho, hd0, hb0, hd1, hb1, hj1, hj2, hj3⟩ | ⟨ho1, ho2, hd0, hd1, hb1⟩
      · rw [ho, if_pos rfl, c_e0 n L T c i v (vl i) st.length (nI s) A r0 hd2]
        exact ih (i + 1) (nI (vl i) :: st) _ n (v + 1) (by omega) (by omega) (by omega) (by rw [List.length_cons, hlen, hd1]) (by intro h; rw [hb1] at h; cases h) (by rw [sh2_u]; exact ⟨pk_us, stk_upd hstk (Nat.le_refl _)⟩) (by omega) (by omega)
      · rw [ho, if_neg (show ¬ (1 : Nat) = 0 by decide), if_pos rfl]
        have hlet := c_letter (std_A (A := A) H hCr) hs hso hv12
        have hmk : fct w so kn hi (if kn s = 1 then gk else go) prev s t (vl i) = msk (fct w so kn hi (if kn s = 1 then gk else go) prev s t) (vl i) := (if_pos hv12).symm
        rw [hmk] at hlet
        generalize msk (fct w so kn hi (if kn s = 1 then gk else go) prev s t) (vl i) = x at hlet ⊢
        rw [c_e1 n L T c i v (vl i) st.length (nI s) x A r0 hd2 hlet]
        exact ih (i + 1) (x :: st) _ n (v + 1) (by omega) (by omega) (by omega) (by rw [List.length_cons, hlen, hd1]) (by intro h; rw [hb1] at h; cases h) (by rw [sh2_u]; exact ⟨pk_us, stk_upd hstk (Nat.le_refl _)⟩) (by omega) (by omega)
      · obtain ⟨y, l, rfl, hy⟩ := htop hb0
        have hl : l.length + 1 = dep i := hlen
        have hA : A (l.length + 2) = y := hstk.1
        rw [ho, if_neg (show ¬ (10 : Nat) = 0 by decide), if_neg (show ¬ (10 : Nat) = 1 by decide)]
        simp only [if_true]
        rw [List.length_cons, c_e10 n L T c i v (vl i) l.length (nI s) y A r0 (by omega) hA]
        exact ih (i + 1) ((1 - y) :: l) _ n (v + 1) (by omega) (by omega) (by omega) (by rw [List.length_cons, hd1]; exact hl) (fun _ => ⟨1 - y, l, rfl, by rcases hy with rfl | rfl <;> decide⟩) (by rw [sh2_u]; exact ⟨pk_us, stk_upd hstk.2 (Nat.le_refl _)⟩) (by omega) (by omega)
      · obtain ⟨y, l, rfl, hy⟩ := htop hb0
        have hl : l.length + 1 = dep i := hlen
        have hA : A (l.length + 2) = y := hstk.1
        have J := ih (vl i) (y :: l) A n (v + 1) (by omega) hj2 (by omega) (by rw [hj3]; exact hlen) (fun _ => ⟨y, l, rfl, hy⟩) hstk (by omega) (by omega)
        have N := ih (i + 1) l A n (v + 1) (by omega) (by omega) (by omega) (by omega) (by intro h; rw [hb1] at h; cases h) hstk.2 (by omega) (by omega)
        rw [List.length_cons] at J
        rcases ho with ho | ho
        · rw [ho, if_neg (show ¬ (11 : Nat) = 0 by decide), if_neg (show ¬ (11 : Nat) = 1 by decide), List.length_cons, c_e11 n L T c i v (vl i) l.length (nI s) y A r0 (by omega) hA]
          simp only [show ¬ (11 : Nat) = 10 by decide, if_false, if_true]
          by_cases y0 : y = 0
          · rw [if_pos y0, if_pos y0]; exact J
          · rw [if_neg y0, if_neg y0]; exact N
        · rw [ho, if_neg (show ¬ (12 : Nat) = 0 by decide), if_neg (show ¬ (12 : Nat) = 1 by decide), List.length_cons, c_e12 n L T c i v (vl i) l.length (nI s) y A r0 (by omega) hA hy]
          simp only [show ¬ (12 : Nat) = 10 by decide, show ¬ (12 : Nat) = 11 by decide, if_false, if_true]
          by_cases y0 : y = 1
          · rw [if_pos y0, if_pos y0]; exact J
          · rw [if_neg y0, if_neg y0]; exact N
      · obtain ⟨y, l, rfl⟩ : ∃ y l, st = y :: l := by
          cases st with
          | nil => rw [← hlen] at hd0; exact absurd hd0 (by simp)
          | cons y l => exact ⟨y, l, rfl⟩
        obtain ⟨z, k, rfl⟩ : ∃ z k, l = z :: k := by
          cases l with
          | nil => rw [← hlen] at hd0; exact absurd hd0 (by simp)
          | cons y l => exact ⟨y, l, rfl⟩
        have hl : k.length + 1 + 1 = dep i := hlen
        have hy1 : A (k.length + 3) = y := hstk.1
        have hz1 : A (k.length + 2) = z := hstk.2.1
        have m0 : ¬ op i = 0 := by omega
        have m1 : ¬ op i = 1 := by omega
        have m10 : ¬ op i = 10 := by omega
        have m11 : ¬ op i = 11 := by omega
        have m12 : ¬ op i = 12 := by omega
        rw [if_neg m0, if_neg m1]
        simp only [if_neg m10, if_neg m11, if_neg m12]
        have ee := c_e2 n L T c i v k.length (op i) (nm c (op i) (vl i)) (nI s) y z A r0 (by omega) hy1 hz1 ho1 ho2
        rw [show (y :: z :: k).length + 2 = k.length + 4 from rfl, ee]
        by_cases h56 : (op i = 5 ∨ op i = 6) ∧ y = 0
        · rw [if_pos h56, if_pos h56]
          exact ⟨0, A, Or.inl rfl, rfl, fun h => absurd h (by decide), fun _ => ⟨n, v + 1, by omega, by omega, rfl⟩⟩
        · rw [if_neg h56, if_neg h56]
          exact ih (i + 1) (rk (op i) z y :: k) _ n (v + 1) (by omega) (by omega) (by omega) (by rw [List.length_cons]; omega) (fun h => ⟨_, _, rfl, rk_B (hb1 h) _ _⟩) (by rw [sh2_u]; exact ⟨pk_us, stk_upd hstk.2.2 (Nat.le_refl _)⟩) (by omega) (by omega)
