theorem geL (k : Nat) {i : Nat} (v : Int32) (hv : v = nI k) (h : i < k) (hk : k < 2 ^ 31) : ¬ v ≤ nI i := by rw [hv]; exact nI_ge h hk
theorem m_feels_3 (nn : Nat) (v1 : Nat) (v2 : Int32) (v3 v4 v5 : Nat) (v6 v7 v8 v9 : Int32) (σ : zS) (hm : mR σ.2) : ∀ (n i : Nat) (F : Nat → Int32), i ≤ 12 → 12 < i + n → fX7_feels_3 nn n 0 v1 v2 v3 v4 v5 v6 v7 v8 v9 (nI i) (zA1 σ 19 F) = bX7_feels_24 nn 0 v1 v2 v3 v4 v5 v6 v7 v8 v9 (zA1 σ 19 (fun b => if i ≤ b ∧ b < 12 then 0 else F b)) := by
  intro n
  induction n with
  | zero => intro i F h1 h2; exact absurd h2 (by omega)
  | succ n ih =>
    intro i F h1 h2
    show bX7_feels_3 nn (fX7_feels_3 nn n) 0 v1 v2 v3 v4 v5 v6 v7 v8 v9 (nI i) (zA1 σ 19 F) = _
    unfold bX7_feels_3
    by_cases hi : i = 12
    · subst hi
      rw [if_pos (by decide)]
      have : (fun b => if 12 ≤ b ∧ b < 12 then (0 : Int32) else F b) = F := by funext b; rw [if_neg (by omega)]
      rw [this]
    · rw [if_neg (geL 12 (12 : Int32) rfl (by omega) (by omega))]
      simp only [bnd_e, zA1_2, mm31 hm, zI_zA1]
      rw [zX_n (by omega) (by omega), cl_n (by omega), nI_1, ih (i + 1) _ (by omega) (by omega)]
      have : (fun b => if i + 1 ≤ b ∧ b < 12 then (0 : Int32) else upd F i 0 b) = fun b => if i ≤ b ∧ b < 12 then 0 else F b := by
        funext b
        by_cases hb : b = i
        · subst hb
          rw [if_neg (by omega), if_pos (by omega)]
          exact pk_us
        · rw [pk_un hb]
          by_cases h : i ≤ b ∧ b < 12
          · rw [if_pos h, if_pos (by omega)]
          · rw [if_neg h, if_neg (by omega)]
      rw [this]
/-- what the letters rest on in the store: the second before, sorts, paid, knows -/
def mPrev (σ : zS) (nn v1 a t : Nat) (prev : Nat → Int32) : Prop := (t = 0 → prev = fun _ => 0) ∧ (0 < t → ∀ q, q < 24 → a + 24 * (t - 1) + q < nn ∧ σ.1 v1 (a + 24 * (t - 1) + q) = prev q)
theorem ixp {a t q : Nat} (ht : 0 < t) : (nI a + (24 : Int32) * (nI t - 1)) + nI q = nI (a + 24 * (t - 1) + q) := by
  have e : (1 : Int32) = nI 1 := rfl
  have e2 : (24 : Int32) = nI 24 := rfl
  rw [e, e2, pk_sub ht, pk_mul, nI_add, nI_add]
theorem m_feels_35 (nn : Nat) (hnn : nn < 2 ^ 31) (v1 a v3 v4 v5 w s t : Nat) (good : Int32) (tl prev : Nat → Int32) (σ : zS) (hm : mR σ.2) (h1 : ¬ v1 = 19) (h3 : ¬ v3 = 19) (h4 : ¬ v4 = 19) (hw : 4 ≤ w) (hw2 : w ≤ 8) (hs : s < 24) (ht : t < 2 ^ 31) (hp : mPrev σ nn v1 a t prev) : ∀ (n q : Nat), q ≤ 24 → 24 < q + n → fX7_feels_35 nn n 0 v1 (nI a) v3 v4 v5 (nI w) (nI s) (nI t) (nI q) (zA1 σ 19 (fqF tl w (σ.1 v3) (σ.1 v4) good prev s q)) = bX7_feels_249 nn 0 v1 (nI a) v5 (nI w) (nI s) (nI t) (zA1 σ 19 (fqF tl w (σ.1 v3) (σ.1 v4) good prev s 24)) := by
  intro n
  induction n with
  | zero => intro q h5 h6; exact absurd h6 (by omega)
  | succ n ih =>
    intro q h5 h6
    show bX7_feels_35 nn (fX7_feels_35 nn n) 0 v1 (nI a) v3 v4 v5 (nI w) (nI s) (nI t) (nI q) (zA1 σ 19 (fqF tl w (σ.1 v3) (σ.1 v4) good prev s q)) = _
    unfold bX7_feels_35
    by_cases hq : q = 24
    · subst hq
      rw [if_pos (by decide)]
    · have hq : q < 24 := by omega
      rw [if_neg (geL 24 (24 : Int32) rfl hq (by omega)), zX_n hq (by omega), cl_n (by omega), zA1_o h3]
      by_cases hso : σ.1 v3 q = -1
      · rw [if_pos hso]
        unfold bX7_feels_243
        rw [nI_1]
        have e : fqF tl w (σ.1 v3) (σ.1 v4) good prev s q = fqF tl w (σ.1 v3) (σ.1 v4) good prev s (q + 1) := by
          rw [fq_step]
          funext k
          simp [hso]
        rw [e]
        exact ih (q + 1) (by omega) (by omega)
      · rw [if_neg hso, m_near hw hw2 hs hq, zb_s]
        have step : ∀ did, did = prev q → bX7_feels_88 nn (bX7_feels_243 nn (fX7_feels_35 nn n)) 0 v1 (nI a) v3 v4 v5 (nI w) (nI s) (nI t) (nI q) (if near w s q = true then 1 else 0) did (zA1 σ 19 (fqF tl w (σ.1 v3) (σ.1 v4) good prev s q)) = bX7_feels_249 nn 0 v1 (nI a) v5 (nI w) (nI s) (nI t) (zA1 σ 19 (fqF tl w (σ.1 v3) (σ.1 v4) good prev s 24)) := by
          intro did hd
          rw [m_feels_in nn (fX7_feels_35 nn n) v1 (nI a) v3 v4 v5 (nI w) (nI s) (nI t) q hq (near w s q) did σ _ hm h4]
          rw [← ih (q + 1) (by omega) (by omega), fq_step, hd]
          simp [hso]
        by_cases ht0 : t = 0
        · subst ht0
          rw [if_pos nI_0]
          exact step 0 (by rw [hp.1 rfl])
        · rw [if_neg (nI_ne0 (by omega) ht)]
          obtain ⟨g1, g2⟩ := hp.2 (by omega) q hq
          rw [ixp (by omega), zX_n g1 hnn, bnd_e, cl_n (by omega), zA1_o h1]
          exact step _ g2
theorem m_feels (nn : Nat) (hnn : nn < 2 ^ 31) (v1 a v3 v4 v5 w s t : Nat) (good : Int32) (prev : Nat → Int32) (σ : zS) (hm : mR σ.2) (h1 : ¬ v1 = 19) (h3 : ¬ v3 = 19) (h4 : ¬ v4 = 19) (h5 : ¬ v5 = 19) (hw : 4 ≤ w) (hw2 : w ≤ 8) (hs : s < 24) (ht : t < 2 ^ 31) (hp : mPrev σ nn v1 a t prev) : fX7_feels nn 0 v1 (nI a) v3 v4 v5 good (nI w) (nI s) (nI t) σ = some ((), zA1 σ 19 (fun k => if k < 12 then fct w (σ.1 v3) (σ.1 v5) (σ.1 v4) good prev s t k else σ.1 19 k)) := by
  unfold fX7_feels
  have e0 : (0 : Int32) = nI 0 := rfl
  conv => lhs; rw [e0, ← zA1_self (σ := σ) (N := 19)]
  rw [m_feels_3 nn v1 (nI a) v3 v4 v5 good (nI w) (nI s) (nI t) σ hm zFU 0 (σ.1 19) (by omega) (by unfold zFU; omega)]
  unfold bX7_feels_24
  simp only [bnd_e, zA1_2, mm31 hm, zx12.1, cl_lit.1, zI_zA1]
  have e1 : upd (fun b => if 0 ≤ b ∧ b < 12 then (0 : Int32) else σ.1 19 b) 0 good = fqF (σ.1 19) w (σ.1 v3) (σ.1 v4) good prev s 0 := by
    funext k
    unfold upd fqF
    by_cases k0 : k = 0
    · simp [k0]
    · simp only [if_neg k0, cn]
      by_cases k12 : k < 12
      · rw [if_pos ⟨by omega, k12⟩]
        repeat' split
        all_goals rfl
      · rw [if_neg (by omega)]
        rw [if_neg (by omega), if_neg (by omega), if_neg (by omega), if_neg (by omega), if_neg (by omega), if_neg (by omega), if_neg k12]
  rw [e1, e0, m_feels_35 nn hnn v1 a v3 v4 v5 w s t good (σ.1 19) prev σ hm h1 h3 h4 hw hw2 hs ht hp zFU 0 (by omega) (by unfold zFU; omega)]
  unfold bX7_feels_249
  have fin : ∀ x, x = prev s → bX7_feels_278 nn 0 v5 (nI w) (nI s) (nI t) 19 6 x (zA1 σ 19 (fqF (σ.1 19) w (σ.1 v3) (σ.1 v4) good prev s 24)) = some ((), zA1 σ 19 (fun k => if k < 12 then fct w (σ.1 v3) (σ.1 v5) (σ.1 v4) good prev s t k else σ.1 19 k)) := by
    intro x hx
    unfold bX7_feels_278
    simp only [bnd_e, zA1_2, mm31 hm, zx12.2.2.2.2.2.2.1, zx12.2.2.2.2.2.2.2.1, zx12.2.2.2.2.2.2.2.2.1, zx12.2.2.2.2.2.2.2.2.2.1, zx12.2.2.2.2.2.2.2.2.2.2.2, cl_lit.2.2.2.2.2.2.1, cl_lit.2.2.2.2.2.2.2.1, cl_lit.2.2.2.2.2.2.2.2.1, cl_lit.2.2.2.2.2.2.2.2.2.1, cl_lit.2.2.2.2.2.2.2.2.2.2.2, zI_zA1, zA1_o h5]
    rw [zV_in (wne hw hw2), zX_n hs (by omega), cl_n (by omega), pk_div (by omega) (by omega) (by omega), hx]
    congr 2
    congr 1
    funext k
    unfold upd
    by_cases k12 : k < 12
    · rw [if_pos k12]
      have : k = 0 ∨ k = 1 ∨ k = 2 ∨ k = 3 ∨ k = 4 ∨ k = 5 ∨ k = 6 ∨ k = 7 ∨ k = 8 ∨ k = 9 ∨ k = 10 ∨ k = 11 := by omega
      rcases this with rfl | rfl | rfl | rfl | rfl | rfl | rfl | rfl | rfl | rfl | rfl | rfl <;> rfl
    · rw [if_neg k12, if_neg (by omega), if_neg (by omega), if_neg (by omega), if_neg (by omega), if_neg (by omega)]
      unfold fqF
      rw [if_neg (by omega), if_neg (by omega), if_neg (by omega), if_neg (by omega), if_neg (by omega), if_neg (by omega), if_neg (by omega), if_neg k12]
  rw [bnd_e, zA1_2, mm31 hm]
  by_cases ht0 : t = 0
  · subst ht0
    rw [if_pos nI_0]
    exact fin 0 (by rw [hp.1 rfl])
  · rw [if_neg (nI_ne0 (by omega) ht)]
    obtain ⟨g1, g2⟩ := hp.2 (by omega) s hs
    rw [ixp (by omega), zX_n g1 hnn, bnd_e, cl_n (by omega), zA1_o h1]
    exact fin _ g2
