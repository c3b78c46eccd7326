section
section
variable {σ τ : zS} {N k n : Nat} {my v6 v3 : Int32}
theorem m_sd1 (h : core σ τ) (hN2 : N ≤ 40) (hN : τ.1 0 1 = nI N) (hk : k = 1 ∨ k = 2) (hmy : bs my (may τ k)) {ls : Bool} (hls : ls = decide (¬ v6 ≤ 0)) {a b c : Nat} (hv : vd n a b c) (hc : c < 24) {τ' : zS} (hm : mS τ τ') (hi : INS τ N k n ls τ' (dI a b c)) (k159 : Nat → Int32 → Int32 → Int32 → Int32 → Int32 → Int32 → Int32 → zS → Option (Int32 × zS)) (k194 : Nat → Int32 → Int32 → Int32 → Int32 → Int32 → Int32 → Int32 → Int32 → zS → Option (Int32 × zS)) (s1 : Int32) (hs1 : ¬ s1 ≤ nI c) : ∃ τ'', bX7_seated_210 k159 k194 0 (nI k) (nI n) v3 my v6 (nI a) (nI b) (nI c) (nI c) s1 τ' = k194 0 (nI k) (nI n) v3 my v6 (nI a) (nI b) (nI (c + 1)) τ'' ∧ mS τ τ'' ∧ INS τ N k n ls τ'' (dI a b (c + 1)) := by
  have hle := vd_le hv
  have hx : bs (tI a b c) (tS a b c) := tI_b (by omega) (by omega) hc
  unfold bX7_seated_210 bX7_seated_253 bX7_seated_256
  rw [if_neg hs1, bnd_e, bnd_e]
  show ∃ τ'', (if tI a b c &&& (my ^^^ (-1 : Int32)) = 0 then (if v6 ≤ 0 then zb (fX7_tries 0 (nI k) (tI a b c) 0 τ') (fun _ σ2 => k194 0 (nI k) (nI n) v3 my v6 (nI a) (nI b) (nI c + 1) σ2) else zb (fX7_tries 0 (nI k) (tI a b c) 1 τ') (fun _ σ2 => k194 0 (nI k) (nI n) v3 my v6 (nI a) (nI b) (nI c + 1) σ2)) else k194 0 (nI k) (nI n) v3 my v6 (nI a) (nI b) (nI c + 1) τ') = _ ∧ _
  rw [nI_1]
  have hz : tI a b c &&& (my ^^^ (-1 : Int32)) = 0 ↔ (may τ k a = true ∧ may τ k b = true ∧ may τ k c = true) := by
    have hb := bs_but hx hmy
    constructor
    · intro e
      have key : ∀ i, i < 24 → tS a b c i = true → may τ k i = true := fun i hi ht => by
        have := hb i
        rw [e, b_0, decide_eq_true hi, Bool.true_and] at this
        have this : false = (tS a b c i && !may τ k i) := this
        rw [ht, Bool.true_and] at this
        simpa using this.symm
      exact ⟨key a (by omega) (by simp [tS]), key b (by omega) (by simp [tS]), key c (by omega) (by simp [tS])⟩
    · intro g
      refine bs_e hb bs_0 (fun i hi => ?_)
      by_cases t : tS a b c i = true
      · have : may τ k i = true := by
          unfold tS at t
          simp only [Bool.or_eq_true, decide_eq_true_eq] at t
          rcases t with (rfl | rfl) | rfl
          · exact g.1
          · exact g.2.1
          · exact g.2.2
        rw [this, t]; rfl
      · rw [Bool.eq_false_iff.mpr t, Bool.false_and]
  by_cases g : may τ k a = true ∧ may τ k b = true ∧ may τ k c = true
  · rw [if_pos (hz.mpr g)]
    obtain ⟨τ1, q1, q2, q3⟩ := m_tr h hN2 hN hk hv hc g ls hm hi
    by_cases e : v6 ≤ 0
    · rw [if_pos e]
      rw [hls, decide_eq_false (fun w => w e)] at q1
      rw [show fX7_tries 0 (nI k) (tI a b c) 0 τ' = _ from q1, zb_s]
      exact ⟨τ1, rfl, q2, q3⟩
    · rw [if_neg e]
      rw [hls, decide_eq_true e] at q1
      rw [show fX7_tries 0 (nI k) (tI a b c) 1 τ' = _ from q1, zb_s]
      exact ⟨τ1, rfl, q2, q3⟩
  · rw [if_neg (fun w => g (hz.mp w))]
    refine ⟨τ', rfl, hm, ?_⟩
    have dI_s : ∀ a' b' c', dI a b (c + 1) a' b' c' → dI a b c a' b' c' ∨ (a' = a ∧ b' = b ∧ c' = c) := by
      intro a' b' c' d
      unfold dI at d ⊢
      omega
    rcases hi with ⟨g1, g2⟩ | ⟨x, y, z, g1, g2, g3, g4, g5, g6⟩
    · refine Or.inl ⟨g1, fun a' b' c' v1 v2 v3 v4 v5 v6 => ?_⟩
      rcases dI_s a' b' c' v6 with d | ⟨rfl, rfl, rfl⟩
      · exact g2 a' b' c' v1 v2 v3 v4 v5 d
      · exact absurd ⟨v3, v4, v5⟩ g
    · refine Or.inr ⟨x, y, z, g1, g2, g3, g4, g5, fun a' b' c' v1 v2 v3 v4 v5 v6 => ?_⟩
      rcases dI_s a' b' c' v6 with d | ⟨rfl, rfl, rfl⟩
      · exact g6 a' b' c' v1 v2 v3 v4 v5 d
      · exact absurd ⟨v3, v4, v5⟩ g
theorem m_s194 (h : core σ τ) (hN2 : N ≤ 40) (hN : τ.1 0 1 = nI N) (hk : k = 1 ∨ k = 2) (hmy : bs my (may τ k)) {ls : Bool} (hls : ls = decide (¬ v6 ≤ 0)) (hn3 : n ≤ 3) {a b : Nat} (hab : okab n a b) (hb : b < 24) (k159 : Nat → Int32 → Int32 → Int32 → Int32 → Int32 → Int32 → Int32 → zS → Option (Int32 × zS)) : ∀ (M c : Nat) (τ' : zS), (if n ≤ 2 then b else b + 1) ≤ c → c ≤ (if n ≤ 2 then b + 1 else 24) → 24 < c + M → mS τ τ' → INS τ N k n ls τ' (dI a b c) → ∃ τ'', fX7_seated_194 k159 M 0 (nI k) (nI n) v3 my v6 (nI a) (nI b) (nI c) τ' = k159 0 (nI k) (nI n) v3 my v6 (nI a) (nI (b + 1)) τ'' ∧ mS τ τ'' ∧ INS τ N k n ls τ'' (dI a (b + 1) 0) := by
  intro M
  induction M with
  | zero => intro c τ' h1 h2 h3; exact absurd h3 (by split at h2 <;> omega)
  | succ M ih =>
    intro c τ' h1 h2 h3 hm hi
    show ∃ τ'', bX7_seated_194 k159 (fX7_seated_194 k159 M) 0 (nI k) (nI n) v3 my v6 (nI a) (nI b) (nI c) τ' = _ ∧ _
    unfold bX7_seated_194
    have e2 : nI n ≤ (2 : Int32) ↔ n ≤ 2 := nI_leI (b := 2) (by omega) (by omega)
    have done : c = (if n ≤ 2 then b + 1 else 24) → ∀ s1 : Int32, s1 ≤ nI c → ∃ τ'', bX7_seated_210 k159 (fX7_seated_194 k159 M) 0 (nI k) (nI n) v3 my v6 (nI a) (nI b) (nI c) (nI c) s1 τ' = k159 0 (nI k) (nI n) v3 my v6 (nI a) (nI (b + 1)) τ'' ∧ mS τ τ'' ∧ INS τ N k n ls τ'' (dI a (b + 1) 0) := by
      intro ec s1 hs
      unfold bX7_seated_210 bX7_seated_262
      rw [if_pos hs, nI_1]
      refine ⟨τ', rfl, hm, INS_c hi (fun a' b' c' v1 v2 d => ?_)⟩
      unfold dI at d ⊢
      unfold vd at v1
      split at ec <;> omega
    have more : ¬ c = (if n ≤ 2 then b + 1 else 24) → ∀ s1 : Int32, ¬ s1 ≤ nI c → ∃ τ'', bX7_seated_210 k159 (fX7_seated_194 k159 M) 0 (nI k) (nI n) v3 my v6 (nI a) (nI b) (nI c) (nI c) s1 τ' = k159 0 (nI k) (nI n) v3 my v6 (nI a) (nI (b + 1)) τ'' ∧ mS τ τ'' ∧ INS τ N k n ls τ'' (dI a (b + 1) 0) := by
      intro ec s1 hs
      have hv : vd n a b c := by
        unfold vd
        unfold okab at hab
        split at h1 <;> split at h2 <;> split at ec <;> omega
      have hc : c < 24 := by split at h2 <;> split at ec <;> omega
      obtain ⟨τ1, q1, q2, q3⟩ := m_sd1 (v3 := v3) h hN2 hN hk hmy hls hv hc hm hi k159 (fX7_seated_194 k159 M) s1 hs
      rw [q1]
      exact ih (c + 1) τ1 (by split at h1 <;> split <;> omega) (by split at h2 <;> split at ec <;> split <;> omega) (by omega) q2 q3
    by_cases c2 : n ≤ 2
    · rw [if_pos (e2.mpr c2), nI_1]
      rw [if_pos c2] at h2
      by_cases ec : c = b + 1
      · exact done (by rw [if_pos c2]; exact ec) _ (nI_le (by omega) (by omega))
      · exact more (by rw [if_pos c2]; exact ec) _ (nI_ge (by omega) (by omega))
    · rw [if_neg (fun w => c2 (e2.mp w))]
      rw [if_neg c2] at h2
      by_cases ec : c = 24
      · exact done (by rw [if_neg c2]; exact ec) _ (nI_le (a := 24) (by omega) (by omega))
      · exact more (by rw [if_neg c2]; exact ec) _ (geL 24 (24 : Int32) rfl (by omega) (by omega))
theorem m_s159 (h : core σ τ) (hN2 : N ≤ 40) (hN : τ.1 0 1 = nI N) (hk : k = 1 ∨ k = 2) (hmy : bs my (may τ k)) {ls : Bool} (hls : ls = decide (¬ v6 ≤ 0)) (hn1 : 1 ≤ n) (hn3 : n ≤ 3) {a : Nat} (ha : a < 24) (k136 : Nat → Int32 → Int32 → Int32 → Int32 → Int32 → Int32 → zS → Option (Int32 × zS)) : ∀ (M b : Nat) (τ' : zS), (if n ≤ 1 then a else a + 1) ≤ b → b ≤ (if n ≤ 1 then a + 1 else 24) → 24 < b + M → mS τ τ' → INS τ N k n ls τ' (dI a b 0) → ∃ τ'', fX7_seated_159 k136 M 0 (nI k) (nI n) v3 my v6 (nI a) (nI b) τ' = k136 0 (nI k) (nI n) v3 my v6 (nI (a + 1)) τ'' ∧ mS τ τ'' ∧ INS τ N k n ls τ'' (dI (a + 1) 0 0) := by
  intro M
  induction M with
  | zero => intro b τ' h1 h2 h3; exact absurd h3 (by split at h2 <;> omega)
  | succ M ih =>
    intro b τ' h1 h2 h3 hm hi
    show ∃ τ'', bX7_seated_159 k136 (fX7_seated_159 k136 M) 0 (nI k) (nI n) v3 my v6 (nI a) (nI b) τ' = _ ∧ _
    unfold bX7_seated_159
    have e1 : nI n ≤ (1 : Int32) ↔ n ≤ 1 := nI_leI (b := 1) (by omega) (by omega)
    have e2 : nI n ≤ (2 : Int32) ↔ n ≤ 2 := nI_leI (b := 2) (by omega) (by omega)
    have done : b = (if n ≤ 1 then a + 1 else 24) → ∀ s1 : Int32, s1 ≤ nI b → ∃ τ'', bX7_seated_175 k136 (fX7_seated_159 k136 M) 0 (nI k) (nI n) v3 my v6 (nI a) (nI b) (nI b) s1 τ' = k136 0 (nI k) (nI n) v3 my v6 (nI (a + 1)) τ'' ∧ mS τ τ'' ∧ INS τ N k n ls τ'' (dI (a + 1) 0 0) := by
      intro ec s1 hs
      unfold bX7_seated_175 bX7_seated_268
      rw [if_pos hs, nI_1]
      refine ⟨τ', rfl, hm, INS_c hi (fun a' b' c' v1 v2 d => ?_)⟩
      unfold dI at d ⊢
      unfold vd at v1
      split at ec <;> omega
    have more : ¬ b = (if n ≤ 1 then a + 1 else 24) → ∀ s1 : Int32, ¬ s1 ≤ nI b → ∃ τ'', bX7_seated_175 k136 (fX7_seated_159 k136 M) 0 (nI k) (nI n) v3 my v6 (nI a) (nI b) (nI b) s1 τ' = k136 0 (nI k) (nI n) v3 my v6 (nI (a + 1)) τ'' ∧ mS τ τ'' ∧ INS τ N k n ls τ'' (dI (a + 1) 0 0) := by
      intro ec s1 hs
      have hab : okab n a b := by
        unfold okab
        split at h1 <;> split at h2 <;> split at ec <;> omega
      have hb : b < 24 := by split at h2 <;> split at ec <;> omega
      unfold bX7_seated_175 bX7_seated_192
      rw [if_neg hs]
      have st : ∀ c, c = (if n ≤ 2 then b else b + 1) → ∃ τ'', fX7_seated_194 (fX7_seated_159 k136 M) zFU 0 (nI k) (nI n) v3 my v6 (nI a) (nI b) (nI c) τ' = k136 0 (nI k) (nI n) v3 my v6 (nI (a + 1)) τ'' ∧ mS τ τ'' ∧ INS τ N k n ls τ'' (dI (a + 1) 0 0) := by
        intro c ec2
        obtain ⟨τ1, q1, q2, q3⟩ := m_s194 (v3 := v3) h hN2 hN hk hmy hls hn3 hab hb (fX7_seated_159 k136 M) zFU c τ' (by omega) (by rw [ec2]; split <;> omega) (by unfold zFU; omega) hm (INS_c hi (fun a' b' c' v1 v2 d => by
          unfold dI at d ⊢
          unfold vd at v1
          split at ec2 <;> omega))
        rw [q1]
        exact ih (b + 1) τ1 (by split at h1 <;> split <;> omega) (by split at h2 <;> split at ec <;> split <;> omega) (by omega) q2 q3
      by_cases c2 : n ≤ 2
      · rw [if_pos (e2.mpr c2)]
        exact st b (by rw [if_pos c2])
      · rw [if_neg (fun w => c2 (e2.mp w)), nI_1]
        exact st (b + 1) (by rw [if_neg c2])
    by_cases c1 : n ≤ 1
    · rw [if_pos (e1.mpr c1), nI_1]
      rw [if_pos c1] at h2
      by_cases ec : b = a + 1
      · exact done (by rw [if_pos c1]; exact ec) _ (nI_le (by omega) (by omega))
      · exact more (by rw [if_pos c1]; exact ec) _ (nI_ge (by omega) (by omega))
    · rw [if_neg (fun w => c1 (e1.mp w))]
      rw [if_neg c1] at h2
      by_cases ec : b = 24
      · exact done (by rw [if_neg c1]; exact ec) _ (nI_le (a := 24) (by omega) (by omega))
      · exact more (by rw [if_neg c1]; exact ec) _ (geL 24 (24 : Int32) rfl (by omega) (by omega))
theorem m_s136 (h : core σ τ) (hN2 : N ≤ 40) (hN : τ.1 0 1 = nI N) (hk : k = 1 ∨ k = 2) (hmy : bs my (may τ k)) {ls : Bool} (hls : ls = decide (¬ v6 ≤ 0)) (hn1 : 1 ≤ n) (hn3 : n ≤ 3) : ∀ (M a : Nat) (τ' : zS), a ≤ 24 → 24 < a + M → mS τ τ' → INS τ N k n ls τ' (dI a 0 0) → ∃ τ'', fX7_seated_136 M 0 (nI k) (nI n) v3 my v6 (nI a) τ' = bX7_seated_274 0 v3 τ'' ∧ mS τ τ'' ∧ INS τ N k n ls τ'' (dI 24 0 0) := by
  intro M
  induction M with
  | zero => intro a τ' h1 h2; exact absurd h2 (by omega)
  | succ M ih =>
    intro a τ' h1 h2 hm hi
    show ∃ τ'', bX7_seated_136 (fX7_seated_136 M) 0 (nI k) (nI n) v3 my v6 (nI a) τ' = _ ∧ _
    unfold bX7_seated_136 bX7_seated_157
    have e1 : nI n ≤ (1 : Int32) ↔ n ≤ 1 := nI_leI (b := 1) (by omega) (by omega)
    by_cases e : a = 24
    · subst e
      rw [if_pos (by decide)]
      exact ⟨τ', rfl, hm, hi⟩
    · rw [if_neg (geL 24 (24 : Int32) rfl (by omega) (by omega))]
      have st : ∀ b, b = (if n ≤ 1 then a else a + 1) → ∃ τ'', fX7_seated_159 (fX7_seated_136 M) zFU 0 (nI k) (nI n) v3 my v6 (nI a) (nI b) τ' = bX7_seated_274 0 v3 τ'' ∧ mS τ τ'' ∧ INS τ N k n ls τ'' (dI 24 0 0) := by
        intro b eb
        obtain ⟨τ1, q1, q2, q3⟩ := m_s159 (v3 := v3) h hN2 hN hk hmy hls hn1 hn3 (a := a) (by omega) (fX7_seated_136 M) zFU b τ' (by omega) (by rw [eb]; split <;> omega) (by unfold zFU; omega) hm (INS_c hi (fun a' b' c' v1 v2 d => by
          unfold dI at d ⊢
          unfold vd at v1
          split at eb <;> omega))
        rw [q1]
        exact ih (a + 1) τ1 (by omega) (by omega) q2 q3
      by_cases c1 : n ≤ 1
      · rw [if_pos (e1.mpr c1)]
        exact st a (by rw [if_pos c1])
      · rw [if_neg (fun w => c1 (e1.mp w)), nI_1]
        exact st (a + 1) (by rw [if_neg c1])
end
theorem bet_eq {ls : Bool} {x y : Int32} (h1 : ¬ bet ls x y) (h2 : ¬ bet ls y x) : x = y := by
  apply Int32.toInt_inj.mp
  unfold bet at h1 h2
  split at h1 <;> simp_all <;> omega
theorem m_may {τ : zS} (hM : mR τ.2) {k : Nat} (hk : k = 1 ∨ k = 2) : ∃ x, fX7_mayBePaid 0 (nI k) τ = some (x, τ) ∧ bs x (may τ k) := by
  have loop : ∀ (n s : Nat) (x : Int32), s ≤ 24 → 24 < s + n → bs x (fun i => decide (i < s) && may τ k i) → ∃ x', fX7_mayBePaid_4 n 0 (nI k) x (nI s) τ = some (x', τ) ∧ bs x' (may τ k) := by
    intro n
    induction n with
    | zero => intro s x h1 h2; exact absurd h2 (by omega)
    | succ n ih =>
      intro s x h1 h2 hx
      show ∃ x', bX7_mayBePaid_4 (fX7_mayBePaid_4 n) 0 (nI k) x (nI s) τ = _ ∧ _
      unfold bX7_mayBePaid_4 bX7_mayBePaid_38 bX7_mayBePaid_39
      by_cases e : s = 24
      · subst e
        rw [if_pos (by decide)]
        exact ⟨x, rfl, bs_c hx (fun i hi => by rw [decide_eq_true hi, Bool.true_and])⟩
      · have hs : s < 24 := by omega
        have same : may τ k s = false → bs x (fun i => decide (i < s + 1) && may τ k i) := fun hf => bs_c hx (fun i hi => by
          by_cases q : i = s
          · subst q; rw [hf, Bool.and_false, Bool.and_false]
          · rw [show decide (i < s) = decide (i < s + 1) from decide_eq_decide.mpr (by omega)])
        rw [if_neg (geL 24 (24 : Int32) rfl hs (by omega)), m_isTaken hM hs, zb_s, nI_1]
        by_cases t : τ.1 1 s = -1
        · rw [if_pos t, if_pos rfl]
          exact ih (s + 1) x (by omega) (by omega) (same (by unfold may tkn; rw [decide_eq_false (fun w => w t), Bool.false_and]))
        · rw [if_neg t, if_neg n10, bnd_e, mm6 hM, zX_n hs (by omega), cl_n (by omega), show (3 : Int32) - nI k = nI (3 - k) from pk_sub (a := 3) (by omega)]
          by_cases p : τ.1 3 s = nI (3 - k)
          · rw [if_pos p]
            exact ih (s + 1) x (by omega) (by omega) (same (by unfold may; rw [decide_eq_true p, Bool.not_true, Bool.and_false]))
          · rw [if_neg p]
            refine ih (s + 1) _ (by omega) (by omega) (bs_c (bs_or hx (bs_1 hs)) (fun i hi => ?_))
            by_cases q : i = s
            · subst q
              have hm : may τ k i = true := by unfold may tkn; rw [decide_eq_true t, decide_eq_false p]; rfl
              rw [hm]; simp
            · rw [decide_eq_false q, Bool.or_false, show decide (i < s) = decide (i < s + 1) from decide_eq_decide.mpr (by omega)]
  exact loop zFU 0 0 (by omega) (by unfold zFU; omega) (bs_c bs_0 (fun i hi => by rw [decide_eq_false (by omega), Bool.false_and]))
theorem m_bits {x : Int32} {P : Nat → Bool} (hx : bs x P) (σ : zS) : fX7_bits x σ = some (nI (cn P 24), σ) := by
  have loop : ∀ (n s : Nat), s ≤ 24 → 24 < s + n → fX7_bits_4 n x (nI (cn P s)) (nI s) σ = some (nI (cn P 24), σ) := by
    intro n
    induction n with
    | zero => intro s h1 h2; exact absurd h2 (by omega)
    | succ n ih =>
      intro s h1 h2
      show bX7_bits_4 (fX7_bits_4 n) x (nI (cn P s)) (nI s) σ = _
      unfold bX7_bits_4
      by_cases e : s = 24
      · subst e; rw [if_pos (by decide)]
      · have hs : s < 24 := by omega
        rw [if_neg (geL 24 (24 : Int32) rfl hs (by omega)), bnd_e, bitB hx hs, cn_1, nI_1]
        exact ih (s + 1) (by omega) (by omega)
  exact loop zFU 0 (by omega) (by unfold zFU; omega)
theorem m_hiss {τ : zS} (hM : mR τ.2) {N k : Nat} (hN2 : N ≤ 40) (hN : τ.1 0 1 = nI N) (hk : k = 1 ∨ k = 2) (v2 v3 v5 : Int32) : ∃ v6, fX7_seated_67 zFU 0 (nI k) v2 v3 v5 0 0 τ = bX7_seated_128 0 (nI k) v2 v3 v5 v6 τ ∧ lsT τ N k = decide (¬ v6 ≤ 0) := by
  have loop : ∀ (n t : Nat), t ≤ N → N < t + n → fX7_seated_67 n 0 (nI k) v2 v3 v5 (nI (cn (fun t => decide (τ.1 6 (40 * k + t) = 2)) t) - nI (cn (fun t => decide (τ.1 6 (40 * k + t) = 1)) t)) (nI t) τ = bX7_seated_128 0 (nI k) v2 v3 v5 (nI (cn (fun t => decide (τ.1 6 (40 * k + t) = 2)) N) - nI (cn (fun t => decide (τ.1 6 (40 * k + t) = 1)) N)) τ := by
    intro n
    induction n with
    | zero => intro t h1 h2; exact absurd h2 (by omega)
    | succ n ih =>
      intro t h1 h2
      show bX7_seated_67 (fX7_seated_67 n) 0 (nI k) v2 v3 v5 _ (nI t) τ = _
      unfold bX7_seated_67 bX7_seated_119
      rw [hN]
      by_cases e : t = N
      · subst e
        rw [if_pos (nI_le (Nat.le_refl _) (by omega))]
      · have ht : t < N := by omega
        rw [if_neg (nI_ge ht (by omega))]
        simp only [bnd_e]
        rw [mm9 hM, show (40 : Int32) = nI 40 from rfl, pk_mul, nI_add, zX_n (by omega) (by omega), zX_n (by omega) (by omega), cl_n (by omega), nI_1, ← ih (t + 1) (by omega) (by omega)]
        have k1 := cn_1 (fun t => decide (τ.1 6 (40 * k + t) = 2)) t
        have k2 := cn_1 (fun t => decide (τ.1 6 (40 * k + t) = 1)) t
        rw [← k1, ← k2]
        generalize nI (cn (fun t => decide (τ.1 6 (40 * k + t) = 2)) t) = A
        generalize nI (cn (fun t => decide (τ.1 6 (40 * k + t) = 1)) t) = B
        by_cases p2 : τ.1 6 (40 * k + t) = 2
        · rw [if_pos p2, p2, if_pos (show decide ((2 : Int32) = 2) = true from rfl), if_neg (show ¬ decide ((2 : Int32) = 1) = true by decide), Int32.add_zero]
          have e : A - B + 1 = A + 1 - B := by rw [Int32.sub_eq_add_neg, Int32.sub_eq_add_neg, Int32.add_assoc, Int32.add_assoc, Int32.add_comm (-B)]
          rw [e]
        · rw [if_neg p2]
          by_cases p1 : τ.1 6 (40 * k + t) = 1
          · rw [if_pos p1, p1, if_neg (show ¬ decide ((1 : Int32) = 2) = true by decide), if_pos (show decide ((1 : Int32) = 1) = true from rfl), Int32.add_zero]
            have e : A - B + -1 = A - (B + 1) := by rw [Int32.sub_eq_add_neg, Int32.sub_eq_add_neg, Int32.neg_add, Int32.sub_eq_add_neg, Int32.add_assoc]
            rw [e]
          · rw [if_neg p1, if_neg (fun w => p2 (of_decide_eq_true w)), if_neg (fun w => p1 (of_decide_eq_true w)), Int32.add_zero, Int32.add_zero, Int32.add_zero]
  have c1 := cn_le (fun t => decide (τ.1 6 (40 * k + t) = 1)) N
  have c2 := cn_le (fun t => decide (τ.1 6 (40 * k + t) = 2)) N
  have l0 := loop zFU 0 (by omega) (by unfold zFU; omega)
  have e0 : nI (cn (fun t => decide (τ.1 6 (40 * k + t) = 2)) 0) - nI (cn (fun t => decide (τ.1 6 (40 * k + t) = 1)) 0) = 0 := by
    show nI 0 - nI 0 = 0
    decide
  rw [e0, nI_0] at l0
  refine ⟨_, l0, ?_⟩
  unfold lsT
  apply decide_eq_decide.mpr
  rw [Int32.le_iff_toInt_le, pk_sub_toInt (by omega) (by omega)]
  show _ ↔ ¬ _ ≤ (0 : Int)
  omega
theorem o_seated (σ τ : zS) (h : Rel σ τ) (a1 a2 a3 : Int32) : ∃ (r : Int32) (σ' τ' : zS), fX6_seated 0 a1 a2 a3 σ = some (r, σ') ∧ fX7_seated 0 a1 a2 a3 τ = some (r, τ') ∧ Rel σ' τ' := by
  obtain ⟨hco, hca, hfr⟩ := id h
  obtain ⟨hR, -, hM, hcr, -⟩ := id hco
  obtain ⟨N, N1, N2, N3, N4⟩ := core_N hco
  have main : ∀ none : Int32, ∃ (r : Int32) (σ' τ' : zS), bX6_seated_11 0 a1 a2 a3 none σ = some (r, σ') ∧ bX7_seated_12 0 a1 a2 a3 none τ = some (r, τ') ∧ Rel σ' τ' := by
    intro none
    unfold bX6_seated_11 bX7_seated_12
    rcases ok_dec a1 1 2 with h1 | h1
    · rw [(c_isStick a1 σ).1 h1, zb_s, if_neg n10, (m_isStick a1 τ).1 h1, zb_s, if_neg n10]
      obtain ⟨k, k1, k2, rfl⟩ := ok_n (a := 1) (n := 2) (by omega) (by omega) h1
      have hk : k = 1 ∨ k = 2 := by omega
      rcases ok_dec a2 1 3 with h2 | h2
      · rw [(c_within a2 1 3 σ).1 h2, zb_s, if_neg n10, (m_in a2 1 3 τ).1 h2, zb_s, if_neg n10]
        obtain ⟨n, n1, n3, rfl⟩ := ok_n (a := 1) (n := 3) (by omega) (by omega) h2
        rcases ok_dec a3 0 1 with h3 | h3
        · rw [(c_within a3 0 1 σ).1 h3, zb_s, if_neg n10, (m_in a3 0 1 τ).1 h3, zb_s, if_neg n10]
          obtain ⟨r, σ1, q1, q2, q3⟩ := c_best h N1 N2 N4 hk n1 n3
          obtain ⟨x, x1, x2⟩ := m_may hM hk
          have hle := cn_le (may τ k) 24
          rw [q1, zb_s, x1, zb_s, m_bits x2, zb_s]
          by_cases e : n ≤ cn (may τ k) 24
          · rw [if_pos (nI_le e (by omega))]
            obtain ⟨v6, w1, w2⟩ := m_hiss hM N2 N4 hk (nI n) a3 x
            rw [w1]
            unfold bX7_seated_128
            rw [bnd_e]
            obtain ⟨τ1, y1, y2, y3⟩ := m_s136 (n := n) (v3 := a3) hco N2 N4 hk x2 w2 n1 n3 zFU 0 (zI τ 0 36 0) (by omega) (by unfold zFU; omega) ((mS.rf τ).i (by omega)) (Or.inl ⟨zI_s, fun a b c _ _ _ _ _ d => by unfold dI at d; omega⟩)
            rw [show fX7_seated_136 zFU 0 (nI k) (nI n) a3 x v6 0 (zI τ 0 36 0) = _ from y1]
            have all : ∀ a b c, vd n a b c → c < 24 → dI 24 0 0 a b c := fun a b c v hc => Or.inl (by have := vd_le v; omega)
            -- there is one at least
            obtain ⟨i1, i2, i3, hi1, hi2⟩ : ∃ a b c, vd n a b c ∧ c < cn (may τ k) 24 := by
              rcases (show n = 1 ∨ n = 2 ∨ n = 3 by omega) with rfl | rfl | rfl
              · exact ⟨0, 0, 0, Or.inl ⟨rfl, rfl, rfl⟩, by omega⟩
              · exact ⟨0, 1, 1, Or.inr (Or.inl ⟨rfl, by omega, rfl⟩), by omega⟩
              · exact ⟨0, 1, 2, Or.inr (Or.inr ⟨rfl, by omega, by omega⟩), by omega⟩
            obtain ⟨s1, s2, s3, z1, z2, z3, -, -⟩ := c_spr x2 hi1 hi2 σ
            rcases q3 with ⟨-, g⟩ | ⟨a, b, c, v1, v2, v3, v4, v5⟩
            · exact absurd (g s1 s2 s3 z1 z2 z3.1 z3.2.1 z3.2.2) (fun w => w)
            · rcases y3 with ⟨-, g⟩ | ⟨a', b', c', u1, u2, u3, u4, u5, u6⟩
              · exact absurd (all s1 s2 s3 z1 z2) (g s1 s2 s3 z1 z2 z3.1 z3.2.1 z3.2.2)
              · obtain ⟨f1, f2⟩ := v5 a' b' c' u1 u2 u3.1 u3.2.1 u3.2.2
                obtain ⟨f3, f4⟩ := u6 a b c v1 v2 v3.1 v3.2.1 v3.2.2 (all a b c v1 v2)
                have eH := bet_eq f3 f1
                have same : a = a' ∧ b = b' ∧ c = c' := by
                  rcases clx_3 n (a := a) (b := b) (c := c) (a' := a') (b' := b') (c' := c') with w | w | w
                  · exact absurd w (f4 eH)
                  · exact w
                  · exact absurd (f2 w) f3
                obtain ⟨rfl, rfl, rfl⟩ := same
                have hle2 := vd_le v1
                unfold bX7_seated_274
                rw [v4, if_neg (tI_ne v1 v2).1, u4, u5]
                by_cases c0 : a3 = 0
                · rw [if_pos c0, if_pos c0]
                  exact ⟨_, σ1, τ1, rfl, rfl, Rel_m q2 y2⟩
                · rw [if_neg c0, if_neg c0]
                  obtain ⟨σ2, p1, p2, p3, p4⟩ := c_hw q2 N1 N2 N4 hk (tI_b (show a < 24 by omega) (show b < 24 by omega) v2) (fun q _ hb => tS_may v3 hb)
                  rw [p1, zb_s]
                  exact ⟨_, σ2, τ1, rfl, rfl, Rel_m p3 y2⟩
          · rw [if_neg (nI_ge (by omega) (by omega))]
            have hr : r = -1 := by
              rcases q3 with ⟨g, -⟩ | ⟨a, b, c, v1, v2, v3, v4, v5⟩
              · exact g
              · exfalso
                have g1 := vd_cn v1 v3.1 v3.2.1 v3.2.2
                have g2 := cn_s (may τ k) v2 v3.2.2
                unfold vd at g1
                omega
            rw [if_pos hr]
            exact ⟨none, σ1, τ, rfl, rfl, q2⟩
        · rw [(c_within a3 0 1 σ).2 h3, zb_s, if_pos rfl, (m_in a3 0 1 τ).2 h3, zb_s, if_pos rfl]
          exact ⟨none, σ, τ, rfl, rfl, h⟩
      · rw [(c_within a2 1 3 σ).2 h2, zb_s, if_pos rfl, (m_in a2 1 3 τ).2 h2, zb_s, if_pos rfl]
        exact ⟨none, σ, τ, rfl, rfl, h⟩
    · rw [(c_isStick a1 σ).2 h1, zb_s, if_pos rfl, (m_isStick a1 τ).2 h1, zb_s, if_pos rfl]
      exact ⟨none, σ, τ, rfl, rfl, h⟩
  unfold fX6_seated fX7_seated
  by_cases e : a3 = 1
  · rw [if_pos e, if_pos e]; exact main _
  · rw [if_neg e, if_neg e]; exact main _
end
