section
theorem all_loop {σ0 τ0 : zS} {n L q : Nat} (h0 : C0 σ0 n L q) (m0 : M0 τ0 n) (hT : sgn (σ0.1 167) n = sgn (τ0.1 7) n) (v1 : Int32) : ∀ (N N' i : Nat) (σ τ : zS) (p c : Nat) (F cd lt : Nat → Nat), CPL σ0 τ0 n L q σ τ p c F cd lt → n + 2 ≤ N + p → n + 2 ≤ N' + p → i < p → 1 ≤ c →
    ((∃ σ' τ' p' c' F' cd' lt', fX5_allClauses_7 N 168 1 (nI i) σ = some (1, σ') ∧ fX7_law_54 N' 0 v1 1 τ = bX7_law_94 0 v1 1 τ' ∧ CPL σ0 τ0 n L q σ' τ' p' c' F' cd' lt' ∧ 1 ≤ c') ∨ (∃ σ' τ' e, fX5_allClauses_7 N 168 1 (nI i) σ = some (0, σ') ∧ fX7_law_54 N' 0 v1 1 τ = bX7_law_94 0 v1 0 τ' ∧ CFx σ0 L q σ' e ∧ MFx τ0 τ' e)) := by
  have hn := h0.1.2.2.2.2
  have stopC : ∀ (N : Nat) (i : Int32) (σ : zS), fX5_allClauses_7 (N + 1) 168 0 i σ = some (0, σ) := by
    intro N i σ
    show bX5_allClauses_7 (fX5_allClauses_7 N) 168 0 i σ = _
    unfold bX5_allClauses_7
    rw [if_pos rfl]
    split <;> rfl
  have stopM : ∀ (N : Nat) (τ : zS), fX7_law_54 (N + 1) 0 v1 0 τ = bX7_law_94 0 v1 0 τ := by
    intro N τ
    show bX7_law_54 (fX7_law_54 N) 0 v1 0 τ = _
    unfold bX7_law_54
    rw [if_pos rfl]
  intro N
  induction N with
  | zero =>
    intro N' i σ τ p c F cd lt h h1
    have := h.2.2.2.2.2.1
    omega
  | succ N ih =>
    intro N' i σ τ p c F cd lt h hN hN' hi hc
    obtain ⟨⟨Fv, A, rfl, hA⟩, ⟨τc, Fm, O, Lm, V, Am, B, rfl, hAm, hb⟩, hS, hF0, hk, hp, hc12⟩ := id h
    obtain ⟨N', rfl⟩ : ∃ m, N' = m + 1 := ⟨N' - 1, by omega⟩
    have h0' : C0 (zI σ0 L 2 (nI c)) n L q := C0_z h0
    have mc : M0 τc n := baM_0 hb m0
    have sgz : sgn ((zI σ0 L 2 (nI c)).1 167) n = sgn (σ0.1 167) n := sg_z h0
    have sgt : sgn (τc.1 7) n = sgn (σ0.1 167) n := by rw [hb.2.1 7 (by omega) (by omega) (by omega) (by omega), hT]
    have hcs := c_sgn (O := nI 0) (F := Fv) (S := nI (F c + 2 * c)) (A := A) h0' hp
    have hms := m_hr (F := Fm) (O := O) (K := nI (F c)) (L := Lm) (V := V) (A := Am) (B := B) mc hp
    rw [sgz] at hcs
    rw [sgt] at hms
    have eC : fX5_allClauses_7 (N + 1) 168 1 (nI i) (mkC (zI σ0 L 2 (nI c)) L q (nI p) (nI 0) Fv (nI (F c + 2 * c)) A) = bX5_allClauses_7 (fX5_allClauses_7 N) 168 1 (nI i) (mkC (zI σ0 L 2 (nI c)) L q (nI p) (nI 0) Fv (nI (F c + 2 * c)) A) := rfl
    have eM : fX7_law_54 (N' + 1) 0 v1 1 (mkM τc (nI p) Fm O (nI (F c)) Lm V Am B) = bX7_law_54 (fX7_law_54 N') 0 v1 1 (mkM τc (nI p) Fm O (nI (F c)) Lm V Am B) := rfl
    rw [eC, eM]
    unfold bX5_allClauses_7 bX7_law_54 bX5_allClauses_45 bX5_allClauses_46 bX7_law_89 bX7_law_90
    rw [if_neg (geL 120 (120 : Int32) rfl (show i < 120 by omega) (by omega)), if_neg n10, if_neg n10, hcs, zb_s, rk13, rk12, mc.2.2]
    by_cases e : p < n
    · obtain ⟨m, m1, m2⟩ := sg_b (T := σ0.1 167) e
      have hne : ¬ sgn (σ0.1 167) n p = -1 := by rw [m2]; exact (ix_k m m1).2.2.2
      rw [if_neg hne, if_neg (nI_ge e (by omega))]
      unfold fX5_take fX7_takes
      rw [hcs, zb_s, hms, zb_s]
      by_cases e59 : sgn (σ0.1 167) n p = 59
      · rw [if_pos e59, if_pos e59, bnd_e, sk3, ck3, nI_1 p, zb_s, if_neg n10, bnd_e, rk12, mk12, nI_1 p, zb_s, if_neg n10]
        have h2 : CPL σ0 τ0 n L q (mkC (zI σ0 L 2 (nI c)) L q (nI (p + 1)) (nI 0) Fv (nI (F c + 2 * c)) A) (mkM τc (nI (p + 1)) Fm O (nI (F c)) Lm V Am B) (p + 1) c F cd lt := ⟨⟨Fv, A, rfl, hA⟩, ⟨τc, Fm, O, Lm, V, Am, B, rfl, hAm, hb⟩, hS, hF0, by omega, by omega, hc12⟩
        rcases clause_step h0 m0 hT h2 with ⟨σ', τ', p', F', cd', lt', x1, x2, x3, x4⟩ | ⟨σ', τ', e, x1, x2, x3, x4⟩
        · rw [x1, zb_s, if_neg n10, x2, zb_s, if_neg n10, nI_1]
          exact ih N' (i + 1) σ' τ' p' (c + 1) F' cd' lt' x3 (by omega) (by omega) (by omega) (by omega)
        · obtain ⟨N, rfl⟩ : ∃ m, N = m + 1 := ⟨N - 1, by omega⟩
          obtain ⟨N', rfl⟩ : ∃ m, N' = m + 1 := ⟨N' - 1, by omega⟩
          rw [x1, zb_s, if_pos rfl, x2, zb_s, if_pos rfl, stopC, stopM]
          exact Or.inr ⟨σ', τ', e, rfl, rfl, x3, x4⟩
      · rw [if_neg e59, if_neg e59]
        unfold fX5_wrong
        rw [bnd_e, ck5, zb_s, zb_s, if_pos rfl, rk12, show (1 : Int32) = nI 1 from rfl, m_wr (by omega), zb_s, zb_s, if_pos rfl]
        obtain ⟨N, rfl⟩ : ∃ m, N = m + 1 := ⟨N - 1, by omega⟩
        obtain ⟨N', rfl⟩ : ∃ m, N' = m + 1 := ⟨N' - 1, by omega⟩
        rw [stopC, stopM]
        exact Or.inr ⟨_, _, 1000 * 1 + p, rfl, rfl, ⟨c, p, 1, F c + 2 * c, nI 0, A, rfl, by omega, by omega, by omega⟩, ⟨τc, c, F, lt, hb, nI p, O, nI (F c), Lm, V, Am, B, rfl⟩⟩
    · have hne : sgn (σ0.1 167) n p = -1 := by unfold sgn; rw [if_neg e]
      rw [if_pos hne, if_pos (nI_le (by omega) (by omega))]
      exact Or.inl ⟨_, _, p, c, F, cd, lt, rfl, rfl, h, hc⟩
/-! the reference copies what was said -/
def cpF (j : Nat) (S D : Nat → Int32) (i : Nat) : Nat → Int32 := fun b => if 140 * j ≤ b ∧ b < 140 * j + i then S (b - 140 * j) else D b
theorem m_copy1 {τ1 : zS} (hm : mR τ1.2) {j k : Nat} (hj : j < 4) (hk : k ≤ 120) (h16 : τ1.1 0 16 = nI k) : ∀ (N i : Nat), i ≤ k → k < i + N → fX7_law_121 N 0 (nI j) (nI i) (zA1 τ1 13 (cpF j (τ1.1 8) (τ1.1 13) i)) = bX7_law_156 0 (nI j) (zA1 τ1 13 (cpF j (τ1.1 8) (τ1.1 13) k)) := by
  intro N
  induction N with
  | zero => intro i h1 h2; exact absurd h2 (by omega)
  | succ N ih =>
    intro i h1 h2
    show bX7_law_121 (fX7_law_121 N) 0 (nI j) (nI i) _ = _
    unfold bX7_law_121
    rw [zA1_o (show ¬ (0 : Nat) = 13 by omega), h16, zA1_2, mm25 hm, mm20 hm, bnd_e, bnd_e]
    by_cases e : i = k
    · subst e
      rw [if_pos (nI_le (Nat.le_refl _) (by omega))]
    · rw [if_neg (nI_ge (show i < k by omega) (by omega)), zX_n (by omega) (by omega), show (140 : Int32) = nI 140 from rfl, pk_mul, nI_add, zX_n (by omega) (by omega), cl_n (by omega), cl_n (by omega), zI_zA1, zA1_o (show ¬ (8 : Nat) = 13 by omega), bnd_e, nI_1]
      have e2 : upd (cpF j (τ1.1 8) (τ1.1 13) i) (140 * j + i) (τ1.1 8 i) = cpF j (τ1.1 8) (τ1.1 13) (i + 1) := by
        funext b
        unfold upd cpF
        by_cases q1 : b = 140 * j + i
        · subst q1
          rw [if_pos rfl, if_pos (by omega), show 140 * j + i - 140 * j = i by omega]
        · rw [if_neg q1]
          by_cases q2 : 140 * j ≤ b ∧ b < 140 * j + i
          · rw [if_pos q2, if_pos (by omega)]
          · rw [if_neg q2, if_neg (by omega)]
      rw [e2]
      exact ih (i + 1) (by omega) (by omega)
def cpI (τ2 τ : zS) (j i : Nat) : Prop := τ.2 = τ2.2 ∧ (∀ a, ¬ a = 15 → ¬ a = 16 → ¬ a = 17 → τ.1 a = τ2.1 a) ∧ (∀ b, ¬ (12 * j ≤ b ∧ b < 12 * j + i) → τ.1 15 b = τ2.1 15 b ∧ τ.1 16 b = τ2.1 16 b ∧ τ.1 17 b = τ2.1 17 b) ∧ ∀ u, u < i → τ.1 15 (12 * j + u) = τ2.1 10 u ∧ τ.1 16 (12 * j + u) = nI (140 * j) + τ2.1 11 u ∧ τ.1 17 (12 * j + u) = nI (140 * j) + τ2.1 12 u
theorem m_copy2 {τ2 : zS} (hm : mR τ2.2) {j c : Nat} (hj : j < 4) (hc : c ≤ 12) (h18 : τ2.1 0 18 = nI c) : ∀ (N i : Nat) (τ : zS), i ≤ c → c < i + N → cpI τ2 τ j i → ∃ τ', fX7_law_159 N 0 (nI j) (nI i) τ = some (nI c, τ') ∧ cpI τ2 τ' j c := by
  intro N
  induction N with
  | zero => intro i τ h1 h2; exact absurd h2 (by omega)
  | succ N ih =>
    intro i τ h1 h2 h
    obtain ⟨r, f1, f2, f3⟩ := id h
    show ∃ τ', bX7_law_159 (fX7_law_159 N) 0 (nI j) (nI i) τ = _ ∧ _
    unfold bX7_law_159
    rw [f1 0 (by omega) (by omega) (by omega), h18]
    by_cases e : i = c
    · subst e
      rw [if_pos (nI_le (Nat.le_refl _) (by omega))]
      exact ⟨τ, rfl, h⟩
    · have zx12' : ∀ a : Option (Int32 × zS), zX (nI i) 12 a = a := fun a => zX_n (by omega) (by omega)
      have zx48 : ∀ a : Option (Int32 × zS), zX (nI (12 * j + i)) 48 a = a := fun a => zX_n (by omega) (by omega)
      rw [if_neg (nI_ge (show i < c by omega) (by omega)), show (12 : Int32) = nI 12 from rfl, show (140 : Int32) = nI 140 from rfl, pk_mul, pk_mul, nI_add]
      simp only [bnd_e, zI_2, r, mm27 hm, mm22 hm, mm28 hm, mm23 hm, mm29 hm, mm24 hm, zx12', zx48]
      rw [cl_n (i := i) (by omega), cl_n (i := 12 * j + i) (by omega), nI_1]
      refine ih (i + 1) _ (by omega) (by omega) ⟨r, fun a a1 a2 a3 => ?_, fun b hb => ?_, fun u hu => ?_⟩
      · rw [zI_ne a3, zI_ne a2, zI_ne a1]
        exact f1 a a1 a2 a3
      · obtain ⟨g1, g2, g3⟩ := f2 b (by omega)
        rw [zI_ne (show (15 : Nat) ≠ 17 by omega), zI_ne (show (15 : Nat) ≠ 16 by omega), zI_o (by omega), zI_ne (show (16 : Nat) ≠ 17 by omega), zI_o (by omega), zI_ne (show (16 : Nat) ≠ 15 by omega), zI_o (by omega), zI_ne (show (17 : Nat) ≠ 16 by omega), zI_ne (show (17 : Nat) ≠ 15 by omega)]
        exact ⟨g1, g2, g3⟩
      · rw [zI_ne (show (15 : Nat) ≠ 17 by omega), zI_ne (show (15 : Nat) ≠ 16 by omega), zI_ne (show (16 : Nat) ≠ 17 by omega)]
        by_cases q : u = i
        · subst q
          rw [zI_s, zI_s, zI_s, zI_ne (show (11 : Nat) ≠ 15 by omega), zI_ne (show (12 : Nat) ≠ 16 by omega), zI_ne (show (12 : Nat) ≠ 15 by omega), f1 10 (by omega) (by omega) (by omega), f1 11 (by omega) (by omega) (by omega), f1 12 (by omega) (by omega) (by omega)]
          exact ⟨rfl, rfl, rfl⟩
        · rw [zI_o (by omega), zI_o (by omega), zI_o (by omega), zI_o (by omega), zI_o (by omega), zI_o (by omega)]
          exact f3 u (by omega)
/-! the certificate of a clause -/
def dq (cd : Nat → Nat) (s : Nat) : Nat → Nat
  | 0 => 0
  | t + 1 => stp (cd (s + t) / 1048576) (dq cd s t)
theorem seg_wf {op vl cd : Nat → Nat} {F T : Nat} (s : SEG cd F T 14) (hL : LB cd T) (hT : T ≤ 124) (h1 : ∀ i, F ≤ i → i < T → op i = cd i / 1048576) (h2 : ∀ i, F ≤ i → i < T → vl i = cd i % 1048576) : ∃ dep bo, wf op vl F T dep bo := by
  have hlt := s.1
  obtain ⟨e1, e2⟩ := s.2 (fun i => dq cd F (i - F)) (fun i a b => by
    show dq cd F (i + 1 - F) = _
    rw [show i + 1 - F = (i - F) + 1 by omega, dq, show F + (i - F) = i by omega])
  have eF : dq cd F (F - F) = 0 := by rw [Nat.sub_self]; rfl
  have stp1 : ∀ i, F ≤ i → i < T → dq cd F (i + 1 - F) = stp (cd i / 1048576) (dq cd F (i - F)) := fun i a b => by
    rw [show i + 1 - F = (i - F) + 1 by omega, dq, show F + (i - F) = i by omega]
  refine ⟨fun i => dq cd F (i - F), fun i => decide (F < i ∧ 7 ≤ cd (i - 1) / 1048576 ∧ cd (i - 1) / 1048576 ≤ 10), eF, decide_eq_false (by omega), ?_, decide_eq_true ⟨hlt, hL.2⟩, hlt, hT, fun i a b => ?_⟩
  · have e1 : dq cd F (T - F) = dq cd F (F - F) + 1 := e1
    show dq cd F (T - F) = 1
    omega
  · obtain ⟨w1, w2⟩ := e2 i a b
    have w1 : dq cd F (i - F) ≤ dq cd F (F - F) + 14 := w1
    have sp := stp1 i a b
    unfold stp at sp
    unfold wfI
    rw [h1 i a b, h2 i a b]
    have hv : cd i % 1048576 < 1048576 := Nat.mod_lt _ (by omega)
    refine ⟨by show dq cd F (i - F) ≤ 30; omega, hv, ?_⟩
    have bo1 : ∀ x : Bool, x = decide (F < i + 1 ∧ 7 ≤ cd (i + 1 - 1) / 1048576 ∧ cd (i + 1 - 1) / 1048576 ≤ 10) → (x = true → 7 ≤ cd i / 1048576 ∧ cd i / 1048576 ≤ 10) := by
      intro x hx hx2
      rw [hx] at hx2
      exact (of_decide_eq_true hx2).2
    rcases w2 with w | w | w | w | w
    · refine Or.inl ⟨w, ?_, ?_⟩
      · show dq cd F (i + 1 - F) = dq cd F (i - F) + 1
        rw [if_pos (by omega)] at sp
        exact sp
      · exact decide_eq_false (fun q => by have := q.2.1; rw [show i + 1 - 1 = i by omega] at this; omega)
    · refine Or.inr (Or.inl ⟨w.1, w.2, ?_, ?_⟩)
      · show dq cd F (i + 1 - F) = dq cd F (i - F) + 1
        rw [if_pos (by omega)] at sp
        exact sp
      · exact decide_eq_false (fun q => by have := q.2.1; rw [show i + 1 - 1 = i by omega] at this; omega)
    · refine Or.inr (Or.inr (Or.inl ⟨w.1, w.2.1, decide_eq_true w.2.2, ?_⟩))
      show dq cd F (i + 1 - F) = dq cd F (i - F)
      rw [if_neg (by omega), if_pos w.1] at sp
      exact sp
    · have wd : 1 ≤ dq cd F (i - F) := w.2.1
      refine Or.inr (Or.inr (Or.inr (Or.inl ⟨w.1, w.2.1, decide_eq_true w.2.2.1, ?_, ?_, w.2.2.2.1, w.2.2.2.2.1, w.2.2.2.2.2⟩)))
      · show dq cd F (i + 1 - F) + 1 = dq cd F (i - F)
        rw [if_neg (by omega), if_neg (by omega)] at sp
        omega
      · exact decide_eq_false (fun q => by have := q.2.2; rw [show i + 1 - 1 = i by omega] at this; omega)
    · have wd : 2 ≤ dq cd F (i - F) := w.2.2
      refine Or.inr (Or.inr (Or.inr (Or.inr ⟨w.1, w.2.1, w.2.2, ?_, fun q => (bo1 _ rfl q).1⟩)))
      show dq cd F (i + 1 - F) + 1 = dq cd F (i - F)
      rw [if_neg (by omega), if_neg (by omega)] at sp
      omega
/-- a code of a segment is told by its step alike, wherever it is no open jump -/
theorem enc_seg {cd : Nat → Nat} {F T c i : Nat} (s : SEG cd F T 14) (a : F ≤ i) (b : i < T) : enc c (cd i) = 16 * nm c (cd i / 1048576) (cd i % 1048576) + kd (cd i / 1048576) := by
  obtain ⟨e1, e2⟩ := s.2 (fun i => dq cd F (i - F)) (fun i a b => by
    show dq cd F (i + 1 - F) = _
    rw [show i + 1 - F = (i - F) + 1 by omega, dq, show F + (i - F) = i by omega])
  have w := (e2 i a b).2
  unfold enc
  rw [if_neg, if_neg]
  · intro q
    rcases w with w | w | w | w | w
    · omega
    · omega
    · omega
    · have := w.2.2.2.1; omega
    · omega
  · intro q
    rcases w with w | w | w | w | w
    · omega
    · omega
    · omega
    · have := w.2.2.2.1; omega
    · omega
end
