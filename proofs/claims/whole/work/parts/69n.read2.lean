section
variable {τ0 τ : zS} {n s p o k : Nat} {W Wb : List Nat} {cd : Nat → Nat}
theorem opn_le : ∀ (W : List Nat), opn W ≤ W.length
  | [] => Nat.le_refl 0
  | w :: W => by
    have := opn_le W
    show (if w / 1048576 = 10 ∨ w / 1048576 = 13 ∨ w / 1048576 = 14 then 1 else 0) + opn W ≤ W.length + 1
    split <;> omega
theorem sg_d {x : Int32} (h : dgt x = true) : ∃ d, 48 ≤ d ∧ d ≤ 57 ∧ x = nI d := by
  have h2 : ¬ x < 48 ∧ ¬ 57 < x := by unfold dgt at h; exact of_decide_eq_true h
  exact ok_n (a := 48) (n := 57) (by omega) (by omega) h2
theorem m_num10 (h0 : M0 τ0 n) {fm : Nat} (hfm : fm ≤ 120) : ∀ (j N : Nat) (τ : zS) (p v : Nat), MS τ0 n s τ p o W cd k → τ.1 0 19 = nI v → fm + 5 = p + j → j < N →
    ((nmb (sgn (τ0.1 7) n) j p v).2.2 = true → ∃ τ', fX7_readsNumber_10 N 0 (nI fm) τ = some (1, τ') ∧ MS τ0 n s τ' (nmb (sgn (τ0.1 7) n) j p v).1 o W cd k ∧ τ'.1 0 19 = nI (nmb (sgn (τ0.1 7) n) j p v).2.1) ∧ ((nmb (sgn (τ0.1 7) n) j p v).2.2 = false → ∃ τ', fX7_readsNumber_10 N 0 (nI fm) τ = some (0, τ') ∧ MFl τ0 τ' (2000 + (nmb (sgn (τ0.1 7) n) j p v).1)) := by
  intro j
  induction j with
  | zero =>
    intro N τ p v h hv e hN
    obtain ⟨N, rfl⟩ : ∃ m, N = m + 1 := ⟨N - 1, by omega⟩
    have hn := h0.2.1
    have hp := MS_n h
    unfold nmb
    refine ⟨fun q => ?_, fun q => ?_⟩
    · have q : dgt (sgn (τ0.1 7) n p) = false := by simpa using q
      refine ⟨τ, ?_, h, hv⟩
      show bX7_readsNumber_10 (fX7_readsNumber_10 N) 0 (nI fm) τ = _
      unfold bX7_readsNumber_10
      rw [m_dig h0 h, zb_s, q, if_pos (by decide)]
    · have q : dgt (sgn (τ0.1 7) n p) = true := by simpa using q
      obtain ⟨τ', w1, w2⟩ := m_wrong 2 (by omega) (by omega) h
      refine ⟨τ', ?_, w2⟩
      show bX7_readsNumber_10 (fX7_readsNumber_10 N) 0 (nI fm) τ = _
      unfold bX7_readsNumber_10 bX7_readsNumber_27
      have h12 : τ.1 0 12 = nI p := by obtain ⟨F, V, A, B, rfl, -⟩ := h; rfl
      rw [m_dig h0 h, zb_s, if_pos q, if_neg n10, if_pos (by rw [h12, show (5 : Int32) = nI 5 from rfl, nI_add]; congr 1; omega)]
      rw [show (2 : Int32) = nI 2 from rfl, w1, zb_s]
  | succ j ih =>
    intro N τ p v h hv e hN
    obtain ⟨N, rfl⟩ : ∃ m, N = m + 1 := ⟨N - 1, by omega⟩
    have hn := h0.2.1
    have hp := MS_n h
    by_cases q : dgt (sgn (τ0.1 7) n p) = true
    · have en : nmb (sgn (τ0.1 7) n) (j + 1) p v = nmb (sgn (τ0.1 7) n) j (p + 1) (10 * v + ((sgn (τ0.1 7) n p).toNatClampNeg - 48)) := by rw [nmb, if_pos q]
      rw [en]
      have hlt := dgt_in q
      obtain ⟨d, d1, d2, d3⟩ := sg_d q
      obtain ⟨F, V, A, B, rfl, hs, hc, i1, i2, i3, i4, i5⟩ := id h
      have hV : V = nI v := hv
      have st : fX7_readsNumber_10 (N + 1) 0 (nI fm) (mkM τ0 (nI p) F (nI o) (nI k) (nI W.length) V A B) = fX7_readsNumber_10 N 0 (nI fm) (mkM τ0 (nI (p + 1)) F (nI o) (nI k) (nI W.length) (nI (10 * v + ((sgn (τ0.1 7) n p).toNatClampNeg - 48))) A B) := by
        show bX7_readsNumber_10 (fX7_readsNumber_10 N) 0 (nI fm) _ = _
        unfold bX7_readsNumber_10
        rw [m_dig h0 h, zb_s, if_pos q, if_neg n10, rk12, if_neg (by rw [show (5 : Int32) = nI 5 from rfl, nI_add]; intro q; have := (nI_eq (by omega) (by omega)).mp q; omega), m_here h0 h, zb_s, bnd_e, rk19, mk19, bnd_e, rk12, mk12, nI_1, hV, d3, cl_n (by omega), show (10 : Int32) = nI 10 from rfl, pk_mul, nI_add, show (48 : Int32) = nI 48 from rfl, pk_sub (by omega), show 10 * v + d - 48 = 10 * v + (d - 48) by omega]
      rw [st]
      exact ih N _ (p + 1) _ ⟨F, _, A, B, rfl, hs, hc, by omega, by omega, by omega, i4, i5⟩ rfl (by omega) (by omega)
    · have en : nmb (sgn (τ0.1 7) n) (j + 1) p v = (p, v, true) := by rw [nmb, if_neg q]
      rw [en]
      refine ⟨fun _ => ⟨τ, ?_, h, hv⟩, fun q => by cases q⟩
      show bX7_readsNumber_10 (fX7_readsNumber_10 N) 0 (nI fm) τ = _
      unfold bX7_readsNumber_10
      rw [m_dig h0 h, zb_s, if_neg q, if_pos rfl]
theorem nmb_v (sg : Nat → Int32) : ∀ (j p v : Nat), (∀ p, dgt (sg p) = true → (sg p).toNatClampNeg - 48 ≤ 9) → (nmb sg j p v).2.1 < (v + 1) * 10 ^ j
  | 0, p, v, _ => by show v < (v + 1) * 1; omega
  | j + 1, p, v, h => by
    rw [nmb]
    by_cases q : dgt (sg p) = true
    · rw [if_pos q]
      have := nmb_v sg j (p + 1) (10 * v + ((sg p).toNatClampNeg - 48)) h
      have h9 := h p q
      refine Nat.lt_of_lt_of_le this ?_
      rw [Nat.pow_succ, Nat.mul_comm (10 ^ j) 10, ← Nat.mul_assoc]
      exact Nat.mul_le_mul_right _ (by omega)
    · rw [if_neg q]
      show v < (v + 1) * 10 ^ (j + 1)
      have : 1 ≤ 10 ^ (j + 1) := Nat.one_le_pow _ _ (by omega)
      exact Nat.lt_of_lt_of_le (Nat.lt_succ_self v) (Nat.le_mul_of_pos_right _ this)
theorem sg_9 {sg : Nat → Int32} : ∀ p, dgt (sg p) = true → (sg p).toNatClampNeg - 48 ≤ 9 := by
  intro p q
  obtain ⟨d, d1, d2, d3⟩ := sg_d q
  rw [d3, cl_n (by omega)]
  omega
theorem nmb_p (sg : Nat → Int32) : ∀ (j p v : Nat), p ≤ (nmb sg j p v).1
  | 0, p, v => Nat.le_refl _
  | j + 1, p, v => by
    rw [nmb]
    split
    · exact Nat.le_trans (by omega) (nmb_p sg j (p + 1) _)
    · exact Nat.le_refl _
theorem nmb_p1 (sg : Nat → Int32) {j p v : Nat} (h : dgt (sg p) = true) : p < (nmb sg (j + 1) p v).1 := by
  rw [nmb, if_pos h]
  exact nmb_p sg j (p + 1) _
theorem m_opens (h0 : M0 τ0 n) {m : Nat} (hm : m = 10 ∨ m = 13 ∨ m = 14) (h : MS τ0 n s τ p o W cd k) (hp : p < n) : (o = 6 → ∃ τ', fX7_opens 0 (nI m) τ = some (0, τ') ∧ MFl τ0 τ' (5000 + p)) ∧ (¬ o = 6 → ∃ τ', fX7_opens 0 (nI m) τ = some (1, τ') ∧ MS τ0 n s τ' (p + 1) (o + 1) (1048576 * m :: W) cd k) := by
  have hn := h0.2.1
  refine ⟨fun q => ?_, fun q => ?_⟩
  · obtain ⟨τ', w1, w2⟩ := m_wrong 5 (by omega) (by omega) h
    refine ⟨τ', ?_, w2⟩
    obtain ⟨F, V, A, B, rfl, -⟩ := h
    unfold fX7_opens
    rw [rk15, if_pos (show nI o = 6 by rw [q]; rfl), show (5 : Int32) = nI 5 from rfl, w1, zb_s]
  · obtain ⟨F, V, A, B, rfl, hs, hc, i1, i2, i3, i4, i5⟩ := id h
    have := opn_le W
    unfold fX7_opens
    rw [rk15, if_neg (show ¬ nI o = (6 : Int32) from fun e => q ((nI_eq (a := o) (b := 6) (by omega) (by omega)).mp e)), bnd_e, mk15, rkR, mm21 h0.1, bnd_e, rk17, zX_n (by omega) (by omega), bnd_e, cl_n (by omega), mk9, bnd_e, rk17, mk17, bnd_e, rk12, mk12, nI_1, nI_1, nI_1, show (1048576 : Int32) = nI 1048576 from rfl, pk_mul]
    have e : 1048576 * m / 1048576 = m := Nat.mul_div_cancel_left m (by omega)
    refine ⟨_, rfl, F, V, A, _, rfl, ⟨pk_us, stw_upd hs (Nat.le_refl _)⟩, hc, ?_, ?_, by omega, ?_, ⟨⟨by omega, fun a b => by omega⟩, i5⟩⟩
    · show k + ((if 1048576 * m / 1048576 ≤ 10 then 1 else 0) + wtN W) + s ≤ p + 1
      split <;> omega
    · show W.length + 1 ≤ p + 1
      omega
    · show o + 1 = (if 1048576 * m / 1048576 = 10 ∨ 1048576 * m / 1048576 = 13 ∨ 1048576 * m / 1048576 = 14 then 1 else 0) + opn W
      rw [e, if_pos hm, i4, Nat.add_comm]
theorem m_fact (x : Int32) (σ : zS) : fX7_factOf x σ = some (if fcO x < 12 then nI (fcO x) else -1, σ) := by
  by_cases h97 : x = 97
  · subst h97; rfl
  by_cases h98 : x = 98
  · subst h98; rfl
  by_cases h103 : x = 103
  · subst h103; rfl
  by_cases h107 : x = 107
  · subst h107; rfl
  by_cases h108 : x = 108
  · subst h108; rfl
  by_cases h110 : x = 110
  · subst h110; rfl
  by_cases h112 : x = 112
  · subst h112; rfl
  by_cases h113 : x = 113
  · subst h113; rfl
  by_cases h115 : x = 115
  · subst h115; rfl
  by_cases h116 : x = 116
  · subst h116; rfl
  by_cases h119 : x = 119
  · subst h119; rfl
  by_cases h122 : x = 122
  · subst h122; rfl
  unfold fX7_factOf fcO
  simp only [if_neg h97, if_neg h98, if_neg h103, if_neg h107, if_neg h108, if_neg h110, if_neg h112, if_neg h113, if_neg h115, if_neg h116, if_neg h119, if_neg h122]
  rfl
theorem m_ssg (x : Int32) (σ : zS) : fX7_sumSign x σ = some (if ssg x = 0 then -1 else nI (ssg x), σ) := by
  unfold fX7_sumSign ssg
  repeat' split
  all_goals first | rfl | omega
theorem ssg_le (x : Int32) : ssg x ≤ 6 := by
  unfold ssg
  repeat' split
  all_goals omega
theorem ssg_2 {x : Int32} (h : ¬ ssg x = 0) : 2 ≤ ssg x := by
  unfold ssg at h ⊢
  repeat' split
  all_goals first | omega | simp_all
def SIMF (τ0 : zS) (n s : Nat) (Wb : List Nat) (K : Nat → Nat → List Nat → (Nat → Nat) → Nat → zX0) (xm : Option (Int32 × zS)) (x : zX0) : Prop := (∃ τ' p' o' W' cd' k', xm = some (1, τ') ∧ MS τ0 n s τ' p' o' (W' ++ Wb) cd' k' ∧ x = K p' o' W' cd' k') ∨ (∃ τ' e, xm = some (0, τ') ∧ MFl τ0 τ' e ∧ x = some (.inl e)) ∨ x = none
def SIMS (τ0 : zS) (n s : Nat) (Wb : List Nat) (Kd : Nat → Nat → (Nat → Nat) → Nat → zX0) (xm : Option (Int32 × zS)) (x : zX0) : Prop := (∃ τ' p' o' cd' k', xm = some (1, τ') ∧ MS τ0 n s τ' p' o' Wb cd' k' ∧ x = Kd p' o' cd' k') ∨ (∃ τ' e, xm = some (0, τ') ∧ MFl τ0 τ' e ∧ x = some (.inl e)) ∨ x = none
theorem fcO_in {T : Nat → Int32} (h : fcO (sgn T n p) < 12) : p < n := by
  by_cases e : p < n
  · exact e
  · unfold sgn at h
    rw [if_neg e] at h
    exact absurd h (by decide)
theorem m_fac (h0 : M0 τ0 n) (K : Nat → Nat → List Nat → (Nat → Nat) → Nat → zX0) : ∀ (N : Nat) (τ : zS) (p o : Nat) (W : List Nat), MS τ0 n s τ p o (W ++ Wb) cd k → SIMF τ0 n s Wb K (fX7_readsFactor_0 N 0 τ) (yF (sgn (τ0.1 7) n) K N p o W cd k) := by
  intro N
  induction N with
  | zero => intro τ p o W h; exact Or.inr (Or.inr rfl)
  | succ N ih =>
    intro τ p o W h
    have hn := h0.2.1
    have hp := MS_n h
    show SIMF τ0 n s Wb K (bX7_readsFactor_0 (fX7_readsFactor_0 N) 0 τ) _
    unfold bX7_readsFactor_0 bX7_readsFactor_20
    rw [m_here h0 h, zb_s, yF]
    by_cases e : sgn (τ0.1 7) n p = 91
    · rw [if_pos e, if_pos e]
      obtain ⟨o1, o2⟩ := m_opens h0 (m := 14) (by omega) h (sgn_in e (by decide))
      by_cases q : o = 6
      · obtain ⟨τ', w1, w2⟩ := o1 q
        rw [if_pos q, show (14 : Int32) = nI 14 from rfl, w1, zb_s, if_pos rfl]
        exact Or.inr (Or.inl ⟨τ', _, rfl, w2, rfl⟩)
      · obtain ⟨τ', w1, w2⟩ := o2 q
        rw [if_neg q, show (14 : Int32) = nI 14 from rfl, w1, zb_s, if_neg n10]
        exact ih τ' (p + 1) (o + 1) (14680064 :: W) w2
    · rw [if_neg e, if_neg e, m_dig h0 h, zb_s]
      by_cases d : dgt (sgn (τ0.1 7) n p) = true
      · rw [if_pos d, if_pos d, if_neg n10]
        unfold fX7_readsNumber
        obtain ⟨F, V, A, B, rfl, hs, hc, i1, i2, i3, i4, i5⟩ := id h
        rw [bnd_e, rk12, bnd_e, mk19]
        obtain ⟨a1, a2⟩ := m_num10 h0 (fm := p) (by omega) 5 zFU (mkM τ0 (nI p) F (nI o) (nI k) (nI (W ++ Wb).length) 0 A B) p 0 ⟨F, _, A, B, rfl, hs, hc, i1, i2, i3, i4, i5⟩ rfl (by omega) (by unfold zFU; omega)
        have hq : p < (nmb (sgn (τ0.1 7) n) 5 p 0).1 := nmb_p1 (sgn (τ0.1 7) n) (j := 4) (v := 0) d
        have hv := nmb_v (sgn (τ0.1 7) n) 5 p 0 sg_9
        cases hr : (nmb (sgn (τ0.1 7) n) 5 p 0).2.2 with
        | true =>
          obtain ⟨τ', w1, w2, w3⟩ := a1 hr
          rw [w1, zb_s, if_neg n10, if_pos rfl, w3]
          obtain ⟨F', V', A', B', rfl, hs', hc', j1, j2, j3, j4, j5⟩ := w2
          rw [show (0 : Int32) = nI 0 from rfl, m_says h0 0 _ (by omega), zb_s]
          refine Or.inl ⟨_, _, o, W, _, k + 1, rfl, ⟨F', V', _, B', rfl, hs', ?_, by omega, by omega, j3, j4, aOK_up (by omega) j5⟩, rfl⟩
          rw [show 1048576 * 0 + (nmb (sgn (τ0.1 7) n) 5 p 0).2.1 = (nmb (sgn (τ0.1 7) n) 5 p 0).2.1 by omega]
          exact code_up hc' (by omega)
        | false =>
          obtain ⟨τ', w1, w2⟩ := a2 hr
          rw [w1, zb_s, if_pos rfl, if_neg (by decide)]
          exact Or.inr (Or.inl ⟨τ', _, rfl, w2, rfl⟩)
      · rw [if_neg d, if_neg d, if_pos rfl, m_here h0 h, zb_s, m_fact, zb_s]
        by_cases c : fcO (sgn (τ0.1 7) n p) < 12
        · have hlt := fcO_in c
          rw [if_pos c, if_pos c, if_neg (by
            have key : ∀ m, m < 12 → ¬ nI m = -1 := by decide +kernel
            exact key _ c)]
          obtain ⟨F, V, A, B, rfl, hs, hc, i1, i2, i3, i4, i5⟩ := id h
          rw [show (1 : Int32) = nI 1 from rfl, m_says h0 1 _ (by omega), zb_s, bnd_e, rk12, mk12, show nI p + nI 1 = nI (p + 1) from nI_add _ _]
          refine Or.inl ⟨_, p + 1, o, W, _, k + 1, rfl, ⟨F, V, _, B, rfl, hs, ?_, by omega, by omega, by omega, i4, aOK_up (by omega) i5⟩, rfl⟩
          rw [show 1048576 * 1 + fcO (sgn (τ0.1 7) n p) = 1048576 + fcO (sgn (τ0.1 7) n p) by omega]
          exact code_up hc (by omega)
        · rw [if_neg c, if_neg c, if_pos rfl]
          obtain ⟨τ', w1, w2⟩ := m_wrong 1 (by omega) (by omega) h
          rw [show (1 : Int32) = nI 1 from rfl, w1, zb_s]
          exact Or.inr (Or.inl ⟨τ', _, rfl, w2, rfl⟩)
theorem hsO_app (w : Nat) : ∀ (A : List Nat), hsO (A ++ [w]) = (decide (w / 1048576 = 14) || hsO A)
  | [] => rfl
  | a :: A => by
    show (decide (a / 1048576 = 14) || hsO (A ++ [w])) = (decide (w / 1048576 = 14) || (decide (a / 1048576 = 14) || hsO A))
    rw [hsO_app w A]
    cases decide (a / 1048576 = 14) <;> cases decide (w / 1048576 = 14) <;> rfl
theorem aOK_at {w : Nat} {Y : List Nat} : ∀ {X : List Nat}, aOK k (X ++ w :: Y) → w < 15728640
  | [], h => h.1.1
  | _ :: _, h => aOK_at h.2
theorem m_has (h0 : M0 τ0 n) (h : MS τ0 n s τ p o (W ++ Wb) cd k) : fX7_hasOpenSum 0 (nI Wb.length) τ = some (if hsO W = true then 1 else 0, τ) := by
  have hn := h0.2.1
  obtain ⟨F, V, A, B, rfl, hs, hc, i1, i2, i3, i4, i5⟩ := id h
  have loop : ∀ (N : Nat) (X Y : List Nat), X ++ Y = W → X.length < N → fX7_hasOpenSum_2 N 0 (nI (Y ++ Wb).length) (mkM τ0 (nI p) F (nI o) (nI k) (nI (W ++ Wb).length) V A B) = some (if hsO X = true then 1 else 0, mkM τ0 (nI p) F (nI o) (nI k) (nI (W ++ Wb).length) V A B) := by
    intro N
    induction N with
    | zero => intro X Y _ q; exact absurd q (by omega)
    | succ N ih =>
      intro X Y e hN
      show bX7_hasOpenSum_2 (fX7_hasOpenSum_2 N) 0 _ _ = _
      unfold bX7_hasOpenSum_2
      rw [rk17, rkR, mm21 h0.1, bnd_e, rk9]
      have hl : (W ++ Wb).length ≤ 120 := by omega
      rcases List.eq_nil_or_concat X with rfl | ⟨X', w, hX⟩
      · have : Y = W := e
        subst this
        rw [if_pos (nI_le (Nat.le_refl _) (by omega))]
        rfl
      · rw [List.concat_eq_append] at hX
        subst hX
        have e1 : W ++ Wb = X' ++ w :: (Y ++ Wb) := by rw [← e]; simp
        have hl2 : (W ++ Wb).length = X'.length + ((Y ++ Wb).length + 1) := by rw [e1]; simp
        have hlt : (Y ++ Wb).length < (W ++ Wb).length := by omega
        have hat : B (Y ++ Wb).length = nI w := stw_at (X := X') (by rw [← e1]; exact hs)
        have hw : w < 15728640 := aOK_at (X := X') (k := k) (Y := Y ++ Wb) (by rw [← e1]; exact i5)
        rw [if_neg (nI_ge hlt (by omega)), zX_n (by omega) (by omega), cl_n (by omega), hat, show (1048576 : Int32) = nI 1048576 from rfl, pk_div (by omega) (by omega) (by omega)]
        have hx : hsO (X' ++ [w]) = (decide (w / 1048576 = 14) || hsO X') := hsO_app w X'
        rw [hx]
        by_cases c : w / 1048576 = 14
        · rw [c, if_pos (show nI 14 = 14 from rfl), if_pos (by simp)]
        · rw [if_neg (show ¬ nI (w / 1048576) = (14 : Int32) from fun q => c ((nI_eq (b := 14) (by omega) (by omega)).mp q)), decide_eq_false c, Bool.false_or, nI_1]
          have hN : X'.length + 1 < N + 1 := by simpa using hN
          exact ih X' (w :: Y) (by rw [← e]; simp) (by omega)
  exact loop zFU W [] (by simp) (by have : W.length ≤ (W ++ Wb).length := by simp
                                    unfold zFU; omega)
end
