section
variable {τ0 τ : zS} {n s p o k : Nat} {W Wb : List Nat} {cd : Nat → Nat}
def aGe : List Nat → Prop
  | [] => True
  | w :: W => 10 ≤ w / 1048576 ∧ aGe W
theorem aGe_n : ∀ {W : List Nat}, aGe W → nAr W
  | [], _ => trivial
  | w :: _, h => fun q => by have := h.1; omega
theorem aGe_E : ∀ (W : List Nat) (o : Nat) (cd : Nat → Nat) (k : Nat), aGe W → aGe (yE W o cd k).1
  | [], _, _, _, _ => trivial
  | w :: W, o, cd, k, h => by
    rw [yE]
    split
    · exact aGe_E W _ _ _ h.2
    · exact h
theorem aGe_D (al : Bool) : ∀ (W : List Nat) (cd : Nat → Nat) (k : Nat), aGe W → aGe (yD al W cd k).1
  | [], _, _, _ => trivial
  | w :: W, cd, k, h => by
    rw [yD]
    split
    · exact aGe_D al W _ _ h.2
    · exact h
theorem MS_l (h0 : M0 τ0 n) (h : MS τ0 n s τ p o W cd k) : W.length < zFU := by
  have hn := h0.2.1
  obtain ⟨F, V, A, B, rfl, hs, hc, i1, i2, i3, i4, i5⟩ := id h
  unfold zFU
  omega
def SIMC (τ0 : zS) (n : Nat) (W : List Nat) (Kc : Nat → Nat → (Nat → Nat) → Nat → zX0) (xm : Option (Int32 × zS)) (x : zX0) : Prop := (∃ τ' p' o' cd' k', xm = some (1, τ') ∧ MS τ0 n 0 τ' p' (yE W o' cd' k').2.1 (yE W o' cd' k').1 (yE W o' cd' k').2.2.1 (yE W o' cd' k').2.2.2 ∧ x = Kc p' o' cd' k') ∨ (∃ τ' e, xm = some (0, τ') ∧ MFl τ0 τ' e ∧ x = some (.inl e)) ∨ x = none
theorem m_compared (h0 : M0 τ0 n) (Kc : Nat → Nat → (Nat → Nat) → Nat → zX0) (hb : aGe W) (h : MS τ0 n 0 τ p o W cd k) : SIMC τ0 n W Kc (fX7_readsCompared 0 τ) (yCmp (sgn (τ0.1 7) n) Kc p o cd k) := by
  have hn := h0.2.1
  unfold fX7_readsCompared yCmp
  rcases m_sum h0 (fun p1 o1 cd1 k1 => if cmO (sgn (τ0.1 7) n p1) = 0 then some (.inl (1000 + p1)) else yF (sgn (τ0.1 7) n) (yL (sgn (τ0.1 7) n) (fun p2 o2 cd2 k2 => Kc p2 o2 (uN cd2 k2 (1048576 * cmO (sgn (τ0.1 7) n p1))) (k2 + 1)) zFU) zFU (p1 + 1) o1 [] cd1 k1) (aGe_n hb) h with ⟨τ1, p1, o1, cd1, k1, x1, x2, x3⟩ | ⟨τ1, e, x1, x2, x3⟩ | x3
  · rw [x1, zb_s, if_neg n10, x3]
    have hp1 := MS_n x2
    have go : ∀ c : Nat, 7 ≤ c → c ≤ 9 → cmO (sgn (τ0.1 7) n p1) = c → p1 < n → SIMC τ0 n W Kc (bX7_readsCompared_52 0 (nI c) τ1) (if cmO (sgn (τ0.1 7) n p1) = 0 then some (.inl (1000 + p1)) else yF (sgn (τ0.1 7) n) (yL (sgn (τ0.1 7) n) (fun p2 o2 cd2 k2 => Kc p2 o2 (uN cd2 k2 (1048576 * cmO (sgn (τ0.1 7) n p1))) (k2 + 1)) zFU) zFU (p1 + 1) o1 [] cd1 k1) := by
      intro c c1 c2 ec hlt
      rw [ec, if_neg (by omega)]
      unfold bX7_readsCompared_52
      rw [if_neg (by
        have key : ∀ m, m < 10 → ¬ nI m = -1 := by decide +kernel
        exact key _ (by omega)), bnd_e]
      obtain ⟨F, V, A, B, rfl, hs, hc, i1, i2, i3, i4, i5⟩ := x2
      rw [rk12, mk12, nI_1]
      have hM : MS τ0 n 1 (mkM τ0 (nI (p1 + 1)) F (nI o1) (nI k1) (nI W.length) V A B) (p1 + 1) o1 W cd1 k1 := ⟨F, V, A, B, rfl, hs, hc, by omega, by omega, by omega, i4, i5⟩
      rcases m_sum h0 (fun p2 o2 cd2 k2 => Kc p2 o2 (uN cd2 k2 (1048576 * c)) (k2 + 1)) (aGe_n hb) hM with ⟨τ2, p2, o2, cd2, k2, y1, y2, y3⟩ | ⟨τ2, e, y1, y2, y3⟩ | y3
      · rw [y1, zb_s, if_neg n10, y3]
        obtain ⟨F', V', A', B', rfl, hs', hc', j1, j2, j3, j4, j5⟩ := y2
        rw [show (0 : Int32) = nI 0 from rfl, m_says h0 c 0 (by omega), zb_s]
        have hM2 : MS τ0 n 0 (mkM τ0 (nI p2) F' (nI o2) (nI (k2 + 1)) (nI W.length) V' (upd A' k2 (nI (1048576 * c + 0))) B') p2 o2 W (uN cd2 k2 (1048576 * c)) (k2 + 1) := ⟨F', V', _, B', rfl, hs', code_up hc' (by omega), by omega, j2, j3, j4, aOK_up (by omega) j5⟩
        obtain ⟨τ3, z1, z2⟩ := m_ends h0 zFU W _ _ _ _ (MS_l h0 hM2) hM2
        rw [show fX7_endsPiece 0 = fX7_endsPiece_0 zFU 0 from rfl, z1, zb_s]
        exact Or.inl ⟨τ3, p2, o2, _, _, rfl, z2, rfl⟩
      · rw [y1, zb_s, if_pos rfl, y3]
        exact Or.inr (Or.inl ⟨τ2, e, rfl, y2, rfl⟩)
      · rw [y3]
        exact Or.inr (Or.inr rfl)
    have hh := m_here h0 x2
    rw [hh, zb_s]
    by_cases c1 : sgn (τ0.1 7) n p1 = 60
    · rw [if_pos c1]
      exact go 7 (by omega) (by omega) (by rw [c1]; rfl) (sgn_in c1 (by decide))
    · rw [if_neg c1, hh, zb_s]
      by_cases c2 : sgn (τ0.1 7) n p1 = 62
      · rw [if_pos c2]
        exact go 8 (by omega) (by omega) (by rw [c2]; rfl) (sgn_in c2 (by decide))
      · rw [if_neg c2, hh, zb_s]
        by_cases c3 : sgn (τ0.1 7) n p1 = 61
        · rw [if_pos c3]
          exact go 9 (by omega) (by omega) (by rw [c3]; rfl) (sgn_in c3 (by decide))
        · rw [if_neg c3]
          have ec : cmO (sgn (τ0.1 7) n p1) = 0 := by
            unfold cmO
            rw [if_neg c1, if_neg c2, if_neg c3]
          show SIMC τ0 n W Kc _ (if cmO (sgn (τ0.1 7) n p1) = 0 then some (.inl (1000 + p1)) else _)
          rw [if_pos ec]
          unfold bX7_readsCompared_52
          obtain ⟨τ', w1, w2⟩ := m_wrong 1 (by omega) (by omega) x2
          rw [if_pos rfl, show (1 : Int32) = nI 1 from rfl, w1, zb_s]
          exact Or.inr (Or.inl ⟨τ', _, rfl, w2, rfl⟩)
  · rw [x1, zb_s, if_pos rfl, x3]
    exact Or.inr (Or.inl ⟨τ1, e, rfl, x2, rfl⟩)
  · rw [x3]
    exact Or.inr (Or.inr rfl)
def SIMX (τ0 : zS) (n : Nat) (xm : Option (Int32 × zS)) (x : zX0) : Prop := (∃ τ' p' cd' k', xm = some (1, τ') ∧ MS τ0 n 0 τ' p' 0 [] cd' k' ∧ x = some (.inr (p', cd', k'))) ∨ (∃ τ' e, xm = some (0, τ') ∧ MFl τ0 τ' e ∧ x = some (.inl e)) ∨ x = none
theorem m_c92 (h0 : M0 τ0 n) (km : Nat → zS → Option (Int32 × zS)) (kp : Nat → Nat → List Nat → (Nat → Nat) → Nat → zX0) (hk : ∀ τ p o W cd k, MS τ0 n 0 τ p o W cd k → aGe W → SIMX τ0 n (km 0 τ) (kp p o W cd k)) : ∀ (N : Nat) (τ : zS) (p o : Nat) (W : List Nat) (cd : Nat → Nat) (k : Nat), MS τ0 n 0 τ p o W cd k → aGe W → SIMX τ0 n (fX7_readsCondition_92 km N 0 τ) (yA (sgn (τ0.1 7) n) kp N p o W cd k) := by
  intro N
  induction N with
  | zero => intro τ p o W cd k h _; exact Or.inr (Or.inr rfl)
  | succ N ih =>
    intro τ p o W cd k h hb
    have hn := h0.2.1
    have hp := MS_n h
    have hh := m_here h0 h
    have ld : ∀ al : Bool, ∃ τ', fX7_lands 0 (if al = true then 1 else 0) τ = some ((), τ') ∧ MS τ0 n 0 τ' p o (yD al W cd k).1 (yD al W cd k).2 k := fun al => m_lands h0 al zFU W τ cd (MS_l h0 h) h
    show SIMX τ0 n (bX7_readsCondition_92 km (fX7_readsCondition_92 km N) 0 τ) _
    unfold bX7_readsCondition_92 bX7_readsCondition_152 bX7_readsCondition_180 bX7_readsCondition_195 bX7_readsCondition_215 bX7_readsCondition_170
    rw [hh, zb_s, yA]
    by_cases c1 : sgn (τ0.1 7) n p = 41
    · rw [if_pos c1, if_pos c1]
      obtain ⟨τ', w1, w2⟩ := ld true
      have w1 : fX7_lands 0 1 τ = some ((), τ') := w1
      rw [w1, zb_s]
      have hb2 := aGe_D true W cd k hb
      match hy : (yD true W cd k).1 with
      | [] => exact Or.inr (Or.inr rfl)
      | w :: W2 =>
        rw [hy] at w2 hb2
        show SIMX τ0 n _ (if w = 13631488 then _ else none)
        by_cases e : w = 13631488
        · rw [if_pos e]
          subst e
          have hlt := sgn_in c1 (by decide)
          obtain ⟨F, V, A, B, rfl, hs, hc, i1, i2, i3, i4, i5⟩ := w2
          have i2 : W2.length + 1 ≤ p := i2
          have i4 : o = 1 + opn W2 := i4
          have i1 : k + (0 + wtN W2) + 0 ≤ p := i1
          have e1 : nI (13631488 :: W2).length - 1 = nI W2.length := nI_pred _
          have e2 : nI o - 1 = nI (o - 1) := by
            obtain ⟨o', rfl⟩ : ∃ j, o = j + 1 := ⟨o - 1, by omega⟩
            exact nI_pred _
          rw [bnd_e, rk17, mk17, e1, bnd_e, rk15, mk15, e2, bnd_e, rk12, mk12, nI_1, rk17]
          have hM : MS τ0 n 0 (mkM τ0 (nI (p + 1)) F (nI (o - 1)) (nI k) (nI W2.length) V A B) (p + 1) (o - 1) W2 (yD true W cd k).2 k := ⟨F, V, A, B, rfl, hs.2, hc, by omega, by omega, by omega, by omega, i5.2⟩
          by_cases d : W2 = []
          · subst d
            rw [if_pos (show nI ([] : List Nat).length = 0 from rfl), if_pos rfl]
            have ho : o - 1 = 0 := by have : opn [] = 0 := rfl; omega
            rw [ho] at hM
            rw [ho]
            exact Or.inl ⟨_, p + 1, _, k, rfl, hM, rfl⟩
          · have hl : 0 < W2.length := List.length_pos_iff.mpr d
            rw [if_neg (nI_ne0 hl (by omega)), if_neg d]
            obtain ⟨τ3, z1, z2⟩ := m_ends h0 zFU W2 _ _ _ _ (MS_l h0 hM) hM
            rw [show fX7_endsPiece 0 = fX7_endsPiece_0 zFU 0 from rfl, z1, zb_s]
            exact ih τ3 (p + 1) _ _ _ _ z2 (aGe_E W2 _ _ _ hb2.2)
        · rw [if_neg e]
          exact Or.inr (Or.inr rfl)
    · rw [if_neg c1, if_neg c1, hh, zb_s]
      by_cases c2 : sgn (τ0.1 7) n p = 38
      · have hlt := sgn_in c2 (by decide)
        rw [if_pos c2, if_pos c2, hh, zb_s, if_neg (by rw [c2]; decide)]
        obtain ⟨τ', w1, w2⟩ := ld false
        have w1 : fX7_lands 0 0 τ = some ((), τ') := w1
        rw [w1, zb_s, m_here h0 w2, zb_s, if_pos c2]
        obtain ⟨τ2, y1, y2⟩ := m_jumps h0 (m := 11) (by omega) w2 hlt
        rw [show (11 : Int32) = nI 11 from rfl, y1, zb_s]
        exact hk τ2 (p + 1) o _ _ _ y2 ⟨by omega, aGe_D false W cd k hb⟩
      · rw [if_neg c2, if_neg c2, hh, zb_s]
        by_cases c3 : sgn (τ0.1 7) n p = 124
        · have hlt := sgn_in c3 (by decide)
          rw [if_pos c3, if_pos c3, hh, zb_s, if_pos c3]
          obtain ⟨τ', w1, w2⟩ := ld true
          have w1 : fX7_lands 0 1 τ = some ((), τ') := w1
          rw [w1, zb_s, m_here h0 w2, zb_s, if_neg c2]
          obtain ⟨τ2, y1, y2⟩ := m_jumps h0 (m := 12) (by omega) w2 hlt
          rw [show (12 : Int32) = nI 12 from rfl, y1, zb_s]
          exact hk τ2 (p + 1) o _ _ _ y2 ⟨by omega, aGe_D true W cd k hb⟩
        · rw [if_neg c3, if_neg c3]
          obtain ⟨τ', w1, w2⟩ := m_wrong 1 (by omega) (by omega) h
          rw [show (1 : Int32) = nI 1 from rfl, w1, zb_s]
          exact Or.inr (Or.inl ⟨τ', _, rfl, w2, rfl⟩)
theorem m_c40 (h0 : M0 τ0 n) : ∀ (N : Nat) (τ : zS) (p o : Nat) (W : List Nat) (cd : Nat → Nat) (k : Nat), MS τ0 n 0 τ p o W cd k → aGe W → SIMX τ0 n (fX7_readsCondition_40 N 0 τ) (yP (sgn (τ0.1 7) n) N p o W cd k) := by
  intro N
  induction N with
  | zero => intro τ p o W cd k h _; exact Or.inr (Or.inr rfl)
  | succ N ih =>
    intro τ p o W cd k h hb
    have hn := h0.2.1
    have hp := MS_n h
    have hh := m_here h0 h
    show SIMX τ0 n (bX7_readsCondition_40 (fX7_readsCondition_40 N) 0 τ) _
    unfold bX7_readsCondition_40 bX7_readsCondition_58 bX7_readsCondition_75
    have op : ∀ m : Nat, (m = 10 ∨ m = 13 ∨ m = 14) → 10 ≤ m → p < n → SIMX τ0 n (zb (fX7_opens 0 (nI m) τ) (fun r31 σ30 => if r31 = 0 then some (0, σ30) else fX7_readsCondition_40 N 0 σ30)) (if o = 6 then some (.inl (5000 + p)) else yP (sgn (τ0.1 7) n) N (p + 1) (o + 1) (1048576 * m :: W) cd k) := by
      intro m hm hm2 hlt
      obtain ⟨o1, o2⟩ := m_opens h0 hm h hlt
      by_cases q : o = 6
      · obtain ⟨τ', w1, w2⟩ := o1 q
        rw [if_pos q, w1, zb_s, if_pos rfl]
        exact Or.inr (Or.inl ⟨τ', _, rfl, w2, rfl⟩)
      · obtain ⟨τ', w1, w2⟩ := o2 q
        rw [if_neg q, w1, zb_s, if_neg n10]
        exact ih τ' (p + 1) (o + 1) _ cd k w2 ⟨by omega, hb⟩
    rw [hh, zb_s, yP]
    by_cases c1 : sgn (τ0.1 7) n p = 33
    · rw [if_pos c1, if_pos c1, hh, zb_s, if_pos c1]
      exact op 10 (by omega) (by omega) (sgn_in c1 (by decide))
    · rw [if_neg c1, if_neg c1, hh, zb_s]
      by_cases c2 : sgn (τ0.1 7) n p = 40
      · rw [if_pos c2, if_pos c2, hh, zb_s, if_neg c1]
        exact op 13 (by omega) (by omega) (sgn_in c2 (by decide))
      · rw [if_neg c2, if_neg c2]
        rcases m_compared h0 (fun p2 o2 cd2 k2 => yA (sgn (τ0.1 7) n) (yP (sgn (τ0.1 7) n) N) zFU p2 (yE W o2 cd2 k2).2.1 (yE W o2 cd2 k2).1 (yE W o2 cd2 k2).2.2.1 (yE W o2 cd2 k2).2.2.2) hb h with ⟨τ1, p1, o1, cd1, k1, x1, x2, x3⟩ | ⟨τ1, e, x1, x2, x3⟩ | x3
        · rw [x1, zb_s, if_neg n10, x3]
          exact m_c92 h0 _ _ ih zFU τ1 p1 _ _ _ _ x2 (aGe_E W _ _ _ hb)
        · rw [x1, zb_s, if_pos rfl, x3]
          exact Or.inr (Or.inl ⟨τ1, e, rfl, x2, rfl⟩)
        · rw [x3]
          exact Or.inr (Or.inr rfl)
/-- a condition, from its bracket on -/
theorem m_condition (h0 : M0 τ0 n) {F O L V : Int32} {A B : Nat → Int32} (hc : ∀ i, i < k → A i = nI (cd i) ∧ cd i < 15728640) (hk : k ≤ p) (hp : p ≤ n) : SIMX τ0 n (fX7_readsCondition 0 (mkM τ0 (nI p) F O (nI k) L V A B)) (if sgn (τ0.1 7) n p = 40 then yP (sgn (τ0.1 7) n) zFU (p + 1) 1 [13631488] cd k else some (.inl (1000 + p))) := by
  have hn := h0.2.1
  have hM : MS τ0 n 0 (mkM τ0 (nI p) F 0 (nI k) 0 V A B) p 0 [] cd k := ⟨F, V, A, B, rfl, trivial, hc, hk, by show 0 ≤ p; omega, hp, rfl, trivial⟩
  have hh : fX7_here 0 (mkM τ0 (nI p) F O (nI k) L V A B) = some (sgn (τ0.1 7) n p, mkM τ0 (nI p) F O (nI k) L V A B) := by
    unfold fX7_here sgn
    rw [rk12, rk13, h0.2.2, rkR, mm10 h0.1]
    by_cases e : p < n
    · rw [if_pos e, if_neg (nI_ge e (by omega)), bnd_e, zX_n (by omega) (by omega), cl_n (by omega), rk7]
    · rw [if_neg e, if_pos (nI_le (by omega) (by omega))]
  unfold fX7_readsCondition
  rw [hh, zb_s]
  by_cases c : sgn (τ0.1 7) n p = 40
  · rw [if_pos c, if_pos c, bnd_e, mk15, bnd_e, mk17]
    obtain ⟨τ', w1, w2⟩ := (m_opens h0 (m := 13) (by omega) hM (sgn_in c (by decide))).2 (by omega)
    rw [show (13 : Int32) = nI 13 from rfl, w1, zb_s, if_neg n10]
    exact m_c40 h0 zFU τ' (p + 1) 1 [13631488] cd k w2 ⟨by omega, trivial⟩
  · rw [if_neg c, if_neg c]
    unfold fX7_wrong
    rw [rk12, bnd_e, mk14, zb_s]
    refine Or.inr (Or.inl ⟨_, _, rfl, ⟨nI p, O, nI k, L, V, A, B, ?_⟩, rfl⟩)
    unfold er
    rw [show (1000 + p) / 1000 = 1 by omega, show (1000 + p) % 1000 = p by omega]
    rfl
end
