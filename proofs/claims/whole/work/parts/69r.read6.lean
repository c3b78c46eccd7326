section
/-! ===== letters ===== -/
def ixF (v4 : Int32) : Nat → Nat → Int32
  | 0, _ => -1
  | d + 1, j => if zBy.getD j 0 = v4 then nI j else ixF v4 d (j + 1)
theorem ix_7 (v4 : Int32) (σ : zS) : ∀ (d N j : Nat), j + d = 12 → d < N → fJ1_indexOfChar_4cfef_7 N 12 v4 (nI j) σ = some (ixF v4 d j, σ)
  | _, 0, _, _, h => absurd h (by omega)
  | 0, N + 1, j, e, _ => by
    show bJ1_indexOfChar_4cfef_7 (fJ1_indexOfChar_4cfef_7 N) 12 v4 (nI j) σ = _
    unfold bJ1_indexOfChar_4cfef_7
    rw [show j = 12 by omega, if_pos (by decide)]
    rfl
  | d + 1, N + 1, j, e, h => by
    show bJ1_indexOfChar_4cfef_7 (fJ1_indexOfChar_4cfef_7 N) 12 v4 (nI j) σ = _
    unfold bJ1_indexOfChar_4cfef_7
    rw [if_neg (geL 12 (12 : Int32) rfl (by omega) (by omega)), zX_n (by omega) (by omega), cl_n (by omega), ixF]
    by_cases c : zBy.getD j 0 = v4
    · rw [if_pos c, if_pos c]
    · rw [if_neg c, if_neg c, nI_1]
      exact ix_7 v4 σ d N (j + 1) (by omega) (by omega)
theorem c_ix {m : Nat} (hm : m < 256) (σ : zS) : fJ0_indexOf_0f7a4 (nI m) σ = some (ixF (nI m).toInt8.toInt32 12 0, σ) := by
  have e := ix_7 (nI m).toInt8.toInt32 σ 12 zFU 0 (by omega) (by unfold zFU; omega)
  unfold fJ0_indexOf_0f7a4 fJ0_indexOf_7cf53 fJ0_isLatin1_aae02 fJ0_length_8abf5 fJ0_coder_7d493 fJ1_indexOf_4cfef fJ1_canEncode_9a6ad
  rw [if_neg n10, if_pos rfl, zb_s, if_neg n10, if_neg n10, zb_s, zb_s, if_neg (nI_pos (by omega)), if_neg (show ¬ (255 : Int32) < nI m from nI_nlt (a := 255) (by omega) (by omega)), zb_s, if_neg n10, bnd_e, bnd_e]
  rw [show (if (0 : Int32) < 0 then (0 : Int32) else 0) = 0 by decide, show (12 : Int32) >>> ((0 : Int32) &&& 31) = 12 by decide, show (if (12 : Int32) < 12 then (12 : Int32) else 12) = 12 by decide, if_pos (by decide)]
  unfold fJ1_indexOfChar_4cfef
  rw [bnd_e, show (0 : Int32) = nI 0 from rfl, e, zb_s, zb_s, zb_s]
theorem ix_k : ∀ m, m < 256 → ((0 ≤ ixF (nI m).toInt8.toInt32 12 0 ↔ fcO (nI m) < 12) ∧ (fcO (nI m) < 12 → nI m = nI (lc (fcO (nI m)))) ∧ ((nI m).toUInt32 % 65536).toInt32 = nI m ∧ ¬ nI m = -1) := by decide +kernel
theorem sg_b {T : Nat → Int32} {n p : Nat} (h : p < n) : ∃ m, m < 256 ∧ sgn T n p = nI m := by
  obtain ⟨j, h1, h2⟩ := pk_andE (T p) (m := 255) 8 (by decide)
  refine ⟨j, h1, ?_⟩
  unfold sgn
  rw [if_pos h]
  exact h2
theorem lc_lt2 (k : Nat) : lc k < 128 := by unfold lc; split <;> omega
theorem c_tim (x : Int32) (σ : zS) : fX5_timing x σ = some (if 4 ≤ ssg x then nI (kd (ssg x)) else -1, σ) := by
  by_cases h1 : x = 37
  · subst h1; rfl
  by_cases h2 : x = 42
  · subst h2; rfl
  by_cases h3 : x = 47
  · subst h3; rfl
  unfold fX5_timing ssg
  simp only [if_neg h1, if_neg h2, if_neg h3]
  repeat' split
  all_goals first | rfl | omega
theorem c_adg (x : Int32) (σ : zS) : fX5_adding x σ = some (if ssg x = 2 ∨ ssg x = 3 then nI (kd (ssg x)) else -1, σ) := by
  by_cases h1 : x = 43
  · subst h1; rfl
  by_cases h2 : x = 45
  · subst h2; rfl
  unfold fX5_adding ssg
  simp only [if_neg h1, if_neg h2]
  repeat' split
  all_goals first | rfl | omega
def nMu : List Nat → Prop
  | [] => True
  | w :: _ => ¬ (4 ≤ w / 1048576 ∧ w / 1048576 ≤ 6)
theorem yC_nMu {W : List Nat} {cd : Nat → Nat} {k : Nat} (h : nMu W) : yC false W cd k = (W, cd, k) := by
  match W, h with
  | [], _ => rfl
  | w :: W, h =>
    rw [yC, if_neg]
    intro q
    rcases q with q | q
    · exact h q
    · cases q.1
theorem yC_nAr {W : List Nat} {cd : Nat → Nat} {k : Nat} (h : nAr W) : yC true W cd k = (W, cd, k) := by
  match W, h with
  | [], _ => rfl
  | w :: W, h =>
    rw [yC, if_neg]
    intro q
    rcases q with q | q
    · exact h ⟨by omega, by omega⟩
    · exact h ⟨by omega, by omega⟩
theorem nAr_u {W : List Nat} (h : nAr W) : nMu W := by
  match W, h with
  | [], _ => trivial
  | w :: W, h => exact fun q => h ⟨by omega, by omega⟩
theorem SEG_op2 {cd : Nat → Nat} {k k1 k2 h h' : Nat} (s1 : SEG cd k k1 h) (s2 : SEG cd k1 k2 h') (hh : h' + 1 ≤ h) (hh2 : 1 ≤ h') (o1 : 2 ≤ cd k2 / 1048576) (o2 : cd k2 / 1048576 ≤ 9) : SEG cd k (k2 + 1) h := by
  have l1 := s1.1
  have l2 := s2.1
  refine ⟨by omega, fun D hD => ?_⟩
  obtain ⟨a1, a2⟩ := s1.2 D (fun i x y => hD i x (by omega))
  obtain ⟨b1, b2⟩ := s2.2 D (fun i x y => hD i (by omega) (by omega))
  have e := hD k2 (by omega) (by omega)
  unfold stp at e
  rw [if_neg (by omega), if_neg (by omega)] at e
  refine ⟨by omega, fun i x y => ?_⟩
  rcases (show i < k1 ∨ (k1 ≤ i ∧ i < k2) ∨ i = k2 by omega) with q | q | q
  · obtain ⟨u, v⟩ := a2 i x q
    exact ⟨by omega, WI_up v (Nat.le_refl _) (by omega)⟩
  · obtain ⟨u, v⟩ := b2 i q.1 q.2
    exact ⟨by omega, WI_up v (by omega) (by omega)⟩
  · subst q
    exact ⟨by omega, Or.inr (Or.inr (Or.inr (Or.inr ⟨o1, o2, by omega⟩)))⟩
def OUT (σ0 : zS) (n L q c k0 : Nat) (A0 : Nat → Int32) (xm : Option (Int32 × zS)) (o : Nat) (OK : Nat → (Nat → Nat) → Nat → Prop) (BAD : Nat → Prop) : Prop := (∃ σ' p' cd' k', xm = some (1, σ') ∧ CS σ0 n L q c k0 A0 σ' p' o cd' k' ∧ OK p' cd' k') ∨ (∃ σ' e, xm = some (0, σ') ∧ CF σ0 L q σ' e ∧ BAD e)
def BB (p k : Nat) (cd : Nat → Nat) (p' : Nat) (cd' : Nat → Nat) (k' h : Nat) : Prop := p < p' ∧ k' + p ≤ k + p' ∧ (∀ i, i < k → cd' i = cd i) ∧ SEG cd' k k' h
def S6 (σ0 : zS) (n L q c k0 : Nat) (A0 : Nat → Int32) (d : Nat) : Prop := ∀ σ p o cd k, CS σ0 n L q c k0 A0 σ p o cd k → 1 + 3 * (6 - o) ≤ d → OUT σ0 n L q c k0 A0 (gX5 d 6 168 σ) o (fun p' cd' k' => BB p k cd p' cd' k' (1 + 2 * (6 - o)) ∧ ∀ Kd W x, yRL (sgn (σ0.1 167) n) Kd p' o W cd' k' x → yRF (sgn (σ0.1 167) n) Kd p o W cd k x) (fun e => ∀ Kd W, yRF (sgn (σ0.1 167) n) Kd p o W cd k (some (.inl e)))
def S5 (σ0 : zS) (n L q c k0 : Nat) (A0 : Nat → Int32) (d : Nat) : Prop := ∀ σ p o cd k, CS σ0 n L q c k0 A0 σ p o cd k → 2 + 3 * (6 - o) ≤ d → OUT σ0 n L q c k0 A0 (gX5 d 5 168 σ) o (fun p' cd' k' => BB p k cd p' cd' k' (2 + 2 * (6 - o)) ∧ ssg (sgn (σ0.1 167) n p') < 4 ∧ ∀ Kd W x, nMu W → yRL (sgn (σ0.1 167) n) Kd p' o W cd' k' x → yRF (sgn (σ0.1 167) n) Kd p o W cd k x) (fun e => ∀ Kd W, nMu W → yRF (sgn (σ0.1 167) n) Kd p o W cd k (some (.inl e)))
def S4 (σ0 : zS) (n L q c k0 : Nat) (A0 : Nat → Int32) (d : Nat) : Prop := ∀ σ p o cd k, CS σ0 n L q c k0 A0 σ p o cd k → 3 + 3 * (6 - o) ≤ d → OUT σ0 n L q c k0 A0 (gX5 d 4 168 σ) o (fun p' cd' k' => BB p k cd p' cd' k' (3 + 2 * (6 - o)) ∧ ssg (sgn (σ0.1 167) n p') = 0 ∧ ∀ Kd W x, nAr W → yRL (sgn (σ0.1 167) n) Kd p' o W cd' k' x → yRF (sgn (σ0.1 167) n) Kd p o W cd k x) (fun e => ∀ Kd W, nAr W → yRF (sgn (σ0.1 167) n) Kd p o W cd k (some (.inl e)))
section
variable {σ0 : zS} {n L q c k0 : Nat} {A0 : Nat → Int32} {d : Nat}
theorem CS_1 {σ : zS} {p o k : Nat} {cd : Nat → Nat} (h0 : C0 σ0 n L q) (h : CS σ0 n L q c k0 A0 σ p o cd k) : σ.2 168 1 = L := by obtain ⟨F, A, rfl, -⟩ := h; exact h0.1.2.1
theorem CF_1 {σ : zS} {e : Nat} (h0 : C0 σ0 n L q) (h : CF σ0 L q σ e) : σ.2 168 1 = L := by obtain ⟨pp, ff, S, O, A, rfl, -⟩ := h; exact h0.1.2.1
theorem step6 (h0 : C0 σ0 n L q) (ih : S4 σ0 n L q c k0 A0 d) : S6 σ0 n L q c k0 A0 (d + 1) := by
  intro σ p o cd k h hd
  have hn := h0.1.2.2.2.2
  obtain ⟨hp, hk, hk0, ho⟩ := CS_n h
  show OUT σ0 n L q c k0 A0 (fX5_factor (gX5 d) 168 σ) o _ _
  unfold fX5_factor bX5_factor_69
  rw [c_sign h0 h, zb_s]
  by_cases e : sgn (σ0.1 167) n p = 91
  · rw [if_pos e]
    obtain ⟨o1, o2⟩ := c_opens h0 91 (by decide) h e
    by_cases h6 : o = 6
    · obtain ⟨σ', w1, w2⟩ := o1 h6
      rw [w1, zb_s, if_pos rfl]
      exact Or.inr ⟨σ', _, rfl, w2, fun Kd W => RF_six (by omega) e h6⟩
    · obtain ⟨σ1, w1, w2⟩ := o2 h6
      rw [w1, zb_s, if_neg n10]
      rcases ih σ1 (p + 1) (o + 1) cd k w2 (by omega) with ⟨σ2, p2, cd2, k2, x1, x2, ⟨b1, b2, b3, b4⟩, x4, x5⟩ | ⟨σ2, e2, x1, x2, x3⟩
      · rw [x1, zb_s, if_neg n10]
        have hp2 := (CS_n x2).1
        obtain ⟨t1, t2⟩ := c_closes h0 93 (by decide) x2
        by_cases e3 : sgn (σ0.1 167) n p2 = 93
        · obtain ⟨σ3, y1, y2⟩ := t1 e3
          rw [y1, zb_s, if_neg n10]
          refine Or.inl ⟨σ3, p2 + 1, cd2, k2, rfl, y2, ⟨by omega, by omega, b3, SEG_up b4 (by omega)⟩, fun Kd W x r => ?_⟩
          exact RF_open (by omega) e h6 (x5 Kd (14680064 :: W) x (by show ¬ _; omega) (RL_close (by omega) x4 e3 r))
        · obtain ⟨σ3, y1, y2⟩ := t2 e3
          rw [y1, zb_s, if_pos rfl]
          exact Or.inr ⟨σ3, _, rfl, y2, fun Kd W => RF_open (by omega) e h6 (x5 Kd (14680064 :: W) _ (by show ¬ _; omega) (RL_nocl (by omega) x4 e3))⟩
      · rw [x1, zb_s, if_pos rfl]
        exact Or.inr ⟨σ2, e2, rfl, x2, fun Kd W => RF_open (by omega) e h6 (x3 Kd (14680064 :: W) (by show ¬ _; omega))⟩
  · rw [if_neg e, c_isD, zb_s]
    by_cases dg : dgt (sgn (σ0.1 167) n p) = true
    · rw [if_pos dg, if_neg n10]
      obtain ⟨a1, a2⟩ := c_num h0 5 zFU 0 σ p 0 h (by omega) (by unfold zFU; omega) (by decide) (Or.inr ⟨rfl, dg⟩)
      have hq : p < (nmb (sgn (σ0.1 167) n) 5 p 0).1 := nmb_p1 (sgn (σ0.1 167) n) (j := 4) (v := 0) dg
      have hv := nmb_v (sgn (σ0.1 167) n) 5 p 0 sg_9
      obtain ⟨qq, vv, bb⟩ : ∃ x : Nat × Nat × Bool, x = nmb (sgn (σ0.1 167) n) 5 p 0 := ⟨_, rfl⟩
      unfold fX5_number
      cases hr : (nmb (sgn (σ0.1 167) n) 5 p 0).2.2 with
      | true =>
        obtain ⟨σ', w1, w2⟩ := a1 hr
        rw [show fX5_number_4 zFU 168 0 0 σ = _ from w1, zb_s]
        have hen : nmb (sgn (σ0.1 167) n) 5 p 0 = ((nmb (sgn (σ0.1 167) n) 5 p 0).1, (nmb (sgn (σ0.1 167) n) 5 p 0).2.1, true) := by rw [← hr]
        refine Or.inl ⟨σ', _, _, k + 1, rfl, w2, ⟨hq, by omega, fun i hi => uN_o (by omega), SEG_up (SEG_leaf (Or.inl ?_)) (by omega)⟩, fun Kd W x r => RF_num (by omega) e dg hen (by omega) r⟩
        rw [uN_s]
        omega
      | false =>
        obtain ⟨σ', w1, w2⟩ := a2 hr
        rw [show fX5_number_4 zFU 168 0 0 σ = _ from w1, zb_s]
        have hen : nmb (sgn (σ0.1 167) n) 5 p 0 = ((nmb (sgn (σ0.1 167) n) 5 p 0).1, (nmb (sgn (σ0.1 167) n) 5 p 0).2.1, false) := by rw [← hr]
        exact Or.inr ⟨σ', _, rfl, w2, fun Kd W => RF_big (by omega) e dg hen⟩
    · rw [if_neg dg, if_pos rfl]
      have no : ¬ fcO (sgn (σ0.1 167) n p) < 12 → OUT σ0 n L q c k0 A0 (zb (fX5_wrong 168 1 σ) (fun (r2 : Int32) (σ1 : zS) => some (r2, σ1))) o (fun p' cd' k' => BB p k cd p' cd' k' (1 + 2 * (6 - o)) ∧ ∀ Kd W x, yRL (sgn (σ0.1 167) n) Kd p' o W cd' k' x → yRF (sgn (σ0.1 167) n) Kd p o W cd k x) (fun e => ∀ Kd W, yRF (sgn (σ0.1 167) n) Kd p o W cd k (some (.inl e))) := by
        intro hf
        obtain ⟨σ', w1, w2⟩ := c_wrong h0 1 h
        rw [show (1 : Int32) = nI 1 from rfl, w1, zb_s]
        exact Or.inr ⟨σ', _, rfl, w2, fun Kd W => RF_no (by omega) e dg hf⟩
      by_cases hlt : p < n
      · obtain ⟨m, m1, m2⟩ := sg_b (T := σ0.1 167) hlt
        obtain ⟨i1, i2, i3, i4⟩ := ix_k m m1
        rw [m2, if_neg i4, i3, c_ix m1, zb_s]
        by_cases hf : fcO (nI m) < 12
        · rw [if_pos (i1.mpr hf), bnd_e]
          have ha := c_adv h hlt
          rw [CS_1 h0 ha, bnd_e, i2 hf]
          obtain ⟨σ', w1, w2⟩ := c_add h0 (v := 1048576 + fcO (nI m)) (num := lc (fcO (nI m))) (kn := 3) (by omega) (by have := lc_lt2 (fcO (nI m)); omega) (by
            unfold enc
            rw [if_neg (by omega), if_neg (by omega), show (1048576 + fcO (nI m)) / 1048576 = 1 by omega, show (1048576 + fcO (nI m)) % 1048576 = fcO (nI m) by omega]
            rfl) ha (by omega)
          rw [show (3 : Int32) = nI 3 from rfl, w1, zb_s]
          rw [← m2] at w2 hf
          refine Or.inl ⟨σ', p + 1, _, k + 1, rfl, w2, ⟨by omega, by omega, fun i hi => uN_o (by omega), SEG_up (SEG_leaf (Or.inr ?_)) (by omega)⟩, fun Kd W x r => RF_let (by omega) e dg hf r⟩
          rw [uN_s]
          omega
        · rw [if_neg (fun w => hf (i1.mp w))]
          exact no (by rw [m2]; exact hf)
      · have e1 : sgn (σ0.1 167) n p = -1 := by unfold sgn; rw [if_neg hlt]
        rw [if_pos e1]
        exact no (fun w => hlt (fcO_in w))
end
end
