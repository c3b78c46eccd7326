section
def S3 (σ0 : zS) (n L q c k0 : Nat) (A0 : Nat → Int32) (d : Nat) : Prop := ∀ σ p o cd k, CS σ0 n L q c k0 A0 σ p o cd k → 4 + 3 * (6 - o) ≤ d → ¬ sgn (σ0.1 167) n p = 33 → ¬ sgn (σ0.1 167) n p = 40 → OUT σ0 n L q c k0 A0 (gX5 d 3 168 σ) o (fun p' cd' k' => BB p k cd p' cd' k' (4 + 2 * (6 - o)) ∧ LB cd' k' ∧ ∀ W x, yRE (sgn (σ0.1 167) n) p' o W cd' k' x → yRP (sgn (σ0.1 167) n) p o W cd k x) (fun e => ∀ W, yRP (sgn (σ0.1 167) n) p o W cd k (some (.inl e)))
def S2 (σ0 : zS) (n L q c k0 : Nat) (A0 : Nat → Int32) (d : Nat) : Prop := ∀ σ p o cd k, CS σ0 n L q c k0 A0 σ p o cd k → 5 + 3 * (6 - o) ≤ d → OUT σ0 n L q c k0 A0 (gX5 d 2 168 σ) o (fun p' cd' k' => BB p k cd p' cd' k' (4 + 2 * (6 - o)) ∧ LB cd' k' ∧ ∀ W x, ¬ W = [] → yRE (sgn (σ0.1 167) n) p' o W cd' k' x → yRP (sgn (σ0.1 167) n) p o W cd k x) (fun e => ∀ W, ¬ W = [] → yRP (sgn (σ0.1 167) n) p o W cd k (some (.inl e)))
def S1 (σ0 : zS) (n L q c k0 : Nat) (A0 : Nat → Int32) (d : Nat) : Prop := ∀ σ p o cd k, CS σ0 n L q c k0 A0 σ p o cd k → 6 + 3 * (6 - o) ≤ d → OUT σ0 n L q c k0 A0 (gX5 d 1 168 σ) o (fun p' cd' k' => BB p k cd p' cd' k' (4 + 2 * (6 - o)) ∧ LB cd' k' ∧ ¬ sgn (σ0.1 167) n p' = 38 ∧ ∀ w W x, ¬ w / 1048576 = 10 → ¬ w / 1048576 = 11 → yRA (sgn (σ0.1 167) n) p' o (w :: W) cd' k' x → yRP (sgn (σ0.1 167) n) p o (w :: W) cd k x) (fun e => ∀ w W, ¬ w / 1048576 = 10 → ¬ w / 1048576 = 11 → yRP (sgn (σ0.1 167) n) p o (w :: W) cd k (some (.inl e)))
def S0 (σ0 : zS) (n L q c k0 : Nat) (A0 : Nat → Int32) (d : Nat) : Prop := ∀ σ p o cd k, CS σ0 n L q c k0 A0 σ p o cd k → 7 + 3 * (6 - o) ≤ d → OUT σ0 n L q c k0 A0 (gX5 d 0 168 σ) o (fun p' cd' k' => BB p k cd p' cd' k' (4 + 2 * (6 - o)) ∧ LB cd' k' ∧ (¬ sgn (σ0.1 167) n p' = 38 ∧ ¬ sgn (σ0.1 167) n p' = 124) ∧ ∀ W x, yRA (sgn (σ0.1 167) n) p' o (13631488 :: W) cd' k' x → yRP (sgn (σ0.1 167) n) p o (13631488 :: W) cd k x) (fun e => ∀ W, yRP (sgn (σ0.1 167) n) p o (13631488 :: W) cd k (some (.inl e)))
theorem c_cmp2 (x : Int32) (σ : zS) : fX5_comparing x σ = some (if cmO x = 0 then -1 else nI (kd (cmO x)), σ) := by
  by_cases h1 : x = 60
  · subst h1; rfl
  by_cases h2 : x = 61
  · subst h2; rfl
  by_cases h3 : x = 62
  · subst h3; rfl
  unfold fX5_comparing cmO
  simp only [if_neg h1, if_neg h2, if_neg h3]
  rfl
theorem cmO_v {x : Int32} (h : ¬ cmO x = 0) : 7 ≤ cmO x ∧ cmO x ≤ 9 := by
  unfold cmO at h ⊢
  repeat' split
  all_goals first | omega | simp_all
section
variable {σ0 : zS} {n L q c k0 : Nat} {A0 : Nat → Int32} {d : Nat}
theorem step3 (h0 : C0 σ0 n L q) (ih : S4 σ0 n L q c k0 A0 d) : S3 σ0 n L q c k0 A0 (d + 1) := by
  intro σ p o cd k h hd n33 n40
  have hn := h0.1.2.2.2.2
  obtain ⟨hp, hk, hk0, ho⟩ := CS_n h
  show OUT σ0 n L q c k0 A0 (fX5_comparison (gX5 d) 168 σ) o _ _
  unfold fX5_comparison
  rcases ih σ p o cd k h (by omega) with ⟨σ1, p1, cd1, k1, x1, x2, ⟨b1, b2, b3, b4⟩, x4, x5⟩ | ⟨σ1, e1, x1, x2, x3⟩
  · rw [x1, zb_s, if_neg n10, c_sign h0 x2, zb_s, c_cmp2, zb_s]
    obtain ⟨hp1, hk1, hk01, -⟩ := CS_n x2
    by_cases e : cmO (sgn (σ0.1 167) n p1) = 0
    · rw [if_pos e, if_pos rfl]
      obtain ⟨σ', w1, w2⟩ := c_wrong h0 1 x2
      rw [show (1 : Int32) = nI 1 from rfl, w1, zb_s]
      refine Or.inr ⟨σ', _, rfl, w2, fun W => RP_cmp (by omega) n33 n40 (fun Kc _ => ?_)⟩
      unfold yCmp
      rw [x5 _ [] _ trivial (RL_done (by omega) x4) zFU zFU (by unfold zFU; omega) (by unfold zFU; omega), if_pos e]
    · obtain ⟨c7, c9⟩ := cmO_v e
      have hlt : p1 < n := by
        by_cases hh : p1 < n
        · exact hh
        · exfalso
          apply e
          unfold sgn
          rw [if_neg hh]
          rfl
      rw [if_neg e, if_neg kd_ne, bnd_e]
      have ha := c_adv x2 hlt
      rcases ih _ (p1 + 1) o cd1 k1 ha (by omega) with ⟨σ2, p2, cd2, k2, y1, y2, ⟨d1, d2, d3, d4⟩, y4, y5⟩ | ⟨σ2, e2, y1, y2, y3⟩
      · rw [y1, zb_s, if_neg n10, CS_1 h0 y2, bnd_e]
        obtain ⟨hp2, hk2, hk02, -⟩ := CS_n y2
        obtain ⟨σ3, z1, z2⟩ := c_add h0 (v := 1048576 * cmO (sgn (σ0.1 167) n p1)) (num := 0) (kn := kd (cmO (sgn (σ0.1 167) n p1))) (kd_lt _) (by omega) (enc_op (by omega) (by omega)) y2 (by omega)
        rw [show (0 : Int32) = nI 0 from rfl, z1, zb_s]
        have l4 := b4.1
        have l1 := d4.1
        refine Or.inl ⟨σ3, p2, _, k2 + 1, rfl, z2, ⟨by omega, by omega, fun j hj => ?_, ?_⟩, ⟨by omega, ?_, ?_⟩, fun W x r => ?_⟩
        · rw [uN_o (by omega), d3 j (by omega), b3 j hj]
        · refine SEG_up (SEG_op (k1 := k1) (h := 3 + 2 * (6 - o)) (SEG_c b4 (fun j a b => ?_)) (SEG_c d4 (fun j a b => uN_o (by omega))) (by omega) ?_ ?_) (by omega)
          · rw [uN_o (by omega), d3 j b]
          · rw [uN_s]; omega
          · rw [uN_s]; omega
        · rw [show k2 + 1 - 1 = k2 by omega, uN_s]; omega
        · rw [show k2 + 1 - 1 = k2 by omega, uN_s]; omega
        · refine RP_cmp (by omega) n33 n40 (fun Kc hK => ?_)
          unfold yCmp
          rw [x5 _ [] _ trivial (RL_done (by omega) x4) zFU zFU (by unfold zFU; omega) (by unfold zFU; omega), if_neg e]
          rw [y5 _ [] _ trivial (RL_done (by omega) y4) zFU zFU (by unfold zFU; omega) (by unfold zFU; omega)]
          exact hK p2 o _ (k2 + 1) x (by omega) r
      · rw [y1, zb_s, if_pos rfl]
        refine Or.inr ⟨σ2, e2, rfl, y2, fun W => RP_cmp (by omega) n33 n40 (fun Kc _ => ?_)⟩
        unfold yCmp
        rw [x5 _ [] _ trivial (RL_done (by omega) x4) zFU zFU (by unfold zFU; omega) (by unfold zFU; omega), if_neg e]
        exact y3 _ [] trivial zFU zFU (by unfold zFU; omega) (by unfold zFU; omega)
  · rw [x1, zb_s, if_pos rfl]
    refine Or.inr ⟨σ1, e1, rfl, x2, fun W => RP_cmp (by omega) n33 n40 (fun Kc _ => ?_)⟩
    unfold yCmp
    exact x3 _ [] trivial zFU zFU (by unfold zFU; omega) (by unfold zFU; omega)
theorem step2 (h0 : C0 σ0 n L q) (i0 : S0 σ0 n L q c k0 A0 d) (i2 : S2 σ0 n L q c k0 A0 d) (i3 : S3 σ0 n L q c k0 A0 d) : S2 σ0 n L q c k0 A0 (d + 1) := by
  intro σ p o cd k h hd
  have hn := h0.1.2.2.2.2
  obtain ⟨hp, hk, hk0, ho⟩ := CS_n h
  show OUT σ0 n L q c k0 A0 (fX5_piece (gX5 d) 168 σ) o _ _
  unfold fX5_piece
  rw [c_sign h0 h, zb_s]
  by_cases e : sgn (σ0.1 167) n p = 40
  · rw [if_pos e]
    obtain ⟨o1, o2⟩ := c_opens h0 40 (by decide) h e
    by_cases h6 : o = 6
    · obtain ⟨σ', w1, w2⟩ := o1 h6
      rw [w1, zb_s, if_pos rfl]
      exact Or.inr ⟨σ', _, rfl, w2, fun W _ => RP_par6 (by omega) e h6⟩
    · obtain ⟨σ1, w1, w2⟩ := o2 h6
      rw [w1, zb_s, if_neg n10]
      rcases i0 σ1 (p + 1) (o + 1) cd k w2 (by omega) with ⟨σ2, p2, cd2, k2, x1, x2, ⟨b1, b2, b3, b4⟩, x3, x4, x5⟩ | ⟨σ2, e2, x1, x2, x3⟩
      · rw [x1, zb_s, if_neg n10]
        have hp2 := (CS_n x2).1
        obtain ⟨t1, t2⟩ := c_closes h0 41 (by decide) x2
        by_cases e3 : sgn (σ0.1 167) n p2 = 41
        · obtain ⟨σ3, y1, y2⟩ := t1 e3
          rw [y1, zb_s, if_neg n10]
          exact Or.inl ⟨σ3, p2 + 1, cd2, k2, rfl, y2, ⟨by omega, by omega, b3, SEG_up b4 (by omega)⟩, x3, fun W x hW r => RP_par (by omega) e h6 (x5 W x (RA_close (by omega) e3 hW r))⟩
        · obtain ⟨σ3, y1, y2⟩ := t2 e3
          rw [y1, zb_s, if_pos rfl]
          exact Or.inr ⟨σ3, _, rfl, y2, fun W hW => RP_par (by omega) e h6 (x5 W _ (RA_no (by omega) e3 x4.1 x4.2))⟩
      · rw [x1, zb_s, if_pos rfl]
        exact Or.inr ⟨σ2, e2, rfl, x2, fun W hW => RP_par (by omega) e h6 (x3 W)⟩
  · rw [if_neg e, c_sign h0 h, zb_s]
    by_cases e3 : sgn (σ0.1 167) n p = 33
    · rw [if_pos e3]
      obtain ⟨o1, o2⟩ := c_opens h0 33 (by decide) h e3
      by_cases h6 : o = 6
      · obtain ⟨σ', w1, w2⟩ := o1 h6
        rw [w1, zb_s, if_pos rfl]
        exact Or.inr ⟨σ', _, rfl, w2, fun W _ => RP_not6 (by omega) e3 h6⟩
      · obtain ⟨σ1, w1, w2⟩ := o2 h6
        rw [w1, zb_s, if_neg n10]
        rcases i2 σ1 (p + 1) (o + 1) cd k w2 (by omega) with ⟨σ2, p2, cd2, k2, x1, x2, ⟨b1, b2, b3, b4⟩, x3, x5⟩ | ⟨σ2, e2, x1, x2, x3⟩
        · rw [x1, zb_s, if_neg n10]
          have h4 : σ2.1 168 4 = nI (o + 1) := by obtain ⟨F, A, rfl, -⟩ := x2; rfl
          rw [h4, nI_pred, bnd_e]
          have h' : CS σ0 n L q c k0 A0 (zI σ2 168 4 (nI o)) p2 o cd2 k2 := by
            obtain ⟨F, A, rfl, g1, g2, g3, g4, g5, g6⟩ := x2
            rw [ck4]
            exact ⟨F, A, rfl, g1, g2, g3, g4, g5, by omega⟩
          rw [CS_1 h0 h', bnd_e]
          obtain ⟨hp2, hk2, -, -⟩ := CS_n x2
          obtain ⟨σ3, z1, z2⟩ := c_add h0 (v := 1048576 * 10) (num := 0) (kn := 4) (by omega) (by omega) (enc_op (by omega) (by omega)) h' (by omega)
          rw [show (4 : Int32) = nI 4 from rfl, show (0 : Int32) = nI 0 from rfl, z1, zb_s]
          have l1 := b4.1
          refine Or.inl ⟨σ3, p2, _, k2 + 1, rfl, z2, ⟨by omega, by omega, fun j hj => ?_, ?_⟩, ⟨by omega, ?_, ?_⟩, fun W x hW r => ?_⟩
          · rw [uN_o (by omega), b3 j hj]
          · refine SEG_up (SEG_not (SEG_c b4 (fun j a b => uN_o (by omega))) (by omega) ⟨x3.1, ?_, ?_⟩ ?_) (by omega)
            · rw [uN_o (by omega)]; exact x3.2.1
            · rw [uN_o (by omega)]; exact x3.2.2
            · rw [uN_s]
          · rw [show k2 + 1 - 1 = k2 by omega, uN_s]; omega
          · rw [show k2 + 1 - 1 = k2 by omega, uN_s]; omega
          · exact RP_not (by omega) e3 h6 (x5 (10485760 :: W) x (by simp) (RE_not r))
        · rw [x1, zb_s, if_pos rfl]
          exact Or.inr ⟨σ2, e2, rfl, x2, fun W hW => RP_not (by omega) e3 h6 (x3 _ (by simp))⟩
    · rw [if_neg e3]
      rcases i3 σ p o cd k h (by omega) e3 e with ⟨σ2, p2, cd2, k2, x1, x2, b, x3, x5⟩ | ⟨σ2, e2, x1, x2, x3⟩
      · rw [x1, zb_s]
        exact Or.inl ⟨σ2, p2, cd2, k2, rfl, x2, b, x3, fun W x _ r => x5 W x r⟩
      · rw [x1, zb_s]
        exact Or.inr ⟨σ2, e2, rfl, x2, fun W _ => x3 W⟩
theorem step1 (h0 : C0 σ0 n L q) (ih : S2 σ0 n L q c k0 A0 d) : S1 σ0 n L q c k0 A0 (d + 1) := by
  intro σ p o cd k h hd
  have hn := h0.1.2.2.2.2
  obtain ⟨hp, hk, hk0, ho⟩ := CS_n h
  show OUT σ0 n L q c k0 A0 (fX5_part (gX5 d) 168 σ) o _ _
  unfold fX5_part
  have loop : ∀ (N i : Nat) (σ1 : zS) (p1 : Nat) (cd1 : Nat → Nat) (k1 : Nat), n + 1 ≤ N + p1 → i < p1 → CS σ0 n L q c k0 A0 σ1 p1 o cd1 k1 → BB p k cd p1 cd1 k1 (4 + 2 * (6 - o)) → LB cd1 k1 → (∀ w W x, ¬ w / 1048576 = 10 → ¬ w / 1048576 = 11 → yRA (sgn (σ0.1 167) n) p1 o (w :: W) cd1 k1 x → yRP (sgn (σ0.1 167) n) p o (w :: W) cd k x) → OUT σ0 n L q c k0 A0 (fX5_part_7 (gX5 d) N 168 1 (nI i) σ1) o (fun p' cd' k' => BB p k cd p' cd' k' (4 + 2 * (6 - o)) ∧ LB cd' k' ∧ ¬ sgn (σ0.1 167) n p' = 38 ∧ ∀ w W x, ¬ w / 1048576 = 10 → ¬ w / 1048576 = 11 → yRA (sgn (σ0.1 167) n) p' o (w :: W) cd' k' x → yRP (sgn (σ0.1 167) n) p o (w :: W) cd k x) (fun e => ∀ w W, ¬ w / 1048576 = 10 → ¬ w / 1048576 = 11 → yRP (sgn (σ0.1 167) n) p o (w :: W) cd k (some (.inl e))) := by
    intro N
    induction N with
    | zero => intro i σ1 p1 cd1 k1 hN _ h1; have := (CS_n h1).1; omega
    | succ N ihN =>
      intro i σ1 p1 cd1 k1 hN hi h1 hB hL hM
      obtain ⟨hp1, hk1, hk01, -⟩ := CS_n h1
      show OUT σ0 n L q c k0 A0 (bX5_part_7 (gX5 d) (fX5_part_7 (gX5 d) N) 168 1 (nI i) σ1) o _ _
      unfold bX5_part_7
      by_cases hi2 : i < 120
      · rw [if_neg (geL 120 (120 : Int32) rfl hi2 (by omega)), if_neg n10, c_sign h0 h1, zb_s]
        by_cases e : sgn (σ0.1 167) n p1 = 38
        · have hlt := sgn_in e (by decide)
          rw [if_pos e, bnd_e]
          have ha := c_adv h1 hlt
          rw [CS_1 h0 ha, bnd_e]
          obtain ⟨σa, a1, a2⟩ := c_add h0 (v := 11534336) (num := 0) (kn := 5) (by omega) (by omega) rfl ha (by omega)
          rw [show (5 : Int32) = nI 5 from rfl, show (0 : Int32) = nI 0 from rfl, a1, zb_s]
          obtain ⟨B1, B2, B3, B4⟩ := hB
          rcases ih _ (p1 + 1) o _ (k1 + 1) a2 (by omega) with ⟨σ2, p2, cd2, k2, x1, x2, ⟨b1, b2, b3, b4⟩, xL, x5⟩ | ⟨σ2, e2, x1, x2, x3⟩
          · obtain ⟨hp2, hk2, hk02, -⟩ := CS_n x2
            have l4 := b4.1
            have l1 := B4.1
            have hc1 : cd2 k1 = 11534336 := by rw [b3 k1 (by omega), uN_s]
            obtain ⟨σ3, y1, y2⟩ := c_aim h0 (x := k1) (op := 11) (by omega) x2 (by omega) (by omega) hc1
            rw [x1, zb_s, CS_1 h0 x2, bnd_e, y1, zb_s, nI_1]
            have keep : ∀ j, j < k1 → uN cd2 k1 (1048576 * 11 + k2) j = cd1 j := fun j hj => by rw [uN_o (by omega), b3 j (by omega), uN_o (by omega)]
            have hL2 : LB (uN cd2 k1 (1048576 * 11 + k2)) k2 := ⟨xL.1, by rw [uN_o (by omega)]; exact xL.2.1, by rw [uN_o (by omega)]; exact xL.2.2⟩
            refine ihN (i + 1) σ3 p2 _ k2 (by omega) (by omega) y2 ⟨by omega, by omega, fun j hj => ?_, ?_⟩ hL2 (fun w W x w1 w2 r => ?_)
            · rw [keep j (by omega), B3 j hj]
            · refine SEG_jump (k1 := k1) (op := 11) (SEG_c B4 (fun j a b => keep j b)) (SEG_c b4 (fun j a b => uN_o (by omega))) (by omega) ⟨hL.1, ?_, ?_⟩ (by omega) (by omega) uN_s
              · rw [keep _ (by omega)]; exact hL.2.1
              · rw [keep _ (by omega)]; exact hL.2.2
            · exact hM w W x w1 w2 (RA_and (by omega) e w2 (x5 _ x (by simp) (RE_no (by omega) (RA_land11 (by omega) (by omega) hc1 r))))
          · rw [x1, zb_s, CF_1 h0 x2, bnd_e]
            obtain ⟨σ3, y1, y2⟩ := c_aimF h0 (x := k1 + 2 * c + 1) (by omega) x2
            rw [y1, zb_s]
            obtain ⟨N, rfl⟩ : ∃ m, N = m + 1 := ⟨N - 1, by omega⟩
            refine Or.inr ⟨σ3, e2, ?_, y2, fun w W w1 w2 => hM w W _ w1 w2 (RA_and (by omega) e w2 (x3 _ (by simp)))⟩
            show bX5_part_7 (gX5 d) (fX5_part_7 (gX5 d) N) 168 0 _ σ3 = _
            unfold bX5_part_7
            rw [if_pos rfl]
            split <;> rfl
        · rw [if_neg e]
          exact Or.inl ⟨σ1, p1, cd1, k1, rfl, h1, hB, hL, e, hM⟩
      · have : p1 = n := by omega
        rw [if_pos (show (120 : Int32) ≤ nI i from nI_le (a := 120) (by omega) (by omega))]
        refine Or.inl ⟨σ1, p1, cd1, k1, rfl, h1, hB, hL, ?_, hM⟩
        unfold sgn
        rw [if_neg (by omega)]
        decide
  rcases ih σ p o cd k h (by omega) with ⟨σ1, p1, cd1, k1, x1, x2, b, x4, x5⟩ | ⟨σ1, e1, x1, x2, x3⟩
  · rw [x1, zb_s]
    have b1 := b.1
    exact loop zFU 0 σ1 p1 cd1 k1 (by unfold zFU; omega) (by omega) x2 b x4 (fun w W x w1 w2 r => x5 _ x (by simp) (RE_no w1 r))
  · rw [x1, zb_s]
    exact Or.inr ⟨σ1, e1, rfl, x2, fun w W _ _ => x3 _ (by simp)⟩
theorem step0 (h0 : C0 σ0 n L q) (ih : S1 σ0 n L q c k0 A0 d) : S0 σ0 n L q c k0 A0 (d + 1) := by
  intro σ p o cd k h hd
  have hn := h0.1.2.2.2.2
  obtain ⟨hp, hk, hk0, ho⟩ := CS_n h
  show OUT σ0 n L q c k0 A0 (fX5_condition (gX5 d) 168 σ) o _ _
  unfold fX5_condition
  have loop : ∀ (N i : Nat) (σ1 : zS) (p1 : Nat) (cd1 : Nat → Nat) (k1 : Nat), n + 1 ≤ N + p1 → i < p1 → CS σ0 n L q c k0 A0 σ1 p1 o cd1 k1 → BB p k cd p1 cd1 k1 (4 + 2 * (6 - o)) → LB cd1 k1 → ¬ sgn (σ0.1 167) n p1 = 38 → (∀ W x, yRA (sgn (σ0.1 167) n) p1 o (13631488 :: W) cd1 k1 x → yRP (sgn (σ0.1 167) n) p o (13631488 :: W) cd k x) → OUT σ0 n L q c k0 A0 (fX5_condition_7 (gX5 d) N 168 1 (nI i) σ1) o (fun p' cd' k' => BB p k cd p' cd' k' (4 + 2 * (6 - o)) ∧ LB cd' k' ∧ (¬ sgn (σ0.1 167) n p' = 38 ∧ ¬ sgn (σ0.1 167) n p' = 124) ∧ ∀ W x, yRA (sgn (σ0.1 167) n) p' o (13631488 :: W) cd' k' x → yRP (sgn (σ0.1 167) n) p o (13631488 :: W) cd k x) (fun e => ∀ W, yRP (sgn (σ0.1 167) n) p o (13631488 :: W) cd k (some (.inl e))) := by
    intro N
    induction N with
    | zero => intro i σ1 p1 cd1 k1 hN _ h1; have := (CS_n h1).1; omega
    | succ N ihN =>
      intro i σ1 p1 cd1 k1 hN hi h1 hB hL h38 hM
      obtain ⟨hp1, hk1, hk01, -⟩ := CS_n h1
      show OUT σ0 n L q c k0 A0 (bX5_condition_7 (gX5 d) (fX5_condition_7 (gX5 d) N) 168 1 (nI i) σ1) o _ _
      unfold bX5_condition_7
      by_cases hi2 : i < 120
      · rw [if_neg (geL 120 (120 : Int32) rfl hi2 (by omega)), if_neg n10, c_sign h0 h1, zb_s]
        by_cases e : sgn (σ0.1 167) n p1 = 124
        · have hlt := sgn_in e (by decide)
          rw [if_pos e, bnd_e]
          have ha := c_adv h1 hlt
          rw [CS_1 h0 ha, bnd_e]
          obtain ⟨σa, a1, a2⟩ := c_add h0 (v := 12582912) (num := 0) (kn := 6) (by omega) (by omega) rfl ha (by omega)
          rw [show (6 : Int32) = nI 6 from rfl, show (0 : Int32) = nI 0 from rfl, a1, zb_s]
          obtain ⟨B1, B2, B3, B4⟩ := hB
          rcases ih _ (p1 + 1) o _ (k1 + 1) a2 (by omega) with ⟨σ2, p2, cd2, k2, x1, x2, ⟨b1, b2, b3, b4⟩, xL, x4, x5⟩ | ⟨σ2, e2, x1, x2, x3⟩
          · obtain ⟨hp2, hk2, hk02, -⟩ := CS_n x2
            have l4 := b4.1
            have l1 := B4.1
            have hc1 : cd2 k1 = 12582912 := by rw [b3 k1 (by omega), uN_s]
            obtain ⟨σ3, y1, y2⟩ := c_aim h0 (x := k1) (op := 12) (by omega) x2 (by omega) (by omega) hc1
            rw [x1, zb_s, CS_1 h0 x2, bnd_e, y1, zb_s, nI_1]
            have keep : ∀ j, j < k1 → uN cd2 k1 (1048576 * 12 + k2) j = cd1 j := fun j hj => by rw [uN_o (by omega), b3 j (by omega), uN_o (by omega)]
            have hL2 : LB (uN cd2 k1 (1048576 * 12 + k2)) k2 := ⟨xL.1, by rw [uN_o (by omega)]; exact xL.2.1, by rw [uN_o (by omega)]; exact xL.2.2⟩
            refine ihN (i + 1) σ3 p2 _ k2 (by omega) (by omega) y2 ⟨by omega, by omega, fun j hj => ?_, ?_⟩ hL2 x4 (fun W x r => ?_)
            · rw [keep j (by omega), B3 j hj]
            · refine SEG_jump (k1 := k1) (op := 12) (SEG_c B4 (fun j a b => keep j b)) (SEG_c b4 (fun j a b => uN_o (by omega))) (by omega) ⟨hL.1, ?_, ?_⟩ (by omega) (by omega) uN_s
              · rw [keep _ (by omega)]; exact hL.2.1
              · rw [keep _ (by omega)]; exact hL.2.2
            · exact hM W x (RA_or (by omega) e (by omega) (by omega) (x5 _ _ x (by omega) (by omega) (RA_land12 (by omega) (by omega) x4 hc1 r)))
          · rw [x1, zb_s, CF_1 h0 x2, bnd_e]
            obtain ⟨σ3, y1, y2⟩ := c_aimF h0 (x := k1 + 2 * c + 1) (by omega) x2
            rw [y1, zb_s]
            obtain ⟨N, rfl⟩ : ∃ m, N = m + 1 := ⟨N - 1, by omega⟩
            refine Or.inr ⟨σ3, e2, ?_, y2, fun W => hM W _ (RA_or (by omega) e (by omega) (by omega) (x3 _ _ (by omega) (by omega)))⟩
            show bX5_condition_7 (gX5 d) (fX5_condition_7 (gX5 d) N) 168 0 _ σ3 = _
            unfold bX5_condition_7
            rw [if_pos rfl]
            split <;> rfl
        · rw [if_neg e]
          exact Or.inl ⟨σ1, p1, cd1, k1, rfl, h1, hB, hL, ⟨h38, e⟩, hM⟩
      · have : p1 = n := by omega
        rw [if_pos (show (120 : Int32) ≤ nI i from nI_le (a := 120) (by omega) (by omega))]
        refine Or.inl ⟨σ1, p1, cd1, k1, rfl, h1, hB, hL, ⟨h38, ?_⟩, hM⟩
        unfold sgn
        rw [if_neg (by omega)]
        decide
  rcases ih σ p o cd k h (by omega) with ⟨σ1, p1, cd1, k1, x1, x2, b, x3, x4, x5⟩ | ⟨σ1, e1, x1, x2, x3⟩
  · rw [x1, zb_s]
    have b1 := b.1
    exact loop zFU 0 σ1 p1 cd1 k1 (by unfold zFU; omega) (by omega) x2 b x3 x4 (fun W x r => x5 _ W x (by omega) (by omega) r)
  · rw [x1, zb_s]
    exact Or.inr ⟨σ1, e1, rfl, x2, fun W => x3 _ W (by omega) (by omega)⟩
theorem conds (h0 : C0 σ0 n L q) : ∀ d, S0 σ0 n L q c k0 A0 d ∧ S1 σ0 n L q c k0 A0 d ∧ S2 σ0 n L q c k0 A0 d ∧ S3 σ0 n L q c k0 A0 d
  | 0 => ⟨fun σ p o cd k _ h => absurd h (by omega), fun σ p o cd k _ h => absurd h (by omega), fun σ p o cd k _ h => absurd h (by omega), fun σ p o cd k _ h => absurd h (by omega)⟩
  | d + 1 => ⟨step0 h0 (conds h0 d).2.1, step1 h0 (conds h0 d).2.2.1, step2 h0 (conds h0 d).1 (conds h0 d).2.2.1 (conds h0 d).2.2.2, step3 h0 (arith h0 d).1⟩
end
end
