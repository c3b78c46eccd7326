section
/-! ===== clauses, side by side ===== -/
theorem mkzA {τ0 : zS} {P F O K L V x : Int32} {A B : Nat → Int32} {a i : Nat} (h0 : ¬ a = 0) (h8 : ¬ a = 8) (h9 : ¬ a = 9) : zI (mkM τ0 P F O K L V A B) a i x = mkM (zI τ0 a i x) P F O K L V A B := by
  show (_, _) = (_, _); congr 1; funext u v; by_cases hu : u = a
  · subst hu; by_cases hv : v = i <;> simp [mkM, zI, h0, h8, h9, hv]
  · by_cases hz : u = 0
    · subst hz; simp [mkM, zI, hu]
    · simp [mkM, zI, hu, hz]
theorem mkz18 {τ0 : zS} {P F O K L V x : Int32} {A B : Nat → Int32} : zI (mkM τ0 P F O K L V A B) 0 18 x = mkM (zI τ0 0 18 x) P F O K L V A B := by
  show (_, _) = (_, _); congr 1; funext u v; by_cases hu : u = 0
  · subst hu; by_cases hv : v = 18
    · subst hv; simp [mkM, zI]
    · simp [mkM, zI, hv]
  · simp [mkM, zI, hu]
theorem rk18 {τ0 : zS} {P F O K L V : Int32} {A B : Nat → Int32} : (mkM τ0 P F O K L V A B).1 0 18 = τ0.1 0 18 := rfl
theorem ckL2 {σ0 : zS} {n L q : Nat} {P O F S v x : Int32} {A : Nat → Int32} (h : C0 σ0 n L q) : zI (mkC (zI σ0 L 2 v) L q P O F S A) L 2 x = mkC (zI σ0 L 2 x) L q P O F S A := by
  obtain ⟨-, h1, h2, h3, -⟩ := h
  show (_, _) = (_, _); congr 1; funext a b; by_cases ha : a = L
  · subst ha; by_cases hb : b = 2 <;> simp [mkC, zI, hb, h1]
  · by_cases h8 : a = 168
    · subst h8; simp [mkC, zI, ha]
    · simp [mkC, zI, ha, h8]
theorem skL2 {σ0 : zS} {n L q : Nat} {P O F S v : Int32} {A : Nat → Int32} (h : C0 σ0 n L q) : (mkC (zI σ0 L 2 v) L q P O F S A).1 L 2 = v := by
  obtain ⟨-, h1, h2, h3, -⟩ := h
  simp [mkC, zI, h1]
theorem C0_z {σ0 : zS} {n L q : Nat} {v : Int32} (h : C0 σ0 n L q) : C0 (zI σ0 L 2 v) n L q := by
  obtain ⟨⟨a1, a2, a3, a4, a5⟩, b⟩ := h
  exact ⟨⟨a1, a2, a3, by rw [zI_ne (fun e => b.1 e.symm)]; exact a4, a5⟩, b⟩
theorem sg_z {σ0 : zS} {n L q : Nat} {v : Int32} (h : C0 σ0 n L q) : sgn ((zI σ0 L 2 v).1 167) n = sgn (σ0.1 167) n := by rw [zI_ne h.2.2.2.2.1]
theorem c_sgn {σ0 : zS} {n L q p : Nat} {O F S : Int32} {A : Nat → Int32} (h0 : C0 σ0 n L q) (hp : p ≤ n) : fX5_sign 168 (mkC σ0 L q (nI p) O F S A) = some (sgn (σ0.1 167) n p, mkC σ0 L q (nI p) O F S A) := by
  obtain ⟨r0, r1, r2, h2, hn⟩ := h0.1
  unfold fX5_sign sgn
  rw [sk3, sk2, h2, skR, r0, if_neg (nI_pos (by omega))]
  by_cases e : p < n
  · rw [if_pos e, if_neg (nI_ge e (by omega)), bnd_e, if_neg (geL 500 (500 : Int32) rfl (by omega) (by omega)), bnd_e, zX_n (by omega) (by omega), cl_n (by omega), skT h0]
  · rw [if_neg e, if_pos (nI_le (by omega) (by omega))]
theorem m_hr {τ0 : zS} {n p : Nat} {F O K L V : Int32} {A B : Nat → Int32} (h0 : M0 τ0 n) (hp : p ≤ n) : fX7_here 0 (mkM τ0 (nI p) F O K L V A B) = some (sgn (τ0.1 7) n p, mkM τ0 (nI p) F O K L V A B) := by
  obtain ⟨hm, hn, h13⟩ := h0
  unfold fX7_here sgn
  rw [rk12, rk13, h13, rkR, mm10 hm]
  by_cases e : p < n
  · rw [if_pos e, if_neg (nI_ge e (by omega)), bnd_e, zX_n (by omega) (by omega), cl_n (by omega), rk7]
  · rw [if_neg e, if_pos (nI_le (by omega) (by omega))]
theorem m_wr {τ0 : zS} {p f : Nat} {F O K L V : Int32} {A B : Nat → Int32} (hp : p < 1000) : fX7_wrong 0 (nI f) (nI p) (mkM τ0 (nI p) F O K L V A B) = some (0, mkM τ0 (nI p) (er (1000 * f + p)) O K L V A B) := by
  unfold fX7_wrong er
  rw [bnd_e, mk14, show (1000 * f + p) / 1000 = f by omega, show (1000 * f + p) % 1000 = p by omega]
def baM (τ0 τc : zS) (c : Nat) (F lt : Nat → Nat) : Prop := τc.2 = τ0.2 ∧ (∀ a, ¬ a = 0 → ¬ a = 10 → ¬ a = 11 → ¬ a = 12 → τc.1 a = τ0.1 a) ∧ (∀ b, ¬ b = 18 → τc.1 0 b = τ0.1 0 b) ∧ τc.1 0 18 = nI c ∧ ∀ j, j < c → τc.1 10 j = nI (lt j) ∧ τc.1 11 j = nI (F j) ∧ τc.1 12 j = nI (F (j + 1))
/-- the class's steps of the clauses read -/
def laC (A : Nat → Int32) (F cd lt : Nat → Nat) (c : Nat) : Prop := ∀ j, j < c → A (F j + 2 * j) = nI (16 * (F (j + 1) + 2 * j + 2)) ∧ A (F (j + 1) + 2 * j + 1) = nI (16 * (if lt j = 99 then 1 else 2) + 1) ∧ ∀ i, F j ≤ i → i < F (j + 1) → A (i + 2 * j + 1) = nI (enc j (cd i))
def CPL (σ0 τ0 : zS) (n L q : Nat) (σ τ : zS) (p c : Nat) (F cd lt : Nat → Nat) : Prop :=
  (∃ Fv A, σ = mkC (zI σ0 L 2 (nI c)) L q (nI p) (nI 0) Fv (nI (F c + 2 * c)) A ∧ laC A F cd lt c) ∧
  (∃ τc Fv O L' V A B, τ = mkM τc (nI p) Fv O (nI (F c)) L' V A B ∧ (∀ i, i < F c → A i = nI (cd i) ∧ cd i < 15728640) ∧ baM τ0 τc c F lt) ∧
  (∀ j, j < c → SEG cd (F j) (F (j + 1)) 14 ∧ LB cd (F (j + 1)) ∧ (lt j = 99 ∨ lt j = 104) ∧ F (j + 1) ≤ F c) ∧ F 0 = 0 ∧ F c + 2 * c ≤ p ∧ p ≤ n ∧ c ≤ 12
def CFx (σ0 : zS) (L q : Nat) (σ : zS) (e : Nat) : Prop := ∃ c : Nat, CF (zI σ0 L 2 (nI c)) L q σ e
def MFx (τ0 τ : zS) (e : Nat) : Prop := ∃ τc c F lt, baM τ0 τc c F lt ∧ MFl τc τ e
theorem baM_0 {τ0 τc : zS} {n c : Nat} {F lt : Nat → Nat} (h : baM τ0 τc c F lt) (m : M0 τ0 n) : M0 τc n := by
  obtain ⟨b1, b2, b3, b4, b5⟩ := h
  exact ⟨by rw [b1]; exact m.1, m.2.1, by rw [b3 13 (by omega)]; exact m.2.2⟩
theorem clause_step {σ0 τ0 σ τ : zS} {n L q p c : Nat} {F cd lt : Nat → Nat} (h0 : C0 σ0 n L q) (m0 : M0 τ0 n) (hT : sgn (σ0.1 167) n = sgn (τ0.1 7) n) (h : CPL σ0 τ0 n L q σ τ p c F cd lt) :
    (∃ σ' τ' p' F' cd' lt', fX5_clause 168 σ = some (1, σ') ∧ fX7_readsClause 0 τ = some (1, τ') ∧ CPL σ0 τ0 n L q σ' τ' p' (c + 1) F' cd' lt' ∧ p < p') ∨ (∃ σ' τ' e, fX5_clause 168 σ = some (0, σ') ∧ fX7_readsClause 0 τ = some (0, τ') ∧ CFx σ0 L q σ' e ∧ MFx τ0 τ' e) := by
  obtain ⟨⟨Fv, A, rfl, hA⟩, ⟨τc, Fm, O, Lm, V, Am, B, rfl, hAm, hb⟩, hS, hF0, hk, hp, hc⟩ := h
  have hn := h0.1.2.2.2.2
  have h0' : C0 (zI σ0 L 2 (nI c)) n L q := C0_z h0
  have mc : M0 τc n := baM_0 hb m0
  have sgz : sgn ((zI σ0 L 2 (nI c)).1 167) n = sgn (σ0.1 167) n := sg_z h0
  have sgt : sgn (τc.1 7) n = sgn (σ0.1 167) n := by rw [hb.2.1 7 (by omega) (by omega) (by omega) (by omega), hT]
  have hcs := c_sgn (O := nI 0) (F := Fv) (S := nI (F c + 2 * c)) (A := A) h0' hp
  have hms := m_hr (F := Fm) (O := O) (K := nI (F c)) (L := Lm) (V := V) (A := Am) (B := B) mc hp
  rw [sgz] at hcs
  rw [sgt] at hms
  -- a fault at this very place
  have bad : ∀ f : Nat, 1 ≤ f → f ≤ 5 → ∃ σ' τ', zb (fX5_wrong 168 (nI f) (mkC (zI σ0 L 2 (nI c)) L q (nI p) (nI 0) Fv (nI (F c + 2 * c)) A)) (fun r s => some (r, s)) = some (0, σ') ∧ zb (fX7_wrong 0 (nI f) (nI p) (mkM τc (nI p) Fm O (nI (F c)) Lm V Am B)) (fun r s => some (r, s)) = some (0, τ') ∧ CFx σ0 L q σ' (1000 * f + p) ∧ MFx τ0 τ' (1000 * f + p) := by
    intro f f1 f5
    rw [m_wr (by omega)]
    unfold fX5_wrong
    rw [bnd_e, ck5, zb_s, zb_s]
    exact ⟨_, _, rfl, rfl, ⟨c, p, f, F c + 2 * c, nI 0, A, rfl, rfl, by omega, by omega⟩, ⟨τc, c, F, lt, hb, nI p, O, nI (F c), Lm, V, Am, B, rfl⟩⟩
  -- the clause behind its letter
  have go : ∀ (lw ac : Nat), (lw = 99 ∧ ac = 1 ∨ lw = 104 ∧ ac = 2) → sgn (σ0.1 167) n p = nI lw → ((∃ σ' τ' p' F' cd' lt', bX5_clause_27 168 (nI ac) (mkC (zI σ0 L 2 (nI c)) L q (nI p) (nI 0) Fv (nI (F c + 2 * c)) A) = some (1, σ') ∧ bX7_readsClause_28 0 (mkM τc (nI p) Fm O (nI (F c)) Lm V Am B) = some (1, τ') ∧ CPL σ0 τ0 n L q σ' τ' p' (c + 1) F' cd' lt' ∧ p < p') ∨ (∃ σ' τ' e, bX5_clause_27 168 (nI ac) (mkC (zI σ0 L 2 (nI c)) L q (nI p) (nI 0) Fv (nI (F c + 2 * c)) A) = some (0, σ') ∧ bX7_readsClause_28 0 (mkM τc (nI p) Fm O (nI (F c)) Lm V Am B) = some (0, τ') ∧ CFx σ0 L q σ' e ∧ MFx τ0 τ' e)) := by
    intro lw ac hla hsg
    have hlt : p < n := sgn_in hsg (by rcases hla with ⟨rfl, -⟩ | ⟨rfl, -⟩ <;> decide)
    unfold bX5_clause_27 bX7_readsClause_28
    rw [if_neg (show ¬ nI ac = 0 from nI_ne0 (by omega) (by omega)), skR, h0'.1.2.1, bnd_e, skL2 h0, rk18, hb.2.2.2.1]
    by_cases h12 : c = 12
    · rw [if_neg (nltL 12 (12 : Int32) rfl (by omega) (by omega)), if_pos (show nI c = (12 : Int32) by rw [h12]; rfl), rk12]
      obtain ⟨σ', τ', w1, w2, w3, w4⟩ := bad 4 (by omega) (by omega)
      rw [show (4 : Int32) = nI 4 from rfl, w1, w2]
      exact Or.inr ⟨σ', τ', _, rfl, rfl, w3, w4⟩
    · rw [if_pos (ltL 12 (12 : Int32) rfl (show c < 12 by omega) (by omega)), if_neg (show ¬ nI c = (12 : Int32) from fun e => h12 ((nI_eq (b := 12) (by omega) (by omega)).mp e))]
      -- class: the letter, the entry
      rw [bnd_e, sk3, ck3, nI_1, skR, h0'.1.2.1, bnd_e]
      have hadd : fX4_add L 0 0 (mkC (zI σ0 L 2 (nI c)) L q (nI (p + 1)) (nI 0) Fv (nI (F c + 2 * c)) A) = some (nI (F c + 2 * c), mkC (zI σ0 L 2 (nI c)) L q (nI (p + 1)) (nI 0) Fv (nI (F c + 2 * c + 1)) (upd A (F c + 2 * c) 0)) := by
        unfold fX4_add
        rw [skS h0', bnd_e, if_neg (nI_pos (by omega)), if_neg (geL 128 (128 : Int32) rfl (by omega) (by omega)), skR, h0'.1.2.2.1, bnd_e, zX_n (by omega) (by omega), cl_n (by omega), ckA h0', bnd_e, ckS h0', bnd_e, nI_1]
        rfl
      rw [hadd, zb_s]
      -- reference: the letter, where it begins
      have hr : mR τc.2 := mc.1
      rw [rkR, mm22 hr, bnd_e, hms, zb_s, zX_n (show c < 12 by omega) (by omega), bnd_e, cl_n (by omega), mkzA (by omega) (by omega) (by omega), bnd_e, rk12, mk12, nI_1, rkR]
      have hr2 : mR (zI τc 10 c (sgn (σ0.1 167) n p)).2 := hr
      rw [mm23 hr2, bnd_e, rk18, zI_ne (show (0 : Nat) ≠ 10 by omega), hb.2.2.2.1, zX_n (show c < 12 by omega) (by omega), bnd_e, cl_n (by omega), rk16, mkzA (by omega) (by omega) (by omega)]
      have mc2 : M0 (zI (zI τc 10 c (sgn (σ0.1 167) n p)) 11 c (nI (F c))) n := ⟨hr, hn, by rw [zI_ne (by omega), zI_ne (by omega)]; exact mc.2.2⟩
      have sgt2 : sgn ((zI (zI τc 10 c (sgn (σ0.1 167) n p)) 11 c (nI (F c))).1 7) n = sgn (σ0.1 167) n := by rw [zI_ne (by omega), zI_ne (by omega)]; exact sgt
      have hcond := m_condition (cd := cd) (k := F c) (p := p + 1) (F := Fm) (O := O) (L := Lm) (V := V) (A := Am) (B := B) mc2 hAm (by omega) (by omega)
      rw [sgt2] at hcond
      have hb2 : baM τ0 (zI (zI τc 10 c (sgn (σ0.1 167) n p)) 11 c (nI (F c))) c F lt := by
        obtain ⟨b1, b2, b3, b4, b5⟩ := hb
        refine ⟨b1, fun a a0 a1 a2 a3 => by rw [zI_ne a2, zI_ne a1]; exact b2 a a0 a1 a2 a3, fun b hb => by rw [zI_ne (by omega), zI_ne (by omega)]; exact b3 b hb, by rw [zI_ne (by omega), zI_ne (by omega)]; exact b4, fun j hj => ?_⟩
        rw [zI_ne (show (10 : Nat) ≠ 11 by omega), zI_o (by omega), zI_o (by omega), zI_ne (show (11 : Nat) ≠ 10 by omega), zI_ne (show (12 : Nat) ≠ 11 by omega), zI_ne (show (12 : Nat) ≠ 10 by omega)]
        exact b5 j hj
      -- the bracket
      unfold fX5_opens bX5_opens_23
      have hcs1 := c_sgn (p := p + 1) (O := nI 0) (F := Fv) (S := nI (F c + 2 * c + 1)) (A := upd A (F c + 2 * c) 0) h0' (by omega)
      rw [sgz] at hcs1
      rw [hcs1, zb_s]
      by_cases e40 : sgn (σ0.1 167) n (p + 1) = 40
      · have hlt1 := sgn_in e40 (by decide)
        rw [if_pos e40] at hcond
        rw [if_pos e40, sk4, if_pos (by decide), bnd_e, ck4, show nI 0 + 1 = nI 1 from nI_1 0]
        unfold fX5_take
        have hcs2 := c_sgn (p := p + 1) (O := nI 1) (F := Fv) (S := nI (F c + 2 * c + 1)) (A := upd A (F c + 2 * c) 0) h0' (by omega)
        rw [sgz] at hcs2
        rw [hcs2, zb_s, if_pos e40, bnd_e, sk3, ck3, nI_1, zb_s, zb_s, if_neg n10]
        have hCS : CS (zI σ0 L 2 (nI c)) n L q c (F c) (upd A (F c + 2 * c) 0) (mkC (zI σ0 L 2 (nI c)) L q (nI (p + 1 + 1)) (nI 1) Fv (nI (F c + 2 * c + 1)) (upd A (F c + 2 * c) 0)) (p + 1 + 1) 1 cd (F c) := ⟨Fv, _, rfl, fun j _ => rfl, fun i a b => absurd b (by omega), Nat.le_refl _, by omega, by omega, by omega⟩
        rcases (conds h0' 64).1 _ _ _ _ _ hCS (by omega) with ⟨σ2, p2, cd2, k2, x1, x2, ⟨b1, b2, b3, b4⟩, xL, x4, x5⟩ | ⟨σ2, e2, x1, x2, x3⟩
        · rw [sgz] at x4 x5
          rw [x1, zb_s, if_neg n10]
          obtain ⟨hp2, hk2, hk02, -⟩ := CS_n x2
          obtain ⟨t1, t2⟩ := c_closes (o := 0) h0' 41 (by decide) x2
          rw [sgz] at t1 t2
          by_cases e41 : sgn (σ0.1 167) n p2 = 41
          · have hlt2 := sgn_in e41 (by decide)
            obtain ⟨σ3, y1, y2⟩ := t1 e41
            rw [y1, zb_s, if_neg n10]
            have hx := x5 [] _ (RA_end (by omega) e41) zFU (by unfold zFU; omega)
            rw [hx] at hcond
            rcases hcond with ⟨τ', p3, cd3, k3, z1, z2, z3⟩ | ⟨τ', e, z1, z2, z3⟩ | z3
            · have z4 := Sum.inr.inj (Option.some.inj z3)
              obtain ⟨z5, z4⟩ := Prod.mk.inj z4
              obtain ⟨z6, z7⟩ := Prod.mk.inj z4
              subst z5 z6 z7
              obtain ⟨Fv3, A3, rfl, a1, a2, a3, a4, a5, a6⟩ := y2
              obtain ⟨Fm3, V3, Am3, B3, rfl, -, hAm3, -, -, -, -, -⟩ := z2
              have l4 := b4.1
              -- class: the act, the aim, one clause more
              rw [skR, h0'.1.2.1, bnd_e]
              have hadd2 : fX4_add L 1 (nI ac) (mkC (zI σ0 L 2 (nI c)) L q (nI (p2 + 1)) (nI 0) Fv3 (nI (k2 + 2 * c + 1)) A3) = some (nI (k2 + 2 * c + 1), mkC (zI σ0 L 2 (nI c)) L q (nI (p2 + 1)) (nI 0) Fv3 (nI (k2 + 2 * c + 2)) (upd A3 (k2 + 2 * c + 1) (nI (16 * ac + 1)))) := by
                unfold fX4_add
                rw [skS h0', bnd_e, if_neg (nI_pos (by omega)), if_neg (geL 128 (128 : Int32) rfl (by omega) (by omega)), skR, h0'.1.2.2.1, bnd_e, zX_n (by omega) (by omega), cl_n (by omega), show (1 : Int32) = nI 1 from rfl, put4 (by omega) (by omega), ckA h0', bnd_e, ckS h0', bnd_e, nI_add]
              rw [hadd2, zb_s, skR, h0'.1.2.1, bnd_e]
              have hA3 : A3 (F c + 2 * c) = 0 := by rw [a1 _ (by omega), pk_us]
              have haim : fX4_aimHere L (nI (F c + 2 * c)) (mkC (zI σ0 L 2 (nI c)) L q (nI (p2 + 1)) (nI 0) Fv3 (nI (k2 + 2 * c + 2)) (upd A3 (k2 + 2 * c + 1) (nI (16 * ac + 1)))) = some ((), mkC (zI σ0 L 2 (nI c)) L q (nI (p2 + 1)) (nI 0) Fv3 (nI (k2 + 2 * c + 2)) (upd (upd A3 (k2 + 2 * c + 1) (nI (16 * ac + 1))) (F c + 2 * c) (nI (16 * (k2 + 2 * c + 2))))) := by
                unfold fX4_aimHere
                rw [if_neg (nI_pos (by omega)), if_neg (geL 128 (128 : Int32) rfl (by omega) (by omega)), skR, h0'.1.2.2.1, bnd_e, bnd_e, zX_n (by omega) (by omega), cl_n (by omega), skS h0', skA h0', pk_un (by omega), hA3, show (0 : Int32) &&& 15 = nI 0 from rfl, put4 (by omega) (by omega), bnd_e, zX_n (by omega) (by omega), ckA h0', bnd_e]
                rfl
              rw [haim, zb_s, skR, h0'.1.2.1, bnd_e, skL2 h0, nI_1, ckL2 h0, bnd_e]
              -- reference: where it ends, one clause more
              rw [z1, zb_s, if_neg n10, rkR]
              have hr3 : mR (zI (zI τc 10 c (sgn (σ0.1 167) n p)) 11 c (nI (F c))).2 := hr
              rw [mm24 hr3, bnd_e, rk18, hb2.2.2.2.1, zX_n (show c < 12 by omega) (by omega), bnd_e, cl_n (by omega), rk16, mkzA (by omega) (by omega) (by omega), bnd_e, rk18, zI_ne (show (0 : Nat) ≠ 12 by omega), hb2.2.2.2.1, nI_1, mkz18]
              have hFc : ∀ j, j ≤ c → uN F (c + 1) k2 j = F j := fun j hj => uN_o (by omega)
              refine Or.inl ⟨_, _, p2 + 1, uN F (c + 1) k2, cd2, uN lt c lw, rfl, rfl, ⟨⟨Fv3, _, by rw [uN_s, show k2 + 2 * (c + 1) = k2 + 2 * c + 2 by omega], ?_⟩, ⟨_, Fm3, nI 0, nI ([] : List Nat).length, V3, Am3, B3, by rw [uN_s], by rw [uN_s]; exact hAm3, ?_⟩, ?_, by rw [uN_o (by omega)]; exact hF0, by rw [uN_s]; omega, by omega, by omega⟩, by omega⟩
              · -- the class's steps
                intro j hj
                by_cases ej : j = c
                · subst ej
                  rw [hFc j (by omega), uN_s, uN_s]
                  refine ⟨by rw [pk_us], ?_, fun i i1 i2 => ?_⟩
                  · rw [pk_un (by omega), pk_us]
                    rcases hla with ⟨rfl, rfl⟩ | ⟨rfl, rfl⟩ <;> rfl
                  · rw [pk_un (by omega), pk_un (by omega)]
                    exact a2 i i1 i2
                · obtain ⟨q1, q2, q3⟩ := hA j (by omega)
                  have hj2 := (hS j (by omega)).2.2.2
                  have hSj := (hS j (by omega)).1.1
                  rw [hFc j (by omega), hFc (j + 1) (by omega), uN_o ej]
                  have keepA : ∀ u, u < F c + 2 * c → (upd (upd A3 (k2 + 2 * c + 1) (nI (16 * ac + 1))) (F c + 2 * c) (nI (16 * (k2 + 2 * c + 2)))) u = A u := fun u hu => by
                    rw [pk_un (by omega), pk_un (by omega), a1 u (by omega), pk_un (by omega)]
                  refine ⟨by rw [keepA _ (by omega)]; exact q1, by rw [keepA _ (by omega)]; exact q2, fun i i1 i2 => ?_⟩
                  rw [keepA _ (by omega), b3 i (by omega)]
                  exact q3 i i1 i2
              · -- the reference's rows
                obtain ⟨c1, c2, c3, c4, c5⟩ := hb
                refine ⟨c1, fun a a0 a10 a11 a12 => by rw [zI_ne a0, zI_ne a12, zI_ne a11, zI_ne a10]; exact c2 a a0 a10 a11 a12, fun b hb => by rw [zI_o (by omega), zI_ne (by omega), zI_ne (by omega), zI_ne (by omega)]; exact c3 b hb, zI_s, fun j hj => ?_⟩
                rw [zI_ne (show (10 : Nat) ≠ 0 by omega), zI_ne (show (11 : Nat) ≠ 0 by omega), zI_ne (show (12 : Nat) ≠ 0 by omega), zI_ne (show (10 : Nat) ≠ 12 by omega), zI_ne (show (11 : Nat) ≠ 12 by omega), zI_ne (show (10 : Nat) ≠ 11 by omega)]
                by_cases ej : j = c
                · subst ej
                  rw [zI_s, zI_s, zI_s, hFc j (by omega), uN_s, uN_s]
                  exact ⟨hsg, rfl, rfl⟩
                · rw [zI_o (by omega), zI_o (by omega), zI_o (by omega), zI_o (by omega), zI_o (by omega), zI_o (by omega), hFc j (by omega), hFc (j + 1) (by omega), uN_o ej]
                  exact c5 j (by omega)
              · intro j hj
                rw [uN_s]
                by_cases ej : j = c
                · subst ej
                  rw [hFc j (by omega), uN_s, uN_s]
                  exact ⟨b4, xL, by omega, by omega⟩
                · obtain ⟨q1, q2, q3, q4⟩ := hS j (by omega)
                  have hq1 := q1.1
                  rw [hFc j (by omega), hFc (j + 1) (by omega), uN_o ej]
                  refine ⟨SEG_c q1 (fun i _ i2 => b3 i (by omega)), ⟨q2.1, ?_, ?_⟩, q3, by omega⟩
                  · rw [b3 _ (by omega)]; exact q2.2.1
                  · rw [b3 _ (by omega)]; exact q2.2.2
            · cases z3
            · cases z3
          · obtain ⟨σ3, y1, y2⟩ := t2 e41
            rw [y1, zb_s, if_pos rfl]
            have hx := x5 [] _ (RA_no (by omega) e41 x4.1 x4.2) zFU (by unfold zFU; omega)
            rw [hx] at hcond
            rcases hcond with ⟨τ', p3, cd3, k3, z1, z2, z3⟩ | ⟨τ', e, z1, z2, z3⟩ | z3
            · cases z3
            · have z4 : 1000 + p2 = e := Sum.inl.inj (Option.some.inj z3)
              subst z4
              rw [z1, zb_s, if_pos rfl]
              exact Or.inr ⟨σ3, τ', _, rfl, rfl, ⟨c, y2⟩, ⟨_, c, F, lt, hb2, z2⟩⟩
            · cases z3
        · rw [sgz] at x3
          rw [x1, zb_s, if_pos rfl]
          have hx := x3 [] zFU (by unfold zFU; omega)
          rw [hx] at hcond
          rcases hcond with ⟨τ', p3, cd3, k3, z1, z2, z3⟩ | ⟨τ', e, z1, z2, z3⟩ | z3
          · cases z3
          · have z4 : e2 = e := Sum.inl.inj (Option.some.inj z3)
            subst z4
            rw [z1, zb_s, if_pos rfl]
            exact Or.inr ⟨σ2, τ', _, rfl, rfl, ⟨c, x2⟩, ⟨_, c, F, lt, hb2, z2⟩⟩
          · cases z3
      · rw [if_neg e40] at hcond
        rw [if_neg e40, sk4, bnd_e, ck4, show nI 0 + 1 = nI 1 from nI_1 0]
        unfold fX5_take
        have hcs2 := c_sgn (p := p + 1) (O := nI 1) (F := Fv) (S := nI (F c + 2 * c + 1)) (A := upd A (F c + 2 * c) 0) h0' (by omega)
        rw [sgz] at hcs2
        rw [hcs2, zb_s, if_neg e40]
        unfold fX5_wrong
        rw [bnd_e, ck5, zb_s, zb_s, zb_s, if_pos rfl]
        rcases hcond with ⟨τ', p3, cd3, k3, z1, z2, z3⟩ | ⟨τ', e, z1, z2, z3⟩ | z3
        · cases z3
        · have z4 : 1000 + (p + 1) = e := Sum.inl.inj (Option.some.inj z3)
          subst z4
          rw [z1, zb_s, if_pos rfl]
          exact Or.inr ⟨_, τ', _, rfl, rfl, ⟨c, p + 1, 1, F c + 2 * c + 1, nI 1, _, rfl, by omega, by omega, by omega⟩, ⟨_, c, F, lt, hb2, z2⟩⟩
        · cases z3
  unfold fX5_clause fX7_readsClause
  rw [hcs, zb_s, hms, zb_s]
  by_cases e1 : sgn (σ0.1 167) n p = 99
  · rw [if_pos e1, if_pos e1]
    exact go 99 1 (Or.inl ⟨rfl, rfl⟩) e1
  · rw [if_neg e1, if_neg e1, hcs, zb_s, hms, zb_s]
    by_cases e2 : sgn (σ0.1 167) n p = 104
    · rw [if_pos e2, if_pos e2]
      exact go 104 2 (Or.inr ⟨rfl, rfl⟩) e2
    · rw [if_neg e2, if_neg e2]
      unfold bX5_clause_27
      rw [if_pos rfl, rk12]
      obtain ⟨σ', τ', w1, w2, w3, w4⟩ := bad 1 (by omega) (by omega)
      rw [show (1 : Int32) = nI 1 from rfl, w1, w2]
      exact Or.inr ⟨σ', τ', _, rfl, rfl, w3, w4⟩
end
