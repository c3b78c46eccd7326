theorem cLaws_s {X : Nat → Bool} {σ σ' : zS} {co cm lt fr to_ : Nat → Int32} (h : cSm X σ σ') (hX : ∀ a, 156 ≤ a → a ≤ 166 → X a = false) (hl : cLaws σ co cm lt fr to_) : cLaws σ' co cm lt fr to_ := by
  intro j hj
  obtain ⟨m, hm, h1, h2⟩ := hl j hj
  exact ⟨m, hm, by rw [h.2 156 j (by omega)]; exact h1, by rw [h.1 (158 + 2 * m) (hX _ (by omega) (by omega)), h.1 (157 + 2 * m) (hX _ (by omega) (by omega))]; exact h2⟩
theorem c_hs1 {σ : zS} {E Bi N t : Nat} (e1 : σ.2 E 1 = Bi) (hN : σ.1 Bi 0 = nI N) (hN2 : N ≤ 40) (ht : t < N) : fX3_hasSecond E (nI t) σ = some (1, σ) := by
  unfold fX3_hasSecond
  rw [if_neg (nI_pos (by omega)), bnd_e, e1, hN, if_neg (nI_ge ht (by omega)), if_neg (geL 40 (40 : Int32) rfl (show t < 40 by omega) (by omega))]
theorem c_hs0 {σ : zS} {E Bi N : Nat} (e1 : σ.2 E 1 = Bi) (hN : σ.1 Bi 0 = nI N) (hN1 : 1 ≤ N) (hN2 : N ≤ 40) {v : Int32} (hv : ¬ ok v 0 (nI (N - 1))) : fX3_hasSecond E v σ = some (0, σ) := by
  unfold fX3_hasSecond
  by_cases h : v < 0
  · rw [if_pos h]
  · rw [if_neg h, bnd_e, e1, hN]
    by_cases h2 : nI N ≤ v
    · rw [if_pos h2]
    · exact absurd ⟨h, fun q => h2 (by
        obtain ⟨j, hj, rfl⟩ := nI_of h
        rw [nI_ltI (by omega) hj] at q
        exact nI_le (by omega) hj)⟩ hv
theorem c_sh1 {σ : zS} {E Bi Cl N t : Nat} (e1 : σ.2 E 1 = Bi) (e2 : σ.2 E 2 = Cl) (hN : σ.1 Bi 0 = nI N) (hN2 : N ≤ 40) (ht : t < N) : fX3_showing E (nI t) 1 σ = some (σ.1 Cl t, σ) := by
  unfold fX3_showing
  rw [c_hs1 e1 hN hN2 ht, zb_s, if_neg n10, if_pos rfl, bnd_e, e2, zX_n (by omega) (by omega), cl_n (by omega)]
theorem c_sh2 {σ : zS} {E Bi Hi N t : Nat} (e1 : σ.2 E 1 = Bi) (e3 : σ.2 E 3 = Hi) (hN : σ.1 Bi 0 = nI N) (hN2 : N ≤ 40) (ht : t < N) : fX3_showing E (nI t) 2 σ = some (σ.1 Hi t, σ) := by
  unfold fX3_showing
  rw [c_hs1 e1 hN hN2 ht, zb_s, if_neg n10, if_neg (by decide), bnd_e, e3, zX_n (by omega) (by omega), cl_n (by omega)]
theorem c_cla {σ : zS} {E Bi Cl N t : Nat} {p : Nat → Bool} (e1 : σ.2 E 1 = Bi) (e2 : σ.2 E 2 = Cl) (hN : σ.1 Bi 0 = nI N) (hN2 : N ≤ 40) (ht : t < N) (hp : bs (σ.1 Cl t) p) : fX3_clapping E (nI t) σ = some (nI (cn p 24), σ) := by
  unfold fX3_clapping
  rw [c_sh1 e1 e2 hN hN2 ht, zb_s, f_bc hp, zb_s]
theorem c_his {σ : zS} {E Bi Hi N t : Nat} {p : Nat → Bool} (e1 : σ.2 E 1 = Bi) (e3 : σ.2 E 3 = Hi) (hN : σ.1 Bi 0 = nI N) (hN2 : N ≤ 40) (ht : t < N) (hp : bs (σ.1 Hi t) p) : fX3_hissing E (nI t) σ = some (nI (cn p 24), σ) := by
  unfold fX3_hissing
  rw [c_sh2 e1 e3 hN hN2 ht, zb_s, f_bc hp, zb_s]
theorem c_put {σ : zS} {E Bi Cl Hi N t : Nat} {x y : Int32} {p q : Nat → Bool} (e1 : σ.2 E 1 = Bi) (e2 : σ.2 E 2 = Cl) (e3 : σ.2 E 3 = Hi) (d1 : ¬ Bi = Cl) (d2 : ¬ Bi = Hi) (d3 : ¬ Cl = Hi) (d4 : ¬ E = Cl) (d5 : ¬ E = Hi) (hN : σ.1 Bi 0 = nI N) (hN2 : N ≤ 40) (ht : t < N) (hx : bs x p) (hy : bs y q) : fX3_put E (nI t) x y σ = some ((), zI (zI (zI σ Cl t x) Hi t y) E 4 (σ.1 E 4 + (nI (cn p 24) - nI (cn q 24)))) := by
  unfold fX3_put
  rw [c_hs1 e1 hN hN2 ht, zb_s, if_neg n10, bnd_e, e2, zX_n (by omega) (by omega), bnd_e, cl_n (by omega), bnd_e, zI_2, e3, zX_n (by omega) (by omega), bnd_e]
  have hb : (zI (zI σ Cl t x) Hi t y).1 Bi 0 = nI N := by rw [zI_ne d2, zI_ne d1]; exact hN
  rw [c_cla (σ := zI (zI σ Cl t x) Hi t y) (p := p) e1 e2 hb hN2 ht (by rw [zI_ne d3, zI_s]; exact hx), zb_s, c_his (σ := zI (zI σ Cl t x) Hi t y) (p := q) e1 e3 hb hN2 ht (by rw [zI_s]; exact hy), zb_s, bnd_e, zI_ne d5, zI_ne d4]
/-! ===== values of acts ===== -/
theorem aBy_v (co lt fr to_ : Nat → Int32) (j : Nat) (φ : Nat → Int32) : ∀ n c, aBy co lt fr to_ j φ n c = 0 ∨ aBy co lt fr to_ j φ n c = 1 ∨ aBy co lt fr to_ j φ n c = 2
  | 0, _ => Or.inl rfl
  | n + 1, c => by
    show (if _ then _ else _) = (0 : Int32) ∨ (if _ then _ else _) = (1 : Int32) ∨ (if _ then _ else _) = (2 : Int32)
    have ih := aBy_v co lt fr to_ j φ n (c + 1)
    repeat' split
    · exact Or.inr (Or.inl rfl)
    · exact Or.inr (Or.inr rfl)
    · exact ih
theorem lawV_v (co cm lt fr to_ : Nat → Int32) (so : Int32) (φ : Nat → Int32) : lawV co cm lt fr to_ so φ = 0 ∨ lawV co cm lt fr to_ so φ = 1 ∨ lawV co cm lt fr to_ so φ = 2 := aBy_v _ _ _ _ _ _ _ _
theorem act_ok {w : Nat} {so kn hi gk go pl : Nat → Int32} {lw : Int32 → (Nat → Int32) → Int32} {B : Nat → Bool} {prev : Nat → Int32} {t : Nat} {f g : Nat → Int32} (hlw : ∀ a b, lw a b = 0 ∨ lw a b = 1 ∨ lw a b = 2) (hpl : pPlan f g pl) (hhi : ∀ q, q < 24 → hi q = 0 ∨ hi q = 1 ∨ hi q = 2) (ht : t < 40) : pOK so (act w so kn hi gk go pl lw B prev t) := by
  intro q hq
  refine ⟨?_, fun h => by unfold act; rw [if_pos h]⟩
  unfold act
  obtain ⟨p1, p2, p3, p4⟩ := hpl t ht
  by_cases c1 : so q = -1
  · rw [if_pos c1]; exact Or.inl rfl
  · by_cases c2 : t = 0 ∧ B q = true
    · rw [if_neg c1, if_pos c2]; exact Or.inr (Or.inl rfl)
    · rw [if_neg c1, if_neg c2]
      rcases hhi q hq with h | h | h
      · rw [if_pos h]; exact hlw _ _
      · rw [if_neg (show ¬ hi q = 0 by rw [h]; decide), h, show (1 : Int32).toNatClampNeg = 1 from by decide, show 40 * 1 + t = 40 + t by omega, ← p1]; exact p3
      · rw [if_neg (show ¬ hi q = 0 by rw [h]; decide), h, show (2 : Int32).toNatClampNeg = 2 from by decide, show 40 * 2 + t = 80 + t by omega, ← p2]; exact p4
theorem shw_ok {w : Nat} {so kn hi gk go pl : Nat → Int32} {lw : Int32 → (Nat → Int32) → Int32} {B : Nat → Bool} {f g : Nat → Int32} (hlw : ∀ a b, lw a b = 0 ∨ lw a b = 1 ∨ lw a b = 2) (hpl : pPlan f g pl) (hhi : ∀ q, q < 24 → hi q = 0 ∨ hi q = 1 ∨ hi q = 2) : ∀ t, t < 40 → pOK so (shw w so kn hi gk go pl lw B t)
  | 0, ht => act_ok hlw hpl hhi ht
  | t + 1, ht => act_ok hlw hpl hhi ht
def pv (f : Nat → Nat → Int32) (t : Nat) : Nat → Int32 := if t = 0 then fun _ => 0 else f (t - 1)
theorem shw_act (w : Nat) (so kn hi gk go pl : Nat → Int32) (lw : Int32 → (Nat → Int32) → Int32) (B : Nat → Bool) (t : Nat) : shw w so kn hi gk go pl lw B t = act w so kn hi gk go pl lw B (pv (shw w so kn hi gk go pl lw B) t) t := by
  cases t with
  | zero => rfl
  | succ t => rfl
/-- an evening's arrays tell f up to second N -/
def evB (f : Nat → Nat → Int32) (N : Nat) (cl hi : Nat → Int32) : Prop := ∀ t, t < N → bs (cl t) (fun q => decide (f t q = 1)) ∧ bs (hi t) (fun q => decide (f t q = 2))
def evn (E Cr Cl Hi : Nat) : Prop := (E = 1 ∧ Cr = 5 ∧ Cl = 6 ∧ Hi = 7) ∨ (E = 8 ∧ Cr = 9 ∧ Cl = 10 ∧ Hi = 11)
def XE (E Cl Hi : Nat) : Nat → Bool := fun a => decide (a = E ∨ a = Cl ∨ a = Hi ∨ a = 153 ∨ a = 154 ∨ a = 155)
theorem XE_t {E Cl Hi a : Nat} (h : a = E ∨ a = Cl ∨ a = Hi ∨ a = 153 ∨ a = 154 ∨ a = 155) : XE E Cl Hi a = true := decide_eq_true h
theorem XE_f {E Cl Hi a : Nat} (h : ¬ (a = E ∨ a = Cl ∨ a = Hi ∨ a = 153 ∨ a = 154 ∨ a = 155)) : XE E Cl Hi a = false := decide_eq_false h
theorem X3_f {a : Nat} (h : ¬ a = 153 ∧ ¬ a = 155) : X3 a = false := by simp [X3, h.1, h.2]
theorem sum_s (a b c : Int32) : a + (b - c) = a + b - c := by rw [Int32.sub_eq_add_neg, Int32.sub_eq_add_neg, Int32.add_assoc]
theorem act_B {w : Nat} {so kn hi gk go pl : Nat → Int32} {lw : Int32 → (Nat → Int32) → Int32} {B : Nat → Bool} {prev : Nat → Int32} {t q : Nat} : act w so kn hi gk go pl lw B prev t q = if ¬ so q = -1 ∧ t = 0 ∧ B q = true then 1 else Dq w so kn hi gk go pl lw prev t q := by
  unfold Dq act
  by_cases h1 : so q = -1
  · simp [h1]
  · by_cases h2 : t = 0 ∧ B q = true
    · simp [h1, h2]
    · have h3 : ¬ (¬ so q = -1 ∧ t = 0 ∧ B q = true) := fun z => h2 z.2
      have h4 : ¬ (t = 0 ∧ (fun _ : Nat => false) q = true) := fun z => by cases z.2
      rw [if_neg h3, if_neg h1, if_neg h2, if_neg h1, if_neg h4]
theorem c_play_13 {co cm lt fr to_ : Nat → Int32} {σ : zS} (hR : cR σ.2) (hl : cLaws σ co cm lt fr to_) {E Cr Cl Hi : Nat} (hE : evn E Cr Cl Hi) {w : Nat} {so kn hi gk go pl : Nat → Int32} (hc : pCrowd (σ.1 Cr) (nI w) so kn hi) (hw1 : 4 ≤ w) (hw2 : w ≤ 8) (hg : ∀ t, t < 40 → σ.1 3 t = gk t ∧ σ.1 4 t = go t) (hpl : pPlan (σ.1 169) (σ.1 170) pl) {N : Nat} (hN1 : 1 ≤ N) (hN2 : N ≤ 40) (hN : σ.1 2 0 = nI N) (v2 : Int32) (B : Nat → Bool) (hB : bs v2 B) (hB2 : ∀ q, q < 24 → B q = true → ¬ so q = -1) :
    ∀ (n t : Nat) (x y : Int32) (σc : zS), t ≤ N → N < t + n → cSm (XE E Cl Hi) σ σc → cCa σc → evB (shw w so kn hi gk go pl (lawV co cm lt fr to_) B) t (σc.1 Cl) (σc.1 Hi) → σc.1 E 4 = loudN (shw w so kn hi gk go pl (lawV co cm lt fr to_) B) t → bs x (fun q => decide (pv (shw w so kn hi gk go pl (lawV co cm lt fr to_) B) t q = 1)) → bs y (fun q => decide (pv (shw w so kn hi gk go pl (lawV co cm lt fr to_) B) t q = 2)) →
    ∃ σ', fX6_play_13 n 0 E v2 x y (nI t) σc = some ((), σ') ∧ cSm (XE E Cl Hi) σ σ' ∧ cCa σ' ∧ evB (shw w so kn hi gk go pl (lawV co cm lt fr to_) B) N (σ'.1 Cl) (σ'.1 Hi) ∧ σ'.1 E 4 = loudN (shw w so kn hi gk go pl (lawV co cm lt fr to_) B) N := by
  have hhi : ∀ q, q < 24 → hi q = 0 ∨ hi q = 1 ∨ hi q = 2 := fun q hq => (cr_pa hc hq).1
  have hok : ∀ t, t < 40 → pOK so (shw w so kn hi gk go pl (lawV co cm lt fr to_) B t) := shw_ok (fun a b => lawV_v co cm lt fr to_ a b) hpl hhi
  have hact := shw_act w so kn hi gk go pl (lawV co cm lt fr to_) B
  generalize hf : shw w so kn hi gk go pl (lawV co cm lt fr to_) B = f at *
  intro n
  induction n with
  | zero => intro t x y σc a b; exact absurd b (by omega)
  | succ n ih =>
    intro t x y σc a b hS hca hev hsum hx hy
    show ∃ σ', bX6_play_13 (fX6_play_13 n) 0 E v2 x y (nI t) σc = some ((), σ') ∧ _
    unfold bX6_play_13
    have hR' : cR σc.2 := hS.R hR
    have e0 : ∀ r, cR r → r E 0 = Cr := fun r h => by
      rcases hE with ⟨rfl, rfl, rfl, rfl⟩ | ⟨rfl, rfl, rfl, rfl⟩
      · exact cr_ h 1 0 5 rfl (by decide)
      · exact cr_ h 8 0 9 rfl (by decide)
    have e1 : ∀ r, cR r → r E 1 = 2 := fun r h => by
      rcases hE with ⟨rfl, rfl, rfl, rfl⟩ | ⟨rfl, rfl, rfl, rfl⟩
      · exact cr_ h 1 1 2 rfl (by decide)
      · exact cr_ h 8 1 2 rfl (by decide)
    have e2 : ∀ r, cR r → r E 2 = Cl := fun r h => by
      rcases hE with ⟨rfl, rfl, rfl, rfl⟩ | ⟨rfl, rfl, rfl, rfl⟩
      · exact cr_ h 1 2 6 rfl (by decide)
      · exact cr_ h 8 2 10 rfl (by decide)
    have e3 : ∀ r, cR r → r E 3 = Hi := fun r h => by
      rcases hE with ⟨rfl, rfl, rfl, rfl⟩ | ⟨rfl, rfl, rfl, rfl⟩
      · exact cr_ h 1 3 7 rfl (by decide)
      · exact cr_ h 8 3 11 rfl (by decide)
    have dj : E < 13 ∧ Cr < 13 ∧ Cl < 13 ∧ Hi < 13 ∧ ¬ Cr = E ∧ ¬ Cr = Cl ∧ ¬ Cr = Hi ∧ ¬ 2 = E ∧ ¬ 2 = Cl ∧ ¬ 2 = Hi ∧ ¬ 3 = E ∧ ¬ 3 = Cl ∧ ¬ 3 = Hi ∧ ¬ 4 = E ∧ ¬ 4 = Cl ∧ ¬ 4 = Hi ∧ ¬ Cl = Hi ∧ ¬ E = Cl ∧ ¬ E = Hi := by
      rcases hE with ⟨rfl, rfl, rfl, rfl⟩ | ⟨rfl, rfl, rfl, rfl⟩ <;> omega
    obtain ⟨d1, d2, d3, d4, d5, d6, d7, d8, d9, d10, d11, d12, d13, d14, d15, d16, d17, d18, d19⟩ := dj
    have q2 : σc.1 2 = σ.1 2 := hS.1 2 (XE_f (by omega))
    rw [bnd_e, e1 _ hR', q2, hN]
    by_cases htN : t = N
    · subst htN
      rw [if_pos (nI_le (Nat.le_refl _) (by omega))]
      exact ⟨σc, rfl, hS, hca, hev, hsum⟩
    · have ht : t < N := by omega
      rw [if_neg (nI_ge ht (by omega)), if_neg (geL 40 (40 : Int32) rfl (show t < 40 by omega) (by omega)), bnd_e, cr_ hR' 0 5 153 rfl (by decide)]
      have hpp : pOK so (pv f t) := by
        unfold pv
        by_cases h : t = 0
        · rw [if_pos h]; exact fun q _ => ⟨Or.inl rfl, fun _ => rfl⟩
        · rw [if_neg h]; exact hok (t - 1) (by omega)
      obtain ⟨σ1, s1, s2, s3⟩ := c_stand (σ := σc) (E := E) (Cr := Cr) (Bi := 2) (Fk := 3) (Fo := 4) (w := w) (so := so) (kn := kn) (hi := hi) (prev := pv f t) (t := t) x y (by omega) (e0 _ hR') (e1 _ hR') (cr_ hR' 2 1 3 rfl (by decide)) (cr_ hR' 2 2 4 rfl (by decide)) (by omega) (by omega) (by omega) (by omega) (cr_ hR' 153 0 154 rfl (by decide)) (cr_ hR' 153 1 155 rfl (by decide)) (by rw [hS.1 Cr (XE_f (by omega))]; exact hc) hw1 hw2 (by omega) hca hx hy hpp
      rw [hS.1 3 (XE_f (by omega)), hS.1 4 (XE_f (by omega)), (hg t (by omega)).1, (hg t (by omega)).2] at s3
      have hS1 : cSm (XE E Cl Hi) σ σ1 := hS.tr (s2.up (fun k q => by
        have q := of_decide_eq_false q
        exact X3_f (by omega)))
      have hR1 : cR σ1.2 := hS1.R hR
      have hc1 : pCrowd (σ1.1 Cr) (nI w) so kn hi := s3.2.1
      have p169 : σ1.1 169 = σ.1 169 := hS1.1 169 (XE_f (by omega))
      have p170 : σ1.1 170 = σ.1 170 := hS1.1 170 (XE_f (by omega))
      obtain ⟨b1, hb1, hb1'⟩ := c_bought hR1 hc1 (t := t) (by omega) 1
      obtain ⟨b2, hb2, hb2'⟩ := c_bought hR1 hc1 (t := t) (by omega) 2
      rw [s1, zb_s, bnd_e, e0 _ hR1, hb1, zb_s, bnd_e, e0 _ hR1, hb2, zb_s, bnd_e, e0 _ hR1, c_unpaid, zb_s]
      obtain ⟨pp1, pp2, -, -⟩ := hpl t (by omega)
      have hbq : ∀ v : Int32, ∀ q, q < 24 → ((decide (σ1.1 169 t = v) && decide (hi q = 1)) || (decide (σ1.1 170 t = v) && decide (hi q = 2))) = (decide (Dq w so kn hi gk go pl (lawV co cm lt fr to_) (pv f t) t q = v) && (decide (q < 0) || decide (¬ hi q = 0))) := by
        intro v q hq
        rw [p169, p170, pp1, pp2]
        by_cases hso : so q = -1
        · rw [(cr_pa hc hq).2 hso]; simp
        · rcases hhi q hq with h | h | h
          · rw [h]; simp
          · rw [Dq_p hso (by rw [h]; decide), h, show (1 : Int32).toNatClampNeg = 1 from by decide, show 40 * 1 + t = 40 + t by omega]
            simp
          · rw [Dq_p hso (by rw [h]; decide), h, show (2 : Int32).toNatClampNeg = 2 from by decide, show 40 * 2 + t = 80 + t by omega]
            simp
      have hl1 : cLaws σ1 co cm lt fr to_ := cLaws_s hS1 (fun a h1 h2 => XE_f (by omega)) hl
      obtain ⟨x', y', A', hx', hy', h82⟩ := c_play_82 (fX6_play_13 n) (σ := σ1) hR1 hl1 (E := E) (Cr := Cr) (w := w) (so := so) (kn := kn) (hi := hi) (gk := gk) (go := go) (pl := pl) (prev := pv f t) (t := t) s3 (by omega) (e0 _ hR1) v2 _ (cr_un hc1) zFU 0 b1 b2 (σ1.1 154) (by omega) (by unfold zFU; omega) (bs_c hb1' (hbq 1)) (bs_c hb2' (hbq 2))
      rw [zA1_self] at h82
      rw [show (0 : Int32) = nI 0 from rfl, h82]
      -- the second is told
      have hft : ∀ q, f t q = if ¬ so q = -1 ∧ t = 0 ∧ B q = true then 1 else Dq w so kn hi gk go pl (lawV co cm lt fr to_) (pv f t) t q := by
        intro q
        rw [hact t]
        exact act_B
      have fin : ∀ x y : Int32, bs x (fun q => decide (f t q = 1)) → bs y (fun q => decide (f t q = 2)) → ∃ σ', bX6_play_178 (fX6_play_13 n) 0 E v2 x y (nI t) (zA1 σ1 154 A') = some ((), σ') ∧ cSm (XE E Cl Hi) σ σ' ∧ cCa σ' ∧ evB f N (σ'.1 Cl) (σ'.1 Hi) ∧ σ'.1 E 4 = loudN f N := by
        intro x y hx hy
        unfold bX6_play_178
        have hS2 : cSm (XE E Cl Hi) σ (zA1 σ1 154 A') := hS1.a (XE_t (by omega))
        have hR2 : cR (zA1 σ1 154 A').2 := hR1
        rw [c_put (σ := zA1 σ1 154 A') (E := E) (Bi := 2) (Cl := Cl) (Hi := Hi) (N := N) (e1 _ hR2) (e2 _ hR2) (e3 _ hR2) d9 d10 d17 d18 d19 (by rw [hS2.1 2 (XE_f (by omega))]; exact hN) hN2 ht hx hy, zb_s, nI_1]
        have hE4 : (zA1 σ1 154 A').1 E 4 = loudN f t := by
          rw [zA1_o (by omega), s2.1 E (X3_f (by omega))]; exact hsum
        rw [hE4, sum_s]
        refine ih (t + 1) x y _ (by omega) (by omega) (((hS2.i (XE_t (by omega))).i (XE_t (by omega))).i (XE_t (by omega))) ?_ ?_ ?_ (by unfold pv; rw [if_neg (by omega)]; exact hx) (by unfold pv; rw [if_neg (by omega)]; exact hy)
        · have hca2 := std_Ca s3
          unfold cCa
          rw [zI_ne (by omega), zI_ne (by omega), zI_ne (by omega), zA1_o (by omega), zI_ne (by omega), zI_ne (by omega), zI_ne (by omega), zA1_o (by omega)]
          exact hca2
        · intro t' ht'
          by_cases e : t' = t
          · subst e
            rw [zI_ne (by omega), zI_ne (by omega), zI_s, zI_ne (by omega), zI_s]
            exact ⟨hx, hy⟩
          · rw [zI_ne (by omega), zI_ne (by omega), zI_o (by omega), zI_ne (by omega), zI_o (by omega), zI_ne (by omega), zA1_o (by omega), zA1_o (by omega), s2.1 Cl (X3_f (by omega)), s2.1 Hi (X3_f (by omega))]
            exact hev t' (by omega)
        · rw [zI_s]
          rfl
      unfold bX6_play_161
      by_cases ht0 : t = 0
      · rw [if_pos (by rw [ht0]; rfl), bnd_e, bnd_e]
        refine fin _ _ (bs_c (bs_or hx' hB) (fun q hq => ?_)) (bs_c (bs_but hy' hB) (fun q hq => ?_))
        · rw [hft q]
          by_cases hb : B q = true
          · rw [if_pos ⟨hB2 q hq hb, ht0, hb⟩, hb]; simp
          · rw [if_neg (fun z => hb z.2.2), Bool.eq_false_iff.mpr hb, Bool.or_false]
        · rw [hft q]
          by_cases hb : B q = true
          · rw [if_pos ⟨hB2 q hq hb, ht0, hb⟩, hb]; simp
          · rw [if_neg (fun z => hb z.2.2), Bool.eq_false_iff.mpr hb, Bool.not_false, Bool.and_true]
      · rw [if_neg (nI_ne0 (by omega) (by omega))]
        refine fin _ _ (bs_c hx' (fun q hq => ?_)) (bs_c hy' (fun q hq => ?_))
        · rw [hft q, if_neg (fun z => ht0 z.2.1)]
        · rw [hft q, if_neg (fun z => ht0 z.2.1)]
theorem c_play {co cm lt fr to_ : Nat → Int32} {σ : zS} (hR : cR σ.2) (hl : cLaws σ co cm lt fr to_) {E Cr Cl Hi : Nat} (hE : evn E Cr Cl Hi) {w : Nat} {so kn hi gk go pl : Nat → Int32} (hc : pCrowd (σ.1 Cr) (nI w) so kn hi) (hw1 : 4 ≤ w) (hw2 : w ≤ 8) (hg : ∀ t, t < 40 → σ.1 3 t = gk t ∧ σ.1 4 t = go t) (hpl : pPlan (σ.1 169) (σ.1 170) pl) {N : Nat} (hN1 : 1 ≤ N) (hN2 : N ≤ 40) (hN : σ.1 2 0 = nI N) (hca : cCa σ) (v2 : Int32) (B : Nat → Bool) (hB : bs v2 B) (hB2 : ∀ q, q < 24 → B q = true → ¬ so q = -1) :
    ∃ σ', fX6_play 0 E v2 σ = some ((), σ') ∧ cSm (XE E Cl Hi) σ σ' ∧ cCa σ' ∧ evB (shw w so kn hi gk go pl (lawV co cm lt fr to_) B) N (σ'.1 Cl) (σ'.1 Hi) ∧ σ'.1 E 4 = loudN (shw w so kn hi gk go pl (lawV co cm lt fr to_) B) N := by
  unfold fX6_play
  rw [bnd_e]
  have dj : ¬ E = 153 ∧ ¬ E = 155 ∧ ¬ E = 154 ∧ ¬ 155 = E ∧ ¬ 153 = E := by
    rcases hE with ⟨rfl, rfl, rfl, rfl⟩ | ⟨rfl, rfl, rfl, rfl⟩ <;> omega
  refine c_play_13 hR hl hE hc hw1 hw2 hg hpl hN1 hN2 hN v2 B hB hB2 zFU 0 0 0 _ (by omega) (by unfold zFU; omega) ((cSm.rf _ σ).i (XE_t (Or.inl rfl))) ?_ (fun t ht => absurd ht (by omega)) (by rw [zI_s]; rfl) ?_ ?_
  · unfold cCa
    rw [zI_ne (by omega), zI_ne (by omega)]
    exact hca
  · exact bs_c bs_0 (fun q _ => by unfold pv; rw [if_pos rfl]; decide)
  · exact bs_c bs_0 (fun q _ => by unfold pv; rw [if_pos rfl]; decide)
