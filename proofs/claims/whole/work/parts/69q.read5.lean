section
/-! ===== the class reads: its store ===== -/
def mkC (σ0 : zS) (L q : Nat) (P O F S : Int32) (A : Nat → Int32) : zS := (fun a b => if a = 168 then (if b = 3 then P else if b = 4 then O else if b = 5 then F else σ0.1 168 b) else if a = L then (if b = 1 then S else σ0.1 L b) else if a = q then A b else σ0.1 a b, σ0.2)
/-- what stands while a text is read into the law L with its steps q -/
def C0 (σ0 : zS) (n L q : Nat) : Prop := (σ0.2 168 0 = 167 ∧ σ0.2 168 1 = L ∧ σ0.2 L 0 = q ∧ σ0.1 168 2 = nI n ∧ n ≤ 120) ∧ (¬ L = 168 ∧ ¬ q = 168 ∧ ¬ q = L ∧ ¬ 167 = L ∧ ¬ 167 = q)
section
variable {σ0 : zS} {n L q : Nat} {P O F S x : Int32} {A : Nat → Int32} {i : Nat}
theorem ck3 : zI (mkC σ0 L q P O F S A) 168 3 x = mkC σ0 L q x O F S A := by
  show (_, _) = (_, _); congr 1; funext a b; by_cases ha : a = 168
  · subst ha; by_cases hb : b = 3 <;> simp [mkC, hb]
  · simp [mkC, ha]
theorem ck4 : zI (mkC σ0 L q P O F S A) 168 4 x = mkC σ0 L q P x F S A := by
  show (_, _) = (_, _); congr 1; funext a b; by_cases ha : a = 168
  · subst ha; by_cases hb : b = 4 <;> simp [mkC, hb]
  · simp [mkC, ha]
theorem ck5 : zI (mkC σ0 L q P O F S A) 168 5 x = mkC σ0 L q P O x S A := by
  show (_, _) = (_, _); congr 1; funext a b; by_cases ha : a = 168
  · subst ha; by_cases hb : b = 5 <;> simp [mkC, hb]
  · simp [mkC, ha]
theorem ckS (h : C0 σ0 n L q) : zI (mkC σ0 L q P O F S A) L 1 x = mkC σ0 L q P O F x A := by
  obtain ⟨-, h1, h2, h3, -⟩ := h
  show (_, _) = (_, _); congr 1; funext a b; by_cases ha : a = L
  · subst ha; by_cases hb : b = 1 <;> simp [mkC, hb, h1]
  · simp [mkC, ha]
theorem ckA (h : C0 σ0 n L q) : zI (mkC σ0 L q P O F S A) q i x = mkC σ0 L q P O F S (upd A i x) := by
  obtain ⟨-, h1, h2, h3, -⟩ := h
  show (_, _) = (_, _); congr 1; funext a b; by_cases ha : a = q
  · subst ha; by_cases hb : b = i <;> simp [mkC, upd, hb, h2, h3]
  · simp [mkC, ha]
theorem sk3 : (mkC σ0 L q P O F S A).1 168 3 = P := rfl
theorem sk4 : (mkC σ0 L q P O F S A).1 168 4 = O := rfl
theorem sk5 : (mkC σ0 L q P O F S A).1 168 5 = F := rfl
theorem sk2 : (mkC σ0 L q P O F S A).1 168 2 = σ0.1 168 2 := rfl
theorem skR : (mkC σ0 L q P O F S A).2 = σ0.2 := rfl
theorem skS (h : C0 σ0 n L q) : (mkC σ0 L q P O F S A).1 L 1 = S := by
  obtain ⟨-, h1, -⟩ := h
  simp [mkC, h1]
theorem skA (h : C0 σ0 n L q) : (mkC σ0 L q P O F S A).1 q = A := by
  obtain ⟨-, h1, h2, h3, -⟩ := h
  funext b
  simp [mkC, h2, h3]
theorem skT (h : C0 σ0 n L q) : (mkC σ0 L q P O F S A).1 167 = σ0.1 167 := by
  obtain ⟨-, h1, h2, h3, h4, h5⟩ := h
  funext b
  simp [mkC, h4, h5]
end
/-- a step of the class for a code of the reference; a jump that does not know yet whereto has no number -/
def enc (c v : Nat) : Nat := if v = 11534336 then 5 else if v = 12582912 then 6 else 16 * nm c (v / 1048576) (v % 1048576) + kd (v / 1048576)
def CS (σ0 : zS) (n L q c k0 : Nat) (A0 : Nat → Int32) (σ : zS) (p o : Nat) (cd : Nat → Nat) (k : Nat) : Prop := ∃ F A, σ = mkC σ0 L q (nI p) (nI o) F (nI (k + 2 * c + 1)) A ∧ (∀ j, j < k0 + 2 * c + 1 → A j = A0 j) ∧ (∀ i, k0 ≤ i → i < k → A (i + 2 * c + 1) = nI (enc c (cd i))) ∧ k0 ≤ k ∧ k + 2 * c + 2 ≤ p ∧ p ≤ n ∧ o ≤ 6
def CF (σ0 : zS) (L q : Nat) (σ : zS) (e : Nat) : Prop := ∃ pp ff S O A, σ = mkC σ0 L q (nI pp) O (nI ff) (nI S) A ∧ e = 1000 * ff + pp ∧ (pp ≤ 120 ∧ ff ≤ 5) ∧ S ≤ 128
section
variable {σ0 σ : zS} {n L q c k0 p o k : Nat} {A0 : Nat → Int32} {cd : Nat → Nat}
theorem CS_n (h : CS σ0 n L q c k0 A0 σ p o cd k) : p ≤ n ∧ k + 2 * c + 2 ≤ p ∧ k0 ≤ k ∧ o ≤ 6 := by obtain ⟨_, _, -, -, -, h1, h2, h3, h4⟩ := h; exact ⟨h3, h2, h1, h4⟩
theorem c_sign (h0 : C0 σ0 n L q) (h : CS σ0 n L q c k0 A0 σ p o cd k) : fX5_sign 168 σ = some (sgn (σ0.1 167) n p, σ) := by
  obtain ⟨F, A, rfl, -, -, -, -, hp, -⟩ := h
  obtain ⟨r0, r1, r2, h2, hn⟩ := h0.1
  unfold fX5_sign sgn
  rw [sk3, sk2, h2, skR, r0, if_neg (nI_pos (by omega))]
  by_cases e : p < n
  · rw [if_pos e, if_neg (nI_ge e (by omega)), bnd_e, if_neg (geL 500 (500 : Int32) rfl (by omega) (by omega)), bnd_e, zX_n (by omega) (by omega), cl_n (by omega), skT h0]
  · rw [if_neg e, if_pos (nI_le (by omega) (by omega))]
theorem c_wrong (h0 : C0 σ0 n L q) (f : Nat) (h : CS σ0 n L q c k0 A0 σ p o cd k) (hf : f ≤ 5 := by omega) : ∃ σ', fX5_wrong 168 (nI f) σ = some (0, σ') ∧ CF σ0 L q σ' (1000 * f + p) := by
  obtain ⟨F, A, rfl, -, -, h1, h2, hp, -⟩ := h
  have hn := h0.1.2.2.2.2
  unfold fX5_wrong
  rw [bnd_e, ck5]
  exact ⟨_, rfl, p, f, k + 2 * c + 1, nI o, A, rfl, rfl, ⟨by omega, hf⟩, by omega⟩
theorem c_adv (h : CS σ0 n L q c k0 A0 σ p o cd k) (hp : p < n) : CS σ0 n L q c k0 A0 (zI σ 168 3 (σ.1 168 3 + 1)) (p + 1) o cd k := by
  obtain ⟨F, A, rfl, h1, h2, h3, h4, h5, h6⟩ := h
  rw [sk3, ck3, nI_1]
  exact ⟨F, A, rfl, h1, h2, h3, by omega, by omega, h6⟩
theorem c_take (h0 : C0 σ0 n L q) (v : Int32) (hv : ¬ v = -1) (h : CS σ0 n L q c k0 A0 σ p o cd k) : (sgn (σ0.1 167) n p = v → ∃ σ', fX5_take 168 v σ = some (1, σ') ∧ CS σ0 n L q c k0 A0 σ' (p + 1) o cd k) ∧ (¬ sgn (σ0.1 167) n p = v → ∃ σ', fX5_take 168 v σ = some (0, σ') ∧ CF σ0 L q σ' (1000 + p)) := by
  unfold fX5_take
  rw [c_sign h0 h, zb_s]
  refine ⟨fun e => ?_, fun e => ?_⟩
  · rw [if_pos e, bnd_e]
    exact ⟨_, rfl, c_adv h (sgn_in e hv)⟩
  · obtain ⟨σ', w1, w2⟩ := c_wrong h0 1 h
    rw [if_neg e, show (1 : Int32) = nI 1 from rfl, w1, zb_s]
    exact ⟨σ', rfl, w2⟩
theorem c_opens (h0 : C0 σ0 n L q) (v : Int32) (hv : ¬ v = -1) (h : CS σ0 n L q c k0 A0 σ p o cd k) (e : sgn (σ0.1 167) n p = v) : (o = 6 → ∃ σ', fX5_opens 168 v σ = some (0, σ') ∧ CF σ0 L q σ' (5000 + p)) ∧ (¬ o = 6 → ∃ σ', fX5_opens 168 v σ = some (1, σ') ∧ CS σ0 n L q c k0 A0 σ' (p + 1) (o + 1) cd k) := by
  unfold fX5_opens bX5_opens_23
  rw [c_sign h0 h, zb_s, if_pos e]
  have h4 : σ.1 168 4 = nI o := by obtain ⟨F, A, rfl, -⟩ := h; rfl
  have ho := (CS_n h).2.2.2
  rw [h4]
  refine ⟨fun e6 => ?_, fun e6 => ?_⟩
  · obtain ⟨σ', w1, w2⟩ := c_wrong h0 5 h
    rw [if_neg (nltL 6 (6 : Int32) rfl (by omega) (by omega)), show (5 : Int32) = nI 5 from rfl, w1, zb_s]
    exact ⟨σ', rfl, w2⟩
  · rw [if_pos (ltL 6 (6 : Int32) rfl (by omega) (by omega)), bnd_e, nI_1]
    have h' : CS σ0 n L q c k0 A0 (zI σ 168 4 (nI (o + 1))) p (o + 1) cd k := by
      obtain ⟨F, A, rfl, h1, h2, h3, h4, h5, h6⟩ := h
      rw [ck4]
      exact ⟨F, A, rfl, h1, h2, h3, h4, h5, by omega⟩
    obtain ⟨σ', w1, w2⟩ := (c_take h0 v hv h').1 e
    rw [w1, zb_s]
    exact ⟨σ', rfl, w2⟩
theorem c_closes (h0 : C0 σ0 n L q) (v : Int32) (hv : ¬ v = -1) (h : CS σ0 n L q c k0 A0 σ p (o + 1) cd k) : (sgn (σ0.1 167) n p = v → ∃ σ', fX5_closes 168 v σ = some (1, σ') ∧ CS σ0 n L q c k0 A0 σ' (p + 1) o cd k) ∧ (¬ sgn (σ0.1 167) n p = v → ∃ σ', fX5_closes 168 v σ = some (0, σ') ∧ CF σ0 L q σ' (1000 + p)) := by
  unfold fX5_closes
  have h4 : σ.1 168 4 = nI (o + 1) := by obtain ⟨F, A, rfl, -⟩ := h; rfl
  rw [h4, nI_pred, bnd_e]
  have h' : CS σ0 n L q c k0 A0 (zI σ 168 4 (nI o)) p o cd k := by
    obtain ⟨F, A, rfl, h1, h2, h3, h4, h5, h6⟩ := h
    rw [ck4]
    exact ⟨F, A, rfl, h1, h2, h3, h4, h5, by omega⟩
  obtain ⟨t1, t2⟩ := c_take h0 v hv h'
  refine ⟨fun e => ?_, fun e => ?_⟩
  · obtain ⟨σ', w1, w2⟩ := t1 e
    rw [w1, zb_s]
    exact ⟨σ', rfl, w2⟩
  · obtain ⟨σ', w1, w2⟩ := t2 e
    rw [w1, zb_s]
    exact ⟨σ', rfl, w2⟩
theorem nx_or (a b : Nat) : nI a ||| nI b = nI (a ||| b) := by
  apply Int32.toBitVec_inj.1
  show BitVec.ofNat 32 a ||| BitVec.ofNat 32 b = BitVec.ofNat 32 (a ||| b)
  apply BitVec.eq_of_getLsbD_eq
  intro i hi
  simp [hi]
theorem put4 {num kn : Nat} (hn : num < 100000000) (hk : kn < 16) : (nI num <<< ((4 : Int32) &&& 31)) ||| nI kn = nI (16 * num + kn) := by
  rw [pk_shlN ((4 : Int32) &&& 31) 4 (by decide) (by omega), nx_or, Nat.mul_comm num (2 ^ 4), ← Nat.two_pow_add_eq_or_of_lt (i := 4) hk]
theorem c_add (h0 : C0 σ0 n L q) {v num kn : Nat} (hk : kn < 16) (hn : num < 100000000) (he : enc c v = 16 * num + kn) (h : CS σ0 n L q c k0 A0 σ p o cd k) (hr : k + 2 * c + 3 ≤ p) : ∃ σ', fX4_add L (nI kn) (nI num) σ = some (nI (k + 2 * c + 1), σ') ∧ CS σ0 n L q c k0 A0 σ' p o (uN cd k v) (k + 1) := by
  have hn0 := h0.1.2.2.2.2
  obtain ⟨F, A, rfl, h1, h2, h3, h4, h5, h6⟩ := h
  unfold fX4_add
  rw [skS h0, bnd_e, if_neg (nI_pos (by omega)), if_neg (geL 128 (128 : Int32) rfl (by omega) (by omega)), skR, h0.1.2.2.1, bnd_e, zX_n (by omega) (by omega), cl_n (by omega), put4 hn hk, ckA h0, bnd_e, ckS h0, bnd_e, nI_1]
  refine ⟨_, rfl, F, _, by rw [show k + 1 + 2 * c + 1 = k + 2 * c + 1 + 1 by omega], fun j hj => by rw [pk_un (by omega)]; exact h1 j hj, fun i a b => ?_, by omega, by omega, h5, h6⟩
  by_cases e : i = k
  · subst e
    rw [pk_us, uN_s, he]
  · rw [pk_un (by omega), uN_o e]
    exact h2 i a (by omega)
theorem c_aim (h0 : C0 σ0 n L q) {x op : Nat} (ho : op = 11 ∨ op = 12) (h : CS σ0 n L q c k0 A0 σ p o cd k) (hx : k0 ≤ x) (hx2 : x < k) (hc : cd x = 1048576 * op) : ∃ σ', fX4_aimHere L (nI (x + 2 * c + 1)) σ = some ((), σ') ∧ CS σ0 n L q c k0 A0 σ' p o (uN cd x (1048576 * op + k)) k := by
  have hn0 := h0.1.2.2.2.2
  obtain ⟨F, A, rfl, h1, h2, h3, h4, h5, h6⟩ := h
  have hA := h2 x hx hx2
  have e1 : enc c (1048576 * op) = 16 * 0 + kd op := by
    unfold enc
    rcases ho with rfl | rfl
    · rw [if_pos rfl]; rfl
    · rw [if_neg (by omega), if_pos rfl]; rfl
  have e2 : enc c (1048576 * op + k) = 16 * (k + 2 * c + 1) + kd op := by
    unfold enc
    rw [if_neg (by omega), if_neg (by omega), show (1048576 * op + k) / 1048576 = op by omega, show (1048576 * op + k) % 1048576 = k by omega]
    rcases ho with rfl | rfl <;> rfl
  unfold fX4_aimHere
  rw [if_neg (nI_pos (by omega)), if_neg (geL 128 (128 : Int32) rfl (by omega) (by omega)), skR, h0.1.2.2.1, bnd_e, bnd_e, zX_n (by omega) (by omega), cl_n (by omega), skS h0, skA h0, hA, hc, e1, an15 (kd_lt op) (by have := kd_lt op; omega), put4 (by omega) (kd_lt op), bnd_e, zX_n (by omega) (by omega), ckA h0, bnd_e]
  refine ⟨_, rfl, F, _, rfl, fun j hj => by rw [pk_un (by omega)]; exact h1 j hj, fun i a b => ?_, h3, h4, h5, h6⟩
  by_cases e : i = x
  · subst e
    rw [pk_us, uN_s, e2]
  · rw [pk_un (by omega), uN_o e]
    exact h2 i a b
theorem c_addF (h0 : C0 σ0 n L q) {e : Nat} (a b : Int32) (h : CF σ0 L q σ e) : ∃ r σ', fX4_add L a b σ = some (r, σ') ∧ CF σ0 L q σ' e := by
  obtain ⟨pp, ff, S, O, A, rfl, h1, h2, h3⟩ := h
  unfold fX4_add
  rw [skS h0, bnd_e, if_neg (nI_pos (by omega))]
  by_cases hS : S = 128
  · subst hS
    rw [if_pos (show (128 : Int32) ≤ nI 128 by decide)]
    exact ⟨_, _, rfl, pp, ff, 128, O, A, rfl, h1, h2, by omega⟩
  · rw [if_neg (geL 128 (128 : Int32) rfl (by omega) (by omega)), skR, h0.1.2.2.1, bnd_e, zX_n (by omega) (by omega), ckA h0, bnd_e, ckS h0, bnd_e, nI_1]
    exact ⟨_, _, rfl, pp, ff, S + 1, O, _, rfl, h1, h2, by omega⟩
theorem c_aimF (h0 : C0 σ0 n L q) {e x : Nat} (hx : x < 128) (h : CF σ0 L q σ e) : ∃ σ', fX4_aimHere L (nI x) σ = some ((), σ') ∧ CF σ0 L q σ' e := by
  obtain ⟨pp, ff, S, O, A, rfl, h1, h2, h3⟩ := h
  unfold fX4_aimHere
  rw [if_neg (nI_pos (by omega)), if_neg (geL 128 (128 : Int32) rfl (by omega) (by omega)), skR, h0.1.2.2.1, bnd_e, bnd_e, zX_n (by omega) (by omega), bnd_e, zX_n (by omega) (by omega), ckA h0, bnd_e]
  exact ⟨_, rfl, pp, ff, S, O, _, rfl, h1, h2, h3⟩
/-! digits -/
theorem c_isD (x : Int32) (σ : zS) : fX5_isDigit x σ = some (if dgt x = true then 1 else 0, σ) := by
  unfold fX5_isDigit dgt
  by_cases e : x < 48
  · rw [if_pos e, if_neg]
    intro h
    exact (of_decide_eq_true h).1 e
  · rw [if_neg e]
    by_cases e2 : 57 < x
    · rw [if_pos e2, if_neg]
      intro h
      exact (of_decide_eq_true h).2 e2
    · rw [if_neg e2, if_pos (decide_eq_true ⟨e, e2⟩)]
theorem c_num (h0 : C0 σ0 n L q) : ∀ (j N i : Nat) (σ : zS) (p v : Nat), CS σ0 n L q c k0 A0 σ p o cd k → i + j = 5 → j < N → v < 10 ^ i → (k + 2 * c + 3 ≤ p ∨ (i = 0 ∧ dgt (sgn (σ0.1 167) n p) = true)) →
    ((nmb (sgn (σ0.1 167) n) j p v).2.2 = true → ∃ σ', fX5_number_4 N 168 (nI v) (nI i) σ = some (1, σ') ∧ CS σ0 n L q c k0 A0 σ' (nmb (sgn (σ0.1 167) n) j p v).1 o (uN cd k (nmb (sgn (σ0.1 167) n) j p v).2.1) (k + 1)) ∧ ((nmb (sgn (σ0.1 167) n) j p v).2.2 = false → ∃ σ', fX5_number_4 N 168 (nI v) (nI i) σ = some (0, σ') ∧ CF σ0 L q σ' (2000 + (nmb (sgn (σ0.1 167) n) j p v).1)) := by
  have fin : ∀ (σ : zS) (p v : Nat), CS σ0 n L q c k0 A0 σ p o cd k → v < 100000 → k + 2 * c + 3 ≤ p → (dgt (sgn (σ0.1 167) n p) = false → ∃ σ', bX5_number_48 168 (nI v) σ = some (1, σ') ∧ CS σ0 n L q c k0 A0 σ' p o (uN cd k v) (k + 1)) ∧ (dgt (sgn (σ0.1 167) n p) = true → ∃ σ', bX5_number_48 168 (nI v) σ = some (0, σ') ∧ CF σ0 L q σ' (2000 + p)) := by
    intro σ p v h hv hr
    have r1 : σ.2 168 1 = L := by obtain ⟨F, A, rfl, -⟩ := h; exact h0.1.2.1
    unfold bX5_number_48
    rw [c_sign h0 h, zb_s, c_isD, zb_s]
    refine ⟨fun d => ?_, fun d => ?_⟩
    · rw [d, if_pos (by decide), r1, bnd_e]
      obtain ⟨σ', w1, w2⟩ := c_add h0 (v := v) (num := v) (kn := 2) (by omega) (by omega) (by
        unfold enc
        rw [if_neg (by omega), if_neg (by omega), show v / 1048576 = 0 by omega, show v % 1048576 = v by omega]
        rfl) h hr
      rw [show (2 : Int32) = nI 2 from rfl, w1, zb_s]
      exact ⟨σ', rfl, w2⟩
    · rw [d, if_neg (by decide)]
      obtain ⟨σ', w1, w2⟩ := c_wrong h0 2 h
      rw [show (2 : Int32) = nI 2 from rfl, w1, zb_s]
      exact ⟨σ', rfl, w2⟩
  intro j
  induction j with
  | zero =>
    intro N i σ p v h e hN hv hr
    obtain ⟨N, rfl⟩ : ∃ m, N = m + 1 := ⟨N - 1, by omega⟩
    have : i = 5 := by omega
    subst this
    obtain ⟨f1, f2⟩ := fin σ p v h (by omega) (hr.resolve_right (fun w => by have := w.1; omega))
    have st : fX5_number_4 (N + 1) 168 (nI v) (nI 5) σ = bX5_number_48 168 (nI v) σ := by
      show bX5_number_4 (fX5_number_4 N) 168 (nI v) (nI 5) σ = _
      unfold bX5_number_4
      rw [if_pos (by decide)]
    rw [st]
    unfold nmb
    exact ⟨fun d => f1 (by simpa using d), fun d => f2 (by simpa using d)⟩
  | succ j ih =>
    intro N i σ p v h e hN hv hr
    obtain ⟨N, rfl⟩ : ∃ m, N = m + 1 := ⟨N - 1, by omega⟩
    have hi5 : (10 : Nat) ^ i ≤ 10 ^ 4 := Nat.pow_le_pow_right (by omega) (by omega)
    have hv5 : v < 10000 := Nat.lt_of_lt_of_le hv hi5
    by_cases d : dgt (sgn (σ0.1 167) n p) = true
    · rw [show nmb (sgn (σ0.1 167) n) (j + 1) p v = nmb (sgn (σ0.1 167) n) j (p + 1) (10 * v + ((sgn (σ0.1 167) n p).toNatClampNeg - 48)) by rw [nmb, if_pos d]]
      obtain ⟨dd, d1, d2, d3⟩ := sg_d d
      have st : fX5_number_4 (N + 1) 168 (nI v) (nI i) σ = fX5_number_4 N 168 (nI (10 * v + ((sgn (σ0.1 167) n p).toNatClampNeg - 48))) (nI (i + 1)) (zI σ 168 3 (σ.1 168 3 + 1)) := by
        show bX5_number_4 (fX5_number_4 N) 168 (nI v) (nI i) σ = _
        unfold bX5_number_4
        rw [if_neg (geL 5 (5 : Int32) rfl (by omega) (by omega)), c_sign h0 h, zb_s, c_isD, zb_s, if_pos d, if_neg n10, c_sign h0 h, zb_s, bnd_e, bnd_e, nI_1, d3, cl_n (by omega), show (10 : Int32) = nI 10 from rfl, pk_mul, nI_add, show (48 : Int32) = nI 48 from rfl, pk_sub (by omega), show 10 * v + dd - 48 = 10 * v + (dd - 48) by omega]
      rw [st]
      refine ih N (i + 1) _ (p + 1) _ (c_adv h (dgt_in d)) (by omega) (by omega) ?_ (Or.inl (by have := (CS_n h).2.1; omega))
      rw [d3, cl_n (by omega), Nat.pow_succ]
      omega
    · obtain ⟨f1, f2⟩ := fin σ p v h (by omega) (hr.resolve_right (fun w => d w.2))
      have st : fX5_number_4 (N + 1) 168 (nI v) (nI i) σ = bX5_number_48 168 (nI v) σ := by
        show bX5_number_4 (fX5_number_4 N) 168 (nI v) (nI i) σ = _
        unfold bX5_number_4
        rw [if_neg (geL 5 (5 : Int32) rfl (by omega) (by omega)), c_sign h0 h, zb_s, c_isD, zb_s, if_neg d, if_pos rfl]
      rw [show nmb (sgn (σ0.1 167) n) (j + 1) p v = (p, v, true) by rw [nmb, if_neg d], st]
      exact ⟨fun _ => f1 (Bool.eq_false_iff.mpr d), fun x => by cases x⟩
end
end
