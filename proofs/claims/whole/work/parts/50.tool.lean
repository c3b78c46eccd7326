def bt (x : Int32) (i : Nat) : Bool := x.toBitVec.getLsbD i
theorem b_ext {x y : Int32} (h : ∀ i, i < 32 → bt x i = bt y i) : x = y := Int32.toBitVec_inj.mp (BitVec.eq_of_getLsbD_eq (fun i hi => h i hi))
theorem b_or (x y : Int32) (i : Nat) : bt (x ||| y) i = (bt x i || bt y i) := by unfold bt; rw [Int32.toBitVec_or, BitVec.getLsbD_or]
theorem b_and (x y : Int32) (i : Nat) : bt (x &&& y) i = (bt x i && bt y i) := by unfold bt; rw [Int32.toBitVec_and, BitVec.getLsbD_and]
theorem b_xor (x y : Int32) (i : Nat) : bt (x ^^^ y) i = (bt x i ^^ bt y i) := by unfold bt; rw [Int32.toBitVec_xor, BitVec.getLsbD_xor]
theorem b_big {x : Int32} {i : Nat} (h : 32 ≤ i) : bt x i = false := BitVec.getLsbD_of_ge _ _ h
theorem b_m1 : ∀ i, i < 32 → bt (-1) i = true := by decide +kernel
theorem b_0 (i : Nat) : bt 0 i = false := BitVec.getLsbD_zero
theorem s_l : ∀ n, n < 32 → ((nI n &&& 31).toBitVec.smod 32).toNat = n := by decide +kernel
theorem s_u : ∀ n, n < 32 → (((nI n).toUInt32 &&& Int32.toUInt32 31).toBitVec % 32).toNat = n := by decide +kernel
theorem b_shl (n : Nat) (hn : n < 32) (x : Int32) {i : Nat} (hi : i < 32) : bt (x <<< (nI n &&& 31)) i = (decide (n ≤ i) && bt x (i - n)) := by
  unfold bt
  rw [Int32.toBitVec_shiftLeft]
  show (x.toBitVec <<< ((nI n &&& 31).toBitVec.smod 32).toNat).getLsbD i = _
  rw [s_l n hn, BitVec.getLsbD_shiftLeft]
  rcases Nat.lt_or_ge i n with h | h
  · simp [h, Nat.not_le.mpr h]
  · simp [hi, h, Nat.not_lt.mpr h]
theorem b_ushr (n : Nat) (hn : n < 32) (x : Int32) (i : Nat) : bt ((x.toUInt32 >>> ((nI n).toUInt32 &&& Int32.toUInt32 31)).toInt32) i = bt x (n + i) := by
  show (x.toUInt32 >>> ((nI n).toUInt32 &&& Int32.toUInt32 31)).toBitVec.getLsbD i = x.toUInt32.toBitVec.getLsbD (n + i)
  rw [UInt32.toBitVec_shiftRight]
  show (x.toUInt32.toBitVec >>> (((nI n).toUInt32 &&& Int32.toUInt32 31).toBitVec % 32).toNat).getLsbD i = _
  rw [s_u n hn, BitVec.getLsbD_ushiftRight]
theorem b_sshr (n : Nat) (hn : n < 32) (x : Int32) {i : Nat} (hi : i < 32) : bt (x >>> (nI n &&& 31)) i = if n + i < 32 then bt x (n + i) else bt x 31 := by
  unfold bt
  rw [Int32.toBitVec_shiftRight]
  show (x.toBitVec.sshiftRight ((nI n &&& 31).toBitVec.smod 32).toNat).getLsbD i = _
  rw [s_l n hn, BitVec.getLsbD_sshiftRight, BitVec.msb_eq_getLsbD_last]
  simp [hi]
theorem nx_and (a b : Nat) : nI a &&& nI b = nI (a &&& b) := by
  apply Int32.toBitVec_inj.1
  show BitVec.ofNat 32 a &&& BitVec.ofNat 32 b = BitVec.ofNat 32 (a &&& b)
  apply BitVec.eq_of_getLsbD_eq
  intro i hi
  simp [hi]
theorem wb_of32 (x : Int32) : ∃ n, n < 2 ^ 32 ∧ x = nI n := ⟨x.toBitVec.toNat, x.toBitVec.isLt, Int32.toBitVec_inj.mp (by show _ = BitVec.ofNat 32 _; simp)⟩

/-! ===== small things ===== -/
theorem zb_s {α β : Type} (a : α) (s : zS) (g : α → zS → Option β) : zb (some (a, s)) g = g a s := rfl
theorem bnd_e {α β : Type} (a : α) (f : α → β) : bnd a f = f a := rfl
theorem zX_n {α : Type} {i n : Nat} {a : Option α} (h : i < n) (hn : n < 2 ^ 31) : zX (nI i) n a = a := zX_in (vp_in_nI h hn)
theorem cl_n {i : Nat} (h : i < 2 ^ 31) : (nI i).toNatClampNeg = i := nI_clamp h
theorem zI_s {σ : zS} {j k : Nat} {v : Int32} : (zI σ j k v).1 j k = v := by simp [zI]
theorem zI_o {σ : zS} {j k a b : Nat} {v : Int32} (h : ¬ (a = j ∧ b = k)) : (zI σ j k v).1 a b = σ.1 a b := if_neg h
theorem zI_2 {σ : zS} {j k : Nat} {v : Int32} : (zI σ j k v).2 = σ.2 := rfl
theorem zR_1 {σ : zS} {j k v : Nat} : (zR σ j k v).1 = σ.1 := rfl
/-- how many of 0 .. n-1 -/
def cn (p : Nat → Bool) : Nat → Nat
  | 0 => 0
  | n + 1 => cn p n + (if p n then 1 else 0)
theorem cn_le (p : Nat → Bool) : ∀ n, cn p n ≤ n
  | 0 => Nat.le_refl 0
  | n + 1 => by
    have h := cn_le p n
    show cn p n + (if p n then 1 else 0) ≤ n + 1
    split <;> omega
theorem cn_cong {p q : Nat → Bool} : ∀ {n : Nat}, (∀ k, k < n → p k = q k) → cn p n = cn q n
  | 0, _ => rfl
  | n + 1, h => by
    show cn p n + _ = cn q n + _
    rw [cn_cong (fun k hk => h k (by omega)), h n (by omega)]
theorem cn_split (p : Nat → Bool) (m : Nat) : ∀ n, cn p (m + n) = cn p m + cn (fun k => p (m + k)) n
  | 0 => rfl
  | n + 1 => by
    show cn p (m + n) + (if p (m + n) then 1 else 0) = cn p m + (cn (fun k => p (m + k)) n + (if p (m + n) then 1 else 0))
    rw [cn_split p m n]
    omega
theorem cn_zero {p : Nat → Bool} : ∀ {n : Nat}, (∀ k, k < n → p k = false) → cn p n = 0
  | 0, _ => rfl
  | n + 1, h => by
    show cn p n + _ = 0
    rw [cn_zero (fun k hk => h k (by omega)), h n (by omega)]
    rfl
/-- ones of 32 bits, when the high ones are none -/
theorem cn_24 {p : Nat → Bool} (h : ∀ k, 24 ≤ k → p k = false) : cn p 32 = cn p 24 := by
  rw [show (32 : Nat) = 24 + 8 from rfl, cn_split, cn_zero (p := fun k => p (24 + k)) (fun k _ => h _ (by omega))]
  rfl
/-! ===== Integer.bitCount ===== -/
def by4 (a b c d : Nat) : Nat := a + 256 * (b + 256 * (c + 256 * d))
theorem and8 (x M : Nat) : x &&& M = (x % 256 &&& M % 256) + 256 * (x / 256 &&& M / 256) := by
  have h1 : (x &&& M) / 2 ^ 8 = x / 2 ^ 8 &&& M / 2 ^ 8 := Nat.and_div_two_pow
  have h2 : (x &&& M) % 2 ^ 8 = (x % 2 ^ 8) &&& (M % 2 ^ 8) := Nat.and_mod_two_pow
  have h3 := Nat.div_add_mod (x &&& M) 256
  simp only [show (2 : Nat) ^ 8 = 256 from rfl] at h1 h2
  rw [h1, h2] at h3
  omega
theorem and84 (x m : Nat) (hm : m < 256) (hx : x < 4294967296) : x &&& (m + 256 * (m + 256 * (m + 256 * m))) = by4 (x % 256 &&& m) (x / 256 % 256 &&& m) (x / 65536 % 256 &&& m) (x / 16777216 &&& m) := by
  rw [and8, show (m + 256 * (m + 256 * (m + 256 * m))) % 256 = m by omega, show (m + 256 * (m + 256 * (m + 256 * m))) / 256 = m + 256 * (m + 256 * m) by omega]
  rw [and8 (x / 256), show (m + 256 * (m + 256 * m)) % 256 = m by omega, show (m + 256 * (m + 256 * m)) / 256 = m + 256 * m by omega, Nat.div_div_eq_div_mul]
  rw [and8 (x / (256 * 256)), show (m + 256 * m) % 256 = m by omega, show (m + 256 * m) / 256 = m by omega, Nat.div_div_eq_div_mul]
  rfl
theorem by4_a {a b c d : Nat} (ha : a < 256) : by4 a b c d % 256 = a := by unfold by4; omega
theorem by4_b {a b c d : Nat} (ha : a < 256) (hb : b < 256) : by4 a b c d / 256 % 256 = b := by unfold by4; omega
theorem by4_c {a b c d : Nat} (ha : a < 256) (hb : b < 256) (hc : c < 256) : by4 a b c d / 65536 % 256 = c := by unfold by4; omega
theorem by4_d {a b c d : Nat} (ha : a < 256) (hb : b < 256) (hc : c < 256) : by4 a b c d / 16777216 = d := by unfold by4; omega
def pp1 (a : Nat) : Nat := a / 2 &&& 85
def pg1 (a : Nat) : Nat := a - pp1 a
def pg2 (a : Nat) : Nat := (a &&& 51) + (a / 4 &&& 51)
def pg3 (a : Nat) : Nat := (a + a / 16) % 16
theorem pp_1 : ∀ a, a < 256 → ∀ b, b < 2 → (a / 2 + 128 * b) &&& 85 = pp1 a ∧ pp1 a ≤ a := by decide +kernel
theorem pp_2 : ∀ a, a < 256 → ∀ b, b < 4 → (a / 4 + 64 * b) &&& 51 = a / 4 &&& 51 := by decide +kernel
theorem pp_3 : ∀ a, a < 256 → pg1 a < 256 ∧ pg2 (pg1 a) ≤ 68 ∧ pg2 (pg1 a) % 16 ≤ 4 ∧ pg3 (pg2 (pg1 a)) = cn (fun i => a.testBit i) 8 := by decide +kernel
theorem pp_4 : ∀ a, a < 69 → a % 16 ≤ 4 → pg3 a ≤ 8 := by decide +kernel
theorem pp_m : ∀ a, a < 256 → a &&& 15 = a % 16 := by decide +kernel
def pst (n : Nat) : Nat :=
  let x2 := n - (n / 2 &&& 1431655765)
  let x4 := (x2 &&& 858993459) + (x2 / 4 &&& 858993459)
  let x6 := (x4 + x4 / 16) &&& 252645135
  let x8 := x6 + x6 / 256
  (x8 + x8 / 65536) &&& 63
theorem pfin {w x y z : Nat} (hw : w ≤ 8) (hx : x ≤ 8) (hy : y ≤ 8) (hz : z ≤ 8) : (by4 w x y z + by4 w x y z / 256 + (by4 w x y z + by4 w x y z / 256) / 65536) % 64 = w + x + y + z := by
  have h1 : by4 w x y z / 256 = x + 256 * (y + 256 * z) := by unfold by4; omega
  have h2 : by4 w x y z + by4 w x y z / 256 = (w + x) + 256 * ((x + y) + 256 * ((y + z) + 256 * z)) := by rw [h1]; unfold by4; omega
  have h3 : (by4 w x y z + by4 w x y z / 256) / 65536 = (y + z) + 256 * z := by rw [h2]; omega
  rw [h3, h2]
  omega
theorem cn_4 (p : Nat → Bool) : cn p 32 = cn p 8 + cn (fun k => p (8 + k)) 8 + cn (fun k => p (16 + k)) 8 + cn (fun k => p (24 + k)) 8 := by
  rw [show (32 : Nat) = 24 + 8 from rfl, cn_split p 24 8, show (24 : Nat) = 16 + 8 from rfl, cn_split p 16 8, show (16 : Nat) = 8 + 8 from rfl, cn_split p 8 8]
theorem pst_eq {a b c d : Nat} (ha : a < 256) (hb : b < 256) (hc : c < 256) (hd : d < 256) : pst (by4 a b c d) = cn (fun i => a.testBit i) 8 + cn (fun i => b.testBit i) 8 + cn (fun i => c.testBit i) 8 + cn (fun i => d.testBit i) 8 := by
  have e1 : by4 a b c d / 2 &&& 1431655765 = by4 (pp1 a) (pp1 b) (pp1 c) (pp1 d) := by
    have h := and84 (by4 a b c d / 2) 85 (by omega) (by unfold by4; omega)
    rw [show (85 + 256 * (85 + 256 * (85 + 256 * 85)) : Nat) = 1431655765 from rfl] at h
    rw [h]
    rw [show by4 a b c d / 2 % 256 = a / 2 + 128 * (b % 2) by unfold by4; omega, show by4 a b c d / 2 / 256 % 256 = b / 2 + 128 * (c % 2) by unfold by4; omega, show by4 a b c d / 2 / 65536 % 256 = c / 2 + 128 * (d % 2) by unfold by4; omega, show by4 a b c d / 2 / 16777216 = d / 2 + 128 * 0 by unfold by4; omega]
    rw [(pp_1 a ha _ (by omega)).1, (pp_1 b hb _ (by omega)).1, (pp_1 c hc _ (by omega)).1, (pp_1 d hd _ (by omega)).1]
  have l1 := (pp_1 a ha 0 (by omega)).2
  have l2 := (pp_1 b hb 0 (by omega)).2
  have l3 := (pp_1 c hc 0 (by omega)).2
  have l4 := (pp_1 d hd 0 (by omega)).2
  have e2 : by4 a b c d - (by4 a b c d / 2 &&& 1431655765) = by4 (pg1 a) (pg1 b) (pg1 c) (pg1 d) := by
    rw [e1]
    unfold by4 pg1
    omega
  obtain ⟨ga, ka, na, ta⟩ := pp_3 a ha
  obtain ⟨gb, kb, nb, tb⟩ := pp_3 b hb
  obtain ⟨gc, kc, nc, tc⟩ := pp_3 c hc
  obtain ⟨gd, kd, nd, td⟩ := pp_3 d hd
  generalize pg1 a = A at *
  generalize pg1 b = B at *
  generalize pg1 c = C at *
  generalize pg1 d = E at *
  have e3 : (by4 A B C E &&& 858993459) + (by4 A B C E / 4 &&& 858993459) = by4 (pg2 A) (pg2 B) (pg2 C) (pg2 E) := by
    have h1 := and84 (by4 A B C E) 51 (by omega) (by unfold by4; omega)
    have h2 := and84 (by4 A B C E / 4) 51 (by omega) (by unfold by4; omega)
    rw [show (51 + 256 * (51 + 256 * (51 + 256 * 51)) : Nat) = 858993459 from rfl] at h1 h2
    rw [h1, h2]
    rw [by4_a ga, by4_b ga gb, by4_c ga gb gc, by4_d ga gb gc]
    rw [show by4 A B C E / 4 % 256 = A / 4 + 64 * (B % 4) by unfold by4; omega, show by4 A B C E / 4 / 256 % 256 = B / 4 + 64 * (C % 4) by unfold by4; omega, show by4 A B C E / 4 / 65536 % 256 = C / 4 + 64 * (E % 4) by unfold by4; omega, show by4 A B C E / 4 / 16777216 = E / 4 + 64 * 0 by unfold by4; omega]
    rw [pp_2 A ga _ (by omega), pp_2 B gb _ (by omega), pp_2 C gc _ (by omega), pp_2 E gd _ (by omega)]
    unfold by4 pg2
    omega
  rw [← ta, ← tb, ← tc, ← td]
  generalize pg2 A = P at *
  generalize pg2 B = Q at *
  generalize pg2 C = R at *
  generalize pg2 E = S at *
  have e4 : (by4 P Q R S + by4 P Q R S / 16) &&& 252645135 = by4 (pg3 P) (pg3 Q) (pg3 R) (pg3 S) := by
    have hs : by4 P Q R S / 16 = P / 16 + 16 * (Q + 256 * (R + 256 * S)) := by unfold by4; omega
    have hq : by4 P Q R S + by4 P Q R S / 16 = by4 (P + P / 16 + 16 * (Q % 16)) (Q + Q / 16 + 16 * (R % 16)) (R + R / 16 + 16 * (S % 16)) (S + S / 16) := by
      rw [hs]
      unfold by4
      omega
    rw [hq]
    have w1 : P + P / 16 + 16 * (Q % 16) < 256 := by omega
    have w2 : Q + Q / 16 + 16 * (R % 16) < 256 := by omega
    have w3 : R + R / 16 + 16 * (S % 16) < 256 := by omega
    have w4 : S + S / 16 < 256 := by omega
    have v1 : (P + P / 16 + 16 * (Q % 16)) % 16 = (P + P / 16) % 16 := by omega
    have v2 : (Q + Q / 16 + 16 * (R % 16)) % 16 = (Q + Q / 16) % 16 := by omega
    have v3 : (R + R / 16 + 16 * (S % 16)) % 16 = (R + R / 16) % 16 := by omega
    generalize P + P / 16 + 16 * (Q % 16) = X1 at *
    generalize Q + Q / 16 + 16 * (R % 16) = X2 at *
    generalize R + R / 16 + 16 * (S % 16) = X3 at *
    have h := and84 (by4 X1 X2 X3 (S + S / 16)) 15 (by omega) (by unfold by4; omega)
    rw [show (15 + 256 * (15 + 256 * (15 + 256 * 15)) : Nat) = 252645135 from rfl] at h
    rw [h]
    rw [by4_a w1, by4_b w1 w2, by4_c w1 w2 w3, by4_d w1 w2 w3]
    rw [pp_m _ w1, pp_m _ w2, pp_m _ w3, pp_m _ w4, v1, v2, v3]
    rfl
  have b1 : pg3 P ≤ 8 := pp_4 _ (by omega) (by omega)
  have b2 : pg3 Q ≤ 8 := pp_4 _ (by omega) (by omega)
  have b3 : pg3 R ≤ 8 := pp_4 _ (by omega) (by omega)
  have b4 : pg3 S ≤ 8 := pp_4 _ (by omega) (by omega)
  unfold pst
  simp only [e2, e3, e4]
  generalize pg3 P = w at *
  generalize pg3 Q = x at *
  generalize pg3 R = y at *
  generalize pg3 S = z at *
  rw [show (63 : Nat) = 2 ^ 6 - 1 from rfl, Nat.and_two_pow_sub_one_eq_mod]
  exact pfin b1 b2 b3 b4
theorem pst_cn {n : Nat} (hn : n < 4294967296) : pst n = cn (fun i => n.testBit i) 32 := by
  have e : n = by4 (n % 256) (n / 256 % 256) (n / 65536 % 256) (n / 16777216) := by unfold by4; omega
  have h := pst_eq (a := n % 256) (b := n / 256 % 256) (c := n / 65536 % 256) (d := n / 16777216) (by omega) (by omega) (by omega) (by omega)
  rw [← e] at h
  rw [h, cn_4]
  have t1 : ∀ k, k < 8 → (n % 256).testBit k = n.testBit k := fun k hk => by
    rw [show (256 : Nat) = 2 ^ 8 from rfl, Nat.testBit_mod_two_pow]; simp [hk]
  have t2 : ∀ k, k < 8 → (n / 256 % 256).testBit k = n.testBit (8 + k) := fun k hk => by
    rw [show (256 : Nat) = 2 ^ 8 from rfl, Nat.testBit_mod_two_pow, Nat.testBit_div_two_pow]; simp [hk, Nat.add_comm]
  have t3 : ∀ k, k < 8 → (n / 65536 % 256).testBit k = n.testBit (16 + k) := fun k hk => by
    rw [show (256 : Nat) = 2 ^ 8 from rfl, show (65536 : Nat) = 2 ^ 16 from rfl, Nat.testBit_mod_two_pow, Nat.testBit_div_two_pow]; simp [hk]; congr 1; omega
  have t4 : ∀ k, k < 8 → (n / 16777216).testBit k = n.testBit (24 + k) := fun k hk => by
    rw [show (16777216 : Nat) = 2 ^ 24 from rfl, Nat.testBit_div_two_pow]; congr 1; omega
  rw [cn_cong t1, cn_cong t2, cn_cong t3, cn_cong t4]
theorem bt_n {n i : Nat} (hi : i < 32) : bt (nI n) i = n.testBit i := by
  unfold bt
  show (BitVec.ofNat 32 n).getLsbD i = _
  rw [BitVec.getLsbD_ofNat, decide_eq_true hi, Bool.true_and]
theorem f_bitCount (x : Int32) (σ : zS) : fJ6_bitCount_0f7a4 x σ = some (nI (cn (bt x) 32), σ) := by
  obtain ⟨n, hn, rfl⟩ := wb_of32 x
  have hn : n < 4294967296 := hn
  have hle : n / 2 &&& 1431655765 ≤ n := Nat.le_trans Nat.and_le_left (Nat.div_le_self _ _)
  rw [cn_cong (q := fun i => n.testBit i) (fun k hk => bt_n hk), ← pst_cn hn]
  unfold fJ6_bitCount_0f7a4
  simp only [bnd_e]
  have u1 := pk_ushrN (n := n) hn (1 : Int32) 1 (by decide)
  have m1 : (1431655765 : Int32) = nI 1431655765 := rfl
  have m2 : (858993459 : Int32) = nI 858993459 := rfl
  have m3 : (252645135 : Int32) = nI 252645135 := rfl
  have m4 : (63 : Int32) = nI 63 := rfl
  rw [u1, m1, m2, m3, m4, nx_and, show n / 2 ^ 1 = n / 2 from rfl, pk_sub hle]
  generalize hx2 : n - (n / 2 &&& 1431655765) = x2
  have q2 : x2 < 4294967296 := by omega
  rw [pk_ushrN q2 (2 : Int32) 2 (by decide), nx_and, nx_and, nI_add, show x2 / 2 ^ 2 = x2 / 4 from rfl]
  generalize hx4 : (x2 &&& 858993459) + (x2 / 4 &&& 858993459) = x4
  have q4 : x4 < 4294967296 := by
    have h1 : x2 &&& 858993459 ≤ 858993459 := Nat.and_le_right
    have h2 : x2 / 4 &&& 858993459 ≤ 858993459 := Nat.and_le_right
    omega
  rw [pk_ushrN q4 (4 : Int32) 4 (by decide), nI_add, nx_and, show x4 / 2 ^ 4 = x4 / 16 from rfl]
  generalize hx6 : (x4 + x4 / 16) &&& 252645135 = x6
  have q6 : x6 < 4294967296 := by
    have h1 : (x4 + x4 / 16) &&& 252645135 ≤ 252645135 := Nat.and_le_right
    omega
  rw [pk_ushrN q6 (8 : Int32) 8 (by decide), nI_add, show x6 / 2 ^ 8 = x6 / 256 from rfl]
  generalize hx8 : x6 + x6 / 256 = x8
  have q8 : x8 < 4294967296 := by
    have h1 : (x4 + x4 / 16) &&& 252645135 ≤ 252645135 := Nat.and_le_right
    omega
  rw [pk_ushrN q8 (16 : Int32) 16 (by decide), nI_add, nx_and, show x8 / 2 ^ 16 = x8 / 65536 from rfl]
  unfold pst
  simp only [hx2, hx4, hx6, hx8]
