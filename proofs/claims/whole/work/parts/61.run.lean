/-! ===== the class asks a law: its steps against the codes ===== -/
def kd (o : Nat) : Nat := match o with
  | 0 => 2
  | 1 => 3
  | 2 => 7
  | 3 => 8
  | 4 => 9
  | 5 => 10
  | 6 => 11
  | 7 => 12
  | 8 => 13
  | 9 => 14
  | 10 => 4
  | 11 => 5
  | _ => 6
def nm (c o v : Nat) : Nat := if o = 0 then v else if o = 1 then lc v else if o = 11 then v + 2 * c + 1 else if o = 12 then v + 2 * c + 1 else 0
def askT (k11 : Nat → Nat → Int32 → Int32 → Int32 → Int32 → Int32 → zS → Option (Int32 × zS)) (v0 : Nat) (v1 : Nat) (v2 : Int32) (v3 : Int32) (v4 : Int32) (v5 : Int32) (v6 : Int32) (x20 : Int32) (x23 : Int32) (σ : zS) : Option (Int32 × zS) :=
  if x20 = (0 : Int32) then (bX0_ask_321 k11 v0 v1 v2 x23 v4 ((v5 + (1 : Int32))) v6 σ) else (if x20 = (1 : Int32) then (bnd (σ.2 v0 0) (fun (q26 : Nat) => zX (v4 + (-1 : Int32)) 40 (if (σ.1 q26 ((v4 + (-1 : Int32))).toNatClampNeg) = 0 then (bX0_ask_321 k11 v0 v1 v2 v3 ((v4 + (-1 : Int32))) ((v5 + (1 : Int32))) v6 σ) else (some (x23, σ))))) else (if x20 = (2 : Int32) then (bnd (σ.2 v0 0) (fun (q30 : Nat) => zX v4 40 (bnd (zI σ q30 (v4).toNatClampNeg x23) (fun (σ32 : zS) => bX0_ask_321 k11 v0 v1 v2 v3 ((v4 + (1 : Int32))) ((v5 + (1 : Int32))) v6 σ32)))) else (if x20 = (3 : Int32) then (bnd (σ.2 v0 0) (fun (q34 : Nat) => zb (fX0_letter v0 x23 v2 σ) (fun (r36 : Int32) (σ35 : zS) => zX v4 40 (bnd (zI σ35 q34 (v4).toNatClampNeg r36) (fun (σ38 : zS) => bX0_ask_321 k11 v0 v1 v2 v3 ((v4 + (1 : Int32))) ((v5 + (1 : Int32))) v6 σ38))))) else (if x20 = (4 : Int32) then (bnd (σ.2 v0 0) (fun (q40 : Nat) => bnd (σ.2 v0 0) (fun (q41 : Nat) => zX (v4 - (1 : Int32)) 40 (zX (v4 - (1 : Int32)) 40 (bnd (zI σ q40 ((v4 - (1 : Int32))).toNatClampNeg ((1 : Int32) - (σ.1 q41 ((v4 - (1 : Int32))).toNatClampNeg))) (fun (σ44 : zS) => bX0_ask_321 k11 v0 v1 v2 v3 v4 ((v5 + (1 : Int32))) v6 σ44)))))) else (if x20 = (5 : Int32) then (bnd (σ.2 v0 0) (fun (q46 : Nat) => zX (v4 - (1 : Int32)) 40 (if (σ.1 q46 ((v4 - (1 : Int32))).toNatClampNeg) = 0 then (bX0_ask_225 (bX0_ask_321 k11) v0 v1 v2 v3 v4 ((v5 + (1 : Int32))) v6 x20 x23 (0 : Int32) σ) else (bX0_ask_225 (bX0_ask_321 k11) v0 v1 v2 v3 v4 ((v5 + (1 : Int32))) v6 x20 x23 (1 : Int32) σ)))) else (if x20 = (6 : Int32) then (bnd (σ.2 v0 0) (fun (q50 : Nat) => zX (v4 - (1 : Int32)) 40 (if (σ.1 q50 ((v4 - (1 : Int32))).toNatClampNeg) = 0 then (bX0_ask_225 (bX0_ask_321 k11) v0 v1 v2 v3 v4 ((v5 + (1 : Int32))) v6 x20 x23 (0 : Int32) σ) else (bX0_ask_225 (bX0_ask_321 k11) v0 v1 v2 v3 v4 ((v5 + (1 : Int32))) v6 x20 x23 (1 : Int32) σ)))) else (bnd (σ.2 v0 0) (fun (q53 : Nat) => zX (v4 - (1 : Int32)) 40 (if (σ.1 q53 ((v4 - (1 : Int32))).toNatClampNeg) = 0 then (if x20 = (10 : Int32) then (bX0_ask_279 (bX0_ask_321 k11) v0 v1 v2 v3 v6 σ) else (if x20 = (11 : Int32) then (bX0_ask_279 (bX0_ask_321 k11) v0 v1 v2 v3 v6 σ) else (bX0_ask_288 (bX0_ask_321 k11) v0 v1 v2 v3 v4 ((v5 + (1 : Int32))) v6 x20 σ))) else (bX0_ask_288 (bX0_ask_321 k11) v0 v1 v2 v3 v4 ((v5 + (1 : Int32))) v6 x20 σ))))))))))
theorem an15 {k num : Nat} (hk : k < 16) (hn : 16 * num + k < 2 ^ 31) : nI (16 * num + k) &&& (15 : Int32) = nI k := by
  rw [pk_andN (by omega) (m := (15 : Int32)) 4 (by decide)]
  congr 1
  omega
theorem sh4 {k num : Nat} (hk : k < 16) (hn : 16 * num + k < 2 ^ 31) : nI (16 * num + k) >>> ((4 : Int32) &&& 31) = nI num := by
  rw [pk_shrN (by omega) ((4 : Int32) &&& 31) 4 (by decide)]
  congr 1
  omega
theorem c_hd (k11 : Nat → Nat → Int32 → Int32 → Int32 → Int32 → Int32 → zS → Option (Int32 × zS)) (L q S a p v k num : Nat) (sv beh : Int32) (σ : zS) (hS : σ.1 L 1 = nI S) (hS2 : S ≤ 128) (ha : a < S) (hv : v < 128) (hp : 2 ≤ p) (hp2 : p < 40) (hq : σ.2 L 0 = q) (hk : k < 16) (hn : 16 * num + k < 2 ^ 31) (hst : σ.1 q a = nI (16 * num + k)) :
    bX0_ask_11 k11 153 L sv beh (nI p) (nI a) (nI v) σ = askT k11 153 L sv beh (nI p) (nI a) (nI v) (nI k) (nI num) σ := by
  unfold bX0_ask_11
  rw [if_neg (geL 128 (128 : Int32) rfl hv (by omega)), if_neg (nI_pos (by omega)), hS, if_neg (nI_ge ha (by omega)), if_neg (geL 128 (128 : Int32) rfl (by omega) (by omega)), if_neg (nltL 2 (2 : Int32) rfl hp (by omega)), if_pos (ltL 40 (40 : Int32) rfl hp2 (by omega))]
  rw [bnd_e, hq, zX_n (n := 128) (by omega) (by omega), bnd_e, bnd_e, zX_n (n := 128) (by omega) (by omega), bnd_e, cl_n (by omega), hst, an15 hk hn, sh4 hk hn]
  unfold askT
  rfl
theorem c_reckon (o : Nat) (h1 : 2 ≤ o) (h2 : o ≤ 9) (x y : Int32) (hy : ¬ ((o = 5 ∨ o = 6) ∧ y = 0)) (σ : zS) : fX0_reckon (nI (kd o)) x y σ = some (rk o x y, σ) := by
  have : o = 2 ∨ o = 3 ∨ o = 4 ∨ o = 5 ∨ o = 6 ∨ o = 7 ∨ o = 8 ∨ o = 9 := by omega
  unfold fX0_reckon
  rcases this with rfl | rfl | rfl | rfl | rfl | rfl | rfl | rfl
  · rfl
  · rfl
  · rfl
  · have hy : ¬ y = 0 := fun q => hy ⟨Or.inl rfl, q⟩
    show (if y = 0 then _ else zV y _) = _
    rw [if_neg hy, zV_in hy]; rfl
  · have hy : ¬ y = 0 := fun q => hy ⟨Or.inr rfl, q⟩
    show (if y = 0 then _ else zV y _) = _
    rw [if_neg hy, zV_in hy]; rfl
  · show (if y ≤ x then _ else _) = some (if y ≤ x then 0 else 1, σ)
    split <;> rfl
  · show (if x ≤ y then _ else _) = some (if x ≤ y then 0 else 1, σ)
    split <;> rfl
  · show (if x = y then _ else _) = some (if x = y then 1 else 0, σ)
    split <;> rfl
def sh2 (A : Nat → Int32) : Nat → Int32 := fun i => A (i + 2)
theorem sh2_u (A : Nat → Int32) (k : Nat) (v : Int32) : sh2 (upd A (k + 2) v) = upd (sh2 A) k v := by
  funext i
  unfold sh2 upd
  by_cases h : i = k
  · simp [h]
  · rw [if_neg h, if_neg (by omega)]
theorem kd_lt (o : Nat) : kd o < 16 := by unfold kd; split <;> omega
theorem lc_lt (v : Nat) : lc v < 128 := by unfold lc; split <;> omega
theorem nm_lt {c o v : Nat} (hc : c ≤ 12) (hv : v < 1048576) : 16 * nm c o v + kd o < 2 ^ 31 := by
  have h1 := kd_lt o
  have h2 := lc_lt v
  unfold nm
  repeat' split
  all_goals omega
theorem c_e0 (n L T c i v vv k : Nat) (sv : Int32) (A : Nat → Int32) {σ : zS} (r0 : σ.2 153 0 = 154) (hk : k + 2 < 40) : askT (fX0_ask_11 n) 153 L sv (nI (T + 2 * c + 2)) (nI (k + 2)) (nI (i + 2 * c + 1)) (nI v) (nI (kd 0)) (nI (nm c 0 vv)) (zA1 σ 154 A) = fX0_ask_11 n 153 L sv (nI (T + 2 * c + 2)) (nI (k + 1 + 2)) (nI ((i + 1) + 2 * c + 1)) (nI (v + 1)) (zA1 σ 154 (upd A (k + 2) (nI vv))) := by
  have e1 : nI (i + 2 * c + 1) + 1 = nI ((i + 1) + 2 * c + 1) := by rw [nI_1]; congr 1; omega
  have e7 : nI (k + 2) + 1 = nI (k + 1 + 2) := by rw [nI_1]
  unfold askT
  rw [if_neg (by decide), if_neg (by decide), if_pos (by decide), bnd_e, zA1_2, r0, zX_n hk (by omega), bnd_e, cl_n (by omega), zI_zA1, e1, e7]
  unfold bX0_ask_321
  rw [nI_1, show nm c 0 vv = vv from rfl]
theorem c_e1 (n L T c i v vv k : Nat) (sv x : Int32) (A : Nat → Int32) {σ : zS} (r0 : σ.2 153 0 = 154) (hk : k + 2 < 40) (hlet : fX0_letter 153 (nI (lc vv)) sv (zA1 σ 154 A) = some (x, zA1 σ 154 A)) : askT (fX0_ask_11 n) 153 L sv (nI (T + 2 * c + 2)) (nI (k + 2)) (nI (i + 2 * c + 1)) (nI v) (nI (kd 1)) (nI (nm c 1 vv)) (zA1 σ 154 A) = fX0_ask_11 n 153 L sv (nI (T + 2 * c + 2)) (nI (k + 1 + 2)) (nI ((i + 1) + 2 * c + 1)) (nI (v + 1)) (zA1 σ 154 (upd A (k + 2) x)) := by
  have e1 : nI (i + 2 * c + 1) + 1 = nI ((i + 1) + 2 * c + 1) := by rw [nI_1]; congr 1; omega
  have e7 : nI (k + 2) + 1 = nI (k + 1 + 2) := by rw [nI_1]
  unfold askT
  rw [if_neg (by decide), if_neg (by decide), if_neg (by decide), if_pos (by decide), bnd_e, zA1_2, r0, show nm c 1 vv = lc vv from rfl, hlet, zb_s, zX_n hk (by omega), bnd_e, cl_n (by omega), zI_zA1, e1, e7]
  unfold bX0_ask_321
  rw [nI_1]
theorem c_e10 (n L T c i v vv k : Nat) (sv y : Int32) (A : Nat → Int32) {σ : zS} (r0 : σ.2 153 0 = 154) (hk : k + 2 < 40) (hA : A (k + 2) = y) : askT (fX0_ask_11 n) 153 L sv (nI (T + 2 * c + 2)) (nI (k + 1 + 2)) (nI (i + 2 * c + 1)) (nI v) (nI (kd 10)) (nI (nm c 10 vv)) (zA1 σ 154 A) = fX0_ask_11 n 153 L sv (nI (T + 2 * c + 2)) (nI (k + 1 + 2)) (nI ((i + 1) + 2 * c + 1)) (nI (v + 1)) (zA1 σ 154 (upd A (k + 2) (1 - y))) := by
  have e1 : nI (i + 2 * c + 1) + 1 = nI ((i + 1) + 2 * c + 1) := by rw [nI_1]; congr 1; omega
  have e4 : nI (k + 1 + 2) - 1 = nI (k + 2) := by rw [show k + 1 + 2 = (k + 2) + 1 by omega, nI_pred]
  unfold askT
  rw [if_neg (by decide), if_neg (by decide), if_neg (by decide), if_neg (by decide), if_pos (by decide), bnd_e, bnd_e, zA1_2, r0, e4, zX_n hk (by omega), zX_n hk (by omega), bnd_e, cl_n (by omega), zI_zA1, zA1_s, hA, e1]
  unfold bX0_ask_321
  rw [nI_1]
theorem c_e11 (n L T c i v vv k : Nat) (sv y : Int32) (A : Nat → Int32) {σ : zS} (r0 : σ.2 153 0 = 154) (hk : k + 2 < 40) (hA : A (k + 2) = y) : askT (fX0_ask_11 n) 153 L sv (nI (T + 2 * c + 2)) (nI (k + 1 + 2)) (nI (i + 2 * c + 1)) (nI v) (nI (kd 11)) (nI (nm c 11 vv)) (zA1 σ 154 A) = if y = 0 then fX0_ask_11 n 153 L sv (nI (T + 2 * c + 2)) (nI (k + 1 + 2)) (nI (vv + 2 * c + 1)) (nI (v + 1)) (zA1 σ 154 A) else fX0_ask_11 n 153 L sv (nI (T + 2 * c + 2)) (nI (k + 2)) (nI ((i + 1) + 2 * c + 1)) (nI (v + 1)) (zA1 σ 154 A) := by
  have e1 : nI (i + 2 * c + 1) + 1 = nI ((i + 1) + 2 * c + 1) := by rw [nI_1]; congr 1; omega
  have e4 : nI (k + 1 + 2) - 1 = nI (k + 2) := by rw [show k + 1 + 2 = (k + 2) + 1 by omega, nI_pred]
  have e5 : nI (k + 1 + 2) + (-1) = nI (k + 2) := by rw [show k + 1 + 2 = (k + 2) + 1 by omega, pk_m1]
  unfold askT
  rw [if_neg (by decide), if_neg (by decide), if_neg (by decide), if_neg (by decide), if_neg (by decide), if_pos (by decide), bnd_e, zA1_2, r0, e4, zX_n hk (by omega), cl_n (by omega), zA1_s, hA, e1]
  unfold bX0_ask_225 bX0_ask_237 bX0_ask_321
  rw [e5, nI_1, show nm c 11 vv = vv + 2 * c + 1 from rfl, if_neg (show ¬ nI (kd 11) = 6 by decide), if_neg (show ¬ nI (kd 11) = 6 by decide), if_pos (show (0 : Int32) = 0 from rfl), if_neg n10]
theorem c_e12 (n L T c i v vv k : Nat) (sv y : Int32) (A : Nat → Int32) {σ : zS} (r0 : σ.2 153 0 = 154) (hk : k + 2 < 40) (hA : A (k + 2) = y) (hy : y = 0 ∨ y = 1) : askT (fX0_ask_11 n) 153 L sv (nI (T + 2 * c + 2)) (nI (k + 1 + 2)) (nI (i + 2 * c + 1)) (nI v) (nI (kd 12)) (nI (nm c 12 vv)) (zA1 σ 154 A) = if y = 1 then fX0_ask_11 n 153 L sv (nI (T + 2 * c + 2)) (nI (k + 1 + 2)) (nI (vv + 2 * c + 1)) (nI (v + 1)) (zA1 σ 154 A) else fX0_ask_11 n 153 L sv (nI (T + 2 * c + 2)) (nI (k + 2)) (nI ((i + 1) + 2 * c + 1)) (nI (v + 1)) (zA1 σ 154 A) := by
  have e1 : nI (i + 2 * c + 1) + 1 = nI ((i + 1) + 2 * c + 1) := by rw [nI_1]; congr 1; omega
  have e4 : nI (k + 1 + 2) - 1 = nI (k + 2) := by rw [show k + 1 + 2 = (k + 2) + 1 by omega, nI_pred]
  have e5 : nI (k + 1 + 2) + (-1) = nI (k + 2) := by rw [show k + 1 + 2 = (k + 2) + 1 by omega, pk_m1]
  unfold askT
  rw [if_neg (by decide), if_neg (by decide), if_neg (by decide), if_neg (by decide), if_neg (by decide), if_neg (by decide), if_pos (by decide), bnd_e, zA1_2, r0, e4, zX_n hk (by omega), cl_n (by omega), zA1_s, hA, e1]
  unfold bX0_ask_225 bX0_ask_237 bX0_ask_321
  rw [e5, nI_1, show nm c 12 vv = vv + 2 * c + 1 from rfl, if_pos (show nI (kd 12) = 6 by decide), if_pos (show nI (kd 12) = 6 by decide), if_pos (show (1 : Int32) = 1 from rfl), if_neg (show ¬ (0 : Int32) = 1 by decide)]
  rcases hy with y0 | y0
  · rw [if_pos y0, if_neg (show ¬ y = 1 by rw [y0]; decide)]
  · rw [if_neg (show ¬ y = 0 by rw [y0]; decide), if_pos y0]
theorem c_e1a (n L T c i v ac : Nat) (sv y : Int32) (A : Nat → Int32) {σ : zS} (r0 : σ.2 153 0 = 154) (hA : A 2 = y) : askT (fX0_ask_11 n) 153 L sv (nI (T + 2 * c + 2)) (nI 3) (nI (T + 2 * c + 1)) (nI v) (nI 1) (nI ac) (zA1 σ 154 A) = if y = 0 then fX0_ask_11 n 153 L sv (nI (T + 2 * c + 2)) (nI 2) (nI (T + 2 * c + 2)) (nI (v + 1)) (zA1 σ 154 A) else some (nI ac, zA1 σ 154 A) := by
  unfold askT
  rw [if_neg (by decide), if_pos (by decide), bnd_e, zA1_2, r0, show nI 3 + (-1) = nI 2 from pk_m1 2, zX_n (by omega) (by omega), cl_n (by omega), zA1_s, hA]
  unfold bX0_ask_321
  rw [nI_1, nI_1]
theorem c_e288 (n L T c i v k o : Nat) (sv y z : Int32) (A : Nat → Int32) {σ : zS} (r0 : σ.2 153 0 = 154) (hk : k + 4 < 40) (hy1 : A (k + 3) = y) (hz1 : A (k + 2) = z) (h1 : 2 ≤ o) (h2 : o ≤ 9) (hne : ¬ ((o = 5 ∨ o = 6) ∧ y = 0)) : bX0_ask_288 (bX0_ask_321 (fX0_ask_11 n)) 153 L sv (nI (T + 2 * c + 2)) (nI (k + 4)) (nI ((i + 1) + 2 * c + 1)) (nI v) (nI (kd o)) (zA1 σ 154 A) = fX0_ask_11 n 153 L sv (nI (T + 2 * c + 2)) (nI (k + 3)) (nI ((i + 1) + 2 * c + 1)) (nI (v + 1)) (zA1 σ 154 (upd A (k + 2) (rk o z y))) := by
  have e5 : nI (k + 4) + (-1) = nI (k + 3) := pk_m1 (k + 3)
  have e6 : nI (k + 3) - 1 = nI (k + 2) := nI_pred (k + 2)
  unfold bX0_ask_288
  rw [bnd_e, bnd_e, zA1_2, r0, e5, e6, zX_n (n := 40) (by omega) (by omega), bnd_e, zX_n (n := 40) (by omega) (by omega), cl_n (i := k + 3) (by omega), cl_n (i := k + 2) (by omega), zA1_s, hy1, hz1, c_reckon o h1 h2 z y hne, zb_s, zX_n (n := 40) (by omega) (by omega), bnd_e, zI_zA1]
  unfold bX0_ask_321
  rw [nI_1]
theorem c_e2 (n L T c i v k o num : Nat) (sv y z : Int32) (A : Nat → Int32) {σ : zS} (r0 : σ.2 153 0 = 154) (hk : k + 4 < 40) (hy1 : A (k + 3) = y) (hz1 : A (k + 2) = z) (h1 : 2 ≤ o) (h2 : o ≤ 9) : askT (fX0_ask_11 n) 153 L sv (nI (T + 2 * c + 2)) (nI (k + 4)) (nI (i + 2 * c + 1)) (nI v) (nI (kd o)) (nI num) (zA1 σ 154 A) = if (o = 5 ∨ o = 6) ∧ y = 0 then fX0_ask_11 n 153 L sv (nI (T + 2 * c + 2)) (nI 2) (nI (T + 2 * c + 2)) (nI (v + 1)) (zA1 σ 154 A) else fX0_ask_11 n 153 L sv (nI (T + 2 * c + 2)) (nI (k + 3)) (nI ((i + 1) + 2 * c + 1)) (nI (v + 1)) (zA1 σ 154 (upd A (k + 2) (rk o z y))) := by
  have e1 : nI (i + 2 * c + 1) + 1 = nI ((i + 1) + 2 * c + 1) := by rw [nI_1]; congr 1; omega
  have e4 : nI (k + 4) - 1 = nI (k + 3) := nI_pred (k + 3)
  have kds : 7 ≤ kd o ∧ kd o ≤ 14 ∧ (kd o = 10 ∨ kd o = 11 ↔ o = 5 ∨ o = 6) := by
    rcases (show o = 2 ∨ o = 3 ∨ o = 4 ∨ o = 5 ∨ o = 6 ∨ o = 7 ∨ o = 8 ∨ o = 9 by omega) with h | h | h | h | h | h | h | h <;> rw [h] <;> decide
  have g := c_e288 n L T c i v k o sv y z A r0 hk hy1 hz1 h1 h2
  generalize kd o = K at *
  have n0 : ∀ (cc : Nat) (vv : Int32), vv = nI cc → cc < 2 ^ 31 → ¬ K = cc → ¬ nI K = vv := fun cc vv hv hc h q => h ((nI_eq (by omega) hc).mp (q.trans hv))
  unfold askT
  rw [if_neg (n0 0 (0 : Int32) rfl (by omega) (by omega)), if_neg (n0 1 (1 : Int32) rfl (by omega) (by omega)), if_neg (n0 2 (2 : Int32) rfl (by omega) (by omega)), if_neg (n0 3 (3 : Int32) rfl (by omega) (by omega)), if_neg (n0 4 (4 : Int32) rfl (by omega) (by omega)), if_neg (n0 5 (5 : Int32) rfl (by omega) (by omega)), if_neg (n0 6 (6 : Int32) rfl (by omega) (by omega))]
  rw [bnd_e, zA1_2, r0, e4, zX_n (n := 40) (by omega) (by omega), cl_n (i := k + 3) (by omega), zA1_s, hy1, e1]
  by_cases y0 : y = 0
  · rw [if_pos y0]
    by_cases h56 : o = 5 ∨ o = 6
    · rw [if_pos (show (o = 5 ∨ o = 6) ∧ y = 0 from ⟨h56, y0⟩)]
      unfold bX0_ask_279 bX0_ask_321
      rw [nI_1, show (2 : Int32) = nI 2 from rfl]
      rcases kds.2.2.mpr h56 with hh | hh
      · rw [hh, if_pos (show nI 10 = 10 by decide)]
      · rw [hh, if_neg (show ¬ nI 11 = 10 by decide), if_pos (show nI 11 = 11 by decide)]
    · rw [if_neg (show ¬ ((o = 5 ∨ o = 6) ∧ y = 0) from fun q => h56 q.1), if_neg (n0 10 (10 : Int32) rfl (by omega) (fun q => h56 (kds.2.2.mp (Or.inl q)))), if_neg (n0 11 (11 : Int32) rfl (by omega) (fun q => h56 (kds.2.2.mp (Or.inr q))))]
      exact g (fun q => h56 q.1)
  · rw [if_neg y0, if_neg (show ¬ ((o = 5 ∨ o = 6) ∧ y = 0) from fun q => y0 q.2)]
    exact g (fun q => y0 q.2)
