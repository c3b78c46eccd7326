section
/-! ===== a text read: the reference's way, told without its store ===== -/
def uN (f : Nat → Nat) (k x : Nat) : Nat → Nat := fun j => if j = k then x else f j
theorem uN_s {f : Nat → Nat} {k x : Nat} : uN f k x k = x := if_pos rfl
theorem uN_o {f : Nat → Nat} {k x j : Nat} (h : ¬ j = k) : uN f k x j = f j := if_neg h
abbrev zX0 : Type := Option (Nat ⊕ (Nat × (Nat → Nat) × Nat))
def ssg (x : Int32) : Nat := if x = 43 then 2 else if x = 45 then 3 else if x = 42 then 4 else if x = 47 then 5 else if x = 37 then 6 else 0
def fcO (x : Int32) : Nat := if x = 97 then 3 else if x = 98 then 4 else if x = 103 then 0 else if x = 107 then 11 else if x = 108 then 6 else if x = 110 then 1 else if x = 112 then 5 else if x = 113 then 10 else if x = 115 then 8 else if x = 116 then 7 else if x = 119 then 9 else if x = 122 then 2 else 12
def cmO (x : Int32) : Nat := if x = 60 then 7 else if x = 62 then 8 else if x = 61 then 9 else 0
def dgt (x : Int32) : Bool := decide (¬ x < 48 ∧ ¬ 57 < x)
/-- a number: j digits may follow -/
def nmb (sg : Nat → Int32) : Nat → Nat → Nat → Nat × Nat × Bool
  | 0, p, v => (p, v, !dgt (sg p))
  | j + 1, p, v => if dgt (sg p) = true then nmb sg j (p + 1) (10 * v + ((sg p).toNatClampNeg - 48)) else (p, v, true)
def hsO : List Nat → Bool
  | [] => false
  | w :: W => decide (w / 1048576 = 14) || hsO W
def yC (al : Bool) : List Nat → (Nat → Nat) → Nat → List Nat × (Nat → Nat) × Nat
  | [], cd, k => ([], cd, k)
  | w :: W, cd, k => if (4 ≤ w / 1048576 ∧ w / 1048576 ≤ 6) ∨ (al = true ∧ (w / 1048576 = 2 ∨ w / 1048576 = 3)) then yC al W (uN cd k (1048576 * (w / 1048576))) (k + 1) else (w :: W, cd, k)
def yF (sg : Nat → Int32) (K : Nat → Nat → List Nat → (Nat → Nat) → Nat → zX0) : Nat → Nat → Nat → List Nat → (Nat → Nat) → Nat → zX0
  | 0, _, _, _, _, _ => none
  | n + 1, p, o, W, cd, k => if sg p = 91 then (if o = 6 then some (.inl (5000 + p)) else yF sg K n (p + 1) (o + 1) (14680064 :: W) cd k)
    else if dgt (sg p) = true then (if (nmb sg 5 p 0).2.2 = true then K (nmb sg 5 p 0).1 o W (uN cd k (nmb sg 5 p 0).2.1) (k + 1) else some (.inl (2000 + (nmb sg 5 p 0).1)))
    else if fcO (sg p) < 12 then K (p + 1) o W (uN cd k (1048576 + fcO (sg p))) (k + 1) else some (.inl (1000 + p))
def yL (sg : Nat → Int32) (Kd : Nat → Nat → (Nat → Nat) → Nat → zX0) : Nat → Nat → Nat → List Nat → (Nat → Nat) → Nat → zX0
  | 0, _, _, _, _, _ => none
  | n + 1, p, o, W, cd, k => if ¬ ssg (sg p) = 0 then yF sg (yL sg Kd n) zFU (p + 1) o (1048576 * ssg (sg p) :: (yC (decide (ssg (sg p) < 4)) W cd k).1) (yC (decide (ssg (sg p) < 4)) W cd k).2.1 (yC (decide (ssg (sg p) < 4)) W cd k).2.2
    else if sg p = 93 ∧ hsO W = true then (match (yC true W cd k).1 with
      | [] => none
      | w :: W2 => if w = 14680064 then yL sg Kd n (p + 1) (o - 1) W2 (yC true W cd k).2.1 (yC true W cd k).2.2 else none)
    else if hsO W = true then some (.inl (1000 + p))
    else (match (yC true W cd k).1 with
      | [] => Kd p o (yC true W cd k).2.1 (yC true W cd k).2.2
      | _ :: _ => none)
def yCmp (sg : Nat → Int32) (Kc : Nat → Nat → (Nat → Nat) → Nat → zX0) (p o : Nat) (cd : Nat → Nat) (k : Nat) : zX0 :=
  yF sg (yL sg (fun p1 o1 cd1 k1 => if cmO (sg p1) = 0 then some (.inl (1000 + p1)) else yF sg (yL sg (fun p2 o2 cd2 k2 => Kc p2 o2 (uN cd2 k2 (1048576 * cmO (sg p1))) (k2 + 1)) zFU) zFU (p1 + 1) o1 [] cd1 k1) zFU) zFU p o [] cd k
def yE : List Nat → Nat → (Nat → Nat) → Nat → List Nat × Nat × (Nat → Nat) × Nat
  | [], o, cd, k => ([], o, cd, k)
  | w :: W, o, cd, k => if w / 1048576 = 10 then yE W (o - 1) (uN cd k 10485760) (k + 1) else (w :: W, o, cd, k)
def yD (al : Bool) : List Nat → (Nat → Nat) → Nat → List Nat × (Nat → Nat)
  | [], cd, _ => ([], cd)
  | w :: W, cd, k => if w / 1048576 = 11 ∨ (al = true ∧ w / 1048576 = 12) then yD al W (uN cd (w % 1048576) (1048576 * (cd (w % 1048576) / 1048576) + k)) k else (w :: W, cd)
def yA (sg : Nat → Int32) (KP : Nat → Nat → List Nat → (Nat → Nat) → Nat → zX0) : Nat → Nat → Nat → List Nat → (Nat → Nat) → Nat → zX0
  | 0, _, _, _, _, _ => none
  | m + 1, p, o, W, cd, k => if sg p = 41 then (match (yD true W cd k).1 with
      | [] => none
      | w :: W2 => if w = 13631488 then (if W2 = [] then some (.inr (p + 1, (yD true W cd k).2, k)) else yA sg KP m (p + 1) (yE W2 (o - 1) (yD true W cd k).2 k).2.1 (yE W2 (o - 1) (yD true W cd k).2 k).1 (yE W2 (o - 1) (yD true W cd k).2 k).2.2.1 (yE W2 (o - 1) (yD true W cd k).2 k).2.2.2) else none)
    else if sg p = 38 then KP (p + 1) o ((11534336 + k) :: (yD false W cd k).1) (uN (yD false W cd k).2 k 11534336) (k + 1)
    else if sg p = 124 then KP (p + 1) o ((12582912 + k) :: (yD true W cd k).1) (uN (yD true W cd k).2 k 12582912) (k + 1)
    else some (.inl (1000 + p))
def yP (sg : Nat → Int32) : Nat → Nat → Nat → List Nat → (Nat → Nat) → Nat → zX0
  | 0, _, _, _, _, _ => none
  | n + 1, p, o, W, cd, k => if sg p = 33 then (if o = 6 then some (.inl (5000 + p)) else yP sg n (p + 1) (o + 1) (10485760 :: W) cd k)
    else if sg p = 40 then (if o = 6 then some (.inl (5000 + p)) else yP sg n (p + 1) (o + 1) (13631488 :: W) cd k)
    else yCmp sg (fun p2 o2 cd2 k2 => yA sg (yP sg n) zFU p2 (yE W o2 cd2 k2).2.1 (yE W o2 cd2 k2).1 (yE W o2 cd2 k2).2.2.1 (yE W o2 cd2 k2).2.2.2) p o cd k
/-! what a run comes to, whatever the rounds, if there are enough -/
def yRF (sg : Nat → Int32) (Kd : Nat → Nat → (Nat → Nat) → Nat → zX0) (p o : Nat) (W : List Nat) (cd : Nat → Nat) (k : Nat) (x : zX0) : Prop := ∀ n N, 200 ≤ n + p → 200 ≤ N + p → yF sg (yL sg Kd n) N p o W cd k = x
def yRL (sg : Nat → Int32) (Kd : Nat → Nat → (Nat → Nat) → Nat → zX0) (p o : Nat) (W : List Nat) (cd : Nat → Nat) (k : Nat) (x : zX0) : Prop := ∀ n, 200 ≤ n + p → yL sg Kd n p o W cd k = x
def yRP (sg : Nat → Int32) (p o : Nat) (W : List Nat) (cd : Nat → Nat) (k : Nat) (x : zX0) : Prop := ∀ n, 200 ≤ n + p → yP sg n p o W cd k = x
def yRA (sg : Nat → Int32) (p o : Nat) (W : List Nat) (cd : Nat → Nat) (k : Nat) (x : zX0) : Prop := ∀ n m, 200 ≤ n + p → 200 ≤ m + p → yA sg (yP sg n) m p o W cd k = x
def yRE (sg : Nat → Int32) (p o : Nat) (W : List Nat) (cd : Nat → Nat) (k : Nat) (x : zX0) : Prop := yRA sg p (yE W o cd k).2.1 (yE W o cd k).1 (yE W o cd k).2.2.1 (yE W o cd k).2.2.2 x
section
variable {sg : Nat → Int32} {Kd : Nat → Nat → (Nat → Nat) → Nat → zX0} {p o k : Nat} {W : List Nat} {cd : Nat → Nat} {x : zX0}
theorem RF_open (hp : p < 150) (h : sg p = 91) (ho : ¬ o = 6) (r : yRF sg Kd (p + 1) (o + 1) (14680064 :: W) cd k x) : yRF sg Kd p o W cd k x := by
  intro n N hn hN
  obtain ⟨N, rfl⟩ : ∃ m, N = m + 1 := ⟨N - 1, by omega⟩
  rw [yF, if_pos h, if_neg ho]
  exact r n N (by omega) (by omega)
theorem RF_six (hp : p < 150) (h : sg p = 91) (ho : o = 6) : yRF sg Kd p o W cd k (some (.inl (5000 + p))) := by
  intro n N hn hN
  obtain ⟨N, rfl⟩ : ∃ m, N = m + 1 := ⟨N - 1, by omega⟩
  rw [yF, if_pos h, if_pos ho]
theorem RF_let (hp : p < 150) (h : ¬ sg p = 91) (h2 : ¬ dgt (sg p) = true) (h3 : fcO (sg p) < 12) (r : yRL sg Kd (p + 1) o W (uN cd k (1048576 + fcO (sg p))) (k + 1) x) : yRF sg Kd p o W cd k x := by
  intro n N hn hN
  obtain ⟨N, rfl⟩ : ∃ m, N = m + 1 := ⟨N - 1, by omega⟩
  rw [yF, if_neg h, if_neg h2, if_pos h3]
  exact r n (by omega)
theorem RF_no (hp : p < 150) (h : ¬ sg p = 91) (h2 : ¬ dgt (sg p) = true) (h3 : ¬ fcO (sg p) < 12) : yRF sg Kd p o W cd k (some (.inl (1000 + p))) := by
  intro n N hn hN
  obtain ⟨N, rfl⟩ : ∃ m, N = m + 1 := ⟨N - 1, by omega⟩
  rw [yF, if_neg h, if_neg h2, if_neg h3]
theorem RF_num (hp : p < 150) {q v : Nat} (h : ¬ sg p = 91) (h2 : dgt (sg p) = true) (h3 : nmb sg 5 p 0 = (q, v, true)) (hq : p ≤ q) (r : yRL sg Kd q o W (uN cd k v) (k + 1) x) : yRF sg Kd p o W cd k x := by
  intro n N hn hN
  obtain ⟨N, rfl⟩ : ∃ m, N = m + 1 := ⟨N - 1, by omega⟩
  rw [yF, if_neg h, if_pos h2, h3, if_pos rfl]
  exact r n (by omega)
theorem RF_big (hp : p < 150) {q v : Nat} (h : ¬ sg p = 91) (h2 : dgt (sg p) = true) (h3 : nmb sg 5 p 0 = (q, v, false)) : yRF sg Kd p o W cd k (some (.inl (2000 + q))) := by
  intro n N hn hN
  obtain ⟨N, rfl⟩ : ∃ m, N = m + 1 := ⟨N - 1, by omega⟩
  rw [yF, if_neg h, if_pos h2, h3, if_neg (fun q => by cases q)]
theorem RL_sign (hp : p < 150) (h : ¬ ssg (sg p) = 0) {W2 : List Nat} {cd2 : Nat → Nat} {k2 : Nat} (e : yC (decide (ssg (sg p) < 4)) W cd k = (W2, cd2, k2)) (r : yRF sg Kd (p + 1) o (1048576 * ssg (sg p) :: W2) cd2 k2 x) : yRL sg Kd p o W cd k x := by
  intro n hn
  obtain ⟨n, rfl⟩ : ∃ m, n = m + 1 := ⟨n - 1, by omega⟩
  rw [yL, if_pos h, e]
  exact r n zFU (by omega) (by unfold zFU; omega)
theorem yC_mul (al : Bool) {m : Nat} (h1 : 4 ≤ m) (h2 : m ≤ 6) : yC al (1048576 * m :: W) cd k = yC al W (uN cd k (1048576 * m)) (k + 1) := by
  have e : 1048576 * m / 1048576 = m := Nat.mul_div_cancel_left m (by omega)
  rw [yC, e, if_pos (Or.inl ⟨h1, h2⟩)]
theorem yC_add {m : Nat} (h : m = 2 ∨ m = 3) : yC true (1048576 * m :: W) cd k = yC true W (uN cd k (1048576 * m)) (k + 1) := by
  have e : 1048576 * m / 1048576 = m := Nat.mul_div_cancel_left m (by omega)
  rw [yC, e, if_pos (Or.inr ⟨rfl, h⟩)]
theorem hsO_c {m : Nat} (h : ¬ m = 14) : hsO (1048576 * m :: W) = hsO W := by
  have e : 1048576 * m / 1048576 = m := Nat.mul_div_cancel_left m (by omega)
  rw [hsO, e, decide_eq_false h, Bool.false_or]
theorem RL_mul {m : Nat} (h1 : 4 ≤ m) (h2 : m ≤ 6) (hp : p < 150) (r : yRL sg Kd p o W (uN cd k (1048576 * m)) (k + 1) x) : yRL sg Kd p o (1048576 * m :: W) cd k x := by
  intro n hn
  have := r n hn
  obtain ⟨n, rfl⟩ : ∃ m, n = m + 1 := ⟨n - 1, by omega⟩
  rw [yL] at this ⊢
  rw [yC_mul _ h1 h2, yC_mul _ h1 h2, hsO_c (by omega)]
  exact this
theorem RL_add {m : Nat} (h : m = 2 ∨ m = 3) (hp : p < 150) (hs : ssg (sg p) < 4) (r : yRL sg Kd p o W (uN cd k (1048576 * m)) (k + 1) x) : yRL sg Kd p o (1048576 * m :: W) cd k x := by
  intro n hn
  have := r n hn
  obtain ⟨n, rfl⟩ : ∃ m, n = m + 1 := ⟨n - 1, by omega⟩
  rw [yL, decide_eq_true hs] at this ⊢
  rw [yC_add h, hsO_c (by omega)]
  exact this
theorem yC_14 (al : Bool) : yC al (14680064 :: W) cd k = (14680064 :: W, cd, k) := by
  rw [yC, if_neg]
  intro q
  rcases q with q | q <;> omega
theorem hsO_14 : hsO (14680064 :: W) = true := rfl
theorem RL_close (hp : p < 150) (h : ssg (sg p) = 0) (h2 : sg p = 93) (r : yRL sg Kd (p + 1) (o - 1) W cd k x) : yRL sg Kd p o (14680064 :: W) cd k x := by
  intro n hn
  obtain ⟨n, rfl⟩ : ∃ m, n = m + 1 := ⟨n - 1, by omega⟩
  rw [yL, if_neg (fun q => q h), if_pos ⟨h2, hsO_14⟩, yC_14]
  show (if (14680064 : Nat) = 14680064 then _ else _) = x
  rw [if_pos rfl]
  exact r n (by omega)
theorem RL_nocl (hp : p < 150) (h : ssg (sg p) = 0) (h2 : ¬ sg p = 93) : yRL sg Kd p o (14680064 :: W) cd k (some (.inl (1000 + p))) := by
  intro n hn
  obtain ⟨n, rfl⟩ : ∃ m, n = m + 1 := ⟨n - 1, by omega⟩
  rw [yL, if_neg (fun q => q h), if_neg (fun q => h2 q.1), if_pos hsO_14]
theorem RL_done (hp : p < 150) (h : ssg (sg p) = 0) : yRL sg Kd p o [] cd k (Kd p o cd k) := by
  intro n hn
  obtain ⟨n, rfl⟩ : ∃ m, n = m + 1 := ⟨n - 1, by omega⟩
  rw [yL, if_neg (fun q => q h), if_neg (fun q => by cases q.2), if_neg (by decide)]
  rfl
/-! pieces -/
theorem yE_no {w : Nat} (h : ¬ w / 1048576 = 10) : yE (w :: W) o cd k = (w :: W, o, cd, k) := by rw [yE, if_neg h]
theorem RE_no {w : Nat} (h : ¬ w / 1048576 = 10) (r : yRA sg p o (w :: W) cd k x) : yRE sg p o (w :: W) cd k x := by
  unfold yRE
  rw [yE_no h]
  exact r
theorem RE_not (r : yRE sg p (o - 1) W (uN cd k 10485760) (k + 1) x) : yRE sg p o (10485760 :: W) cd k x := r
theorem RP_not (hp : p < 150) (h : sg p = 33) (ho : ¬ o = 6) (r : yRP sg (p + 1) (o + 1) (10485760 :: W) cd k x) : yRP sg p o W cd k x := by
  intro n hn
  obtain ⟨n, rfl⟩ : ∃ m, n = m + 1 := ⟨n - 1, by omega⟩
  rw [yP, if_pos h, if_neg ho]
  exact r n (by omega)
theorem RP_not6 (hp : p < 150) (h : sg p = 33) (ho : o = 6) : yRP sg p o W cd k (some (.inl (5000 + p))) := by
  intro n hn
  obtain ⟨n, rfl⟩ : ∃ m, n = m + 1 := ⟨n - 1, by omega⟩
  rw [yP, if_pos h, if_pos ho]
theorem RP_par (hp : p < 150) (h : sg p = 40) (ho : ¬ o = 6) (r : yRP sg (p + 1) (o + 1) (13631488 :: W) cd k x) : yRP sg p o W cd k x := by
  intro n hn
  obtain ⟨n, rfl⟩ : ∃ m, n = m + 1 := ⟨n - 1, by omega⟩
  rw [yP, if_neg (by rw [h]; decide), if_pos h, if_neg ho]
  exact r n (by omega)
theorem RP_par6 (hp : p < 150) (h : sg p = 40) (ho : o = 6) : yRP sg p o W cd k (some (.inl (5000 + p))) := by
  intro n hn
  obtain ⟨n, rfl⟩ : ∃ m, n = m + 1 := ⟨n - 1, by omega⟩
  rw [yP, if_neg (by rw [h]; decide), if_pos h, if_pos ho]
/-- a comparison: both sums, then the piece's end -/
theorem RP_cmp (hp : p < 150) (h : ¬ sg p = 33) (h2 : ¬ sg p = 40) (r : ∀ Kc : Nat → Nat → (Nat → Nat) → Nat → zX0, (∀ p2 o2 cd2 k2 y, p < p2 → yRE sg p2 o2 W cd2 k2 y → Kc p2 o2 cd2 k2 = y) → yCmp sg Kc p o cd k = x) : yRP sg p o W cd k x := by
  intro n hn
  obtain ⟨n, rfl⟩ : ∃ m, n = m + 1 := ⟨n - 1, by omega⟩
  rw [yP, if_neg h, if_neg h2]
  refine r _ (fun p2 o2 cd2 k2 y hle hy => ?_)
  exact hy n zFU (by omega) (by unfold zFU; omega)
theorem yD_no (al : Bool) {w : Nat} (h : ¬ w / 1048576 = 11) (h2 : ¬ (al = true ∧ w / 1048576 = 12)) : yD al (w :: W) cd k = (w :: W, cd) := by
  rw [yD, if_neg]
  intro q
  rcases q with q | q
  · exact h q
  · exact h2 q
/-- ')' closes the innermost -/
theorem RA_close (hp : p < 150) (h : sg p = 41) (hW : ¬ W = []) (r : yRE sg (p + 1) (o - 1) W cd k x) : yRA sg p o (13631488 :: W) cd k x := by
  intro n m hn hm
  obtain ⟨m, rfl⟩ : ∃ j, m = j + 1 := ⟨m - 1, by omega⟩
  rw [yA, if_pos h, yD_no true (by omega) (fun q => by have := q.2; omega)]
  show (if (13631488 : Nat) = 13631488 then _ else _) = x
  rw [if_pos rfl, if_neg hW]
  exact r n m (by omega) (by omega)
theorem RA_end (hp : p < 150) (h : sg p = 41) : yRA sg p o [13631488] cd k (some (.inr (p + 1, cd, k))) := by
  intro n m hn hm
  obtain ⟨m, rfl⟩ : ∃ j, m = j + 1 := ⟨m - 1, by omega⟩
  rw [yA, if_pos h, yD_no true (by omega) (fun q => by have := q.2; omega)]
  show (if (13631488 : Nat) = 13631488 then _ else _) = _
  rw [if_pos rfl, if_pos rfl]
theorem RA_and (hp : p < 150) (h : sg p = 38) {w : Nat} (hw : ¬ w / 1048576 = 11) (r : yRP sg (p + 1) o ((11534336 + k) :: w :: W) (uN cd k 11534336) (k + 1) x) : yRA sg p o (w :: W) cd k x := by
  intro n m hn hm
  obtain ⟨m, rfl⟩ : ∃ j, m = j + 1 := ⟨m - 1, by omega⟩
  rw [yA, if_neg (by rw [h]; decide), if_pos h, yD_no false hw (fun q => by cases q.1)]
  exact r n (by omega)
theorem RA_or (hp : p < 150) (h : sg p = 124) {w : Nat} (hw : ¬ w / 1048576 = 11) (hw2 : ¬ w / 1048576 = 12) (r : yRP sg (p + 1) o ((12582912 + k) :: w :: W) (uN cd k 12582912) (k + 1) x) : yRA sg p o (w :: W) cd k x := by
  intro n m hn hm
  obtain ⟨m, rfl⟩ : ∃ j, m = j + 1 := ⟨m - 1, by omega⟩
  rw [yA, if_neg (by rw [h]; decide), if_neg (by rw [h]; decide), if_pos h, yD_no true hw (fun q => hw2 q.2)]
  exact r n (by omega)
theorem RA_no (hp : p < 150) (h : ¬ sg p = 41) (h2 : ¬ sg p = 38) (h3 : ¬ sg p = 124) : yRA sg p o W cd k (some (.inl (1000 + p))) := by
  intro n m hn hm
  obtain ⟨m, rfl⟩ : ∃ j, m = j + 1 := ⟨m - 1, by omega⟩
  rw [yA, if_neg h, if_neg h2, if_neg h3]
/-- a jump that waits on top, landed -/
theorem RA_land11 {j : Nat} (hj : j < 1048576) (hp : p < 150) (hc : cd j = 11534336) (r : yRA sg p o W (uN cd j (11534336 + k)) k x) : yRA sg p o ((11534336 + j) :: W) cd k x := by
  intro n m hn hm
  have := r n m hn hm
  obtain ⟨m, rfl⟩ : ∃ j, m = j + 1 := ⟨m - 1, by omega⟩
  have e : ∀ al, yD al ((11534336 + j) :: W) cd k = yD al W (uN cd j (11534336 + k)) k := by
    intro al
    rw [yD, if_pos (Or.inl (by omega)), show (11534336 + j) % 1048576 = j by omega, hc]
  rw [yA] at this ⊢
  rw [e, e]
  exact this
theorem RA_land12 {j : Nat} (hj : j < 1048576) (hp : p < 150) (hs : ¬ sg p = 38) (hc : cd j = 12582912) (r : yRA sg p o W (uN cd j (12582912 + k)) k x) : yRA sg p o ((12582912 + j) :: W) cd k x := by
  intro n m hn hm
  have := r n m hn hm
  obtain ⟨m, rfl⟩ : ∃ j, m = j + 1 := ⟨m - 1, by omega⟩
  have e : yD true ((12582912 + j) :: W) cd k = yD true W (uN cd j (12582912 + k)) k := by
    rw [yD, if_pos (Or.inr ⟨rfl, by omega⟩), show (12582912 + j) % 1048576 = j by omega, hc]
  rw [yA, if_neg hs] at this ⊢
  rw [e]
  exact this
end
/-! ===== pieces of code that leave one value ===== -/
def stp (op d : Nat) : Nat := if op ≤ 1 then d + 1 else if op = 10 then d else d - 1
def WI (cd D : Nat → Nat) (k k' i : Nat) : Prop := (cd i / 1048576 = 0) ∨ (cd i / 1048576 = 1 ∧ cd i % 1048576 < 12) ∨ (cd i / 1048576 = 10 ∧ 1 ≤ D i ∧ k < i ∧ 7 ≤ cd (i - 1) / 1048576 ∧ cd (i - 1) / 1048576 ≤ 10) ∨ ((cd i / 1048576 = 11 ∨ cd i / 1048576 = 12) ∧ 1 ≤ D i ∧ (k < i ∧ 7 ≤ cd (i - 1) / 1048576 ∧ cd (i - 1) / 1048576 ≤ 10) ∧ i < cd i % 1048576 ∧ cd i % 1048576 ≤ k' ∧ D (cd i % 1048576) = D i) ∨ (2 ≤ cd i / 1048576 ∧ cd i / 1048576 ≤ 9 ∧ 2 ≤ D i)
def SEG (cd : Nat → Nat) (k k' h : Nat) : Prop := k < k' ∧ ∀ D : Nat → Nat, (∀ i, k ≤ i → i < k' → D (i + 1) = stp (cd i / 1048576) (D i)) → D k' = D k + 1 ∧ ∀ i, k ≤ i → i < k' → D i ≤ D k + h ∧ WI cd D k k' i
/-- the last of it tells a truth -/
def LB (cd : Nat → Nat) (k' : Nat) : Prop := 1 ≤ k' ∧ 7 ≤ cd (k' - 1) / 1048576 ∧ cd (k' - 1) / 1048576 ≤ 10
theorem SEG_up {cd : Nat → Nat} {k k' h h' : Nat} (s : SEG cd k k' h) (e : h ≤ h') : SEG cd k k' h' := ⟨s.1, fun D hD => ⟨(s.2 D hD).1, fun i a b => ⟨Nat.le_trans ((s.2 D hD).2 i a b).1 (by omega), ((s.2 D hD).2 i a b).2⟩⟩⟩
theorem SEG_c {cd cd' : Nat → Nat} {k k' h : Nat} (s : SEG cd k k' h) (e : ∀ i, k ≤ i → i < k' → cd' i = cd i) : SEG cd' k k' h := by
  refine ⟨s.1, fun D hD => ?_⟩
  obtain ⟨h1, h2⟩ := s.2 D (fun i a b => by rw [← e i a b]; exact hD i a b)
  refine ⟨h1, fun i a b => ⟨(h2 i a b).1, ?_⟩⟩
  have hw := (h2 i a b).2
  unfold WI at hw ⊢
  rw [e i a b]
  by_cases q : k < i
  · rw [e (i - 1) (by omega) (by omega)]; exact hw
  · rcases hw with w | w | w | w | w
    · exact Or.inl w
    · exact Or.inr (Or.inl w)
    · exact absurd w.2.2.1 q
    · exact absurd w.2.2.1.1 q
    · exact Or.inr (Or.inr (Or.inr (Or.inr w)))
theorem WI_up {cd D : Nat → Nat} {k k1 k2 k' i : Nat} (w : WI cd D k1 k2 i) (h1 : k ≤ k1) (h2 : k2 ≤ k') : WI cd D k k' i := by
  unfold WI at w ⊢
  rcases w with w | w | w | w | w
  · exact Or.inl w
  · exact Or.inr (Or.inl w)
  · exact Or.inr (Or.inr (Or.inl ⟨w.1, w.2.1, by have := w.2.2.1; omega, w.2.2.2⟩))
  · exact Or.inr (Or.inr (Or.inr (Or.inl ⟨w.1, w.2.1, ⟨by have := w.2.2.1.1; omega, w.2.2.1.2⟩, w.2.2.2.1, by have := w.2.2.2.2.1; omega, w.2.2.2.2.2⟩)))
  · exact Or.inr (Or.inr (Or.inr (Or.inr w)))
theorem SEG_leaf {cd : Nat → Nat} {k : Nat} (h : cd k / 1048576 = 0 ∨ (cd k / 1048576 = 1 ∧ cd k % 1048576 < 12)) : SEG cd k (k + 1) 1 := by
  refine ⟨by omega, fun D hD => ⟨?_, fun i a b => ?_⟩⟩
  · rw [hD k (by omega) (by omega)]
    unfold stp
    rw [if_pos (by omega)]
  · have : i = k := by omega
    subst this
    refine ⟨by omega, ?_⟩
    rcases h with h | h
    · exact Or.inl h
    · exact Or.inr (Or.inl h)
/-- two values, then one of them -/
theorem SEG_op {cd : Nat → Nat} {k k1 k2 h : Nat} (s1 : SEG cd k k1 h) (s2 : SEG cd k1 k2 h) (hh : 1 ≤ h) (o1 : 2 ≤ cd k2 / 1048576) (o2 : cd k2 / 1048576 ≤ 9) : SEG cd k (k2 + 1) (h + 1) := by
  have l1 := s1.1
  have l2 := s2.1
  refine ⟨by omega, fun D hD => ?_⟩
  obtain ⟨a1, a2⟩ := s1.2 D (fun i x y => hD i x (by omega))
  obtain ⟨b1, b2⟩ := s2.2 D (fun i x y => hD i (by omega) (by omega))
  have e := hD k2 (by omega) (by omega)
  unfold stp at e
  rw [if_neg (by omega), if_neg (by omega)] at e
  refine ⟨by omega, fun i x y => ?_⟩
  rcases (show i < k1 ∨ (k1 ≤ i ∧ i < k2) ∨ i = k2 by omega) with q | q | q
  · obtain ⟨u, v⟩ := a2 i x q
    exact ⟨by omega, WI_up v (Nat.le_refl _) (by omega)⟩
  · obtain ⟨u, v⟩ := b2 i q.1 q.2
    exact ⟨by omega, WI_up v (by omega) (by omega)⟩
  · subst q
    exact ⟨by omega, Or.inr (Or.inr (Or.inr (Or.inr ⟨o1, o2, by omega⟩)))⟩
theorem SEG_not {cd : Nat → Nat} {k k1 h : Nat} (s1 : SEG cd k k1 h) (hh : 1 ≤ h) (hb : LB cd k1) (o1 : cd k1 / 1048576 = 10) : SEG cd k (k1 + 1) h := by
  have l1 := s1.1
  refine ⟨by omega, fun D hD => ?_⟩
  obtain ⟨a1, a2⟩ := s1.2 D (fun i x y => hD i x (by omega))
  have e := hD k1 (by omega) (by omega)
  unfold stp at e
  rw [if_neg (by omega), if_pos o1] at e
  refine ⟨by omega, fun i x y => ?_⟩
  rcases (show i < k1 ∨ i = k1 by omega) with q | q
  · obtain ⟨u, v⟩ := a2 i x q
    exact ⟨by omega, WI_up v (Nat.le_refl _) (by omega)⟩
  · subst q
    exact ⟨by omega, Or.inr (Or.inr (Or.inl ⟨o1, by omega, by omega, hb.2⟩))⟩
theorem SEG_jump {cd : Nat → Nat} {k k1 k2 h op : Nat} (s1 : SEG cd k k1 h) (s2 : SEG cd (k1 + 1) k2 h) (hh : 1 ≤ h) (hb : LB cd k1) (hk : k2 < 1048576) (o1 : op = 11 ∨ op = 12) (o2 : cd k1 = 1048576 * op + k2) : SEG cd k k2 h := by
  have l1 := s1.1
  have l2 := s2.1
  have q1 : cd k1 / 1048576 = op := by omega
  have q2 : cd k1 % 1048576 = k2 := by omega
  refine ⟨by omega, fun D hD => ?_⟩
  obtain ⟨a1, a2⟩ := s1.2 D (fun i x y => hD i x (by omega))
  obtain ⟨b1, b2⟩ := s2.2 D (fun i x y => hD i (by omega) (by omega))
  have e := hD k1 (by omega) (by omega)
  unfold stp at e
  rw [if_neg (by omega), if_neg (by omega)] at e
  refine ⟨by omega, fun i x y => ?_⟩
  rcases (show i < k1 ∨ i = k1 ∨ (k1 + 1 ≤ i ∧ i < k2) by omega) with q | q | q
  · obtain ⟨u, v⟩ := a2 i x q
    exact ⟨by omega, WI_up v (Nat.le_refl _) (by omega)⟩
  · subst q
    refine ⟨by omega, Or.inr (Or.inr (Or.inr (Or.inl ⟨by rw [q1]; exact o1, by omega, ⟨by omega, hb.2⟩, by omega, by omega, ?_⟩)))⟩
    rw [q2]
    omega
  · obtain ⟨u, v⟩ := b2 i q.1 q.2
    exact ⟨by omega, WI_up v (by omega) (by omega)⟩
end
