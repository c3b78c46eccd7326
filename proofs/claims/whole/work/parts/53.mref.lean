/-! ===== the reference: its references ===== -/
def mT (k : Nat) : Nat := match k with
  | 4 => 1
  | 5 => 2
  | 6 => 3
  | 7 => 4
  | 8 => 5
  | 9 => 6
  | 10 => 7
  | 20 => 8
  | 21 => 9
  | 22 => 10
  | 23 => 11
  | 24 => 12
  | 25 => 13
  | 26 => 14
  | 27 => 15
  | 28 => 16
  | 29 => 17
  | 30 => 18
  | 31 => 19
  | 32 => 20
  | 35 => 21
  | 38 => 22
  | 40 => 23
  | 41 => 24
  | 42 => 25
  | 43 => 26
  | 44 => 27
  | 45 => 28
  | 46 => 29
  | 47 => 30
  | 48 => 31
  | 49 => 32
  | 50 => 33
  | 51 => 34
  | 52 => 35
  | _ => 0
def mR (r : Nat → Nat → Nat) : Prop := ∀ k, ¬ mT k = 0 → r 0 k = mT k
theorem mm4 {r : Nat → Nat → Nat} (h : mR r) : r 0 4 = 1 := h 4 (by decide)
theorem mm5 {r : Nat → Nat → Nat} (h : mR r) : r 0 5 = 2 := h 5 (by decide)
theorem mm6 {r : Nat → Nat → Nat} (h : mR r) : r 0 6 = 3 := h 6 (by decide)
theorem mm7 {r : Nat → Nat → Nat} (h : mR r) : r 0 7 = 4 := h 7 (by decide)
theorem mm8 {r : Nat → Nat → Nat} (h : mR r) : r 0 8 = 5 := h 8 (by decide)
theorem mm9 {r : Nat → Nat → Nat} (h : mR r) : r 0 9 = 6 := h 9 (by decide)
theorem mm10 {r : Nat → Nat → Nat} (h : mR r) : r 0 10 = 7 := h 10 (by decide)
theorem mm20 {r : Nat → Nat → Nat} (h : mR r) : r 0 20 = 8 := h 20 (by decide)
theorem mm21 {r : Nat → Nat → Nat} (h : mR r) : r 0 21 = 9 := h 21 (by decide)
theorem mm22 {r : Nat → Nat → Nat} (h : mR r) : r 0 22 = 10 := h 22 (by decide)
theorem mm23 {r : Nat → Nat → Nat} (h : mR r) : r 0 23 = 11 := h 23 (by decide)
theorem mm24 {r : Nat → Nat → Nat} (h : mR r) : r 0 24 = 12 := h 24 (by decide)
theorem mm25 {r : Nat → Nat → Nat} (h : mR r) : r 0 25 = 13 := h 25 (by decide)
theorem mm26 {r : Nat → Nat → Nat} (h : mR r) : r 0 26 = 14 := h 26 (by decide)
theorem mm27 {r : Nat → Nat → Nat} (h : mR r) : r 0 27 = 15 := h 27 (by decide)
theorem mm28 {r : Nat → Nat → Nat} (h : mR r) : r 0 28 = 16 := h 28 (by decide)
theorem mm29 {r : Nat → Nat → Nat} (h : mR r) : r 0 29 = 17 := h 29 (by decide)
theorem mm30 {r : Nat → Nat → Nat} (h : mR r) : r 0 30 = 18 := h 30 (by decide)
theorem mm31 {r : Nat → Nat → Nat} (h : mR r) : r 0 31 = 19 := h 31 (by decide)
theorem mm32 {r : Nat → Nat → Nat} (h : mR r) : r 0 32 = 20 := h 32 (by decide)
theorem mm35 {r : Nat → Nat → Nat} (h : mR r) : r 0 35 = 21 := h 35 (by decide)
theorem mm38 {r : Nat → Nat → Nat} (h : mR r) : r 0 38 = 22 := h 38 (by decide)
theorem mm40 {r : Nat → Nat → Nat} (h : mR r) : r 0 40 = 23 := h 40 (by decide)
theorem mm41 {r : Nat → Nat → Nat} (h : mR r) : r 0 41 = 24 := h 41 (by decide)
theorem mm42 {r : Nat → Nat → Nat} (h : mR r) : r 0 42 = 25 := h 42 (by decide)
theorem mm43 {r : Nat → Nat → Nat} (h : mR r) : r 0 43 = 26 := h 43 (by decide)
theorem mm44 {r : Nat → Nat → Nat} (h : mR r) : r 0 44 = 27 := h 44 (by decide)
theorem mm45 {r : Nat → Nat → Nat} (h : mR r) : r 0 45 = 28 := h 45 (by decide)
theorem mm46 {r : Nat → Nat → Nat} (h : mR r) : r 0 46 = 29 := h 46 (by decide)
theorem mm47 {r : Nat → Nat → Nat} (h : mR r) : r 0 47 = 30 := h 47 (by decide)
theorem mm48 {r : Nat → Nat → Nat} (h : mR r) : r 0 48 = 31 := h 48 (by decide)
theorem mm49 {r : Nat → Nat → Nat} (h : mR r) : r 0 49 = 32 := h 49 (by decide)
theorem mm50 {r : Nat → Nat → Nat} (h : mR r) : r 0 50 = 33 := h 50 (by decide)
theorem mm51 {r : Nat → Nat → Nat} (h : mR r) : r 0 51 = 34 := h 51 (by decide)
theorem mm52 {r : Nat → Nat → Nat} (h : mR r) : r 0 52 = 35 := h 52 (by decide)
/-! ===== stores with one array told anew ===== -/
def zA1 (σ : zS) (N : Nat) (F : Nat → Int32) : zS := (fun a b => if a = N then F b else σ.1 a b, σ.2)
theorem zA1_s {σ : zS} {N : Nat} {F : Nat → Int32} : (zA1 σ N F).1 N = F := by funext b; simp [zA1]
theorem zA1_o {σ : zS} {N a : Nat} {F : Nat → Int32} (h : ¬ a = N) : (zA1 σ N F).1 a = σ.1 a := by funext b; simp [zA1, h]
theorem zA1_2 {σ : zS} {N : Nat} {F : Nat → Int32} : (zA1 σ N F).2 = σ.2 := rfl
theorem zA1_self {σ : zS} {N : Nat} : zA1 σ N (σ.1 N) = σ := by
  obtain ⟨f, g⟩ := σ
  show (_, g) = (f, g)
  congr 1
  funext a b
  by_cases h : a = N
  · subst h; simp
  · simp [h]
theorem zA1_A1 {σ : zS} {N : Nat} {F G : Nat → Int32} : zA1 (zA1 σ N F) N G = zA1 σ N G := by
  show (_, σ.2) = (_, σ.2)
  congr 1
  funext a b
  by_cases h : a = N <;> simp [zA1, h]
theorem zI_A1 {σ : zS} {N k : Nat} {v : Int32} : zI σ N k v = zA1 σ N (upd (σ.1 N) k v) := by
  show (_, σ.2) = (_, σ.2)
  congr 1
  funext a b
  by_cases h : a = N
  · subst h
    by_cases hb : b = k <;> simp [upd, hb]
  · simp [h]
theorem zI_zA1 {σ : zS} {N k : Nat} {F : Nat → Int32} {v : Int32} : zI (zA1 σ N F) N k v = zA1 σ N (upd F k v) := by
  rw [zI_A1, zA1_s, zA1_A1]
theorem zA1_comm {σ : zS} {N M : Nat} {F G : Nat → Int32} (h : ¬ N = M) : zA1 (zA1 σ N F) M G = zA1 (zA1 σ M G) N F := by
  show (_, σ.2) = (_, σ.2)
  congr 1
  funext a b
  by_cases h1 : a = M <;> by_cases h2 : a = N
  · exact absurd (h2.symm.trans h1) h
  · simp [zA1, h1, h2, h]
    intro q; exact absurd q.symm h
  · simp [zA1, h1, h2, h]
  · simp [zA1, h1, h2]
theorem zX_l {α : Type} {i : Int32} {n : Nat} {a : Option α} (h : (decide (i < 0 ∨ n ≤ i.toNatClampNeg)) = false) : zX i n a = a := if_neg (of_decide_eq_false h)
theorem cl_lit : (0 : Int32).toNatClampNeg = 0 ∧ (1 : Int32).toNatClampNeg = 1 ∧ (2 : Int32).toNatClampNeg = 2 ∧ (3 : Int32).toNatClampNeg = 3 ∧ (4 : Int32).toNatClampNeg = 4 ∧ (5 : Int32).toNatClampNeg = 5 ∧ (6 : Int32).toNatClampNeg = 6 ∧ (7 : Int32).toNatClampNeg = 7 ∧ (8 : Int32).toNatClampNeg = 8 ∧ (9 : Int32).toNatClampNeg = 9 ∧ (10 : Int32).toNatClampNeg = 10 ∧ (11 : Int32).toNatClampNeg = 11 := by decide
theorem zx12 {α : Type} {a : Option α} : zX (0 : Int32) 12 a = a ∧ zX (1 : Int32) 12 a = a ∧ zX (2 : Int32) 12 a = a ∧ zX (3 : Int32) 12 a = a ∧ zX (4 : Int32) 12 a = a ∧ zX (5 : Int32) 12 a = a ∧ zX (6 : Int32) 12 a = a ∧ zX (7 : Int32) 12 a = a ∧ zX (8 : Int32) 12 a = a ∧ zX (9 : Int32) 12 a = a ∧ zX (10 : Int32) 12 a = a ∧ zX (11 : Int32) 12 a = a := ⟨zX_l rfl, zX_l rfl, zX_l rfl, zX_l rfl, zX_l rfl, zX_l rfl, zX_l rfl, zX_l rfl, zX_l rfl, zX_l rfl, zX_l rfl, zX_l rfl⟩
theorem iteb {P : Prop} [Decidable P] {α : Type} (a b : α) : (if P then a else b) = cond (decide P) a b := by by_cases h : P <;> simp [h]
theorem wne {w : Nat} (h1 : 4 ≤ w) (h2 : w ≤ 8) : ¬ nI w = 0 := nI_ne0 (by omega) (by omega)
theorem m_near {w s q : Nat} (h1 : 4 ≤ w) (h2 : w ≤ 8) (hs : s < 24) (hq : q < 24) (σ : zS) : fX7_areNeighbours 0 (nI s) (nI q) (nI w) σ = some (if near w s q = true then 1 else 0, σ) := by
  unfold fX7_areNeighbours bX7_areNeighbours_37 bX7_areNeighbours_23
  rw [zV_in (wne h1 h2), zV_in (wne h1 h2), pk_div (by omega) (by omega) (by omega), pk_div (by omega) (by omega) (by omega)]
  have hw : s / w < 2 ^ 31 := Nat.lt_of_le_of_lt (Nat.div_le_self _ _) (by omega)
  have hw2 : q / w < 2 ^ 31 := Nat.lt_of_le_of_lt (Nat.div_le_self _ _) (by omega)
  have e1 : nI (s / w) = nI (q / w) ↔ s / w = q / w := nI_eq hw hw2
  have e2 : nI s = nI q + 1 ↔ s = q + 1 := by rw [nI_1]; exact nI_eq (by omega) (by omega)
  have e3 : nI q = nI s + 1 ↔ q = s + 1 := by rw [nI_1]; exact nI_eq (by omega) (by omega)
  have e4 : nI s = nI q + nI w ↔ s = q + w := by rw [nI_add]; exact nI_eq (by omega) (by omega)
  have e5 : nI q = nI s + nI w ↔ q = s + w := by rw [nI_add]; exact nI_eq (by omega) (by omega)
  rw [iteb (P := near w s q = true), Bool.decide_eq_true]
  simp only [e1, e2, e3, e4, e5, near, iteb (P := s / w = q / w), iteb (P := s = q + 1), iteb (P := q = s + 1), iteb (P := s = q + w), iteb (P := q = s + w)]
  generalize decide (s / w = q / w) = b1
  generalize decide (s = q + 1) = b2
  generalize decide (q = s + 1) = b3
  generalize decide (s = q + w) = b4
  generalize decide (q = s + w) = b5
  cases b1 <;> cases b2 <;> cases b3 <;> cases b4 <;> cases b5 <;> rfl
/-! ===== the letters, as the reference reckons them ===== -/
def fqF (tl : Nat → Int32) (w : Nat) (sort hired : Nat → Int32) (good : Int32) (prev : Nat → Int32) (s q : Nat) : Nat → Int32 := fun k =>
  if k = 0 then good else if k = 1 then nI (cn (fun q => decide (¬ sort q = -1) && (near w s q && decide (prev q = 1))) q)
  else if k = 2 then nI (cn (fun q => decide (¬ sort q = -1) && (near w s q && decide (prev q = 2))) q)
  else if k = 3 then nI (cn (fun q => decide (¬ sort q = -1) && decide (prev q = 1)) q)
  else if k = 4 then nI (cn (fun q => decide (¬ sort q = -1) && decide (prev q = 2)) q)
  else if k = 5 then nI (cn (fun q => decide (¬ sort q = -1)) q)
  else if k = 10 then nI (cn (fun q => decide (¬ sort q = -1) && (near w s q && decide (¬ hired q = 0))) q)
  else if k < 12 then 0 else tl k
/-- one more seat told -/
theorem fq_step (tl : Nat → Int32) (w : Nat) (sort hired : Nat → Int32) (good : Int32) (prev : Nat → Int32) (s q : Nat) : fqF tl w sort hired good prev s (q + 1) = fun k =>
    fqF tl w sort hired good prev s q k + (if k = 1 then (if decide (¬ sort q = -1) && (near w s q && decide (prev q = 1)) then 1 else 0) else if k = 2 then (if decide (¬ sort q = -1) && (near w s q && decide (prev q = 2)) then 1 else 0) else if k = 3 then (if decide (¬ sort q = -1) && decide (prev q = 1) then 1 else 0) else if k = 4 then (if decide (¬ sort q = -1) && decide (prev q = 2) then 1 else 0) else if k = 5 then (if decide (¬ sort q = -1) then 1 else 0) else if k = 10 then (if decide (¬ sort q = -1) && (near w s q && decide (¬ hired q = 0)) then 1 else 0) else 0) := by
  have key : ∀ (p : Nat → Bool), nI (cn p (q + 1)) = nI (cn p q) + (if p q = true then 1 else 0) := by
    intro p
    show nI (cn p q + (if p q = true then 1 else 0)) = _
    split
    · exact (nI_1 _).symm
    · rw [Nat.add_zero, Int32.add_zero]
  funext k
  unfold fqF
  by_cases k0 : k = 0
  · subst k0; simp
  by_cases k1 : k = 1
  · subst k1; simp only [if_neg k0, if_true]; exact key _
  by_cases k2 : k = 2
  · subst k2; simp only [if_neg k0, if_neg k1, if_true]; exact key _
  by_cases k3 : k = 3
  · subst k3; simp only [if_neg k0, if_neg k1, if_neg k2, if_true]; exact key _
  by_cases k4 : k = 4
  · subst k4; simp only [if_neg k0, if_neg k1, if_neg k2, if_neg k3, if_true]; exact key _
  by_cases k5 : k = 5
  · subst k5; simp only [if_neg k0, if_neg k1, if_neg k2, if_neg k3, if_neg k4, if_true]; exact key _
  by_cases k10 : k = 10
  · subst k10; simp only [if_neg k0, if_neg k1, if_neg k2, if_neg k3, if_neg k4, if_neg k5, if_true]; exact key _
  simp only [if_neg k0, if_neg k1, if_neg k2, if_neg k3, if_neg k4, if_neg k5, if_neg k10]
  exact (Int32.add_zero _).symm
