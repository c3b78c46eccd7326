/-! the store of a world: ints by name and place, references by name and place; names are places in a layout, a name's address is b0 + name -/
abbrev zS : Type := (Nat → Nat → Int32) × (Nat → Nat → Nat)
/-- kinds: (0, class), (1, n) int[n], (2, n) byte[n], (3, n) Evening[n], (4, n) Law[n] -/
def zN (ci : Nat) : Nat := match ci with
  | 0 => 9 | 1 => 3 | 2 => 7 | 3 => 5 | 4 => 3 | 5 => 6 | 6 => 17 | _ => 53
/-- which fields are references, and to what -/
def zK (ci k : Nat) : Option (Nat × Nat) := match ci with
  | 0 => (match k with | 0 => some (1, 40) | 1 => some (1, 24) | 2 => some (0, 2) | _ => none)
  | 1 => (match k with | 1 => some (1, 40) | 2 => some (1, 40) | _ => none)
  | 2 => none
  | 3 => (match k with | 0 => some (0, 2) | 1 => some (0, 1) | 2 => some (1, 40) | 3 => some (1, 40) | _ => none)
  | 4 => (match k with | 0 => some (1, 128) | _ => none)
  | 5 => (match k with | 0 => some (2, 500) | 1 => some (0, 4) | _ => none)
  | 6 => (match k with | 0 => some (0, 3) | 1 => some (0, 3) | 3 => some (3, 20) | 5 => some (0, 0) | 6 => some (4, 4) | 7 => some (0, 4) | 8 => some (0, 5) | 9 => some (2, 500) | 11 => some (1, 40) | 12 => some (1, 40) | 15 => some (1, 25) | 16 => some (1, 25) | _ => none)
  | 7 => (match k with | 4 => some (1, 24) | 5 => some (1, 24) | 6 => some (1, 24) | 7 => some (1, 40) | 8 => some (1, 40) | 9 => some (1, 120) | 10 => some (2, 500) | 20 => some (1, 140) | 21 => some (1, 140) | 22 => some (1, 12) | 23 => some (1, 12) | 24 => some (1, 12) | 25 => some (1, 560) | 26 => some (1, 4) | 27 => some (1, 48) | 28 => some (1, 48) | 29 => some (1, 48) | 30 => some (1, 140) | 31 => some (1, 12) | 32 => some (1, 960) | 35 => some (1, 24) | 38 => some (1, 50) | 40 => some (1, 19200) | 41 => some (1, 480) | 42 => some (1, 480) | 43 => some (1, 480) | 44 => some (1, 800) | 45 => some (1, 800) | 46 => some (1, 20) | 47 => some (1, 20) | 48 => some (1, 20) | 49 => some (1, 20) | 50 => some (1, 24) | 51 => some (1, 24) | 52 => some (1, 24) | _ => none)
  | _ => none
def zI (σ : zS) (j k : Nat) (v : Int32) : zS := (fun a b => if a = j ∧ b = k then v else σ.1 a b, σ.2)
def zR (σ : zS) (j k : Nat) (v : Nat) : zS := (σ.1, fun a b => if a = j ∧ b = k then v else σ.2 a b)
/-- a row of n ints of the array j0 from sp on, to the array j1 from dp on -/
def zY (σ : zS) (j0 j1 : Nat) (sp dp n : Nat) : zS := (fun a b => if a = j1 then va_cpy (σ.1 j0) (σ.1 j1) sp dp n b else σ.1 a b, σ.2)
def bnd {α β : Type} (a : α) (f : α → β) : β := f a
/-- the name of nothing -/
def zNUL : Nat := 1000000
def zO (b0 x : Nat) : Option Nat := if x = zNUL then none else some (b0 + x)
def zF (b0 : Nat) (σ : zS) (ci j k : Nat) : Value := match zK ci k with
  | none => .int (σ.1 j k)
  | some _ => va_rf (zO b0 (σ.2 j k))
def zL (b0 : Nat) (σ : zS) (ci j : Nat) : List Value := (List.range (zN ci)).map (zF b0 σ ci j)
def zE (b0 : Nat) (cA : Nat → ClassId) (kd : Nat × Nat) (σ : zS) (j : Nat) : va_E := match kd.1 with
  | 0 => .inr (kd.2, zL b0 σ kd.2 j)
  | 1 => .inl (cA 1, kd.2, .inl (σ.1 j))
  | 2 => .inl (cA 2, kd.2, .inl (σ.1 j))
  | n + 3 => .inl (cA (n + 3), kd.2, .inr (.inr (.inr (.inr (fun i => zO b0 (σ.2 j i))))))
def zW (b0 : Nat) (cA : Nat → ClassId) (L : List (Nat × Nat)) (σ : zS) : va_W := (List.range L.length).map (fun j => (b0 + j, zE b0 cA (L.getD j (0, 0)) σ j))
def zA (b0 : Nat) (L : List (Nat × Nat)) : Nat → Prop := fun q => b0 ≤ q ∧ q < b0 + L.length
def zTy (cA : Nat → ClassId) : List (ClassId × FieldType) := [(cA 1, .int), (cA 2, .byte), (cA 3, .object RX3), (cA 4, .object RX4)]
/-- references lead where their kinds say -/
def zT (L : List (Nat × Nat)) (σ : zS) : Prop := L.length ≤ zNUL ∧ (∀ j ci, L[j]? = some (0, ci) → ∀ k kd, zK ci k = some kd → L[σ.2 j k]? = some kd) ∧ (∀ j t n, L[j]? = some (t + 3, n) → ∀ i, i < n → L[σ.2 j i]? = some (0, t + 3)) ∧ (∀ j n, L[j]? = some (2, n) → ∀ i, fits .byte (.int (σ.1 j i)) = true)
def nB (r : Int32) : Prop := narrow .boolean (.int r) = .int r
theorem nB_0 : nB 0 := rfl
theorem nB_1 : nB 1 := rfl
theorem zW_at {b0 : Nat} {cA : Nat → ClassId} {L : List (Nat × Nat)} {σ : zS} {j : Nat} {kd : Nat × Nat} (h : L[j]? = some kd) : (zW b0 cA L σ)[j]? = some (b0 + j, zE b0 cA kd σ j) := by
  have hl : j < L.length := (List.getElem?_eq_some_iff.mp h).1
  have hd : L.getD j (0, 0) = kd := by rw [List.getD_eq_getElem?_getD, h]; rfl
  unfold zW
  rw [List.getElem?_map, List.getElem?_range hl, Option.map_some, hd]
theorem zW_len {b0 : Nat} {cA : Nat → ClassId} {L : List (Nat × Nat)} {σ : zS} : (zW b0 cA L σ).length = L.length := by simp [zW]
theorem zW_set {b0 : Nat} {cA : Nat → ClassId} {L : List (Nat × Nat)} {σ σ' : zS} {j : Nat} {kd : Nat × Nat} (h : L[j]? = some kd) (ho : ∀ i ki, i ≠ j → L[i]? = some ki → zE b0 cA ki σ' i = zE b0 cA ki σ i) :
    (zW b0 cA L σ).set j (b0 + j, zE b0 cA kd σ' j) = zW b0 cA L σ' := by
  have hl : j < L.length := (List.getElem?_eq_some_iff.mp h).1
  apply List.ext_getElem?
  intro i
  by_cases hi : i = j
  · subst hi
    rw [List.getElem?_set_self (by rw [zW_len]; exact hl), zW_at h]
  · rw [List.getElem?_set_ne (Ne.symm hi)]
    cases hk : L[i]? with
    | none =>
      have hge : L.length ≤ i := List.getElem?_eq_none_iff.mp hk
      rw [List.getElem?_eq_none_iff.mpr (by rw [zW_len]; exact hge), List.getElem?_eq_none_iff.mpr (by rw [zW_len]; exact hge)]
    | some ki => rw [zW_at hk, zW_at hk, ho i ki hi hk]
theorem zW_inv {b0 : Nat} {cA : Nat → ClassId} {L : List (Nat × Nat)} {σ : zS} {j : Nat} {q : Nat × va_E} (h : (zW b0 cA L σ)[j]? = some q) : q.1 = b0 + j ∧ j < L.length := by
  have hl : j < L.length := by have := (List.getElem?_eq_some_iff.mp h).1; rwa [zW_len] at this
  obtain ⟨kd, hk⟩ : ∃ kd, L[j]? = some kd := ⟨_, List.getElem?_eq_getElem hl⟩
  rw [zW_at hk] at h
  cases h
  exact ⟨rfl, hl⟩
theorem zD {b0 : Nat} {cA : Nat → ClassId} {L : List (Nat × Nat)} {σ : zS} : va_D (zA b0 L) (zW b0 cA L σ) := by
  refine ⟨fun i j x y hi hj hxy => ?_, fun k q hk => ?_⟩
  · have h1 := (zW_inv hi).1
    have h2 := (zW_inv hj).1
    omega
  · obtain ⟨h1, h2⟩ := zW_inv hk
    exact ⟨by omega, by omega⟩
theorem zL_len {b0 : Nat} {σ : zS} {ci j : Nat} : (zL b0 σ ci j).length = zN ci := by simp [zL]
theorem zL_at {b0 : Nat} {σ : zS} {ci j k : Nat} (hk : k < zN ci) : (zL b0 σ ci j)[k]? = some (zF b0 σ ci j k) := by
  unfold zL
  rw [List.getElem?_map, List.getElem?_range hk, Option.map_some]
theorem zE_o {b0 : Nat} {cA : Nat → ClassId} {ci : Nat} {σ : zS} {j : Nat} : zE b0 cA (0, ci) σ j = .inr (ci, zL b0 σ ci j) := rfl
theorem zE_i {b0 : Nat} {cA : Nat → ClassId} {n : Nat} {σ : zS} {j : Nat} : zE b0 cA (1, n) σ j = .inl (cA 1, n, .inl (σ.1 j)) := rfl
theorem zE_b {b0 : Nat} {cA : Nat → ClassId} {n : Nat} {σ : zS} {j : Nat} : zE b0 cA (2, n) σ j = .inl (cA 2, n, .inl (σ.1 j)) := rfl
theorem zE_r {b0 : Nat} {cA : Nat → ClassId} {n t : Nat} {σ : zS} {j : Nat} : zE b0 cA (t + 3, n) σ j = .inl (cA (t + 3), n, .inr (.inr (.inr (.inr (fun i => zO b0 (σ.2 j i)))))) := rfl
/-- another name's cell doesn't see it -/
theorem zE_ne {b0 : Nat} {cA : Nat → ClassId} {σ σ' : zS} {i : Nat} {ki : Nat × Nat} (h1 : σ'.1 i = σ.1 i) (h2 : σ'.2 i = σ.2 i) : zE b0 cA ki σ' i = zE b0 cA ki σ i := by
  obtain ⟨t, n⟩ := ki
  match t with
  | 0 =>
    rw [zE_o, zE_o]
    have : zL b0 σ' n i = zL b0 σ n i := by
      unfold zL
      congr 1
      funext k
      unfold zF
      rw [h1, h2]
    rw [this]
  | 1 => rw [zE_i, zE_i, h1]
  | 2 => rw [zE_b, zE_b, h1]
  | t + 3 => rw [zE_r, zE_r, h2]
theorem zI_ne {σ : zS} {j k : Nat} {v : Int32} {i : Nat} (h : i ≠ j) : (zI σ j k v).1 i = σ.1 i := by
  funext b
  simp [zI, h]
theorem zR_ne {σ : zS} {j k v i : Nat} (h : i ≠ j) : (zR σ j k v).2 i = σ.2 i := by
  funext b
  simp [zR, h]
theorem zY_ne {σ : zS} {j0 j1 sp dp n i : Nat} (h : i ≠ j1) : (zY σ j0 j1 sp dp n).1 i = σ.1 i := by
  funext b
  simp [zY, h]
theorem zL_setI {b0 : Nat} {σ : zS} {ci j k : Nat} {v : Int32} (hk : zK ci k = none) : (zL b0 σ ci j).set k (.int v) = zL b0 (zI σ j k v) ci j := by
  apply List.ext_getElem?
  intro i
  by_cases hl : i < zN ci
  · by_cases hi : i = k
    · subst hi
      rw [List.getElem?_set_self (by rw [zL_len]; exact hl), zL_at hl]
      simp [zF, hk, zI]
    · rw [List.getElem?_set_ne (Ne.symm hi), zL_at hl, zL_at hl]
      simp [zF, zI, hi]
  · rw [List.getElem?_eq_none_iff.mpr (by rw [List.length_set, zL_len]; omega), List.getElem?_eq_none_iff.mpr (by rw [zL_len]; omega)]
theorem zO_in {b0 x : Nat} {kd : Nat × Nat} {L : List (Nat × Nat)} (hL : L.length ≤ zNUL) (h : L[x]? = some kd) : zO b0 x = some (b0 + x) := by
  have hl : x < L.length := (List.getElem?_eq_some_iff.mp h).1
  exact if_neg (by omega)
theorem zL_setR {b0 : Nat} {σ : zS} {ci j k : Nat} {v : Nat} {kd : Nat × Nat} (hk : zK ci k = some kd) (hv : zO b0 v = some (b0 + v)) : (zL b0 σ ci j).set k (.ref (b0 + v)) = zL b0 (zR σ j k v) ci j := by
  apply List.ext_getElem?
  intro i
  by_cases hl : i < zN ci
  · by_cases hi : i = k
    · subst hi
      rw [List.getElem?_set_self (by rw [zL_len]; exact hl), zL_at hl]
      simp [zF, hk, zR, hv, va_rf]
    · rw [List.getElem?_set_ne (Ne.symm hi), zL_at hl, zL_at hl]
      simp [zF, zR, hi]
  · rw [List.getElem?_eq_none_iff.mpr (by rw [List.length_set, zL_len]; omega), List.getElem?_eq_none_iff.mpr (by rw [zL_len]; omega)]
theorem zT_I {L : List (Nat × Nat)} {σ : zS} (h : zT L σ) {j k : Nat} {v : Int32} (hv : ∀ n, L[j]? = some (2, n) → fits .byte (.int v) = true) : zT L (zI σ j k v) := by
  refine ⟨h.1, h.2.1, h.2.2.1, fun i n hi b => ?_⟩
  show fits .byte (.int (if i = j ∧ b = k then v else σ.1 i b)) = true
  split
  · rename_i q
    rw [q.1] at hi
    exact hv n hi
  · exact h.2.2.2 i n hi b
theorem zT_R {L : List (Nat × Nat)} {σ : zS} (h : zT L σ) {j k v : Nat} (h1 : ∀ ci kd, L[j]? = some (0, ci) → zK ci k = some kd → L[v]? = some kd) (h2 : ∀ t n, L[j]? = some (t + 3, n) → L[v]? = some (0, t + 3)) : zT L (zR σ j k v) := by
  refine ⟨h.1, fun i ci hi b kd hb => ?_, fun i t n hi b hb => ?_, h.2.2.2⟩
  · show L[if i = j ∧ b = k then v else σ.2 i b]? = some kd
    split
    · rename_i q
      rw [q.1] at hi
      rw [q.2] at hb
      exact h1 ci kd hi hb
    · exact h.2.1 i ci hi b kd hb
  · show L[if i = j ∧ b = k then v else σ.2 i b]? = some (0, t + 3)
    split
    · rename_i q
      rw [q.1] at hi
      exact h2 t n hi
    · exact h.2.2.1 i t n hi b hb
