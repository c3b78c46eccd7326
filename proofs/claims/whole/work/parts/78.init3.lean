section
def chkC (σ : zS) (j : Nat) : Bool := match zLC[j]? with
  | some (0, ci) => (List.range 53).all (fun k => match zK ci k with
    | some kd => decide (zLC[σ.2 j k]? = some kd)
    | none => true)
  | some (t + 3, n) => decide (n ≤ 20) && (List.range 20).all (fun i => !decide (i < n) || decide (zLC[σ.2 j i]? = some (0, t + 3)))
  | some (2, _) => decide (j = 167)
  | _ => true
def chkM (σ : zS) (k : Nat) : Bool := match zK 7 k with
  | some kd => decide (173 ≤ σ.2 173 k) && (decide (σ.2 173 k < 1000) && decide (zLM[σ.2 173 k - 173]? = some kd))
  | none => true
abbrev fT (σ : zS) : Prop := ∀ i, i < 1000 → σ.1 167 i = 0 ∧ σ.1 180 i = 0
abbrev fR (σ : zS) : Prop := (∀ j, j < 169 → ∀ k, k < 20 → cT j k = 0 ∨ σ.2 j k = cT j k) ∧ (∀ k, k < 53 → mT k = 0 ∨ σ.2 173 k - 173 = mT k) ∧ (∀ j, j < 4 → σ.2 156 j = 157 + 2 * j) ∧ σ.2 0 7 = 165
abbrev fC (σ : zS) : Prop := (σ.1 5 0 = 6 ∧ σ.1 173 0 = 6 ∧ σ.1 5 1 = 0 ∧ σ.1 5 5 = 0 ∧ σ.1 5 6 = 0) ∧ ∀ s, s < 24 → σ.1 174 s = -1 ∧ σ.1 175 s = 0 ∧ σ.1 176 s = 0
abbrev fB (σ : zS) : Prop := (σ.1 2 0 = 1 ∧ σ.1 173 1 = 1) ∧ ∀ t, t < 40 → σ.1 3 t = σ.1 177 t ∧ σ.1 4 t = σ.1 178 t ∧ σ.1 169 t = 0 ∧ σ.1 170 t = 0 ∧ σ.1 179 (40 + t) = 0 ∧ σ.1 179 (80 + t) = 0
abbrev fM (σ : zS) : Prop := (σ.1 0 13 = σ.1 173 2 ∧ σ.1 0 14 = σ.1 173 3) ∧ (σ.1 0 10 = 0 ∧ σ.1 173 11 = 0) ∧ (∀ i, i < 25 → σ.1 171 i = σ.1 195 i ∧ σ.1 172 i = σ.1 195 (25 + i)) ∧ (∀ j, j < 4 → σ.1 187 j = 0 ∧ σ.1 (157 + 2 * j) 1 = 0 ∧ σ.1 (157 + 2 * j) 2 = 0) ∧ (σ.1 0 4 = 0 ∧ σ.1 173 39 = 0) ∧ σ.1 153 3 = 0 ∧ σ.1 0 2 = 1
abbrev fK (σ : zS) : Prop := (∀ j, j < 173 → chkC σ j = true) ∧ ∀ k, k < 53 → chkM σ k = true
set_option maxRecDepth 100000 in
theorem sI_fT : fT sI := by decide +kernel
set_option maxRecDepth 100000 in
theorem sI_fR : fR sI := by decide +kernel
set_option maxRecDepth 100000 in
theorem sI_fC : fC sI := by decide +kernel
set_option maxRecDepth 100000 in
theorem sI_fB : fB sI := by decide +kernel
set_option maxRecDepth 100000 in
theorem sI_fM : fM sI := by decide +kernel
set_option maxRecDepth 100000 in
theorem sI_fK : fK sI := by decide +kernel
theorem low_of {L : List (Nat × Nat)} {σ : zS} (h : fLAW = some (L, σ)) : lowZ σ := po_L (L, σ) h
theorem sI_low : lowZ sI := low_of sI_e
end
