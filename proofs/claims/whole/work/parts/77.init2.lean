section
/-! ===== the start ===== -/
def lowZ (σ : zS) : Prop := ∀ j i, 1000 ≤ i → σ.1 j i = 0
def PO (o : Option zLS) : Prop := ∀ z, o = some z → lowZ z.2
theorem po_some {L : List (Nat × Nat)} {σ : zS} (h : lowZ σ) : PO (some (L, σ)) := fun z hz => by cases hz; exact h
theorem po_zQ {L : List (Nat × Nat)} {x : Nat} {kd : Nat × Nat} {o : Option zLS} (h : PO o) : PO (zQ L x kd o) := fun z hz => by
  unfold zQ at hz
  split at hz
  · exact h z hz
  · cases hz
theorem po_zX {i : Int32} {n : Nat} {o : Option zLS} (h : PO o) : PO (zX i n o) := fun z hz => by
  unfold zX at hz
  split at hz
  · cases hz
  · exact h z hz
theorem po_bS {a : zS} {f : zS → Option zLS} (ha : lowZ a) (h : ∀ σ, lowZ σ → PO (f σ)) : PO (bnd a f) := h a ha
theorem po_bN {a : Nat} {f : Nat → Option zLS} (h : ∀ q, PO (f q)) : PO (bnd a f) := h a
theorem lz_N {σ : zS} {n : Nat} (h : lowZ σ) : lowZ (zNw σ n) := fun j i hi => by
  show (if j = n then 0 else σ.1 j i) = 0
  split
  · rfl
  · exact h j i hi
theorem lz_I {σ : zS} {j k : Nat} {v : Int32} (h : lowZ σ) (hk : k < 1000) : lowZ (zI σ j k v) := fun a b hb => by
  rw [zI_o (by omega)]
  exact h a b hb
theorem lz_R {σ : zS} {j k v : Nat} (h : lowZ σ) : lowZ (zR σ j k v) := h
theorem po_nw {L : List (Nat × Nat)} {σ : zS} {kd : Nat × Nat} {f : Nat → List (Nat × Nat) → zS → Option zLS} (h0 : lowZ σ) (h : ∀ x L σ, lowZ σ → PO (f x L σ)) : PO (znw L σ kd f) := h _ _ _ (lz_N h0)
theorem po_zb {o : Option zLS} {f : List (Nat × Nat) → zS → Option zLS} (h0 : PO o) (h : ∀ L σ, lowZ σ → PO (f L σ)) : PO (zb o f) := by
  intro z hz
  match o, h0, hz with
  | some (L, σ), h0, hz => exact h L σ (h0 _ rfl) z hz
theorem po_1 {v0 : Nat} {L : List (Nat × Nat)} {σ : zS} (h : lowZ σ) : PO (fX1_init v0 L σ) := by
  unfold fX1_init
  repeat' first | exact po_some ‹_› | refine po_zQ ?_ | refine po_zX ?_ | refine po_nw ‹_› (fun _ _ _ _ => ?_) | refine po_bN (fun _ => ?_) | refine po_bS (lz_R ‹_›) (fun _ _ => ?_) | refine po_bS (lz_I ‹_› (by decide)) (fun _ _ => ?_)
theorem po_2 {v0 : Nat} {L : List (Nat × Nat)} {σ : zS} (h : lowZ σ) : PO (fX2_init v0 L σ) := by
  unfold fX2_init
  repeat' first | exact po_some ‹_› | refine po_zQ ?_ | refine po_zX ?_ | refine po_nw ‹_› (fun _ _ _ _ => ?_) | refine po_bN (fun _ => ?_) | refine po_bS (lz_R ‹_›) (fun _ _ => ?_) | refine po_bS (lz_I ‹_› (by decide)) (fun _ _ => ?_)
theorem po_3 {v0 v1 : Nat} {L : List (Nat × Nat)} {σ : zS} (h : lowZ σ) : PO (fX3_init v0 v1 L σ) := by
  unfold fX3_init
  repeat' first | exact po_some ‹_› | refine po_zQ ?_ | refine po_zX ?_ | refine po_nw ‹_› (fun _ _ _ _ => ?_) | refine po_zb (po_2 ‹_›) (fun _ _ _ => ?_) | refine po_bN (fun _ => ?_) | refine po_bS (lz_R ‹_›) (fun _ _ => ?_) | refine po_bS (lz_I ‹_› (by decide)) (fun _ _ => ?_)
theorem po_4 {v0 : Nat} {L : List (Nat × Nat)} {σ : zS} (h : lowZ σ) : PO (fX4_init v0 L σ) := by
  unfold fX4_init
  repeat' first | exact po_some ‹_› | refine po_zQ ?_ | refine po_zX ?_ | refine po_nw ‹_› (fun _ _ _ _ => ?_) | refine po_bN (fun _ => ?_) | refine po_bS (lz_R ‹_›) (fun _ _ => ?_) | refine po_bS (lz_I ‹_› (by decide)) (fun _ _ => ?_)
theorem po_5 {v0 v1 v2 : Nat} {L : List (Nat × Nat)} {σ : zS} (h : lowZ σ) : PO (fX5_init v0 v1 v2 L σ) := by
  unfold fX5_init
  repeat' first | exact po_some ‹_› | refine po_zQ ?_ | refine po_zX ?_ | refine po_nw ‹_› (fun _ _ _ _ => ?_) | refine po_bN (fun _ => ?_) | refine po_bS (lz_R ‹_›) (fun _ _ => ?_) | refine po_bS (lz_I ‹_› (by decide)) (fun _ _ => ?_)
theorem po_0 {v0 v1 : Nat} {L : List (Nat × Nat)} {σ : zS} (h : lowZ σ) : PO (fX0_init v0 v1 L σ) := by
  unfold fX0_init
  repeat' first | exact po_some ‹_› | refine po_zQ ?_ | refine po_zX ?_ | refine po_nw ‹_› (fun _ _ _ _ => ?_) | refine po_bN (fun _ => ?_) | refine po_bS (lz_R ‹_›) (fun _ _ => ?_) | refine po_bS (lz_I ‹_› (by decide)) (fun _ _ => ?_)
set_option maxRecDepth 100000 in
set_option maxHeartbeats 4000000 in
theorem po_6 {v0 : Nat} {L : List (Nat × Nat)} {σ : zS} (h : lowZ σ) : PO (fX6_init v0 L σ) := by
  unfold fX6_init
  repeat' first | exact po_some ‹_› | refine po_zQ ?_ | refine po_zX ?_ | refine po_nw ‹_› (fun _ _ _ _ => ?_) | refine po_zb (po_1 ‹_›) (fun _ _ _ => ?_) | refine po_zb (po_3 ‹_›) (fun _ _ _ => ?_) | refine po_zb (po_4 ‹_›) (fun _ _ _ => ?_) | refine po_zb (po_5 ‹_›) (fun _ _ _ => ?_) | refine po_zb (po_0 ‹_›) (fun _ _ _ => ?_) | refine po_bN (fun _ => ?_) | refine po_bS (lz_R ‹_›) (fun _ _ => ?_) | refine po_bS (lz_I ‹_› (by decide)) (fun _ _ => ?_)
set_option maxRecDepth 100000 in
set_option maxHeartbeats 4000000 in
theorem po_7 {v0 : Nat} {L : List (Nat × Nat)} {σ : zS} (h : lowZ σ) : PO (fX7_init v0 L σ) := by
  unfold fX7_init
  repeat' first | exact po_some ‹_› | refine po_zQ ?_ | refine po_zX ?_ | refine po_nw ‹_› (fun _ _ _ _ => ?_) | refine po_bN (fun _ => ?_) | refine po_bS (lz_R ‹_›) (fun _ _ => ?_) | refine po_bS (lz_I ‹_› (by decide)) (fun _ _ => ?_)
theorem sI_low : lowZ sI := by
  have h0 : lowZ zσ0 := fun _ _ _ => rfl
  have h : PO fLAW := by
    unfold fLAW
    refine po_nw h0 (fun _ _ _ h1 => po_zb (po_6 h1) (fun _ _ h2 => po_nw h2 (fun _ _ _ h3 => po_zb (po_7 h3) (fun _ _ h4 => ?_))))
    intro z hz
    split at hz
    · cases hz; exact h4
    · cases hz
  exact h _ sI_e
set_option maxRecDepth 100000 in
theorem sI_tape : ∀ i, i < 1000 → sI.1 167 i = 0 ∧ sI.1 180 i = 0 := by decide +kernel
theorem sI_t (i : Nat) : sI.1 167 i = 0 ∧ sI.1 180 i = 0 := by
  by_cases h : i < 1000
  · exact sI_tape i h
  · exact ⟨sI_low 167 i (by omega), sI_low 180 i (by omega)⟩
theorem cT_z {j k : Nat} (h : 169 ≤ j ∨ 20 ≤ k) : cT j k = 0 := by
  unfold cT
  repeat' split
  all_goals first | rfl | omega
theorem mT_z {k : Nat} (h : 53 ≤ k) : mT k = 0 := by
  unfold mT
  split
  all_goals first | rfl | omega
theorem zK_z {ci k : Nat} (h : 53 ≤ k) : zK ci k = none := by
  unfold zK
  split <;> (try split) <;> first | rfl | omega
set_option maxRecDepth 100000 in
theorem sI_cR : ∀ j, j < 169 → ∀ k, k < 20 → cT j k = 0 ∨ sI.2 j k = cT j k := by decide +kernel
set_option maxRecDepth 100000 in
theorem sI_mR : ∀ k, k < 53 → mT k = 0 ∨ sI.2 173 k - 173 = mT k := by decide +kernel
set_option maxRecDepth 100000 in
theorem sI_pm : (∀ j, j < 4 → sI.2 156 j = 157 + 2 * j) ∧ sI.2 0 7 = 165 := by decide +kernel
set_option maxRecDepth 100000 in
theorem sI_crowd : (sI.1 5 0 = 6 ∧ sI.1 173 0 = 6 ∧ sI.1 5 1 = 0 ∧ sI.1 5 5 = 0 ∧ sI.1 5 6 = 0) ∧ ∀ s, s < 24 → sI.1 174 s = -1 ∧ sI.1 175 s = 0 ∧ sI.1 176 s = 0 := by decide +kernel
set_option maxRecDepth 100000 in
theorem sI_bill : (sI.1 2 0 = 1 ∧ sI.1 173 1 = 1) ∧ ∀ t, t < 40 → sI.1 3 t = sI.1 177 t ∧ sI.1 4 t = sI.1 178 t ∧ sI.1 169 t = 0 ∧ sI.1 170 t = 0 ∧ sI.1 179 (40 + t) = 0 ∧ sI.1 179 (80 + t) = 0 := by decide +kernel
set_option maxRecDepth 100000 in
theorem sI_misc : (sI.1 0 13 = sI.1 173 2 ∧ sI.1 0 14 = sI.1 173 3) ∧ (sI.1 0 10 = 0 ∧ sI.1 173 11 = 0) ∧ (∀ i, i < 25 → sI.1 171 i = sI.1 195 i ∧ sI.1 172 i = sI.1 195 (25 + i)) ∧ (∀ j, j < 4 → sI.1 187 j = 0 ∧ sI.1 (157 + 2 * j) 1 = 0 ∧ sI.1 (157 + 2 * j) 2 = 0) ∧ (sI.1 0 4 = 0 ∧ sI.1 173 39 = 0) ∧ sI.1 153 3 = 0 ∧ sI.1 0 2 = 1 := by decide +kernel
set_option maxRecDepth 100000 in
theorem sI_T1 : ∀ j, j < 173 → ∀ q ∈ (zLC[j]?).toList, q.1 = 0 → ∀ k, k < 53 → ∀ kd ∈ (zK q.2 k).toList, zLC[sI.2 j k]? = some kd := by decide +kernel
set_option maxRecDepth 100000 in
theorem sI_T2 : ∀ j, j < 173 → ∀ q ∈ (zLC[j]?).toList, 3 ≤ q.1 → q.2 ≤ 20 ∧ ∀ i, i < 20 → i < q.2 → zLC[sI.2 j i]? = some (0, q.1) := by decide +kernel
set_option maxRecDepth 100000 in
theorem sI_T3 : ∀ j, j < 173 → ∀ q ∈ (zLC[j]?).toList, q.1 = 2 → j = 167 := by decide +kernel
set_option maxRecDepth 100000 in
theorem sI_M1 : ∀ k, k < 53 → ∀ kd ∈ (zK 7 k).toList, 173 ≤ sI.2 173 k ∧ sI.2 173 k < 1000 ∧ zLM[sI.2 173 k - 173]? = some kd := by decide +kernel
set_option maxRecDepth 100000 in
theorem sI_M3 : ∀ j, j < 36 → ∀ q ∈ (zLM[j]?).toList, (q.1 = 2 → j = 7) ∧ q.1 < 3 ∧ (q.1 = 0 → j = 0 ∧ q.2 = 7) := by decide +kernel
theorem crowd0 : pCrowd (sI.1 5) ((zSh sI).1 0 0) ((zSh sI).1 1) ((zSh sI).1 2) ((zSh sI).1 3) := by
  obtain ⟨⟨a1, a2, a3, a4, a5⟩, a6⟩ := sI_crowd
  refine ⟨⟨6, by omega, by omega, a2, a1⟩, fun i _ => by rw [a3, a4, a5, b_0]; exact ⟨rfl, rfl, rfl⟩, fun s hs => ?_⟩
  obtain ⟨b1, b2, b3⟩ := a6 s hs
  exact Or.inl ⟨b1, b2, b3, by rw [a3, b_0], by rw [a4, b_0], by rw [a5, b_0]⟩
theorem fits0 : fits .byte (.int 0) = true := by decide
theorem init_Rel : Rel sI (zSh sI) := by
  obtain ⟨b1, b2⟩ := sI_bill
  obtain ⟨m1, m2, m3, m4, m5, m6, m7⟩ := sI_misc
  refine ⟨⟨?_, ⟨fun j => j, fun j hj => sI_pm.1 j hj, sI_pm.2, fun j hj => hj, fun i j _ _ e => e⟩, ?_, crowd0, ⟨⟨1, by omega, by omega, b1.1, b1.2⟩, fun t ht => ⟨(b2 t ht).1, (b2 t ht).2.1⟩⟩, ?_, m1, ⟨⟨0, by omega, m2.1, m2.2⟩, fun i _ => ?_⟩, m3, ?_, ⟨0, by omega, m5.1, m5.2, fun e he => absurd he (by omega)⟩⟩, Or.inl m6, Or.inl m7⟩
  · intro j k h
    by_cases q : 169 ≤ j ∨ 20 ≤ k
    · exact absurd (cT_z q) h
    · exact (sI_cR j (by omega) k (by omega)).resolve_left h
  · intro k h
    by_cases q : 53 ≤ k
    · exact absurd (mT_z q) h
    · exact (sI_mR k (by omega)).resolve_left h
  · intro t ht
    obtain ⟨-, -, c1, c2, c3, c4⟩ := b2 t ht
    have c3 : (zSh sI).1 6 (40 + t) = 0 := c3
    have c4 : (zSh sI).1 6 (80 + t) = 0 := c4
    rw [c1, c2, c3, c4]
    exact ⟨rfl, rfl, Or.inl rfl, Or.inl rfl⟩
  · rw [(sI_t i).1]
    exact (sI_t i).2.symm
  · intro j hj
    obtain ⟨q1, q2, q3⟩ := m4 j hj
    refine ⟨j, by omega, sI_pm.1 j hj, 0, fun _ => 0, by omega, q1, q3, rfl, q2, by omega, fun c hc => absurd hc (by omega)⟩
theorem init_all : zInit Rel := by
  refine ⟨sI, sI_e, init_Rel, ⟨by rw [zLC_len]; decide, ?_, ?_, ?_⟩, ⟨by rw [zLM_len]; decide, ?_, ?_, ?_⟩, ?_⟩
  · intro j ci h k kd hk
    have hj : j < 173 := (List.getElem?_eq_some_iff.mp h).1
    have hk53 : k < 53 := by
      rcases Nat.lt_or_ge k 53 with q | q
      · exact q
      · rw [zK_z q] at hk; cases hk
    exact sI_T1 j hj (0, ci) (by rw [h]; simp) rfl k hk53 kd (by show kd ∈ (zK ci k).toList; rw [hk]; simp)
  · intro j t n h i hi
    have hj : j < 173 := (List.getElem?_eq_some_iff.mp h).1
    obtain ⟨q1, q2⟩ := sI_T2 j hj (t + 3, n) (by rw [h]; simp) (by show 3 ≤ t + 3; omega)
    have q1 : n ≤ 20 := q1
    exact q2 i (by omega) hi
  · intro j n h i
    have hj : j < 173 := (List.getElem?_eq_some_iff.mp h).1
    have := sI_T3 j hj (2, n) (by rw [h]; simp) rfl
    subst this
    rw [(sI_t i).1]
    exact fits0
  · intro j ci h k kd hk
    have hj : j < 36 := (List.getElem?_eq_some_iff.mp h).1
    obtain ⟨rfl, rfl⟩ := (sI_M3 j hj (0, ci) (by rw [h]; simp)).2.2 rfl
    have hk53 : k < 53 := by
      rcases Nat.lt_or_ge k 53 with q | q
      · exact q
      · rw [zK_z q] at hk; cases hk
    exact (sI_M1 k hk53 kd (by rw [hk]; simp)).2.2
  · intro j t n h i hi
    have hj : j < 36 := (List.getElem?_eq_some_iff.mp h).1
    have := (sI_M3 j hj (t + 3, n) (by rw [h]; simp)).2.1
    have : t + 3 < 3 := this
    omega
  · intro j n h i
    have hj : j < 36 := (List.getElem?_eq_some_iff.mp h).1
    have := (sI_M3 j hj (2, n) (by rw [h]; simp)).1 rfl
    subst this
    show fits .byte (.int (sI.1 180 i)) = true
    rw [(sI_t i).2]
    exact fits0
  · intro k kd hk
    have hk53 : k < 53 := by
      rcases Nat.lt_or_ge k 53 with q | q
      · exact q
      · rw [zK_z q] at hk; cases hk
    obtain ⟨q1, q2, -⟩ := sI_M1 k hk53 kd (by rw [hk]; simp)
    exact ⟨q1, by unfold zNUL; omega⟩
end
