section
/-! ===== the start ===== -/
def lowZ (σ : zS) : Prop := ∀ j i, 1000 ≤ i → σ.1 j i = 0
def PO (o : Option zLS) : Prop := ∀ z, o = some z → lowZ z.2
theorem po_some {L : List (Nat × Nat)} {σ : zS} (h : lowZ σ) : PO (some (L, σ)) := fun z hz => by cases hz; exact h
theorem po_zQ {L : List (Nat × Nat)} {x : Nat} {kd : Nat × Nat} {o : Option zLS} (h : PO o) : PO (zQ L x kd o) := fun z hz => by
  unfold zQ at hz
  split at hz
  · exact h z hz
  · cases hz
theorem po_zX {i : Int32} {n : Nat} {o : Option zLS} (h : PO o) : PO (zX i n o) := fun z hz => by
  unfold zX at hz
  split at hz
  · cases hz
  · exact h z hz
theorem po_bS {a : zS} {f : zS → Option zLS} (ha : lowZ a) (h : ∀ σ, lowZ σ → PO (f σ)) : PO (bnd a f) := h a ha
theorem po_bN {a : Nat} {f : Nat → Option zLS} (h : ∀ q, PO (f q)) : PO (bnd a f) := h a
theorem lz_N {σ : zS} {n : Nat} (h : lowZ σ) : lowZ (zNw σ n) := fun j i hi => by
  show (if j = n then 0 else σ.1 j i) = 0
  split
  · rfl
  · exact h j i hi
theorem lz_I {σ : zS} {j k : Nat} {v : Int32} (h : lowZ σ) (hk : k < 1000) : lowZ (zI σ j k v) := fun a b hb => by
  rw [zI_o (by omega)]
  exact h a b hb
theorem lz_R {σ : zS} {j k v : Nat} (h : lowZ σ) : lowZ (zR σ j k v) := h
theorem po_nw {L : List (Nat × Nat)} {σ : zS} {kd : Nat × Nat} {f : Nat → List (Nat × Nat) → zS → Option zLS} (h0 : lowZ σ) (h : ∀ x L σ, lowZ σ → PO (f x L σ)) : PO (znw L σ kd f) := h _ _ _ (lz_N h0)
theorem po_zb {o : Option zLS} {f : List (Nat × Nat) → zS → Option zLS} (h0 : PO o) (h : ∀ L σ, lowZ σ → PO (f L σ)) : PO (zb o f) := by
  intro z hz
  match o, h0, hz with
  | some (L, σ), h0, hz => exact h L σ (h0 _ rfl) z hz
set_option maxRecDepth 100000 in
set_option maxHeartbeats 8000000 in
theorem po_1 {v0 : Nat} {L : List (Nat × Nat)} {σ : zS} (h : lowZ σ) : PO (fX1_init v0 L σ) := by
  unfold fX1_init
  repeat' first | with_reducible exact po_some (by assumption) | with_reducible refine po_zQ ?_ | with_reducible refine po_zX ?_ | with_reducible refine po_nw (by assumption) (fun _ _ _ _ => ?_) | with_reducible refine po_bN (fun _ => ?_) | with_reducible refine po_bS (lz_R (by assumption)) (fun _ _ => ?_) | with_reducible refine po_bS (lz_I (by assumption) (by decide)) (fun _ _ => ?_)
set_option maxRecDepth 100000 in
set_option maxHeartbeats 8000000 in
theorem po_2 {v0 : Nat} {L : List (Nat × Nat)} {σ : zS} (h : lowZ σ) : PO (fX2_init v0 L σ) := by
  unfold fX2_init
  repeat' first | with_reducible exact po_some (by assumption) | with_reducible refine po_zQ ?_ | with_reducible refine po_zX ?_ | with_reducible refine po_nw (by assumption) (fun _ _ _ _ => ?_) | with_reducible refine po_bN (fun _ => ?_) | with_reducible refine po_bS (lz_R (by assumption)) (fun _ _ => ?_) | with_reducible refine po_bS (lz_I (by assumption) (by decide)) (fun _ _ => ?_)
set_option maxRecDepth 100000 in
set_option maxHeartbeats 8000000 in
theorem po_3 {v0 v1 : Nat} {L : List (Nat × Nat)} {σ : zS} (h : lowZ σ) : PO (fX3_init v0 v1 L σ) := by
  unfold fX3_init
  repeat' first | with_reducible exact po_some (by assumption) | with_reducible refine po_zQ ?_ | with_reducible refine po_zX ?_ | with_reducible refine po_nw (by assumption) (fun _ _ _ _ => ?_) | with_reducible refine po_zb (po_2 (by assumption)) (fun _ _ _ => ?_) | with_reducible refine po_bN (fun _ => ?_) | with_reducible refine po_bS (lz_R (by assumption)) (fun _ _ => ?_) | with_reducible refine po_bS (lz_I (by assumption) (by decide)) (fun _ _ => ?_)
set_option maxRecDepth 100000 in
set_option maxHeartbeats 8000000 in
theorem po_4 {v0 : Nat} {L : List (Nat × Nat)} {σ : zS} (h : lowZ σ) : PO (fX4_init v0 L σ) := by
  unfold fX4_init
  repeat' first | with_reducible exact po_some (by assumption) | with_reducible refine po_zQ ?_ | with_reducible refine po_zX ?_ | with_reducible refine po_nw (by assumption) (fun _ _ _ _ => ?_) | with_reducible refine po_bN (fun _ => ?_) | with_reducible refine po_bS (lz_R (by assumption)) (fun _ _ => ?_) | with_reducible refine po_bS (lz_I (by assumption) (by decide)) (fun _ _ => ?_)
set_option maxRecDepth 100000 in
set_option maxHeartbeats 8000000 in
theorem po_5 {v0 v1 v2 : Nat} {L : List (Nat × Nat)} {σ : zS} (h : lowZ σ) : PO (fX5_init v0 v1 v2 L σ) := by
  unfold fX5_init
  repeat' first | with_reducible exact po_some (by assumption) | with_reducible refine po_zQ ?_ | with_reducible refine po_zX ?_ | with_reducible refine po_nw (by assumption) (fun _ _ _ _ => ?_) | with_reducible refine po_bN (fun _ => ?_) | with_reducible refine po_bS (lz_R (by assumption)) (fun _ _ => ?_) | with_reducible refine po_bS (lz_I (by assumption) (by decide)) (fun _ _ => ?_)
set_option maxRecDepth 100000 in
set_option maxHeartbeats 8000000 in
theorem po_0 {v0 v1 : Nat} {L : List (Nat × Nat)} {σ : zS} (h : lowZ σ) : PO (fX0_init v0 v1 L σ) := by
  unfold fX0_init
  repeat' first | with_reducible exact po_some (by assumption) | with_reducible refine po_zQ ?_ | with_reducible refine po_zX ?_ | with_reducible refine po_nw (by assumption) (fun _ _ _ _ => ?_) | with_reducible refine po_bN (fun _ => ?_) | with_reducible refine po_bS (lz_R (by assumption)) (fun _ _ => ?_) | with_reducible refine po_bS (lz_I (by assumption) (by decide)) (fun _ _ => ?_)
set_option maxRecDepth 100000 in
set_option maxHeartbeats 8000000 in
theorem po_6 {v0 : Nat} {L : List (Nat × Nat)} {σ : zS} (h : lowZ σ) : PO (fX6_init v0 L σ) := by
  unfold fX6_init
  repeat' first | with_reducible exact po_some (by assumption) | with_reducible refine po_zQ ?_ | with_reducible refine po_zX ?_ | with_reducible refine po_nw (by assumption) (fun _ _ _ _ => ?_) | with_reducible refine po_zb (po_1 (by assumption)) (fun _ _ _ => ?_) | with_reducible refine po_zb (po_3 (by assumption)) (fun _ _ _ => ?_) | with_reducible refine po_zb (po_4 (by assumption)) (fun _ _ _ => ?_) | with_reducible refine po_zb (po_5 (by assumption)) (fun _ _ _ => ?_) | with_reducible refine po_zb (po_0 (by assumption)) (fun _ _ _ => ?_) | with_reducible refine po_bN (fun _ => ?_) | with_reducible refine po_bS (lz_R (by assumption)) (fun _ _ => ?_) | with_reducible refine po_bS (lz_I (by assumption) (by decide)) (fun _ _ => ?_)
set_option maxRecDepth 100000 in
set_option maxHeartbeats 8000000 in
theorem po_7 {v0 : Nat} {L : List (Nat × Nat)} {σ : zS} (h : lowZ σ) : PO (fX7_init v0 L σ) := by
  unfold fX7_init
  repeat' first | with_reducible exact po_some (by assumption) | with_reducible refine po_zQ ?_ | with_reducible refine po_zX ?_ | with_reducible refine po_nw (by assumption) (fun _ _ _ _ => ?_) | with_reducible refine po_bN (fun _ => ?_) | with_reducible refine po_bS (lz_R (by assumption)) (fun _ _ => ?_) | with_reducible refine po_bS (lz_I (by assumption) (by decide)) (fun _ _ => ?_)
theorem po_L : PO fLAW := by
  have h0 : lowZ zσ0 := fun _ _ _ => rfl
  unfold fLAW
  refine po_nw h0 (fun _ _ _ h1 => po_zb (po_6 h1) (fun _ _ h2 => po_nw h2 (fun _ _ _ h3 => po_zb (po_7 h3) (fun _ _ h4 => ?_))))
  intro z hz
  split at hz
  · cases hz; exact h4
  · cases hz
end
