/-! ===== what class and reference have in common ===== -/
/-- one seat of a crowd c (fields of the class's Crowd): sort, knows, paid as the reference has them -/
def pSeat (c : Nat → Int32) (so kn pa : Int32) (s : Nat) : Prop :=
  (so = -1 ∧ kn = 0 ∧ pa = 0 ∧ bt (c 1) s = false ∧ bt (c 5) s = false ∧ bt (c 6) s = false) ∨
  (∃ k : Nat, k < 4 ∧ so = nI k ∧ bt (c 1) s = true ∧ bt (c 3) s = decide (k % 2 = 1) ∧ bt (c 4) s = decide (2 ≤ k) ∧ ((kn = 0 ∧ bt (c 2) s = false) ∨ (kn = 1 ∧ bt (c 2) s = true)) ∧ ((pa = 0 ∧ bt (c 5) s = false ∧ bt (c 6) s = false) ∨ (pa = 1 ∧ bt (c 5) s = true ∧ bt (c 6) s = false) ∨ (pa = 2 ∧ bt (c 5) s = false ∧ bt (c 6) s = true)))
def pCrowd (c : Nat → Int32) (row : Int32) (sort knows paid : Nat → Int32) : Prop :=
  (∃ w : Nat, 4 ≤ w ∧ w ≤ 8 ∧ row = nI w ∧ c 0 = nI w) ∧ (∀ i, 24 ≤ i → bt (c 1) i = false ∧ bt (c 5) i = false ∧ bt (c 6) i = false) ∧ ∀ s, s < 24 → pSeat c (sort s) (knows s) (paid s) s
def pBill (len : Int32) (k o : Nat → Int32) (secs : Int32) (gk go : Nat → Int32) : Prop :=
  (∃ n : Nat, 1 ≤ n ∧ n ≤ 40 ∧ len = nI n ∧ secs = nI n) ∧ (∀ t, t < 40 → k t = gk t ∧ o t = go t)
def pPlan (f g pl : Nat → Int32) : Prop := ∀ t, t < 40 → f t = pl (40 + t) ∧ g t = pl (80 + t) ∧ (f t = 0 ∨ f t = 1 ∨ f t = 2) ∧ (g t = 0 ∨ g t = 1 ∨ g t = 2)
def pTape (n : Int32) (tp : Nat → Int32) (n2 : Int32) (tp2 : Nat → Int32) : Prop := (∃ k : Nat, k ≤ 25 ∧ n = nI (20 * k) ∧ n2 = nI (20 * k)) ∧ ∀ i, i < 500 → tp i = tp2 i
def pSums (f g tb : Nat → Int32) : Prop := ∀ i, i < 25 → f i = tb i ∧ g i = tb (25 + i)
/-! ===== an evening, reckoned ===== -/
def near (w s q : Nat) : Bool := (decide (s / w = q / w) && (decide (s = q + 1) || decide (q = s + 1))) || (decide (s = q + w) || decide (q = s + w))
/-- the twelve letters of the person on seat s at second t; prev: what was shown the second before -/
def fct (w : Nat) (sort knows hired : Nat → Int32) (good : Int32) (prev : Nat → Int32) (s t : Nat) (k : Nat) : Int32 :=
  match k with
  | 0 => good
  | 1 => nI (cn (fun q => decide (¬ sort q = -1) && (near w s q && decide (prev q = 1))) 24)
  | 2 => nI (cn (fun q => decide (¬ sort q = -1) && (near w s q && decide (prev q = 2))) 24)
  | 3 => nI (cn (fun q => decide (¬ sort q = -1) && decide (prev q = 1)) 24)
  | 4 => nI (cn (fun q => decide (¬ sort q = -1) && decide (prev q = 2)) 24)
  | 5 => nI (cn (fun q => decide (¬ sort q = -1)) 24)
  | 6 => prev s
  | 7 => nI t
  | 8 => nI s
  | 9 => nI (s / w)
  | 10 => nI (cn (fun q => decide (¬ sort q = -1) && (near w s q && decide (¬ hired q = 0))) 24)
  | 11 => knows s
  | _ => 0
/-- what a person shows; lw: a law asked by its sort and letters -/
def act (w : Nat) (sort knows hired gk go pl : Nat → Int32) (lw : Int32 → (Nat → Int32) → Int32) (B : Nat → Bool) (prev : Nat → Int32) (t s : Nat) : Int32 :=
  if sort s = -1 then 0 else if t = 0 ∧ B s = true then 1 else if hired s = 0 then lw (sort s) (fct w sort knows hired (if knows s = 1 then gk t else go t) prev s t) else pl (40 * (hired s).toNatClampNeg + t)
def shw (w : Nat) (sort knows hired gk go pl : Nat → Int32) (lw : Int32 → (Nat → Int32) → Int32) (B : Nat → Bool) : Nat → Nat → Int32
  | 0 => act w sort knows hired gk go pl lw B (fun _ => 0) 0
  | t + 1 => act w sort knows hired gk go pl lw B (shw w sort knows hired gk go pl lw B t) (t + 1)
/-- claps less hisses of the seconds below n -/
def loudN (f : Nat → Nat → Int32) : Nat → Int32
  | 0 => 0
  | t + 1 => loudN f t + nI (cn (fun s => decide (f t s = 1)) 24) - nI (cn (fun s => decide (f t s = 2)) 24)
