/-- the six counters of a taken seat -/
theorem m_feels_in (nn : Nat) (k : Nat → Nat → Int32 → Nat → Nat → Nat → Int32 → Int32 → Int32 → Int32 → zS → Option (Unit × zS)) (v1 : Nat) (v2 : Int32) (v3 v4 v5 : Nat) (v7 v8 v9 : Int32) (q : Nat) (hq : q < 24) (nb : Bool) (did : Int32) (σ : zS) (F : Nat → Int32) (hm : mR σ.2) (h4 : ¬ v4 = 19) :
    bX7_feels_88 nn (bX7_feels_243 nn k) 0 v1 v2 v3 v4 v5 v7 v8 v9 (nI q) (if nb = true then 1 else 0) did (zA1 σ 19 F) = k 0 v1 v2 v3 v4 v5 v7 v8 v9 (nI (q + 1)) (zA1 σ 19 (fun i => F i + (if i = 1 then (if nb && decide (did = 1) then 1 else 0) else if i = 2 then (if nb && decide (did = 2) then 1 else 0) else if i = 3 then (if decide (did = 1) then 1 else 0) else if i = 4 then (if decide (did = 2) then 1 else 0) else if i = 5 then 1 else if i = 10 then (if nb && decide (¬ σ.1 v4 q = 0) then 1 else 0) else 0))) := by
  have hm' : mR (zA1 σ 19 F).2 := hm
  have hcl : ∀ (A B : Nat → Int32), A 1 = B 1 → A 2 = B 2 → A 3 = B 3 → A 4 = B 4 → A 5 = B 5 → A 10 = B 10 → (∀ i, ¬ i = 1 → ¬ i = 2 → ¬ i = 3 → ¬ i = 4 → ¬ i = 5 → ¬ i = 10 → A i = B i) → k 0 v1 v2 v3 v4 v5 v7 v8 v9 (nI q + 1) (zA1 σ 19 A) = k 0 v1 v2 v3 v4 v5 v7 v8 v9 (nI q + 1) (zA1 σ 19 B) := by
    intro A B h1 h2 h3 h4 h5 h6 h7
    have : A = B := by
      funext i
      by_cases i1 : i = 1
      · subst i1; exact h1
      by_cases i2 : i = 2
      · subst i2; exact h2
      by_cases i3 : i = 3
      · subst i3; exact h3
      by_cases i4 : i = 4
      · subst i4; exact h4
      by_cases i5 : i = 5
      · subst i5; exact h5
      by_cases i6 : i = 10
      · subst i6; exact h6
      exact h7 i i1 i2 i3 i4 i5 i6
    rw [this]
  have hz : zX (nI q) 24 = fun (a : Option (Unit × zS)) => a := by funext a; exact zX_n hq (by omega)
  have hc : (nI q).toNatClampNeg = q := cl_n (by omega)
  have u (G : Nat → Int32) (i j : Nat) (x : Int32) (h : ¬ j = i) : upd G i x j = G j := pk_un h
  have n21 : ¬ (2 : Int32) = 1 := by decide
  simp only [bX7_feels_88, bX7_feels_116, bX7_feels_117, bX7_feels_145, bX7_feels_146, bX7_feels_170, bX7_feels_194, bX7_feels_240, bX7_feels_241, bX7_feels_243, bnd_e, zA1_2, mm31 hm, zx12.1, zx12.2.1, zx12.2.2.1, zx12.2.2.2.1, zx12.2.2.2.2.1, zx12.2.2.2.2.2.1, zx12.2.2.2.2.2.2.2.2.2.2.1, cl_lit.1, cl_lit.2.1, cl_lit.2.2.1, cl_lit.2.2.2.1, cl_lit.2.2.2.2.1, cl_lit.2.2.2.2.2.1, cl_lit.2.2.2.2.2.2.2.2.2.2.1, zI_zA1, zA1_s, zA1_o h4, hz, hc, ← nI_1]
  by_cases d1 : did = 1
  · subst d1
    cases nb <;> by_cases p0 : σ.1 v4 q = 0 <;> (simp [p0, upd]; apply hcl <;> simp (config := { contextual := true }) [upd])
  · by_cases d2 : did = 2
    · subst d2
      cases nb <;> by_cases p0 : σ.1 v4 q = 0 <;> (simp [p0, upd]; apply hcl <;> simp (config := { contextual := true }) [upd])
    · cases nb <;> by_cases p0 : σ.1 v4 q = 0 <;> (simp [p0, d1, d2, upd]; apply hcl <;> simp (config := { contextual := true }) [upd])
