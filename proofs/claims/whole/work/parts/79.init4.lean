section
theorem cT_z {j k : Nat} (h : 169 ≤ j ∨ 20 ≤ k) : cT j k = 0 := by
  unfold cT
  repeat' split
  all_goals first | rfl | omega
theorem mT_z {k : Nat} (h : 53 ≤ k) : mT k = 0 := by
  unfold mT
  split
  all_goals first | rfl | omega
theorem zK_z {ci k : Nat} (h : 53 ≤ k) : zK ci k = none := by
  unfold zK
  split <;> (try split) <;> first | rfl | omega
theorem zK_lt {ci k : Nat} {kd : Nat × Nat} (h : zK ci k = some kd) : k < 53 := by
  rcases Nat.lt_or_ge k 53 with q | q
  · exact q
  · rw [zK_z q] at h; cases h
theorem fits0 : fits .byte (.int 0) = true := by decide
section
variable {σ : zS}
theorem tape0 (hl : lowZ σ) (ht : fT σ) (i : Nat) : σ.1 167 i = 0 ∧ σ.1 180 i = 0 := by
  by_cases h : i < 1000
  · exact ht i h
  · exact ⟨hl 167 i (by omega), hl 180 i (by omega)⟩
theorem crowd0 (h : fC σ) : pCrowd (σ.1 5) ((zSh σ).1 0 0) ((zSh σ).1 1) ((zSh σ).1 2) ((zSh σ).1 3) := by
  obtain ⟨⟨a1, a2, a3, a4, a5⟩, a6⟩ := h
  refine ⟨⟨6, by omega, by omega, a2, a1⟩, fun i _ => by rw [a3, a4, a5, b_0]; exact ⟨rfl, rfl, rfl⟩, fun s hs => ?_⟩
  obtain ⟨b1, b2, b3⟩ := a6 s hs
  exact Or.inl ⟨b1, b2, b3, by rw [a3, b_0], by rw [a4, b_0], by rw [a5, b_0]⟩
theorem rel0 (hl : lowZ σ) (ht : fT σ) (hr : fR σ) (hc : fC σ) (hb : fB σ) (hm : fM σ) : Rel σ (zSh σ) := by
  obtain ⟨r1, r2, r3, r4⟩ := hr
  obtain ⟨b1, b2⟩ := hb
  obtain ⟨m1, m2, m3, m4, m5, m6, m7⟩ := hm
  refine ⟨⟨?_, ⟨fun j => j, fun j hj => r3 j hj, r4, fun j hj => hj, fun i j _ _ e => e⟩, ?_, crowd0 hc, ⟨⟨1, by omega, by omega, b1.1, b1.2⟩, fun t ht => ⟨(b2 t ht).1, (b2 t ht).2.1⟩⟩, ?_, m1, ⟨⟨0, by omega, m2.1, m2.2⟩, fun i _ => ?_⟩, m3, ?_, ⟨0, by omega, m5.1, m5.2, fun e he => absurd he (by omega)⟩⟩, Or.inl m6, Or.inl m7⟩
  · intro j k h
    by_cases q : 169 ≤ j ∨ 20 ≤ k
    · exact absurd (cT_z q) h
    · exact (r1 j (by omega) k (by omega)).resolve_left h
  · intro k h
    by_cases q : 53 ≤ k
    · exact absurd (mT_z q) h
    · exact (r2 k (by omega)).resolve_left h
  · intro t ht
    obtain ⟨-, -, c1, c2, c3, c4⟩ := b2 t ht
    have c3 : (zSh σ).1 6 (40 + t) = 0 := c3
    have c4 : (zSh σ).1 6 (80 + t) = 0 := c4
    rw [c1, c2, c3, c4]
    exact ⟨rfl, rfl, Or.inl rfl, Or.inl rfl⟩
  · rw [(tape0 hl ht i).1]
    exact (tape0 hl ht i).2.symm
  · intro j hj
    obtain ⟨q1, q2, q3⟩ := m4 j hj
    exact ⟨j, by omega, r3 j hj, 0, fun _ => 0, by omega, q1, q3, rfl, q2, (by show 0 + 2 * 0 ≤ 128; omega), fun c hc => absurd hc (by omega)⟩
theorem chkM_s {k : Nat} {kd : Nat × Nat} (h : chkM σ k = true) (hk : zK 7 k = some kd) : 173 ≤ σ.2 173 k ∧ σ.2 173 k < 1000 ∧ zLM[σ.2 173 k - 173]? = some kd := by
  unfold chkM at h
  rw [hk] at h
  simp only [Bool.and_eq_true, decide_eq_true_eq] at h
  exact h
theorem LM3 : ∀ j, j < 36 → ∀ q ∈ (zLM[j]?).toList, (q.1 = 2 → j = 7) ∧ q.1 < 3 ∧ (q.1 = 0 → j = 0 ∧ q.2 = 7) := by decide +kernel
theorem init_of (he : fLAW = some (zLC ++ zLM, σ)) (hl : lowZ σ) (ht : fT σ) (hr : fR σ) (hc : fC σ) (hb : fB σ) (hm : fM σ) (hk : fK σ) : zInit Rel := by
  refine ⟨σ, he, rel0 hl ht hr hc hb hm, ⟨by rw [zLC_len]; decide, ?_, ?_, ?_⟩, ⟨by rw [zLM_len]; decide, ?_, ?_, ?_⟩, ?_⟩
  · intro j ci h k kd hkd
    have hj : j < 173 := (List.getElem?_eq_some_iff.mp h).1
    have q := hk.1 j hj
    unfold chkC at q
    rw [h] at q
    have q2 := List.all_eq_true.mp q k (List.mem_range.mpr (zK_lt hkd))
    rw [hkd] at q2
    exact of_decide_eq_true q2
  · intro j t n h i hi
    have hj : j < 173 := (List.getElem?_eq_some_iff.mp h).1
    have q := hk.1 j hj
    unfold chkC at q
    rw [h] at q
    obtain ⟨q1, q2⟩ := Bool.and_eq_true_iff.mp q
    have q1 : n ≤ 20 := of_decide_eq_true q1
    have q3 := List.all_eq_true.mp q2 i (List.mem_range.mpr (by omega))
    rw [decide_eq_true hi] at q3
    simpa using q3
  · intro j n h i
    have hj : j < 173 := (List.getElem?_eq_some_iff.mp h).1
    have q := hk.1 j hj
    unfold chkC at q
    rw [h] at q
    have e : j = 167 := of_decide_eq_true q
    rw [e, (tape0 hl ht i).1]
    exact fits0
  · intro j ci h k kd hkd
    have hj : j < 36 := (List.getElem?_eq_some_iff.mp h).1
    obtain ⟨rfl, rfl⟩ := (LM3 j hj (0, ci) (by rw [h]; simp)).2.2 rfl
    exact (chkM_s (hk.2 k (zK_lt hkd)) hkd).2.2
  · intro j t n h i hi
    have hj : j < 36 := (List.getElem?_eq_some_iff.mp h).1
    have q := (LM3 j hj (t + 3, n) (by rw [h]; simp)).2.1
    have q : t + 3 < 3 := q
    omega
  · intro j n h i
    have hj : j < 36 := (List.getElem?_eq_some_iff.mp h).1
    have q := (LM3 j hj (2, n) (by rw [h]; simp)).1 rfl
    subst q
    show fits .byte (.int (σ.1 180 i)) = true
    rw [(tape0 hl ht i).2]
    exact fits0
  · intro k kd hkd
    obtain ⟨q1, q2, -⟩ := chkM_s (hk.2 k (zK_lt hkd)) hkd
    exact ⟨q1, by unfold zNUL; omega⟩
end
theorem init_all : zInit Rel := init_of sI_e sI_low sI_fT sI_fR sI_fC sI_fB sI_fM sI_fK
theorem ops_all : zOps Rel := ⟨o_rows, o_seat, o_paid, o_seconds, o_good, o_plan, o_feed, o_law, o_shows, o_loud, fun σ τ h _ => o_house σ τ h, o_prices, o_costs, o_more, fun σ τ h _ => o_wins σ τ h, o_seated, fun σ τ h _ => o_begins σ τ h, o_silent, o_table, o_rests, fun σ τ h _ => o_keep σ τ h, o_hears, o_otherwise, o_suspects, o_funnier, o_years, o_check, o_count⟩
end
