/-- the second world's own names -/
def zSh (σ : zS) : zS := (fun a b => σ.1 (173 + a) b, fun a b => σ.2 (173 + a) b - 173)
def zσ0 : zS := (fun _ _ => 0, fun _ _ => zNUL)
/-- what the law makes ahead of its loop -/
def fLAW : Option zLS := znw [] zσ0 (0, 6) (fun x L σ => zb (fX6_init x L σ) (fun L σ => znw L σ (0, 7) (fun y L σ => zb (fX7_init y L σ) (fun L σ => if x = 0 ∧ y = 173 then some (L, σ) else none))))
/-- the start: what the constructors leave is alike -/
def zInit (Rel : zS → zS → Prop) : Prop := ∃ σ : zS, fLAW = some (zLC ++ zLM, σ) ∧ Rel σ (zSh σ) ∧ zT zLC σ ∧ zT zLM (zSh σ) ∧ ∀ k kd, zK 7 k = some kd → 173 ≤ σ.2 173 k ∧ σ.2 173 k < zNUL
theorem zLM_obj {j ci : Nat} (h : zLM[j]? = some (0, ci)) : j = 0 ∧ ci = 7 := by
  have hl : j < 36 := (List.getElem?_eq_some_iff.mp h).1
  have key : ∀ j, j < 36 → ∀ q, zLM[j]? = some q → q.1 = 0 → j = 0 ∧ q.2 = 7 := by decide +kernel
  exact key j hl _ h rfl
theorem zLM_ref {j t n : Nat} (h : zLM[j]? = some (t + 3, n)) : False := by
  have hl : j < 36 := (List.getElem?_eq_some_iff.mp h).1
  have key : ∀ j, j < 36 → ∀ q, zLM[j]? = some q → q.1 < 3 := by decide +kernel
  have h3 : t + 3 < 3 := key j hl _ h
  omega
theorem z_cut {b0 : Nat} {cA : Nat → ClassId} {D : va_G} {σ : zS} {H : Heap} (hs : ∀ k kd, zK 7 k = some kd → 173 ≤ σ.2 173 k ∧ σ.2 173 k < zNUL) (h : va_P D vwCl (zW b0 cA (zLC ++ zLM) σ) H) : va_P D vwCl (zW b0 cA zLC σ) H ∧ va_P D vwCl (zW (b0 + 173) cA zLM (zSh σ)) H := by
  refine ⟨fun k q hq => ?_, fun k q hq => ?_⟩
  · have hl := (zW_inv hq).2
    have hk : zLC[k]? = some zLC[k] := List.getElem?_eq_getElem hl
    rw [zW_at hk] at hq
    cases hq
    exact h k _ (zW_at (by rw [List.getElem?_append_left hl]; exact hk))
  · have hl := (zW_inv hq).2
    have hk : zLM[k]? = some zLM[k] := List.getElem?_eq_getElem hl
    generalize zLM[k] = kd at hk
    rw [zW_at hk] at hq
    cases hq
    have hk2 : (zLC ++ zLM)[173 + k]? = some kd := by
      rw [List.getElem?_append_right (by rw [zLC_len]; omega), zLC_len, show 173 + k - 173 = k by omega]
      exact hk
    have h2 := h (173 + k) _ (zW_at hk2)
    have he : zE b0 cA kd σ (173 + k) = zE (b0 + 173) cA kd (zSh σ) k := by
      obtain ⟨t, n⟩ := kd
      match t with
      | 0 =>
        obtain ⟨rfl, rfl⟩ := zLM_obj hk
        rw [zE_o, zE_o]
        have hz : zL b0 σ 7 173 = zL (b0 + 173) (zSh σ) 7 0 := by
          have hfun : zF b0 σ 7 173 = zF (b0 + 173) (zSh σ) 7 0 := by
            funext k
            unfold zF
            cases hkk : zK 7 k with
            | none => rfl
            | some kd =>
              obtain ⟨g1, g2⟩ := hs k kd hkk
              show va_rf (zO b0 (σ.2 173 k)) = va_rf (zO (b0 + 173) (σ.2 173 k - 173))
              rw [zO_nn (by omega), zO_nn (by omega), show b0 + 173 + (σ.2 173 k - 173) = b0 + σ.2 173 k by omega]
          unfold zL
          rw [hfun]
        rw [hz]
      | 1 => rfl
      | 2 => rfl
      | t + 3 => exact (zLM_ref hk).elim
    rw [he] at h2
    rw [show b0 + 173 + k = b0 + (173 + k) by omega]
    exact h2
section ZS
variable {p : Program} {l : Launch} {e : Env} {R : Room} {s : State} {m : MethodId} {args : Array Value} {below : List Frame} {meth : Method} {c : Code} {b0 : Nat} {cA : Nat → ClassId} {D : va_G} {L : List (Nat × Nat)} {Q : zLS → State → Prop} {o : Option zLS} {σ : zS} {ce sl pc pc' tgt : Nat} {ls : Array Slot} {st rest : List Value} {cc : ByteArray} {nL : Nat} {ret : Option FieldType} {w0 : Cond} {own : String}
theorem zc_astore_n {k0 : Fin 4} {i : Nat} {x : Nat} {lv lv' : List (Nat × Value)} (hC : zC p c s m args meth cc nL ret w0 own cA D) (hd : decode cc pc = .ok (.astore_n k0, 1)) (hp : pc + 1 = pc') (hi : (k0 : Nat) = i) (h : lv_has ls nL lv) (hn : i < nL) (hl : (i, Value.ref x) :: lv.filter (fun q => !(q.1 == i) && !(q.1 + 1 == i && q.2.category == 2)) = lv') (k : ∀ ls' : Array Slot, lv_has ls' nL lv' → zK1 p l e R s m args below meth c b0 cA D Q o L σ ce sl pc' ls' rest) : zK1 p l e R s m args below meth c b0 cA D Q o L σ ce sl pc ls (.ref x :: rest) := by
  subst hp
  exact fun z hz H locs hP hZ hS => lv_astore_n hC.1.1 hC.1.2.1 hd hi h hn hl (fun ls' hl' => k ls' hl' z hz H locs hP hZ hS)
theorem zc_if {q : Prop} {hq : Decidable q} (k : q → zK1 p l e R s m args below meth c b0 cA D Q o L σ ce sl pc ls st) : zK1 p l e R s m args below meth c b0 cA D Q (@ite (Option zLS) q hq o none) L σ ce sl pc ls st := by
  intro z hz
  by_cases h : q
  · rw [if_pos h] at hz
    exact k h z hz
  · rw [if_neg h] at hz
    cases hz
end ZS
/-- classes and array classes, as the tables have them at the start -/
theorem z_known {b : Nat} {s : State} (hts : ∀ w ∈ lw_tbl, w.before #[Value.ref b] s = true) : ∃ (cA : Nat → ClassId) (D : va_G), va_K D vwCl (zTy cA) s := by
  have ht : ∀ w ∈ zBig, w.before #[Value.ref b] s = true := fun w h => hts w (List.mem_filter.mp h).1
  obtain ⟨c0, i0, k0⟩ := u_known (C := RX0) (T := TX0) (N := 9) (n := 9) ht inX0 (ht _ tw_1_115)
  obtain ⟨c1, i1, k1⟩ := u_known (C := RX1) (T := TX1) (N := 3) (n := 3) ht inX1 (ht _ tw_1_28)
  obtain ⟨c2, i2, k2⟩ := u_known (C := RX2) (T := TX2) (N := 7) (n := 7) ht inX2 (ht _ tw_1_55)
  obtain ⟨c3, i3, k3⟩ := u_known (C := RX3) (T := TX3) (N := 5) (n := 5) ht inX3 (ht _ tw_1_26)
  obtain ⟨c4, i4, k4⟩ := u_known (C := RX4) (T := TX4) (N := 3) (n := 3) ht inX4 (ht _ tw_1_150)
  obtain ⟨c5, i5, k5⟩ := u_known (C := RX5) (T := TX5) (N := 6) (n := 6) ht inX5 (ht _ tw_1_170)
  obtain ⟨c6, i6, k6⟩ := u_known (C := RX6) (T := TX6) (N := 17) (n := 17) ht inX6 (ht _ tw_1_18)
  obtain ⟨c7, i7, k7⟩ := u_known (C := RX7) (T := TX7) (N := 53) (n := 53) ht inX7 (ht _ tw_4_43)
  obtain ⟨cI, kI, pI, e1, e2, e3⟩ := Cond.arrayClass_spec (ht _ tw_1_49)
  obtain ⟨cB, kB, pB, f1, f2, f3⟩ := Cond.arrayClass_spec (ht _ tw_1_194)
  obtain ⟨pE, cE, kE, g1, -, g2, g3, g4⟩ := Cond.arrayOver_spec (hts _ tw_1_113)
  obtain ⟨pL, cL, kL, h1, -, h2, h3, h4⟩ := Cond.arrayOver_spec (hts _ tw_1_149)
  refine ⟨fun k => if k = 1 then cI else if k = 2 then cB else if k = 3 then cE else cL, (fun k => if k = 0 then c0 else if k = 1 then c1 else if k = 2 then c2 else if k = 3 then c3 else if k = 4 then c4 else if k = 5 then c5 else if k = 6 then c6 else c7, fun k => if k = 0 then i0 else if k = 1 then i1 else if k = 2 then i2 else if k = 3 then i3 else if k = 4 then i4 else if k = 5 then i5 else if k = 6 then i6 else i7), ?_, ?_⟩
  · intro k q hq
    match k, hq with
    | 0, hq => cases hq; exact k0
    | 1, hq => cases hq; exact k1
    | 2, hq => cases hq; exact k2
    | 3, hq => cases hq; exact k3
    | 4, hq => cases hq; exact k4
    | 5, hq => cases hq; exact k5
    | 6, hq => cases hq; exact k6
    | 7, hq => cases hq; exact k7
    | k + 8, hq => simp [vwCl] at hq
  · intro k q hq
    match k, hq with
    | 0, hq => cases hq; exact ⟨fun n z => ⟨fun k h => (by cases h), kI, e2, pI, e3⟩, e1⟩
    | 1, hq => cases hq; exact ⟨fun n z => ⟨fun k h => (by cases h), kB, f2, pB, f3⟩, f1⟩
    | 2, hq => cases hq; exact ⟨fun n z => ⟨fun k h => (by cases h), kE, g2, pE, g3⟩, kE, pE, g2, g3, g1, g4⟩
    | 3, hq => cases hq; exact ⟨fun n z => ⟨fun k h => (by cases h), kL, h2, pL, h3⟩, kL, pL, h2, h3, h1, h4⟩
    | k + 4, hq => simp [zTy] at hq
/-- the String constant, at the start -/
theorem z_str {b : Nat} {s : State} {A : Nat → Prop} (hts : ∀ w ∈ lw_tbl, w.before #[Value.ref b] s = true) (hgv : (Jvm.Cond.and given_1 narrow_1).before #[Value.ref b] s = true) (hA : ∀ a : Nat, a < s.heap.size → ¬ A a) : ∃ sq sw : Nat, zGq A sq sw s s.heap := by
  have hf := flat_of_before _ hgv
  have hcs : (Term.static "java/lang/String" "COMPACT_STRINGS" "Z").eval #[Value.ref b] s none [] s = some (.int 1) := va_eqi (hf _ (by decide +kernel))
  have hZ : va_Z "java/lang/String" "COMPACT_STRINGS" "Z" (.int 1) A s s.heap := va_Zof (hts _ tw_2_166) (hts _ (List.mem_filter.mp tw_1_9).1) hcs hA
  obtain ⟨adK, adV, hS, hev⟩ := vk_Sof (args := #[Value.ref b]) (s := s) (N := 1) (tm := fun _ => .string "PaidHouse$Reader" 109) (len := [12]) (byt := [zBy]) (A := A)
    (fun i hi => by rw [show i = 0 by omega]; decide) (fun i hi => hf _ (by decide +kernel)) (fun i hi => hf _ (by decide +kernel)) (fun i hi => hf _ (by decide +kernel)) (fun i hi => by rw [show i = 0 by omega]; exact hf _ (by decide +kernel))
    (fun i hi j hj => by
      rw [show i = 0 by omega] at hj ⊢
      have hj : j < 12 := hj
      have key : ∀ j, j < 12 → (Cond.eq (.elem (.field (.string "PaidHouse$Reader" 109) "java/lang/String" "value" "[B") (.int (Int32.ofNat j))) (.int (([zBy].getD 0 []).getD j 0))) ∈ flatC (Jvm.Cond.and given_1 narrow_1) := by decide +kernel
      exact hf _ (key j hj))
    (fun i j hi hj hne => absurd (by omega) hne) hA
  obtain ⟨h1, h2, h3, h4⟩ := hS.1 0 (by decide)
  exact ⟨adK 0, adV 0, h1, h2, h3, h4, hZ, vk_R.of (hts _ tw_2_152) (hev 0 (by decide))⟩
set_option maxRecDepth 100000 in
set_option maxHeartbeats 4000000 in
/-- the law from its entry, out of the 28 calls and the start -/
theorem whole_of (Rel : zS → zS → Prop) (hops : zOps Rel) (hinit : zInit Rel) {p : Program} {e : Env} {s : State} {m : MethodId} {below : List Frame} {meth : Method} {c : Code} (l : Launch) {b L : Nat} {xs : Nat → Int32} (hL : L ≤ 3072) (C0 : lw_At p s m meth c b L xs) : W p l e room_1 s m #[Value.ref b] below meth c s.heap [] 0 0 (lw_Z below #[Value.ref b] s) (entryFrame m ([Value.ref b] : List Value).toArray 4) := by
  obtain ⟨hx, hb, hr, hml, hown, hts, hX, hbl, hlocks, hgv⟩ := C0
  obtain ⟨cA, D, hK⟩ := z_known hts
  have ht : ∀ w ∈ zBig, w.before #[Value.ref b] s = true := fun w h => hts w (List.mem_filter.mp h).1
  have hC : zC p c s m #[Value.ref b] meth code 4 (some .boolean) (Cond.initialized "PaidHouseLaw") "PaidHouseLaw" cA D := by
    refine ⟨⟨hx, hb, hml, hown, fun w h => ?_⟩, hK, hr, hlocks⟩
    rcases List.mem_cons.mp h with rfl | h
    · exact ht _ tw_1_0
    · exact ht w h
  obtain ⟨b0, hb0⟩ : ∃ b0, b0 = s.heap.size := ⟨_, rfl⟩
  have hNX : zNX s := ⟨va_AO.of (hts _ tw_1_113), va_AO.of (hts _ tw_1_149), va_Nw.of rfl (hts _ tw_1_29), va_Nw.of rfl (hts _ tw_1_56), va_Nw.of rfl (hts _ tw_1_151)⟩
  obtain ⟨sq, sw, hG⟩ := z_str (A := zA b0 zLC) hts hgv (fun a ha q => by have := q.1; omega)
  obtain ⟨σ, hσ, hR, hT, hT2, hs⟩ := hinit
  have hl := lv_entry ([.ref b]) (n := 4) (Nat.le_of_ble_eq_true rfl)
  rw [lg_entry_eq]
  generalize (lg_sl ([.ref b]) ++ List.replicate (4 - (lg_sl ([.ref b])).length) Slot.unset).toArray = ls at hl ⊢
  have hl : lv_has ls 4 [(0, .ref b)] := hl
  have main : zK1 p l e room_1 s m #[Value.ref b] below meth c b0 cA D (fun z t => z = (zLC ++ zLM, σ) → lw_Z below #[Value.ref b] s t) fLAW [] zσ0 0 0 0 ls [] := by
    unfold fLAW
    refine zc_new (pc' := 3) hC fd_6_0 nw6 tw_1_17 tw_1_18 tw_1_1 (by decide) (by decide) dL_law_0 rfl (fun x L1 σ1 => ?_)
    refine zc_dup (pc' := 4) hC dL_law_3 rfl rfl ?_
    refine zc_callI (pc' := 7) (rest := [.ref (b0 + x)]) hNX hC (kX6_init l b0 cA D x L1 σ1) tw_1_21 tw_1_19 tw_1_20 tw_1_1 rfl ddX6_init rfl ⟨by decide, by decide⟩ ⟨by decide, by decide⟩ hl.1 (Nat.le_of_ble_eq_true rfl) rfl dL_law_4 rfl (fun L2 σ2 => ?_)
    refine zc_astore_n (pc' := 8) (lv' := [(1, .ref (b0 + x)), (0, .ref b)]) hC dL_law_7 rfl rfl hl (by decide) rfl (fun ls hl => ?_)
    refine zc_new (pc' := 11) hC fd_7_0 nw7 tw_4_42 tw_4_43 tw_1_8 (by decide) (by decide) dL_law_8 rfl (fun y L3 σ3 => ?_)
    refine zc_dup (pc' := 12) hC dL_law_11 rfl rfl ?_
    refine zc_callI (pc' := 15) (rest := [.ref (b0 + y)]) hNX hC (kX7_init l b0 cA D y L3 σ3) tw_4_46 tw_4_44 tw_4_45 tw_1_8 rfl ddX7_init rfl ⟨by decide, by decide⟩ ⟨by decide, by decide⟩ hl.1 (Nat.le_of_ble_eq_true rfl) rfl dL_law_12 rfl (fun L4 σ4 => ?_)
    refine zc_astore_n (pc' := 16) (lv' := [(2, .ref (b0 + y)), (1, .ref (b0 + x)), (0, .ref b)]) hC dL_law_15 rfl rfl hl (by decide) rfl (fun ls hl => ?_)
    refine zc_if (fun hxy => ?_)
    obtain ⟨rfl, rfl⟩ := hxy
    refine zc_iconst (pc' := 17) (v := (0 : Int32)) hC dL_law_16 rfl rfl ?_
    refine zc_istore_n (pc' := 18) (lv' := [(3, .int (0 : Int32)), (2, .ref (b0 + 173)), (1, .ref (b0 + 0)), (0, .ref b)]) hC dL_law_17 rfl rfl hl (by decide) rfl (fun ls hl => ?_)
    intro z hz H locs hP hZ hS
    cases hz
    by_cases hq : (L4, σ4) = (zLC ++ zLM, σ)
    · cases hq
      obtain ⟨hP1, hP2⟩ := z_cut hs hP
      have K := law_loop (l := l) (e := e) (below := below) hL hb0 hC hG hX hbl hr hops (L + 1) 0 (Nat.zero_le _) (by omega) σ (zSh σ) ls hR (lv_sub hl [3, 2, 1, 0] rfl) H locs hP1 hT hP2 hT2 hS
      intro T hT0 X
      obtain ⟨t, a1, a2⟩ := K T hT0 X
      exact ⟨t, a1, fun _ => a2⟩
    · intro T hT0 X
      exact ⟨_, Steps.refl _, fun h => absurd h hq⟩
  obtain hW := main (zLC ++ zLM, σ) hσ s.heap [] (fun k q h => by simp [zW] at h) (by rw [hb0]; rfl) va_S.rf
  intro T hT0 X
  obtain ⟨t, a1, a2⟩ := hW T hT0 X
  exact ⟨t, a1, a2 rfl⟩
