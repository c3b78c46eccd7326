-- X7_in
theorem ddX7_in : yX7_in.cls ≠ "java/lang/invoke/MethodHandle" ∧ yX7_in.cls ≠ "java/lang/invoke/VarHandle" ∧ (parseMethodDescriptor yX7_in.desc).map (fun d => d.parameters.length) = some 3 := by decide +kernel
abbrev rmX7_in : Room := { frames := 0, cells := 0, slots := 0, locals := 0 }
def fX7_in (v0 : Int32) (v1 : Int32) (v2 : Int32) (σ : zS) : Option (Int32 × zS) :=
  if v0 < v1 then (some ((0 : Int32), σ)) else (if v2 < v0 then (some ((0 : Int32), σ)) else (some ((1 : Int32), σ)))
set_option maxRecDepth 100000 in
set_option maxHeartbeats 4000000 in
theorem kX7_in (l : Launch) (b0 : Nat) (cA : Nat → ClassId) (D : va_G) (L : List (Nat × Nat)) (v0 : Int32) (v1 : Int32) (v2 : Int32) (σ : zS)  : zMz l b0 cA D L yX7_in (Cond.code yX7_in cX7_in 3 (some Jvm.ClassFile.FieldType.boolean)) rmX7_in [.int v0, .int v1, .int v2] σ (fX7_in v0 v1 v2 σ) := by
  refine zMz_of (by decide) (Nat.le_of_ble_eq_true rfl) ?_
  intro p e s m below meth c ls hC hl
  have hl : lv_has ls 3 [(0, .int v0), (1, .int v1), (2, .int v2)] := hl
  generalize ([.int v0, .int v1, .int v2] : List Value).toArray = args at hC ⊢
  unfold fX7_in
  refine zj_iload_n (pc' := 1) hC dX7_in_0 rfl rfl (lv_at hl 0 rfl) ?_
  refine zj_iload_n (pc' := 2) hC dX7_in_1 rfl rfl (lv_at hl 1 rfl) ?_
  refine zj_icmp_lt (tgt := 14) (pc' := 5) hC dX7_in_2 (by decide) rfl (fun c1 => ?_) (fun c1 => ?_)
  · refine zj_iconst (pc' := 15) (v := (0 : Int32)) hC dX7_in_14 rfl rfl ?_
    exact zj_zret hC nB_0 dX7_in_15
  · refine zj_iload_n (pc' := 6) hC dX7_in_5 rfl rfl (lv_at hl 0 rfl) ?_
    refine zj_iload_n (pc' := 7) hC dX7_in_6 rfl rfl (lv_at hl 2 rfl) ?_
    refine zj_icmp_gt (tgt := 14) (pc' := 10) hC dX7_in_7 (by decide) rfl (fun c2 => ?_) (fun c2 => ?_)
    · refine zj_iconst (pc' := 15) (v := (0 : Int32)) hC dX7_in_14 rfl rfl ?_
      exact zj_zret hC nB_0 dX7_in_15
    · refine zj_iconst (pc' := 11) (v := (1 : Int32)) hC dX7_in_10 rfl rfl ?_
      refine zj_goto (tgt := 15) hC dX7_in_11 (by decide) ?_
      exact zj_zret hC nB_1 dX7_in_15
-- X7_isSeat
theorem ddX7_isSeat : yX7_isSeat.cls ≠ "java/lang/invoke/MethodHandle" ∧ yX7_isSeat.cls ≠ "java/lang/invoke/VarHandle" ∧ (parseMethodDescriptor yX7_isSeat.desc).map (fun d => d.parameters.length) = some 1 := by decide +kernel
abbrev rmX7_isSeat : Room := { frames := 0, cells := 0, slots := 0, locals := 0 }
def fX7_isSeat (v0 : Int32) (σ : zS) : Option (Int32 × zS) :=
  if v0 < 0 then (some ((0 : Int32), σ)) else (if (24 : Int32) ≤ v0 then (some ((0 : Int32), σ)) else (some ((1 : Int32), σ)))
set_option maxRecDepth 100000 in
set_option maxHeartbeats 4000000 in
theorem kX7_isSeat (l : Launch) (b0 : Nat) (cA : Nat → ClassId) (D : va_G) (L : List (Nat × Nat)) (v0 : Int32) (σ : zS)  : zMz l b0 cA D L yX7_isSeat (Cond.code yX7_isSeat cX7_isSeat 1 (some Jvm.ClassFile.FieldType.boolean)) rmX7_isSeat [.int v0] σ (fX7_isSeat v0 σ) := by
  refine zMz_of (by decide) (Nat.le_of_ble_eq_true rfl) ?_
  intro p e s m below meth c ls hC hl
  have hl : lv_has ls 1 [(0, .int v0)] := hl
  generalize ([.int v0] : List Value).toArray = args at hC ⊢
  unfold fX7_isSeat
  refine zj_iload_n (pc' := 1) hC dX7_isSeat_0 rfl rfl (lv_at hl 0 rfl) ?_
  refine zj_if_lt (tgt := 14) (pc' := 4) hC dX7_isSeat_1 (by decide) rfl (fun c1 => ?_) (fun c1 => ?_)
  · refine zj_iconst (pc' := 15) (v := (0 : Int32)) hC dX7_isSeat_14 rfl rfl ?_
    exact zj_zret hC nB_0 dX7_isSeat_15
  · refine zj_iload_n (pc' := 5) hC dX7_isSeat_4 rfl rfl (lv_at hl 0 rfl) ?_
    refine zj_bipush (pc' := 7) (v := (24 : Int32)) hC dX7_isSeat_5 rfl rfl ?_
    refine zj_icmp_ge (tgt := 14) (pc' := 10) hC dX7_isSeat_7 (by decide) rfl (fun c2 => ?_) (fun c2 => ?_)
    · refine zj_iconst (pc' := 15) (v := (0 : Int32)) hC dX7_isSeat_14 rfl rfl ?_
      exact zj_zret hC nB_0 dX7_isSeat_15
    · refine zj_iconst (pc' := 11) (v := (1 : Int32)) hC dX7_isSeat_10 rfl rfl ?_
      refine zj_goto (tgt := 15) hC dX7_isSeat_11 (by decide) ?_
      exact zj_zret hC nB_1 dX7_isSeat_15
-- X7_isTaken
theorem ddX7_isTaken : yX7_isTaken.cls ≠ "java/lang/invoke/MethodHandle" ∧ yX7_isTaken.cls ≠ "java/lang/invoke/VarHandle" ∧ (parseMethodDescriptor yX7_isTaken.desc).map (fun d => d.parameters.length) = some 1 := by decide +kernel
abbrev rmX7_isTaken : Room := { frames := 0, cells := 0, slots := 0, locals := 0 }
def fX7_isTaken (v0 : Nat) (v1 : Int32) (σ : zS) : Option (Int32 × zS) :=
  bnd (σ.2 v0 4) (fun (q1 : Nat) => zX v1 24 (if (σ.1 q1 (v1).toNatClampNeg) = (-1 : Int32) then (some ((0 : Int32), σ)) else (some ((1 : Int32), σ))))
set_option maxRecDepth 100000 in
set_option maxHeartbeats 4000000 in
theorem kX7_isTaken (l : Launch) (b0 : Nat) (cA : Nat → ClassId) (D : va_G) (L : List (Nat × Nat)) (v0 : Nat) (v1 : Int32) (σ : zS) (hk0 : L[v0]? = some (0, 7)) : zMz l b0 cA D L yX7_isTaken (Cond.code yX7_isTaken cX7_isTaken 2 (some Jvm.ClassFile.FieldType.boolean)) rmX7_isTaken [.ref (b0 + v0), .int v1] σ (fX7_isTaken v0 v1 σ) := by
  refine zMz_of (by decide) (Nat.le_of_ble_eq_true rfl) ?_
  intro p e s m below meth c ls hC hl
  have hl : lv_has ls 2 [(0, .ref (b0 + v0)), (1, .int v1)] := hl
  generalize ([.ref (b0 + v0), .int v1] : List Value).toArray = args at hC ⊢
  unfold fX7_isTaken
  refine zj_aload_n (pc' := 1) hC dX7_isTaken_0 rfl rfl (lv_at hl 0 rfl) ?_
  refine zj_getR (pc' := 4) hC hk0 fd_7_4 rfl tw_4_52 dX7_isTaken_1 rfl (fun q1 hk_q1 => ?_)
  refine zj_iload_n (pc' := 5) hC dX7_isTaken_4 rfl rfl (lv_at hl 1 rfl) ?_
  refine zj_iald (pc' := 6) hC hk_q1 dX7_isTaken_5 rfl (fun g2 => ?_)
  refine zj_iconst (pc' := 7) (v := (-1 : Int32)) hC dX7_isTaken_6 rfl rfl ?_
  refine zj_icmp_eq (tgt := 14) (pc' := 10) hC dX7_isTaken_7 (by decide) rfl (fun c3 => ?_) (fun c3 => ?_)
  · refine zj_iconst (pc' := 15) (v := (0 : Int32)) hC dX7_isTaken_14 rfl rfl ?_
    exact zj_zret hC nB_0 dX7_isTaken_15
  · refine zj_iconst (pc' := 11) (v := (1 : Int32)) hC dX7_isTaken_10 rfl rfl ?_
    refine zj_goto (tgt := 15) hC dX7_isTaken_11 (by decide) ?_
    exact zj_zret hC nB_1 dX7_isTaken_15
-- X7_persons
theorem ddX7_persons : yX7_persons.cls ≠ "java/lang/invoke/MethodHandle" ∧ yX7_persons.cls ≠ "java/lang/invoke/VarHandle" ∧ (parseMethodDescriptor yX7_persons.desc).map (fun d => d.parameters.length) = some 0 := by decide +kernel
abbrev rmX7_persons : Room := { frames := 1, cells := 0, slots := 0, locals := 21 }
def bX7_persons_24 (k4 : Nat → Int32 → Int32 → zS → Option (Int32 × zS)) (v0 : Nat) (v2 : Int32) (s0 : Int32) (s1 : Int32) (σ : zS) : Option (Int32 × zS) :=
  bnd ((s0 + s1)) (fun (x1 : Int32) => k4 v0 x1 ((v2 + (1 : Int32))) σ)
def bX7_persons_4 (k4 : Nat → Int32 → Int32 → zS → Option (Int32 × zS)) (v0 : Nat) (v1 : Int32) (v2 : Int32) (σ : zS) : Option (Int32 × zS) :=
  if (24 : Int32) ≤ v2 then (some (v1, σ)) else (zb (fX7_isTaken v0 v2 σ) (fun (r4 : Int32) (σ3 : zS) => if r4 = 0 then (bX7_persons_24 k4 v0 v2 v1 (0 : Int32) σ3) else (bX7_persons_24 k4 v0 v2 v1 (1 : Int32) σ3)))
def fX7_persons_4  : Nat → Nat → Int32 → Int32 → zS → Option (Int32 × zS)
  | 0, _, _, _, _ => none
  | n + 1, v0, v1, v2, σ => bX7_persons_4 (fX7_persons_4  n) v0 v1 v2 σ
def fX7_persons (v0 : Nat) (σ : zS) : Option (Int32 × zS) :=
  fX7_persons_4 zFU v0 (0 : Int32) (0 : Int32) σ
set_option maxRecDepth 100000 in
set_option maxHeartbeats 4000000 in
theorem jX7_persons_24 {p : Program} {l : Launch} {e : Env} {s : State} {m : MethodId} {args : Array Value} {below : List Frame} {meth : Method} {c : Code} {b0 : Nat} {cA : Nat → ClassId} {D : va_G} {L : List (Nat × Nat)} (hC : zC p c s m args meth cX7_persons 3 (some Jvm.ClassFile.FieldType.int) (Cond.code yX7_persons cX7_persons 3 (some Jvm.ClassFile.FieldType.int)) yX7_persons.cls cA D) (k4 : Nat → Int32 → Int32 → zS → Option (Int32 × zS)) (h4 : ∀ (v0 : Nat) (v1 : Int32) (v2 : Int32) (σ : zS) (ls : Array Slot), L[v0]? = some (0, 7) → lv_has ls 3 [(0, .ref (b0 + v0)), (1, .int v1), (2, .int v2)] → zJ p l e rmX7_persons s m args below meth c b0 cA D L (fun z => MQ below (va_Qi (fun (r : Int32) (u : zS) => (r, u) = z) (zB b0 cA D L) (zA b0 L)) args s 0 0 (zA b0 L)) (k4 v0 v1 v2 σ) σ 4 ls []) (v0 : Nat) (v2 : Int32) (s0 : Int32) (s1 : Int32) (σ : zS) (ls : Array Slot) (hk_v0 : L[v0]? = some (0, 7)) (hb_s1 : nB s1) (hl : lv_has ls 3 [(0, .ref (b0 + v0)), (2, .int v2)]) : zJ p l e rmX7_persons s m args below meth c b0 cA D L (fun z => MQ below (va_Qi (fun (r : Int32) (u : zS) => (r, u) = z) (zB b0 cA D L) (zA b0 L)) args s 0 0 (zA b0 L)) (bX7_persons_24 k4 v0 v2 s0 s1 σ) σ 24 ls [.int s1, .int s0] := by
  unfold bX7_persons_24
  refine zj_iadd (pc' := 25) hC dX7_persons_24 rfl ?_
  refine zj_nmi (fun x1 => ?_)
  refine zj_istore_n (pc' := 26) (lv' := [(1, .int x1), (0, .ref (b0 + v0)), (2, .int v2)]) hC dX7_persons_25 rfl rfl hl (by decide) rfl (fun ls hl => ?_)
  refine zj_iinc (pc' := 29) (k0 := 2) (v := (v2 + (1 : Int32))) (lv' := [(2, .int (v2 + (1 : Int32))), (1, .int x1), (0, .ref (b0 + v0))]) hC dX7_persons_26 rfl hl rfl rfl (by decide) rfl (fun ls hl => ?_)
  refine zj_goto (tgt := 4) hC dX7_persons_29 (by decide) ?_
  exact h4 v0 x1 ((v2 + (1 : Int32))) σ ls hk_v0 (lv_sub hl [2, 1, 0] rfl)
set_option maxRecDepth 100000 in
set_option maxHeartbeats 4000000 in
theorem jX7_persons_4 {p : Program} {l : Launch} {e : Env} {s : State} {m : MethodId} {args : Array Value} {below : List Frame} {meth : Method} {c : Code} {b0 : Nat} {cA : Nat → ClassId} {D : va_G} {L : List (Nat × Nat)} (hC : zC p c s m args meth cX7_persons 3 (some Jvm.ClassFile.FieldType.int) (Cond.code yX7_persons cX7_persons 3 (some Jvm.ClassFile.FieldType.int)) yX7_persons.cls cA D) (k4 : Nat → Int32 → Int32 → zS → Option (Int32 × zS)) (h4 : ∀ (v0 : Nat) (v1 : Int32) (v2 : Int32) (σ : zS) (ls : Array Slot), L[v0]? = some (0, 7) → lv_has ls 3 [(0, .ref (b0 + v0)), (1, .int v1), (2, .int v2)] → zJ p l e rmX7_persons s m args below meth c b0 cA D L (fun z => MQ below (va_Qi (fun (r : Int32) (u : zS) => (r, u) = z) (zB b0 cA D L) (zA b0 L)) args s 0 0 (zA b0 L)) (k4 v0 v1 v2 σ) σ 4 ls []) (v0 : Nat) (v1 : Int32) (v2 : Int32) (σ : zS) (ls : Array Slot) (hk_v0 : L[v0]? = some (0, 7)) (hl : lv_has ls 3 [(0, .ref (b0 + v0)), (1, .int v1), (2, .int v2)]) : zJ p l e rmX7_persons s m args below meth c b0 cA D L (fun z => MQ below (va_Qi (fun (r : Int32) (u : zS) => (r, u) = z) (zB b0 cA D L) (zA b0 L)) args s 0 0 (zA b0 L)) (bX7_persons_4 k4 v0 v1 v2 σ) σ 4 ls [] := by
  unfold bX7_persons_4
  refine zj_iload_n (pc' := 5) hC dX7_persons_4 rfl rfl (lv_at hl 2 rfl) ?_
  refine zj_bipush (pc' := 7) (v := (24 : Int32)) hC dX7_persons_5 rfl rfl ?_
  refine zj_icmp_ge (tgt := 32) (pc' := 10) hC dX7_persons_7 (by decide) rfl (fun c2 => ?_) (fun c2 => ?_)
  · refine zj_iload_n (pc' := 33) hC dX7_persons_32 rfl rfl (lv_at hl 1 rfl) ?_
    exact zj_iret hC dX7_persons_33
  · refine zj_iload_n (pc' := 11) hC dX7_persons_10 rfl rfl (lv_at hl 1 rfl) ?_
    refine zj_aload_n (pc' := 12) hC dX7_persons_11 rfl rfl (lv_at hl 0 rfl) ?_
    refine zj_iload_n (pc' := 13) hC dX7_persons_12 rfl rfl (lv_at hl 2 rfl) ?_
    refine zj_callzV (pc' := 16) (rest := [.int v1]) hC (kX7_isTaken l b0 cA D L v0 v2 σ hk_v0) hk_v0 rfl tw_4_222 tw_4_219 tw_4_221 ts_3_4 tw_1_8 ddX7_isTaken rfl ⟨rfl, rfl⟩ ⟨by decide, by decide⟩ hl.1 (Nat.le_of_ble_eq_true rfl) rfl dX7_persons_13 rfl (fun r4 σ3 hb_r4 => ?_)
    refine zj_if_eq (tgt := 23) (pc' := 19) hC dX7_persons_16 (by decide) rfl (fun c5 => ?_) (fun c5 => ?_)
    · refine zj_iconst (pc' := 24) (v := (0 : Int32)) hC dX7_persons_23 rfl rfl ?_
      exact jX7_persons_24 hC k4 h4 v0 v2 v1 (0 : Int32) σ3 ls hk_v0 nB_0 (lv_sub hl [0, 2] rfl)
    · refine zj_iconst (pc' := 20) (v := (1 : Int32)) hC dX7_persons_19 rfl rfl ?_
      refine zj_goto (tgt := 24) hC dX7_persons_20 (by decide) ?_
      exact jX7_persons_24 hC k4 h4 v0 v2 v1 (1 : Int32) σ3 ls hk_v0 nB_1 (lv_sub hl [0, 2] rfl)
set_option maxRecDepth 100000 in
set_option maxHeartbeats 4000000 in
theorem lX7_persons_4 {p : Program} {l : Launch} {e : Env} {s : State} {m : MethodId} {args : Array Value} {below : List Frame} {meth : Method} {c : Code} {b0 : Nat} {cA : Nat → ClassId} {D : va_G} {L : List (Nat × Nat)} (hC : zC p c s m args meth cX7_persons 3 (some Jvm.ClassFile.FieldType.int) (Cond.code yX7_persons cX7_persons 3 (some Jvm.ClassFile.FieldType.int)) yX7_persons.cls cA D)  (n : Nat) : ∀ (v0 : Nat) (v1 : Int32) (v2 : Int32) (σ : zS) (ls : Array Slot), L[v0]? = some (0, 7) → lv_has ls 3 [(0, .ref (b0 + v0)), (1, .int v1), (2, .int v2)] → zJ p l e rmX7_persons s m args below meth c b0 cA D L (fun z => MQ below (va_Qi (fun (r : Int32) (u : zS) => (r, u) = z) (zB b0 cA D L) (zA b0 L)) args s 0 0 (zA b0 L)) (fX7_persons_4  n v0 v1 v2 σ) σ 4 ls [] := by
  induction n with
  | zero => intros; exact zj_none
  | succ n ih => exact jX7_persons_4 hC (fX7_persons_4  n) ih
set_option maxRecDepth 100000 in
set_option maxHeartbeats 4000000 in
theorem kX7_persons (l : Launch) (b0 : Nat) (cA : Nat → ClassId) (D : va_G) (L : List (Nat × Nat)) (v0 : Nat) (σ : zS) (hk0 : L[v0]? = some (0, 7)) : zMi l b0 cA D L yX7_persons (Cond.code yX7_persons cX7_persons 3 (some Jvm.ClassFile.FieldType.int)) rmX7_persons [.ref (b0 + v0)] σ (fX7_persons v0 σ) := by
  refine zMi_of (by decide) (Nat.le_of_ble_eq_true rfl) ?_
  intro p e s m below meth c ls hC hl
  have hl : lv_has ls 3 [(0, .ref (b0 + v0))] := hl
  generalize ([.ref (b0 + v0)] : List Value).toArray = args at hC ⊢
  unfold fX7_persons
  refine zj_iconst (pc' := 1) (v := (0 : Int32)) hC dX7_persons_0 rfl rfl ?_
  refine zj_istore_n (pc' := 2) (lv' := [(1, .int (0 : Int32)), (0, .ref (b0 + v0))]) hC dX7_persons_1 rfl rfl hl (by decide) rfl (fun ls hl => ?_)
  refine zj_iconst (pc' := 3) (v := (0 : Int32)) hC dX7_persons_2 rfl rfl ?_
  refine zj_istore_n (pc' := 4) (lv' := [(2, .int (0 : Int32)), (1, .int (0 : Int32)), (0, .ref (b0 + v0))]) hC dX7_persons_3 rfl rfl hl (by decide) rfl (fun ls hl => ?_)
  exact lX7_persons_4 hC zFU v0 (0 : Int32) (0 : Int32) σ ls hk0 (lv_sub hl [2, 1, 0] rfl)
-- X7_rows
theorem ddX7_rows : yX7_rows.cls ≠ "java/lang/invoke/MethodHandle" ∧ yX7_rows.cls ≠ "java/lang/invoke/VarHandle" ∧ (parseMethodDescriptor yX7_rows.desc).map (fun d => d.parameters.length) = some 1 := by decide +kernel
abbrev rmX7_rows : Room := { frames := 2, cells := 0, slots := 0, locals := 43 }
def fX7_rows (v0 : Nat) (v1 : Int32) (σ : zS) : Option (Int32 × zS) :=
  zb (fX7_in v1 (4 : Int32) (8 : Int32) σ) (fun (r2 : Int32) (σ1 : zS) => if r2 = 0 then (some ((0 : Int32), σ1)) else (zb (fX7_persons v0 σ1) (fun (r5 : Int32) (σ4 : zS) => if r5 ≤ 0 then (bnd (zI σ4 v0 0 v1) (fun (σ7 : zS) => some ((1 : Int32), σ7))) else (some ((0 : Int32), σ4)))))
set_option maxRecDepth 100000 in
set_option maxHeartbeats 4000000 in
theorem kX7_rows (l : Launch) (b0 : Nat) (cA : Nat → ClassId) (D : va_G) (L : List (Nat × Nat)) (v0 : Nat) (v1 : Int32) (σ : zS) (hk0 : L[v0]? = some (0, 7)) : zMz l b0 cA D L yX7_rows (Cond.code yX7_rows cX7_rows 2 (some Jvm.ClassFile.FieldType.boolean)) rmX7_rows [.ref (b0 + v0), .int v1] σ (fX7_rows v0 v1 σ) := by
  refine zMz_of (by decide) (Nat.le_of_ble_eq_true rfl) ?_
  intro p e s m below meth c ls hC hl
  have hl : lv_has ls 2 [(0, .ref (b0 + v0)), (1, .int v1)] := hl
  generalize ([.ref (b0 + v0), .int v1] : List Value).toArray = args at hC ⊢
  unfold fX7_rows
  refine zj_iload_n (pc' := 1) hC dX7_rows_0 rfl rfl (lv_at hl 1 rfl) ?_
  refine zj_iconst (pc' := 2) (v := (4 : Int32)) hC dX7_rows_1 rfl rfl ?_
  refine zj_bipush (pc' := 4) (v := (8 : Int32)) hC dX7_rows_2 rfl rfl ?_
  refine zj_callzS (pc' := 7) (rest := []) hC (kX7_in l b0 cA D L v1 (4 : Int32) (8 : Int32) σ ) tw_4_214 tw_4_212 tw_4_213 tw_1_8 ddX7_in rfl ⟨rfl, rfl⟩ ⟨by decide, by decide⟩ hl.1 (Nat.le_of_ble_eq_true rfl) rfl dX7_rows_4 rfl (fun r2 σ1 hb_r2 => ?_)
  refine zj_if_eq (tgt := 17) (pc' := 10) hC dX7_rows_7 (by decide) rfl (fun c3 => ?_) (fun c3 => ?_)
  · refine zj_iconst (pc' := 18) (v := (0 : Int32)) hC dX7_rows_17 rfl rfl ?_
    exact zj_zret hC nB_0 dX7_rows_18
  · refine zj_aload_n (pc' := 11) hC dX7_rows_10 rfl rfl (lv_at hl 0 rfl) ?_
    refine zj_calliV (pc' := 14) (rest := []) hC (kX7_persons l b0 cA D L v0 σ1 hk0) hk0 rfl tw_4_218 tw_4_215 tw_4_217 ts_3_3 tw_1_8 ddX7_persons rfl ⟨rfl, rfl⟩ ⟨by decide, by decide⟩ hl.1 (Nat.le_of_ble_eq_true rfl) rfl dX7_rows_11 rfl (fun r5 σ4 => ?_)
    refine zj_if_le (tgt := 19) (pc' := 17) hC dX7_rows_14 (by decide) rfl (fun c6 => ?_) (fun c6 => ?_)
    · refine zj_aload_n (pc' := 20) hC dX7_rows_19 rfl rfl (lv_at hl 0 rfl) ?_
      refine zj_iload_n (pc' := 21) hC dX7_rows_20 rfl rfl (lv_at hl 1 rfl) ?_
      refine zj_putI (pc' := 24) hC hk0 fd_7_0 rfl tw_4_48 rfl rfl rfl dX7_rows_21 rfl (fun σ7 => ?_)
      refine zj_iconst (pc' := 25) (v := (1 : Int32)) hC dX7_rows_24 rfl rfl ?_
      exact zj_zret hC nB_1 dX7_rows_25
    · refine zj_iconst (pc' := 18) (v := (0 : Int32)) hC dX7_rows_17 rfl rfl ?_
      exact zj_zret hC nB_0 dX7_rows_18
-- X7_seat
theorem ddX7_seat : yX7_seat.cls ≠ "java/lang/invoke/MethodHandle" ∧ yX7_seat.cls ≠ "java/lang/invoke/VarHandle" ∧ (parseMethodDescriptor yX7_seat.desc).map (fun d => d.parameters.length) = some 3 := by decide +kernel
abbrev rmX7_seat : Room := { frames := 1, cells := 0, slots := 0, locals := 22 }
def bX7_seat_55  (v0 : Nat) (v1 : Int32) (v2 : Int32) (v3 : Int32) (s0 : Nat) (s1 : Int32) (s2 : Int32) (σ : zS) : Option (Int32 × zS) :=
  zX s1 24 (bnd (zI σ s0 (s1).toNatClampNeg s2) (fun (σ2 : zS) => bnd (σ2.2 v0 4) (fun (q3 : Nat) => zX v1 24 (bnd (zI σ2 q3 (v1).toNatClampNeg v2) (fun (σ5 : zS) => bnd (σ5.2 v0 5) (fun (q6 : Nat) => if v2 = (-1 : Int32) then (zX v1 24 (bnd (zI σ5 q6 (v1).toNatClampNeg (0 : Int32)) (fun (σ11 : zS) => some ((1 : Int32), σ11)))) else (zX v1 24 (bnd (zI σ5 q6 (v1).toNatClampNeg v3) (fun (σ9 : zS) => some ((1 : Int32), σ9))))))))))
def bX7_seat_45 (k55 : Nat → Int32 → Int32 → Int32 → Nat → Int32 → Int32 → zS → Option (Int32 × zS)) (v0 : Nat) (v1 : Int32) (v2 : Int32) (v3 : Int32) (s0 : Nat) (s1 : Int32) (σ : zS) : Option (Int32 × zS) :=
  k55 v0 v1 v2 v3 s0 s1 (0 : Int32) σ
def fX7_seat (v0 : Nat) (v1 : Int32) (v2 : Int32) (v3 : Int32) (σ : zS) : Option (Int32 × zS) :=
  zb (fX7_isSeat v1 σ) (fun (r13 : Int32) (σ12 : zS) => if r13 = 0 then (some ((0 : Int32), σ12)) else (zb (fX7_in v2 (-1 : Int32) (3 : Int32) σ12) (fun (r16 : Int32) (σ15 : zS) => if r16 = 0 then (some ((0 : Int32), σ15)) else (zb (fX7_in v3 (0 : Int32) (1 : Int32) σ15) (fun (r19 : Int32) (σ18 : zS) => if r19 = 0 then (some ((0 : Int32), σ18)) else (bnd (σ18.2 v0 6) (fun (q21 : Nat) => if v2 = (-1 : Int32) then (bX7_seat_45 (bX7_seat_55) v0 v1 v2 v3 q21 v1 σ18) else (zb (fX7_isTaken v0 v1 σ18) (fun (r24 : Int32) (σ23 : zS) => if r24 = 0 then (bX7_seat_45 (bX7_seat_55) v0 v1 v2 v3 q21 v1 σ23) else (bnd (σ23.2 v0 6) (fun (q26 : Nat) => zX v1 24 (bX7_seat_55 v0 v1 v2 v3 q21 v1 ((σ23.1 q26 (v1).toNatClampNeg)) σ23))))))))))))
set_option maxRecDepth 100000 in
set_option maxHeartbeats 4000000 in
theorem jX7_seat_55 {p : Program} {l : Launch} {e : Env} {s : State} {m : MethodId} {args : Array Value} {below : List Frame} {meth : Method} {c : Code} {b0 : Nat} {cA : Nat → ClassId} {D : va_G} {L : List (Nat × Nat)} (hC : zC p c s m args meth cX7_seat 4 (some Jvm.ClassFile.FieldType.boolean) (Cond.code yX7_seat cX7_seat 4 (some Jvm.ClassFile.FieldType.boolean)) yX7_seat.cls cA D)  (v0 : Nat) (v1 : Int32) (v2 : Int32) (v3 : Int32) (s0 : Nat) (s1 : Int32) (s2 : Int32) (σ : zS) (ls : Array Slot) (hk_v0 : L[v0]? = some (0, 7)) (hk_s0 : L[s0]? = some (1, 24)) (hl : lv_has ls 4 [(0, .ref (b0 + v0)), (1, .int v1), (2, .int v2), (3, .int v3)]) : zJ p l e rmX7_seat s m args below meth c b0 cA D L (fun z => MQ below (va_Qi (fun (r : Int32) (u : zS) => (r, u) = z ∧ nB r) (zB b0 cA D L) (zA b0 L)) args s 0 0 (zA b0 L)) (bX7_seat_55  v0 v1 v2 v3 s0 s1 s2 σ) σ 55 ls [.int s2, .int s1, .ref (b0 + s0)] := by
  unfold bX7_seat_55
  refine zj_iast (pc' := 56) hC hk_s0 dX7_seat_55 rfl (fun g1 σ2 => ?_)
  refine zj_aload_n (pc' := 57) hC dX7_seat_56 rfl rfl (lv_at hl 0 rfl) ?_
  refine zj_getR (pc' := 60) hC hk_v0 fd_7_4 rfl tw_4_52 dX7_seat_57 rfl (fun q3 hk_q3 => ?_)
  refine zj_iload_n (pc' := 61) hC dX7_seat_60 rfl rfl (lv_at hl 1 rfl) ?_
  refine zj_iload_n (pc' := 62) hC dX7_seat_61 rfl rfl (lv_at hl 2 rfl) ?_
  refine zj_iast (pc' := 63) hC hk_q3 dX7_seat_62 rfl (fun g4 σ5 => ?_)
  refine zj_aload_n (pc' := 64) hC dX7_seat_63 rfl rfl (lv_at hl 0 rfl) ?_
  refine zj_getR (pc' := 67) hC hk_v0 fd_7_5 rfl tw_4_53 dX7_seat_64 rfl (fun q6 hk_q6 => ?_)
  refine zj_iload_n (pc' := 68) hC dX7_seat_67 rfl rfl (lv_at hl 1 rfl) ?_
  refine zj_iload_n (pc' := 69) hC dX7_seat_68 rfl rfl (lv_at hl 2 rfl) ?_
  refine zj_iconst (pc' := 70) (v := (-1 : Int32)) hC dX7_seat_69 rfl rfl ?_
  refine zj_icmp_ne (tgt := 77) (pc' := 73) hC dX7_seat_70 (by decide) rfl (fun c7 => ?_) (fun c7 => ?_)
  · refine zj_iload_n (pc' := 78) hC dX7_seat_77 rfl rfl (lv_at hl 3 rfl) ?_
    refine zj_iast (pc' := 79) hC hk_q6 dX7_seat_78 rfl (fun g8 σ9 => ?_)
    refine zj_iconst (pc' := 80) (v := (1 : Int32)) hC dX7_seat_79 rfl rfl ?_
    exact zj_zret hC nB_1 dX7_seat_80
  · refine zj_iconst (pc' := 74) (v := (0 : Int32)) hC dX7_seat_73 rfl rfl ?_
    refine zj_goto (tgt := 78) hC dX7_seat_74 (by decide) ?_
    refine zj_iast (pc' := 79) hC hk_q6 dX7_seat_78 rfl (fun g10 σ11 => ?_)
    refine zj_iconst (pc' := 80) (v := (1 : Int32)) hC dX7_seat_79 rfl rfl ?_
    exact zj_zret hC nB_1 dX7_seat_80
set_option maxRecDepth 100000 in
set_option maxHeartbeats 4000000 in
theorem jX7_seat_45 {p : Program} {l : Launch} {e : Env} {s : State} {m : MethodId} {args : Array Value} {below : List Frame} {meth : Method} {c : Code} {b0 : Nat} {cA : Nat → ClassId} {D : va_G} {L : List (Nat × Nat)} (hC : zC p c s m args meth cX7_seat 4 (some Jvm.ClassFile.FieldType.boolean) (Cond.code yX7_seat cX7_seat 4 (some Jvm.ClassFile.FieldType.boolean)) yX7_seat.cls cA D) (k55 : Nat → Int32 → Int32 → Int32 → Nat → Int32 → Int32 → zS → Option (Int32 × zS)) (h55 : ∀ (v0 : Nat) (v1 : Int32) (v2 : Int32) (v3 : Int32) (s0 : Nat) (s1 : Int32) (s2 : Int32) (σ : zS) (ls : Array Slot), L[v0]? = some (0, 7) → L[s0]? = some (1, 24) → lv_has ls 4 [(0, .ref (b0 + v0)), (1, .int v1), (2, .int v2), (3, .int v3)] → zJ p l e rmX7_seat s m args below meth c b0 cA D L (fun z => MQ below (va_Qi (fun (r : Int32) (u : zS) => (r, u) = z ∧ nB r) (zB b0 cA D L) (zA b0 L)) args s 0 0 (zA b0 L)) (k55 v0 v1 v2 v3 s0 s1 s2 σ) σ 55 ls [.int s2, .int s1, .ref (b0 + s0)]) (v0 : Nat) (v1 : Int32) (v2 : Int32) (v3 : Int32) (s0 : Nat) (s1 : Int32) (σ : zS) (ls : Array Slot) (hk_v0 : L[v0]? = some (0, 7)) (hk_s0 : L[s0]? = some (1, 24)) (hl : lv_has ls 4 [(0, .ref (b0 + v0)), (1, .int v1), (2, .int v2), (3, .int v3)]) : zJ p l e rmX7_seat s m args below meth c b0 cA D L (fun z => MQ below (va_Qi (fun (r : Int32) (u : zS) => (r, u) = z ∧ nB r) (zB b0 cA D L) (zA b0 L)) args s 0 0 (zA b0 L)) (bX7_seat_45 k55 v0 v1 v2 v3 s0 s1 σ) σ 45 ls [.int s1, .ref (b0 + s0)] := by
  unfold bX7_seat_45
  refine zj_iconst (pc' := 46) (v := (0 : Int32)) hC dX7_seat_45 rfl rfl ?_
  refine zj_goto (tgt := 55) hC dX7_seat_46 (by decide) ?_
  exact h55 v0 v1 v2 v3 s0 s1 (0 : Int32) σ ls hk_v0 hk_s0 (lv_sub hl [0, 1, 2, 3] rfl)
set_option maxRecDepth 100000 in
set_option maxHeartbeats 4000000 in
theorem kX7_seat (l : Launch) (b0 : Nat) (cA : Nat → ClassId) (D : va_G) (L : List (Nat × Nat)) (v0 : Nat) (v1 : Int32) (v2 : Int32) (v3 : Int32) (σ : zS) (hk0 : L[v0]? = some (0, 7)) : zMz l b0 cA D L yX7_seat (Cond.code yX7_seat cX7_seat 4 (some Jvm.ClassFile.FieldType.boolean)) rmX7_seat [.ref (b0 + v0), .int v1, .int v2, .int v3] σ (fX7_seat v0 v1 v2 v3 σ) := by
  refine zMz_of (by decide) (Nat.le_of_ble_eq_true rfl) ?_
  intro p e s m below meth c ls hC hl
  have hl : lv_has ls 4 [(0, .ref (b0 + v0)), (1, .int v1), (2, .int v2), (3, .int v3)] := hl
  generalize ([.ref (b0 + v0), .int v1, .int v2, .int v3] : List Value).toArray = args at hC ⊢
  unfold fX7_seat
  refine zj_iload_n (pc' := 1) hC dX7_seat_0 rfl rfl (lv_at hl 1 rfl) ?_
  refine zj_callzS (pc' := 4) (rest := []) hC (kX7_isSeat l b0 cA D L v1 σ ) tw_4_229 tw_4_227 tw_4_228 tw_1_8 ddX7_isSeat rfl ⟨rfl, rfl⟩ ⟨by decide, by decide⟩ hl.1 (Nat.le_of_ble_eq_true rfl) rfl dX7_seat_1 rfl (fun r13 σ12 hb_r13 => ?_)
  refine zj_if_eq (tgt := 25) (pc' := 7) hC dX7_seat_4 (by decide) rfl (fun c14 => ?_) (fun c14 => ?_)
  · refine zj_iconst (pc' := 26) (v := (0 : Int32)) hC dX7_seat_25 rfl rfl ?_
    exact zj_zret hC nB_0 dX7_seat_26
  · refine zj_iload_n (pc' := 8) hC dX7_seat_7 rfl rfl (lv_at hl 2 rfl) ?_
    refine zj_iconst (pc' := 9) (v := (-1 : Int32)) hC dX7_seat_8 rfl rfl ?_
    refine zj_iconst (pc' := 10) (v := (3 : Int32)) hC dX7_seat_9 rfl rfl ?_
    refine zj_callzS (pc' := 13) (rest := []) hC (kX7_in l b0 cA D L v2 (-1 : Int32) (3 : Int32) σ12 ) tw_4_214 tw_4_212 tw_4_213 tw_1_8 ddX7_in rfl ⟨rfl, rfl⟩ ⟨by decide, by decide⟩ hl.1 (Nat.le_of_ble_eq_true rfl) rfl dX7_seat_10 rfl (fun r16 σ15 hb_r16 => ?_)
    refine zj_if_eq (tgt := 25) (pc' := 16) hC dX7_seat_13 (by decide) rfl (fun c17 => ?_) (fun c17 => ?_)
    · refine zj_iconst (pc' := 26) (v := (0 : Int32)) hC dX7_seat_25 rfl rfl ?_
      exact zj_zret hC nB_0 dX7_seat_26
    · refine zj_iload_n (pc' := 17) hC dX7_seat_16 rfl rfl (lv_at hl 3 rfl) ?_
      refine zj_iconst (pc' := 18) (v := (0 : Int32)) hC dX7_seat_17 rfl rfl ?_
      refine zj_iconst (pc' := 19) (v := (1 : Int32)) hC dX7_seat_18 rfl rfl ?_
      refine zj_callzS (pc' := 22) (rest := []) hC (kX7_in l b0 cA D L v3 (0 : Int32) (1 : Int32) σ15 ) tw_4_214 tw_4_212 tw_4_213 tw_1_8 ddX7_in rfl ⟨rfl, rfl⟩ ⟨by decide, by decide⟩ hl.1 (Nat.le_of_ble_eq_true rfl) rfl dX7_seat_19 rfl (fun r19 σ18 hb_r19 => ?_)
      refine zj_if_ne (tgt := 27) (pc' := 25) hC dX7_seat_22 (by decide) rfl (fun c20 => ?_) (fun c20 => ?_)
      · refine zj_aload_n (pc' := 28) hC dX7_seat_27 rfl rfl (lv_at hl 0 rfl) ?_
        refine zj_getR (pc' := 31) hC hk0 fd_7_6 rfl tw_4_54 dX7_seat_28 rfl (fun q21 hk_q21 => ?_)
        refine zj_iload_n (pc' := 32) hC dX7_seat_31 rfl rfl (lv_at hl 1 rfl) ?_
        refine zj_iload_n (pc' := 33) hC dX7_seat_32 rfl rfl (lv_at hl 2 rfl) ?_
        refine zj_iconst (pc' := 34) (v := (-1 : Int32)) hC dX7_seat_33 rfl rfl ?_
        refine zj_icmp_eq (tgt := 45) (pc' := 37) hC dX7_seat_34 (by decide) rfl (fun c22 => ?_) (fun c22 => ?_)
        · exact jX7_seat_45 hC (bX7_seat_55) (jX7_seat_55 hC) v0 v1 v2 v3 q21 v1 σ18 ls hk0 hk_q21 (lv_sub hl [0, 1, 2, 3] rfl)
        · refine zj_aload_n (pc' := 38) hC dX7_seat_37 rfl rfl (lv_at hl 0 rfl) ?_
          refine zj_iload_n (pc' := 39) hC dX7_seat_38 rfl rfl (lv_at hl 1 rfl) ?_
          refine zj_callzV (pc' := 42) (rest := [.int v1, .ref (b0 + q21)]) hC (kX7_isTaken l b0 cA D L v0 v1 σ18 hk0) hk0 rfl tw_4_222 tw_4_219 tw_4_221 ts_3_4 tw_1_8 ddX7_isTaken rfl ⟨rfl, rfl⟩ ⟨by decide, by decide⟩ hl.1 (Nat.le_of_ble_eq_true rfl) rfl dX7_seat_39 rfl (fun r24 σ23 hb_r24 => ?_)
          refine zj_if_ne (tgt := 49) (pc' := 45) hC dX7_seat_42 (by decide) rfl (fun c25 => ?_) (fun c25 => ?_)
          · refine zj_aload_n (pc' := 50) hC dX7_seat_49 rfl rfl (lv_at hl 0 rfl) ?_
            refine zj_getR (pc' := 53) hC hk0 fd_7_6 rfl tw_4_54 dX7_seat_50 rfl (fun q26 hk_q26 => ?_)
            refine zj_iload_n (pc' := 54) hC dX7_seat_53 rfl rfl (lv_at hl 1 rfl) ?_
            refine zj_iald (pc' := 55) hC hk_q26 dX7_seat_54 rfl (fun g27 => ?_)
            exact jX7_seat_55 hC v0 v1 v2 v3 q21 v1 ((σ23.1 q26 (v1).toNatClampNeg)) σ23 ls hk0 hk_q21 (lv_sub hl [0, 1, 2, 3] rfl)
          · exact jX7_seat_45 hC (bX7_seat_55) (jX7_seat_55 hC) v0 v1 v2 v3 q21 v1 σ23 ls hk0 hk_q21 (lv_sub hl [0, 1, 2, 3] rfl)
      · refine zj_iconst (pc' := 26) (v := (0 : Int32)) hC dX7_seat_25 rfl rfl ?_
        exact zj_zret hC nB_0 dX7_seat_26
-- X7_paid
theorem ddX7_paid : yX7_paid.cls ≠ "java/lang/invoke/MethodHandle" ∧ yX7_paid.cls ≠ "java/lang/invoke/VarHandle" ∧ (parseMethodDescriptor yX7_paid.desc).map (fun d => d.parameters.length) = some 2 := by decide +kernel
abbrev rmX7_paid : Room := { frames := 1, cells := 0, slots := 0, locals := 22 }
def fX7_paid (v0 : Nat) (v1 : Int32) (v2 : Int32) (σ : zS) : Option (Int32 × zS) :=
  zb (fX7_isSeat v1 σ) (fun (r2 : Int32) (σ1 : zS) => if r2 = 0 then (some ((0 : Int32), σ1)) else (zb (fX7_isTaken v0 v1 σ1) (fun (r5 : Int32) (σ4 : zS) => if r5 = 0 then (some ((0 : Int32), σ4)) else (zb (fX7_in v2 (0 : Int32) (2 : Int32) σ4) (fun (r8 : Int32) (σ7 : zS) => if r8 = 0 then (some ((0 : Int32), σ7)) else (bnd (σ7.2 v0 6) (fun (q10 : Nat) => zX v1 24 (bnd (zI σ7 q10 (v1).toNatClampNeg v2) (fun (σ12 : zS) => some ((1 : Int32), σ12))))))))))
set_option maxRecDepth 100000 in
set_option maxHeartbeats 4000000 in
theorem kX7_paid (l : Launch) (b0 : Nat) (cA : Nat → ClassId) (D : va_G) (L : List (Nat × Nat)) (v0 : Nat) (v1 : Int32) (v2 : Int32) (σ : zS) (hk0 : L[v0]? = some (0, 7)) : zMz l b0 cA D L yX7_paid (Cond.code yX7_paid cX7_paid 3 (some Jvm.ClassFile.FieldType.boolean)) rmX7_paid [.ref (b0 + v0), .int v1, .int v2] σ (fX7_paid v0 v1 v2 σ) := by
  refine zMz_of (by decide) (Nat.le_of_ble_eq_true rfl) ?_
  intro p e s m below meth c ls hC hl
  have hl : lv_has ls 3 [(0, .ref (b0 + v0)), (1, .int v1), (2, .int v2)] := hl
  generalize ([.ref (b0 + v0), .int v1, .int v2] : List Value).toArray = args at hC ⊢
  unfold fX7_paid
  refine zj_iload_n (pc' := 1) hC dX7_paid_0 rfl rfl (lv_at hl 1 rfl) ?_
  refine zj_callzS (pc' := 4) (rest := []) hC (kX7_isSeat l b0 cA D L v1 σ ) tw_4_229 tw_4_227 tw_4_228 tw_1_8 ddX7_isSeat rfl ⟨rfl, rfl⟩ ⟨by decide, by decide⟩ hl.1 (Nat.le_of_ble_eq_true rfl) rfl dX7_paid_1 rfl (fun r2 σ1 hb_r2 => ?_)
  refine zj_if_eq (tgt := 24) (pc' := 7) hC dX7_paid_4 (by decide) rfl (fun c3 => ?_) (fun c3 => ?_)
  · refine zj_iconst (pc' := 25) (v := (0 : Int32)) hC dX7_paid_24 rfl rfl ?_
    exact zj_zret hC nB_0 dX7_paid_25
  · refine zj_aload_n (pc' := 8) hC dX7_paid_7 rfl rfl (lv_at hl 0 rfl) ?_
    refine zj_iload_n (pc' := 9) hC dX7_paid_8 rfl rfl (lv_at hl 1 rfl) ?_
    refine zj_callzV (pc' := 12) (rest := []) hC (kX7_isTaken l b0 cA D L v0 v1 σ1 hk0) hk0 rfl tw_4_222 tw_4_219 tw_4_221 ts_3_4 tw_1_8 ddX7_isTaken rfl ⟨rfl, rfl⟩ ⟨by decide, by decide⟩ hl.1 (Nat.le_of_ble_eq_true rfl) rfl dX7_paid_9 rfl (fun r5 σ4 hb_r5 => ?_)
    refine zj_if_eq (tgt := 24) (pc' := 15) hC dX7_paid_12 (by decide) rfl (fun c6 => ?_) (fun c6 => ?_)
    · refine zj_iconst (pc' := 25) (v := (0 : Int32)) hC dX7_paid_24 rfl rfl ?_
      exact zj_zret hC nB_0 dX7_paid_25
    · refine zj_iload_n (pc' := 16) hC dX7_paid_15 rfl rfl (lv_at hl 2 rfl) ?_
      refine zj_iconst (pc' := 17) (v := (0 : Int32)) hC dX7_paid_16 rfl rfl ?_
      refine zj_iconst (pc' := 18) (v := (2 : Int32)) hC dX7_paid_17 rfl rfl ?_
      refine zj_callzS (pc' := 21) (rest := []) hC (kX7_in l b0 cA D L v2 (0 : Int32) (2 : Int32) σ4 ) tw_4_214 tw_4_212 tw_4_213 tw_1_8 ddX7_in rfl ⟨rfl, rfl⟩ ⟨by decide, by decide⟩ hl.1 (Nat.le_of_ble_eq_true rfl) rfl dX7_paid_18 rfl (fun r8 σ7 hb_r8 => ?_)
      refine zj_if_ne (tgt := 26) (pc' := 24) hC dX7_paid_21 (by decide) rfl (fun c9 => ?_) (fun c9 => ?_)
      · refine zj_aload_n (pc' := 27) hC dX7_paid_26 rfl rfl (lv_at hl 0 rfl) ?_
        refine zj_getR (pc' := 30) hC hk0 fd_7_6 rfl tw_4_54 dX7_paid_27 rfl (fun q10 hk_q10 => ?_)
        refine zj_iload_n (pc' := 31) hC dX7_paid_30 rfl rfl (lv_at hl 1 rfl) ?_
        refine zj_iload_n (pc' := 32) hC dX7_paid_31 rfl rfl (lv_at hl 2 rfl) ?_
        refine zj_iast (pc' := 33) hC hk_q10 dX7_paid_32 rfl (fun g11 σ12 => ?_)
        refine zj_iconst (pc' := 34) (v := (1 : Int32)) hC dX7_paid_33 rfl rfl ?_
        exact zj_zret hC nB_1 dX7_paid_34
      · refine zj_iconst (pc' := 25) (v := (0 : Int32)) hC dX7_paid_24 rfl rfl ?_
        exact zj_zret hC nB_0 dX7_paid_25
-- X7_seconds
theorem ddX7_seconds : yX7_seconds.cls ≠ "java/lang/invoke/MethodHandle" ∧ yX7_seconds.cls ≠ "java/lang/invoke/VarHandle" ∧ (parseMethodDescriptor yX7_seconds.desc).map (fun d => d.parameters.length) = some 1 := by decide +kernel
abbrev rmX7_seconds : Room := { frames := 1, cells := 0, slots := 0, locals := 22 }
def fX7_seconds (v0 : Nat) (v1 : Int32) (σ : zS) : Option (Int32 × zS) :=
  zb (fX7_in v1 (1 : Int32) (40 : Int32) σ) (fun (r2 : Int32) (σ1 : zS) => if r2 = 0 then (some ((0 : Int32), σ1)) else (bnd (zI σ1 v0 1 v1) (fun (σ4 : zS) => some ((1 : Int32), σ4))))
set_option maxRecDepth 100000 in
set_option maxHeartbeats 4000000 in
theorem kX7_seconds (l : Launch) (b0 : Nat) (cA : Nat → ClassId) (D : va_G) (L : List (Nat × Nat)) (v0 : Nat) (v1 : Int32) (σ : zS) (hk0 : L[v0]? = some (0, 7)) : zMz l b0 cA D L yX7_seconds (Cond.code yX7_seconds cX7_seconds 2 (some Jvm.ClassFile.FieldType.boolean)) rmX7_seconds [.ref (b0 + v0), .int v1] σ (fX7_seconds v0 v1 σ) := by
  refine zMz_of (by decide) (Nat.le_of_ble_eq_true rfl) ?_
  intro p e s m below meth c ls hC hl
  have hl : lv_has ls 2 [(0, .ref (b0 + v0)), (1, .int v1)] := hl
  generalize ([.ref (b0 + v0), .int v1] : List Value).toArray = args at hC ⊢
  unfold fX7_seconds
  refine zj_iload_n (pc' := 1) hC dX7_seconds_0 rfl rfl (lv_at hl 1 rfl) ?_
  refine zj_iconst (pc' := 2) (v := (1 : Int32)) hC dX7_seconds_1 rfl rfl ?_
  refine zj_bipush (pc' := 4) (v := (40 : Int32)) hC dX7_seconds_2 rfl rfl ?_
  refine zj_callzS (pc' := 7) (rest := []) hC (kX7_in l b0 cA D L v1 (1 : Int32) (40 : Int32) σ ) tw_4_214 tw_4_212 tw_4_213 tw_1_8 ddX7_in rfl ⟨rfl, rfl⟩ ⟨by decide, by decide⟩ hl.1 (Nat.le_of_ble_eq_true rfl) rfl dX7_seconds_4 rfl (fun r2 σ1 hb_r2 => ?_)
  refine zj_if_ne (tgt := 12) (pc' := 10) hC dX7_seconds_7 (by decide) rfl (fun c3 => ?_) (fun c3 => ?_)
  · refine zj_aload_n (pc' := 13) hC dX7_seconds_12 rfl rfl (lv_at hl 0 rfl) ?_
    refine zj_iload_n (pc' := 14) hC dX7_seconds_13 rfl rfl (lv_at hl 1 rfl) ?_
    refine zj_putI (pc' := 17) hC hk0 fd_7_1 rfl tw_4_49 rfl rfl rfl dX7_seconds_14 rfl (fun σ4 => ?_)
    refine zj_iconst (pc' := 18) (v := (1 : Int32)) hC dX7_seconds_17 rfl rfl ?_
    exact zj_zret hC nB_1 dX7_seconds_18
  · refine zj_iconst (pc' := 11) (v := (0 : Int32)) hC dX7_seconds_10 rfl rfl ?_
    exact zj_zret hC nB_0 dX7_seconds_11
-- X7_isSecond
theorem ddX7_isSecond : yX7_isSecond.cls ≠ "java/lang/invoke/MethodHandle" ∧ yX7_isSecond.cls ≠ "java/lang/invoke/VarHandle" ∧ (parseMethodDescriptor yX7_isSecond.desc).map (fun d => d.parameters.length) = some 1 := by decide +kernel
abbrev rmX7_isSecond : Room := { frames := 0, cells := 0, slots := 0, locals := 0 }
def fX7_isSecond (v0 : Int32) (σ : zS) : Option (Int32 × zS) :=
  if v0 < 0 then (some ((0 : Int32), σ)) else (if (40 : Int32) ≤ v0 then (some ((0 : Int32), σ)) else (some ((1 : Int32), σ)))
set_option maxRecDepth 100000 in
set_option maxHeartbeats 4000000 in
theorem kX7_isSecond (l : Launch) (b0 : Nat) (cA : Nat → ClassId) (D : va_G) (L : List (Nat × Nat)) (v0 : Int32) (σ : zS)  : zMz l b0 cA D L yX7_isSecond (Cond.code yX7_isSecond cX7_isSecond 1 (some Jvm.ClassFile.FieldType.boolean)) rmX7_isSecond [.int v0] σ (fX7_isSecond v0 σ) := by
  refine zMz_of (by decide) (Nat.le_of_ble_eq_true rfl) ?_
  intro p e s m below meth c ls hC hl
  have hl : lv_has ls 1 [(0, .int v0)] := hl
  generalize ([.int v0] : List Value).toArray = args at hC ⊢
  unfold fX7_isSecond
  refine zj_iload_n (pc' := 1) hC dX7_isSecond_0 rfl rfl (lv_at hl 0 rfl) ?_
  refine zj_if_lt (tgt := 14) (pc' := 4) hC dX7_isSecond_1 (by decide) rfl (fun c1 => ?_) (fun c1 => ?_)
  · refine zj_iconst (pc' := 15) (v := (0 : Int32)) hC dX7_isSecond_14 rfl rfl ?_
    exact zj_zret hC nB_0 dX7_isSecond_15
  · refine zj_iload_n (pc' := 5) hC dX7_isSecond_4 rfl rfl (lv_at hl 0 rfl) ?_
    refine zj_bipush (pc' := 7) (v := (40 : Int32)) hC dX7_isSecond_5 rfl rfl ?_
    refine zj_icmp_ge (tgt := 14) (pc' := 10) hC dX7_isSecond_7 (by decide) rfl (fun c2 => ?_) (fun c2 => ?_)
    · refine zj_iconst (pc' := 15) (v := (0 : Int32)) hC dX7_isSecond_14 rfl rfl ?_
      exact zj_zret hC nB_0 dX7_isSecond_15
    · refine zj_iconst (pc' := 11) (v := (1 : Int32)) hC dX7_isSecond_10 rfl rfl ?_
      refine zj_goto (tgt := 15) hC dX7_isSecond_11 (by decide) ?_
      exact zj_zret hC nB_1 dX7_isSecond_15
-- X7_good
theorem ddX7_good : yX7_good.cls ≠ "java/lang/invoke/MethodHandle" ∧ yX7_good.cls ≠ "java/lang/invoke/VarHandle" ∧ (parseMethodDescriptor yX7_good.desc).map (fun d => d.parameters.length) = some 3 := by decide +kernel
abbrev rmX7_good : Room := { frames := 1, cells := 0, slots := 0, locals := 22 }
def fX7_good (v0 : Nat) (v1 : Int32) (v2 : Int32) (v3 : Int32) (σ : zS) : Option (Int32 × zS) :=
  zb (fX7_isSecond v1 σ) (fun (r2 : Int32) (σ1 : zS) => if r2 = 0 then (some ((0 : Int32), σ1)) else (zb (fX7_in v2 (0 : Int32) (100 : Int32) σ1) (fun (r5 : Int32) (σ4 : zS) => if r5 = 0 then (some ((0 : Int32), σ4)) else (zb (fX7_in v3 (0 : Int32) (100 : Int32) σ4) (fun (r8 : Int32) (σ7 : zS) => if r8 = 0 then (some ((0 : Int32), σ7)) else (bnd (σ7.2 v0 7) (fun (q10 : Nat) => zX v1 40 (bnd (zI σ7 q10 (v1).toNatClampNeg v2) (fun (σ12 : zS) => bnd (σ12.2 v0 8) (fun (q13 : Nat) => zX v1 40 (bnd (zI σ12 q13 (v1).toNatClampNeg v3) (fun (σ15 : zS) => some ((1 : Int32), σ15)))))))))))))
set_option maxRecDepth 100000 in
set_option maxHeartbeats 4000000 in
theorem kX7_good (l : Launch) (b0 : Nat) (cA : Nat → ClassId) (D : va_G) (L : List (Nat × Nat)) (v0 : Nat) (v1 : Int32) (v2 : Int32) (v3 : Int32) (σ : zS) (hk0 : L[v0]? = some (0, 7)) : zMz l b0 cA D L yX7_good (Cond.code yX7_good cX7_good 4 (some Jvm.ClassFile.FieldType.boolean)) rmX7_good [.ref (b0 + v0), .int v1, .int v2, .int v3] σ (fX7_good v0 v1 v2 v3 σ) := by
  refine zMz_of (by decide) (Nat.le_of_ble_eq_true rfl) ?_
  intro p e s m below meth c ls hC hl
  have hl : lv_has ls 4 [(0, .ref (b0 + v0)), (1, .int v1), (2, .int v2), (3, .int v3)] := hl
  generalize ([.ref (b0 + v0), .int v1, .int v2, .int v3] : List Value).toArray = args at hC ⊢
  unfold fX7_good
  refine zj_iload_n (pc' := 1) hC dX7_good_0 rfl rfl (lv_at hl 1 rfl) ?_
  refine zj_callzS (pc' := 4) (rest := []) hC (kX7_isSecond l b0 cA D L v1 σ ) tw_5_4 tw_5_2 tw_5_3 tw_1_8 ddX7_isSecond rfl ⟨rfl, rfl⟩ ⟨by decide, by decide⟩ hl.1 (Nat.le_of_ble_eq_true rfl) rfl dX7_good_1 rfl (fun r2 σ1 hb_r2 => ?_)
  refine zj_if_eq (tgt := 27) (pc' := 7) hC dX7_good_4 (by decide) rfl (fun c3 => ?_) (fun c3 => ?_)
  · refine zj_iconst (pc' := 28) (v := (0 : Int32)) hC dX7_good_27 rfl rfl ?_
    exact zj_zret hC nB_0 dX7_good_28
  · refine zj_iload_n (pc' := 8) hC dX7_good_7 rfl rfl (lv_at hl 2 rfl) ?_
    refine zj_iconst (pc' := 9) (v := (0 : Int32)) hC dX7_good_8 rfl rfl ?_
    refine zj_bipush (pc' := 11) (v := (100 : Int32)) hC dX7_good_9 rfl rfl ?_
    refine zj_callzS (pc' := 14) (rest := []) hC (kX7_in l b0 cA D L v2 (0 : Int32) (100 : Int32) σ1 ) tw_4_214 tw_4_212 tw_4_213 tw_1_8 ddX7_in rfl ⟨rfl, rfl⟩ ⟨by decide, by decide⟩ hl.1 (Nat.le_of_ble_eq_true rfl) rfl dX7_good_11 rfl (fun r5 σ4 hb_r5 => ?_)
    refine zj_if_eq (tgt := 27) (pc' := 17) hC dX7_good_14 (by decide) rfl (fun c6 => ?_) (fun c6 => ?_)
    · refine zj_iconst (pc' := 28) (v := (0 : Int32)) hC dX7_good_27 rfl rfl ?_
      exact zj_zret hC nB_0 dX7_good_28
    · refine zj_iload_n (pc' := 18) hC dX7_good_17 rfl rfl (lv_at hl 3 rfl) ?_
      refine zj_iconst (pc' := 19) (v := (0 : Int32)) hC dX7_good_18 rfl rfl ?_
      refine zj_bipush (pc' := 21) (v := (100 : Int32)) hC dX7_good_19 rfl rfl ?_
      refine zj_callzS (pc' := 24) (rest := []) hC (kX7_in l b0 cA D L v3 (0 : Int32) (100 : Int32) σ4 ) tw_4_214 tw_4_212 tw_4_213 tw_1_8 ddX7_in rfl ⟨rfl, rfl⟩ ⟨by decide, by decide⟩ hl.1 (Nat.le_of_ble_eq_true rfl) rfl dX7_good_21 rfl (fun r8 σ7 hb_r8 => ?_)
      refine zj_if_ne (tgt := 29) (pc' := 27) hC dX7_good_24 (by decide) rfl (fun c9 => ?_) (fun c9 => ?_)
      · refine zj_aload_n (pc' := 30) hC dX7_good_29 rfl rfl (lv_at hl 0 rfl) ?_
        refine zj_getR (pc' := 33) hC hk0 fd_7_7 rfl tw_4_55 dX7_good_30 rfl (fun q10 hk_q10 => ?_)
        refine zj_iload_n (pc' := 34) hC dX7_good_33 rfl rfl (lv_at hl 1 rfl) ?_
        refine zj_iload_n (pc' := 35) hC dX7_good_34 rfl rfl (lv_at hl 2 rfl) ?_
        refine zj_iast (pc' := 36) hC hk_q10 dX7_good_35 rfl (fun g11 σ12 => ?_)
        refine zj_aload_n (pc' := 37) hC dX7_good_36 rfl rfl (lv_at hl 0 rfl) ?_
        refine zj_getR (pc' := 40) hC hk0 fd_7_8 rfl tw_4_56 dX7_good_37 rfl (fun q13 hk_q13 => ?_)
        refine zj_iload_n (pc' := 41) hC dX7_good_40 rfl rfl (lv_at hl 1 rfl) ?_
        refine zj_iload_n (pc' := 42) hC dX7_good_41 rfl rfl (lv_at hl 3 rfl) ?_
        refine zj_iast (pc' := 43) hC hk_q13 dX7_good_42 rfl (fun g14 σ15 => ?_)
        refine zj_iconst (pc' := 44) (v := (1 : Int32)) hC dX7_good_43 rfl rfl ?_
        exact zj_zret hC nB_1 dX7_good_44
      · refine zj_iconst (pc' := 28) (v := (0 : Int32)) hC dX7_good_27 rfl rfl ?_
        exact zj_zret hC nB_0 dX7_good_28
-- X7_isStick
theorem ddX7_isStick : yX7_isStick.cls ≠ "java/lang/invoke/MethodHandle" ∧ yX7_isStick.cls ≠ "java/lang/invoke/VarHandle" ∧ (parseMethodDescriptor yX7_isStick.desc).map (fun d => d.parameters.length) = some 1 := by decide +kernel
abbrev rmX7_isStick : Room := { frames := 0, cells := 0, slots := 0, locals := 0 }
def bX7_isStick_10   (σ : zS) : Option (Int32 × zS) :=
  some ((1 : Int32), σ)
def fX7_isStick (v0 : Int32) (σ : zS) : Option (Int32 × zS) :=
  if v0 = (1 : Int32) then (bX7_isStick_10  σ) else (if v0 = (2 : Int32) then (bX7_isStick_10  σ) else (some ((0 : Int32), σ)))
set_option maxRecDepth 100000 in
set_option maxHeartbeats 4000000 in
theorem jX7_isStick_10 {p : Program} {l : Launch} {e : Env} {s : State} {m : MethodId} {args : Array Value} {below : List Frame} {meth : Method} {c : Code} {b0 : Nat} {cA : Nat → ClassId} {D : va_G} {L : List (Nat × Nat)} (hC : zC p c s m args meth cX7_isStick 1 (some Jvm.ClassFile.FieldType.boolean) (Cond.code yX7_isStick cX7_isStick 1 (some Jvm.ClassFile.FieldType.boolean)) yX7_isStick.cls cA D)   (σ : zS) (ls : Array Slot)  (hl : lv_has ls 1 []) : zJ p l e rmX7_isStick s m args below meth c b0 cA D L (fun z => MQ below (va_Qi (fun (r : Int32) (u : zS) => (r, u) = z ∧ nB r) (zB b0 cA D L) (zA b0 L)) args s 0 0 (zA b0 L)) (bX7_isStick_10   σ) σ 10 ls [] := by
  unfold bX7_isStick_10
  refine zj_iconst (pc' := 11) (v := (1 : Int32)) hC dX7_isStick_10 rfl rfl ?_
  refine zj_goto (tgt := 15) hC dX7_isStick_11 (by decide) ?_
  exact zj_zret hC nB_1 dX7_isStick_15
set_option maxRecDepth 100000 in
set_option maxHeartbeats 4000000 in
theorem kX7_isStick (l : Launch) (b0 : Nat) (cA : Nat → ClassId) (D : va_G) (L : List (Nat × Nat)) (v0 : Int32) (σ : zS)  : zMz l b0 cA D L yX7_isStick (Cond.code yX7_isStick cX7_isStick 1 (some Jvm.ClassFile.FieldType.boolean)) rmX7_isStick [.int v0] σ (fX7_isStick v0 σ) := by
  refine zMz_of (by decide) (Nat.le_of_ble_eq_true rfl) ?_
  intro p e s m below meth c ls hC hl
  have hl : lv_has ls 1 [(0, .int v0)] := hl
  generalize ([.int v0] : List Value).toArray = args at hC ⊢
  unfold fX7_isStick
  refine zj_iload_n (pc' := 1) hC dX7_isStick_0 rfl rfl (lv_at hl 0 rfl) ?_
  refine zj_iconst (pc' := 2) (v := (1 : Int32)) hC dX7_isStick_1 rfl rfl ?_
  refine zj_icmp_eq (tgt := 10) (pc' := 5) hC dX7_isStick_2 (by decide) rfl (fun c1 => ?_) (fun c1 => ?_)
  · exact jX7_isStick_10 hC  σ ls  (lv_sub hl [] rfl)
  · refine zj_iload_n (pc' := 6) hC dX7_isStick_5 rfl rfl (lv_at hl 0 rfl) ?_
    refine zj_iconst (pc' := 7) (v := (2 : Int32)) hC dX7_isStick_6 rfl rfl ?_
    refine zj_icmp_ne (tgt := 14) (pc' := 10) hC dX7_isStick_7 (by decide) rfl (fun c2 => ?_) (fun c2 => ?_)
    · refine zj_iconst (pc' := 15) (v := (0 : Int32)) hC dX7_isStick_14 rfl rfl ?_
      exact zj_zret hC nB_0 dX7_isStick_15
    · exact jX7_isStick_10 hC  σ ls  (lv_sub hl [] rfl)
-- X7_plan
theorem ddX7_plan : yX7_plan.cls ≠ "java/lang/invoke/MethodHandle" ∧ yX7_plan.cls ≠ "java/lang/invoke/VarHandle" ∧ (parseMethodDescriptor yX7_plan.desc).map (fun d => d.parameters.length) = some 3 := by decide +kernel
abbrev rmX7_plan : Room := { frames := 1, cells := 0, slots := 0, locals := 22 }
def fX7_plan (v0 : Nat) (v1 : Int32) (v2 : Int32) (v3 : Int32) (σ : zS) : Option (Int32 × zS) :=
  zb (fX7_isStick v1 σ) (fun (r2 : Int32) (σ1 : zS) => if r2 = 0 then (some ((0 : Int32), σ1)) else (zb (fX7_isSecond v2 σ1) (fun (r5 : Int32) (σ4 : zS) => if r5 = 0 then (some ((0 : Int32), σ4)) else (zb (fX7_in v3 (0 : Int32) (2 : Int32) σ4) (fun (r8 : Int32) (σ7 : zS) => if r8 = 0 then (some ((0 : Int32), σ7)) else (bnd (σ7.2 v0 9) (fun (q10 : Nat) => zX (((40 : Int32) * v1) + v2) 120 (bnd (zI σ7 q10 ((((40 : Int32) * v1) + v2)).toNatClampNeg v3) (fun (σ12 : zS) => some ((1 : Int32), σ12))))))))))
set_option maxRecDepth 100000 in
set_option maxHeartbeats 4000000 in
theorem kX7_plan (l : Launch) (b0 : Nat) (cA : Nat → ClassId) (D : va_G) (L : List (Nat × Nat)) (v0 : Nat) (v1 : Int32) (v2 : Int32) (v3 : Int32) (σ : zS) (hk0 : L[v0]? = some (0, 7)) : zMz l b0 cA D L yX7_plan (Cond.code yX7_plan cX7_plan 4 (some Jvm.ClassFile.FieldType.boolean)) rmX7_plan [.ref (b0 + v0), .int v1, .int v2, .int v3] σ (fX7_plan v0 v1 v2 v3 σ) := by
  refine zMz_of (by decide) (Nat.le_of_ble_eq_true rfl) ?_
  intro p e s m below meth c ls hC hl
  have hl : lv_has ls 4 [(0, .ref (b0 + v0)), (1, .int v1), (2, .int v2), (3, .int v3)] := hl
  generalize ([.ref (b0 + v0), .int v1, .int v2, .int v3] : List Value).toArray = args at hC ⊢
  unfold fX7_plan
  refine zj_iload_n (pc' := 1) hC dX7_plan_0 rfl rfl (lv_at hl 1 rfl) ?_
  refine zj_callzS (pc' := 4) (rest := []) hC (kX7_isStick l b0 cA D L v1 σ ) tw_5_11 tw_5_9 tw_5_10 tw_1_8 ddX7_isStick rfl ⟨rfl, rfl⟩ ⟨by decide, by decide⟩ hl.1 (Nat.le_of_ble_eq_true rfl) rfl dX7_plan_1 rfl (fun r2 σ1 hb_r2 => ?_)
  refine zj_if_eq (tgt := 23) (pc' := 7) hC dX7_plan_4 (by decide) rfl (fun c3 => ?_) (fun c3 => ?_)
  · refine zj_iconst (pc' := 24) (v := (0 : Int32)) hC dX7_plan_23 rfl rfl ?_
    exact zj_zret hC nB_0 dX7_plan_24
  · refine zj_iload_n (pc' := 8) hC dX7_plan_7 rfl rfl (lv_at hl 2 rfl) ?_
    refine zj_callzS (pc' := 11) (rest := []) hC (kX7_isSecond l b0 cA D L v2 σ1 ) tw_5_4 tw_5_2 tw_5_3 tw_1_8 ddX7_isSecond rfl ⟨rfl, rfl⟩ ⟨by decide, by decide⟩ hl.1 (Nat.le_of_ble_eq_true rfl) rfl dX7_plan_8 rfl (fun r5 σ4 hb_r5 => ?_)
    refine zj_if_eq (tgt := 23) (pc' := 14) hC dX7_plan_11 (by decide) rfl (fun c6 => ?_) (fun c6 => ?_)
    · refine zj_iconst (pc' := 24) (v := (0 : Int32)) hC dX7_plan_23 rfl rfl ?_
      exact zj_zret hC nB_0 dX7_plan_24
    · refine zj_iload_n (pc' := 15) hC dX7_plan_14 rfl rfl (lv_at hl 3 rfl) ?_
      refine zj_iconst (pc' := 16) (v := (0 : Int32)) hC dX7_plan_15 rfl rfl ?_
      refine zj_iconst (pc' := 17) (v := (2 : Int32)) hC dX7_plan_16 rfl rfl ?_
      refine zj_callzS (pc' := 20) (rest := []) hC (kX7_in l b0 cA D L v3 (0 : Int32) (2 : Int32) σ4 ) tw_4_214 tw_4_212 tw_4_213 tw_1_8 ddX7_in rfl ⟨rfl, rfl⟩ ⟨by decide, by decide⟩ hl.1 (Nat.le_of_ble_eq_true rfl) rfl dX7_plan_17 rfl (fun r8 σ7 hb_r8 => ?_)
      refine zj_if_ne (tgt := 25) (pc' := 23) hC dX7_plan_20 (by decide) rfl (fun c9 => ?_) (fun c9 => ?_)
      · refine zj_aload_n (pc' := 26) hC dX7_plan_25 rfl rfl (lv_at hl 0 rfl) ?_
        refine zj_getR (pc' := 29) hC hk0 fd_7_9 rfl tw_4_57 dX7_plan_26 rfl (fun q10 hk_q10 => ?_)
        refine zj_bipush (pc' := 31) (v := (40 : Int32)) hC dX7_plan_29 rfl rfl ?_
        refine zj_iload_n (pc' := 32) hC dX7_plan_31 rfl rfl (lv_at hl 1 rfl) ?_
        refine zj_imul (pc' := 33) hC dX7_plan_32 rfl ?_
        refine zj_iload_n (pc' := 34) hC dX7_plan_33 rfl rfl (lv_at hl 2 rfl) ?_
        refine zj_iadd (pc' := 35) hC dX7_plan_34 rfl ?_
        refine zj_iload_n (pc' := 36) hC dX7_plan_35 rfl rfl (lv_at hl 3 rfl) ?_
        refine zj_iast (pc' := 37) hC hk_q10 dX7_plan_36 rfl (fun g11 σ12 => ?_)
        refine zj_iconst (pc' := 38) (v := (1 : Int32)) hC dX7_plan_37 rfl rfl ?_
        exact zj_zret hC nB_1 dX7_plan_38
      · refine zj_iconst (pc' := 24) (v := (0 : Int32)) hC dX7_plan_23 rfl rfl ?_
        exact zj_zret hC nB_0 dX7_plan_24
-- X7_prices
theorem ddX7_prices : yX7_prices.cls ≠ "java/lang/invoke/MethodHandle" ∧ yX7_prices.cls ≠ "java/lang/invoke/VarHandle" ∧ (parseMethodDescriptor yX7_prices.desc).map (fun d => d.parameters.length) = some 2 := by decide +kernel
abbrev rmX7_prices : Room := { frames := 1, cells := 0, slots := 0, locals := 22 }
def fX7_prices (v0 : Nat) (v1 : Int32) (v2 : Int32) (σ : zS) : Option (Int32 × zS) :=
  zb (fX7_in v1 (0 : Int32) (100 : Int32) σ) (fun (r2 : Int32) (σ1 : zS) => if r2 = 0 then (some ((0 : Int32), σ1)) else (zb (fX7_in v2 (0 : Int32) (100 : Int32) σ1) (fun (r5 : Int32) (σ4 : zS) => if r5 = 0 then (some ((0 : Int32), σ4)) else (bnd (zI σ4 v0 2 v1) (fun (σ7 : zS) => bnd (zI σ7 v0 3 v2) (fun (σ8 : zS) => some ((1 : Int32), σ8)))))))
set_option maxRecDepth 100000 in
set_option maxHeartbeats 4000000 in
theorem kX7_prices (l : Launch) (b0 : Nat) (cA : Nat → ClassId) (D : va_G) (L : List (Nat × Nat)) (v0 : Nat) (v1 : Int32) (v2 : Int32) (σ : zS) (hk0 : L[v0]? = some (0, 7)) : zMz l b0 cA D L yX7_prices (Cond.code yX7_prices cX7_prices 3 (some Jvm.ClassFile.FieldType.boolean)) rmX7_prices [.ref (b0 + v0), .int v1, .int v2] σ (fX7_prices v0 v1 v2 σ) := by
  refine zMz_of (by decide) (Nat.le_of_ble_eq_true rfl) ?_
  intro p e s m below meth c ls hC hl
  have hl : lv_has ls 3 [(0, .ref (b0 + v0)), (1, .int v1), (2, .int v2)] := hl
  generalize ([.ref (b0 + v0), .int v1, .int v2] : List Value).toArray = args at hC ⊢
  unfold fX7_prices
  refine zj_iload_n (pc' := 1) hC dX7_prices_0 rfl rfl (lv_at hl 1 rfl) ?_
  refine zj_iconst (pc' := 2) (v := (0 : Int32)) hC dX7_prices_1 rfl rfl ?_
  refine zj_bipush (pc' := 4) (v := (100 : Int32)) hC dX7_prices_2 rfl rfl ?_
  refine zj_callzS (pc' := 7) (rest := []) hC (kX7_in l b0 cA D L v1 (0 : Int32) (100 : Int32) σ ) tw_4_214 tw_4_212 tw_4_213 tw_1_8 ddX7_in rfl ⟨rfl, rfl⟩ ⟨by decide, by decide⟩ hl.1 (Nat.le_of_ble_eq_true rfl) rfl dX7_prices_4 rfl (fun r2 σ1 hb_r2 => ?_)
  refine zj_if_eq (tgt := 20) (pc' := 10) hC dX7_prices_7 (by decide) rfl (fun c3 => ?_) (fun c3 => ?_)
  · refine zj_iconst (pc' := 21) (v := (0 : Int32)) hC dX7_prices_20 rfl rfl ?_
    exact zj_zret hC nB_0 dX7_prices_21
  · refine zj_iload_n (pc' := 11) hC dX7_prices_10 rfl rfl (lv_at hl 2 rfl) ?_
    refine zj_iconst (pc' := 12) (v := (0 : Int32)) hC dX7_prices_11 rfl rfl ?_
    refine zj_bipush (pc' := 14) (v := (100 : Int32)) hC dX7_prices_12 rfl rfl ?_
    refine zj_callzS (pc' := 17) (rest := []) hC (kX7_in l b0 cA D L v2 (0 : Int32) (100 : Int32) σ1 ) tw_4_214 tw_4_212 tw_4_213 tw_1_8 ddX7_in rfl ⟨rfl, rfl⟩ ⟨by decide, by decide⟩ hl.1 (Nat.le_of_ble_eq_true rfl) rfl dX7_prices_14 rfl (fun r5 σ4 hb_r5 => ?_)
    refine zj_if_ne (tgt := 22) (pc' := 20) hC dX7_prices_17 (by decide) rfl (fun c6 => ?_) (fun c6 => ?_)
    · refine zj_aload_n (pc' := 23) hC dX7_prices_22 rfl rfl (lv_at hl 0 rfl) ?_
      refine zj_iload_n (pc' := 24) hC dX7_prices_23 rfl rfl (lv_at hl 1 rfl) ?_
      refine zj_putI (pc' := 27) hC hk0 fd_7_2 rfl tw_4_50 rfl rfl rfl dX7_prices_24 rfl (fun σ7 => ?_)
      refine zj_aload_n (pc' := 28) hC dX7_prices_27 rfl rfl (lv_at hl 0 rfl) ?_
      refine zj_iload_n (pc' := 29) hC dX7_prices_28 rfl rfl (lv_at hl 2 rfl) ?_
      refine zj_putI (pc' := 32) hC hk0 fd_7_3 rfl tw_4_51 rfl rfl rfl dX7_prices_29 rfl (fun σ8 => ?_)
      refine zj_iconst (pc' := 33) (v := (1 : Int32)) hC dX7_prices_32 rfl rfl ?_
      exact zj_zret hC nB_1 dX7_prices_33
    · refine zj_iconst (pc' := 21) (v := (0 : Int32)) hC dX7_prices_20 rfl rfl ?_
      exact zj_zret hC nB_0 dX7_prices_21
-- X7_types
theorem ddX7_types : yX7_types.cls ≠ "java/lang/invoke/MethodHandle" ∧ yX7_types.cls ≠ "java/lang/invoke/VarHandle" ∧ (parseMethodDescriptor yX7_types.desc).map (fun d => d.parameters.length) = some 1 := by decide +kernel
abbrev rmX7_types : Room := { frames := 0, cells := 0, slots := 0, locals := 0 }
def bX7_types_2 (k2 : Nat → Int32 → Int32 → zS → Option (Unit × zS)) (v0 : Nat) (v1 : Int32) (v2 : Int32) (σ : zS) : Option (Unit × zS) :=
  if v2 < 0 then (some ((), σ)) else (bnd (σ.2 v0 10) (fun (q2 : Nat) => zX (σ.1 v0 11) 500 (bnd (zI σ q2 ((σ.1 v0 11)).toNatClampNeg (((((v1 >>> (((8 : Int32) * v2) &&& 31))).toInt8.toInt32)).toInt8.toInt32)) (fun (σ4 : zS) => bnd (zI σ4 v0 11 ((σ4.1 v0 11) + (1 : Int32))) (fun (σ5 : zS) => k2 v0 v1 ((v2 + (-1 : Int32))) σ5)))))
def fX7_types_2  : Nat → Nat → Int32 → Int32 → zS → Option (Unit × zS)
  | 0, _, _, _, _ => none
  | n + 1, v0, v1, v2, σ => bX7_types_2 (fX7_types_2  n) v0 v1 v2 σ
def fX7_types (v0 : Nat) (v1 : Int32) (σ : zS) : Option (Unit × zS) :=
  fX7_types_2 zFU v0 v1 (3 : Int32) σ
set_option maxRecDepth 100000 in
set_option maxHeartbeats 4000000 in
theorem jX7_types_2 {p : Program} {l : Launch} {e : Env} {s : State} {m : MethodId} {args : Array Value} {below : List Frame} {meth : Method} {c : Code} {b0 : Nat} {cA : Nat → ClassId} {D : va_G} {L : List (Nat × Nat)} (hC : zC p c s m args meth cX7_types 3 (none) (Cond.code yX7_types cX7_types 3 (none)) yX7_types.cls cA D) (k2 : Nat → Int32 → Int32 → zS → Option (Unit × zS)) (h2 : ∀ (v0 : Nat) (v1 : Int32) (v2 : Int32) (σ : zS) (ls : Array Slot), L[v0]? = some (0, 7) → lv_has ls 3 [(0, .ref (b0 + v0)), (1, .int v1), (2, .int v2)] → zJ p l e rmX7_types s m args below meth c b0 cA D L (fun z => MQ below (va_Qv (fun (u : zS) => ((), u) = z) (zB b0 cA D L) (zA b0 L)) args s 0 0 (zA b0 L)) (k2 v0 v1 v2 σ) σ 2 ls []) (v0 : Nat) (v1 : Int32) (v2 : Int32) (σ : zS) (ls : Array Slot) (hk_v0 : L[v0]? = some (0, 7)) (hl : lv_has ls 3 [(0, .ref (b0 + v0)), (1, .int v1), (2, .int v2)]) : zJ p l e rmX7_types s m args below meth c b0 cA D L (fun z => MQ below (va_Qv (fun (u : zS) => ((), u) = z) (zB b0 cA D L) (zA b0 L)) args s 0 0 (zA b0 L)) (bX7_types_2 k2 v0 v1 v2 σ) σ 2 ls [] := by
  unfold bX7_types_2
  refine zj_iload_n (pc' := 3) hC dX7_types_2 rfl rfl (lv_at hl 2 rfl) ?_
  refine zj_if_lt (tgt := 38) (pc' := 6) hC dX7_types_3 (by decide) rfl (fun c1 => ?_) (fun c1 => ?_)
  · exact zj_vret hC dX7_types_38
  · refine zj_aload_n (pc' := 7) hC dX7_types_6 rfl rfl (lv_at hl 0 rfl) ?_
    refine zj_getR (pc' := 10) hC hk_v0 fd_7_10 rfl tw_4_58 dX7_types_7 rfl (fun q2 hk_q2 => ?_)
    refine zj_aload_n (pc' := 11) hC dX7_types_10 rfl rfl (lv_at hl 0 rfl) ?_
    refine zj_getI (pc' := 14) hC hk_v0 fd_7_11 rfl tw_4_59 dX7_types_11 rfl ?_
    refine zj_iload_n (pc' := 15) hC dX7_types_14 rfl rfl (lv_at hl 1 rfl) ?_
    refine zj_bipush (pc' := 17) (v := (8 : Int32)) hC dX7_types_15 rfl rfl ?_
    refine zj_iload_n (pc' := 18) hC dX7_types_17 rfl rfl (lv_at hl 2 rfl) ?_
    refine zj_imul (pc' := 19) hC dX7_types_18 rfl ?_
    refine zj_ishr (pc' := 20) hC dX7_types_19 rfl ?_
    refine zj_i2b (pc' := 21) hC dX7_types_20 rfl ?_
    refine zj_bast (pc' := 22) hC hk_q2 dX7_types_21 rfl (fun g3 σ4 => ?_)
    refine zj_aload_n (pc' := 23) hC dX7_types_22 rfl rfl (lv_at hl 0 rfl) ?_
    refine zj_aload_n (pc' := 24) hC dX7_types_23 rfl rfl (lv_at hl 0 rfl) ?_
    refine zj_getI (pc' := 27) hC hk_v0 fd_7_11 rfl tw_4_59 dX7_types_24 rfl ?_
    refine zj_iconst (pc' := 28) (v := (1 : Int32)) hC dX7_types_27 rfl rfl ?_
    refine zj_iadd (pc' := 29) hC dX7_types_28 rfl ?_
    refine zj_putI (pc' := 32) hC hk_v0 fd_7_11 rfl tw_4_59 rfl rfl rfl dX7_types_29 rfl (fun σ5 => ?_)
    refine zj_iinc (pc' := 35) (k0 := 2) (v := (v2 + (-1 : Int32))) (lv' := [(2, .int (v2 + (-1 : Int32))), (0, .ref (b0 + v0)), (1, .int v1)]) hC dX7_types_32 rfl hl rfl rfl (by decide) rfl (fun ls hl => ?_)
    refine zj_goto (tgt := 2) hC dX7_types_35 (by decide) ?_
    exact h2 v0 v1 ((v2 + (-1 : Int32))) σ5 ls hk_v0 (lv_sub hl [1, 2, 0] rfl)
set_option maxRecDepth 100000 in
set_option maxHeartbeats 4000000 in
theorem lX7_types_2 {p : Program} {l : Launch} {e : Env} {s : State} {m : MethodId} {args : Array Value} {below : List Frame} {meth : Method} {c : Code} {b0 : Nat} {cA : Nat → ClassId} {D : va_G} {L : List (Nat × Nat)} (hC : zC p c s m args meth cX7_types 3 (none) (Cond.code yX7_types cX7_types 3 (none)) yX7_types.cls cA D)  (n : Nat) : ∀ (v0 : Nat) (v1 : Int32) (v2 : Int32) (σ : zS) (ls : Array Slot), L[v0]? = some (0, 7) → lv_has ls 3 [(0, .ref (b0 + v0)), (1, .int v1), (2, .int v2)] → zJ p l e rmX7_types s m args below meth c b0 cA D L (fun z => MQ below (va_Qv (fun (u : zS) => ((), u) = z) (zB b0 cA D L) (zA b0 L)) args s 0 0 (zA b0 L)) (fX7_types_2  n v0 v1 v2 σ) σ 2 ls [] := by
  induction n with
  | zero => intros; exact zj_none
  | succ n ih => exact jX7_types_2 hC (fX7_types_2  n) ih
set_option maxRecDepth 100000 in
set_option maxHeartbeats 4000000 in
theorem kX7_types (l : Launch) (b0 : Nat) (cA : Nat → ClassId) (D : va_G) (L : List (Nat × Nat)) (v0 : Nat) (v1 : Int32) (σ : zS) (hk0 : L[v0]? = some (0, 7)) : zMv l b0 cA D L yX7_types (Cond.code yX7_types cX7_types 3 (none)) rmX7_types [.ref (b0 + v0), .int v1] σ (fX7_types v0 v1 σ) := by
  refine zMv_of (by decide) (Nat.le_of_ble_eq_true rfl) ?_
  intro p e s m below meth c ls hC hl
  have hl : lv_has ls 3 [(0, .ref (b0 + v0)), (1, .int v1)] := hl
  generalize ([.ref (b0 + v0), .int v1] : List Value).toArray = args at hC ⊢
  unfold fX7_types
  refine zj_iconst (pc' := 1) (v := (3 : Int32)) hC dX7_types_0 rfl rfl ?_
  refine zj_istore_n (pc' := 2) (lv' := [(2, .int (3 : Int32)), (0, .ref (b0 + v0)), (1, .int v1)]) hC dX7_types_1 rfl rfl hl (by decide) rfl (fun ls hl => ?_)
  exact lX7_types_2 hC zFU v0 v1 (3 : Int32) σ ls hk0 (lv_sub hl [1, 2, 0] rfl)
-- X7_feed
theorem ddX7_feed : yX7_feed.cls ≠ "java/lang/invoke/MethodHandle" ∧ yX7_feed.cls ≠ "java/lang/invoke/VarHandle" ∧ (parseMethodDescriptor yX7_feed.desc).map (fun d => d.parameters.length) = some 5 := by decide +kernel
abbrev rmX7_feed : Room := { frames := 1, cells := 0, slots := 0, locals := 22 }
def fX7_feed (v0 : Nat) (v1 : Int32) (v2 : Int32) (v3 : Int32) (v4 : Int32) (v5 : Int32) (σ : zS) : Option (Int32 × zS) :=
  if ((σ.1 v0 11) + (20 : Int32)) ≤ (500 : Int32) then (zb (fX7_types v0 v1 σ) (fun (_ : Unit) (σ2 : zS) => zb (fX7_types v0 v2 σ2) (fun (_ : Unit) (σ4 : zS) => zb (fX7_types v0 v3 σ4) (fun (_ : Unit) (σ6 : zS) => zb (fX7_types v0 v4 σ6) (fun (_ : Unit) (σ8 : zS) => zb (fX7_types v0 v5 σ8) (fun (_ : Unit) (σ10 : zS) => some ((σ10.1 v0 11), σ10))))))) else (some ((-1 : Int32), σ))
set_option maxRecDepth 100000 in
set_option maxHeartbeats 4000000 in
theorem kX7_feed (l : Launch) (b0 : Nat) (cA : Nat → ClassId) (D : va_G) (L : List (Nat × Nat)) (v0 : Nat) (v1 : Int32) (v2 : Int32) (v3 : Int32) (v4 : Int32) (v5 : Int32) (σ : zS) (hk0 : L[v0]? = some (0, 7)) : zMi l b0 cA D L yX7_feed (Cond.code yX7_feed cX7_feed 6 (some Jvm.ClassFile.FieldType.int)) rmX7_feed [.ref (b0 + v0), .int v1, .int v2, .int v3, .int v4, .int v5] σ (fX7_feed v0 v1 v2 v3 v4 v5 σ) := by
  refine zMi_of (by decide) (Nat.le_of_ble_eq_true rfl) ?_
  intro p e s m below meth c ls hC hl
  have hl : lv_has ls 6 [(0, .ref (b0 + v0)), (1, .int v1), (2, .int v2), (3, .int v3), (4, .int v4), (5, .int v5)] := hl
  generalize ([.ref (b0 + v0), .int v1, .int v2, .int v3, .int v4, .int v5] : List Value).toArray = args at hC ⊢
  unfold fX7_feed
  refine zj_aload_n (pc' := 1) hC dX7_feed_0 rfl rfl (lv_at hl 0 rfl) ?_
  refine zj_getI (pc' := 4) hC hk0 fd_7_11 rfl tw_4_59 dX7_feed_1 rfl ?_
  refine zj_bipush (pc' := 6) (v := (20 : Int32)) hC dX7_feed_4 rfl rfl ?_
  refine zj_iadd (pc' := 7) hC dX7_feed_6 rfl ?_
  refine zj_sipush (pc' := 10) (v := (500 : Int32)) hC dX7_feed_7 rfl rfl ?_
  refine zj_icmp_le (tgt := 15) (pc' := 13) hC dX7_feed_10 (by decide) rfl (fun c1 => ?_) (fun c1 => ?_)
  · refine zj_aload_n (pc' := 16) hC dX7_feed_15 rfl rfl (lv_at hl 0 rfl) ?_
    refine zj_iload_n (pc' := 17) hC dX7_feed_16 rfl rfl (lv_at hl 1 rfl) ?_
    refine zj_callvV (pc' := 20) (rest := []) hC (kX7_types l b0 cA D L v0 v1 σ hk0) hk0 rfl tw_5_23 tw_5_20 tw_5_22 ts_3_5 tw_1_8 ddX7_types rfl ⟨rfl, rfl⟩ ⟨by decide, by decide⟩ hl.1 (Nat.le_of_ble_eq_true rfl) rfl dX7_feed_17 rfl (fun σ2 => ?_)
    refine zj_aload_n (pc' := 21) hC dX7_feed_20 rfl rfl (lv_at hl 0 rfl) ?_
    refine zj_iload_n (pc' := 22) hC dX7_feed_21 rfl rfl (lv_at hl 2 rfl) ?_
    refine zj_callvV (pc' := 25) (rest := []) hC (kX7_types l b0 cA D L v0 v2 σ2 hk0) hk0 rfl tw_5_23 tw_5_20 tw_5_22 ts_3_5 tw_1_8 ddX7_types rfl ⟨rfl, rfl⟩ ⟨by decide, by decide⟩ hl.1 (Nat.le_of_ble_eq_true rfl) rfl dX7_feed_22 rfl (fun σ4 => ?_)
    refine zj_aload_n (pc' := 26) hC dX7_feed_25 rfl rfl (lv_at hl 0 rfl) ?_
    refine zj_iload_n (pc' := 27) hC dX7_feed_26 rfl rfl (lv_at hl 3 rfl) ?_
    refine zj_callvV (pc' := 30) (rest := []) hC (kX7_types l b0 cA D L v0 v3 σ4 hk0) hk0 rfl tw_5_23 tw_5_20 tw_5_22 ts_3_5 tw_1_8 ddX7_types rfl ⟨rfl, rfl⟩ ⟨by decide, by decide⟩ hl.1 (Nat.le_of_ble_eq_true rfl) rfl dX7_feed_27 rfl (fun σ6 => ?_)
    refine zj_aload_n (pc' := 31) hC dX7_feed_30 rfl rfl (lv_at hl 0 rfl) ?_
    refine zj_iload (pc' := 33) hC dX7_feed_31 rfl (lv_at hl 4 rfl) ?_
    refine zj_callvV (pc' := 36) (rest := []) hC (kX7_types l b0 cA D L v0 v4 σ6 hk0) hk0 rfl tw_5_23 tw_5_20 tw_5_22 ts_3_5 tw_1_8 ddX7_types rfl ⟨rfl, rfl⟩ ⟨by decide, by decide⟩ hl.1 (Nat.le_of_ble_eq_true rfl) rfl dX7_feed_33 rfl (fun σ8 => ?_)
    refine zj_aload_n (pc' := 37) hC dX7_feed_36 rfl rfl (lv_at hl 0 rfl) ?_
    refine zj_iload (pc' := 39) hC dX7_feed_37 rfl (lv_at hl 5 rfl) ?_
    refine zj_callvV (pc' := 42) (rest := []) hC (kX7_types l b0 cA D L v0 v5 σ8 hk0) hk0 rfl tw_5_23 tw_5_20 tw_5_22 ts_3_5 tw_1_8 ddX7_types rfl ⟨rfl, rfl⟩ ⟨by decide, by decide⟩ hl.1 (Nat.le_of_ble_eq_true rfl) rfl dX7_feed_39 rfl (fun σ10 => ?_)
    refine zj_aload_n (pc' := 43) hC dX7_feed_42 rfl rfl (lv_at hl 0 rfl) ?_
    refine zj_getI (pc' := 46) hC hk0 fd_7_11 rfl tw_4_59 dX7_feed_43 rfl ?_
    exact zj_iret hC dX7_feed_46
  · refine zj_iconst (pc' := 14) (v := (-1 : Int32)) hC dX7_feed_13 rfl rfl ?_
    exact zj_iret hC dX7_feed_14
-- X7_here
theorem ddX7_here : yX7_here.cls ≠ "java/lang/invoke/MethodHandle" ∧ yX7_here.cls ≠ "java/lang/invoke/VarHandle" ∧ (parseMethodDescriptor yX7_here.desc).map (fun d => d.parameters.length) = some 0 := by decide +kernel
abbrev rmX7_here : Room := { frames := 0, cells := 0, slots := 0, locals := 0 }
def fX7_here (v0 : Nat) (σ : zS) : Option (Int32 × zS) :=
  if (σ.1 v0 13) ≤ (σ.1 v0 12) then (some ((-1 : Int32), σ)) else (bnd (σ.2 v0 10) (fun (q2 : Nat) => zX (σ.1 v0 12) 500 (some (((σ.1 q2 ((σ.1 v0 12)).toNatClampNeg) &&& (255 : Int32)), σ))))
set_option maxRecDepth 100000 in
set_option maxHeartbeats 4000000 in
theorem kX7_here (l : Launch) (b0 : Nat) (cA : Nat → ClassId) (D : va_G) (L : List (Nat × Nat)) (v0 : Nat) (σ : zS) (hk0 : L[v0]? = some (0, 7)) : zMi l b0 cA D L yX7_here (Cond.code yX7_here cX7_here 1 (some Jvm.ClassFile.FieldType.int)) rmX7_here [.ref (b0 + v0)] σ (fX7_here v0 σ) := by
  refine zMi_of (by decide) (Nat.le_of_ble_eq_true rfl) ?_
  intro p e s m below meth c ls hC hl
  have hl : lv_has ls 1 [(0, .ref (b0 + v0))] := hl
  generalize ([.ref (b0 + v0)] : List Value).toArray = args at hC ⊢
  unfold fX7_here
  refine zj_aload_n (pc' := 1) hC dX7_here_0 rfl rfl (lv_at hl 0 rfl) ?_
  refine zj_getI (pc' := 4) hC hk0 fd_7_12 rfl tw_4_60 dX7_here_1 rfl ?_
  refine zj_aload_n (pc' := 5) hC dX7_here_4 rfl rfl (lv_at hl 0 rfl) ?_
  refine zj_getI (pc' := 8) hC hk0 fd_7_13 rfl tw_4_61 dX7_here_5 rfl ?_
  refine zj_icmp_ge (tgt := 27) (pc' := 11) hC dX7_here_8 (by decide) rfl (fun c1 => ?_) (fun c1 => ?_)
  · refine zj_iconst (pc' := 28) (v := (-1 : Int32)) hC dX7_here_27 rfl rfl ?_
    exact zj_iret hC dX7_here_28
  · refine zj_aload_n (pc' := 12) hC dX7_here_11 rfl rfl (lv_at hl 0 rfl) ?_
    refine zj_getR (pc' := 15) hC hk0 fd_7_10 rfl tw_4_58 dX7_here_12 rfl (fun q2 hk_q2 => ?_)
    refine zj_aload_n (pc' := 16) hC dX7_here_15 rfl rfl (lv_at hl 0 rfl) ?_
    refine zj_getI (pc' := 19) hC hk0 fd_7_12 rfl tw_4_60 dX7_here_16 rfl ?_
    refine zj_bald (pc' := 20) hC hk_q2 dX7_here_19 rfl (fun g3 => ?_)
    refine zj_sipush (pc' := 23) (v := (255 : Int32)) hC dX7_here_20 rfl rfl ?_
    refine zj_iand (pc' := 24) hC dX7_here_23 rfl ?_
    refine zj_goto (tgt := 28) hC dX7_here_24 (by decide) ?_
    exact zj_iret hC dX7_here_28
-- X7_isDigit
theorem ddX7_isDigit : yX7_isDigit.cls ≠ "java/lang/invoke/MethodHandle" ∧ yX7_isDigit.cls ≠ "java/lang/invoke/VarHandle" ∧ (parseMethodDescriptor yX7_isDigit.desc).map (fun d => d.parameters.length) = some 0 := by decide +kernel
abbrev rmX7_isDigit : Room := { frames := 1, cells := 0, slots := 0, locals := 20 }
def fX7_isDigit (v0 : Nat) (σ : zS) : Option (Int32 × zS) :=
  zb (fX7_here v0 σ) (fun (r2 : Int32) (σ1 : zS) => if r2 < (48 : Int32) then (some ((0 : Int32), σ1)) else (zb (fX7_here v0 σ1) (fun (r5 : Int32) (σ4 : zS) => if (57 : Int32) < r5 then (some ((0 : Int32), σ4)) else (some ((1 : Int32), σ4)))))
set_option maxRecDepth 100000 in
set_option maxHeartbeats 4000000 in
theorem kX7_isDigit (l : Launch) (b0 : Nat) (cA : Nat → ClassId) (D : va_G) (L : List (Nat × Nat)) (v0 : Nat) (σ : zS) (hk0 : L[v0]? = some (0, 7)) : zMz l b0 cA D L yX7_isDigit (Cond.code yX7_isDigit cX7_isDigit 1 (some Jvm.ClassFile.FieldType.boolean)) rmX7_isDigit [.ref (b0 + v0)] σ (fX7_isDigit v0 σ) := by
  refine zMz_of (by decide) (Nat.le_of_ble_eq_true rfl) ?_
  intro p e s m below meth c ls hC hl
  have hl : lv_has ls 1 [(0, .ref (b0 + v0))] := hl
  generalize ([.ref (b0 + v0)] : List Value).toArray = args at hC ⊢
  unfold fX7_isDigit
  refine zj_aload_n (pc' := 1) hC dX7_isDigit_0 rfl rfl (lv_at hl 0 rfl) ?_
  refine zj_calliV (pc' := 4) (rest := []) hC (kX7_here l b0 cA D L v0 σ hk0) hk0 rfl tw_5_35 tw_5_32 tw_5_34 ts_3_7 tw_1_8 ddX7_here rfl ⟨rfl, rfl⟩ ⟨by decide, by decide⟩ hl.1 (Nat.le_of_ble_eq_true rfl) rfl dX7_isDigit_1 rfl (fun r2 σ1 => ?_)
  refine zj_bipush (pc' := 6) (v := (48 : Int32)) hC dX7_isDigit_4 rfl rfl ?_
  refine zj_icmp_lt (tgt := 22) (pc' := 9) hC dX7_isDigit_6 (by decide) rfl (fun c3 => ?_) (fun c3 => ?_)
  · refine zj_iconst (pc' := 23) (v := (0 : Int32)) hC dX7_isDigit_22 rfl rfl ?_
    exact zj_zret hC nB_0 dX7_isDigit_23
  · refine zj_aload_n (pc' := 10) hC dX7_isDigit_9 rfl rfl (lv_at hl 0 rfl) ?_
    refine zj_calliV (pc' := 13) (rest := []) hC (kX7_here l b0 cA D L v0 σ1 hk0) hk0 rfl tw_5_35 tw_5_32 tw_5_34 ts_3_7 tw_1_8 ddX7_here rfl ⟨rfl, rfl⟩ ⟨by decide, by decide⟩ hl.1 (Nat.le_of_ble_eq_true rfl) rfl dX7_isDigit_10 rfl (fun r5 σ4 => ?_)
    refine zj_bipush (pc' := 15) (v := (57 : Int32)) hC dX7_isDigit_13 rfl rfl ?_
    refine zj_icmp_gt (tgt := 22) (pc' := 18) hC dX7_isDigit_15 (by decide) rfl (fun c6 => ?_) (fun c6 => ?_)
    · refine zj_iconst (pc' := 23) (v := (0 : Int32)) hC dX7_isDigit_22 rfl rfl ?_
      exact zj_zret hC nB_0 dX7_isDigit_23
    · refine zj_iconst (pc' := 19) (v := (1 : Int32)) hC dX7_isDigit_18 rfl rfl ?_
      refine zj_goto (tgt := 23) hC dX7_isDigit_19 (by decide) ?_
      exact zj_zret hC nB_1 dX7_isDigit_23
-- X7_wrong
theorem ddX7_wrong : yX7_wrong.cls ≠ "java/lang/invoke/MethodHandle" ∧ yX7_wrong.cls ≠ "java/lang/invoke/VarHandle" ∧ (parseMethodDescriptor yX7_wrong.desc).map (fun d => d.parameters.length) = some 2 := by decide +kernel
abbrev rmX7_wrong : Room := { frames := 0, cells := 0, slots := 0, locals := 0 }
def fX7_wrong (v0 : Nat) (v1 : Int32) (v2 : Int32) (σ : zS) : Option (Int32 × zS) :=
  bnd (zI σ v0 14 (((-1000 : Int32) * v1) - v2)) (fun (σ1 : zS) => some ((0 : Int32), σ1))
set_option maxRecDepth 100000 in
set_option maxHeartbeats 4000000 in
theorem kX7_wrong (l : Launch) (b0 : Nat) (cA : Nat → ClassId) (D : va_G) (L : List (Nat × Nat)) (v0 : Nat) (v1 : Int32) (v2 : Int32) (σ : zS) (hk0 : L[v0]? = some (0, 7)) : zMz l b0 cA D L yX7_wrong (Cond.code yX7_wrong cX7_wrong 3 (some Jvm.ClassFile.FieldType.boolean)) rmX7_wrong [.ref (b0 + v0), .int v1, .int v2] σ (fX7_wrong v0 v1 v2 σ) := by
  refine zMz_of (by decide) (Nat.le_of_ble_eq_true rfl) ?_
  intro p e s m below meth c ls hC hl
  have hl : lv_has ls 3 [(0, .ref (b0 + v0)), (1, .int v1), (2, .int v2)] := hl
  generalize ([.ref (b0 + v0), .int v1, .int v2] : List Value).toArray = args at hC ⊢
  unfold fX7_wrong
  refine zj_aload_n (pc' := 1) hC dX7_wrong_0 rfl rfl (lv_at hl 0 rfl) ?_
  refine zj_sipush (pc' := 4) (v := (-1000 : Int32)) hC dX7_wrong_1 rfl rfl ?_
  refine zj_iload_n (pc' := 5) hC dX7_wrong_4 rfl rfl (lv_at hl 1 rfl) ?_
  refine zj_imul (pc' := 6) hC dX7_wrong_5 rfl ?_
  refine zj_iload_n (pc' := 7) hC dX7_wrong_6 rfl rfl (lv_at hl 2 rfl) ?_
  refine zj_isub (pc' := 8) hC dX7_wrong_7 rfl ?_
  refine zj_putI (pc' := 11) hC hk0 fd_7_14 rfl tw_4_62 rfl rfl rfl dX7_wrong_8 rfl (fun σ1 => ?_)
  refine zj_iconst (pc' := 12) (v := (0 : Int32)) hC dX7_wrong_11 rfl rfl ?_
  exact zj_zret hC nB_0 dX7_wrong_12
-- X7_takes
theorem ddX7_takes : yX7_takes.cls ≠ "java/lang/invoke/MethodHandle" ∧ yX7_takes.cls ≠ "java/lang/invoke/VarHandle" ∧ (parseMethodDescriptor yX7_takes.desc).map (fun d => d.parameters.length) = some 1 := by decide +kernel
abbrev rmX7_takes : Room := { frames := 1, cells := 0, slots := 0, locals := 22 }
def fX7_takes (v0 : Nat) (v1 : Int32) (σ : zS) : Option (Int32 × zS) :=
  zb (fX7_here v0 σ) (fun (r2 : Int32) (σ1 : zS) => if r2 = v1 then (bnd (zI σ1 v0 12 ((σ1.1 v0 12) + (1 : Int32))) (fun (σ4 : zS) => some ((1 : Int32), σ4))) else (zb (fX7_wrong v0 (1 : Int32) ((σ1.1 v0 12)) σ1) (fun (r6 : Int32) (σ5 : zS) => some (r6, σ5))))
set_option maxRecDepth 100000 in
set_option maxHeartbeats 4000000 in
theorem kX7_takes (l : Launch) (b0 : Nat) (cA : Nat → ClassId) (D : va_G) (L : List (Nat × Nat)) (v0 : Nat) (v1 : Int32) (σ : zS) (hk0 : L[v0]? = some (0, 7)) : zMz l b0 cA D L yX7_takes (Cond.code yX7_takes cX7_takes 2 (some Jvm.ClassFile.FieldType.boolean)) rmX7_takes [.ref (b0 + v0), .int v1] σ (fX7_takes v0 v1 σ) := by
  refine zMz_of (by decide) (Nat.le_of_ble_eq_true rfl) ?_
  intro p e s m below meth c ls hC hl
  have hl : lv_has ls 2 [(0, .ref (b0 + v0)), (1, .int v1)] := hl
  generalize ([.ref (b0 + v0), .int v1] : List Value).toArray = args at hC ⊢
  unfold fX7_takes
  refine zj_aload_n (pc' := 1) hC dX7_takes_0 rfl rfl (lv_at hl 0 rfl) ?_
  refine zj_calliV (pc' := 4) (rest := []) hC (kX7_here l b0 cA D L v0 σ hk0) hk0 rfl tw_5_35 tw_5_32 tw_5_34 ts_3_7 tw_1_8 ddX7_here rfl ⟨rfl, rfl⟩ ⟨by decide, by decide⟩ hl.1 (Nat.le_of_ble_eq_true rfl) rfl dX7_takes_1 rfl (fun r2 σ1 => ?_)
  refine zj_iload_n (pc' := 5) hC dX7_takes_4 rfl rfl (lv_at hl 1 rfl) ?_
  refine zj_icmp_eq (tgt := 18) (pc' := 8) hC dX7_takes_5 (by decide) rfl (fun c3 => ?_) (fun c3 => ?_)
  · refine zj_aload_n (pc' := 19) hC dX7_takes_18 rfl rfl (lv_at hl 0 rfl) ?_
    refine zj_aload_n (pc' := 20) hC dX7_takes_19 rfl rfl (lv_at hl 0 rfl) ?_
    refine zj_getI (pc' := 23) hC hk0 fd_7_12 rfl tw_4_60 dX7_takes_20 rfl ?_
    refine zj_iconst (pc' := 24) (v := (1 : Int32)) hC dX7_takes_23 rfl rfl ?_
    refine zj_iadd (pc' := 25) hC dX7_takes_24 rfl ?_
    refine zj_putI (pc' := 28) hC hk0 fd_7_12 rfl tw_4_60 rfl rfl rfl dX7_takes_25 rfl (fun σ4 => ?_)
    refine zj_iconst (pc' := 29) (v := (1 : Int32)) hC dX7_takes_28 rfl rfl ?_
    exact zj_zret hC nB_1 dX7_takes_29
  · refine zj_aload_n (pc' := 9) hC dX7_takes_8 rfl rfl (lv_at hl 0 rfl) ?_
    refine zj_iconst (pc' := 10) (v := (1 : Int32)) hC dX7_takes_9 rfl rfl ?_
    refine zj_aload_n (pc' := 11) hC dX7_takes_10 rfl rfl (lv_at hl 0 rfl) ?_
    refine zj_getI (pc' := 14) hC hk0 fd_7_12 rfl tw_4_60 dX7_takes_11 rfl ?_
    refine zj_callzV (pc' := 17) (rest := []) hC (kX7_wrong l b0 cA D L v0 (1 : Int32) ((σ1.1 v0 12)) σ1 hk0) hk0 rfl tw_5_39 tw_5_36 tw_5_38 ts_3_8 tw_1_8 ddX7_wrong rfl ⟨rfl, rfl⟩ ⟨by decide, by decide⟩ hl.1 (Nat.le_of_ble_eq_true rfl) rfl dX7_takes_14 rfl (fun r6 σ5 hb_r6 => ?_)
    exact zj_zret hC hb_r6 dX7_takes_17
-- X7_readsNumber
theorem ddX7_readsNumber : yX7_readsNumber.cls ≠ "java/lang/invoke/MethodHandle" ∧ yX7_readsNumber.cls ≠ "java/lang/invoke/VarHandle" ∧ (parseMethodDescriptor yX7_readsNumber.desc).map (fun d => d.parameters.length) = some 0 := by decide +kernel
abbrev rmX7_readsNumber : Room := { frames := 2, cells := 0, slots := 0, locals := 40 }
def bX7_readsNumber_27  (v0 : Nat) (σ : zS) : Option (Int32 × zS) :=
  zb (fX7_wrong v0 (2 : Int32) ((σ.1 v0 12)) σ) (fun (r2 : Int32) (σ1 : zS) => some (r2, σ1))
def bX7_readsNumber_10 (k10 : Nat → Int32 → zS → Option (Int32 × zS)) (v0 : Nat) (v1 : Int32) (σ : zS) : Option (Int32 × zS) :=
  zb (fX7_isDigit v0 σ) (fun (r4 : Int32) (σ3 : zS) => if r4 = 0 then (some ((1 : Int32), σ3)) else (if (σ3.1 v0 12) = (v1 + (5 : Int32)) then (bX7_readsNumber_27 v0 σ3) else (zb (fX7_here v0 σ3) (fun (r8 : Int32) (σ7 : zS) => bnd (zI σ7 v0 19 ((((10 : Int32) * (σ3.1 v0 19)) + r8) - (48 : Int32))) (fun (σ9 : zS) => bnd (zI σ9 v0 12 ((σ9.1 v0 12) + (1 : Int32))) (fun (σ10 : zS) => k10 v0 v1 σ10))))))
def fX7_readsNumber_10  : Nat → Nat → Int32 → zS → Option (Int32 × zS)
  | 0, _, _, _ => none
  | n + 1, v0, v1, σ => bX7_readsNumber_10 (fX7_readsNumber_10  n) v0 v1 σ
def fX7_readsNumber (v0 : Nat) (σ : zS) : Option (Int32 × zS) :=
  bnd ((σ.1 v0 12)) (fun (x11 : Int32) => bnd (zI σ v0 19 (0 : Int32)) (fun (σ12 : zS) => fX7_readsNumber_10 zFU v0 x11 σ12))
set_option maxRecDepth 100000 in
set_option maxHeartbeats 4000000 in
theorem jX7_readsNumber_27 {p : Program} {l : Launch} {e : Env} {s : State} {m : MethodId} {args : Array Value} {below : List Frame} {meth : Method} {c : Code} {b0 : Nat} {cA : Nat → ClassId} {D : va_G} {L : List (Nat × Nat)} (hC : zC p c s m args meth cX7_readsNumber 2 (some Jvm.ClassFile.FieldType.boolean) (Cond.code yX7_readsNumber cX7_readsNumber 2 (some Jvm.ClassFile.FieldType.boolean)) yX7_readsNumber.cls cA D)  (v0 : Nat) (σ : zS) (ls : Array Slot) (hk_v0 : L[v0]? = some (0, 7)) (hl : lv_has ls 2 [(0, .ref (b0 + v0))]) : zJ p l e rmX7_readsNumber s m args below meth c b0 cA D L (fun z => MQ below (va_Qi (fun (r : Int32) (u : zS) => (r, u) = z ∧ nB r) (zB b0 cA D L) (zA b0 L)) args s 0 0 (zA b0 L)) (bX7_readsNumber_27  v0 σ) σ 27 ls [] := by
  unfold bX7_readsNumber_27
  refine zj_aload_n (pc' := 28) hC dX7_readsNumber_27 rfl rfl (lv_at hl 0 rfl) ?_
  refine zj_iconst (pc' := 29) (v := (2 : Int32)) hC dX7_readsNumber_28 rfl rfl ?_
  refine zj_aload_n (pc' := 30) hC dX7_readsNumber_29 rfl rfl (lv_at hl 0 rfl) ?_
  refine zj_getI (pc' := 33) hC hk_v0 fd_7_12 rfl tw_4_60 dX7_readsNumber_30 rfl ?_
  refine zj_callzV (pc' := 36) (rest := []) hC (kX7_wrong l b0 cA D L v0 (2 : Int32) ((σ.1 v0 12)) σ hk_v0) hk_v0 rfl tw_5_39 tw_5_36 tw_5_38 ts_3_8 tw_1_8 ddX7_wrong rfl ⟨rfl, rfl⟩ ⟨by decide, by decide⟩ hl.1 (Nat.le_of_ble_eq_true rfl) rfl dX7_readsNumber_33 rfl (fun r2 σ1 hb_r2 => ?_)
  exact zj_zret hC hb_r2 dX7_readsNumber_36
set_option maxRecDepth 100000 in
set_option maxHeartbeats 4000000 in
theorem jX7_readsNumber_10 {p : Program} {l : Launch} {e : Env} {s : State} {m : MethodId} {args : Array Value} {below : List Frame} {meth : Method} {c : Code} {b0 : Nat} {cA : Nat → ClassId} {D : va_G} {L : List (Nat × Nat)} (hC : zC p c s m args meth cX7_readsNumber 2 (some Jvm.ClassFile.FieldType.boolean) (Cond.code yX7_readsNumber cX7_readsNumber 2 (some Jvm.ClassFile.FieldType.boolean)) yX7_readsNumber.cls cA D) (k10 : Nat → Int32 → zS → Option (Int32 × zS)) (h10 : ∀ (v0 : Nat) (v1 : Int32) (σ : zS) (ls : Array Slot), L[v0]? = some (0, 7) → lv_has ls 2 [(0, .ref (b0 + v0)), (1, .int v1)] → zJ p l e rmX7_readsNumber s m args below meth c b0 cA D L (fun z => MQ below (va_Qi (fun (r : Int32) (u : zS) => (r, u) = z ∧ nB r) (zB b0 cA D L) (zA b0 L)) args s 0 0 (zA b0 L)) (k10 v0 v1 σ) σ 10 ls []) (v0 : Nat) (v1 : Int32) (σ : zS) (ls : Array Slot) (hk_v0 : L[v0]? = some (0, 7)) (hl : lv_has ls 2 [(0, .ref (b0 + v0)), (1, .int v1)]) : zJ p l e rmX7_readsNumber s m args below meth c b0 cA D L (fun z => MQ below (va_Qi (fun (r : Int32) (u : zS) => (r, u) = z ∧ nB r) (zB b0 cA D L) (zA b0 L)) args s 0 0 (zA b0 L)) (bX7_readsNumber_10 k10 v0 v1 σ) σ 10 ls [] := by
  unfold bX7_readsNumber_10
  refine zj_aload_n (pc' := 11) hC dX7_readsNumber_10 rfl rfl (lv_at hl 0 rfl) ?_
  refine zj_callzV (pc' := 14) (rest := []) hC (kX7_isDigit l b0 cA D L v0 σ hk_v0) hk_v0 rfl tw_5_64 tw_5_61 tw_5_63 ts_3_14 tw_1_8 ddX7_isDigit rfl ⟨rfl, rfl⟩ ⟨by decide, by decide⟩ hl.1 (Nat.le_of_ble_eq_true rfl) rfl dX7_readsNumber_11 rfl (fun r4 σ3 hb_r4 => ?_)
  refine zj_if_eq (tgt := 69) (pc' := 17) hC dX7_readsNumber_14 (by decide) rfl (fun c5 => ?_) (fun c5 => ?_)
  · refine zj_iconst (pc' := 70) (v := (1 : Int32)) hC dX7_readsNumber_69 rfl rfl ?_
    exact zj_zret hC nB_1 dX7_readsNumber_70
  · refine zj_aload_n (pc' := 18) hC dX7_readsNumber_17 rfl rfl (lv_at hl 0 rfl) ?_
    refine zj_getI (pc' := 21) hC hk_v0 fd_7_12 rfl tw_4_60 dX7_readsNumber_18 rfl ?_
    refine zj_iload_n (pc' := 22) hC dX7_readsNumber_21 rfl rfl (lv_at hl 1 rfl) ?_
    refine zj_iconst (pc' := 23) (v := (5 : Int32)) hC dX7_readsNumber_22 rfl rfl ?_
    refine zj_iadd (pc' := 24) hC dX7_readsNumber_23 rfl ?_
    refine zj_icmp_ne (tgt := 37) (pc' := 27) hC dX7_readsNumber_24 (by decide) rfl (fun c6 => ?_) (fun c6 => ?_)
    · refine zj_aload_n (pc' := 38) hC dX7_readsNumber_37 rfl rfl (lv_at hl 0 rfl) ?_
      refine zj_bipush (pc' := 40) (v := (10 : Int32)) hC dX7_readsNumber_38 rfl rfl ?_
      refine zj_aload_n (pc' := 41) hC dX7_readsNumber_40 rfl rfl (lv_at hl 0 rfl) ?_
      refine zj_getI (pc' := 44) hC hk_v0 fd_7_19 rfl tw_4_67 dX7_readsNumber_41 rfl ?_
      refine zj_imul (pc' := 45) hC dX7_readsNumber_44 rfl ?_
      refine zj_aload_n (pc' := 46) hC dX7_readsNumber_45 rfl rfl (lv_at hl 0 rfl) ?_
      refine zj_calliV (pc' := 49) (rest := [.int ((10 : Int32) * (σ3.1 v0 19)), .ref (b0 + v0)]) hC (kX7_here l b0 cA D L v0 σ3 hk_v0) hk_v0 rfl tw_5_35 tw_5_32 tw_5_34 ts_3_7 tw_1_8 ddX7_here rfl ⟨rfl, rfl⟩ ⟨by decide, by decide⟩ hl.1 (Nat.le_of_ble_eq_true rfl) rfl dX7_readsNumber_46 rfl (fun r8 σ7 => ?_)
      refine zj_iadd (pc' := 50) hC dX7_readsNumber_49 rfl ?_
      refine zj_bipush (pc' := 52) (v := (48 : Int32)) hC dX7_readsNumber_50 rfl rfl ?_
      refine zj_isub (pc' := 53) hC dX7_readsNumber_52 rfl ?_
      refine zj_putI (pc' := 56) hC hk_v0 fd_7_19 rfl tw_4_67 rfl rfl rfl dX7_readsNumber_53 rfl (fun σ9 => ?_)
      refine zj_aload_n (pc' := 57) hC dX7_readsNumber_56 rfl rfl (lv_at hl 0 rfl) ?_
      refine zj_aload_n (pc' := 58) hC dX7_readsNumber_57 rfl rfl (lv_at hl 0 rfl) ?_
      refine zj_getI (pc' := 61) hC hk_v0 fd_7_12 rfl tw_4_60 dX7_readsNumber_58 rfl ?_
      refine zj_iconst (pc' := 62) (v := (1 : Int32)) hC dX7_readsNumber_61 rfl rfl ?_
      refine zj_iadd (pc' := 63) hC dX7_readsNumber_62 rfl ?_
      refine zj_putI (pc' := 66) hC hk_v0 fd_7_12 rfl tw_4_60 rfl rfl rfl dX7_readsNumber_63 rfl (fun σ10 => ?_)
      refine zj_goto (tgt := 10) hC dX7_readsNumber_66 (by decide) ?_
      exact h10 v0 v1 σ10 ls hk_v0 (lv_sub hl [0, 1] rfl)
    · exact jX7_readsNumber_27 hC v0 σ3 ls hk_v0 (lv_sub hl [0] rfl)
set_option maxRecDepth 100000 in
set_option maxHeartbeats 4000000 in
theorem lX7_readsNumber_10 {p : Program} {l : Launch} {e : Env} {s : State} {m : MethodId} {args : Array Value} {below : List Frame} {meth : Method} {c : Code} {b0 : Nat} {cA : Nat → ClassId} {D : va_G} {L : List (Nat × Nat)} (hC : zC p c s m args meth cX7_readsNumber 2 (some Jvm.ClassFile.FieldType.boolean) (Cond.code yX7_readsNumber cX7_readsNumber 2 (some Jvm.ClassFile.FieldType.boolean)) yX7_readsNumber.cls cA D)  (n : Nat) : ∀ (v0 : Nat) (v1 : Int32) (σ : zS) (ls : Array Slot), L[v0]? = some (0, 7) → lv_has ls 2 [(0, .ref (b0 + v0)), (1, .int v1)] → zJ p l e rmX7_readsNumber s m args below meth c b0 cA D L (fun z => MQ below (va_Qi (fun (r : Int32) (u : zS) => (r, u) = z ∧ nB r) (zB b0 cA D L) (zA b0 L)) args s 0 0 (zA b0 L)) (fX7_readsNumber_10  n v0 v1 σ) σ 10 ls [] := by
  induction n with
  | zero => intros; exact zj_none
  | succ n ih => exact jX7_readsNumber_10 hC (fX7_readsNumber_10  n) ih
set_option maxRecDepth 100000 in
set_option maxHeartbeats 4000000 in
theorem kX7_readsNumber (l : Launch) (b0 : Nat) (cA : Nat → ClassId) (D : va_G) (L : List (Nat × Nat)) (v0 : Nat) (σ : zS) (hk0 : L[v0]? = some (0, 7)) : zMz l b0 cA D L yX7_readsNumber (Cond.code yX7_readsNumber cX7_readsNumber 2 (some Jvm.ClassFile.FieldType.boolean)) rmX7_readsNumber [.ref (b0 + v0)] σ (fX7_readsNumber v0 σ) := by
  refine zMz_of (by decide) (Nat.le_of_ble_eq_true rfl) ?_
  intro p e s m below meth c ls hC hl
  have hl : lv_has ls 2 [(0, .ref (b0 + v0))] := hl
  generalize ([.ref (b0 + v0)] : List Value).toArray = args at hC ⊢
  unfold fX7_readsNumber
  refine zj_aload_n (pc' := 1) hC dX7_readsNumber_0 rfl rfl (lv_at hl 0 rfl) ?_
  refine zj_getI (pc' := 4) hC hk0 fd_7_12 rfl tw_4_60 dX7_readsNumber_1 rfl ?_
  refine zj_nmi (fun x11 => ?_)
  refine zj_istore_n (pc' := 5) (lv' := [(1, .int x11), (0, .ref (b0 + v0))]) hC dX7_readsNumber_4 rfl rfl hl (by decide) rfl (fun ls hl => ?_)
  refine zj_aload_n (pc' := 6) hC dX7_readsNumber_5 rfl rfl (lv_at hl 1 rfl) ?_
  refine zj_iconst (pc' := 7) (v := (0 : Int32)) hC dX7_readsNumber_6 rfl rfl ?_
  refine zj_putI (pc' := 10) hC hk0 fd_7_19 rfl tw_4_67 rfl rfl rfl dX7_readsNumber_7 rfl (fun σ12 => ?_)
  exact lX7_readsNumber_10 hC zFU v0 x11 σ12 ls hk0 (lv_sub hl [1, 0] rfl)
-- X7_says
theorem ddX7_says : yX7_says.cls ≠ "java/lang/invoke/MethodHandle" ∧ yX7_says.cls ≠ "java/lang/invoke/VarHandle" ∧ (parseMethodDescriptor yX7_says.desc).map (fun d => d.parameters.length) = some 2 := by decide +kernel
abbrev rmX7_says : Room := { frames := 0, cells := 0, slots := 0, locals := 0 }
def fX7_says (v0 : Nat) (v1 : Int32) (v2 : Int32) (σ : zS) : Option (Unit × zS) :=
  bnd (σ.2 v0 20) (fun (q1 : Nat) => zX (σ.1 v0 16) 140 (bnd (zI σ q1 ((σ.1 v0 16)).toNatClampNeg (((1048576 : Int32) * v1) + v2)) (fun (σ3 : zS) => bnd (zI σ3 v0 16 ((σ3.1 v0 16) + (1 : Int32))) (fun (σ4 : zS) => some ((), σ4)))))
set_option maxRecDepth 100000 in
set_option maxHeartbeats 4000000 in
theorem kX7_says (l : Launch) (b0 : Nat) (cA : Nat → ClassId) (D : va_G) (L : List (Nat × Nat)) (v0 : Nat) (v1 : Int32) (v2 : Int32) (σ : zS) (hk0 : L[v0]? = some (0, 7)) : zMv l b0 cA D L yX7_says (Cond.code yX7_says cX7_says 3 (none)) rmX7_says [.ref (b0 + v0), .int v1, .int v2] σ (fX7_says v0 v1 v2 σ) := by
  refine zMv_of (by decide) (Nat.le_of_ble_eq_true rfl) ?_
  intro p e s m below meth c ls hC hl
  have hl : lv_has ls 3 [(0, .ref (b0 + v0)), (1, .int v1), (2, .int v2)] := hl
  generalize ([.ref (b0 + v0), .int v1, .int v2] : List Value).toArray = args at hC ⊢
  unfold fX7_says
  refine zj_aload_n (pc' := 1) hC dX7_says_0 rfl rfl (lv_at hl 0 rfl) ?_
  refine zj_getR (pc' := 4) hC hk0 fd_7_20 rfl tw_4_68 dX7_says_1 rfl (fun q1 hk_q1 => ?_)
  refine zj_aload_n (pc' := 5) hC dX7_says_4 rfl rfl (lv_at hl 0 rfl) ?_
  refine zj_getI (pc' := 8) hC hk0 fd_7_16 rfl tw_4_64 dX7_says_5 rfl ?_
  refine zj_ldc (pc' := 10) (v := (1048576 : Int32)) hC tw_5_48 dX7_says_8 rfl ?_
  refine zj_iload_n (pc' := 11) hC dX7_says_10 rfl rfl (lv_at hl 1 rfl) ?_
  refine zj_imul (pc' := 12) hC dX7_says_11 rfl ?_
  refine zj_iload_n (pc' := 13) hC dX7_says_12 rfl rfl (lv_at hl 2 rfl) ?_
  refine zj_iadd (pc' := 14) hC dX7_says_13 rfl ?_
  refine zj_iast (pc' := 15) hC hk_q1 dX7_says_14 rfl (fun g2 σ3 => ?_)
  refine zj_aload_n (pc' := 16) hC dX7_says_15 rfl rfl (lv_at hl 0 rfl) ?_
  refine zj_aload_n (pc' := 17) hC dX7_says_16 rfl rfl (lv_at hl 0 rfl) ?_
  refine zj_getI (pc' := 20) hC hk0 fd_7_16 rfl tw_4_64 dX7_says_17 rfl ?_
  refine zj_iconst (pc' := 21) (v := (1 : Int32)) hC dX7_says_20 rfl rfl ?_
  refine zj_iadd (pc' := 22) hC dX7_says_21 rfl ?_
  refine zj_putI (pc' := 25) hC hk0 fd_7_16 rfl tw_4_64 rfl rfl rfl dX7_says_22 rfl (fun σ4 => ?_)
  exact zj_vret hC dX7_says_25
-- X7_opens
theorem ddX7_opens : yX7_opens.cls ≠ "java/lang/invoke/MethodHandle" ∧ yX7_opens.cls ≠ "java/lang/invoke/VarHandle" ∧ (parseMethodDescriptor yX7_opens.desc).map (fun d => d.parameters.length) = some 1 := by decide +kernel
abbrev rmX7_opens : Room := { frames := 1, cells := 0, slots := 0, locals := 22 }
def fX7_opens (v0 : Nat) (v1 : Int32) (σ : zS) : Option (Int32 × zS) :=
  if (σ.1 v0 15) = (6 : Int32) then (zb (fX7_wrong v0 (5 : Int32) ((σ.1 v0 12)) σ) (fun (r9 : Int32) (σ8 : zS) => some (r9, σ8))) else (bnd (zI σ v0 15 ((σ.1 v0 15) + (1 : Int32))) (fun (σ2 : zS) => bnd (σ2.2 v0 21) (fun (q3 : Nat) => zX (σ2.1 v0 17) 140 (bnd (zI σ2 q3 ((σ2.1 v0 17)).toNatClampNeg ((1048576 : Int32) * v1)) (fun (σ5 : zS) => bnd (zI σ5 v0 17 ((σ5.1 v0 17) + (1 : Int32))) (fun (σ6 : zS) => bnd (zI σ6 v0 12 ((σ6.1 v0 12) + (1 : Int32))) (fun (σ7 : zS) => some ((1 : Int32), σ7))))))))
set_option maxRecDepth 100000 in
set_option maxHeartbeats 4000000 in
theorem kX7_opens (l : Launch) (b0 : Nat) (cA : Nat → ClassId) (D : va_G) (L : List (Nat × Nat)) (v0 : Nat) (v1 : Int32) (σ : zS) (hk0 : L[v0]? = some (0, 7)) : zMz l b0 cA D L yX7_opens (Cond.code yX7_opens cX7_opens 2 (some Jvm.ClassFile.FieldType.boolean)) rmX7_opens [.ref (b0 + v0), .int v1] σ (fX7_opens v0 v1 σ) := by
  refine zMz_of (by decide) (Nat.le_of_ble_eq_true rfl) ?_
  intro p e s m below meth c ls hC hl
  have hl : lv_has ls 2 [(0, .ref (b0 + v0)), (1, .int v1)] := hl
  generalize ([.ref (b0 + v0), .int v1] : List Value).toArray = args at hC ⊢
  unfold fX7_opens
  refine zj_aload_n (pc' := 1) hC dX7_opens_0 rfl rfl (lv_at hl 0 rfl) ?_
  refine zj_getI (pc' := 4) hC hk0 fd_7_15 rfl tw_4_63 dX7_opens_1 rfl ?_
  refine zj_bipush (pc' := 6) (v := (6 : Int32)) hC dX7_opens_4 rfl rfl ?_
  refine zj_icmp_ne (tgt := 19) (pc' := 9) hC dX7_opens_6 (by decide) rfl (fun c1 => ?_) (fun c1 => ?_)
  · refine zj_aload_n (pc' := 20) hC dX7_opens_19 rfl rfl (lv_at hl 0 rfl) ?_
    refine zj_aload_n (pc' := 21) hC dX7_opens_20 rfl rfl (lv_at hl 0 rfl) ?_
    refine zj_getI (pc' := 24) hC hk0 fd_7_15 rfl tw_4_63 dX7_opens_21 rfl ?_
    refine zj_iconst (pc' := 25) (v := (1 : Int32)) hC dX7_opens_24 rfl rfl ?_
    refine zj_iadd (pc' := 26) hC dX7_opens_25 rfl ?_
    refine zj_putI (pc' := 29) hC hk0 fd_7_15 rfl tw_4_63 rfl rfl rfl dX7_opens_26 rfl (fun σ2 => ?_)
    refine zj_aload_n (pc' := 30) hC dX7_opens_29 rfl rfl (lv_at hl 0 rfl) ?_
    refine zj_getR (pc' := 33) hC hk0 fd_7_21 rfl tw_4_69 dX7_opens_30 rfl (fun q3 hk_q3 => ?_)
    refine zj_aload_n (pc' := 34) hC dX7_opens_33 rfl rfl (lv_at hl 0 rfl) ?_
    refine zj_getI (pc' := 37) hC hk0 fd_7_17 rfl tw_4_65 dX7_opens_34 rfl ?_
    refine zj_ldc (pc' := 39) (v := (1048576 : Int32)) hC tw_5_48 dX7_opens_37 rfl ?_
    refine zj_iload_n (pc' := 40) hC dX7_opens_39 rfl rfl (lv_at hl 1 rfl) ?_
    refine zj_imul (pc' := 41) hC dX7_opens_40 rfl ?_
    refine zj_iast (pc' := 42) hC hk_q3 dX7_opens_41 rfl (fun g4 σ5 => ?_)
    refine zj_aload_n (pc' := 43) hC dX7_opens_42 rfl rfl (lv_at hl 0 rfl) ?_
    refine zj_aload_n (pc' := 44) hC dX7_opens_43 rfl rfl (lv_at hl 0 rfl) ?_
    refine zj_getI (pc' := 47) hC hk0 fd_7_17 rfl tw_4_65 dX7_opens_44 rfl ?_
    refine zj_iconst (pc' := 48) (v := (1 : Int32)) hC dX7_opens_47 rfl rfl ?_
    refine zj_iadd (pc' := 49) hC dX7_opens_48 rfl ?_
    refine zj_putI (pc' := 52) hC hk0 fd_7_17 rfl tw_4_65 rfl rfl rfl dX7_opens_49 rfl (fun σ6 => ?_)
    refine zj_aload_n (pc' := 53) hC dX7_opens_52 rfl rfl (lv_at hl 0 rfl) ?_
    refine zj_aload_n (pc' := 54) hC dX7_opens_53 rfl rfl (lv_at hl 0 rfl) ?_
    refine zj_getI (pc' := 57) hC hk0 fd_7_12 rfl tw_4_60 dX7_opens_54 rfl ?_
    refine zj_iconst (pc' := 58) (v := (1 : Int32)) hC dX7_opens_57 rfl rfl ?_
    refine zj_iadd (pc' := 59) hC dX7_opens_58 rfl ?_
    refine zj_putI (pc' := 62) hC hk0 fd_7_12 rfl tw_4_60 rfl rfl rfl dX7_opens_59 rfl (fun σ7 => ?_)
    refine zj_iconst (pc' := 63) (v := (1 : Int32)) hC dX7_opens_62 rfl rfl ?_
    exact zj_zret hC nB_1 dX7_opens_63
  · refine zj_aload_n (pc' := 10) hC dX7_opens_9 rfl rfl (lv_at hl 0 rfl) ?_
    refine zj_iconst (pc' := 11) (v := (5 : Int32)) hC dX7_opens_10 rfl rfl ?_
    refine zj_aload_n (pc' := 12) hC dX7_opens_11 rfl rfl (lv_at hl 0 rfl) ?_
    refine zj_getI (pc' := 15) hC hk0 fd_7_12 rfl tw_4_60 dX7_opens_12 rfl ?_
    refine zj_callzV (pc' := 18) (rest := []) hC (kX7_wrong l b0 cA D L v0 (5 : Int32) ((σ.1 v0 12)) σ hk0) hk0 rfl tw_5_39 tw_5_36 tw_5_38 ts_3_8 tw_1_8 ddX7_wrong rfl ⟨rfl, rfl⟩ ⟨by decide, by decide⟩ hl.1 (Nat.le_of_ble_eq_true rfl) rfl dX7_opens_15 rfl (fun r9 σ8 hb_r9 => ?_)
    exact zj_zret hC hb_r9 dX7_opens_18
-- X7_top
theorem ddX7_top : yX7_top.cls ≠ "java/lang/invoke/MethodHandle" ∧ yX7_top.cls ≠ "java/lang/invoke/VarHandle" ∧ (parseMethodDescriptor yX7_top.desc).map (fun d => d.parameters.length) = some 0 := by decide +kernel
abbrev rmX7_top : Room := { frames := 0, cells := 0, slots := 0, locals := 0 }
def fX7_top (v0 : Nat) (σ : zS) : Option (Int32 × zS) :=
  if (σ.1 v0 17) = 0 then (some ((-1 : Int32), σ)) else (bnd (σ.2 v0 21) (fun (q2 : Nat) => zX ((σ.1 v0 17) - (1 : Int32)) 140 (bnd (((σ.1 q2 (((σ.1 v0 17) - (1 : Int32))).toNatClampNeg) / (1048576 : Int32))) (fun (x4 : Int32) => some (x4, σ)))))
set_option maxRecDepth 100000 in
set_option maxHeartbeats 4000000 in
theorem kX7_top (l : Launch) (b0 : Nat) (cA : Nat → ClassId) (D : va_G) (L : List (Nat × Nat)) (v0 : Nat) (σ : zS) (hk0 : L[v0]? = some (0, 7)) : zMi l b0 cA D L yX7_top (Cond.code yX7_top cX7_top 1 (some Jvm.ClassFile.FieldType.int)) rmX7_top [.ref (b0 + v0)] σ (fX7_top v0 σ) := by
  refine zMi_of (by decide) (Nat.le_of_ble_eq_true rfl) ?_
  intro p e s m below meth c ls hC hl
  have hl : lv_has ls 1 [(0, .ref (b0 + v0))] := hl
  generalize ([.ref (b0 + v0)] : List Value).toArray = args at hC ⊢
  unfold fX7_top
  refine zj_aload_n (pc' := 1) hC dX7_top_0 rfl rfl (lv_at hl 0 rfl) ?_
  refine zj_getI (pc' := 4) hC hk0 fd_7_17 rfl tw_4_65 dX7_top_1 rfl ?_
  refine zj_if_ne (tgt := 11) (pc' := 7) hC dX7_top_4 (by decide) rfl (fun c1 => ?_) (fun c1 => ?_)
  · refine zj_aload_n (pc' := 12) hC dX7_top_11 rfl rfl (lv_at hl 0 rfl) ?_
    refine zj_getR (pc' := 15) hC hk0 fd_7_21 rfl tw_4_69 dX7_top_12 rfl (fun q2 hk_q2 => ?_)
    refine zj_aload_n (pc' := 16) hC dX7_top_15 rfl rfl (lv_at hl 0 rfl) ?_
    refine zj_getI (pc' := 19) hC hk0 fd_7_17 rfl tw_4_65 dX7_top_16 rfl ?_
    refine zj_iconst (pc' := 20) (v := (1 : Int32)) hC dX7_top_19 rfl rfl ?_
    refine zj_isub (pc' := 21) hC dX7_top_20 rfl ?_
    refine zj_iald (pc' := 22) hC hk_q2 dX7_top_21 rfl (fun g3 => ?_)
    refine zj_ldc (pc' := 24) (v := (1048576 : Int32)) hC tw_5_48 dX7_top_22 rfl ?_
    refine zj_idivK (pc' := 25) hC dX7_top_24 rfl (by decide) ?_
    refine zj_nmi (fun x4 => ?_)
    exact zj_iret hC dX7_top_25
  · refine zj_iconst (pc' := 8) (v := (-1 : Int32)) hC dX7_top_7 rfl rfl ?_
    refine zj_goto (tgt := 25) hC dX7_top_8 (by decide) ?_
    exact zj_iret hC dX7_top_25
-- X7_factOf
theorem ddX7_factOf : yX7_factOf.cls ≠ "java/lang/invoke/MethodHandle" ∧ yX7_factOf.cls ≠ "java/lang/invoke/VarHandle" ∧ (parseMethodDescriptor yX7_factOf.desc).map (fun d => d.parameters.length) = some 1 := by decide +kernel
abbrev rmX7_factOf : Room := { frames := 0, cells := 0, slots := 0, locals := 0 }
def fX7_factOf (v0 : Int32) (σ : zS) : Option (Int32 × zS) :=
  if v0 = (97 : Int32) then (some ((3 : Int32), σ)) else (if v0 = (98 : Int32) then (some ((4 : Int32), σ)) else (if v0 = (103 : Int32) then (some ((0 : Int32), σ)) else (if v0 = (107 : Int32) then (some ((11 : Int32), σ)) else (if v0 = (108 : Int32) then (some ((6 : Int32), σ)) else (if v0 = (110 : Int32) then (some ((1 : Int32), σ)) else (if v0 = (112 : Int32) then (some ((5 : Int32), σ)) else (if v0 = (113 : Int32) then (some ((10 : Int32), σ)) else (if v0 = (115 : Int32) then (some ((8 : Int32), σ)) else (if v0 = (116 : Int32) then (some ((7 : Int32), σ)) else (if v0 = (119 : Int32) then (some ((9 : Int32), σ)) else (if v0 = (122 : Int32) then (some ((2 : Int32), σ)) else (some ((-1 : Int32), σ)))))))))))))
set_option maxRecDepth 100000 in
set_option maxHeartbeats 4000000 in
theorem kX7_factOf (l : Launch) (b0 : Nat) (cA : Nat → ClassId) (D : va_G) (L : List (Nat × Nat)) (v0 : Int32) (σ : zS)  : zMi l b0 cA D L yX7_factOf (Cond.code yX7_factOf cX7_factOf 1 (some Jvm.ClassFile.FieldType.int)) rmX7_factOf [.int v0] σ (fX7_factOf v0 σ) := by
  refine zMi_of (by decide) (Nat.le_of_ble_eq_true rfl) ?_
  intro p e s m below meth c ls hC hl
  have hl : lv_has ls 1 [(0, .int v0)] := hl
  generalize ([.int v0] : List Value).toArray = args at hC ⊢
  unfold fX7_factOf
  refine zj_iload_n (pc' := 1) hC dX7_factOf_0 rfl rfl (lv_at hl 0 rfl) ?_
  refine zj_split (fun c1 => ?_) (fun c1 => ?_)
  · refine zj_tabIn (tgt := 126) 97 hC dX7_factOf_1 (by rw [c1]; decide) (by decide) (by decide) rfl (by decide) ?_
    refine zj_iconst (pc' := 127) (v := (3 : Int32)) hC dX7_factOf_126 rfl rfl ?_
    exact zj_iret hC dX7_factOf_127
  refine zj_split (fun c2 => ?_) (fun c2 => ?_)
  · refine zj_tabIn (tgt := 128) 98 hC dX7_factOf_1 (by rw [c2]; decide) (by decide) (by decide) rfl (by decide) ?_
    refine zj_iconst (pc' := 129) (v := (4 : Int32)) hC dX7_factOf_128 rfl rfl ?_
    exact zj_iret hC dX7_factOf_129
  refine zj_split (fun c3 => ?_) (fun c3 => ?_)
  · refine zj_tabIn (tgt := 120) 103 hC dX7_factOf_1 (by rw [c3]; decide) (by decide) (by decide) rfl (by decide) ?_
    refine zj_iconst (pc' := 121) (v := (0 : Int32)) hC dX7_factOf_120 rfl rfl ?_
    exact zj_iret hC dX7_factOf_121
  refine zj_split (fun c4 => ?_) (fun c4 => ?_)
  · refine zj_tabIn (tgt := 147) 107 hC dX7_factOf_1 (by rw [c4]; decide) (by decide) (by decide) rfl (by decide) ?_
    refine zj_bipush (pc' := 149) (v := (11 : Int32)) hC dX7_factOf_147 rfl rfl ?_
    exact zj_iret hC dX7_factOf_149
  refine zj_split (fun c5 => ?_) (fun c5 => ?_)
  · refine zj_tabIn (tgt := 132) 108 hC dX7_factOf_1 (by rw [c5]; decide) (by decide) (by decide) rfl (by decide) ?_
    refine zj_bipush (pc' := 134) (v := (6 : Int32)) hC dX7_factOf_132 rfl rfl ?_
    exact zj_iret hC dX7_factOf_134
  refine zj_split (fun c6 => ?_) (fun c6 => ?_)
  · refine zj_tabIn (tgt := 122) 110 hC dX7_factOf_1 (by rw [c6]; decide) (by decide) (by decide) rfl (by decide) ?_
    refine zj_iconst (pc' := 123) (v := (1 : Int32)) hC dX7_factOf_122 rfl rfl ?_
    exact zj_iret hC dX7_factOf_123
  refine zj_split (fun c7 => ?_) (fun c7 => ?_)
  · refine zj_tabIn (tgt := 130) 112 hC dX7_factOf_1 (by rw [c7]; decide) (by decide) (by decide) rfl (by decide) ?_
    refine zj_iconst (pc' := 131) (v := (5 : Int32)) hC dX7_factOf_130 rfl rfl ?_
    exact zj_iret hC dX7_factOf_131
  refine zj_split (fun c8 => ?_) (fun c8 => ?_)
  · refine zj_tabIn (tgt := 144) 113 hC dX7_factOf_1 (by rw [c8]; decide) (by decide) (by decide) rfl (by decide) ?_
    refine zj_bipush (pc' := 146) (v := (10 : Int32)) hC dX7_factOf_144 rfl rfl ?_
    exact zj_iret hC dX7_factOf_146
  refine zj_split (fun c9 => ?_) (fun c9 => ?_)
  · refine zj_tabIn (tgt := 138) 115 hC dX7_factOf_1 (by rw [c9]; decide) (by decide) (by decide) rfl (by decide) ?_
    refine zj_bipush (pc' := 140) (v := (8 : Int32)) hC dX7_factOf_138 rfl rfl ?_
    exact zj_iret hC dX7_factOf_140
  refine zj_split (fun c10 => ?_) (fun c10 => ?_)
  · refine zj_tabIn (tgt := 135) 116 hC dX7_factOf_1 (by rw [c10]; decide) (by decide) (by decide) rfl (by decide) ?_
    refine zj_bipush (pc' := 137) (v := (7 : Int32)) hC dX7_factOf_135 rfl rfl ?_
    exact zj_iret hC dX7_factOf_137
  refine zj_split (fun c11 => ?_) (fun c11 => ?_)
  · refine zj_tabIn (tgt := 141) 119 hC dX7_factOf_1 (by rw [c11]; decide) (by decide) (by decide) rfl (by decide) ?_
    refine zj_bipush (pc' := 143) (v := (9 : Int32)) hC dX7_factOf_141 rfl rfl ?_
    exact zj_iret hC dX7_factOf_143
  refine zj_split (fun c12 => ?_) (fun c12 => ?_)
  · refine zj_tabIn (tgt := 124) 122 hC dX7_factOf_1 (by rw [c12]; decide) (by decide) (by decide) rfl (by decide) ?_
    refine zj_iconst (pc' := 125) (v := (2 : Int32)) hC dX7_factOf_124 rfl rfl ?_
    exact zj_iret hC dX7_factOf_125
  refine zj_tabD (tgt := 150) [0, 1, 6, 10, 11, 13, 15, 16, 18, 19, 22, 25] 26 hC dX7_factOf_1 (by decide) (by decide) (List.forall_mem_cons.mpr ⟨lv_neT c1 (by decide), List.forall_mem_cons.mpr ⟨lv_neT c2 (by decide), List.forall_mem_cons.mpr ⟨lv_neT c3 (by decide), List.forall_mem_cons.mpr ⟨lv_neT c4 (by decide), List.forall_mem_cons.mpr ⟨lv_neT c5 (by decide), List.forall_mem_cons.mpr ⟨lv_neT c6 (by decide), List.forall_mem_cons.mpr ⟨lv_neT c7 (by decide), List.forall_mem_cons.mpr ⟨lv_neT c8 (by decide), List.forall_mem_cons.mpr ⟨lv_neT c9 (by decide), List.forall_mem_cons.mpr ⟨lv_neT c10 (by decide), List.forall_mem_cons.mpr ⟨lv_neT c11 (by decide), List.forall_mem_cons.mpr ⟨lv_neT c12 (by decide), fun _ h => absurd h List.not_mem_nil⟩⟩⟩⟩⟩⟩⟩⟩⟩⟩⟩⟩) (by decide) ?_
  refine zj_iconst (pc' := 151) (v := (-1 : Int32)) hC dX7_factOf_150 rfl rfl ?_
  exact zj_iret hC dX7_factOf_151
-- X7_sumSign
theorem ddX7_sumSign : yX7_sumSign.cls ≠ "java/lang/invoke/MethodHandle" ∧ yX7_sumSign.cls ≠ "java/lang/invoke/VarHandle" ∧ (parseMethodDescriptor yX7_sumSign.desc).map (fun d => d.parameters.length) = some 1 := by decide +kernel
abbrev rmX7_sumSign : Room := { frames := 0, cells := 0, slots := 0, locals := 0 }
def fX7_sumSign (v0 : Int32) (σ : zS) : Option (Int32 × zS) :=
  if v0 = (43 : Int32) then (some ((2 : Int32), σ)) else (if v0 = (45 : Int32) then (some ((3 : Int32), σ)) else (if v0 = (42 : Int32) then (some ((4 : Int32), σ)) else (if v0 = (47 : Int32) then (some ((5 : Int32), σ)) else (if v0 = (37 : Int32) then (some ((6 : Int32), σ)) else (some ((-1 : Int32), σ))))))
set_option maxRecDepth 100000 in
set_option maxHeartbeats 4000000 in
theorem kX7_sumSign (l : Launch) (b0 : Nat) (cA : Nat → ClassId) (D : va_G) (L : List (Nat × Nat)) (v0 : Int32) (σ : zS)  : zMi l b0 cA D L yX7_sumSign (Cond.code yX7_sumSign cX7_sumSign 1 (some Jvm.ClassFile.FieldType.int)) rmX7_sumSign [.int v0] σ (fX7_sumSign v0 σ) := by
  refine zMi_of (by decide) (Nat.le_of_ble_eq_true rfl) ?_
  intro p e s m below meth c ls hC hl
  have hl : lv_has ls 1 [(0, .int v0)] := hl
  generalize ([.int v0] : List Value).toArray = args at hC ⊢
  unfold fX7_sumSign
  refine zj_iload_n (pc' := 1) hC dX7_sumSign_0 rfl rfl (lv_at hl 0 rfl) ?_
  refine zj_bipush (pc' := 3) (v := (43 : Int32)) hC dX7_sumSign_1 rfl rfl ?_
  refine zj_icmp_ne (tgt := 10) (pc' := 6) hC dX7_sumSign_3 (by decide) rfl (fun c1 => ?_) (fun c1 => ?_)
  · refine zj_iload_n (pc' := 11) hC dX7_sumSign_10 rfl rfl (lv_at hl 0 rfl) ?_
    refine zj_bipush (pc' := 13) (v := (45 : Int32)) hC dX7_sumSign_11 rfl rfl ?_
    refine zj_icmp_ne (tgt := 20) (pc' := 16) hC dX7_sumSign_13 (by decide) rfl (fun c2 => ?_) (fun c2 => ?_)
    · refine zj_iload_n (pc' := 21) hC dX7_sumSign_20 rfl rfl (lv_at hl 0 rfl) ?_
      refine zj_bipush (pc' := 23) (v := (42 : Int32)) hC dX7_sumSign_21 rfl rfl ?_
      refine zj_icmp_ne (tgt := 30) (pc' := 26) hC dX7_sumSign_23 (by decide) rfl (fun c3 => ?_) (fun c3 => ?_)
      · refine zj_iload_n (pc' := 31) hC dX7_sumSign_30 rfl rfl (lv_at hl 0 rfl) ?_
        refine zj_bipush (pc' := 33) (v := (47 : Int32)) hC dX7_sumSign_31 rfl rfl ?_
        refine zj_icmp_ne (tgt := 40) (pc' := 36) hC dX7_sumSign_33 (by decide) rfl (fun c4 => ?_) (fun c4 => ?_)
        · refine zj_iload_n (pc' := 41) hC dX7_sumSign_40 rfl rfl (lv_at hl 0 rfl) ?_
          refine zj_bipush (pc' := 43) (v := (37 : Int32)) hC dX7_sumSign_41 rfl rfl ?_
          refine zj_icmp_ne (tgt := 51) (pc' := 46) hC dX7_sumSign_43 (by decide) rfl (fun c5 => ?_) (fun c5 => ?_)
          · refine zj_iconst (pc' := 52) (v := (-1 : Int32)) hC dX7_sumSign_51 rfl rfl ?_
            exact zj_iret hC dX7_sumSign_52
          · refine zj_bipush (pc' := 48) (v := (6 : Int32)) hC dX7_sumSign_46 rfl rfl ?_
            refine zj_goto (tgt := 52) hC dX7_sumSign_48 (by decide) ?_
            exact zj_iret hC dX7_sumSign_52
        · refine zj_iconst (pc' := 37) (v := (5 : Int32)) hC dX7_sumSign_36 rfl rfl ?_
          refine zj_goto (tgt := 52) hC dX7_sumSign_37 (by decide) ?_
          exact zj_iret hC dX7_sumSign_52
      · refine zj_iconst (pc' := 27) (v := (4 : Int32)) hC dX7_sumSign_26 rfl rfl ?_
        refine zj_goto (tgt := 52) hC dX7_sumSign_27 (by decide) ?_
        exact zj_iret hC dX7_sumSign_52
    · refine zj_iconst (pc' := 17) (v := (3 : Int32)) hC dX7_sumSign_16 rfl rfl ?_
      refine zj_goto (tgt := 52) hC dX7_sumSign_17 (by decide) ?_
      exact zj_iret hC dX7_sumSign_52
  · refine zj_iconst (pc' := 7) (v := (2 : Int32)) hC dX7_sumSign_6 rfl rfl ?_
    refine zj_goto (tgt := 52) hC dX7_sumSign_7 (by decide) ?_
    exact zj_iret hC dX7_sumSign_52
-- X7_closesSums
theorem ddX7_closesSums : yX7_closesSums.cls ≠ "java/lang/invoke/MethodHandle" ∧ yX7_closesSums.cls ≠ "java/lang/invoke/VarHandle" ∧ (parseMethodDescriptor yX7_closesSums.desc).map (fun d => d.parameters.length) = some 1 := by decide +kernel
abbrev rmX7_closesSums : Room := { frames := 1, cells := 0, slots := 0, locals := 22 }
def bX7_closesSums_37 (k0 : Nat → Int32 → zS → Option (Unit × zS)) (v0 : Nat) (v1 : Int32) (σ : zS) : Option (Unit × zS) :=
  zb (fX7_top v0 σ) (fun (r2 : Int32) (σ1 : zS) => zb (fX7_says v0 r2 (0 : Int32) σ1) (fun (_ : Unit) (σ3 : zS) => bnd (zI σ3 v0 17 ((σ3.1 v0 17) - (1 : Int32))) (fun (σ5 : zS) => k0 v0 v1 σ5)))
def bX7_closesSums_17 (k37 : Nat → Int32 → zS → Option (Unit × zS)) (v0 : Nat) (v1 : Int32) (σ : zS) : Option (Unit × zS) :=
  if v1 = 0 then (some ((), σ)) else (zb (fX7_top v0 σ) (fun (r8 : Int32) (σ7 : zS) => if r8 = (2 : Int32) then (k37 v0 v1 σ7) else (zb (fX7_top v0 σ7) (fun (r11 : Int32) (σ10 : zS) => if r11 = (3 : Int32) then (k37 v0 v1 σ10) else (some ((), σ10))))))
def bX7_closesSums_0 (k0 : Nat → Int32 → zS → Option (Unit × zS)) (v0 : Nat) (v1 : Int32) (σ : zS) : Option (Unit × zS) :=
  zb (fX7_top v0 σ) (fun (r14 : Int32) (σ13 : zS) => if r14 < (4 : Int32) then (bX7_closesSums_17 (bX7_closesSums_37 k0) v0 v1 σ13) else (zb (fX7_top v0 σ13) (fun (r17 : Int32) (σ16 : zS) => if r17 ≤ (6 : Int32) then (bX7_closesSums_37 k0 v0 v1 σ16) else (bX7_closesSums_17 (bX7_closesSums_37 k0) v0 v1 σ16))))
def fX7_closesSums_0  : Nat → Nat → Int32 → zS → Option (Unit × zS)
  | 0, _, _, _ => none
  | n + 1, v0, v1, σ => bX7_closesSums_0 (fX7_closesSums_0  n) v0 v1 σ
def fX7_closesSums (v0 : Nat) (v1 : Int32) (σ : zS) : Option (Unit × zS) :=
  fX7_closesSums_0 zFU v0 v1 σ
set_option maxRecDepth 100000 in
set_option maxHeartbeats 4000000 in
theorem jX7_closesSums_37 {p : Program} {l : Launch} {e : Env} {s : State} {m : MethodId} {args : Array Value} {below : List Frame} {meth : Method} {c : Code} {b0 : Nat} {cA : Nat → ClassId} {D : va_G} {L : List (Nat × Nat)} (hC : zC p c s m args meth cX7_closesSums 2 (none) (Cond.code yX7_closesSums cX7_closesSums 2 (none)) yX7_closesSums.cls cA D) (k0 : Nat → Int32 → zS → Option (Unit × zS)) (h0 : ∀ (v0 : Nat) (v1 : Int32) (σ : zS) (ls : Array Slot), L[v0]? = some (0, 7) → lv_has ls 2 [(0, .ref (b0 + v0)), (1, .int v1)] → zJ p l e rmX7_closesSums s m args below meth c b0 cA D L (fun z => MQ below (va_Qv (fun (u : zS) => ((), u) = z) (zB b0 cA D L) (zA b0 L)) args s 0 0 (zA b0 L)) (k0 v0 v1 σ) σ 0 ls []) (v0 : Nat) (v1 : Int32) (σ : zS) (ls : Array Slot) (hk_v0 : L[v0]? = some (0, 7)) (hl : lv_has ls 2 [(0, .ref (b0 + v0)), (1, .int v1)]) : zJ p l e rmX7_closesSums s m args below meth c b0 cA D L (fun z => MQ below (va_Qv (fun (u : zS) => ((), u) = z) (zB b0 cA D L) (zA b0 L)) args s 0 0 (zA b0 L)) (bX7_closesSums_37 k0 v0 v1 σ) σ 37 ls [] := by
  unfold bX7_closesSums_37
  refine zj_aload_n (pc' := 38) hC dX7_closesSums_37 rfl rfl (lv_at hl 0 rfl) ?_
  refine zj_aload_n (pc' := 39) hC dX7_closesSums_38 rfl rfl (lv_at hl 0 rfl) ?_
  refine zj_calliV (pc' := 42) (rest := [.ref (b0 + v0)]) hC (kX7_top l b0 cA D L v0 σ hk_v0) hk_v0 rfl tw_5_86 tw_5_83 tw_5_85 ts_4_2 tw_1_8 ddX7_top rfl ⟨rfl, rfl⟩ ⟨by decide, by decide⟩ hl.1 (Nat.le_of_ble_eq_true rfl) rfl dX7_closesSums_39 rfl (fun r2 σ1 => ?_)
  refine zj_iconst (pc' := 43) (v := (0 : Int32)) hC dX7_closesSums_42 rfl rfl ?_
  refine zj_callvV (pc' := 46) (rest := []) hC (kX7_says l b0 cA D L v0 r2 (0 : Int32) σ1 hk_v0) hk_v0 rfl tw_5_72 tw_5_69 tw_5_71 ts_4_0 tw_1_8 ddX7_says rfl ⟨rfl, rfl⟩ ⟨by decide, by decide⟩ hl.1 (Nat.le_of_ble_eq_true rfl) rfl dX7_closesSums_43 rfl (fun σ3 => ?_)
  refine zj_aload_n (pc' := 47) hC dX7_closesSums_46 rfl rfl (lv_at hl 0 rfl) ?_
  refine zj_aload_n (pc' := 48) hC dX7_closesSums_47 rfl rfl (lv_at hl 0 rfl) ?_
  refine zj_getI (pc' := 51) hC hk_v0 fd_7_17 rfl tw_4_65 dX7_closesSums_48 rfl ?_
  refine zj_iconst (pc' := 52) (v := (1 : Int32)) hC dX7_closesSums_51 rfl rfl ?_
  refine zj_isub (pc' := 53) hC dX7_closesSums_52 rfl ?_
  refine zj_putI (pc' := 56) hC hk_v0 fd_7_17 rfl tw_4_65 rfl rfl rfl dX7_closesSums_53 rfl (fun σ5 => ?_)
  refine zj_goto (tgt := 0) hC dX7_closesSums_56 (by decide) ?_
  exact h0 v0 v1 σ5 ls hk_v0 (lv_sub hl [0, 1] rfl)
set_option maxRecDepth 100000 in
set_option maxHeartbeats 4000000 in
theorem jX7_closesSums_17 {p : Program} {l : Launch} {e : Env} {s : State} {m : MethodId} {args : Array Value} {below : List Frame} {meth : Method} {c : Code} {b0 : Nat} {cA : Nat → ClassId} {D : va_G} {L : List (Nat × Nat)} (hC : zC p c s m args meth cX7_closesSums 2 (none) (Cond.code yX7_closesSums cX7_closesSums 2 (none)) yX7_closesSums.cls cA D) (k37 : Nat → Int32 → zS → Option (Unit × zS)) (h37 : ∀ (v0 : Nat) (v1 : Int32) (σ : zS) (ls : Array Slot), L[v0]? = some (0, 7) → lv_has ls 2 [(0, .ref (b0 + v0)), (1, .int v1)] → zJ p l e rmX7_closesSums s m args below meth c b0 cA D L (fun z => MQ below (va_Qv (fun (u : zS) => ((), u) = z) (zB b0 cA D L) (zA b0 L)) args s 0 0 (zA b0 L)) (k37 v0 v1 σ) σ 37 ls []) (v0 : Nat) (v1 : Int32) (σ : zS) (ls : Array Slot) (hk_v0 : L[v0]? = some (0, 7)) (hl : lv_has ls 2 [(0, .ref (b0 + v0)), (1, .int v1)]) : zJ p l e rmX7_closesSums s m args below meth c b0 cA D L (fun z => MQ below (va_Qv (fun (u : zS) => ((), u) = z) (zB b0 cA D L) (zA b0 L)) args s 0 0 (zA b0 L)) (bX7_closesSums_17 k37 v0 v1 σ) σ 17 ls [] := by
  unfold bX7_closesSums_17
  refine zj_iload_n (pc' := 18) hC dX7_closesSums_17 rfl rfl (lv_at hl 1 rfl) ?_
  refine zj_if_eq (tgt := 59) (pc' := 21) hC dX7_closesSums_18 (by decide) rfl (fun c6 => ?_) (fun c6 => ?_)
  · exact zj_vret hC dX7_closesSums_59
  · refine zj_aload_n (pc' := 22) hC dX7_closesSums_21 rfl rfl (lv_at hl 0 rfl) ?_
    refine zj_calliV (pc' := 25) (rest := []) hC (kX7_top l b0 cA D L v0 σ hk_v0) hk_v0 rfl tw_5_86 tw_5_83 tw_5_85 ts_4_2 tw_1_8 ddX7_top rfl ⟨rfl, rfl⟩ ⟨by decide, by decide⟩ hl.1 (Nat.le_of_ble_eq_true rfl) rfl dX7_closesSums_22 rfl (fun r8 σ7 => ?_)
    refine zj_iconst (pc' := 26) (v := (2 : Int32)) hC dX7_closesSums_25 rfl rfl ?_
    refine zj_icmp_eq (tgt := 37) (pc' := 29) hC dX7_closesSums_26 (by decide) rfl (fun c9 => ?_) (fun c9 => ?_)
    · exact h37 v0 v1 σ7 ls hk_v0 (lv_sub hl [0, 1] rfl)
    · refine zj_aload_n (pc' := 30) hC dX7_closesSums_29 rfl rfl (lv_at hl 0 rfl) ?_
      refine zj_calliV (pc' := 33) (rest := []) hC (kX7_top l b0 cA D L v0 σ7 hk_v0) hk_v0 rfl tw_5_86 tw_5_83 tw_5_85 ts_4_2 tw_1_8 ddX7_top rfl ⟨rfl, rfl⟩ ⟨by decide, by decide⟩ hl.1 (Nat.le_of_ble_eq_true rfl) rfl dX7_closesSums_30 rfl (fun r11 σ10 => ?_)
      refine zj_iconst (pc' := 34) (v := (3 : Int32)) hC dX7_closesSums_33 rfl rfl ?_
      refine zj_icmp_ne (tgt := 59) (pc' := 37) hC dX7_closesSums_34 (by decide) rfl (fun c12 => ?_) (fun c12 => ?_)
      · exact zj_vret hC dX7_closesSums_59
      · exact h37 v0 v1 σ10 ls hk_v0 (lv_sub hl [0, 1] rfl)
set_option maxRecDepth 100000 in
set_option maxHeartbeats 4000000 in
theorem jX7_closesSums_0 {p : Program} {l : Launch} {e : Env} {s : State} {m : MethodId} {args : Array Value} {below : List Frame} {meth : Method} {c : Code} {b0 : Nat} {cA : Nat → ClassId} {D : va_G} {L : List (Nat × Nat)} (hC : zC p c s m args meth cX7_closesSums 2 (none) (Cond.code yX7_closesSums cX7_closesSums 2 (none)) yX7_closesSums.cls cA D) (k0 : Nat → Int32 → zS → Option (Unit × zS)) (h0 : ∀ (v0 : Nat) (v1 : Int32) (σ : zS) (ls : Array Slot), L[v0]? = some (0, 7) → lv_has ls 2 [(0, .ref (b0 + v0)), (1, .int v1)] → zJ p l e rmX7_closesSums s m args below meth c b0 cA D L (fun z => MQ below (va_Qv (fun (u : zS) => ((), u) = z) (zB b0 cA D L) (zA b0 L)) args s 0 0 (zA b0 L)) (k0 v0 v1 σ) σ 0 ls []) (v0 : Nat) (v1 : Int32) (σ : zS) (ls : Array Slot) (hk_v0 : L[v0]? = some (0, 7)) (hl : lv_has ls 2 [(0, .ref (b0 + v0)), (1, .int v1)]) : zJ p l e rmX7_closesSums s m args below meth c b0 cA D L (fun z => MQ below (va_Qv (fun (u : zS) => ((), u) = z) (zB b0 cA D L) (zA b0 L)) args s 0 0 (zA b0 L)) (bX7_closesSums_0 k0 v0 v1 σ) σ 0 ls [] := by
  unfold bX7_closesSums_0
  refine zj_aload_n (pc' := 1) hC dX7_closesSums_0 rfl rfl (lv_at hl 0 rfl) ?_
  refine zj_calliV (pc' := 4) (rest := []) hC (kX7_top l b0 cA D L v0 σ hk_v0) hk_v0 rfl tw_5_86 tw_5_83 tw_5_85 ts_4_2 tw_1_8 ddX7_top rfl ⟨rfl, rfl⟩ ⟨by decide, by decide⟩ hl.1 (Nat.le_of_ble_eq_true rfl) rfl dX7_closesSums_1 rfl (fun r14 σ13 => ?_)
  refine zj_iconst (pc' := 5) (v := (4 : Int32)) hC dX7_closesSums_4 rfl rfl ?_
  refine zj_icmp_lt (tgt := 17) (pc' := 8) hC dX7_closesSums_5 (by decide) rfl (fun c15 => ?_) (fun c15 => ?_)
  · exact jX7_closesSums_17 hC (bX7_closesSums_37 k0) (jX7_closesSums_37 hC k0 h0) v0 v1 σ13 ls hk_v0 (lv_sub hl [0, 1] rfl)
  · refine zj_aload_n (pc' := 9) hC dX7_closesSums_8 rfl rfl (lv_at hl 0 rfl) ?_
    refine zj_calliV (pc' := 12) (rest := []) hC (kX7_top l b0 cA D L v0 σ13 hk_v0) hk_v0 rfl tw_5_86 tw_5_83 tw_5_85 ts_4_2 tw_1_8 ddX7_top rfl ⟨rfl, rfl⟩ ⟨by decide, by decide⟩ hl.1 (Nat.le_of_ble_eq_true rfl) rfl dX7_closesSums_9 rfl (fun r17 σ16 => ?_)
    refine zj_bipush (pc' := 14) (v := (6 : Int32)) hC dX7_closesSums_12 rfl rfl ?_
    refine zj_icmp_le (tgt := 37) (pc' := 17) hC dX7_closesSums_14 (by decide) rfl (fun c18 => ?_) (fun c18 => ?_)
    · exact jX7_closesSums_37 hC k0 h0 v0 v1 σ16 ls hk_v0 (lv_sub hl [0, 1] rfl)
    · exact jX7_closesSums_17 hC (bX7_closesSums_37 k0) (jX7_closesSums_37 hC k0 h0) v0 v1 σ16 ls hk_v0 (lv_sub hl [0, 1] rfl)
set_option maxRecDepth 100000 in
set_option maxHeartbeats 4000000 in
theorem lX7_closesSums_0 {p : Program} {l : Launch} {e : Env} {s : State} {m : MethodId} {args : Array Value} {below : List Frame} {meth : Method} {c : Code} {b0 : Nat} {cA : Nat → ClassId} {D : va_G} {L : List (Nat × Nat)} (hC : zC p c s m args meth cX7_closesSums 2 (none) (Cond.code yX7_closesSums cX7_closesSums 2 (none)) yX7_closesSums.cls cA D)  (n : Nat) : ∀ (v0 : Nat) (v1 : Int32) (σ : zS) (ls : Array Slot), L[v0]? = some (0, 7) → lv_has ls 2 [(0, .ref (b0 + v0)), (1, .int v1)] → zJ p l e rmX7_closesSums s m args below meth c b0 cA D L (fun z => MQ below (va_Qv (fun (u : zS) => ((), u) = z) (zB b0 cA D L) (zA b0 L)) args s 0 0 (zA b0 L)) (fX7_closesSums_0  n v0 v1 σ) σ 0 ls [] := by
  induction n with
  | zero => intros; exact zj_none
  | succ n ih => exact jX7_closesSums_0 hC (fX7_closesSums_0  n) ih
set_option maxRecDepth 100000 in
set_option maxHeartbeats 4000000 in
theorem kX7_closesSums (l : Launch) (b0 : Nat) (cA : Nat → ClassId) (D : va_G) (L : List (Nat × Nat)) (v0 : Nat) (v1 : Int32) (σ : zS) (hk0 : L[v0]? = some (0, 7)) : zMv l b0 cA D L yX7_closesSums (Cond.code yX7_closesSums cX7_closesSums 2 (none)) rmX7_closesSums [.ref (b0 + v0), .int v1] σ (fX7_closesSums v0 v1 σ) := by
  refine zMv_of (by decide) (Nat.le_of_ble_eq_true rfl) ?_
  intro p e s m below meth c ls hC hl
  have hl : lv_has ls 2 [(0, .ref (b0 + v0)), (1, .int v1)] := hl
  generalize ([.ref (b0 + v0), .int v1] : List Value).toArray = args at hC ⊢
  unfold fX7_closesSums
  exact lX7_closesSums_0 hC zFU v0 v1 σ ls hk0 (lv_sub hl [0, 1] rfl)
