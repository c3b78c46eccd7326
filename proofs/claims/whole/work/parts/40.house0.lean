-- X6_within
theorem ddX6_within : yX6_within.cls ≠ "java/lang/invoke/MethodHandle" ∧ yX6_within.cls ≠ "java/lang/invoke/VarHandle" ∧ (parseMethodDescriptor yX6_within.desc).map (fun d => d.parameters.length) = some 3 := by decide +kernel
abbrev rmX6_within : Room := { frames := 0, cells := 0, slots := 0, locals := 0 }
def fX6_within (v0 : Int32) (v1 : Int32) (v2 : Int32) (σ : zS) : Option (Int32 × zS) :=
  if v0 < v1 then (some ((0 : Int32), σ)) else (if v2 < v0 then (some ((0 : Int32), σ)) else (some ((1 : Int32), σ)))
set_option maxRecDepth 100000 in
set_option maxHeartbeats 4000000 in
theorem kX6_within (l : Launch) (b0 : Nat) (cA : Nat → ClassId) (D : va_G) (L : List (Nat × Nat)) (v0 : Int32) (v1 : Int32) (v2 : Int32) (σ : zS)  : zMz l b0 cA D L yX6_within (Cond.code yX6_within cX6_within 3 (some Jvm.ClassFile.FieldType.boolean)) rmX6_within [.int v0, .int v1, .int v2] σ (fX6_within v0 v1 v2 σ) := by
  refine zMz_of (by decide) (Nat.le_of_ble_eq_true rfl) ?_
  intro p e s m below meth c ls hC hl
  have hl : lv_has ls 3 [(0, .int v0), (1, .int v1), (2, .int v2)] := hl
  generalize ([.int v0, .int v1, .int v2] : List Value).toArray = args at hC ⊢
  unfold fX6_within
  refine zj_iload_n (pc' := 1) hC dX6_within_0 rfl rfl (lv_at hl 0 rfl) ?_
  refine zj_iload_n (pc' := 2) hC dX6_within_1 rfl rfl (lv_at hl 1 rfl) ?_
  refine zj_icmp_lt (tgt := 14) (pc' := 5) hC dX6_within_2 (by decide) rfl (fun c1 => ?_) (fun c1 => ?_)
  · refine zj_iconst (pc' := 15) (v := (0 : Int32)) hC dX6_within_14 rfl rfl ?_
    exact zj_zret hC nB_0 dX6_within_15
  · refine zj_iload_n (pc' := 6) hC dX6_within_5 rfl rfl (lv_at hl 0 rfl) ?_
    refine zj_iload_n (pc' := 7) hC dX6_within_6 rfl rfl (lv_at hl 2 rfl) ?_
    refine zj_icmp_gt (tgt := 14) (pc' := 10) hC dX6_within_7 (by decide) rfl (fun c2 => ?_) (fun c2 => ?_)
    · refine zj_iconst (pc' := 15) (v := (0 : Int32)) hC dX6_within_14 rfl rfl ?_
      exact zj_zret hC nB_0 dX6_within_15
    · refine zj_iconst (pc' := 11) (v := (1 : Int32)) hC dX6_within_10 rfl rfl ?_
      refine zj_goto (tgt := 15) hC dX6_within_11 (by decide) ?_
      exact zj_zret hC nB_1 dX6_within_15
-- X6_rows
theorem ddX6_rows : yX6_rows.cls ≠ "java/lang/invoke/MethodHandle" ∧ yX6_rows.cls ≠ "java/lang/invoke/VarHandle" ∧ (parseMethodDescriptor yX6_rows.desc).map (fun d => d.parameters.length) = some 1 := by decide +kernel
abbrev rmX6_rows : Room := { frames := 1, cells := 0, slots := 0, locals := 22 }
def fX6_rows (v0 : Nat) (v1 : Int32) (σ : zS) : Option (Int32 × zS) :=
  zb (fX6_within v1 (4 : Int32) (8 : Int32) σ) (fun (r2 : Int32) (σ1 : zS) => if r2 = 0 then (some ((0 : Int32), σ1)) else (bnd (σ1.2 v0 0) (fun (q4 : Nat) => bnd (σ1.2 q4 0) (fun (q5 : Nat) => if (σ1.1 q5 1) = 0 then (bnd (σ1.2 v0 0) (fun (q7 : Nat) => bnd (σ1.2 q7 0) (fun (q8 : Nat) => bnd (zI σ1 q8 0 v1) (fun (σ9 : zS) => bnd (zI σ9 v0 2 (1 : Int32)) (fun (σ10 : zS) => some ((1 : Int32), σ10)))))) else (some ((0 : Int32), σ1))))))
set_option maxRecDepth 100000 in
set_option maxHeartbeats 4000000 in
theorem kX6_rows (l : Launch) (b0 : Nat) (cA : Nat → ClassId) (D : va_G) (L : List (Nat × Nat)) (v0 : Nat) (v1 : Int32) (σ : zS) (hk0 : L[v0]? = some (0, 6)) : zMz l b0 cA D L yX6_rows (Cond.code yX6_rows cX6_rows 2 (some Jvm.ClassFile.FieldType.boolean)) rmX6_rows [.ref (b0 + v0), .int v1] σ (fX6_rows v0 v1 σ) := by
  refine zMz_of (by decide) (Nat.le_of_ble_eq_true rfl) ?_
  intro p e s m below meth c ls hC hl
  have hl : lv_has ls 2 [(0, .ref (b0 + v0)), (1, .int v1)] := hl
  generalize ([.ref (b0 + v0), .int v1] : List Value).toArray = args at hC ⊢
  unfold fX6_rows
  refine zj_iload_n (pc' := 1) hC dX6_rows_0 rfl rfl (lv_at hl 1 rfl) ?_
  refine zj_iconst (pc' := 2) (v := (4 : Int32)) hC dX6_rows_1 rfl rfl ?_
  refine zj_bipush (pc' := 4) (v := (8 : Int32)) hC dX6_rows_2 rfl rfl ?_
  refine zj_callzS (pc' := 7) (rest := []) hC (kX6_within l b0 cA D L v1 (4 : Int32) (8 : Int32) σ ) tw_2_13 tw_2_11 tw_2_12 tw_1_1 ddX6_within rfl ⟨rfl, rfl⟩ ⟨by decide, by decide⟩ hl.1 (Nat.le_of_ble_eq_true rfl) rfl dX6_rows_4 rfl (fun r2 σ1 hb_r2 => ?_)
  refine zj_if_eq (tgt := 23) (pc' := 10) hC dX6_rows_7 (by decide) rfl (fun c3 => ?_) (fun c3 => ?_)
  · refine zj_iconst (pc' := 24) (v := (0 : Int32)) hC dX6_rows_23 rfl rfl ?_
    exact zj_zret hC nB_0 dX6_rows_24
  · refine zj_aload_n (pc' := 11) hC dX6_rows_10 rfl rfl (lv_at hl 0 rfl) ?_
    refine zj_getR (pc' := 14) hC hk0 fd_6_0 rfl tw_1_195 dX6_rows_11 rfl (fun q4 hk_q4 => ?_)
    refine zj_getR (pc' := 17) hC hk_q4 fd_3_0 rfl tw_1_93 dX6_rows_14 rfl (fun q5 hk_q5 => ?_)
    refine zj_getI (pc' := 20) hC hk_q5 fd_2_1 rfl tw_1_64 dX6_rows_17 rfl ?_
    refine zj_if_eq (tgt := 25) (pc' := 23) hC dX6_rows_20 (by decide) rfl (fun c6 => ?_) (fun c6 => ?_)
    · refine zj_aload_n (pc' := 26) hC dX6_rows_25 rfl rfl (lv_at hl 0 rfl) ?_
      refine zj_getR (pc' := 29) hC hk0 fd_6_0 rfl tw_1_195 dX6_rows_26 rfl (fun q7 hk_q7 => ?_)
      refine zj_getR (pc' := 32) hC hk_q7 fd_3_0 rfl tw_1_93 dX6_rows_29 rfl (fun q8 hk_q8 => ?_)
      refine zj_iload_n (pc' := 33) hC dX6_rows_32 rfl rfl (lv_at hl 1 rfl) ?_
      refine zj_putI (pc' := 36) hC hk_q8 fd_2_0 rfl tw_1_61 rfl rfl rfl dX6_rows_33 rfl (fun σ9 => ?_)
      refine zj_aload_n (pc' := 37) hC dX6_rows_36 rfl rfl (lv_at hl 0 rfl) ?_
      refine zj_iconst (pc' := 38) (v := (1 : Int32)) hC dX6_rows_37 rfl rfl ?_
      refine zj_putI (pc' := 41) hC hk0 fd_6_2 rfl tw_1_197 rfl rfl rfl dX6_rows_38 rfl (fun σ10 => ?_)
      refine zj_iconst (pc' := 42) (v := (1 : Int32)) hC dX6_rows_41 rfl rfl ?_
      exact zj_zret hC nB_1 dX6_rows_42
    · refine zj_iconst (pc' := 24) (v := (0 : Int32)) hC dX6_rows_23 rfl rfl ?_
      exact zj_zret hC nB_0 dX6_rows_24
-- X6_isSeat
theorem ddX6_isSeat : yX6_isSeat.cls ≠ "java/lang/invoke/MethodHandle" ∧ yX6_isSeat.cls ≠ "java/lang/invoke/VarHandle" ∧ (parseMethodDescriptor yX6_isSeat.desc).map (fun d => d.parameters.length) = some 1 := by decide +kernel
abbrev rmX6_isSeat : Room := { frames := 1, cells := 0, slots := 0, locals := 22 }
def fX6_isSeat (v0 : Int32) (σ : zS) : Option (Int32 × zS) :=
  zb (fX6_within v0 (0 : Int32) (23 : Int32) σ) (fun (r2 : Int32) (σ1 : zS) => some (r2, σ1))
set_option maxRecDepth 100000 in
set_option maxHeartbeats 4000000 in
theorem kX6_isSeat (l : Launch) (b0 : Nat) (cA : Nat → ClassId) (D : va_G) (L : List (Nat × Nat)) (v0 : Int32) (σ : zS)  : zMz l b0 cA D L yX6_isSeat (Cond.code yX6_isSeat cX6_isSeat 1 (some Jvm.ClassFile.FieldType.boolean)) rmX6_isSeat [.int v0] σ (fX6_isSeat v0 σ) := by
  refine zMz_of (by decide) (Nat.le_of_ble_eq_true rfl) ?_
  intro p e s m below meth c ls hC hl
  have hl : lv_has ls 1 [(0, .int v0)] := hl
  generalize ([.int v0] : List Value).toArray = args at hC ⊢
  unfold fX6_isSeat
  refine zj_iload_n (pc' := 1) hC dX6_isSeat_0 rfl rfl (lv_at hl 0 rfl) ?_
  refine zj_iconst (pc' := 2) (v := (0 : Int32)) hC dX6_isSeat_1 rfl rfl ?_
  refine zj_bipush (pc' := 4) (v := (23 : Int32)) hC dX6_isSeat_2 rfl rfl ?_
  refine zj_callzS (pc' := 7) (rest := []) hC (kX6_within l b0 cA D L v0 (0 : Int32) (23 : Int32) σ ) tw_2_13 tw_2_11 tw_2_12 tw_1_1 ddX6_within rfl ⟨rfl, rfl⟩ ⟨by decide, by decide⟩ hl.1 (Nat.le_of_ble_eq_true rfl) rfl dX6_isSeat_4 rfl (fun r2 σ1 hb_r2 => ?_)
  exact zj_zret hC hb_r2 dX6_isSeat_7
-- X6_seat
theorem ddX6_seat : yX6_seat.cls ≠ "java/lang/invoke/MethodHandle" ∧ yX6_seat.cls ≠ "java/lang/invoke/VarHandle" ∧ (parseMethodDescriptor yX6_seat.desc).map (fun d => d.parameters.length) = some 3 := by decide +kernel
abbrev rmX6_seat : Room := { frames := 2, cells := 0, slots := 0, locals := 44 }
def bX6_seat_59  (v0 : Nat) (σ : zS) : Option (Int32 × zS) :=
  bnd (zI σ v0 2 (1 : Int32)) (fun (σ1 : zS) => some ((1 : Int32), σ1))
def fX6_seat (v0 : Nat) (v1 : Int32) (v2 : Int32) (v3 : Int32) (σ : zS) : Option (Int32 × zS) :=
  zb (fX6_isSeat v1 σ) (fun (r3 : Int32) (σ2 : zS) => if r3 = 0 then (some ((0 : Int32), σ2)) else (zb (fX6_within v2 (-1 : Int32) (3 : Int32) σ2) (fun (r6 : Int32) (σ5 : zS) => if r6 = 0 then (some ((0 : Int32), σ5)) else (zb (fX6_within v3 (0 : Int32) (1 : Int32) σ5) (fun (r9 : Int32) (σ8 : zS) => if r9 = 0 then (some ((0 : Int32), σ8)) else (if v2 = (-1 : Int32) then (bnd (σ8.2 v0 0) (fun (q16 : Nat) => bnd (σ8.2 q16 0) (fun (q17 : Nat) => zb (fX2_leave q17 v1 σ8) (fun (_ : Unit) (σ18 : zS) => bX6_seat_59 v0 σ18)))) else (bnd (σ8.2 v0 0) (fun (q12 : Nat) => bnd (σ8.2 q12 0) (fun (q13 : Nat) => zb (fX2_sit q13 v1 v2 v3 σ8) (fun (_ : Unit) (σ14 : zS) => bX6_seat_59 v0 σ14))))))))))
set_option maxRecDepth 100000 in
set_option maxHeartbeats 4000000 in
theorem jX6_seat_59 {p : Program} {l : Launch} {e : Env} {s : State} {m : MethodId} {args : Array Value} {below : List Frame} {meth : Method} {c : Code} {b0 : Nat} {cA : Nat → ClassId} {D : va_G} {L : List (Nat × Nat)} (hC : zC p c s m args meth cX6_seat 4 (some Jvm.ClassFile.FieldType.boolean) (Cond.code yX6_seat cX6_seat 4 (some Jvm.ClassFile.FieldType.boolean)) yX6_seat.cls cA D)  (v0 : Nat) (σ : zS) (ls : Array Slot) (hk_v0 : L[v0]? = some (0, 6)) (hl : lv_has ls 4 [(0, .ref (b0 + v0))]) : zJ p l e rmX6_seat s m args below meth c b0 cA D L (fun z => MQ below (va_Qi (fun (r : Int32) (u : zS) => (r, u) = z ∧ nB r) (zB b0 cA D L) (zA b0 L)) args s 0 0 (zA b0 L)) (bX6_seat_59  v0 σ) σ 59 ls [] := by
  unfold bX6_seat_59
  refine zj_aload_n (pc' := 60) hC dX6_seat_59 rfl rfl (lv_at hl 0 rfl) ?_
  refine zj_iconst (pc' := 61) (v := (1 : Int32)) hC dX6_seat_60 rfl rfl ?_
  refine zj_putI (pc' := 64) hC hk_v0 fd_6_2 rfl tw_1_197 rfl rfl rfl dX6_seat_61 rfl (fun σ1 => ?_)
  refine zj_iconst (pc' := 65) (v := (1 : Int32)) hC dX6_seat_64 rfl rfl ?_
  exact zj_zret hC nB_1 dX6_seat_65
set_option maxRecDepth 100000 in
set_option maxHeartbeats 4000000 in
theorem kX6_seat (l : Launch) (b0 : Nat) (cA : Nat → ClassId) (D : va_G) (L : List (Nat × Nat)) (v0 : Nat) (v1 : Int32) (v2 : Int32) (v3 : Int32) (σ : zS) (hk0 : L[v0]? = some (0, 6)) : zMz l b0 cA D L yX6_seat (Cond.code yX6_seat cX6_seat 4 (some Jvm.ClassFile.FieldType.boolean)) rmX6_seat [.ref (b0 + v0), .int v1, .int v2, .int v3] σ (fX6_seat v0 v1 v2 v3 σ) := by
  refine zMz_of (by decide) (Nat.le_of_ble_eq_true rfl) ?_
  intro p e s m below meth c ls hC hl
  have hl : lv_has ls 4 [(0, .ref (b0 + v0)), (1, .int v1), (2, .int v2), (3, .int v3)] := hl
  generalize ([.ref (b0 + v0), .int v1, .int v2, .int v3] : List Value).toArray = args at hC ⊢
  unfold fX6_seat
  refine zj_iload_n (pc' := 1) hC dX6_seat_0 rfl rfl (lv_at hl 1 rfl) ?_
  refine zj_callzS (pc' := 4) (rest := []) hC (kX6_isSeat l b0 cA D L v1 σ ) tw_2_20 tw_2_18 tw_2_19 tw_1_1 ddX6_isSeat rfl ⟨rfl, rfl⟩ ⟨by decide, by decide⟩ hl.1 (Nat.le_of_ble_eq_true rfl) rfl dX6_seat_1 rfl (fun r3 σ2 hb_r3 => ?_)
  refine zj_if_eq (tgt := 25) (pc' := 7) hC dX6_seat_4 (by decide) rfl (fun c4 => ?_) (fun c4 => ?_)
  · refine zj_iconst (pc' := 26) (v := (0 : Int32)) hC dX6_seat_25 rfl rfl ?_
    exact zj_zret hC nB_0 dX6_seat_26
  · refine zj_iload_n (pc' := 8) hC dX6_seat_7 rfl rfl (lv_at hl 2 rfl) ?_
    refine zj_iconst (pc' := 9) (v := (-1 : Int32)) hC dX6_seat_8 rfl rfl ?_
    refine zj_iconst (pc' := 10) (v := (3 : Int32)) hC dX6_seat_9 rfl rfl ?_
    refine zj_callzS (pc' := 13) (rest := []) hC (kX6_within l b0 cA D L v2 (-1 : Int32) (3 : Int32) σ2 ) tw_2_13 tw_2_11 tw_2_12 tw_1_1 ddX6_within rfl ⟨rfl, rfl⟩ ⟨by decide, by decide⟩ hl.1 (Nat.le_of_ble_eq_true rfl) rfl dX6_seat_10 rfl (fun r6 σ5 hb_r6 => ?_)
    refine zj_if_eq (tgt := 25) (pc' := 16) hC dX6_seat_13 (by decide) rfl (fun c7 => ?_) (fun c7 => ?_)
    · refine zj_iconst (pc' := 26) (v := (0 : Int32)) hC dX6_seat_25 rfl rfl ?_
      exact zj_zret hC nB_0 dX6_seat_26
    · refine zj_iload_n (pc' := 17) hC dX6_seat_16 rfl rfl (lv_at hl 3 rfl) ?_
      refine zj_iconst (pc' := 18) (v := (0 : Int32)) hC dX6_seat_17 rfl rfl ?_
      refine zj_iconst (pc' := 19) (v := (1 : Int32)) hC dX6_seat_18 rfl rfl ?_
      refine zj_callzS (pc' := 22) (rest := []) hC (kX6_within l b0 cA D L v3 (0 : Int32) (1 : Int32) σ5 ) tw_2_13 tw_2_11 tw_2_12 tw_1_1 ddX6_within rfl ⟨rfl, rfl⟩ ⟨by decide, by decide⟩ hl.1 (Nat.le_of_ble_eq_true rfl) rfl dX6_seat_19 rfl (fun r9 σ8 hb_r9 => ?_)
      refine zj_if_ne (tgt := 27) (pc' := 25) hC dX6_seat_22 (by decide) rfl (fun c10 => ?_) (fun c10 => ?_)
      · refine zj_iload_n (pc' := 28) hC dX6_seat_27 rfl rfl (lv_at hl 2 rfl) ?_
        refine zj_iconst (pc' := 29) (v := (-1 : Int32)) hC dX6_seat_28 rfl rfl ?_
        refine zj_icmp_ne (tgt := 46) (pc' := 32) hC dX6_seat_29 (by decide) rfl (fun c11 => ?_) (fun c11 => ?_)
        · refine zj_aload_n (pc' := 47) hC dX6_seat_46 rfl rfl (lv_at hl 0 rfl) ?_
          refine zj_getR (pc' := 50) hC hk0 fd_6_0 rfl tw_1_195 dX6_seat_47 rfl (fun q12 hk_q12 => ?_)
          refine zj_getR (pc' := 53) hC hk_q12 fd_3_0 rfl tw_1_93 dX6_seat_50 rfl (fun q13 hk_q13 => ?_)
          refine zj_iload_n (pc' := 54) hC dX6_seat_53 rfl rfl (lv_at hl 1 rfl) ?_
          refine zj_iload_n (pc' := 55) hC dX6_seat_54 rfl rfl (lv_at hl 2 rfl) ?_
          refine zj_iload_n (pc' := 56) hC dX6_seat_55 rfl rfl (lv_at hl 3 rfl) ?_
          refine zj_callvV (pc' := 59) (rest := []) hC (kX2_sit l b0 cA D L q13 v1 v2 v3 σ8 hk_q13) hk_q13 rfl tw_2_32 tw_2_29 tw_2_30 tw_2_31 tw_1_4 ddX2_sit rfl ⟨rfl, rfl⟩ ⟨by decide, by decide⟩ hl.1 (Nat.le_of_ble_eq_true rfl) rfl dX6_seat_56 rfl (fun σ14 => ?_)
          exact jX6_seat_59 hC v0 σ14 ls hk0 (lv_sub hl [0] rfl)
        · refine zj_aload_n (pc' := 33) hC dX6_seat_32 rfl rfl (lv_at hl 0 rfl) ?_
          refine zj_getR (pc' := 36) hC hk0 fd_6_0 rfl tw_1_195 dX6_seat_33 rfl (fun q16 hk_q16 => ?_)
          refine zj_getR (pc' := 39) hC hk_q16 fd_3_0 rfl tw_1_93 dX6_seat_36 rfl (fun q17 hk_q17 => ?_)
          refine zj_iload_n (pc' := 40) hC dX6_seat_39 rfl rfl (lv_at hl 1 rfl) ?_
          refine zj_callvV (pc' := 43) (rest := []) hC (kX2_leave l b0 cA D L q17 v1 σ8 hk_q17) hk_q17 rfl tw_2_24 tw_2_21 tw_2_22 tw_2_23 tw_1_4 ddX2_leave rfl ⟨rfl, rfl⟩ ⟨by decide, by decide⟩ hl.1 (Nat.le_of_ble_eq_true rfl) rfl dX6_seat_40 rfl (fun σ18 => ?_)
          refine zj_goto (tgt := 59) hC dX6_seat_43 (by decide) ?_
          exact jX6_seat_59 hC v0 σ18 ls hk0 (lv_sub hl [0] rfl)
      · refine zj_iconst (pc' := 26) (v := (0 : Int32)) hC dX6_seat_25 rfl rfl ?_
        exact zj_zret hC nB_0 dX6_seat_26
-- X6_paid
theorem ddX6_paid : yX6_paid.cls ≠ "java/lang/invoke/MethodHandle" ∧ yX6_paid.cls ≠ "java/lang/invoke/VarHandle" ∧ (parseMethodDescriptor yX6_paid.desc).map (fun d => d.parameters.length) = some 2 := by decide +kernel
abbrev rmX6_paid : Room := { frames := 2, cells := 0, slots := 0, locals := 42 }
def fX6_paid (v0 : Nat) (v1 : Int32) (v2 : Int32) (σ : zS) : Option (Int32 × zS) :=
  zb (fX6_isSeat v1 σ) (fun (r2 : Int32) (σ1 : zS) => if r2 = 0 then (some ((0 : Int32), σ1)) else (bnd (σ1.2 v0 0) (fun (q4 : Nat) => bnd (σ1.2 q4 0) (fun (q5 : Nat) => zb (fX2_has q5 v1 σ1) (fun (r7 : Int32) (σ6 : zS) => if r7 = 0 then (some ((0 : Int32), σ6)) else (zb (fX6_within v2 (0 : Int32) (2 : Int32) σ6) (fun (r10 : Int32) (σ9 : zS) => if r10 = 0 then (some ((0 : Int32), σ9)) else (bnd (σ9.2 v0 0) (fun (q12 : Nat) => bnd (σ9.2 q12 0) (fun (q13 : Nat) => zb (fX2_hire q13 v1 v2 σ9) (fun (_ : Unit) (σ14 : zS) => bnd (zI σ14 v0 2 (1 : Int32)) (fun (σ16 : zS) => some ((1 : Int32), σ16)))))))))))))
set_option maxRecDepth 100000 in
set_option maxHeartbeats 4000000 in
theorem kX6_paid (l : Launch) (b0 : Nat) (cA : Nat → ClassId) (D : va_G) (L : List (Nat × Nat)) (v0 : Nat) (v1 : Int32) (v2 : Int32) (σ : zS) (hk0 : L[v0]? = some (0, 6)) : zMz l b0 cA D L yX6_paid (Cond.code yX6_paid cX6_paid 3 (some Jvm.ClassFile.FieldType.boolean)) rmX6_paid [.ref (b0 + v0), .int v1, .int v2] σ (fX6_paid v0 v1 v2 σ) := by
  refine zMz_of (by decide) (Nat.le_of_ble_eq_true rfl) ?_
  intro p e s m below meth c ls hC hl
  have hl : lv_has ls 3 [(0, .ref (b0 + v0)), (1, .int v1), (2, .int v2)] := hl
  generalize ([.ref (b0 + v0), .int v1, .int v2] : List Value).toArray = args at hC ⊢
  unfold fX6_paid
  refine zj_iload_n (pc' := 1) hC dX6_paid_0 rfl rfl (lv_at hl 1 rfl) ?_
  refine zj_callzS (pc' := 4) (rest := []) hC (kX6_isSeat l b0 cA D L v1 σ ) tw_2_20 tw_2_18 tw_2_19 tw_1_1 ddX6_isSeat rfl ⟨rfl, rfl⟩ ⟨by decide, by decide⟩ hl.1 (Nat.le_of_ble_eq_true rfl) rfl dX6_paid_1 rfl (fun r2 σ1 hb_r2 => ?_)
  refine zj_if_eq (tgt := 30) (pc' := 7) hC dX6_paid_4 (by decide) rfl (fun c3 => ?_) (fun c3 => ?_)
  · refine zj_iconst (pc' := 31) (v := (0 : Int32)) hC dX6_paid_30 rfl rfl ?_
    exact zj_zret hC nB_0 dX6_paid_31
  · refine zj_aload_n (pc' := 8) hC dX6_paid_7 rfl rfl (lv_at hl 0 rfl) ?_
    refine zj_getR (pc' := 11) hC hk0 fd_6_0 rfl tw_1_195 dX6_paid_8 rfl (fun q4 hk_q4 => ?_)
    refine zj_getR (pc' := 14) hC hk_q4 fd_3_0 rfl tw_1_93 dX6_paid_11 rfl (fun q5 hk_q5 => ?_)
    refine zj_iload_n (pc' := 15) hC dX6_paid_14 rfl rfl (lv_at hl 1 rfl) ?_
    refine zj_callzV (pc' := 18) (rest := []) hC (kX2_has l b0 cA D L q5 v1 σ1 hk_q5) hk_q5 rfl tw_2_40 tw_2_37 tw_2_38 tw_2_39 tw_1_4 ddX2_has rfl ⟨rfl, rfl⟩ ⟨by decide, by decide⟩ hl.1 (Nat.le_of_ble_eq_true rfl) rfl dX6_paid_15 rfl (fun r7 σ6 hb_r7 => ?_)
    refine zj_if_eq (tgt := 30) (pc' := 21) hC dX6_paid_18 (by decide) rfl (fun c8 => ?_) (fun c8 => ?_)
    · refine zj_iconst (pc' := 31) (v := (0 : Int32)) hC dX6_paid_30 rfl rfl ?_
      exact zj_zret hC nB_0 dX6_paid_31
    · refine zj_iload_n (pc' := 22) hC dX6_paid_21 rfl rfl (lv_at hl 2 rfl) ?_
      refine zj_iconst (pc' := 23) (v := (0 : Int32)) hC dX6_paid_22 rfl rfl ?_
      refine zj_iconst (pc' := 24) (v := (2 : Int32)) hC dX6_paid_23 rfl rfl ?_
      refine zj_callzS (pc' := 27) (rest := []) hC (kX6_within l b0 cA D L v2 (0 : Int32) (2 : Int32) σ6 ) tw_2_13 tw_2_11 tw_2_12 tw_1_1 ddX6_within rfl ⟨rfl, rfl⟩ ⟨by decide, by decide⟩ hl.1 (Nat.le_of_ble_eq_true rfl) rfl dX6_paid_24 rfl (fun r10 σ9 hb_r10 => ?_)
      refine zj_if_ne (tgt := 32) (pc' := 30) hC dX6_paid_27 (by decide) rfl (fun c11 => ?_) (fun c11 => ?_)
      · refine zj_aload_n (pc' := 33) hC dX6_paid_32 rfl rfl (lv_at hl 0 rfl) ?_
        refine zj_getR (pc' := 36) hC hk0 fd_6_0 rfl tw_1_195 dX6_paid_33 rfl (fun q12 hk_q12 => ?_)
        refine zj_getR (pc' := 39) hC hk_q12 fd_3_0 rfl tw_1_93 dX6_paid_36 rfl (fun q13 hk_q13 => ?_)
        refine zj_iload_n (pc' := 40) hC dX6_paid_39 rfl rfl (lv_at hl 1 rfl) ?_
        refine zj_iload_n (pc' := 41) hC dX6_paid_40 rfl rfl (lv_at hl 2 rfl) ?_
        refine zj_callvV (pc' := 44) (rest := []) hC (kX2_hire l b0 cA D L q13 v1 v2 σ9 hk_q13) hk_q13 rfl tw_2_28 tw_2_41 tw_2_26 tw_2_27 tw_1_4 ddX2_hire rfl ⟨rfl, rfl⟩ ⟨by decide, by decide⟩ hl.1 (Nat.le_of_ble_eq_true rfl) rfl dX6_paid_41 rfl (fun σ14 => ?_)
        refine zj_aload_n (pc' := 45) hC dX6_paid_44 rfl rfl (lv_at hl 0 rfl) ?_
        refine zj_iconst (pc' := 46) (v := (1 : Int32)) hC dX6_paid_45 rfl rfl ?_
        refine zj_putI (pc' := 49) hC hk0 fd_6_2 rfl tw_1_197 rfl rfl rfl dX6_paid_46 rfl (fun σ16 => ?_)
        refine zj_iconst (pc' := 50) (v := (1 : Int32)) hC dX6_paid_49 rfl rfl ?_
        exact zj_zret hC nB_1 dX6_paid_50
      · refine zj_iconst (pc' := 31) (v := (0 : Int32)) hC dX6_paid_30 rfl rfl ?_
        exact zj_zret hC nB_0 dX6_paid_31
-- X6_seconds
theorem ddX6_seconds : yX6_seconds.cls ≠ "java/lang/invoke/MethodHandle" ∧ yX6_seconds.cls ≠ "java/lang/invoke/VarHandle" ∧ (parseMethodDescriptor yX6_seconds.desc).map (fun d => d.parameters.length) = some 1 := by decide +kernel
abbrev rmX6_seconds : Room := { frames := 1, cells := 0, slots := 0, locals := 22 }
def fX6_seconds (v0 : Nat) (v1 : Int32) (σ : zS) : Option (Int32 × zS) :=
  zb (fX6_within v1 (1 : Int32) (40 : Int32) σ) (fun (r2 : Int32) (σ1 : zS) => if r2 = 0 then (some ((0 : Int32), σ1)) else (bnd (σ1.2 v0 0) (fun (q4 : Nat) => bnd (σ1.2 q4 1) (fun (q5 : Nat) => bnd (zI σ1 q5 0 v1) (fun (σ6 : zS) => bnd (zI σ6 v0 2 (1 : Int32)) (fun (σ7 : zS) => some ((1 : Int32), σ7)))))))
set_option maxRecDepth 100000 in
set_option maxHeartbeats 4000000 in
theorem kX6_seconds (l : Launch) (b0 : Nat) (cA : Nat → ClassId) (D : va_G) (L : List (Nat × Nat)) (v0 : Nat) (v1 : Int32) (σ : zS) (hk0 : L[v0]? = some (0, 6)) : zMz l b0 cA D L yX6_seconds (Cond.code yX6_seconds cX6_seconds 2 (some Jvm.ClassFile.FieldType.boolean)) rmX6_seconds [.ref (b0 + v0), .int v1] σ (fX6_seconds v0 v1 σ) := by
  refine zMz_of (by decide) (Nat.le_of_ble_eq_true rfl) ?_
  intro p e s m below meth c ls hC hl
  have hl : lv_has ls 2 [(0, .ref (b0 + v0)), (1, .int v1)] := hl
  generalize ([.ref (b0 + v0), .int v1] : List Value).toArray = args at hC ⊢
  unfold fX6_seconds
  refine zj_iload_n (pc' := 1) hC dX6_seconds_0 rfl rfl (lv_at hl 1 rfl) ?_
  refine zj_iconst (pc' := 2) (v := (1 : Int32)) hC dX6_seconds_1 rfl rfl ?_
  refine zj_bipush (pc' := 4) (v := (40 : Int32)) hC dX6_seconds_2 rfl rfl ?_
  refine zj_callzS (pc' := 7) (rest := []) hC (kX6_within l b0 cA D L v1 (1 : Int32) (40 : Int32) σ ) tw_2_13 tw_2_11 tw_2_12 tw_1_1 ddX6_within rfl ⟨rfl, rfl⟩ ⟨by decide, by decide⟩ hl.1 (Nat.le_of_ble_eq_true rfl) rfl dX6_seconds_4 rfl (fun r2 σ1 hb_r2 => ?_)
  refine zj_if_ne (tgt := 12) (pc' := 10) hC dX6_seconds_7 (by decide) rfl (fun c3 => ?_) (fun c3 => ?_)
  · refine zj_aload_n (pc' := 13) hC dX6_seconds_12 rfl rfl (lv_at hl 0 rfl) ?_
    refine zj_getR (pc' := 16) hC hk0 fd_6_0 rfl tw_1_195 dX6_seconds_13 rfl (fun q4 hk_q4 => ?_)
    refine zj_getR (pc' := 19) hC hk_q4 fd_3_1 rfl tw_1_95 dX6_seconds_16 rfl (fun q5 hk_q5 => ?_)
    refine zj_iload_n (pc' := 20) hC dX6_seconds_19 rfl rfl (lv_at hl 1 rfl) ?_
    refine zj_putI (pc' := 23) hC hk_q5 fd_1_0 rfl tw_1_35 rfl rfl rfl dX6_seconds_20 rfl (fun σ6 => ?_)
    refine zj_aload_n (pc' := 24) hC dX6_seconds_23 rfl rfl (lv_at hl 0 rfl) ?_
    refine zj_iconst (pc' := 25) (v := (1 : Int32)) hC dX6_seconds_24 rfl rfl ?_
    refine zj_putI (pc' := 28) hC hk0 fd_6_2 rfl tw_1_197 rfl rfl rfl dX6_seconds_25 rfl (fun σ7 => ?_)
    refine zj_iconst (pc' := 29) (v := (1 : Int32)) hC dX6_seconds_28 rfl rfl ?_
    exact zj_zret hC nB_1 dX6_seconds_29
  · refine zj_iconst (pc' := 11) (v := (0 : Int32)) hC dX6_seconds_10 rfl rfl ?_
    exact zj_zret hC nB_0 dX6_seconds_11
-- X6_good
theorem ddX6_good : yX6_good.cls ≠ "java/lang/invoke/MethodHandle" ∧ yX6_good.cls ≠ "java/lang/invoke/VarHandle" ∧ (parseMethodDescriptor yX6_good.desc).map (fun d => d.parameters.length) = some 3 := by decide +kernel
abbrev rmX6_good : Room := { frames := 1, cells := 0, slots := 0, locals := 22 }
def fX6_good (v0 : Nat) (v1 : Int32) (v2 : Int32) (v3 : Int32) (σ : zS) : Option (Int32 × zS) :=
  zb (fX6_within v1 (0 : Int32) (39 : Int32) σ) (fun (r2 : Int32) (σ1 : zS) => if r2 = 0 then (some ((0 : Int32), σ1)) else (zb (fX6_within v2 (0 : Int32) (100 : Int32) σ1) (fun (r5 : Int32) (σ4 : zS) => if r5 = 0 then (some ((0 : Int32), σ4)) else (zb (fX6_within v3 (0 : Int32) (100 : Int32) σ4) (fun (r8 : Int32) (σ7 : zS) => if r8 = 0 then (some ((0 : Int32), σ7)) else (bnd (σ7.2 v0 0) (fun (q10 : Nat) => bnd (σ7.2 q10 1) (fun (q11 : Nat) => bnd (σ7.2 q11 1) (fun (q12 : Nat) => zX v1 40 (bnd (zI σ7 q12 (v1).toNatClampNeg v2) (fun (σ14 : zS) => bnd (σ14.2 v0 0) (fun (q15 : Nat) => bnd (σ14.2 q15 1) (fun (q16 : Nat) => bnd (σ14.2 q16 2) (fun (q17 : Nat) => zX v1 40 (bnd (zI σ14 q17 (v1).toNatClampNeg v3) (fun (σ19 : zS) => bnd (zI σ19 v0 2 (1 : Int32)) (fun (σ20 : zS) => some ((1 : Int32), σ20))))))))))))))))))
set_option maxRecDepth 100000 in
set_option maxHeartbeats 4000000 in
theorem kX6_good (l : Launch) (b0 : Nat) (cA : Nat → ClassId) (D : va_G) (L : List (Nat × Nat)) (v0 : Nat) (v1 : Int32) (v2 : Int32) (v3 : Int32) (σ : zS) (hk0 : L[v0]? = some (0, 6)) : zMz l b0 cA D L yX6_good (Cond.code yX6_good cX6_good 4 (some Jvm.ClassFile.FieldType.boolean)) rmX6_good [.ref (b0 + v0), .int v1, .int v2, .int v3] σ (fX6_good v0 v1 v2 v3 σ) := by
  refine zMz_of (by decide) (Nat.le_of_ble_eq_true rfl) ?_
  intro p e s m below meth c ls hC hl
  have hl : lv_has ls 4 [(0, .ref (b0 + v0)), (1, .int v1), (2, .int v2), (3, .int v3)] := hl
  generalize ([.ref (b0 + v0), .int v1, .int v2, .int v3] : List Value).toArray = args at hC ⊢
  unfold fX6_good
  refine zj_iload_n (pc' := 1) hC dX6_good_0 rfl rfl (lv_at hl 1 rfl) ?_
  refine zj_iconst (pc' := 2) (v := (0 : Int32)) hC dX6_good_1 rfl rfl ?_
  refine zj_bipush (pc' := 4) (v := (39 : Int32)) hC dX6_good_2 rfl rfl ?_
  refine zj_callzS (pc' := 7) (rest := []) hC (kX6_within l b0 cA D L v1 (0 : Int32) (39 : Int32) σ ) tw_2_13 tw_2_11 tw_2_12 tw_1_1 ddX6_within rfl ⟨rfl, rfl⟩ ⟨by decide, by decide⟩ hl.1 (Nat.le_of_ble_eq_true rfl) rfl dX6_good_4 rfl (fun r2 σ1 hb_r2 => ?_)
  refine zj_if_eq (tgt := 30) (pc' := 10) hC dX6_good_7 (by decide) rfl (fun c3 => ?_) (fun c3 => ?_)
  · refine zj_iconst (pc' := 31) (v := (0 : Int32)) hC dX6_good_30 rfl rfl ?_
    exact zj_zret hC nB_0 dX6_good_31
  · refine zj_iload_n (pc' := 11) hC dX6_good_10 rfl rfl (lv_at hl 2 rfl) ?_
    refine zj_iconst (pc' := 12) (v := (0 : Int32)) hC dX6_good_11 rfl rfl ?_
    refine zj_bipush (pc' := 14) (v := (100 : Int32)) hC dX6_good_12 rfl rfl ?_
    refine zj_callzS (pc' := 17) (rest := []) hC (kX6_within l b0 cA D L v2 (0 : Int32) (100 : Int32) σ1 ) tw_2_13 tw_2_11 tw_2_12 tw_1_1 ddX6_within rfl ⟨rfl, rfl⟩ ⟨by decide, by decide⟩ hl.1 (Nat.le_of_ble_eq_true rfl) rfl dX6_good_14 rfl (fun r5 σ4 hb_r5 => ?_)
    refine zj_if_eq (tgt := 30) (pc' := 20) hC dX6_good_17 (by decide) rfl (fun c6 => ?_) (fun c6 => ?_)
    · refine zj_iconst (pc' := 31) (v := (0 : Int32)) hC dX6_good_30 rfl rfl ?_
      exact zj_zret hC nB_0 dX6_good_31
    · refine zj_iload_n (pc' := 21) hC dX6_good_20 rfl rfl (lv_at hl 3 rfl) ?_
      refine zj_iconst (pc' := 22) (v := (0 : Int32)) hC dX6_good_21 rfl rfl ?_
      refine zj_bipush (pc' := 24) (v := (100 : Int32)) hC dX6_good_22 rfl rfl ?_
      refine zj_callzS (pc' := 27) (rest := []) hC (kX6_within l b0 cA D L v3 (0 : Int32) (100 : Int32) σ4 ) tw_2_13 tw_2_11 tw_2_12 tw_1_1 ddX6_within rfl ⟨rfl, rfl⟩ ⟨by decide, by decide⟩ hl.1 (Nat.le_of_ble_eq_true rfl) rfl dX6_good_24 rfl (fun r8 σ7 hb_r8 => ?_)
      refine zj_if_ne (tgt := 32) (pc' := 30) hC dX6_good_27 (by decide) rfl (fun c9 => ?_) (fun c9 => ?_)
      · refine zj_aload_n (pc' := 33) hC dX6_good_32 rfl rfl (lv_at hl 0 rfl) ?_
        refine zj_getR (pc' := 36) hC hk0 fd_6_0 rfl tw_1_195 dX6_good_33 rfl (fun q10 hk_q10 => ?_)
        refine zj_getR (pc' := 39) hC hk_q10 fd_3_1 rfl tw_1_95 dX6_good_36 rfl (fun q11 hk_q11 => ?_)
        refine zj_getR (pc' := 42) hC hk_q11 fd_1_1 rfl tw_1_38 dX6_good_39 rfl (fun q12 hk_q12 => ?_)
        refine zj_iload_n (pc' := 43) hC dX6_good_42 rfl rfl (lv_at hl 1 rfl) ?_
        refine zj_iload_n (pc' := 44) hC dX6_good_43 rfl rfl (lv_at hl 2 rfl) ?_
        refine zj_iast (pc' := 45) hC hk_q12 dX6_good_44 rfl (fun g13 σ14 => ?_)
        refine zj_aload_n (pc' := 46) hC dX6_good_45 rfl rfl (lv_at hl 0 rfl) ?_
        refine zj_getR (pc' := 49) hC hk0 fd_6_0 rfl tw_1_195 dX6_good_46 rfl (fun q15 hk_q15 => ?_)
        refine zj_getR (pc' := 52) hC hk_q15 fd_3_1 rfl tw_1_95 dX6_good_49 rfl (fun q16 hk_q16 => ?_)
        refine zj_getR (pc' := 55) hC hk_q16 fd_1_2 rfl tw_1_41 dX6_good_52 rfl (fun q17 hk_q17 => ?_)
        refine zj_iload_n (pc' := 56) hC dX6_good_55 rfl rfl (lv_at hl 1 rfl) ?_
        refine zj_iload_n (pc' := 57) hC dX6_good_56 rfl rfl (lv_at hl 3 rfl) ?_
        refine zj_iast (pc' := 58) hC hk_q17 dX6_good_57 rfl (fun g18 σ19 => ?_)
        refine zj_aload_n (pc' := 59) hC dX6_good_58 rfl rfl (lv_at hl 0 rfl) ?_
        refine zj_iconst (pc' := 60) (v := (1 : Int32)) hC dX6_good_59 rfl rfl ?_
        refine zj_putI (pc' := 63) hC hk0 fd_6_2 rfl tw_1_197 rfl rfl rfl dX6_good_60 rfl (fun σ20 => ?_)
        refine zj_iconst (pc' := 64) (v := (1 : Int32)) hC dX6_good_63 rfl rfl ?_
        exact zj_zret hC nB_1 dX6_good_64
      · refine zj_iconst (pc' := 31) (v := (0 : Int32)) hC dX6_good_30 rfl rfl ?_
        exact zj_zret hC nB_0 dX6_good_31
-- X6_isStick
theorem ddX6_isStick : yX6_isStick.cls ≠ "java/lang/invoke/MethodHandle" ∧ yX6_isStick.cls ≠ "java/lang/invoke/VarHandle" ∧ (parseMethodDescriptor yX6_isStick.desc).map (fun d => d.parameters.length) = some 1 := by decide +kernel
abbrev rmX6_isStick : Room := { frames := 1, cells := 0, slots := 0, locals := 22 }
def fX6_isStick (v0 : Int32) (σ : zS) : Option (Int32 × zS) :=
  zb (fX6_within v0 (1 : Int32) (2 : Int32) σ) (fun (r2 : Int32) (σ1 : zS) => some (r2, σ1))
set_option maxRecDepth 100000 in
set_option maxHeartbeats 4000000 in
theorem kX6_isStick (l : Launch) (b0 : Nat) (cA : Nat → ClassId) (D : va_G) (L : List (Nat × Nat)) (v0 : Int32) (σ : zS)  : zMz l b0 cA D L yX6_isStick (Cond.code yX6_isStick cX6_isStick 1 (some Jvm.ClassFile.FieldType.boolean)) rmX6_isStick [.int v0] σ (fX6_isStick v0 σ) := by
  refine zMz_of (by decide) (Nat.le_of_ble_eq_true rfl) ?_
  intro p e s m below meth c ls hC hl
  have hl : lv_has ls 1 [(0, .int v0)] := hl
  generalize ([.int v0] : List Value).toArray = args at hC ⊢
  unfold fX6_isStick
  refine zj_iload_n (pc' := 1) hC dX6_isStick_0 rfl rfl (lv_at hl 0 rfl) ?_
  refine zj_iconst (pc' := 2) (v := (1 : Int32)) hC dX6_isStick_1 rfl rfl ?_
  refine zj_iconst (pc' := 3) (v := (2 : Int32)) hC dX6_isStick_2 rfl rfl ?_
  refine zj_callzS (pc' := 6) (rest := []) hC (kX6_within l b0 cA D L v0 (1 : Int32) (2 : Int32) σ ) tw_2_13 tw_2_11 tw_2_12 tw_1_1 ddX6_within rfl ⟨rfl, rfl⟩ ⟨by decide, by decide⟩ hl.1 (Nat.le_of_ble_eq_true rfl) rfl dX6_isStick_3 rfl (fun r2 σ1 hb_r2 => ?_)
  exact zj_zret hC hb_r2 dX6_isStick_6
-- X6_planOf
theorem ddX6_planOf : yX6_planOf.cls ≠ "java/lang/invoke/MethodHandle" ∧ yX6_planOf.cls ≠ "java/lang/invoke/VarHandle" ∧ (parseMethodDescriptor yX6_planOf.desc).map (fun d => d.parameters.length) = some 1 := by decide +kernel
abbrev rmX6_planOf : Room := { frames := 0, cells := 0, slots := 0, locals := 0 }
def fX6_planOf (v0 : Nat) (v1 : Int32) (σ : zS) : Option (Nat × zS) :=
  if v1 = (1 : Int32) then (bnd (σ.2 v0 11) (fun (q3 : Nat) => some (q3, σ))) else (bnd (σ.2 v0 12) (fun (q2 : Nat) => some (q2, σ)))
set_option maxRecDepth 100000 in
set_option maxHeartbeats 4000000 in
theorem kX6_planOf (l : Launch) (b0 : Nat) (cA : Nat → ClassId) (D : va_G) (L : List (Nat × Nat)) (v0 : Nat) (v1 : Int32) (σ : zS) (hk0 : L[v0]? = some (0, 6)) : zMr l b0 cA D L (1, 40) yX6_planOf (Cond.code yX6_planOf cX6_planOf 2 (some (Jvm.ClassFile.FieldType.array Jvm.ClassFile.FieldType.int))) rmX6_planOf [.ref (b0 + v0), .int v1] σ (fX6_planOf v0 v1 σ) := by
  refine zMr_of (by decide) (Nat.le_of_ble_eq_true rfl) ?_
  intro p e s m below meth c ls hC hl
  have hl : lv_has ls 2 [(0, .ref (b0 + v0)), (1, .int v1)] := hl
  generalize ([.ref (b0 + v0), .int v1] : List Value).toArray = args at hC ⊢
  unfold fX6_planOf
  refine zj_iload_n (pc' := 1) hC dX6_planOf_0 rfl rfl (lv_at hl 1 rfl) ?_
  refine zj_iconst (pc' := 2) (v := (1 : Int32)) hC dX6_planOf_1 rfl rfl ?_
  refine zj_icmp_ne (tgt := 12) (pc' := 5) hC dX6_planOf_2 (by decide) rfl (fun c1 => ?_) (fun c1 => ?_)
  · refine zj_aload_n (pc' := 13) hC dX6_planOf_12 rfl rfl (lv_at hl 0 rfl) ?_
    refine zj_getR (pc' := 16) hC hk0 fd_6_12 rfl tw_1_207 dX6_planOf_13 rfl (fun q2 hk_q2 => ?_)
    exact zj_aret (Or.inr ⟨_, rfl⟩) hC hk_q2 dX6_planOf_16
  · refine zj_aload_n (pc' := 6) hC dX6_planOf_5 rfl rfl (lv_at hl 0 rfl) ?_
    refine zj_getR (pc' := 9) hC hk0 fd_6_11 rfl tw_1_206 dX6_planOf_6 rfl (fun q3 hk_q3 => ?_)
    refine zj_goto (tgt := 16) hC dX6_planOf_9 (by decide) ?_
    exact zj_aret (Or.inr ⟨_, rfl⟩) hC hk_q3 dX6_planOf_16
-- X6_plan
theorem ddX6_plan : yX6_plan.cls ≠ "java/lang/invoke/MethodHandle" ∧ yX6_plan.cls ≠ "java/lang/invoke/VarHandle" ∧ (parseMethodDescriptor yX6_plan.desc).map (fun d => d.parameters.length) = some 3 := by decide +kernel
abbrev rmX6_plan : Room := { frames := 2, cells := 0, slots := 0, locals := 42 }
def fX6_plan (v0 : Nat) (v1 : Int32) (v2 : Int32) (v3 : Int32) (σ : zS) : Option (Int32 × zS) :=
  zb (fX6_isStick v1 σ) (fun (r2 : Int32) (σ1 : zS) => if r2 = 0 then (some ((0 : Int32), σ1)) else (zb (fX6_within v2 (0 : Int32) (39 : Int32) σ1) (fun (r5 : Int32) (σ4 : zS) => if r5 = 0 then (some ((0 : Int32), σ4)) else (zb (fX6_within v3 (0 : Int32) (2 : Int32) σ4) (fun (r8 : Int32) (σ7 : zS) => if r8 = 0 then (some ((0 : Int32), σ7)) else (zb (fX6_planOf v0 v1 σ7) (fun (r11 : Nat) (σ10 : zS) => zX v2 40 (bnd (zI σ10 r11 (v2).toNatClampNeg v3) (fun (σ13 : zS) => bnd (zI σ13 v0 2 (1 : Int32)) (fun (σ14 : zS) => some ((1 : Int32), σ14)))))))))))
set_option maxRecDepth 100000 in
set_option maxHeartbeats 4000000 in
theorem kX6_plan (l : Launch) (b0 : Nat) (cA : Nat → ClassId) (D : va_G) (L : List (Nat × Nat)) (v0 : Nat) (v1 : Int32) (v2 : Int32) (v3 : Int32) (σ : zS) (hk0 : L[v0]? = some (0, 6)) : zMz l b0 cA D L yX6_plan (Cond.code yX6_plan cX6_plan 4 (some Jvm.ClassFile.FieldType.boolean)) rmX6_plan [.ref (b0 + v0), .int v1, .int v2, .int v3] σ (fX6_plan v0 v1 v2 v3 σ) := by
  refine zMz_of (by decide) (Nat.le_of_ble_eq_true rfl) ?_
  intro p e s m below meth c ls hC hl
  have hl : lv_has ls 4 [(0, .ref (b0 + v0)), (1, .int v1), (2, .int v2), (3, .int v3)] := hl
  generalize ([.ref (b0 + v0), .int v1, .int v2, .int v3] : List Value).toArray = args at hC ⊢
  unfold fX6_plan
  refine zj_iload_n (pc' := 1) hC dX6_plan_0 rfl rfl (lv_at hl 1 rfl) ?_
  refine zj_callzS (pc' := 4) (rest := []) hC (kX6_isStick l b0 cA D L v1 σ ) tw_2_56 tw_2_54 tw_2_55 tw_1_1 ddX6_isStick rfl ⟨rfl, rfl⟩ ⟨by decide, by decide⟩ hl.1 (Nat.le_of_ble_eq_true rfl) rfl dX6_plan_1 rfl (fun r2 σ1 hb_r2 => ?_)
  refine zj_if_eq (tgt := 26) (pc' := 7) hC dX6_plan_4 (by decide) rfl (fun c3 => ?_) (fun c3 => ?_)
  · refine zj_iconst (pc' := 27) (v := (0 : Int32)) hC dX6_plan_26 rfl rfl ?_
    exact zj_zret hC nB_0 dX6_plan_27
  · refine zj_iload_n (pc' := 8) hC dX6_plan_7 rfl rfl (lv_at hl 2 rfl) ?_
    refine zj_iconst (pc' := 9) (v := (0 : Int32)) hC dX6_plan_8 rfl rfl ?_
    refine zj_bipush (pc' := 11) (v := (39 : Int32)) hC dX6_plan_9 rfl rfl ?_
    refine zj_callzS (pc' := 14) (rest := []) hC (kX6_within l b0 cA D L v2 (0 : Int32) (39 : Int32) σ1 ) tw_2_13 tw_2_11 tw_2_12 tw_1_1 ddX6_within rfl ⟨rfl, rfl⟩ ⟨by decide, by decide⟩ hl.1 (Nat.le_of_ble_eq_true rfl) rfl dX6_plan_11 rfl (fun r5 σ4 hb_r5 => ?_)
    refine zj_if_eq (tgt := 26) (pc' := 17) hC dX6_plan_14 (by decide) rfl (fun c6 => ?_) (fun c6 => ?_)
    · refine zj_iconst (pc' := 27) (v := (0 : Int32)) hC dX6_plan_26 rfl rfl ?_
      exact zj_zret hC nB_0 dX6_plan_27
    · refine zj_iload_n (pc' := 18) hC dX6_plan_17 rfl rfl (lv_at hl 3 rfl) ?_
      refine zj_iconst (pc' := 19) (v := (0 : Int32)) hC dX6_plan_18 rfl rfl ?_
      refine zj_iconst (pc' := 20) (v := (2 : Int32)) hC dX6_plan_19 rfl rfl ?_
      refine zj_callzS (pc' := 23) (rest := []) hC (kX6_within l b0 cA D L v3 (0 : Int32) (2 : Int32) σ4 ) tw_2_13 tw_2_11 tw_2_12 tw_1_1 ddX6_within rfl ⟨rfl, rfl⟩ ⟨by decide, by decide⟩ hl.1 (Nat.le_of_ble_eq_true rfl) rfl dX6_plan_20 rfl (fun r8 σ7 hb_r8 => ?_)
      refine zj_if_ne (tgt := 28) (pc' := 26) hC dX6_plan_23 (by decide) rfl (fun c9 => ?_) (fun c9 => ?_)
      · refine zj_aload_n (pc' := 29) hC dX6_plan_28 rfl rfl (lv_at hl 0 rfl) ?_
        refine zj_iload_n (pc' := 30) hC dX6_plan_29 rfl rfl (lv_at hl 1 rfl) ?_
        refine zj_callrV (pc' := 33) (rest := []) hC (kX6_planOf l b0 cA D L v0 v1 σ7 hk0) hk0 rfl tw_2_60 tw_2_57 tw_2_59 ts_1_0 tw_1_1 ddX6_planOf rfl ⟨rfl, rfl⟩ ⟨by decide, by decide⟩ hl.1 (Nat.le_of_ble_eq_true rfl) rfl dX6_plan_30 rfl (fun r11 σ10 hk_r11 => ?_)
        refine zj_iload_n (pc' := 34) hC dX6_plan_33 rfl rfl (lv_at hl 2 rfl) ?_
        refine zj_iload_n (pc' := 35) hC dX6_plan_34 rfl rfl (lv_at hl 3 rfl) ?_
        refine zj_iast (pc' := 36) hC hk_r11 dX6_plan_35 rfl (fun g12 σ13 => ?_)
        refine zj_aload_n (pc' := 37) hC dX6_plan_36 rfl rfl (lv_at hl 0 rfl) ?_
        refine zj_iconst (pc' := 38) (v := (1 : Int32)) hC dX6_plan_37 rfl rfl ?_
        refine zj_putI (pc' := 41) hC hk0 fd_6_2 rfl tw_1_197 rfl rfl rfl dX6_plan_38 rfl (fun σ14 => ?_)
        refine zj_iconst (pc' := 42) (v := (1 : Int32)) hC dX6_plan_41 rfl rfl ?_
        exact zj_zret hC nB_1 dX6_plan_42
      · refine zj_iconst (pc' := 27) (v := (0 : Int32)) hC dX6_plan_26 rfl rfl ?_
        exact zj_zret hC nB_0 dX6_plan_27
-- X6_prices
theorem ddX6_prices : yX6_prices.cls ≠ "java/lang/invoke/MethodHandle" ∧ yX6_prices.cls ≠ "java/lang/invoke/VarHandle" ∧ (parseMethodDescriptor yX6_prices.desc).map (fun d => d.parameters.length) = some 2 := by decide +kernel
abbrev rmX6_prices : Room := { frames := 1, cells := 0, slots := 0, locals := 22 }
def fX6_prices (v0 : Nat) (v1 : Int32) (v2 : Int32) (σ : zS) : Option (Int32 × zS) :=
  zb (fX6_within v1 (0 : Int32) (100 : Int32) σ) (fun (r2 : Int32) (σ1 : zS) => if r2 = 0 then (some ((0 : Int32), σ1)) else (zb (fX6_within v2 (0 : Int32) (100 : Int32) σ1) (fun (r5 : Int32) (σ4 : zS) => if r5 = 0 then (some ((0 : Int32), σ4)) else (bnd (zI σ4 v0 13 v1) (fun (σ7 : zS) => bnd (zI σ7 v0 14 v2) (fun (σ8 : zS) => some ((1 : Int32), σ8)))))))
set_option maxRecDepth 100000 in
set_option maxHeartbeats 4000000 in
theorem kX6_prices (l : Launch) (b0 : Nat) (cA : Nat → ClassId) (D : va_G) (L : List (Nat × Nat)) (v0 : Nat) (v1 : Int32) (v2 : Int32) (σ : zS) (hk0 : L[v0]? = some (0, 6)) : zMz l b0 cA D L yX6_prices (Cond.code yX6_prices cX6_prices 3 (some Jvm.ClassFile.FieldType.boolean)) rmX6_prices [.ref (b0 + v0), .int v1, .int v2] σ (fX6_prices v0 v1 v2 σ) := by
  refine zMz_of (by decide) (Nat.le_of_ble_eq_true rfl) ?_
  intro p e s m below meth c ls hC hl
  have hl : lv_has ls 3 [(0, .ref (b0 + v0)), (1, .int v1), (2, .int v2)] := hl
  generalize ([.ref (b0 + v0), .int v1, .int v2] : List Value).toArray = args at hC ⊢
  unfold fX6_prices
  refine zj_iload_n (pc' := 1) hC dX6_prices_0 rfl rfl (lv_at hl 1 rfl) ?_
  refine zj_iconst (pc' := 2) (v := (0 : Int32)) hC dX6_prices_1 rfl rfl ?_
  refine zj_bipush (pc' := 4) (v := (100 : Int32)) hC dX6_prices_2 rfl rfl ?_
  refine zj_callzS (pc' := 7) (rest := []) hC (kX6_within l b0 cA D L v1 (0 : Int32) (100 : Int32) σ ) tw_2_13 tw_2_11 tw_2_12 tw_1_1 ddX6_within rfl ⟨rfl, rfl⟩ ⟨by decide, by decide⟩ hl.1 (Nat.le_of_ble_eq_true rfl) rfl dX6_prices_4 rfl (fun r2 σ1 hb_r2 => ?_)
  refine zj_if_eq (tgt := 20) (pc' := 10) hC dX6_prices_7 (by decide) rfl (fun c3 => ?_) (fun c3 => ?_)
  · refine zj_iconst (pc' := 21) (v := (0 : Int32)) hC dX6_prices_20 rfl rfl ?_
    exact zj_zret hC nB_0 dX6_prices_21
  · refine zj_iload_n (pc' := 11) hC dX6_prices_10 rfl rfl (lv_at hl 2 rfl) ?_
    refine zj_iconst (pc' := 12) (v := (0 : Int32)) hC dX6_prices_11 rfl rfl ?_
    refine zj_bipush (pc' := 14) (v := (100 : Int32)) hC dX6_prices_12 rfl rfl ?_
    refine zj_callzS (pc' := 17) (rest := []) hC (kX6_within l b0 cA D L v2 (0 : Int32) (100 : Int32) σ1 ) tw_2_13 tw_2_11 tw_2_12 tw_1_1 ddX6_within rfl ⟨rfl, rfl⟩ ⟨by decide, by decide⟩ hl.1 (Nat.le_of_ble_eq_true rfl) rfl dX6_prices_14 rfl (fun r5 σ4 hb_r5 => ?_)
    refine zj_if_ne (tgt := 22) (pc' := 20) hC dX6_prices_17 (by decide) rfl (fun c6 => ?_) (fun c6 => ?_)
    · refine zj_aload_n (pc' := 23) hC dX6_prices_22 rfl rfl (lv_at hl 0 rfl) ?_
      refine zj_iload_n (pc' := 24) hC dX6_prices_23 rfl rfl (lv_at hl 1 rfl) ?_
      refine zj_putI (pc' := 27) hC hk0 fd_6_13 rfl tw_1_208 rfl rfl rfl dX6_prices_24 rfl (fun σ7 => ?_)
      refine zj_aload_n (pc' := 28) hC dX6_prices_27 rfl rfl (lv_at hl 0 rfl) ?_
      refine zj_iload_n (pc' := 29) hC dX6_prices_28 rfl rfl (lv_at hl 2 rfl) ?_
      refine zj_putI (pc' := 32) hC hk0 fd_6_14 rfl tw_1_209 rfl rfl rfl dX6_prices_29 rfl (fun σ8 => ?_)
      refine zj_iconst (pc' := 33) (v := (1 : Int32)) hC dX6_prices_32 rfl rfl ?_
      exact zj_zret hC nB_1 dX6_prices_33
    · refine zj_iconst (pc' := 21) (v := (0 : Int32)) hC dX6_prices_20 rfl rfl ?_
      exact zj_zret hC nB_0 dX6_prices_21
-- X6_append
theorem ddX6_append : yX6_append.cls ≠ "java/lang/invoke/MethodHandle" ∧ yX6_append.cls ≠ "java/lang/invoke/VarHandle" ∧ (parseMethodDescriptor yX6_append.desc).map (fun d => d.parameters.length) = some 1 := by decide +kernel
abbrev rmX6_append : Room := { frames := 0, cells := 0, slots := 0, locals := 0 }
def bX6_append_3 (k3 : Nat → Int32 → Int32 → zS → Option (Unit × zS)) (v0 : Nat) (v1 : Int32) (v2 : Int32) (σ : zS) : Option (Unit × zS) :=
  if v2 < 0 then (some ((), σ)) else (if (σ.1 v0 10) < 0 then (some ((), σ)) else (bnd (σ.2 v0 9) (fun (q3 : Nat) => if (500 : Int32) ≤ (σ.1 v0 10) then (some ((), σ)) else (bnd (σ.2 v0 9) (fun (q5 : Nat) => zX (σ.1 v0 10) 500 (bnd (zI σ q5 ((σ.1 v0 10)).toNatClampNeg (((((v1 >>> (v2 &&& 31))).toInt8.toInt32)).toInt8.toInt32)) (fun (σ7 : zS) => bnd (zI σ7 v0 10 ((σ7.1 v0 10) + (1 : Int32))) (fun (σ8 : zS) => k3 v0 v1 ((v2 + (-8 : Int32))) σ8))))))))
def fX6_append_3  : Nat → Nat → Int32 → Int32 → zS → Option (Unit × zS)
  | 0, _, _, _, _ => none
  | n + 1, v0, v1, v2, σ => bX6_append_3 (fX6_append_3  n) v0 v1 v2 σ
def fX6_append (v0 : Nat) (v1 : Int32) (σ : zS) : Option (Unit × zS) :=
  fX6_append_3 zFU v0 v1 (24 : Int32) σ
set_option maxRecDepth 100000 in
set_option maxHeartbeats 4000000 in
theorem jX6_append_3 {p : Program} {l : Launch} {e : Env} {s : State} {m : MethodId} {args : Array Value} {below : List Frame} {meth : Method} {c : Code} {b0 : Nat} {cA : Nat → ClassId} {D : va_G} {L : List (Nat × Nat)} (hC : zC p c s m args meth cX6_append 3 (none) (Cond.code yX6_append cX6_append 3 (none)) yX6_append.cls cA D) (k3 : Nat → Int32 → Int32 → zS → Option (Unit × zS)) (h3 : ∀ (v0 : Nat) (v1 : Int32) (v2 : Int32) (σ : zS) (ls : Array Slot), L[v0]? = some (0, 6) → lv_has ls 3 [(0, .ref (b0 + v0)), (1, .int v1), (2, .int v2)] → zJ p l e rmX6_append s m args below meth c b0 cA D L (fun z => MQ below (va_Qv (fun (u : zS) => ((), u) = z) (zB b0 cA D L) (zA b0 L)) args s 0 0 (zA b0 L)) (k3 v0 v1 v2 σ) σ 3 ls []) (v0 : Nat) (v1 : Int32) (v2 : Int32) (σ : zS) (ls : Array Slot) (hk_v0 : L[v0]? = some (0, 6)) (hl : lv_has ls 3 [(0, .ref (b0 + v0)), (1, .int v1), (2, .int v2)]) : zJ p l e rmX6_append s m args below meth c b0 cA D L (fun z => MQ below (va_Qv (fun (u : zS) => ((), u) = z) (zB b0 cA D L) (zA b0 L)) args s 0 0 (zA b0 L)) (bX6_append_3 k3 v0 v1 v2 σ) σ 3 ls [] := by
  unfold bX6_append_3
  refine zj_iload_n (pc' := 4) hC dX6_append_3 rfl rfl (lv_at hl 2 rfl) ?_
  refine zj_if_lt (tgt := 55) (pc' := 7) hC dX6_append_4 (by decide) rfl (fun c1 => ?_) (fun c1 => ?_)
  · exact zj_vret hC dX6_append_55
  · refine zj_aload_n (pc' := 8) hC dX6_append_7 rfl rfl (lv_at hl 0 rfl) ?_
    refine zj_getI (pc' := 11) hC hk_v0 fd_6_10 rfl tw_1_205 dX6_append_8 rfl ?_
    refine zj_if_lt (tgt := 55) (pc' := 14) hC dX6_append_11 (by decide) rfl (fun c2 => ?_) (fun c2 => ?_)
    · exact zj_vret hC dX6_append_55
    · refine zj_aload_n (pc' := 15) hC dX6_append_14 rfl rfl (lv_at hl 0 rfl) ?_
      refine zj_getI (pc' := 18) hC hk_v0 fd_6_10 rfl tw_1_205 dX6_append_15 rfl ?_
      refine zj_aload_n (pc' := 19) hC dX6_append_18 rfl rfl (lv_at hl 0 rfl) ?_
      refine zj_getR (pc' := 22) hC hk_v0 fd_6_9 rfl tw_1_204 dX6_append_19 rfl (fun q3 hk_q3 => ?_)
      refine zj_alen (pc' := 23) (v := (500 : Int32)) hC hk_q3 (by decide) rfl dX6_append_22 rfl ?_
      refine zj_icmp_ge (tgt := 55) (pc' := 26) hC dX6_append_23 (by decide) rfl (fun c4 => ?_) (fun c4 => ?_)
      · exact zj_vret hC dX6_append_55
      · refine zj_aload_n (pc' := 27) hC dX6_append_26 rfl rfl (lv_at hl 0 rfl) ?_
        refine zj_getR (pc' := 30) hC hk_v0 fd_6_9 rfl tw_1_204 dX6_append_27 rfl (fun q5 hk_q5 => ?_)
        refine zj_aload_n (pc' := 31) hC dX6_append_30 rfl rfl (lv_at hl 0 rfl) ?_
        refine zj_getI (pc' := 34) hC hk_v0 fd_6_10 rfl tw_1_205 dX6_append_31 rfl ?_
        refine zj_iload_n (pc' := 35) hC dX6_append_34 rfl rfl (lv_at hl 1 rfl) ?_
        refine zj_iload_n (pc' := 36) hC dX6_append_35 rfl rfl (lv_at hl 2 rfl) ?_
        refine zj_ishr (pc' := 37) hC dX6_append_36 rfl ?_
        refine zj_i2b (pc' := 38) hC dX6_append_37 rfl ?_
        refine zj_bast (pc' := 39) hC hk_q5 dX6_append_38 rfl (fun g6 σ7 => ?_)
        refine zj_aload_n (pc' := 40) hC dX6_append_39 rfl rfl (lv_at hl 0 rfl) ?_
        refine zj_dup (pc' := 41) hC dX6_append_40 rfl rfl ?_
        refine zj_getI (pc' := 44) hC hk_v0 fd_6_10 rfl tw_1_205 dX6_append_41 rfl ?_
        refine zj_iconst (pc' := 45) (v := (1 : Int32)) hC dX6_append_44 rfl rfl ?_
        refine zj_iadd (pc' := 46) hC dX6_append_45 rfl ?_
        refine zj_putI (pc' := 49) hC hk_v0 fd_6_10 rfl tw_1_205 rfl rfl rfl dX6_append_46 rfl (fun σ8 => ?_)
        refine zj_iinc (pc' := 52) (k0 := 2) (v := (v2 + (-8 : Int32))) (lv' := [(2, .int (v2 + (-8 : Int32))), (0, .ref (b0 + v0)), (1, .int v1)]) hC dX6_append_49 rfl hl rfl rfl (by decide) rfl (fun ls hl => ?_)
        refine zj_goto (tgt := 3) hC dX6_append_52 (by decide) ?_
        exact h3 v0 v1 ((v2 + (-8 : Int32))) σ8 ls hk_v0 (lv_sub hl [1, 2, 0] rfl)
set_option maxRecDepth 100000 in
set_option maxHeartbeats 4000000 in
theorem lX6_append_3 {p : Program} {l : Launch} {e : Env} {s : State} {m : MethodId} {args : Array Value} {below : List Frame} {meth : Method} {c : Code} {b0 : Nat} {cA : Nat → ClassId} {D : va_G} {L : List (Nat × Nat)} (hC : zC p c s m args meth cX6_append 3 (none) (Cond.code yX6_append cX6_append 3 (none)) yX6_append.cls cA D)  (n : Nat) : ∀ (v0 : Nat) (v1 : Int32) (v2 : Int32) (σ : zS) (ls : Array Slot), L[v0]? = some (0, 6) → lv_has ls 3 [(0, .ref (b0 + v0)), (1, .int v1), (2, .int v2)] → zJ p l e rmX6_append s m args below meth c b0 cA D L (fun z => MQ below (va_Qv (fun (u : zS) => ((), u) = z) (zB b0 cA D L) (zA b0 L)) args s 0 0 (zA b0 L)) (fX6_append_3  n v0 v1 v2 σ) σ 3 ls [] := by
  induction n with
  | zero => intros; exact zj_none
  | succ n ih => exact jX6_append_3 hC (fX6_append_3  n) ih
set_option maxRecDepth 100000 in
set_option maxHeartbeats 4000000 in
theorem kX6_append (l : Launch) (b0 : Nat) (cA : Nat → ClassId) (D : va_G) (L : List (Nat × Nat)) (v0 : Nat) (v1 : Int32) (σ : zS) (hk0 : L[v0]? = some (0, 6)) : zMv l b0 cA D L yX6_append (Cond.code yX6_append cX6_append 3 (none)) rmX6_append [.ref (b0 + v0), .int v1] σ (fX6_append v0 v1 σ) := by
  refine zMv_of (by decide) (Nat.le_of_ble_eq_true rfl) ?_
  intro p e s m below meth c ls hC hl
  have hl : lv_has ls 3 [(0, .ref (b0 + v0)), (1, .int v1)] := hl
  generalize ([.ref (b0 + v0), .int v1] : List Value).toArray = args at hC ⊢
  unfold fX6_append
  refine zj_bipush (pc' := 2) (v := (24 : Int32)) hC dX6_append_0 rfl rfl ?_
  refine zj_istore_n (pc' := 3) (lv' := [(2, .int (24 : Int32)), (0, .ref (b0 + v0)), (1, .int v1)]) hC dX6_append_2 rfl rfl hl (by decide) rfl (fun ls hl => ?_)
  exact lX6_append_3 hC zFU v0 v1 (24 : Int32) σ ls hk0 (lv_sub hl [1, 2, 0] rfl)
-- X6_feed
theorem ddX6_feed : yX6_feed.cls ≠ "java/lang/invoke/MethodHandle" ∧ yX6_feed.cls ≠ "java/lang/invoke/VarHandle" ∧ (parseMethodDescriptor yX6_feed.desc).map (fun d => d.parameters.length) = some 5 := by decide +kernel
abbrev rmX6_feed : Room := { frames := 1, cells := 0, slots := 0, locals := 22 }
def fX6_feed (v0 : Nat) (v1 : Int32) (v2 : Int32) (v3 : Int32) (v4 : Int32) (v5 : Int32) (σ : zS) : Option (Int32 × zS) :=
  if (σ.1 v0 10) ≤ (480 : Int32) then (zb (fX6_append v0 v1 σ) (fun (_ : Unit) (σ2 : zS) => zb (fX6_append v0 v2 σ2) (fun (_ : Unit) (σ4 : zS) => zb (fX6_append v0 v3 σ4) (fun (_ : Unit) (σ6 : zS) => zb (fX6_append v0 v4 σ6) (fun (_ : Unit) (σ8 : zS) => zb (fX6_append v0 v5 σ8) (fun (_ : Unit) (σ10 : zS) => some ((σ10.1 v0 10), σ10))))))) else (some ((-1 : Int32), σ))
set_option maxRecDepth 100000 in
set_option maxHeartbeats 4000000 in
theorem kX6_feed (l : Launch) (b0 : Nat) (cA : Nat → ClassId) (D : va_G) (L : List (Nat × Nat)) (v0 : Nat) (v1 : Int32) (v2 : Int32) (v3 : Int32) (v4 : Int32) (v5 : Int32) (σ : zS) (hk0 : L[v0]? = some (0, 6)) : zMi l b0 cA D L yX6_feed (Cond.code yX6_feed cX6_feed 6 (some Jvm.ClassFile.FieldType.int)) rmX6_feed [.ref (b0 + v0), .int v1, .int v2, .int v3, .int v4, .int v5] σ (fX6_feed v0 v1 v2 v3 v4 v5 σ) := by
  refine zMi_of (by decide) (Nat.le_of_ble_eq_true rfl) ?_
  intro p e s m below meth c ls hC hl
  have hl : lv_has ls 6 [(0, .ref (b0 + v0)), (1, .int v1), (2, .int v2), (3, .int v3), (4, .int v4), (5, .int v5)] := hl
  generalize ([.ref (b0 + v0), .int v1, .int v2, .int v3, .int v4, .int v5] : List Value).toArray = args at hC ⊢
  unfold fX6_feed
  refine zj_aload_n (pc' := 1) hC dX6_feed_0 rfl rfl (lv_at hl 0 rfl) ?_
  refine zj_getI (pc' := 4) hC hk0 fd_6_10 rfl tw_1_205 dX6_feed_1 rfl ?_
  refine zj_sipush (pc' := 7) (v := (480 : Int32)) hC dX6_feed_4 rfl rfl ?_
  refine zj_icmp_le (tgt := 12) (pc' := 10) hC dX6_feed_7 (by decide) rfl (fun c1 => ?_) (fun c1 => ?_)
  · refine zj_aload_n (pc' := 13) hC dX6_feed_12 rfl rfl (lv_at hl 0 rfl) ?_
    refine zj_iload_n (pc' := 14) hC dX6_feed_13 rfl rfl (lv_at hl 1 rfl) ?_
    refine zj_callvV (pc' := 17) (rest := []) hC (kX6_append l b0 cA D L v0 v1 σ hk0) hk0 rfl tw_2_72 tw_2_69 tw_2_71 ts_1_1 tw_1_1 ddX6_append rfl ⟨rfl, rfl⟩ ⟨by decide, by decide⟩ hl.1 (Nat.le_of_ble_eq_true rfl) rfl dX6_feed_14 rfl (fun σ2 => ?_)
    refine zj_aload_n (pc' := 18) hC dX6_feed_17 rfl rfl (lv_at hl 0 rfl) ?_
    refine zj_iload_n (pc' := 19) hC dX6_feed_18 rfl rfl (lv_at hl 2 rfl) ?_
    refine zj_callvV (pc' := 22) (rest := []) hC (kX6_append l b0 cA D L v0 v2 σ2 hk0) hk0 rfl tw_2_72 tw_2_69 tw_2_71 ts_1_1 tw_1_1 ddX6_append rfl ⟨rfl, rfl⟩ ⟨by decide, by decide⟩ hl.1 (Nat.le_of_ble_eq_true rfl) rfl dX6_feed_19 rfl (fun σ4 => ?_)
    refine zj_aload_n (pc' := 23) hC dX6_feed_22 rfl rfl (lv_at hl 0 rfl) ?_
    refine zj_iload_n (pc' := 24) hC dX6_feed_23 rfl rfl (lv_at hl 3 rfl) ?_
    refine zj_callvV (pc' := 27) (rest := []) hC (kX6_append l b0 cA D L v0 v3 σ4 hk0) hk0 rfl tw_2_72 tw_2_69 tw_2_71 ts_1_1 tw_1_1 ddX6_append rfl ⟨rfl, rfl⟩ ⟨by decide, by decide⟩ hl.1 (Nat.le_of_ble_eq_true rfl) rfl dX6_feed_24 rfl (fun σ6 => ?_)
    refine zj_aload_n (pc' := 28) hC dX6_feed_27 rfl rfl (lv_at hl 0 rfl) ?_
    refine zj_iload (pc' := 30) hC dX6_feed_28 rfl (lv_at hl 4 rfl) ?_
    refine zj_callvV (pc' := 33) (rest := []) hC (kX6_append l b0 cA D L v0 v4 σ6 hk0) hk0 rfl tw_2_72 tw_2_69 tw_2_71 ts_1_1 tw_1_1 ddX6_append rfl ⟨rfl, rfl⟩ ⟨by decide, by decide⟩ hl.1 (Nat.le_of_ble_eq_true rfl) rfl dX6_feed_30 rfl (fun σ8 => ?_)
    refine zj_aload_n (pc' := 34) hC dX6_feed_33 rfl rfl (lv_at hl 0 rfl) ?_
    refine zj_iload (pc' := 36) hC dX6_feed_34 rfl (lv_at hl 5 rfl) ?_
    refine zj_callvV (pc' := 39) (rest := []) hC (kX6_append l b0 cA D L v0 v5 σ8 hk0) hk0 rfl tw_2_72 tw_2_69 tw_2_71 ts_1_1 tw_1_1 ddX6_append rfl ⟨rfl, rfl⟩ ⟨by decide, by decide⟩ hl.1 (Nat.le_of_ble_eq_true rfl) rfl dX6_feed_36 rfl (fun σ10 => ?_)
    refine zj_aload_n (pc' := 40) hC dX6_feed_39 rfl rfl (lv_at hl 0 rfl) ?_
    refine zj_getI (pc' := 43) hC hk0 fd_6_10 rfl tw_1_205 dX6_feed_40 rfl ?_
    exact zj_iret hC dX6_feed_43
  · refine zj_iconst (pc' := 11) (v := (-1 : Int32)) hC dX6_feed_10 rfl rfl ?_
    exact zj_iret hC dX6_feed_11
-- X6_isNow
theorem ddX6_isNow : yX6_isNow.cls ≠ "java/lang/invoke/MethodHandle" ∧ yX6_isNow.cls ≠ "java/lang/invoke/VarHandle" ∧ (parseMethodDescriptor yX6_isNow.desc).map (fun d => d.parameters.length) = some 1 := by decide +kernel
abbrev rmX6_isNow : Room := { frames := 1, cells := 0, slots := 0, locals := 21 }
def fX6_isNow (v0 : Nat) (v1 : Int32) (σ : zS) : Option (Int32 × zS) :=
  bnd (σ.2 v0 0) (fun (q1 : Nat) => zb (fX3_hasSecond q1 v1 σ) (fun (r3 : Int32) (σ2 : zS) => some (r3, σ2)))
set_option maxRecDepth 100000 in
set_option maxHeartbeats 4000000 in
theorem kX6_isNow (l : Launch) (b0 : Nat) (cA : Nat → ClassId) (D : va_G) (L : List (Nat × Nat)) (v0 : Nat) (v1 : Int32) (σ : zS) (hk0 : L[v0]? = some (0, 6)) : zMz l b0 cA D L yX6_isNow (Cond.code yX6_isNow cX6_isNow 2 (some Jvm.ClassFile.FieldType.boolean)) rmX6_isNow [.ref (b0 + v0), .int v1] σ (fX6_isNow v0 v1 σ) := by
  refine zMz_of (by decide) (Nat.le_of_ble_eq_true rfl) ?_
  intro p e s m below meth c ls hC hl
  have hl : lv_has ls 2 [(0, .ref (b0 + v0)), (1, .int v1)] := hl
  generalize ([.ref (b0 + v0), .int v1] : List Value).toArray = args at hC ⊢
  unfold fX6_isNow
  refine zj_aload_n (pc' := 1) hC dX6_isNow_0 rfl rfl (lv_at hl 0 rfl) ?_
  refine zj_getR (pc' := 4) hC hk0 fd_6_0 rfl tw_1_195 dX6_isNow_1 rfl (fun q1 hk_q1 => ?_)
  refine zj_iload_n (pc' := 5) hC dX6_isNow_4 rfl rfl (lv_at hl 1 rfl) ?_
  refine zj_callzV (pc' := 8) (rest := []) hC (kX3_hasSecond l b0 cA D L q1 v1 σ hk_q1) hk_q1 rfl tw_3_23 tw_3_20 tw_3_21 tw_3_22 tw_1_2 ddX3_hasSecond rfl ⟨rfl, rfl⟩ ⟨by decide, by decide⟩ hl.1 (Nat.le_of_ble_eq_true rfl) rfl dX6_isNow_5 rfl (fun r3 σ2 hb_r3 => ?_)
  exact zj_zret hC hb_r3 dX6_isNow_8
-- X6_asked
theorem ddX6_asked : yX6_asked.cls ≠ "java/lang/invoke/MethodHandle" ∧ yX6_asked.cls ≠ "java/lang/invoke/VarHandle" ∧ (parseMethodDescriptor yX6_asked.desc).map (fun d => d.parameters.length) = some 2 := by decide +kernel
abbrev rmX6_asked : Room := { frames := 3, cells := 0, slots := 0, locals := 71 }
def fX6_asked (v0 : Nat) (v1 : Int32) (v2 : Int32) (σ : zS) : Option (Int32 × zS) :=
  zb (fX6_within v1 (0 : Int32) (3 : Int32) σ) (fun (r2 : Int32) (σ1 : zS) => if r2 = 0 then (some ((0 : Int32), σ1)) else (bnd (σ1.2 v0 5) (fun (q4 : Nat) => bnd (σ1.2 v0 6) (fun (q5 : Nat) => zX v1 4 (bnd (σ1.2 q5 (v1).toNatClampNeg) (fun (q7 : Nat) => zb (fX0_ask q4 q7 v2 σ1) (fun (r9 : Int32) (σ8 : zS) => some (r9, σ8))))))))
set_option maxRecDepth 100000 in
set_option maxHeartbeats 4000000 in
theorem kX6_asked (l : Launch) (b0 : Nat) (cA : Nat → ClassId) (D : va_G) (L : List (Nat × Nat)) (v0 : Nat) (v1 : Int32) (v2 : Int32) (σ : zS) (hk0 : L[v0]? = some (0, 6)) : zMi l b0 cA D L yX6_asked (Cond.code yX6_asked cX6_asked 3 (some Jvm.ClassFile.FieldType.int)) rmX6_asked [.ref (b0 + v0), .int v1, .int v2] σ (fX6_asked v0 v1 v2 σ) := by
  refine zMi_of (by decide) (Nat.le_of_ble_eq_true rfl) ?_
  intro p e s m below meth c ls hC hl
  have hl : lv_has ls 3 [(0, .ref (b0 + v0)), (1, .int v1), (2, .int v2)] := hl
  generalize ([.ref (b0 + v0), .int v1, .int v2] : List Value).toArray = args at hC ⊢
  unfold fX6_asked
  refine zj_iload_n (pc' := 1) hC dX6_asked_0 rfl rfl (lv_at hl 1 rfl) ?_
  refine zj_iconst (pc' := 2) (v := (0 : Int32)) hC dX6_asked_1 rfl rfl ?_
  refine zj_iconst (pc' := 3) (v := (3 : Int32)) hC dX6_asked_2 rfl rfl ?_
  refine zj_callzS (pc' := 6) (rest := []) hC (kX6_within l b0 cA D L v1 (0 : Int32) (3 : Int32) σ ) tw_2_13 tw_2_11 tw_2_12 tw_1_1 ddX6_within rfl ⟨rfl, rfl⟩ ⟨by decide, by decide⟩ hl.1 (Nat.le_of_ble_eq_true rfl) rfl dX6_asked_3 rfl (fun r2 σ1 hb_r2 => ?_)
  refine zj_if_eq (tgt := 26) (pc' := 9) hC dX6_asked_6 (by decide) rfl (fun c3 => ?_) (fun c3 => ?_)
  · refine zj_iconst (pc' := 27) (v := (0 : Int32)) hC dX6_asked_26 rfl rfl ?_
    exact zj_iret hC dX6_asked_27
  · refine zj_aload_n (pc' := 10) hC dX6_asked_9 rfl rfl (lv_at hl 0 rfl) ?_
    refine zj_getR (pc' := 13) hC hk0 fd_6_5 rfl tw_1_200 dX6_asked_10 rfl (fun q4 hk_q4 => ?_)
    refine zj_aload_n (pc' := 14) hC dX6_asked_13 rfl rfl (lv_at hl 0 rfl) ?_
    refine zj_getR (pc' := 17) hC hk0 fd_6_6 rfl tw_1_201 dX6_asked_14 rfl (fun q5 hk_q5 => ?_)
    refine zj_iload_n (pc' := 18) hC dX6_asked_17 rfl rfl (lv_at hl 1 rfl) ?_
    refine zj_aald (t := 1) (pc' := 19) hC hk_q5 (by decide) dX6_asked_18 rfl (fun g6 q7 hk_q7 => ?_)
    refine zj_iload_n (pc' := 20) hC dX6_asked_19 rfl rfl (lv_at hl 2 rfl) ?_
    refine zj_calliV (pc' := 23) (rest := []) hC (kX0_ask l b0 cA D L q4 q7 v2 σ1 hk_q4 hk_q7) hk_q4 rfl tw_3_61 tw_3_58 tw_3_59 tw_3_60 tw_1_5 ddX0_ask rfl ⟨rfl, rfl⟩ ⟨by decide, by decide⟩ hl.1 (Nat.le_of_ble_eq_true rfl) rfl dX6_asked_20 rfl (fun r9 σ8 => ?_)
    refine zj_goto (tgt := 27) hC dX6_asked_23 (by decide) ?_
    exact zj_iret hC dX6_asked_27
-- X6_bought
theorem ddX6_bought : yX6_bought.cls ≠ "java/lang/invoke/MethodHandle" ∧ yX6_bought.cls ≠ "java/lang/invoke/VarHandle" ∧ (parseMethodDescriptor yX6_bought.desc).map (fun d => d.parameters.length) = some 3 := by decide +kernel
abbrev rmX6_bought : Room := { frames := 0, cells := 0, slots := 0, locals := 0 }
def bX6_bought_33  (v0 : Nat) (v1 : Nat) (v2 : Int32) (v3 : Int32) (s0 : Int32) (s1 : Int32) (σ : zS) : Option (Int32 × zS) :=
  bnd ((s0 ||| s1)) (fun (x1 : Int32) => bnd (σ.2 v0 12) (fun (q2 : Nat) => zX v2 40 (if (σ.1 q2 (v2).toNatClampNeg) = v3 then (bnd ((x1 ||| (σ.1 v1 6))) (fun (x6 : Int32) => some (x6, σ))) else (bnd ((x1 ||| (0 : Int32))) (fun (x5 : Int32) => some (x5, σ))))))
def fX6_bought (v0 : Nat) (v1 : Nat) (v2 : Int32) (v3 : Int32) (σ : zS) : Option (Int32 × zS) :=
  if v2 < 0 then (some ((0 : Int32), σ)) else (if (40 : Int32) ≤ v2 then (some ((0 : Int32), σ)) else (bnd (σ.2 v0 11) (fun (q9 : Nat) => zX v2 40 (if (σ.1 q9 (v2).toNatClampNeg) = v3 then (bX6_bought_33 v0 v1 v2 v3 (0 : Int32) ((σ.1 v1 5)) σ) else (bX6_bought_33 v0 v1 v2 v3 (0 : Int32) (0 : Int32) σ)))))
set_option maxRecDepth 100000 in
set_option maxHeartbeats 4000000 in
theorem jX6_bought_33 {p : Program} {l : Launch} {e : Env} {s : State} {m : MethodId} {args : Array Value} {below : List Frame} {meth : Method} {c : Code} {b0 : Nat} {cA : Nat → ClassId} {D : va_G} {L : List (Nat × Nat)} (hC : zC p c s m args meth cX6_bought 5 (some Jvm.ClassFile.FieldType.int) (Cond.code yX6_bought cX6_bought 5 (some Jvm.ClassFile.FieldType.int)) yX6_bought.cls cA D)  (v0 : Nat) (v1 : Nat) (v2 : Int32) (v3 : Int32) (s0 : Int32) (s1 : Int32) (σ : zS) (ls : Array Slot) (hk_v0 : L[v0]? = some (0, 6)) (hk_v1 : L[v1]? = some (0, 2)) (hb_s0 : nB s0) (hl : lv_has ls 5 [(0, .ref (b0 + v0)), (1, .ref (b0 + v1)), (2, .int v2), (3, .int v3)]) : zJ p l e rmX6_bought s m args below meth c b0 cA D L (fun z => MQ below (va_Qi (fun (r : Int32) (u : zS) => (r, u) = z) (zB b0 cA D L) (zA b0 L)) args s 0 0 (zA b0 L)) (bX6_bought_33  v0 v1 v2 v3 s0 s1 σ) σ 33 ls [.int s1, .int s0] := by
  unfold bX6_bought_33
  refine zj_ior (pc' := 34) hC dX6_bought_33 rfl ?_
  refine zj_nmi (fun x1 => ?_)
  refine zj_istore (pc' := 36) (lv' := [(4, .int x1), (0, .ref (b0 + v0)), (1, .ref (b0 + v1)), (2, .int v2), (3, .int v3)]) hC dX6_bought_34 rfl hl (by decide) rfl (fun ls hl => ?_)
  refine zj_iload (pc' := 38) hC dX6_bought_36 rfl (lv_at hl 0 rfl) ?_
  refine zj_aload_n (pc' := 39) hC dX6_bought_38 rfl rfl (lv_at hl 1 rfl) ?_
  refine zj_getR (pc' := 42) hC hk_v0 fd_6_12 rfl tw_1_207 dX6_bought_39 rfl (fun q2 hk_q2 => ?_)
  refine zj_iload_n (pc' := 43) hC dX6_bought_42 rfl rfl (lv_at hl 3 rfl) ?_
  refine zj_iald (pc' := 44) hC hk_q2 dX6_bought_43 rfl (fun g3 => ?_)
  refine zj_iload_n (pc' := 45) hC dX6_bought_44 rfl rfl (lv_at hl 4 rfl) ?_
  refine zj_icmp_ne (tgt := 55) (pc' := 48) hC dX6_bought_45 (by decide) rfl (fun c4 => ?_) (fun c4 => ?_)
  · refine zj_iconst (pc' := 56) (v := (0 : Int32)) hC dX6_bought_55 rfl rfl ?_
    refine zj_ior (pc' := 57) hC dX6_bought_56 rfl ?_
    refine zj_nmi (fun x5 => ?_)
    refine zj_istore (pc' := 59) (lv' := [(4, .int x5), (0, .ref (b0 + v0)), (1, .ref (b0 + v1)), (2, .int v2), (3, .int v3)]) hC dX6_bought_57 rfl hl (by decide) rfl (fun ls hl => ?_)
    refine zj_iload (pc' := 61) hC dX6_bought_59 rfl (lv_at hl 0 rfl) ?_
    exact zj_iret hC dX6_bought_61
  · refine zj_aload_n (pc' := 49) hC dX6_bought_48 rfl rfl (lv_at hl 2 rfl) ?_
    refine zj_getI (pc' := 52) hC hk_v1 fd_2_6 rfl tw_1_76 dX6_bought_49 rfl ?_
    refine zj_goto (tgt := 56) hC dX6_bought_52 (by decide) ?_
    refine zj_ior (pc' := 57) hC dX6_bought_56 rfl ?_
    refine zj_nmi (fun x6 => ?_)
    refine zj_istore (pc' := 59) (lv' := [(4, .int x6), (0, .ref (b0 + v0)), (1, .ref (b0 + v1)), (2, .int v2), (3, .int v3)]) hC dX6_bought_57 rfl hl (by decide) rfl (fun ls hl => ?_)
    refine zj_iload (pc' := 61) hC dX6_bought_59 rfl (lv_at hl 0 rfl) ?_
    exact zj_iret hC dX6_bought_61
set_option maxRecDepth 100000 in
set_option maxHeartbeats 4000000 in
theorem kX6_bought (l : Launch) (b0 : Nat) (cA : Nat → ClassId) (D : va_G) (L : List (Nat × Nat)) (v0 : Nat) (v1 : Nat) (v2 : Int32) (v3 : Int32) (σ : zS) (hk0 : L[v0]? = some (0, 6)) (hk1 : L[v1]? = some (0, 2)) : zMi l b0 cA D L yX6_bought (Cond.code yX6_bought cX6_bought 5 (some Jvm.ClassFile.FieldType.int)) rmX6_bought [.ref (b0 + v0), .ref (b0 + v1), .int v2, .int v3] σ (fX6_bought v0 v1 v2 v3 σ) := by
  refine zMi_of (by decide) (Nat.le_of_ble_eq_true rfl) ?_
  intro p e s m below meth c ls hC hl
  have hl : lv_has ls 5 [(0, .ref (b0 + v0)), (1, .ref (b0 + v1)), (2, .int v2), (3, .int v3)] := hl
  generalize ([.ref (b0 + v0), .ref (b0 + v1), .int v2, .int v3] : List Value).toArray = args at hC ⊢
  unfold fX6_bought
  refine zj_iconst (pc' := 1) (v := (0 : Int32)) hC dX6_bought_0 rfl rfl ?_
  refine zj_istore (pc' := 3) (lv' := [(4, .int (0 : Int32)), (0, .ref (b0 + v0)), (1, .ref (b0 + v1)), (2, .int v2), (3, .int v3)]) hC dX6_bought_1 rfl hl (by decide) rfl (fun ls hl => ?_)
  refine zj_iload_n (pc' := 4) hC dX6_bought_3 rfl rfl (lv_at hl 3 rfl) ?_
  refine zj_if_lt (tgt := 59) (pc' := 7) hC dX6_bought_4 (by decide) rfl (fun c7 => ?_) (fun c7 => ?_)
  · refine zj_iload (pc' := 61) hC dX6_bought_59 rfl (lv_at hl 0 rfl) ?_
    exact zj_iret hC dX6_bought_61
  · refine zj_iload_n (pc' := 8) hC dX6_bought_7 rfl rfl (lv_at hl 3 rfl) ?_
    refine zj_bipush (pc' := 10) (v := (40 : Int32)) hC dX6_bought_8 rfl rfl ?_
    refine zj_icmp_ge (tgt := 59) (pc' := 13) hC dX6_bought_10 (by decide) rfl (fun c8 => ?_) (fun c8 => ?_)
    · refine zj_iload (pc' := 61) hC dX6_bought_59 rfl (lv_at hl 0 rfl) ?_
      exact zj_iret hC dX6_bought_61
    · refine zj_iload (pc' := 15) hC dX6_bought_13 rfl (lv_at hl 0 rfl) ?_
      refine zj_aload_n (pc' := 16) hC dX6_bought_15 rfl rfl (lv_at hl 1 rfl) ?_
      refine zj_getR (pc' := 19) hC hk0 fd_6_11 rfl tw_1_206 dX6_bought_16 rfl (fun q9 hk_q9 => ?_)
      refine zj_iload_n (pc' := 20) hC dX6_bought_19 rfl rfl (lv_at hl 3 rfl) ?_
      refine zj_iald (pc' := 21) hC hk_q9 dX6_bought_20 rfl (fun g10 => ?_)
      refine zj_iload_n (pc' := 22) hC dX6_bought_21 rfl rfl (lv_at hl 4 rfl) ?_
      refine zj_icmp_ne (tgt := 32) (pc' := 25) hC dX6_bought_22 (by decide) rfl (fun c11 => ?_) (fun c11 => ?_)
      · refine zj_iconst (pc' := 33) (v := (0 : Int32)) hC dX6_bought_32 rfl rfl ?_
        exact jX6_bought_33 hC v0 v1 v2 v3 (0 : Int32) (0 : Int32) σ ls hk0 hk1 nB_0 (lv_sub hl [1, 2, 3, 4] rfl)
      · refine zj_aload_n (pc' := 26) hC dX6_bought_25 rfl rfl (lv_at hl 2 rfl) ?_
        refine zj_getI (pc' := 29) hC hk1 fd_2_5 rfl tw_1_73 dX6_bought_26 rfl ?_
        refine zj_goto (tgt := 33) hC dX6_bought_29 (by decide) ?_
        exact jX6_bought_33 hC v0 v1 v2 v3 (0 : Int32) ((σ.1 v1 5)) σ ls hk0 hk1 nB_0 (lv_sub hl [1, 2, 3, 4] rfl)
-- X6_play
theorem ddX6_play : yX6_play.cls ≠ "java/lang/invoke/MethodHandle" ∧ yX6_play.cls ≠ "java/lang/invoke/VarHandle" ∧ (parseMethodDescriptor yX6_play.desc).map (fun d => d.parameters.length) = some 2 := by decide +kernel
abbrev rmX6_play : Room := { frames := 4, cells := 0, slots := 0, locals := 93 }
def bX6_play_178 (k13 : Nat → Nat → Int32 → Int32 → Int32 → Int32 → zS → Option (Unit × zS)) (v0 : Nat) (v1 : Nat) (v2 : Int32) (v3 : Int32) (v4 : Int32) (v5 : Int32) (σ : zS) : Option (Unit × zS) :=
  zb (fX3_put v1 v5 v3 v4 σ) (fun (_ : Unit) (σ1 : zS) => k13 v0 v1 v2 v3 v4 ((v5 + (1 : Int32))) σ1)
def bX6_play_161 (k13 : Nat → Nat → Int32 → Int32 → Int32 → Int32 → zS → Option (Unit × zS)) (v0 : Nat) (v1 : Nat) (v2 : Int32) (v3 : Int32) (v4 : Int32) (v5 : Int32) (σ : zS) : Option (Unit × zS) :=
  if v5 = 0 then (bnd ((v3 ||| v2)) (fun (x4 : Int32) => bnd ((v4 &&& (v2 ^^^ (-1 : Int32)))) (fun (x5 : Int32) => bX6_play_178 k13 v0 v1 v2 x4 x5 v5 σ))) else (bX6_play_178 k13 v0 v1 v2 v3 v4 v5 σ)
def bX6_play_155 (k82 : Nat → Nat → Int32 → Int32 → Int32 → Int32 → Int32 → Int32 → zS → Option (Unit × zS)) (v0 : Nat) (v1 : Nat) (v2 : Int32) (v3 : Int32) (v4 : Int32) (v5 : Int32) (v6 : Int32) (v7 : Int32) (σ : zS) : Option (Unit × zS) :=
  k82 v0 v1 v2 v3 v4 v5 v6 ((v7 + (1 : Int32))) σ
def bX6_play_152 (k155 : Nat → Nat → Int32 → Int32 → Int32 → Int32 → Int32 → Int32 → zS → Option (Unit × zS)) (v0 : Nat) (v1 : Nat) (v2 : Int32) (v3 : Int32) (v5 : Int32) (v6 : Int32) (v7 : Int32) (s0 : Int32) (s1 : Int32) (σ : zS) : Option (Unit × zS) :=
  bnd ((s0 ||| s1)) (fun (x6 : Int32) => k155 v0 v1 v2 v3 x6 v5 v6 v7 σ)
def bX6_play_134 (k155 : Nat → Nat → Int32 → Int32 → Int32 → Int32 → Int32 → Int32 → zS → Option (Unit × zS)) (v0 : Nat) (v1 : Nat) (v2 : Int32) (v4 : Int32) (v5 : Int32) (v6 : Int32) (v7 : Int32) (v8 : Int32) (s0 : Int32) (s1 : Int32) (σ : zS) : Option (Unit × zS) :=
  bnd ((s0 ||| s1)) (fun (x7 : Int32) => if v8 = (2 : Int32) then (bX6_play_152 k155 v0 v1 v2 x7 v5 v6 v7 v4 (((1 : Int32) <<< (v7 &&& 31))) σ) else (bX6_play_152 k155 v0 v1 v2 x7 v5 v6 v7 v4 (0 : Int32) σ))
def bX6_play_82 (k13 : Nat → Nat → Int32 → Int32 → Int32 → Int32 → zS → Option (Unit × zS)) (k82 : Nat → Nat → Int32 → Int32 → Int32 → Int32 → Int32 → Int32 → zS → Option (Unit × zS)) (v0 : Nat) (v1 : Nat) (v2 : Int32) (v3 : Int32) (v4 : Int32) (v5 : Int32) (v6 : Int32) (v7 : Int32) (σ : zS) : Option (Unit × zS) :=
  if (24 : Int32) ≤ v7 then (bX6_play_161 k13 v0 v1 v2 v3 v4 v5 σ) else (if ((v6 >>> (v7 &&& 31)) &&& (1 : Int32)) = 0 then (bX6_play_155 k82 v0 v1 v2 v3 v4 v5 v6 v7 σ) else (bnd (σ.2 v1 0) (fun (q11 : Nat) => zb (fX2_sortOf q11 v7 σ) (fun (r13 : Int32) (σ12 : zS) => zb (fX6_asked v0 r13 v7 σ12) (fun (r15 : Int32) (σ14 : zS) => if r15 = (1 : Int32) then (bX6_play_134 (bX6_play_155 k82) v0 v1 v2 v4 v5 v6 v7 r15 v3 (((1 : Int32) <<< (v7 &&& 31))) σ14) else (bX6_play_134 (bX6_play_155 k82) v0 v1 v2 v4 v5 v6 v7 r15 v3 (0 : Int32) σ14))))))
def fX6_play_82 (k13 : Nat → Nat → Int32 → Int32 → Int32 → Int32 → zS → Option (Unit × zS)) : Nat → Nat → Nat → Int32 → Int32 → Int32 → Int32 → Int32 → Int32 → zS → Option (Unit × zS)
  | 0, _, _, _, _, _, _, _, _, _ => none
  | n + 1, v0, v1, v2, v3, v4, v5, v6, v7, σ => bX6_play_82 k13 (fX6_play_82 k13 n) v0 v1 v2 v3 v4 v5 v6 v7 σ
def bX6_play_13 (k13 : Nat → Nat → Int32 → Int32 → Int32 → Int32 → zS → Option (Unit × zS)) (v0 : Nat) (v1 : Nat) (v2 : Int32) (v3 : Int32) (v4 : Int32) (v5 : Int32) (σ : zS) : Option (Unit × zS) :=
  bnd (σ.2 v1 1) (fun (q17 : Nat) => if (σ.1 q17 0) ≤ v5 then (some ((), σ)) else (if (40 : Int32) ≤ v5 then (some ((), σ)) else (bnd (σ.2 v0 5) (fun (q20 : Nat) => zb (fX0_stand q20 v1 v5 v3 v4 σ) (fun (_ : Unit) (σ21 : zS) => bnd (σ21.2 v1 0) (fun (q23 : Nat) => zb (fX6_bought v0 q23 v5 (1 : Int32) σ21) (fun (r25 : Int32) (σ24 : zS) => bnd (σ24.2 v1 0) (fun (q26 : Nat) => zb (fX6_bought v0 q26 v5 (2 : Int32) σ24) (fun (r28 : Int32) (σ27 : zS) => bnd (σ27.2 v1 0) (fun (q29 : Nat) => zb (fX2_unpaid q29 σ27) (fun (r31 : Int32) (σ30 : zS) => fX6_play_82 k13 zFU v0 v1 v2 r25 r28 v5 r31 (0 : Int32) σ30)))))))))))
def fX6_play_13  : Nat → Nat → Nat → Int32 → Int32 → Int32 → Int32 → zS → Option (Unit × zS)
  | 0, _, _, _, _, _, _, _ => none
  | n + 1, v0, v1, v2, v3, v4, v5, σ => bX6_play_13 (fX6_play_13  n) v0 v1 v2 v3 v4 v5 σ
def fX6_play (v0 : Nat) (v1 : Nat) (v2 : Int32) (σ : zS) : Option (Unit × zS) :=
  bnd (zI σ v1 4 (0 : Int32)) (fun (σ32 : zS) => fX6_play_13 zFU v0 v1 v2 (0 : Int32) (0 : Int32) (0 : Int32) σ32)
set_option maxRecDepth 100000 in
set_option maxHeartbeats 4000000 in
theorem jX6_play_178 {p : Program} {l : Launch} {e : Env} {s : State} {m : MethodId} {args : Array Value} {below : List Frame} {meth : Method} {c : Code} {b0 : Nat} {cA : Nat → ClassId} {D : va_G} {L : List (Nat × Nat)} (hC : zC p c s m args meth cX6_play 9 (none) (Cond.code yX6_play cX6_play 9 (none)) yX6_play.cls cA D) (k13 : Nat → Nat → Int32 → Int32 → Int32 → Int32 → zS → Option (Unit × zS)) (h13 : ∀ (v0 : Nat) (v1 : Nat) (v2 : Int32) (v3 : Int32) (v4 : Int32) (v5 : Int32) (σ : zS) (ls : Array Slot), L[v0]? = some (0, 6) → L[v1]? = some (0, 3) → lv_has ls 9 [(0, .ref (b0 + v0)), (1, .ref (b0 + v1)), (2, .int v2), (3, .int v3), (4, .int v4), (5, .int v5)] → zJ p l e rmX6_play s m args below meth c b0 cA D L (fun z => MQ below (va_Qv (fun (u : zS) => ((), u) = z) (zB b0 cA D L) (zA b0 L)) args s 0 0 (zA b0 L)) (k13 v0 v1 v2 v3 v4 v5 σ) σ 13 ls []) (v0 : Nat) (v1 : Nat) (v2 : Int32) (v3 : Int32) (v4 : Int32) (v5 : Int32) (σ : zS) (ls : Array Slot) (hk_v0 : L[v0]? = some (0, 6)) (hk_v1 : L[v1]? = some (0, 3)) (hl : lv_has ls 9 [(0, .ref (b0 + v0)), (1, .ref (b0 + v1)), (2, .int v2), (3, .int v3), (4, .int v4), (5, .int v5)]) : zJ p l e rmX6_play s m args below meth c b0 cA D L (fun z => MQ below (va_Qv (fun (u : zS) => ((), u) = z) (zB b0 cA D L) (zA b0 L)) args s 0 0 (zA b0 L)) (bX6_play_178 k13 v0 v1 v2 v3 v4 v5 σ) σ 178 ls [] := by
  unfold bX6_play_178
  refine zj_aload_n (pc' := 179) hC dX6_play_178 rfl rfl (lv_at hl 1 rfl) ?_
  refine zj_iload (pc' := 181) hC dX6_play_179 rfl (lv_at hl 5 rfl) ?_
  refine zj_iload_n (pc' := 182) hC dX6_play_181 rfl rfl (lv_at hl 3 rfl) ?_
  refine zj_iload (pc' := 184) hC dX6_play_182 rfl (lv_at hl 4 rfl) ?_
  refine zj_callvV (pc' := 187) (rest := []) hC (kX3_put l b0 cA D L v1 v5 v3 v4 σ hk_v1) hk_v1 rfl tw_3_78 tw_3_75 tw_3_76 tw_3_77 tw_1_2 ddX3_put rfl ⟨rfl, rfl⟩ ⟨by decide, by decide⟩ hl.1 (Nat.le_of_ble_eq_true rfl) rfl dX6_play_184 rfl (fun σ1 => ?_)
  refine zj_iinc (pc' := 190) (k0 := 5) (v := (v5 + (1 : Int32))) (lv' := [(5, .int (v5 + (1 : Int32))), (0, .ref (b0 + v0)), (1, .ref (b0 + v1)), (2, .int v2), (3, .int v3), (4, .int v4)]) hC dX6_play_187 rfl hl rfl rfl (by decide) rfl (fun ls hl => ?_)
  refine zj_goto (tgt := 13) hC dX6_play_190 (by decide) ?_
  exact h13 v0 v1 v2 v3 v4 ((v5 + (1 : Int32))) σ1 ls hk_v0 hk_v1 (lv_sub hl [1, 2, 3, 4, 5, 0] rfl)
set_option maxRecDepth 100000 in
set_option maxHeartbeats 4000000 in
theorem jX6_play_161 {p : Program} {l : Launch} {e : Env} {s : State} {m : MethodId} {args : Array Value} {below : List Frame} {meth : Method} {c : Code} {b0 : Nat} {cA : Nat → ClassId} {D : va_G} {L : List (Nat × Nat)} (hC : zC p c s m args meth cX6_play 9 (none) (Cond.code yX6_play cX6_play 9 (none)) yX6_play.cls cA D) (k13 : Nat → Nat → Int32 → Int32 → Int32 → Int32 → zS → Option (Unit × zS)) (h13 : ∀ (v0 : Nat) (v1 : Nat) (v2 : Int32) (v3 : Int32) (v4 : Int32) (v5 : Int32) (σ : zS) (ls : Array Slot), L[v0]? = some (0, 6) → L[v1]? = some (0, 3) → lv_has ls 9 [(0, .ref (b0 + v0)), (1, .ref (b0 + v1)), (2, .int v2), (3, .int v3), (4, .int v4), (5, .int v5)] → zJ p l e rmX6_play s m args below meth c b0 cA D L (fun z => MQ below (va_Qv (fun (u : zS) => ((), u) = z) (zB b0 cA D L) (zA b0 L)) args s 0 0 (zA b0 L)) (k13 v0 v1 v2 v3 v4 v5 σ) σ 13 ls []) (v0 : Nat) (v1 : Nat) (v2 : Int32) (v3 : Int32) (v4 : Int32) (v5 : Int32) (σ : zS) (ls : Array Slot) (hk_v0 : L[v0]? = some (0, 6)) (hk_v1 : L[v1]? = some (0, 3)) (hl : lv_has ls 9 [(0, .ref (b0 + v0)), (1, .ref (b0 + v1)), (2, .int v2), (3, .int v3), (4, .int v4), (5, .int v5)]) : zJ p l e rmX6_play s m args below meth c b0 cA D L (fun z => MQ below (va_Qv (fun (u : zS) => ((), u) = z) (zB b0 cA D L) (zA b0 L)) args s 0 0 (zA b0 L)) (bX6_play_161 k13 v0 v1 v2 v3 v4 v5 σ) σ 161 ls [] := by
  unfold bX6_play_161
  refine zj_iload (pc' := 163) hC dX6_play_161 rfl (lv_at hl 5 rfl) ?_
  refine zj_if_ne (tgt := 178) (pc' := 166) hC dX6_play_163 (by decide) rfl (fun c3 => ?_) (fun c3 => ?_)
  · exact jX6_play_178 hC k13 h13 v0 v1 v2 v3 v4 v5 σ ls hk_v0 hk_v1 (lv_sub hl [0, 1, 2, 3, 4, 5] rfl)
  · refine zj_iload_n (pc' := 167) hC dX6_play_166 rfl rfl (lv_at hl 3 rfl) ?_
    refine zj_iload_n (pc' := 168) hC dX6_play_167 rfl rfl (lv_at hl 2 rfl) ?_
    refine zj_ior (pc' := 169) hC dX6_play_168 rfl ?_
    refine zj_nmi (fun x4 => ?_)
    refine zj_istore_n (pc' := 170) (lv' := [(3, .int x4), (0, .ref (b0 + v0)), (1, .ref (b0 + v1)), (2, .int v2), (4, .int v4), (5, .int v5)]) hC dX6_play_169 rfl rfl hl (by decide) rfl (fun ls hl => ?_)
    refine zj_iload (pc' := 172) hC dX6_play_170 rfl (lv_at hl 4 rfl) ?_
    refine zj_iload_n (pc' := 173) hC dX6_play_172 rfl rfl (lv_at hl 3 rfl) ?_
    refine zj_iconst (pc' := 174) (v := (-1 : Int32)) hC dX6_play_173 rfl rfl ?_
    refine zj_ixor (pc' := 175) hC dX6_play_174 rfl ?_
    refine zj_iand (pc' := 176) hC dX6_play_175 rfl ?_
    refine zj_nmi (fun x5 => ?_)
    refine zj_istore (pc' := 178) (lv' := [(4, .int x5), (3, .int x4), (0, .ref (b0 + v0)), (1, .ref (b0 + v1)), (2, .int v2), (5, .int v5)]) hC dX6_play_176 rfl hl (by decide) rfl (fun ls hl => ?_)
    exact jX6_play_178 hC k13 h13 v0 v1 v2 x4 x5 v5 σ ls hk_v0 hk_v1 (lv_sub hl [2, 3, 4, 1, 0, 5] rfl)
set_option maxRecDepth 100000 in
set_option maxHeartbeats 4000000 in
theorem jX6_play_155 {p : Program} {l : Launch} {e : Env} {s : State} {m : MethodId} {args : Array Value} {below : List Frame} {meth : Method} {c : Code} {b0 : Nat} {cA : Nat → ClassId} {D : va_G} {L : List (Nat × Nat)} (hC : zC p c s m args meth cX6_play 9 (none) (Cond.code yX6_play cX6_play 9 (none)) yX6_play.cls cA D) (k82 : Nat → Nat → Int32 → Int32 → Int32 → Int32 → Int32 → Int32 → zS → Option (Unit × zS)) (h82 : ∀ (v0 : Nat) (v1 : Nat) (v2 : Int32) (v3 : Int32) (v4 : Int32) (v5 : Int32) (v6 : Int32) (v7 : Int32) (σ : zS) (ls : Array Slot), L[v0]? = some (0, 6) → L[v1]? = some (0, 3) → lv_has ls 9 [(0, .ref (b0 + v0)), (1, .ref (b0 + v1)), (2, .int v2), (3, .int v3), (4, .int v4), (5, .int v5), (6, .int v6), (7, .int v7)] → zJ p l e rmX6_play s m args below meth c b0 cA D L (fun z => MQ below (va_Qv (fun (u : zS) => ((), u) = z) (zB b0 cA D L) (zA b0 L)) args s 0 0 (zA b0 L)) (k82 v0 v1 v2 v3 v4 v5 v6 v7 σ) σ 82 ls []) (v0 : Nat) (v1 : Nat) (v2 : Int32) (v3 : Int32) (v4 : Int32) (v5 : Int32) (v6 : Int32) (v7 : Int32) (σ : zS) (ls : Array Slot) (hk_v0 : L[v0]? = some (0, 6)) (hk_v1 : L[v1]? = some (0, 3)) (hl : lv_has ls 9 [(0, .ref (b0 + v0)), (1, .ref (b0 + v1)), (2, .int v2), (3, .int v3), (4, .int v4), (5, .int v5), (6, .int v6), (7, .int v7)]) : zJ p l e rmX6_play s m args below meth c b0 cA D L (fun z => MQ below (va_Qv (fun (u : zS) => ((), u) = z) (zB b0 cA D L) (zA b0 L)) args s 0 0 (zA b0 L)) (bX6_play_155 k82 v0 v1 v2 v3 v4 v5 v6 v7 σ) σ 155 ls [] := by
  unfold bX6_play_155
  refine zj_iinc (pc' := 158) (k0 := 7) (v := (v7 + (1 : Int32))) (lv' := [(7, .int (v7 + (1 : Int32))), (0, .ref (b0 + v0)), (1, .ref (b0 + v1)), (2, .int v2), (3, .int v3), (4, .int v4), (5, .int v5), (6, .int v6)]) hC dX6_play_155 rfl hl rfl rfl (by decide) rfl (fun ls hl => ?_)
  refine zj_goto (tgt := 82) hC dX6_play_158 (by decide) ?_
  exact h82 v0 v1 v2 v3 v4 v5 v6 ((v7 + (1 : Int32))) σ ls hk_v0 hk_v1 (lv_sub hl [1, 2, 3, 4, 5, 6, 7, 0] rfl)
set_option maxRecDepth 100000 in
set_option maxHeartbeats 4000000 in
theorem jX6_play_152 {p : Program} {l : Launch} {e : Env} {s : State} {m : MethodId} {args : Array Value} {below : List Frame} {meth : Method} {c : Code} {b0 : Nat} {cA : Nat → ClassId} {D : va_G} {L : List (Nat × Nat)} (hC : zC p c s m args meth cX6_play 9 (none) (Cond.code yX6_play cX6_play 9 (none)) yX6_play.cls cA D) (k155 : Nat → Nat → Int32 → Int32 → Int32 → Int32 → Int32 → Int32 → zS → Option (Unit × zS)) (h155 : ∀ (v0 : Nat) (v1 : Nat) (v2 : Int32) (v3 : Int32) (v4 : Int32) (v5 : Int32) (v6 : Int32) (v7 : Int32) (σ : zS) (ls : Array Slot), L[v0]? = some (0, 6) → L[v1]? = some (0, 3) → lv_has ls 9 [(0, .ref (b0 + v0)), (1, .ref (b0 + v1)), (2, .int v2), (3, .int v3), (4, .int v4), (5, .int v5), (6, .int v6), (7, .int v7)] → zJ p l e rmX6_play s m args below meth c b0 cA D L (fun z => MQ below (va_Qv (fun (u : zS) => ((), u) = z) (zB b0 cA D L) (zA b0 L)) args s 0 0 (zA b0 L)) (k155 v0 v1 v2 v3 v4 v5 v6 v7 σ) σ 155 ls []) (v0 : Nat) (v1 : Nat) (v2 : Int32) (v3 : Int32) (v5 : Int32) (v6 : Int32) (v7 : Int32) (s0 : Int32) (s1 : Int32) (σ : zS) (ls : Array Slot) (hk_v0 : L[v0]? = some (0, 6)) (hk_v1 : L[v1]? = some (0, 3)) (hl : lv_has ls 9 [(0, .ref (b0 + v0)), (1, .ref (b0 + v1)), (2, .int v2), (3, .int v3), (5, .int v5), (6, .int v6), (7, .int v7)]) : zJ p l e rmX6_play s m args below meth c b0 cA D L (fun z => MQ below (va_Qv (fun (u : zS) => ((), u) = z) (zB b0 cA D L) (zA b0 L)) args s 0 0 (zA b0 L)) (bX6_play_152 k155 v0 v1 v2 v3 v5 v6 v7 s0 s1 σ) σ 152 ls [.int s1, .int s0] := by
  unfold bX6_play_152
  refine zj_ior (pc' := 153) hC dX6_play_152 rfl ?_
  refine zj_nmi (fun x6 => ?_)
  refine zj_istore (pc' := 155) (lv' := [(4, .int x6), (0, .ref (b0 + v0)), (1, .ref (b0 + v1)), (2, .int v2), (3, .int v3), (5, .int v5), (6, .int v6), (7, .int v7)]) hC dX6_play_153 rfl hl (by decide) rfl (fun ls hl => ?_)
  exact h155 v0 v1 v2 v3 x6 v5 v6 v7 σ ls hk_v0 hk_v1 (lv_sub hl [1, 2, 3, 4, 0, 5, 6, 7] rfl)
set_option maxRecDepth 100000 in
set_option maxHeartbeats 4000000 in
theorem jX6_play_134 {p : Program} {l : Launch} {e : Env} {s : State} {m : MethodId} {args : Array Value} {below : List Frame} {meth : Method} {c : Code} {b0 : Nat} {cA : Nat → ClassId} {D : va_G} {L : List (Nat × Nat)} (hC : zC p c s m args meth cX6_play 9 (none) (Cond.code yX6_play cX6_play 9 (none)) yX6_play.cls cA D) (k155 : Nat → Nat → Int32 → Int32 → Int32 → Int32 → Int32 → Int32 → zS → Option (Unit × zS)) (h155 : ∀ (v0 : Nat) (v1 : Nat) (v2 : Int32) (v3 : Int32) (v4 : Int32) (v5 : Int32) (v6 : Int32) (v7 : Int32) (σ : zS) (ls : Array Slot), L[v0]? = some (0, 6) → L[v1]? = some (0, 3) → lv_has ls 9 [(0, .ref (b0 + v0)), (1, .ref (b0 + v1)), (2, .int v2), (3, .int v3), (4, .int v4), (5, .int v5), (6, .int v6), (7, .int v7)] → zJ p l e rmX6_play s m args below meth c b0 cA D L (fun z => MQ below (va_Qv (fun (u : zS) => ((), u) = z) (zB b0 cA D L) (zA b0 L)) args s 0 0 (zA b0 L)) (k155 v0 v1 v2 v3 v4 v5 v6 v7 σ) σ 155 ls []) (v0 : Nat) (v1 : Nat) (v2 : Int32) (v4 : Int32) (v5 : Int32) (v6 : Int32) (v7 : Int32) (v8 : Int32) (s0 : Int32) (s1 : Int32) (σ : zS) (ls : Array Slot) (hk_v0 : L[v0]? = some (0, 6)) (hk_v1 : L[v1]? = some (0, 3)) (hl : lv_has ls 9 [(0, .ref (b0 + v0)), (1, .ref (b0 + v1)), (2, .int v2), (4, .int v4), (5, .int v5), (6, .int v6), (7, .int v7), (8, .int v8)]) : zJ p l e rmX6_play s m args below meth c b0 cA D L (fun z => MQ below (va_Qv (fun (u : zS) => ((), u) = z) (zB b0 cA D L) (zA b0 L)) args s 0 0 (zA b0 L)) (bX6_play_134 k155 v0 v1 v2 v4 v5 v6 v7 v8 s0 s1 σ) σ 134 ls [.int s1, .int s0] := by
  unfold bX6_play_134
  refine zj_ior (pc' := 135) hC dX6_play_134 rfl ?_
  refine zj_nmi (fun x7 => ?_)
  refine zj_istore_n (pc' := 136) (lv' := [(3, .int x7), (0, .ref (b0 + v0)), (1, .ref (b0 + v1)), (2, .int v2), (4, .int v4), (5, .int v5), (6, .int v6), (7, .int v7), (8, .int v8)]) hC dX6_play_135 rfl rfl hl (by decide) rfl (fun ls hl => ?_)
  refine zj_iload (pc' := 138) hC dX6_play_136 rfl (lv_at hl 4 rfl) ?_
  refine zj_iload (pc' := 140) hC dX6_play_138 rfl (lv_at hl 8 rfl) ?_
  refine zj_iconst (pc' := 141) (v := (2 : Int32)) hC dX6_play_140 rfl rfl ?_
  refine zj_icmp_ne (tgt := 151) (pc' := 144) hC dX6_play_141 (by decide) rfl (fun c8 => ?_) (fun c8 => ?_)
  · refine zj_iconst (pc' := 152) (v := (0 : Int32)) hC dX6_play_151 rfl rfl ?_
    exact jX6_play_152 hC k155 h155 v0 v1 v2 x7 v5 v6 v7 v4 (0 : Int32) σ ls hk_v0 hk_v1 (lv_sub hl [1, 2, 3, 0, 5, 6, 7] rfl)
  · refine zj_iconst (pc' := 145) (v := (1 : Int32)) hC dX6_play_144 rfl rfl ?_
    refine zj_iload (pc' := 147) hC dX6_play_145 rfl (lv_at hl 7 rfl) ?_
    refine zj_ishl (pc' := 148) hC dX6_play_147 rfl ?_
    refine zj_goto (tgt := 152) hC dX6_play_148 (by decide) ?_
    exact jX6_play_152 hC k155 h155 v0 v1 v2 x7 v5 v6 v7 v4 (((1 : Int32) <<< (v7 &&& 31))) σ ls hk_v0 hk_v1 (lv_sub hl [1, 2, 3, 0, 5, 6, 7] rfl)
set_option maxRecDepth 100000 in
set_option maxHeartbeats 4000000 in
theorem jX6_play_82 {p : Program} {l : Launch} {e : Env} {s : State} {m : MethodId} {args : Array Value} {below : List Frame} {meth : Method} {c : Code} {b0 : Nat} {cA : Nat → ClassId} {D : va_G} {L : List (Nat × Nat)} (hC : zC p c s m args meth cX6_play 9 (none) (Cond.code yX6_play cX6_play 9 (none)) yX6_play.cls cA D) (k13 : Nat → Nat → Int32 → Int32 → Int32 → Int32 → zS → Option (Unit × zS)) (h13 : ∀ (v0 : Nat) (v1 : Nat) (v2 : Int32) (v3 : Int32) (v4 : Int32) (v5 : Int32) (σ : zS) (ls : Array Slot), L[v0]? = some (0, 6) → L[v1]? = some (0, 3) → lv_has ls 9 [(0, .ref (b0 + v0)), (1, .ref (b0 + v1)), (2, .int v2), (3, .int v3), (4, .int v4), (5, .int v5)] → zJ p l e rmX6_play s m args below meth c b0 cA D L (fun z => MQ below (va_Qv (fun (u : zS) => ((), u) = z) (zB b0 cA D L) (zA b0 L)) args s 0 0 (zA b0 L)) (k13 v0 v1 v2 v3 v4 v5 σ) σ 13 ls []) (k82 : Nat → Nat → Int32 → Int32 → Int32 → Int32 → Int32 → Int32 → zS → Option (Unit × zS)) (h82 : ∀ (v0 : Nat) (v1 : Nat) (v2 : Int32) (v3 : Int32) (v4 : Int32) (v5 : Int32) (v6 : Int32) (v7 : Int32) (σ : zS) (ls : Array Slot), L[v0]? = some (0, 6) → L[v1]? = some (0, 3) → lv_has ls 9 [(0, .ref (b0 + v0)), (1, .ref (b0 + v1)), (2, .int v2), (3, .int v3), (4, .int v4), (5, .int v5), (6, .int v6), (7, .int v7)] → zJ p l e rmX6_play s m args below meth c b0 cA D L (fun z => MQ below (va_Qv (fun (u : zS) => ((), u) = z) (zB b0 cA D L) (zA b0 L)) args s 0 0 (zA b0 L)) (k82 v0 v1 v2 v3 v4 v5 v6 v7 σ) σ 82 ls []) (v0 : Nat) (v1 : Nat) (v2 : Int32) (v3 : Int32) (v4 : Int32) (v5 : Int32) (v6 : Int32) (v7 : Int32) (σ : zS) (ls : Array Slot) (hk_v0 : L[v0]? = some (0, 6)) (hk_v1 : L[v1]? = some (0, 3)) (hl : lv_has ls 9 [(0, .ref (b0 + v0)), (1, .ref (b0 + v1)), (2, .int v2), (3, .int v3), (4, .int v4), (5, .int v5), (6, .int v6), (7, .int v7)]) : zJ p l e rmX6_play s m args below meth c b0 cA D L (fun z => MQ below (va_Qv (fun (u : zS) => ((), u) = z) (zB b0 cA D L) (zA b0 L)) args s 0 0 (zA b0 L)) (bX6_play_82 k13 k82 v0 v1 v2 v3 v4 v5 v6 v7 σ) σ 82 ls [] := by
  unfold bX6_play_82
  refine zj_iload (pc' := 84) hC dX6_play_82 rfl (lv_at hl 7 rfl) ?_
  refine zj_bipush (pc' := 86) (v := (24 : Int32)) hC dX6_play_84 rfl rfl ?_
  refine zj_icmp_ge (tgt := 161) (pc' := 89) hC dX6_play_86 (by decide) rfl (fun c9 => ?_) (fun c9 => ?_)
  · exact jX6_play_161 hC k13 h13 v0 v1 v2 v3 v4 v5 σ ls hk_v0 hk_v1 (lv_sub hl [0, 1, 2, 3, 4, 5] rfl)
  · refine zj_iload (pc' := 91) hC dX6_play_89 rfl (lv_at hl 6 rfl) ?_
    refine zj_iload (pc' := 93) hC dX6_play_91 rfl (lv_at hl 7 rfl) ?_
    refine zj_ishr (pc' := 94) hC dX6_play_93 rfl ?_
    refine zj_iconst (pc' := 95) (v := (1 : Int32)) hC dX6_play_94 rfl rfl ?_
    refine zj_iand (pc' := 96) hC dX6_play_95 rfl ?_
    refine zj_if_ne (tgt := 102) (pc' := 99) hC dX6_play_96 (by decide) rfl (fun c10 => ?_) (fun c10 => ?_)
    · refine zj_aload_n (pc' := 103) hC dX6_play_102 rfl rfl (lv_at hl 0 rfl) ?_
      refine zj_aload_n (pc' := 104) hC dX6_play_103 rfl rfl (lv_at hl 1 rfl) ?_
      refine zj_getR (pc' := 107) hC hk_v1 fd_3_0 rfl tw_1_93 dX6_play_104 rfl (fun q11 hk_q11 => ?_)
      refine zj_iload (pc' := 109) hC dX6_play_107 rfl (lv_at hl 7 rfl) ?_
      refine zj_calliV (pc' := 112) (rest := [.ref (b0 + v0)]) hC (kX2_sortOf l b0 cA D L q11 v7 σ hk_q11) hk_q11 rfl tw_3_52 tw_3_49 tw_3_50 tw_3_51 tw_1_4 ddX2_sortOf rfl ⟨rfl, rfl⟩ ⟨by decide, by decide⟩ hl.1 (Nat.le_of_ble_eq_true rfl) rfl dX6_play_109 rfl (fun r13 σ12 => ?_)
      refine zj_iload (pc' := 114) hC dX6_play_112 rfl (lv_at hl 7 rfl) ?_
      refine zj_calliV (pc' := 117) (rest := []) hC (kX6_asked l b0 cA D L v0 r13 v7 σ12 hk_v0) hk_v0 rfl tw_3_57 tw_3_54 tw_3_56 ts_2_6 tw_1_1 ddX6_asked rfl ⟨rfl, rfl⟩ ⟨by decide, by decide⟩ hl.1 (Nat.le_of_ble_eq_true rfl) rfl dX6_play_114 rfl (fun r15 σ14 => ?_)
      refine zj_istore (pc' := 119) (lv' := [(8, .int r15), (0, .ref (b0 + v0)), (1, .ref (b0 + v1)), (2, .int v2), (3, .int v3), (4, .int v4), (5, .int v5), (6, .int v6), (7, .int v7)]) hC dX6_play_117 rfl hl (by decide) rfl (fun ls hl => ?_)
      refine zj_iload_n (pc' := 120) hC dX6_play_119 rfl rfl (lv_at hl 4 rfl) ?_
      refine zj_iload (pc' := 122) hC dX6_play_120 rfl (lv_at hl 0 rfl) ?_
      refine zj_iconst (pc' := 123) (v := (1 : Int32)) hC dX6_play_122 rfl rfl ?_
      refine zj_icmp_ne (tgt := 133) (pc' := 126) hC dX6_play_123 (by decide) rfl (fun c16 => ?_) (fun c16 => ?_)
      · refine zj_iconst (pc' := 134) (v := (0 : Int32)) hC dX6_play_133 rfl rfl ?_
        exact jX6_play_134 hC (bX6_play_155 k82) (jX6_play_155 hC k82 h82) v0 v1 v2 v4 v5 v6 v7 r15 v3 (0 : Int32) σ14 ls hk_v0 hk_v1 (lv_sub hl [1, 2, 3, 5, 6, 7, 8, 0] rfl)
      · refine zj_iconst (pc' := 127) (v := (1 : Int32)) hC dX6_play_126 rfl rfl ?_
        refine zj_iload (pc' := 129) hC dX6_play_127 rfl (lv_at hl 8 rfl) ?_
        refine zj_ishl (pc' := 130) hC dX6_play_129 rfl ?_
        refine zj_goto (tgt := 134) hC dX6_play_130 (by decide) ?_
        exact jX6_play_134 hC (bX6_play_155 k82) (jX6_play_155 hC k82 h82) v0 v1 v2 v4 v5 v6 v7 r15 v3 (((1 : Int32) <<< (v7 &&& 31))) σ14 ls hk_v0 hk_v1 (lv_sub hl [1, 2, 3, 5, 6, 7, 8, 0] rfl)
    · refine zj_goto (tgt := 155) hC dX6_play_99 (by decide) ?_
      exact jX6_play_155 hC k82 h82 v0 v1 v2 v3 v4 v5 v6 v7 σ ls hk_v0 hk_v1 (lv_sub hl [0, 1, 2, 3, 4, 5, 6, 7] rfl)
set_option maxRecDepth 100000 in
set_option maxHeartbeats 4000000 in
theorem lX6_play_82 {p : Program} {l : Launch} {e : Env} {s : State} {m : MethodId} {args : Array Value} {below : List Frame} {meth : Method} {c : Code} {b0 : Nat} {cA : Nat → ClassId} {D : va_G} {L : List (Nat × Nat)} (hC : zC p c s m args meth cX6_play 9 (none) (Cond.code yX6_play cX6_play 9 (none)) yX6_play.cls cA D) (k13 : Nat → Nat → Int32 → Int32 → Int32 → Int32 → zS → Option (Unit × zS)) (h13 : ∀ (v0 : Nat) (v1 : Nat) (v2 : Int32) (v3 : Int32) (v4 : Int32) (v5 : Int32) (σ : zS) (ls : Array Slot), L[v0]? = some (0, 6) → L[v1]? = some (0, 3) → lv_has ls 9 [(0, .ref (b0 + v0)), (1, .ref (b0 + v1)), (2, .int v2), (3, .int v3), (4, .int v4), (5, .int v5)] → zJ p l e rmX6_play s m args below meth c b0 cA D L (fun z => MQ below (va_Qv (fun (u : zS) => ((), u) = z) (zB b0 cA D L) (zA b0 L)) args s 0 0 (zA b0 L)) (k13 v0 v1 v2 v3 v4 v5 σ) σ 13 ls []) (n : Nat) : ∀ (v0 : Nat) (v1 : Nat) (v2 : Int32) (v3 : Int32) (v4 : Int32) (v5 : Int32) (v6 : Int32) (v7 : Int32) (σ : zS) (ls : Array Slot), L[v0]? = some (0, 6) → L[v1]? = some (0, 3) → lv_has ls 9 [(0, .ref (b0 + v0)), (1, .ref (b0 + v1)), (2, .int v2), (3, .int v3), (4, .int v4), (5, .int v5), (6, .int v6), (7, .int v7)] → zJ p l e rmX6_play s m args below meth c b0 cA D L (fun z => MQ below (va_Qv (fun (u : zS) => ((), u) = z) (zB b0 cA D L) (zA b0 L)) args s 0 0 (zA b0 L)) (fX6_play_82 k13 n v0 v1 v2 v3 v4 v5 v6 v7 σ) σ 82 ls [] := by
  induction n with
  | zero => intros; exact zj_none
  | succ n ih => exact jX6_play_82 hC k13 h13 (fX6_play_82 k13 n) ih
set_option maxRecDepth 100000 in
set_option maxHeartbeats 4000000 in
theorem jX6_play_13 {p : Program} {l : Launch} {e : Env} {s : State} {m : MethodId} {args : Array Value} {below : List Frame} {meth : Method} {c : Code} {b0 : Nat} {cA : Nat → ClassId} {D : va_G} {L : List (Nat × Nat)} (hC : zC p c s m args meth cX6_play 9 (none) (Cond.code yX6_play cX6_play 9 (none)) yX6_play.cls cA D) (k13 : Nat → Nat → Int32 → Int32 → Int32 → Int32 → zS → Option (Unit × zS)) (h13 : ∀ (v0 : Nat) (v1 : Nat) (v2 : Int32) (v3 : Int32) (v4 : Int32) (v5 : Int32) (σ : zS) (ls : Array Slot), L[v0]? = some (0, 6) → L[v1]? = some (0, 3) → lv_has ls 9 [(0, .ref (b0 + v0)), (1, .ref (b0 + v1)), (2, .int v2), (3, .int v3), (4, .int v4), (5, .int v5)] → zJ p l e rmX6_play s m args below meth c b0 cA D L (fun z => MQ below (va_Qv (fun (u : zS) => ((), u) = z) (zB b0 cA D L) (zA b0 L)) args s 0 0 (zA b0 L)) (k13 v0 v1 v2 v3 v4 v5 σ) σ 13 ls []) (v0 : Nat) (v1 : Nat) (v2 : Int32) (v3 : Int32) (v4 : Int32) (v5 : Int32) (σ : zS) (ls : Array Slot) (hk_v0 : L[v0]? = some (0, 6)) (hk_v1 : L[v1]? = some (0, 3)) (hl : lv_has ls 9 [(0, .ref (b0 + v0)), (1, .ref (b0 + v1)), (2, .int v2), (3, .int v3), (4, .int v4), (5, .int v5)]) : zJ p l e rmX6_play s m args below meth c b0 cA D L (fun z => MQ below (va_Qv (fun (u : zS) => ((), u) = z) (zB b0 cA D L) (zA b0 L)) args s 0 0 (zA b0 L)) (bX6_play_13 k13 v0 v1 v2 v3 v4 v5 σ) σ 13 ls [] := by
  unfold bX6_play_13
  refine zj_iload (pc' := 15) hC dX6_play_13 rfl (lv_at hl 5 rfl) ?_
  refine zj_aload_n (pc' := 16) hC dX6_play_15 rfl rfl (lv_at hl 1 rfl) ?_
  refine zj_getR (pc' := 19) hC hk_v1 fd_3_1 rfl tw_1_95 dX6_play_16 rfl (fun q17 hk_q17 => ?_)
  refine zj_getI (pc' := 22) hC hk_q17 fd_1_0 rfl tw_1_35 dX6_play_19 rfl ?_
  refine zj_icmp_ge (tgt := 193) (pc' := 25) hC dX6_play_22 (by decide) rfl (fun c18 => ?_) (fun c18 => ?_)
  · exact zj_vret hC dX6_play_193
  · refine zj_iload (pc' := 27) hC dX6_play_25 rfl (lv_at hl 5 rfl) ?_
    refine zj_bipush (pc' := 29) (v := (40 : Int32)) hC dX6_play_27 rfl rfl ?_
    refine zj_icmp_ge (tgt := 193) (pc' := 32) hC dX6_play_29 (by decide) rfl (fun c19 => ?_) (fun c19 => ?_)
    · exact zj_vret hC dX6_play_193
    · refine zj_aload_n (pc' := 33) hC dX6_play_32 rfl rfl (lv_at hl 0 rfl) ?_
      refine zj_getR (pc' := 36) hC hk_v0 fd_6_5 rfl tw_1_200 dX6_play_33 rfl (fun q20 hk_q20 => ?_)
      refine zj_aload_n (pc' := 37) hC dX6_play_36 rfl rfl (lv_at hl 1 rfl) ?_
      refine zj_iload (pc' := 39) hC dX6_play_37 rfl (lv_at hl 5 rfl) ?_
      refine zj_iload_n (pc' := 40) hC dX6_play_39 rfl rfl (lv_at hl 3 rfl) ?_
      refine zj_iload (pc' := 42) hC dX6_play_40 rfl (lv_at hl 4 rfl) ?_
      refine zj_callvV (pc' := 45) (rest := []) hC (kX0_stand l b0 cA D L q20 v1 v5 v3 v4 σ hk_q20 hk_v1) hk_q20 rfl tw_3_35 tw_3_32 tw_3_33 tw_3_34 tw_1_5 ddX0_stand rfl ⟨rfl, rfl⟩ ⟨by decide, by decide⟩ hl.1 (Nat.le_of_ble_eq_true rfl) rfl dX6_play_42 rfl (fun σ21 => ?_)
      refine zj_aload_n (pc' := 46) hC dX6_play_45 rfl rfl (lv_at hl 0 rfl) ?_
      refine zj_aload_n (pc' := 47) hC dX6_play_46 rfl rfl (lv_at hl 1 rfl) ?_
      refine zj_getR (pc' := 50) hC hk_v1 fd_3_0 rfl tw_1_93 dX6_play_47 rfl (fun q23 hk_q23 => ?_)
      refine zj_iload (pc' := 52) hC dX6_play_50 rfl (lv_at hl 5 rfl) ?_
      refine zj_iconst (pc' := 53) (v := (1 : Int32)) hC dX6_play_52 rfl rfl ?_
      refine zj_calliV (pc' := 56) (rest := []) hC (kX6_bought l b0 cA D L v0 q23 v5 (1 : Int32) σ21 hk_v0 hk_q23) hk_v0 rfl tw_3_44 tw_3_41 tw_3_43 ts_2_5 tw_1_1 ddX6_bought rfl ⟨rfl, rfl⟩ ⟨by decide, by decide⟩ hl.1 (Nat.le_of_ble_eq_true rfl) rfl dX6_play_53 rfl (fun r25 σ24 => ?_)
      refine zj_istore_n (pc' := 57) (lv' := [(3, .int r25), (0, .ref (b0 + v0)), (1, .ref (b0 + v1)), (2, .int v2), (4, .int v4), (5, .int v5)]) hC dX6_play_56 rfl rfl hl (by decide) rfl (fun ls hl => ?_)
      refine zj_aload_n (pc' := 58) hC dX6_play_57 rfl rfl (lv_at hl 1 rfl) ?_
      refine zj_aload_n (pc' := 59) hC dX6_play_58 rfl rfl (lv_at hl 2 rfl) ?_
      refine zj_getR (pc' := 62) hC hk_v1 fd_3_0 rfl tw_1_93 dX6_play_59 rfl (fun q26 hk_q26 => ?_)
      refine zj_iload (pc' := 64) hC dX6_play_62 rfl (lv_at hl 5 rfl) ?_
      refine zj_iconst (pc' := 65) (v := (2 : Int32)) hC dX6_play_64 rfl rfl ?_
      refine zj_calliV (pc' := 68) (rest := []) hC (kX6_bought l b0 cA D L v0 q26 v5 (2 : Int32) σ24 hk_v0 hk_q26) hk_v0 rfl tw_3_44 tw_3_41 tw_3_43 ts_2_5 tw_1_1 ddX6_bought rfl ⟨rfl, rfl⟩ ⟨by decide, by decide⟩ hl.1 (Nat.le_of_ble_eq_true rfl) rfl dX6_play_65 rfl (fun r28 σ27 => ?_)
      refine zj_istore (pc' := 70) (lv' := [(4, .int r28), (3, .int r25), (0, .ref (b0 + v0)), (1, .ref (b0 + v1)), (2, .int v2), (5, .int v5)]) hC dX6_play_68 rfl hl (by decide) rfl (fun ls hl => ?_)
      refine zj_aload_n (pc' := 71) hC dX6_play_70 rfl rfl (lv_at hl 3 rfl) ?_
      refine zj_getR (pc' := 74) hC hk_v1 fd_3_0 rfl tw_1_93 dX6_play_71 rfl (fun q29 hk_q29 => ?_)
      refine zj_calliV (pc' := 77) (rest := []) hC (kX2_unpaid l b0 cA D L q29 σ27 hk_q29) hk_q29 rfl tw_3_48 tw_3_45 tw_3_46 tw_3_47 tw_1_4 ddX2_unpaid rfl ⟨rfl, rfl⟩ ⟨by decide, by decide⟩ hl.1 (Nat.le_of_ble_eq_true rfl) rfl dX6_play_74 rfl (fun r31 σ30 => ?_)
      refine zj_istore (pc' := 79) (lv' := [(6, .int r31), (4, .int r28), (3, .int r25), (0, .ref (b0 + v0)), (1, .ref (b0 + v1)), (2, .int v2), (5, .int v5)]) hC dX6_play_77 rfl hl (by decide) rfl (fun ls hl => ?_)
      refine zj_iconst (pc' := 80) (v := (0 : Int32)) hC dX6_play_79 rfl rfl ?_
      refine zj_istore (pc' := 82) (lv' := [(7, .int (0 : Int32)), (6, .int r31), (4, .int r28), (3, .int r25), (0, .ref (b0 + v0)), (1, .ref (b0 + v1)), (2, .int v2), (5, .int v5)]) hC dX6_play_80 rfl hl (by decide) rfl (fun ls hl => ?_)
      exact lX6_play_82 hC k13 h13 zFU v0 v1 v2 r25 r28 v5 r31 (0 : Int32) σ30 ls hk_v0 hk_v1 (lv_sub hl [4, 5, 6, 3, 2, 7, 1, 0] rfl)
set_option maxRecDepth 100000 in
set_option maxHeartbeats 4000000 in
theorem lX6_play_13 {p : Program} {l : Launch} {e : Env} {s : State} {m : MethodId} {args : Array Value} {below : List Frame} {meth : Method} {c : Code} {b0 : Nat} {cA : Nat → ClassId} {D : va_G} {L : List (Nat × Nat)} (hC : zC p c s m args meth cX6_play 9 (none) (Cond.code yX6_play cX6_play 9 (none)) yX6_play.cls cA D)  (n : Nat) : ∀ (v0 : Nat) (v1 : Nat) (v2 : Int32) (v3 : Int32) (v4 : Int32) (v5 : Int32) (σ : zS) (ls : Array Slot), L[v0]? = some (0, 6) → L[v1]? = some (0, 3) → lv_has ls 9 [(0, .ref (b0 + v0)), (1, .ref (b0 + v1)), (2, .int v2), (3, .int v3), (4, .int v4), (5, .int v5)] → zJ p l e rmX6_play s m args below meth c b0 cA D L (fun z => MQ below (va_Qv (fun (u : zS) => ((), u) = z) (zB b0 cA D L) (zA b0 L)) args s 0 0 (zA b0 L)) (fX6_play_13  n v0 v1 v2 v3 v4 v5 σ) σ 13 ls [] := by
  induction n with
  | zero => intros; exact zj_none
  | succ n ih => exact jX6_play_13 hC (fX6_play_13  n) ih
set_option maxRecDepth 100000 in
set_option maxHeartbeats 4000000 in
theorem kX6_play (l : Launch) (b0 : Nat) (cA : Nat → ClassId) (D : va_G) (L : List (Nat × Nat)) (v0 : Nat) (v1 : Nat) (v2 : Int32) (σ : zS) (hk0 : L[v0]? = some (0, 6)) (hk1 : L[v1]? = some (0, 3)) : zMv l b0 cA D L yX6_play (Cond.code yX6_play cX6_play 9 (none)) rmX6_play [.ref (b0 + v0), .ref (b0 + v1), .int v2] σ (fX6_play v0 v1 v2 σ) := by
  refine zMv_of (by decide) (Nat.le_of_ble_eq_true rfl) ?_
  intro p e s m below meth c ls hC hl
  have hl : lv_has ls 9 [(0, .ref (b0 + v0)), (1, .ref (b0 + v1)), (2, .int v2)] := hl
  generalize ([.ref (b0 + v0), .ref (b0 + v1), .int v2] : List Value).toArray = args at hC ⊢
  unfold fX6_play
  refine zj_iconst (pc' := 1) (v := (0 : Int32)) hC dX6_play_0 rfl rfl ?_
  refine zj_istore_n (pc' := 2) (lv' := [(3, .int (0 : Int32)), (0, .ref (b0 + v0)), (1, .ref (b0 + v1)), (2, .int v2)]) hC dX6_play_1 rfl rfl hl (by decide) rfl (fun ls hl => ?_)
  refine zj_iconst (pc' := 3) (v := (0 : Int32)) hC dX6_play_2 rfl rfl ?_
  refine zj_istore (pc' := 5) (lv' := [(4, .int (0 : Int32)), (3, .int (0 : Int32)), (0, .ref (b0 + v0)), (1, .ref (b0 + v1)), (2, .int v2)]) hC dX6_play_3 rfl hl (by decide) rfl (fun ls hl => ?_)
  refine zj_aload_n (pc' := 6) hC dX6_play_5 rfl rfl (lv_at hl 3 rfl) ?_
  refine zj_iconst (pc' := 7) (v := (0 : Int32)) hC dX6_play_6 rfl rfl ?_
  refine zj_putI (pc' := 10) hC hk1 fd_3_4 rfl tw_1_101 rfl rfl rfl dX6_play_7 rfl (fun σ32 => ?_)
  refine zj_iconst (pc' := 11) (v := (0 : Int32)) hC dX6_play_10 rfl rfl ?_
  refine zj_istore (pc' := 13) (lv' := [(5, .int (0 : Int32)), (4, .int (0 : Int32)), (3, .int (0 : Int32)), (0, .ref (b0 + v0)), (1, .ref (b0 + v1)), (2, .int v2)]) hC dX6_play_11 rfl hl (by decide) rfl (fun ls hl => ?_)
  exact lX6_play_13 hC zFU v0 v1 v2 (0 : Int32) (0 : Int32) (0 : Int32) σ32 ls hk0 hk1 (lv_sub hl [3, 4, 5, 2, 1, 0] rfl)
-- X6_played
theorem ddX6_played : yX6_played.cls ≠ "java/lang/invoke/MethodHandle" ∧ yX6_played.cls ≠ "java/lang/invoke/VarHandle" ∧ (parseMethodDescriptor yX6_played.desc).map (fun d => d.parameters.length) = some 0 := by decide +kernel
abbrev rmX6_played : Room := { frames := 5, cells := 0, slots := 0, locals := 121 }
def fX6_played (v0 : Nat) (σ : zS) : Option (Nat × zS) :=
  if (σ.1 v0 2) = 0 then (bnd (σ.2 v0 0) (fun (q2 : Nat) => some (q2, σ))) else (bnd (σ.2 v0 0) (fun (q3 : Nat) => zb (fX6_play v0 q3 (0 : Int32) σ) (fun (_ : Unit) (σ4 : zS) => bnd (zI σ4 v0 2 (0 : Int32)) (fun (σ6 : zS) => bnd (σ6.2 v0 0) (fun (q7 : Nat) => some (q7, σ6))))))
set_option maxRecDepth 100000 in
set_option maxHeartbeats 4000000 in
theorem kX6_played (l : Launch) (b0 : Nat) (cA : Nat → ClassId) (D : va_G) (L : List (Nat × Nat)) (v0 : Nat) (σ : zS) (hk0 : L[v0]? = some (0, 6)) : zMr l b0 cA D L (0, 3) yX6_played (Cond.code yX6_played cX6_played 1 (some (Jvm.ClassFile.FieldType.object "PaidHouse$Evening"))) rmX6_played [.ref (b0 + v0)] σ (fX6_played v0 σ) := by
  refine zMr_of (by decide) (Nat.le_of_ble_eq_true rfl) ?_
  intro p e s m below meth c ls hC hl
  have hl : lv_has ls 1 [(0, .ref (b0 + v0))] := hl
  generalize ([.ref (b0 + v0)] : List Value).toArray = args at hC ⊢
  unfold fX6_played
  refine zj_aload_n (pc' := 1) hC dX6_played_0 rfl rfl (lv_at hl 0 rfl) ?_
  refine zj_getI (pc' := 4) hC hk0 fd_6_2 rfl tw_1_197 dX6_played_1 rfl ?_
  refine zj_if_eq (tgt := 21) (pc' := 7) hC dX6_played_4 (by decide) rfl (fun c1 => ?_) (fun c1 => ?_)
  · refine zj_aload_n (pc' := 22) hC dX6_played_21 rfl rfl (lv_at hl 0 rfl) ?_
    refine zj_getR (pc' := 25) hC hk0 fd_6_0 rfl tw_1_195 dX6_played_22 rfl (fun q2 hk_q2 => ?_)
    exact zj_aret (Or.inl ⟨_, rfl⟩) hC hk_q2 dX6_played_25
  · refine zj_aload_n (pc' := 8) hC dX6_played_7 rfl rfl (lv_at hl 0 rfl) ?_
    refine zj_aload_n (pc' := 9) hC dX6_played_8 rfl rfl (lv_at hl 0 rfl) ?_
    refine zj_getR (pc' := 12) hC hk0 fd_6_0 rfl tw_1_195 dX6_played_9 rfl (fun q3 hk_q3 => ?_)
    refine zj_iconst (pc' := 13) (v := (0 : Int32)) hC dX6_played_12 rfl rfl ?_
    refine zj_callvV (pc' := 16) (rest := []) hC (kX6_play l b0 cA D L v0 q3 (0 : Int32) σ hk0 hk_q3) hk0 rfl tw_3_31 tw_3_28 tw_3_30 ts_2_3 tw_1_1 ddX6_play rfl ⟨rfl, rfl⟩ ⟨by decide, by decide⟩ hl.1 (Nat.le_of_ble_eq_true rfl) rfl dX6_played_13 rfl (fun σ4 => ?_)
    refine zj_aload_n (pc' := 17) hC dX6_played_16 rfl rfl (lv_at hl 0 rfl) ?_
    refine zj_iconst (pc' := 18) (v := (0 : Int32)) hC dX6_played_17 rfl rfl ?_
    refine zj_putI (pc' := 21) hC hk0 fd_6_2 rfl tw_1_197 rfl rfl rfl dX6_played_18 rfl (fun σ6 => ?_)
    refine zj_aload_n (pc' := 22) hC dX6_played_21 rfl rfl (lv_at hl 0 rfl) ?_
    refine zj_getR (pc' := 25) hC hk0 fd_6_0 rfl tw_1_195 dX6_played_22 rfl (fun q7 hk_q7 => ?_)
    exact zj_aret (Or.inl ⟨_, rfl⟩) hC hk_q7 dX6_played_25
-- X6_shows
theorem ddX6_shows : yX6_shows.cls ≠ "java/lang/invoke/MethodHandle" ∧ yX6_shows.cls ≠ "java/lang/invoke/VarHandle" ∧ (parseMethodDescriptor yX6_shows.desc).map (fun d => d.parameters.length) = some 2 := by decide +kernel
abbrev rmX6_shows : Room := { frames := 6, cells := 0, slots := 0, locals := 141 }
def fX6_shows (v0 : Nat) (v1 : Int32) (v2 : Int32) (σ : zS) : Option (Int32 × zS) :=
  zb (fX6_isSeat v1 σ) (fun (r2 : Int32) (σ1 : zS) => if r2 = 0 then (some ((-1 : Int32), σ1)) else (bnd (σ1.2 v0 0) (fun (q4 : Nat) => bnd (σ1.2 q4 0) (fun (q5 : Nat) => zb (fX2_has q5 v1 σ1) (fun (r7 : Int32) (σ6 : zS) => if r7 = 0 then (some ((-1 : Int32), σ6)) else (zb (fX6_isNow v0 v2 σ6) (fun (r10 : Int32) (σ9 : zS) => if r10 = 0 then (some ((-1 : Int32), σ9)) else (zb (fX6_played v0 σ9) (fun (r13 : Nat) (σ12 : zS) => zb (fX3_shown r13 v1 v2 σ12) (fun (r15 : Int32) (σ14 : zS) => some (r15, σ14)))))))))))
set_option maxRecDepth 100000 in
set_option maxHeartbeats 4000000 in
theorem kX6_shows (l : Launch) (b0 : Nat) (cA : Nat → ClassId) (D : va_G) (L : List (Nat × Nat)) (v0 : Nat) (v1 : Int32) (v2 : Int32) (σ : zS) (hk0 : L[v0]? = some (0, 6)) : zMi l b0 cA D L yX6_shows (Cond.code yX6_shows cX6_shows 3 (some Jvm.ClassFile.FieldType.int)) rmX6_shows [.ref (b0 + v0), .int v1, .int v2] σ (fX6_shows v0 v1 v2 σ) := by
  refine zMi_of (by decide) (Nat.le_of_ble_eq_true rfl) ?_
  intro p e s m below meth c ls hC hl
  have hl : lv_has ls 3 [(0, .ref (b0 + v0)), (1, .int v1), (2, .int v2)] := hl
  generalize ([.ref (b0 + v0), .int v1, .int v2] : List Value).toArray = args at hC ⊢
  unfold fX6_shows
  refine zj_iload_n (pc' := 1) hC dX6_shows_0 rfl rfl (lv_at hl 1 rfl) ?_
  refine zj_callzS (pc' := 4) (rest := []) hC (kX6_isSeat l b0 cA D L v1 σ ) tw_2_20 tw_2_18 tw_2_19 tw_1_1 ddX6_isSeat rfl ⟨rfl, rfl⟩ ⟨by decide, by decide⟩ hl.1 (Nat.le_of_ble_eq_true rfl) rfl dX6_shows_1 rfl (fun r2 σ1 hb_r2 => ?_)
  refine zj_if_eq (tgt := 29) (pc' := 7) hC dX6_shows_4 (by decide) rfl (fun c3 => ?_) (fun c3 => ?_)
  · refine zj_iconst (pc' := 30) (v := (-1 : Int32)) hC dX6_shows_29 rfl rfl ?_
    exact zj_iret hC dX6_shows_30
  · refine zj_aload_n (pc' := 8) hC dX6_shows_7 rfl rfl (lv_at hl 0 rfl) ?_
    refine zj_getR (pc' := 11) hC hk0 fd_6_0 rfl tw_1_195 dX6_shows_8 rfl (fun q4 hk_q4 => ?_)
    refine zj_getR (pc' := 14) hC hk_q4 fd_3_0 rfl tw_1_93 dX6_shows_11 rfl (fun q5 hk_q5 => ?_)
    refine zj_iload_n (pc' := 15) hC dX6_shows_14 rfl rfl (lv_at hl 1 rfl) ?_
    refine zj_callzV (pc' := 18) (rest := []) hC (kX2_has l b0 cA D L q5 v1 σ1 hk_q5) hk_q5 rfl tw_2_40 tw_2_37 tw_2_38 tw_2_39 tw_1_4 ddX2_has rfl ⟨rfl, rfl⟩ ⟨by decide, by decide⟩ hl.1 (Nat.le_of_ble_eq_true rfl) rfl dX6_shows_15 rfl (fun r7 σ6 hb_r7 => ?_)
    refine zj_if_eq (tgt := 29) (pc' := 21) hC dX6_shows_18 (by decide) rfl (fun c8 => ?_) (fun c8 => ?_)
    · refine zj_iconst (pc' := 30) (v := (-1 : Int32)) hC dX6_shows_29 rfl rfl ?_
      exact zj_iret hC dX6_shows_30
    · refine zj_aload_n (pc' := 22) hC dX6_shows_21 rfl rfl (lv_at hl 0 rfl) ?_
      refine zj_iload_n (pc' := 23) hC dX6_shows_22 rfl rfl (lv_at hl 2 rfl) ?_
      refine zj_callzV (pc' := 26) (rest := []) hC (kX6_isNow l b0 cA D L v0 v2 σ6 hk0) hk0 rfl tw_3_19 tw_3_16 tw_3_18 ts_2_1 tw_1_1 ddX6_isNow rfl ⟨rfl, rfl⟩ ⟨by decide, by decide⟩ hl.1 (Nat.le_of_ble_eq_true rfl) rfl dX6_shows_23 rfl (fun r10 σ9 hb_r10 => ?_)
      refine zj_if_ne (tgt := 31) (pc' := 29) hC dX6_shows_26 (by decide) rfl (fun c11 => ?_) (fun c11 => ?_)
      · refine zj_aload_n (pc' := 32) hC dX6_shows_31 rfl rfl (lv_at hl 0 rfl) ?_
        refine zj_callrV (pc' := 35) (rest := []) hC (kX6_played l b0 cA D L v0 σ9 hk0) hk0 rfl tw_3_27 tw_3_24 tw_3_26 ts_2_2 tw_1_1 ddX6_played rfl ⟨rfl, rfl⟩ ⟨by decide, by decide⟩ hl.1 (Nat.le_of_ble_eq_true rfl) rfl dX6_shows_32 rfl (fun r13 σ12 hk_r13 => ?_)
        refine zj_iload_n (pc' := 36) hC dX6_shows_35 rfl rfl (lv_at hl 1 rfl) ?_
        refine zj_iload_n (pc' := 37) hC dX6_shows_36 rfl rfl (lv_at hl 2 rfl) ?_
        refine zj_calliV (pc' := 40) (rest := []) hC (kX3_shown l b0 cA D L r13 v1 v2 σ12 hk_r13) hk_r13 rfl tw_3_96 tw_3_93 tw_3_94 tw_3_95 tw_1_2 ddX3_shown rfl ⟨rfl, rfl⟩ ⟨by decide, by decide⟩ hl.1 (Nat.le_of_ble_eq_true rfl) rfl dX6_shows_37 rfl (fun r15 σ14 => ?_)
        exact zj_iret hC dX6_shows_40
      · refine zj_iconst (pc' := 30) (v := (-1 : Int32)) hC dX6_shows_29 rfl rfl ?_
        exact zj_iret hC dX6_shows_30
-- X6_loud
theorem ddX6_loud : yX6_loud.cls ≠ "java/lang/invoke/MethodHandle" ∧ yX6_loud.cls ≠ "java/lang/invoke/VarHandle" ∧ (parseMethodDescriptor yX6_loud.desc).map (fun d => d.parameters.length) = some 2 := by decide +kernel
abbrev rmX6_loud : Room := { frames := 6, cells := 0, slots := 0, locals := 141 }
def fX6_loud (v0 : Nat) (v1 : Int32) (v2 : Int32) (σ : zS) : Option (Int32 × zS) :=
  zb (fX6_isNow v0 v1 σ) (fun (r2 : Int32) (σ1 : zS) => if r2 = 0 then (some ((-1 : Int32), σ1)) else (zb (fX6_within v2 (0 : Int32) (1 : Int32) σ1) (fun (r5 : Int32) (σ4 : zS) => if r5 = 0 then (some ((-1 : Int32), σ4)) else (if v2 = 0 then (zb (fX6_played v0 σ4) (fun (r13 : Nat) (σ12 : zS) => zb (fX3_clapping r13 v1 σ12) (fun (r15 : Int32) (σ14 : zS) => some (r15, σ14)))) else (zb (fX6_played v0 σ4) (fun (r9 : Nat) (σ8 : zS) => zb (fX3_hissing r9 v1 σ8) (fun (r11 : Int32) (σ10 : zS) => some (r11, σ10))))))))
set_option maxRecDepth 100000 in
set_option maxHeartbeats 4000000 in
theorem kX6_loud (l : Launch) (b0 : Nat) (cA : Nat → ClassId) (D : va_G) (L : List (Nat × Nat)) (v0 : Nat) (v1 : Int32) (v2 : Int32) (σ : zS) (hk0 : L[v0]? = some (0, 6)) : zMi l b0 cA D L yX6_loud (Cond.code yX6_loud cX6_loud 3 (some Jvm.ClassFile.FieldType.int)) rmX6_loud [.ref (b0 + v0), .int v1, .int v2] σ (fX6_loud v0 v1 v2 σ) := by
  refine zMi_of (by decide) (Nat.le_of_ble_eq_true rfl) ?_
  intro p e s m below meth c ls hC hl
  have hl : lv_has ls 3 [(0, .ref (b0 + v0)), (1, .int v1), (2, .int v2)] := hl
  generalize ([.ref (b0 + v0), .int v1, .int v2] : List Value).toArray = args at hC ⊢
  unfold fX6_loud
  refine zj_aload_n (pc' := 1) hC dX6_loud_0 rfl rfl (lv_at hl 0 rfl) ?_
  refine zj_iload_n (pc' := 2) hC dX6_loud_1 rfl rfl (lv_at hl 1 rfl) ?_
  refine zj_callzV (pc' := 5) (rest := []) hC (kX6_isNow l b0 cA D L v0 v1 σ hk0) hk0 rfl tw_3_19 tw_3_16 tw_3_18 ts_2_1 tw_1_1 ddX6_isNow rfl ⟨rfl, rfl⟩ ⟨by decide, by decide⟩ hl.1 (Nat.le_of_ble_eq_true rfl) rfl dX6_loud_2 rfl (fun r2 σ1 hb_r2 => ?_)
  refine zj_if_eq (tgt := 17) (pc' := 8) hC dX6_loud_5 (by decide) rfl (fun c3 => ?_) (fun c3 => ?_)
  · refine zj_iconst (pc' := 18) (v := (-1 : Int32)) hC dX6_loud_17 rfl rfl ?_
    exact zj_iret hC dX6_loud_18
  · refine zj_iload_n (pc' := 9) hC dX6_loud_8 rfl rfl (lv_at hl 2 rfl) ?_
    refine zj_iconst (pc' := 10) (v := (0 : Int32)) hC dX6_loud_9 rfl rfl ?_
    refine zj_iconst (pc' := 11) (v := (1 : Int32)) hC dX6_loud_10 rfl rfl ?_
    refine zj_callzS (pc' := 14) (rest := []) hC (kX6_within l b0 cA D L v2 (0 : Int32) (1 : Int32) σ1 ) tw_2_13 tw_2_11 tw_2_12 tw_1_1 ddX6_within rfl ⟨rfl, rfl⟩ ⟨by decide, by decide⟩ hl.1 (Nat.le_of_ble_eq_true rfl) rfl dX6_loud_11 rfl (fun r5 σ4 hb_r5 => ?_)
    refine zj_if_ne (tgt := 19) (pc' := 17) hC dX6_loud_14 (by decide) rfl (fun c6 => ?_) (fun c6 => ?_)
    · refine zj_iload_n (pc' := 20) hC dX6_loud_19 rfl rfl (lv_at hl 2 rfl) ?_
      refine zj_if_ne (tgt := 34) (pc' := 23) hC dX6_loud_20 (by decide) rfl (fun c7 => ?_) (fun c7 => ?_)
      · refine zj_aload_n (pc' := 35) hC dX6_loud_34 rfl rfl (lv_at hl 0 rfl) ?_
        refine zj_callrV (pc' := 38) (rest := []) hC (kX6_played l b0 cA D L v0 σ4 hk0) hk0 rfl tw_3_27 tw_3_24 tw_3_26 ts_2_2 tw_1_1 ddX6_played rfl ⟨rfl, rfl⟩ ⟨by decide, by decide⟩ hl.1 (Nat.le_of_ble_eq_true rfl) rfl dX6_loud_35 rfl (fun r9 σ8 hk_r9 => ?_)
        refine zj_iload_n (pc' := 39) hC dX6_loud_38 rfl rfl (lv_at hl 1 rfl) ?_
        refine zj_calliV (pc' := 42) (rest := []) hC (kX3_hissing l b0 cA D L r9 v1 σ8 hk_r9) hk_r9 rfl tw_3_92 tw_3_102 tw_3_90 tw_3_91 tw_1_2 ddX3_hissing rfl ⟨rfl, rfl⟩ ⟨by decide, by decide⟩ hl.1 (Nat.le_of_ble_eq_true rfl) rfl dX6_loud_39 rfl (fun r11 σ10 => ?_)
        exact zj_iret hC dX6_loud_42
      · refine zj_aload_n (pc' := 24) hC dX6_loud_23 rfl rfl (lv_at hl 0 rfl) ?_
        refine zj_callrV (pc' := 27) (rest := []) hC (kX6_played l b0 cA D L v0 σ4 hk0) hk0 rfl tw_3_27 tw_3_24 tw_3_26 ts_2_2 tw_1_1 ddX6_played rfl ⟨rfl, rfl⟩ ⟨by decide, by decide⟩ hl.1 (Nat.le_of_ble_eq_true rfl) rfl dX6_loud_24 rfl (fun r13 σ12 hk_r13 => ?_)
        refine zj_iload_n (pc' := 28) hC dX6_loud_27 rfl rfl (lv_at hl 1 rfl) ?_
        refine zj_calliV (pc' := 31) (rest := []) hC (kX3_clapping l b0 cA D L r13 v1 σ12 hk_r13) hk_r13 rfl tw_3_83 tw_3_101 tw_3_81 tw_3_82 tw_1_2 ddX3_clapping rfl ⟨rfl, rfl⟩ ⟨by decide, by decide⟩ hl.1 (Nat.le_of_ble_eq_true rfl) rfl dX6_loud_28 rfl (fun r15 σ14 => ?_)
        refine zj_goto (tgt := 42) hC dX6_loud_31 (by decide) ?_
        exact zj_iret hC dX6_loud_42
    · refine zj_iconst (pc' := 18) (v := (-1 : Int32)) hC dX6_loud_17 rfl rfl ?_
      exact zj_iret hC dX6_loud_18
-- X6_house
theorem ddX6_house : yX6_house.cls ≠ "java/lang/invoke/MethodHandle" ∧ yX6_house.cls ≠ "java/lang/invoke/VarHandle" ∧ (parseMethodDescriptor yX6_house.desc).map (fun d => d.parameters.length) = some 0 := by decide +kernel
abbrev rmX6_house : Room := { frames := 6, cells := 0, slots := 0, locals := 141 }
def fX6_house (v0 : Nat) (σ : zS) : Option (Int32 × zS) :=
  zb (fX6_played v0 σ) (fun (r2 : Nat) (σ1 : zS) => some ((σ1.1 r2 4), σ1))
set_option maxRecDepth 100000 in
set_option maxHeartbeats 4000000 in
theorem kX6_house (l : Launch) (b0 : Nat) (cA : Nat → ClassId) (D : va_G) (L : List (Nat × Nat)) (v0 : Nat) (σ : zS) (hk0 : L[v0]? = some (0, 6)) : zMi l b0 cA D L yX6_house (Cond.code yX6_house cX6_house 1 (some Jvm.ClassFile.FieldType.int)) rmX6_house [.ref (b0 + v0)] σ (fX6_house v0 σ) := by
  refine zMi_of (by decide) (Nat.le_of_ble_eq_true rfl) ?_
  intro p e s m below meth c ls hC hl
  have hl : lv_has ls 1 [(0, .ref (b0 + v0))] := hl
  generalize ([.ref (b0 + v0)] : List Value).toArray = args at hC ⊢
  unfold fX6_house
  refine zj_aload_n (pc' := 1) hC dX6_house_0 rfl rfl (lv_at hl 0 rfl) ?_
  refine zj_callrV (pc' := 4) (rest := []) hC (kX6_played l b0 cA D L v0 σ hk0) hk0 rfl tw_3_27 tw_3_24 tw_3_26 ts_2_2 tw_1_1 ddX6_played rfl ⟨rfl, rfl⟩ ⟨by decide, by decide⟩ hl.1 (Nat.le_of_ble_eq_true rfl) rfl dX6_house_1 rfl (fun r2 σ1 hk_r2 => ?_)
  refine zj_getI (pc' := 7) hC hk_r2 fd_3_4 rfl tw_1_101 dX6_house_4 rfl ?_
  exact zj_iret hC dX6_house_7
-- X6_planned
theorem ddX6_planned : yX6_planned.cls ≠ "java/lang/invoke/MethodHandle" ∧ yX6_planned.cls ≠ "java/lang/invoke/VarHandle" ∧ (parseMethodDescriptor yX6_planned.desc).map (fun d => d.parameters.length) = some 2 := by decide +kernel
abbrev rmX6_planned : Room := { frames := 1, cells := 0, slots := 0, locals := 21 }
def bX6_planned_45 (k12 : Nat → Int32 → Nat → Int32 → Int32 → zS → Option (Int32 × zS)) (v0 : Nat) (v2 : Int32) (v3 : Nat) (v4 : Int32) (v5 : Int32) (σ : zS) : Option (Int32 × zS) :=
  k12 v0 v2 v3 v4 ((v5 + (1 : Int32))) σ
def bX6_planned_12 (k12 : Nat → Int32 → Nat → Int32 → Int32 → zS → Option (Int32 × zS)) (v0 : Nat) (v2 : Int32) (v3 : Nat) (v4 : Int32) (v5 : Int32) (σ : zS) : Option (Int32 × zS) :=
  bnd (σ.2 v0 0) (fun (q1 : Nat) => bnd (σ.2 q1 1) (fun (q2 : Nat) => if (σ.1 q2 0) ≤ v5 then (some (v4, σ)) else (if (40 : Int32) ≤ v5 then (some (v4, σ)) else (zX v5 40 (if (σ.1 v3 (v5).toNatClampNeg) = v2 then (bX6_planned_45 k12 v0 v2 v3 ((v4 + (1 : Int32))) v5 σ) else (bX6_planned_45 k12 v0 v2 v3 v4 v5 σ))))))
def fX6_planned_12  : Nat → Nat → Int32 → Nat → Int32 → Int32 → zS → Option (Int32 × zS)
  | 0, _, _, _, _, _, _ => none
  | n + 1, v0, v2, v3, v4, v5, σ => bX6_planned_12 (fX6_planned_12  n) v0 v2 v3 v4 v5 σ
def fX6_planned (v0 : Nat) (v1 : Int32) (v2 : Int32) (σ : zS) : Option (Int32 × zS) :=
  zb (fX6_planOf v0 v1 σ) (fun (r8 : Nat) (σ7 : zS) => fX6_planned_12 zFU v0 v2 r8 (0 : Int32) (0 : Int32) σ7)
set_option maxRecDepth 100000 in
set_option maxHeartbeats 4000000 in
theorem jX6_planned_45 {p : Program} {l : Launch} {e : Env} {s : State} {m : MethodId} {args : Array Value} {below : List Frame} {meth : Method} {c : Code} {b0 : Nat} {cA : Nat → ClassId} {D : va_G} {L : List (Nat × Nat)} (hC : zC p c s m args meth cX6_planned 6 (some Jvm.ClassFile.FieldType.int) (Cond.code yX6_planned cX6_planned 6 (some Jvm.ClassFile.FieldType.int)) yX6_planned.cls cA D) (k12 : Nat → Int32 → Nat → Int32 → Int32 → zS → Option (Int32 × zS)) (h12 : ∀ (v0 : Nat) (v2 : Int32) (v3 : Nat) (v4 : Int32) (v5 : Int32) (σ : zS) (ls : Array Slot), L[v0]? = some (0, 6) → L[v3]? = some (1, 40) → lv_has ls 6 [(0, .ref (b0 + v0)), (2, .int v2), (3, .ref (b0 + v3)), (4, .int v4), (5, .int v5)] → zJ p l e rmX6_planned s m args below meth c b0 cA D L (fun z => MQ below (va_Qi (fun (r : Int32) (u : zS) => (r, u) = z) (zB b0 cA D L) (zA b0 L)) args s 0 0 (zA b0 L)) (k12 v0 v2 v3 v4 v5 σ) σ 12 ls []) (v0 : Nat) (v2 : Int32) (v3 : Nat) (v4 : Int32) (v5 : Int32) (σ : zS) (ls : Array Slot) (hk_v0 : L[v0]? = some (0, 6)) (hk_v3 : L[v3]? = some (1, 40)) (hl : lv_has ls 6 [(0, .ref (b0 + v0)), (2, .int v2), (3, .ref (b0 + v3)), (4, .int v4), (5, .int v5)]) : zJ p l e rmX6_planned s m args below meth c b0 cA D L (fun z => MQ below (va_Qi (fun (r : Int32) (u : zS) => (r, u) = z) (zB b0 cA D L) (zA b0 L)) args s 0 0 (zA b0 L)) (bX6_planned_45 k12 v0 v2 v3 v4 v5 σ) σ 45 ls [] := by
  unfold bX6_planned_45
  refine zj_iinc (pc' := 48) (k0 := 4) (v := (v5 + (1 : Int32))) (lv' := [(5, .int (v5 + (1 : Int32))), (0, .ref (b0 + v0)), (2, .int v2), (3, .ref (b0 + v3)), (4, .int v4)]) hC dX6_planned_45 rfl hl rfl rfl (by decide) rfl (fun ls hl => ?_)
  refine zj_goto (tgt := 12) hC dX6_planned_48 (by decide) ?_
  exact h12 v0 v2 v3 v4 ((v5 + (1 : Int32))) σ ls hk_v0 hk_v3 (lv_sub hl [1, 2, 3, 4, 0] rfl)
set_option maxRecDepth 100000 in
set_option maxHeartbeats 4000000 in
theorem jX6_planned_12 {p : Program} {l : Launch} {e : Env} {s : State} {m : MethodId} {args : Array Value} {below : List Frame} {meth : Method} {c : Code} {b0 : Nat} {cA : Nat → ClassId} {D : va_G} {L : List (Nat × Nat)} (hC : zC p c s m args meth cX6_planned 6 (some Jvm.ClassFile.FieldType.int) (Cond.code yX6_planned cX6_planned 6 (some Jvm.ClassFile.FieldType.int)) yX6_planned.cls cA D) (k12 : Nat → Int32 → Nat → Int32 → Int32 → zS → Option (Int32 × zS)) (h12 : ∀ (v0 : Nat) (v2 : Int32) (v3 : Nat) (v4 : Int32) (v5 : Int32) (σ : zS) (ls : Array Slot), L[v0]? = some (0, 6) → L[v3]? = some (1, 40) → lv_has ls 6 [(0, .ref (b0 + v0)), (2, .int v2), (3, .ref (b0 + v3)), (4, .int v4), (5, .int v5)] → zJ p l e rmX6_planned s m args below meth c b0 cA D L (fun z => MQ below (va_Qi (fun (r : Int32) (u : zS) => (r, u) = z) (zB b0 cA D L) (zA b0 L)) args s 0 0 (zA b0 L)) (k12 v0 v2 v3 v4 v5 σ) σ 12 ls []) (v0 : Nat) (v2 : Int32) (v3 : Nat) (v4 : Int32) (v5 : Int32) (σ : zS) (ls : Array Slot) (hk_v0 : L[v0]? = some (0, 6)) (hk_v3 : L[v3]? = some (1, 40)) (hl : lv_has ls 6 [(0, .ref (b0 + v0)), (2, .int v2), (3, .ref (b0 + v3)), (4, .int v4), (5, .int v5)]) : zJ p l e rmX6_planned s m args below meth c b0 cA D L (fun z => MQ below (va_Qi (fun (r : Int32) (u : zS) => (r, u) = z) (zB b0 cA D L) (zA b0 L)) args s 0 0 (zA b0 L)) (bX6_planned_12 k12 v0 v2 v3 v4 v5 σ) σ 12 ls [] := by
  unfold bX6_planned_12
  refine zj_iload (pc' := 14) hC dX6_planned_12 rfl (lv_at hl 4 rfl) ?_
  refine zj_aload_n (pc' := 15) hC dX6_planned_14 rfl rfl (lv_at hl 0 rfl) ?_
  refine zj_getR (pc' := 18) hC hk_v0 fd_6_0 rfl tw_1_195 dX6_planned_15 rfl (fun q1 hk_q1 => ?_)
  refine zj_getR (pc' := 21) hC hk_q1 fd_3_1 rfl tw_1_95 dX6_planned_18 rfl (fun q2 hk_q2 => ?_)
  refine zj_getI (pc' := 24) hC hk_q2 fd_1_0 rfl tw_1_35 dX6_planned_21 rfl ?_
  refine zj_icmp_ge (tgt := 51) (pc' := 27) hC dX6_planned_24 (by decide) rfl (fun c3 => ?_) (fun c3 => ?_)
  · refine zj_iload (pc' := 53) hC dX6_planned_51 rfl (lv_at hl 3 rfl) ?_
    exact zj_iret hC dX6_planned_53
  · refine zj_iload (pc' := 29) hC dX6_planned_27 rfl (lv_at hl 4 rfl) ?_
    refine zj_aload_n (pc' := 30) hC dX6_planned_29 rfl rfl (lv_at hl 2 rfl) ?_
    refine zj_alen (pc' := 31) (v := (40 : Int32)) hC hk_v3 (by decide) rfl dX6_planned_30 rfl ?_
    refine zj_icmp_ge (tgt := 51) (pc' := 34) hC dX6_planned_31 (by decide) rfl (fun c4 => ?_) (fun c4 => ?_)
    · refine zj_iload (pc' := 53) hC dX6_planned_51 rfl (lv_at hl 3 rfl) ?_
      exact zj_iret hC dX6_planned_53
    · refine zj_aload_n (pc' := 35) hC dX6_planned_34 rfl rfl (lv_at hl 2 rfl) ?_
      refine zj_iload (pc' := 37) hC dX6_planned_35 rfl (lv_at hl 4 rfl) ?_
      refine zj_iald (pc' := 38) hC hk_v3 dX6_planned_37 rfl (fun g5 => ?_)
      refine zj_iload_n (pc' := 39) hC dX6_planned_38 rfl rfl (lv_at hl 1 rfl) ?_
      refine zj_icmp_ne (tgt := 45) (pc' := 42) hC dX6_planned_39 (by decide) rfl (fun c6 => ?_) (fun c6 => ?_)
      · exact jX6_planned_45 hC k12 h12 v0 v2 v3 v4 v5 σ ls hk_v0 hk_v3 (lv_sub hl [0, 1, 2, 3, 4] rfl)
      · refine zj_iinc (pc' := 45) (k0 := 3) (v := (v4 + (1 : Int32))) (lv' := [(4, .int (v4 + (1 : Int32))), (0, .ref (b0 + v0)), (2, .int v2), (3, .ref (b0 + v3)), (5, .int v5)]) hC dX6_planned_42 rfl hl rfl rfl (by decide) rfl (fun ls hl => ?_)
        exact jX6_planned_45 hC k12 h12 v0 v2 v3 ((v4 + (1 : Int32))) v5 σ ls hk_v0 hk_v3 (lv_sub hl [1, 2, 3, 0, 4] rfl)
set_option maxRecDepth 100000 in
set_option maxHeartbeats 4000000 in
theorem lX6_planned_12 {p : Program} {l : Launch} {e : Env} {s : State} {m : MethodId} {args : Array Value} {below : List Frame} {meth : Method} {c : Code} {b0 : Nat} {cA : Nat → ClassId} {D : va_G} {L : List (Nat × Nat)} (hC : zC p c s m args meth cX6_planned 6 (some Jvm.ClassFile.FieldType.int) (Cond.code yX6_planned cX6_planned 6 (some Jvm.ClassFile.FieldType.int)) yX6_planned.cls cA D)  (n : Nat) : ∀ (v0 : Nat) (v2 : Int32) (v3 : Nat) (v4 : Int32) (v5 : Int32) (σ : zS) (ls : Array Slot), L[v0]? = some (0, 6) → L[v3]? = some (1, 40) → lv_has ls 6 [(0, .ref (b0 + v0)), (2, .int v2), (3, .ref (b0 + v3)), (4, .int v4), (5, .int v5)] → zJ p l e rmX6_planned s m args below meth c b0 cA D L (fun z => MQ below (va_Qi (fun (r : Int32) (u : zS) => (r, u) = z) (zB b0 cA D L) (zA b0 L)) args s 0 0 (zA b0 L)) (fX6_planned_12  n v0 v2 v3 v4 v5 σ) σ 12 ls [] := by
  induction n with
  | zero => intros; exact zj_none
  | succ n ih => exact jX6_planned_12 hC (fX6_planned_12  n) ih
set_option maxRecDepth 100000 in
set_option maxHeartbeats 4000000 in
theorem kX6_planned (l : Launch) (b0 : Nat) (cA : Nat → ClassId) (D : va_G) (L : List (Nat × Nat)) (v0 : Nat) (v1 : Int32) (v2 : Int32) (σ : zS) (hk0 : L[v0]? = some (0, 6)) : zMi l b0 cA D L yX6_planned (Cond.code yX6_planned cX6_planned 6 (some Jvm.ClassFile.FieldType.int)) rmX6_planned [.ref (b0 + v0), .int v1, .int v2] σ (fX6_planned v0 v1 v2 σ) := by
  refine zMi_of (by decide) (Nat.le_of_ble_eq_true rfl) ?_
  intro p e s m below meth c ls hC hl
  have hl : lv_has ls 6 [(0, .ref (b0 + v0)), (1, .int v1), (2, .int v2)] := hl
  generalize ([.ref (b0 + v0), .int v1, .int v2] : List Value).toArray = args at hC ⊢
  unfold fX6_planned
  refine zj_aload_n (pc' := 1) hC dX6_planned_0 rfl rfl (lv_at hl 0 rfl) ?_
  refine zj_iload_n (pc' := 2) hC dX6_planned_1 rfl rfl (lv_at hl 1 rfl) ?_
  refine zj_callrV (pc' := 5) (rest := []) hC (kX6_planOf l b0 cA D L v0 v1 σ hk0) hk0 rfl tw_2_60 tw_2_57 tw_2_59 ts_1_0 tw_1_1 ddX6_planOf rfl ⟨rfl, rfl⟩ ⟨by decide, by decide⟩ hl.1 (Nat.le_of_ble_eq_true rfl) rfl dX6_planned_2 rfl (fun r8 σ7 hk_r8 => ?_)
  refine zj_astore_n (pc' := 6) (lv' := [(3, .ref (b0 + r8)), (0, .ref (b0 + v0)), (1, .int v1), (2, .int v2)]) hC dX6_planned_5 rfl rfl hl (by decide) rfl (fun ls hl => ?_)
  refine zj_iconst (pc' := 7) (v := (0 : Int32)) hC dX6_planned_6 rfl rfl ?_
  refine zj_istore (pc' := 9) (lv' := [(4, .int (0 : Int32)), (3, .ref (b0 + r8)), (0, .ref (b0 + v0)), (1, .int v1), (2, .int v2)]) hC dX6_planned_7 rfl hl (by decide) rfl (fun ls hl => ?_)
  refine zj_iconst (pc' := 10) (v := (0 : Int32)) hC dX6_planned_9 rfl rfl ?_
  refine zj_istore (pc' := 12) (lv' := [(5, .int (0 : Int32)), (4, .int (0 : Int32)), (3, .ref (b0 + r8)), (0, .ref (b0 + v0)), (1, .int v1), (2, .int v2)]) hC dX6_planned_10 rfl hl (by decide) rfl (fun ls hl => ?_)
  exact lX6_planned_12 hC zFU v0 v2 r8 (0 : Int32) (0 : Int32) σ7 ls hk0 hk_r8 (lv_sub hl [3, 5, 2, 1, 0] rfl)
-- X6_costs
theorem ddX6_costs : yX6_costs.cls ≠ "java/lang/invoke/MethodHandle" ∧ yX6_costs.cls ≠ "java/lang/invoke/VarHandle" ∧ (parseMethodDescriptor yX6_costs.desc).map (fun d => d.parameters.length) = some 1 := by decide +kernel
abbrev rmX6_costs : Room := { frames := 2, cells := 0, slots := 0, locals := 46 }
def fX6_costs (v0 : Nat) (v1 : Int32) (σ : zS) : Option (Int32 × zS) :=
  zb (fX6_isStick v1 σ) (fun (r2 : Int32) (σ1 : zS) => if r2 = 0 then (some ((-1 : Int32), σ1)) else (zb (fX6_planned v0 v1 (1 : Int32) σ1) (fun (r5 : Int32) (σ4 : zS) => zb (fX6_planned v0 v1 (2 : Int32) σ4) (fun (r7 : Int32) (σ6 : zS) => bnd (((r5 * (σ4.1 v0 13)) + (r7 * (σ6.1 v0 14)))) (fun (x8 : Int32) => bnd (σ6.2 v0 0) (fun (q9 : Nat) => bnd (σ6.2 q9 0) (fun (q10 : Nat) => zb (fX2_paidBy q10 v1 σ6) (fun (r12 : Int32) (σ11 : zS) => zb (fJ6_bitCount_0f7a4 r12 σ11) (fun (r14 : Int32) (σ13 : zS) => some ((x8 * r14), σ13))))))))))
set_option maxRecDepth 100000 in
set_option maxHeartbeats 4000000 in
theorem kX6_costs (l : Launch) (b0 : Nat) (cA : Nat → ClassId) (D : va_G) (L : List (Nat × Nat)) (v0 : Nat) (v1 : Int32) (σ : zS) (hk0 : L[v0]? = some (0, 6)) : zMi l b0 cA D L yX6_costs (Cond.code yX6_costs cX6_costs 3 (some Jvm.ClassFile.FieldType.int)) rmX6_costs [.ref (b0 + v0), .int v1] σ (fX6_costs v0 v1 σ) := by
  refine zMi_of (by decide) (Nat.le_of_ble_eq_true rfl) ?_
  intro p e s m below meth c ls hC hl
  have hl : lv_has ls 3 [(0, .ref (b0 + v0)), (1, .int v1)] := hl
  generalize ([.ref (b0 + v0), .int v1] : List Value).toArray = args at hC ⊢
  unfold fX6_costs
  refine zj_iload_n (pc' := 1) hC dX6_costs_0 rfl rfl (lv_at hl 1 rfl) ?_
  refine zj_callzS (pc' := 4) (rest := []) hC (kX6_isStick l b0 cA D L v1 σ ) tw_2_56 tw_2_54 tw_2_55 tw_1_1 ddX6_isStick rfl ⟨rfl, rfl⟩ ⟨by decide, by decide⟩ hl.1 (Nat.le_of_ble_eq_true rfl) rfl dX6_costs_1 rfl (fun r2 σ1 hb_r2 => ?_)
  refine zj_if_ne (tgt := 9) (pc' := 7) hC dX6_costs_4 (by decide) rfl (fun c3 => ?_) (fun c3 => ?_)
  · refine zj_aload_n (pc' := 10) hC dX6_costs_9 rfl rfl (lv_at hl 0 rfl) ?_
    refine zj_iload_n (pc' := 11) hC dX6_costs_10 rfl rfl (lv_at hl 1 rfl) ?_
    refine zj_iconst (pc' := 12) (v := (1 : Int32)) hC dX6_costs_11 rfl rfl ?_
    refine zj_calliV (pc' := 15) (rest := []) hC (kX6_planned l b0 cA D L v0 v1 (1 : Int32) σ1 hk0) hk0 rfl tw_3_114 tw_3_111 tw_3_113 ts_2_8 tw_1_1 ddX6_planned rfl ⟨rfl, rfl⟩ ⟨by decide, by decide⟩ hl.1 (Nat.le_of_ble_eq_true rfl) rfl dX6_costs_12 rfl (fun r5 σ4 => ?_)
    refine zj_aload_n (pc' := 16) hC dX6_costs_15 rfl rfl (lv_at hl 0 rfl) ?_
    refine zj_getI (pc' := 19) hC hk0 fd_6_13 rfl tw_1_208 dX6_costs_16 rfl ?_
    refine zj_imul (pc' := 20) hC dX6_costs_19 rfl ?_
    refine zj_aload_n (pc' := 21) hC dX6_costs_20 rfl rfl (lv_at hl 0 rfl) ?_
    refine zj_iload_n (pc' := 22) hC dX6_costs_21 rfl rfl (lv_at hl 1 rfl) ?_
    refine zj_iconst (pc' := 23) (v := (2 : Int32)) hC dX6_costs_22 rfl rfl ?_
    refine zj_calliV (pc' := 26) (rest := [.int (r5 * (σ4.1 v0 13))]) hC (kX6_planned l b0 cA D L v0 v1 (2 : Int32) σ4 hk0) hk0 rfl tw_3_114 tw_3_111 tw_3_113 ts_2_8 tw_1_1 ddX6_planned rfl ⟨rfl, rfl⟩ ⟨by decide, by decide⟩ hl.1 (Nat.le_of_ble_eq_true rfl) rfl dX6_costs_23 rfl (fun r7 σ6 => ?_)
    refine zj_aload_n (pc' := 27) hC dX6_costs_26 rfl rfl (lv_at hl 0 rfl) ?_
    refine zj_getI (pc' := 30) hC hk0 fd_6_14 rfl tw_1_209 dX6_costs_27 rfl ?_
    refine zj_imul (pc' := 31) hC dX6_costs_30 rfl ?_
    refine zj_iadd (pc' := 32) hC dX6_costs_31 rfl ?_
    refine zj_nmi (fun x8 => ?_)
    refine zj_istore_n (pc' := 33) (lv' := [(2, .int x8), (0, .ref (b0 + v0)), (1, .int v1)]) hC dX6_costs_32 rfl rfl hl (by decide) rfl (fun ls hl => ?_)
    refine zj_iload_n (pc' := 34) hC dX6_costs_33 rfl rfl (lv_at hl 0 rfl) ?_
    refine zj_aload_n (pc' := 35) hC dX6_costs_34 rfl rfl (lv_at hl 1 rfl) ?_
    refine zj_getR (pc' := 38) hC hk0 fd_6_0 rfl tw_1_195 dX6_costs_35 rfl (fun q9 hk_q9 => ?_)
    refine zj_getR (pc' := 41) hC hk_q9 fd_3_0 rfl tw_1_93 dX6_costs_38 rfl (fun q10 hk_q10 => ?_)
    refine zj_iload_n (pc' := 42) hC dX6_costs_41 rfl rfl (lv_at hl 2 rfl) ?_
    refine zj_calliV (pc' := 45) (rest := [.int x8]) hC (kX2_paidBy l b0 cA D L q10 v1 σ6 hk_q10) hk_q10 rfl tw_3_118 tw_3_115 tw_3_116 tw_3_117 tw_1_4 ddX2_paidBy rfl ⟨rfl, rfl⟩ ⟨by decide, by decide⟩ hl.1 (Nat.le_of_ble_eq_true rfl) rfl dX6_costs_42 rfl (fun r12 σ11 => ?_)
    refine zj_calliS (pc' := 48) (rest := [.int x8]) hC (kJ6_bitCount_0f7a4 l b0 cA D L r12 σ11 ) tw_3_68 tw_3_119 tw_3_67 tw_1_15 ddJ6_bitCount_0f7a4 rfl ⟨rfl, rfl⟩ ⟨by decide, by decide⟩ hl.1 (Nat.le_of_ble_eq_true rfl) rfl dX6_costs_45 rfl (fun r14 σ13 => ?_)
    refine zj_imul (pc' := 49) hC dX6_costs_48 rfl ?_
    exact zj_iret hC dX6_costs_49
  · refine zj_iconst (pc' := 8) (v := (-1 : Int32)) hC dX6_costs_7 rfl rfl ?_
    exact zj_iret hC dX6_costs_8
-- X6_houseWith
theorem ddX6_houseWith : yX6_houseWith.cls ≠ "java/lang/invoke/MethodHandle" ∧ yX6_houseWith.cls ≠ "java/lang/invoke/VarHandle" ∧ (parseMethodDescriptor yX6_houseWith.desc).map (fun d => d.parameters.length) = some 2 := by decide +kernel
abbrev rmX6_houseWith : Room := { frames := 5, cells := 0, slots := 0, locals := 121 }
def fX6_houseWith (v0 : Nat) (v1 : Int32) (v2 : Int32) (σ : zS) : Option (Int32 × zS) :=
  bnd (σ.2 v0 1) (fun (q1 : Nat) => bnd (σ.2 q1 0) (fun (q2 : Nat) => bnd (σ.2 v0 0) (fun (q3 : Nat) => bnd (σ.2 q3 0) (fun (q4 : Nat) => zb (fX2_copy q2 q4 σ) (fun (_ : Unit) (σ5 : zS) => bnd (σ5.2 v0 1) (fun (q7 : Nat) => bnd (σ5.2 q7 0) (fun (q8 : Nat) => zb (fX2_hireAll q8 v1 v2 σ5) (fun (_ : Unit) (σ9 : zS) => bnd (σ9.2 v0 1) (fun (q11 : Nat) => zb (fX6_play v0 q11 (0 : Int32) σ9) (fun (_ : Unit) (σ12 : zS) => bnd (σ12.2 v0 1) (fun (q14 : Nat) => some ((σ12.1 q14 4), σ12))))))))))))
set_option maxRecDepth 100000 in
set_option maxHeartbeats 4000000 in
theorem kX6_houseWith (l : Launch) (b0 : Nat) (cA : Nat → ClassId) (D : va_G) (L : List (Nat × Nat)) (v0 : Nat) (v1 : Int32) (v2 : Int32) (σ : zS) (hk0 : L[v0]? = some (0, 6)) : zMi l b0 cA D L yX6_houseWith (Cond.code yX6_houseWith cX6_houseWith 3 (some Jvm.ClassFile.FieldType.int)) rmX6_houseWith [.ref (b0 + v0), .int v1, .int v2] σ (fX6_houseWith v0 v1 v2 σ) := by
  refine zMi_of (by decide) (Nat.le_of_ble_eq_true rfl) ?_
  intro p e s m below meth c ls hC hl
  have hl : lv_has ls 3 [(0, .ref (b0 + v0)), (1, .int v1), (2, .int v2)] := hl
  generalize ([.ref (b0 + v0), .int v1, .int v2] : List Value).toArray = args at hC ⊢
  unfold fX6_houseWith
  refine zj_aload_n (pc' := 1) hC dX6_houseWith_0 rfl rfl (lv_at hl 0 rfl) ?_
  refine zj_getR (pc' := 4) hC hk0 fd_6_1 rfl tw_1_196 dX6_houseWith_1 rfl (fun q1 hk_q1 => ?_)
  refine zj_getR (pc' := 7) hC hk_q1 fd_3_0 rfl tw_1_93 dX6_houseWith_4 rfl (fun q2 hk_q2 => ?_)
  refine zj_aload_n (pc' := 8) hC dX6_houseWith_7 rfl rfl (lv_at hl 0 rfl) ?_
  refine zj_getR (pc' := 11) hC hk0 fd_6_0 rfl tw_1_195 dX6_houseWith_8 rfl (fun q3 hk_q3 => ?_)
  refine zj_getR (pc' := 14) hC hk_q3 fd_3_0 rfl tw_1_93 dX6_houseWith_11 rfl (fun q4 hk_q4 => ?_)
  refine zj_callvV (pc' := 17) (rest := []) hC (kX2_copy l b0 cA D L q2 q4 σ hk_q2 hk_q4) hk_q2 rfl tw_3_135 tw_3_132 tw_3_133 tw_3_134 tw_1_4 ddX2_copy rfl ⟨rfl, rfl⟩ ⟨by decide, by decide⟩ hl.1 (Nat.le_of_ble_eq_true rfl) rfl dX6_houseWith_14 rfl (fun σ5 => ?_)
  refine zj_aload_n (pc' := 18) hC dX6_houseWith_17 rfl rfl (lv_at hl 0 rfl) ?_
  refine zj_getR (pc' := 21) hC hk0 fd_6_1 rfl tw_1_196 dX6_houseWith_18 rfl (fun q7 hk_q7 => ?_)
  refine zj_getR (pc' := 24) hC hk_q7 fd_3_0 rfl tw_1_93 dX6_houseWith_21 rfl (fun q8 hk_q8 => ?_)
  refine zj_iload_n (pc' := 25) hC dX6_houseWith_24 rfl rfl (lv_at hl 1 rfl) ?_
  refine zj_iload_n (pc' := 26) hC dX6_houseWith_25 rfl rfl (lv_at hl 2 rfl) ?_
  refine zj_callvV (pc' := 29) (rest := []) hC (kX2_hireAll l b0 cA D L q8 v1 v2 σ5 hk_q8) hk_q8 rfl tw_3_139 tw_3_136 tw_3_137 tw_3_138 tw_1_4 ddX2_hireAll rfl ⟨rfl, rfl⟩ ⟨by decide, by decide⟩ hl.1 (Nat.le_of_ble_eq_true rfl) rfl dX6_houseWith_26 rfl (fun σ9 => ?_)
  refine zj_aload_n (pc' := 30) hC dX6_houseWith_29 rfl rfl (lv_at hl 0 rfl) ?_
  refine zj_aload_n (pc' := 31) hC dX6_houseWith_30 rfl rfl (lv_at hl 0 rfl) ?_
  refine zj_getR (pc' := 34) hC hk0 fd_6_1 rfl tw_1_196 dX6_houseWith_31 rfl (fun q11 hk_q11 => ?_)
  refine zj_iconst (pc' := 35) (v := (0 : Int32)) hC dX6_houseWith_34 rfl rfl ?_
  refine zj_callvV (pc' := 38) (rest := []) hC (kX6_play l b0 cA D L v0 q11 (0 : Int32) σ9 hk0 hk_q11) hk0 rfl tw_3_31 tw_3_28 tw_3_30 ts_2_3 tw_1_1 ddX6_play rfl ⟨rfl, rfl⟩ ⟨by decide, by decide⟩ hl.1 (Nat.le_of_ble_eq_true rfl) rfl dX6_houseWith_35 rfl (fun σ12 => ?_)
  refine zj_aload_n (pc' := 39) hC dX6_houseWith_38 rfl rfl (lv_at hl 0 rfl) ?_
  refine zj_getR (pc' := 42) hC hk0 fd_6_1 rfl tw_1_196 dX6_houseWith_39 rfl (fun q14 hk_q14 => ?_)
  refine zj_getI (pc' := 45) hC hk_q14 fd_3_4 rfl tw_1_101 dX6_houseWith_42 rfl ?_
  exact zj_iret hC dX6_houseWith_45
-- X6_added
theorem ddX6_added : yX6_added.cls ≠ "java/lang/invoke/MethodHandle" ∧ yX6_added.cls ≠ "java/lang/invoke/VarHandle" ∧ (parseMethodDescriptor yX6_added.desc).map (fun d => d.parameters.length) = some 1 := by decide +kernel
abbrev rmX6_added : Room := { frames := 6, cells := 0, slots := 0, locals := 143 }
def fX6_added (v0 : Nat) (v1 : Int32) (σ : zS) : Option (Int32 × zS) :=
  zb (fX6_played v0 σ) (fun (r2 : Nat) (σ1 : zS) => zb (fX6_houseWith v0 v1 (0 : Int32) σ1) (fun (r4 : Int32) (σ3 : zS) => some (((σ1.1 r2 4) - r4), σ3)))
set_option maxRecDepth 100000 in
set_option maxHeartbeats 4000000 in
theorem kX6_added (l : Launch) (b0 : Nat) (cA : Nat → ClassId) (D : va_G) (L : List (Nat × Nat)) (v0 : Nat) (v1 : Int32) (σ : zS) (hk0 : L[v0]? = some (0, 6)) : zMi l b0 cA D L yX6_added (Cond.code yX6_added cX6_added 2 (some Jvm.ClassFile.FieldType.int)) rmX6_added [.ref (b0 + v0), .int v1] σ (fX6_added v0 v1 σ) := by
  refine zMi_of (by decide) (Nat.le_of_ble_eq_true rfl) ?_
  intro p e s m below meth c ls hC hl
  have hl : lv_has ls 2 [(0, .ref (b0 + v0)), (1, .int v1)] := hl
  generalize ([.ref (b0 + v0), .int v1] : List Value).toArray = args at hC ⊢
  unfold fX6_added
  refine zj_aload_n (pc' := 1) hC dX6_added_0 rfl rfl (lv_at hl 0 rfl) ?_
  refine zj_callrV (pc' := 4) (rest := []) hC (kX6_played l b0 cA D L v0 σ hk0) hk0 rfl tw_3_27 tw_3_24 tw_3_26 ts_2_2 tw_1_1 ddX6_played rfl ⟨rfl, rfl⟩ ⟨by decide, by decide⟩ hl.1 (Nat.le_of_ble_eq_true rfl) rfl dX6_added_1 rfl (fun r2 σ1 hk_r2 => ?_)
  refine zj_getI (pc' := 7) hC hk_r2 fd_3_4 rfl tw_1_101 dX6_added_4 rfl ?_
  refine zj_aload_n (pc' := 8) hC dX6_added_7 rfl rfl (lv_at hl 0 rfl) ?_
  refine zj_iload_n (pc' := 9) hC dX6_added_8 rfl rfl (lv_at hl 1 rfl) ?_
  refine zj_iconst (pc' := 10) (v := (0 : Int32)) hC dX6_added_9 rfl rfl ?_
  refine zj_calliV (pc' := 13) (rest := [.int (σ1.1 r2 4)]) hC (kX6_houseWith l b0 cA D L v0 v1 (0 : Int32) σ1 hk0) hk0 rfl tw_3_131 tw_3_128 tw_3_130 ts_2_10 tw_1_1 ddX6_houseWith rfl ⟨rfl, rfl⟩ ⟨by decide, by decide⟩ hl.1 (Nat.le_of_ble_eq_true rfl) rfl dX6_added_10 rfl (fun r4 σ3 => ?_)
  refine zj_isub (pc' := 14) hC dX6_added_13 rfl ?_
  exact zj_iret hC dX6_added_14
-- X6_more
theorem ddX6_more : yX6_more.cls ≠ "java/lang/invoke/MethodHandle" ∧ yX6_more.cls ≠ "java/lang/invoke/VarHandle" ∧ (parseMethodDescriptor yX6_more.desc).map (fun d => d.parameters.length) = some 1 := by decide +kernel
abbrev rmX6_more : Room := { frames := 7, cells := 0, slots := 0, locals := 164 }
def fX6_more (v0 : Nat) (v1 : Int32) (σ : zS) : Option (Int32 × zS) :=
  zb (fX6_isStick v1 σ) (fun (r2 : Int32) (σ1 : zS) => if r2 = 0 then (some ((-1000000 : Int32), σ1)) else (zb (fX6_added v0 v1 σ1) (fun (r5 : Int32) (σ4 : zS) => some (r5, σ4))))
set_option maxRecDepth 100000 in
set_option maxHeartbeats 4000000 in
theorem kX6_more (l : Launch) (b0 : Nat) (cA : Nat → ClassId) (D : va_G) (L : List (Nat × Nat)) (v0 : Nat) (v1 : Int32) (σ : zS) (hk0 : L[v0]? = some (0, 6)) : zMi l b0 cA D L yX6_more (Cond.code yX6_more cX6_more 2 (some Jvm.ClassFile.FieldType.int)) rmX6_more [.ref (b0 + v0), .int v1] σ (fX6_more v0 v1 σ) := by
  refine zMi_of (by decide) (Nat.le_of_ble_eq_true rfl) ?_
  intro p e s m below meth c ls hC hl
  have hl : lv_has ls 2 [(0, .ref (b0 + v0)), (1, .int v1)] := hl
  generalize ([.ref (b0 + v0), .int v1] : List Value).toArray = args at hC ⊢
  unfold fX6_more
  refine zj_iload_n (pc' := 1) hC dX6_more_0 rfl rfl (lv_at hl 1 rfl) ?_
  refine zj_callzS (pc' := 4) (rest := []) hC (kX6_isStick l b0 cA D L v1 σ ) tw_2_56 tw_2_54 tw_2_55 tw_1_1 ddX6_isStick rfl ⟨rfl, rfl⟩ ⟨by decide, by decide⟩ hl.1 (Nat.le_of_ble_eq_true rfl) rfl dX6_more_1 rfl (fun r2 σ1 hb_r2 => ?_)
  refine zj_if_eq (tgt := 15) (pc' := 7) hC dX6_more_4 (by decide) rfl (fun c3 => ?_) (fun c3 => ?_)
  · refine zj_ldc (pc' := 17) (v := (-1000000 : Int32)) hC tw_3_140 dX6_more_15 rfl ?_
    exact zj_iret hC dX6_more_17
  · refine zj_aload_n (pc' := 8) hC dX6_more_7 rfl rfl (lv_at hl 0 rfl) ?_
    refine zj_iload_n (pc' := 9) hC dX6_more_8 rfl rfl (lv_at hl 1 rfl) ?_
    refine zj_calliV (pc' := 12) (rest := []) hC (kX6_added l b0 cA D L v0 v1 σ1 hk0) hk0 rfl tw_3_127 tw_3_124 tw_3_126 ts_2_9 tw_1_1 ddX6_added rfl ⟨rfl, rfl⟩ ⟨by decide, by decide⟩ hl.1 (Nat.le_of_ble_eq_true rfl) rfl dX6_more_9 rfl (fun r5 σ4 => ?_)
    refine zj_goto (tgt := 17) hC dX6_more_12 (by decide) ?_
    exact zj_iret hC dX6_more_17
-- X6_followers
theorem ddX6_followers : yX6_followers.cls ≠ "java/lang/invoke/MethodHandle" ∧ yX6_followers.cls ≠ "java/lang/invoke/VarHandle" ∧ (parseMethodDescriptor yX6_followers.desc).map (fun d => d.parameters.length) = some 1 := by decide +kernel
abbrev rmX6_followers : Room := { frames := 6, cells := 0, slots := 0, locals := 141 }
def fX6_followers (v0 : Nat) (v1 : Int32) (σ : zS) : Option (Int32 × zS) :=
  zb (fX6_played v0 σ) (fun (r2 : Nat) (σ1 : zS) => bnd (σ1.2 r2 1) (fun (q3 : Nat) => bnd (((σ1.1 q3 0) - (1 : Int32))) (fun (x4 : Int32) => zb (fX3_hasSecond r2 x4 σ1) (fun (r6 : Int32) (σ5 : zS) => if r6 = 0 then (some ((0 : Int32), σ5)) else (zb (fX6_planOf v0 v1 σ5) (fun (r9 : Nat) (σ8 : zS) => zX x4 40 (bnd ((σ8.1 r9 (x4).toNatClampNeg)) (fun (x11 : Int32) => if x11 = 0 then (some ((0 : Int32), σ8)) else (zb (fX3_showing r2 x4 x11 σ8) (fun (r14 : Int32) (σ13 : zS) => bnd (σ13.2 r2 0) (fun (q15 : Nat) => zb (fX2_unpaid q15 σ13) (fun (r17 : Int32) (σ16 : zS) => zb (fJ6_bitCount_0f7a4 ((r14 &&& r17)) σ16) (fun (r19 : Int32) (σ18 : zS) => some (r19, σ18))))))))))))))
set_option maxRecDepth 100000 in
set_option maxHeartbeats 4000000 in
theorem kX6_followers (l : Launch) (b0 : Nat) (cA : Nat → ClassId) (D : va_G) (L : List (Nat × Nat)) (v0 : Nat) (v1 : Int32) (σ : zS) (hk0 : L[v0]? = some (0, 6)) : zMi l b0 cA D L yX6_followers (Cond.code yX6_followers cX6_followers 5 (some Jvm.ClassFile.FieldType.int)) rmX6_followers [.ref (b0 + v0), .int v1] σ (fX6_followers v0 v1 σ) := by
  refine zMi_of (by decide) (Nat.le_of_ble_eq_true rfl) ?_
  intro p e s m below meth c ls hC hl
  have hl : lv_has ls 5 [(0, .ref (b0 + v0)), (1, .int v1)] := hl
  generalize ([.ref (b0 + v0), .int v1] : List Value).toArray = args at hC ⊢
  unfold fX6_followers
  refine zj_aload_n (pc' := 1) hC dX6_followers_0 rfl rfl (lv_at hl 0 rfl) ?_
  refine zj_callrV (pc' := 4) (rest := []) hC (kX6_played l b0 cA D L v0 σ hk0) hk0 rfl tw_3_27 tw_3_24 tw_3_26 ts_2_2 tw_1_1 ddX6_played rfl ⟨rfl, rfl⟩ ⟨by decide, by decide⟩ hl.1 (Nat.le_of_ble_eq_true rfl) rfl dX6_followers_1 rfl (fun r2 σ1 hk_r2 => ?_)
  refine zj_astore_n (pc' := 5) (lv' := [(2, .ref (b0 + r2)), (0, .ref (b0 + v0)), (1, .int v1)]) hC dX6_followers_4 rfl rfl hl (by decide) rfl (fun ls hl => ?_)
  refine zj_aload_n (pc' := 6) hC dX6_followers_5 rfl rfl (lv_at hl 0 rfl) ?_
  refine zj_getR (pc' := 9) hC hk_r2 fd_3_1 rfl tw_1_95 dX6_followers_6 rfl (fun q3 hk_q3 => ?_)
  refine zj_getI (pc' := 12) hC hk_q3 fd_1_0 rfl tw_1_35 dX6_followers_9 rfl ?_
  refine zj_iconst (pc' := 13) (v := (1 : Int32)) hC dX6_followers_12 rfl rfl ?_
  refine zj_isub (pc' := 14) hC dX6_followers_13 rfl ?_
  refine zj_nmi (fun x4 => ?_)
  refine zj_istore_n (pc' := 15) (lv' := [(3, .int x4), (2, .ref (b0 + r2)), (0, .ref (b0 + v0)), (1, .int v1)]) hC dX6_followers_14 rfl rfl hl (by decide) rfl (fun ls hl => ?_)
  refine zj_aload_n (pc' := 16) hC dX6_followers_15 rfl rfl (lv_at hl 1 rfl) ?_
  refine zj_iload_n (pc' := 17) hC dX6_followers_16 rfl rfl (lv_at hl 0 rfl) ?_
  refine zj_callzV (pc' := 20) (rest := []) hC (kX3_hasSecond l b0 cA D L r2 x4 σ1 hk_r2) hk_r2 rfl tw_3_23 tw_3_20 tw_3_21 tw_3_22 tw_1_2 ddX3_hasSecond rfl ⟨rfl, rfl⟩ ⟨by decide, by decide⟩ hl.1 (Nat.le_of_ble_eq_true rfl) rfl dX6_followers_17 rfl (fun r6 σ5 hb_r6 => ?_)
  refine zj_if_ne (tgt := 25) (pc' := 23) hC dX6_followers_20 (by decide) rfl (fun c7 => ?_) (fun c7 => ?_)
  · refine zj_aload_n (pc' := 26) hC dX6_followers_25 rfl rfl (lv_at hl 2 rfl) ?_
    refine zj_iload_n (pc' := 27) hC dX6_followers_26 rfl rfl (lv_at hl 3 rfl) ?_
    refine zj_callrV (pc' := 30) (rest := []) hC (kX6_planOf l b0 cA D L v0 v1 σ5 hk0) hk0 rfl tw_2_60 tw_2_57 tw_2_59 ts_1_0 tw_1_1 ddX6_planOf rfl ⟨rfl, rfl⟩ ⟨by decide, by decide⟩ hl.1 (Nat.le_of_ble_eq_true rfl) rfl dX6_followers_27 rfl (fun r9 σ8 hk_r9 => ?_)
    refine zj_iload_n (pc' := 31) hC dX6_followers_30 rfl rfl (lv_at hl 0 rfl) ?_
    refine zj_iald (pc' := 32) hC hk_r9 dX6_followers_31 rfl (fun g10 => ?_)
    refine zj_nmi (fun x11 => ?_)
    refine zj_istore (pc' := 34) (lv' := [(4, .int x11), (3, .int x4), (2, .ref (b0 + r2)), (0, .ref (b0 + v0)), (1, .int v1)]) hC dX6_followers_32 rfl hl (by decide) rfl (fun ls hl => ?_)
    refine zj_iload (pc' := 36) hC dX6_followers_34 rfl (lv_at hl 0 rfl) ?_
    refine zj_if_ne (tgt := 43) (pc' := 39) hC dX6_followers_36 (by decide) rfl (fun c12 => ?_) (fun c12 => ?_)
    · refine zj_aload_n (pc' := 44) hC dX6_followers_43 rfl rfl (lv_at hl 2 rfl) ?_
      refine zj_iload_n (pc' := 45) hC dX6_followers_44 rfl rfl (lv_at hl 1 rfl) ?_
      refine zj_iload (pc' := 47) hC dX6_followers_45 rfl (lv_at hl 0 rfl) ?_
      refine zj_calliV (pc' := 50) (rest := []) hC (kX3_showing l b0 cA D L r2 x4 x11 σ8 hk_r2) hk_r2 rfl tw_3_87 tw_3_149 tw_3_85 tw_3_86 tw_1_2 ddX3_showing rfl ⟨rfl, rfl⟩ ⟨by decide, by decide⟩ hl.1 (Nat.le_of_ble_eq_true rfl) rfl dX6_followers_47 rfl (fun r14 σ13 => ?_)
      refine zj_aload_n (pc' := 51) hC dX6_followers_50 rfl rfl (lv_at hl 2 rfl) ?_
      refine zj_getR (pc' := 54) hC hk_r2 fd_3_0 rfl tw_1_93 dX6_followers_51 rfl (fun q15 hk_q15 => ?_)
      refine zj_calliV (pc' := 57) (rest := [.int r14]) hC (kX2_unpaid l b0 cA D L q15 σ13 hk_q15) hk_q15 rfl tw_3_48 tw_3_45 tw_3_46 tw_3_47 tw_1_4 ddX2_unpaid rfl ⟨rfl, rfl⟩ ⟨by decide, by decide⟩ hl.1 (Nat.le_of_ble_eq_true rfl) rfl dX6_followers_54 rfl (fun r17 σ16 => ?_)
      refine zj_iand (pc' := 58) hC dX6_followers_57 rfl ?_
      refine zj_calliS (pc' := 61) (rest := []) hC (kJ6_bitCount_0f7a4 l b0 cA D L ((r14 &&& r17)) σ16 ) tw_3_68 tw_3_119 tw_3_67 tw_1_15 ddJ6_bitCount_0f7a4 rfl ⟨rfl, rfl⟩ ⟨by decide, by decide⟩ hl.1 (Nat.le_of_ble_eq_true rfl) rfl dX6_followers_58 rfl (fun r19 σ18 => ?_)
      exact zj_iret hC dX6_followers_61
    · refine zj_iconst (pc' := 40) (v := (0 : Int32)) hC dX6_followers_39 rfl rfl ?_
      refine zj_goto (tgt := 61) hC dX6_followers_40 (by decide) ?_
      exact zj_iret hC dX6_followers_61
  · refine zj_iconst (pc' := 24) (v := (0 : Int32)) hC dX6_followers_23 rfl rfl ?_
    exact zj_iret hC dX6_followers_24
