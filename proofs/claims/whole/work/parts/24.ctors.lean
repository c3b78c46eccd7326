theorem ddX2_init : yX2_init.cls ≠ "java/lang/invoke/MethodHandle" ∧ yX2_init.cls ≠ "java/lang/invoke/VarHandle" ∧ (parseMethodDescriptor yX2_init.desc).map (fun d => d.parameters.length) = some 0 := by decide +kernel
abbrev rmX2_init : Room := { frames := 1, cells := 0, slots := 0, locals := 20 }
set_option maxRecDepth 100000 in
def fX2_init (v0 : Nat) (L : List (Nat × Nat)) (σ : zS) : Option zLS :=
  zQ L v0 (0, 2) (bnd (zI σ v0 0 (6 : Int32)) (fun (σ1 : zS) => some (L, σ1)))
set_option maxRecDepth 100000 in
set_option maxHeartbeats 4000000 in
theorem kX2_init (l : Launch) (b0 : Nat) (cA : Nat → ClassId) (D : va_G) (v0 : Nat) (L : List (Nat × Nat)) (σ : zS) : zMc l b0 cA D yX2_init (Cond.code yX2_init cX2_init 1 none) rmX2_init [.ref (b0 + v0)] L σ (fX2_init v0 L σ) := by
  refine zMc_of (by decide) rfl (Nat.le_of_ble_eq_true rfl) ?_
  intro p e s m below meth c ls hNX hmn hC hl
  have hl : lv_has ls 1 [(0, .ref (b0 + v0))] := hl
  generalize ([.ref (b0 + v0)] : List Value).toArray = args at hC ⊢
  unfold fX2_init
  refine zc_aload_n (pc' := 1) hC dX2_init_0 rfl rfl (lv_at hl 0 rfl) ?_
  refine zc_objInit (pc' := 4) hC tw_1_59 tw_1_23 tw_1_24 hl.1 dX2_init_1 rfl (by decide) (Nat.le_of_ble_eq_true rfl) ?_
  refine zc_aload_n (pc' := 5) hC dX2_init_4 rfl rfl (lv_at hl 0 rfl) ?_
  refine zc_bipush (pc' := 7) (v := (6 : Int32)) hC dX2_init_5 rfl rfl ?_
  refine zc_putI (pc' := 10) hC fd_2_0 rfl tw_1_60 rfl rfl rfl dX2_init_7 rfl (fun σ1 => ?_)
  exact zc_ret hC rfl rfl dX2_init_10
theorem ddX1_init : yX1_init.cls ≠ "java/lang/invoke/MethodHandle" ∧ yX1_init.cls ≠ "java/lang/invoke/VarHandle" ∧ (parseMethodDescriptor yX1_init.desc).map (fun d => d.parameters.length) = some 0 := by decide +kernel
abbrev rmX1_init : Room := { frames := 1, cells := 2, slots := 80, locals := 20 }
set_option maxRecDepth 100000 in
def fX1_init (v0 : Nat) (L : List (Nat × Nat)) (σ : zS) : Option zLS :=
  zQ L v0 (0, 1) (bnd (zI σ v0 0 (1 : Int32)) (fun (σ1 : zS) => znw L σ1 (1, 40) (fun (x2 : Nat) (L3 : List (Nat × Nat)) (σ4 : zS) => zQ L3 v0 (0, 1) (zQ L3 x2 (1, 40) (bnd (zR σ4 v0 1 x2) (fun (σ5 : zS) => znw L3 σ5 (1, 40) (fun (x6 : Nat) (L7 : List (Nat × Nat)) (σ8 : zS) => zQ L7 v0 (0, 1) (zQ L7 x6 (1, 40) (bnd (zR σ8 v0 2 x6) (fun (σ9 : zS) => some (L7, σ9)))))))))))
set_option maxRecDepth 100000 in
set_option maxHeartbeats 4000000 in
theorem kX1_init (l : Launch) (b0 : Nat) (cA : Nat → ClassId) (D : va_G) (v0 : Nat) (L : List (Nat × Nat)) (σ : zS) : zMc l b0 cA D yX1_init (Cond.code yX1_init cX1_init 1 none) rmX1_init [.ref (b0 + v0)] L σ (fX1_init v0 L σ) := by
  refine zMc_of (by decide) rfl (Nat.le_of_ble_eq_true rfl) ?_
  intro p e s m below meth c ls hNX hmn hC hl
  have hl : lv_has ls 1 [(0, .ref (b0 + v0))] := hl
  generalize ([.ref (b0 + v0)] : List Value).toArray = args at hC ⊢
  unfold fX1_init
  refine zc_aload_n (pc' := 1) hC dX1_init_0 rfl rfl (lv_at hl 0 rfl) ?_
  refine zc_objInit (pc' := 4) hC tw_1_32 tw_1_23 tw_1_24 hl.1 dX1_init_1 rfl (by decide) (Nat.le_of_ble_eq_true rfl) ?_
  refine zc_aload_n (pc' := 5) hC dX1_init_4 rfl rfl (lv_at hl 0 rfl) ?_
  refine zc_iconst (pc' := 6) (v := (1 : Int32)) hC dX1_init_5 rfl rfl ?_
  refine zc_putI (pc' := 9) hC fd_1_0 rfl tw_1_33 rfl rfl rfl dX1_init_6 rfl (fun σ1 => ?_)
  refine zc_aload_n (pc' := 10) hC dX1_init_9 rfl rfl (lv_at hl 0 rfl) ?_
  refine zc_bipush (pc' := 12) (v := (40 : Int32)) hC dX1_init_10 rfl rfl ?_
  refine zc_newa (atype := .int) (t := 1) (n := 40) (pc' := 14) hC tw_1_49 (by decide) (by decide) (by decide) (by decide) (by decide) (by decide) dX1_init_12 rfl (fun x2 L3 σ4 => ?_)
  refine zc_putRF (pc' := 17) hmn hC fd_1_1 rfl tw_1_36 rfl rfl (fun _ => rfl) (fun _ => rfl) dX1_init_14 rfl (fun σ5 => ?_)
  refine zc_aload_n (pc' := 18) hC dX1_init_17 rfl rfl (lv_at hl 0 rfl) ?_
  refine zc_bipush (pc' := 20) (v := (40 : Int32)) hC dX1_init_18 rfl rfl ?_
  refine zc_newa (atype := .int) (t := 1) (n := 40) (pc' := 22) hC tw_1_49 (by decide) (by decide) (by decide) (by decide) (by decide) (by decide) dX1_init_20 rfl (fun x6 L7 σ8 => ?_)
  refine zc_putRF (pc' := 25) hmn hC fd_1_2 rfl tw_1_39 rfl rfl (fun _ => rfl) (fun _ => rfl) dX1_init_22 rfl (fun σ9 => ?_)
  exact zc_ret hC rfl rfl dX1_init_25
theorem ddX3_init : yX3_init.cls ≠ "java/lang/invoke/MethodHandle" ∧ yX3_init.cls ≠ "java/lang/invoke/VarHandle" ∧ (parseMethodDescriptor yX3_init.desc).map (fun d => d.parameters.length) = some 1 := by decide +kernel
abbrev rmX3_init : Room := { frames := 2, cells := 3, slots := 87, locals := 40 }
set_option maxRecDepth 100000 in
def fX3_init (v0 : Nat) (v1 : Nat) (L : List (Nat × Nat)) (σ : zS) : Option zLS :=
  znw L σ (0, 2) (fun (x1 : Nat) (L2 : List (Nat × Nat)) (σ3 : zS) => zb (fX2_init x1 L2 σ3) (fun (L4 : List (Nat × Nat)) (σ5 : zS) => zQ L4 v0 (0, 3) (zQ L4 x1 (0, 2) (bnd (zR σ5 v0 0 x1) (fun (σ6 : zS) => znw L4 σ6 (1, 40) (fun (x7 : Nat) (L8 : List (Nat × Nat)) (σ9 : zS) => zQ L8 v0 (0, 3) (zQ L8 x7 (1, 40) (bnd (zR σ9 v0 2 x7) (fun (σ10 : zS) => znw L8 σ10 (1, 40) (fun (x11 : Nat) (L12 : List (Nat × Nat)) (σ13 : zS) => zQ L12 v0 (0, 3) (zQ L12 x11 (1, 40) (bnd (zR σ13 v0 3 x11) (fun (σ14 : zS) => zQ L12 v0 (0, 3) (zQ L12 v1 (0, 1) (bnd (zR σ14 v0 1 v1) (fun (σ15 : zS) => some (L12, σ15)))))))))))))))))
set_option maxRecDepth 100000 in
set_option maxHeartbeats 4000000 in
theorem kX3_init (l : Launch) (b0 : Nat) (cA : Nat → ClassId) (D : va_G) (v0 : Nat) (v1 : Nat) (L : List (Nat × Nat)) (σ : zS) : zMc l b0 cA D yX3_init (Cond.code yX3_init cX3_init 2 none) rmX3_init [.ref (b0 + v0), .ref (b0 + v1)] L σ (fX3_init v0 v1 L σ) := by
  refine zMc_of (by decide) rfl (Nat.le_of_ble_eq_true rfl) ?_
  intro p e s m below meth c ls hNX hmn hC hl
  have hl : lv_has ls 2 [(0, .ref (b0 + v0)), (1, .ref (b0 + v1))] := hl
  generalize ([.ref (b0 + v0), .ref (b0 + v1)] : List Value).toArray = args at hC ⊢
  unfold fX3_init
  refine zc_aload_n (pc' := 1) hC dX3_init_0 rfl rfl (lv_at hl 0 rfl) ?_
  refine zc_objInit (pc' := 4) hC tw_1_53 tw_1_23 tw_1_24 hl.1 dX3_init_1 rfl (by decide) (Nat.le_of_ble_eq_true rfl) ?_
  refine zc_aload_n (pc' := 5) hC dX3_init_4 rfl rfl (lv_at hl 0 rfl) ?_
  refine zc_new (pc' := 8) hC fd_2_0 nw2 tw_1_54 tw_1_55 tw_1_4 (by decide) (by decide) dX3_init_5 rfl (fun x1 L2 σ3 => ?_)
  refine zc_dup (pc' := 9) hC dX3_init_8 rfl rfl ?_
  refine zc_callIN (pc' := 12) (rest := [.ref (b0 + x1), .ref (b0 + v0)]) hNX hC (kX2_init l b0 cA D x1 L2 σ3) tw_1_58 hNX.2.2.2.1 tw_1_57 tw_1_4 rfl ddX2_init rfl ⟨by decide, by decide⟩ ⟨by decide, by decide⟩ hl.1 (Nat.le_of_ble_eq_true rfl) rfl dX3_init_9 rfl (fun L4 σ5 => ?_)
  refine zc_putRF (pc' := 15) hmn hC fd_3_0 rfl tw_1_92 rfl rfl (fun _ => rfl) (fun _ => rfl) dX3_init_12 rfl (fun σ6 => ?_)
  refine zc_aload_n (pc' := 16) hC dX3_init_15 rfl rfl (lv_at hl 0 rfl) ?_
  refine zc_bipush (pc' := 18) (v := (40 : Int32)) hC dX3_init_16 rfl rfl ?_
  refine zc_newa (atype := .int) (t := 1) (n := 40) (pc' := 20) hC tw_1_49 (by decide) (by decide) (by decide) (by decide) (by decide) (by decide) dX3_init_18 rfl (fun x7 L8 σ9 => ?_)
  refine zc_putRF (pc' := 23) hmn hC fd_3_2 rfl tw_1_98 rfl rfl (fun _ => rfl) (fun _ => rfl) dX3_init_20 rfl (fun σ10 => ?_)
  refine zc_aload_n (pc' := 24) hC dX3_init_23 rfl rfl (lv_at hl 0 rfl) ?_
  refine zc_bipush (pc' := 26) (v := (40 : Int32)) hC dX3_init_24 rfl rfl ?_
  refine zc_newa (atype := .int) (t := 1) (n := 40) (pc' := 28) hC tw_1_49 (by decide) (by decide) (by decide) (by decide) (by decide) (by decide) dX3_init_26 rfl (fun x11 L12 σ13 => ?_)
  refine zc_putRF (pc' := 31) hmn hC fd_3_3 rfl tw_1_99 rfl rfl (fun _ => rfl) (fun _ => rfl) dX3_init_28 rfl (fun σ14 => ?_)
  refine zc_aload_n (pc' := 32) hC dX3_init_31 rfl rfl (lv_at hl 0 rfl) ?_
  refine zc_aload_n (pc' := 33) hC dX3_init_32 rfl rfl (lv_at hl 1 rfl) ?_
  refine zc_putRF (pc' := 36) hmn hC fd_3_1 rfl tw_1_96 rfl rfl (fun _ => rfl) (fun _ => rfl) dX3_init_33 rfl (fun σ15 => ?_)
  exact zc_ret hC rfl rfl dX3_init_36
theorem ddX4_init : yX4_init.cls ≠ "java/lang/invoke/MethodHandle" ∧ yX4_init.cls ≠ "java/lang/invoke/VarHandle" ∧ (parseMethodDescriptor yX4_init.desc).map (fun d => d.parameters.length) = some 0 := by decide +kernel
abbrev rmX4_init : Room := { frames := 1, cells := 1, slots := 128, locals := 20 }
set_option maxRecDepth 100000 in
def fX4_init (v0 : Nat) (L : List (Nat × Nat)) (σ : zS) : Option zLS :=
  znw L σ (1, 128) (fun (x1 : Nat) (L2 : List (Nat × Nat)) (σ3 : zS) => zQ L2 v0 (0, 4) (zQ L2 x1 (1, 128) (bnd (zR σ3 v0 0 x1) (fun (σ4 : zS) => some (L2, σ4)))))
set_option maxRecDepth 100000 in
set_option maxHeartbeats 4000000 in
theorem kX4_init (l : Launch) (b0 : Nat) (cA : Nat → ClassId) (D : va_G) (v0 : Nat) (L : List (Nat × Nat)) (σ : zS) : zMc l b0 cA D yX4_init (Cond.code yX4_init cX4_init 1 none) rmX4_init [.ref (b0 + v0)] L σ (fX4_init v0 L σ) := by
  refine zMc_of (by decide) rfl (Nat.le_of_ble_eq_true rfl) ?_
  intro p e s m below meth c ls hNX hmn hC hl
  have hl : lv_has ls 1 [(0, .ref (b0 + v0))] := hl
  generalize ([.ref (b0 + v0)] : List Value).toArray = args at hC ⊢
  unfold fX4_init
  refine zc_aload_n (pc' := 1) hC dX4_init_0 rfl rfl (lv_at hl 0 rfl) ?_
  refine zc_objInit (pc' := 4) hC tw_1_154 tw_1_23 tw_1_24 hl.1 dX4_init_1 rfl (by decide) (Nat.le_of_ble_eq_true rfl) ?_
  refine zc_aload_n (pc' := 5) hC dX4_init_4 rfl rfl (lv_at hl 0 rfl) ?_
  refine zc_sipush (pc' := 8) (v := (128 : Int32)) hC dX4_init_5 rfl rfl ?_
  refine zc_newa (atype := .int) (t := 1) (n := 128) (pc' := 10) hC tw_1_49 (by decide) (by decide) (by decide) (by decide) (by decide) (by decide) dX4_init_8 rfl (fun x1 L2 σ3 => ?_)
  refine zc_putRF (pc' := 13) hmn hC fd_4_0 rfl tw_1_155 rfl rfl (fun _ => rfl) (fun _ => rfl) dX4_init_10 rfl (fun σ4 => ?_)
  exact zc_ret hC rfl rfl dX4_init_13
theorem ddX5_init : yX5_init.cls ≠ "java/lang/invoke/MethodHandle" ∧ yX5_init.cls ≠ "java/lang/invoke/VarHandle" ∧ (parseMethodDescriptor yX5_init.desc).map (fun d => d.parameters.length) = some 2 := by decide +kernel
abbrev rmX5_init : Room := { frames := 1, cells := 0, slots := 0, locals := 20 }
set_option maxRecDepth 100000 in
def fX5_init (v0 : Nat) (v1 : Nat) (v2 : Nat) (L : List (Nat × Nat)) (σ : zS) : Option zLS :=
  zQ L v0 (0, 5) (zQ L v1 (2, 500) (bnd (zR σ v0 0 v1) (fun (σ1 : zS) => zQ L v0 (0, 5) (zQ L v2 (0, 4) (bnd (zR σ1 v0 1 v2) (fun (σ2 : zS) => some (L, σ2)))))))
set_option maxRecDepth 100000 in
set_option maxHeartbeats 4000000 in
theorem kX5_init (l : Launch) (b0 : Nat) (cA : Nat → ClassId) (D : va_G) (v0 : Nat) (v1 : Nat) (v2 : Nat) (L : List (Nat × Nat)) (σ : zS) : zMc l b0 cA D yX5_init (Cond.code yX5_init cX5_init 3 none) rmX5_init [.ref (b0 + v0), .ref (b0 + v1), .ref (b0 + v2)] L σ (fX5_init v0 v1 v2 L σ) := by
  refine zMc_of (by decide) rfl (Nat.le_of_ble_eq_true rfl) ?_
  intro p e s m below meth c ls hNX hmn hC hl
  have hl : lv_has ls 3 [(0, .ref (b0 + v0)), (1, .ref (b0 + v1)), (2, .ref (b0 + v2))] := hl
  generalize ([.ref (b0 + v0), .ref (b0 + v1), .ref (b0 + v2)] : List Value).toArray = args at hC ⊢
  unfold fX5_init
  refine zc_aload_n (pc' := 1) hC dX5_init_0 rfl rfl (lv_at hl 0 rfl) ?_
  refine zc_objInit (pc' := 4) hC tw_1_174 tw_1_23 tw_1_24 hl.1 dX5_init_1 rfl (by decide) (Nat.le_of_ble_eq_true rfl) ?_
  refine zc_aload_n (pc' := 5) hC dX5_init_4 rfl rfl (lv_at hl 0 rfl) ?_
  refine zc_aload_n (pc' := 6) hC dX5_init_5 rfl rfl (lv_at hl 1 rfl) ?_
  refine zc_putRF (pc' := 9) hmn hC fd_5_0 rfl tw_1_175 rfl rfl (fun _ => rfl) (fun _ => rfl) dX5_init_6 rfl (fun σ1 => ?_)
  refine zc_aload_n (pc' := 10) hC dX5_init_9 rfl rfl (lv_at hl 0 rfl) ?_
  refine zc_aload_n (pc' := 11) hC dX5_init_10 rfl rfl (lv_at hl 2 rfl) ?_
  refine zc_putR (pc' := 14) hC fd_5_1 rfl tw_1_176 rfl (fun _ => rfl) (fun _ => rfl) dX5_init_11 rfl (fun σ2 => ?_)
  exact zc_ret hC rfl rfl dX5_init_14
theorem ddX0_init : yX0_init.cls ≠ "java/lang/invoke/MethodHandle" ∧ yX0_init.cls ≠ "java/lang/invoke/VarHandle" ∧ (parseMethodDescriptor yX0_init.desc).map (fun d => d.parameters.length) = some 1 := by decide +kernel
abbrev rmX0_init : Room := { frames := 1, cells := 2, slots := 64, locals := 20 }
set_option maxRecDepth 100000 in
def fX0_init (v0 : Nat) (v1 : Nat) (L : List (Nat × Nat)) (σ : zS) : Option zLS :=
  znw L σ (1, 40) (fun (x1 : Nat) (L2 : List (Nat × Nat)) (σ3 : zS) => zQ L2 v0 (0, 0) (zQ L2 x1 (1, 40) (bnd (zR σ3 v0 0 x1) (fun (σ4 : zS) => znw L2 σ4 (1, 24) (fun (x5 : Nat) (L6 : List (Nat × Nat)) (σ7 : zS) => zQ L6 v0 (0, 0) (zQ L6 x5 (1, 24) (bnd (zR σ7 v0 1 x5) (fun (σ8 : zS) => zQ L6 v0 (0, 0) (zQ L6 v1 (0, 2) (bnd (zR σ8 v0 2 v1) (fun (σ9 : zS) => some (L6, σ9))))))))))))
set_option maxRecDepth 100000 in
set_option maxHeartbeats 4000000 in
theorem kX0_init (l : Launch) (b0 : Nat) (cA : Nat → ClassId) (D : va_G) (v0 : Nat) (v1 : Nat) (L : List (Nat × Nat)) (σ : zS) : zMc l b0 cA D yX0_init (Cond.code yX0_init cX0_init 2 none) rmX0_init [.ref (b0 + v0), .ref (b0 + v1)] L σ (fX0_init v0 v1 L σ) := by
  refine zMc_of (by decide) rfl (Nat.le_of_ble_eq_true rfl) ?_
  intro p e s m below meth c ls hNX hmn hC hl
  have hl : lv_has ls 2 [(0, .ref (b0 + v0)), (1, .ref (b0 + v1))] := hl
  generalize ([.ref (b0 + v0), .ref (b0 + v1)] : List Value).toArray = args at hC ⊢
  unfold fX0_init
  refine zc_aload_n (pc' := 1) hC dX0_init_0 rfl rfl (lv_at hl 0 rfl) ?_
  refine zc_objInit (pc' := 4) hC tw_1_119 tw_1_23 tw_1_24 hl.1 dX0_init_1 rfl (by decide) (Nat.le_of_ble_eq_true rfl) ?_
  refine zc_aload_n (pc' := 5) hC dX0_init_4 rfl rfl (lv_at hl 0 rfl) ?_
  refine zc_bipush (pc' := 7) (v := (40 : Int32)) hC dX0_init_5 rfl rfl ?_
  refine zc_newa (atype := .int) (t := 1) (n := 40) (pc' := 9) hC tw_1_49 (by decide) (by decide) (by decide) (by decide) (by decide) (by decide) dX0_init_7 rfl (fun x1 L2 σ3 => ?_)
  refine zc_putRF (pc' := 12) hmn hC fd_0_0 rfl tw_1_120 rfl rfl (fun _ => rfl) (fun _ => rfl) dX0_init_9 rfl (fun σ4 => ?_)
  refine zc_aload_n (pc' := 13) hC dX0_init_12 rfl rfl (lv_at hl 0 rfl) ?_
  refine zc_bipush (pc' := 15) (v := (24 : Int32)) hC dX0_init_13 rfl rfl ?_
  refine zc_newa (atype := .int) (t := 1) (n := 24) (pc' := 17) hC tw_1_49 (by decide) (by decide) (by decide) (by decide) (by decide) (by decide) dX0_init_15 rfl (fun x5 L6 σ7 => ?_)
  refine zc_putRF (pc' := 20) hmn hC fd_0_1 rfl tw_1_121 rfl rfl (fun _ => rfl) (fun _ => rfl) dX0_init_17 rfl (fun σ8 => ?_)
  refine zc_aload_n (pc' := 21) hC dX0_init_20 rfl rfl (lv_at hl 0 rfl) ?_
  refine zc_aload_n (pc' := 22) hC dX0_init_21 rfl rfl (lv_at hl 1 rfl) ?_
  refine zc_putR (pc' := 25) hC fd_0_2 rfl tw_1_122 rfl (fun _ => rfl) (fun _ => rfl) dX0_init_22 rfl (fun σ9 => ?_)
  exact zc_ret hC rfl rfl dX0_init_25
