/-- the room of the group of methods that call each other, at depth d -/
abbrev rmX5G (d : Nat) : Room := { frames := 12 + d, cells := 0, slots := 0, locals := 300 + 40 * d }
def zGR (l : Launch) (b0 : Nat) (cA : Nat → ClassId) (D : va_G) (L : List (Nat × Nat)) (sq sw d : Nat) (gr : Nat → Nat → zS → Option (Int32 × zS)) : Prop := ∀ (v0 : Nat) (σ : zS), L[v0]? = some (0, 5) → zNz l b0 cA D L sq sw yX5_condition (Cond.code yX5_condition cX5_condition 4 (some Jvm.ClassFile.FieldType.boolean)) (rmX5G d) [.ref (b0 + v0)] σ (gr 0 v0 σ) ∧ zNz l b0 cA D L sq sw yX5_part (Cond.code yX5_part cX5_part 4 (some Jvm.ClassFile.FieldType.boolean)) (rmX5G d) [.ref (b0 + v0)] σ (gr 1 v0 σ) ∧ zNz l b0 cA D L sq sw yX5_piece (Cond.code yX5_piece cX5_piece 1 (some Jvm.ClassFile.FieldType.boolean)) (rmX5G d) [.ref (b0 + v0)] σ (gr 2 v0 σ) ∧ zNz l b0 cA D L sq sw yX5_comparison (Cond.code yX5_comparison cX5_comparison 2 (some Jvm.ClassFile.FieldType.boolean)) (rmX5G d) [.ref (b0 + v0)] σ (gr 3 v0 σ) ∧ zNz l b0 cA D L sq sw yX5_sum (Cond.code yX5_sum cX5_sum 4 (some Jvm.ClassFile.FieldType.boolean)) (rmX5G d) [.ref (b0 + v0)] σ (gr 4 v0 σ) ∧ zNz l b0 cA D L sq sw yX5_term (Cond.code yX5_term cX5_term 4 (some Jvm.ClassFile.FieldType.boolean)) (rmX5G d) [.ref (b0 + v0)] σ (gr 5 v0 σ) ∧ zNz l b0 cA D L sq sw yX5_factor (Cond.code yX5_factor cX5_factor 2 (some Jvm.ClassFile.FieldType.boolean)) (rmX5G d) [.ref (b0 + v0)] σ (gr 6 v0 σ)
theorem ddX5_condition : yX5_condition.cls ≠ "java/lang/invoke/MethodHandle" ∧ yX5_condition.cls ≠ "java/lang/invoke/VarHandle" ∧ (parseMethodDescriptor yX5_condition.desc).map (fun d => d.parameters.length) = some 0 := by decide +kernel
theorem ddX5_part : yX5_part.cls ≠ "java/lang/invoke/MethodHandle" ∧ yX5_part.cls ≠ "java/lang/invoke/VarHandle" ∧ (parseMethodDescriptor yX5_part.desc).map (fun d => d.parameters.length) = some 0 := by decide +kernel
theorem ddX5_piece : yX5_piece.cls ≠ "java/lang/invoke/MethodHandle" ∧ yX5_piece.cls ≠ "java/lang/invoke/VarHandle" ∧ (parseMethodDescriptor yX5_piece.desc).map (fun d => d.parameters.length) = some 0 := by decide +kernel
theorem ddX5_comparison : yX5_comparison.cls ≠ "java/lang/invoke/MethodHandle" ∧ yX5_comparison.cls ≠ "java/lang/invoke/VarHandle" ∧ (parseMethodDescriptor yX5_comparison.desc).map (fun d => d.parameters.length) = some 0 := by decide +kernel
theorem ddX5_sum : yX5_sum.cls ≠ "java/lang/invoke/MethodHandle" ∧ yX5_sum.cls ≠ "java/lang/invoke/VarHandle" ∧ (parseMethodDescriptor yX5_sum.desc).map (fun d => d.parameters.length) = some 0 := by decide +kernel
theorem ddX5_term : yX5_term.cls ≠ "java/lang/invoke/MethodHandle" ∧ yX5_term.cls ≠ "java/lang/invoke/VarHandle" ∧ (parseMethodDescriptor yX5_term.desc).map (fun d => d.parameters.length) = some 0 := by decide +kernel
theorem ddX5_factor : yX5_factor.cls ≠ "java/lang/invoke/MethodHandle" ∧ yX5_factor.cls ≠ "java/lang/invoke/VarHandle" ∧ (parseMethodDescriptor yX5_factor.desc).map (fun d => d.parameters.length) = some 0 := by decide +kernel
-- X5_condition
def bX5_condition_7 (gr : Nat → Nat → zS → Option (Int32 × zS)) (k7 : Nat → Int32 → Int32 → zS → Option (Int32 × zS)) (v0 : Nat) (v1 : Int32) (v2 : Int32) (σ : zS) : Option (Int32 × zS) :=
  if (120 : Int32) ≤ v2 then (some (v1, σ)) else (if v1 = 0 then (some (v1, σ)) else (zb (fX5_sign v0 σ) (fun (r4 : Int32) (σ3 : zS) => if r4 = (124 : Int32) then (bnd (zI σ3 v0 3 ((σ3.1 v0 3) + (1 : Int32))) (fun (σ6 : zS) => bnd (σ6.2 v0 1) (fun (q7 : Nat) => zb (fX4_add q7 (6 : Int32) (0 : Int32) σ6) (fun (r9 : Int32) (σ8 : zS) => zb (gr 1 v0 σ8) (fun (r11 : Int32) (σ10 : zS) => bnd (σ10.2 v0 1) (fun (q12 : Nat) => zb (fX4_aimHere q12 r9 σ10) (fun (_ : Unit) (σ13 : zS) => k7 v0 r11 ((v2 + (1 : Int32))) σ13))))))) else (some (v1, σ3)))))
def fX5_condition_7 (gr : Nat → Nat → zS → Option (Int32 × zS))  : Nat → Nat → Int32 → Int32 → zS → Option (Int32 × zS)
  | 0, _, _, _, _ => none
  | n + 1, v0, v1, v2, σ => bX5_condition_7 gr (fX5_condition_7 gr  n) v0 v1 v2 σ
def fX5_condition (gr : Nat → Nat → zS → Option (Int32 × zS)) (v0 : Nat) (σ : zS) : Option (Int32 × zS) :=
  zb (gr 1 v0 σ) (fun (r16 : Int32) (σ15 : zS) => fX5_condition_7 gr zFU v0 r16 (0 : Int32) σ15)
set_option maxRecDepth 100000 in
set_option maxHeartbeats 4000000 in
theorem jX5_condition_7 {p : Program} {l : Launch} {e : Env} {s : State} {m : MethodId} {args : Array Value} {below : List Frame} {meth : Method} {c : Code} {b0 : Nat} {cA : Nat → ClassId} {D : va_G} {L : List (Nat × Nat)} {sq sw : Nat} (d : Nat) (gr : Nat → Nat → zS → Option (Int32 × zS)) (hGR : zGR l b0 cA D L sq sw d gr) (hG : zGq (zA b0 L) sq sw s s.heap) (hC : zC p c s m args meth cX5_condition 4 (some Jvm.ClassFile.FieldType.boolean) (Cond.code yX5_condition cX5_condition 4 (some Jvm.ClassFile.FieldType.boolean)) yX5_condition.cls cA D) (k7 : Nat → Int32 → Int32 → zS → Option (Int32 × zS)) (h7 : ∀ (v0 : Nat) (v1 : Int32) (v2 : Int32) (σ : zS) (ls : Array Slot), L[v0]? = some (0, 5) → nB v1 → lv_has ls 4 [(0, .ref (b0 + v0)), (1, .int v1), (2, .int v2)] → zJ p l e (rmX5G (d + 1)) s m args below meth c b0 cA D L (fun z => MQ below (va_Qi (fun (r : Int32) (u : zS) => (r, u) = z ∧ nB r) (zB b0 cA D L) (zA b0 L)) args s 0 0 (zA b0 L)) (k7 v0 v1 v2 σ) σ 7 ls []) (v0 : Nat) (v1 : Int32) (v2 : Int32) (σ : zS) (ls : Array Slot) (hk_v0 : L[v0]? = some (0, 5)) (hb_v1 : nB v1) (hl : lv_has ls 4 [(0, .ref (b0 + v0)), (1, .int v1), (2, .int v2)]) : zJ p l e (rmX5G (d + 1)) s m args below meth c b0 cA D L (fun z => MQ below (va_Qi (fun (r : Int32) (u : zS) => (r, u) = z ∧ nB r) (zB b0 cA D L) (zA b0 L)) args s 0 0 (zA b0 L)) (bX5_condition_7 gr k7 v0 v1 v2 σ) σ 7 ls [] := by
  unfold bX5_condition_7
  refine zj_iload_n (pc' := 8) hC dX5_condition_7 rfl rfl (lv_at hl 2 rfl) ?_
  refine zj_bipush (pc' := 10) (v := (120 : Int32)) hC dX5_condition_8 rfl rfl ?_
  refine zj_icmp_ge (tgt := 66) (pc' := 13) hC dX5_condition_10 (by decide) rfl (fun c1 => ?_) (fun c1 => ?_)
  · refine zj_iload_n (pc' := 67) hC dX5_condition_66 rfl rfl (lv_at hl 1 rfl) ?_
    exact zj_zret hC hb_v1 dX5_condition_67
  · refine zj_iload_n (pc' := 14) hC dX5_condition_13 rfl rfl (lv_at hl 1 rfl) ?_
    refine zj_if_eq (tgt := 66) (pc' := 17) hC dX5_condition_14 (by decide) rfl (fun c2 => ?_) (fun c2 => ?_)
    · refine zj_iload_n (pc' := 67) hC dX5_condition_66 rfl rfl (lv_at hl 1 rfl) ?_
      exact zj_zret hC hb_v1 dX5_condition_67
    · refine zj_aload_n (pc' := 18) hC dX5_condition_17 rfl rfl (lv_at hl 0 rfl) ?_
      refine zj_calliV (pc' := 21) (rest := []) hC (kX5_sign l b0 cA D L v0 σ hk_v0) hk_v0 rfl tw_2_96 tw_2_93 tw_2_95 ts_1_4 tw_1_7 ddX5_sign rfl ⟨rfl, rfl⟩ ⟨by show 0 + 1 ≤ 12 + (d + 1); omega, by show 8 + (1 + 11) + 0 ≤ 300 + 40 * (d + 1); omega⟩ hl.1 (Nat.le_of_ble_eq_true rfl) rfl dX5_condition_18 rfl (fun r4 σ3 => ?_)
      refine zj_bipush (pc' := 23) (v := (124 : Int32)) hC dX5_condition_21 rfl rfl ?_
      refine zj_icmp_ne (tgt := 66) (pc' := 26) hC dX5_condition_23 (by decide) rfl (fun c5 => ?_) (fun c5 => ?_)
      · refine zj_iload_n (pc' := 67) hC dX5_condition_66 rfl rfl (lv_at hl 1 rfl) ?_
        exact zj_zret hC hb_v1 dX5_condition_67
      · refine zj_aload_n (pc' := 27) hC dX5_condition_26 rfl rfl (lv_at hl 0 rfl) ?_
        refine zj_dup (pc' := 28) hC dX5_condition_27 rfl rfl ?_
        refine zj_getI (pc' := 31) hC hk_v0 fd_5_3 rfl tw_1_178 dX5_condition_28 rfl ?_
        refine zj_iconst (pc' := 32) (v := (1 : Int32)) hC dX5_condition_31 rfl rfl ?_
        refine zj_iadd (pc' := 33) hC dX5_condition_32 rfl ?_
        refine zj_putI (pc' := 36) hC hk_v0 fd_5_3 rfl tw_1_178 rfl rfl rfl dX5_condition_33 rfl (fun σ6 => ?_)
        refine zj_aload_n (pc' := 37) hC dX5_condition_36 rfl rfl (lv_at hl 0 rfl) ?_
        refine zj_getR (pc' := 40) hC hk_v0 fd_5_1 rfl tw_1_176 dX5_condition_37 rfl (fun q7 hk_q7 => ?_)
        refine zj_bipush (pc' := 42) (v := (6 : Int32)) hC dX5_condition_40 rfl rfl ?_
        refine zj_iconst (pc' := 43) (v := (0 : Int32)) hC dX5_condition_42 rfl rfl ?_
        refine zj_calliV (pc' := 46) (rest := []) hC (kX4_add l b0 cA D L q7 (6 : Int32) (0 : Int32) σ6 hk_q7) hk_q7 rfl tw_2_104 tw_2_101 tw_2_102 tw_2_103 tw_1_6 ddX4_add rfl ⟨rfl, rfl⟩ ⟨by show 0 + 1 ≤ 12 + (d + 1); omega, by show 8 + (4 + 11) + 0 ≤ 300 + 40 * (d + 1); omega⟩ hl.1 (Nat.le_of_ble_eq_true rfl) rfl dX5_condition_43 rfl (fun r9 σ8 => ?_)
        refine zj_istore_n (pc' := 47) (lv' := [(3, .int r9), (0, .ref (b0 + v0)), (1, .int v1), (2, .int v2)]) hC dX5_condition_46 rfl rfl hl (by decide) rfl (fun ls hl => ?_)
        refine zj_aload_n (pc' := 48) hC dX5_condition_47 rfl rfl (lv_at hl 1 rfl) ?_
        refine zn_callzV (pc' := 51) (rest := []) hG hC (hGR v0 σ8 hk_v0).2.1 hk_v0 rfl tw_2_120 tw_2_117 tw_2_119 ts_1_9 tw_1_7 ddX5_part rfl ⟨rfl, rfl⟩ ⟨by show 12 + d + 1 ≤ 12 + (d + 1); omega, by show 8 + (4 + 11) + (300 + 40 * d) ≤ 300 + 40 * (d + 1); omega⟩ hl.1 (Nat.le_of_ble_eq_true rfl) rfl dX5_condition_48 rfl (fun r11 σ10 hb_r11 => ?_)
        refine zj_istore_n (pc' := 52) (lv' := [(1, .int r11), (3, .int r9), (0, .ref (b0 + v0)), (2, .int v2)]) hC dX5_condition_51 rfl rfl hl (by decide) rfl (fun ls hl => ?_)
        refine zj_aload_n (pc' := 53) hC dX5_condition_52 rfl rfl (lv_at hl 2 rfl) ?_
        refine zj_getR (pc' := 56) hC hk_v0 fd_5_1 rfl tw_1_176 dX5_condition_53 rfl (fun q12 hk_q12 => ?_)
        refine zj_iload_n (pc' := 57) hC dX5_condition_56 rfl rfl (lv_at hl 1 rfl) ?_
        refine zj_callvV (pc' := 60) (rest := []) hC (kX4_aimHere l b0 cA D L q12 r9 σ10 hk_q12) hk_q12 rfl tw_3_11 tw_3_8 tw_3_9 tw_3_10 tw_1_6 ddX4_aimHere rfl ⟨rfl, rfl⟩ ⟨by show 0 + 1 ≤ 12 + (d + 1); omega, by show 8 + (2 + 11) + 0 ≤ 300 + 40 * (d + 1); omega⟩ hl.1 (Nat.le_of_ble_eq_true rfl) rfl dX5_condition_57 rfl (fun σ13 => ?_)
        refine zj_iinc (pc' := 63) (k0 := 3) (v := (v2 + (1 : Int32))) (lv' := [(2, .int (v2 + (1 : Int32))), (1, .int r11), (3, .int r9), (0, .ref (b0 + v0))]) hC dX5_condition_60 rfl hl rfl rfl (by decide) rfl (fun ls hl => ?_)
        refine zj_goto (tgt := 7) hC dX5_condition_63 (by decide) ?_
        exact h7 v0 r11 ((v2 + (1 : Int32))) σ13 ls hk_v0 hb_r11 (lv_sub hl [3, 1, 0] rfl)
set_option maxRecDepth 100000 in
set_option maxHeartbeats 4000000 in
theorem lX5_condition_7 {p : Program} {l : Launch} {e : Env} {s : State} {m : MethodId} {args : Array Value} {below : List Frame} {meth : Method} {c : Code} {b0 : Nat} {cA : Nat → ClassId} {D : va_G} {L : List (Nat × Nat)} {sq sw : Nat} (d : Nat) (gr : Nat → Nat → zS → Option (Int32 × zS)) (hGR : zGR l b0 cA D L sq sw d gr) (hG : zGq (zA b0 L) sq sw s s.heap) (hC : zC p c s m args meth cX5_condition 4 (some Jvm.ClassFile.FieldType.boolean) (Cond.code yX5_condition cX5_condition 4 (some Jvm.ClassFile.FieldType.boolean)) yX5_condition.cls cA D)  (n : Nat) : ∀ (v0 : Nat) (v1 : Int32) (v2 : Int32) (σ : zS) (ls : Array Slot), L[v0]? = some (0, 5) → nB v1 → lv_has ls 4 [(0, .ref (b0 + v0)), (1, .int v1), (2, .int v2)] → zJ p l e (rmX5G (d + 1)) s m args below meth c b0 cA D L (fun z => MQ below (va_Qi (fun (r : Int32) (u : zS) => (r, u) = z ∧ nB r) (zB b0 cA D L) (zA b0 L)) args s 0 0 (zA b0 L)) (fX5_condition_7 gr  n v0 v1 v2 σ) σ 7 ls [] := by
  induction n with
  | zero => intros; exact zj_none
  | succ n ih => exact jX5_condition_7 d gr hGR hG hC (fX5_condition_7 gr  n) ih
set_option maxRecDepth 100000 in
set_option maxHeartbeats 4000000 in
theorem kX5_condition (l : Launch) (b0 : Nat) (cA : Nat → ClassId) (D : va_G) (L : List (Nat × Nat)) (sq sw : Nat) (d : Nat) (gr : Nat → Nat → zS → Option (Int32 × zS)) (hGR : zGR l b0 cA D L sq sw d gr) (v0 : Nat) (σ : zS) (hk0 : L[v0]? = some (0, 5)) : zNz l b0 cA D L sq sw yX5_condition (Cond.code yX5_condition cX5_condition 4 (some Jvm.ClassFile.FieldType.boolean)) (rmX5G (d + 1)) [.ref (b0 + v0)] σ (fX5_condition gr v0 σ) := by
  refine zNz_of (by decide) (Nat.le_of_ble_eq_true rfl) ?_
  intro p e s m below meth c ls hG hC hl
  have hl : lv_has ls 4 [(0, .ref (b0 + v0))] := hl
  generalize ([.ref (b0 + v0)] : List Value).toArray = args at hC ⊢
  unfold fX5_condition
  refine zj_aload_n (pc' := 1) hC dX5_condition_0 rfl rfl (lv_at hl 0 rfl) ?_
  refine zn_callzV (pc' := 4) (rest := []) hG hC (hGR v0 σ hk0).2.1 hk0 rfl tw_2_120 tw_2_117 tw_2_119 ts_1_9 tw_1_7 ddX5_part rfl ⟨rfl, rfl⟩ ⟨by show 12 + d + 1 ≤ 12 + (d + 1); omega, by show 8 + (4 + 11) + (300 + 40 * d) ≤ 300 + 40 * (d + 1); omega⟩ hl.1 (Nat.le_of_ble_eq_true rfl) rfl dX5_condition_1 rfl (fun r16 σ15 hb_r16 => ?_)
  refine zj_istore_n (pc' := 5) (lv' := [(1, .int r16), (0, .ref (b0 + v0))]) hC dX5_condition_4 rfl rfl hl (by decide) rfl (fun ls hl => ?_)
  refine zj_iconst (pc' := 6) (v := (0 : Int32)) hC dX5_condition_5 rfl rfl ?_
  refine zj_istore_n (pc' := 7) (lv' := [(2, .int (0 : Int32)), (1, .int r16), (0, .ref (b0 + v0))]) hC dX5_condition_6 rfl rfl hl (by decide) rfl (fun ls hl => ?_)
  exact lX5_condition_7 d gr hGR hG hC zFU v0 r16 (0 : Int32) σ15 ls hk0 hb_r16 (lv_sub hl [2, 1, 0] rfl)
-- X5_part
def bX5_part_7 (gr : Nat → Nat → zS → Option (Int32 × zS)) (k7 : Nat → Int32 → Int32 → zS → Option (Int32 × zS)) (v0 : Nat) (v1 : Int32) (v2 : Int32) (σ : zS) : Option (Int32 × zS) :=
  if (120 : Int32) ≤ v2 then (some (v1, σ)) else (if v1 = 0 then (some (v1, σ)) else (zb (fX5_sign v0 σ) (fun (r4 : Int32) (σ3 : zS) => if r4 = (38 : Int32) then (bnd (zI σ3 v0 3 ((σ3.1 v0 3) + (1 : Int32))) (fun (σ6 : zS) => bnd (σ6.2 v0 1) (fun (q7 : Nat) => zb (fX4_add q7 (5 : Int32) (0 : Int32) σ6) (fun (r9 : Int32) (σ8 : zS) => zb (gr 2 v0 σ8) (fun (r11 : Int32) (σ10 : zS) => bnd (σ10.2 v0 1) (fun (q12 : Nat) => zb (fX4_aimHere q12 r9 σ10) (fun (_ : Unit) (σ13 : zS) => k7 v0 r11 ((v2 + (1 : Int32))) σ13))))))) else (some (v1, σ3)))))
def fX5_part_7 (gr : Nat → Nat → zS → Option (Int32 × zS))  : Nat → Nat → Int32 → Int32 → zS → Option (Int32 × zS)
  | 0, _, _, _, _ => none
  | n + 1, v0, v1, v2, σ => bX5_part_7 gr (fX5_part_7 gr  n) v0 v1 v2 σ
def fX5_part (gr : Nat → Nat → zS → Option (Int32 × zS)) (v0 : Nat) (σ : zS) : Option (Int32 × zS) :=
  zb (gr 2 v0 σ) (fun (r16 : Int32) (σ15 : zS) => fX5_part_7 gr zFU v0 r16 (0 : Int32) σ15)
set_option maxRecDepth 100000 in
set_option maxHeartbeats 4000000 in
theorem jX5_part_7 {p : Program} {l : Launch} {e : Env} {s : State} {m : MethodId} {args : Array Value} {below : List Frame} {meth : Method} {c : Code} {b0 : Nat} {cA : Nat → ClassId} {D : va_G} {L : List (Nat × Nat)} {sq sw : Nat} (d : Nat) (gr : Nat → Nat → zS → Option (Int32 × zS)) (hGR : zGR l b0 cA D L sq sw d gr) (hG : zGq (zA b0 L) sq sw s s.heap) (hC : zC p c s m args meth cX5_part 4 (some Jvm.ClassFile.FieldType.boolean) (Cond.code yX5_part cX5_part 4 (some Jvm.ClassFile.FieldType.boolean)) yX5_part.cls cA D) (k7 : Nat → Int32 → Int32 → zS → Option (Int32 × zS)) (h7 : ∀ (v0 : Nat) (v1 : Int32) (v2 : Int32) (σ : zS) (ls : Array Slot), L[v0]? = some (0, 5) → nB v1 → lv_has ls 4 [(0, .ref (b0 + v0)), (1, .int v1), (2, .int v2)] → zJ p l e (rmX5G (d + 1)) s m args below meth c b0 cA D L (fun z => MQ below (va_Qi (fun (r : Int32) (u : zS) => (r, u) = z ∧ nB r) (zB b0 cA D L) (zA b0 L)) args s 0 0 (zA b0 L)) (k7 v0 v1 v2 σ) σ 7 ls []) (v0 : Nat) (v1 : Int32) (v2 : Int32) (σ : zS) (ls : Array Slot) (hk_v0 : L[v0]? = some (0, 5)) (hb_v1 : nB v1) (hl : lv_has ls 4 [(0, .ref (b0 + v0)), (1, .int v1), (2, .int v2)]) : zJ p l e (rmX5G (d + 1)) s m args below meth c b0 cA D L (fun z => MQ below (va_Qi (fun (r : Int32) (u : zS) => (r, u) = z ∧ nB r) (zB b0 cA D L) (zA b0 L)) args s 0 0 (zA b0 L)) (bX5_part_7 gr k7 v0 v1 v2 σ) σ 7 ls [] := by
  unfold bX5_part_7
  refine zj_iload_n (pc' := 8) hC dX5_part_7 rfl rfl (lv_at hl 2 rfl) ?_
  refine zj_bipush (pc' := 10) (v := (120 : Int32)) hC dX5_part_8 rfl rfl ?_
  refine zj_icmp_ge (tgt := 65) (pc' := 13) hC dX5_part_10 (by decide) rfl (fun c1 => ?_) (fun c1 => ?_)
  · refine zj_iload_n (pc' := 66) hC dX5_part_65 rfl rfl (lv_at hl 1 rfl) ?_
    exact zj_zret hC hb_v1 dX5_part_66
  · refine zj_iload_n (pc' := 14) hC dX5_part_13 rfl rfl (lv_at hl 1 rfl) ?_
    refine zj_if_eq (tgt := 65) (pc' := 17) hC dX5_part_14 (by decide) rfl (fun c2 => ?_) (fun c2 => ?_)
    · refine zj_iload_n (pc' := 66) hC dX5_part_65 rfl rfl (lv_at hl 1 rfl) ?_
      exact zj_zret hC hb_v1 dX5_part_66
    · refine zj_aload_n (pc' := 18) hC dX5_part_17 rfl rfl (lv_at hl 0 rfl) ?_
      refine zj_calliV (pc' := 21) (rest := []) hC (kX5_sign l b0 cA D L v0 σ hk_v0) hk_v0 rfl tw_2_96 tw_2_93 tw_2_95 ts_1_4 tw_1_7 ddX5_sign rfl ⟨rfl, rfl⟩ ⟨by show 0 + 1 ≤ 12 + (d + 1); omega, by show 8 + (1 + 11) + 0 ≤ 300 + 40 * (d + 1); omega⟩ hl.1 (Nat.le_of_ble_eq_true rfl) rfl dX5_part_18 rfl (fun r4 σ3 => ?_)
      refine zj_bipush (pc' := 23) (v := (38 : Int32)) hC dX5_part_21 rfl rfl ?_
      refine zj_icmp_ne (tgt := 65) (pc' := 26) hC dX5_part_23 (by decide) rfl (fun c5 => ?_) (fun c5 => ?_)
      · refine zj_iload_n (pc' := 66) hC dX5_part_65 rfl rfl (lv_at hl 1 rfl) ?_
        exact zj_zret hC hb_v1 dX5_part_66
      · refine zj_aload_n (pc' := 27) hC dX5_part_26 rfl rfl (lv_at hl 0 rfl) ?_
        refine zj_dup (pc' := 28) hC dX5_part_27 rfl rfl ?_
        refine zj_getI (pc' := 31) hC hk_v0 fd_5_3 rfl tw_1_178 dX5_part_28 rfl ?_
        refine zj_iconst (pc' := 32) (v := (1 : Int32)) hC dX5_part_31 rfl rfl ?_
        refine zj_iadd (pc' := 33) hC dX5_part_32 rfl ?_
        refine zj_putI (pc' := 36) hC hk_v0 fd_5_3 rfl tw_1_178 rfl rfl rfl dX5_part_33 rfl (fun σ6 => ?_)
        refine zj_aload_n (pc' := 37) hC dX5_part_36 rfl rfl (lv_at hl 0 rfl) ?_
        refine zj_getR (pc' := 40) hC hk_v0 fd_5_1 rfl tw_1_176 dX5_part_37 rfl (fun q7 hk_q7 => ?_)
        refine zj_iconst (pc' := 41) (v := (5 : Int32)) hC dX5_part_40 rfl rfl ?_
        refine zj_iconst (pc' := 42) (v := (0 : Int32)) hC dX5_part_41 rfl rfl ?_
        refine zj_calliV (pc' := 45) (rest := []) hC (kX4_add l b0 cA D L q7 (5 : Int32) (0 : Int32) σ6 hk_q7) hk_q7 rfl tw_2_104 tw_2_101 tw_2_102 tw_2_103 tw_1_6 ddX4_add rfl ⟨rfl, rfl⟩ ⟨by show 0 + 1 ≤ 12 + (d + 1); omega, by show 8 + (4 + 11) + 0 ≤ 300 + 40 * (d + 1); omega⟩ hl.1 (Nat.le_of_ble_eq_true rfl) rfl dX5_part_42 rfl (fun r9 σ8 => ?_)
        refine zj_istore_n (pc' := 46) (lv' := [(3, .int r9), (0, .ref (b0 + v0)), (1, .int v1), (2, .int v2)]) hC dX5_part_45 rfl rfl hl (by decide) rfl (fun ls hl => ?_)
        refine zj_aload_n (pc' := 47) hC dX5_part_46 rfl rfl (lv_at hl 1 rfl) ?_
        refine zn_callzV (pc' := 50) (rest := []) hG hC (hGR v0 σ8 hk_v0).2.2.1 hk_v0 rfl tw_2_124 tw_2_121 tw_2_123 ts_1_10 tw_1_7 ddX5_piece rfl ⟨rfl, rfl⟩ ⟨by show 12 + d + 1 ≤ 12 + (d + 1); omega, by show 8 + (1 + 11) + (300 + 40 * d) ≤ 300 + 40 * (d + 1); omega⟩ hl.1 (Nat.le_of_ble_eq_true rfl) rfl dX5_part_47 rfl (fun r11 σ10 hb_r11 => ?_)
        refine zj_istore_n (pc' := 51) (lv' := [(1, .int r11), (3, .int r9), (0, .ref (b0 + v0)), (2, .int v2)]) hC dX5_part_50 rfl rfl hl (by decide) rfl (fun ls hl => ?_)
        refine zj_aload_n (pc' := 52) hC dX5_part_51 rfl rfl (lv_at hl 2 rfl) ?_
        refine zj_getR (pc' := 55) hC hk_v0 fd_5_1 rfl tw_1_176 dX5_part_52 rfl (fun q12 hk_q12 => ?_)
        refine zj_iload_n (pc' := 56) hC dX5_part_55 rfl rfl (lv_at hl 1 rfl) ?_
        refine zj_callvV (pc' := 59) (rest := []) hC (kX4_aimHere l b0 cA D L q12 r9 σ10 hk_q12) hk_q12 rfl tw_3_11 tw_3_8 tw_3_9 tw_3_10 tw_1_6 ddX4_aimHere rfl ⟨rfl, rfl⟩ ⟨by show 0 + 1 ≤ 12 + (d + 1); omega, by show 8 + (2 + 11) + 0 ≤ 300 + 40 * (d + 1); omega⟩ hl.1 (Nat.le_of_ble_eq_true rfl) rfl dX5_part_56 rfl (fun σ13 => ?_)
        refine zj_iinc (pc' := 62) (k0 := 3) (v := (v2 + (1 : Int32))) (lv' := [(2, .int (v2 + (1 : Int32))), (1, .int r11), (3, .int r9), (0, .ref (b0 + v0))]) hC dX5_part_59 rfl hl rfl rfl (by decide) rfl (fun ls hl => ?_)
        refine zj_goto (tgt := 7) hC dX5_part_62 (by decide) ?_
        exact h7 v0 r11 ((v2 + (1 : Int32))) σ13 ls hk_v0 hb_r11 (lv_sub hl [3, 1, 0] rfl)
set_option maxRecDepth 100000 in
set_option maxHeartbeats 4000000 in
theorem lX5_part_7 {p : Program} {l : Launch} {e : Env} {s : State} {m : MethodId} {args : Array Value} {below : List Frame} {meth : Method} {c : Code} {b0 : Nat} {cA : Nat → ClassId} {D : va_G} {L : List (Nat × Nat)} {sq sw : Nat} (d : Nat) (gr : Nat → Nat → zS → Option (Int32 × zS)) (hGR : zGR l b0 cA D L sq sw d gr) (hG : zGq (zA b0 L) sq sw s s.heap) (hC : zC p c s m args meth cX5_part 4 (some Jvm.ClassFile.FieldType.boolean) (Cond.code yX5_part cX5_part 4 (some Jvm.ClassFile.FieldType.boolean)) yX5_part.cls cA D)  (n : Nat) : ∀ (v0 : Nat) (v1 : Int32) (v2 : Int32) (σ : zS) (ls : Array Slot), L[v0]? = some (0, 5) → nB v1 → lv_has ls 4 [(0, .ref (b0 + v0)), (1, .int v1), (2, .int v2)] → zJ p l e (rmX5G (d + 1)) s m args below meth c b0 cA D L (fun z => MQ below (va_Qi (fun (r : Int32) (u : zS) => (r, u) = z ∧ nB r) (zB b0 cA D L) (zA b0 L)) args s 0 0 (zA b0 L)) (fX5_part_7 gr  n v0 v1 v2 σ) σ 7 ls [] := by
  induction n with
  | zero => intros; exact zj_none
  | succ n ih => exact jX5_part_7 d gr hGR hG hC (fX5_part_7 gr  n) ih
set_option maxRecDepth 100000 in
set_option maxHeartbeats 4000000 in
theorem kX5_part (l : Launch) (b0 : Nat) (cA : Nat → ClassId) (D : va_G) (L : List (Nat × Nat)) (sq sw : Nat) (d : Nat) (gr : Nat → Nat → zS → Option (Int32 × zS)) (hGR : zGR l b0 cA D L sq sw d gr) (v0 : Nat) (σ : zS) (hk0 : L[v0]? = some (0, 5)) : zNz l b0 cA D L sq sw yX5_part (Cond.code yX5_part cX5_part 4 (some Jvm.ClassFile.FieldType.boolean)) (rmX5G (d + 1)) [.ref (b0 + v0)] σ (fX5_part gr v0 σ) := by
  refine zNz_of (by decide) (Nat.le_of_ble_eq_true rfl) ?_
  intro p e s m below meth c ls hG hC hl
  have hl : lv_has ls 4 [(0, .ref (b0 + v0))] := hl
  generalize ([.ref (b0 + v0)] : List Value).toArray = args at hC ⊢
  unfold fX5_part
  refine zj_aload_n (pc' := 1) hC dX5_part_0 rfl rfl (lv_at hl 0 rfl) ?_
  refine zn_callzV (pc' := 4) (rest := []) hG hC (hGR v0 σ hk0).2.2.1 hk0 rfl tw_2_124 tw_2_121 tw_2_123 ts_1_10 tw_1_7 ddX5_piece rfl ⟨rfl, rfl⟩ ⟨by show 12 + d + 1 ≤ 12 + (d + 1); omega, by show 8 + (1 + 11) + (300 + 40 * d) ≤ 300 + 40 * (d + 1); omega⟩ hl.1 (Nat.le_of_ble_eq_true rfl) rfl dX5_part_1 rfl (fun r16 σ15 hb_r16 => ?_)
  refine zj_istore_n (pc' := 5) (lv' := [(1, .int r16), (0, .ref (b0 + v0))]) hC dX5_part_4 rfl rfl hl (by decide) rfl (fun ls hl => ?_)
  refine zj_iconst (pc' := 6) (v := (0 : Int32)) hC dX5_part_5 rfl rfl ?_
  refine zj_istore_n (pc' := 7) (lv' := [(2, .int (0 : Int32)), (1, .int r16), (0, .ref (b0 + v0))]) hC dX5_part_6 rfl rfl hl (by decide) rfl (fun ls hl => ?_)
  exact lX5_part_7 d gr hGR hG hC zFU v0 r16 (0 : Int32) σ15 ls hk0 hb_r16 (lv_sub hl [2, 1, 0] rfl)
-- X5_piece
def fX5_piece (gr : Nat → Nat → zS → Option (Int32 × zS)) (v0 : Nat) (σ : zS) : Option (Int32 × zS) :=
  zb (fX5_sign v0 σ) (fun (r2 : Int32) (σ1 : zS) => if r2 = (40 : Int32) then (zb (fX5_opens v0 (40 : Int32) σ1) (fun (r20 : Int32) (σ19 : zS) => if r20 = 0 then (some ((0 : Int32), σ19)) else (zb (gr 0 v0 σ19) (fun (r23 : Int32) (σ22 : zS) => if r23 = 0 then (some ((0 : Int32), σ22)) else (zb (fX5_closes v0 (41 : Int32) σ22) (fun (r26 : Int32) (σ25 : zS) => if r26 = 0 then (some ((0 : Int32), σ25)) else (some ((1 : Int32), σ25)))))))) else (zb (fX5_sign v0 σ1) (fun (r5 : Int32) (σ4 : zS) => if r5 = (33 : Int32) then (zb (fX5_opens v0 (33 : Int32) σ4) (fun (r8 : Int32) (σ7 : zS) => if r8 = 0 then (some ((0 : Int32), σ7)) else (zb (gr 2 v0 σ7) (fun (r11 : Int32) (σ10 : zS) => if r11 = 0 then (some ((0 : Int32), σ10)) else (bnd (zI σ10 v0 4 ((σ10.1 v0 4) - (1 : Int32))) (fun (σ13 : zS) => bnd (σ13.2 v0 1) (fun (q14 : Nat) => zb (fX4_add q14 (4 : Int32) (0 : Int32) σ13) (fun (r16 : Int32) (σ15 : zS) => some ((1 : Int32), σ15))))))))) else (zb (gr 3 v0 σ4) (fun (r18 : Int32) (σ17 : zS) => some (r18, σ17))))))
set_option maxRecDepth 100000 in
set_option maxHeartbeats 4000000 in
theorem kX5_piece (l : Launch) (b0 : Nat) (cA : Nat → ClassId) (D : va_G) (L : List (Nat × Nat)) (sq sw : Nat) (d : Nat) (gr : Nat → Nat → zS → Option (Int32 × zS)) (hGR : zGR l b0 cA D L sq sw d gr) (v0 : Nat) (σ : zS) (hk0 : L[v0]? = some (0, 5)) : zNz l b0 cA D L sq sw yX5_piece (Cond.code yX5_piece cX5_piece 1 (some Jvm.ClassFile.FieldType.boolean)) (rmX5G (d + 1)) [.ref (b0 + v0)] σ (fX5_piece gr v0 σ) := by
  refine zNz_of (by decide) (Nat.le_of_ble_eq_true rfl) ?_
  intro p e s m below meth c ls hG hC hl
  have hl : lv_has ls 1 [(0, .ref (b0 + v0))] := hl
  generalize ([.ref (b0 + v0)] : List Value).toArray = args at hC ⊢
  unfold fX5_piece
  refine zj_aload_n (pc' := 1) hC dX5_piece_0 rfl rfl (lv_at hl 0 rfl) ?_
  refine zj_calliV (pc' := 4) (rest := []) hC (kX5_sign l b0 cA D L v0 σ hk0) hk0 rfl tw_2_96 tw_2_93 tw_2_95 ts_1_4 tw_1_7 ddX5_sign rfl ⟨rfl, rfl⟩ ⟨by show 0 + 1 ≤ 12 + (d + 1); omega, by show 8 + (1 + 11) + 0 ≤ 300 + 40 * (d + 1); omega⟩ hl.1 (Nat.le_of_ble_eq_true rfl) rfl dX5_piece_1 rfl (fun r2 σ1 => ?_)
  refine zj_bipush (pc' := 6) (v := (40 : Int32)) hC dX5_piece_4 rfl rfl ?_
  refine zj_icmp_ne (tgt := 40) (pc' := 9) hC dX5_piece_6 (by decide) rfl (fun c3 => ?_) (fun c3 => ?_)
  · refine zj_aload_n (pc' := 41) hC dX5_piece_40 rfl rfl (lv_at hl 0 rfl) ?_
    refine zj_calliV (pc' := 44) (rest := []) hC (kX5_sign l b0 cA D L v0 σ1 hk0) hk0 rfl tw_2_96 tw_2_93 tw_2_95 ts_1_4 tw_1_7 ddX5_sign rfl ⟨rfl, rfl⟩ ⟨by show 0 + 1 ≤ 12 + (d + 1); omega, by show 8 + (1 + 11) + 0 ≤ 300 + 40 * (d + 1); omega⟩ hl.1 (Nat.le_of_ble_eq_true rfl) rfl dX5_piece_41 rfl (fun r5 σ4 => ?_)
    refine zj_bipush (pc' := 46) (v := (33 : Int32)) hC dX5_piece_44 rfl rfl ?_
    refine zj_icmp_eq (tgt := 54) (pc' := 49) hC dX5_piece_46 (by decide) rfl (fun c6 => ?_) (fun c6 => ?_)
    · refine zj_aload_n (pc' := 55) hC dX5_piece_54 rfl rfl (lv_at hl 0 rfl) ?_
      refine zj_bipush (pc' := 57) (v := (33 : Int32)) hC dX5_piece_55 rfl rfl ?_
      refine zj_callzV (pc' := 60) (rest := []) hC (kX5_opens l b0 cA D L v0 (33 : Int32) σ4 hk0) hk0 rfl tw_2_108 tw_2_105 tw_2_107 ts_1_6 tw_1_7 ddX5_opens rfl ⟨rfl, rfl⟩ ⟨by show 2 + 1 ≤ 12 + (d + 1); omega, by show 8 + (2 + 11) + 42 ≤ 300 + 40 * (d + 1); omega⟩ hl.1 (Nat.le_of_ble_eq_true rfl) rfl dX5_piece_57 rfl (fun r8 σ7 hb_r8 => ?_)
      refine zj_if_eq (tgt := 70) (pc' := 63) hC dX5_piece_60 (by decide) rfl (fun c9 => ?_) (fun c9 => ?_)
      · refine zj_iconst (pc' := 71) (v := (0 : Int32)) hC dX5_piece_70 rfl rfl ?_
        exact zj_zret hC nB_0 dX5_piece_71
      · refine zj_aload_n (pc' := 64) hC dX5_piece_63 rfl rfl (lv_at hl 0 rfl) ?_
        refine zn_callzV (pc' := 67) (rest := []) hG hC (hGR v0 σ7 hk0).2.2.1 hk0 rfl tw_2_124 tw_2_121 tw_2_123 ts_1_10 tw_1_7 ddX5_piece rfl ⟨rfl, rfl⟩ ⟨by show 12 + d + 1 ≤ 12 + (d + 1); omega, by show 8 + (1 + 11) + (300 + 40 * d) ≤ 300 + 40 * (d + 1); omega⟩ hl.1 (Nat.le_of_ble_eq_true rfl) rfl dX5_piece_64 rfl (fun r11 σ10 hb_r11 => ?_)
        refine zj_if_ne (tgt := 72) (pc' := 70) hC dX5_piece_67 (by decide) rfl (fun c12 => ?_) (fun c12 => ?_)
        · refine zj_aload_n (pc' := 73) hC dX5_piece_72 rfl rfl (lv_at hl 0 rfl) ?_
          refine zj_dup (pc' := 74) hC dX5_piece_73 rfl rfl ?_
          refine zj_getI (pc' := 77) hC hk0 fd_5_4 rfl tw_1_179 dX5_piece_74 rfl ?_
          refine zj_iconst (pc' := 78) (v := (1 : Int32)) hC dX5_piece_77 rfl rfl ?_
          refine zj_isub (pc' := 79) hC dX5_piece_78 rfl ?_
          refine zj_putI (pc' := 82) hC hk0 fd_5_4 rfl tw_1_179 rfl rfl rfl dX5_piece_79 rfl (fun σ13 => ?_)
          refine zj_aload_n (pc' := 83) hC dX5_piece_82 rfl rfl (lv_at hl 0 rfl) ?_
          refine zj_getR (pc' := 86) hC hk0 fd_5_1 rfl tw_1_176 dX5_piece_83 rfl (fun q14 hk_q14 => ?_)
          refine zj_iconst (pc' := 87) (v := (4 : Int32)) hC dX5_piece_86 rfl rfl ?_
          refine zj_iconst (pc' := 88) (v := (0 : Int32)) hC dX5_piece_87 rfl rfl ?_
          refine zj_calliV (pc' := 91) (rest := []) hC (kX4_add l b0 cA D L q14 (4 : Int32) (0 : Int32) σ13 hk_q14) hk_q14 rfl tw_2_104 tw_2_101 tw_2_102 tw_2_103 tw_1_6 ddX4_add rfl ⟨rfl, rfl⟩ ⟨by show 0 + 1 ≤ 12 + (d + 1); omega, by show 8 + (4 + 11) + 0 ≤ 300 + 40 * (d + 1); omega⟩ hl.1 (Nat.le_of_ble_eq_true rfl) rfl dX5_piece_88 rfl (fun r16 σ15 => ?_)
          refine zj_pop (pc' := 92) hC dX5_piece_91 rfl rfl ?_
          refine zj_iconst (pc' := 93) (v := (1 : Int32)) hC dX5_piece_92 rfl rfl ?_
          exact zj_zret hC nB_1 dX5_piece_93
        · refine zj_iconst (pc' := 71) (v := (0 : Int32)) hC dX5_piece_70 rfl rfl ?_
          exact zj_zret hC nB_0 dX5_piece_71
    · refine zj_aload_n (pc' := 50) hC dX5_piece_49 rfl rfl (lv_at hl 0 rfl) ?_
      refine zn_callzV (pc' := 53) (rest := []) hG hC (hGR v0 σ4 hk0).2.2.2.1 hk0 rfl tw_2_132 tw_2_129 tw_2_131 ts_1_12 tw_1_7 ddX5_comparison rfl ⟨rfl, rfl⟩ ⟨by show 12 + d + 1 ≤ 12 + (d + 1); omega, by show 8 + (2 + 11) + (300 + 40 * d) ≤ 300 + 40 * (d + 1); omega⟩ hl.1 (Nat.le_of_ble_eq_true rfl) rfl dX5_piece_50 rfl (fun r18 σ17 hb_r18 => ?_)
      exact zj_zret hC hb_r18 dX5_piece_53
  · refine zj_aload_n (pc' := 10) hC dX5_piece_9 rfl rfl (lv_at hl 0 rfl) ?_
    refine zj_bipush (pc' := 12) (v := (40 : Int32)) hC dX5_piece_10 rfl rfl ?_
    refine zj_callzV (pc' := 15) (rest := []) hC (kX5_opens l b0 cA D L v0 (40 : Int32) σ1 hk0) hk0 rfl tw_2_108 tw_2_105 tw_2_107 ts_1_6 tw_1_7 ddX5_opens rfl ⟨rfl, rfl⟩ ⟨by show 2 + 1 ≤ 12 + (d + 1); omega, by show 8 + (2 + 11) + 42 ≤ 300 + 40 * (d + 1); omega⟩ hl.1 (Nat.le_of_ble_eq_true rfl) rfl dX5_piece_12 rfl (fun r20 σ19 hb_r20 => ?_)
    refine zj_if_eq (tgt := 38) (pc' := 18) hC dX5_piece_15 (by decide) rfl (fun c21 => ?_) (fun c21 => ?_)
    · refine zj_iconst (pc' := 39) (v := (0 : Int32)) hC dX5_piece_38 rfl rfl ?_
      exact zj_zret hC nB_0 dX5_piece_39
    · refine zj_aload_n (pc' := 19) hC dX5_piece_18 rfl rfl (lv_at hl 0 rfl) ?_
      refine zn_callzV (pc' := 22) (rest := []) hG hC (hGR v0 σ19 hk0).1 hk0 rfl tw_2_116 tw_2_113 tw_2_115 ts_1_8 tw_1_7 ddX5_condition rfl ⟨rfl, rfl⟩ ⟨by show 12 + d + 1 ≤ 12 + (d + 1); omega, by show 8 + (4 + 11) + (300 + 40 * d) ≤ 300 + 40 * (d + 1); omega⟩ hl.1 (Nat.le_of_ble_eq_true rfl) rfl dX5_piece_19 rfl (fun r23 σ22 hb_r23 => ?_)
      refine zj_if_eq (tgt := 38) (pc' := 25) hC dX5_piece_22 (by decide) rfl (fun c24 => ?_) (fun c24 => ?_)
      · refine zj_iconst (pc' := 39) (v := (0 : Int32)) hC dX5_piece_38 rfl rfl ?_
        exact zj_zret hC nB_0 dX5_piece_39
      · refine zj_aload_n (pc' := 26) hC dX5_piece_25 rfl rfl (lv_at hl 0 rfl) ?_
        refine zj_bipush (pc' := 28) (v := (41 : Int32)) hC dX5_piece_26 rfl rfl ?_
        refine zj_callzV (pc' := 31) (rest := []) hC (kX5_closes l b0 cA D L v0 (41 : Int32) σ22 hk0) hk0 rfl tw_2_128 tw_2_125 tw_2_127 ts_1_11 tw_1_7 ddX5_closes rfl ⟨rfl, rfl⟩ ⟨by show 2 + 1 ≤ 12 + (d + 1); omega, by show 8 + (2 + 11) + 42 ≤ 300 + 40 * (d + 1); omega⟩ hl.1 (Nat.le_of_ble_eq_true rfl) rfl dX5_piece_28 rfl (fun r26 σ25 hb_r26 => ?_)
        refine zj_if_eq (tgt := 38) (pc' := 34) hC dX5_piece_31 (by decide) rfl (fun c27 => ?_) (fun c27 => ?_)
        · refine zj_iconst (pc' := 39) (v := (0 : Int32)) hC dX5_piece_38 rfl rfl ?_
          exact zj_zret hC nB_0 dX5_piece_39
        · refine zj_iconst (pc' := 35) (v := (1 : Int32)) hC dX5_piece_34 rfl rfl ?_
          refine zj_goto (tgt := 39) hC dX5_piece_35 (by decide) ?_
          exact zj_zret hC nB_1 dX5_piece_39
-- X5_comparison
def fX5_comparison (gr : Nat → Nat → zS → Option (Int32 × zS)) (v0 : Nat) (σ : zS) : Option (Int32 × zS) :=
  zb (gr 4 v0 σ) (fun (r2 : Int32) (σ1 : zS) => if r2 = 0 then (some ((0 : Int32), σ1)) else (zb (fX5_sign v0 σ1) (fun (r5 : Int32) (σ4 : zS) => zb (fX5_comparing r5 σ4) (fun (r7 : Int32) (σ6 : zS) => if r7 = (-1 : Int32) then (zb (fX5_wrong v0 (1 : Int32) σ6) (fun (r17 : Int32) (σ16 : zS) => some (r17, σ16))) else (bnd (zI σ6 v0 3 ((σ6.1 v0 3) + (1 : Int32))) (fun (σ9 : zS) => zb (gr 4 v0 σ9) (fun (r11 : Int32) (σ10 : zS) => if r11 = 0 then (some ((0 : Int32), σ10)) else (bnd (σ10.2 v0 1) (fun (q13 : Nat) => zb (fX4_add q13 r7 (0 : Int32) σ10) (fun (r15 : Int32) (σ14 : zS) => some ((1 : Int32), σ14)))))))))))
set_option maxRecDepth 100000 in
set_option maxHeartbeats 4000000 in
theorem kX5_comparison (l : Launch) (b0 : Nat) (cA : Nat → ClassId) (D : va_G) (L : List (Nat × Nat)) (sq sw : Nat) (d : Nat) (gr : Nat → Nat → zS → Option (Int32 × zS)) (hGR : zGR l b0 cA D L sq sw d gr) (v0 : Nat) (σ : zS) (hk0 : L[v0]? = some (0, 5)) : zNz l b0 cA D L sq sw yX5_comparison (Cond.code yX5_comparison cX5_comparison 2 (some Jvm.ClassFile.FieldType.boolean)) (rmX5G (d + 1)) [.ref (b0 + v0)] σ (fX5_comparison gr v0 σ) := by
  refine zNz_of (by decide) (Nat.le_of_ble_eq_true rfl) ?_
  intro p e s m below meth c ls hG hC hl
  have hl : lv_has ls 2 [(0, .ref (b0 + v0))] := hl
  generalize ([.ref (b0 + v0)] : List Value).toArray = args at hC ⊢
  unfold fX5_comparison
  refine zj_aload_n (pc' := 1) hC dX5_comparison_0 rfl rfl (lv_at hl 0 rfl) ?_
  refine zn_callzV (pc' := 4) (rest := []) hG hC (hGR v0 σ hk0).2.2.2.2.1 hk0 rfl tw_2_136 tw_2_133 tw_2_135 ts_1_13 tw_1_7 ddX5_sum rfl ⟨rfl, rfl⟩ ⟨by show 12 + d + 1 ≤ 12 + (d + 1); omega, by show 8 + (4 + 11) + (300 + 40 * d) ≤ 300 + 40 * (d + 1); omega⟩ hl.1 (Nat.le_of_ble_eq_true rfl) rfl dX5_comparison_1 rfl (fun r2 σ1 hb_r2 => ?_)
  refine zj_if_ne (tgt := 9) (pc' := 7) hC dX5_comparison_4 (by decide) rfl (fun c3 => ?_) (fun c3 => ?_)
  · refine zj_aload_n (pc' := 10) hC dX5_comparison_9 rfl rfl (lv_at hl 0 rfl) ?_
    refine zj_calliV (pc' := 13) (rest := []) hC (kX5_sign l b0 cA D L v0 σ1 hk0) hk0 rfl tw_2_96 tw_2_93 tw_2_95 ts_1_4 tw_1_7 ddX5_sign rfl ⟨rfl, rfl⟩ ⟨by show 0 + 1 ≤ 12 + (d + 1); omega, by show 8 + (1 + 11) + 0 ≤ 300 + 40 * (d + 1); omega⟩ hl.1 (Nat.le_of_ble_eq_true rfl) rfl dX5_comparison_10 rfl (fun r5 σ4 => ?_)
    refine zj_calliS (pc' := 16) (rest := []) hC (kX5_comparing l b0 cA D L r5 σ4 ) tw_3_7 tw_3_5 tw_3_6 tw_1_7 ddX5_comparing rfl ⟨rfl, rfl⟩ ⟨by show 0 + 1 ≤ 12 + (d + 1); omega, by show 8 + (1 + 11) + 0 ≤ 300 + 40 * (d + 1); omega⟩ hl.1 (Nat.le_of_ble_eq_true rfl) rfl dX5_comparison_13 rfl (fun r7 σ6 => ?_)
    refine zj_istore_n (pc' := 17) (lv' := [(1, .int r7), (0, .ref (b0 + v0))]) hC dX5_comparison_16 rfl rfl hl (by decide) rfl (fun ls hl => ?_)
    refine zj_iload_n (pc' := 18) hC dX5_comparison_17 rfl rfl (lv_at hl 0 rfl) ?_
    refine zj_iconst (pc' := 19) (v := (-1 : Int32)) hC dX5_comparison_18 rfl rfl ?_
    refine zj_icmp_ne (tgt := 28) (pc' := 22) hC dX5_comparison_19 (by decide) rfl (fun c8 => ?_) (fun c8 => ?_)
    · refine zj_aload_n (pc' := 29) hC dX5_comparison_28 rfl rfl (lv_at hl 1 rfl) ?_
      refine zj_dup (pc' := 30) hC dX5_comparison_29 rfl rfl ?_
      refine zj_getI (pc' := 33) hC hk0 fd_5_3 rfl tw_1_178 dX5_comparison_30 rfl ?_
      refine zj_iconst (pc' := 34) (v := (1 : Int32)) hC dX5_comparison_33 rfl rfl ?_
      refine zj_iadd (pc' := 35) hC dX5_comparison_34 rfl ?_
      refine zj_putI (pc' := 38) hC hk0 fd_5_3 rfl tw_1_178 rfl rfl rfl dX5_comparison_35 rfl (fun σ9 => ?_)
      refine zj_aload_n (pc' := 39) hC dX5_comparison_38 rfl rfl (lv_at hl 1 rfl) ?_
      refine zn_callzV (pc' := 42) (rest := []) hG hC (hGR v0 σ9 hk0).2.2.2.2.1 hk0 rfl tw_2_136 tw_2_133 tw_2_135 ts_1_13 tw_1_7 ddX5_sum rfl ⟨rfl, rfl⟩ ⟨by show 12 + d + 1 ≤ 12 + (d + 1); omega, by show 8 + (4 + 11) + (300 + 40 * d) ≤ 300 + 40 * (d + 1); omega⟩ hl.1 (Nat.le_of_ble_eq_true rfl) rfl dX5_comparison_39 rfl (fun r11 σ10 hb_r11 => ?_)
      refine zj_if_ne (tgt := 47) (pc' := 45) hC dX5_comparison_42 (by decide) rfl (fun c12 => ?_) (fun c12 => ?_)
      · refine zj_aload_n (pc' := 48) hC dX5_comparison_47 rfl rfl (lv_at hl 1 rfl) ?_
        refine zj_getR (pc' := 51) hC hk0 fd_5_1 rfl tw_1_176 dX5_comparison_48 rfl (fun q13 hk_q13 => ?_)
        refine zj_iload_n (pc' := 52) hC dX5_comparison_51 rfl rfl (lv_at hl 0 rfl) ?_
        refine zj_iconst (pc' := 53) (v := (0 : Int32)) hC dX5_comparison_52 rfl rfl ?_
        refine zj_calliV (pc' := 56) (rest := []) hC (kX4_add l b0 cA D L q13 r7 (0 : Int32) σ10 hk_q13) hk_q13 rfl tw_2_104 tw_2_101 tw_2_102 tw_2_103 tw_1_6 ddX4_add rfl ⟨rfl, rfl⟩ ⟨by show 0 + 1 ≤ 12 + (d + 1); omega, by show 8 + (4 + 11) + 0 ≤ 300 + 40 * (d + 1); omega⟩ hl.1 (Nat.le_of_ble_eq_true rfl) rfl dX5_comparison_53 rfl (fun r15 σ14 => ?_)
        refine zj_pop (pc' := 57) hC dX5_comparison_56 rfl rfl ?_
        refine zj_iconst (pc' := 58) (v := (1 : Int32)) hC dX5_comparison_57 rfl rfl ?_
        exact zj_zret hC nB_1 dX5_comparison_58
      · refine zj_iconst (pc' := 46) (v := (0 : Int32)) hC dX5_comparison_45 rfl rfl ?_
        exact zj_zret hC nB_0 dX5_comparison_46
    · refine zj_aload_n (pc' := 23) hC dX5_comparison_22 rfl rfl (lv_at hl 1 rfl) ?_
      refine zj_iconst (pc' := 24) (v := (1 : Int32)) hC dX5_comparison_23 rfl rfl ?_
      refine zj_callzV (pc' := 27) (rest := []) hC (kX5_wrong l b0 cA D L v0 (1 : Int32) σ6 hk0) hk0 rfl tw_2_100 tw_2_97 tw_2_99 ts_1_5 tw_1_7 ddX5_wrong rfl ⟨rfl, rfl⟩ ⟨by show 0 + 1 ≤ 12 + (d + 1); omega, by show 8 + (2 + 11) + 0 ≤ 300 + 40 * (d + 1); omega⟩ hl.1 (Nat.le_of_ble_eq_true rfl) rfl dX5_comparison_24 rfl (fun r17 σ16 hb_r17 => ?_)
      exact zj_zret hC hb_r17 dX5_comparison_27
  · refine zj_iconst (pc' := 8) (v := (0 : Int32)) hC dX5_comparison_7 rfl rfl ?_
    exact zj_zret hC nB_0 dX5_comparison_8
-- X5_sum
def bX5_sum_7 (gr : Nat → Nat → zS → Option (Int32 × zS)) (k7 : Nat → Int32 → Int32 → zS → Option (Int32 × zS)) (v0 : Nat) (v1 : Int32) (v2 : Int32) (σ : zS) : Option (Int32 × zS) :=
  if (120 : Int32) ≤ v2 then (some (v1, σ)) else (if v1 = 0 then (some (v1, σ)) else (zb (fX5_sign v0 σ) (fun (r4 : Int32) (σ3 : zS) => zb (fX5_adding r4 σ3) (fun (r6 : Int32) (σ5 : zS) => if r6 = (-1 : Int32) then (some (v1, σ5)) else (zb (fX5_sign v0 σ5) (fun (r9 : Int32) (σ8 : zS) => zb (fX5_adding r9 σ8) (fun (r11 : Int32) (σ10 : zS) => bnd (zI σ10 v0 3 ((σ10.1 v0 3) + (1 : Int32))) (fun (σ12 : zS) => zb (gr 5 v0 σ12) (fun (r14 : Int32) (σ13 : zS) => bnd (σ13.2 v0 1) (fun (q15 : Nat) => zb (fX4_add q15 r11 (0 : Int32) σ13) (fun (r17 : Int32) (σ16 : zS) => k7 v0 r14 ((v2 + (1 : Int32))) σ16)))))))))))
def fX5_sum_7 (gr : Nat → Nat → zS → Option (Int32 × zS))  : Nat → Nat → Int32 → Int32 → zS → Option (Int32 × zS)
  | 0, _, _, _, _ => none
  | n + 1, v0, v1, v2, σ => bX5_sum_7 gr (fX5_sum_7 gr  n) v0 v1 v2 σ
def fX5_sum (gr : Nat → Nat → zS → Option (Int32 × zS)) (v0 : Nat) (σ : zS) : Option (Int32 × zS) :=
  zb (gr 5 v0 σ) (fun (r19 : Int32) (σ18 : zS) => fX5_sum_7 gr zFU v0 r19 (0 : Int32) σ18)
set_option maxRecDepth 100000 in
set_option maxHeartbeats 4000000 in
theorem jX5_sum_7 {p : Program} {l : Launch} {e : Env} {s : State} {m : MethodId} {args : Array Value} {below : List Frame} {meth : Method} {c : Code} {b0 : Nat} {cA : Nat → ClassId} {D : va_G} {L : List (Nat × Nat)} {sq sw : Nat} (d : Nat) (gr : Nat → Nat → zS → Option (Int32 × zS)) (hGR : zGR l b0 cA D L sq sw d gr) (hG : zGq (zA b0 L) sq sw s s.heap) (hC : zC p c s m args meth cX5_sum 4 (some Jvm.ClassFile.FieldType.boolean) (Cond.code yX5_sum cX5_sum 4 (some Jvm.ClassFile.FieldType.boolean)) yX5_sum.cls cA D) (k7 : Nat → Int32 → Int32 → zS → Option (Int32 × zS)) (h7 : ∀ (v0 : Nat) (v1 : Int32) (v2 : Int32) (σ : zS) (ls : Array Slot), L[v0]? = some (0, 5) → nB v1 → lv_has ls 4 [(0, .ref (b0 + v0)), (1, .int v1), (2, .int v2)] → zJ p l e (rmX5G (d + 1)) s m args below meth c b0 cA D L (fun z => MQ below (va_Qi (fun (r : Int32) (u : zS) => (r, u) = z ∧ nB r) (zB b0 cA D L) (zA b0 L)) args s 0 0 (zA b0 L)) (k7 v0 v1 v2 σ) σ 7 ls []) (v0 : Nat) (v1 : Int32) (v2 : Int32) (σ : zS) (ls : Array Slot) (hk_v0 : L[v0]? = some (0, 5)) (hb_v1 : nB v1) (hl : lv_has ls 4 [(0, .ref (b0 + v0)), (1, .int v1), (2, .int v2)]) : zJ p l e (rmX5G (d + 1)) s m args below meth c b0 cA D L (fun z => MQ below (va_Qi (fun (r : Int32) (u : zS) => (r, u) = z ∧ nB r) (zB b0 cA D L) (zA b0 L)) args s 0 0 (zA b0 L)) (bX5_sum_7 gr k7 v0 v1 v2 σ) σ 7 ls [] := by
  unfold bX5_sum_7
  refine zj_iload_n (pc' := 8) hC dX5_sum_7 rfl rfl (lv_at hl 2 rfl) ?_
  refine zj_bipush (pc' := 10) (v := (120 : Int32)) hC dX5_sum_8 rfl rfl ?_
  refine zj_icmp_ge (tgt := 67) (pc' := 13) hC dX5_sum_10 (by decide) rfl (fun c1 => ?_) (fun c1 => ?_)
  · refine zj_iload_n (pc' := 68) hC dX5_sum_67 rfl rfl (lv_at hl 1 rfl) ?_
    exact zj_zret hC hb_v1 dX5_sum_68
  · refine zj_iload_n (pc' := 14) hC dX5_sum_13 rfl rfl (lv_at hl 1 rfl) ?_
    refine zj_if_eq (tgt := 67) (pc' := 17) hC dX5_sum_14 (by decide) rfl (fun c2 => ?_) (fun c2 => ?_)
    · refine zj_iload_n (pc' := 68) hC dX5_sum_67 rfl rfl (lv_at hl 1 rfl) ?_
      exact zj_zret hC hb_v1 dX5_sum_68
    · refine zj_aload_n (pc' := 18) hC dX5_sum_17 rfl rfl (lv_at hl 0 rfl) ?_
      refine zj_calliV (pc' := 21) (rest := []) hC (kX5_sign l b0 cA D L v0 σ hk_v0) hk_v0 rfl tw_2_96 tw_2_93 tw_2_95 ts_1_4 tw_1_7 ddX5_sign rfl ⟨rfl, rfl⟩ ⟨by show 0 + 1 ≤ 12 + (d + 1); omega, by show 8 + (1 + 11) + 0 ≤ 300 + 40 * (d + 1); omega⟩ hl.1 (Nat.le_of_ble_eq_true rfl) rfl dX5_sum_18 rfl (fun r4 σ3 => ?_)
      refine zj_calliS (pc' := 24) (rest := []) hC (kX5_adding l b0 cA D L r4 σ3 ) tw_3_4 tw_3_2 tw_3_3 tw_1_7 ddX5_adding rfl ⟨rfl, rfl⟩ ⟨by show 0 + 1 ≤ 12 + (d + 1); omega, by show 8 + (1 + 11) + 0 ≤ 300 + 40 * (d + 1); omega⟩ hl.1 (Nat.le_of_ble_eq_true rfl) rfl dX5_sum_21 rfl (fun r6 σ5 => ?_)
      refine zj_iconst (pc' := 25) (v := (-1 : Int32)) hC dX5_sum_24 rfl rfl ?_
      refine zj_icmp_eq (tgt := 67) (pc' := 28) hC dX5_sum_25 (by decide) rfl (fun c7 => ?_) (fun c7 => ?_)
      · refine zj_iload_n (pc' := 68) hC dX5_sum_67 rfl rfl (lv_at hl 1 rfl) ?_
        exact zj_zret hC hb_v1 dX5_sum_68
      · refine zj_aload_n (pc' := 29) hC dX5_sum_28 rfl rfl (lv_at hl 0 rfl) ?_
        refine zj_calliV (pc' := 32) (rest := []) hC (kX5_sign l b0 cA D L v0 σ5 hk_v0) hk_v0 rfl tw_2_96 tw_2_93 tw_2_95 ts_1_4 tw_1_7 ddX5_sign rfl ⟨rfl, rfl⟩ ⟨by show 0 + 1 ≤ 12 + (d + 1); omega, by show 8 + (1 + 11) + 0 ≤ 300 + 40 * (d + 1); omega⟩ hl.1 (Nat.le_of_ble_eq_true rfl) rfl dX5_sum_29 rfl (fun r9 σ8 => ?_)
        refine zj_calliS (pc' := 35) (rest := []) hC (kX5_adding l b0 cA D L r9 σ8 ) tw_3_4 tw_3_2 tw_3_3 tw_1_7 ddX5_adding rfl ⟨rfl, rfl⟩ ⟨by show 0 + 1 ≤ 12 + (d + 1); omega, by show 8 + (1 + 11) + 0 ≤ 300 + 40 * (d + 1); omega⟩ hl.1 (Nat.le_of_ble_eq_true rfl) rfl dX5_sum_32 rfl (fun r11 σ10 => ?_)
        refine zj_istore_n (pc' := 36) (lv' := [(3, .int r11), (0, .ref (b0 + v0)), (1, .int v1), (2, .int v2)]) hC dX5_sum_35 rfl rfl hl (by decide) rfl (fun ls hl => ?_)
        refine zj_aload_n (pc' := 37) hC dX5_sum_36 rfl rfl (lv_at hl 1 rfl) ?_
        refine zj_dup (pc' := 38) hC dX5_sum_37 rfl rfl ?_
        refine zj_getI (pc' := 41) hC hk_v0 fd_5_3 rfl tw_1_178 dX5_sum_38 rfl ?_
        refine zj_iconst (pc' := 42) (v := (1 : Int32)) hC dX5_sum_41 rfl rfl ?_
        refine zj_iadd (pc' := 43) hC dX5_sum_42 rfl ?_
        refine zj_putI (pc' := 46) hC hk_v0 fd_5_3 rfl tw_1_178 rfl rfl rfl dX5_sum_43 rfl (fun σ12 => ?_)
        refine zj_aload_n (pc' := 47) hC dX5_sum_46 rfl rfl (lv_at hl 1 rfl) ?_
        refine zn_callzV (pc' := 50) (rest := []) hG hC (hGR v0 σ12 hk_v0).2.2.2.2.2.1 hk_v0 rfl tw_2_140 tw_2_137 tw_2_139 ts_1_14 tw_1_7 ddX5_term rfl ⟨rfl, rfl⟩ ⟨by show 12 + d + 1 ≤ 12 + (d + 1); omega, by show 8 + (4 + 11) + (300 + 40 * d) ≤ 300 + 40 * (d + 1); omega⟩ hl.1 (Nat.le_of_ble_eq_true rfl) rfl dX5_sum_47 rfl (fun r14 σ13 hb_r14 => ?_)
        refine zj_istore_n (pc' := 51) (lv' := [(1, .int r14), (3, .int r11), (0, .ref (b0 + v0)), (2, .int v2)]) hC dX5_sum_50 rfl rfl hl (by decide) rfl (fun ls hl => ?_)
        refine zj_aload_n (pc' := 52) hC dX5_sum_51 rfl rfl (lv_at hl 2 rfl) ?_
        refine zj_getR (pc' := 55) hC hk_v0 fd_5_1 rfl tw_1_176 dX5_sum_52 rfl (fun q15 hk_q15 => ?_)
        refine zj_iload_n (pc' := 56) hC dX5_sum_55 rfl rfl (lv_at hl 1 rfl) ?_
        refine zj_iconst (pc' := 57) (v := (0 : Int32)) hC dX5_sum_56 rfl rfl ?_
        refine zj_calliV (pc' := 60) (rest := []) hC (kX4_add l b0 cA D L q15 r11 (0 : Int32) σ13 hk_q15) hk_q15 rfl tw_2_104 tw_2_101 tw_2_102 tw_2_103 tw_1_6 ddX4_add rfl ⟨rfl, rfl⟩ ⟨by show 0 + 1 ≤ 12 + (d + 1); omega, by show 8 + (4 + 11) + 0 ≤ 300 + 40 * (d + 1); omega⟩ hl.1 (Nat.le_of_ble_eq_true rfl) rfl dX5_sum_57 rfl (fun r17 σ16 => ?_)
        refine zj_pop (pc' := 61) hC dX5_sum_60 rfl rfl ?_
        refine zj_iinc (pc' := 64) (k0 := 3) (v := (v2 + (1 : Int32))) (lv' := [(2, .int (v2 + (1 : Int32))), (1, .int r14), (3, .int r11), (0, .ref (b0 + v0))]) hC dX5_sum_61 rfl hl rfl rfl (by decide) rfl (fun ls hl => ?_)
        refine zj_goto (tgt := 7) hC dX5_sum_64 (by decide) ?_
        exact h7 v0 r14 ((v2 + (1 : Int32))) σ16 ls hk_v0 hb_r14 (lv_sub hl [3, 1, 0] rfl)
set_option maxRecDepth 100000 in
set_option maxHeartbeats 4000000 in
theorem lX5_sum_7 {p : Program} {l : Launch} {e : Env} {s : State} {m : MethodId} {args : Array Value} {below : List Frame} {meth : Method} {c : Code} {b0 : Nat} {cA : Nat → ClassId} {D : va_G} {L : List (Nat × Nat)} {sq sw : Nat} (d : Nat) (gr : Nat → Nat → zS → Option (Int32 × zS)) (hGR : zGR l b0 cA D L sq sw d gr) (hG : zGq (zA b0 L) sq sw s s.heap) (hC : zC p c s m args meth cX5_sum 4 (some Jvm.ClassFile.FieldType.boolean) (Cond.code yX5_sum cX5_sum 4 (some Jvm.ClassFile.FieldType.boolean)) yX5_sum.cls cA D)  (n : Nat) : ∀ (v0 : Nat) (v1 : Int32) (v2 : Int32) (σ : zS) (ls : Array Slot), L[v0]? = some (0, 5) → nB v1 → lv_has ls 4 [(0, .ref (b0 + v0)), (1, .int v1), (2, .int v2)] → zJ p l e (rmX5G (d + 1)) s m args below meth c b0 cA D L (fun z => MQ below (va_Qi (fun (r : Int32) (u : zS) => (r, u) = z ∧ nB r) (zB b0 cA D L) (zA b0 L)) args s 0 0 (zA b0 L)) (fX5_sum_7 gr  n v0 v1 v2 σ) σ 7 ls [] := by
  induction n with
  | zero => intros; exact zj_none
  | succ n ih => exact jX5_sum_7 d gr hGR hG hC (fX5_sum_7 gr  n) ih
set_option maxRecDepth 100000 in
set_option maxHeartbeats 4000000 in
theorem kX5_sum (l : Launch) (b0 : Nat) (cA : Nat → ClassId) (D : va_G) (L : List (Nat × Nat)) (sq sw : Nat) (d : Nat) (gr : Nat → Nat → zS → Option (Int32 × zS)) (hGR : zGR l b0 cA D L sq sw d gr) (v0 : Nat) (σ : zS) (hk0 : L[v0]? = some (0, 5)) : zNz l b0 cA D L sq sw yX5_sum (Cond.code yX5_sum cX5_sum 4 (some Jvm.ClassFile.FieldType.boolean)) (rmX5G (d + 1)) [.ref (b0 + v0)] σ (fX5_sum gr v0 σ) := by
  refine zNz_of (by decide) (Nat.le_of_ble_eq_true rfl) ?_
  intro p e s m below meth c ls hG hC hl
  have hl : lv_has ls 4 [(0, .ref (b0 + v0))] := hl
  generalize ([.ref (b0 + v0)] : List Value).toArray = args at hC ⊢
  unfold fX5_sum
  refine zj_aload_n (pc' := 1) hC dX5_sum_0 rfl rfl (lv_at hl 0 rfl) ?_
  refine zn_callzV (pc' := 4) (rest := []) hG hC (hGR v0 σ hk0).2.2.2.2.2.1 hk0 rfl tw_2_140 tw_2_137 tw_2_139 ts_1_14 tw_1_7 ddX5_term rfl ⟨rfl, rfl⟩ ⟨by show 12 + d + 1 ≤ 12 + (d + 1); omega, by show 8 + (4 + 11) + (300 + 40 * d) ≤ 300 + 40 * (d + 1); omega⟩ hl.1 (Nat.le_of_ble_eq_true rfl) rfl dX5_sum_1 rfl (fun r19 σ18 hb_r19 => ?_)
  refine zj_istore_n (pc' := 5) (lv' := [(1, .int r19), (0, .ref (b0 + v0))]) hC dX5_sum_4 rfl rfl hl (by decide) rfl (fun ls hl => ?_)
  refine zj_iconst (pc' := 6) (v := (0 : Int32)) hC dX5_sum_5 rfl rfl ?_
  refine zj_istore_n (pc' := 7) (lv' := [(2, .int (0 : Int32)), (1, .int r19), (0, .ref (b0 + v0))]) hC dX5_sum_6 rfl rfl hl (by decide) rfl (fun ls hl => ?_)
  exact lX5_sum_7 d gr hGR hG hC zFU v0 r19 (0 : Int32) σ18 ls hk0 hb_r19 (lv_sub hl [2, 1, 0] rfl)
-- X5_term
def bX5_term_7 (gr : Nat → Nat → zS → Option (Int32 × zS)) (k7 : Nat → Int32 → Int32 → zS → Option (Int32 × zS)) (v0 : Nat) (v1 : Int32) (v2 : Int32) (σ : zS) : Option (Int32 × zS) :=
  if (120 : Int32) ≤ v2 then (some (v1, σ)) else (if v1 = 0 then (some (v1, σ)) else (zb (fX5_sign v0 σ) (fun (r4 : Int32) (σ3 : zS) => zb (fX5_timing r4 σ3) (fun (r6 : Int32) (σ5 : zS) => if r6 = (-1 : Int32) then (some (v1, σ5)) else (zb (fX5_sign v0 σ5) (fun (r9 : Int32) (σ8 : zS) => zb (fX5_timing r9 σ8) (fun (r11 : Int32) (σ10 : zS) => bnd (zI σ10 v0 3 ((σ10.1 v0 3) + (1 : Int32))) (fun (σ12 : zS) => zb (gr 6 v0 σ12) (fun (r14 : Int32) (σ13 : zS) => bnd (σ13.2 v0 1) (fun (q15 : Nat) => zb (fX4_add q15 r11 (0 : Int32) σ13) (fun (r17 : Int32) (σ16 : zS) => k7 v0 r14 ((v2 + (1 : Int32))) σ16)))))))))))
def fX5_term_7 (gr : Nat → Nat → zS → Option (Int32 × zS))  : Nat → Nat → Int32 → Int32 → zS → Option (Int32 × zS)
  | 0, _, _, _, _ => none
  | n + 1, v0, v1, v2, σ => bX5_term_7 gr (fX5_term_7 gr  n) v0 v1 v2 σ
def fX5_term (gr : Nat → Nat → zS → Option (Int32 × zS)) (v0 : Nat) (σ : zS) : Option (Int32 × zS) :=
  zb (gr 6 v0 σ) (fun (r19 : Int32) (σ18 : zS) => fX5_term_7 gr zFU v0 r19 (0 : Int32) σ18)
set_option maxRecDepth 100000 in
set_option maxHeartbeats 4000000 in
theorem jX5_term_7 {p : Program} {l : Launch} {e : Env} {s : State} {m : MethodId} {args : Array Value} {below : List Frame} {meth : Method} {c : Code} {b0 : Nat} {cA : Nat → ClassId} {D : va_G} {L : List (Nat × Nat)} {sq sw : Nat} (d : Nat) (gr : Nat → Nat → zS → Option (Int32 × zS)) (hGR : zGR l b0 cA D L sq sw d gr) (hG : zGq (zA b0 L) sq sw s s.heap) (hC : zC p c s m args meth cX5_term 4 (some Jvm.ClassFile.FieldType.boolean) (Cond.code yX5_term cX5_term 4 (some Jvm.ClassFile.FieldType.boolean)) yX5_term.cls cA D) (k7 : Nat → Int32 → Int32 → zS → Option (Int32 × zS)) (h7 : ∀ (v0 : Nat) (v1 : Int32) (v2 : Int32) (σ : zS) (ls : Array Slot), L[v0]? = some (0, 5) → nB v1 → lv_has ls 4 [(0, .ref (b0 + v0)), (1, .int v1), (2, .int v2)] → zJ p l e (rmX5G (d + 1)) s m args below meth c b0 cA D L (fun z => MQ below (va_Qi (fun (r : Int32) (u : zS) => (r, u) = z ∧ nB r) (zB b0 cA D L) (zA b0 L)) args s 0 0 (zA b0 L)) (k7 v0 v1 v2 σ) σ 7 ls []) (v0 : Nat) (v1 : Int32) (v2 : Int32) (σ : zS) (ls : Array Slot) (hk_v0 : L[v0]? = some (0, 5)) (hb_v1 : nB v1) (hl : lv_has ls 4 [(0, .ref (b0 + v0)), (1, .int v1), (2, .int v2)]) : zJ p l e (rmX5G (d + 1)) s m args below meth c b0 cA D L (fun z => MQ below (va_Qi (fun (r : Int32) (u : zS) => (r, u) = z ∧ nB r) (zB b0 cA D L) (zA b0 L)) args s 0 0 (zA b0 L)) (bX5_term_7 gr k7 v0 v1 v2 σ) σ 7 ls [] := by
  unfold bX5_term_7
  refine zj_iload_n (pc' := 8) hC dX5_term_7 rfl rfl (lv_at hl 2 rfl) ?_
  refine zj_bipush (pc' := 10) (v := (120 : Int32)) hC dX5_term_8 rfl rfl ?_
  refine zj_icmp_ge (tgt := 67) (pc' := 13) hC dX5_term_10 (by decide) rfl (fun c1 => ?_) (fun c1 => ?_)
  · refine zj_iload_n (pc' := 68) hC dX5_term_67 rfl rfl (lv_at hl 1 rfl) ?_
    exact zj_zret hC hb_v1 dX5_term_68
  · refine zj_iload_n (pc' := 14) hC dX5_term_13 rfl rfl (lv_at hl 1 rfl) ?_
    refine zj_if_eq (tgt := 67) (pc' := 17) hC dX5_term_14 (by decide) rfl (fun c2 => ?_) (fun c2 => ?_)
    · refine zj_iload_n (pc' := 68) hC dX5_term_67 rfl rfl (lv_at hl 1 rfl) ?_
      exact zj_zret hC hb_v1 dX5_term_68
    · refine zj_aload_n (pc' := 18) hC dX5_term_17 rfl rfl (lv_at hl 0 rfl) ?_
      refine zj_calliV (pc' := 21) (rest := []) hC (kX5_sign l b0 cA D L v0 σ hk_v0) hk_v0 rfl tw_2_96 tw_2_93 tw_2_95 ts_1_4 tw_1_7 ddX5_sign rfl ⟨rfl, rfl⟩ ⟨by show 0 + 1 ≤ 12 + (d + 1); omega, by show 8 + (1 + 11) + 0 ≤ 300 + 40 * (d + 1); omega⟩ hl.1 (Nat.le_of_ble_eq_true rfl) rfl dX5_term_18 rfl (fun r4 σ3 => ?_)
      refine zj_calliS (pc' := 24) (rest := []) hC (kX5_timing l b0 cA D L r4 σ3 ) tw_3_1 tw_2_239 tw_3_0 tw_1_7 ddX5_timing rfl ⟨rfl, rfl⟩ ⟨by show 0 + 1 ≤ 12 + (d + 1); omega, by show 8 + (1 + 11) + 0 ≤ 300 + 40 * (d + 1); omega⟩ hl.1 (Nat.le_of_ble_eq_true rfl) rfl dX5_term_21 rfl (fun r6 σ5 => ?_)
      refine zj_iconst (pc' := 25) (v := (-1 : Int32)) hC dX5_term_24 rfl rfl ?_
      refine zj_icmp_eq (tgt := 67) (pc' := 28) hC dX5_term_25 (by decide) rfl (fun c7 => ?_) (fun c7 => ?_)
      · refine zj_iload_n (pc' := 68) hC dX5_term_67 rfl rfl (lv_at hl 1 rfl) ?_
        exact zj_zret hC hb_v1 dX5_term_68
      · refine zj_aload_n (pc' := 29) hC dX5_term_28 rfl rfl (lv_at hl 0 rfl) ?_
        refine zj_calliV (pc' := 32) (rest := []) hC (kX5_sign l b0 cA D L v0 σ5 hk_v0) hk_v0 rfl tw_2_96 tw_2_93 tw_2_95 ts_1_4 tw_1_7 ddX5_sign rfl ⟨rfl, rfl⟩ ⟨by show 0 + 1 ≤ 12 + (d + 1); omega, by show 8 + (1 + 11) + 0 ≤ 300 + 40 * (d + 1); omega⟩ hl.1 (Nat.le_of_ble_eq_true rfl) rfl dX5_term_29 rfl (fun r9 σ8 => ?_)
        refine zj_calliS (pc' := 35) (rest := []) hC (kX5_timing l b0 cA D L r9 σ8 ) tw_3_1 tw_2_239 tw_3_0 tw_1_7 ddX5_timing rfl ⟨rfl, rfl⟩ ⟨by show 0 + 1 ≤ 12 + (d + 1); omega, by show 8 + (1 + 11) + 0 ≤ 300 + 40 * (d + 1); omega⟩ hl.1 (Nat.le_of_ble_eq_true rfl) rfl dX5_term_32 rfl (fun r11 σ10 => ?_)
        refine zj_istore_n (pc' := 36) (lv' := [(3, .int r11), (0, .ref (b0 + v0)), (1, .int v1), (2, .int v2)]) hC dX5_term_35 rfl rfl hl (by decide) rfl (fun ls hl => ?_)
        refine zj_aload_n (pc' := 37) hC dX5_term_36 rfl rfl (lv_at hl 1 rfl) ?_
        refine zj_dup (pc' := 38) hC dX5_term_37 rfl rfl ?_
        refine zj_getI (pc' := 41) hC hk_v0 fd_5_3 rfl tw_1_178 dX5_term_38 rfl ?_
        refine zj_iconst (pc' := 42) (v := (1 : Int32)) hC dX5_term_41 rfl rfl ?_
        refine zj_iadd (pc' := 43) hC dX5_term_42 rfl ?_
        refine zj_putI (pc' := 46) hC hk_v0 fd_5_3 rfl tw_1_178 rfl rfl rfl dX5_term_43 rfl (fun σ12 => ?_)
        refine zj_aload_n (pc' := 47) hC dX5_term_46 rfl rfl (lv_at hl 1 rfl) ?_
        refine zn_callzV (pc' := 50) (rest := []) hG hC (hGR v0 σ12 hk_v0).2.2.2.2.2.2 hk_v0 rfl tw_2_144 tw_2_141 tw_2_143 ts_1_15 tw_1_7 ddX5_factor rfl ⟨rfl, rfl⟩ ⟨by show 12 + d + 1 ≤ 12 + (d + 1); omega, by show 8 + (2 + 11) + (300 + 40 * d) ≤ 300 + 40 * (d + 1); omega⟩ hl.1 (Nat.le_of_ble_eq_true rfl) rfl dX5_term_47 rfl (fun r14 σ13 hb_r14 => ?_)
        refine zj_istore_n (pc' := 51) (lv' := [(1, .int r14), (3, .int r11), (0, .ref (b0 + v0)), (2, .int v2)]) hC dX5_term_50 rfl rfl hl (by decide) rfl (fun ls hl => ?_)
        refine zj_aload_n (pc' := 52) hC dX5_term_51 rfl rfl (lv_at hl 2 rfl) ?_
        refine zj_getR (pc' := 55) hC hk_v0 fd_5_1 rfl tw_1_176 dX5_term_52 rfl (fun q15 hk_q15 => ?_)
        refine zj_iload_n (pc' := 56) hC dX5_term_55 rfl rfl (lv_at hl 1 rfl) ?_
        refine zj_iconst (pc' := 57) (v := (0 : Int32)) hC dX5_term_56 rfl rfl ?_
        refine zj_calliV (pc' := 60) (rest := []) hC (kX4_add l b0 cA D L q15 r11 (0 : Int32) σ13 hk_q15) hk_q15 rfl tw_2_104 tw_2_101 tw_2_102 tw_2_103 tw_1_6 ddX4_add rfl ⟨rfl, rfl⟩ ⟨by show 0 + 1 ≤ 12 + (d + 1); omega, by show 8 + (4 + 11) + 0 ≤ 300 + 40 * (d + 1); omega⟩ hl.1 (Nat.le_of_ble_eq_true rfl) rfl dX5_term_57 rfl (fun r17 σ16 => ?_)
        refine zj_pop (pc' := 61) hC dX5_term_60 rfl rfl ?_
        refine zj_iinc (pc' := 64) (k0 := 3) (v := (v2 + (1 : Int32))) (lv' := [(2, .int (v2 + (1 : Int32))), (1, .int r14), (3, .int r11), (0, .ref (b0 + v0))]) hC dX5_term_61 rfl hl rfl rfl (by decide) rfl (fun ls hl => ?_)
        refine zj_goto (tgt := 7) hC dX5_term_64 (by decide) ?_
        exact h7 v0 r14 ((v2 + (1 : Int32))) σ16 ls hk_v0 hb_r14 (lv_sub hl [3, 1, 0] rfl)
set_option maxRecDepth 100000 in
set_option maxHeartbeats 4000000 in
theorem lX5_term_7 {p : Program} {l : Launch} {e : Env} {s : State} {m : MethodId} {args : Array Value} {below : List Frame} {meth : Method} {c : Code} {b0 : Nat} {cA : Nat → ClassId} {D : va_G} {L : List (Nat × Nat)} {sq sw : Nat} (d : Nat) (gr : Nat → Nat → zS → Option (Int32 × zS)) (hGR : zGR l b0 cA D L sq sw d gr) (hG : zGq (zA b0 L) sq sw s s.heap) (hC : zC p c s m args meth cX5_term 4 (some Jvm.ClassFile.FieldType.boolean) (Cond.code yX5_term cX5_term 4 (some Jvm.ClassFile.FieldType.boolean)) yX5_term.cls cA D)  (n : Nat) : ∀ (v0 : Nat) (v1 : Int32) (v2 : Int32) (σ : zS) (ls : Array Slot), L[v0]? = some (0, 5) → nB v1 → lv_has ls 4 [(0, .ref (b0 + v0)), (1, .int v1), (2, .int v2)] → zJ p l e (rmX5G (d + 1)) s m args below meth c b0 cA D L (fun z => MQ below (va_Qi (fun (r : Int32) (u : zS) => (r, u) = z ∧ nB r) (zB b0 cA D L) (zA b0 L)) args s 0 0 (zA b0 L)) (fX5_term_7 gr  n v0 v1 v2 σ) σ 7 ls [] := by
  induction n with
  | zero => intros; exact zj_none
  | succ n ih => exact jX5_term_7 d gr hGR hG hC (fX5_term_7 gr  n) ih
set_option maxRecDepth 100000 in
set_option maxHeartbeats 4000000 in
theorem kX5_term (l : Launch) (b0 : Nat) (cA : Nat → ClassId) (D : va_G) (L : List (Nat × Nat)) (sq sw : Nat) (d : Nat) (gr : Nat → Nat → zS → Option (Int32 × zS)) (hGR : zGR l b0 cA D L sq sw d gr) (v0 : Nat) (σ : zS) (hk0 : L[v0]? = some (0, 5)) : zNz l b0 cA D L sq sw yX5_term (Cond.code yX5_term cX5_term 4 (some Jvm.ClassFile.FieldType.boolean)) (rmX5G (d + 1)) [.ref (b0 + v0)] σ (fX5_term gr v0 σ) := by
  refine zNz_of (by decide) (Nat.le_of_ble_eq_true rfl) ?_
  intro p e s m below meth c ls hG hC hl
  have hl : lv_has ls 4 [(0, .ref (b0 + v0))] := hl
  generalize ([.ref (b0 + v0)] : List Value).toArray = args at hC ⊢
  unfold fX5_term
  refine zj_aload_n (pc' := 1) hC dX5_term_0 rfl rfl (lv_at hl 0 rfl) ?_
  refine zn_callzV (pc' := 4) (rest := []) hG hC (hGR v0 σ hk0).2.2.2.2.2.2 hk0 rfl tw_2_144 tw_2_141 tw_2_143 ts_1_15 tw_1_7 ddX5_factor rfl ⟨rfl, rfl⟩ ⟨by show 12 + d + 1 ≤ 12 + (d + 1); omega, by show 8 + (2 + 11) + (300 + 40 * d) ≤ 300 + 40 * (d + 1); omega⟩ hl.1 (Nat.le_of_ble_eq_true rfl) rfl dX5_term_1 rfl (fun r19 σ18 hb_r19 => ?_)
  refine zj_istore_n (pc' := 5) (lv' := [(1, .int r19), (0, .ref (b0 + v0))]) hC dX5_term_4 rfl rfl hl (by decide) rfl (fun ls hl => ?_)
  refine zj_iconst (pc' := 6) (v := (0 : Int32)) hC dX5_term_5 rfl rfl ?_
  refine zj_istore_n (pc' := 7) (lv' := [(2, .int (0 : Int32)), (1, .int r19), (0, .ref (b0 + v0))]) hC dX5_term_6 rfl rfl hl (by decide) rfl (fun ls hl => ?_)
  exact lX5_term_7 d gr hGR hG hC zFU v0 r19 (0 : Int32) σ18 ls hk0 hb_r19 (lv_sub hl [2, 1, 0] rfl)
-- X5_factor
def bX5_factor_69 (gr : Nat → Nat → zS → Option (Int32 × zS))  (v0 : Nat) (σ : zS) : Option (Int32 × zS) :=
  zb (fX5_wrong v0 (1 : Int32) σ) (fun (r2 : Int32) (σ1 : zS) => some (r2, σ1))
def fX5_factor (gr : Nat → Nat → zS → Option (Int32 × zS)) (v0 : Nat) (σ : zS) : Option (Int32 × zS) :=
  zb (fX5_sign v0 σ) (fun (r4 : Int32) (σ3 : zS) => if r4 = (91 : Int32) then (zb (fX5_opens v0 (91 : Int32) σ3) (fun (r20 : Int32) (σ19 : zS) => if r20 = 0 then (some ((0 : Int32), σ19)) else (zb (gr 4 v0 σ19) (fun (r23 : Int32) (σ22 : zS) => if r23 = 0 then (some ((0 : Int32), σ22)) else (zb (fX5_closes v0 (93 : Int32) σ22) (fun (r26 : Int32) (σ25 : zS) => if r26 = 0 then (some ((0 : Int32), σ25)) else (some ((1 : Int32), σ25)))))))) else (zb (fX5_isDigit r4 σ3) (fun (r7 : Int32) (σ6 : zS) => if r7 = 0 then (if r4 = (-1 : Int32) then (bX5_factor_69 gr v0 σ6) else (zb (fJ0_indexOf_0f7a4 ((((r4).toUInt32 % 65536).toInt32)) σ6) (fun (r11 : Int32) (σ10 : zS) => if 0 ≤ r11 then (bnd (zI σ10 v0 3 ((σ10.1 v0 3) + (1 : Int32))) (fun (σ13 : zS) => bnd (σ13.2 v0 1) (fun (q14 : Nat) => zb (fX4_add q14 (3 : Int32) r4 σ13) (fun (r16 : Int32) (σ15 : zS) => some ((1 : Int32), σ15))))) else (bX5_factor_69 gr v0 σ10)))) else (zb (fX5_number v0 σ6) (fun (r18 : Int32) (σ17 : zS) => some (r18, σ17))))))
set_option maxRecDepth 100000 in
set_option maxHeartbeats 4000000 in
theorem jX5_factor_69 {p : Program} {l : Launch} {e : Env} {s : State} {m : MethodId} {args : Array Value} {below : List Frame} {meth : Method} {c : Code} {b0 : Nat} {cA : Nat → ClassId} {D : va_G} {L : List (Nat × Nat)} {sq sw : Nat} (d : Nat) (gr : Nat → Nat → zS → Option (Int32 × zS)) (hGR : zGR l b0 cA D L sq sw d gr) (hG : zGq (zA b0 L) sq sw s s.heap) (hC : zC p c s m args meth cX5_factor 2 (some Jvm.ClassFile.FieldType.boolean) (Cond.code yX5_factor cX5_factor 2 (some Jvm.ClassFile.FieldType.boolean)) yX5_factor.cls cA D)  (v0 : Nat) (σ : zS) (ls : Array Slot) (hk_v0 : L[v0]? = some (0, 5)) (hl : lv_has ls 2 [(0, .ref (b0 + v0))]) : zJ p l e (rmX5G (d + 1)) s m args below meth c b0 cA D L (fun z => MQ below (va_Qi (fun (r : Int32) (u : zS) => (r, u) = z ∧ nB r) (zB b0 cA D L) (zA b0 L)) args s 0 0 (zA b0 L)) (bX5_factor_69 gr  v0 σ) σ 69 ls [] := by
  unfold bX5_factor_69
  refine zj_aload_n (pc' := 70) hC dX5_factor_69 rfl rfl (lv_at hl 0 rfl) ?_
  refine zj_iconst (pc' := 71) (v := (1 : Int32)) hC dX5_factor_70 rfl rfl ?_
  refine zj_callzV (pc' := 74) (rest := []) hC (kX5_wrong l b0 cA D L v0 (1 : Int32) σ hk_v0) hk_v0 rfl tw_2_100 tw_2_97 tw_2_99 ts_1_5 tw_1_7 ddX5_wrong rfl ⟨rfl, rfl⟩ ⟨by show 0 + 1 ≤ 12 + (d + 1); omega, by show 8 + (2 + 11) + 0 ≤ 300 + 40 * (d + 1); omega⟩ hl.1 (Nat.le_of_ble_eq_true rfl) rfl dX5_factor_71 rfl (fun r2 σ1 hb_r2 => ?_)
  exact zj_zret hC hb_r2 dX5_factor_74
set_option maxRecDepth 100000 in
set_option maxHeartbeats 4000000 in
theorem kX5_factor (l : Launch) (b0 : Nat) (cA : Nat → ClassId) (D : va_G) (L : List (Nat × Nat)) (sq sw : Nat) (d : Nat) (gr : Nat → Nat → zS → Option (Int32 × zS)) (hGR : zGR l b0 cA D L sq sw d gr) (v0 : Nat) (σ : zS) (hk0 : L[v0]? = some (0, 5)) : zNz l b0 cA D L sq sw yX5_factor (Cond.code yX5_factor cX5_factor 2 (some Jvm.ClassFile.FieldType.boolean)) (rmX5G (d + 1)) [.ref (b0 + v0)] σ (fX5_factor gr v0 σ) := by
  refine zNz_of (by decide) (Nat.le_of_ble_eq_true rfl) ?_
  intro p e s m below meth c ls hG hC hl
  have hl : lv_has ls 2 [(0, .ref (b0 + v0))] := hl
  generalize ([.ref (b0 + v0)] : List Value).toArray = args at hC ⊢
  unfold fX5_factor
  refine zj_aload_n (pc' := 1) hC dX5_factor_0 rfl rfl (lv_at hl 0 rfl) ?_
  refine zj_calliV (pc' := 4) (rest := []) hC (kX5_sign l b0 cA D L v0 σ hk0) hk0 rfl tw_2_96 tw_2_93 tw_2_95 ts_1_4 tw_1_7 ddX5_sign rfl ⟨rfl, rfl⟩ ⟨by show 0 + 1 ≤ 12 + (d + 1); omega, by show 8 + (1 + 11) + 0 ≤ 300 + 40 * (d + 1); omega⟩ hl.1 (Nat.le_of_ble_eq_true rfl) rfl dX5_factor_1 rfl (fun r4 σ3 => ?_)
  refine zj_istore_n (pc' := 5) (lv' := [(1, .int r4), (0, .ref (b0 + v0))]) hC dX5_factor_4 rfl rfl hl (by decide) rfl (fun ls hl => ?_)
  refine zj_iload_n (pc' := 6) hC dX5_factor_5 rfl rfl (lv_at hl 0 rfl) ?_
  refine zj_bipush (pc' := 8) (v := (91 : Int32)) hC dX5_factor_6 rfl rfl ?_
  refine zj_icmp_ne (tgt := 42) (pc' := 11) hC dX5_factor_8 (by decide) rfl (fun c5 => ?_) (fun c5 => ?_)
  · refine zj_iload_n (pc' := 43) hC dX5_factor_42 rfl rfl (lv_at hl 0 rfl) ?_
    refine zj_callzS (pc' := 46) (rest := []) hC (kX5_isDigit l b0 cA D L r4 σ3 ) tw_2_147 tw_2_145 tw_2_146 tw_1_7 ddX5_isDigit rfl ⟨rfl, rfl⟩ ⟨by show 0 + 1 ≤ 12 + (d + 1); omega, by show 8 + (1 + 11) + 0 ≤ 300 + 40 * (d + 1); omega⟩ hl.1 (Nat.le_of_ble_eq_true rfl) rfl dX5_factor_43 rfl (fun r7 σ6 hb_r7 => ?_)
    refine zj_if_eq (tgt := 54) (pc' := 49) hC dX5_factor_46 (by decide) rfl (fun c8 => ?_) (fun c8 => ?_)
    · refine zj_iload_n (pc' := 55) hC dX5_factor_54 rfl rfl (lv_at hl 0 rfl) ?_
      refine zj_iconst (pc' := 56) (v := (-1 : Int32)) hC dX5_factor_55 rfl rfl ?_
      refine zj_icmp_eq (tgt := 69) (pc' := 59) hC dX5_factor_56 (by decide) rfl (fun c9 => ?_) (fun c9 => ?_)
      · exact jX5_factor_69 d gr hGR hG hC v0 σ6 ls hk0 (lv_sub hl [1] rfl)
      · refine zn_ldcS (pc' := 61) hG hC dX5_factor_59 rfl ?_
        refine zj_iload_n (pc' := 62) hC dX5_factor_61 rfl rfl (lv_at hl 0 rfl) ?_
        refine zj_i2c (pc' := 63) hC dX5_factor_62 rfl ?_
        refine zn_calliQ (pc' := 66) (rest := []) hG hC (kJ0_indexOf_0f7a4 l b0 cA D L sq sw ((((r4).toUInt32 % 65536).toInt32)) σ6 ) tw_2_156 tw_2_153 tw_2_154 tw_2_155 tw_1_9 ddJ0_indexOf_0f7a4 rfl ⟨rfl, rfl⟩ ⟨by show 3 + 1 ≤ 12 + (d + 1); omega, by show 8 + (2 + 11) + 93 ≤ 300 + 40 * (d + 1); omega⟩ hl.1 (Nat.le_of_ble_eq_true rfl) rfl dX5_factor_63 rfl (fun r11 σ10 => ?_)
        refine zj_if_ge (tgt := 75) (pc' := 69) hC dX5_factor_66 (by decide) rfl (fun c12 => ?_) (fun c12 => ?_)
        · refine zj_aload_n (pc' := 76) hC dX5_factor_75 rfl rfl (lv_at hl 1 rfl) ?_
          refine zj_dup (pc' := 77) hC dX5_factor_76 rfl rfl ?_
          refine zj_getI (pc' := 80) hC hk0 fd_5_3 rfl tw_1_178 dX5_factor_77 rfl ?_
          refine zj_iconst (pc' := 81) (v := (1 : Int32)) hC dX5_factor_80 rfl rfl ?_
          refine zj_iadd (pc' := 82) hC dX5_factor_81 rfl ?_
          refine zj_putI (pc' := 85) hC hk0 fd_5_3 rfl tw_1_178 rfl rfl rfl dX5_factor_82 rfl (fun σ13 => ?_)
          refine zj_aload_n (pc' := 86) hC dX5_factor_85 rfl rfl (lv_at hl 1 rfl) ?_
          refine zj_getR (pc' := 89) hC hk0 fd_5_1 rfl tw_1_176 dX5_factor_86 rfl (fun q14 hk_q14 => ?_)
          refine zj_iconst (pc' := 90) (v := (3 : Int32)) hC dX5_factor_89 rfl rfl ?_
          refine zj_iload_n (pc' := 91) hC dX5_factor_90 rfl rfl (lv_at hl 0 rfl) ?_
          refine zj_calliV (pc' := 94) (rest := []) hC (kX4_add l b0 cA D L q14 (3 : Int32) r4 σ13 hk_q14) hk_q14 rfl tw_2_104 tw_2_101 tw_2_102 tw_2_103 tw_1_6 ddX4_add rfl ⟨rfl, rfl⟩ ⟨by show 0 + 1 ≤ 12 + (d + 1); omega, by show 8 + (4 + 11) + 0 ≤ 300 + 40 * (d + 1); omega⟩ hl.1 (Nat.le_of_ble_eq_true rfl) rfl dX5_factor_91 rfl (fun r16 σ15 => ?_)
          refine zj_pop (pc' := 95) hC dX5_factor_94 rfl rfl ?_
          refine zj_iconst (pc' := 96) (v := (1 : Int32)) hC dX5_factor_95 rfl rfl ?_
          exact zj_zret hC nB_1 dX5_factor_96
        · exact jX5_factor_69 d gr hGR hG hC v0 σ10 ls hk0 (lv_sub hl [1] rfl)
    · refine zj_aload_n (pc' := 50) hC dX5_factor_49 rfl rfl (lv_at hl 1 rfl) ?_
      refine zj_callzV (pc' := 53) (rest := []) hC (kX5_number l b0 cA D L v0 σ6 hk0) hk0 rfl tw_2_151 tw_2_148 tw_2_150 ts_2_0 tw_1_7 ddX5_number rfl ⟨rfl, rfl⟩ ⟨by show 1 + 1 ≤ 12 + (d + 1); omega, by show 8 + (3 + 11) + 23 ≤ 300 + 40 * (d + 1); omega⟩ hl.1 (Nat.le_of_ble_eq_true rfl) rfl dX5_factor_50 rfl (fun r18 σ17 hb_r18 => ?_)
      exact zj_zret hC hb_r18 dX5_factor_53
  · refine zj_aload_n (pc' := 12) hC dX5_factor_11 rfl rfl (lv_at hl 1 rfl) ?_
    refine zj_bipush (pc' := 14) (v := (91 : Int32)) hC dX5_factor_12 rfl rfl ?_
    refine zj_callzV (pc' := 17) (rest := []) hC (kX5_opens l b0 cA D L v0 (91 : Int32) σ3 hk0) hk0 rfl tw_2_108 tw_2_105 tw_2_107 ts_1_6 tw_1_7 ddX5_opens rfl ⟨rfl, rfl⟩ ⟨by show 2 + 1 ≤ 12 + (d + 1); omega, by show 8 + (2 + 11) + 42 ≤ 300 + 40 * (d + 1); omega⟩ hl.1 (Nat.le_of_ble_eq_true rfl) rfl dX5_factor_14 rfl (fun r20 σ19 hb_r20 => ?_)
    refine zj_if_eq (tgt := 40) (pc' := 20) hC dX5_factor_17 (by decide) rfl (fun c21 => ?_) (fun c21 => ?_)
    · refine zj_iconst (pc' := 41) (v := (0 : Int32)) hC dX5_factor_40 rfl rfl ?_
      exact zj_zret hC nB_0 dX5_factor_41
    · refine zj_aload_n (pc' := 21) hC dX5_factor_20 rfl rfl (lv_at hl 1 rfl) ?_
      refine zn_callzV (pc' := 24) (rest := []) hG hC (hGR v0 σ19 hk0).2.2.2.2.1 hk0 rfl tw_2_136 tw_2_133 tw_2_135 ts_1_13 tw_1_7 ddX5_sum rfl ⟨rfl, rfl⟩ ⟨by show 12 + d + 1 ≤ 12 + (d + 1); omega, by show 8 + (4 + 11) + (300 + 40 * d) ≤ 300 + 40 * (d + 1); omega⟩ hl.1 (Nat.le_of_ble_eq_true rfl) rfl dX5_factor_21 rfl (fun r23 σ22 hb_r23 => ?_)
      refine zj_if_eq (tgt := 40) (pc' := 27) hC dX5_factor_24 (by decide) rfl (fun c24 => ?_) (fun c24 => ?_)
      · refine zj_iconst (pc' := 41) (v := (0 : Int32)) hC dX5_factor_40 rfl rfl ?_
        exact zj_zret hC nB_0 dX5_factor_41
      · refine zj_aload_n (pc' := 28) hC dX5_factor_27 rfl rfl (lv_at hl 1 rfl) ?_
        refine zj_bipush (pc' := 30) (v := (93 : Int32)) hC dX5_factor_28 rfl rfl ?_
        refine zj_callzV (pc' := 33) (rest := []) hC (kX5_closes l b0 cA D L v0 (93 : Int32) σ22 hk0) hk0 rfl tw_2_128 tw_2_125 tw_2_127 ts_1_11 tw_1_7 ddX5_closes rfl ⟨rfl, rfl⟩ ⟨by show 2 + 1 ≤ 12 + (d + 1); omega, by show 8 + (2 + 11) + 42 ≤ 300 + 40 * (d + 1); omega⟩ hl.1 (Nat.le_of_ble_eq_true rfl) rfl dX5_factor_30 rfl (fun r26 σ25 hb_r26 => ?_)
        refine zj_if_eq (tgt := 40) (pc' := 36) hC dX5_factor_33 (by decide) rfl (fun c27 => ?_) (fun c27 => ?_)
        · refine zj_iconst (pc' := 41) (v := (0 : Int32)) hC dX5_factor_40 rfl rfl ?_
          exact zj_zret hC nB_0 dX5_factor_41
        · refine zj_iconst (pc' := 37) (v := (1 : Int32)) hC dX5_factor_36 rfl rfl ?_
          refine zj_goto (tgt := 41) hC dX5_factor_37 (by decide) ?_
          exact zj_zret hC nB_1 dX5_factor_41
def gX5 : Nat → Nat → Nat → zS → Option (Int32 × zS)
  | 0, _, _, _ => none
  | d + 1, i, v0, σ => if i = 0 then fX5_condition (gX5 d) v0 σ else (if i = 1 then fX5_part (gX5 d) v0 σ else (if i = 2 then fX5_piece (gX5 d) v0 σ else (if i = 3 then fX5_comparison (gX5 d) v0 σ else (if i = 4 then fX5_sum (gX5 d) v0 σ else (if i = 5 then fX5_term (gX5 d) v0 σ else (if i = 6 then fX5_factor (gX5 d) v0 σ else (none)))))))
theorem kX5G (l : Launch) (b0 : Nat) (cA : Nat → ClassId) (D : va_G) (L : List (Nat × Nat)) (sq sw : Nat) : ∀ d, zGR l b0 cA D L sq sw d (gX5 d)
  | 0 => fun v0 σ hk => ⟨(fun z hz => by cases hz), (fun z hz => by cases hz), (fun z hz => by cases hz), (fun z hz => by cases hz), (fun z hz => by cases hz), (fun z hz => by cases hz), (fun z hz => by cases hz)⟩
  | d + 1 => fun v0 σ hk => ⟨kX5_condition l b0 cA D L sq sw d (gX5 d) (kX5G l b0 cA D L sq sw d) v0 σ hk, kX5_part l b0 cA D L sq sw d (gX5 d) (kX5G l b0 cA D L sq sw d) v0 σ hk, kX5_piece l b0 cA D L sq sw d (gX5 d) (kX5G l b0 cA D L sq sw d) v0 σ hk, kX5_comparison l b0 cA D L sq sw d (gX5 d) (kX5G l b0 cA D L sq sw d) v0 σ hk, kX5_sum l b0 cA D L sq sw d (gX5 d) (kX5G l b0 cA D L sq sw d) v0 σ hk, kX5_term l b0 cA D L sq sw d (gX5 d) (kX5G l b0 cA D L sq sw d) v0 σ hk, kX5_factor l b0 cA D L sq sw d (gX5 d) (kX5G l b0 cA D L sq sw d) v0 σ hk⟩
