-- J1_canEncode_9a6ad
theorem ddJ1_canEncode_9a6ad : yJ1_canEncode_9a6ad.cls ≠ "java/lang/invoke/MethodHandle" ∧ yJ1_canEncode_9a6ad.cls ≠ "java/lang/invoke/VarHandle" ∧ (parseMethodDescriptor yJ1_canEncode_9a6ad.desc).map (fun d => d.parameters.length) = some 1 := by decide +kernel
abbrev rmJ1_canEncode_9a6ad : Room := { frames := 0, cells := 0, slots := 0, locals := 0 }
def fJ1_canEncode_9a6ad (v0 : Int32) (σ : zS) : Option (Int32 × zS) :=
  if v0 < 0 then (some ((0 : Int32), σ)) else (if (255 : Int32) < v0 then (some ((0 : Int32), σ)) else (some ((1 : Int32), σ)))
set_option maxRecDepth 100000 in
set_option maxHeartbeats 4000000 in
theorem kJ1_canEncode_9a6ad (l : Launch) (b0 : Nat) (cA : Nat → ClassId) (D : va_G) (L : List (Nat × Nat)) (v0 : Int32) (σ : zS)  : zMz l b0 cA D L yJ1_canEncode_9a6ad (Cond.code yJ1_canEncode_9a6ad cJ1_canEncode_9a6ad 1 (some Jvm.ClassFile.FieldType.boolean)) rmJ1_canEncode_9a6ad [.int v0] σ (fJ1_canEncode_9a6ad v0 σ) := by
  refine zMz_of (by decide) (Nat.le_of_ble_eq_true rfl) ?_
  intro p e s m below meth c ls hC hl
  have hl : lv_has ls 1 [(0, .int v0)] := hl
  generalize ([.int v0] : List Value).toArray = args at hC ⊢
  unfold fJ1_canEncode_9a6ad
  refine zj_iload_n (pc' := 1) hC dJ1_canEncode_9a6ad_0 rfl rfl (lv_at hl 0 rfl) ?_
  refine zj_if_lt (tgt := 15) (pc' := 4) hC dJ1_canEncode_9a6ad_1 (by decide) rfl (fun c1 => ?_) (fun c1 => ?_)
  · refine zj_iconst (pc' := 16) (v := (0 : Int32)) hC dJ1_canEncode_9a6ad_15 rfl rfl ?_
    exact zj_zret hC nB_0 dJ1_canEncode_9a6ad_16
  · refine zj_iload_n (pc' := 5) hC dJ1_canEncode_9a6ad_4 rfl rfl (lv_at hl 0 rfl) ?_
    refine zj_sipush (pc' := 8) (v := (255 : Int32)) hC dJ1_canEncode_9a6ad_5 rfl rfl ?_
    refine zj_icmp_gt (tgt := 15) (pc' := 11) hC dJ1_canEncode_9a6ad_8 (by decide) rfl (fun c2 => ?_) (fun c2 => ?_)
    · refine zj_iconst (pc' := 16) (v := (0 : Int32)) hC dJ1_canEncode_9a6ad_15 rfl rfl ?_
      exact zj_zret hC nB_0 dJ1_canEncode_9a6ad_16
    · refine zj_iconst (pc' := 12) (v := (1 : Int32)) hC dJ1_canEncode_9a6ad_11 rfl rfl ?_
      refine zj_goto (tgt := 16) hC dJ1_canEncode_9a6ad_12 (by decide) ?_
      exact zj_zret hC nB_1 dJ1_canEncode_9a6ad_16
-- J0_coder_7d493
theorem ddJ0_coder_7d493 : yJ0_coder_7d493.cls ≠ "java/lang/invoke/MethodHandle" ∧ yJ0_coder_7d493.cls ≠ "java/lang/invoke/VarHandle" ∧ (parseMethodDescriptor yJ0_coder_7d493.desc).map (fun d => d.parameters.length) = some 0 := by decide +kernel
abbrev rmJ0_coder_7d493 : Room := { frames := 0, cells := 0, slots := 0, locals := 0 }
def fJ0_coder_7d493  (σ : zS) : Option (Int32 × zS) :=
  if (1 : Int32) = 0 then (some ((1 : Int32), σ)) else (some ((0 : Int32), σ))
set_option maxRecDepth 100000 in
set_option maxHeartbeats 4000000 in
theorem kJ0_coder_7d493 (l : Launch) (b0 : Nat) (cA : Nat → ClassId) (D : va_G) (L : List (Nat × Nat)) (sq sw : Nat)  (σ : zS)  : zNy l b0 cA D L sq sw yJ0_coder_7d493 (Cond.code yJ0_coder_7d493 cJ0_coder_7d493 1 (some Jvm.ClassFile.FieldType.byte)) rmJ0_coder_7d493 [.ref sq] σ (fJ0_coder_7d493  σ) := by
  refine zNy_of (by decide) (Nat.le_of_ble_eq_true rfl) ?_
  intro p e s m below meth c ls hG hC hl
  have hl : lv_has ls 1 [(0, .ref sq)] := hl
  generalize ([.ref sq] : List Value).toArray = args at hC ⊢
  unfold fJ0_coder_7d493
  refine zn_gets (pc' := 3) hG hC tw_2_165 dJ0_coder_7d493_0 rfl ?_
  refine zj_if_eq (tgt := 13) (pc' := 6) hC dJ0_coder_7d493_3 (by decide) rfl (fun c1 => ?_) (fun c1 => ?_)
  · refine zj_iconst (pc' := 14) (v := (1 : Int32)) hC dJ0_coder_7d493_13 rfl rfl ?_
    exact zj_yret hC rfl dJ0_coder_7d493_14
  · refine zj_aload_n (pc' := 7) hC dJ0_coder_7d493_6 rfl rfl (lv_at hl 0 rfl) ?_
    refine zn_coder (pc' := 10) hG hC tw_6_26 dJ0_coder_7d493_7 rfl ?_
    refine zj_goto (tgt := 14) hC dJ0_coder_7d493_10 (by decide) ?_
    exact zj_yret hC rfl dJ0_coder_7d493_14
-- J0_isLatin1_aae02
theorem ddJ0_isLatin1_aae02 : yJ0_isLatin1_aae02.cls ≠ "java/lang/invoke/MethodHandle" ∧ yJ0_isLatin1_aae02.cls ≠ "java/lang/invoke/VarHandle" ∧ (parseMethodDescriptor yJ0_isLatin1_aae02.desc).map (fun d => d.parameters.length) = some 0 := by decide +kernel
abbrev rmJ0_isLatin1_aae02 : Room := { frames := 0, cells := 0, slots := 0, locals := 0 }
def fJ0_isLatin1_aae02  (σ : zS) : Option (Int32 × zS) :=
  if (1 : Int32) = 0 then (some ((0 : Int32), σ)) else (if (0 : Int32) = 0 then (some ((1 : Int32), σ)) else (some ((0 : Int32), σ)))
set_option maxRecDepth 100000 in
set_option maxHeartbeats 4000000 in
theorem kJ0_isLatin1_aae02 (l : Launch) (b0 : Nat) (cA : Nat → ClassId) (D : va_G) (L : List (Nat × Nat)) (sq sw : Nat)  (σ : zS)  : zNz l b0 cA D L sq sw yJ0_isLatin1_aae02 (Cond.code yJ0_isLatin1_aae02 cJ0_isLatin1_aae02 1 (some Jvm.ClassFile.FieldType.boolean)) rmJ0_isLatin1_aae02 [.ref sq] σ (fJ0_isLatin1_aae02  σ) := by
  refine zNz_of (by decide) (Nat.le_of_ble_eq_true rfl) ?_
  intro p e s m below meth c ls hG hC hl
  have hl : lv_has ls 1 [(0, .ref sq)] := hl
  generalize ([.ref sq] : List Value).toArray = args at hC ⊢
  unfold fJ0_isLatin1_aae02
  refine zn_gets (pc' := 3) hG hC tw_2_165 dJ0_isLatin1_aae02_0 rfl ?_
  refine zj_if_eq (tgt := 17) (pc' := 6) hC dJ0_isLatin1_aae02_3 (by decide) rfl (fun c1 => ?_) (fun c1 => ?_)
  · refine zj_iconst (pc' := 18) (v := (0 : Int32)) hC dJ0_isLatin1_aae02_17 rfl rfl ?_
    exact zj_zret hC nB_0 dJ0_isLatin1_aae02_18
  · refine zj_aload_n (pc' := 7) hC dJ0_isLatin1_aae02_6 rfl rfl (lv_at hl 0 rfl) ?_
    refine zn_coder (pc' := 10) hG hC tw_6_26 dJ0_isLatin1_aae02_7 rfl ?_
    refine zj_if_ne (tgt := 17) (pc' := 13) hC dJ0_isLatin1_aae02_10 (by decide) rfl (fun c2 => ?_) (fun c2 => ?_)
    · refine zj_iconst (pc' := 18) (v := (0 : Int32)) hC dJ0_isLatin1_aae02_17 rfl rfl ?_
      exact zj_zret hC nB_0 dJ0_isLatin1_aae02_18
    · refine zj_iconst (pc' := 14) (v := (1 : Int32)) hC dJ0_isLatin1_aae02_13 rfl rfl ?_
      refine zj_goto (tgt := 18) hC dJ0_isLatin1_aae02_14 (by decide) ?_
      exact zj_zret hC nB_1 dJ0_isLatin1_aae02_18
-- J0_length_8abf5
theorem ddJ0_length_8abf5 : yJ0_length_8abf5.cls ≠ "java/lang/invoke/MethodHandle" ∧ yJ0_length_8abf5.cls ≠ "java/lang/invoke/VarHandle" ∧ (parseMethodDescriptor yJ0_length_8abf5.desc).map (fun d => d.parameters.length) = some 0 := by decide +kernel
abbrev rmJ0_length_8abf5 : Room := { frames := 1, cells := 0, slots := 0, locals := 20 }
def fJ0_length_8abf5  (σ : zS) : Option (Int32 × zS) :=
  zb (fJ0_coder_7d493  σ) (fun (r2 : Int32) (σ1 : zS) => some (((12 : Int32) >>> (r2 &&& 31)), σ1))
set_option maxRecDepth 100000 in
set_option maxHeartbeats 4000000 in
theorem kJ0_length_8abf5 (l : Launch) (b0 : Nat) (cA : Nat → ClassId) (D : va_G) (L : List (Nat × Nat)) (sq sw : Nat)  (σ : zS)  : zNi l b0 cA D L sq sw yJ0_length_8abf5 (Cond.code yJ0_length_8abf5 cJ0_length_8abf5 1 (some Jvm.ClassFile.FieldType.int)) rmJ0_length_8abf5 [.ref sq] σ (fJ0_length_8abf5  σ) := by
  refine zNi_of (by decide) (Nat.le_of_ble_eq_true rfl) ?_
  intro p e s m below meth c ls hG hC hl
  have hl : lv_has ls 1 [(0, .ref sq)] := hl
  generalize ([.ref sq] : List Value).toArray = args at hC ⊢
  unfold fJ0_length_8abf5
  refine zj_aload_n (pc' := 1) hC dJ0_length_8abf5_0 rfl rfl (lv_at hl 0 rfl) ?_
  refine zn_value (pc' := 4) hG hC tw_6_27 dJ0_length_8abf5_1 rfl ?_
  refine zn_alen (pc' := 5) hG hC dJ0_length_8abf5_4 rfl ?_
  refine zj_aload_n (pc' := 6) hC dJ0_length_8abf5_5 rfl rfl (lv_at hl 0 rfl) ?_
  refine zn_callyQ (pc' := 9) (rest := [.int (12 : Int32)]) hG hC (kJ0_coder_7d493 l b0 cA D L sq sw  σ ) tw_2_174 tw_2_171 tw_2_172 tw_2_173 tw_1_9 ddJ0_coder_7d493 rfl ⟨rfl, rfl⟩ ⟨by decide, by decide⟩ hl.1 (Nat.le_of_ble_eq_true rfl) rfl dJ0_length_8abf5_6 rfl (fun r2 σ1 => ?_)
  refine zj_ishr (pc' := 10) hC dJ0_length_8abf5_9 rfl ?_
  exact zj_iret hC dJ0_length_8abf5_10
-- J1_indexOfChar_4cfef
theorem ddJ1_indexOfChar_4cfef : yJ1_indexOfChar_4cfef.cls ≠ "java/lang/invoke/MethodHandle" ∧ yJ1_indexOfChar_4cfef.cls ≠ "java/lang/invoke/VarHandle" ∧ (parseMethodDescriptor yJ1_indexOfChar_4cfef.desc).map (fun d => d.parameters.length) = some 4 := by decide +kernel
abbrev rmJ1_indexOfChar_4cfef : Room := { frames := 0, cells := 0, slots := 0, locals := 0 }
def bJ1_indexOfChar_4cfef_7 (k7 : Int32 → Int32 → Int32 → zS → Option (Int32 × zS)) (v3 : Int32) (v4 : Int32) (v5 : Int32) (σ : zS) : Option (Int32 × zS) :=
  if v3 ≤ v5 then (some ((-1 : Int32), σ)) else (zX v5 12 (if (zBy.getD (v5).toNatClampNeg 0) = v4 then (some (v5, σ)) else (k7 v3 v4 ((v5 + (1 : Int32))) σ)))
def fJ1_indexOfChar_4cfef_7  : Nat → Int32 → Int32 → Int32 → zS → Option (Int32 × zS)
  | 0, _, _, _, _ => none
  | n + 1, v3, v4, v5, σ => bJ1_indexOfChar_4cfef_7 (fJ1_indexOfChar_4cfef_7  n) v3 v4 v5 σ
def fJ1_indexOfChar_4cfef (v1 : Int32) (v2 : Int32) (v3 : Int32) (σ : zS) : Option (Int32 × zS) :=
  bnd (((v1).toInt8.toInt32)) (fun (x4 : Int32) => fJ1_indexOfChar_4cfef_7 zFU v3 x4 v2 σ)
set_option maxRecDepth 100000 in
set_option maxHeartbeats 4000000 in
theorem jJ1_indexOfChar_4cfef_7 {p : Program} {l : Launch} {e : Env} {s : State} {m : MethodId} {args : Array Value} {below : List Frame} {meth : Method} {c : Code} {b0 : Nat} {cA : Nat → ClassId} {D : va_G} {L : List (Nat × Nat)} {sq sw : Nat} (hG : zGq (zA b0 L) sq sw s s.heap) (hC : zC p c s m args meth cJ1_indexOfChar_4cfef 6 (some Jvm.ClassFile.FieldType.int) (Cond.code yJ1_indexOfChar_4cfef cJ1_indexOfChar_4cfef 6 (some Jvm.ClassFile.FieldType.int)) yJ1_indexOfChar_4cfef.cls cA D) (k7 : Int32 → Int32 → Int32 → zS → Option (Int32 × zS)) (h7 : ∀ (v3 : Int32) (v4 : Int32) (v5 : Int32) (σ : zS) (ls : Array Slot), lv_has ls 6 [(0, .ref sw), (3, .int v3), (4, .int v4), (5, .int v5)] → zJ p l e rmJ1_indexOfChar_4cfef s m args below meth c b0 cA D L (fun z => MQ below (va_Qi (fun (r : Int32) (u : zS) => (r, u) = z) (zB b0 cA D L) (zA b0 L)) args s 0 0 (zA b0 L)) (k7 v3 v4 v5 σ) σ 7 ls []) (v3 : Int32) (v4 : Int32) (v5 : Int32) (σ : zS) (ls : Array Slot)  (hl : lv_has ls 6 [(0, .ref sw), (3, .int v3), (4, .int v4), (5, .int v5)]) : zJ p l e rmJ1_indexOfChar_4cfef s m args below meth c b0 cA D L (fun z => MQ below (va_Qi (fun (r : Int32) (u : zS) => (r, u) = z) (zB b0 cA D L) (zA b0 L)) args s 0 0 (zA b0 L)) (bJ1_indexOfChar_4cfef_7 k7 v3 v4 v5 σ) σ 7 ls [] := by
  unfold bJ1_indexOfChar_4cfef_7
  refine zj_iload (pc' := 9) hC dJ1_indexOfChar_4cfef_7 rfl (lv_at hl 3 rfl) ?_
  refine zj_iload_n (pc' := 10) hC dJ1_indexOfChar_4cfef_9 rfl rfl (lv_at hl 1 rfl) ?_
  refine zj_icmp_ge (tgt := 31) (pc' := 13) hC dJ1_indexOfChar_4cfef_10 (by decide) rfl (fun c1 => ?_) (fun c1 => ?_)
  · refine zj_iconst (pc' := 32) (v := (-1 : Int32)) hC dJ1_indexOfChar_4cfef_31 rfl rfl ?_
    exact zj_iret hC dJ1_indexOfChar_4cfef_32
  · refine zj_aload_n (pc' := 14) hC dJ1_indexOfChar_4cfef_13 rfl rfl (lv_at hl 0 rfl) ?_
    refine zj_iload (pc' := 16) hC dJ1_indexOfChar_4cfef_14 rfl (lv_at hl 3 rfl) ?_
    refine zn_bald (pc' := 17) hG hC dJ1_indexOfChar_4cfef_16 rfl (fun g2 => ?_)
    refine zj_iload (pc' := 19) hC dJ1_indexOfChar_4cfef_17 rfl (lv_at hl 2 rfl) ?_
    refine zj_icmp_ne (tgt := 25) (pc' := 22) hC dJ1_indexOfChar_4cfef_19 (by decide) rfl (fun c3 => ?_) (fun c3 => ?_)
    · refine zj_iinc (pc' := 28) (k0 := 3) (v := (v5 + (1 : Int32))) (lv' := [(5, .int (v5 + (1 : Int32))), (0, .ref sw), (3, .int v3), (4, .int v4)]) hC dJ1_indexOfChar_4cfef_25 rfl hl rfl rfl (by decide) rfl (fun ls hl => ?_)
      refine zj_goto (tgt := 7) hC dJ1_indexOfChar_4cfef_28 (by decide) ?_
      exact h7 v3 v4 ((v5 + (1 : Int32))) σ ls  (lv_sub hl [1, 2, 3, 0] rfl)
    · refine zj_iload (pc' := 24) hC dJ1_indexOfChar_4cfef_22 rfl (lv_at hl 3 rfl) ?_
      exact zj_iret hC dJ1_indexOfChar_4cfef_24
set_option maxRecDepth 100000 in
set_option maxHeartbeats 4000000 in
theorem lJ1_indexOfChar_4cfef_7 {p : Program} {l : Launch} {e : Env} {s : State} {m : MethodId} {args : Array Value} {below : List Frame} {meth : Method} {c : Code} {b0 : Nat} {cA : Nat → ClassId} {D : va_G} {L : List (Nat × Nat)} {sq sw : Nat} (hG : zGq (zA b0 L) sq sw s s.heap) (hC : zC p c s m args meth cJ1_indexOfChar_4cfef 6 (some Jvm.ClassFile.FieldType.int) (Cond.code yJ1_indexOfChar_4cfef cJ1_indexOfChar_4cfef 6 (some Jvm.ClassFile.FieldType.int)) yJ1_indexOfChar_4cfef.cls cA D)  (n : Nat) : ∀ (v3 : Int32) (v4 : Int32) (v5 : Int32) (σ : zS) (ls : Array Slot), lv_has ls 6 [(0, .ref sw), (3, .int v3), (4, .int v4), (5, .int v5)] → zJ p l e rmJ1_indexOfChar_4cfef s m args below meth c b0 cA D L (fun z => MQ below (va_Qi (fun (r : Int32) (u : zS) => (r, u) = z) (zB b0 cA D L) (zA b0 L)) args s 0 0 (zA b0 L)) (fJ1_indexOfChar_4cfef_7  n v3 v4 v5 σ) σ 7 ls [] := by
  induction n with
  | zero => intros; exact zj_none
  | succ n ih => exact jJ1_indexOfChar_4cfef_7 hG hC (fJ1_indexOfChar_4cfef_7  n) ih
set_option maxRecDepth 100000 in
set_option maxHeartbeats 4000000 in
theorem kJ1_indexOfChar_4cfef (l : Launch) (b0 : Nat) (cA : Nat → ClassId) (D : va_G) (L : List (Nat × Nat)) (sq sw : Nat) (v1 : Int32) (v2 : Int32) (v3 : Int32) (σ : zS)  : zNi l b0 cA D L sq sw yJ1_indexOfChar_4cfef (Cond.code yJ1_indexOfChar_4cfef cJ1_indexOfChar_4cfef 6 (some Jvm.ClassFile.FieldType.int)) rmJ1_indexOfChar_4cfef [.ref sw, .int v1, .int v2, .int v3] σ (fJ1_indexOfChar_4cfef v1 v2 v3 σ) := by
  refine zNi_of (by decide) (Nat.le_of_ble_eq_true rfl) ?_
  intro p e s m below meth c ls hG hC hl
  have hl : lv_has ls 6 [(0, .ref sw), (1, .int v1), (2, .int v2), (3, .int v3)] := hl
  generalize ([.ref sw, .int v1, .int v2, .int v3] : List Value).toArray = args at hC ⊢
  unfold fJ1_indexOfChar_4cfef
  refine zj_iload_n (pc' := 1) hC dJ1_indexOfChar_4cfef_0 rfl rfl (lv_at hl 1 rfl) ?_
  refine zj_i2b (pc' := 2) hC dJ1_indexOfChar_4cfef_1 rfl ?_
  refine zj_nmi (fun x4 => ?_)
  refine zj_istore (pc' := 4) (lv' := [(4, .int x4), (0, .ref sw), (1, .int v1), (2, .int v2), (3, .int v3)]) hC dJ1_indexOfChar_4cfef_2 rfl hl (by decide) rfl (fun ls hl => ?_)
  refine zj_iload_n (pc' := 5) hC dJ1_indexOfChar_4cfef_4 rfl rfl (lv_at hl 3 rfl) ?_
  refine zj_istore (pc' := 7) (lv' := [(5, .int v2), (4, .int x4), (0, .ref sw), (1, .int v1), (2, .int v2), (3, .int v3)]) hC dJ1_indexOfChar_4cfef_5 rfl hl (by decide) rfl (fun ls hl => ?_)
  exact lJ1_indexOfChar_4cfef_7 hG hC zFU v3 x4 v2 σ ls  (lv_sub hl [2, 5, 1, 0] rfl)
-- J1_indexOf_4cfef
theorem ddJ1_indexOf_4cfef : yJ1_indexOf_4cfef.cls ≠ "java/lang/invoke/MethodHandle" ∧ yJ1_indexOf_4cfef.cls ≠ "java/lang/invoke/VarHandle" ∧ (parseMethodDescriptor yJ1_indexOf_4cfef.desc).map (fun d => d.parameters.length) = some 4 := by decide +kernel
abbrev rmJ1_indexOf_4cfef : Room := { frames := 1, cells := 0, slots := 0, locals := 48 }
def fJ1_indexOf_4cfef (v1 : Int32) (v2 : Int32) (v3 : Int32) (σ : zS) : Option (Int32 × zS) :=
  zb (fJ1_canEncode_9a6ad v1 σ) (fun (r2 : Int32) (σ1 : zS) => if r2 = 0 then (some ((-1 : Int32), σ1)) else (bnd ((if v2 < (0 : Int32) then (0 : Int32) else v2)) (fun (x4 : Int32) => bnd ((if (12 : Int32) < v3 then (12 : Int32) else v3)) (fun (x5 : Int32) => if x4 < x5 then (zb (fJ1_indexOfChar_4cfef v1 x4 x5 σ1) (fun (r8 : Int32) (σ7 : zS) => some (r8, σ7))) else (some ((-1 : Int32), σ1))))))
set_option maxRecDepth 100000 in
set_option maxHeartbeats 4000000 in
theorem kJ1_indexOf_4cfef (l : Launch) (b0 : Nat) (cA : Nat → ClassId) (D : va_G) (L : List (Nat × Nat)) (sq sw : Nat) (v1 : Int32) (v2 : Int32) (v3 : Int32) (σ : zS)  : zNi l b0 cA D L sq sw yJ1_indexOf_4cfef (Cond.code yJ1_indexOf_4cfef cJ1_indexOf_4cfef 4 (some Jvm.ClassFile.FieldType.int)) rmJ1_indexOf_4cfef [.ref sw, .int v1, .int v2, .int v3] σ (fJ1_indexOf_4cfef v1 v2 v3 σ) := by
  refine zNi_of (by decide) (Nat.le_of_ble_eq_true rfl) ?_
  intro p e s m below meth c ls hG hC hl
  have hl : lv_has ls 4 [(0, .ref sw), (1, .int v1), (2, .int v2), (3, .int v3)] := hl
  generalize ([.ref sw, .int v1, .int v2, .int v3] : List Value).toArray = args at hC ⊢
  unfold fJ1_indexOf_4cfef
  refine zj_iload_n (pc' := 1) hC dJ1_indexOf_4cfef_0 rfl rfl (lv_at hl 1 rfl) ?_
  refine zj_callzS (pc' := 4) (rest := []) hC (kJ1_canEncode_9a6ad l b0 cA D L v1 σ ) tw_2_180 tw_2_178 tw_2_179 tw_1_10 ddJ1_canEncode_9a6ad rfl ⟨rfl, rfl⟩ ⟨by decide, by decide⟩ hl.1 (Nat.le_of_ble_eq_true rfl) rfl dJ1_indexOf_4cfef_1 rfl (fun r2 σ1 hb_r2 => ?_)
  refine zj_if_ne (tgt := 9) (pc' := 7) hC dJ1_indexOf_4cfef_4 (by decide) rfl (fun c3 => ?_) (fun c3 => ?_)
  · refine zj_iload_n (pc' := 10) hC dJ1_indexOf_4cfef_9 rfl rfl (lv_at hl 2 rfl) ?_
    refine zj_iconst (pc' := 11) (v := (0 : Int32)) hC dJ1_indexOf_4cfef_10 rfl rfl ?_
    refine zj_mmax (pc' := 14) hC tw_2_181 tw_2_182 tw_1_11 tw_2_183 (by decide) (Nat.le_of_ble_eq_true rfl) hl.1 dJ1_indexOf_4cfef_11 rfl ?_
    refine zj_nmi (fun x4 => ?_)
    refine zj_istore_n (pc' := 15) (lv' := [(2, .int x4), (0, .ref sw), (1, .int v1), (3, .int v3)]) hC dJ1_indexOf_4cfef_14 rfl rfl hl (by decide) rfl (fun ls hl => ?_)
    refine zj_iload_n (pc' := 16) hC dJ1_indexOf_4cfef_15 rfl rfl (lv_at hl 3 rfl) ?_
    refine zj_aload_n (pc' := 17) hC dJ1_indexOf_4cfef_16 rfl rfl (lv_at hl 1 rfl) ?_
    refine zn_alen (pc' := 18) hG hC dJ1_indexOf_4cfef_17 rfl ?_
    refine zj_mmin (pc' := 21) hC tw_2_184 tw_2_185 tw_1_11 tw_2_186 (by decide) (Nat.le_of_ble_eq_true rfl) hl.1 dJ1_indexOf_4cfef_18 rfl ?_
    refine zj_nmi (fun x5 => ?_)
    refine zj_istore_n (pc' := 22) (lv' := [(3, .int x5), (2, .int x4), (0, .ref sw), (1, .int v1)]) hC dJ1_indexOf_4cfef_21 rfl rfl hl (by decide) rfl (fun ls hl => ?_)
    refine zj_iload_n (pc' := 23) hC dJ1_indexOf_4cfef_22 rfl rfl (lv_at hl 1 rfl) ?_
    refine zj_iload_n (pc' := 24) hC dJ1_indexOf_4cfef_23 rfl rfl (lv_at hl 0 rfl) ?_
    refine zj_icmp_lt (tgt := 29) (pc' := 27) hC dJ1_indexOf_4cfef_24 (by decide) rfl (fun c6 => ?_) (fun c6 => ?_)
    · refine zj_aload_n (pc' := 30) hC dJ1_indexOf_4cfef_29 rfl rfl (lv_at hl 2 rfl) ?_
      refine zj_iload_n (pc' := 31) hC dJ1_indexOf_4cfef_30 rfl rfl (lv_at hl 3 rfl) ?_
      refine zj_iload_n (pc' := 32) hC dJ1_indexOf_4cfef_31 rfl rfl (lv_at hl 1 rfl) ?_
      refine zj_iload_n (pc' := 33) hC dJ1_indexOf_4cfef_32 rfl rfl (lv_at hl 0 rfl) ?_
      refine zn_calliS (pc' := 36) (rest := []) hG hC (kJ1_indexOfChar_4cfef l b0 cA D L sq sw v1 x4 x5 σ1 ) tw_2_189 tw_2_187 tw_2_188 tw_1_10 ddJ1_indexOfChar_4cfef rfl ⟨rfl, rfl⟩ ⟨by decide, by decide⟩ hl.1 (Nat.le_of_ble_eq_true rfl) rfl dJ1_indexOf_4cfef_33 rfl (fun r8 σ7 => ?_)
      exact zj_iret hC dJ1_indexOf_4cfef_36
    · refine zj_iconst (pc' := 28) (v := (-1 : Int32)) hC dJ1_indexOf_4cfef_27 rfl rfl ?_
      exact zj_iret hC dJ1_indexOf_4cfef_28
  · refine zj_iconst (pc' := 8) (v := (-1 : Int32)) hC dJ1_indexOf_4cfef_7 rfl rfl ?_
    exact zj_iret hC dJ1_indexOf_4cfef_8
-- J0_indexOf_7cf53
theorem ddJ0_indexOf_7cf53 : yJ0_indexOf_7cf53.cls ≠ "java/lang/invoke/MethodHandle" ∧ yJ0_indexOf_7cf53.cls ≠ "java/lang/invoke/VarHandle" ∧ (parseMethodDescriptor yJ0_indexOf_7cf53.desc).map (fun d => d.parameters.length) = some 2 := by decide +kernel
abbrev rmJ0_indexOf_7cf53 : Room := { frames := 2, cells := 0, slots := 0, locals := 71 }
def fJ0_indexOf_7cf53 (v1 : Int32) (v2 : Int32) (σ : zS) : Option (Int32 × zS) :=
  zb (fJ0_isLatin1_aae02  σ) (fun (r2 : Int32) (σ1 : zS) => if r2 = 0 then (none) else (zb (fJ0_length_8abf5  σ1) (fun (r5 : Int32) (σ4 : zS) => zb (fJ1_indexOf_4cfef v1 v2 r5 σ4) (fun (r7 : Int32) (σ6 : zS) => some (r7, σ6)))))
set_option maxRecDepth 100000 in
set_option maxHeartbeats 4000000 in
theorem kJ0_indexOf_7cf53 (l : Launch) (b0 : Nat) (cA : Nat → ClassId) (D : va_G) (L : List (Nat × Nat)) (sq sw : Nat) (v1 : Int32) (v2 : Int32) (σ : zS)  : zNi l b0 cA D L sq sw yJ0_indexOf_7cf53 (Cond.code yJ0_indexOf_7cf53 cJ0_indexOf_7cf53 3 (some Jvm.ClassFile.FieldType.int)) rmJ0_indexOf_7cf53 [.ref sq, .int v1, .int v2] σ (fJ0_indexOf_7cf53 v1 v2 σ) := by
  refine zNi_of (by decide) (Nat.le_of_ble_eq_true rfl) ?_
  intro p e s m below meth c ls hG hC hl
  have hl : lv_has ls 3 [(0, .ref sq), (1, .int v1), (2, .int v2)] := hl
  generalize ([.ref sq, .int v1, .int v2] : List Value).toArray = args at hC ⊢
  unfold fJ0_indexOf_7cf53
  refine zj_aload_n (pc' := 1) hC dJ0_indexOf_7cf53_0 rfl rfl (lv_at hl 0 rfl) ?_
  refine zn_callzQ (pc' := 4) (rest := []) hG hC (kJ0_isLatin1_aae02 l b0 cA D L sq sw  σ ) tw_2_164 tw_2_161 tw_2_162 tw_2_163 tw_1_9 ddJ0_isLatin1_aae02 rfl ⟨rfl, rfl⟩ ⟨by decide, by decide⟩ hl.1 (Nat.le_of_ble_eq_true rfl) rfl dJ0_indexOf_7cf53_1 rfl (fun r2 σ1 hb_r2 => ?_)
  refine zj_if_eq (tgt := 23) (pc' := 7) hC dJ0_indexOf_7cf53_4 (by decide) rfl (fun c3 => ?_) (fun c3 => ?_)
  · exact zj_none
  · refine zj_aload_n (pc' := 8) hC dJ0_indexOf_7cf53_7 rfl rfl (lv_at hl 0 rfl) ?_
    refine zn_value (pc' := 11) hG hC tw_6_27 dJ0_indexOf_7cf53_8 rfl ?_
    refine zj_iload_n (pc' := 12) hC dJ0_indexOf_7cf53_11 rfl rfl (lv_at hl 1 rfl) ?_
    refine zj_iload_n (pc' := 13) hC dJ0_indexOf_7cf53_12 rfl rfl (lv_at hl 2 rfl) ?_
    refine zj_aload_n (pc' := 14) hC dJ0_indexOf_7cf53_13 rfl rfl (lv_at hl 0 rfl) ?_
    refine zn_calliQ (pc' := 17) (rest := [.int v2, .int v1, .ref sw]) hG hC (kJ0_length_8abf5 l b0 cA D L sq sw  σ1 ) tw_2_170 tw_2_167 tw_2_168 tw_2_169 tw_1_9 ddJ0_length_8abf5 rfl ⟨rfl, rfl⟩ ⟨by decide, by decide⟩ hl.1 (Nat.le_of_ble_eq_true rfl) rfl dJ0_indexOf_7cf53_14 rfl (fun r5 σ4 => ?_)
    refine zn_calliS (pc' := 20) (rest := []) hG hC (kJ1_indexOf_4cfef l b0 cA D L sq sw v1 v2 r5 σ4 ) tw_2_177 tw_2_175 tw_2_176 tw_1_10 ddJ1_indexOf_4cfef rfl ⟨rfl, rfl⟩ ⟨by decide, by decide⟩ hl.1 (Nat.le_of_ble_eq_true rfl) rfl dJ0_indexOf_7cf53_17 rfl (fun r7 σ6 => ?_)
    refine zj_goto (tgt := 36) hC dJ0_indexOf_7cf53_20 (by decide) ?_
    exact zj_iret hC dJ0_indexOf_7cf53_36
-- J0_indexOf_0f7a4
theorem ddJ0_indexOf_0f7a4 : yJ0_indexOf_0f7a4.cls ≠ "java/lang/invoke/MethodHandle" ∧ yJ0_indexOf_0f7a4.cls ≠ "java/lang/invoke/VarHandle" ∧ (parseMethodDescriptor yJ0_indexOf_0f7a4.desc).map (fun d => d.parameters.length) = some 1 := by decide +kernel
abbrev rmJ0_indexOf_0f7a4 : Room := { frames := 3, cells := 0, slots := 0, locals := 93 }
def fJ0_indexOf_0f7a4 (v1 : Int32) (σ : zS) : Option (Int32 × zS) :=
  zb (fJ0_indexOf_7cf53 v1 (0 : Int32) σ) (fun (r2 : Int32) (σ1 : zS) => some (r2, σ1))
set_option maxRecDepth 100000 in
set_option maxHeartbeats 4000000 in
theorem kJ0_indexOf_0f7a4 (l : Launch) (b0 : Nat) (cA : Nat → ClassId) (D : va_G) (L : List (Nat × Nat)) (sq sw : Nat) (v1 : Int32) (σ : zS)  : zNi l b0 cA D L sq sw yJ0_indexOf_0f7a4 (Cond.code yJ0_indexOf_0f7a4 cJ0_indexOf_0f7a4 2 (some Jvm.ClassFile.FieldType.int)) rmJ0_indexOf_0f7a4 [.ref sq, .int v1] σ (fJ0_indexOf_0f7a4 v1 σ) := by
  refine zNi_of (by decide) (Nat.le_of_ble_eq_true rfl) ?_
  intro p e s m below meth c ls hG hC hl
  have hl : lv_has ls 2 [(0, .ref sq), (1, .int v1)] := hl
  generalize ([.ref sq, .int v1] : List Value).toArray = args at hC ⊢
  unfold fJ0_indexOf_0f7a4
  refine zj_aload_n (pc' := 1) hC dJ0_indexOf_0f7a4_0 rfl rfl (lv_at hl 0 rfl) ?_
  refine zj_iload_n (pc' := 2) hC dJ0_indexOf_0f7a4_1 rfl rfl (lv_at hl 1 rfl) ?_
  refine zj_iconst (pc' := 3) (v := (0 : Int32)) hC dJ0_indexOf_0f7a4_2 rfl rfl ?_
  refine zn_calliQ (pc' := 6) (rest := []) hG hC (kJ0_indexOf_7cf53 l b0 cA D L sq sw v1 (0 : Int32) σ ) tw_2_160 tw_2_157 tw_2_158 tw_2_159 tw_1_9 ddJ0_indexOf_7cf53 rfl ⟨rfl, rfl⟩ ⟨by decide, by decide⟩ hl.1 (Nat.le_of_ble_eq_true rfl) rfl dJ0_indexOf_0f7a4_3 rfl (fun r2 σ1 => ?_)
  exact zj_iret hC dJ0_indexOf_0f7a4_6
-- X5_sign
theorem ddX5_sign : yX5_sign.cls ≠ "java/lang/invoke/MethodHandle" ∧ yX5_sign.cls ≠ "java/lang/invoke/VarHandle" ∧ (parseMethodDescriptor yX5_sign.desc).map (fun d => d.parameters.length) = some 0 := by decide +kernel
abbrev rmX5_sign : Room := { frames := 0, cells := 0, slots := 0, locals := 0 }
def fX5_sign (v0 : Nat) (σ : zS) : Option (Int32 × zS) :=
  if (σ.1 v0 3) < 0 then (some ((-1 : Int32), σ)) else (if (σ.1 v0 2) ≤ (σ.1 v0 3) then (some ((-1 : Int32), σ)) else (bnd (σ.2 v0 0) (fun (q3 : Nat) => if (500 : Int32) ≤ (σ.1 v0 3) then (some ((-1 : Int32), σ)) else (bnd (σ.2 v0 0) (fun (q5 : Nat) => zX (σ.1 v0 3) 500 (some (((σ.1 q5 ((σ.1 v0 3)).toNatClampNeg) &&& (255 : Int32)), σ)))))))
set_option maxRecDepth 100000 in
set_option maxHeartbeats 4000000 in
theorem kX5_sign (l : Launch) (b0 : Nat) (cA : Nat → ClassId) (D : va_G) (L : List (Nat × Nat)) (v0 : Nat) (σ : zS) (hk0 : L[v0]? = some (0, 5)) : zMi l b0 cA D L yX5_sign (Cond.code yX5_sign cX5_sign 1 (some Jvm.ClassFile.FieldType.int)) rmX5_sign [.ref (b0 + v0)] σ (fX5_sign v0 σ) := by
  refine zMi_of (by decide) (Nat.le_of_ble_eq_true rfl) ?_
  intro p e s m below meth c ls hC hl
  have hl : lv_has ls 1 [(0, .ref (b0 + v0))] := hl
  generalize ([.ref (b0 + v0)] : List Value).toArray = args at hC ⊢
  unfold fX5_sign
  refine zj_aload_n (pc' := 1) hC dX5_sign_0 rfl rfl (lv_at hl 0 rfl) ?_
  refine zj_getI (pc' := 4) hC hk0 fd_5_3 rfl tw_1_178 dX5_sign_1 rfl ?_
  refine zj_if_lt (tgt := 46) (pc' := 7) hC dX5_sign_4 (by decide) rfl (fun c1 => ?_) (fun c1 => ?_)
  · refine zj_iconst (pc' := 47) (v := (-1 : Int32)) hC dX5_sign_46 rfl rfl ?_
    exact zj_iret hC dX5_sign_47
  · refine zj_aload_n (pc' := 8) hC dX5_sign_7 rfl rfl (lv_at hl 0 rfl) ?_
    refine zj_getI (pc' := 11) hC hk0 fd_5_3 rfl tw_1_178 dX5_sign_8 rfl ?_
    refine zj_aload_n (pc' := 12) hC dX5_sign_11 rfl rfl (lv_at hl 0 rfl) ?_
    refine zj_getI (pc' := 15) hC hk0 fd_5_2 rfl tw_1_177 dX5_sign_12 rfl ?_
    refine zj_icmp_ge (tgt := 46) (pc' := 18) hC dX5_sign_15 (by decide) rfl (fun c2 => ?_) (fun c2 => ?_)
    · refine zj_iconst (pc' := 47) (v := (-1 : Int32)) hC dX5_sign_46 rfl rfl ?_
      exact zj_iret hC dX5_sign_47
    · refine zj_aload_n (pc' := 19) hC dX5_sign_18 rfl rfl (lv_at hl 0 rfl) ?_
      refine zj_getI (pc' := 22) hC hk0 fd_5_3 rfl tw_1_178 dX5_sign_19 rfl ?_
      refine zj_aload_n (pc' := 23) hC dX5_sign_22 rfl rfl (lv_at hl 0 rfl) ?_
      refine zj_getR (pc' := 26) hC hk0 fd_5_0 rfl tw_1_175 dX5_sign_23 rfl (fun q3 hk_q3 => ?_)
      refine zj_alen (pc' := 27) (v := (500 : Int32)) hC hk_q3 (by decide) rfl dX5_sign_26 rfl ?_
      refine zj_icmp_ge (tgt := 46) (pc' := 30) hC dX5_sign_27 (by decide) rfl (fun c4 => ?_) (fun c4 => ?_)
      · refine zj_iconst (pc' := 47) (v := (-1 : Int32)) hC dX5_sign_46 rfl rfl ?_
        exact zj_iret hC dX5_sign_47
      · refine zj_aload_n (pc' := 31) hC dX5_sign_30 rfl rfl (lv_at hl 0 rfl) ?_
        refine zj_getR (pc' := 34) hC hk0 fd_5_0 rfl tw_1_175 dX5_sign_31 rfl (fun q5 hk_q5 => ?_)
        refine zj_aload_n (pc' := 35) hC dX5_sign_34 rfl rfl (lv_at hl 0 rfl) ?_
        refine zj_getI (pc' := 38) hC hk0 fd_5_3 rfl tw_1_178 dX5_sign_35 rfl ?_
        refine zj_bald (pc' := 39) hC hk_q5 dX5_sign_38 rfl (fun g6 => ?_)
        refine zj_sipush (pc' := 42) (v := (255 : Int32)) hC dX5_sign_39 rfl rfl ?_
        refine zj_iand (pc' := 43) hC dX5_sign_42 rfl ?_
        refine zj_goto (tgt := 47) hC dX5_sign_43 (by decide) ?_
        exact zj_iret hC dX5_sign_47
-- X5_wrong
theorem ddX5_wrong : yX5_wrong.cls ≠ "java/lang/invoke/MethodHandle" ∧ yX5_wrong.cls ≠ "java/lang/invoke/VarHandle" ∧ (parseMethodDescriptor yX5_wrong.desc).map (fun d => d.parameters.length) = some 1 := by decide +kernel
abbrev rmX5_wrong : Room := { frames := 0, cells := 0, slots := 0, locals := 0 }
def fX5_wrong (v0 : Nat) (v1 : Int32) (σ : zS) : Option (Int32 × zS) :=
  bnd (zI σ v0 5 v1) (fun (σ1 : zS) => some ((0 : Int32), σ1))
set_option maxRecDepth 100000 in
set_option maxHeartbeats 4000000 in
theorem kX5_wrong (l : Launch) (b0 : Nat) (cA : Nat → ClassId) (D : va_G) (L : List (Nat × Nat)) (v0 : Nat) (v1 : Int32) (σ : zS) (hk0 : L[v0]? = some (0, 5)) : zMz l b0 cA D L yX5_wrong (Cond.code yX5_wrong cX5_wrong 2 (some Jvm.ClassFile.FieldType.boolean)) rmX5_wrong [.ref (b0 + v0), .int v1] σ (fX5_wrong v0 v1 σ) := by
  refine zMz_of (by decide) (Nat.le_of_ble_eq_true rfl) ?_
  intro p e s m below meth c ls hC hl
  have hl : lv_has ls 2 [(0, .ref (b0 + v0)), (1, .int v1)] := hl
  generalize ([.ref (b0 + v0), .int v1] : List Value).toArray = args at hC ⊢
  unfold fX5_wrong
  refine zj_aload_n (pc' := 1) hC dX5_wrong_0 rfl rfl (lv_at hl 0 rfl) ?_
  refine zj_iload_n (pc' := 2) hC dX5_wrong_1 rfl rfl (lv_at hl 1 rfl) ?_
  refine zj_putI (pc' := 5) hC hk0 fd_5_5 rfl tw_1_180 rfl rfl rfl dX5_wrong_2 rfl (fun σ1 => ?_)
  refine zj_iconst (pc' := 6) (v := (0 : Int32)) hC dX5_wrong_5 rfl rfl ?_
  exact zj_zret hC nB_0 dX5_wrong_6
-- X5_take
theorem ddX5_take : yX5_take.cls ≠ "java/lang/invoke/MethodHandle" ∧ yX5_take.cls ≠ "java/lang/invoke/VarHandle" ∧ (parseMethodDescriptor yX5_take.desc).map (fun d => d.parameters.length) = some 1 := by decide +kernel
abbrev rmX5_take : Room := { frames := 1, cells := 0, slots := 0, locals := 21 }
def fX5_take (v0 : Nat) (v1 : Int32) (σ : zS) : Option (Int32 × zS) :=
  zb (fX5_sign v0 σ) (fun (r2 : Int32) (σ1 : zS) => if r2 = v1 then (bnd (zI σ1 v0 3 ((σ1.1 v0 3) + (1 : Int32))) (fun (σ4 : zS) => some ((1 : Int32), σ4))) else (zb (fX5_wrong v0 (1 : Int32) σ1) (fun (r6 : Int32) (σ5 : zS) => some (r6, σ5))))
set_option maxRecDepth 100000 in
set_option maxHeartbeats 4000000 in
theorem kX5_take (l : Launch) (b0 : Nat) (cA : Nat → ClassId) (D : va_G) (L : List (Nat × Nat)) (v0 : Nat) (v1 : Int32) (σ : zS) (hk0 : L[v0]? = some (0, 5)) : zMz l b0 cA D L yX5_take (Cond.code yX5_take cX5_take 2 (some Jvm.ClassFile.FieldType.boolean)) rmX5_take [.ref (b0 + v0), .int v1] σ (fX5_take v0 v1 σ) := by
  refine zMz_of (by decide) (Nat.le_of_ble_eq_true rfl) ?_
  intro p e s m below meth c ls hC hl
  have hl : lv_has ls 2 [(0, .ref (b0 + v0)), (1, .int v1)] := hl
  generalize ([.ref (b0 + v0), .int v1] : List Value).toArray = args at hC ⊢
  unfold fX5_take
  refine zj_aload_n (pc' := 1) hC dX5_take_0 rfl rfl (lv_at hl 0 rfl) ?_
  refine zj_calliV (pc' := 4) (rest := []) hC (kX5_sign l b0 cA D L v0 σ hk0) hk0 rfl tw_2_96 tw_2_93 tw_2_95 ts_1_4 tw_1_7 ddX5_sign rfl ⟨rfl, rfl⟩ ⟨by decide, by decide⟩ hl.1 (Nat.le_of_ble_eq_true rfl) rfl dX5_take_1 rfl (fun r2 σ1 => ?_)
  refine zj_iload_n (pc' := 5) hC dX5_take_4 rfl rfl (lv_at hl 1 rfl) ?_
  refine zj_icmp_eq (tgt := 14) (pc' := 8) hC dX5_take_5 (by decide) rfl (fun c3 => ?_) (fun c3 => ?_)
  · refine zj_aload_n (pc' := 15) hC dX5_take_14 rfl rfl (lv_at hl 0 rfl) ?_
    refine zj_dup (pc' := 16) hC dX5_take_15 rfl rfl ?_
    refine zj_getI (pc' := 19) hC hk0 fd_5_3 rfl tw_1_178 dX5_take_16 rfl ?_
    refine zj_iconst (pc' := 20) (v := (1 : Int32)) hC dX5_take_19 rfl rfl ?_
    refine zj_iadd (pc' := 21) hC dX5_take_20 rfl ?_
    refine zj_putI (pc' := 24) hC hk0 fd_5_3 rfl tw_1_178 rfl rfl rfl dX5_take_21 rfl (fun σ4 => ?_)
    refine zj_iconst (pc' := 25) (v := (1 : Int32)) hC dX5_take_24 rfl rfl ?_
    exact zj_zret hC nB_1 dX5_take_25
  · refine zj_aload_n (pc' := 9) hC dX5_take_8 rfl rfl (lv_at hl 0 rfl) ?_
    refine zj_iconst (pc' := 10) (v := (1 : Int32)) hC dX5_take_9 rfl rfl ?_
    refine zj_callzV (pc' := 13) (rest := []) hC (kX5_wrong l b0 cA D L v0 (1 : Int32) σ1 hk0) hk0 rfl tw_2_100 tw_2_97 tw_2_99 ts_1_5 tw_1_7 ddX5_wrong rfl ⟨rfl, rfl⟩ ⟨by decide, by decide⟩ hl.1 (Nat.le_of_ble_eq_true rfl) rfl dX5_take_10 rfl (fun r6 σ5 hb_r6 => ?_)
    exact zj_zret hC hb_r6 dX5_take_13
-- X5_opens
theorem ddX5_opens : yX5_opens.cls ≠ "java/lang/invoke/MethodHandle" ∧ yX5_opens.cls ≠ "java/lang/invoke/VarHandle" ∧ (parseMethodDescriptor yX5_opens.desc).map (fun d => d.parameters.length) = some 1 := by decide +kernel
abbrev rmX5_opens : Room := { frames := 2, cells := 0, slots := 0, locals := 42 }
def bX5_opens_23  (v0 : Nat) (v1 : Int32) (σ : zS) : Option (Int32 × zS) :=
  bnd (zI σ v0 4 ((σ.1 v0 4) + (1 : Int32))) (fun (σ1 : zS) => zb (fX5_take v0 v1 σ1) (fun (r3 : Int32) (σ2 : zS) => some (r3, σ2)))
def fX5_opens (v0 : Nat) (v1 : Int32) (σ : zS) : Option (Int32 × zS) :=
  zb (fX5_sign v0 σ) (fun (r5 : Int32) (σ4 : zS) => if r5 = v1 then (if (σ4.1 v0 4) < (6 : Int32) then (bX5_opens_23 v0 v1 σ4) else (zb (fX5_wrong v0 (5 : Int32) σ4) (fun (r9 : Int32) (σ8 : zS) => some (r9, σ8)))) else (bX5_opens_23 v0 v1 σ4))
set_option maxRecDepth 100000 in
set_option maxHeartbeats 4000000 in
theorem jX5_opens_23 {p : Program} {l : Launch} {e : Env} {s : State} {m : MethodId} {args : Array Value} {below : List Frame} {meth : Method} {c : Code} {b0 : Nat} {cA : Nat → ClassId} {D : va_G} {L : List (Nat × Nat)} (hC : zC p c s m args meth cX5_opens 2 (some Jvm.ClassFile.FieldType.boolean) (Cond.code yX5_opens cX5_opens 2 (some Jvm.ClassFile.FieldType.boolean)) yX5_opens.cls cA D)  (v0 : Nat) (v1 : Int32) (σ : zS) (ls : Array Slot) (hk_v0 : L[v0]? = some (0, 5)) (hl : lv_has ls 2 [(0, .ref (b0 + v0)), (1, .int v1)]) : zJ p l e rmX5_opens s m args below meth c b0 cA D L (fun z => MQ below (va_Qi (fun (r : Int32) (u : zS) => (r, u) = z ∧ nB r) (zB b0 cA D L) (zA b0 L)) args s 0 0 (zA b0 L)) (bX5_opens_23  v0 v1 σ) σ 23 ls [] := by
  unfold bX5_opens_23
  refine zj_aload_n (pc' := 24) hC dX5_opens_23 rfl rfl (lv_at hl 0 rfl) ?_
  refine zj_dup (pc' := 25) hC dX5_opens_24 rfl rfl ?_
  refine zj_getI (pc' := 28) hC hk_v0 fd_5_4 rfl tw_1_179 dX5_opens_25 rfl ?_
  refine zj_iconst (pc' := 29) (v := (1 : Int32)) hC dX5_opens_28 rfl rfl ?_
  refine zj_iadd (pc' := 30) hC dX5_opens_29 rfl ?_
  refine zj_putI (pc' := 33) hC hk_v0 fd_5_4 rfl tw_1_179 rfl rfl rfl dX5_opens_30 rfl (fun σ1 => ?_)
  refine zj_aload_n (pc' := 34) hC dX5_opens_33 rfl rfl (lv_at hl 0 rfl) ?_
  refine zj_iload_n (pc' := 35) hC dX5_opens_34 rfl rfl (lv_at hl 1 rfl) ?_
  refine zj_callzV (pc' := 38) (rest := []) hC (kX5_take l b0 cA D L v0 v1 σ1 hk_v0) hk_v0 rfl tw_2_112 tw_2_109 tw_2_111 ts_1_7 tw_1_7 ddX5_take rfl ⟨rfl, rfl⟩ ⟨by decide, by decide⟩ hl.1 (Nat.le_of_ble_eq_true rfl) rfl dX5_opens_35 rfl (fun r3 σ2 hb_r3 => ?_)
  exact zj_zret hC hb_r3 dX5_opens_38
set_option maxRecDepth 100000 in
set_option maxHeartbeats 4000000 in
theorem kX5_opens (l : Launch) (b0 : Nat) (cA : Nat → ClassId) (D : va_G) (L : List (Nat × Nat)) (v0 : Nat) (v1 : Int32) (σ : zS) (hk0 : L[v0]? = some (0, 5)) : zMz l b0 cA D L yX5_opens (Cond.code yX5_opens cX5_opens 2 (some Jvm.ClassFile.FieldType.boolean)) rmX5_opens [.ref (b0 + v0), .int v1] σ (fX5_opens v0 v1 σ) := by
  refine zMz_of (by decide) (Nat.le_of_ble_eq_true rfl) ?_
  intro p e s m below meth c ls hC hl
  have hl : lv_has ls 2 [(0, .ref (b0 + v0)), (1, .int v1)] := hl
  generalize ([.ref (b0 + v0), .int v1] : List Value).toArray = args at hC ⊢
  unfold fX5_opens
  refine zj_aload_n (pc' := 1) hC dX5_opens_0 rfl rfl (lv_at hl 0 rfl) ?_
  refine zj_calliV (pc' := 4) (rest := []) hC (kX5_sign l b0 cA D L v0 σ hk0) hk0 rfl tw_2_96 tw_2_93 tw_2_95 ts_1_4 tw_1_7 ddX5_sign rfl ⟨rfl, rfl⟩ ⟨by decide, by decide⟩ hl.1 (Nat.le_of_ble_eq_true rfl) rfl dX5_opens_1 rfl (fun r5 σ4 => ?_)
  refine zj_iload_n (pc' := 5) hC dX5_opens_4 rfl rfl (lv_at hl 1 rfl) ?_
  refine zj_icmp_ne (tgt := 23) (pc' := 8) hC dX5_opens_5 (by decide) rfl (fun c6 => ?_) (fun c6 => ?_)
  · exact jX5_opens_23 hC v0 v1 σ4 ls hk0 (lv_sub hl [0, 1] rfl)
  · refine zj_aload_n (pc' := 9) hC dX5_opens_8 rfl rfl (lv_at hl 0 rfl) ?_
    refine zj_getI (pc' := 12) hC hk0 fd_5_4 rfl tw_1_179 dX5_opens_9 rfl ?_
    refine zj_bipush (pc' := 14) (v := (6 : Int32)) hC dX5_opens_12 rfl rfl ?_
    refine zj_icmp_lt (tgt := 23) (pc' := 17) hC dX5_opens_14 (by decide) rfl (fun c7 => ?_) (fun c7 => ?_)
    · exact jX5_opens_23 hC v0 v1 σ4 ls hk0 (lv_sub hl [0, 1] rfl)
    · refine zj_aload_n (pc' := 18) hC dX5_opens_17 rfl rfl (lv_at hl 0 rfl) ?_
      refine zj_iconst (pc' := 19) (v := (5 : Int32)) hC dX5_opens_18 rfl rfl ?_
      refine zj_callzV (pc' := 22) (rest := []) hC (kX5_wrong l b0 cA D L v0 (5 : Int32) σ4 hk0) hk0 rfl tw_2_100 tw_2_97 tw_2_99 ts_1_5 tw_1_7 ddX5_wrong rfl ⟨rfl, rfl⟩ ⟨by decide, by decide⟩ hl.1 (Nat.le_of_ble_eq_true rfl) rfl dX5_opens_19 rfl (fun r9 σ8 hb_r9 => ?_)
      exact zj_zret hC hb_r9 dX5_opens_22
-- X5_closes
theorem ddX5_closes : yX5_closes.cls ≠ "java/lang/invoke/MethodHandle" ∧ yX5_closes.cls ≠ "java/lang/invoke/VarHandle" ∧ (parseMethodDescriptor yX5_closes.desc).map (fun d => d.parameters.length) = some 1 := by decide +kernel
abbrev rmX5_closes : Room := { frames := 2, cells := 0, slots := 0, locals := 42 }
def fX5_closes (v0 : Nat) (v1 : Int32) (σ : zS) : Option (Int32 × zS) :=
  bnd (zI σ v0 4 ((σ.1 v0 4) - (1 : Int32))) (fun (σ1 : zS) => zb (fX5_take v0 v1 σ1) (fun (r3 : Int32) (σ2 : zS) => some (r3, σ2)))
set_option maxRecDepth 100000 in
set_option maxHeartbeats 4000000 in
theorem kX5_closes (l : Launch) (b0 : Nat) (cA : Nat → ClassId) (D : va_G) (L : List (Nat × Nat)) (v0 : Nat) (v1 : Int32) (σ : zS) (hk0 : L[v0]? = some (0, 5)) : zMz l b0 cA D L yX5_closes (Cond.code yX5_closes cX5_closes 2 (some Jvm.ClassFile.FieldType.boolean)) rmX5_closes [.ref (b0 + v0), .int v1] σ (fX5_closes v0 v1 σ) := by
  refine zMz_of (by decide) (Nat.le_of_ble_eq_true rfl) ?_
  intro p e s m below meth c ls hC hl
  have hl : lv_has ls 2 [(0, .ref (b0 + v0)), (1, .int v1)] := hl
  generalize ([.ref (b0 + v0), .int v1] : List Value).toArray = args at hC ⊢
  unfold fX5_closes
  refine zj_aload_n (pc' := 1) hC dX5_closes_0 rfl rfl (lv_at hl 0 rfl) ?_
  refine zj_dup (pc' := 2) hC dX5_closes_1 rfl rfl ?_
  refine zj_getI (pc' := 5) hC hk0 fd_5_4 rfl tw_1_179 dX5_closes_2 rfl ?_
  refine zj_iconst (pc' := 6) (v := (1 : Int32)) hC dX5_closes_5 rfl rfl ?_
  refine zj_isub (pc' := 7) hC dX5_closes_6 rfl ?_
  refine zj_putI (pc' := 10) hC hk0 fd_5_4 rfl tw_1_179 rfl rfl rfl dX5_closes_7 rfl (fun σ1 => ?_)
  refine zj_aload_n (pc' := 11) hC dX5_closes_10 rfl rfl (lv_at hl 0 rfl) ?_
  refine zj_iload_n (pc' := 12) hC dX5_closes_11 rfl rfl (lv_at hl 1 rfl) ?_
  refine zj_callzV (pc' := 15) (rest := []) hC (kX5_take l b0 cA D L v0 v1 σ1 hk0) hk0 rfl tw_2_112 tw_2_109 tw_2_111 ts_1_7 tw_1_7 ddX5_take rfl ⟨rfl, rfl⟩ ⟨by decide, by decide⟩ hl.1 (Nat.le_of_ble_eq_true rfl) rfl dX5_closes_12 rfl (fun r3 σ2 hb_r3 => ?_)
  exact zj_zret hC hb_r3 dX5_closes_15
-- X5_isDigit
theorem ddX5_isDigit : yX5_isDigit.cls ≠ "java/lang/invoke/MethodHandle" ∧ yX5_isDigit.cls ≠ "java/lang/invoke/VarHandle" ∧ (parseMethodDescriptor yX5_isDigit.desc).map (fun d => d.parameters.length) = some 1 := by decide +kernel
abbrev rmX5_isDigit : Room := { frames := 0, cells := 0, slots := 0, locals := 0 }
def fX5_isDigit (v0 : Int32) (σ : zS) : Option (Int32 × zS) :=
  if v0 < (48 : Int32) then (some ((0 : Int32), σ)) else (if (57 : Int32) < v0 then (some ((0 : Int32), σ)) else (some ((1 : Int32), σ)))
set_option maxRecDepth 100000 in
set_option maxHeartbeats 4000000 in
theorem kX5_isDigit (l : Launch) (b0 : Nat) (cA : Nat → ClassId) (D : va_G) (L : List (Nat × Nat)) (v0 : Int32) (σ : zS)  : zMz l b0 cA D L yX5_isDigit (Cond.code yX5_isDigit cX5_isDigit 1 (some Jvm.ClassFile.FieldType.boolean)) rmX5_isDigit [.int v0] σ (fX5_isDigit v0 σ) := by
  refine zMz_of (by decide) (Nat.le_of_ble_eq_true rfl) ?_
  intro p e s m below meth c ls hC hl
  have hl : lv_has ls 1 [(0, .int v0)] := hl
  generalize ([.int v0] : List Value).toArray = args at hC ⊢
  unfold fX5_isDigit
  refine zj_iload_n (pc' := 1) hC dX5_isDigit_0 rfl rfl (lv_at hl 0 rfl) ?_
  refine zj_bipush (pc' := 3) (v := (48 : Int32)) hC dX5_isDigit_1 rfl rfl ?_
  refine zj_icmp_lt (tgt := 16) (pc' := 6) hC dX5_isDigit_3 (by decide) rfl (fun c1 => ?_) (fun c1 => ?_)
  · refine zj_iconst (pc' := 17) (v := (0 : Int32)) hC dX5_isDigit_16 rfl rfl ?_
    exact zj_zret hC nB_0 dX5_isDigit_17
  · refine zj_iload_n (pc' := 7) hC dX5_isDigit_6 rfl rfl (lv_at hl 0 rfl) ?_
    refine zj_bipush (pc' := 9) (v := (57 : Int32)) hC dX5_isDigit_7 rfl rfl ?_
    refine zj_icmp_gt (tgt := 16) (pc' := 12) hC dX5_isDigit_9 (by decide) rfl (fun c2 => ?_) (fun c2 => ?_)
    · refine zj_iconst (pc' := 17) (v := (0 : Int32)) hC dX5_isDigit_16 rfl rfl ?_
      exact zj_zret hC nB_0 dX5_isDigit_17
    · refine zj_iconst (pc' := 13) (v := (1 : Int32)) hC dX5_isDigit_12 rfl rfl ?_
      refine zj_goto (tgt := 17) hC dX5_isDigit_13 (by decide) ?_
      exact zj_zret hC nB_1 dX5_isDigit_17
-- X5_comparing
theorem ddX5_comparing : yX5_comparing.cls ≠ "java/lang/invoke/MethodHandle" ∧ yX5_comparing.cls ≠ "java/lang/invoke/VarHandle" ∧ (parseMethodDescriptor yX5_comparing.desc).map (fun d => d.parameters.length) = some 1 := by decide +kernel
abbrev rmX5_comparing : Room := { frames := 0, cells := 0, slots := 0, locals := 0 }
def fX5_comparing (v0 : Int32) (σ : zS) : Option (Int32 × zS) :=
  if v0 = (60 : Int32) then (some ((12 : Int32), σ)) else (if v0 = (61 : Int32) then (some ((14 : Int32), σ)) else (if v0 = (62 : Int32) then (some ((13 : Int32), σ)) else (some ((-1 : Int32), σ))))
set_option maxRecDepth 100000 in
set_option maxHeartbeats 4000000 in
theorem kX5_comparing (l : Launch) (b0 : Nat) (cA : Nat → ClassId) (D : va_G) (L : List (Nat × Nat)) (v0 : Int32) (σ : zS)  : zMi l b0 cA D L yX5_comparing (Cond.code yX5_comparing cX5_comparing 1 (some Jvm.ClassFile.FieldType.int)) rmX5_comparing [.int v0] σ (fX5_comparing v0 σ) := by
  refine zMi_of (by decide) (Nat.le_of_ble_eq_true rfl) ?_
  intro p e s m below meth c ls hC hl
  have hl : lv_has ls 1 [(0, .int v0)] := hl
  generalize ([.int v0] : List Value).toArray = args at hC ⊢
  unfold fX5_comparing
  refine zj_iload_n (pc' := 1) hC dX5_comparing_0 rfl rfl (lv_at hl 0 rfl) ?_
  refine zj_split (fun c1 => ?_) (fun c1 => ?_)
  · refine zj_tabIn (tgt := 28) 60 hC dX5_comparing_1 (by rw [c1]; decide) (by decide) (by decide) rfl (by decide) ?_
    refine zj_bipush (pc' := 30) (v := (12 : Int32)) hC dX5_comparing_28 rfl rfl ?_
    exact zj_iret hC dX5_comparing_30
  refine zj_split (fun c2 => ?_) (fun c2 => ?_)
  · refine zj_tabIn (tgt := 34) 61 hC dX5_comparing_1 (by rw [c2]; decide) (by decide) (by decide) rfl (by decide) ?_
    refine zj_bipush (pc' := 36) (v := (14 : Int32)) hC dX5_comparing_34 rfl rfl ?_
    exact zj_iret hC dX5_comparing_36
  refine zj_split (fun c3 => ?_) (fun c3 => ?_)
  · refine zj_tabIn (tgt := 31) 62 hC dX5_comparing_1 (by rw [c3]; decide) (by decide) (by decide) rfl (by decide) ?_
    refine zj_bipush (pc' := 33) (v := (13 : Int32)) hC dX5_comparing_31 rfl rfl ?_
    exact zj_iret hC dX5_comparing_33
  refine zj_tabD (tgt := 37) [0, 1, 2] 3 hC dX5_comparing_1 (by decide) (by decide) (List.forall_mem_cons.mpr ⟨lv_neT c1 (by decide), List.forall_mem_cons.mpr ⟨lv_neT c2 (by decide), List.forall_mem_cons.mpr ⟨lv_neT c3 (by decide), fun _ h => absurd h List.not_mem_nil⟩⟩⟩) (by decide) ?_
  refine zj_iconst (pc' := 38) (v := (-1 : Int32)) hC dX5_comparing_37 rfl rfl ?_
  exact zj_iret hC dX5_comparing_38
-- X5_adding
theorem ddX5_adding : yX5_adding.cls ≠ "java/lang/invoke/MethodHandle" ∧ yX5_adding.cls ≠ "java/lang/invoke/VarHandle" ∧ (parseMethodDescriptor yX5_adding.desc).map (fun d => d.parameters.length) = some 1 := by decide +kernel
abbrev rmX5_adding : Room := { frames := 0, cells := 0, slots := 0, locals := 0 }
def fX5_adding (v0 : Int32) (σ : zS) : Option (Int32 × zS) :=
  if v0 = (43 : Int32) then (some ((7 : Int32), σ)) else (if v0 = (45 : Int32) then (some ((8 : Int32), σ)) else (some ((-1 : Int32), σ)))
set_option maxRecDepth 100000 in
set_option maxHeartbeats 4000000 in
theorem kX5_adding (l : Launch) (b0 : Nat) (cA : Nat → ClassId) (D : va_G) (L : List (Nat × Nat)) (v0 : Int32) (σ : zS)  : zMi l b0 cA D L yX5_adding (Cond.code yX5_adding cX5_adding 1 (some Jvm.ClassFile.FieldType.int)) rmX5_adding [.int v0] σ (fX5_adding v0 σ) := by
  refine zMi_of (by decide) (Nat.le_of_ble_eq_true rfl) ?_
  intro p e s m below meth c ls hC hl
  have hl : lv_has ls 1 [(0, .int v0)] := hl
  generalize ([.int v0] : List Value).toArray = args at hC ⊢
  unfold fX5_adding
  refine zj_iload_n (pc' := 1) hC dX5_adding_0 rfl rfl (lv_at hl 0 rfl) ?_
  refine zj_split (fun c1 => ?_) (fun c1 => ?_)
  · refine zj_look (tgt := 28) (off := 27) hC dX5_adding_1 (by decide) (by rw [c1]; decide) (by decide) ?_
    refine zj_bipush (pc' := 30) (v := (7 : Int32)) hC dX5_adding_28 rfl rfl ?_
    exact zj_iret hC dX5_adding_30
  refine zj_split (fun c2 => ?_) (fun c2 => ?_)
  · refine zj_look (tgt := 31) (off := 30) hC dX5_adding_1 (by decide) (by rw [c2]; decide) (by decide) ?_
    refine zj_bipush (pc' := 33) (v := (8 : Int32)) hC dX5_adding_31 rfl rfl ?_
    exact zj_iret hC dX5_adding_33
  refine zj_look (tgt := 34) (off := 33) hC dX5_adding_1 (by decide) (by show Op.lookupswitch.offset [(43, 27), (45, 30)] _ _ = _; rw [lv_osw c1 (by decide), lv_osw c2 (by decide)]; rfl) (by decide) ?_
  refine zj_iconst (pc' := 35) (v := (-1 : Int32)) hC dX5_adding_34 rfl rfl ?_
  exact zj_iret hC dX5_adding_35
-- X5_timing
theorem ddX5_timing : yX5_timing.cls ≠ "java/lang/invoke/MethodHandle" ∧ yX5_timing.cls ≠ "java/lang/invoke/VarHandle" ∧ (parseMethodDescriptor yX5_timing.desc).map (fun d => d.parameters.length) = some 1 := by decide +kernel
abbrev rmX5_timing : Room := { frames := 0, cells := 0, slots := 0, locals := 0 }
def fX5_timing (v0 : Int32) (σ : zS) : Option (Int32 × zS) :=
  if v0 = (37 : Int32) then (some ((11 : Int32), σ)) else (if v0 = (42 : Int32) then (some ((9 : Int32), σ)) else (if v0 = (47 : Int32) then (some ((10 : Int32), σ)) else (some ((-1 : Int32), σ))))
set_option maxRecDepth 100000 in
set_option maxHeartbeats 4000000 in
theorem kX5_timing (l : Launch) (b0 : Nat) (cA : Nat → ClassId) (D : va_G) (L : List (Nat × Nat)) (v0 : Int32) (σ : zS)  : zMi l b0 cA D L yX5_timing (Cond.code yX5_timing cX5_timing 1 (some Jvm.ClassFile.FieldType.int)) rmX5_timing [.int v0] σ (fX5_timing v0 σ) := by
  refine zMi_of (by decide) (Nat.le_of_ble_eq_true rfl) ?_
  intro p e s m below meth c ls hC hl
  have hl : lv_has ls 1 [(0, .int v0)] := hl
  generalize ([.int v0] : List Value).toArray = args at hC ⊢
  unfold fX5_timing
  refine zj_iload_n (pc' := 1) hC dX5_timing_0 rfl rfl (lv_at hl 0 rfl) ?_
  refine zj_split (fun c1 => ?_) (fun c1 => ?_)
  · refine zj_look (tgt := 42) (off := 41) hC dX5_timing_1 (by decide) (by rw [c1]; decide) (by decide) ?_
    refine zj_bipush (pc' := 44) (v := (11 : Int32)) hC dX5_timing_42 rfl rfl ?_
    exact zj_iret hC dX5_timing_44
  refine zj_split (fun c2 => ?_) (fun c2 => ?_)
  · refine zj_look (tgt := 36) (off := 35) hC dX5_timing_1 (by decide) (by rw [c2]; decide) (by decide) ?_
    refine zj_bipush (pc' := 38) (v := (9 : Int32)) hC dX5_timing_36 rfl rfl ?_
    exact zj_iret hC dX5_timing_38
  refine zj_split (fun c3 => ?_) (fun c3 => ?_)
  · refine zj_look (tgt := 39) (off := 38) hC dX5_timing_1 (by decide) (by rw [c3]; decide) (by decide) ?_
    refine zj_bipush (pc' := 41) (v := (10 : Int32)) hC dX5_timing_39 rfl rfl ?_
    exact zj_iret hC dX5_timing_41
  refine zj_look (tgt := 45) (off := 44) hC dX5_timing_1 (by decide) (by show Op.lookupswitch.offset [(37, 41), (42, 35), (47, 38)] _ _ = _; rw [lv_osw c1 (by decide), lv_osw c2 (by decide), lv_osw c3 (by decide)]; rfl) (by decide) ?_
  refine zj_iconst (pc' := 46) (v := (-1 : Int32)) hC dX5_timing_45 rfl rfl ?_
  exact zj_iret hC dX5_timing_46
-- X5_number
theorem ddX5_number : yX5_number.cls ≠ "java/lang/invoke/MethodHandle" ∧ yX5_number.cls ≠ "java/lang/invoke/VarHandle" ∧ (parseMethodDescriptor yX5_number.desc).map (fun d => d.parameters.length) = some 0 := by decide +kernel
abbrev rmX5_number : Room := { frames := 1, cells := 0, slots := 0, locals := 23 }
def bX5_number_48  (v0 : Nat) (v1 : Int32) (σ : zS) : Option (Int32 × zS) :=
  zb (fX5_sign v0 σ) (fun (r2 : Int32) (σ1 : zS) => zb (fX5_isDigit r2 σ1) (fun (r4 : Int32) (σ3 : zS) => if r4 = 0 then (bnd (σ3.2 v0 1) (fun (q6 : Nat) => zb (fX4_add q6 (2 : Int32) v1 σ3) (fun (r8 : Int32) (σ7 : zS) => some ((1 : Int32), σ7)))) else (zb (fX5_wrong v0 (2 : Int32) σ3) (fun (r10 : Int32) (σ9 : zS) => some (r10, σ9)))))
def bX5_number_4 (k4 : Nat → Int32 → Int32 → zS → Option (Int32 × zS)) (v0 : Nat) (v1 : Int32) (v2 : Int32) (σ : zS) : Option (Int32 × zS) :=
  if (5 : Int32) ≤ v2 then (bX5_number_48 v0 v1 σ) else (zb (fX5_sign v0 σ) (fun (r13 : Int32) (σ12 : zS) => zb (fX5_isDigit r13 σ12) (fun (r15 : Int32) (σ14 : zS) => if r15 = 0 then (bX5_number_48 v0 v1 σ14) else (zb (fX5_sign v0 σ14) (fun (r18 : Int32) (σ17 : zS) => bnd (((((10 : Int32) * v1) + r18) - (48 : Int32))) (fun (x19 : Int32) => bnd (zI σ17 v0 3 ((σ17.1 v0 3) + (1 : Int32))) (fun (σ20 : zS) => k4 v0 x19 ((v2 + (1 : Int32))) σ20)))))))
def fX5_number_4  : Nat → Nat → Int32 → Int32 → zS → Option (Int32 × zS)
  | 0, _, _, _, _ => none
  | n + 1, v0, v1, v2, σ => bX5_number_4 (fX5_number_4  n) v0 v1 v2 σ
def fX5_number (v0 : Nat) (σ : zS) : Option (Int32 × zS) :=
  fX5_number_4 zFU v0 (0 : Int32) (0 : Int32) σ
set_option maxRecDepth 100000 in
set_option maxHeartbeats 4000000 in
theorem jX5_number_48 {p : Program} {l : Launch} {e : Env} {s : State} {m : MethodId} {args : Array Value} {below : List Frame} {meth : Method} {c : Code} {b0 : Nat} {cA : Nat → ClassId} {D : va_G} {L : List (Nat × Nat)} (hC : zC p c s m args meth cX5_number 3 (some Jvm.ClassFile.FieldType.boolean) (Cond.code yX5_number cX5_number 3 (some Jvm.ClassFile.FieldType.boolean)) yX5_number.cls cA D)  (v0 : Nat) (v1 : Int32) (σ : zS) (ls : Array Slot) (hk_v0 : L[v0]? = some (0, 5)) (hl : lv_has ls 3 [(0, .ref (b0 + v0)), (1, .int v1)]) : zJ p l e rmX5_number s m args below meth c b0 cA D L (fun z => MQ below (va_Qi (fun (r : Int32) (u : zS) => (r, u) = z ∧ nB r) (zB b0 cA D L) (zA b0 L)) args s 0 0 (zA b0 L)) (bX5_number_48  v0 v1 σ) σ 48 ls [] := by
  unfold bX5_number_48
  refine zj_aload_n (pc' := 49) hC dX5_number_48 rfl rfl (lv_at hl 0 rfl) ?_
  refine zj_calliV (pc' := 52) (rest := []) hC (kX5_sign l b0 cA D L v0 σ hk_v0) hk_v0 rfl tw_2_96 tw_2_93 tw_2_95 ts_1_4 tw_1_7 ddX5_sign rfl ⟨rfl, rfl⟩ ⟨by decide, by decide⟩ hl.1 (Nat.le_of_ble_eq_true rfl) rfl dX5_number_49 rfl (fun r2 σ1 => ?_)
  refine zj_callzS (pc' := 55) (rest := []) hC (kX5_isDigit l b0 cA D L r2 σ1 ) tw_2_147 tw_2_145 tw_2_146 tw_1_7 ddX5_isDigit rfl ⟨rfl, rfl⟩ ⟨by decide, by decide⟩ hl.1 (Nat.le_of_ble_eq_true rfl) rfl dX5_number_52 rfl (fun r4 σ3 hb_r4 => ?_)
  refine zj_if_eq (tgt := 64) (pc' := 58) hC dX5_number_55 (by decide) rfl (fun c5 => ?_) (fun c5 => ?_)
  · refine zj_aload_n (pc' := 65) hC dX5_number_64 rfl rfl (lv_at hl 0 rfl) ?_
    refine zj_getR (pc' := 68) hC hk_v0 fd_5_1 rfl tw_1_176 dX5_number_65 rfl (fun q6 hk_q6 => ?_)
    refine zj_iconst (pc' := 69) (v := (2 : Int32)) hC dX5_number_68 rfl rfl ?_
    refine zj_iload_n (pc' := 70) hC dX5_number_69 rfl rfl (lv_at hl 1 rfl) ?_
    refine zj_calliV (pc' := 73) (rest := []) hC (kX4_add l b0 cA D L q6 (2 : Int32) v1 σ3 hk_q6) hk_q6 rfl tw_2_104 tw_2_101 tw_2_102 tw_2_103 tw_1_6 ddX4_add rfl ⟨rfl, rfl⟩ ⟨by decide, by decide⟩ hl.1 (Nat.le_of_ble_eq_true rfl) rfl dX5_number_70 rfl (fun r8 σ7 => ?_)
    refine zj_pop (pc' := 74) hC dX5_number_73 rfl rfl ?_
    refine zj_iconst (pc' := 75) (v := (1 : Int32)) hC dX5_number_74 rfl rfl ?_
    exact zj_zret hC nB_1 dX5_number_75
  · refine zj_aload_n (pc' := 59) hC dX5_number_58 rfl rfl (lv_at hl 0 rfl) ?_
    refine zj_iconst (pc' := 60) (v := (2 : Int32)) hC dX5_number_59 rfl rfl ?_
    refine zj_callzV (pc' := 63) (rest := []) hC (kX5_wrong l b0 cA D L v0 (2 : Int32) σ3 hk_v0) hk_v0 rfl tw_2_100 tw_2_97 tw_2_99 ts_1_5 tw_1_7 ddX5_wrong rfl ⟨rfl, rfl⟩ ⟨by decide, by decide⟩ hl.1 (Nat.le_of_ble_eq_true rfl) rfl dX5_number_60 rfl (fun r10 σ9 hb_r10 => ?_)
    exact zj_zret hC hb_r10 dX5_number_63
set_option maxRecDepth 100000 in
set_option maxHeartbeats 4000000 in
theorem jX5_number_4 {p : Program} {l : Launch} {e : Env} {s : State} {m : MethodId} {args : Array Value} {below : List Frame} {meth : Method} {c : Code} {b0 : Nat} {cA : Nat → ClassId} {D : va_G} {L : List (Nat × Nat)} (hC : zC p c s m args meth cX5_number 3 (some Jvm.ClassFile.FieldType.boolean) (Cond.code yX5_number cX5_number 3 (some Jvm.ClassFile.FieldType.boolean)) yX5_number.cls cA D) (k4 : Nat → Int32 → Int32 → zS → Option (Int32 × zS)) (h4 : ∀ (v0 : Nat) (v1 : Int32) (v2 : Int32) (σ : zS) (ls : Array Slot), L[v0]? = some (0, 5) → lv_has ls 3 [(0, .ref (b0 + v0)), (1, .int v1), (2, .int v2)] → zJ p l e rmX5_number s m args below meth c b0 cA D L (fun z => MQ below (va_Qi (fun (r : Int32) (u : zS) => (r, u) = z ∧ nB r) (zB b0 cA D L) (zA b0 L)) args s 0 0 (zA b0 L)) (k4 v0 v1 v2 σ) σ 4 ls []) (v0 : Nat) (v1 : Int32) (v2 : Int32) (σ : zS) (ls : Array Slot) (hk_v0 : L[v0]? = some (0, 5)) (hl : lv_has ls 3 [(0, .ref (b0 + v0)), (1, .int v1), (2, .int v2)]) : zJ p l e rmX5_number s m args below meth c b0 cA D L (fun z => MQ below (va_Qi (fun (r : Int32) (u : zS) => (r, u) = z ∧ nB r) (zB b0 cA D L) (zA b0 L)) args s 0 0 (zA b0 L)) (bX5_number_4 k4 v0 v1 v2 σ) σ 4 ls [] := by
  unfold bX5_number_4
  refine zj_iload_n (pc' := 5) hC dX5_number_4 rfl rfl (lv_at hl 2 rfl) ?_
  refine zj_iconst (pc' := 6) (v := (5 : Int32)) hC dX5_number_5 rfl rfl ?_
  refine zj_icmp_ge (tgt := 48) (pc' := 9) hC dX5_number_6 (by decide) rfl (fun c11 => ?_) (fun c11 => ?_)
  · exact jX5_number_48 hC v0 v1 σ ls hk_v0 (lv_sub hl [0, 1] rfl)
  · refine zj_aload_n (pc' := 10) hC dX5_number_9 rfl rfl (lv_at hl 0 rfl) ?_
    refine zj_calliV (pc' := 13) (rest := []) hC (kX5_sign l b0 cA D L v0 σ hk_v0) hk_v0 rfl tw_2_96 tw_2_93 tw_2_95 ts_1_4 tw_1_7 ddX5_sign rfl ⟨rfl, rfl⟩ ⟨by decide, by decide⟩ hl.1 (Nat.le_of_ble_eq_true rfl) rfl dX5_number_10 rfl (fun r13 σ12 => ?_)
    refine zj_callzS (pc' := 16) (rest := []) hC (kX5_isDigit l b0 cA D L r13 σ12 ) tw_2_147 tw_2_145 tw_2_146 tw_1_7 ddX5_isDigit rfl ⟨rfl, rfl⟩ ⟨by decide, by decide⟩ hl.1 (Nat.le_of_ble_eq_true rfl) rfl dX5_number_13 rfl (fun r15 σ14 hb_r15 => ?_)
    refine zj_if_eq (tgt := 48) (pc' := 19) hC dX5_number_16 (by decide) rfl (fun c16 => ?_) (fun c16 => ?_)
    · exact jX5_number_48 hC v0 v1 σ14 ls hk_v0 (lv_sub hl [0, 1] rfl)
    · refine zj_bipush (pc' := 21) (v := (10 : Int32)) hC dX5_number_19 rfl rfl ?_
      refine zj_iload_n (pc' := 22) hC dX5_number_21 rfl rfl (lv_at hl 1 rfl) ?_
      refine zj_imul (pc' := 23) hC dX5_number_22 rfl ?_
      refine zj_aload_n (pc' := 24) hC dX5_number_23 rfl rfl (lv_at hl 0 rfl) ?_
      refine zj_calliV (pc' := 27) (rest := [.int ((10 : Int32) * v1)]) hC (kX5_sign l b0 cA D L v0 σ14 hk_v0) hk_v0 rfl tw_2_96 tw_2_93 tw_2_95 ts_1_4 tw_1_7 ddX5_sign rfl ⟨rfl, rfl⟩ ⟨by decide, by decide⟩ hl.1 (Nat.le_of_ble_eq_true rfl) rfl dX5_number_24 rfl (fun r18 σ17 => ?_)
      refine zj_iadd (pc' := 28) hC dX5_number_27 rfl ?_
      refine zj_bipush (pc' := 30) (v := (48 : Int32)) hC dX5_number_28 rfl rfl ?_
      refine zj_isub (pc' := 31) hC dX5_number_30 rfl ?_
      refine zj_nmi (fun x19 => ?_)
      refine zj_istore_n (pc' := 32) (lv' := [(1, .int x19), (0, .ref (b0 + v0)), (2, .int v2)]) hC dX5_number_31 rfl rfl hl (by decide) rfl (fun ls hl => ?_)
      refine zj_aload_n (pc' := 33) hC dX5_number_32 rfl rfl (lv_at hl 1 rfl) ?_
      refine zj_dup (pc' := 34) hC dX5_number_33 rfl rfl ?_
      refine zj_getI (pc' := 37) hC hk_v0 fd_5_3 rfl tw_1_178 dX5_number_34 rfl ?_
      refine zj_iconst (pc' := 38) (v := (1 : Int32)) hC dX5_number_37 rfl rfl ?_
      refine zj_iadd (pc' := 39) hC dX5_number_38 rfl ?_
      refine zj_putI (pc' := 42) hC hk_v0 fd_5_3 rfl tw_1_178 rfl rfl rfl dX5_number_39 rfl (fun σ20 => ?_)
      refine zj_iinc (pc' := 45) (k0 := 2) (v := (v2 + (1 : Int32))) (lv' := [(2, .int (v2 + (1 : Int32))), (1, .int x19), (0, .ref (b0 + v0))]) hC dX5_number_42 rfl hl rfl rfl (by decide) rfl (fun ls hl => ?_)
      refine zj_goto (tgt := 4) hC dX5_number_45 (by decide) ?_
      exact h4 v0 x19 ((v2 + (1 : Int32))) σ20 ls hk_v0 (lv_sub hl [2, 1, 0] rfl)
set_option maxRecDepth 100000 in
set_option maxHeartbeats 4000000 in
theorem lX5_number_4 {p : Program} {l : Launch} {e : Env} {s : State} {m : MethodId} {args : Array Value} {below : List Frame} {meth : Method} {c : Code} {b0 : Nat} {cA : Nat → ClassId} {D : va_G} {L : List (Nat × Nat)} (hC : zC p c s m args meth cX5_number 3 (some Jvm.ClassFile.FieldType.boolean) (Cond.code yX5_number cX5_number 3 (some Jvm.ClassFile.FieldType.boolean)) yX5_number.cls cA D)  (n : Nat) : ∀ (v0 : Nat) (v1 : Int32) (v2 : Int32) (σ : zS) (ls : Array Slot), L[v0]? = some (0, 5) → lv_has ls 3 [(0, .ref (b0 + v0)), (1, .int v1), (2, .int v2)] → zJ p l e rmX5_number s m args below meth c b0 cA D L (fun z => MQ below (va_Qi (fun (r : Int32) (u : zS) => (r, u) = z ∧ nB r) (zB b0 cA D L) (zA b0 L)) args s 0 0 (zA b0 L)) (fX5_number_4  n v0 v1 v2 σ) σ 4 ls [] := by
  induction n with
  | zero => intros; exact zj_none
  | succ n ih => exact jX5_number_4 hC (fX5_number_4  n) ih
set_option maxRecDepth 100000 in
set_option maxHeartbeats 4000000 in
theorem kX5_number (l : Launch) (b0 : Nat) (cA : Nat → ClassId) (D : va_G) (L : List (Nat × Nat)) (v0 : Nat) (σ : zS) (hk0 : L[v0]? = some (0, 5)) : zMz l b0 cA D L yX5_number (Cond.code yX5_number cX5_number 3 (some Jvm.ClassFile.FieldType.boolean)) rmX5_number [.ref (b0 + v0)] σ (fX5_number v0 σ) := by
  refine zMz_of (by decide) (Nat.le_of_ble_eq_true rfl) ?_
  intro p e s m below meth c ls hC hl
  have hl : lv_has ls 3 [(0, .ref (b0 + v0))] := hl
  generalize ([.ref (b0 + v0)] : List Value).toArray = args at hC ⊢
  unfold fX5_number
  refine zj_iconst (pc' := 1) (v := (0 : Int32)) hC dX5_number_0 rfl rfl ?_
  refine zj_istore_n (pc' := 2) (lv' := [(1, .int (0 : Int32)), (0, .ref (b0 + v0))]) hC dX5_number_1 rfl rfl hl (by decide) rfl (fun ls hl => ?_)
  refine zj_iconst (pc' := 3) (v := (0 : Int32)) hC dX5_number_2 rfl rfl ?_
  refine zj_istore_n (pc' := 4) (lv' := [(2, .int (0 : Int32)), (1, .int (0 : Int32)), (0, .ref (b0 + v0))]) hC dX5_number_3 rfl rfl hl (by decide) rfl (fun ls hl => ?_)
  exact lX5_number_4 hC zFU v0 (0 : Int32) (0 : Int32) σ ls hk0 (lv_sub hl [2, 1, 0] rfl)
