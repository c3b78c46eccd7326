-- X7_readsFactor
theorem ddX7_readsFactor : yX7_readsFactor.cls ≠ "java/lang/invoke/MethodHandle" ∧ yX7_readsFactor.cls ≠ "java/lang/invoke/VarHandle" ∧ (parseMethodDescriptor yX7_readsFactor.desc).map (fun d => d.parameters.length) = some 0 := by decide +kernel
abbrev rmX7_readsFactor : Room := { frames := 3, cells := 0, slots := 0, locals := 61 }
def bX7_readsFactor_20  (v0 : Nat) (σ : zS) : Option (Int32 × zS) :=
  zb (fX7_isDigit v0 σ) (fun (r2 : Int32) (σ1 : zS) => if r2 = 0 then (zb (fX7_here v0 σ1) (fun (r5 : Int32) (σ4 : zS) => zb (fX7_factOf r5 σ4) (fun (r7 : Int32) (σ6 : zS) => if r7 = (-1 : Int32) then (zb (fX7_wrong v0 (1 : Int32) ((σ6.1 v0 12)) σ6) (fun (r13 : Int32) (σ12 : zS) => some (r13, σ12))) else (zb (fX7_says v0 (1 : Int32) r7 σ6) (fun (_ : Unit) (σ9 : zS) => bnd (zI σ9 v0 12 ((σ9.1 v0 12) + (1 : Int32))) (fun (σ11 : zS) => some ((1 : Int32), σ11))))))) else (zb (fX7_readsNumber v0 σ1) (fun (r15 : Int32) (σ14 : zS) => if r15 = 0 then (some ((0 : Int32), σ14)) else (zb (fX7_says v0 (0 : Int32) ((σ14.1 v0 19)) σ14) (fun (_ : Unit) (σ17 : zS) => some ((1 : Int32), σ17))))))
def bX7_readsFactor_0 (k0 : Nat → zS → Option (Int32 × zS)) (v0 : Nat) (σ : zS) : Option (Int32 × zS) :=
  zb (fX7_here v0 σ) (fun (r20 : Int32) (σ19 : zS) => if r20 = (91 : Int32) then (zb (fX7_opens v0 (14 : Int32) σ19) (fun (r23 : Int32) (σ22 : zS) => if r23 = 0 then (some ((0 : Int32), σ22)) else (k0 v0 σ22))) else (bX7_readsFactor_20 v0 σ19))
def fX7_readsFactor_0  : Nat → Nat → zS → Option (Int32 × zS)
  | 0, _, _ => none
  | n + 1, v0, σ => bX7_readsFactor_0 (fX7_readsFactor_0  n) v0 σ
def fX7_readsFactor (v0 : Nat) (σ : zS) : Option (Int32 × zS) :=
  fX7_readsFactor_0 zFU v0 σ
set_option maxRecDepth 100000 in
set_option maxHeartbeats 4000000 in
theorem jX7_readsFactor_20 {p : Program} {l : Launch} {e : Env} {s : State} {m : MethodId} {args : Array Value} {below : List Frame} {meth : Method} {c : Code} {b0 : Nat} {cA : Nat → ClassId} {D : va_G} {L : List (Nat × Nat)} (hC : zC p c s m args meth cX7_readsFactor 2 (some Jvm.ClassFile.FieldType.boolean) (Cond.code yX7_readsFactor cX7_readsFactor 2 (some Jvm.ClassFile.FieldType.boolean)) yX7_readsFactor.cls cA D)  (v0 : Nat) (σ : zS) (ls : Array Slot) (hk_v0 : L[v0]? = some (0, 7)) (hl : lv_has ls 2 [(0, .ref (b0 + v0))]) : zJ p l e rmX7_readsFactor s m args below meth c b0 cA D L (fun z => MQ below (va_Qi (fun (r : Int32) (u : zS) => (r, u) = z ∧ nB r) (zB b0 cA D L) (zA b0 L)) args s 0 0 (zA b0 L)) (bX7_readsFactor_20  v0 σ) σ 20 ls [] := by
  unfold bX7_readsFactor_20
  refine zj_aload_n (pc' := 21) hC dX7_readsFactor_20 rfl rfl (lv_at hl 0 rfl) ?_
  refine zj_callzV (pc' := 24) (rest := []) hC (kX7_isDigit l b0 cA D L v0 σ hk_v0) hk_v0 rfl tw_5_64 tw_5_61 tw_5_63 ts_3_14 tw_1_8 ddX7_isDigit rfl ⟨rfl, rfl⟩ ⟨by decide, by decide⟩ hl.1 (Nat.le_of_ble_eq_true rfl) rfl dX7_readsFactor_21 rfl (fun r2 σ1 hb_r2 => ?_)
  refine zj_if_eq (tgt := 47) (pc' := 27) hC dX7_readsFactor_24 (by decide) rfl (fun c3 => ?_) (fun c3 => ?_)
  · refine zj_aload_n (pc' := 48) hC dX7_readsFactor_47 rfl rfl (lv_at hl 0 rfl) ?_
    refine zj_calliV (pc' := 51) (rest := []) hC (kX7_here l b0 cA D L v0 σ1 hk_v0) hk_v0 rfl tw_5_35 tw_5_32 tw_5_34 ts_3_7 tw_1_8 ddX7_here rfl ⟨rfl, rfl⟩ ⟨by decide, by decide⟩ hl.1 (Nat.le_of_ble_eq_true rfl) rfl dX7_readsFactor_48 rfl (fun r5 σ4 => ?_)
    refine zj_calliS (pc' := 54) (rest := []) hC (kX7_factOf l b0 cA D L r5 σ4 ) tw_5_75 tw_5_73 tw_5_74 tw_1_8 ddX7_factOf rfl ⟨rfl, rfl⟩ ⟨by decide, by decide⟩ hl.1 (Nat.le_of_ble_eq_true rfl) rfl dX7_readsFactor_51 rfl (fun r7 σ6 => ?_)
    refine zj_istore_n (pc' := 55) (lv' := [(1, .int r7), (0, .ref (b0 + v0))]) hC dX7_readsFactor_54 rfl rfl hl (by decide) rfl (fun ls hl => ?_)
    refine zj_iload_n (pc' := 56) hC dX7_readsFactor_55 rfl rfl (lv_at hl 0 rfl) ?_
    refine zj_iconst (pc' := 57) (v := (-1 : Int32)) hC dX7_readsFactor_56 rfl rfl ?_
    refine zj_icmp_ne (tgt := 70) (pc' := 60) hC dX7_readsFactor_57 (by decide) rfl (fun c8 => ?_) (fun c8 => ?_)
    · refine zj_aload_n (pc' := 71) hC dX7_readsFactor_70 rfl rfl (lv_at hl 1 rfl) ?_
      refine zj_iconst (pc' := 72) (v := (1 : Int32)) hC dX7_readsFactor_71 rfl rfl ?_
      refine zj_iload_n (pc' := 73) hC dX7_readsFactor_72 rfl rfl (lv_at hl 0 rfl) ?_
      refine zj_callvV (pc' := 76) (rest := []) hC (kX7_says l b0 cA D L v0 (1 : Int32) r7 σ6 hk_v0) hk_v0 rfl tw_5_72 tw_5_69 tw_5_71 ts_4_0 tw_1_8 ddX7_says rfl ⟨rfl, rfl⟩ ⟨by decide, by decide⟩ hl.1 (Nat.le_of_ble_eq_true rfl) rfl dX7_readsFactor_73 rfl (fun σ9 => ?_)
      refine zj_aload_n (pc' := 77) hC dX7_readsFactor_76 rfl rfl (lv_at hl 1 rfl) ?_
      refine zj_aload_n (pc' := 78) hC dX7_readsFactor_77 rfl rfl (lv_at hl 1 rfl) ?_
      refine zj_getI (pc' := 81) hC hk_v0 fd_7_12 rfl tw_4_60 dX7_readsFactor_78 rfl ?_
      refine zj_iconst (pc' := 82) (v := (1 : Int32)) hC dX7_readsFactor_81 rfl rfl ?_
      refine zj_iadd (pc' := 83) hC dX7_readsFactor_82 rfl ?_
      refine zj_putI (pc' := 86) hC hk_v0 fd_7_12 rfl tw_4_60 rfl rfl rfl dX7_readsFactor_83 rfl (fun σ11 => ?_)
      refine zj_iconst (pc' := 87) (v := (1 : Int32)) hC dX7_readsFactor_86 rfl rfl ?_
      exact zj_zret hC nB_1 dX7_readsFactor_87
    · refine zj_aload_n (pc' := 61) hC dX7_readsFactor_60 rfl rfl (lv_at hl 1 rfl) ?_
      refine zj_iconst (pc' := 62) (v := (1 : Int32)) hC dX7_readsFactor_61 rfl rfl ?_
      refine zj_aload_n (pc' := 63) hC dX7_readsFactor_62 rfl rfl (lv_at hl 1 rfl) ?_
      refine zj_getI (pc' := 66) hC hk_v0 fd_7_12 rfl tw_4_60 dX7_readsFactor_63 rfl ?_
      refine zj_callzV (pc' := 69) (rest := []) hC (kX7_wrong l b0 cA D L v0 (1 : Int32) ((σ6.1 v0 12)) σ6 hk_v0) hk_v0 rfl tw_5_39 tw_5_36 tw_5_38 ts_3_8 tw_1_8 ddX7_wrong rfl ⟨rfl, rfl⟩ ⟨by decide, by decide⟩ hl.1 (Nat.le_of_ble_eq_true rfl) rfl dX7_readsFactor_66 rfl (fun r13 σ12 hb_r13 => ?_)
      exact zj_zret hC hb_r13 dX7_readsFactor_69
  · refine zj_aload_n (pc' := 28) hC dX7_readsFactor_27 rfl rfl (lv_at hl 0 rfl) ?_
    refine zj_callzV (pc' := 31) (rest := []) hC (kX7_readsNumber l b0 cA D L v0 σ1 hk_v0) hk_v0 rfl tw_5_68 tw_5_65 tw_5_67 ts_3_15 tw_1_8 ddX7_readsNumber rfl ⟨rfl, rfl⟩ ⟨by decide, by decide⟩ hl.1 (Nat.le_of_ble_eq_true rfl) rfl dX7_readsFactor_28 rfl (fun r15 σ14 hb_r15 => ?_)
    refine zj_if_ne (tgt := 36) (pc' := 34) hC dX7_readsFactor_31 (by decide) rfl (fun c16 => ?_) (fun c16 => ?_)
    · refine zj_aload_n (pc' := 37) hC dX7_readsFactor_36 rfl rfl (lv_at hl 0 rfl) ?_
      refine zj_iconst (pc' := 38) (v := (0 : Int32)) hC dX7_readsFactor_37 rfl rfl ?_
      refine zj_aload_n (pc' := 39) hC dX7_readsFactor_38 rfl rfl (lv_at hl 0 rfl) ?_
      refine zj_getI (pc' := 42) hC hk_v0 fd_7_19 rfl tw_4_67 dX7_readsFactor_39 rfl ?_
      refine zj_callvV (pc' := 45) (rest := []) hC (kX7_says l b0 cA D L v0 (0 : Int32) ((σ14.1 v0 19)) σ14 hk_v0) hk_v0 rfl tw_5_72 tw_5_69 tw_5_71 ts_4_0 tw_1_8 ddX7_says rfl ⟨rfl, rfl⟩ ⟨by decide, by decide⟩ hl.1 (Nat.le_of_ble_eq_true rfl) rfl dX7_readsFactor_42 rfl (fun σ17 => ?_)
      refine zj_iconst (pc' := 46) (v := (1 : Int32)) hC dX7_readsFactor_45 rfl rfl ?_
      exact zj_zret hC nB_1 dX7_readsFactor_46
    · refine zj_iconst (pc' := 35) (v := (0 : Int32)) hC dX7_readsFactor_34 rfl rfl ?_
      exact zj_zret hC nB_0 dX7_readsFactor_35
set_option maxRecDepth 100000 in
set_option maxHeartbeats 4000000 in
theorem jX7_readsFactor_0 {p : Program} {l : Launch} {e : Env} {s : State} {m : MethodId} {args : Array Value} {below : List Frame} {meth : Method} {c : Code} {b0 : Nat} {cA : Nat → ClassId} {D : va_G} {L : List (Nat × Nat)} (hC : zC p c s m args meth cX7_readsFactor 2 (some Jvm.ClassFile.FieldType.boolean) (Cond.code yX7_readsFactor cX7_readsFactor 2 (some Jvm.ClassFile.FieldType.boolean)) yX7_readsFactor.cls cA D) (k0 : Nat → zS → Option (Int32 × zS)) (h0 : ∀ (v0 : Nat) (σ : zS) (ls : Array Slot), L[v0]? = some (0, 7) → lv_has ls 2 [(0, .ref (b0 + v0))] → zJ p l e rmX7_readsFactor s m args below meth c b0 cA D L (fun z => MQ below (va_Qi (fun (r : Int32) (u : zS) => (r, u) = z ∧ nB r) (zB b0 cA D L) (zA b0 L)) args s 0 0 (zA b0 L)) (k0 v0 σ) σ 0 ls []) (v0 : Nat) (σ : zS) (ls : Array Slot) (hk_v0 : L[v0]? = some (0, 7)) (hl : lv_has ls 2 [(0, .ref (b0 + v0))]) : zJ p l e rmX7_readsFactor s m args below meth c b0 cA D L (fun z => MQ below (va_Qi (fun (r : Int32) (u : zS) => (r, u) = z ∧ nB r) (zB b0 cA D L) (zA b0 L)) args s 0 0 (zA b0 L)) (bX7_readsFactor_0 k0 v0 σ) σ 0 ls [] := by
  unfold bX7_readsFactor_0
  refine zj_aload_n (pc' := 1) hC dX7_readsFactor_0 rfl rfl (lv_at hl 0 rfl) ?_
  refine zj_calliV (pc' := 4) (rest := []) hC (kX7_here l b0 cA D L v0 σ hk_v0) hk_v0 rfl tw_5_35 tw_5_32 tw_5_34 ts_3_7 tw_1_8 ddX7_here rfl ⟨rfl, rfl⟩ ⟨by decide, by decide⟩ hl.1 (Nat.le_of_ble_eq_true rfl) rfl dX7_readsFactor_1 rfl (fun r20 σ19 => ?_)
  refine zj_bipush (pc' := 6) (v := (91 : Int32)) hC dX7_readsFactor_4 rfl rfl ?_
  refine zj_icmp_ne (tgt := 20) (pc' := 9) hC dX7_readsFactor_6 (by decide) rfl (fun c21 => ?_) (fun c21 => ?_)
  · exact jX7_readsFactor_20 hC v0 σ19 ls hk_v0 (lv_sub hl [0] rfl)
  · refine zj_aload_n (pc' := 10) hC dX7_readsFactor_9 rfl rfl (lv_at hl 0 rfl) ?_
    refine zj_bipush (pc' := 12) (v := (14 : Int32)) hC dX7_readsFactor_10 rfl rfl ?_
    refine zj_callzV (pc' := 15) (rest := []) hC (kX7_opens l b0 cA D L v0 (14 : Int32) σ19 hk_v0) hk_v0 rfl tw_5_47 tw_5_44 tw_5_46 ts_3_10 tw_1_8 ddX7_opens rfl ⟨rfl, rfl⟩ ⟨by decide, by decide⟩ hl.1 (Nat.le_of_ble_eq_true rfl) rfl dX7_readsFactor_12 rfl (fun r23 σ22 hb_r23 => ?_)
    refine zj_if_ne (tgt := 0) (pc' := 18) hC dX7_readsFactor_15 (by decide) rfl (fun c24 => ?_) (fun c24 => ?_)
    · exact h0 v0 σ22 ls hk_v0 (lv_sub hl [0] rfl)
    · refine zj_iconst (pc' := 19) (v := (0 : Int32)) hC dX7_readsFactor_18 rfl rfl ?_
      exact zj_zret hC nB_0 dX7_readsFactor_19
set_option maxRecDepth 100000 in
set_option maxHeartbeats 4000000 in
theorem lX7_readsFactor_0 {p : Program} {l : Launch} {e : Env} {s : State} {m : MethodId} {args : Array Value} {below : List Frame} {meth : Method} {c : Code} {b0 : Nat} {cA : Nat → ClassId} {D : va_G} {L : List (Nat × Nat)} (hC : zC p c s m args meth cX7_readsFactor 2 (some Jvm.ClassFile.FieldType.boolean) (Cond.code yX7_readsFactor cX7_readsFactor 2 (some Jvm.ClassFile.FieldType.boolean)) yX7_readsFactor.cls cA D)  (n : Nat) : ∀ (v0 : Nat) (σ : zS) (ls : Array Slot), L[v0]? = some (0, 7) → lv_has ls 2 [(0, .ref (b0 + v0))] → zJ p l e rmX7_readsFactor s m args below meth c b0 cA D L (fun z => MQ below (va_Qi (fun (r : Int32) (u : zS) => (r, u) = z ∧ nB r) (zB b0 cA D L) (zA b0 L)) args s 0 0 (zA b0 L)) (fX7_readsFactor_0  n v0 σ) σ 0 ls [] := by
  induction n with
  | zero => intros; exact zj_none
  | succ n ih => exact jX7_readsFactor_0 hC (fX7_readsFactor_0  n) ih
set_option maxRecDepth 100000 in
set_option maxHeartbeats 4000000 in
theorem kX7_readsFactor (l : Launch) (b0 : Nat) (cA : Nat → ClassId) (D : va_G) (L : List (Nat × Nat)) (v0 : Nat) (σ : zS) (hk0 : L[v0]? = some (0, 7)) : zMz l b0 cA D L yX7_readsFactor (Cond.code yX7_readsFactor cX7_readsFactor 2 (some Jvm.ClassFile.FieldType.boolean)) rmX7_readsFactor [.ref (b0 + v0)] σ (fX7_readsFactor v0 σ) := by
  refine zMz_of (by decide) (Nat.le_of_ble_eq_true rfl) ?_
  intro p e s m below meth c ls hC hl
  have hl : lv_has ls 2 [(0, .ref (b0 + v0))] := hl
  generalize ([.ref (b0 + v0)] : List Value).toArray = args at hC ⊢
  unfold fX7_readsFactor
  exact lX7_readsFactor_0 hC zFU v0 σ ls hk0 (lv_sub hl [0] rfl)
-- X7_hasOpenSum
theorem ddX7_hasOpenSum : yX7_hasOpenSum.cls ≠ "java/lang/invoke/MethodHandle" ∧ yX7_hasOpenSum.cls ≠ "java/lang/invoke/VarHandle" ∧ (parseMethodDescriptor yX7_hasOpenSum.desc).map (fun d => d.parameters.length) = some 1 := by decide +kernel
abbrev rmX7_hasOpenSum : Room := { frames := 0, cells := 0, slots := 0, locals := 0 }
def bX7_hasOpenSum_2 (k2 : Nat → Int32 → zS → Option (Int32 × zS)) (v0 : Nat) (v2 : Int32) (σ : zS) : Option (Int32 × zS) :=
  if (σ.1 v0 17) ≤ v2 then (some ((0 : Int32), σ)) else (bnd (σ.2 v0 21) (fun (q2 : Nat) => zX v2 140 (if ((σ.1 q2 (v2).toNatClampNeg) / (1048576 : Int32)) = (14 : Int32) then (some ((1 : Int32), σ)) else (k2 v0 ((v2 + (1 : Int32))) σ))))
def fX7_hasOpenSum_2  : Nat → Nat → Int32 → zS → Option (Int32 × zS)
  | 0, _, _, _ => none
  | n + 1, v0, v2, σ => bX7_hasOpenSum_2 (fX7_hasOpenSum_2  n) v0 v2 σ
def fX7_hasOpenSum (v0 : Nat) (v1 : Int32) (σ : zS) : Option (Int32 × zS) :=
  fX7_hasOpenSum_2 zFU v0 v1 σ
set_option maxRecDepth 100000 in
set_option maxHeartbeats 4000000 in
theorem jX7_hasOpenSum_2 {p : Program} {l : Launch} {e : Env} {s : State} {m : MethodId} {args : Array Value} {below : List Frame} {meth : Method} {c : Code} {b0 : Nat} {cA : Nat → ClassId} {D : va_G} {L : List (Nat × Nat)} (hC : zC p c s m args meth cX7_hasOpenSum 3 (some Jvm.ClassFile.FieldType.boolean) (Cond.code yX7_hasOpenSum cX7_hasOpenSum 3 (some Jvm.ClassFile.FieldType.boolean)) yX7_hasOpenSum.cls cA D) (k2 : Nat → Int32 → zS → Option (Int32 × zS)) (h2 : ∀ (v0 : Nat) (v2 : Int32) (σ : zS) (ls : Array Slot), L[v0]? = some (0, 7) → lv_has ls 3 [(0, .ref (b0 + v0)), (2, .int v2)] → zJ p l e rmX7_hasOpenSum s m args below meth c b0 cA D L (fun z => MQ below (va_Qi (fun (r : Int32) (u : zS) => (r, u) = z ∧ nB r) (zB b0 cA D L) (zA b0 L)) args s 0 0 (zA b0 L)) (k2 v0 v2 σ) σ 2 ls []) (v0 : Nat) (v2 : Int32) (σ : zS) (ls : Array Slot) (hk_v0 : L[v0]? = some (0, 7)) (hl : lv_has ls 3 [(0, .ref (b0 + v0)), (2, .int v2)]) : zJ p l e rmX7_hasOpenSum s m args below meth c b0 cA D L (fun z => MQ below (va_Qi (fun (r : Int32) (u : zS) => (r, u) = z ∧ nB r) (zB b0 cA D L) (zA b0 L)) args s 0 0 (zA b0 L)) (bX7_hasOpenSum_2 k2 v0 v2 σ) σ 2 ls [] := by
  unfold bX7_hasOpenSum_2
  refine zj_iload_n (pc' := 3) hC dX7_hasOpenSum_2 rfl rfl (lv_at hl 1 rfl) ?_
  refine zj_aload_n (pc' := 4) hC dX7_hasOpenSum_3 rfl rfl (lv_at hl 0 rfl) ?_
  refine zj_getI (pc' := 7) hC hk_v0 fd_7_17 rfl tw_4_65 dX7_hasOpenSum_4 rfl ?_
  refine zj_icmp_ge (tgt := 32) (pc' := 10) hC dX7_hasOpenSum_7 (by decide) rfl (fun c1 => ?_) (fun c1 => ?_)
  · refine zj_iconst (pc' := 33) (v := (0 : Int32)) hC dX7_hasOpenSum_32 rfl rfl ?_
    exact zj_zret hC nB_0 dX7_hasOpenSum_33
  · refine zj_aload_n (pc' := 11) hC dX7_hasOpenSum_10 rfl rfl (lv_at hl 0 rfl) ?_
    refine zj_getR (pc' := 14) hC hk_v0 fd_7_21 rfl tw_4_69 dX7_hasOpenSum_11 rfl (fun q2 hk_q2 => ?_)
    refine zj_iload_n (pc' := 15) hC dX7_hasOpenSum_14 rfl rfl (lv_at hl 1 rfl) ?_
    refine zj_iald (pc' := 16) hC hk_q2 dX7_hasOpenSum_15 rfl (fun g3 => ?_)
    refine zj_ldc (pc' := 18) (v := (1048576 : Int32)) hC tw_5_48 dX7_hasOpenSum_16 rfl ?_
    refine zj_idivK (pc' := 19) hC dX7_hasOpenSum_18 rfl (by decide) ?_
    refine zj_bipush (pc' := 21) (v := (14 : Int32)) hC dX7_hasOpenSum_19 rfl rfl ?_
    refine zj_icmp_ne (tgt := 26) (pc' := 24) hC dX7_hasOpenSum_21 (by decide) rfl (fun c4 => ?_) (fun c4 => ?_)
    · refine zj_iinc (pc' := 29) (k0 := 1) (v := (v2 + (1 : Int32))) (lv' := [(2, .int (v2 + (1 : Int32))), (0, .ref (b0 + v0))]) hC dX7_hasOpenSum_26 rfl hl rfl rfl (by decide) rfl (fun ls hl => ?_)
      refine zj_goto (tgt := 2) hC dX7_hasOpenSum_29 (by decide) ?_
      exact h2 v0 ((v2 + (1 : Int32))) σ ls hk_v0 (lv_sub hl [1, 0] rfl)
    · refine zj_iconst (pc' := 25) (v := (1 : Int32)) hC dX7_hasOpenSum_24 rfl rfl ?_
      exact zj_zret hC nB_1 dX7_hasOpenSum_25
set_option maxRecDepth 100000 in
set_option maxHeartbeats 4000000 in
theorem lX7_hasOpenSum_2 {p : Program} {l : Launch} {e : Env} {s : State} {m : MethodId} {args : Array Value} {below : List Frame} {meth : Method} {c : Code} {b0 : Nat} {cA : Nat → ClassId} {D : va_G} {L : List (Nat × Nat)} (hC : zC p c s m args meth cX7_hasOpenSum 3 (some Jvm.ClassFile.FieldType.boolean) (Cond.code yX7_hasOpenSum cX7_hasOpenSum 3 (some Jvm.ClassFile.FieldType.boolean)) yX7_hasOpenSum.cls cA D)  (n : Nat) : ∀ (v0 : Nat) (v2 : Int32) (σ : zS) (ls : Array Slot), L[v0]? = some (0, 7) → lv_has ls 3 [(0, .ref (b0 + v0)), (2, .int v2)] → zJ p l e rmX7_hasOpenSum s m args below meth c b0 cA D L (fun z => MQ below (va_Qi (fun (r : Int32) (u : zS) => (r, u) = z ∧ nB r) (zB b0 cA D L) (zA b0 L)) args s 0 0 (zA b0 L)) (fX7_hasOpenSum_2  n v0 v2 σ) σ 2 ls [] := by
  induction n with
  | zero => intros; exact zj_none
  | succ n ih => exact jX7_hasOpenSum_2 hC (fX7_hasOpenSum_2  n) ih
set_option maxRecDepth 100000 in
set_option maxHeartbeats 4000000 in
theorem kX7_hasOpenSum (l : Launch) (b0 : Nat) (cA : Nat → ClassId) (D : va_G) (L : List (Nat × Nat)) (v0 : Nat) (v1 : Int32) (σ : zS) (hk0 : L[v0]? = some (0, 7)) : zMz l b0 cA D L yX7_hasOpenSum (Cond.code yX7_hasOpenSum cX7_hasOpenSum 3 (some Jvm.ClassFile.FieldType.boolean)) rmX7_hasOpenSum [.ref (b0 + v0), .int v1] σ (fX7_hasOpenSum v0 v1 σ) := by
  refine zMz_of (by decide) (Nat.le_of_ble_eq_true rfl) ?_
  intro p e s m below meth c ls hC hl
  have hl : lv_has ls 3 [(0, .ref (b0 + v0)), (1, .int v1)] := hl
  generalize ([.ref (b0 + v0), .int v1] : List Value).toArray = args at hC ⊢
  unfold fX7_hasOpenSum
  refine zj_iload_n (pc' := 1) hC dX7_hasOpenSum_0 rfl rfl (lv_at hl 1 rfl) ?_
  refine zj_istore_n (pc' := 2) (lv' := [(2, .int v1), (0, .ref (b0 + v0)), (1, .int v1)]) hC dX7_hasOpenSum_1 rfl rfl hl (by decide) rfl (fun ls hl => ?_)
  exact lX7_hasOpenSum_2 hC zFU v0 v1 σ ls hk0 (lv_sub hl [1, 0] rfl)
-- X7_readsSum
theorem ddX7_readsSum : yX7_readsSum.cls ≠ "java/lang/invoke/MethodHandle" ∧ yX7_readsSum.cls ≠ "java/lang/invoke/VarHandle" ∧ (parseMethodDescriptor yX7_readsSum.desc).map (fun d => d.parameters.length) = some 0 := by decide +kernel
abbrev rmX7_readsSum : Room := { frames := 4, cells := 0, slots := 0, locals := 82 }
def bX7_readsSum_163 (k14 : Nat → Int32 → zS → Option (Int32 × zS)) (v0 : Nat) (v1 : Int32) (σ : zS) : Option (Int32 × zS) :=
  k14 v0 v1 σ
def bX7_readsSum_138  (v0 : Nat) (v1 : Int32) (σ : zS) : Option (Int32 × zS) :=
  zb (fX7_hasOpenSum v0 v1 σ) (fun (r2 : Int32) (σ1 : zS) => if r2 = 0 then (zb (fX7_closesSums v0 (1 : Int32) σ1) (fun (_ : Unit) (σ4 : zS) => some ((1 : Int32), σ4))) else (zb (fX7_wrong v0 (1 : Int32) ((σ1.1 v0 12)) σ1) (fun (r7 : Int32) (σ6 : zS) => some (r7, σ6))))
def bX7_readsSum_38 (k163 : Nat → Int32 → zS → Option (Int32 × zS)) (v0 : Nat) (v1 : Int32) (v2 : Int32) (s0 : Nat) (s1 : Int32) (σ : zS) : Option (Int32 × zS) :=
  zb (fX7_closesSums s0 s1 σ) (fun (_ : Unit) (σ8 : zS) => bnd (σ8.2 v0 21) (fun (q10 : Nat) => zX (σ8.1 v0 17) 140 (bnd (zI σ8 q10 ((σ8.1 v0 17)).toNatClampNeg ((1048576 : Int32) * v2)) (fun (σ12 : zS) => bnd (zI σ12 v0 17 ((σ12.1 v0 17) + (1 : Int32))) (fun (σ13 : zS) => bnd (zI σ13 v0 12 ((σ13.1 v0 12) + (1 : Int32))) (fun (σ14 : zS) => zb (fX7_readsFactor v0 σ14) (fun (r16 : Int32) (σ15 : zS) => if r16 = 0 then (some ((0 : Int32), σ15)) else (k163 v0 v1 σ15))))))))
def bX7_readsSum_14 (k14 : Nat → Int32 → zS → Option (Int32 × zS)) (v0 : Nat) (v1 : Int32) (σ : zS) : Option (Int32 × zS) :=
  zb (fX7_here v0 σ) (fun (r19 : Int32) (σ18 : zS) => zb (fX7_sumSign r19 σ18) (fun (r21 : Int32) (σ20 : zS) => if r21 = (-1 : Int32) then (zb (fX7_here v0 σ20) (fun (r24 : Int32) (σ23 : zS) => if r24 = (93 : Int32) then (zb (fX7_hasOpenSum v0 v1 σ23) (fun (r27 : Int32) (σ26 : zS) => if r27 = 0 then (bX7_readsSum_138 v0 v1 σ26) else (zb (fX7_closesSums v0 (1 : Int32) σ26) (fun (_ : Unit) (σ29 : zS) => bnd (zI σ29 v0 17 ((σ29.1 v0 17) - (1 : Int32))) (fun (σ31 : zS) => bnd (zI σ31 v0 15 ((σ31.1 v0 15) - (1 : Int32))) (fun (σ32 : zS) => bnd (zI σ32 v0 12 ((σ32.1 v0 12) + (1 : Int32))) (fun (σ33 : zS) => bX7_readsSum_163 k14 v0 v1 σ33))))))) else (bX7_readsSum_138 v0 v1 σ23))) else (if (4 : Int32) ≤ r21 then (bX7_readsSum_38 (bX7_readsSum_163 k14) v0 v1 r21 v0 (0 : Int32) σ20) else (bX7_readsSum_38 (bX7_readsSum_163 k14) v0 v1 r21 v0 (1 : Int32) σ20))))
def fX7_readsSum_14  : Nat → Nat → Int32 → zS → Option (Int32 × zS)
  | 0, _, _, _ => none
  | n + 1, v0, v1, σ => bX7_readsSum_14 (fX7_readsSum_14  n) v0 v1 σ
def fX7_readsSum (v0 : Nat) (σ : zS) : Option (Int32 × zS) :=
  bnd ((σ.1 v0 17)) (fun (x35 : Int32) => zb (fX7_readsFactor v0 σ) (fun (r37 : Int32) (σ36 : zS) => if r37 = 0 then (some ((0 : Int32), σ36)) else (fX7_readsSum_14 zFU v0 x35 σ36)))
set_option maxRecDepth 100000 in
set_option maxHeartbeats 4000000 in
theorem jX7_readsSum_163 {p : Program} {l : Launch} {e : Env} {s : State} {m : MethodId} {args : Array Value} {below : List Frame} {meth : Method} {c : Code} {b0 : Nat} {cA : Nat → ClassId} {D : va_G} {L : List (Nat × Nat)} (hC : zC p c s m args meth cX7_readsSum 3 (some Jvm.ClassFile.FieldType.boolean) (Cond.code yX7_readsSum cX7_readsSum 3 (some Jvm.ClassFile.FieldType.boolean)) yX7_readsSum.cls cA D) (k14 : Nat → Int32 → zS → Option (Int32 × zS)) (h14 : ∀ (v0 : Nat) (v1 : Int32) (σ : zS) (ls : Array Slot), L[v0]? = some (0, 7) → lv_has ls 3 [(0, .ref (b0 + v0)), (1, .int v1)] → zJ p l e rmX7_readsSum s m args below meth c b0 cA D L (fun z => MQ below (va_Qi (fun (r : Int32) (u : zS) => (r, u) = z ∧ nB r) (zB b0 cA D L) (zA b0 L)) args s 0 0 (zA b0 L)) (k14 v0 v1 σ) σ 14 ls []) (v0 : Nat) (v1 : Int32) (σ : zS) (ls : Array Slot) (hk_v0 : L[v0]? = some (0, 7)) (hl : lv_has ls 3 [(0, .ref (b0 + v0)), (1, .int v1)]) : zJ p l e rmX7_readsSum s m args below meth c b0 cA D L (fun z => MQ below (va_Qi (fun (r : Int32) (u : zS) => (r, u) = z ∧ nB r) (zB b0 cA D L) (zA b0 L)) args s 0 0 (zA b0 L)) (bX7_readsSum_163 k14 v0 v1 σ) σ 163 ls [] := by
  unfold bX7_readsSum_163
  refine zj_goto (tgt := 14) hC dX7_readsSum_163 (by decide) ?_
  exact h14 v0 v1 σ ls hk_v0 (lv_sub hl [0, 1] rfl)
set_option maxRecDepth 100000 in
set_option maxHeartbeats 4000000 in
theorem jX7_readsSum_138 {p : Program} {l : Launch} {e : Env} {s : State} {m : MethodId} {args : Array Value} {below : List Frame} {meth : Method} {c : Code} {b0 : Nat} {cA : Nat → ClassId} {D : va_G} {L : List (Nat × Nat)} (hC : zC p c s m args meth cX7_readsSum 3 (some Jvm.ClassFile.FieldType.boolean) (Cond.code yX7_readsSum cX7_readsSum 3 (some Jvm.ClassFile.FieldType.boolean)) yX7_readsSum.cls cA D)  (v0 : Nat) (v1 : Int32) (σ : zS) (ls : Array Slot) (hk_v0 : L[v0]? = some (0, 7)) (hl : lv_has ls 3 [(0, .ref (b0 + v0)), (1, .int v1)]) : zJ p l e rmX7_readsSum s m args below meth c b0 cA D L (fun z => MQ below (va_Qi (fun (r : Int32) (u : zS) => (r, u) = z ∧ nB r) (zB b0 cA D L) (zA b0 L)) args s 0 0 (zA b0 L)) (bX7_readsSum_138  v0 v1 σ) σ 138 ls [] := by
  unfold bX7_readsSum_138
  refine zj_aload_n (pc' := 139) hC dX7_readsSum_138 rfl rfl (lv_at hl 0 rfl) ?_
  refine zj_iload_n (pc' := 140) hC dX7_readsSum_139 rfl rfl (lv_at hl 1 rfl) ?_
  refine zj_callzV (pc' := 143) (rest := []) hC (kX7_hasOpenSum l b0 cA D L v0 v1 σ hk_v0) hk_v0 rfl tw_5_90 tw_5_87 tw_5_89 ts_4_3 tw_1_8 ddX7_hasOpenSum rfl ⟨rfl, rfl⟩ ⟨by decide, by decide⟩ hl.1 (Nat.le_of_ble_eq_true rfl) rfl dX7_readsSum_140 rfl (fun r2 σ1 hb_r2 => ?_)
  refine zj_if_eq (tgt := 156) (pc' := 146) hC dX7_readsSum_143 (by decide) rfl (fun c3 => ?_) (fun c3 => ?_)
  · refine zj_aload_n (pc' := 157) hC dX7_readsSum_156 rfl rfl (lv_at hl 0 rfl) ?_
    refine zj_iconst (pc' := 158) (v := (1 : Int32)) hC dX7_readsSum_157 rfl rfl ?_
    refine zj_callvV (pc' := 161) (rest := []) hC (kX7_closesSums l b0 cA D L v0 (1 : Int32) σ1 hk_v0) hk_v0 rfl tw_5_82 tw_5_79 tw_5_81 ts_4_1 tw_1_8 ddX7_closesSums rfl ⟨rfl, rfl⟩ ⟨by decide, by decide⟩ hl.1 (Nat.le_of_ble_eq_true rfl) rfl dX7_readsSum_158 rfl (fun σ4 => ?_)
    refine zj_iconst (pc' := 162) (v := (1 : Int32)) hC dX7_readsSum_161 rfl rfl ?_
    exact zj_zret hC nB_1 dX7_readsSum_162
  · refine zj_aload_n (pc' := 147) hC dX7_readsSum_146 rfl rfl (lv_at hl 0 rfl) ?_
    refine zj_iconst (pc' := 148) (v := (1 : Int32)) hC dX7_readsSum_147 rfl rfl ?_
    refine zj_aload_n (pc' := 149) hC dX7_readsSum_148 rfl rfl (lv_at hl 0 rfl) ?_
    refine zj_getI (pc' := 152) hC hk_v0 fd_7_12 rfl tw_4_60 dX7_readsSum_149 rfl ?_
    refine zj_callzV (pc' := 155) (rest := []) hC (kX7_wrong l b0 cA D L v0 (1 : Int32) ((σ1.1 v0 12)) σ1 hk_v0) hk_v0 rfl tw_5_39 tw_5_36 tw_5_38 ts_3_8 tw_1_8 ddX7_wrong rfl ⟨rfl, rfl⟩ ⟨by decide, by decide⟩ hl.1 (Nat.le_of_ble_eq_true rfl) rfl dX7_readsSum_152 rfl (fun r7 σ6 hb_r7 => ?_)
    exact zj_zret hC hb_r7 dX7_readsSum_155
set_option maxRecDepth 100000 in
set_option maxHeartbeats 4000000 in
theorem jX7_readsSum_38 {p : Program} {l : Launch} {e : Env} {s : State} {m : MethodId} {args : Array Value} {below : List Frame} {meth : Method} {c : Code} {b0 : Nat} {cA : Nat → ClassId} {D : va_G} {L : List (Nat × Nat)} (hC : zC p c s m args meth cX7_readsSum 3 (some Jvm.ClassFile.FieldType.boolean) (Cond.code yX7_readsSum cX7_readsSum 3 (some Jvm.ClassFile.FieldType.boolean)) yX7_readsSum.cls cA D) (k163 : Nat → Int32 → zS → Option (Int32 × zS)) (h163 : ∀ (v0 : Nat) (v1 : Int32) (σ : zS) (ls : Array Slot), L[v0]? = some (0, 7) → lv_has ls 3 [(0, .ref (b0 + v0)), (1, .int v1)] → zJ p l e rmX7_readsSum s m args below meth c b0 cA D L (fun z => MQ below (va_Qi (fun (r : Int32) (u : zS) => (r, u) = z ∧ nB r) (zB b0 cA D L) (zA b0 L)) args s 0 0 (zA b0 L)) (k163 v0 v1 σ) σ 163 ls []) (v0 : Nat) (v1 : Int32) (v2 : Int32) (s0 : Nat) (s1 : Int32) (σ : zS) (ls : Array Slot) (hk_v0 : L[v0]? = some (0, 7)) (hk_s0 : L[s0]? = some (0, 7)) (hb_s1 : nB s1) (hl : lv_has ls 3 [(0, .ref (b0 + v0)), (1, .int v1), (2, .int v2)]) : zJ p l e rmX7_readsSum s m args below meth c b0 cA D L (fun z => MQ below (va_Qi (fun (r : Int32) (u : zS) => (r, u) = z ∧ nB r) (zB b0 cA D L) (zA b0 L)) args s 0 0 (zA b0 L)) (bX7_readsSum_38 k163 v0 v1 v2 s0 s1 σ) σ 38 ls [.int s1, .ref (b0 + s0)] := by
  unfold bX7_readsSum_38
  refine zj_callvV (pc' := 41) (rest := []) hC (kX7_closesSums l b0 cA D L s0 s1 σ hk_s0) hk_s0 rfl tw_5_82 tw_5_79 tw_5_81 ts_4_1 tw_1_8 ddX7_closesSums rfl ⟨rfl, rfl⟩ ⟨by decide, by decide⟩ hl.1 (Nat.le_of_ble_eq_true rfl) rfl dX7_readsSum_38 rfl (fun σ8 => ?_)
  refine zj_aload_n (pc' := 42) hC dX7_readsSum_41 rfl rfl (lv_at hl 0 rfl) ?_
  refine zj_getR (pc' := 45) hC hk_v0 fd_7_21 rfl tw_4_69 dX7_readsSum_42 rfl (fun q10 hk_q10 => ?_)
  refine zj_aload_n (pc' := 46) hC dX7_readsSum_45 rfl rfl (lv_at hl 0 rfl) ?_
  refine zj_getI (pc' := 49) hC hk_v0 fd_7_17 rfl tw_4_65 dX7_readsSum_46 rfl ?_
  refine zj_ldc (pc' := 51) (v := (1048576 : Int32)) hC tw_5_48 dX7_readsSum_49 rfl ?_
  refine zj_iload_n (pc' := 52) hC dX7_readsSum_51 rfl rfl (lv_at hl 2 rfl) ?_
  refine zj_imul (pc' := 53) hC dX7_readsSum_52 rfl ?_
  refine zj_iast (pc' := 54) hC hk_q10 dX7_readsSum_53 rfl (fun g11 σ12 => ?_)
  refine zj_aload_n (pc' := 55) hC dX7_readsSum_54 rfl rfl (lv_at hl 0 rfl) ?_
  refine zj_aload_n (pc' := 56) hC dX7_readsSum_55 rfl rfl (lv_at hl 0 rfl) ?_
  refine zj_getI (pc' := 59) hC hk_v0 fd_7_17 rfl tw_4_65 dX7_readsSum_56 rfl ?_
  refine zj_iconst (pc' := 60) (v := (1 : Int32)) hC dX7_readsSum_59 rfl rfl ?_
  refine zj_iadd (pc' := 61) hC dX7_readsSum_60 rfl ?_
  refine zj_putI (pc' := 64) hC hk_v0 fd_7_17 rfl tw_4_65 rfl rfl rfl dX7_readsSum_61 rfl (fun σ13 => ?_)
  refine zj_aload_n (pc' := 65) hC dX7_readsSum_64 rfl rfl (lv_at hl 0 rfl) ?_
  refine zj_aload_n (pc' := 66) hC dX7_readsSum_65 rfl rfl (lv_at hl 0 rfl) ?_
  refine zj_getI (pc' := 69) hC hk_v0 fd_7_12 rfl tw_4_60 dX7_readsSum_66 rfl ?_
  refine zj_iconst (pc' := 70) (v := (1 : Int32)) hC dX7_readsSum_69 rfl rfl ?_
  refine zj_iadd (pc' := 71) hC dX7_readsSum_70 rfl ?_
  refine zj_putI (pc' := 74) hC hk_v0 fd_7_12 rfl tw_4_60 rfl rfl rfl dX7_readsSum_71 rfl (fun σ14 => ?_)
  refine zj_aload_n (pc' := 75) hC dX7_readsSum_74 rfl rfl (lv_at hl 0 rfl) ?_
  refine zj_callzV (pc' := 78) (rest := []) hC (kX7_readsFactor l b0 cA D L v0 σ14 hk_v0) hk_v0 rfl tw_5_60 tw_5_57 tw_5_59 ts_3_13 tw_1_8 ddX7_readsFactor rfl ⟨rfl, rfl⟩ ⟨by decide, by decide⟩ hl.1 (Nat.le_of_ble_eq_true rfl) rfl dX7_readsSum_75 rfl (fun r16 σ15 hb_r16 => ?_)
  refine zj_if_ne (tgt := 163) (pc' := 81) hC dX7_readsSum_78 (by decide) rfl (fun c17 => ?_) (fun c17 => ?_)
  · exact h163 v0 v1 σ15 ls hk_v0 (lv_sub hl [0, 1] rfl)
  · refine zj_iconst (pc' := 82) (v := (0 : Int32)) hC dX7_readsSum_81 rfl rfl ?_
    exact zj_zret hC nB_0 dX7_readsSum_82
set_option maxRecDepth 100000 in
set_option maxHeartbeats 4000000 in
theorem jX7_readsSum_14 {p : Program} {l : Launch} {e : Env} {s : State} {m : MethodId} {args : Array Value} {below : List Frame} {meth : Method} {c : Code} {b0 : Nat} {cA : Nat → ClassId} {D : va_G} {L : List (Nat × Nat)} (hC : zC p c s m args meth cX7_readsSum 3 (some Jvm.ClassFile.FieldType.boolean) (Cond.code yX7_readsSum cX7_readsSum 3 (some Jvm.ClassFile.FieldType.boolean)) yX7_readsSum.cls cA D) (k14 : Nat → Int32 → zS → Option (Int32 × zS)) (h14 : ∀ (v0 : Nat) (v1 : Int32) (σ : zS) (ls : Array Slot), L[v0]? = some (0, 7) → lv_has ls 3 [(0, .ref (b0 + v0)), (1, .int v1)] → zJ p l e rmX7_readsSum s m args below meth c b0 cA D L (fun z => MQ below (va_Qi (fun (r : Int32) (u : zS) => (r, u) = z ∧ nB r) (zB b0 cA D L) (zA b0 L)) args s 0 0 (zA b0 L)) (k14 v0 v1 σ) σ 14 ls []) (v0 : Nat) (v1 : Int32) (σ : zS) (ls : Array Slot) (hk_v0 : L[v0]? = some (0, 7)) (hl : lv_has ls 3 [(0, .ref (b0 + v0)), (1, .int v1)]) : zJ p l e rmX7_readsSum s m args below meth c b0 cA D L (fun z => MQ below (va_Qi (fun (r : Int32) (u : zS) => (r, u) = z ∧ nB r) (zB b0 cA D L) (zA b0 L)) args s 0 0 (zA b0 L)) (bX7_readsSum_14 k14 v0 v1 σ) σ 14 ls [] := by
  unfold bX7_readsSum_14
  refine zj_aload_n (pc' := 15) hC dX7_readsSum_14 rfl rfl (lv_at hl 0 rfl) ?_
  refine zj_calliV (pc' := 18) (rest := []) hC (kX7_here l b0 cA D L v0 σ hk_v0) hk_v0 rfl tw_5_35 tw_5_32 tw_5_34 ts_3_7 tw_1_8 ddX7_here rfl ⟨rfl, rfl⟩ ⟨by decide, by decide⟩ hl.1 (Nat.le_of_ble_eq_true rfl) rfl dX7_readsSum_15 rfl (fun r19 σ18 => ?_)
  refine zj_calliS (pc' := 21) (rest := []) hC (kX7_sumSign l b0 cA D L r19 σ18 ) tw_5_78 tw_5_76 tw_5_77 tw_1_8 ddX7_sumSign rfl ⟨rfl, rfl⟩ ⟨by decide, by decide⟩ hl.1 (Nat.le_of_ble_eq_true rfl) rfl dX7_readsSum_18 rfl (fun r21 σ20 => ?_)
  refine zj_istore_n (pc' := 22) (lv' := [(2, .int r21), (0, .ref (b0 + v0)), (1, .int v1)]) hC dX7_readsSum_21 rfl rfl hl (by decide) rfl (fun ls hl => ?_)
  refine zj_iload_n (pc' := 23) hC dX7_readsSum_22 rfl rfl (lv_at hl 0 rfl) ?_
  refine zj_iconst (pc' := 24) (v := (-1 : Int32)) hC dX7_readsSum_23 rfl rfl ?_
  refine zj_icmp_eq (tgt := 83) (pc' := 27) hC dX7_readsSum_24 (by decide) rfl (fun c22 => ?_) (fun c22 => ?_)
  · refine zj_aload_n (pc' := 84) hC dX7_readsSum_83 rfl rfl (lv_at hl 1 rfl) ?_
    refine zj_calliV (pc' := 87) (rest := []) hC (kX7_here l b0 cA D L v0 σ20 hk_v0) hk_v0 rfl tw_5_35 tw_5_32 tw_5_34 ts_3_7 tw_1_8 ddX7_here rfl ⟨rfl, rfl⟩ ⟨by decide, by decide⟩ hl.1 (Nat.le_of_ble_eq_true rfl) rfl dX7_readsSum_84 rfl (fun r24 σ23 => ?_)
    refine zj_bipush (pc' := 89) (v := (93 : Int32)) hC dX7_readsSum_87 rfl rfl ?_
    refine zj_icmp_ne (tgt := 138) (pc' := 92) hC dX7_readsSum_89 (by decide) rfl (fun c25 => ?_) (fun c25 => ?_)
    · exact jX7_readsSum_138 hC v0 v1 σ23 ls hk_v0 (lv_sub hl [1, 2] rfl)
    · refine zj_aload_n (pc' := 93) hC dX7_readsSum_92 rfl rfl (lv_at hl 1 rfl) ?_
      refine zj_iload_n (pc' := 94) hC dX7_readsSum_93 rfl rfl (lv_at hl 2 rfl) ?_
      refine zj_callzV (pc' := 97) (rest := []) hC (kX7_hasOpenSum l b0 cA D L v0 v1 σ23 hk_v0) hk_v0 rfl tw_5_90 tw_5_87 tw_5_89 ts_4_3 tw_1_8 ddX7_hasOpenSum rfl ⟨rfl, rfl⟩ ⟨by decide, by decide⟩ hl.1 (Nat.le_of_ble_eq_true rfl) rfl dX7_readsSum_94 rfl (fun r27 σ26 hb_r27 => ?_)
      refine zj_if_eq (tgt := 138) (pc' := 100) hC dX7_readsSum_97 (by decide) rfl (fun c28 => ?_) (fun c28 => ?_)
      · exact jX7_readsSum_138 hC v0 v1 σ26 ls hk_v0 (lv_sub hl [1, 2] rfl)
      · refine zj_aload_n (pc' := 101) hC dX7_readsSum_100 rfl rfl (lv_at hl 1 rfl) ?_
        refine zj_iconst (pc' := 102) (v := (1 : Int32)) hC dX7_readsSum_101 rfl rfl ?_
        refine zj_callvV (pc' := 105) (rest := []) hC (kX7_closesSums l b0 cA D L v0 (1 : Int32) σ26 hk_v0) hk_v0 rfl tw_5_82 tw_5_79 tw_5_81 ts_4_1 tw_1_8 ddX7_closesSums rfl ⟨rfl, rfl⟩ ⟨by decide, by decide⟩ hl.1 (Nat.le_of_ble_eq_true rfl) rfl dX7_readsSum_102 rfl (fun σ29 => ?_)
        refine zj_aload_n (pc' := 106) hC dX7_readsSum_105 rfl rfl (lv_at hl 1 rfl) ?_
        refine zj_aload_n (pc' := 107) hC dX7_readsSum_106 rfl rfl (lv_at hl 1 rfl) ?_
        refine zj_getI (pc' := 110) hC hk_v0 fd_7_17 rfl tw_4_65 dX7_readsSum_107 rfl ?_
        refine zj_iconst (pc' := 111) (v := (1 : Int32)) hC dX7_readsSum_110 rfl rfl ?_
        refine zj_isub (pc' := 112) hC dX7_readsSum_111 rfl ?_
        refine zj_putI (pc' := 115) hC hk_v0 fd_7_17 rfl tw_4_65 rfl rfl rfl dX7_readsSum_112 rfl (fun σ31 => ?_)
        refine zj_aload_n (pc' := 116) hC dX7_readsSum_115 rfl rfl (lv_at hl 1 rfl) ?_
        refine zj_aload_n (pc' := 117) hC dX7_readsSum_116 rfl rfl (lv_at hl 1 rfl) ?_
        refine zj_getI (pc' := 120) hC hk_v0 fd_7_15 rfl tw_4_63 dX7_readsSum_117 rfl ?_
        refine zj_iconst (pc' := 121) (v := (1 : Int32)) hC dX7_readsSum_120 rfl rfl ?_
        refine zj_isub (pc' := 122) hC dX7_readsSum_121 rfl ?_
        refine zj_putI (pc' := 125) hC hk_v0 fd_7_15 rfl tw_4_63 rfl rfl rfl dX7_readsSum_122 rfl (fun σ32 => ?_)
        refine zj_aload_n (pc' := 126) hC dX7_readsSum_125 rfl rfl (lv_at hl 1 rfl) ?_
        refine zj_aload_n (pc' := 127) hC dX7_readsSum_126 rfl rfl (lv_at hl 1 rfl) ?_
        refine zj_getI (pc' := 130) hC hk_v0 fd_7_12 rfl tw_4_60 dX7_readsSum_127 rfl ?_
        refine zj_iconst (pc' := 131) (v := (1 : Int32)) hC dX7_readsSum_130 rfl rfl ?_
        refine zj_iadd (pc' := 132) hC dX7_readsSum_131 rfl ?_
        refine zj_putI (pc' := 135) hC hk_v0 fd_7_12 rfl tw_4_60 rfl rfl rfl dX7_readsSum_132 rfl (fun σ33 => ?_)
        refine zj_goto (tgt := 163) hC dX7_readsSum_135 (by decide) ?_
        exact jX7_readsSum_163 hC k14 h14 v0 v1 σ33 ls hk_v0 (lv_sub hl [1, 2] rfl)
  · refine zj_aload_n (pc' := 28) hC dX7_readsSum_27 rfl rfl (lv_at hl 1 rfl) ?_
    refine zj_iload_n (pc' := 29) hC dX7_readsSum_28 rfl rfl (lv_at hl 0 rfl) ?_
    refine zj_iconst (pc' := 30) (v := (4 : Int32)) hC dX7_readsSum_29 rfl rfl ?_
    refine zj_icmp_ge (tgt := 37) (pc' := 33) hC dX7_readsSum_30 (by decide) rfl (fun c34 => ?_) (fun c34 => ?_)
    · refine zj_iconst (pc' := 38) (v := (0 : Int32)) hC dX7_readsSum_37 rfl rfl ?_
      exact jX7_readsSum_38 hC (bX7_readsSum_163 k14) (jX7_readsSum_163 hC k14 h14) v0 v1 r21 v0 (0 : Int32) σ20 ls hk_v0 hk_v0 nB_0 (lv_sub hl [1, 2, 0] rfl)
    · refine zj_iconst (pc' := 34) (v := (1 : Int32)) hC dX7_readsSum_33 rfl rfl ?_
      refine zj_goto (tgt := 38) hC dX7_readsSum_34 (by decide) ?_
      exact jX7_readsSum_38 hC (bX7_readsSum_163 k14) (jX7_readsSum_163 hC k14 h14) v0 v1 r21 v0 (1 : Int32) σ20 ls hk_v0 hk_v0 nB_1 (lv_sub hl [1, 2, 0] rfl)
set_option maxRecDepth 100000 in
set_option maxHeartbeats 4000000 in
theorem lX7_readsSum_14 {p : Program} {l : Launch} {e : Env} {s : State} {m : MethodId} {args : Array Value} {below : List Frame} {meth : Method} {c : Code} {b0 : Nat} {cA : Nat → ClassId} {D : va_G} {L : List (Nat × Nat)} (hC : zC p c s m args meth cX7_readsSum 3 (some Jvm.ClassFile.FieldType.boolean) (Cond.code yX7_readsSum cX7_readsSum 3 (some Jvm.ClassFile.FieldType.boolean)) yX7_readsSum.cls cA D)  (n : Nat) : ∀ (v0 : Nat) (v1 : Int32) (σ : zS) (ls : Array Slot), L[v0]? = some (0, 7) → lv_has ls 3 [(0, .ref (b0 + v0)), (1, .int v1)] → zJ p l e rmX7_readsSum s m args below meth c b0 cA D L (fun z => MQ below (va_Qi (fun (r : Int32) (u : zS) => (r, u) = z ∧ nB r) (zB b0 cA D L) (zA b0 L)) args s 0 0 (zA b0 L)) (fX7_readsSum_14  n v0 v1 σ) σ 14 ls [] := by
  induction n with
  | zero => intros; exact zj_none
  | succ n ih => exact jX7_readsSum_14 hC (fX7_readsSum_14  n) ih
set_option maxRecDepth 100000 in
set_option maxHeartbeats 4000000 in
theorem kX7_readsSum (l : Launch) (b0 : Nat) (cA : Nat → ClassId) (D : va_G) (L : List (Nat × Nat)) (v0 : Nat) (σ : zS) (hk0 : L[v0]? = some (0, 7)) : zMz l b0 cA D L yX7_readsSum (Cond.code yX7_readsSum cX7_readsSum 3 (some Jvm.ClassFile.FieldType.boolean)) rmX7_readsSum [.ref (b0 + v0)] σ (fX7_readsSum v0 σ) := by
  refine zMz_of (by decide) (Nat.le_of_ble_eq_true rfl) ?_
  intro p e s m below meth c ls hC hl
  have hl : lv_has ls 3 [(0, .ref (b0 + v0))] := hl
  generalize ([.ref (b0 + v0)] : List Value).toArray = args at hC ⊢
  unfold fX7_readsSum
  refine zj_aload_n (pc' := 1) hC dX7_readsSum_0 rfl rfl (lv_at hl 0 rfl) ?_
  refine zj_getI (pc' := 4) hC hk0 fd_7_17 rfl tw_4_65 dX7_readsSum_1 rfl ?_
  refine zj_nmi (fun x35 => ?_)
  refine zj_istore_n (pc' := 5) (lv' := [(1, .int x35), (0, .ref (b0 + v0))]) hC dX7_readsSum_4 rfl rfl hl (by decide) rfl (fun ls hl => ?_)
  refine zj_aload_n (pc' := 6) hC dX7_readsSum_5 rfl rfl (lv_at hl 1 rfl) ?_
  refine zj_callzV (pc' := 9) (rest := []) hC (kX7_readsFactor l b0 cA D L v0 σ hk0) hk0 rfl tw_5_60 tw_5_57 tw_5_59 ts_3_13 tw_1_8 ddX7_readsFactor rfl ⟨rfl, rfl⟩ ⟨by decide, by decide⟩ hl.1 (Nat.le_of_ble_eq_true rfl) rfl dX7_readsSum_6 rfl (fun r37 σ36 hb_r37 => ?_)
  refine zj_if_ne (tgt := 14) (pc' := 12) hC dX7_readsSum_9 (by decide) rfl (fun c38 => ?_) (fun c38 => ?_)
  · exact lX7_readsSum_14 hC zFU v0 x35 σ36 ls hk0 (lv_sub hl [1, 0] rfl)
  · refine zj_iconst (pc' := 13) (v := (0 : Int32)) hC dX7_readsSum_12 rfl rfl ?_
    exact zj_zret hC nB_0 dX7_readsSum_13
-- X7_endsPiece
theorem ddX7_endsPiece : yX7_endsPiece.cls ≠ "java/lang/invoke/MethodHandle" ∧ yX7_endsPiece.cls ≠ "java/lang/invoke/VarHandle" ∧ (parseMethodDescriptor yX7_endsPiece.desc).map (fun d => d.parameters.length) = some 0 := by decide +kernel
abbrev rmX7_endsPiece : Room := { frames := 1, cells := 0, slots := 0, locals := 22 }
def bX7_endsPiece_0 (k0 : Nat → zS → Option (Unit × zS)) (v0 : Nat) (σ : zS) : Option (Unit × zS) :=
  zb (fX7_top v0 σ) (fun (r2 : Int32) (σ1 : zS) => if r2 = (10 : Int32) then (zb (fX7_says v0 (10 : Int32) (0 : Int32) σ1) (fun (_ : Unit) (σ4 : zS) => bnd (zI σ4 v0 17 ((σ4.1 v0 17) - (1 : Int32))) (fun (σ6 : zS) => bnd (zI σ6 v0 15 ((σ6.1 v0 15) - (1 : Int32))) (fun (σ7 : zS) => k0 v0 σ7)))) else (some ((), σ1)))
def fX7_endsPiece_0  : Nat → Nat → zS → Option (Unit × zS)
  | 0, _, _ => none
  | n + 1, v0, σ => bX7_endsPiece_0 (fX7_endsPiece_0  n) v0 σ
def fX7_endsPiece (v0 : Nat) (σ : zS) : Option (Unit × zS) :=
  fX7_endsPiece_0 zFU v0 σ
set_option maxRecDepth 100000 in
set_option maxHeartbeats 4000000 in
theorem jX7_endsPiece_0 {p : Program} {l : Launch} {e : Env} {s : State} {m : MethodId} {args : Array Value} {below : List Frame} {meth : Method} {c : Code} {b0 : Nat} {cA : Nat → ClassId} {D : va_G} {L : List (Nat × Nat)} (hC : zC p c s m args meth cX7_endsPiece 1 (none) (Cond.code yX7_endsPiece cX7_endsPiece 1 (none)) yX7_endsPiece.cls cA D) (k0 : Nat → zS → Option (Unit × zS)) (h0 : ∀ (v0 : Nat) (σ : zS) (ls : Array Slot), L[v0]? = some (0, 7) → lv_has ls 1 [(0, .ref (b0 + v0))] → zJ p l e rmX7_endsPiece s m args below meth c b0 cA D L (fun z => MQ below (va_Qv (fun (u : zS) => ((), u) = z) (zB b0 cA D L) (zA b0 L)) args s 0 0 (zA b0 L)) (k0 v0 σ) σ 0 ls []) (v0 : Nat) (σ : zS) (ls : Array Slot) (hk_v0 : L[v0]? = some (0, 7)) (hl : lv_has ls 1 [(0, .ref (b0 + v0))]) : zJ p l e rmX7_endsPiece s m args below meth c b0 cA D L (fun z => MQ below (va_Qv (fun (u : zS) => ((), u) = z) (zB b0 cA D L) (zA b0 L)) args s 0 0 (zA b0 L)) (bX7_endsPiece_0 k0 v0 σ) σ 0 ls [] := by
  unfold bX7_endsPiece_0
  refine zj_aload_n (pc' := 1) hC dX7_endsPiece_0 rfl rfl (lv_at hl 0 rfl) ?_
  refine zj_calliV (pc' := 4) (rest := []) hC (kX7_top l b0 cA D L v0 σ hk_v0) hk_v0 rfl tw_5_86 tw_5_83 tw_5_85 ts_4_2 tw_1_8 ddX7_top rfl ⟨rfl, rfl⟩ ⟨by decide, by decide⟩ hl.1 (Nat.le_of_ble_eq_true rfl) rfl dX7_endsPiece_1 rfl (fun r2 σ1 => ?_)
  refine zj_bipush (pc' := 6) (v := (10 : Int32)) hC dX7_endsPiece_4 rfl rfl ?_
  refine zj_icmp_ne (tgt := 39) (pc' := 9) hC dX7_endsPiece_6 (by decide) rfl (fun c3 => ?_) (fun c3 => ?_)
  · exact zj_vret hC dX7_endsPiece_39
  · refine zj_aload_n (pc' := 10) hC dX7_endsPiece_9 rfl rfl (lv_at hl 0 rfl) ?_
    refine zj_bipush (pc' := 12) (v := (10 : Int32)) hC dX7_endsPiece_10 rfl rfl ?_
    refine zj_iconst (pc' := 13) (v := (0 : Int32)) hC dX7_endsPiece_12 rfl rfl ?_
    refine zj_callvV (pc' := 16) (rest := []) hC (kX7_says l b0 cA D L v0 (10 : Int32) (0 : Int32) σ1 hk_v0) hk_v0 rfl tw_5_72 tw_5_69 tw_5_71 ts_4_0 tw_1_8 ddX7_says rfl ⟨rfl, rfl⟩ ⟨by decide, by decide⟩ hl.1 (Nat.le_of_ble_eq_true rfl) rfl dX7_endsPiece_13 rfl (fun σ4 => ?_)
    refine zj_aload_n (pc' := 17) hC dX7_endsPiece_16 rfl rfl (lv_at hl 0 rfl) ?_
    refine zj_aload_n (pc' := 18) hC dX7_endsPiece_17 rfl rfl (lv_at hl 0 rfl) ?_
    refine zj_getI (pc' := 21) hC hk_v0 fd_7_17 rfl tw_4_65 dX7_endsPiece_18 rfl ?_
    refine zj_iconst (pc' := 22) (v := (1 : Int32)) hC dX7_endsPiece_21 rfl rfl ?_
    refine zj_isub (pc' := 23) hC dX7_endsPiece_22 rfl ?_
    refine zj_putI (pc' := 26) hC hk_v0 fd_7_17 rfl tw_4_65 rfl rfl rfl dX7_endsPiece_23 rfl (fun σ6 => ?_)
    refine zj_aload_n (pc' := 27) hC dX7_endsPiece_26 rfl rfl (lv_at hl 0 rfl) ?_
    refine zj_aload_n (pc' := 28) hC dX7_endsPiece_27 rfl rfl (lv_at hl 0 rfl) ?_
    refine zj_getI (pc' := 31) hC hk_v0 fd_7_15 rfl tw_4_63 dX7_endsPiece_28 rfl ?_
    refine zj_iconst (pc' := 32) (v := (1 : Int32)) hC dX7_endsPiece_31 rfl rfl ?_
    refine zj_isub (pc' := 33) hC dX7_endsPiece_32 rfl ?_
    refine zj_putI (pc' := 36) hC hk_v0 fd_7_15 rfl tw_4_63 rfl rfl rfl dX7_endsPiece_33 rfl (fun σ7 => ?_)
    refine zj_goto (tgt := 0) hC dX7_endsPiece_36 (by decide) ?_
    exact h0 v0 σ7 ls hk_v0 (lv_sub hl [0] rfl)
set_option maxRecDepth 100000 in
set_option maxHeartbeats 4000000 in
theorem lX7_endsPiece_0 {p : Program} {l : Launch} {e : Env} {s : State} {m : MethodId} {args : Array Value} {below : List Frame} {meth : Method} {c : Code} {b0 : Nat} {cA : Nat → ClassId} {D : va_G} {L : List (Nat × Nat)} (hC : zC p c s m args meth cX7_endsPiece 1 (none) (Cond.code yX7_endsPiece cX7_endsPiece 1 (none)) yX7_endsPiece.cls cA D)  (n : Nat) : ∀ (v0 : Nat) (σ : zS) (ls : Array Slot), L[v0]? = some (0, 7) → lv_has ls 1 [(0, .ref (b0 + v0))] → zJ p l e rmX7_endsPiece s m args below meth c b0 cA D L (fun z => MQ below (va_Qv (fun (u : zS) => ((), u) = z) (zB b0 cA D L) (zA b0 L)) args s 0 0 (zA b0 L)) (fX7_endsPiece_0  n v0 σ) σ 0 ls [] := by
  induction n with
  | zero => intros; exact zj_none
  | succ n ih => exact jX7_endsPiece_0 hC (fX7_endsPiece_0  n) ih
set_option maxRecDepth 100000 in
set_option maxHeartbeats 4000000 in
theorem kX7_endsPiece (l : Launch) (b0 : Nat) (cA : Nat → ClassId) (D : va_G) (L : List (Nat × Nat)) (v0 : Nat) (σ : zS) (hk0 : L[v0]? = some (0, 7)) : zMv l b0 cA D L yX7_endsPiece (Cond.code yX7_endsPiece cX7_endsPiece 1 (none)) rmX7_endsPiece [.ref (b0 + v0)] σ (fX7_endsPiece v0 σ) := by
  refine zMv_of (by decide) (Nat.le_of_ble_eq_true rfl) ?_
  intro p e s m below meth c ls hC hl
  have hl : lv_has ls 1 [(0, .ref (b0 + v0))] := hl
  generalize ([.ref (b0 + v0)] : List Value).toArray = args at hC ⊢
  unfold fX7_endsPiece
  exact lX7_endsPiece_0 hC zFU v0 σ ls hk0 (lv_sub hl [0] rfl)
-- X7_lands
theorem ddX7_lands : yX7_lands.cls ≠ "java/lang/invoke/MethodHandle" ∧ yX7_lands.cls ≠ "java/lang/invoke/VarHandle" ∧ (parseMethodDescriptor yX7_lands.desc).map (fun d => d.parameters.length) = some 1 := by decide +kernel
abbrev rmX7_lands : Room := { frames := 1, cells := 0, slots := 0, locals := 20 }
def bX7_lands_22 (k0 : Nat → Int32 → zS → Option (Unit × zS)) (v0 : Nat) (v1 : Int32) (σ : zS) : Option (Unit × zS) :=
  bnd (σ.2 v0 21) (fun (q1 : Nat) => zX ((σ.1 v0 17) - (1 : Int32)) 140 (bnd (((σ.1 q1 (((σ.1 v0 17) - (1 : Int32))).toNatClampNeg) - (σ.1 q1 (((σ.1 v0 17) - (1 : Int32))).toNatClampNeg) / (1048576 : Int32) * (1048576 : Int32))) (fun (x3 : Int32) => bnd (σ.2 v0 20) (fun (q4 : Nat) => bnd (σ.2 v0 20) (fun (q5 : Nat) => zX x3 140 (bnd (((1048576 : Int32) * ((σ.1 q5 (x3).toNatClampNeg) / (1048576 : Int32)))) (fun (x7 : Int32) => zX x3 140 (bnd (zI σ q4 (x3).toNatClampNeg (x7 + (σ.1 v0 16))) (fun (σ9 : zS) => bnd (zI σ9 v0 17 ((σ9.1 v0 17) - (1 : Int32))) (fun (σ10 : zS) => k0 v0 v1 σ10))))))))))
def bX7_lands_0 (k0 : Nat → Int32 → zS → Option (Unit × zS)) (v0 : Nat) (v1 : Int32) (σ : zS) : Option (Unit × zS) :=
  zb (fX7_top v0 σ) (fun (r12 : Int32) (σ11 : zS) => if r12 = (11 : Int32) then (bX7_lands_22 k0 v0 v1 σ11) else (if v1 = 0 then (some ((), σ11)) else (zb (fX7_top v0 σ11) (fun (r16 : Int32) (σ15 : zS) => if r16 = (12 : Int32) then (bX7_lands_22 k0 v0 v1 σ15) else (some ((), σ15))))))
def fX7_lands_0  : Nat → Nat → Int32 → zS → Option (Unit × zS)
  | 0, _, _, _ => none
  | n + 1, v0, v1, σ => bX7_lands_0 (fX7_lands_0  n) v0 v1 σ
def fX7_lands (v0 : Nat) (v1 : Int32) (σ : zS) : Option (Unit × zS) :=
  fX7_lands_0 zFU v0 v1 σ
set_option maxRecDepth 100000 in
set_option maxHeartbeats 4000000 in
theorem jX7_lands_22 {p : Program} {l : Launch} {e : Env} {s : State} {m : MethodId} {args : Array Value} {below : List Frame} {meth : Method} {c : Code} {b0 : Nat} {cA : Nat → ClassId} {D : va_G} {L : List (Nat × Nat)} (hC : zC p c s m args meth cX7_lands 3 (none) (Cond.code yX7_lands cX7_lands 3 (none)) yX7_lands.cls cA D) (k0 : Nat → Int32 → zS → Option (Unit × zS)) (h0 : ∀ (v0 : Nat) (v1 : Int32) (σ : zS) (ls : Array Slot), L[v0]? = some (0, 7) → lv_has ls 3 [(0, .ref (b0 + v0)), (1, .int v1)] → zJ p l e rmX7_lands s m args below meth c b0 cA D L (fun z => MQ below (va_Qv (fun (u : zS) => ((), u) = z) (zB b0 cA D L) (zA b0 L)) args s 0 0 (zA b0 L)) (k0 v0 v1 σ) σ 0 ls []) (v0 : Nat) (v1 : Int32) (σ : zS) (ls : Array Slot) (hk_v0 : L[v0]? = some (0, 7)) (hl : lv_has ls 3 [(0, .ref (b0 + v0)), (1, .int v1)]) : zJ p l e rmX7_lands s m args below meth c b0 cA D L (fun z => MQ below (va_Qv (fun (u : zS) => ((), u) = z) (zB b0 cA D L) (zA b0 L)) args s 0 0 (zA b0 L)) (bX7_lands_22 k0 v0 v1 σ) σ 22 ls [] := by
  unfold bX7_lands_22
  refine zj_aload_n (pc' := 23) hC dX7_lands_22 rfl rfl (lv_at hl 0 rfl) ?_
  refine zj_getR (pc' := 26) hC hk_v0 fd_7_21 rfl tw_4_69 dX7_lands_23 rfl (fun q1 hk_q1 => ?_)
  refine zj_aload_n (pc' := 27) hC dX7_lands_26 rfl rfl (lv_at hl 0 rfl) ?_
  refine zj_getI (pc' := 30) hC hk_v0 fd_7_17 rfl tw_4_65 dX7_lands_27 rfl ?_
  refine zj_iconst (pc' := 31) (v := (1 : Int32)) hC dX7_lands_30 rfl rfl ?_
  refine zj_isub (pc' := 32) hC dX7_lands_31 rfl ?_
  refine zj_iald (pc' := 33) hC hk_q1 dX7_lands_32 rfl (fun g2 => ?_)
  refine zj_ldc (pc' := 35) (v := (1048576 : Int32)) hC tw_5_48 dX7_lands_33 rfl ?_
  refine zj_iremK (pc' := 36) hC dX7_lands_35 rfl (by decide) ?_
  refine zj_nmi (fun x3 => ?_)
  refine zj_istore_n (pc' := 37) (lv' := [(2, .int x3), (0, .ref (b0 + v0)), (1, .int v1)]) hC dX7_lands_36 rfl rfl hl (by decide) rfl (fun ls hl => ?_)
  refine zj_aload_n (pc' := 38) hC dX7_lands_37 rfl rfl (lv_at hl 1 rfl) ?_
  refine zj_getR (pc' := 41) hC hk_v0 fd_7_20 rfl tw_4_68 dX7_lands_38 rfl (fun q4 hk_q4 => ?_)
  refine zj_iload_n (pc' := 42) hC dX7_lands_41 rfl rfl (lv_at hl 0 rfl) ?_
  refine zj_ldc (pc' := 44) (v := (1048576 : Int32)) hC tw_5_48 dX7_lands_42 rfl ?_
  refine zj_aload_n (pc' := 45) hC dX7_lands_44 rfl rfl (lv_at hl 1 rfl) ?_
  refine zj_getR (pc' := 48) hC hk_v0 fd_7_20 rfl tw_4_68 dX7_lands_45 rfl (fun q5 hk_q5 => ?_)
  refine zj_iload_n (pc' := 49) hC dX7_lands_48 rfl rfl (lv_at hl 0 rfl) ?_
  refine zj_iald (pc' := 50) hC hk_q5 dX7_lands_49 rfl (fun g6 => ?_)
  refine zj_ldc (pc' := 52) (v := (1048576 : Int32)) hC tw_5_48 dX7_lands_50 rfl ?_
  refine zj_idivK (pc' := 53) hC dX7_lands_52 rfl (by decide) ?_
  refine zj_imul (pc' := 54) hC dX7_lands_53 rfl ?_
  refine zj_nmi (fun x7 => ?_)
  refine zj_aload_n (pc' := 55) hC dX7_lands_54 rfl rfl (lv_at hl 1 rfl) ?_
  refine zj_getI (pc' := 58) hC hk_v0 fd_7_16 rfl tw_4_64 dX7_lands_55 rfl ?_
  refine zj_iadd (pc' := 59) hC dX7_lands_58 rfl ?_
  refine zj_iast (pc' := 60) hC hk_q4 dX7_lands_59 rfl (fun g8 σ9 => ?_)
  refine zj_aload_n (pc' := 61) hC dX7_lands_60 rfl rfl (lv_at hl 1 rfl) ?_
  refine zj_aload_n (pc' := 62) hC dX7_lands_61 rfl rfl (lv_at hl 1 rfl) ?_
  refine zj_getI (pc' := 65) hC hk_v0 fd_7_17 rfl tw_4_65 dX7_lands_62 rfl ?_
  refine zj_iconst (pc' := 66) (v := (1 : Int32)) hC dX7_lands_65 rfl rfl ?_
  refine zj_isub (pc' := 67) hC dX7_lands_66 rfl ?_
  refine zj_putI (pc' := 70) hC hk_v0 fd_7_17 rfl tw_4_65 rfl rfl rfl dX7_lands_67 rfl (fun σ10 => ?_)
  refine zj_goto (tgt := 0) hC dX7_lands_70 (by decide) ?_
  exact h0 v0 v1 σ10 ls hk_v0 (lv_sub hl [1, 2] rfl)
set_option maxRecDepth 100000 in
set_option maxHeartbeats 4000000 in
theorem jX7_lands_0 {p : Program} {l : Launch} {e : Env} {s : State} {m : MethodId} {args : Array Value} {below : List Frame} {meth : Method} {c : Code} {b0 : Nat} {cA : Nat → ClassId} {D : va_G} {L : List (Nat × Nat)} (hC : zC p c s m args meth cX7_lands 3 (none) (Cond.code yX7_lands cX7_lands 3 (none)) yX7_lands.cls cA D) (k0 : Nat → Int32 → zS → Option (Unit × zS)) (h0 : ∀ (v0 : Nat) (v1 : Int32) (σ : zS) (ls : Array Slot), L[v0]? = some (0, 7) → lv_has ls 3 [(0, .ref (b0 + v0)), (1, .int v1)] → zJ p l e rmX7_lands s m args below meth c b0 cA D L (fun z => MQ below (va_Qv (fun (u : zS) => ((), u) = z) (zB b0 cA D L) (zA b0 L)) args s 0 0 (zA b0 L)) (k0 v0 v1 σ) σ 0 ls []) (v0 : Nat) (v1 : Int32) (σ : zS) (ls : Array Slot) (hk_v0 : L[v0]? = some (0, 7)) (hl : lv_has ls 3 [(0, .ref (b0 + v0)), (1, .int v1)]) : zJ p l e rmX7_lands s m args below meth c b0 cA D L (fun z => MQ below (va_Qv (fun (u : zS) => ((), u) = z) (zB b0 cA D L) (zA b0 L)) args s 0 0 (zA b0 L)) (bX7_lands_0 k0 v0 v1 σ) σ 0 ls [] := by
  unfold bX7_lands_0
  refine zj_aload_n (pc' := 1) hC dX7_lands_0 rfl rfl (lv_at hl 0 rfl) ?_
  refine zj_calliV (pc' := 4) (rest := []) hC (kX7_top l b0 cA D L v0 σ hk_v0) hk_v0 rfl tw_5_86 tw_5_83 tw_5_85 ts_4_2 tw_1_8 ddX7_top rfl ⟨rfl, rfl⟩ ⟨by decide, by decide⟩ hl.1 (Nat.le_of_ble_eq_true rfl) rfl dX7_lands_1 rfl (fun r12 σ11 => ?_)
  refine zj_bipush (pc' := 6) (v := (11 : Int32)) hC dX7_lands_4 rfl rfl ?_
  refine zj_icmp_eq (tgt := 22) (pc' := 9) hC dX7_lands_6 (by decide) rfl (fun c13 => ?_) (fun c13 => ?_)
  · exact jX7_lands_22 hC k0 h0 v0 v1 σ11 ls hk_v0 (lv_sub hl [0, 1] rfl)
  · refine zj_iload_n (pc' := 10) hC dX7_lands_9 rfl rfl (lv_at hl 1 rfl) ?_
    refine zj_if_eq (tgt := 73) (pc' := 13) hC dX7_lands_10 (by decide) rfl (fun c14 => ?_) (fun c14 => ?_)
    · exact zj_vret hC dX7_lands_73
    · refine zj_aload_n (pc' := 14) hC dX7_lands_13 rfl rfl (lv_at hl 0 rfl) ?_
      refine zj_calliV (pc' := 17) (rest := []) hC (kX7_top l b0 cA D L v0 σ11 hk_v0) hk_v0 rfl tw_5_86 tw_5_83 tw_5_85 ts_4_2 tw_1_8 ddX7_top rfl ⟨rfl, rfl⟩ ⟨by decide, by decide⟩ hl.1 (Nat.le_of_ble_eq_true rfl) rfl dX7_lands_14 rfl (fun r16 σ15 => ?_)
      refine zj_bipush (pc' := 19) (v := (12 : Int32)) hC dX7_lands_17 rfl rfl ?_
      refine zj_icmp_ne (tgt := 73) (pc' := 22) hC dX7_lands_19 (by decide) rfl (fun c17 => ?_) (fun c17 => ?_)
      · exact zj_vret hC dX7_lands_73
      · exact jX7_lands_22 hC k0 h0 v0 v1 σ15 ls hk_v0 (lv_sub hl [0, 1] rfl)
set_option maxRecDepth 100000 in
set_option maxHeartbeats 4000000 in
theorem lX7_lands_0 {p : Program} {l : Launch} {e : Env} {s : State} {m : MethodId} {args : Array Value} {below : List Frame} {meth : Method} {c : Code} {b0 : Nat} {cA : Nat → ClassId} {D : va_G} {L : List (Nat × Nat)} (hC : zC p c s m args meth cX7_lands 3 (none) (Cond.code yX7_lands cX7_lands 3 (none)) yX7_lands.cls cA D)  (n : Nat) : ∀ (v0 : Nat) (v1 : Int32) (σ : zS) (ls : Array Slot), L[v0]? = some (0, 7) → lv_has ls 3 [(0, .ref (b0 + v0)), (1, .int v1)] → zJ p l e rmX7_lands s m args below meth c b0 cA D L (fun z => MQ below (va_Qv (fun (u : zS) => ((), u) = z) (zB b0 cA D L) (zA b0 L)) args s 0 0 (zA b0 L)) (fX7_lands_0  n v0 v1 σ) σ 0 ls [] := by
  induction n with
  | zero => intros; exact zj_none
  | succ n ih => exact jX7_lands_0 hC (fX7_lands_0  n) ih
set_option maxRecDepth 100000 in
set_option maxHeartbeats 4000000 in
theorem kX7_lands (l : Launch) (b0 : Nat) (cA : Nat → ClassId) (D : va_G) (L : List (Nat × Nat)) (v0 : Nat) (v1 : Int32) (σ : zS) (hk0 : L[v0]? = some (0, 7)) : zMv l b0 cA D L yX7_lands (Cond.code yX7_lands cX7_lands 3 (none)) rmX7_lands [.ref (b0 + v0), .int v1] σ (fX7_lands v0 v1 σ) := by
  refine zMv_of (by decide) (Nat.le_of_ble_eq_true rfl) ?_
  intro p e s m below meth c ls hC hl
  have hl : lv_has ls 3 [(0, .ref (b0 + v0)), (1, .int v1)] := hl
  generalize ([.ref (b0 + v0), .int v1] : List Value).toArray = args at hC ⊢
  unfold fX7_lands
  exact lX7_lands_0 hC zFU v0 v1 σ ls hk0 (lv_sub hl [0, 1] rfl)
-- X7_jumps
theorem ddX7_jumps : yX7_jumps.cls ≠ "java/lang/invoke/MethodHandle" ∧ yX7_jumps.cls ≠ "java/lang/invoke/VarHandle" ∧ (parseMethodDescriptor yX7_jumps.desc).map (fun d => d.parameters.length) = some 1 := by decide +kernel
abbrev rmX7_jumps : Room := { frames := 1, cells := 0, slots := 0, locals := 22 }
def fX7_jumps (v0 : Nat) (v1 : Int32) (σ : zS) : Option (Unit × zS) :=
  bnd (σ.2 v0 21) (fun (q1 : Nat) => zX (σ.1 v0 17) 140 (bnd (zI σ q1 ((σ.1 v0 17)).toNatClampNeg (((1048576 : Int32) * v1) + (σ.1 v0 16))) (fun (σ3 : zS) => bnd (zI σ3 v0 17 ((σ3.1 v0 17) + (1 : Int32))) (fun (σ4 : zS) => zb (fX7_says v0 v1 (0 : Int32) σ4) (fun (_ : Unit) (σ5 : zS) => bnd (zI σ5 v0 12 ((σ5.1 v0 12) + (1 : Int32))) (fun (σ7 : zS) => some ((), σ7)))))))
set_option maxRecDepth 100000 in
set_option maxHeartbeats 4000000 in
theorem kX7_jumps (l : Launch) (b0 : Nat) (cA : Nat → ClassId) (D : va_G) (L : List (Nat × Nat)) (v0 : Nat) (v1 : Int32) (σ : zS) (hk0 : L[v0]? = some (0, 7)) : zMv l b0 cA D L yX7_jumps (Cond.code yX7_jumps cX7_jumps 2 (none)) rmX7_jumps [.ref (b0 + v0), .int v1] σ (fX7_jumps v0 v1 σ) := by
  refine zMv_of (by decide) (Nat.le_of_ble_eq_true rfl) ?_
  intro p e s m below meth c ls hC hl
  have hl : lv_has ls 2 [(0, .ref (b0 + v0)), (1, .int v1)] := hl
  generalize ([.ref (b0 + v0), .int v1] : List Value).toArray = args at hC ⊢
  unfold fX7_jumps
  refine zj_aload_n (pc' := 1) hC dX7_jumps_0 rfl rfl (lv_at hl 0 rfl) ?_
  refine zj_getR (pc' := 4) hC hk0 fd_7_21 rfl tw_4_69 dX7_jumps_1 rfl (fun q1 hk_q1 => ?_)
  refine zj_aload_n (pc' := 5) hC dX7_jumps_4 rfl rfl (lv_at hl 0 rfl) ?_
  refine zj_getI (pc' := 8) hC hk0 fd_7_17 rfl tw_4_65 dX7_jumps_5 rfl ?_
  refine zj_ldc (pc' := 10) (v := (1048576 : Int32)) hC tw_5_48 dX7_jumps_8 rfl ?_
  refine zj_iload_n (pc' := 11) hC dX7_jumps_10 rfl rfl (lv_at hl 1 rfl) ?_
  refine zj_imul (pc' := 12) hC dX7_jumps_11 rfl ?_
  refine zj_aload_n (pc' := 13) hC dX7_jumps_12 rfl rfl (lv_at hl 0 rfl) ?_
  refine zj_getI (pc' := 16) hC hk0 fd_7_16 rfl tw_4_64 dX7_jumps_13 rfl ?_
  refine zj_iadd (pc' := 17) hC dX7_jumps_16 rfl ?_
  refine zj_iast (pc' := 18) hC hk_q1 dX7_jumps_17 rfl (fun g2 σ3 => ?_)
  refine zj_aload_n (pc' := 19) hC dX7_jumps_18 rfl rfl (lv_at hl 0 rfl) ?_
  refine zj_aload_n (pc' := 20) hC dX7_jumps_19 rfl rfl (lv_at hl 0 rfl) ?_
  refine zj_getI (pc' := 23) hC hk0 fd_7_17 rfl tw_4_65 dX7_jumps_20 rfl ?_
  refine zj_iconst (pc' := 24) (v := (1 : Int32)) hC dX7_jumps_23 rfl rfl ?_
  refine zj_iadd (pc' := 25) hC dX7_jumps_24 rfl ?_
  refine zj_putI (pc' := 28) hC hk0 fd_7_17 rfl tw_4_65 rfl rfl rfl dX7_jumps_25 rfl (fun σ4 => ?_)
  refine zj_aload_n (pc' := 29) hC dX7_jumps_28 rfl rfl (lv_at hl 0 rfl) ?_
  refine zj_iload_n (pc' := 30) hC dX7_jumps_29 rfl rfl (lv_at hl 1 rfl) ?_
  refine zj_iconst (pc' := 31) (v := (0 : Int32)) hC dX7_jumps_30 rfl rfl ?_
  refine zj_callvV (pc' := 34) (rest := []) hC (kX7_says l b0 cA D L v0 v1 (0 : Int32) σ4 hk0) hk0 rfl tw_5_72 tw_5_69 tw_5_71 ts_4_0 tw_1_8 ddX7_says rfl ⟨rfl, rfl⟩ ⟨by decide, by decide⟩ hl.1 (Nat.le_of_ble_eq_true rfl) rfl dX7_jumps_31 rfl (fun σ5 => ?_)
  refine zj_aload_n (pc' := 35) hC dX7_jumps_34 rfl rfl (lv_at hl 0 rfl) ?_
  refine zj_aload_n (pc' := 36) hC dX7_jumps_35 rfl rfl (lv_at hl 0 rfl) ?_
  refine zj_getI (pc' := 39) hC hk0 fd_7_12 rfl tw_4_60 dX7_jumps_36 rfl ?_
  refine zj_iconst (pc' := 40) (v := (1 : Int32)) hC dX7_jumps_39 rfl rfl ?_
  refine zj_iadd (pc' := 41) hC dX7_jumps_40 rfl ?_
  refine zj_putI (pc' := 44) hC hk0 fd_7_12 rfl tw_4_60 rfl rfl rfl dX7_jumps_41 rfl (fun σ7 => ?_)
  exact zj_vret hC dX7_jumps_44
-- X7_readsCompared
theorem ddX7_readsCompared : yX7_readsCompared.cls ≠ "java/lang/invoke/MethodHandle" ∧ yX7_readsCompared.cls ≠ "java/lang/invoke/VarHandle" ∧ (parseMethodDescriptor yX7_readsCompared.desc).map (fun d => d.parameters.length) = some 0 := by decide +kernel
abbrev rmX7_readsCompared : Room := { frames := 5, cells := 0, slots := 0, locals := 104 }
def bX7_readsCompared_52  (v0 : Nat) (s0 : Int32) (σ : zS) : Option (Int32 × zS) :=
  if s0 = (-1 : Int32) then (zb (fX7_wrong v0 (1 : Int32) ((σ.1 v0 12)) σ) (fun (r11 : Int32) (σ10 : zS) => some (r11, σ10))) else (bnd (zI σ v0 12 ((σ.1 v0 12) + (1 : Int32))) (fun (σ2 : zS) => zb (fX7_readsSum v0 σ2) (fun (r4 : Int32) (σ3 : zS) => if r4 = 0 then (some ((0 : Int32), σ3)) else (zb (fX7_says v0 s0 (0 : Int32) σ3) (fun (_ : Unit) (σ6 : zS) => zb (fX7_endsPiece v0 σ6) (fun (_ : Unit) (σ8 : zS) => some ((1 : Int32), σ8)))))))
def fX7_readsCompared (v0 : Nat) (σ : zS) : Option (Int32 × zS) :=
  zb (fX7_readsSum v0 σ) (fun (r13 : Int32) (σ12 : zS) => if r13 = 0 then (some ((0 : Int32), σ12)) else (zb (fX7_here v0 σ12) (fun (r16 : Int32) (σ15 : zS) => if r16 = (60 : Int32) then (bX7_readsCompared_52 v0 (7 : Int32) σ15) else (zb (fX7_here v0 σ15) (fun (r19 : Int32) (σ18 : zS) => if r19 = (62 : Int32) then (bX7_readsCompared_52 v0 (8 : Int32) σ18) else (zb (fX7_here v0 σ18) (fun (r22 : Int32) (σ21 : zS) => if r22 = (61 : Int32) then (bX7_readsCompared_52 v0 (9 : Int32) σ21) else (bX7_readsCompared_52 v0 (-1 : Int32) σ21))))))))
set_option maxRecDepth 100000 in
set_option maxHeartbeats 4000000 in
theorem jX7_readsCompared_52 {p : Program} {l : Launch} {e : Env} {s : State} {m : MethodId} {args : Array Value} {below : List Frame} {meth : Method} {c : Code} {b0 : Nat} {cA : Nat → ClassId} {D : va_G} {L : List (Nat × Nat)} (hC : zC p c s m args meth cX7_readsCompared 2 (some Jvm.ClassFile.FieldType.boolean) (Cond.code yX7_readsCompared cX7_readsCompared 2 (some Jvm.ClassFile.FieldType.boolean)) yX7_readsCompared.cls cA D)  (v0 : Nat) (s0 : Int32) (σ : zS) (ls : Array Slot) (hk_v0 : L[v0]? = some (0, 7)) (hl : lv_has ls 2 [(0, .ref (b0 + v0))]) : zJ p l e rmX7_readsCompared s m args below meth c b0 cA D L (fun z => MQ below (va_Qi (fun (r : Int32) (u : zS) => (r, u) = z ∧ nB r) (zB b0 cA D L) (zA b0 L)) args s 0 0 (zA b0 L)) (bX7_readsCompared_52  v0 s0 σ) σ 52 ls [.int s0] := by
  unfold bX7_readsCompared_52
  refine zj_istore_n (pc' := 53) (lv' := [(1, .int s0), (0, .ref (b0 + v0))]) hC dX7_readsCompared_52 rfl rfl hl (by decide) rfl (fun ls hl => ?_)
  refine zj_iload_n (pc' := 54) hC dX7_readsCompared_53 rfl rfl (lv_at hl 0 rfl) ?_
  refine zj_iconst (pc' := 55) (v := (-1 : Int32)) hC dX7_readsCompared_54 rfl rfl ?_
  refine zj_icmp_ne (tgt := 68) (pc' := 58) hC dX7_readsCompared_55 (by decide) rfl (fun c1 => ?_) (fun c1 => ?_)
  · refine zj_aload_n (pc' := 69) hC dX7_readsCompared_68 rfl rfl (lv_at hl 1 rfl) ?_
    refine zj_aload_n (pc' := 70) hC dX7_readsCompared_69 rfl rfl (lv_at hl 1 rfl) ?_
    refine zj_getI (pc' := 73) hC hk_v0 fd_7_12 rfl tw_4_60 dX7_readsCompared_70 rfl ?_
    refine zj_iconst (pc' := 74) (v := (1 : Int32)) hC dX7_readsCompared_73 rfl rfl ?_
    refine zj_iadd (pc' := 75) hC dX7_readsCompared_74 rfl ?_
    refine zj_putI (pc' := 78) hC hk_v0 fd_7_12 rfl tw_4_60 rfl rfl rfl dX7_readsCompared_75 rfl (fun σ2 => ?_)
    refine zj_aload_n (pc' := 79) hC dX7_readsCompared_78 rfl rfl (lv_at hl 1 rfl) ?_
    refine zj_callzV (pc' := 82) (rest := []) hC (kX7_readsSum l b0 cA D L v0 σ2 hk_v0) hk_v0 rfl tw_5_56 tw_5_53 tw_5_55 ts_3_12 tw_1_8 ddX7_readsSum rfl ⟨rfl, rfl⟩ ⟨by decide, by decide⟩ hl.1 (Nat.le_of_ble_eq_true rfl) rfl dX7_readsCompared_79 rfl (fun r4 σ3 hb_r4 => ?_)
    refine zj_if_ne (tgt := 87) (pc' := 85) hC dX7_readsCompared_82 (by decide) rfl (fun c5 => ?_) (fun c5 => ?_)
    · refine zj_aload_n (pc' := 88) hC dX7_readsCompared_87 rfl rfl (lv_at hl 1 rfl) ?_
      refine zj_iload_n (pc' := 89) hC dX7_readsCompared_88 rfl rfl (lv_at hl 0 rfl) ?_
      refine zj_iconst (pc' := 90) (v := (0 : Int32)) hC dX7_readsCompared_89 rfl rfl ?_
      refine zj_callvV (pc' := 93) (rest := []) hC (kX7_says l b0 cA D L v0 s0 (0 : Int32) σ3 hk_v0) hk_v0 rfl tw_5_72 tw_5_69 tw_5_71 ts_4_0 tw_1_8 ddX7_says rfl ⟨rfl, rfl⟩ ⟨by decide, by decide⟩ hl.1 (Nat.le_of_ble_eq_true rfl) rfl dX7_readsCompared_90 rfl (fun σ6 => ?_)
      refine zj_aload_n (pc' := 94) hC dX7_readsCompared_93 rfl rfl (lv_at hl 1 rfl) ?_
      refine zj_callvV (pc' := 97) (rest := []) hC (kX7_endsPiece l b0 cA D L v0 σ6 hk_v0) hk_v0 rfl tw_5_94 tw_5_91 tw_5_93 ts_4_4 tw_1_8 ddX7_endsPiece rfl ⟨rfl, rfl⟩ ⟨by decide, by decide⟩ hl.1 (Nat.le_of_ble_eq_true rfl) rfl dX7_readsCompared_94 rfl (fun σ8 => ?_)
      refine zj_iconst (pc' := 98) (v := (1 : Int32)) hC dX7_readsCompared_97 rfl rfl ?_
      exact zj_zret hC nB_1 dX7_readsCompared_98
    · refine zj_iconst (pc' := 86) (v := (0 : Int32)) hC dX7_readsCompared_85 rfl rfl ?_
      exact zj_zret hC nB_0 dX7_readsCompared_86
  · refine zj_aload_n (pc' := 59) hC dX7_readsCompared_58 rfl rfl (lv_at hl 1 rfl) ?_
    refine zj_iconst (pc' := 60) (v := (1 : Int32)) hC dX7_readsCompared_59 rfl rfl ?_
    refine zj_aload_n (pc' := 61) hC dX7_readsCompared_60 rfl rfl (lv_at hl 1 rfl) ?_
    refine zj_getI (pc' := 64) hC hk_v0 fd_7_12 rfl tw_4_60 dX7_readsCompared_61 rfl ?_
    refine zj_callzV (pc' := 67) (rest := []) hC (kX7_wrong l b0 cA D L v0 (1 : Int32) ((σ.1 v0 12)) σ hk_v0) hk_v0 rfl tw_5_39 tw_5_36 tw_5_38 ts_3_8 tw_1_8 ddX7_wrong rfl ⟨rfl, rfl⟩ ⟨by decide, by decide⟩ hl.1 (Nat.le_of_ble_eq_true rfl) rfl dX7_readsCompared_64 rfl (fun r11 σ10 hb_r11 => ?_)
    exact zj_zret hC hb_r11 dX7_readsCompared_67
set_option maxRecDepth 100000 in
set_option maxHeartbeats 4000000 in
theorem kX7_readsCompared (l : Launch) (b0 : Nat) (cA : Nat → ClassId) (D : va_G) (L : List (Nat × Nat)) (v0 : Nat) (σ : zS) (hk0 : L[v0]? = some (0, 7)) : zMz l b0 cA D L yX7_readsCompared (Cond.code yX7_readsCompared cX7_readsCompared 2 (some Jvm.ClassFile.FieldType.boolean)) rmX7_readsCompared [.ref (b0 + v0)] σ (fX7_readsCompared v0 σ) := by
  refine zMz_of (by decide) (Nat.le_of_ble_eq_true rfl) ?_
  intro p e s m below meth c ls hC hl
  have hl : lv_has ls 2 [(0, .ref (b0 + v0))] := hl
  generalize ([.ref (b0 + v0)] : List Value).toArray = args at hC ⊢
  unfold fX7_readsCompared
  refine zj_aload_n (pc' := 1) hC dX7_readsCompared_0 rfl rfl (lv_at hl 0 rfl) ?_
  refine zj_callzV (pc' := 4) (rest := []) hC (kX7_readsSum l b0 cA D L v0 σ hk0) hk0 rfl tw_5_56 tw_5_53 tw_5_55 ts_3_12 tw_1_8 ddX7_readsSum rfl ⟨rfl, rfl⟩ ⟨by decide, by decide⟩ hl.1 (Nat.le_of_ble_eq_true rfl) rfl dX7_readsCompared_1 rfl (fun r13 σ12 hb_r13 => ?_)
  refine zj_if_ne (tgt := 9) (pc' := 7) hC dX7_readsCompared_4 (by decide) rfl (fun c14 => ?_) (fun c14 => ?_)
  · refine zj_aload_n (pc' := 10) hC dX7_readsCompared_9 rfl rfl (lv_at hl 0 rfl) ?_
    refine zj_calliV (pc' := 13) (rest := []) hC (kX7_here l b0 cA D L v0 σ12 hk0) hk0 rfl tw_5_35 tw_5_32 tw_5_34 ts_3_7 tw_1_8 ddX7_here rfl ⟨rfl, rfl⟩ ⟨by decide, by decide⟩ hl.1 (Nat.le_of_ble_eq_true rfl) rfl dX7_readsCompared_10 rfl (fun r16 σ15 => ?_)
    refine zj_bipush (pc' := 15) (v := (60 : Int32)) hC dX7_readsCompared_13 rfl rfl ?_
    refine zj_icmp_ne (tgt := 23) (pc' := 18) hC dX7_readsCompared_15 (by decide) rfl (fun c17 => ?_) (fun c17 => ?_)
    · refine zj_aload_n (pc' := 24) hC dX7_readsCompared_23 rfl rfl (lv_at hl 0 rfl) ?_
      refine zj_calliV (pc' := 27) (rest := []) hC (kX7_here l b0 cA D L v0 σ15 hk0) hk0 rfl tw_5_35 tw_5_32 tw_5_34 ts_3_7 tw_1_8 ddX7_here rfl ⟨rfl, rfl⟩ ⟨by decide, by decide⟩ hl.1 (Nat.le_of_ble_eq_true rfl) rfl dX7_readsCompared_24 rfl (fun r19 σ18 => ?_)
      refine zj_bipush (pc' := 29) (v := (62 : Int32)) hC dX7_readsCompared_27 rfl rfl ?_
      refine zj_icmp_ne (tgt := 37) (pc' := 32) hC dX7_readsCompared_29 (by decide) rfl (fun c20 => ?_) (fun c20 => ?_)
      · refine zj_aload_n (pc' := 38) hC dX7_readsCompared_37 rfl rfl (lv_at hl 0 rfl) ?_
        refine zj_calliV (pc' := 41) (rest := []) hC (kX7_here l b0 cA D L v0 σ18 hk0) hk0 rfl tw_5_35 tw_5_32 tw_5_34 ts_3_7 tw_1_8 ddX7_here rfl ⟨rfl, rfl⟩ ⟨by decide, by decide⟩ hl.1 (Nat.le_of_ble_eq_true rfl) rfl dX7_readsCompared_38 rfl (fun r22 σ21 => ?_)
        refine zj_bipush (pc' := 43) (v := (61 : Int32)) hC dX7_readsCompared_41 rfl rfl ?_
        refine zj_icmp_ne (tgt := 51) (pc' := 46) hC dX7_readsCompared_43 (by decide) rfl (fun c23 => ?_) (fun c23 => ?_)
        · refine zj_iconst (pc' := 52) (v := (-1 : Int32)) hC dX7_readsCompared_51 rfl rfl ?_
          exact jX7_readsCompared_52 hC v0 (-1 : Int32) σ21 ls hk0 (lv_sub hl [0] rfl)
        · refine zj_bipush (pc' := 48) (v := (9 : Int32)) hC dX7_readsCompared_46 rfl rfl ?_
          refine zj_goto (tgt := 52) hC dX7_readsCompared_48 (by decide) ?_
          exact jX7_readsCompared_52 hC v0 (9 : Int32) σ21 ls hk0 (lv_sub hl [0] rfl)
      · refine zj_bipush (pc' := 34) (v := (8 : Int32)) hC dX7_readsCompared_32 rfl rfl ?_
        refine zj_goto (tgt := 52) hC dX7_readsCompared_34 (by decide) ?_
        exact jX7_readsCompared_52 hC v0 (8 : Int32) σ18 ls hk0 (lv_sub hl [0] rfl)
    · refine zj_bipush (pc' := 20) (v := (7 : Int32)) hC dX7_readsCompared_18 rfl rfl ?_
      refine zj_goto (tgt := 52) hC dX7_readsCompared_20 (by decide) ?_
      exact jX7_readsCompared_52 hC v0 (7 : Int32) σ15 ls hk0 (lv_sub hl [0] rfl)
  · refine zj_iconst (pc' := 8) (v := (0 : Int32)) hC dX7_readsCompared_7 rfl rfl ?_
    exact zj_zret hC nB_0 dX7_readsCompared_8
-- X7_readsCondition
theorem ddX7_readsCondition : yX7_readsCondition.cls ≠ "java/lang/invoke/MethodHandle" ∧ yX7_readsCondition.cls ≠ "java/lang/invoke/VarHandle" ∧ (parseMethodDescriptor yX7_readsCondition.desc).map (fun d => d.parameters.length) = some 0 := by decide +kernel
abbrev rmX7_readsCondition : Room := { frames := 6, cells := 0, slots := 0, locals := 125 }
def bX7_readsCondition_215 (k40 : Nat → zS → Option (Int32 × zS)) (v0 : Nat) (s0 : Nat) (s1 : Int32) (σ : zS) : Option (Int32 × zS) :=
  zb (fX7_jumps s0 s1 σ) (fun (_ : Unit) (σ1 : zS) => k40 v0 σ1)
def bX7_readsCondition_195 (k40 : Nat → zS → Option (Int32 × zS)) (v0 : Nat) (s0 : Nat) (s1 : Int32) (σ : zS) : Option (Int32 × zS) :=
  zb (fX7_lands s0 s1 σ) (fun (_ : Unit) (σ3 : zS) => zb (fX7_here v0 σ3) (fun (r6 : Int32) (σ5 : zS) => if r6 = (38 : Int32) then (bX7_readsCondition_215 k40 v0 v0 (11 : Int32) σ5) else (bX7_readsCondition_215 k40 v0 v0 (12 : Int32) σ5)))
def bX7_readsCondition_180 (k40 : Nat → zS → Option (Int32 × zS)) (v0 : Nat) (σ : zS) : Option (Int32 × zS) :=
  zb (fX7_here v0 σ) (fun (r9 : Int32) (σ8 : zS) => if r9 = (124 : Int32) then (bX7_readsCondition_195 k40 v0 v0 (1 : Int32) σ8) else (bX7_readsCondition_195 k40 v0 v0 (0 : Int32) σ8))
def bX7_readsCondition_170  (v0 : Nat) (σ : zS) : Option (Int32 × zS) :=
  zb (fX7_wrong v0 (1 : Int32) ((σ.1 v0 12)) σ) (fun (r12 : Int32) (σ11 : zS) => some (r12, σ11))
def bX7_readsCondition_152 (k40 : Nat → zS → Option (Int32 × zS)) (v0 : Nat) (σ : zS) : Option (Int32 × zS) :=
  zb (fX7_here v0 σ) (fun (r14 : Int32) (σ13 : zS) => if r14 = (38 : Int32) then (bX7_readsCondition_180 k40 v0 σ13) else (zb (fX7_here v0 σ13) (fun (r17 : Int32) (σ16 : zS) => if r17 = (124 : Int32) then (bX7_readsCondition_180 k40 v0 σ16) else (bX7_readsCondition_170 v0 σ16))))
def bX7_readsCondition_92 (k40 : Nat → zS → Option (Int32 × zS)) (k92 : Nat → zS → Option (Int32 × zS)) (v0 : Nat) (σ : zS) : Option (Int32 × zS) :=
  zb (fX7_here v0 σ) (fun (r20 : Int32) (σ19 : zS) => if r20 = (41 : Int32) then (zb (fX7_lands v0 (1 : Int32) σ19) (fun (_ : Unit) (σ22 : zS) => bnd (zI σ22 v0 17 ((σ22.1 v0 17) - (1 : Int32))) (fun (σ24 : zS) => bnd (zI σ24 v0 15 ((σ24.1 v0 15) - (1 : Int32))) (fun (σ25 : zS) => bnd (zI σ25 v0 12 ((σ25.1 v0 12) + (1 : Int32))) (fun (σ26 : zS) => if (σ26.1 v0 17) = 0 then (some ((1 : Int32), σ26)) else (zb (fX7_endsPiece v0 σ26) (fun (_ : Unit) (σ28 : zS) => k92 v0 σ28))))))) else (bX7_readsCondition_152 k40 v0 σ19))
def fX7_readsCondition_92 (k40 : Nat → zS → Option (Int32 × zS)) : Nat → Nat → zS → Option (Int32 × zS)
  | 0, _, _ => none
  | n + 1, v0, σ => bX7_readsCondition_92 k40 (fX7_readsCondition_92 k40 n) v0 σ
def bX7_readsCondition_75 (k40 : Nat → zS → Option (Int32 × zS)) (v0 : Nat) (s0 : Nat) (s1 : Int32) (σ : zS) : Option (Int32 × zS) :=
  zb (fX7_opens s0 s1 σ) (fun (r31 : Int32) (σ30 : zS) => if r31 = 0 then (some ((0 : Int32), σ30)) else (k40 v0 σ30))
def bX7_readsCondition_58 (k40 : Nat → zS → Option (Int32 × zS)) (v0 : Nat) (σ : zS) : Option (Int32 × zS) :=
  zb (fX7_here v0 σ) (fun (r34 : Int32) (σ33 : zS) => if r34 = (33 : Int32) then (bX7_readsCondition_75 k40 v0 v0 (10 : Int32) σ33) else (bX7_readsCondition_75 k40 v0 v0 (13 : Int32) σ33))
def bX7_readsCondition_40 (k40 : Nat → zS → Option (Int32 × zS)) (v0 : Nat) (σ : zS) : Option (Int32 × zS) :=
  zb (fX7_here v0 σ) (fun (r37 : Int32) (σ36 : zS) => if r37 = (33 : Int32) then (bX7_readsCondition_58 k40 v0 σ36) else (zb (fX7_here v0 σ36) (fun (r40 : Int32) (σ39 : zS) => if r40 = (40 : Int32) then (bX7_readsCondition_58 k40 v0 σ39) else (zb (fX7_readsCompared v0 σ39) (fun (r43 : Int32) (σ42 : zS) => if r43 = 0 then (some ((0 : Int32), σ42)) else (fX7_readsCondition_92 k40 zFU v0 σ42))))))
def fX7_readsCondition_40  : Nat → Nat → zS → Option (Int32 × zS)
  | 0, _, _ => none
  | n + 1, v0, σ => bX7_readsCondition_40 (fX7_readsCondition_40  n) v0 σ
def fX7_readsCondition (v0 : Nat) (σ : zS) : Option (Int32 × zS) :=
  zb (fX7_here v0 σ) (fun (r46 : Int32) (σ45 : zS) => if r46 = (40 : Int32) then (bnd (zI σ45 v0 15 (0 : Int32)) (fun (σ48 : zS) => bnd (zI σ48 v0 17 (0 : Int32)) (fun (σ49 : zS) => zb (fX7_opens v0 (13 : Int32) σ49) (fun (r51 : Int32) (σ50 : zS) => if r51 = 0 then (some ((0 : Int32), σ50)) else (fX7_readsCondition_40 zFU v0 σ50))))) else (zb (fX7_wrong v0 (1 : Int32) ((σ45.1 v0 12)) σ45) (fun (r54 : Int32) (σ53 : zS) => some (r54, σ53))))
set_option maxRecDepth 100000 in
set_option maxHeartbeats 4000000 in
theorem jX7_readsCondition_215 {p : Program} {l : Launch} {e : Env} {s : State} {m : MethodId} {args : Array Value} {below : List Frame} {meth : Method} {c : Code} {b0 : Nat} {cA : Nat → ClassId} {D : va_G} {L : List (Nat × Nat)} (hC : zC p c s m args meth cX7_readsCondition 1 (some Jvm.ClassFile.FieldType.boolean) (Cond.code yX7_readsCondition cX7_readsCondition 1 (some Jvm.ClassFile.FieldType.boolean)) yX7_readsCondition.cls cA D) (k40 : Nat → zS → Option (Int32 × zS)) (h40 : ∀ (v0 : Nat) (σ : zS) (ls : Array Slot), L[v0]? = some (0, 7) → lv_has ls 1 [(0, .ref (b0 + v0))] → zJ p l e rmX7_readsCondition s m args below meth c b0 cA D L (fun z => MQ below (va_Qi (fun (r : Int32) (u : zS) => (r, u) = z ∧ nB r) (zB b0 cA D L) (zA b0 L)) args s 0 0 (zA b0 L)) (k40 v0 σ) σ 40 ls []) (v0 : Nat) (s0 : Nat) (s1 : Int32) (σ : zS) (ls : Array Slot) (hk_v0 : L[v0]? = some (0, 7)) (hk_s0 : L[s0]? = some (0, 7)) (hl : lv_has ls 1 [(0, .ref (b0 + v0))]) : zJ p l e rmX7_readsCondition s m args below meth c b0 cA D L (fun z => MQ below (va_Qi (fun (r : Int32) (u : zS) => (r, u) = z ∧ nB r) (zB b0 cA D L) (zA b0 L)) args s 0 0 (zA b0 L)) (bX7_readsCondition_215 k40 v0 s0 s1 σ) σ 215 ls [.int s1, .ref (b0 + s0)] := by
  unfold bX7_readsCondition_215
  refine zj_callvV (pc' := 218) (rest := []) hC (kX7_jumps l b0 cA D L s0 s1 σ hk_s0) hk_s0 rfl tw_5_102 tw_5_99 tw_5_101 ts_4_6 tw_1_8 ddX7_jumps rfl ⟨rfl, rfl⟩ ⟨by decide, by decide⟩ hl.1 (Nat.le_of_ble_eq_true rfl) rfl dX7_readsCondition_215 rfl (fun σ1 => ?_)
  refine zj_goto (tgt := 40) hC dX7_readsCondition_218 (by decide) ?_
  exact h40 v0 σ1 ls hk_v0 (lv_sub hl [0] rfl)
set_option maxRecDepth 100000 in
set_option maxHeartbeats 4000000 in
theorem jX7_readsCondition_195 {p : Program} {l : Launch} {e : Env} {s : State} {m : MethodId} {args : Array Value} {below : List Frame} {meth : Method} {c : Code} {b0 : Nat} {cA : Nat → ClassId} {D : va_G} {L : List (Nat × Nat)} (hC : zC p c s m args meth cX7_readsCondition 1 (some Jvm.ClassFile.FieldType.boolean) (Cond.code yX7_readsCondition cX7_readsCondition 1 (some Jvm.ClassFile.FieldType.boolean)) yX7_readsCondition.cls cA D) (k40 : Nat → zS → Option (Int32 × zS)) (h40 : ∀ (v0 : Nat) (σ : zS) (ls : Array Slot), L[v0]? = some (0, 7) → lv_has ls 1 [(0, .ref (b0 + v0))] → zJ p l e rmX7_readsCondition s m args below meth c b0 cA D L (fun z => MQ below (va_Qi (fun (r : Int32) (u : zS) => (r, u) = z ∧ nB r) (zB b0 cA D L) (zA b0 L)) args s 0 0 (zA b0 L)) (k40 v0 σ) σ 40 ls []) (v0 : Nat) (s0 : Nat) (s1 : Int32) (σ : zS) (ls : Array Slot) (hk_v0 : L[v0]? = some (0, 7)) (hk_s0 : L[s0]? = some (0, 7)) (hb_s1 : nB s1) (hl : lv_has ls 1 [(0, .ref (b0 + v0))]) : zJ p l e rmX7_readsCondition s m args below meth c b0 cA D L (fun z => MQ below (va_Qi (fun (r : Int32) (u : zS) => (r, u) = z ∧ nB r) (zB b0 cA D L) (zA b0 L)) args s 0 0 (zA b0 L)) (bX7_readsCondition_195 k40 v0 s0 s1 σ) σ 195 ls [.int s1, .ref (b0 + s0)] := by
  unfold bX7_readsCondition_195
  refine zj_callvV (pc' := 198) (rest := []) hC (kX7_lands l b0 cA D L s0 s1 σ hk_s0) hk_s0 rfl tw_5_98 tw_5_95 tw_5_97 ts_4_5 tw_1_8 ddX7_lands rfl ⟨rfl, rfl⟩ ⟨by decide, by decide⟩ hl.1 (Nat.le_of_ble_eq_true rfl) rfl dX7_readsCondition_195 rfl (fun σ3 => ?_)
  refine zj_aload_n (pc' := 199) hC dX7_readsCondition_198 rfl rfl (lv_at hl 0 rfl) ?_
  refine zj_aload_n (pc' := 200) hC dX7_readsCondition_199 rfl rfl (lv_at hl 0 rfl) ?_
  refine zj_calliV (pc' := 203) (rest := [.ref (b0 + v0)]) hC (kX7_here l b0 cA D L v0 σ3 hk_v0) hk_v0 rfl tw_5_35 tw_5_32 tw_5_34 ts_3_7 tw_1_8 ddX7_here rfl ⟨rfl, rfl⟩ ⟨by decide, by decide⟩ hl.1 (Nat.le_of_ble_eq_true rfl) rfl dX7_readsCondition_200 rfl (fun r6 σ5 => ?_)
  refine zj_bipush (pc' := 205) (v := (38 : Int32)) hC dX7_readsCondition_203 rfl rfl ?_
  refine zj_icmp_ne (tgt := 213) (pc' := 208) hC dX7_readsCondition_205 (by decide) rfl (fun c7 => ?_) (fun c7 => ?_)
  · refine zj_bipush (pc' := 215) (v := (12 : Int32)) hC dX7_readsCondition_213 rfl rfl ?_
    exact jX7_readsCondition_215 hC k40 h40 v0 v0 (12 : Int32) σ5 ls hk_v0 hk_v0 (lv_sub hl [0] rfl)
  · refine zj_bipush (pc' := 210) (v := (11 : Int32)) hC dX7_readsCondition_208 rfl rfl ?_
    refine zj_goto (tgt := 215) hC dX7_readsCondition_210 (by decide) ?_
    exact jX7_readsCondition_215 hC k40 h40 v0 v0 (11 : Int32) σ5 ls hk_v0 hk_v0 (lv_sub hl [0] rfl)
set_option maxRecDepth 100000 in
set_option maxHeartbeats 4000000 in
theorem jX7_readsCondition_180 {p : Program} {l : Launch} {e : Env} {s : State} {m : MethodId} {args : Array Value} {below : List Frame} {meth : Method} {c : Code} {b0 : Nat} {cA : Nat → ClassId} {D : va_G} {L : List (Nat × Nat)} (hC : zC p c s m args meth cX7_readsCondition 1 (some Jvm.ClassFile.FieldType.boolean) (Cond.code yX7_readsCondition cX7_readsCondition 1 (some Jvm.ClassFile.FieldType.boolean)) yX7_readsCondition.cls cA D) (k40 : Nat → zS → Option (Int32 × zS)) (h40 : ∀ (v0 : Nat) (σ : zS) (ls : Array Slot), L[v0]? = some (0, 7) → lv_has ls 1 [(0, .ref (b0 + v0))] → zJ p l e rmX7_readsCondition s m args below meth c b0 cA D L (fun z => MQ below (va_Qi (fun (r : Int32) (u : zS) => (r, u) = z ∧ nB r) (zB b0 cA D L) (zA b0 L)) args s 0 0 (zA b0 L)) (k40 v0 σ) σ 40 ls []) (v0 : Nat) (σ : zS) (ls : Array Slot) (hk_v0 : L[v0]? = some (0, 7)) (hl : lv_has ls 1 [(0, .ref (b0 + v0))]) : zJ p l e rmX7_readsCondition s m args below meth c b0 cA D L (fun z => MQ below (va_Qi (fun (r : Int32) (u : zS) => (r, u) = z ∧ nB r) (zB b0 cA D L) (zA b0 L)) args s 0 0 (zA b0 L)) (bX7_readsCondition_180 k40 v0 σ) σ 180 ls [] := by
  unfold bX7_readsCondition_180
  refine zj_aload_n (pc' := 181) hC dX7_readsCondition_180 rfl rfl (lv_at hl 0 rfl) ?_
  refine zj_aload_n (pc' := 182) hC dX7_readsCondition_181 rfl rfl (lv_at hl 0 rfl) ?_
  refine zj_calliV (pc' := 185) (rest := [.ref (b0 + v0)]) hC (kX7_here l b0 cA D L v0 σ hk_v0) hk_v0 rfl tw_5_35 tw_5_32 tw_5_34 ts_3_7 tw_1_8 ddX7_here rfl ⟨rfl, rfl⟩ ⟨by decide, by decide⟩ hl.1 (Nat.le_of_ble_eq_true rfl) rfl dX7_readsCondition_182 rfl (fun r9 σ8 => ?_)
  refine zj_bipush (pc' := 187) (v := (124 : Int32)) hC dX7_readsCondition_185 rfl rfl ?_
  refine zj_icmp_ne (tgt := 194) (pc' := 190) hC dX7_readsCondition_187 (by decide) rfl (fun c10 => ?_) (fun c10 => ?_)
  · refine zj_iconst (pc' := 195) (v := (0 : Int32)) hC dX7_readsCondition_194 rfl rfl ?_
    exact jX7_readsCondition_195 hC k40 h40 v0 v0 (0 : Int32) σ8 ls hk_v0 hk_v0 nB_0 (lv_sub hl [0] rfl)
  · refine zj_iconst (pc' := 191) (v := (1 : Int32)) hC dX7_readsCondition_190 rfl rfl ?_
    refine zj_goto (tgt := 195) hC dX7_readsCondition_191 (by decide) ?_
    exact jX7_readsCondition_195 hC k40 h40 v0 v0 (1 : Int32) σ8 ls hk_v0 hk_v0 nB_1 (lv_sub hl [0] rfl)
set_option maxRecDepth 100000 in
set_option maxHeartbeats 4000000 in
theorem jX7_readsCondition_170 {p : Program} {l : Launch} {e : Env} {s : State} {m : MethodId} {args : Array Value} {below : List Frame} {meth : Method} {c : Code} {b0 : Nat} {cA : Nat → ClassId} {D : va_G} {L : List (Nat × Nat)} (hC : zC p c s m args meth cX7_readsCondition 1 (some Jvm.ClassFile.FieldType.boolean) (Cond.code yX7_readsCondition cX7_readsCondition 1 (some Jvm.ClassFile.FieldType.boolean)) yX7_readsCondition.cls cA D)  (v0 : Nat) (σ : zS) (ls : Array Slot) (hk_v0 : L[v0]? = some (0, 7)) (hl : lv_has ls 1 [(0, .ref (b0 + v0))]) : zJ p l e rmX7_readsCondition s m args below meth c b0 cA D L (fun z => MQ below (va_Qi (fun (r : Int32) (u : zS) => (r, u) = z ∧ nB r) (zB b0 cA D L) (zA b0 L)) args s 0 0 (zA b0 L)) (bX7_readsCondition_170  v0 σ) σ 170 ls [] := by
  unfold bX7_readsCondition_170
  refine zj_aload_n (pc' := 171) hC dX7_readsCondition_170 rfl rfl (lv_at hl 0 rfl) ?_
  refine zj_iconst (pc' := 172) (v := (1 : Int32)) hC dX7_readsCondition_171 rfl rfl ?_
  refine zj_aload_n (pc' := 173) hC dX7_readsCondition_172 rfl rfl (lv_at hl 0 rfl) ?_
  refine zj_getI (pc' := 176) hC hk_v0 fd_7_12 rfl tw_4_60 dX7_readsCondition_173 rfl ?_
  refine zj_callzV (pc' := 179) (rest := []) hC (kX7_wrong l b0 cA D L v0 (1 : Int32) ((σ.1 v0 12)) σ hk_v0) hk_v0 rfl tw_5_39 tw_5_36 tw_5_38 ts_3_8 tw_1_8 ddX7_wrong rfl ⟨rfl, rfl⟩ ⟨by decide, by decide⟩ hl.1 (Nat.le_of_ble_eq_true rfl) rfl dX7_readsCondition_176 rfl (fun r12 σ11 hb_r12 => ?_)
  exact zj_zret hC hb_r12 dX7_readsCondition_179
set_option maxRecDepth 100000 in
set_option maxHeartbeats 4000000 in
theorem jX7_readsCondition_152 {p : Program} {l : Launch} {e : Env} {s : State} {m : MethodId} {args : Array Value} {below : List Frame} {meth : Method} {c : Code} {b0 : Nat} {cA : Nat → ClassId} {D : va_G} {L : List (Nat × Nat)} (hC : zC p c s m args meth cX7_readsCondition 1 (some Jvm.ClassFile.FieldType.boolean) (Cond.code yX7_readsCondition cX7_readsCondition 1 (some Jvm.ClassFile.FieldType.boolean)) yX7_readsCondition.cls cA D) (k40 : Nat → zS → Option (Int32 × zS)) (h40 : ∀ (v0 : Nat) (σ : zS) (ls : Array Slot), L[v0]? = some (0, 7) → lv_has ls 1 [(0, .ref (b0 + v0))] → zJ p l e rmX7_readsCondition s m args below meth c b0 cA D L (fun z => MQ below (va_Qi (fun (r : Int32) (u : zS) => (r, u) = z ∧ nB r) (zB b0 cA D L) (zA b0 L)) args s 0 0 (zA b0 L)) (k40 v0 σ) σ 40 ls []) (v0 : Nat) (σ : zS) (ls : Array Slot) (hk_v0 : L[v0]? = some (0, 7)) (hl : lv_has ls 1 [(0, .ref (b0 + v0))]) : zJ p l e rmX7_readsCondition s m args below meth c b0 cA D L (fun z => MQ below (va_Qi (fun (r : Int32) (u : zS) => (r, u) = z ∧ nB r) (zB b0 cA D L) (zA b0 L)) args s 0 0 (zA b0 L)) (bX7_readsCondition_152 k40 v0 σ) σ 152 ls [] := by
  unfold bX7_readsCondition_152
  refine zj_aload_n (pc' := 153) hC dX7_readsCondition_152 rfl rfl (lv_at hl 0 rfl) ?_
  refine zj_calliV (pc' := 156) (rest := []) hC (kX7_here l b0 cA D L v0 σ hk_v0) hk_v0 rfl tw_5_35 tw_5_32 tw_5_34 ts_3_7 tw_1_8 ddX7_here rfl ⟨rfl, rfl⟩ ⟨by decide, by decide⟩ hl.1 (Nat.le_of_ble_eq_true rfl) rfl dX7_readsCondition_153 rfl (fun r14 σ13 => ?_)
  refine zj_bipush (pc' := 158) (v := (38 : Int32)) hC dX7_readsCondition_156 rfl rfl ?_
  refine zj_icmp_eq (tgt := 180) (pc' := 161) hC dX7_readsCondition_158 (by decide) rfl (fun c15 => ?_) (fun c15 => ?_)
  · exact jX7_readsCondition_180 hC k40 h40 v0 σ13 ls hk_v0 (lv_sub hl [0] rfl)
  · refine zj_aload_n (pc' := 162) hC dX7_readsCondition_161 rfl rfl (lv_at hl 0 rfl) ?_
    refine zj_calliV (pc' := 165) (rest := []) hC (kX7_here l b0 cA D L v0 σ13 hk_v0) hk_v0 rfl tw_5_35 tw_5_32 tw_5_34 ts_3_7 tw_1_8 ddX7_here rfl ⟨rfl, rfl⟩ ⟨by decide, by decide⟩ hl.1 (Nat.le_of_ble_eq_true rfl) rfl dX7_readsCondition_162 rfl (fun r17 σ16 => ?_)
    refine zj_bipush (pc' := 167) (v := (124 : Int32)) hC dX7_readsCondition_165 rfl rfl ?_
    refine zj_icmp_eq (tgt := 180) (pc' := 170) hC dX7_readsCondition_167 (by decide) rfl (fun c18 => ?_) (fun c18 => ?_)
    · exact jX7_readsCondition_180 hC k40 h40 v0 σ16 ls hk_v0 (lv_sub hl [0] rfl)
    · exact jX7_readsCondition_170 hC v0 σ16 ls hk_v0 (lv_sub hl [0] rfl)
set_option maxRecDepth 100000 in
set_option maxHeartbeats 4000000 in
theorem jX7_readsCondition_92 {p : Program} {l : Launch} {e : Env} {s : State} {m : MethodId} {args : Array Value} {below : List Frame} {meth : Method} {c : Code} {b0 : Nat} {cA : Nat → ClassId} {D : va_G} {L : List (Nat × Nat)} (hC : zC p c s m args meth cX7_readsCondition 1 (some Jvm.ClassFile.FieldType.boolean) (Cond.code yX7_readsCondition cX7_readsCondition 1 (some Jvm.ClassFile.FieldType.boolean)) yX7_readsCondition.cls cA D) (k40 : Nat → zS → Option (Int32 × zS)) (h40 : ∀ (v0 : Nat) (σ : zS) (ls : Array Slot), L[v0]? = some (0, 7) → lv_has ls 1 [(0, .ref (b0 + v0))] → zJ p l e rmX7_readsCondition s m args below meth c b0 cA D L (fun z => MQ below (va_Qi (fun (r : Int32) (u : zS) => (r, u) = z ∧ nB r) (zB b0 cA D L) (zA b0 L)) args s 0 0 (zA b0 L)) (k40 v0 σ) σ 40 ls []) (k92 : Nat → zS → Option (Int32 × zS)) (h92 : ∀ (v0 : Nat) (σ : zS) (ls : Array Slot), L[v0]? = some (0, 7) → lv_has ls 1 [(0, .ref (b0 + v0))] → zJ p l e rmX7_readsCondition s m args below meth c b0 cA D L (fun z => MQ below (va_Qi (fun (r : Int32) (u : zS) => (r, u) = z ∧ nB r) (zB b0 cA D L) (zA b0 L)) args s 0 0 (zA b0 L)) (k92 v0 σ) σ 92 ls []) (v0 : Nat) (σ : zS) (ls : Array Slot) (hk_v0 : L[v0]? = some (0, 7)) (hl : lv_has ls 1 [(0, .ref (b0 + v0))]) : zJ p l e rmX7_readsCondition s m args below meth c b0 cA D L (fun z => MQ below (va_Qi (fun (r : Int32) (u : zS) => (r, u) = z ∧ nB r) (zB b0 cA D L) (zA b0 L)) args s 0 0 (zA b0 L)) (bX7_readsCondition_92 k40 k92 v0 σ) σ 92 ls [] := by
  unfold bX7_readsCondition_92
  refine zj_aload_n (pc' := 93) hC dX7_readsCondition_92 rfl rfl (lv_at hl 0 rfl) ?_
  refine zj_calliV (pc' := 96) (rest := []) hC (kX7_here l b0 cA D L v0 σ hk_v0) hk_v0 rfl tw_5_35 tw_5_32 tw_5_34 ts_3_7 tw_1_8 ddX7_here rfl ⟨rfl, rfl⟩ ⟨by decide, by decide⟩ hl.1 (Nat.le_of_ble_eq_true rfl) rfl dX7_readsCondition_93 rfl (fun r20 σ19 => ?_)
  refine zj_bipush (pc' := 98) (v := (41 : Int32)) hC dX7_readsCondition_96 rfl rfl ?_
  refine zj_icmp_ne (tgt := 152) (pc' := 101) hC dX7_readsCondition_98 (by decide) rfl (fun c21 => ?_) (fun c21 => ?_)
  · exact jX7_readsCondition_152 hC k40 h40 v0 σ19 ls hk_v0 (lv_sub hl [0] rfl)
  · refine zj_aload_n (pc' := 102) hC dX7_readsCondition_101 rfl rfl (lv_at hl 0 rfl) ?_
    refine zj_iconst (pc' := 103) (v := (1 : Int32)) hC dX7_readsCondition_102 rfl rfl ?_
    refine zj_callvV (pc' := 106) (rest := []) hC (kX7_lands l b0 cA D L v0 (1 : Int32) σ19 hk_v0) hk_v0 rfl tw_5_98 tw_5_95 tw_5_97 ts_4_5 tw_1_8 ddX7_lands rfl ⟨rfl, rfl⟩ ⟨by decide, by decide⟩ hl.1 (Nat.le_of_ble_eq_true rfl) rfl dX7_readsCondition_103 rfl (fun σ22 => ?_)
    refine zj_aload_n (pc' := 107) hC dX7_readsCondition_106 rfl rfl (lv_at hl 0 rfl) ?_
    refine zj_aload_n (pc' := 108) hC dX7_readsCondition_107 rfl rfl (lv_at hl 0 rfl) ?_
    refine zj_getI (pc' := 111) hC hk_v0 fd_7_17 rfl tw_4_65 dX7_readsCondition_108 rfl ?_
    refine zj_iconst (pc' := 112) (v := (1 : Int32)) hC dX7_readsCondition_111 rfl rfl ?_
    refine zj_isub (pc' := 113) hC dX7_readsCondition_112 rfl ?_
    refine zj_putI (pc' := 116) hC hk_v0 fd_7_17 rfl tw_4_65 rfl rfl rfl dX7_readsCondition_113 rfl (fun σ24 => ?_)
    refine zj_aload_n (pc' := 117) hC dX7_readsCondition_116 rfl rfl (lv_at hl 0 rfl) ?_
    refine zj_aload_n (pc' := 118) hC dX7_readsCondition_117 rfl rfl (lv_at hl 0 rfl) ?_
    refine zj_getI (pc' := 121) hC hk_v0 fd_7_15 rfl tw_4_63 dX7_readsCondition_118 rfl ?_
    refine zj_iconst (pc' := 122) (v := (1 : Int32)) hC dX7_readsCondition_121 rfl rfl ?_
    refine zj_isub (pc' := 123) hC dX7_readsCondition_122 rfl ?_
    refine zj_putI (pc' := 126) hC hk_v0 fd_7_15 rfl tw_4_63 rfl rfl rfl dX7_readsCondition_123 rfl (fun σ25 => ?_)
    refine zj_aload_n (pc' := 127) hC dX7_readsCondition_126 rfl rfl (lv_at hl 0 rfl) ?_
    refine zj_aload_n (pc' := 128) hC dX7_readsCondition_127 rfl rfl (lv_at hl 0 rfl) ?_
    refine zj_getI (pc' := 131) hC hk_v0 fd_7_12 rfl tw_4_60 dX7_readsCondition_128 rfl ?_
    refine zj_iconst (pc' := 132) (v := (1 : Int32)) hC dX7_readsCondition_131 rfl rfl ?_
    refine zj_iadd (pc' := 133) hC dX7_readsCondition_132 rfl ?_
    refine zj_putI (pc' := 136) hC hk_v0 fd_7_12 rfl tw_4_60 rfl rfl rfl dX7_readsCondition_133 rfl (fun σ26 => ?_)
    refine zj_aload_n (pc' := 137) hC dX7_readsCondition_136 rfl rfl (lv_at hl 0 rfl) ?_
    refine zj_getI (pc' := 140) hC hk_v0 fd_7_17 rfl tw_4_65 dX7_readsCondition_137 rfl ?_
    refine zj_if_ne (tgt := 145) (pc' := 143) hC dX7_readsCondition_140 (by decide) rfl (fun c27 => ?_) (fun c27 => ?_)
    · refine zj_aload_n (pc' := 146) hC dX7_readsCondition_145 rfl rfl (lv_at hl 0 rfl) ?_
      refine zj_callvV (pc' := 149) (rest := []) hC (kX7_endsPiece l b0 cA D L v0 σ26 hk_v0) hk_v0 rfl tw_5_94 tw_5_91 tw_5_93 ts_4_4 tw_1_8 ddX7_endsPiece rfl ⟨rfl, rfl⟩ ⟨by decide, by decide⟩ hl.1 (Nat.le_of_ble_eq_true rfl) rfl dX7_readsCondition_146 rfl (fun σ28 => ?_)
      refine zj_goto (tgt := 92) hC dX7_readsCondition_149 (by decide) ?_
      exact h92 v0 σ28 ls hk_v0 (lv_sub hl [0] rfl)
    · refine zj_iconst (pc' := 144) (v := (1 : Int32)) hC dX7_readsCondition_143 rfl rfl ?_
      exact zj_zret hC nB_1 dX7_readsCondition_144
set_option maxRecDepth 100000 in
set_option maxHeartbeats 4000000 in
theorem lX7_readsCondition_92 {p : Program} {l : Launch} {e : Env} {s : State} {m : MethodId} {args : Array Value} {below : List Frame} {meth : Method} {c : Code} {b0 : Nat} {cA : Nat → ClassId} {D : va_G} {L : List (Nat × Nat)} (hC : zC p c s m args meth cX7_readsCondition 1 (some Jvm.ClassFile.FieldType.boolean) (Cond.code yX7_readsCondition cX7_readsCondition 1 (some Jvm.ClassFile.FieldType.boolean)) yX7_readsCondition.cls cA D) (k40 : Nat → zS → Option (Int32 × zS)) (h40 : ∀ (v0 : Nat) (σ : zS) (ls : Array Slot), L[v0]? = some (0, 7) → lv_has ls 1 [(0, .ref (b0 + v0))] → zJ p l e rmX7_readsCondition s m args below meth c b0 cA D L (fun z => MQ below (va_Qi (fun (r : Int32) (u : zS) => (r, u) = z ∧ nB r) (zB b0 cA D L) (zA b0 L)) args s 0 0 (zA b0 L)) (k40 v0 σ) σ 40 ls []) (n : Nat) : ∀ (v0 : Nat) (σ : zS) (ls : Array Slot), L[v0]? = some (0, 7) → lv_has ls 1 [(0, .ref (b0 + v0))] → zJ p l e rmX7_readsCondition s m args below meth c b0 cA D L (fun z => MQ below (va_Qi (fun (r : Int32) (u : zS) => (r, u) = z ∧ nB r) (zB b0 cA D L) (zA b0 L)) args s 0 0 (zA b0 L)) (fX7_readsCondition_92 k40 n v0 σ) σ 92 ls [] := by
  induction n with
  | zero => intros; exact zj_none
  | succ n ih => exact jX7_readsCondition_92 hC k40 h40 (fX7_readsCondition_92 k40 n) ih
set_option maxRecDepth 100000 in
set_option maxHeartbeats 4000000 in
theorem jX7_readsCondition_75 {p : Program} {l : Launch} {e : Env} {s : State} {m : MethodId} {args : Array Value} {below : List Frame} {meth : Method} {c : Code} {b0 : Nat} {cA : Nat → ClassId} {D : va_G} {L : List (Nat × Nat)} (hC : zC p c s m args meth cX7_readsCondition 1 (some Jvm.ClassFile.FieldType.boolean) (Cond.code yX7_readsCondition cX7_readsCondition 1 (some Jvm.ClassFile.FieldType.boolean)) yX7_readsCondition.cls cA D) (k40 : Nat → zS → Option (Int32 × zS)) (h40 : ∀ (v0 : Nat) (σ : zS) (ls : Array Slot), L[v0]? = some (0, 7) → lv_has ls 1 [(0, .ref (b0 + v0))] → zJ p l e rmX7_readsCondition s m args below meth c b0 cA D L (fun z => MQ below (va_Qi (fun (r : Int32) (u : zS) => (r, u) = z ∧ nB r) (zB b0 cA D L) (zA b0 L)) args s 0 0 (zA b0 L)) (k40 v0 σ) σ 40 ls []) (v0 : Nat) (s0 : Nat) (s1 : Int32) (σ : zS) (ls : Array Slot) (hk_v0 : L[v0]? = some (0, 7)) (hk_s0 : L[s0]? = some (0, 7)) (hl : lv_has ls 1 [(0, .ref (b0 + v0))]) : zJ p l e rmX7_readsCondition s m args below meth c b0 cA D L (fun z => MQ below (va_Qi (fun (r : Int32) (u : zS) => (r, u) = z ∧ nB r) (zB b0 cA D L) (zA b0 L)) args s 0 0 (zA b0 L)) (bX7_readsCondition_75 k40 v0 s0 s1 σ) σ 75 ls [.int s1, .ref (b0 + s0)] := by
  unfold bX7_readsCondition_75
  refine zj_callzV (pc' := 78) (rest := []) hC (kX7_opens l b0 cA D L s0 s1 σ hk_s0) hk_s0 rfl tw_5_47 tw_5_44 tw_5_46 ts_3_10 tw_1_8 ddX7_opens rfl ⟨rfl, rfl⟩ ⟨by decide, by decide⟩ hl.1 (Nat.le_of_ble_eq_true rfl) rfl dX7_readsCondition_75 rfl (fun r31 σ30 hb_r31 => ?_)
  refine zj_if_ne (tgt := 40) (pc' := 81) hC dX7_readsCondition_78 (by decide) rfl (fun c32 => ?_) (fun c32 => ?_)
  · exact h40 v0 σ30 ls hk_v0 (lv_sub hl [0] rfl)
  · refine zj_iconst (pc' := 82) (v := (0 : Int32)) hC dX7_readsCondition_81 rfl rfl ?_
    exact zj_zret hC nB_0 dX7_readsCondition_82
set_option maxRecDepth 100000 in
set_option maxHeartbeats 4000000 in
theorem jX7_readsCondition_58 {p : Program} {l : Launch} {e : Env} {s : State} {m : MethodId} {args : Array Value} {below : List Frame} {meth : Method} {c : Code} {b0 : Nat} {cA : Nat → ClassId} {D : va_G} {L : List (Nat × Nat)} (hC : zC p c s m args meth cX7_readsCondition 1 (some Jvm.ClassFile.FieldType.boolean) (Cond.code yX7_readsCondition cX7_readsCondition 1 (some Jvm.ClassFile.FieldType.boolean)) yX7_readsCondition.cls cA D) (k40 : Nat → zS → Option (Int32 × zS)) (h40 : ∀ (v0 : Nat) (σ : zS) (ls : Array Slot), L[v0]? = some (0, 7) → lv_has ls 1 [(0, .ref (b0 + v0))] → zJ p l e rmX7_readsCondition s m args below meth c b0 cA D L (fun z => MQ below (va_Qi (fun (r : Int32) (u : zS) => (r, u) = z ∧ nB r) (zB b0 cA D L) (zA b0 L)) args s 0 0 (zA b0 L)) (k40 v0 σ) σ 40 ls []) (v0 : Nat) (σ : zS) (ls : Array Slot) (hk_v0 : L[v0]? = some (0, 7)) (hl : lv_has ls 1 [(0, .ref (b0 + v0))]) : zJ p l e rmX7_readsCondition s m args below meth c b0 cA D L (fun z => MQ below (va_Qi (fun (r : Int32) (u : zS) => (r, u) = z ∧ nB r) (zB b0 cA D L) (zA b0 L)) args s 0 0 (zA b0 L)) (bX7_readsCondition_58 k40 v0 σ) σ 58 ls [] := by
  unfold bX7_readsCondition_58
  refine zj_aload_n (pc' := 59) hC dX7_readsCondition_58 rfl rfl (lv_at hl 0 rfl) ?_
  refine zj_aload_n (pc' := 60) hC dX7_readsCondition_59 rfl rfl (lv_at hl 0 rfl) ?_
  refine zj_calliV (pc' := 63) (rest := [.ref (b0 + v0)]) hC (kX7_here l b0 cA D L v0 σ hk_v0) hk_v0 rfl tw_5_35 tw_5_32 tw_5_34 ts_3_7 tw_1_8 ddX7_here rfl ⟨rfl, rfl⟩ ⟨by decide, by decide⟩ hl.1 (Nat.le_of_ble_eq_true rfl) rfl dX7_readsCondition_60 rfl (fun r34 σ33 => ?_)
  refine zj_bipush (pc' := 65) (v := (33 : Int32)) hC dX7_readsCondition_63 rfl rfl ?_
  refine zj_icmp_ne (tgt := 73) (pc' := 68) hC dX7_readsCondition_65 (by decide) rfl (fun c35 => ?_) (fun c35 => ?_)
  · refine zj_bipush (pc' := 75) (v := (13 : Int32)) hC dX7_readsCondition_73 rfl rfl ?_
    exact jX7_readsCondition_75 hC k40 h40 v0 v0 (13 : Int32) σ33 ls hk_v0 hk_v0 (lv_sub hl [0] rfl)
  · refine zj_bipush (pc' := 70) (v := (10 : Int32)) hC dX7_readsCondition_68 rfl rfl ?_
    refine zj_goto (tgt := 75) hC dX7_readsCondition_70 (by decide) ?_
    exact jX7_readsCondition_75 hC k40 h40 v0 v0 (10 : Int32) σ33 ls hk_v0 hk_v0 (lv_sub hl [0] rfl)
set_option maxRecDepth 100000 in
set_option maxHeartbeats 4000000 in
theorem jX7_readsCondition_40 {p : Program} {l : Launch} {e : Env} {s : State} {m : MethodId} {args : Array Value} {below : List Frame} {meth : Method} {c : Code} {b0 : Nat} {cA : Nat → ClassId} {D : va_G} {L : List (Nat × Nat)} (hC : zC p c s m args meth cX7_readsCondition 1 (some Jvm.ClassFile.FieldType.boolean) (Cond.code yX7_readsCondition cX7_readsCondition 1 (some Jvm.ClassFile.FieldType.boolean)) yX7_readsCondition.cls cA D) (k40 : Nat → zS → Option (Int32 × zS)) (h40 : ∀ (v0 : Nat) (σ : zS) (ls : Array Slot), L[v0]? = some (0, 7) → lv_has ls 1 [(0, .ref (b0 + v0))] → zJ p l e rmX7_readsCondition s m args below meth c b0 cA D L (fun z => MQ below (va_Qi (fun (r : Int32) (u : zS) => (r, u) = z ∧ nB r) (zB b0 cA D L) (zA b0 L)) args s 0 0 (zA b0 L)) (k40 v0 σ) σ 40 ls []) (v0 : Nat) (σ : zS) (ls : Array Slot) (hk_v0 : L[v0]? = some (0, 7)) (hl : lv_has ls 1 [(0, .ref (b0 + v0))]) : zJ p l e rmX7_readsCondition s m args below meth c b0 cA D L (fun z => MQ below (va_Qi (fun (r : Int32) (u : zS) => (r, u) = z ∧ nB r) (zB b0 cA D L) (zA b0 L)) args s 0 0 (zA b0 L)) (bX7_readsCondition_40 k40 v0 σ) σ 40 ls [] := by
  unfold bX7_readsCondition_40
  refine zj_aload_n (pc' := 41) hC dX7_readsCondition_40 rfl rfl (lv_at hl 0 rfl) ?_
  refine zj_calliV (pc' := 44) (rest := []) hC (kX7_here l b0 cA D L v0 σ hk_v0) hk_v0 rfl tw_5_35 tw_5_32 tw_5_34 ts_3_7 tw_1_8 ddX7_here rfl ⟨rfl, rfl⟩ ⟨by decide, by decide⟩ hl.1 (Nat.le_of_ble_eq_true rfl) rfl dX7_readsCondition_41 rfl (fun r37 σ36 => ?_)
  refine zj_bipush (pc' := 46) (v := (33 : Int32)) hC dX7_readsCondition_44 rfl rfl ?_
  refine zj_icmp_eq (tgt := 58) (pc' := 49) hC dX7_readsCondition_46 (by decide) rfl (fun c38 => ?_) (fun c38 => ?_)
  · exact jX7_readsCondition_58 hC k40 h40 v0 σ36 ls hk_v0 (lv_sub hl [0] rfl)
  · refine zj_aload_n (pc' := 50) hC dX7_readsCondition_49 rfl rfl (lv_at hl 0 rfl) ?_
    refine zj_calliV (pc' := 53) (rest := []) hC (kX7_here l b0 cA D L v0 σ36 hk_v0) hk_v0 rfl tw_5_35 tw_5_32 tw_5_34 ts_3_7 tw_1_8 ddX7_here rfl ⟨rfl, rfl⟩ ⟨by decide, by decide⟩ hl.1 (Nat.le_of_ble_eq_true rfl) rfl dX7_readsCondition_50 rfl (fun r40 σ39 => ?_)
    refine zj_bipush (pc' := 55) (v := (40 : Int32)) hC dX7_readsCondition_53 rfl rfl ?_
    refine zj_icmp_ne (tgt := 83) (pc' := 58) hC dX7_readsCondition_55 (by decide) rfl (fun c41 => ?_) (fun c41 => ?_)
    · refine zj_aload_n (pc' := 84) hC dX7_readsCondition_83 rfl rfl (lv_at hl 0 rfl) ?_
      refine zj_callzV (pc' := 87) (rest := []) hC (kX7_readsCompared l b0 cA D L v0 σ39 hk_v0) hk_v0 rfl tw_5_52 tw_5_49 tw_5_51 ts_3_11 tw_1_8 ddX7_readsCompared rfl ⟨rfl, rfl⟩ ⟨by decide, by decide⟩ hl.1 (Nat.le_of_ble_eq_true rfl) rfl dX7_readsCondition_84 rfl (fun r43 σ42 hb_r43 => ?_)
      refine zj_if_ne (tgt := 92) (pc' := 90) hC dX7_readsCondition_87 (by decide) rfl (fun c44 => ?_) (fun c44 => ?_)
      · exact lX7_readsCondition_92 hC k40 h40 zFU v0 σ42 ls hk_v0 (lv_sub hl [0] rfl)
      · refine zj_iconst (pc' := 91) (v := (0 : Int32)) hC dX7_readsCondition_90 rfl rfl ?_
        exact zj_zret hC nB_0 dX7_readsCondition_91
    · exact jX7_readsCondition_58 hC k40 h40 v0 σ39 ls hk_v0 (lv_sub hl [0] rfl)
set_option maxRecDepth 100000 in
set_option maxHeartbeats 4000000 in
theorem lX7_readsCondition_40 {p : Program} {l : Launch} {e : Env} {s : State} {m : MethodId} {args : Array Value} {below : List Frame} {meth : Method} {c : Code} {b0 : Nat} {cA : Nat → ClassId} {D : va_G} {L : List (Nat × Nat)} (hC : zC p c s m args meth cX7_readsCondition 1 (some Jvm.ClassFile.FieldType.boolean) (Cond.code yX7_readsCondition cX7_readsCondition 1 (some Jvm.ClassFile.FieldType.boolean)) yX7_readsCondition.cls cA D)  (n : Nat) : ∀ (v0 : Nat) (σ : zS) (ls : Array Slot), L[v0]? = some (0, 7) → lv_has ls 1 [(0, .ref (b0 + v0))] → zJ p l e rmX7_readsCondition s m args below meth c b0 cA D L (fun z => MQ below (va_Qi (fun (r : Int32) (u : zS) => (r, u) = z ∧ nB r) (zB b0 cA D L) (zA b0 L)) args s 0 0 (zA b0 L)) (fX7_readsCondition_40  n v0 σ) σ 40 ls [] := by
  induction n with
  | zero => intros; exact zj_none
  | succ n ih => exact jX7_readsCondition_40 hC (fX7_readsCondition_40  n) ih
set_option maxRecDepth 100000 in
set_option maxHeartbeats 4000000 in
theorem kX7_readsCondition (l : Launch) (b0 : Nat) (cA : Nat → ClassId) (D : va_G) (L : List (Nat × Nat)) (v0 : Nat) (σ : zS) (hk0 : L[v0]? = some (0, 7)) : zMz l b0 cA D L yX7_readsCondition (Cond.code yX7_readsCondition cX7_readsCondition 1 (some Jvm.ClassFile.FieldType.boolean)) rmX7_readsCondition [.ref (b0 + v0)] σ (fX7_readsCondition v0 σ) := by
  refine zMz_of (by decide) (Nat.le_of_ble_eq_true rfl) ?_
  intro p e s m below meth c ls hC hl
  have hl : lv_has ls 1 [(0, .ref (b0 + v0))] := hl
  generalize ([.ref (b0 + v0)] : List Value).toArray = args at hC ⊢
  unfold fX7_readsCondition
  refine zj_aload_n (pc' := 1) hC dX7_readsCondition_0 rfl rfl (lv_at hl 0 rfl) ?_
  refine zj_calliV (pc' := 4) (rest := []) hC (kX7_here l b0 cA D L v0 σ hk0) hk0 rfl tw_5_35 tw_5_32 tw_5_34 ts_3_7 tw_1_8 ddX7_here rfl ⟨rfl, rfl⟩ ⟨by decide, by decide⟩ hl.1 (Nat.le_of_ble_eq_true rfl) rfl dX7_readsCondition_1 rfl (fun r46 σ45 => ?_)
  refine zj_bipush (pc' := 6) (v := (40 : Int32)) hC dX7_readsCondition_4 rfl rfl ?_
  refine zj_icmp_eq (tgt := 19) (pc' := 9) hC dX7_readsCondition_6 (by decide) rfl (fun c47 => ?_) (fun c47 => ?_)
  · refine zj_aload_n (pc' := 20) hC dX7_readsCondition_19 rfl rfl (lv_at hl 0 rfl) ?_
    refine zj_iconst (pc' := 21) (v := (0 : Int32)) hC dX7_readsCondition_20 rfl rfl ?_
    refine zj_putI (pc' := 24) hC hk0 fd_7_15 rfl tw_4_63 rfl rfl rfl dX7_readsCondition_21 rfl (fun σ48 => ?_)
    refine zj_aload_n (pc' := 25) hC dX7_readsCondition_24 rfl rfl (lv_at hl 0 rfl) ?_
    refine zj_iconst (pc' := 26) (v := (0 : Int32)) hC dX7_readsCondition_25 rfl rfl ?_
    refine zj_putI (pc' := 29) hC hk0 fd_7_17 rfl tw_4_65 rfl rfl rfl dX7_readsCondition_26 rfl (fun σ49 => ?_)
    refine zj_aload_n (pc' := 30) hC dX7_readsCondition_29 rfl rfl (lv_at hl 0 rfl) ?_
    refine zj_bipush (pc' := 32) (v := (13 : Int32)) hC dX7_readsCondition_30 rfl rfl ?_
    refine zj_callzV (pc' := 35) (rest := []) hC (kX7_opens l b0 cA D L v0 (13 : Int32) σ49 hk0) hk0 rfl tw_5_47 tw_5_44 tw_5_46 ts_3_10 tw_1_8 ddX7_opens rfl ⟨rfl, rfl⟩ ⟨by decide, by decide⟩ hl.1 (Nat.le_of_ble_eq_true rfl) rfl dX7_readsCondition_32 rfl (fun r51 σ50 hb_r51 => ?_)
    refine zj_if_ne (tgt := 40) (pc' := 38) hC dX7_readsCondition_35 (by decide) rfl (fun c52 => ?_) (fun c52 => ?_)
    · exact lX7_readsCondition_40 hC zFU v0 σ50 ls hk0 (lv_sub hl [0] rfl)
    · refine zj_iconst (pc' := 39) (v := (0 : Int32)) hC dX7_readsCondition_38 rfl rfl ?_
      exact zj_zret hC nB_0 dX7_readsCondition_39
  · refine zj_aload_n (pc' := 10) hC dX7_readsCondition_9 rfl rfl (lv_at hl 0 rfl) ?_
    refine zj_iconst (pc' := 11) (v := (1 : Int32)) hC dX7_readsCondition_10 rfl rfl ?_
    refine zj_aload_n (pc' := 12) hC dX7_readsCondition_11 rfl rfl (lv_at hl 0 rfl) ?_
    refine zj_getI (pc' := 15) hC hk0 fd_7_12 rfl tw_4_60 dX7_readsCondition_12 rfl ?_
    refine zj_callzV (pc' := 18) (rest := []) hC (kX7_wrong l b0 cA D L v0 (1 : Int32) ((σ45.1 v0 12)) σ45 hk0) hk0 rfl tw_5_39 tw_5_36 tw_5_38 ts_3_8 tw_1_8 ddX7_wrong rfl ⟨rfl, rfl⟩ ⟨by decide, by decide⟩ hl.1 (Nat.le_of_ble_eq_true rfl) rfl dX7_readsCondition_15 rfl (fun r54 σ53 hb_r54 => ?_)
    exact zj_zret hC hb_r54 dX7_readsCondition_18
-- X7_readsClause
theorem ddX7_readsClause : yX7_readsClause.cls ≠ "java/lang/invoke/MethodHandle" ∧ yX7_readsClause.cls ≠ "java/lang/invoke/VarHandle" ∧ (parseMethodDescriptor yX7_readsClause.desc).map (fun d => d.parameters.length) = some 0 := by decide +kernel
abbrev rmX7_readsClause : Room := { frames := 7, cells := 0, slots := 0, locals := 145 }
def bX7_readsClause_28  (v0 : Nat) (σ : zS) : Option (Int32 × zS) :=
  if (σ.1 v0 18) = (12 : Int32) then (zb (fX7_wrong v0 (4 : Int32) ((σ.1 v0 12)) σ) (fun (r19 : Int32) (σ18 : zS) => some (r19, σ18))) else (bnd (σ.2 v0 22) (fun (q2 : Nat) => zb (fX7_here v0 σ) (fun (r4 : Int32) (σ3 : zS) => zX (σ.1 v0 18) 12 (bnd (zI σ3 q2 ((σ.1 v0 18)).toNatClampNeg r4) (fun (σ6 : zS) => bnd (zI σ6 v0 12 ((σ6.1 v0 12) + (1 : Int32))) (fun (σ7 : zS) => bnd (σ7.2 v0 23) (fun (q8 : Nat) => zX (σ7.1 v0 18) 12 (bnd (zI σ7 q8 ((σ7.1 v0 18)).toNatClampNeg (σ7.1 v0 16)) (fun (σ10 : zS) => zb (fX7_readsCondition v0 σ10) (fun (r12 : Int32) (σ11 : zS) => if r12 = 0 then (some ((0 : Int32), σ11)) else (bnd (σ11.2 v0 24) (fun (q14 : Nat) => zX (σ11.1 v0 18) 12 (bnd (zI σ11 q14 ((σ11.1 v0 18)).toNatClampNeg (σ11.1 v0 16)) (fun (σ16 : zS) => bnd (zI σ16 v0 18 ((σ16.1 v0 18) + (1 : Int32))) (fun (σ17 : zS) => some ((1 : Int32), σ17))))))))))))))))
def fX7_readsClause (v0 : Nat) (σ : zS) : Option (Int32 × zS) :=
  zb (fX7_here v0 σ) (fun (r21 : Int32) (σ20 : zS) => if r21 = (99 : Int32) then (bX7_readsClause_28 v0 σ20) else (zb (fX7_here v0 σ20) (fun (r24 : Int32) (σ23 : zS) => if r24 = (104 : Int32) then (bX7_readsClause_28 v0 σ23) else (zb (fX7_wrong v0 (1 : Int32) ((σ23.1 v0 12)) σ23) (fun (r27 : Int32) (σ26 : zS) => some (r27, σ26))))))
set_option maxRecDepth 100000 in
set_option maxHeartbeats 4000000 in
theorem jX7_readsClause_28 {p : Program} {l : Launch} {e : Env} {s : State} {m : MethodId} {args : Array Value} {below : List Frame} {meth : Method} {c : Code} {b0 : Nat} {cA : Nat → ClassId} {D : va_G} {L : List (Nat × Nat)} (hC : zC p c s m args meth cX7_readsClause 1 (some Jvm.ClassFile.FieldType.boolean) (Cond.code yX7_readsClause cX7_readsClause 1 (some Jvm.ClassFile.FieldType.boolean)) yX7_readsClause.cls cA D)  (v0 : Nat) (σ : zS) (ls : Array Slot) (hk_v0 : L[v0]? = some (0, 7)) (hl : lv_has ls 1 [(0, .ref (b0 + v0))]) : zJ p l e rmX7_readsClause s m args below meth c b0 cA D L (fun z => MQ below (va_Qi (fun (r : Int32) (u : zS) => (r, u) = z ∧ nB r) (zB b0 cA D L) (zA b0 L)) args s 0 0 (zA b0 L)) (bX7_readsClause_28  v0 σ) σ 28 ls [] := by
  unfold bX7_readsClause_28
  refine zj_aload_n (pc' := 29) hC dX7_readsClause_28 rfl rfl (lv_at hl 0 rfl) ?_
  refine zj_getI (pc' := 32) hC hk_v0 fd_7_18 rfl tw_4_66 dX7_readsClause_29 rfl ?_
  refine zj_bipush (pc' := 34) (v := (12 : Int32)) hC dX7_readsClause_32 rfl rfl ?_
  refine zj_icmp_ne (tgt := 47) (pc' := 37) hC dX7_readsClause_34 (by decide) rfl (fun c1 => ?_) (fun c1 => ?_)
  · refine zj_aload_n (pc' := 48) hC dX7_readsClause_47 rfl rfl (lv_at hl 0 rfl) ?_
    refine zj_getR (pc' := 51) hC hk_v0 fd_7_22 rfl tw_4_70 dX7_readsClause_48 rfl (fun q2 hk_q2 => ?_)
    refine zj_aload_n (pc' := 52) hC dX7_readsClause_51 rfl rfl (lv_at hl 0 rfl) ?_
    refine zj_getI (pc' := 55) hC hk_v0 fd_7_18 rfl tw_4_66 dX7_readsClause_52 rfl ?_
    refine zj_aload_n (pc' := 56) hC dX7_readsClause_55 rfl rfl (lv_at hl 0 rfl) ?_
    refine zj_calliV (pc' := 59) (rest := [.int (σ.1 v0 18), .ref (b0 + q2)]) hC (kX7_here l b0 cA D L v0 σ hk_v0) hk_v0 rfl tw_5_35 tw_5_32 tw_5_34 ts_3_7 tw_1_8 ddX7_here rfl ⟨rfl, rfl⟩ ⟨by decide, by decide⟩ hl.1 (Nat.le_of_ble_eq_true rfl) rfl dX7_readsClause_56 rfl (fun r4 σ3 => ?_)
    refine zj_iast (pc' := 60) hC hk_q2 dX7_readsClause_59 rfl (fun g5 σ6 => ?_)
    refine zj_aload_n (pc' := 61) hC dX7_readsClause_60 rfl rfl (lv_at hl 0 rfl) ?_
    refine zj_aload_n (pc' := 62) hC dX7_readsClause_61 rfl rfl (lv_at hl 0 rfl) ?_
    refine zj_getI (pc' := 65) hC hk_v0 fd_7_12 rfl tw_4_60 dX7_readsClause_62 rfl ?_
    refine zj_iconst (pc' := 66) (v := (1 : Int32)) hC dX7_readsClause_65 rfl rfl ?_
    refine zj_iadd (pc' := 67) hC dX7_readsClause_66 rfl ?_
    refine zj_putI (pc' := 70) hC hk_v0 fd_7_12 rfl tw_4_60 rfl rfl rfl dX7_readsClause_67 rfl (fun σ7 => ?_)
    refine zj_aload_n (pc' := 71) hC dX7_readsClause_70 rfl rfl (lv_at hl 0 rfl) ?_
    refine zj_getR (pc' := 74) hC hk_v0 fd_7_23 rfl tw_4_71 dX7_readsClause_71 rfl (fun q8 hk_q8 => ?_)
    refine zj_aload_n (pc' := 75) hC dX7_readsClause_74 rfl rfl (lv_at hl 0 rfl) ?_
    refine zj_getI (pc' := 78) hC hk_v0 fd_7_18 rfl tw_4_66 dX7_readsClause_75 rfl ?_
    refine zj_aload_n (pc' := 79) hC dX7_readsClause_78 rfl rfl (lv_at hl 0 rfl) ?_
    refine zj_getI (pc' := 82) hC hk_v0 fd_7_16 rfl tw_4_64 dX7_readsClause_79 rfl ?_
    refine zj_iast (pc' := 83) hC hk_q8 dX7_readsClause_82 rfl (fun g9 σ10 => ?_)
    refine zj_aload_n (pc' := 84) hC dX7_readsClause_83 rfl rfl (lv_at hl 0 rfl) ?_
    refine zj_callzV (pc' := 87) (rest := []) hC (kX7_readsCondition l b0 cA D L v0 σ10 hk_v0) hk_v0 rfl tw_5_43 tw_5_40 tw_5_42 ts_3_9 tw_1_8 ddX7_readsCondition rfl ⟨rfl, rfl⟩ ⟨by decide, by decide⟩ hl.1 (Nat.le_of_ble_eq_true rfl) rfl dX7_readsClause_84 rfl (fun r12 σ11 hb_r12 => ?_)
    refine zj_if_ne (tgt := 92) (pc' := 90) hC dX7_readsClause_87 (by decide) rfl (fun c13 => ?_) (fun c13 => ?_)
    · refine zj_aload_n (pc' := 93) hC dX7_readsClause_92 rfl rfl (lv_at hl 0 rfl) ?_
      refine zj_getR (pc' := 96) hC hk_v0 fd_7_24 rfl tw_4_72 dX7_readsClause_93 rfl (fun q14 hk_q14 => ?_)
      refine zj_aload_n (pc' := 97) hC dX7_readsClause_96 rfl rfl (lv_at hl 0 rfl) ?_
      refine zj_getI (pc' := 100) hC hk_v0 fd_7_18 rfl tw_4_66 dX7_readsClause_97 rfl ?_
      refine zj_aload_n (pc' := 101) hC dX7_readsClause_100 rfl rfl (lv_at hl 0 rfl) ?_
      refine zj_getI (pc' := 104) hC hk_v0 fd_7_16 rfl tw_4_64 dX7_readsClause_101 rfl ?_
      refine zj_iast (pc' := 105) hC hk_q14 dX7_readsClause_104 rfl (fun g15 σ16 => ?_)
      refine zj_aload_n (pc' := 106) hC dX7_readsClause_105 rfl rfl (lv_at hl 0 rfl) ?_
      refine zj_aload_n (pc' := 107) hC dX7_readsClause_106 rfl rfl (lv_at hl 0 rfl) ?_
      refine zj_getI (pc' := 110) hC hk_v0 fd_7_18 rfl tw_4_66 dX7_readsClause_107 rfl ?_
      refine zj_iconst (pc' := 111) (v := (1 : Int32)) hC dX7_readsClause_110 rfl rfl ?_
      refine zj_iadd (pc' := 112) hC dX7_readsClause_111 rfl ?_
      refine zj_putI (pc' := 115) hC hk_v0 fd_7_18 rfl tw_4_66 rfl rfl rfl dX7_readsClause_112 rfl (fun σ17 => ?_)
      refine zj_iconst (pc' := 116) (v := (1 : Int32)) hC dX7_readsClause_115 rfl rfl ?_
      exact zj_zret hC nB_1 dX7_readsClause_116
    · refine zj_iconst (pc' := 91) (v := (0 : Int32)) hC dX7_readsClause_90 rfl rfl ?_
      exact zj_zret hC nB_0 dX7_readsClause_91
  · refine zj_aload_n (pc' := 38) hC dX7_readsClause_37 rfl rfl (lv_at hl 0 rfl) ?_
    refine zj_iconst (pc' := 39) (v := (4 : Int32)) hC dX7_readsClause_38 rfl rfl ?_
    refine zj_aload_n (pc' := 40) hC dX7_readsClause_39 rfl rfl (lv_at hl 0 rfl) ?_
    refine zj_getI (pc' := 43) hC hk_v0 fd_7_12 rfl tw_4_60 dX7_readsClause_40 rfl ?_
    refine zj_callzV (pc' := 46) (rest := []) hC (kX7_wrong l b0 cA D L v0 (4 : Int32) ((σ.1 v0 12)) σ hk_v0) hk_v0 rfl tw_5_39 tw_5_36 tw_5_38 ts_3_8 tw_1_8 ddX7_wrong rfl ⟨rfl, rfl⟩ ⟨by decide, by decide⟩ hl.1 (Nat.le_of_ble_eq_true rfl) rfl dX7_readsClause_43 rfl (fun r19 σ18 hb_r19 => ?_)
    exact zj_zret hC hb_r19 dX7_readsClause_46
set_option maxRecDepth 100000 in
set_option maxHeartbeats 4000000 in
theorem kX7_readsClause (l : Launch) (b0 : Nat) (cA : Nat → ClassId) (D : va_G) (L : List (Nat × Nat)) (v0 : Nat) (σ : zS) (hk0 : L[v0]? = some (0, 7)) : zMz l b0 cA D L yX7_readsClause (Cond.code yX7_readsClause cX7_readsClause 1 (some Jvm.ClassFile.FieldType.boolean)) rmX7_readsClause [.ref (b0 + v0)] σ (fX7_readsClause v0 σ) := by
  refine zMz_of (by decide) (Nat.le_of_ble_eq_true rfl) ?_
  intro p e s m below meth c ls hC hl
  have hl : lv_has ls 1 [(0, .ref (b0 + v0))] := hl
  generalize ([.ref (b0 + v0)] : List Value).toArray = args at hC ⊢
  unfold fX7_readsClause
  refine zj_aload_n (pc' := 1) hC dX7_readsClause_0 rfl rfl (lv_at hl 0 rfl) ?_
  refine zj_calliV (pc' := 4) (rest := []) hC (kX7_here l b0 cA D L v0 σ hk0) hk0 rfl tw_5_35 tw_5_32 tw_5_34 ts_3_7 tw_1_8 ddX7_here rfl ⟨rfl, rfl⟩ ⟨by decide, by decide⟩ hl.1 (Nat.le_of_ble_eq_true rfl) rfl dX7_readsClause_1 rfl (fun r21 σ20 => ?_)
  refine zj_bipush (pc' := 6) (v := (99 : Int32)) hC dX7_readsClause_4 rfl rfl ?_
  refine zj_icmp_eq (tgt := 28) (pc' := 9) hC dX7_readsClause_6 (by decide) rfl (fun c22 => ?_) (fun c22 => ?_)
  · exact jX7_readsClause_28 hC v0 σ20 ls hk0 (lv_sub hl [0] rfl)
  · refine zj_aload_n (pc' := 10) hC dX7_readsClause_9 rfl rfl (lv_at hl 0 rfl) ?_
    refine zj_calliV (pc' := 13) (rest := []) hC (kX7_here l b0 cA D L v0 σ20 hk0) hk0 rfl tw_5_35 tw_5_32 tw_5_34 ts_3_7 tw_1_8 ddX7_here rfl ⟨rfl, rfl⟩ ⟨by decide, by decide⟩ hl.1 (Nat.le_of_ble_eq_true rfl) rfl dX7_readsClause_10 rfl (fun r24 σ23 => ?_)
    refine zj_bipush (pc' := 15) (v := (104 : Int32)) hC dX7_readsClause_13 rfl rfl ?_
    refine zj_icmp_eq (tgt := 28) (pc' := 18) hC dX7_readsClause_15 (by decide) rfl (fun c25 => ?_) (fun c25 => ?_)
    · exact jX7_readsClause_28 hC v0 σ23 ls hk0 (lv_sub hl [0] rfl)
    · refine zj_aload_n (pc' := 19) hC dX7_readsClause_18 rfl rfl (lv_at hl 0 rfl) ?_
      refine zj_iconst (pc' := 20) (v := (1 : Int32)) hC dX7_readsClause_19 rfl rfl ?_
      refine zj_aload_n (pc' := 21) hC dX7_readsClause_20 rfl rfl (lv_at hl 0 rfl) ?_
      refine zj_getI (pc' := 24) hC hk0 fd_7_12 rfl tw_4_60 dX7_readsClause_21 rfl ?_
      refine zj_callzV (pc' := 27) (rest := []) hC (kX7_wrong l b0 cA D L v0 (1 : Int32) ((σ23.1 v0 12)) σ23 hk0) hk0 rfl tw_5_39 tw_5_36 tw_5_38 ts_3_8 tw_1_8 ddX7_wrong rfl ⟨rfl, rfl⟩ ⟨by decide, by decide⟩ hl.1 (Nat.le_of_ble_eq_true rfl) rfl dX7_readsClause_24 rfl (fun r27 σ26 hb_r27 => ?_)
      exact zj_zret hC hb_r27 dX7_readsClause_27
-- X7_law
theorem ddX7_law : yX7_law.cls ≠ "java/lang/invoke/MethodHandle" ∧ yX7_law.cls ≠ "java/lang/invoke/VarHandle" ∧ (parseMethodDescriptor yX7_law.desc).map (fun d => d.parameters.length) = some 2 := by decide +kernel
abbrev rmX7_law : Room := { frames := 8, cells := 0, slots := 0, locals := 165 }
def bX7_law_159 (k159 : Nat → Int32 → Int32 → zS → Option (Int32 × zS)) (v0 : Nat) (v1 : Int32) (v4 : Int32) (σ : zS) : Option (Int32 × zS) :=
  if (σ.1 v0 18) ≤ v4 then (some ((σ.1 v0 18), σ)) else (bnd ((((12 : Int32) * v1) + v4)) (fun (x2 : Int32) => bnd (σ.2 v0 27) (fun (q3 : Nat) => bnd (σ.2 v0 22) (fun (q4 : Nat) => zX v4 12 (zX x2 48 (bnd (zI σ q3 (x2).toNatClampNeg (σ.1 q4 (v4).toNatClampNeg)) (fun (σ7 : zS) => bnd (σ7.2 v0 28) (fun (q8 : Nat) => bnd (σ7.2 v0 23) (fun (q9 : Nat) => zX v4 12 (zX x2 48 (bnd (zI σ7 q8 (x2).toNatClampNeg (((140 : Int32) * v1) + (σ7.1 q9 (v4).toNatClampNeg))) (fun (σ12 : zS) => bnd (σ12.2 v0 29) (fun (q13 : Nat) => bnd (σ12.2 v0 24) (fun (q14 : Nat) => zX v4 12 (zX x2 48 (bnd (zI σ12 q13 (x2).toNatClampNeg (((140 : Int32) * v1) + (σ12.1 q14 (v4).toNatClampNeg))) (fun (σ17 : zS) => k159 v0 v1 ((v4 + (1 : Int32))) σ17)))))))))))))))))
def fX7_law_159  : Nat → Nat → Int32 → Int32 → zS → Option (Int32 × zS)
  | 0, _, _, _, _ => none
  | n + 1, v0, v1, v4, σ => bX7_law_159 (fX7_law_159  n) v0 v1 v4 σ
def bX7_law_156  (v0 : Nat) (v1 : Int32) (σ : zS) : Option (Int32 × zS) :=
  fX7_law_159 zFU v0 v1 (0 : Int32) σ
def bX7_law_121 (k121 : Nat → Int32 → Int32 → zS → Option (Int32 × zS)) (v0 : Nat) (v1 : Int32) (v4 : Int32) (σ : zS) : Option (Int32 × zS) :=
  if (σ.1 v0 16) ≤ v4 then (bX7_law_156 v0 v1 σ) else (bnd (σ.2 v0 25) (fun (q19 : Nat) => bnd (σ.2 v0 20) (fun (q20 : Nat) => zX v4 140 (zX (((140 : Int32) * v1) + v4) 560 (bnd (zI σ q19 ((((140 : Int32) * v1) + v4)).toNatClampNeg (σ.1 q20 (v4).toNatClampNeg)) (fun (σ23 : zS) => k121 v0 v1 ((v4 + (1 : Int32))) σ23))))))
def fX7_law_121  : Nat → Nat → Int32 → Int32 → zS → Option (Int32 × zS)
  | 0, _, _, _, _ => none
  | n + 1, v0, v1, v4, σ => bX7_law_121 (fX7_law_121  n) v0 v1 v4 σ
def bX7_law_94  (v0 : Nat) (v1 : Int32) (v3 : Int32) (σ : zS) : Option (Int32 × zS) :=
  bnd (zI σ v0 11 (0 : Int32)) (fun (σ24 : zS) => if v3 = 0 then (some ((σ24.1 v0 14), σ24)) else (bnd (σ24.2 v0 26) (fun (q26 : Nat) => zX v1 4 (bnd (zI σ24 q26 (v1).toNatClampNeg (σ24.1 v0 18)) (fun (σ28 : zS) => fX7_law_121 zFU v0 v1 (0 : Int32) σ28)))))
def bX7_law_90 (k54 : Nat → Int32 → Int32 → zS → Option (Int32 × zS)) (v0 : Nat) (v1 : Int32) (s0 : Int32) (σ : zS) : Option (Int32 × zS) :=
  k54 v0 v1 s0 σ
def bX7_law_89 (k90 : Nat → Int32 → Int32 → zS → Option (Int32 × zS)) (v0 : Nat) (v1 : Int32) (σ : zS) : Option (Int32 × zS) :=
  k90 v0 v1 (0 : Int32) σ
def bX7_law_54 (k54 : Nat → Int32 → Int32 → zS → Option (Int32 × zS)) (v0 : Nat) (v1 : Int32) (v3 : Int32) (σ : zS) : Option (Int32 × zS) :=
  if v3 = 0 then (bX7_law_94 v0 v1 v3 σ) else (if (σ.1 v0 13) ≤ (σ.1 v0 12) then (bX7_law_94 v0 v1 v3 σ) else (zb (fX7_takes v0 (59 : Int32) σ) (fun (r32 : Int32) (σ31 : zS) => if r32 = 0 then (bX7_law_89 (bX7_law_90 k54) v0 v1 σ31) else (zb (fX7_readsClause v0 σ31) (fun (r35 : Int32) (σ34 : zS) => if r35 = 0 then (bX7_law_89 (bX7_law_90 k54) v0 v1 σ34) else (bX7_law_90 k54 v0 v1 (1 : Int32) σ34))))))
def fX7_law_54  : Nat → Nat → Int32 → Int32 → zS → Option (Int32 × zS)
  | 0, _, _, _, _ => none
  | n + 1, v0, v1, v3, σ => bX7_law_54 (fX7_law_54  n) v0 v1 v3 σ
def fX7_law (v0 : Nat) (v1 : Int32) (v2 : Int32) (σ : zS) : Option (Int32 × zS) :=
  zb (fX7_in v1 (0 : Int32) (3 : Int32) σ) (fun (r38 : Int32) (σ37 : zS) => if r38 = 0 then (some ((-1 : Int32), σ37)) else (zb (fX7_in v2 (1 : Int32) (120 : Int32) σ37) (fun (r41 : Int32) (σ40 : zS) => if r41 = 0 then (some ((-1 : Int32), σ40)) else (if v2 ≤ (σ40.1 v0 11) then (bnd (zI σ40 v0 12 (0 : Int32)) (fun (σ44 : zS) => bnd (zI σ44 v0 13 v2) (fun (σ45 : zS) => bnd (zI σ45 v0 16 (0 : Int32)) (fun (σ46 : zS) => bnd (zI σ46 v0 18 (0 : Int32)) (fun (σ47 : zS) => zb (fX7_readsClause v0 σ47) (fun (r49 : Int32) (σ48 : zS) => fX7_law_54 zFU v0 v1 r49 σ48)))))) else (some ((-1 : Int32), σ40))))))
set_option maxRecDepth 100000 in
set_option maxHeartbeats 4000000 in
theorem jX7_law_159 {p : Program} {l : Launch} {e : Env} {s : State} {m : MethodId} {args : Array Value} {below : List Frame} {meth : Method} {c : Code} {b0 : Nat} {cA : Nat → ClassId} {D : va_G} {L : List (Nat × Nat)} (hC : zC p c s m args meth cX7_law 6 (some Jvm.ClassFile.FieldType.int) (Cond.code yX7_law cX7_law 6 (some Jvm.ClassFile.FieldType.int)) yX7_law.cls cA D) (k159 : Nat → Int32 → Int32 → zS → Option (Int32 × zS)) (h159 : ∀ (v0 : Nat) (v1 : Int32) (v4 : Int32) (σ : zS) (ls : Array Slot), L[v0]? = some (0, 7) → lv_has ls 6 [(0, .ref (b0 + v0)), (1, .int v1), (4, .int v4)] → zJ p l e rmX7_law s m args below meth c b0 cA D L (fun z => MQ below (va_Qi (fun (r : Int32) (u : zS) => (r, u) = z) (zB b0 cA D L) (zA b0 L)) args s 0 0 (zA b0 L)) (k159 v0 v1 v4 σ) σ 159 ls []) (v0 : Nat) (v1 : Int32) (v4 : Int32) (σ : zS) (ls : Array Slot) (hk_v0 : L[v0]? = some (0, 7)) (hl : lv_has ls 6 [(0, .ref (b0 + v0)), (1, .int v1), (4, .int v4)]) : zJ p l e rmX7_law s m args below meth c b0 cA D L (fun z => MQ below (va_Qi (fun (r : Int32) (u : zS) => (r, u) = z) (zB b0 cA D L) (zA b0 L)) args s 0 0 (zA b0 L)) (bX7_law_159 k159 v0 v1 v4 σ) σ 159 ls [] := by
  unfold bX7_law_159
  refine zj_iload (pc' := 161) hC dX7_law_159 rfl (lv_at hl 2 rfl) ?_
  refine zj_aload_n (pc' := 162) hC dX7_law_161 rfl rfl (lv_at hl 0 rfl) ?_
  refine zj_getI (pc' := 165) hC hk_v0 fd_7_18 rfl tw_4_66 dX7_law_162 rfl ?_
  refine zj_icmp_ge (tgt := 237) (pc' := 168) hC dX7_law_165 (by decide) rfl (fun c1 => ?_) (fun c1 => ?_)
  · refine zj_aload_n (pc' := 238) hC dX7_law_237 rfl rfl (lv_at hl 0 rfl) ?_
    refine zj_getI (pc' := 241) hC hk_v0 fd_7_18 rfl tw_4_66 dX7_law_238 rfl ?_
    exact zj_iret hC dX7_law_241
  · refine zj_bipush (pc' := 170) (v := (12 : Int32)) hC dX7_law_168 rfl rfl ?_
    refine zj_iload_n (pc' := 171) hC dX7_law_170 rfl rfl (lv_at hl 1 rfl) ?_
    refine zj_imul (pc' := 172) hC dX7_law_171 rfl ?_
    refine zj_iload (pc' := 174) hC dX7_law_172 rfl (lv_at hl 2 rfl) ?_
    refine zj_iadd (pc' := 175) hC dX7_law_174 rfl ?_
    refine zj_nmi (fun x2 => ?_)
    refine zj_istore (pc' := 177) (lv' := [(5, .int x2), (0, .ref (b0 + v0)), (1, .int v1), (4, .int v4)]) hC dX7_law_175 rfl hl (by decide) rfl (fun ls hl => ?_)
    refine zj_aload_n (pc' := 178) hC dX7_law_177 rfl rfl (lv_at hl 1 rfl) ?_
    refine zj_getR (pc' := 181) hC hk_v0 fd_7_27 rfl tw_4_75 dX7_law_178 rfl (fun q3 hk_q3 => ?_)
    refine zj_iload (pc' := 183) hC dX7_law_181 rfl (lv_at hl 0 rfl) ?_
    refine zj_aload_n (pc' := 184) hC dX7_law_183 rfl rfl (lv_at hl 1 rfl) ?_
    refine zj_getR (pc' := 187) hC hk_v0 fd_7_22 rfl tw_4_70 dX7_law_184 rfl (fun q4 hk_q4 => ?_)
    refine zj_iload (pc' := 189) hC dX7_law_187 rfl (lv_at hl 3 rfl) ?_
    refine zj_iald (pc' := 190) hC hk_q4 dX7_law_189 rfl (fun g5 => ?_)
    refine zj_iast (pc' := 191) hC hk_q3 dX7_law_190 rfl (fun g6 σ7 => ?_)
    refine zj_aload_n (pc' := 192) hC dX7_law_191 rfl rfl (lv_at hl 1 rfl) ?_
    refine zj_getR (pc' := 195) hC hk_v0 fd_7_28 rfl tw_4_76 dX7_law_192 rfl (fun q8 hk_q8 => ?_)
    refine zj_iload (pc' := 197) hC dX7_law_195 rfl (lv_at hl 0 rfl) ?_
    refine zj_sipush (pc' := 200) (v := (140 : Int32)) hC dX7_law_197 rfl rfl ?_
    refine zj_iload_n (pc' := 201) hC dX7_law_200 rfl rfl (lv_at hl 2 rfl) ?_
    refine zj_imul (pc' := 202) hC dX7_law_201 rfl ?_
    refine zj_aload_n (pc' := 203) hC dX7_law_202 rfl rfl (lv_at hl 1 rfl) ?_
    refine zj_getR (pc' := 206) hC hk_v0 fd_7_23 rfl tw_4_71 dX7_law_203 rfl (fun q9 hk_q9 => ?_)
    refine zj_iload (pc' := 208) hC dX7_law_206 rfl (lv_at hl 3 rfl) ?_
    refine zj_iald (pc' := 209) hC hk_q9 dX7_law_208 rfl (fun g10 => ?_)
    refine zj_iadd (pc' := 210) hC dX7_law_209 rfl ?_
    refine zj_iast (pc' := 211) hC hk_q8 dX7_law_210 rfl (fun g11 σ12 => ?_)
    refine zj_aload_n (pc' := 212) hC dX7_law_211 rfl rfl (lv_at hl 1 rfl) ?_
    refine zj_getR (pc' := 215) hC hk_v0 fd_7_29 rfl tw_4_77 dX7_law_212 rfl (fun q13 hk_q13 => ?_)
    refine zj_iload (pc' := 217) hC dX7_law_215 rfl (lv_at hl 0 rfl) ?_
    refine zj_sipush (pc' := 220) (v := (140 : Int32)) hC dX7_law_217 rfl rfl ?_
    refine zj_iload_n (pc' := 221) hC dX7_law_220 rfl rfl (lv_at hl 2 rfl) ?_
    refine zj_imul (pc' := 222) hC dX7_law_221 rfl ?_
    refine zj_aload_n (pc' := 223) hC dX7_law_222 rfl rfl (lv_at hl 1 rfl) ?_
    refine zj_getR (pc' := 226) hC hk_v0 fd_7_24 rfl tw_4_72 dX7_law_223 rfl (fun q14 hk_q14 => ?_)
    refine zj_iload (pc' := 228) hC dX7_law_226 rfl (lv_at hl 3 rfl) ?_
    refine zj_iald (pc' := 229) hC hk_q14 dX7_law_228 rfl (fun g15 => ?_)
    refine zj_iadd (pc' := 230) hC dX7_law_229 rfl ?_
    refine zj_iast (pc' := 231) hC hk_q13 dX7_law_230 rfl (fun g16 σ17 => ?_)
    refine zj_iinc (pc' := 234) (k0 := 3) (v := (v4 + (1 : Int32))) (lv' := [(4, .int (v4 + (1 : Int32))), (5, .int x2), (0, .ref (b0 + v0)), (1, .int v1)]) hC dX7_law_231 rfl hl rfl rfl (by decide) rfl (fun ls hl => ?_)
    refine zj_goto (tgt := 159) hC dX7_law_234 (by decide) ?_
    exact h159 v0 v1 ((v4 + (1 : Int32))) σ17 ls hk_v0 (lv_sub hl [2, 3, 0] rfl)
set_option maxRecDepth 100000 in
set_option maxHeartbeats 4000000 in
theorem lX7_law_159 {p : Program} {l : Launch} {e : Env} {s : State} {m : MethodId} {args : Array Value} {below : List Frame} {meth : Method} {c : Code} {b0 : Nat} {cA : Nat → ClassId} {D : va_G} {L : List (Nat × Nat)} (hC : zC p c s m args meth cX7_law 6 (some Jvm.ClassFile.FieldType.int) (Cond.code yX7_law cX7_law 6 (some Jvm.ClassFile.FieldType.int)) yX7_law.cls cA D)  (n : Nat) : ∀ (v0 : Nat) (v1 : Int32) (v4 : Int32) (σ : zS) (ls : Array Slot), L[v0]? = some (0, 7) → lv_has ls 6 [(0, .ref (b0 + v0)), (1, .int v1), (4, .int v4)] → zJ p l e rmX7_law s m args below meth c b0 cA D L (fun z => MQ below (va_Qi (fun (r : Int32) (u : zS) => (r, u) = z) (zB b0 cA D L) (zA b0 L)) args s 0 0 (zA b0 L)) (fX7_law_159  n v0 v1 v4 σ) σ 159 ls [] := by
  induction n with
  | zero => intros; exact zj_none
  | succ n ih => exact jX7_law_159 hC (fX7_law_159  n) ih
set_option maxRecDepth 100000 in
set_option maxHeartbeats 4000000 in
theorem jX7_law_156 {p : Program} {l : Launch} {e : Env} {s : State} {m : MethodId} {args : Array Value} {below : List Frame} {meth : Method} {c : Code} {b0 : Nat} {cA : Nat → ClassId} {D : va_G} {L : List (Nat × Nat)} (hC : zC p c s m args meth cX7_law 6 (some Jvm.ClassFile.FieldType.int) (Cond.code yX7_law cX7_law 6 (some Jvm.ClassFile.FieldType.int)) yX7_law.cls cA D)  (v0 : Nat) (v1 : Int32) (σ : zS) (ls : Array Slot) (hk_v0 : L[v0]? = some (0, 7)) (hl : lv_has ls 6 [(0, .ref (b0 + v0)), (1, .int v1)]) : zJ p l e rmX7_law s m args below meth c b0 cA D L (fun z => MQ below (va_Qi (fun (r : Int32) (u : zS) => (r, u) = z) (zB b0 cA D L) (zA b0 L)) args s 0 0 (zA b0 L)) (bX7_law_156  v0 v1 σ) σ 156 ls [] := by
  unfold bX7_law_156
  refine zj_iconst (pc' := 157) (v := (0 : Int32)) hC dX7_law_156 rfl rfl ?_
  refine zj_istore (pc' := 159) (lv' := [(4, .int (0 : Int32)), (0, .ref (b0 + v0)), (1, .int v1)]) hC dX7_law_157 rfl hl (by decide) rfl (fun ls hl => ?_)
  exact lX7_law_159 hC zFU v0 v1 (0 : Int32) σ ls hk_v0 (lv_sub hl [1, 2, 0] rfl)
set_option maxRecDepth 100000 in
set_option maxHeartbeats 4000000 in
theorem jX7_law_121 {p : Program} {l : Launch} {e : Env} {s : State} {m : MethodId} {args : Array Value} {below : List Frame} {meth : Method} {c : Code} {b0 : Nat} {cA : Nat → ClassId} {D : va_G} {L : List (Nat × Nat)} (hC : zC p c s m args meth cX7_law 6 (some Jvm.ClassFile.FieldType.int) (Cond.code yX7_law cX7_law 6 (some Jvm.ClassFile.FieldType.int)) yX7_law.cls cA D) (k121 : Nat → Int32 → Int32 → zS → Option (Int32 × zS)) (h121 : ∀ (v0 : Nat) (v1 : Int32) (v4 : Int32) (σ : zS) (ls : Array Slot), L[v0]? = some (0, 7) → lv_has ls 6 [(0, .ref (b0 + v0)), (1, .int v1), (4, .int v4)] → zJ p l e rmX7_law s m args below meth c b0 cA D L (fun z => MQ below (va_Qi (fun (r : Int32) (u : zS) => (r, u) = z) (zB b0 cA D L) (zA b0 L)) args s 0 0 (zA b0 L)) (k121 v0 v1 v4 σ) σ 121 ls []) (v0 : Nat) (v1 : Int32) (v4 : Int32) (σ : zS) (ls : Array Slot) (hk_v0 : L[v0]? = some (0, 7)) (hl : lv_has ls 6 [(0, .ref (b0 + v0)), (1, .int v1), (4, .int v4)]) : zJ p l e rmX7_law s m args below meth c b0 cA D L (fun z => MQ below (va_Qi (fun (r : Int32) (u : zS) => (r, u) = z) (zB b0 cA D L) (zA b0 L)) args s 0 0 (zA b0 L)) (bX7_law_121 k121 v0 v1 v4 σ) σ 121 ls [] := by
  unfold bX7_law_121
  refine zj_iload (pc' := 123) hC dX7_law_121 rfl (lv_at hl 2 rfl) ?_
  refine zj_aload_n (pc' := 124) hC dX7_law_123 rfl rfl (lv_at hl 0 rfl) ?_
  refine zj_getI (pc' := 127) hC hk_v0 fd_7_16 rfl tw_4_64 dX7_law_124 rfl ?_
  refine zj_icmp_ge (tgt := 156) (pc' := 130) hC dX7_law_127 (by decide) rfl (fun c18 => ?_) (fun c18 => ?_)
  · exact jX7_law_156 hC v0 v1 σ ls hk_v0 (lv_sub hl [0, 1] rfl)
  · refine zj_aload_n (pc' := 131) hC dX7_law_130 rfl rfl (lv_at hl 0 rfl) ?_
    refine zj_getR (pc' := 134) hC hk_v0 fd_7_25 rfl tw_4_73 dX7_law_131 rfl (fun q19 hk_q19 => ?_)
    refine zj_sipush (pc' := 137) (v := (140 : Int32)) hC dX7_law_134 rfl rfl ?_
    refine zj_iload_n (pc' := 138) hC dX7_law_137 rfl rfl (lv_at hl 1 rfl) ?_
    refine zj_imul (pc' := 139) hC dX7_law_138 rfl ?_
    refine zj_iload (pc' := 141) hC dX7_law_139 rfl (lv_at hl 2 rfl) ?_
    refine zj_iadd (pc' := 142) hC dX7_law_141 rfl ?_
    refine zj_aload_n (pc' := 143) hC dX7_law_142 rfl rfl (lv_at hl 0 rfl) ?_
    refine zj_getR (pc' := 146) hC hk_v0 fd_7_20 rfl tw_4_68 dX7_law_143 rfl (fun q20 hk_q20 => ?_)
    refine zj_iload (pc' := 148) hC dX7_law_146 rfl (lv_at hl 2 rfl) ?_
    refine zj_iald (pc' := 149) hC hk_q20 dX7_law_148 rfl (fun g21 => ?_)
    refine zj_iast (pc' := 150) hC hk_q19 dX7_law_149 rfl (fun g22 σ23 => ?_)
    refine zj_iinc (pc' := 153) (k0 := 2) (v := (v4 + (1 : Int32))) (lv' := [(4, .int (v4 + (1 : Int32))), (0, .ref (b0 + v0)), (1, .int v1)]) hC dX7_law_150 rfl hl rfl rfl (by decide) rfl (fun ls hl => ?_)
    refine zj_goto (tgt := 121) hC dX7_law_153 (by decide) ?_
    exact h121 v0 v1 ((v4 + (1 : Int32))) σ23 ls hk_v0 (lv_sub hl [1, 2, 0] rfl)
set_option maxRecDepth 100000 in
set_option maxHeartbeats 4000000 in
theorem lX7_law_121 {p : Program} {l : Launch} {e : Env} {s : State} {m : MethodId} {args : Array Value} {below : List Frame} {meth : Method} {c : Code} {b0 : Nat} {cA : Nat → ClassId} {D : va_G} {L : List (Nat × Nat)} (hC : zC p c s m args meth cX7_law 6 (some Jvm.ClassFile.FieldType.int) (Cond.code yX7_law cX7_law 6 (some Jvm.ClassFile.FieldType.int)) yX7_law.cls cA D)  (n : Nat) : ∀ (v0 : Nat) (v1 : Int32) (v4 : Int32) (σ : zS) (ls : Array Slot), L[v0]? = some (0, 7) → lv_has ls 6 [(0, .ref (b0 + v0)), (1, .int v1), (4, .int v4)] → zJ p l e rmX7_law s m args below meth c b0 cA D L (fun z => MQ below (va_Qi (fun (r : Int32) (u : zS) => (r, u) = z) (zB b0 cA D L) (zA b0 L)) args s 0 0 (zA b0 L)) (fX7_law_121  n v0 v1 v4 σ) σ 121 ls [] := by
  induction n with
  | zero => intros; exact zj_none
  | succ n ih => exact jX7_law_121 hC (fX7_law_121  n) ih
set_option maxRecDepth 100000 in
set_option maxHeartbeats 4000000 in
theorem jX7_law_94 {p : Program} {l : Launch} {e : Env} {s : State} {m : MethodId} {args : Array Value} {below : List Frame} {meth : Method} {c : Code} {b0 : Nat} {cA : Nat → ClassId} {D : va_G} {L : List (Nat × Nat)} (hC : zC p c s m args meth cX7_law 6 (some Jvm.ClassFile.FieldType.int) (Cond.code yX7_law cX7_law 6 (some Jvm.ClassFile.FieldType.int)) yX7_law.cls cA D)  (v0 : Nat) (v1 : Int32) (v3 : Int32) (σ : zS) (ls : Array Slot) (hk_v0 : L[v0]? = some (0, 7)) (hb_v3 : nB v3) (hl : lv_has ls 6 [(0, .ref (b0 + v0)), (1, .int v1), (3, .int v3)]) : zJ p l e rmX7_law s m args below meth c b0 cA D L (fun z => MQ below (va_Qi (fun (r : Int32) (u : zS) => (r, u) = z) (zB b0 cA D L) (zA b0 L)) args s 0 0 (zA b0 L)) (bX7_law_94  v0 v1 v3 σ) σ 94 ls [] := by
  unfold bX7_law_94
  refine zj_aload_n (pc' := 95) hC dX7_law_94 rfl rfl (lv_at hl 0 rfl) ?_
  refine zj_iconst (pc' := 96) (v := (0 : Int32)) hC dX7_law_95 rfl rfl ?_
  refine zj_putI (pc' := 99) hC hk_v0 fd_7_11 rfl tw_4_59 rfl rfl rfl dX7_law_96 rfl (fun σ24 => ?_)
  refine zj_iload_n (pc' := 100) hC dX7_law_99 rfl rfl (lv_at hl 2 rfl) ?_
  refine zj_if_ne (tgt := 108) (pc' := 103) hC dX7_law_100 (by decide) rfl (fun c25 => ?_) (fun c25 => ?_)
  · refine zj_aload_n (pc' := 109) hC dX7_law_108 rfl rfl (lv_at hl 0 rfl) ?_
    refine zj_getR (pc' := 112) hC hk_v0 fd_7_26 rfl tw_4_74 dX7_law_109 rfl (fun q26 hk_q26 => ?_)
    refine zj_iload_n (pc' := 113) hC dX7_law_112 rfl rfl (lv_at hl 1 rfl) ?_
    refine zj_aload_n (pc' := 114) hC dX7_law_113 rfl rfl (lv_at hl 0 rfl) ?_
    refine zj_getI (pc' := 117) hC hk_v0 fd_7_18 rfl tw_4_66 dX7_law_114 rfl ?_
    refine zj_iast (pc' := 118) hC hk_q26 dX7_law_117 rfl (fun g27 σ28 => ?_)
    refine zj_iconst (pc' := 119) (v := (0 : Int32)) hC dX7_law_118 rfl rfl ?_
    refine zj_istore (pc' := 121) (lv' := [(4, .int (0 : Int32)), (0, .ref (b0 + v0)), (1, .int v1), (3, .int v3)]) hC dX7_law_119 rfl hl (by decide) rfl (fun ls hl => ?_)
    exact lX7_law_121 hC zFU v0 v1 (0 : Int32) σ28 ls hk_v0 (lv_sub hl [1, 2, 0] rfl)
  · refine zj_aload_n (pc' := 104) hC dX7_law_103 rfl rfl (lv_at hl 0 rfl) ?_
    refine zj_getI (pc' := 107) hC hk_v0 fd_7_14 rfl tw_4_62 dX7_law_104 rfl ?_
    exact zj_iret hC dX7_law_107
set_option maxRecDepth 100000 in
set_option maxHeartbeats 4000000 in
theorem jX7_law_90 {p : Program} {l : Launch} {e : Env} {s : State} {m : MethodId} {args : Array Value} {below : List Frame} {meth : Method} {c : Code} {b0 : Nat} {cA : Nat → ClassId} {D : va_G} {L : List (Nat × Nat)} (hC : zC p c s m args meth cX7_law 6 (some Jvm.ClassFile.FieldType.int) (Cond.code yX7_law cX7_law 6 (some Jvm.ClassFile.FieldType.int)) yX7_law.cls cA D) (k54 : Nat → Int32 → Int32 → zS → Option (Int32 × zS)) (h54 : ∀ (v0 : Nat) (v1 : Int32) (v3 : Int32) (σ : zS) (ls : Array Slot), L[v0]? = some (0, 7) → nB v3 → lv_has ls 6 [(0, .ref (b0 + v0)), (1, .int v1), (3, .int v3)] → zJ p l e rmX7_law s m args below meth c b0 cA D L (fun z => MQ below (va_Qi (fun (r : Int32) (u : zS) => (r, u) = z) (zB b0 cA D L) (zA b0 L)) args s 0 0 (zA b0 L)) (k54 v0 v1 v3 σ) σ 54 ls []) (v0 : Nat) (v1 : Int32) (s0 : Int32) (σ : zS) (ls : Array Slot) (hk_v0 : L[v0]? = some (0, 7)) (hb_s0 : nB s0) (hl : lv_has ls 6 [(0, .ref (b0 + v0)), (1, .int v1)]) : zJ p l e rmX7_law s m args below meth c b0 cA D L (fun z => MQ below (va_Qi (fun (r : Int32) (u : zS) => (r, u) = z) (zB b0 cA D L) (zA b0 L)) args s 0 0 (zA b0 L)) (bX7_law_90 k54 v0 v1 s0 σ) σ 90 ls [.int s0] := by
  unfold bX7_law_90
  refine zj_istore_n (pc' := 91) (lv' := [(3, .int s0), (0, .ref (b0 + v0)), (1, .int v1)]) hC dX7_law_90 rfl rfl hl (by decide) rfl (fun ls hl => ?_)
  refine zj_goto (tgt := 54) hC dX7_law_91 (by decide) ?_
  exact h54 v0 v1 s0 σ ls hk_v0 hb_s0 (lv_sub hl [1, 2, 0] rfl)
set_option maxRecDepth 100000 in
set_option maxHeartbeats 4000000 in
theorem jX7_law_89 {p : Program} {l : Launch} {e : Env} {s : State} {m : MethodId} {args : Array Value} {below : List Frame} {meth : Method} {c : Code} {b0 : Nat} {cA : Nat → ClassId} {D : va_G} {L : List (Nat × Nat)} (hC : zC p c s m args meth cX7_law 6 (some Jvm.ClassFile.FieldType.int) (Cond.code yX7_law cX7_law 6 (some Jvm.ClassFile.FieldType.int)) yX7_law.cls cA D) (k90 : Nat → Int32 → Int32 → zS → Option (Int32 × zS)) (h90 : ∀ (v0 : Nat) (v1 : Int32) (s0 : Int32) (σ : zS) (ls : Array Slot), L[v0]? = some (0, 7) → nB s0 → lv_has ls 6 [(0, .ref (b0 + v0)), (1, .int v1)] → zJ p l e rmX7_law s m args below meth c b0 cA D L (fun z => MQ below (va_Qi (fun (r : Int32) (u : zS) => (r, u) = z) (zB b0 cA D L) (zA b0 L)) args s 0 0 (zA b0 L)) (k90 v0 v1 s0 σ) σ 90 ls [.int s0]) (v0 : Nat) (v1 : Int32) (σ : zS) (ls : Array Slot) (hk_v0 : L[v0]? = some (0, 7)) (hl : lv_has ls 6 [(0, .ref (b0 + v0)), (1, .int v1)]) : zJ p l e rmX7_law s m args below meth c b0 cA D L (fun z => MQ below (va_Qi (fun (r : Int32) (u : zS) => (r, u) = z) (zB b0 cA D L) (zA b0 L)) args s 0 0 (zA b0 L)) (bX7_law_89 k90 v0 v1 σ) σ 89 ls [] := by
  unfold bX7_law_89
  refine zj_iconst (pc' := 90) (v := (0 : Int32)) hC dX7_law_89 rfl rfl ?_
  exact h90 v0 v1 (0 : Int32) σ ls hk_v0 nB_0 (lv_sub hl [0, 1] rfl)
set_option maxRecDepth 100000 in
set_option maxHeartbeats 4000000 in
theorem jX7_law_54 {p : Program} {l : Launch} {e : Env} {s : State} {m : MethodId} {args : Array Value} {below : List Frame} {meth : Method} {c : Code} {b0 : Nat} {cA : Nat → ClassId} {D : va_G} {L : List (Nat × Nat)} (hC : zC p c s m args meth cX7_law 6 (some Jvm.ClassFile.FieldType.int) (Cond.code yX7_law cX7_law 6 (some Jvm.ClassFile.FieldType.int)) yX7_law.cls cA D) (k54 : Nat → Int32 → Int32 → zS → Option (Int32 × zS)) (h54 : ∀ (v0 : Nat) (v1 : Int32) (v3 : Int32) (σ : zS) (ls : Array Slot), L[v0]? = some (0, 7) → nB v3 → lv_has ls 6 [(0, .ref (b0 + v0)), (1, .int v1), (3, .int v3)] → zJ p l e rmX7_law s m args below meth c b0 cA D L (fun z => MQ below (va_Qi (fun (r : Int32) (u : zS) => (r, u) = z) (zB b0 cA D L) (zA b0 L)) args s 0 0 (zA b0 L)) (k54 v0 v1 v3 σ) σ 54 ls []) (v0 : Nat) (v1 : Int32) (v3 : Int32) (σ : zS) (ls : Array Slot) (hk_v0 : L[v0]? = some (0, 7)) (hb_v3 : nB v3) (hl : lv_has ls 6 [(0, .ref (b0 + v0)), (1, .int v1), (3, .int v3)]) : zJ p l e rmX7_law s m args below meth c b0 cA D L (fun z => MQ below (va_Qi (fun (r : Int32) (u : zS) => (r, u) = z) (zB b0 cA D L) (zA b0 L)) args s 0 0 (zA b0 L)) (bX7_law_54 k54 v0 v1 v3 σ) σ 54 ls [] := by
  unfold bX7_law_54
  refine zj_iload_n (pc' := 55) hC dX7_law_54 rfl rfl (lv_at hl 2 rfl) ?_
  refine zj_if_eq (tgt := 94) (pc' := 58) hC dX7_law_55 (by decide) rfl (fun c29 => ?_) (fun c29 => ?_)
  · exact jX7_law_94 hC v0 v1 v3 σ ls hk_v0 hb_v3 (lv_sub hl [0, 1, 2] rfl)
  · refine zj_aload_n (pc' := 59) hC dX7_law_58 rfl rfl (lv_at hl 0 rfl) ?_
    refine zj_getI (pc' := 62) hC hk_v0 fd_7_12 rfl tw_4_60 dX7_law_59 rfl ?_
    refine zj_aload_n (pc' := 63) hC dX7_law_62 rfl rfl (lv_at hl 0 rfl) ?_
    refine zj_getI (pc' := 66) hC hk_v0 fd_7_13 rfl tw_4_61 dX7_law_63 rfl ?_
    refine zj_icmp_ge (tgt := 94) (pc' := 69) hC dX7_law_66 (by decide) rfl (fun c30 => ?_) (fun c30 => ?_)
    · exact jX7_law_94 hC v0 v1 v3 σ ls hk_v0 hb_v3 (lv_sub hl [0, 1, 2] rfl)
    · refine zj_aload_n (pc' := 70) hC dX7_law_69 rfl rfl (lv_at hl 0 rfl) ?_
      refine zj_bipush (pc' := 72) (v := (59 : Int32)) hC dX7_law_70 rfl rfl ?_
      refine zj_callzV (pc' := 75) (rest := []) hC (kX7_takes l b0 cA D L v0 (59 : Int32) σ hk_v0) hk_v0 rfl tw_5_106 tw_5_103 tw_5_105 ts_4_7 tw_1_8 ddX7_takes rfl ⟨rfl, rfl⟩ ⟨by decide, by decide⟩ hl.1 (Nat.le_of_ble_eq_true rfl) rfl dX7_law_72 rfl (fun r32 σ31 hb_r32 => ?_)
      refine zj_if_eq (tgt := 89) (pc' := 78) hC dX7_law_75 (by decide) rfl (fun c33 => ?_) (fun c33 => ?_)
      · exact jX7_law_89 hC (bX7_law_90 k54) (jX7_law_90 hC k54 h54) v0 v1 σ31 ls hk_v0 (lv_sub hl [0, 1] rfl)
      · refine zj_aload_n (pc' := 79) hC dX7_law_78 rfl rfl (lv_at hl 0 rfl) ?_
        refine zj_callzV (pc' := 82) (rest := []) hC (kX7_readsClause l b0 cA D L v0 σ31 hk_v0) hk_v0 rfl tw_5_31 tw_5_28 tw_5_30 ts_3_6 tw_1_8 ddX7_readsClause rfl ⟨rfl, rfl⟩ ⟨by decide, by decide⟩ hl.1 (Nat.le_of_ble_eq_true rfl) rfl dX7_law_79 rfl (fun r35 σ34 hb_r35 => ?_)
        refine zj_if_eq (tgt := 89) (pc' := 85) hC dX7_law_82 (by decide) rfl (fun c36 => ?_) (fun c36 => ?_)
        · exact jX7_law_89 hC (bX7_law_90 k54) (jX7_law_90 hC k54 h54) v0 v1 σ34 ls hk_v0 (lv_sub hl [0, 1] rfl)
        · refine zj_iconst (pc' := 86) (v := (1 : Int32)) hC dX7_law_85 rfl rfl ?_
          refine zj_goto (tgt := 90) hC dX7_law_86 (by decide) ?_
          exact jX7_law_90 hC k54 h54 v0 v1 (1 : Int32) σ34 ls hk_v0 nB_1 (lv_sub hl [0, 1] rfl)
set_option maxRecDepth 100000 in
set_option maxHeartbeats 4000000 in
theorem lX7_law_54 {p : Program} {l : Launch} {e : Env} {s : State} {m : MethodId} {args : Array Value} {below : List Frame} {meth : Method} {c : Code} {b0 : Nat} {cA : Nat → ClassId} {D : va_G} {L : List (Nat × Nat)} (hC : zC p c s m args meth cX7_law 6 (some Jvm.ClassFile.FieldType.int) (Cond.code yX7_law cX7_law 6 (some Jvm.ClassFile.FieldType.int)) yX7_law.cls cA D)  (n : Nat) : ∀ (v0 : Nat) (v1 : Int32) (v3 : Int32) (σ : zS) (ls : Array Slot), L[v0]? = some (0, 7) → nB v3 → lv_has ls 6 [(0, .ref (b0 + v0)), (1, .int v1), (3, .int v3)] → zJ p l e rmX7_law s m args below meth c b0 cA D L (fun z => MQ below (va_Qi (fun (r : Int32) (u : zS) => (r, u) = z) (zB b0 cA D L) (zA b0 L)) args s 0 0 (zA b0 L)) (fX7_law_54  n v0 v1 v3 σ) σ 54 ls [] := by
  induction n with
  | zero => intros; exact zj_none
  | succ n ih => exact jX7_law_54 hC (fX7_law_54  n) ih
set_option maxRecDepth 100000 in
set_option maxHeartbeats 4000000 in
theorem kX7_law (l : Launch) (b0 : Nat) (cA : Nat → ClassId) (D : va_G) (L : List (Nat × Nat)) (v0 : Nat) (v1 : Int32) (v2 : Int32) (σ : zS) (hk0 : L[v0]? = some (0, 7)) : zMi l b0 cA D L yX7_law (Cond.code yX7_law cX7_law 6 (some Jvm.ClassFile.FieldType.int)) rmX7_law [.ref (b0 + v0), .int v1, .int v2] σ (fX7_law v0 v1 v2 σ) := by
  refine zMi_of (by decide) (Nat.le_of_ble_eq_true rfl) ?_
  intro p e s m below meth c ls hC hl
  have hl : lv_has ls 6 [(0, .ref (b0 + v0)), (1, .int v1), (2, .int v2)] := hl
  generalize ([.ref (b0 + v0), .int v1, .int v2] : List Value).toArray = args at hC ⊢
  unfold fX7_law
  refine zj_iload_n (pc' := 1) hC dX7_law_0 rfl rfl (lv_at hl 1 rfl) ?_
  refine zj_iconst (pc' := 2) (v := (0 : Int32)) hC dX7_law_1 rfl rfl ?_
  refine zj_iconst (pc' := 3) (v := (3 : Int32)) hC dX7_law_2 rfl rfl ?_
  refine zj_callzS (pc' := 6) (rest := []) hC (kX7_in l b0 cA D L v1 (0 : Int32) (3 : Int32) σ ) tw_4_214 tw_4_212 tw_4_213 tw_1_8 ddX7_in rfl ⟨rfl, rfl⟩ ⟨by decide, by decide⟩ hl.1 (Nat.le_of_ble_eq_true rfl) rfl dX7_law_3 rfl (fun r38 σ37 hb_r38 => ?_)
  refine zj_if_eq (tgt := 27) (pc' := 9) hC dX7_law_6 (by decide) rfl (fun c39 => ?_) (fun c39 => ?_)
  · refine zj_iconst (pc' := 28) (v := (-1 : Int32)) hC dX7_law_27 rfl rfl ?_
    exact zj_iret hC dX7_law_28
  · refine zj_iload_n (pc' := 10) hC dX7_law_9 rfl rfl (lv_at hl 2 rfl) ?_
    refine zj_iconst (pc' := 11) (v := (1 : Int32)) hC dX7_law_10 rfl rfl ?_
    refine zj_bipush (pc' := 13) (v := (120 : Int32)) hC dX7_law_11 rfl rfl ?_
    refine zj_callzS (pc' := 16) (rest := []) hC (kX7_in l b0 cA D L v2 (1 : Int32) (120 : Int32) σ37 ) tw_4_214 tw_4_212 tw_4_213 tw_1_8 ddX7_in rfl ⟨rfl, rfl⟩ ⟨by decide, by decide⟩ hl.1 (Nat.le_of_ble_eq_true rfl) rfl dX7_law_13 rfl (fun r41 σ40 hb_r41 => ?_)
    refine zj_if_eq (tgt := 27) (pc' := 19) hC dX7_law_16 (by decide) rfl (fun c42 => ?_) (fun c42 => ?_)
    · refine zj_iconst (pc' := 28) (v := (-1 : Int32)) hC dX7_law_27 rfl rfl ?_
      exact zj_iret hC dX7_law_28
    · refine zj_iload_n (pc' := 20) hC dX7_law_19 rfl rfl (lv_at hl 2 rfl) ?_
      refine zj_aload_n (pc' := 21) hC dX7_law_20 rfl rfl (lv_at hl 0 rfl) ?_
      refine zj_getI (pc' := 24) hC hk0 fd_7_11 rfl tw_4_59 dX7_law_21 rfl ?_
      refine zj_icmp_le (tgt := 29) (pc' := 27) hC dX7_law_24 (by decide) rfl (fun c43 => ?_) (fun c43 => ?_)
      · refine zj_aload_n (pc' := 30) hC dX7_law_29 rfl rfl (lv_at hl 0 rfl) ?_
        refine zj_iconst (pc' := 31) (v := (0 : Int32)) hC dX7_law_30 rfl rfl ?_
        refine zj_putI (pc' := 34) hC hk0 fd_7_12 rfl tw_4_60 rfl rfl rfl dX7_law_31 rfl (fun σ44 => ?_)
        refine zj_aload_n (pc' := 35) hC dX7_law_34 rfl rfl (lv_at hl 0 rfl) ?_
        refine zj_iload_n (pc' := 36) hC dX7_law_35 rfl rfl (lv_at hl 2 rfl) ?_
        refine zj_putI (pc' := 39) hC hk0 fd_7_13 rfl tw_4_61 rfl rfl rfl dX7_law_36 rfl (fun σ45 => ?_)
        refine zj_aload_n (pc' := 40) hC dX7_law_39 rfl rfl (lv_at hl 0 rfl) ?_
        refine zj_iconst (pc' := 41) (v := (0 : Int32)) hC dX7_law_40 rfl rfl ?_
        refine zj_putI (pc' := 44) hC hk0 fd_7_16 rfl tw_4_64 rfl rfl rfl dX7_law_41 rfl (fun σ46 => ?_)
        refine zj_aload_n (pc' := 45) hC dX7_law_44 rfl rfl (lv_at hl 0 rfl) ?_
        refine zj_iconst (pc' := 46) (v := (0 : Int32)) hC dX7_law_45 rfl rfl ?_
        refine zj_putI (pc' := 49) hC hk0 fd_7_18 rfl tw_4_66 rfl rfl rfl dX7_law_46 rfl (fun σ47 => ?_)
        refine zj_aload_n (pc' := 50) hC dX7_law_49 rfl rfl (lv_at hl 0 rfl) ?_
        refine zj_callzV (pc' := 53) (rest := []) hC (kX7_readsClause l b0 cA D L v0 σ47 hk0) hk0 rfl tw_5_31 tw_5_28 tw_5_30 ts_3_6 tw_1_8 ddX7_readsClause rfl ⟨rfl, rfl⟩ ⟨by decide, by decide⟩ hl.1 (Nat.le_of_ble_eq_true rfl) rfl dX7_law_50 rfl (fun r49 σ48 hb_r49 => ?_)
        refine zj_istore_n (pc' := 54) (lv' := [(3, .int r49), (0, .ref (b0 + v0)), (1, .int v1), (2, .int v2)]) hC dX7_law_53 rfl rfl hl (by decide) rfl (fun ls hl => ?_)
        exact lX7_law_54 hC zFU v0 v1 r49 σ48 ls hk0 hb_r49 (lv_sub hl [1, 2, 0] rfl)
      · refine zj_iconst (pc' := 28) (v := (-1 : Int32)) hC dX7_law_27 rfl rfl ?_
        exact zj_iret hC dX7_law_28
-- X7_reckon
theorem ddX7_reckon : yX7_reckon.cls ≠ "java/lang/invoke/MethodHandle" ∧ yX7_reckon.cls ≠ "java/lang/invoke/VarHandle" ∧ (parseMethodDescriptor yX7_reckon.desc).map (fun d => d.parameters.length) = some 3 := by decide +kernel
abbrev rmX7_reckon : Room := { frames := 0, cells := 0, slots := 0, locals := 0 }
def fX7_reckon (v0 : Int32) (v1 : Int32) (v2 : Int32) (σ : zS) : Option (Int32 × zS) :=
  if v0 = (2 : Int32) then (some ((v1 + v2), σ)) else (if v0 = (3 : Int32) then (some ((v1 - v2), σ)) else (if v0 = (4 : Int32) then (some ((v1 * v2), σ)) else (if v0 = (5 : Int32) then (zV v2 (some ((v1 / v2), σ))) else (if v0 = (6 : Int32) then (zV v2 (some ((v1 - v1 / v2 * v2), σ))) else (if v0 = (7 : Int32) then (if v2 ≤ v1 then (some ((0 : Int32), σ)) else (some ((1 : Int32), σ))) else (if v0 = (8 : Int32) then (if v1 ≤ v2 then (some ((0 : Int32), σ)) else (some ((1 : Int32), σ))) else (if v1 = v2 then (some ((1 : Int32), σ)) else (some ((0 : Int32), σ)))))))))
set_option maxRecDepth 100000 in
set_option maxHeartbeats 4000000 in
theorem kX7_reckon (l : Launch) (b0 : Nat) (cA : Nat → ClassId) (D : va_G) (L : List (Nat × Nat)) (v0 : Int32) (v1 : Int32) (v2 : Int32) (σ : zS)  : zMi l b0 cA D L yX7_reckon (Cond.code yX7_reckon cX7_reckon 3 (some Jvm.ClassFile.FieldType.int)) rmX7_reckon [.int v0, .int v1, .int v2] σ (fX7_reckon v0 v1 v2 σ) := by
  refine zMi_of (by decide) (Nat.le_of_ble_eq_true rfl) ?_
  intro p e s m below meth c ls hC hl
  have hl : lv_has ls 3 [(0, .int v0), (1, .int v1), (2, .int v2)] := hl
  generalize ([.int v0, .int v1, .int v2] : List Value).toArray = args at hC ⊢
  unfold fX7_reckon
  refine zj_iload_n (pc' := 1) hC dX7_reckon_0 rfl rfl (lv_at hl 0 rfl) ?_
  refine zj_split (fun c1 => ?_) (fun c1 => ?_)
  · refine zj_tabIn (tgt := 44) 2 hC dX7_reckon_1 (by rw [c1]; decide) (by decide) (by decide) rfl (by decide) ?_
    refine zj_iload_n (pc' := 45) hC dX7_reckon_44 rfl rfl (lv_at hl 1 rfl) ?_
    refine zj_iload_n (pc' := 46) hC dX7_reckon_45 rfl rfl (lv_at hl 2 rfl) ?_
    refine zj_iadd (pc' := 47) hC dX7_reckon_46 rfl ?_
    exact zj_iret hC dX7_reckon_47
  refine zj_split (fun c2 => ?_) (fun c2 => ?_)
  · refine zj_tabIn (tgt := 48) 3 hC dX7_reckon_1 (by rw [c2]; decide) (by decide) (by decide) rfl (by decide) ?_
    refine zj_iload_n (pc' := 49) hC dX7_reckon_48 rfl rfl (lv_at hl 1 rfl) ?_
    refine zj_iload_n (pc' := 50) hC dX7_reckon_49 rfl rfl (lv_at hl 2 rfl) ?_
    refine zj_isub (pc' := 51) hC dX7_reckon_50 rfl ?_
    exact zj_iret hC dX7_reckon_51
  refine zj_split (fun c3 => ?_) (fun c3 => ?_)
  · refine zj_tabIn (tgt := 52) 4 hC dX7_reckon_1 (by rw [c3]; decide) (by decide) (by decide) rfl (by decide) ?_
    refine zj_iload_n (pc' := 53) hC dX7_reckon_52 rfl rfl (lv_at hl 1 rfl) ?_
    refine zj_iload_n (pc' := 54) hC dX7_reckon_53 rfl rfl (lv_at hl 2 rfl) ?_
    refine zj_imul (pc' := 55) hC dX7_reckon_54 rfl ?_
    exact zj_iret hC dX7_reckon_55
  refine zj_split (fun c4 => ?_) (fun c4 => ?_)
  · refine zj_tabIn (tgt := 56) 5 hC dX7_reckon_1 (by rw [c4]; decide) (by decide) (by decide) rfl (by decide) ?_
    refine zj_iload_n (pc' := 57) hC dX7_reckon_56 rfl rfl (lv_at hl 1 rfl) ?_
    refine zj_iload_n (pc' := 58) hC dX7_reckon_57 rfl rfl (lv_at hl 2 rfl) ?_
    refine zj_idiv (pc' := 59) hC dX7_reckon_58 rfl (fun g5 => ?_)
    exact zj_iret hC dX7_reckon_59
  refine zj_split (fun c6 => ?_) (fun c6 => ?_)
  · refine zj_tabIn (tgt := 60) 6 hC dX7_reckon_1 (by rw [c6]; decide) (by decide) (by decide) rfl (by decide) ?_
    refine zj_iload_n (pc' := 61) hC dX7_reckon_60 rfl rfl (lv_at hl 1 rfl) ?_
    refine zj_iload_n (pc' := 62) hC dX7_reckon_61 rfl rfl (lv_at hl 2 rfl) ?_
    refine zj_irem (pc' := 63) hC dX7_reckon_62 rfl (fun g7 => ?_)
    exact zj_iret hC dX7_reckon_63
  refine zj_split (fun c8 => ?_) (fun c8 => ?_)
  · refine zj_tabIn (tgt := 64) 7 hC dX7_reckon_1 (by rw [c8]; decide) (by decide) (by decide) rfl (by decide) ?_
    refine zj_iload_n (pc' := 65) hC dX7_reckon_64 rfl rfl (lv_at hl 1 rfl) ?_
    refine zj_iload_n (pc' := 66) hC dX7_reckon_65 rfl rfl (lv_at hl 2 rfl) ?_
    refine zj_icmp_ge (tgt := 73) (pc' := 69) hC dX7_reckon_66 (by decide) rfl (fun c9 => ?_) (fun c9 => ?_)
    · refine zj_iconst (pc' := 74) (v := (0 : Int32)) hC dX7_reckon_73 rfl rfl ?_
      exact zj_iret hC dX7_reckon_74
    · refine zj_iconst (pc' := 70) (v := (1 : Int32)) hC dX7_reckon_69 rfl rfl ?_
      refine zj_goto (tgt := 74) hC dX7_reckon_70 (by decide) ?_
      exact zj_iret hC dX7_reckon_74
  refine zj_split (fun c10 => ?_) (fun c10 => ?_)
  · refine zj_tabIn (tgt := 75) 8 hC dX7_reckon_1 (by rw [c10]; decide) (by decide) (by decide) rfl (by decide) ?_
    refine zj_iload_n (pc' := 76) hC dX7_reckon_75 rfl rfl (lv_at hl 1 rfl) ?_
    refine zj_iload_n (pc' := 77) hC dX7_reckon_76 rfl rfl (lv_at hl 2 rfl) ?_
    refine zj_icmp_le (tgt := 84) (pc' := 80) hC dX7_reckon_77 (by decide) rfl (fun c11 => ?_) (fun c11 => ?_)
    · refine zj_iconst (pc' := 85) (v := (0 : Int32)) hC dX7_reckon_84 rfl rfl ?_
      exact zj_iret hC dX7_reckon_85
    · refine zj_iconst (pc' := 81) (v := (1 : Int32)) hC dX7_reckon_80 rfl rfl ?_
      refine zj_goto (tgt := 85) hC dX7_reckon_81 (by decide) ?_
      exact zj_iret hC dX7_reckon_85
  refine zj_tabD (tgt := 86) [0, 1, 2, 3, 4, 5, 6] 7 hC dX7_reckon_1 (by decide) (by decide) (List.forall_mem_cons.mpr ⟨lv_neT c1 (by decide), List.forall_mem_cons.mpr ⟨lv_neT c2 (by decide), List.forall_mem_cons.mpr ⟨lv_neT c3 (by decide), List.forall_mem_cons.mpr ⟨lv_neT c4 (by decide), List.forall_mem_cons.mpr ⟨lv_neT c6 (by decide), List.forall_mem_cons.mpr ⟨lv_neT c8 (by decide), List.forall_mem_cons.mpr ⟨lv_neT c10 (by decide), fun _ h => absurd h List.not_mem_nil⟩⟩⟩⟩⟩⟩⟩) (by decide) ?_
  refine zj_iload_n (pc' := 87) hC dX7_reckon_86 rfl rfl (lv_at hl 1 rfl) ?_
  refine zj_iload_n (pc' := 88) hC dX7_reckon_87 rfl rfl (lv_at hl 2 rfl) ?_
  refine zj_icmp_ne (tgt := 95) (pc' := 91) hC dX7_reckon_88 (by decide) rfl (fun c12 => ?_) (fun c12 => ?_)
  · refine zj_iconst (pc' := 96) (v := (0 : Int32)) hC dX7_reckon_95 rfl rfl ?_
    exact zj_iret hC dX7_reckon_96
  · refine zj_iconst (pc' := 92) (v := (1 : Int32)) hC dX7_reckon_91 rfl rfl ?_
    refine zj_goto (tgt := 96) hC dX7_reckon_92 (by decide) ?_
    exact zj_iret hC dX7_reckon_96
-- X7_isTrue
theorem ddX7_isTrue : yX7_isTrue.cls ≠ "java/lang/invoke/MethodHandle" ∧ yX7_isTrue.cls ≠ "java/lang/invoke/VarHandle" ∧ (parseMethodDescriptor yX7_isTrue.desc).map (fun d => d.parameters.length) = some 1 := by decide +kernel
abbrev rmX7_isTrue : Room := { frames := 1, cells := 0, slots := 0, locals := 22 }
def bX7_isTrue_240  (v0 : Nat) (σ : zS) : Option (Int32 × zS) :=
  bnd (σ.2 v0 30) (fun (q1 : Nat) => zX (0 : Int32) 140 (if (σ.1 q1 ((0 : Int32)).toNatClampNeg) = (1 : Int32) then (some ((1 : Int32), σ)) else (some ((0 : Int32), σ))))
def bX7_isTrue_237 (k19 : Nat → Int32 → Int32 → Int32 → Int32 → zS → Option (Int32 × zS)) (v0 : Nat) (v1 : Int32) (v2 : Int32) (v3 : Int32) (v4 : Int32) (σ : zS) : Option (Int32 × zS) :=
  k19 v0 v1 v2 v3 v4 σ
def bX7_isTrue_210 (k237 : Nat → Int32 → Int32 → Int32 → Int32 → zS → Option (Int32 × zS)) (v0 : Nat) (v1 : Int32) (v2 : Int32) (v3 : Int32) (v4 : Int32) (v5 : Int32) (σ : zS) : Option (Int32 × zS) :=
  bnd (σ.2 v0 30) (fun (q4 : Nat) => bnd (σ.2 v0 30) (fun (q5 : Nat) => zX (v2 - (1 : Int32)) 140 (bnd (σ.2 v0 30) (fun (q7 : Nat) => zX v2 140 (zb (fX7_reckon v5 ((σ.1 q5 ((v2 - (1 : Int32))).toNatClampNeg)) ((σ.1 q7 (v2).toNatClampNeg)) σ) (fun (r10 : Int32) (σ9 : zS) => zX (v2 - (1 : Int32)) 140 (bnd (zI σ9 q4 ((v2 - (1 : Int32))).toNatClampNeg r10) (fun (σ12 : zS) => k237 v0 v1 v2 v3 v4 σ12))))))))
def bX7_isTrue_199 (k210 : Nat → Int32 → Int32 → Int32 → Int32 → Int32 → zS → Option (Int32 × zS)) (v0 : Nat) (v1 : Int32) (v2 : Int32) (v3 : Int32) (v4 : Int32) (v5 : Int32) (σ : zS) : Option (Int32 × zS) :=
  bnd (σ.2 v0 30) (fun (q13 : Nat) => zX v2 140 (if (σ.1 q13 (v2).toNatClampNeg) = 0 then (some ((0 : Int32), σ)) else (k210 v0 v1 v2 v3 v4 v5 σ)))
def bX7_isTrue_163 (k237 : Nat → Int32 → Int32 → Int32 → Int32 → zS → Option (Int32 × zS)) (v0 : Nat) (v1 : Int32) (v2 : Int32) (v3 : Int32) (v4 : Int32) (v6 : Int32) (s0 : Int32) (s1 : Int32) (σ : zS) : Option (Int32 × zS) :=
  if s0 = s1 then (bnd ((v3 + v6)) (fun (x18 : Int32) => k237 v0 v1 v2 v3 x18 σ)) else (bnd ((v2 - (1 : Int32))) (fun (x17 : Int32) => k237 v0 v1 x17 v3 v4 σ))
def bX7_isTrue_143 (k237 : Nat → Int32 → Int32 → Int32 → Int32 → zS → Option (Int32 × zS)) (v0 : Nat) (v1 : Int32) (v2 : Int32) (v3 : Int32) (v4 : Int32) (v5 : Int32) (v6 : Int32) (σ : zS) : Option (Int32 × zS) :=
  bnd (σ.2 v0 30) (fun (q19 : Nat) => zX (v2 - (1 : Int32)) 140 (if v5 = (12 : Int32) then (bX7_isTrue_163 k237 v0 v1 v2 v3 v4 v6 ((σ.1 q19 ((v2 - (1 : Int32))).toNatClampNeg)) (1 : Int32) σ) else (bX7_isTrue_163 k237 v0 v1 v2 v3 v4 v6 ((σ.1 q19 ((v2 - (1 : Int32))).toNatClampNeg)) (0 : Int32) σ)))
def bX7_isTrue_93 (k237 : Nat → Int32 → Int32 → Int32 → Int32 → zS → Option (Int32 × zS)) (v0 : Nat) (v1 : Int32) (v2 : Int32) (v3 : Int32) (v4 : Int32) (s0 : Nat) (s1 : Int32) (s2 : Int32) (σ : zS) : Option (Int32 × zS) :=
  zX s1 140 (bnd (zI σ s0 (s1).toNatClampNeg s2) (fun (σ23 : zS) => bnd ((v2 + (1 : Int32))) (fun (x24 : Int32) => k237 v0 v1 x24 v3 v4 σ23)))
def bX7_isTrue_71 (k237 : Nat → Int32 → Int32 → Int32 → Int32 → zS → Option (Int32 × zS)) (v0 : Nat) (v1 : Int32) (v2 : Int32) (v3 : Int32) (v4 : Int32) (v5 : Int32) (v6 : Int32) (σ : zS) : Option (Int32 × zS) :=
  bnd (σ.2 v0 30) (fun (q25 : Nat) => if v5 = 0 then (bX7_isTrue_93 k237 v0 v1 v2 v3 v4 q25 v2 v6 σ) else (bnd (σ.2 v0 31) (fun (q27 : Nat) => zX v6 12 (bX7_isTrue_93 k237 v0 v1 v2 v3 v4 q25 v2 ((σ.1 q27 (v6).toNatClampNeg)) σ))))
def bX7_isTrue_19 (k19 : Nat → Int32 → Int32 → Int32 → Int32 → zS → Option (Int32 × zS)) (v0 : Nat) (v1 : Int32) (v2 : Int32) (v3 : Int32) (v4 : Int32) (σ : zS) : Option (Int32 × zS) :=
  bnd (σ.2 v0 29) (fun (q29 : Nat) => zX v1 48 (if (σ.1 q29 (v1).toNatClampNeg) ≤ v4 then (bX7_isTrue_240 v0 σ) else (bnd (σ.2 v0 25) (fun (q32 : Nat) => zX v4 560 (bnd (((σ.1 q32 (v4).toNatClampNeg) / (1048576 : Int32))) (fun (x34 : Int32) => bnd (σ.2 v0 25) (fun (q35 : Nat) => zX v4 560 (bnd (((σ.1 q35 (v4).toNatClampNeg) - (σ.1 q35 (v4).toNatClampNeg) / (1048576 : Int32) * (1048576 : Int32))) (fun (x37 : Int32) => bnd ((v4 + (1 : Int32))) (fun (x38 : Int32) => if x34 = 0 then (bX7_isTrue_71 (bX7_isTrue_237 k19) v0 v1 v2 v3 x38 x34 x37 σ) else (if x34 = (1 : Int32) then (bX7_isTrue_71 (bX7_isTrue_237 k19) v0 v1 v2 v3 x38 x34 x37 σ) else (if x34 = (10 : Int32) then (bnd (σ.2 v0 30) (fun (q47 : Nat) => bnd (σ.2 v0 30) (fun (q48 : Nat) => zX (v2 - (1 : Int32)) 140 (zX (v2 - (1 : Int32)) 140 (bnd (zI σ q47 ((v2 - (1 : Int32))).toNatClampNeg ((1 : Int32) - (σ.1 q48 ((v2 - (1 : Int32))).toNatClampNeg))) (fun (σ51 : zS) => bX7_isTrue_237 k19 v0 v1 v2 v3 x38 σ51)))))) else (if x34 = (11 : Int32) then (bX7_isTrue_143 (bX7_isTrue_237 k19) v0 v1 v2 v3 x38 x34 x37 σ) else (if x34 = (12 : Int32) then (bX7_isTrue_143 (bX7_isTrue_237 k19) v0 v1 v2 v3 x38 x34 x37 σ) else (bnd ((v2 - (1 : Int32))) (fun (x44 : Int32) => if x34 = (5 : Int32) then (bX7_isTrue_199 (bX7_isTrue_210 (bX7_isTrue_237 k19)) v0 v1 x44 v3 x38 x34 σ) else (if x34 = (6 : Int32) then (bX7_isTrue_199 (bX7_isTrue_210 (bX7_isTrue_237 k19)) v0 v1 x44 v3 x38 x34 σ) else (bX7_isTrue_210 (bX7_isTrue_237 k19) v0 v1 x44 v3 x38 x34 σ))))))))))))))))))
def fX7_isTrue_19  : Nat → Nat → Int32 → Int32 → Int32 → Int32 → zS → Option (Int32 × zS)
  | 0, _, _, _, _, _, _ => none
  | n + 1, v0, v1, v2, v3, v4, σ => bX7_isTrue_19 (fX7_isTrue_19  n) v0 v1 v2 v3 v4 σ
def fX7_isTrue (v0 : Nat) (v1 : Int32) (σ : zS) : Option (Int32 × zS) :=
  bnd (((140 : Int32) * (v1 / (12 : Int32)))) (fun (x52 : Int32) => bnd (σ.2 v0 28) (fun (q53 : Nat) => zX v1 48 (bnd ((σ.1 q53 (v1).toNatClampNeg)) (fun (x55 : Int32) => fX7_isTrue_19 zFU v0 v1 (0 : Int32) x52 x55 σ))))
set_option maxRecDepth 100000 in
set_option maxHeartbeats 4000000 in
theorem jX7_isTrue_240 {p : Program} {l : Launch} {e : Env} {s : State} {m : MethodId} {args : Array Value} {below : List Frame} {meth : Method} {c : Code} {b0 : Nat} {cA : Nat → ClassId} {D : va_G} {L : List (Nat × Nat)} (hC : zC p c s m args meth cX7_isTrue 7 (some Jvm.ClassFile.FieldType.boolean) (Cond.code yX7_isTrue cX7_isTrue 7 (some Jvm.ClassFile.FieldType.boolean)) yX7_isTrue.cls cA D)  (v0 : Nat) (σ : zS) (ls : Array Slot) (hk_v0 : L[v0]? = some (0, 7)) (hl : lv_has ls 7 [(0, .ref (b0 + v0))]) : zJ p l e rmX7_isTrue s m args below meth c b0 cA D L (fun z => MQ below (va_Qi (fun (r : Int32) (u : zS) => (r, u) = z ∧ nB r) (zB b0 cA D L) (zA b0 L)) args s 0 0 (zA b0 L)) (bX7_isTrue_240  v0 σ) σ 240 ls [] := by
  unfold bX7_isTrue_240
  refine zj_aload_n (pc' := 241) hC dX7_isTrue_240 rfl rfl (lv_at hl 0 rfl) ?_
  refine zj_getR (pc' := 244) hC hk_v0 fd_7_30 rfl tw_4_78 dX7_isTrue_241 rfl (fun q1 hk_q1 => ?_)
  refine zj_iconst (pc' := 245) (v := (0 : Int32)) hC dX7_isTrue_244 rfl rfl ?_
  refine zj_iald (pc' := 246) hC hk_q1 dX7_isTrue_245 rfl (fun g2 => ?_)
  refine zj_iconst (pc' := 247) (v := (1 : Int32)) hC dX7_isTrue_246 rfl rfl ?_
  refine zj_icmp_ne (tgt := 254) (pc' := 250) hC dX7_isTrue_247 (by decide) rfl (fun c3 => ?_) (fun c3 => ?_)
  · refine zj_iconst (pc' := 255) (v := (0 : Int32)) hC dX7_isTrue_254 rfl rfl ?_
    exact zj_zret hC nB_0 dX7_isTrue_255
  · refine zj_iconst (pc' := 251) (v := (1 : Int32)) hC dX7_isTrue_250 rfl rfl ?_
    refine zj_goto (tgt := 255) hC dX7_isTrue_251 (by decide) ?_
    exact zj_zret hC nB_1 dX7_isTrue_255
set_option maxRecDepth 100000 in
set_option maxHeartbeats 4000000 in
theorem jX7_isTrue_237 {p : Program} {l : Launch} {e : Env} {s : State} {m : MethodId} {args : Array Value} {below : List Frame} {meth : Method} {c : Code} {b0 : Nat} {cA : Nat → ClassId} {D : va_G} {L : List (Nat × Nat)} (hC : zC p c s m args meth cX7_isTrue 7 (some Jvm.ClassFile.FieldType.boolean) (Cond.code yX7_isTrue cX7_isTrue 7 (some Jvm.ClassFile.FieldType.boolean)) yX7_isTrue.cls cA D) (k19 : Nat → Int32 → Int32 → Int32 → Int32 → zS → Option (Int32 × zS)) (h19 : ∀ (v0 : Nat) (v1 : Int32) (v2 : Int32) (v3 : Int32) (v4 : Int32) (σ : zS) (ls : Array Slot), L[v0]? = some (0, 7) → lv_has ls 7 [(0, .ref (b0 + v0)), (1, .int v1), (2, .int v2), (3, .int v3), (4, .int v4)] → zJ p l e rmX7_isTrue s m args below meth c b0 cA D L (fun z => MQ below (va_Qi (fun (r : Int32) (u : zS) => (r, u) = z ∧ nB r) (zB b0 cA D L) (zA b0 L)) args s 0 0 (zA b0 L)) (k19 v0 v1 v2 v3 v4 σ) σ 19 ls []) (v0 : Nat) (v1 : Int32) (v2 : Int32) (v3 : Int32) (v4 : Int32) (σ : zS) (ls : Array Slot) (hk_v0 : L[v0]? = some (0, 7)) (hl : lv_has ls 7 [(0, .ref (b0 + v0)), (1, .int v1), (2, .int v2), (3, .int v3), (4, .int v4)]) : zJ p l e rmX7_isTrue s m args below meth c b0 cA D L (fun z => MQ below (va_Qi (fun (r : Int32) (u : zS) => (r, u) = z ∧ nB r) (zB b0 cA D L) (zA b0 L)) args s 0 0 (zA b0 L)) (bX7_isTrue_237 k19 v0 v1 v2 v3 v4 σ) σ 237 ls [] := by
  unfold bX7_isTrue_237
  refine zj_goto (tgt := 19) hC dX7_isTrue_237 (by decide) ?_
  exact h19 v0 v1 v2 v3 v4 σ ls hk_v0 (lv_sub hl [0, 1, 2, 3, 4] rfl)
set_option maxRecDepth 100000 in
set_option maxHeartbeats 4000000 in
theorem jX7_isTrue_210 {p : Program} {l : Launch} {e : Env} {s : State} {m : MethodId} {args : Array Value} {below : List Frame} {meth : Method} {c : Code} {b0 : Nat} {cA : Nat → ClassId} {D : va_G} {L : List (Nat × Nat)} (hC : zC p c s m args meth cX7_isTrue 7 (some Jvm.ClassFile.FieldType.boolean) (Cond.code yX7_isTrue cX7_isTrue 7 (some Jvm.ClassFile.FieldType.boolean)) yX7_isTrue.cls cA D) (k237 : Nat → Int32 → Int32 → Int32 → Int32 → zS → Option (Int32 × zS)) (h237 : ∀ (v0 : Nat) (v1 : Int32) (v2 : Int32) (v3 : Int32) (v4 : Int32) (σ : zS) (ls : Array Slot), L[v0]? = some (0, 7) → lv_has ls 7 [(0, .ref (b0 + v0)), (1, .int v1), (2, .int v2), (3, .int v3), (4, .int v4)] → zJ p l e rmX7_isTrue s m args below meth c b0 cA D L (fun z => MQ below (va_Qi (fun (r : Int32) (u : zS) => (r, u) = z ∧ nB r) (zB b0 cA D L) (zA b0 L)) args s 0 0 (zA b0 L)) (k237 v0 v1 v2 v3 v4 σ) σ 237 ls []) (v0 : Nat) (v1 : Int32) (v2 : Int32) (v3 : Int32) (v4 : Int32) (v5 : Int32) (σ : zS) (ls : Array Slot) (hk_v0 : L[v0]? = some (0, 7)) (hl : lv_has ls 7 [(0, .ref (b0 + v0)), (1, .int v1), (2, .int v2), (3, .int v3), (4, .int v4), (5, .int v5)]) : zJ p l e rmX7_isTrue s m args below meth c b0 cA D L (fun z => MQ below (va_Qi (fun (r : Int32) (u : zS) => (r, u) = z ∧ nB r) (zB b0 cA D L) (zA b0 L)) args s 0 0 (zA b0 L)) (bX7_isTrue_210 k237 v0 v1 v2 v3 v4 v5 σ) σ 210 ls [] := by
  unfold bX7_isTrue_210
  refine zj_aload_n (pc' := 211) hC dX7_isTrue_210 rfl rfl (lv_at hl 0 rfl) ?_
  refine zj_getR (pc' := 214) hC hk_v0 fd_7_30 rfl tw_4_78 dX7_isTrue_211 rfl (fun q4 hk_q4 => ?_)
  refine zj_iload_n (pc' := 215) hC dX7_isTrue_214 rfl rfl (lv_at hl 2 rfl) ?_
  refine zj_iconst (pc' := 216) (v := (1 : Int32)) hC dX7_isTrue_215 rfl rfl ?_
  refine zj_isub (pc' := 217) hC dX7_isTrue_216 rfl ?_
  refine zj_iload (pc' := 219) hC dX7_isTrue_217 rfl (lv_at hl 5 rfl) ?_
  refine zj_aload_n (pc' := 220) hC dX7_isTrue_219 rfl rfl (lv_at hl 0 rfl) ?_
  refine zj_getR (pc' := 223) hC hk_v0 fd_7_30 rfl tw_4_78 dX7_isTrue_220 rfl (fun q5 hk_q5 => ?_)
  refine zj_iload_n (pc' := 224) hC dX7_isTrue_223 rfl rfl (lv_at hl 2 rfl) ?_
  refine zj_iconst (pc' := 225) (v := (1 : Int32)) hC dX7_isTrue_224 rfl rfl ?_
  refine zj_isub (pc' := 226) hC dX7_isTrue_225 rfl ?_
  refine zj_iald (pc' := 227) hC hk_q5 dX7_isTrue_226 rfl (fun g6 => ?_)
  refine zj_aload_n (pc' := 228) hC dX7_isTrue_227 rfl rfl (lv_at hl 0 rfl) ?_
  refine zj_getR (pc' := 231) hC hk_v0 fd_7_30 rfl tw_4_78 dX7_isTrue_228 rfl (fun q7 hk_q7 => ?_)
  refine zj_iload_n (pc' := 232) hC dX7_isTrue_231 rfl rfl (lv_at hl 2 rfl) ?_
  refine zj_iald (pc' := 233) hC hk_q7 dX7_isTrue_232 rfl (fun g8 => ?_)
  refine zj_calliS (pc' := 236) (rest := [.int (v2 - (1 : Int32)), .ref (b0 + q4)]) hC (kX7_reckon l b0 cA D L v5 ((σ.1 q5 ((v2 - (1 : Int32))).toNatClampNeg)) ((σ.1 q7 (v2).toNatClampNeg)) σ ) tw_5_141 tw_5_139 tw_5_140 tw_1_8 ddX7_reckon rfl ⟨rfl, rfl⟩ ⟨by decide, by decide⟩ hl.1 (Nat.le_of_ble_eq_true rfl) rfl dX7_isTrue_233 rfl (fun r10 σ9 => ?_)
  refine zj_iast (pc' := 237) hC hk_q4 dX7_isTrue_236 rfl (fun g11 σ12 => ?_)
  exact h237 v0 v1 v2 v3 v4 σ12 ls hk_v0 (lv_sub hl [0, 1, 2, 3, 4] rfl)
set_option maxRecDepth 100000 in
set_option maxHeartbeats 4000000 in
theorem jX7_isTrue_199 {p : Program} {l : Launch} {e : Env} {s : State} {m : MethodId} {args : Array Value} {below : List Frame} {meth : Method} {c : Code} {b0 : Nat} {cA : Nat → ClassId} {D : va_G} {L : List (Nat × Nat)} (hC : zC p c s m args meth cX7_isTrue 7 (some Jvm.ClassFile.FieldType.boolean) (Cond.code yX7_isTrue cX7_isTrue 7 (some Jvm.ClassFile.FieldType.boolean)) yX7_isTrue.cls cA D) (k210 : Nat → Int32 → Int32 → Int32 → Int32 → Int32 → zS → Option (Int32 × zS)) (h210 : ∀ (v0 : Nat) (v1 : Int32) (v2 : Int32) (v3 : Int32) (v4 : Int32) (v5 : Int32) (σ : zS) (ls : Array Slot), L[v0]? = some (0, 7) → lv_has ls 7 [(0, .ref (b0 + v0)), (1, .int v1), (2, .int v2), (3, .int v3), (4, .int v4), (5, .int v5)] → zJ p l e rmX7_isTrue s m args below meth c b0 cA D L (fun z => MQ below (va_Qi (fun (r : Int32) (u : zS) => (r, u) = z ∧ nB r) (zB b0 cA D L) (zA b0 L)) args s 0 0 (zA b0 L)) (k210 v0 v1 v2 v3 v4 v5 σ) σ 210 ls []) (v0 : Nat) (v1 : Int32) (v2 : Int32) (v3 : Int32) (v4 : Int32) (v5 : Int32) (σ : zS) (ls : Array Slot) (hk_v0 : L[v0]? = some (0, 7)) (hl : lv_has ls 7 [(0, .ref (b0 + v0)), (1, .int v1), (2, .int v2), (3, .int v3), (4, .int v4), (5, .int v5)]) : zJ p l e rmX7_isTrue s m args below meth c b0 cA D L (fun z => MQ below (va_Qi (fun (r : Int32) (u : zS) => (r, u) = z ∧ nB r) (zB b0 cA D L) (zA b0 L)) args s 0 0 (zA b0 L)) (bX7_isTrue_199 k210 v0 v1 v2 v3 v4 v5 σ) σ 199 ls [] := by
  unfold bX7_isTrue_199
  refine zj_aload_n (pc' := 200) hC dX7_isTrue_199 rfl rfl (lv_at hl 0 rfl) ?_
  refine zj_getR (pc' := 203) hC hk_v0 fd_7_30 rfl tw_4_78 dX7_isTrue_200 rfl (fun q13 hk_q13 => ?_)
  refine zj_iload_n (pc' := 204) hC dX7_isTrue_203 rfl rfl (lv_at hl 2 rfl) ?_
  refine zj_iald (pc' := 205) hC hk_q13 dX7_isTrue_204 rfl (fun g14 => ?_)
  refine zj_if_ne (tgt := 210) (pc' := 208) hC dX7_isTrue_205 (by decide) rfl (fun c15 => ?_) (fun c15 => ?_)
  · exact h210 v0 v1 v2 v3 v4 v5 σ ls hk_v0 (lv_sub hl [0, 1, 2, 3, 4, 5] rfl)
  · refine zj_iconst (pc' := 209) (v := (0 : Int32)) hC dX7_isTrue_208 rfl rfl ?_
    exact zj_zret hC nB_0 dX7_isTrue_209
set_option maxRecDepth 100000 in
set_option maxHeartbeats 4000000 in
theorem jX7_isTrue_163 {p : Program} {l : Launch} {e : Env} {s : State} {m : MethodId} {args : Array Value} {below : List Frame} {meth : Method} {c : Code} {b0 : Nat} {cA : Nat → ClassId} {D : va_G} {L : List (Nat × Nat)} (hC : zC p c s m args meth cX7_isTrue 7 (some Jvm.ClassFile.FieldType.boolean) (Cond.code yX7_isTrue cX7_isTrue 7 (some Jvm.ClassFile.FieldType.boolean)) yX7_isTrue.cls cA D) (k237 : Nat → Int32 → Int32 → Int32 → Int32 → zS → Option (Int32 × zS)) (h237 : ∀ (v0 : Nat) (v1 : Int32) (v2 : Int32) (v3 : Int32) (v4 : Int32) (σ : zS) (ls : Array Slot), L[v0]? = some (0, 7) → lv_has ls 7 [(0, .ref (b0 + v0)), (1, .int v1), (2, .int v2), (3, .int v3), (4, .int v4)] → zJ p l e rmX7_isTrue s m args below meth c b0 cA D L (fun z => MQ below (va_Qi (fun (r : Int32) (u : zS) => (r, u) = z ∧ nB r) (zB b0 cA D L) (zA b0 L)) args s 0 0 (zA b0 L)) (k237 v0 v1 v2 v3 v4 σ) σ 237 ls []) (v0 : Nat) (v1 : Int32) (v2 : Int32) (v3 : Int32) (v4 : Int32) (v6 : Int32) (s0 : Int32) (s1 : Int32) (σ : zS) (ls : Array Slot) (hk_v0 : L[v0]? = some (0, 7)) (hb_s1 : nB s1) (hl : lv_has ls 7 [(0, .ref (b0 + v0)), (1, .int v1), (2, .int v2), (3, .int v3), (4, .int v4), (6, .int v6)]) : zJ p l e rmX7_isTrue s m args below meth c b0 cA D L (fun z => MQ below (va_Qi (fun (r : Int32) (u : zS) => (r, u) = z ∧ nB r) (zB b0 cA D L) (zA b0 L)) args s 0 0 (zA b0 L)) (bX7_isTrue_163 k237 v0 v1 v2 v3 v4 v6 s0 s1 σ) σ 163 ls [.int s1, .int s0] := by
  unfold bX7_isTrue_163
  refine zj_icmp_ne (tgt := 175) (pc' := 166) hC dX7_isTrue_163 (by decide) rfl (fun c16 => ?_) (fun c16 => ?_)
  · refine zj_iload_n (pc' := 176) hC dX7_isTrue_175 rfl rfl (lv_at hl 2 rfl) ?_
    refine zj_iconst (pc' := 177) (v := (1 : Int32)) hC dX7_isTrue_176 rfl rfl ?_
    refine zj_isub (pc' := 178) hC dX7_isTrue_177 rfl ?_
    refine zj_nmi (fun x17 => ?_)
    refine zj_istore_n (pc' := 179) (lv' := [(2, .int x17), (0, .ref (b0 + v0)), (1, .int v1), (3, .int v3), (4, .int v4), (6, .int v6)]) hC dX7_isTrue_178 rfl rfl hl (by decide) rfl (fun ls hl => ?_)
    refine zj_goto (tgt := 237) hC dX7_isTrue_179 (by decide) ?_
    exact h237 v0 v1 x17 v3 v4 σ ls hk_v0 (lv_sub hl [1, 2, 0, 3, 4] rfl)
  · refine zj_iload_n (pc' := 167) hC dX7_isTrue_166 rfl rfl (lv_at hl 3 rfl) ?_
    refine zj_iload (pc' := 169) hC dX7_isTrue_167 rfl (lv_at hl 5 rfl) ?_
    refine zj_iadd (pc' := 170) hC dX7_isTrue_169 rfl ?_
    refine zj_nmi (fun x18 => ?_)
    refine zj_istore (pc' := 172) (lv' := [(4, .int x18), (0, .ref (b0 + v0)), (1, .int v1), (2, .int v2), (3, .int v3), (6, .int v6)]) hC dX7_isTrue_170 rfl hl (by decide) rfl (fun ls hl => ?_)
    refine zj_goto (tgt := 237) hC dX7_isTrue_172 (by decide) ?_
    exact h237 v0 v1 v2 v3 x18 σ ls hk_v0 (lv_sub hl [1, 2, 3, 4, 0] rfl)
set_option maxRecDepth 100000 in
set_option maxHeartbeats 4000000 in
theorem jX7_isTrue_143 {p : Program} {l : Launch} {e : Env} {s : State} {m : MethodId} {args : Array Value} {below : List Frame} {meth : Method} {c : Code} {b0 : Nat} {cA : Nat → ClassId} {D : va_G} {L : List (Nat × Nat)} (hC : zC p c s m args meth cX7_isTrue 7 (some Jvm.ClassFile.FieldType.boolean) (Cond.code yX7_isTrue cX7_isTrue 7 (some Jvm.ClassFile.FieldType.boolean)) yX7_isTrue.cls cA D) (k237 : Nat → Int32 → Int32 → Int32 → Int32 → zS → Option (Int32 × zS)) (h237 : ∀ (v0 : Nat) (v1 : Int32) (v2 : Int32) (v3 : Int32) (v4 : Int32) (σ : zS) (ls : Array Slot), L[v0]? = some (0, 7) → lv_has ls 7 [(0, .ref (b0 + v0)), (1, .int v1), (2, .int v2), (3, .int v3), (4, .int v4)] → zJ p l e rmX7_isTrue s m args below meth c b0 cA D L (fun z => MQ below (va_Qi (fun (r : Int32) (u : zS) => (r, u) = z ∧ nB r) (zB b0 cA D L) (zA b0 L)) args s 0 0 (zA b0 L)) (k237 v0 v1 v2 v3 v4 σ) σ 237 ls []) (v0 : Nat) (v1 : Int32) (v2 : Int32) (v3 : Int32) (v4 : Int32) (v5 : Int32) (v6 : Int32) (σ : zS) (ls : Array Slot) (hk_v0 : L[v0]? = some (0, 7)) (hl : lv_has ls 7 [(0, .ref (b0 + v0)), (1, .int v1), (2, .int v2), (3, .int v3), (4, .int v4), (5, .int v5), (6, .int v6)]) : zJ p l e rmX7_isTrue s m args below meth c b0 cA D L (fun z => MQ below (va_Qi (fun (r : Int32) (u : zS) => (r, u) = z ∧ nB r) (zB b0 cA D L) (zA b0 L)) args s 0 0 (zA b0 L)) (bX7_isTrue_143 k237 v0 v1 v2 v3 v4 v5 v6 σ) σ 143 ls [] := by
  unfold bX7_isTrue_143
  refine zj_aload_n (pc' := 144) hC dX7_isTrue_143 rfl rfl (lv_at hl 0 rfl) ?_
  refine zj_getR (pc' := 147) hC hk_v0 fd_7_30 rfl tw_4_78 dX7_isTrue_144 rfl (fun q19 hk_q19 => ?_)
  refine zj_iload_n (pc' := 148) hC dX7_isTrue_147 rfl rfl (lv_at hl 2 rfl) ?_
  refine zj_iconst (pc' := 149) (v := (1 : Int32)) hC dX7_isTrue_148 rfl rfl ?_
  refine zj_isub (pc' := 150) hC dX7_isTrue_149 rfl ?_
  refine zj_iald (pc' := 151) hC hk_q19 dX7_isTrue_150 rfl (fun g20 => ?_)
  refine zj_iload (pc' := 153) hC dX7_isTrue_151 rfl (lv_at hl 5 rfl) ?_
  refine zj_bipush (pc' := 155) (v := (12 : Int32)) hC dX7_isTrue_153 rfl rfl ?_
  refine zj_icmp_ne (tgt := 162) (pc' := 158) hC dX7_isTrue_155 (by decide) rfl (fun c21 => ?_) (fun c21 => ?_)
  · refine zj_iconst (pc' := 163) (v := (0 : Int32)) hC dX7_isTrue_162 rfl rfl ?_
    exact jX7_isTrue_163 hC k237 h237 v0 v1 v2 v3 v4 v6 ((σ.1 q19 ((v2 - (1 : Int32))).toNatClampNeg)) (0 : Int32) σ ls hk_v0 nB_0 (lv_sub hl [0, 1, 2, 3, 4, 6] rfl)
  · refine zj_iconst (pc' := 159) (v := (1 : Int32)) hC dX7_isTrue_158 rfl rfl ?_
    refine zj_goto (tgt := 163) hC dX7_isTrue_159 (by decide) ?_
    exact jX7_isTrue_163 hC k237 h237 v0 v1 v2 v3 v4 v6 ((σ.1 q19 ((v2 - (1 : Int32))).toNatClampNeg)) (1 : Int32) σ ls hk_v0 nB_1 (lv_sub hl [0, 1, 2, 3, 4, 6] rfl)
set_option maxRecDepth 100000 in
set_option maxHeartbeats 4000000 in
theorem jX7_isTrue_93 {p : Program} {l : Launch} {e : Env} {s : State} {m : MethodId} {args : Array Value} {below : List Frame} {meth : Method} {c : Code} {b0 : Nat} {cA : Nat → ClassId} {D : va_G} {L : List (Nat × Nat)} (hC : zC p c s m args meth cX7_isTrue 7 (some Jvm.ClassFile.FieldType.boolean) (Cond.code yX7_isTrue cX7_isTrue 7 (some Jvm.ClassFile.FieldType.boolean)) yX7_isTrue.cls cA D) (k237 : Nat → Int32 → Int32 → Int32 → Int32 → zS → Option (Int32 × zS)) (h237 : ∀ (v0 : Nat) (v1 : Int32) (v2 : Int32) (v3 : Int32) (v4 : Int32) (σ : zS) (ls : Array Slot), L[v0]? = some (0, 7) → lv_has ls 7 [(0, .ref (b0 + v0)), (1, .int v1), (2, .int v2), (3, .int v3), (4, .int v4)] → zJ p l e rmX7_isTrue s m args below meth c b0 cA D L (fun z => MQ below (va_Qi (fun (r : Int32) (u : zS) => (r, u) = z ∧ nB r) (zB b0 cA D L) (zA b0 L)) args s 0 0 (zA b0 L)) (k237 v0 v1 v2 v3 v4 σ) σ 237 ls []) (v0 : Nat) (v1 : Int32) (v2 : Int32) (v3 : Int32) (v4 : Int32) (s0 : Nat) (s1 : Int32) (s2 : Int32) (σ : zS) (ls : Array Slot) (hk_v0 : L[v0]? = some (0, 7)) (hk_s0 : L[s0]? = some (1, 140)) (hl : lv_has ls 7 [(0, .ref (b0 + v0)), (1, .int v1), (2, .int v2), (3, .int v3), (4, .int v4)]) : zJ p l e rmX7_isTrue s m args below meth c b0 cA D L (fun z => MQ below (va_Qi (fun (r : Int32) (u : zS) => (r, u) = z ∧ nB r) (zB b0 cA D L) (zA b0 L)) args s 0 0 (zA b0 L)) (bX7_isTrue_93 k237 v0 v1 v2 v3 v4 s0 s1 s2 σ) σ 93 ls [.int s2, .int s1, .ref (b0 + s0)] := by
  unfold bX7_isTrue_93
  refine zj_iast (pc' := 94) hC hk_s0 dX7_isTrue_93 rfl (fun g22 σ23 => ?_)
  refine zj_iload_n (pc' := 95) hC dX7_isTrue_94 rfl rfl (lv_at hl 2 rfl) ?_
  refine zj_iconst (pc' := 96) (v := (1 : Int32)) hC dX7_isTrue_95 rfl rfl ?_
  refine zj_iadd (pc' := 97) hC dX7_isTrue_96 rfl ?_
  refine zj_nmi (fun x24 => ?_)
  refine zj_istore_n (pc' := 98) (lv' := [(2, .int x24), (0, .ref (b0 + v0)), (1, .int v1), (3, .int v3), (4, .int v4)]) hC dX7_isTrue_97 rfl rfl hl (by decide) rfl (fun ls hl => ?_)
  refine zj_goto (tgt := 237) hC dX7_isTrue_98 (by decide) ?_
  exact h237 v0 v1 x24 v3 v4 σ23 ls hk_v0 (lv_sub hl [1, 2, 0, 3, 4] rfl)
set_option maxRecDepth 100000 in
set_option maxHeartbeats 4000000 in
theorem jX7_isTrue_71 {p : Program} {l : Launch} {e : Env} {s : State} {m : MethodId} {args : Array Value} {below : List Frame} {meth : Method} {c : Code} {b0 : Nat} {cA : Nat → ClassId} {D : va_G} {L : List (Nat × Nat)} (hC : zC p c s m args meth cX7_isTrue 7 (some Jvm.ClassFile.FieldType.boolean) (Cond.code yX7_isTrue cX7_isTrue 7 (some Jvm.ClassFile.FieldType.boolean)) yX7_isTrue.cls cA D) (k237 : Nat → Int32 → Int32 → Int32 → Int32 → zS → Option (Int32 × zS)) (h237 : ∀ (v0 : Nat) (v1 : Int32) (v2 : Int32) (v3 : Int32) (v4 : Int32) (σ : zS) (ls : Array Slot), L[v0]? = some (0, 7) → lv_has ls 7 [(0, .ref (b0 + v0)), (1, .int v1), (2, .int v2), (3, .int v3), (4, .int v4)] → zJ p l e rmX7_isTrue s m args below meth c b0 cA D L (fun z => MQ below (va_Qi (fun (r : Int32) (u : zS) => (r, u) = z ∧ nB r) (zB b0 cA D L) (zA b0 L)) args s 0 0 (zA b0 L)) (k237 v0 v1 v2 v3 v4 σ) σ 237 ls []) (v0 : Nat) (v1 : Int32) (v2 : Int32) (v3 : Int32) (v4 : Int32) (v5 : Int32) (v6 : Int32) (σ : zS) (ls : Array Slot) (hk_v0 : L[v0]? = some (0, 7)) (hl : lv_has ls 7 [(0, .ref (b0 + v0)), (1, .int v1), (2, .int v2), (3, .int v3), (4, .int v4), (5, .int v5), (6, .int v6)]) : zJ p l e rmX7_isTrue s m args below meth c b0 cA D L (fun z => MQ below (va_Qi (fun (r : Int32) (u : zS) => (r, u) = z ∧ nB r) (zB b0 cA D L) (zA b0 L)) args s 0 0 (zA b0 L)) (bX7_isTrue_71 k237 v0 v1 v2 v3 v4 v5 v6 σ) σ 71 ls [] := by
  unfold bX7_isTrue_71
  refine zj_aload_n (pc' := 72) hC dX7_isTrue_71 rfl rfl (lv_at hl 0 rfl) ?_
  refine zj_getR (pc' := 75) hC hk_v0 fd_7_30 rfl tw_4_78 dX7_isTrue_72 rfl (fun q25 hk_q25 => ?_)
  refine zj_iload_n (pc' := 76) hC dX7_isTrue_75 rfl rfl (lv_at hl 2 rfl) ?_
  refine zj_iload (pc' := 78) hC dX7_isTrue_76 rfl (lv_at hl 5 rfl) ?_
  refine zj_if_ne (tgt := 86) (pc' := 81) hC dX7_isTrue_78 (by decide) rfl (fun c26 => ?_) (fun c26 => ?_)
  · refine zj_aload_n (pc' := 87) hC dX7_isTrue_86 rfl rfl (lv_at hl 0 rfl) ?_
    refine zj_getR (pc' := 90) hC hk_v0 fd_7_31 rfl tw_4_79 dX7_isTrue_87 rfl (fun q27 hk_q27 => ?_)
    refine zj_iload (pc' := 92) hC dX7_isTrue_90 rfl (lv_at hl 6 rfl) ?_
    refine zj_iald (pc' := 93) hC hk_q27 dX7_isTrue_92 rfl (fun g28 => ?_)
    exact jX7_isTrue_93 hC k237 h237 v0 v1 v2 v3 v4 q25 v2 ((σ.1 q27 (v6).toNatClampNeg)) σ ls hk_v0 hk_q25 (lv_sub hl [0, 1, 2, 3, 4] rfl)
  · refine zj_iload (pc' := 83) hC dX7_isTrue_81 rfl (lv_at hl 6 rfl) ?_
    refine zj_goto (tgt := 93) hC dX7_isTrue_83 (by decide) ?_
    exact jX7_isTrue_93 hC k237 h237 v0 v1 v2 v3 v4 q25 v2 v6 σ ls hk_v0 hk_q25 (lv_sub hl [0, 1, 2, 3, 4] rfl)
set_option maxRecDepth 100000 in
set_option maxHeartbeats 4000000 in
theorem jX7_isTrue_19 {p : Program} {l : Launch} {e : Env} {s : State} {m : MethodId} {args : Array Value} {below : List Frame} {meth : Method} {c : Code} {b0 : Nat} {cA : Nat → ClassId} {D : va_G} {L : List (Nat × Nat)} (hC : zC p c s m args meth cX7_isTrue 7 (some Jvm.ClassFile.FieldType.boolean) (Cond.code yX7_isTrue cX7_isTrue 7 (some Jvm.ClassFile.FieldType.boolean)) yX7_isTrue.cls cA D) (k19 : Nat → Int32 → Int32 → Int32 → Int32 → zS → Option (Int32 × zS)) (h19 : ∀ (v0 : Nat) (v1 : Int32) (v2 : Int32) (v3 : Int32) (v4 : Int32) (σ : zS) (ls : Array Slot), L[v0]? = some (0, 7) → lv_has ls 7 [(0, .ref (b0 + v0)), (1, .int v1), (2, .int v2), (3, .int v3), (4, .int v4)] → zJ p l e rmX7_isTrue s m args below meth c b0 cA D L (fun z => MQ below (va_Qi (fun (r : Int32) (u : zS) => (r, u) = z ∧ nB r) (zB b0 cA D L) (zA b0 L)) args s 0 0 (zA b0 L)) (k19 v0 v1 v2 v3 v4 σ) σ 19 ls []) (v0 : Nat) (v1 : Int32) (v2 : Int32) (v3 : Int32) (v4 : Int32) (σ : zS) (ls : Array Slot) (hk_v0 : L[v0]? = some (0, 7)) (hl : lv_has ls 7 [(0, .ref (b0 + v0)), (1, .int v1), (2, .int v2), (3, .int v3), (4, .int v4)]) : zJ p l e rmX7_isTrue s m args below meth c b0 cA D L (fun z => MQ below (va_Qi (fun (r : Int32) (u : zS) => (r, u) = z ∧ nB r) (zB b0 cA D L) (zA b0 L)) args s 0 0 (zA b0 L)) (bX7_isTrue_19 k19 v0 v1 v2 v3 v4 σ) σ 19 ls [] := by
  unfold bX7_isTrue_19
  refine zj_iload (pc' := 21) hC dX7_isTrue_19 rfl (lv_at hl 4 rfl) ?_
  refine zj_aload_n (pc' := 22) hC dX7_isTrue_21 rfl rfl (lv_at hl 0 rfl) ?_
  refine zj_getR (pc' := 25) hC hk_v0 fd_7_29 rfl tw_4_77 dX7_isTrue_22 rfl (fun q29 hk_q29 => ?_)
  refine zj_iload_n (pc' := 26) hC dX7_isTrue_25 rfl rfl (lv_at hl 1 rfl) ?_
  refine zj_iald (pc' := 27) hC hk_q29 dX7_isTrue_26 rfl (fun g30 => ?_)
  refine zj_icmp_ge (tgt := 240) (pc' := 30) hC dX7_isTrue_27 (by decide) rfl (fun c31 => ?_) (fun c31 => ?_)
  · exact jX7_isTrue_240 hC v0 σ ls hk_v0 (lv_sub hl [0] rfl)
  · refine zj_aload_n (pc' := 31) hC dX7_isTrue_30 rfl rfl (lv_at hl 0 rfl) ?_
    refine zj_getR (pc' := 34) hC hk_v0 fd_7_25 rfl tw_4_73 dX7_isTrue_31 rfl (fun q32 hk_q32 => ?_)
    refine zj_iload (pc' := 36) hC dX7_isTrue_34 rfl (lv_at hl 4 rfl) ?_
    refine zj_iald (pc' := 37) hC hk_q32 dX7_isTrue_36 rfl (fun g33 => ?_)
    refine zj_ldc (pc' := 39) (v := (1048576 : Int32)) hC tw_5_48 dX7_isTrue_37 rfl ?_
    refine zj_idivK (pc' := 40) hC dX7_isTrue_39 rfl (by decide) ?_
    refine zj_nmi (fun x34 => ?_)
    refine zj_istore (pc' := 42) (lv' := [(5, .int x34), (0, .ref (b0 + v0)), (1, .int v1), (2, .int v2), (3, .int v3), (4, .int v4)]) hC dX7_isTrue_40 rfl hl (by decide) rfl (fun ls hl => ?_)
    refine zj_aload_n (pc' := 43) hC dX7_isTrue_42 rfl rfl (lv_at hl 1 rfl) ?_
    refine zj_getR (pc' := 46) hC hk_v0 fd_7_25 rfl tw_4_73 dX7_isTrue_43 rfl (fun q35 hk_q35 => ?_)
    refine zj_iload (pc' := 48) hC dX7_isTrue_46 rfl (lv_at hl 5 rfl) ?_
    refine zj_iald (pc' := 49) hC hk_q35 dX7_isTrue_48 rfl (fun g36 => ?_)
    refine zj_ldc (pc' := 51) (v := (1048576 : Int32)) hC tw_5_48 dX7_isTrue_49 rfl ?_
    refine zj_iremK (pc' := 52) hC dX7_isTrue_51 rfl (by decide) ?_
    refine zj_nmi (fun x37 => ?_)
    refine zj_istore (pc' := 54) (lv' := [(6, .int x37), (5, .int x34), (0, .ref (b0 + v0)), (1, .int v1), (2, .int v2), (3, .int v3), (4, .int v4)]) hC dX7_isTrue_52 rfl hl (by decide) rfl (fun ls hl => ?_)
    refine zj_iload (pc' := 56) hC dX7_isTrue_54 rfl (lv_at hl 6 rfl) ?_
    refine zj_iconst (pc' := 57) (v := (1 : Int32)) hC dX7_isTrue_56 rfl rfl ?_
    refine zj_iadd (pc' := 58) hC dX7_isTrue_57 rfl ?_
    refine zj_nmi (fun x38 => ?_)
    refine zj_istore (pc' := 60) (lv' := [(4, .int x38), (6, .int x37), (5, .int x34), (0, .ref (b0 + v0)), (1, .int v1), (2, .int v2), (3, .int v3)]) hC dX7_isTrue_58 rfl hl (by decide) rfl (fun ls hl => ?_)
    refine zj_iload (pc' := 62) hC dX7_isTrue_60 rfl (lv_at hl 2 rfl) ?_
    refine zj_if_eq (tgt := 71) (pc' := 65) hC dX7_isTrue_62 (by decide) rfl (fun c39 => ?_) (fun c39 => ?_)
    · exact jX7_isTrue_71 hC (bX7_isTrue_237 k19) (jX7_isTrue_237 hC k19 h19) v0 v1 v2 v3 x38 x34 x37 σ ls hk_v0 (lv_sub hl [3, 4, 5, 6, 0, 2, 1] rfl)
    · refine zj_iload (pc' := 67) hC dX7_isTrue_65 rfl (lv_at hl 2 rfl) ?_
      refine zj_iconst (pc' := 68) (v := (1 : Int32)) hC dX7_isTrue_67 rfl rfl ?_
      refine zj_icmp_ne (tgt := 101) (pc' := 71) hC dX7_isTrue_68 (by decide) rfl (fun c40 => ?_) (fun c40 => ?_)
      · refine zj_iload (pc' := 103) hC dX7_isTrue_101 rfl (lv_at hl 2 rfl) ?_
        refine zj_bipush (pc' := 105) (v := (10 : Int32)) hC dX7_isTrue_103 rfl rfl ?_
        refine zj_icmp_ne (tgt := 129) (pc' := 108) hC dX7_isTrue_105 (by decide) rfl (fun c41 => ?_) (fun c41 => ?_)
        · refine zj_iload (pc' := 131) hC dX7_isTrue_129 rfl (lv_at hl 2 rfl) ?_
          refine zj_bipush (pc' := 133) (v := (11 : Int32)) hC dX7_isTrue_131 rfl rfl ?_
          refine zj_icmp_eq (tgt := 143) (pc' := 136) hC dX7_isTrue_133 (by decide) rfl (fun c42 => ?_) (fun c42 => ?_)
          · exact jX7_isTrue_143 hC (bX7_isTrue_237 k19) (jX7_isTrue_237 hC k19 h19) v0 v1 v2 v3 x38 x34 x37 σ ls hk_v0 (lv_sub hl [3, 4, 5, 6, 0, 2, 1] rfl)
          · refine zj_iload (pc' := 138) hC dX7_isTrue_136 rfl (lv_at hl 2 rfl) ?_
            refine zj_bipush (pc' := 140) (v := (12 : Int32)) hC dX7_isTrue_138 rfl rfl ?_
            refine zj_icmp_ne (tgt := 182) (pc' := 143) hC dX7_isTrue_140 (by decide) rfl (fun c43 => ?_) (fun c43 => ?_)
            · refine zj_iload_n (pc' := 183) hC dX7_isTrue_182 rfl rfl (lv_at hl 5 rfl) ?_
              refine zj_iconst (pc' := 184) (v := (1 : Int32)) hC dX7_isTrue_183 rfl rfl ?_
              refine zj_isub (pc' := 185) hC dX7_isTrue_184 rfl ?_
              refine zj_nmi (fun x44 => ?_)
              refine zj_istore_n (pc' := 186) (lv' := [(2, .int x44), (4, .int x38), (6, .int x37), (5, .int x34), (0, .ref (b0 + v0)), (1, .int v1), (3, .int v3)]) hC dX7_isTrue_185 rfl rfl hl (by decide) rfl (fun ls hl => ?_)
              refine zj_iload (pc' := 188) hC dX7_isTrue_186 rfl (lv_at hl 3 rfl) ?_
              refine zj_iconst (pc' := 189) (v := (5 : Int32)) hC dX7_isTrue_188 rfl rfl ?_
              refine zj_icmp_eq (tgt := 199) (pc' := 192) hC dX7_isTrue_189 (by decide) rfl (fun c45 => ?_) (fun c45 => ?_)
              · exact jX7_isTrue_199 hC (bX7_isTrue_210 (bX7_isTrue_237 k19)) (jX7_isTrue_210 hC (bX7_isTrue_237 k19) (jX7_isTrue_237 hC k19 h19)) v0 v1 x44 v3 x38 x34 σ ls hk_v0 (lv_sub hl [4, 5, 0, 6, 1, 3] rfl)
              · refine zj_iload (pc' := 194) hC dX7_isTrue_192 rfl (lv_at hl 3 rfl) ?_
                refine zj_bipush (pc' := 196) (v := (6 : Int32)) hC dX7_isTrue_194 rfl rfl ?_
                refine zj_icmp_ne (tgt := 210) (pc' := 199) hC dX7_isTrue_196 (by decide) rfl (fun c46 => ?_) (fun c46 => ?_)
                · exact jX7_isTrue_210 hC (bX7_isTrue_237 k19) (jX7_isTrue_237 hC k19 h19) v0 v1 x44 v3 x38 x34 σ ls hk_v0 (lv_sub hl [4, 5, 0, 6, 1, 3] rfl)
                · exact jX7_isTrue_199 hC (bX7_isTrue_210 (bX7_isTrue_237 k19)) (jX7_isTrue_210 hC (bX7_isTrue_237 k19) (jX7_isTrue_237 hC k19 h19)) v0 v1 x44 v3 x38 x34 σ ls hk_v0 (lv_sub hl [4, 5, 0, 6, 1, 3] rfl)
            · exact jX7_isTrue_143 hC (bX7_isTrue_237 k19) (jX7_isTrue_237 hC k19 h19) v0 v1 v2 v3 x38 x34 x37 σ ls hk_v0 (lv_sub hl [3, 4, 5, 6, 0, 2, 1] rfl)
        · refine zj_aload_n (pc' := 109) hC dX7_isTrue_108 rfl rfl (lv_at hl 3 rfl) ?_
          refine zj_getR (pc' := 112) hC hk_v0 fd_7_30 rfl tw_4_78 dX7_isTrue_109 rfl (fun q47 hk_q47 => ?_)
          refine zj_iload_n (pc' := 113) hC dX7_isTrue_112 rfl rfl (lv_at hl 5 rfl) ?_
          refine zj_iconst (pc' := 114) (v := (1 : Int32)) hC dX7_isTrue_113 rfl rfl ?_
          refine zj_isub (pc' := 115) hC dX7_isTrue_114 rfl ?_
          refine zj_iconst (pc' := 116) (v := (1 : Int32)) hC dX7_isTrue_115 rfl rfl ?_
          refine zj_aload_n (pc' := 117) hC dX7_isTrue_116 rfl rfl (lv_at hl 3 rfl) ?_
          refine zj_getR (pc' := 120) hC hk_v0 fd_7_30 rfl tw_4_78 dX7_isTrue_117 rfl (fun q48 hk_q48 => ?_)
          refine zj_iload_n (pc' := 121) hC dX7_isTrue_120 rfl rfl (lv_at hl 5 rfl) ?_
          refine zj_iconst (pc' := 122) (v := (1 : Int32)) hC dX7_isTrue_121 rfl rfl ?_
          refine zj_isub (pc' := 123) hC dX7_isTrue_122 rfl ?_
          refine zj_iald (pc' := 124) hC hk_q48 dX7_isTrue_123 rfl (fun g49 => ?_)
          refine zj_isub (pc' := 125) hC dX7_isTrue_124 rfl ?_
          refine zj_iast (pc' := 126) hC hk_q47 dX7_isTrue_125 rfl (fun g50 σ51 => ?_)
          refine zj_goto (tgt := 237) hC dX7_isTrue_126 (by decide) ?_
          exact jX7_isTrue_237 hC k19 h19 v0 v1 v2 v3 x38 σ51 ls hk_v0 (lv_sub hl [3, 4, 5, 6, 0] rfl)
      · exact jX7_isTrue_71 hC (bX7_isTrue_237 k19) (jX7_isTrue_237 hC k19 h19) v0 v1 v2 v3 x38 x34 x37 σ ls hk_v0 (lv_sub hl [3, 4, 5, 6, 0, 2, 1] rfl)
set_option maxRecDepth 100000 in
set_option maxHeartbeats 4000000 in
theorem lX7_isTrue_19 {p : Program} {l : Launch} {e : Env} {s : State} {m : MethodId} {args : Array Value} {below : List Frame} {meth : Method} {c : Code} {b0 : Nat} {cA : Nat → ClassId} {D : va_G} {L : List (Nat × Nat)} (hC : zC p c s m args meth cX7_isTrue 7 (some Jvm.ClassFile.FieldType.boolean) (Cond.code yX7_isTrue cX7_isTrue 7 (some Jvm.ClassFile.FieldType.boolean)) yX7_isTrue.cls cA D)  (n : Nat) : ∀ (v0 : Nat) (v1 : Int32) (v2 : Int32) (v3 : Int32) (v4 : Int32) (σ : zS) (ls : Array Slot), L[v0]? = some (0, 7) → lv_has ls 7 [(0, .ref (b0 + v0)), (1, .int v1), (2, .int v2), (3, .int v3), (4, .int v4)] → zJ p l e rmX7_isTrue s m args below meth c b0 cA D L (fun z => MQ below (va_Qi (fun (r : Int32) (u : zS) => (r, u) = z ∧ nB r) (zB b0 cA D L) (zA b0 L)) args s 0 0 (zA b0 L)) (fX7_isTrue_19  n v0 v1 v2 v3 v4 σ) σ 19 ls [] := by
  induction n with
  | zero => intros; exact zj_none
  | succ n ih => exact jX7_isTrue_19 hC (fX7_isTrue_19  n) ih
set_option maxRecDepth 100000 in
set_option maxHeartbeats 4000000 in
theorem kX7_isTrue (l : Launch) (b0 : Nat) (cA : Nat → ClassId) (D : va_G) (L : List (Nat × Nat)) (v0 : Nat) (v1 : Int32) (σ : zS) (hk0 : L[v0]? = some (0, 7)) : zMz l b0 cA D L yX7_isTrue (Cond.code yX7_isTrue cX7_isTrue 7 (some Jvm.ClassFile.FieldType.boolean)) rmX7_isTrue [.ref (b0 + v0), .int v1] σ (fX7_isTrue v0 v1 σ) := by
  refine zMz_of (by decide) (Nat.le_of_ble_eq_true rfl) ?_
  intro p e s m below meth c ls hC hl
  have hl : lv_has ls 7 [(0, .ref (b0 + v0)), (1, .int v1)] := hl
  generalize ([.ref (b0 + v0), .int v1] : List Value).toArray = args at hC ⊢
  unfold fX7_isTrue
  refine zj_iconst (pc' := 1) (v := (0 : Int32)) hC dX7_isTrue_0 rfl rfl ?_
  refine zj_istore_n (pc' := 2) (lv' := [(2, .int (0 : Int32)), (0, .ref (b0 + v0)), (1, .int v1)]) hC dX7_isTrue_1 rfl rfl hl (by decide) rfl (fun ls hl => ?_)
  refine zj_sipush (pc' := 5) (v := (140 : Int32)) hC dX7_isTrue_2 rfl rfl ?_
  refine zj_iload_n (pc' := 6) hC dX7_isTrue_5 rfl rfl (lv_at hl 2 rfl) ?_
  refine zj_bipush (pc' := 8) (v := (12 : Int32)) hC dX7_isTrue_6 rfl rfl ?_
  refine zj_idivK (pc' := 9) hC dX7_isTrue_8 rfl (by decide) ?_
  refine zj_imul (pc' := 10) hC dX7_isTrue_9 rfl ?_
  refine zj_nmi (fun x52 => ?_)
  refine zj_istore_n (pc' := 11) (lv' := [(3, .int x52), (2, .int (0 : Int32)), (0, .ref (b0 + v0)), (1, .int v1)]) hC dX7_isTrue_10 rfl rfl hl (by decide) rfl (fun ls hl => ?_)
  refine zj_aload_n (pc' := 12) hC dX7_isTrue_11 rfl rfl (lv_at hl 2 rfl) ?_
  refine zj_getR (pc' := 15) hC hk0 fd_7_28 rfl tw_4_76 dX7_isTrue_12 rfl (fun q53 hk_q53 => ?_)
  refine zj_iload_n (pc' := 16) hC dX7_isTrue_15 rfl rfl (lv_at hl 3 rfl) ?_
  refine zj_iald (pc' := 17) hC hk_q53 dX7_isTrue_16 rfl (fun g54 => ?_)
  refine zj_nmi (fun x55 => ?_)
  refine zj_istore (pc' := 19) (lv' := [(4, .int x55), (3, .int x52), (2, .int (0 : Int32)), (0, .ref (b0 + v0)), (1, .int v1)]) hC dX7_isTrue_17 rfl hl (by decide) rfl (fun ls hl => ?_)
  exact lX7_isTrue_19 hC zFU v0 v1 (0 : Int32) x52 x55 σ ls hk0 (lv_sub hl [3, 4, 2, 1, 0] rfl)
-- X7_areNeighbours
theorem ddX7_areNeighbours : yX7_areNeighbours.cls ≠ "java/lang/invoke/MethodHandle" ∧ yX7_areNeighbours.cls ≠ "java/lang/invoke/VarHandle" ∧ (parseMethodDescriptor yX7_areNeighbours.desc).map (fun d => d.parameters.length) = some 3 := by decide +kernel
abbrev rmX7_areNeighbours : Room := { frames := 0, cells := 0, slots := 0, locals := 0 }
def bX7_areNeighbours_37   (σ : zS) : Option (Int32 × zS) :=
  some ((1 : Int32), σ)
def bX7_areNeighbours_23 (k37 : zS → Option (Int32 × zS)) (v1 : Int32) (v2 : Int32) (v3 : Int32) (σ : zS) : Option (Int32 × zS) :=
  if v1 = (v2 + v3) then (k37  σ) else (if v2 = (v1 + v3) then (k37  σ) else (some ((0 : Int32), σ)))
def fX7_areNeighbours (v0 : Nat) (v1 : Int32) (v2 : Int32) (v3 : Int32) (σ : zS) : Option (Int32 × zS) :=
  zV v3 (zV v3 (if (v1 / v3) = (v2 / v3) then (if v1 = (v2 + (1 : Int32)) then (bX7_areNeighbours_37  σ) else (if v2 = (v1 + (1 : Int32)) then (bX7_areNeighbours_37  σ) else (bX7_areNeighbours_23 (bX7_areNeighbours_37) v1 v2 v3 σ))) else (bX7_areNeighbours_23 (bX7_areNeighbours_37) v1 v2 v3 σ)))
set_option maxRecDepth 100000 in
set_option maxHeartbeats 4000000 in
theorem jX7_areNeighbours_37 {p : Program} {l : Launch} {e : Env} {s : State} {m : MethodId} {args : Array Value} {below : List Frame} {meth : Method} {c : Code} {b0 : Nat} {cA : Nat → ClassId} {D : va_G} {L : List (Nat × Nat)} (hC : zC p c s m args meth cX7_areNeighbours 4 (some Jvm.ClassFile.FieldType.boolean) (Cond.code yX7_areNeighbours cX7_areNeighbours 4 (some Jvm.ClassFile.FieldType.boolean)) yX7_areNeighbours.cls cA D)   (σ : zS) (ls : Array Slot)  (hl : lv_has ls 4 []) : zJ p l e rmX7_areNeighbours s m args below meth c b0 cA D L (fun z => MQ below (va_Qi (fun (r : Int32) (u : zS) => (r, u) = z ∧ nB r) (zB b0 cA D L) (zA b0 L)) args s 0 0 (zA b0 L)) (bX7_areNeighbours_37   σ) σ 37 ls [] := by
  unfold bX7_areNeighbours_37
  refine zj_iconst (pc' := 38) (v := (1 : Int32)) hC dX7_areNeighbours_37 rfl rfl ?_
  refine zj_goto (tgt := 42) hC dX7_areNeighbours_38 (by decide) ?_
  exact zj_zret hC nB_1 dX7_areNeighbours_42
set_option maxRecDepth 100000 in
set_option maxHeartbeats 4000000 in
theorem jX7_areNeighbours_23 {p : Program} {l : Launch} {e : Env} {s : State} {m : MethodId} {args : Array Value} {below : List Frame} {meth : Method} {c : Code} {b0 : Nat} {cA : Nat → ClassId} {D : va_G} {L : List (Nat × Nat)} (hC : zC p c s m args meth cX7_areNeighbours 4 (some Jvm.ClassFile.FieldType.boolean) (Cond.code yX7_areNeighbours cX7_areNeighbours 4 (some Jvm.ClassFile.FieldType.boolean)) yX7_areNeighbours.cls cA D) (k37 : zS → Option (Int32 × zS)) (h37 : ∀  (σ : zS) (ls : Array Slot), lv_has ls 4 [] → zJ p l e rmX7_areNeighbours s m args below meth c b0 cA D L (fun z => MQ below (va_Qi (fun (r : Int32) (u : zS) => (r, u) = z ∧ nB r) (zB b0 cA D L) (zA b0 L)) args s 0 0 (zA b0 L)) (k37  σ) σ 37 ls []) (v1 : Int32) (v2 : Int32) (v3 : Int32) (σ : zS) (ls : Array Slot)  (hl : lv_has ls 4 [(1, .int v1), (2, .int v2), (3, .int v3)]) : zJ p l e rmX7_areNeighbours s m args below meth c b0 cA D L (fun z => MQ below (va_Qi (fun (r : Int32) (u : zS) => (r, u) = z ∧ nB r) (zB b0 cA D L) (zA b0 L)) args s 0 0 (zA b0 L)) (bX7_areNeighbours_23 k37 v1 v2 v3 σ) σ 23 ls [] := by
  unfold bX7_areNeighbours_23
  refine zj_iload_n (pc' := 24) hC dX7_areNeighbours_23 rfl rfl (lv_at hl 0 rfl) ?_
  refine zj_iload_n (pc' := 25) hC dX7_areNeighbours_24 rfl rfl (lv_at hl 1 rfl) ?_
  refine zj_iload_n (pc' := 26) hC dX7_areNeighbours_25 rfl rfl (lv_at hl 2 rfl) ?_
  refine zj_iadd (pc' := 27) hC dX7_areNeighbours_26 rfl ?_
  refine zj_icmp_eq (tgt := 37) (pc' := 30) hC dX7_areNeighbours_27 (by decide) rfl (fun c1 => ?_) (fun c1 => ?_)
  · exact h37  σ ls  (lv_sub hl [] rfl)
  · refine zj_iload_n (pc' := 31) hC dX7_areNeighbours_30 rfl rfl (lv_at hl 1 rfl) ?_
    refine zj_iload_n (pc' := 32) hC dX7_areNeighbours_31 rfl rfl (lv_at hl 0 rfl) ?_
    refine zj_iload_n (pc' := 33) hC dX7_areNeighbours_32 rfl rfl (lv_at hl 2 rfl) ?_
    refine zj_iadd (pc' := 34) hC dX7_areNeighbours_33 rfl ?_
    refine zj_icmp_ne (tgt := 41) (pc' := 37) hC dX7_areNeighbours_34 (by decide) rfl (fun c2 => ?_) (fun c2 => ?_)
    · refine zj_iconst (pc' := 42) (v := (0 : Int32)) hC dX7_areNeighbours_41 rfl rfl ?_
      exact zj_zret hC nB_0 dX7_areNeighbours_42
    · exact h37  σ ls  (lv_sub hl [] rfl)
set_option maxRecDepth 100000 in
set_option maxHeartbeats 4000000 in
theorem kX7_areNeighbours (l : Launch) (b0 : Nat) (cA : Nat → ClassId) (D : va_G) (L : List (Nat × Nat)) (v0 : Nat) (v1 : Int32) (v2 : Int32) (v3 : Int32) (σ : zS) (hk0 : L[v0]? = some (0, 7)) : zMz l b0 cA D L yX7_areNeighbours (Cond.code yX7_areNeighbours cX7_areNeighbours 4 (some Jvm.ClassFile.FieldType.boolean)) rmX7_areNeighbours [.ref (b0 + v0), .int v1, .int v2, .int v3] σ (fX7_areNeighbours v0 v1 v2 v3 σ) := by
  refine zMz_of (by decide) (Nat.le_of_ble_eq_true rfl) ?_
  intro p e s m below meth c ls hC hl
  have hl : lv_has ls 4 [(0, .ref (b0 + v0)), (1, .int v1), (2, .int v2), (3, .int v3)] := hl
  generalize ([.ref (b0 + v0), .int v1, .int v2, .int v3] : List Value).toArray = args at hC ⊢
  unfold fX7_areNeighbours
  refine zj_iload_n (pc' := 1) hC dX7_areNeighbours_0 rfl rfl (lv_at hl 1 rfl) ?_
  refine zj_iload_n (pc' := 2) hC dX7_areNeighbours_1 rfl rfl (lv_at hl 3 rfl) ?_
  refine zj_idiv (pc' := 3) hC dX7_areNeighbours_2 rfl (fun g3 => ?_)
  refine zj_iload_n (pc' := 4) hC dX7_areNeighbours_3 rfl rfl (lv_at hl 2 rfl) ?_
  refine zj_iload_n (pc' := 5) hC dX7_areNeighbours_4 rfl rfl (lv_at hl 3 rfl) ?_
  refine zj_idiv (pc' := 6) hC dX7_areNeighbours_5 rfl (fun g4 => ?_)
  refine zj_icmp_ne (tgt := 23) (pc' := 9) hC dX7_areNeighbours_6 (by decide) rfl (fun c5 => ?_) (fun c5 => ?_)
  · exact jX7_areNeighbours_23 hC (bX7_areNeighbours_37) (jX7_areNeighbours_37 hC) v1 v2 v3 σ ls  (lv_sub hl [1, 2, 3] rfl)
  · refine zj_iload_n (pc' := 10) hC dX7_areNeighbours_9 rfl rfl (lv_at hl 1 rfl) ?_
    refine zj_iload_n (pc' := 11) hC dX7_areNeighbours_10 rfl rfl (lv_at hl 2 rfl) ?_
    refine zj_iconst (pc' := 12) (v := (1 : Int32)) hC dX7_areNeighbours_11 rfl rfl ?_
    refine zj_iadd (pc' := 13) hC dX7_areNeighbours_12 rfl ?_
    refine zj_icmp_eq (tgt := 37) (pc' := 16) hC dX7_areNeighbours_13 (by decide) rfl (fun c6 => ?_) (fun c6 => ?_)
    · exact jX7_areNeighbours_37 hC  σ ls  (lv_sub hl [] rfl)
    · refine zj_iload_n (pc' := 17) hC dX7_areNeighbours_16 rfl rfl (lv_at hl 2 rfl) ?_
      refine zj_iload_n (pc' := 18) hC dX7_areNeighbours_17 rfl rfl (lv_at hl 1 rfl) ?_
      refine zj_iconst (pc' := 19) (v := (1 : Int32)) hC dX7_areNeighbours_18 rfl rfl ?_
      refine zj_iadd (pc' := 20) hC dX7_areNeighbours_19 rfl ?_
      refine zj_icmp_eq (tgt := 37) (pc' := 23) hC dX7_areNeighbours_20 (by decide) rfl (fun c7 => ?_) (fun c7 => ?_)
      · exact jX7_areNeighbours_37 hC  σ ls  (lv_sub hl [] rfl)
      · exact jX7_areNeighbours_23 hC (bX7_areNeighbours_37) (jX7_areNeighbours_37 hC) v1 v2 v3 σ ls  (lv_sub hl [1, 2, 3] rfl)
-- X7_feels
theorem ddX7_feels : yX7_feels.cls ≠ "java/lang/invoke/MethodHandle" ∧ yX7_feels.cls ≠ "java/lang/invoke/VarHandle" ∧ (parseMethodDescriptor yX7_feels.desc).map (fun d => d.parameters.length) = some 9 := by decide +kernel
abbrev rmX7_feels : Room := { frames := 1, cells := 0, slots := 0, locals := 23 }
def bX7_feels_278 (nn : Nat)  (v0 : Nat) (v5 : Nat) (v7 : Int32) (v8 : Int32) (v9 : Int32) (s0 : Nat) (s1 : Int32) (s2 : Int32) (σ : zS) : Option (Unit × zS) :=
  zX s1 12 (bnd (zI σ s0 (s1).toNatClampNeg s2) (fun (σ2 : zS) => bnd (σ2.2 v0 31) (fun (q3 : Nat) => zX (7 : Int32) 12 (bnd (zI σ2 q3 ((7 : Int32)).toNatClampNeg v9) (fun (σ5 : zS) => bnd (σ5.2 v0 31) (fun (q6 : Nat) => zX (8 : Int32) 12 (bnd (zI σ5 q6 ((8 : Int32)).toNatClampNeg v8) (fun (σ8 : zS) => bnd (σ8.2 v0 31) (fun (q9 : Nat) => zV v7 (zX (9 : Int32) 12 (bnd (zI σ8 q9 ((9 : Int32)).toNatClampNeg (v8 / v7)) (fun (σ12 : zS) => bnd (σ12.2 v0 31) (fun (q13 : Nat) => zX v8 24 (zX (11 : Int32) 12 (bnd (zI σ12 q13 ((11 : Int32)).toNatClampNeg (σ12.1 v5 (v8).toNatClampNeg)) (fun (σ16 : zS) => some ((), σ16)))))))))))))))))
def bX7_feels_249 (nn : Nat)  (v0 : Nat) (v1 : Nat) (v2 : Int32) (v5 : Nat) (v7 : Int32) (v8 : Int32) (v9 : Int32) (σ : zS) : Option (Unit × zS) :=
  bnd (σ.2 v0 31) (fun (q17 : Nat) => if v9 = 0 then (bX7_feels_278 nn v0 v5 v7 v8 v9 q17 (6 : Int32) (0 : Int32) σ) else (zX ((v2 + ((24 : Int32) * (v9 - (1 : Int32)))) + v8) nn (bnd ((σ.1 v1 (((v2 + ((24 : Int32) * (v9 - (1 : Int32)))) + v8)).toNatClampNeg)) (fun (x20 : Int32) => bX7_feels_278 nn v0 v5 v7 v8 v9 q17 (6 : Int32) x20 σ))))
def bX7_feels_243 (nn : Nat) (k35 : Nat → Nat → Int32 → Nat → Nat → Nat → Int32 → Int32 → Int32 → Int32 → zS → Option (Unit × zS)) (v0 : Nat) (v1 : Nat) (v2 : Int32) (v3 : Nat) (v4 : Nat) (v5 : Nat) (v7 : Int32) (v8 : Int32) (v9 : Int32) (v10 : Int32) (σ : zS) : Option (Unit × zS) :=
  k35 v0 v1 v2 v3 v4 v5 v7 v8 v9 ((v10 + (1 : Int32))) σ
def bX7_feels_241 (nn : Nat) (k243 : Nat → Nat → Int32 → Nat → Nat → Nat → Int32 → Int32 → Int32 → Int32 → zS → Option (Unit × zS)) (v0 : Nat) (v1 : Nat) (v2 : Int32) (v3 : Nat) (v4 : Nat) (v5 : Nat) (v7 : Int32) (v8 : Int32) (v9 : Int32) (v10 : Int32) (s0 : Nat) (s1 : Int32) (s2 : Int32) (s3 : Int32) (σ : zS) : Option (Unit × zS) :=
  zX s1 12 (bnd (zI σ s0 (s1).toNatClampNeg (s2 + s3)) (fun (σ22 : zS) => k243 v0 v1 v2 v3 v4 v5 v7 v8 v9 v10 σ22))
def bX7_feels_240 (nn : Nat) (k241 : Nat → Nat → Int32 → Nat → Nat → Nat → Int32 → Int32 → Int32 → Int32 → Nat → Int32 → Int32 → Int32 → zS → Option (Unit × zS)) (v0 : Nat) (v1 : Nat) (v2 : Int32) (v3 : Nat) (v4 : Nat) (v5 : Nat) (v7 : Int32) (v8 : Int32) (v9 : Int32) (v10 : Int32) (s0 : Nat) (s1 : Int32) (s2 : Int32) (σ : zS) : Option (Unit × zS) :=
  k241 v0 v1 v2 v3 v4 v5 v7 v8 v9 v10 s0 s1 s2 (0 : Int32) σ
def bX7_feels_194 (nn : Nat) (k243 : Nat → Nat → Int32 → Nat → Nat → Nat → Int32 → Int32 → Int32 → Int32 → zS → Option (Unit × zS)) (v0 : Nat) (v1 : Nat) (v2 : Int32) (v3 : Nat) (v4 : Nat) (v5 : Nat) (v7 : Int32) (v8 : Int32) (v9 : Int32) (v10 : Int32) (v11 : Int32) (s0 : Nat) (s1 : Int32) (s2 : Int32) (s3 : Int32) (σ : zS) : Option (Unit × zS) :=
  zX s1 12 (bnd (zI σ s0 (s1).toNatClampNeg (s2 + s3)) (fun (σ24 : zS) => bnd (σ24.2 v0 31) (fun (q25 : Nat) => bnd (σ24.2 v0 31) (fun (q26 : Nat) => zX (5 : Int32) 12 (zX (5 : Int32) 12 (bnd (zI σ24 q25 ((5 : Int32)).toNatClampNeg ((σ24.1 q26 ((5 : Int32)).toNatClampNeg) + (1 : Int32))) (fun (σ29 : zS) => bnd (σ29.2 v0 31) (fun (q30 : Nat) => bnd (σ29.2 v0 31) (fun (q31 : Nat) => zX (10 : Int32) 12 (if v11 = 0 then (bX7_feels_240 nn (bX7_feels_241 nn k243) v0 v1 v2 v3 v4 v5 v7 v8 v9 v10 q30 (10 : Int32) ((σ29.1 q31 ((10 : Int32)).toNatClampNeg)) σ29) else (zX v10 24 (if (σ29.1 v4 (v10).toNatClampNeg) = 0 then (bX7_feels_240 nn (bX7_feels_241 nn k243) v0 v1 v2 v3 v4 v5 v7 v8 v9 v10 q30 (10 : Int32) ((σ29.1 q31 ((10 : Int32)).toNatClampNeg)) σ29) else (bX7_feels_241 nn k243 v0 v1 v2 v3 v4 v5 v7 v8 v9 v10 q30 (10 : Int32) ((σ29.1 q31 ((10 : Int32)).toNatClampNeg)) (1 : Int32) σ29)))))))))))))
def bX7_feels_170 (nn : Nat) (k243 : Nat → Nat → Int32 → Nat → Nat → Nat → Int32 → Int32 → Int32 → Int32 → zS → Option (Unit × zS)) (v0 : Nat) (v1 : Nat) (v2 : Int32) (v3 : Nat) (v4 : Nat) (v5 : Nat) (v7 : Int32) (v8 : Int32) (v9 : Int32) (v10 : Int32) (v11 : Int32) (v12 : Int32) (s0 : Nat) (s1 : Int32) (s2 : Int32) (s3 : Int32) (σ : zS) : Option (Unit × zS) :=
  zX s1 12 (bnd (zI σ s0 (s1).toNatClampNeg (s2 + s3)) (fun (σ37 : zS) => bnd (σ37.2 v0 31) (fun (q38 : Nat) => bnd (σ37.2 v0 31) (fun (q39 : Nat) => zX (4 : Int32) 12 (if v12 = (2 : Int32) then (bX7_feels_194 nn k243 v0 v1 v2 v3 v4 v5 v7 v8 v9 v10 v11 q38 (4 : Int32) ((σ37.1 q39 ((4 : Int32)).toNatClampNeg)) (1 : Int32) σ37) else (bX7_feels_194 nn k243 v0 v1 v2 v3 v4 v5 v7 v8 v9 v10 v11 q38 (4 : Int32) ((σ37.1 q39 ((4 : Int32)).toNatClampNeg)) (0 : Int32) σ37))))))
def bX7_feels_146 (nn : Nat) (k243 : Nat → Nat → Int32 → Nat → Nat → Nat → Int32 → Int32 → Int32 → Int32 → zS → Option (Unit × zS)) (v0 : Nat) (v1 : Nat) (v2 : Int32) (v3 : Nat) (v4 : Nat) (v5 : Nat) (v7 : Int32) (v8 : Int32) (v9 : Int32) (v10 : Int32) (v11 : Int32) (v12 : Int32) (s0 : Nat) (s1 : Int32) (s2 : Int32) (s3 : Int32) (σ : zS) : Option (Unit × zS) :=
  zX s1 12 (bnd (zI σ s0 (s1).toNatClampNeg (s2 + s3)) (fun (σ43 : zS) => bnd (σ43.2 v0 31) (fun (q44 : Nat) => bnd (σ43.2 v0 31) (fun (q45 : Nat) => zX (3 : Int32) 12 (if v12 = (1 : Int32) then (bX7_feels_170 nn k243 v0 v1 v2 v3 v4 v5 v7 v8 v9 v10 v11 v12 q44 (3 : Int32) ((σ43.1 q45 ((3 : Int32)).toNatClampNeg)) (1 : Int32) σ43) else (bX7_feels_170 nn k243 v0 v1 v2 v3 v4 v5 v7 v8 v9 v10 v11 v12 q44 (3 : Int32) ((σ43.1 q45 ((3 : Int32)).toNatClampNeg)) (0 : Int32) σ43))))))
def bX7_feels_145 (nn : Nat) (k146 : Nat → Nat → Int32 → Nat → Nat → Nat → Int32 → Int32 → Int32 → Int32 → Int32 → Int32 → Nat → Int32 → Int32 → Int32 → zS → Option (Unit × zS)) (v0 : Nat) (v1 : Nat) (v2 : Int32) (v3 : Nat) (v4 : Nat) (v5 : Nat) (v7 : Int32) (v8 : Int32) (v9 : Int32) (v10 : Int32) (v11 : Int32) (v12 : Int32) (s0 : Nat) (s1 : Int32) (s2 : Int32) (σ : zS) : Option (Unit × zS) :=
  k146 v0 v1 v2 v3 v4 v5 v7 v8 v9 v10 v11 v12 s0 s1 s2 (0 : Int32) σ
def bX7_feels_117 (nn : Nat) (k243 : Nat → Nat → Int32 → Nat → Nat → Nat → Int32 → Int32 → Int32 → Int32 → zS → Option (Unit × zS)) (v0 : Nat) (v1 : Nat) (v2 : Int32) (v3 : Nat) (v4 : Nat) (v5 : Nat) (v7 : Int32) (v8 : Int32) (v9 : Int32) (v10 : Int32) (v11 : Int32) (v12 : Int32) (s0 : Nat) (s1 : Int32) (s2 : Int32) (s3 : Int32) (σ : zS) : Option (Unit × zS) :=
  zX s1 12 (bnd (zI σ s0 (s1).toNatClampNeg (s2 + s3)) (fun (σ49 : zS) => bnd (σ49.2 v0 31) (fun (q50 : Nat) => bnd (σ49.2 v0 31) (fun (q51 : Nat) => zX (2 : Int32) 12 (if v11 = 0 then (bX7_feels_145 nn (bX7_feels_146 nn k243) v0 v1 v2 v3 v4 v5 v7 v8 v9 v10 v11 v12 q50 (2 : Int32) ((σ49.1 q51 ((2 : Int32)).toNatClampNeg)) σ49) else (if v12 = (2 : Int32) then (bX7_feels_146 nn k243 v0 v1 v2 v3 v4 v5 v7 v8 v9 v10 v11 v12 q50 (2 : Int32) ((σ49.1 q51 ((2 : Int32)).toNatClampNeg)) (1 : Int32) σ49) else (bX7_feels_145 nn (bX7_feels_146 nn k243) v0 v1 v2 v3 v4 v5 v7 v8 v9 v10 v11 v12 q50 (2 : Int32) ((σ49.1 q51 ((2 : Int32)).toNatClampNeg)) σ49)))))))
def bX7_feels_116 (nn : Nat) (k117 : Nat → Nat → Int32 → Nat → Nat → Nat → Int32 → Int32 → Int32 → Int32 → Int32 → Int32 → Nat → Int32 → Int32 → Int32 → zS → Option (Unit × zS)) (v0 : Nat) (v1 : Nat) (v2 : Int32) (v3 : Nat) (v4 : Nat) (v5 : Nat) (v7 : Int32) (v8 : Int32) (v9 : Int32) (v10 : Int32) (v11 : Int32) (v12 : Int32) (s0 : Nat) (s1 : Int32) (s2 : Int32) (σ : zS) : Option (Unit × zS) :=
  k117 v0 v1 v2 v3 v4 v5 v7 v8 v9 v10 v11 v12 s0 s1 s2 (0 : Int32) σ
def bX7_feels_88 (nn : Nat) (k243 : Nat → Nat → Int32 → Nat → Nat → Nat → Int32 → Int32 → Int32 → Int32 → zS → Option (Unit × zS)) (v0 : Nat) (v1 : Nat) (v2 : Int32) (v3 : Nat) (v4 : Nat) (v5 : Nat) (v7 : Int32) (v8 : Int32) (v9 : Int32) (v10 : Int32) (v11 : Int32) (s0 : Int32) (σ : zS) : Option (Unit × zS) :=
  bnd (σ.2 v0 31) (fun (q55 : Nat) => bnd (σ.2 v0 31) (fun (q56 : Nat) => zX (1 : Int32) 12 (if v11 = 0 then (bX7_feels_116 nn (bX7_feels_117 nn k243) v0 v1 v2 v3 v4 v5 v7 v8 v9 v10 v11 s0 q55 (1 : Int32) ((σ.1 q56 ((1 : Int32)).toNatClampNeg)) σ) else (if s0 = (1 : Int32) then (bX7_feels_117 nn k243 v0 v1 v2 v3 v4 v5 v7 v8 v9 v10 v11 s0 q55 (1 : Int32) ((σ.1 q56 ((1 : Int32)).toNatClampNeg)) (1 : Int32) σ) else (bX7_feels_116 nn (bX7_feels_117 nn k243) v0 v1 v2 v3 v4 v5 v7 v8 v9 v10 v11 s0 q55 (1 : Int32) ((σ.1 q56 ((1 : Int32)).toNatClampNeg)) σ)))))
def bX7_feels_35 (nn : Nat) (k35 : Nat → Nat → Int32 → Nat → Nat → Nat → Int32 → Int32 → Int32 → Int32 → zS → Option (Unit × zS)) (v0 : Nat) (v1 : Nat) (v2 : Int32) (v3 : Nat) (v4 : Nat) (v5 : Nat) (v7 : Int32) (v8 : Int32) (v9 : Int32) (v10 : Int32) (σ : zS) : Option (Unit × zS) :=
  if (24 : Int32) ≤ v10 then (bX7_feels_249 nn v0 v1 v2 v5 v7 v8 v9 σ) else (zX v10 24 (if (σ.1 v3 (v10).toNatClampNeg) = (-1 : Int32) then (bX7_feels_243 nn k35 v0 v1 v2 v3 v4 v5 v7 v8 v9 v10 σ) else (zb (fX7_areNeighbours v0 v8 v10 v7 σ) (fun (r64 : Int32) (σ63 : zS) => if v9 = 0 then (bX7_feels_88 nn (bX7_feels_243 nn k35) v0 v1 v2 v3 v4 v5 v7 v8 v9 v10 r64 (0 : Int32) σ63) else (zX ((v2 + ((24 : Int32) * (v9 - (1 : Int32)))) + v10) nn (bnd ((σ63.1 v1 (((v2 + ((24 : Int32) * (v9 - (1 : Int32)))) + v10)).toNatClampNeg)) (fun (x67 : Int32) => bX7_feels_88 nn (bX7_feels_243 nn k35) v0 v1 v2 v3 v4 v5 v7 v8 v9 v10 r64 x67 σ63)))))))
def fX7_feels_35 (nn : Nat)  : Nat → Nat → Nat → Int32 → Nat → Nat → Nat → Int32 → Int32 → Int32 → Int32 → zS → Option (Unit × zS)
  | 0, _, _, _, _, _, _, _, _, _, _, _ => none
  | n + 1, v0, v1, v2, v3, v4, v5, v7, v8, v9, v10, σ => bX7_feels_35 nn (fX7_feels_35 nn  n) v0 v1 v2 v3 v4 v5 v7 v8 v9 v10 σ
def bX7_feels_24 (nn : Nat)  (v0 : Nat) (v1 : Nat) (v2 : Int32) (v3 : Nat) (v4 : Nat) (v5 : Nat) (v6 : Int32) (v7 : Int32) (v8 : Int32) (v9 : Int32) (σ : zS) : Option (Unit × zS) :=
  bnd (σ.2 v0 31) (fun (q68 : Nat) => zX (0 : Int32) 12 (bnd (zI σ q68 ((0 : Int32)).toNatClampNeg v6) (fun (σ70 : zS) => fX7_feels_35 nn zFU v0 v1 v2 v3 v4 v5 v7 v8 v9 (0 : Int32) σ70)))
def bX7_feels_3 (nn : Nat) (k3 : Nat → Nat → Int32 → Nat → Nat → Nat → Int32 → Int32 → Int32 → Int32 → Int32 → zS → Option (Unit × zS)) (v0 : Nat) (v1 : Nat) (v2 : Int32) (v3 : Nat) (v4 : Nat) (v5 : Nat) (v6 : Int32) (v7 : Int32) (v8 : Int32) (v9 : Int32) (v10 : Int32) (σ : zS) : Option (Unit × zS) :=
  if (12 : Int32) ≤ v10 then (bX7_feels_24 nn v0 v1 v2 v3 v4 v5 v6 v7 v8 v9 σ) else (bnd (σ.2 v0 31) (fun (q72 : Nat) => zX v10 12 (bnd (zI σ q72 (v10).toNatClampNeg (0 : Int32)) (fun (σ74 : zS) => k3 v0 v1 v2 v3 v4 v5 v6 v7 v8 v9 ((v10 + (1 : Int32))) σ74))))
def fX7_feels_3 (nn : Nat)  : Nat → Nat → Nat → Int32 → Nat → Nat → Nat → Int32 → Int32 → Int32 → Int32 → Int32 → zS → Option (Unit × zS)
  | 0, _, _, _, _, _, _, _, _, _, _, _, _ => none
  | n + 1, v0, v1, v2, v3, v4, v5, v6, v7, v8, v9, v10, σ => bX7_feels_3 nn (fX7_feels_3 nn  n) v0 v1 v2 v3 v4 v5 v6 v7 v8 v9 v10 σ
def fX7_feels (nn : Nat) (v0 : Nat) (v1 : Nat) (v2 : Int32) (v3 : Nat) (v4 : Nat) (v5 : Nat) (v6 : Int32) (v7 : Int32) (v8 : Int32) (v9 : Int32) (σ : zS) : Option (Unit × zS) :=
  fX7_feels_3 nn zFU v0 v1 v2 v3 v4 v5 v6 v7 v8 v9 (0 : Int32) σ
set_option maxRecDepth 100000 in
set_option maxHeartbeats 4000000 in
theorem jX7_feels_278 {p : Program} {l : Launch} {e : Env} {s : State} {m : MethodId} {args : Array Value} {below : List Frame} {meth : Method} {c : Code} {b0 : Nat} {cA : Nat → ClassId} {D : va_G} {L : List (Nat × Nat)} (nn : Nat) (hC : zC p c s m args meth cX7_feels 13 (none) (Cond.code yX7_feels cX7_feels 13 (none)) yX7_feels.cls cA D)  (v0 : Nat) (v5 : Nat) (v7 : Int32) (v8 : Int32) (v9 : Int32) (s0 : Nat) (s1 : Int32) (s2 : Int32) (σ : zS) (ls : Array Slot) (hk_v0 : L[v0]? = some (0, 7)) (hk_v5 : L[v5]? = some (1, 24)) (hk_s0 : L[s0]? = some (1, 12)) (hl : lv_has ls 13 [(0, .ref (b0 + v0)), (5, .ref (b0 + v5)), (7, .int v7), (8, .int v8), (9, .int v9)]) : zJ p l e rmX7_feels s m args below meth c b0 cA D L (fun z => MQ below (va_Qv (fun (u : zS) => ((), u) = z) (zB b0 cA D L) (zA b0 L)) args s 0 0 (zA b0 L)) (bX7_feels_278 nn  v0 v5 v7 v8 v9 s0 s1 s2 σ) σ 278 ls [.int s2, .int s1, .ref (b0 + s0)] := by
  unfold bX7_feels_278
  refine zj_iast (pc' := 279) hC hk_s0 dX7_feels_278 rfl (fun g1 σ2 => ?_)
  refine zj_aload_n (pc' := 280) hC dX7_feels_279 rfl rfl (lv_at hl 0 rfl) ?_
  refine zj_getR (pc' := 283) hC hk_v0 fd_7_31 rfl tw_4_79 dX7_feels_280 rfl (fun q3 hk_q3 => ?_)
  refine zj_bipush (pc' := 285) (v := (7 : Int32)) hC dX7_feels_283 rfl rfl ?_
  refine zj_iload (pc' := 287) hC dX7_feels_285 rfl (lv_at hl 4 rfl) ?_
  refine zj_iast (pc' := 288) hC hk_q3 dX7_feels_287 rfl (fun g4 σ5 => ?_)
  refine zj_aload_n (pc' := 289) hC dX7_feels_288 rfl rfl (lv_at hl 0 rfl) ?_
  refine zj_getR (pc' := 292) hC hk_v0 fd_7_31 rfl tw_4_79 dX7_feels_289 rfl (fun q6 hk_q6 => ?_)
  refine zj_bipush (pc' := 294) (v := (8 : Int32)) hC dX7_feels_292 rfl rfl ?_
  refine zj_iload (pc' := 296) hC dX7_feels_294 rfl (lv_at hl 3 rfl) ?_
  refine zj_iast (pc' := 297) hC hk_q6 dX7_feels_296 rfl (fun g7 σ8 => ?_)
  refine zj_aload_n (pc' := 298) hC dX7_feels_297 rfl rfl (lv_at hl 0 rfl) ?_
  refine zj_getR (pc' := 301) hC hk_v0 fd_7_31 rfl tw_4_79 dX7_feels_298 rfl (fun q9 hk_q9 => ?_)
  refine zj_bipush (pc' := 303) (v := (9 : Int32)) hC dX7_feels_301 rfl rfl ?_
  refine zj_iload (pc' := 305) hC dX7_feels_303 rfl (lv_at hl 3 rfl) ?_
  refine zj_iload (pc' := 307) hC dX7_feels_305 rfl (lv_at hl 2 rfl) ?_
  refine zj_idiv (pc' := 308) hC dX7_feels_307 rfl (fun g10 => ?_)
  refine zj_iast (pc' := 309) hC hk_q9 dX7_feels_308 rfl (fun g11 σ12 => ?_)
  refine zj_aload_n (pc' := 310) hC dX7_feels_309 rfl rfl (lv_at hl 0 rfl) ?_
  refine zj_getR (pc' := 313) hC hk_v0 fd_7_31 rfl tw_4_79 dX7_feels_310 rfl (fun q13 hk_q13 => ?_)
  refine zj_bipush (pc' := 315) (v := (11 : Int32)) hC dX7_feels_313 rfl rfl ?_
  refine zj_aload (pc' := 317) hC dX7_feels_315 rfl (lv_at hl 1 rfl) ?_
  refine zj_iload (pc' := 319) hC dX7_feels_317 rfl (lv_at hl 3 rfl) ?_
  refine zj_iald (pc' := 320) hC hk_v5 dX7_feels_319 rfl (fun g14 => ?_)
  refine zj_iast (pc' := 321) hC hk_q13 dX7_feels_320 rfl (fun g15 σ16 => ?_)
  exact zj_vret hC dX7_feels_321
set_option maxRecDepth 100000 in
set_option maxHeartbeats 4000000 in
theorem jX7_feels_249 {p : Program} {l : Launch} {e : Env} {s : State} {m : MethodId} {args : Array Value} {below : List Frame} {meth : Method} {c : Code} {b0 : Nat} {cA : Nat → ClassId} {D : va_G} {L : List (Nat × Nat)} (nn : Nat) (hC : zC p c s m args meth cX7_feels 13 (none) (Cond.code yX7_feels cX7_feels 13 (none)) yX7_feels.cls cA D)  (v0 : Nat) (v1 : Nat) (v2 : Int32) (v5 : Nat) (v7 : Int32) (v8 : Int32) (v9 : Int32) (σ : zS) (ls : Array Slot) (hk_v0 : L[v0]? = some (0, 7)) (hk_v1 : L[v1]? = some (1, nn)) (hk_v5 : L[v5]? = some (1, 24)) (hl : lv_has ls 13 [(0, .ref (b0 + v0)), (1, .ref (b0 + v1)), (2, .int v2), (5, .ref (b0 + v5)), (7, .int v7), (8, .int v8), (9, .int v9)]) : zJ p l e rmX7_feels s m args below meth c b0 cA D L (fun z => MQ below (va_Qv (fun (u : zS) => ((), u) = z) (zB b0 cA D L) (zA b0 L)) args s 0 0 (zA b0 L)) (bX7_feels_249 nn  v0 v1 v2 v5 v7 v8 v9 σ) σ 249 ls [] := by
  unfold bX7_feels_249
  refine zj_aload_n (pc' := 250) hC dX7_feels_249 rfl rfl (lv_at hl 0 rfl) ?_
  refine zj_getR (pc' := 253) hC hk_v0 fd_7_31 rfl tw_4_79 dX7_feels_250 rfl (fun q17 hk_q17 => ?_)
  refine zj_bipush (pc' := 255) (v := (6 : Int32)) hC dX7_feels_253 rfl rfl ?_
  refine zj_iload (pc' := 257) hC dX7_feels_255 rfl (lv_at hl 6 rfl) ?_
  refine zj_if_ne (tgt := 264) (pc' := 260) hC dX7_feels_257 (by decide) rfl (fun c18 => ?_) (fun c18 => ?_)
  · refine zj_aload_n (pc' := 265) hC dX7_feels_264 rfl rfl (lv_at hl 1 rfl) ?_
    refine zj_iload_n (pc' := 266) hC dX7_feels_265 rfl rfl (lv_at hl 2 rfl) ?_
    refine zj_bipush (pc' := 268) (v := (24 : Int32)) hC dX7_feels_266 rfl rfl ?_
    refine zj_iload (pc' := 270) hC dX7_feels_268 rfl (lv_at hl 6 rfl) ?_
    refine zj_iconst (pc' := 271) (v := (1 : Int32)) hC dX7_feels_270 rfl rfl ?_
    refine zj_isub (pc' := 272) hC dX7_feels_271 rfl ?_
    refine zj_imul (pc' := 273) hC dX7_feels_272 rfl ?_
    refine zj_iadd (pc' := 274) hC dX7_feels_273 rfl ?_
    refine zj_iload (pc' := 276) hC dX7_feels_274 rfl (lv_at hl 5 rfl) ?_
    refine zj_iadd (pc' := 277) hC dX7_feels_276 rfl ?_
    refine zj_iald (pc' := 278) hC hk_v1 dX7_feels_277 rfl (fun g19 => ?_)
    refine zj_nmi (fun x20 => ?_)
    exact jX7_feels_278 nn hC v0 v5 v7 v8 v9 q17 (6 : Int32) x20 σ ls hk_v0 hk_v5 hk_q17 (lv_sub hl [0, 3, 4, 5, 6] rfl)
  · refine zj_iconst (pc' := 261) (v := (0 : Int32)) hC dX7_feels_260 rfl rfl ?_
    refine zj_goto (tgt := 278) hC dX7_feels_261 (by decide) ?_
    exact jX7_feels_278 nn hC v0 v5 v7 v8 v9 q17 (6 : Int32) (0 : Int32) σ ls hk_v0 hk_v5 hk_q17 (lv_sub hl [0, 3, 4, 5, 6] rfl)
set_option maxRecDepth 100000 in
set_option maxHeartbeats 4000000 in
theorem jX7_feels_243 {p : Program} {l : Launch} {e : Env} {s : State} {m : MethodId} {args : Array Value} {below : List Frame} {meth : Method} {c : Code} {b0 : Nat} {cA : Nat → ClassId} {D : va_G} {L : List (Nat × Nat)} (nn : Nat) (hC : zC p c s m args meth cX7_feels 13 (none) (Cond.code yX7_feels cX7_feels 13 (none)) yX7_feels.cls cA D) (k35 : Nat → Nat → Int32 → Nat → Nat → Nat → Int32 → Int32 → Int32 → Int32 → zS → Option (Unit × zS)) (h35 : ∀ (v0 : Nat) (v1 : Nat) (v2 : Int32) (v3 : Nat) (v4 : Nat) (v5 : Nat) (v7 : Int32) (v8 : Int32) (v9 : Int32) (v10 : Int32) (σ : zS) (ls : Array Slot), L[v0]? = some (0, 7) → L[v1]? = some (1, nn) → L[v3]? = some (1, 24) → L[v4]? = some (1, 24) → L[v5]? = some (1, 24) → lv_has ls 13 [(0, .ref (b0 + v0)), (1, .ref (b0 + v1)), (2, .int v2), (3, .ref (b0 + v3)), (4, .ref (b0 + v4)), (5, .ref (b0 + v5)), (7, .int v7), (8, .int v8), (9, .int v9), (10, .int v10)] → zJ p l e rmX7_feels s m args below meth c b0 cA D L (fun z => MQ below (va_Qv (fun (u : zS) => ((), u) = z) (zB b0 cA D L) (zA b0 L)) args s 0 0 (zA b0 L)) (k35 v0 v1 v2 v3 v4 v5 v7 v8 v9 v10 σ) σ 35 ls []) (v0 : Nat) (v1 : Nat) (v2 : Int32) (v3 : Nat) (v4 : Nat) (v5 : Nat) (v7 : Int32) (v8 : Int32) (v9 : Int32) (v10 : Int32) (σ : zS) (ls : Array Slot) (hk_v0 : L[v0]? = some (0, 7)) (hk_v1 : L[v1]? = some (1, nn)) (hk_v3 : L[v3]? = some (1, 24)) (hk_v4 : L[v4]? = some (1, 24)) (hk_v5 : L[v5]? = some (1, 24)) (hl : lv_has ls 13 [(0, .ref (b0 + v0)), (1, .ref (b0 + v1)), (2, .int v2), (3, .ref (b0 + v3)), (4, .ref (b0 + v4)), (5, .ref (b0 + v5)), (7, .int v7), (8, .int v8), (9, .int v9), (10, .int v10)]) : zJ p l e rmX7_feels s m args below meth c b0 cA D L (fun z => MQ below (va_Qv (fun (u : zS) => ((), u) = z) (zB b0 cA D L) (zA b0 L)) args s 0 0 (zA b0 L)) (bX7_feels_243 nn k35 v0 v1 v2 v3 v4 v5 v7 v8 v9 v10 σ) σ 243 ls [] := by
  unfold bX7_feels_243
  refine zj_iinc (pc' := 246) (k0 := 9) (v := (v10 + (1 : Int32))) (lv' := [(10, .int (v10 + (1 : Int32))), (0, .ref (b0 + v0)), (1, .ref (b0 + v1)), (2, .int v2), (3, .ref (b0 + v3)), (4, .ref (b0 + v4)), (5, .ref (b0 + v5)), (7, .int v7), (8, .int v8), (9, .int v9)]) hC dX7_feels_243 rfl hl rfl rfl (by decide) rfl (fun ls hl => ?_)
  refine zj_goto (tgt := 35) hC dX7_feels_246 (by decide) ?_
  exact h35 v0 v1 v2 v3 v4 v5 v7 v8 v9 ((v10 + (1 : Int32))) σ ls hk_v0 hk_v1 hk_v3 hk_v4 hk_v5 (lv_sub hl [1, 2, 3, 4, 5, 6, 7, 8, 9, 0] rfl)
set_option maxRecDepth 100000 in
set_option maxHeartbeats 4000000 in
theorem jX7_feels_241 {p : Program} {l : Launch} {e : Env} {s : State} {m : MethodId} {args : Array Value} {below : List Frame} {meth : Method} {c : Code} {b0 : Nat} {cA : Nat → ClassId} {D : va_G} {L : List (Nat × Nat)} (nn : Nat) (hC : zC p c s m args meth cX7_feels 13 (none) (Cond.code yX7_feels cX7_feels 13 (none)) yX7_feels.cls cA D) (k243 : Nat → Nat → Int32 → Nat → Nat → Nat → Int32 → Int32 → Int32 → Int32 → zS → Option (Unit × zS)) (h243 : ∀ (v0 : Nat) (v1 : Nat) (v2 : Int32) (v3 : Nat) (v4 : Nat) (v5 : Nat) (v7 : Int32) (v8 : Int32) (v9 : Int32) (v10 : Int32) (σ : zS) (ls : Array Slot), L[v0]? = some (0, 7) → L[v1]? = some (1, nn) → L[v3]? = some (1, 24) → L[v4]? = some (1, 24) → L[v5]? = some (1, 24) → lv_has ls 13 [(0, .ref (b0 + v0)), (1, .ref (b0 + v1)), (2, .int v2), (3, .ref (b0 + v3)), (4, .ref (b0 + v4)), (5, .ref (b0 + v5)), (7, .int v7), (8, .int v8), (9, .int v9), (10, .int v10)] → zJ p l e rmX7_feels s m args below meth c b0 cA D L (fun z => MQ below (va_Qv (fun (u : zS) => ((), u) = z) (zB b0 cA D L) (zA b0 L)) args s 0 0 (zA b0 L)) (k243 v0 v1 v2 v3 v4 v5 v7 v8 v9 v10 σ) σ 243 ls []) (v0 : Nat) (v1 : Nat) (v2 : Int32) (v3 : Nat) (v4 : Nat) (v5 : Nat) (v7 : Int32) (v8 : Int32) (v9 : Int32) (v10 : Int32) (s0 : Nat) (s1 : Int32) (s2 : Int32) (s3 : Int32) (σ : zS) (ls : Array Slot) (hk_v0 : L[v0]? = some (0, 7)) (hk_v1 : L[v1]? = some (1, nn)) (hk_v3 : L[v3]? = some (1, 24)) (hk_v4 : L[v4]? = some (1, 24)) (hk_v5 : L[v5]? = some (1, 24)) (hk_s0 : L[s0]? = some (1, 12)) (hb_s3 : nB s3) (hl : lv_has ls 13 [(0, .ref (b0 + v0)), (1, .ref (b0 + v1)), (2, .int v2), (3, .ref (b0 + v3)), (4, .ref (b0 + v4)), (5, .ref (b0 + v5)), (7, .int v7), (8, .int v8), (9, .int v9), (10, .int v10)]) : zJ p l e rmX7_feels s m args below meth c b0 cA D L (fun z => MQ below (va_Qv (fun (u : zS) => ((), u) = z) (zB b0 cA D L) (zA b0 L)) args s 0 0 (zA b0 L)) (bX7_feels_241 nn k243 v0 v1 v2 v3 v4 v5 v7 v8 v9 v10 s0 s1 s2 s3 σ) σ 241 ls [.int s3, .int s2, .int s1, .ref (b0 + s0)] := by
  unfold bX7_feels_241
  refine zj_iadd (pc' := 242) hC dX7_feels_241 rfl ?_
  refine zj_iast (pc' := 243) hC hk_s0 dX7_feels_242 rfl (fun g21 σ22 => ?_)
  exact h243 v0 v1 v2 v3 v4 v5 v7 v8 v9 v10 σ22 ls hk_v0 hk_v1 hk_v3 hk_v4 hk_v5 (lv_sub hl [0, 1, 2, 3, 4, 5, 6, 7, 8, 9] rfl)
set_option maxRecDepth 100000 in
set_option maxHeartbeats 4000000 in
theorem jX7_feels_240 {p : Program} {l : Launch} {e : Env} {s : State} {m : MethodId} {args : Array Value} {below : List Frame} {meth : Method} {c : Code} {b0 : Nat} {cA : Nat → ClassId} {D : va_G} {L : List (Nat × Nat)} (nn : Nat) (hC : zC p c s m args meth cX7_feels 13 (none) (Cond.code yX7_feels cX7_feels 13 (none)) yX7_feels.cls cA D) (k241 : Nat → Nat → Int32 → Nat → Nat → Nat → Int32 → Int32 → Int32 → Int32 → Nat → Int32 → Int32 → Int32 → zS → Option (Unit × zS)) (h241 : ∀ (v0 : Nat) (v1 : Nat) (v2 : Int32) (v3 : Nat) (v4 : Nat) (v5 : Nat) (v7 : Int32) (v8 : Int32) (v9 : Int32) (v10 : Int32) (s0 : Nat) (s1 : Int32) (s2 : Int32) (s3 : Int32) (σ : zS) (ls : Array Slot), L[v0]? = some (0, 7) → L[v1]? = some (1, nn) → L[v3]? = some (1, 24) → L[v4]? = some (1, 24) → L[v5]? = some (1, 24) → L[s0]? = some (1, 12) → nB s3 → lv_has ls 13 [(0, .ref (b0 + v0)), (1, .ref (b0 + v1)), (2, .int v2), (3, .ref (b0 + v3)), (4, .ref (b0 + v4)), (5, .ref (b0 + v5)), (7, .int v7), (8, .int v8), (9, .int v9), (10, .int v10)] → zJ p l e rmX7_feels s m args below meth c b0 cA D L (fun z => MQ below (va_Qv (fun (u : zS) => ((), u) = z) (zB b0 cA D L) (zA b0 L)) args s 0 0 (zA b0 L)) (k241 v0 v1 v2 v3 v4 v5 v7 v8 v9 v10 s0 s1 s2 s3 σ) σ 241 ls [.int s3, .int s2, .int s1, .ref (b0 + s0)]) (v0 : Nat) (v1 : Nat) (v2 : Int32) (v3 : Nat) (v4 : Nat) (v5 : Nat) (v7 : Int32) (v8 : Int32) (v9 : Int32) (v10 : Int32) (s0 : Nat) (s1 : Int32) (s2 : Int32) (σ : zS) (ls : Array Slot) (hk_v0 : L[v0]? = some (0, 7)) (hk_v1 : L[v1]? = some (1, nn)) (hk_v3 : L[v3]? = some (1, 24)) (hk_v4 : L[v4]? = some (1, 24)) (hk_v5 : L[v5]? = some (1, 24)) (hk_s0 : L[s0]? = some (1, 12)) (hl : lv_has ls 13 [(0, .ref (b0 + v0)), (1, .ref (b0 + v1)), (2, .int v2), (3, .ref (b0 + v3)), (4, .ref (b0 + v4)), (5, .ref (b0 + v5)), (7, .int v7), (8, .int v8), (9, .int v9), (10, .int v10)]) : zJ p l e rmX7_feels s m args below meth c b0 cA D L (fun z => MQ below (va_Qv (fun (u : zS) => ((), u) = z) (zB b0 cA D L) (zA b0 L)) args s 0 0 (zA b0 L)) (bX7_feels_240 nn k241 v0 v1 v2 v3 v4 v5 v7 v8 v9 v10 s0 s1 s2 σ) σ 240 ls [.int s2, .int s1, .ref (b0 + s0)] := by
  unfold bX7_feels_240
  refine zj_iconst (pc' := 241) (v := (0 : Int32)) hC dX7_feels_240 rfl rfl ?_
  exact h241 v0 v1 v2 v3 v4 v5 v7 v8 v9 v10 s0 s1 s2 (0 : Int32) σ ls hk_v0 hk_v1 hk_v3 hk_v4 hk_v5 hk_s0 nB_0 (lv_sub hl [0, 1, 2, 3, 4, 5, 6, 7, 8, 9] rfl)
set_option maxRecDepth 100000 in
set_option maxHeartbeats 4000000 in
theorem jX7_feels_194 {p : Program} {l : Launch} {e : Env} {s : State} {m : MethodId} {args : Array Value} {below : List Frame} {meth : Method} {c : Code} {b0 : Nat} {cA : Nat → ClassId} {D : va_G} {L : List (Nat × Nat)} (nn : Nat) (hC : zC p c s m args meth cX7_feels 13 (none) (Cond.code yX7_feels cX7_feels 13 (none)) yX7_feels.cls cA D) (k243 : Nat → Nat → Int32 → Nat → Nat → Nat → Int32 → Int32 → Int32 → Int32 → zS → Option (Unit × zS)) (h243 : ∀ (v0 : Nat) (v1 : Nat) (v2 : Int32) (v3 : Nat) (v4 : Nat) (v5 : Nat) (v7 : Int32) (v8 : Int32) (v9 : Int32) (v10 : Int32) (σ : zS) (ls : Array Slot), L[v0]? = some (0, 7) → L[v1]? = some (1, nn) → L[v3]? = some (1, 24) → L[v4]? = some (1, 24) → L[v5]? = some (1, 24) → lv_has ls 13 [(0, .ref (b0 + v0)), (1, .ref (b0 + v1)), (2, .int v2), (3, .ref (b0 + v3)), (4, .ref (b0 + v4)), (5, .ref (b0 + v5)), (7, .int v7), (8, .int v8), (9, .int v9), (10, .int v10)] → zJ p l e rmX7_feels s m args below meth c b0 cA D L (fun z => MQ below (va_Qv (fun (u : zS) => ((), u) = z) (zB b0 cA D L) (zA b0 L)) args s 0 0 (zA b0 L)) (k243 v0 v1 v2 v3 v4 v5 v7 v8 v9 v10 σ) σ 243 ls []) (v0 : Nat) (v1 : Nat) (v2 : Int32) (v3 : Nat) (v4 : Nat) (v5 : Nat) (v7 : Int32) (v8 : Int32) (v9 : Int32) (v10 : Int32) (v11 : Int32) (s0 : Nat) (s1 : Int32) (s2 : Int32) (s3 : Int32) (σ : zS) (ls : Array Slot) (hk_v0 : L[v0]? = some (0, 7)) (hk_v1 : L[v1]? = some (1, nn)) (hk_v3 : L[v3]? = some (1, 24)) (hk_v4 : L[v4]? = some (1, 24)) (hk_v5 : L[v5]? = some (1, 24)) (hb_v11 : nB v11) (hk_s0 : L[s0]? = some (1, 12)) (hb_s3 : nB s3) (hl : lv_has ls 13 [(0, .ref (b0 + v0)), (1, .ref (b0 + v1)), (2, .int v2), (3, .ref (b0 + v3)), (4, .ref (b0 + v4)), (5, .ref (b0 + v5)), (7, .int v7), (8, .int v8), (9, .int v9), (10, .int v10), (11, .int v11)]) : zJ p l e rmX7_feels s m args below meth c b0 cA D L (fun z => MQ below (va_Qv (fun (u : zS) => ((), u) = z) (zB b0 cA D L) (zA b0 L)) args s 0 0 (zA b0 L)) (bX7_feels_194 nn k243 v0 v1 v2 v3 v4 v5 v7 v8 v9 v10 v11 s0 s1 s2 s3 σ) σ 194 ls [.int s3, .int s2, .int s1, .ref (b0 + s0)] := by
  unfold bX7_feels_194
  refine zj_iadd (pc' := 195) hC dX7_feels_194 rfl ?_
  refine zj_iast (pc' := 196) hC hk_s0 dX7_feels_195 rfl (fun g23 σ24 => ?_)
  refine zj_aload_n (pc' := 197) hC dX7_feels_196 rfl rfl (lv_at hl 0 rfl) ?_
  refine zj_getR (pc' := 200) hC hk_v0 fd_7_31 rfl tw_4_79 dX7_feels_197 rfl (fun q25 hk_q25 => ?_)
  refine zj_iconst (pc' := 201) (v := (5 : Int32)) hC dX7_feels_200 rfl rfl ?_
  refine zj_aload_n (pc' := 202) hC dX7_feels_201 rfl rfl (lv_at hl 0 rfl) ?_
  refine zj_getR (pc' := 205) hC hk_v0 fd_7_31 rfl tw_4_79 dX7_feels_202 rfl (fun q26 hk_q26 => ?_)
  refine zj_iconst (pc' := 206) (v := (5 : Int32)) hC dX7_feels_205 rfl rfl ?_
  refine zj_iald (pc' := 207) hC hk_q26 dX7_feels_206 rfl (fun g27 => ?_)
  refine zj_iconst (pc' := 208) (v := (1 : Int32)) hC dX7_feels_207 rfl rfl ?_
  refine zj_iadd (pc' := 209) hC dX7_feels_208 rfl ?_
  refine zj_iast (pc' := 210) hC hk_q25 dX7_feels_209 rfl (fun g28 σ29 => ?_)
  refine zj_aload_n (pc' := 211) hC dX7_feels_210 rfl rfl (lv_at hl 0 rfl) ?_
  refine zj_getR (pc' := 214) hC hk_v0 fd_7_31 rfl tw_4_79 dX7_feels_211 rfl (fun q30 hk_q30 => ?_)
  refine zj_bipush (pc' := 216) (v := (10 : Int32)) hC dX7_feels_214 rfl rfl ?_
  refine zj_aload_n (pc' := 217) hC dX7_feels_216 rfl rfl (lv_at hl 0 rfl) ?_
  refine zj_getR (pc' := 220) hC hk_v0 fd_7_31 rfl tw_4_79 dX7_feels_217 rfl (fun q31 hk_q31 => ?_)
  refine zj_bipush (pc' := 222) (v := (10 : Int32)) hC dX7_feels_220 rfl rfl ?_
  refine zj_iald (pc' := 223) hC hk_q31 dX7_feels_222 rfl (fun g32 => ?_)
  refine zj_iload (pc' := 225) hC dX7_feels_223 rfl (lv_at hl 10 rfl) ?_
  refine zj_if_eq (tgt := 240) (pc' := 228) hC dX7_feels_225 (by decide) rfl (fun c33 => ?_) (fun c33 => ?_)
  · exact jX7_feels_240 nn hC (bX7_feels_241 nn k243) (jX7_feels_241 nn hC k243 h243) v0 v1 v2 v3 v4 v5 v7 v8 v9 v10 q30 (10 : Int32) ((σ29.1 q31 ((10 : Int32)).toNatClampNeg)) σ29 ls hk_v0 hk_v1 hk_v3 hk_v4 hk_v5 hk_q30 (lv_sub hl [0, 1, 2, 3, 4, 5, 6, 7, 8, 9] rfl)
  · refine zj_aload (pc' := 230) hC dX7_feels_228 rfl (lv_at hl 4 rfl) ?_
    refine zj_iload (pc' := 232) hC dX7_feels_230 rfl (lv_at hl 9 rfl) ?_
    refine zj_iald (pc' := 233) hC hk_v4 dX7_feels_232 rfl (fun g34 => ?_)
    refine zj_if_eq (tgt := 240) (pc' := 236) hC dX7_feels_233 (by decide) rfl (fun c35 => ?_) (fun c35 => ?_)
    · exact jX7_feels_240 nn hC (bX7_feels_241 nn k243) (jX7_feels_241 nn hC k243 h243) v0 v1 v2 v3 v4 v5 v7 v8 v9 v10 q30 (10 : Int32) ((σ29.1 q31 ((10 : Int32)).toNatClampNeg)) σ29 ls hk_v0 hk_v1 hk_v3 hk_v4 hk_v5 hk_q30 (lv_sub hl [0, 1, 2, 3, 4, 5, 6, 7, 8, 9] rfl)
    · refine zj_iconst (pc' := 237) (v := (1 : Int32)) hC dX7_feels_236 rfl rfl ?_
      refine zj_goto (tgt := 241) hC dX7_feels_237 (by decide) ?_
      exact jX7_feels_241 nn hC k243 h243 v0 v1 v2 v3 v4 v5 v7 v8 v9 v10 q30 (10 : Int32) ((σ29.1 q31 ((10 : Int32)).toNatClampNeg)) (1 : Int32) σ29 ls hk_v0 hk_v1 hk_v3 hk_v4 hk_v5 hk_q30 nB_1 (lv_sub hl [0, 1, 2, 3, 4, 5, 6, 7, 8, 9] rfl)
set_option maxRecDepth 100000 in
set_option maxHeartbeats 4000000 in
theorem jX7_feels_170 {p : Program} {l : Launch} {e : Env} {s : State} {m : MethodId} {args : Array Value} {below : List Frame} {meth : Method} {c : Code} {b0 : Nat} {cA : Nat → ClassId} {D : va_G} {L : List (Nat × Nat)} (nn : Nat) (hC : zC p c s m args meth cX7_feels 13 (none) (Cond.code yX7_feels cX7_feels 13 (none)) yX7_feels.cls cA D) (k243 : Nat → Nat → Int32 → Nat → Nat → Nat → Int32 → Int32 → Int32 → Int32 → zS → Option (Unit × zS)) (h243 : ∀ (v0 : Nat) (v1 : Nat) (v2 : Int32) (v3 : Nat) (v4 : Nat) (v5 : Nat) (v7 : Int32) (v8 : Int32) (v9 : Int32) (v10 : Int32) (σ : zS) (ls : Array Slot), L[v0]? = some (0, 7) → L[v1]? = some (1, nn) → L[v3]? = some (1, 24) → L[v4]? = some (1, 24) → L[v5]? = some (1, 24) → lv_has ls 13 [(0, .ref (b0 + v0)), (1, .ref (b0 + v1)), (2, .int v2), (3, .ref (b0 + v3)), (4, .ref (b0 + v4)), (5, .ref (b0 + v5)), (7, .int v7), (8, .int v8), (9, .int v9), (10, .int v10)] → zJ p l e rmX7_feels s m args below meth c b0 cA D L (fun z => MQ below (va_Qv (fun (u : zS) => ((), u) = z) (zB b0 cA D L) (zA b0 L)) args s 0 0 (zA b0 L)) (k243 v0 v1 v2 v3 v4 v5 v7 v8 v9 v10 σ) σ 243 ls []) (v0 : Nat) (v1 : Nat) (v2 : Int32) (v3 : Nat) (v4 : Nat) (v5 : Nat) (v7 : Int32) (v8 : Int32) (v9 : Int32) (v10 : Int32) (v11 : Int32) (v12 : Int32) (s0 : Nat) (s1 : Int32) (s2 : Int32) (s3 : Int32) (σ : zS) (ls : Array Slot) (hk_v0 : L[v0]? = some (0, 7)) (hk_v1 : L[v1]? = some (1, nn)) (hk_v3 : L[v3]? = some (1, 24)) (hk_v4 : L[v4]? = some (1, 24)) (hk_v5 : L[v5]? = some (1, 24)) (hb_v11 : nB v11) (hk_s0 : L[s0]? = some (1, 12)) (hb_s3 : nB s3) (hl : lv_has ls 13 [(0, .ref (b0 + v0)), (1, .ref (b0 + v1)), (2, .int v2), (3, .ref (b0 + v3)), (4, .ref (b0 + v4)), (5, .ref (b0 + v5)), (7, .int v7), (8, .int v8), (9, .int v9), (10, .int v10), (11, .int v11), (12, .int v12)]) : zJ p l e rmX7_feels s m args below meth c b0 cA D L (fun z => MQ below (va_Qv (fun (u : zS) => ((), u) = z) (zB b0 cA D L) (zA b0 L)) args s 0 0 (zA b0 L)) (bX7_feels_170 nn k243 v0 v1 v2 v3 v4 v5 v7 v8 v9 v10 v11 v12 s0 s1 s2 s3 σ) σ 170 ls [.int s3, .int s2, .int s1, .ref (b0 + s0)] := by
  unfold bX7_feels_170
  refine zj_iadd (pc' := 171) hC dX7_feels_170 rfl ?_
  refine zj_iast (pc' := 172) hC hk_s0 dX7_feels_171 rfl (fun g36 σ37 => ?_)
  refine zj_aload_n (pc' := 173) hC dX7_feels_172 rfl rfl (lv_at hl 0 rfl) ?_
  refine zj_getR (pc' := 176) hC hk_v0 fd_7_31 rfl tw_4_79 dX7_feels_173 rfl (fun q38 hk_q38 => ?_)
  refine zj_iconst (pc' := 177) (v := (4 : Int32)) hC dX7_feels_176 rfl rfl ?_
  refine zj_aload_n (pc' := 178) hC dX7_feels_177 rfl rfl (lv_at hl 0 rfl) ?_
  refine zj_getR (pc' := 181) hC hk_v0 fd_7_31 rfl tw_4_79 dX7_feels_178 rfl (fun q39 hk_q39 => ?_)
  refine zj_iconst (pc' := 182) (v := (4 : Int32)) hC dX7_feels_181 rfl rfl ?_
  refine zj_iald (pc' := 183) hC hk_q39 dX7_feels_182 rfl (fun g40 => ?_)
  refine zj_iload (pc' := 185) hC dX7_feels_183 rfl (lv_at hl 11 rfl) ?_
  refine zj_iconst (pc' := 186) (v := (2 : Int32)) hC dX7_feels_185 rfl rfl ?_
  refine zj_icmp_ne (tgt := 193) (pc' := 189) hC dX7_feels_186 (by decide) rfl (fun c41 => ?_) (fun c41 => ?_)
  · refine zj_iconst (pc' := 194) (v := (0 : Int32)) hC dX7_feels_193 rfl rfl ?_
    exact jX7_feels_194 nn hC k243 h243 v0 v1 v2 v3 v4 v5 v7 v8 v9 v10 v11 q38 (4 : Int32) ((σ37.1 q39 ((4 : Int32)).toNatClampNeg)) (0 : Int32) σ37 ls hk_v0 hk_v1 hk_v3 hk_v4 hk_v5 hb_v11 hk_q38 nB_0 (lv_sub hl [0, 1, 2, 3, 4, 5, 6, 7, 8, 9, 10] rfl)
  · refine zj_iconst (pc' := 190) (v := (1 : Int32)) hC dX7_feels_189 rfl rfl ?_
    refine zj_goto (tgt := 194) hC dX7_feels_190 (by decide) ?_
    exact jX7_feels_194 nn hC k243 h243 v0 v1 v2 v3 v4 v5 v7 v8 v9 v10 v11 q38 (4 : Int32) ((σ37.1 q39 ((4 : Int32)).toNatClampNeg)) (1 : Int32) σ37 ls hk_v0 hk_v1 hk_v3 hk_v4 hk_v5 hb_v11 hk_q38 nB_1 (lv_sub hl [0, 1, 2, 3, 4, 5, 6, 7, 8, 9, 10] rfl)
set_option maxRecDepth 100000 in
set_option maxHeartbeats 4000000 in
theorem jX7_feels_146 {p : Program} {l : Launch} {e : Env} {s : State} {m : MethodId} {args : Array Value} {below : List Frame} {meth : Method} {c : Code} {b0 : Nat} {cA : Nat → ClassId} {D : va_G} {L : List (Nat × Nat)} (nn : Nat) (hC : zC p c s m args meth cX7_feels 13 (none) (Cond.code yX7_feels cX7_feels 13 (none)) yX7_feels.cls cA D) (k243 : Nat → Nat → Int32 → Nat → Nat → Nat → Int32 → Int32 → Int32 → Int32 → zS → Option (Unit × zS)) (h243 : ∀ (v0 : Nat) (v1 : Nat) (v2 : Int32) (v3 : Nat) (v4 : Nat) (v5 : Nat) (v7 : Int32) (v8 : Int32) (v9 : Int32) (v10 : Int32) (σ : zS) (ls : Array Slot), L[v0]? = some (0, 7) → L[v1]? = some (1, nn) → L[v3]? = some (1, 24) → L[v4]? = some (1, 24) → L[v5]? = some (1, 24) → lv_has ls 13 [(0, .ref (b0 + v0)), (1, .ref (b0 + v1)), (2, .int v2), (3, .ref (b0 + v3)), (4, .ref (b0 + v4)), (5, .ref (b0 + v5)), (7, .int v7), (8, .int v8), (9, .int v9), (10, .int v10)] → zJ p l e rmX7_feels s m args below meth c b0 cA D L (fun z => MQ below (va_Qv (fun (u : zS) => ((), u) = z) (zB b0 cA D L) (zA b0 L)) args s 0 0 (zA b0 L)) (k243 v0 v1 v2 v3 v4 v5 v7 v8 v9 v10 σ) σ 243 ls []) (v0 : Nat) (v1 : Nat) (v2 : Int32) (v3 : Nat) (v4 : Nat) (v5 : Nat) (v7 : Int32) (v8 : Int32) (v9 : Int32) (v10 : Int32) (v11 : Int32) (v12 : Int32) (s0 : Nat) (s1 : Int32) (s2 : Int32) (s3 : Int32) (σ : zS) (ls : Array Slot) (hk_v0 : L[v0]? = some (0, 7)) (hk_v1 : L[v1]? = some (1, nn)) (hk_v3 : L[v3]? = some (1, 24)) (hk_v4 : L[v4]? = some (1, 24)) (hk_v5 : L[v5]? = some (1, 24)) (hb_v11 : nB v11) (hk_s0 : L[s0]? = some (1, 12)) (hb_s3 : nB s3) (hl : lv_has ls 13 [(0, .ref (b0 + v0)), (1, .ref (b0 + v1)), (2, .int v2), (3, .ref (b0 + v3)), (4, .ref (b0 + v4)), (5, .ref (b0 + v5)), (7, .int v7), (8, .int v8), (9, .int v9), (10, .int v10), (11, .int v11), (12, .int v12)]) : zJ p l e rmX7_feels s m args below meth c b0 cA D L (fun z => MQ below (va_Qv (fun (u : zS) => ((), u) = z) (zB b0 cA D L) (zA b0 L)) args s 0 0 (zA b0 L)) (bX7_feels_146 nn k243 v0 v1 v2 v3 v4 v5 v7 v8 v9 v10 v11 v12 s0 s1 s2 s3 σ) σ 146 ls [.int s3, .int s2, .int s1, .ref (b0 + s0)] := by
  unfold bX7_feels_146
  refine zj_iadd (pc' := 147) hC dX7_feels_146 rfl ?_
  refine zj_iast (pc' := 148) hC hk_s0 dX7_feels_147 rfl (fun g42 σ43 => ?_)
  refine zj_aload_n (pc' := 149) hC dX7_feels_148 rfl rfl (lv_at hl 0 rfl) ?_
  refine zj_getR (pc' := 152) hC hk_v0 fd_7_31 rfl tw_4_79 dX7_feels_149 rfl (fun q44 hk_q44 => ?_)
  refine zj_iconst (pc' := 153) (v := (3 : Int32)) hC dX7_feels_152 rfl rfl ?_
  refine zj_aload_n (pc' := 154) hC dX7_feels_153 rfl rfl (lv_at hl 0 rfl) ?_
  refine zj_getR (pc' := 157) hC hk_v0 fd_7_31 rfl tw_4_79 dX7_feels_154 rfl (fun q45 hk_q45 => ?_)
  refine zj_iconst (pc' := 158) (v := (3 : Int32)) hC dX7_feels_157 rfl rfl ?_
  refine zj_iald (pc' := 159) hC hk_q45 dX7_feels_158 rfl (fun g46 => ?_)
  refine zj_iload (pc' := 161) hC dX7_feels_159 rfl (lv_at hl 11 rfl) ?_
  refine zj_iconst (pc' := 162) (v := (1 : Int32)) hC dX7_feels_161 rfl rfl ?_
  refine zj_icmp_ne (tgt := 169) (pc' := 165) hC dX7_feels_162 (by decide) rfl (fun c47 => ?_) (fun c47 => ?_)
  · refine zj_iconst (pc' := 170) (v := (0 : Int32)) hC dX7_feels_169 rfl rfl ?_
    exact jX7_feels_170 nn hC k243 h243 v0 v1 v2 v3 v4 v5 v7 v8 v9 v10 v11 v12 q44 (3 : Int32) ((σ43.1 q45 ((3 : Int32)).toNatClampNeg)) (0 : Int32) σ43 ls hk_v0 hk_v1 hk_v3 hk_v4 hk_v5 hb_v11 hk_q44 nB_0 (lv_sub hl [0, 1, 2, 3, 4, 5, 6, 7, 8, 9, 10, 11] rfl)
  · refine zj_iconst (pc' := 166) (v := (1 : Int32)) hC dX7_feels_165 rfl rfl ?_
    refine zj_goto (tgt := 170) hC dX7_feels_166 (by decide) ?_
    exact jX7_feels_170 nn hC k243 h243 v0 v1 v2 v3 v4 v5 v7 v8 v9 v10 v11 v12 q44 (3 : Int32) ((σ43.1 q45 ((3 : Int32)).toNatClampNeg)) (1 : Int32) σ43 ls hk_v0 hk_v1 hk_v3 hk_v4 hk_v5 hb_v11 hk_q44 nB_1 (lv_sub hl [0, 1, 2, 3, 4, 5, 6, 7, 8, 9, 10, 11] rfl)
set_option maxRecDepth 100000 in
set_option maxHeartbeats 4000000 in
theorem jX7_feels_145 {p : Program} {l : Launch} {e : Env} {s : State} {m : MethodId} {args : Array Value} {below : List Frame} {meth : Method} {c : Code} {b0 : Nat} {cA : Nat → ClassId} {D : va_G} {L : List (Nat × Nat)} (nn : Nat) (hC : zC p c s m args meth cX7_feels 13 (none) (Cond.code yX7_feels cX7_feels 13 (none)) yX7_feels.cls cA D) (k146 : Nat → Nat → Int32 → Nat → Nat → Nat → Int32 → Int32 → Int32 → Int32 → Int32 → Int32 → Nat → Int32 → Int32 → Int32 → zS → Option (Unit × zS)) (h146 : ∀ (v0 : Nat) (v1 : Nat) (v2 : Int32) (v3 : Nat) (v4 : Nat) (v5 : Nat) (v7 : Int32) (v8 : Int32) (v9 : Int32) (v10 : Int32) (v11 : Int32) (v12 : Int32) (s0 : Nat) (s1 : Int32) (s2 : Int32) (s3 : Int32) (σ : zS) (ls : Array Slot), L[v0]? = some (0, 7) → L[v1]? = some (1, nn) → L[v3]? = some (1, 24) → L[v4]? = some (1, 24) → L[v5]? = some (1, 24) → nB v11 → L[s0]? = some (1, 12) → nB s3 → lv_has ls 13 [(0, .ref (b0 + v0)), (1, .ref (b0 + v1)), (2, .int v2), (3, .ref (b0 + v3)), (4, .ref (b0 + v4)), (5, .ref (b0 + v5)), (7, .int v7), (8, .int v8), (9, .int v9), (10, .int v10), (11, .int v11), (12, .int v12)] → zJ p l e rmX7_feels s m args below meth c b0 cA D L (fun z => MQ below (va_Qv (fun (u : zS) => ((), u) = z) (zB b0 cA D L) (zA b0 L)) args s 0 0 (zA b0 L)) (k146 v0 v1 v2 v3 v4 v5 v7 v8 v9 v10 v11 v12 s0 s1 s2 s3 σ) σ 146 ls [.int s3, .int s2, .int s1, .ref (b0 + s0)]) (v0 : Nat) (v1 : Nat) (v2 : Int32) (v3 : Nat) (v4 : Nat) (v5 : Nat) (v7 : Int32) (v8 : Int32) (v9 : Int32) (v10 : Int32) (v11 : Int32) (v12 : Int32) (s0 : Nat) (s1 : Int32) (s2 : Int32) (σ : zS) (ls : Array Slot) (hk_v0 : L[v0]? = some (0, 7)) (hk_v1 : L[v1]? = some (1, nn)) (hk_v3 : L[v3]? = some (1, 24)) (hk_v4 : L[v4]? = some (1, 24)) (hk_v5 : L[v5]? = some (1, 24)) (hb_v11 : nB v11) (hk_s0 : L[s0]? = some (1, 12)) (hl : lv_has ls 13 [(0, .ref (b0 + v0)), (1, .ref (b0 + v1)), (2, .int v2), (3, .ref (b0 + v3)), (4, .ref (b0 + v4)), (5, .ref (b0 + v5)), (7, .int v7), (8, .int v8), (9, .int v9), (10, .int v10), (11, .int v11), (12, .int v12)]) : zJ p l e rmX7_feels s m args below meth c b0 cA D L (fun z => MQ below (va_Qv (fun (u : zS) => ((), u) = z) (zB b0 cA D L) (zA b0 L)) args s 0 0 (zA b0 L)) (bX7_feels_145 nn k146 v0 v1 v2 v3 v4 v5 v7 v8 v9 v10 v11 v12 s0 s1 s2 σ) σ 145 ls [.int s2, .int s1, .ref (b0 + s0)] := by
  unfold bX7_feels_145
  refine zj_iconst (pc' := 146) (v := (0 : Int32)) hC dX7_feels_145 rfl rfl ?_
  exact h146 v0 v1 v2 v3 v4 v5 v7 v8 v9 v10 v11 v12 s0 s1 s2 (0 : Int32) σ ls hk_v0 hk_v1 hk_v3 hk_v4 hk_v5 hb_v11 hk_s0 nB_0 (lv_sub hl [0, 1, 2, 3, 4, 5, 6, 7, 8, 9, 10, 11] rfl)
set_option maxRecDepth 100000 in
set_option maxHeartbeats 4000000 in
theorem jX7_feels_117 {p : Program} {l : Launch} {e : Env} {s : State} {m : MethodId} {args : Array Value} {below : List Frame} {meth : Method} {c : Code} {b0 : Nat} {cA : Nat → ClassId} {D : va_G} {L : List (Nat × Nat)} (nn : Nat) (hC : zC p c s m args meth cX7_feels 13 (none) (Cond.code yX7_feels cX7_feels 13 (none)) yX7_feels.cls cA D) (k243 : Nat → Nat → Int32 → Nat → Nat → Nat → Int32 → Int32 → Int32 → Int32 → zS → Option (Unit × zS)) (h243 : ∀ (v0 : Nat) (v1 : Nat) (v2 : Int32) (v3 : Nat) (v4 : Nat) (v5 : Nat) (v7 : Int32) (v8 : Int32) (v9 : Int32) (v10 : Int32) (σ : zS) (ls : Array Slot), L[v0]? = some (0, 7) → L[v1]? = some (1, nn) → L[v3]? = some (1, 24) → L[v4]? = some (1, 24) → L[v5]? = some (1, 24) → lv_has ls 13 [(0, .ref (b0 + v0)), (1, .ref (b0 + v1)), (2, .int v2), (3, .ref (b0 + v3)), (4, .ref (b0 + v4)), (5, .ref (b0 + v5)), (7, .int v7), (8, .int v8), (9, .int v9), (10, .int v10)] → zJ p l e rmX7_feels s m args below meth c b0 cA D L (fun z => MQ below (va_Qv (fun (u : zS) => ((), u) = z) (zB b0 cA D L) (zA b0 L)) args s 0 0 (zA b0 L)) (k243 v0 v1 v2 v3 v4 v5 v7 v8 v9 v10 σ) σ 243 ls []) (v0 : Nat) (v1 : Nat) (v2 : Int32) (v3 : Nat) (v4 : Nat) (v5 : Nat) (v7 : Int32) (v8 : Int32) (v9 : Int32) (v10 : Int32) (v11 : Int32) (v12 : Int32) (s0 : Nat) (s1 : Int32) (s2 : Int32) (s3 : Int32) (σ : zS) (ls : Array Slot) (hk_v0 : L[v0]? = some (0, 7)) (hk_v1 : L[v1]? = some (1, nn)) (hk_v3 : L[v3]? = some (1, 24)) (hk_v4 : L[v4]? = some (1, 24)) (hk_v5 : L[v5]? = some (1, 24)) (hb_v11 : nB v11) (hk_s0 : L[s0]? = some (1, 12)) (hb_s1 : nB s1) (hb_s3 : nB s3) (hl : lv_has ls 13 [(0, .ref (b0 + v0)), (1, .ref (b0 + v1)), (2, .int v2), (3, .ref (b0 + v3)), (4, .ref (b0 + v4)), (5, .ref (b0 + v5)), (7, .int v7), (8, .int v8), (9, .int v9), (10, .int v10), (11, .int v11), (12, .int v12)]) : zJ p l e rmX7_feels s m args below meth c b0 cA D L (fun z => MQ below (va_Qv (fun (u : zS) => ((), u) = z) (zB b0 cA D L) (zA b0 L)) args s 0 0 (zA b0 L)) (bX7_feels_117 nn k243 v0 v1 v2 v3 v4 v5 v7 v8 v9 v10 v11 v12 s0 s1 s2 s3 σ) σ 117 ls [.int s3, .int s2, .int s1, .ref (b0 + s0)] := by
  unfold bX7_feels_117
  refine zj_iadd (pc' := 118) hC dX7_feels_117 rfl ?_
  refine zj_iast (pc' := 119) hC hk_s0 dX7_feels_118 rfl (fun g48 σ49 => ?_)
  refine zj_aload_n (pc' := 120) hC dX7_feels_119 rfl rfl (lv_at hl 0 rfl) ?_
  refine zj_getR (pc' := 123) hC hk_v0 fd_7_31 rfl tw_4_79 dX7_feels_120 rfl (fun q50 hk_q50 => ?_)
  refine zj_iconst (pc' := 124) (v := (2 : Int32)) hC dX7_feels_123 rfl rfl ?_
  refine zj_aload_n (pc' := 125) hC dX7_feels_124 rfl rfl (lv_at hl 0 rfl) ?_
  refine zj_getR (pc' := 128) hC hk_v0 fd_7_31 rfl tw_4_79 dX7_feels_125 rfl (fun q51 hk_q51 => ?_)
  refine zj_iconst (pc' := 129) (v := (2 : Int32)) hC dX7_feels_128 rfl rfl ?_
  refine zj_iald (pc' := 130) hC hk_q51 dX7_feels_129 rfl (fun g52 => ?_)
  refine zj_iload (pc' := 132) hC dX7_feels_130 rfl (lv_at hl 10 rfl) ?_
  refine zj_if_eq (tgt := 145) (pc' := 135) hC dX7_feels_132 (by decide) rfl (fun c53 => ?_) (fun c53 => ?_)
  · exact jX7_feels_145 nn hC (bX7_feels_146 nn k243) (jX7_feels_146 nn hC k243 h243) v0 v1 v2 v3 v4 v5 v7 v8 v9 v10 v11 v12 q50 (2 : Int32) ((σ49.1 q51 ((2 : Int32)).toNatClampNeg)) σ49 ls hk_v0 hk_v1 hk_v3 hk_v4 hk_v5 hb_v11 hk_q50 (lv_sub hl [0, 1, 2, 3, 4, 5, 6, 7, 8, 9, 10, 11] rfl)
  · refine zj_iload (pc' := 137) hC dX7_feels_135 rfl (lv_at hl 11 rfl) ?_
    refine zj_iconst (pc' := 138) (v := (2 : Int32)) hC dX7_feels_137 rfl rfl ?_
    refine zj_icmp_ne (tgt := 145) (pc' := 141) hC dX7_feels_138 (by decide) rfl (fun c54 => ?_) (fun c54 => ?_)
    · exact jX7_feels_145 nn hC (bX7_feels_146 nn k243) (jX7_feels_146 nn hC k243 h243) v0 v1 v2 v3 v4 v5 v7 v8 v9 v10 v11 v12 q50 (2 : Int32) ((σ49.1 q51 ((2 : Int32)).toNatClampNeg)) σ49 ls hk_v0 hk_v1 hk_v3 hk_v4 hk_v5 hb_v11 hk_q50 (lv_sub hl [0, 1, 2, 3, 4, 5, 6, 7, 8, 9, 10, 11] rfl)
    · refine zj_iconst (pc' := 142) (v := (1 : Int32)) hC dX7_feels_141 rfl rfl ?_
      refine zj_goto (tgt := 146) hC dX7_feels_142 (by decide) ?_
      exact jX7_feels_146 nn hC k243 h243 v0 v1 v2 v3 v4 v5 v7 v8 v9 v10 v11 v12 q50 (2 : Int32) ((σ49.1 q51 ((2 : Int32)).toNatClampNeg)) (1 : Int32) σ49 ls hk_v0 hk_v1 hk_v3 hk_v4 hk_v5 hb_v11 hk_q50 nB_1 (lv_sub hl [0, 1, 2, 3, 4, 5, 6, 7, 8, 9, 10, 11] rfl)
set_option maxRecDepth 100000 in
set_option maxHeartbeats 4000000 in
theorem jX7_feels_116 {p : Program} {l : Launch} {e : Env} {s : State} {m : MethodId} {args : Array Value} {below : List Frame} {meth : Method} {c : Code} {b0 : Nat} {cA : Nat → ClassId} {D : va_G} {L : List (Nat × Nat)} (nn : Nat) (hC : zC p c s m args meth cX7_feels 13 (none) (Cond.code yX7_feels cX7_feels 13 (none)) yX7_feels.cls cA D) (k117 : Nat → Nat → Int32 → Nat → Nat → Nat → Int32 → Int32 → Int32 → Int32 → Int32 → Int32 → Nat → Int32 → Int32 → Int32 → zS → Option (Unit × zS)) (h117 : ∀ (v0 : Nat) (v1 : Nat) (v2 : Int32) (v3 : Nat) (v4 : Nat) (v5 : Nat) (v7 : Int32) (v8 : Int32) (v9 : Int32) (v10 : Int32) (v11 : Int32) (v12 : Int32) (s0 : Nat) (s1 : Int32) (s2 : Int32) (s3 : Int32) (σ : zS) (ls : Array Slot), L[v0]? = some (0, 7) → L[v1]? = some (1, nn) → L[v3]? = some (1, 24) → L[v4]? = some (1, 24) → L[v5]? = some (1, 24) → nB v11 → L[s0]? = some (1, 12) → nB s1 → nB s3 → lv_has ls 13 [(0, .ref (b0 + v0)), (1, .ref (b0 + v1)), (2, .int v2), (3, .ref (b0 + v3)), (4, .ref (b0 + v4)), (5, .ref (b0 + v5)), (7, .int v7), (8, .int v8), (9, .int v9), (10, .int v10), (11, .int v11), (12, .int v12)] → zJ p l e rmX7_feels s m args below meth c b0 cA D L (fun z => MQ below (va_Qv (fun (u : zS) => ((), u) = z) (zB b0 cA D L) (zA b0 L)) args s 0 0 (zA b0 L)) (k117 v0 v1 v2 v3 v4 v5 v7 v8 v9 v10 v11 v12 s0 s1 s2 s3 σ) σ 117 ls [.int s3, .int s2, .int s1, .ref (b0 + s0)]) (v0 : Nat) (v1 : Nat) (v2 : Int32) (v3 : Nat) (v4 : Nat) (v5 : Nat) (v7 : Int32) (v8 : Int32) (v9 : Int32) (v10 : Int32) (v11 : Int32) (v12 : Int32) (s0 : Nat) (s1 : Int32) (s2 : Int32) (σ : zS) (ls : Array Slot) (hk_v0 : L[v0]? = some (0, 7)) (hk_v1 : L[v1]? = some (1, nn)) (hk_v3 : L[v3]? = some (1, 24)) (hk_v4 : L[v4]? = some (1, 24)) (hk_v5 : L[v5]? = some (1, 24)) (hb_v11 : nB v11) (hk_s0 : L[s0]? = some (1, 12)) (hb_s1 : nB s1) (hl : lv_has ls 13 [(0, .ref (b0 + v0)), (1, .ref (b0 + v1)), (2, .int v2), (3, .ref (b0 + v3)), (4, .ref (b0 + v4)), (5, .ref (b0 + v5)), (7, .int v7), (8, .int v8), (9, .int v9), (10, .int v10), (11, .int v11), (12, .int v12)]) : zJ p l e rmX7_feels s m args below meth c b0 cA D L (fun z => MQ below (va_Qv (fun (u : zS) => ((), u) = z) (zB b0 cA D L) (zA b0 L)) args s 0 0 (zA b0 L)) (bX7_feels_116 nn k117 v0 v1 v2 v3 v4 v5 v7 v8 v9 v10 v11 v12 s0 s1 s2 σ) σ 116 ls [.int s2, .int s1, .ref (b0 + s0)] := by
  unfold bX7_feels_116
  refine zj_iconst (pc' := 117) (v := (0 : Int32)) hC dX7_feels_116 rfl rfl ?_
  exact h117 v0 v1 v2 v3 v4 v5 v7 v8 v9 v10 v11 v12 s0 s1 s2 (0 : Int32) σ ls hk_v0 hk_v1 hk_v3 hk_v4 hk_v5 hb_v11 hk_s0 hb_s1 nB_0 (lv_sub hl [0, 1, 2, 3, 4, 5, 6, 7, 8, 9, 10, 11] rfl)
set_option maxRecDepth 100000 in
set_option maxHeartbeats 4000000 in
theorem jX7_feels_88 {p : Program} {l : Launch} {e : Env} {s : State} {m : MethodId} {args : Array Value} {below : List Frame} {meth : Method} {c : Code} {b0 : Nat} {cA : Nat → ClassId} {D : va_G} {L : List (Nat × Nat)} (nn : Nat) (hC : zC p c s m args meth cX7_feels 13 (none) (Cond.code yX7_feels cX7_feels 13 (none)) yX7_feels.cls cA D) (k243 : Nat → Nat → Int32 → Nat → Nat → Nat → Int32 → Int32 → Int32 → Int32 → zS → Option (Unit × zS)) (h243 : ∀ (v0 : Nat) (v1 : Nat) (v2 : Int32) (v3 : Nat) (v4 : Nat) (v5 : Nat) (v7 : Int32) (v8 : Int32) (v9 : Int32) (v10 : Int32) (σ : zS) (ls : Array Slot), L[v0]? = some (0, 7) → L[v1]? = some (1, nn) → L[v3]? = some (1, 24) → L[v4]? = some (1, 24) → L[v5]? = some (1, 24) → lv_has ls 13 [(0, .ref (b0 + v0)), (1, .ref (b0 + v1)), (2, .int v2), (3, .ref (b0 + v3)), (4, .ref (b0 + v4)), (5, .ref (b0 + v5)), (7, .int v7), (8, .int v8), (9, .int v9), (10, .int v10)] → zJ p l e rmX7_feels s m args below meth c b0 cA D L (fun z => MQ below (va_Qv (fun (u : zS) => ((), u) = z) (zB b0 cA D L) (zA b0 L)) args s 0 0 (zA b0 L)) (k243 v0 v1 v2 v3 v4 v5 v7 v8 v9 v10 σ) σ 243 ls []) (v0 : Nat) (v1 : Nat) (v2 : Int32) (v3 : Nat) (v4 : Nat) (v5 : Nat) (v7 : Int32) (v8 : Int32) (v9 : Int32) (v10 : Int32) (v11 : Int32) (s0 : Int32) (σ : zS) (ls : Array Slot) (hk_v0 : L[v0]? = some (0, 7)) (hk_v1 : L[v1]? = some (1, nn)) (hk_v3 : L[v3]? = some (1, 24)) (hk_v4 : L[v4]? = some (1, 24)) (hk_v5 : L[v5]? = some (1, 24)) (hb_v11 : nB v11) (hl : lv_has ls 13 [(0, .ref (b0 + v0)), (1, .ref (b0 + v1)), (2, .int v2), (3, .ref (b0 + v3)), (4, .ref (b0 + v4)), (5, .ref (b0 + v5)), (7, .int v7), (8, .int v8), (9, .int v9), (10, .int v10), (11, .int v11)]) : zJ p l e rmX7_feels s m args below meth c b0 cA D L (fun z => MQ below (va_Qv (fun (u : zS) => ((), u) = z) (zB b0 cA D L) (zA b0 L)) args s 0 0 (zA b0 L)) (bX7_feels_88 nn k243 v0 v1 v2 v3 v4 v5 v7 v8 v9 v10 v11 s0 σ) σ 88 ls [.int s0] := by
  unfold bX7_feels_88
  refine zj_istore (pc' := 90) (lv' := [(12, .int s0), (0, .ref (b0 + v0)), (1, .ref (b0 + v1)), (2, .int v2), (3, .ref (b0 + v3)), (4, .ref (b0 + v4)), (5, .ref (b0 + v5)), (7, .int v7), (8, .int v8), (9, .int v9), (10, .int v10), (11, .int v11)]) hC dX7_feels_88 rfl hl (by decide) rfl (fun ls hl => ?_)
  refine zj_aload_n (pc' := 91) hC dX7_feels_90 rfl rfl (lv_at hl 1 rfl) ?_
  refine zj_getR (pc' := 94) hC hk_v0 fd_7_31 rfl tw_4_79 dX7_feels_91 rfl (fun q55 hk_q55 => ?_)
  refine zj_iconst (pc' := 95) (v := (1 : Int32)) hC dX7_feels_94 rfl rfl ?_
  refine zj_aload_n (pc' := 96) hC dX7_feels_95 rfl rfl (lv_at hl 1 rfl) ?_
  refine zj_getR (pc' := 99) hC hk_v0 fd_7_31 rfl tw_4_79 dX7_feels_96 rfl (fun q56 hk_q56 => ?_)
  refine zj_iconst (pc' := 100) (v := (1 : Int32)) hC dX7_feels_99 rfl rfl ?_
  refine zj_iald (pc' := 101) hC hk_q56 dX7_feels_100 rfl (fun g57 => ?_)
  refine zj_iload (pc' := 103) hC dX7_feels_101 rfl (lv_at hl 11 rfl) ?_
  refine zj_if_eq (tgt := 116) (pc' := 106) hC dX7_feels_103 (by decide) rfl (fun c58 => ?_) (fun c58 => ?_)
  · exact jX7_feels_116 nn hC (bX7_feels_117 nn k243) (jX7_feels_117 nn hC k243 h243) v0 v1 v2 v3 v4 v5 v7 v8 v9 v10 v11 s0 q55 (1 : Int32) ((σ.1 q56 ((1 : Int32)).toNatClampNeg)) σ ls hk_v0 hk_v1 hk_v3 hk_v4 hk_v5 hb_v11 hk_q55 nB_1 (lv_sub hl [1, 2, 3, 4, 5, 6, 7, 8, 9, 10, 11, 0] rfl)
  · refine zj_iload (pc' := 108) hC dX7_feels_106 rfl (lv_at hl 0 rfl) ?_
    refine zj_iconst (pc' := 109) (v := (1 : Int32)) hC dX7_feels_108 rfl rfl ?_
    refine zj_icmp_ne (tgt := 116) (pc' := 112) hC dX7_feels_109 (by decide) rfl (fun c59 => ?_) (fun c59 => ?_)
    · exact jX7_feels_116 nn hC (bX7_feels_117 nn k243) (jX7_feels_117 nn hC k243 h243) v0 v1 v2 v3 v4 v5 v7 v8 v9 v10 v11 s0 q55 (1 : Int32) ((σ.1 q56 ((1 : Int32)).toNatClampNeg)) σ ls hk_v0 hk_v1 hk_v3 hk_v4 hk_v5 hb_v11 hk_q55 nB_1 (lv_sub hl [1, 2, 3, 4, 5, 6, 7, 8, 9, 10, 11, 0] rfl)
    · refine zj_iconst (pc' := 113) (v := (1 : Int32)) hC dX7_feels_112 rfl rfl ?_
      refine zj_goto (tgt := 117) hC dX7_feels_113 (by decide) ?_
      exact jX7_feels_117 nn hC k243 h243 v0 v1 v2 v3 v4 v5 v7 v8 v9 v10 v11 s0 q55 (1 : Int32) ((σ.1 q56 ((1 : Int32)).toNatClampNeg)) (1 : Int32) σ ls hk_v0 hk_v1 hk_v3 hk_v4 hk_v5 hb_v11 hk_q55 nB_1 nB_1 (lv_sub hl [1, 2, 3, 4, 5, 6, 7, 8, 9, 10, 11, 0] rfl)
set_option maxRecDepth 100000 in
set_option maxHeartbeats 4000000 in
theorem jX7_feels_35 {p : Program} {l : Launch} {e : Env} {s : State} {m : MethodId} {args : Array Value} {below : List Frame} {meth : Method} {c : Code} {b0 : Nat} {cA : Nat → ClassId} {D : va_G} {L : List (Nat × Nat)} (nn : Nat) (hC : zC p c s m args meth cX7_feels 13 (none) (Cond.code yX7_feels cX7_feels 13 (none)) yX7_feels.cls cA D) (k35 : Nat → Nat → Int32 → Nat → Nat → Nat → Int32 → Int32 → Int32 → Int32 → zS → Option (Unit × zS)) (h35 : ∀ (v0 : Nat) (v1 : Nat) (v2 : Int32) (v3 : Nat) (v4 : Nat) (v5 : Nat) (v7 : Int32) (v8 : Int32) (v9 : Int32) (v10 : Int32) (σ : zS) (ls : Array Slot), L[v0]? = some (0, 7) → L[v1]? = some (1, nn) → L[v3]? = some (1, 24) → L[v4]? = some (1, 24) → L[v5]? = some (1, 24) → lv_has ls 13 [(0, .ref (b0 + v0)), (1, .ref (b0 + v1)), (2, .int v2), (3, .ref (b0 + v3)), (4, .ref (b0 + v4)), (5, .ref (b0 + v5)), (7, .int v7), (8, .int v8), (9, .int v9), (10, .int v10)] → zJ p l e rmX7_feels s m args below meth c b0 cA D L (fun z => MQ below (va_Qv (fun (u : zS) => ((), u) = z) (zB b0 cA D L) (zA b0 L)) args s 0 0 (zA b0 L)) (k35 v0 v1 v2 v3 v4 v5 v7 v8 v9 v10 σ) σ 35 ls []) (v0 : Nat) (v1 : Nat) (v2 : Int32) (v3 : Nat) (v4 : Nat) (v5 : Nat) (v7 : Int32) (v8 : Int32) (v9 : Int32) (v10 : Int32) (σ : zS) (ls : Array Slot) (hk_v0 : L[v0]? = some (0, 7)) (hk_v1 : L[v1]? = some (1, nn)) (hk_v3 : L[v3]? = some (1, 24)) (hk_v4 : L[v4]? = some (1, 24)) (hk_v5 : L[v5]? = some (1, 24)) (hl : lv_has ls 13 [(0, .ref (b0 + v0)), (1, .ref (b0 + v1)), (2, .int v2), (3, .ref (b0 + v3)), (4, .ref (b0 + v4)), (5, .ref (b0 + v5)), (7, .int v7), (8, .int v8), (9, .int v9), (10, .int v10)]) : zJ p l e rmX7_feels s m args below meth c b0 cA D L (fun z => MQ below (va_Qv (fun (u : zS) => ((), u) = z) (zB b0 cA D L) (zA b0 L)) args s 0 0 (zA b0 L)) (bX7_feels_35 nn k35 v0 v1 v2 v3 v4 v5 v7 v8 v9 v10 σ) σ 35 ls [] := by
  unfold bX7_feels_35
  refine zj_iload (pc' := 37) hC dX7_feels_35 rfl (lv_at hl 9 rfl) ?_
  refine zj_bipush (pc' := 39) (v := (24 : Int32)) hC dX7_feels_37 rfl rfl ?_
  refine zj_icmp_ge (tgt := 249) (pc' := 42) hC dX7_feels_39 (by decide) rfl (fun c60 => ?_) (fun c60 => ?_)
  · exact jX7_feels_249 nn hC v0 v1 v2 v5 v7 v8 v9 σ ls hk_v0 hk_v1 hk_v5 (lv_sub hl [0, 1, 2, 5, 6, 7, 8] rfl)
  · refine zj_aload_n (pc' := 43) hC dX7_feels_42 rfl rfl (lv_at hl 3 rfl) ?_
    refine zj_iload (pc' := 45) hC dX7_feels_43 rfl (lv_at hl 9 rfl) ?_
    refine zj_iald (pc' := 46) hC hk_v3 dX7_feels_45 rfl (fun g61 => ?_)
    refine zj_iconst (pc' := 47) (v := (-1 : Int32)) hC dX7_feels_46 rfl rfl ?_
    refine zj_icmp_ne (tgt := 53) (pc' := 50) hC dX7_feels_47 (by decide) rfl (fun c62 => ?_) (fun c62 => ?_)
    · refine zj_aload_n (pc' := 54) hC dX7_feels_53 rfl rfl (lv_at hl 0 rfl) ?_
      refine zj_iload (pc' := 56) hC dX7_feels_54 rfl (lv_at hl 7 rfl) ?_
      refine zj_iload (pc' := 58) hC dX7_feels_56 rfl (lv_at hl 9 rfl) ?_
      refine zj_iload (pc' := 60) hC dX7_feels_58 rfl (lv_at hl 6 rfl) ?_
      refine zj_callzV (pc' := 63) (rest := []) hC (kX7_areNeighbours l b0 cA D L v0 v8 v10 v7 σ hk_v0) hk_v0 rfl tw_5_130 tw_5_127 tw_5_129 ts_4_12 tw_1_8 ddX7_areNeighbours rfl ⟨rfl, rfl⟩ ⟨by decide, by decide⟩ hl.1 (Nat.le_of_ble_eq_true rfl) rfl dX7_feels_60 rfl (fun r64 σ63 hb_r64 => ?_)
      refine zj_istore (pc' := 65) (lv' := [(11, .int r64), (0, .ref (b0 + v0)), (1, .ref (b0 + v1)), (2, .int v2), (3, .ref (b0 + v3)), (4, .ref (b0 + v4)), (5, .ref (b0 + v5)), (7, .int v7), (8, .int v8), (9, .int v9), (10, .int v10)]) hC dX7_feels_63 rfl hl (by decide) rfl (fun ls hl => ?_)
      refine zj_iload (pc' := 67) hC dX7_feels_65 rfl (lv_at hl 9 rfl) ?_
      refine zj_if_ne (tgt := 74) (pc' := 70) hC dX7_feels_67 (by decide) rfl (fun c65 => ?_) (fun c65 => ?_)
      · refine zj_aload_n (pc' := 75) hC dX7_feels_74 rfl rfl (lv_at hl 2 rfl) ?_
        refine zj_iload_n (pc' := 76) hC dX7_feels_75 rfl rfl (lv_at hl 3 rfl) ?_
        refine zj_bipush (pc' := 78) (v := (24 : Int32)) hC dX7_feels_76 rfl rfl ?_
        refine zj_iload (pc' := 80) hC dX7_feels_78 rfl (lv_at hl 9 rfl) ?_
        refine zj_iconst (pc' := 81) (v := (1 : Int32)) hC dX7_feels_80 rfl rfl ?_
        refine zj_isub (pc' := 82) hC dX7_feels_81 rfl ?_
        refine zj_imul (pc' := 83) hC dX7_feels_82 rfl ?_
        refine zj_iadd (pc' := 84) hC dX7_feels_83 rfl ?_
        refine zj_iload (pc' := 86) hC dX7_feels_84 rfl (lv_at hl 10 rfl) ?_
        refine zj_iadd (pc' := 87) hC dX7_feels_86 rfl ?_
        refine zj_iald (pc' := 88) hC hk_v1 dX7_feels_87 rfl (fun g66 => ?_)
        refine zj_nmi (fun x67 => ?_)
        exact jX7_feels_88 nn hC (bX7_feels_243 nn k35) (jX7_feels_243 nn hC k35 h35) v0 v1 v2 v3 v4 v5 v7 v8 v9 v10 r64 x67 σ63 ls hk_v0 hk_v1 hk_v3 hk_v4 hk_v5 hb_r64 (lv_sub hl [1, 2, 3, 4, 5, 6, 7, 8, 9, 10, 0] rfl)
      · refine zj_iconst (pc' := 71) (v := (0 : Int32)) hC dX7_feels_70 rfl rfl ?_
        refine zj_goto (tgt := 88) hC dX7_feels_71 (by decide) ?_
        exact jX7_feels_88 nn hC (bX7_feels_243 nn k35) (jX7_feels_243 nn hC k35 h35) v0 v1 v2 v3 v4 v5 v7 v8 v9 v10 r64 (0 : Int32) σ63 ls hk_v0 hk_v1 hk_v3 hk_v4 hk_v5 hb_r64 (lv_sub hl [1, 2, 3, 4, 5, 6, 7, 8, 9, 10, 0] rfl)
    · refine zj_goto (tgt := 243) hC dX7_feels_50 (by decide) ?_
      exact jX7_feels_243 nn hC k35 h35 v0 v1 v2 v3 v4 v5 v7 v8 v9 v10 σ ls hk_v0 hk_v1 hk_v3 hk_v4 hk_v5 (lv_sub hl [0, 1, 2, 3, 4, 5, 6, 7, 8, 9] rfl)
set_option maxRecDepth 100000 in
set_option maxHeartbeats 4000000 in
theorem lX7_feels_35 {p : Program} {l : Launch} {e : Env} {s : State} {m : MethodId} {args : Array Value} {below : List Frame} {meth : Method} {c : Code} {b0 : Nat} {cA : Nat → ClassId} {D : va_G} {L : List (Nat × Nat)} (nn : Nat) (hC : zC p c s m args meth cX7_feels 13 (none) (Cond.code yX7_feels cX7_feels 13 (none)) yX7_feels.cls cA D)  (n : Nat) : ∀ (v0 : Nat) (v1 : Nat) (v2 : Int32) (v3 : Nat) (v4 : Nat) (v5 : Nat) (v7 : Int32) (v8 : Int32) (v9 : Int32) (v10 : Int32) (σ : zS) (ls : Array Slot), L[v0]? = some (0, 7) → L[v1]? = some (1, nn) → L[v3]? = some (1, 24) → L[v4]? = some (1, 24) → L[v5]? = some (1, 24) → lv_has ls 13 [(0, .ref (b0 + v0)), (1, .ref (b0 + v1)), (2, .int v2), (3, .ref (b0 + v3)), (4, .ref (b0 + v4)), (5, .ref (b0 + v5)), (7, .int v7), (8, .int v8), (9, .int v9), (10, .int v10)] → zJ p l e rmX7_feels s m args below meth c b0 cA D L (fun z => MQ below (va_Qv (fun (u : zS) => ((), u) = z) (zB b0 cA D L) (zA b0 L)) args s 0 0 (zA b0 L)) (fX7_feels_35 nn  n v0 v1 v2 v3 v4 v5 v7 v8 v9 v10 σ) σ 35 ls [] := by
  induction n with
  | zero => intros; exact zj_none
  | succ n ih => exact jX7_feels_35 nn hC (fX7_feels_35 nn  n) ih
set_option maxRecDepth 100000 in
set_option maxHeartbeats 4000000 in
theorem jX7_feels_24 {p : Program} {l : Launch} {e : Env} {s : State} {m : MethodId} {args : Array Value} {below : List Frame} {meth : Method} {c : Code} {b0 : Nat} {cA : Nat → ClassId} {D : va_G} {L : List (Nat × Nat)} (nn : Nat) (hC : zC p c s m args meth cX7_feels 13 (none) (Cond.code yX7_feels cX7_feels 13 (none)) yX7_feels.cls cA D)  (v0 : Nat) (v1 : Nat) (v2 : Int32) (v3 : Nat) (v4 : Nat) (v5 : Nat) (v6 : Int32) (v7 : Int32) (v8 : Int32) (v9 : Int32) (σ : zS) (ls : Array Slot) (hk_v0 : L[v0]? = some (0, 7)) (hk_v1 : L[v1]? = some (1, nn)) (hk_v3 : L[v3]? = some (1, 24)) (hk_v4 : L[v4]? = some (1, 24)) (hk_v5 : L[v5]? = some (1, 24)) (hl : lv_has ls 13 [(0, .ref (b0 + v0)), (1, .ref (b0 + v1)), (2, .int v2), (3, .ref (b0 + v3)), (4, .ref (b0 + v4)), (5, .ref (b0 + v5)), (6, .int v6), (7, .int v7), (8, .int v8), (9, .int v9)]) : zJ p l e rmX7_feels s m args below meth c b0 cA D L (fun z => MQ below (va_Qv (fun (u : zS) => ((), u) = z) (zB b0 cA D L) (zA b0 L)) args s 0 0 (zA b0 L)) (bX7_feels_24 nn  v0 v1 v2 v3 v4 v5 v6 v7 v8 v9 σ) σ 24 ls [] := by
  unfold bX7_feels_24
  refine zj_aload_n (pc' := 25) hC dX7_feels_24 rfl rfl (lv_at hl 0 rfl) ?_
  refine zj_getR (pc' := 28) hC hk_v0 fd_7_31 rfl tw_4_79 dX7_feels_25 rfl (fun q68 hk_q68 => ?_)
  refine zj_iconst (pc' := 29) (v := (0 : Int32)) hC dX7_feels_28 rfl rfl ?_
  refine zj_iload (pc' := 31) hC dX7_feels_29 rfl (lv_at hl 6 rfl) ?_
  refine zj_iast (pc' := 32) hC hk_q68 dX7_feels_31 rfl (fun g69 σ70 => ?_)
  refine zj_iconst (pc' := 33) (v := (0 : Int32)) hC dX7_feels_32 rfl rfl ?_
  refine zj_istore (pc' := 35) (lv' := [(10, .int (0 : Int32)), (0, .ref (b0 + v0)), (1, .ref (b0 + v1)), (2, .int v2), (3, .ref (b0 + v3)), (4, .ref (b0 + v4)), (5, .ref (b0 + v5)), (6, .int v6), (7, .int v7), (8, .int v8), (9, .int v9)]) hC dX7_feels_33 rfl hl (by decide) rfl (fun ls hl => ?_)
  exact lX7_feels_35 nn hC zFU v0 v1 v2 v3 v4 v5 v7 v8 v9 (0 : Int32) σ70 ls hk_v0 hk_v1 hk_v3 hk_v4 hk_v5 (lv_sub hl [1, 2, 3, 4, 5, 6, 8, 9, 10, 0] rfl)
set_option maxRecDepth 100000 in
set_option maxHeartbeats 4000000 in
theorem jX7_feels_3 {p : Program} {l : Launch} {e : Env} {s : State} {m : MethodId} {args : Array Value} {below : List Frame} {meth : Method} {c : Code} {b0 : Nat} {cA : Nat → ClassId} {D : va_G} {L : List (Nat × Nat)} (nn : Nat) (hC : zC p c s m args meth cX7_feels 13 (none) (Cond.code yX7_feels cX7_feels 13 (none)) yX7_feels.cls cA D) (k3 : Nat → Nat → Int32 → Nat → Nat → Nat → Int32 → Int32 → Int32 → Int32 → Int32 → zS → Option (Unit × zS)) (h3 : ∀ (v0 : Nat) (v1 : Nat) (v2 : Int32) (v3 : Nat) (v4 : Nat) (v5 : Nat) (v6 : Int32) (v7 : Int32) (v8 : Int32) (v9 : Int32) (v10 : Int32) (σ : zS) (ls : Array Slot), L[v0]? = some (0, 7) → L[v1]? = some (1, nn) → L[v3]? = some (1, 24) → L[v4]? = some (1, 24) → L[v5]? = some (1, 24) → lv_has ls 13 [(0, .ref (b0 + v0)), (1, .ref (b0 + v1)), (2, .int v2), (3, .ref (b0 + v3)), (4, .ref (b0 + v4)), (5, .ref (b0 + v5)), (6, .int v6), (7, .int v7), (8, .int v8), (9, .int v9), (10, .int v10)] → zJ p l e rmX7_feels s m args below meth c b0 cA D L (fun z => MQ below (va_Qv (fun (u : zS) => ((), u) = z) (zB b0 cA D L) (zA b0 L)) args s 0 0 (zA b0 L)) (k3 v0 v1 v2 v3 v4 v5 v6 v7 v8 v9 v10 σ) σ 3 ls []) (v0 : Nat) (v1 : Nat) (v2 : Int32) (v3 : Nat) (v4 : Nat) (v5 : Nat) (v6 : Int32) (v7 : Int32) (v8 : Int32) (v9 : Int32) (v10 : Int32) (σ : zS) (ls : Array Slot) (hk_v0 : L[v0]? = some (0, 7)) (hk_v1 : L[v1]? = some (1, nn)) (hk_v3 : L[v3]? = some (1, 24)) (hk_v4 : L[v4]? = some (1, 24)) (hk_v5 : L[v5]? = some (1, 24)) (hl : lv_has ls 13 [(0, .ref (b0 + v0)), (1, .ref (b0 + v1)), (2, .int v2), (3, .ref (b0 + v3)), (4, .ref (b0 + v4)), (5, .ref (b0 + v5)), (6, .int v6), (7, .int v7), (8, .int v8), (9, .int v9), (10, .int v10)]) : zJ p l e rmX7_feels s m args below meth c b0 cA D L (fun z => MQ below (va_Qv (fun (u : zS) => ((), u) = z) (zB b0 cA D L) (zA b0 L)) args s 0 0 (zA b0 L)) (bX7_feels_3 nn k3 v0 v1 v2 v3 v4 v5 v6 v7 v8 v9 v10 σ) σ 3 ls [] := by
  unfold bX7_feels_3
  refine zj_iload (pc' := 5) hC dX7_feels_3 rfl (lv_at hl 10 rfl) ?_
  refine zj_bipush (pc' := 7) (v := (12 : Int32)) hC dX7_feels_5 rfl rfl ?_
  refine zj_icmp_ge (tgt := 24) (pc' := 10) hC dX7_feels_7 (by decide) rfl (fun c71 => ?_) (fun c71 => ?_)
  · exact jX7_feels_24 nn hC v0 v1 v2 v3 v4 v5 v6 v7 v8 v9 σ ls hk_v0 hk_v1 hk_v3 hk_v4 hk_v5 (lv_sub hl [0, 1, 2, 3, 4, 5, 6, 7, 8, 9] rfl)
  · refine zj_aload_n (pc' := 11) hC dX7_feels_10 rfl rfl (lv_at hl 0 rfl) ?_
    refine zj_getR (pc' := 14) hC hk_v0 fd_7_31 rfl tw_4_79 dX7_feels_11 rfl (fun q72 hk_q72 => ?_)
    refine zj_iload (pc' := 16) hC dX7_feels_14 rfl (lv_at hl 10 rfl) ?_
    refine zj_iconst (pc' := 17) (v := (0 : Int32)) hC dX7_feels_16 rfl rfl ?_
    refine zj_iast (pc' := 18) hC hk_q72 dX7_feels_17 rfl (fun g73 σ74 => ?_)
    refine zj_iinc (pc' := 21) (k0 := 10) (v := (v10 + (1 : Int32))) (lv' := [(10, .int (v10 + (1 : Int32))), (0, .ref (b0 + v0)), (1, .ref (b0 + v1)), (2, .int v2), (3, .ref (b0 + v3)), (4, .ref (b0 + v4)), (5, .ref (b0 + v5)), (6, .int v6), (7, .int v7), (8, .int v8), (9, .int v9)]) hC dX7_feels_18 rfl hl rfl rfl (by decide) rfl (fun ls hl => ?_)
    refine zj_goto (tgt := 3) hC dX7_feels_21 (by decide) ?_
    exact h3 v0 v1 v2 v3 v4 v5 v6 v7 v8 v9 ((v10 + (1 : Int32))) σ74 ls hk_v0 hk_v1 hk_v3 hk_v4 hk_v5 (lv_sub hl [1, 2, 3, 4, 5, 6, 7, 8, 9, 10, 0] rfl)
set_option maxRecDepth 100000 in
set_option maxHeartbeats 4000000 in
theorem lX7_feels_3 {p : Program} {l : Launch} {e : Env} {s : State} {m : MethodId} {args : Array Value} {below : List Frame} {meth : Method} {c : Code} {b0 : Nat} {cA : Nat → ClassId} {D : va_G} {L : List (Nat × Nat)} (nn : Nat) (hC : zC p c s m args meth cX7_feels 13 (none) (Cond.code yX7_feels cX7_feels 13 (none)) yX7_feels.cls cA D)  (n : Nat) : ∀ (v0 : Nat) (v1 : Nat) (v2 : Int32) (v3 : Nat) (v4 : Nat) (v5 : Nat) (v6 : Int32) (v7 : Int32) (v8 : Int32) (v9 : Int32) (v10 : Int32) (σ : zS) (ls : Array Slot), L[v0]? = some (0, 7) → L[v1]? = some (1, nn) → L[v3]? = some (1, 24) → L[v4]? = some (1, 24) → L[v5]? = some (1, 24) → lv_has ls 13 [(0, .ref (b0 + v0)), (1, .ref (b0 + v1)), (2, .int v2), (3, .ref (b0 + v3)), (4, .ref (b0 + v4)), (5, .ref (b0 + v5)), (6, .int v6), (7, .int v7), (8, .int v8), (9, .int v9), (10, .int v10)] → zJ p l e rmX7_feels s m args below meth c b0 cA D L (fun z => MQ below (va_Qv (fun (u : zS) => ((), u) = z) (zB b0 cA D L) (zA b0 L)) args s 0 0 (zA b0 L)) (fX7_feels_3 nn  n v0 v1 v2 v3 v4 v5 v6 v7 v8 v9 v10 σ) σ 3 ls [] := by
  induction n with
  | zero => intros; exact zj_none
  | succ n ih => exact jX7_feels_3 nn hC (fX7_feels_3 nn  n) ih
set_option maxRecDepth 100000 in
set_option maxHeartbeats 4000000 in
theorem kX7_feels (l : Launch) (b0 : Nat) (cA : Nat → ClassId) (D : va_G) (L : List (Nat × Nat)) (nn : Nat) (v0 : Nat) (v1 : Nat) (v2 : Int32) (v3 : Nat) (v4 : Nat) (v5 : Nat) (v6 : Int32) (v7 : Int32) (v8 : Int32) (v9 : Int32) (σ : zS) (hk0 : L[v0]? = some (0, 7)) (hk1 : L[v1]? = some (1, nn)) (hk3 : L[v3]? = some (1, 24)) (hk4 : L[v4]? = some (1, 24)) (hk5 : L[v5]? = some (1, 24)) : zMv l b0 cA D L yX7_feels (Cond.code yX7_feels cX7_feels 13 (none)) rmX7_feels [.ref (b0 + v0), .ref (b0 + v1), .int v2, .ref (b0 + v3), .ref (b0 + v4), .ref (b0 + v5), .int v6, .int v7, .int v8, .int v9] σ (fX7_feels nn v0 v1 v2 v3 v4 v5 v6 v7 v8 v9 σ) := by
  refine zMv_of (by decide) (Nat.le_of_ble_eq_true rfl) ?_
  intro p e s m below meth c ls hC hl
  have hl : lv_has ls 13 [(0, .ref (b0 + v0)), (1, .ref (b0 + v1)), (2, .int v2), (3, .ref (b0 + v3)), (4, .ref (b0 + v4)), (5, .ref (b0 + v5)), (6, .int v6), (7, .int v7), (8, .int v8), (9, .int v9)] := hl
  generalize ([.ref (b0 + v0), .ref (b0 + v1), .int v2, .ref (b0 + v3), .ref (b0 + v4), .ref (b0 + v5), .int v6, .int v7, .int v8, .int v9] : List Value).toArray = args at hC ⊢
  unfold fX7_feels
  refine zj_iconst (pc' := 1) (v := (0 : Int32)) hC dX7_feels_0 rfl rfl ?_
  refine zj_istore (pc' := 3) (lv' := [(10, .int (0 : Int32)), (0, .ref (b0 + v0)), (1, .ref (b0 + v1)), (2, .int v2), (3, .ref (b0 + v3)), (4, .ref (b0 + v4)), (5, .ref (b0 + v5)), (6, .int v6), (7, .int v7), (8, .int v8), (9, .int v9)]) hC dX7_feels_1 rfl hl (by decide) rfl (fun ls hl => ?_)
  exact lX7_feels_3 nn hC zFU v0 v1 v2 v3 v4 v5 v6 v7 v8 v9 (0 : Int32) σ ls hk0 hk1 hk3 hk4 hk5 (lv_sub hl [1, 2, 3, 4, 5, 6, 7, 8, 9, 10, 0] rfl)
-- X7_byLaw
theorem ddX7_byLaw : yX7_byLaw.cls ≠ "java/lang/invoke/MethodHandle" ∧ yX7_byLaw.cls ≠ "java/lang/invoke/VarHandle" ∧ (parseMethodDescriptor yX7_byLaw.desc).map (fun d => d.parameters.length) = some 1 := by decide +kernel
abbrev rmX7_byLaw : Room := { frames := 2, cells := 0, slots := 0, locals := 48 }
def bX7_byLaw_28  (v0 : Nat) (v2 : Int32) (σ : zS) : Option (Int32 × zS) :=
  bnd (σ.2 v0 27) (fun (q1 : Nat) => zX v2 48 (if (σ.1 q1 (v2).toNatClampNeg) = (99 : Int32) then (some ((1 : Int32), σ)) else (some ((2 : Int32), σ))))
def bX7_byLaw_5 (k5 : Nat → Int32 → Int32 → zS → Option (Int32 × zS)) (v0 : Nat) (v1 : Int32) (v2 : Int32) (σ : zS) : Option (Int32 × zS) :=
  bnd (σ.2 v0 26) (fun (q4 : Nat) => zX v1 4 (if (((12 : Int32) * v1) + (σ.1 q4 (v1).toNatClampNeg)) ≤ v2 then (some ((0 : Int32), σ)) else (zb (fX7_isTrue v0 v2 σ) (fun (r8 : Int32) (σ7 : zS) => if r8 = 0 then (k5 v0 v1 ((v2 + (1 : Int32))) σ7) else (bX7_byLaw_28 v0 v2 σ7)))))
def fX7_byLaw_5  : Nat → Nat → Int32 → Int32 → zS → Option (Int32 × zS)
  | 0, _, _, _, _ => none
  | n + 1, v0, v1, v2, σ => bX7_byLaw_5 (fX7_byLaw_5  n) v0 v1 v2 σ
def fX7_byLaw (v0 : Nat) (v1 : Int32) (σ : zS) : Option (Int32 × zS) :=
  bnd (((12 : Int32) * v1)) (fun (x10 : Int32) => fX7_byLaw_5 zFU v0 v1 x10 σ)
set_option maxRecDepth 100000 in
set_option maxHeartbeats 4000000 in
theorem jX7_byLaw_28 {p : Program} {l : Launch} {e : Env} {s : State} {m : MethodId} {args : Array Value} {below : List Frame} {meth : Method} {c : Code} {b0 : Nat} {cA : Nat → ClassId} {D : va_G} {L : List (Nat × Nat)} (hC : zC p c s m args meth cX7_byLaw 3 (some Jvm.ClassFile.FieldType.int) (Cond.code yX7_byLaw cX7_byLaw 3 (some Jvm.ClassFile.FieldType.int)) yX7_byLaw.cls cA D)  (v0 : Nat) (v2 : Int32) (σ : zS) (ls : Array Slot) (hk_v0 : L[v0]? = some (0, 7)) (hl : lv_has ls 3 [(0, .ref (b0 + v0)), (2, .int v2)]) : zJ p l e rmX7_byLaw s m args below meth c b0 cA D L (fun z => MQ below (va_Qi (fun (r : Int32) (u : zS) => (r, u) = z) (zB b0 cA D L) (zA b0 L)) args s 0 0 (zA b0 L)) (bX7_byLaw_28  v0 v2 σ) σ 28 ls [] := by
  unfold bX7_byLaw_28
  refine zj_aload_n (pc' := 29) hC dX7_byLaw_28 rfl rfl (lv_at hl 0 rfl) ?_
  refine zj_getR (pc' := 32) hC hk_v0 fd_7_27 rfl tw_4_75 dX7_byLaw_29 rfl (fun q1 hk_q1 => ?_)
  refine zj_iload_n (pc' := 33) hC dX7_byLaw_32 rfl rfl (lv_at hl 1 rfl) ?_
  refine zj_iald (pc' := 34) hC hk_q1 dX7_byLaw_33 rfl (fun g2 => ?_)
  refine zj_bipush (pc' := 36) (v := (99 : Int32)) hC dX7_byLaw_34 rfl rfl ?_
  refine zj_icmp_ne (tgt := 43) (pc' := 39) hC dX7_byLaw_36 (by decide) rfl (fun c3 => ?_) (fun c3 => ?_)
  · refine zj_iconst (pc' := 44) (v := (2 : Int32)) hC dX7_byLaw_43 rfl rfl ?_
    exact zj_iret hC dX7_byLaw_44
  · refine zj_iconst (pc' := 40) (v := (1 : Int32)) hC dX7_byLaw_39 rfl rfl ?_
    refine zj_goto (tgt := 44) hC dX7_byLaw_40 (by decide) ?_
    exact zj_iret hC dX7_byLaw_44
set_option maxRecDepth 100000 in
set_option maxHeartbeats 4000000 in
theorem jX7_byLaw_5 {p : Program} {l : Launch} {e : Env} {s : State} {m : MethodId} {args : Array Value} {below : List Frame} {meth : Method} {c : Code} {b0 : Nat} {cA : Nat → ClassId} {D : va_G} {L : List (Nat × Nat)} (hC : zC p c s m args meth cX7_byLaw 3 (some Jvm.ClassFile.FieldType.int) (Cond.code yX7_byLaw cX7_byLaw 3 (some Jvm.ClassFile.FieldType.int)) yX7_byLaw.cls cA D) (k5 : Nat → Int32 → Int32 → zS → Option (Int32 × zS)) (h5 : ∀ (v0 : Nat) (v1 : Int32) (v2 : Int32) (σ : zS) (ls : Array Slot), L[v0]? = some (0, 7) → lv_has ls 3 [(0, .ref (b0 + v0)), (1, .int v1), (2, .int v2)] → zJ p l e rmX7_byLaw s m args below meth c b0 cA D L (fun z => MQ below (va_Qi (fun (r : Int32) (u : zS) => (r, u) = z) (zB b0 cA D L) (zA b0 L)) args s 0 0 (zA b0 L)) (k5 v0 v1 v2 σ) σ 5 ls []) (v0 : Nat) (v1 : Int32) (v2 : Int32) (σ : zS) (ls : Array Slot) (hk_v0 : L[v0]? = some (0, 7)) (hl : lv_has ls 3 [(0, .ref (b0 + v0)), (1, .int v1), (2, .int v2)]) : zJ p l e rmX7_byLaw s m args below meth c b0 cA D L (fun z => MQ below (va_Qi (fun (r : Int32) (u : zS) => (r, u) = z) (zB b0 cA D L) (zA b0 L)) args s 0 0 (zA b0 L)) (bX7_byLaw_5 k5 v0 v1 v2 σ) σ 5 ls [] := by
  unfold bX7_byLaw_5
  refine zj_iload_n (pc' := 6) hC dX7_byLaw_5 rfl rfl (lv_at hl 2 rfl) ?_
  refine zj_bipush (pc' := 8) (v := (12 : Int32)) hC dX7_byLaw_6 rfl rfl ?_
  refine zj_iload_n (pc' := 9) hC dX7_byLaw_8 rfl rfl (lv_at hl 1 rfl) ?_
  refine zj_imul (pc' := 10) hC dX7_byLaw_9 rfl ?_
  refine zj_aload_n (pc' := 11) hC dX7_byLaw_10 rfl rfl (lv_at hl 0 rfl) ?_
  refine zj_getR (pc' := 14) hC hk_v0 fd_7_26 rfl tw_4_74 dX7_byLaw_11 rfl (fun q4 hk_q4 => ?_)
  refine zj_iload_n (pc' := 15) hC dX7_byLaw_14 rfl rfl (lv_at hl 1 rfl) ?_
  refine zj_iald (pc' := 16) hC hk_q4 dX7_byLaw_15 rfl (fun g5 => ?_)
  refine zj_iadd (pc' := 17) hC dX7_byLaw_16 rfl ?_
  refine zj_icmp_ge (tgt := 51) (pc' := 20) hC dX7_byLaw_17 (by decide) rfl (fun c6 => ?_) (fun c6 => ?_)
  · refine zj_iconst (pc' := 52) (v := (0 : Int32)) hC dX7_byLaw_51 rfl rfl ?_
    exact zj_iret hC dX7_byLaw_52
  · refine zj_aload_n (pc' := 21) hC dX7_byLaw_20 rfl rfl (lv_at hl 0 rfl) ?_
    refine zj_iload_n (pc' := 22) hC dX7_byLaw_21 rfl rfl (lv_at hl 2 rfl) ?_
    refine zj_callzV (pc' := 25) (rest := []) hC (kX7_isTrue l b0 cA D L v0 v2 σ hk_v0) hk_v0 rfl tw_5_138 tw_5_135 tw_5_137 ts_4_14 tw_1_8 ddX7_isTrue rfl ⟨rfl, rfl⟩ ⟨by decide, by decide⟩ hl.1 (Nat.le_of_ble_eq_true rfl) rfl dX7_byLaw_22 rfl (fun r8 σ7 hb_r8 => ?_)
    refine zj_if_eq (tgt := 45) (pc' := 28) hC dX7_byLaw_25 (by decide) rfl (fun c9 => ?_) (fun c9 => ?_)
    · refine zj_iinc (pc' := 48) (k0 := 2) (v := (v2 + (1 : Int32))) (lv' := [(2, .int (v2 + (1 : Int32))), (0, .ref (b0 + v0)), (1, .int v1)]) hC dX7_byLaw_45 rfl hl rfl rfl (by decide) rfl (fun ls hl => ?_)
      refine zj_goto (tgt := 5) hC dX7_byLaw_48 (by decide) ?_
      exact h5 v0 v1 ((v2 + (1 : Int32))) σ7 ls hk_v0 (lv_sub hl [1, 2, 0] rfl)
    · exact jX7_byLaw_28 hC v0 v2 σ7 ls hk_v0 (lv_sub hl [0, 2] rfl)
set_option maxRecDepth 100000 in
set_option maxHeartbeats 4000000 in
theorem lX7_byLaw_5 {p : Program} {l : Launch} {e : Env} {s : State} {m : MethodId} {args : Array Value} {below : List Frame} {meth : Method} {c : Code} {b0 : Nat} {cA : Nat → ClassId} {D : va_G} {L : List (Nat × Nat)} (hC : zC p c s m args meth cX7_byLaw 3 (some Jvm.ClassFile.FieldType.int) (Cond.code yX7_byLaw cX7_byLaw 3 (some Jvm.ClassFile.FieldType.int)) yX7_byLaw.cls cA D)  (n : Nat) : ∀ (v0 : Nat) (v1 : Int32) (v2 : Int32) (σ : zS) (ls : Array Slot), L[v0]? = some (0, 7) → lv_has ls 3 [(0, .ref (b0 + v0)), (1, .int v1), (2, .int v2)] → zJ p l e rmX7_byLaw s m args below meth c b0 cA D L (fun z => MQ below (va_Qi (fun (r : Int32) (u : zS) => (r, u) = z) (zB b0 cA D L) (zA b0 L)) args s 0 0 (zA b0 L)) (fX7_byLaw_5  n v0 v1 v2 σ) σ 5 ls [] := by
  induction n with
  | zero => intros; exact zj_none
  | succ n ih => exact jX7_byLaw_5 hC (fX7_byLaw_5  n) ih
set_option maxRecDepth 100000 in
set_option maxHeartbeats 4000000 in
theorem kX7_byLaw (l : Launch) (b0 : Nat) (cA : Nat → ClassId) (D : va_G) (L : List (Nat × Nat)) (v0 : Nat) (v1 : Int32) (σ : zS) (hk0 : L[v0]? = some (0, 7)) : zMi l b0 cA D L yX7_byLaw (Cond.code yX7_byLaw cX7_byLaw 3 (some Jvm.ClassFile.FieldType.int)) rmX7_byLaw [.ref (b0 + v0), .int v1] σ (fX7_byLaw v0 v1 σ) := by
  refine zMi_of (by decide) (Nat.le_of_ble_eq_true rfl) ?_
  intro p e s m below meth c ls hC hl
  have hl : lv_has ls 3 [(0, .ref (b0 + v0)), (1, .int v1)] := hl
  generalize ([.ref (b0 + v0), .int v1] : List Value).toArray = args at hC ⊢
  unfold fX7_byLaw
  refine zj_bipush (pc' := 2) (v := (12 : Int32)) hC dX7_byLaw_0 rfl rfl ?_
  refine zj_iload_n (pc' := 3) hC dX7_byLaw_2 rfl rfl (lv_at hl 1 rfl) ?_
  refine zj_imul (pc' := 4) hC dX7_byLaw_3 rfl ?_
  refine zj_nmi (fun x10 => ?_)
  refine zj_istore_n (pc' := 5) (lv' := [(2, .int x10), (0, .ref (b0 + v0)), (1, .int v1)]) hC dX7_byLaw_4 rfl rfl hl (by decide) rfl (fun ls hl => ?_)
  exact lX7_byLaw_5 hC zFU v0 v1 x10 σ ls hk0 (lv_sub hl [1, 2, 0] rfl)
-- X7_goodFor
theorem ddX7_goodFor : yX7_goodFor.cls ≠ "java/lang/invoke/MethodHandle" ∧ yX7_goodFor.cls ≠ "java/lang/invoke/VarHandle" ∧ (parseMethodDescriptor yX7_goodFor.desc).map (fun d => d.parameters.length) = some 2 := by decide +kernel
abbrev rmX7_goodFor : Room := { frames := 0, cells := 0, slots := 0, locals := 0 }
def fX7_goodFor (v0 : Nat) (v1 : Int32) (v2 : Int32) (σ : zS) : Option (Int32 × zS) :=
  bnd (σ.2 v0 5) (fun (q1 : Nat) => zX v1 24 (if (σ.1 q1 (v1).toNatClampNeg) = (1 : Int32) then (bnd (σ.2 v0 7) (fun (q6 : Nat) => zX v2 40 (some ((σ.1 q6 (v2).toNatClampNeg), σ)))) else (bnd (σ.2 v0 8) (fun (q4 : Nat) => zX v2 40 (some ((σ.1 q4 (v2).toNatClampNeg), σ))))))
set_option maxRecDepth 100000 in
set_option maxHeartbeats 4000000 in
theorem kX7_goodFor (l : Launch) (b0 : Nat) (cA : Nat → ClassId) (D : va_G) (L : List (Nat × Nat)) (v0 : Nat) (v1 : Int32) (v2 : Int32) (σ : zS) (hk0 : L[v0]? = some (0, 7)) : zMi l b0 cA D L yX7_goodFor (Cond.code yX7_goodFor cX7_goodFor 3 (some Jvm.ClassFile.FieldType.int)) rmX7_goodFor [.ref (b0 + v0), .int v1, .int v2] σ (fX7_goodFor v0 v1 v2 σ) := by
  refine zMi_of (by decide) (Nat.le_of_ble_eq_true rfl) ?_
  intro p e s m below meth c ls hC hl
  have hl : lv_has ls 3 [(0, .ref (b0 + v0)), (1, .int v1), (2, .int v2)] := hl
  generalize ([.ref (b0 + v0), .int v1, .int v2] : List Value).toArray = args at hC ⊢
  unfold fX7_goodFor
  refine zj_aload_n (pc' := 1) hC dX7_goodFor_0 rfl rfl (lv_at hl 0 rfl) ?_
  refine zj_getR (pc' := 4) hC hk0 fd_7_5 rfl tw_4_53 dX7_goodFor_1 rfl (fun q1 hk_q1 => ?_)
  refine zj_iload_n (pc' := 5) hC dX7_goodFor_4 rfl rfl (lv_at hl 1 rfl) ?_
  refine zj_iald (pc' := 6) hC hk_q1 dX7_goodFor_5 rfl (fun g2 => ?_)
  refine zj_iconst (pc' := 7) (v := (1 : Int32)) hC dX7_goodFor_6 rfl rfl ?_
  refine zj_icmp_ne (tgt := 19) (pc' := 10) hC dX7_goodFor_7 (by decide) rfl (fun c3 => ?_) (fun c3 => ?_)
  · refine zj_aload_n (pc' := 20) hC dX7_goodFor_19 rfl rfl (lv_at hl 0 rfl) ?_
    refine zj_getR (pc' := 23) hC hk0 fd_7_8 rfl tw_4_56 dX7_goodFor_20 rfl (fun q4 hk_q4 => ?_)
    refine zj_iload_n (pc' := 24) hC dX7_goodFor_23 rfl rfl (lv_at hl 2 rfl) ?_
    refine zj_iald (pc' := 25) hC hk_q4 dX7_goodFor_24 rfl (fun g5 => ?_)
    exact zj_iret hC dX7_goodFor_25
  · refine zj_aload_n (pc' := 11) hC dX7_goodFor_10 rfl rfl (lv_at hl 0 rfl) ?_
    refine zj_getR (pc' := 14) hC hk0 fd_7_7 rfl tw_4_55 dX7_goodFor_11 rfl (fun q6 hk_q6 => ?_)
    refine zj_iload_n (pc' := 15) hC dX7_goodFor_14 rfl rfl (lv_at hl 2 rfl) ?_
    refine zj_iald (pc' := 16) hC hk_q6 dX7_goodFor_15 rfl (fun g7 => ?_)
    refine zj_goto (tgt := 25) hC dX7_goodFor_16 (by decide) ?_
    exact zj_iret hC dX7_goodFor_25
-- X7_counts
theorem ddX7_counts : yX7_counts.cls ≠ "java/lang/invoke/MethodHandle" ∧ yX7_counts.cls ≠ "java/lang/invoke/VarHandle" ∧ (parseMethodDescriptor yX7_counts.desc).map (fun d => d.parameters.length) = some 1 := by decide +kernel
abbrev rmX7_counts : Room := { frames := 0, cells := 0, slots := 0, locals := 0 }
def bX7_counts_72 (k12 : Nat → Int32 → Int32 → zS → Option (Unit × zS)) (v0 : Nat) (v1 : Int32) (v2 : Int32) (s0 : Nat) (s1 : Int32) (s2 : Int32) (σ : zS) : Option (Unit × zS) :=
  bnd (zI σ s0 34 (s1 + s2)) (fun (σ1 : zS) => k12 v0 v1 ((v2 + (1 : Int32))) σ1)
def bX7_counts_43 (k12 : Nat → Int32 → Int32 → zS → Option (Unit × zS)) (v0 : Nat) (v1 : Int32) (v2 : Int32) (s0 : Nat) (s1 : Int32) (s2 : Int32) (σ : zS) : Option (Unit × zS) :=
  bnd (zI σ s0 33 (s1 + s2)) (fun (σ2 : zS) => bnd (σ2.2 v0 32) (fun (q3 : Nat) => zX (((24 : Int32) * v1) + v2) 960 (if (σ2.1 q3 ((((24 : Int32) * v1) + v2)).toNatClampNeg) = (2 : Int32) then (bX7_counts_72 k12 v0 v1 v2 v0 ((σ2.1 v0 34)) (1 : Int32) σ2) else (bX7_counts_72 k12 v0 v1 v2 v0 ((σ2.1 v0 34)) (0 : Int32) σ2))))
def bX7_counts_12 (k12 : Nat → Int32 → Int32 → zS → Option (Unit × zS)) (v0 : Nat) (v1 : Int32) (v2 : Int32) (σ : zS) : Option (Unit × zS) :=
  if (24 : Int32) ≤ v2 then (some ((), σ)) else (bnd (σ.2 v0 32) (fun (q7 : Nat) => zX (((24 : Int32) * v1) + v2) 960 (if (σ.1 q7 ((((24 : Int32) * v1) + v2)).toNatClampNeg) = (1 : Int32) then (bX7_counts_43 k12 v0 v1 v2 v0 ((σ.1 v0 33)) (1 : Int32) σ) else (bX7_counts_43 k12 v0 v1 v2 v0 ((σ.1 v0 33)) (0 : Int32) σ))))
def fX7_counts_12  : Nat → Nat → Int32 → Int32 → zS → Option (Unit × zS)
  | 0, _, _, _, _ => none
  | n + 1, v0, v1, v2, σ => bX7_counts_12 (fX7_counts_12  n) v0 v1 v2 σ
def fX7_counts (v0 : Nat) (v1 : Int32) (σ : zS) : Option (Unit × zS) :=
  bnd (zI σ v0 33 (0 : Int32)) (fun (σ10 : zS) => bnd (zI σ10 v0 34 (0 : Int32)) (fun (σ11 : zS) => fX7_counts_12 zFU v0 v1 (0 : Int32) σ11))
set_option maxRecDepth 100000 in
set_option maxHeartbeats 4000000 in
theorem jX7_counts_72 {p : Program} {l : Launch} {e : Env} {s : State} {m : MethodId} {args : Array Value} {below : List Frame} {meth : Method} {c : Code} {b0 : Nat} {cA : Nat → ClassId} {D : va_G} {L : List (Nat × Nat)} (hC : zC p c s m args meth cX7_counts 3 (none) (Cond.code yX7_counts cX7_counts 3 (none)) yX7_counts.cls cA D) (k12 : Nat → Int32 → Int32 → zS → Option (Unit × zS)) (h12 : ∀ (v0 : Nat) (v1 : Int32) (v2 : Int32) (σ : zS) (ls : Array Slot), L[v0]? = some (0, 7) → lv_has ls 3 [(0, .ref (b0 + v0)), (1, .int v1), (2, .int v2)] → zJ p l e rmX7_counts s m args below meth c b0 cA D L (fun z => MQ below (va_Qv (fun (u : zS) => ((), u) = z) (zB b0 cA D L) (zA b0 L)) args s 0 0 (zA b0 L)) (k12 v0 v1 v2 σ) σ 12 ls []) (v0 : Nat) (v1 : Int32) (v2 : Int32) (s0 : Nat) (s1 : Int32) (s2 : Int32) (σ : zS) (ls : Array Slot) (hk_v0 : L[v0]? = some (0, 7)) (hk_s0 : L[s0]? = some (0, 7)) (hb_s2 : nB s2) (hl : lv_has ls 3 [(0, .ref (b0 + v0)), (1, .int v1), (2, .int v2)]) : zJ p l e rmX7_counts s m args below meth c b0 cA D L (fun z => MQ below (va_Qv (fun (u : zS) => ((), u) = z) (zB b0 cA D L) (zA b0 L)) args s 0 0 (zA b0 L)) (bX7_counts_72 k12 v0 v1 v2 s0 s1 s2 σ) σ 72 ls [.int s2, .int s1, .ref (b0 + s0)] := by
  unfold bX7_counts_72
  refine zj_iadd (pc' := 73) hC dX7_counts_72 rfl ?_
  refine zj_putI (pc' := 76) hC hk_s0 fd_7_34 rfl tw_4_82 rfl rfl rfl dX7_counts_73 rfl (fun σ1 => ?_)
  refine zj_iinc (pc' := 79) (k0 := 2) (v := (v2 + (1 : Int32))) (lv' := [(2, .int (v2 + (1 : Int32))), (0, .ref (b0 + v0)), (1, .int v1)]) hC dX7_counts_76 rfl hl rfl rfl (by decide) rfl (fun ls hl => ?_)
  refine zj_goto (tgt := 12) hC dX7_counts_79 (by decide) ?_
  exact h12 v0 v1 ((v2 + (1 : Int32))) σ1 ls hk_v0 (lv_sub hl [1, 2, 0] rfl)
set_option maxRecDepth 100000 in
set_option maxHeartbeats 4000000 in
theorem jX7_counts_43 {p : Program} {l : Launch} {e : Env} {s : State} {m : MethodId} {args : Array Value} {below : List Frame} {meth : Method} {c : Code} {b0 : Nat} {cA : Nat → ClassId} {D : va_G} {L : List (Nat × Nat)} (hC : zC p c s m args meth cX7_counts 3 (none) (Cond.code yX7_counts cX7_counts 3 (none)) yX7_counts.cls cA D) (k12 : Nat → Int32 → Int32 → zS → Option (Unit × zS)) (h12 : ∀ (v0 : Nat) (v1 : Int32) (v2 : Int32) (σ : zS) (ls : Array Slot), L[v0]? = some (0, 7) → lv_has ls 3 [(0, .ref (b0 + v0)), (1, .int v1), (2, .int v2)] → zJ p l e rmX7_counts s m args below meth c b0 cA D L (fun z => MQ below (va_Qv (fun (u : zS) => ((), u) = z) (zB b0 cA D L) (zA b0 L)) args s 0 0 (zA b0 L)) (k12 v0 v1 v2 σ) σ 12 ls []) (v0 : Nat) (v1 : Int32) (v2 : Int32) (s0 : Nat) (s1 : Int32) (s2 : Int32) (σ : zS) (ls : Array Slot) (hk_v0 : L[v0]? = some (0, 7)) (hk_s0 : L[s0]? = some (0, 7)) (hb_s2 : nB s2) (hl : lv_has ls 3 [(0, .ref (b0 + v0)), (1, .int v1), (2, .int v2)]) : zJ p l e rmX7_counts s m args below meth c b0 cA D L (fun z => MQ below (va_Qv (fun (u : zS) => ((), u) = z) (zB b0 cA D L) (zA b0 L)) args s 0 0 (zA b0 L)) (bX7_counts_43 k12 v0 v1 v2 s0 s1 s2 σ) σ 43 ls [.int s2, .int s1, .ref (b0 + s0)] := by
  unfold bX7_counts_43
  refine zj_iadd (pc' := 44) hC dX7_counts_43 rfl ?_
  refine zj_putI (pc' := 47) hC hk_s0 fd_7_33 rfl tw_4_81 rfl rfl rfl dX7_counts_44 rfl (fun σ2 => ?_)
  refine zj_aload_n (pc' := 48) hC dX7_counts_47 rfl rfl (lv_at hl 0 rfl) ?_
  refine zj_aload_n (pc' := 49) hC dX7_counts_48 rfl rfl (lv_at hl 0 rfl) ?_
  refine zj_getI (pc' := 52) hC hk_v0 fd_7_34 rfl tw_4_82 dX7_counts_49 rfl ?_
  refine zj_aload_n (pc' := 53) hC dX7_counts_52 rfl rfl (lv_at hl 0 rfl) ?_
  refine zj_getR (pc' := 56) hC hk_v0 fd_7_32 rfl tw_4_80 dX7_counts_53 rfl (fun q3 hk_q3 => ?_)
  refine zj_bipush (pc' := 58) (v := (24 : Int32)) hC dX7_counts_56 rfl rfl ?_
  refine zj_iload_n (pc' := 59) hC dX7_counts_58 rfl rfl (lv_at hl 1 rfl) ?_
  refine zj_imul (pc' := 60) hC dX7_counts_59 rfl ?_
  refine zj_iload_n (pc' := 61) hC dX7_counts_60 rfl rfl (lv_at hl 2 rfl) ?_
  refine zj_iadd (pc' := 62) hC dX7_counts_61 rfl ?_
  refine zj_iald (pc' := 63) hC hk_q3 dX7_counts_62 rfl (fun g4 => ?_)
  refine zj_iconst (pc' := 64) (v := (2 : Int32)) hC dX7_counts_63 rfl rfl ?_
  refine zj_icmp_ne (tgt := 71) (pc' := 67) hC dX7_counts_64 (by decide) rfl (fun c5 => ?_) (fun c5 => ?_)
  · refine zj_iconst (pc' := 72) (v := (0 : Int32)) hC dX7_counts_71 rfl rfl ?_
    exact jX7_counts_72 hC k12 h12 v0 v1 v2 v0 ((σ2.1 v0 34)) (0 : Int32) σ2 ls hk_v0 hk_v0 nB_0 (lv_sub hl [0, 1, 2] rfl)
  · refine zj_iconst (pc' := 68) (v := (1 : Int32)) hC dX7_counts_67 rfl rfl ?_
    refine zj_goto (tgt := 72) hC dX7_counts_68 (by decide) ?_
    exact jX7_counts_72 hC k12 h12 v0 v1 v2 v0 ((σ2.1 v0 34)) (1 : Int32) σ2 ls hk_v0 hk_v0 nB_1 (lv_sub hl [0, 1, 2] rfl)
set_option maxRecDepth 100000 in
set_option maxHeartbeats 4000000 in
theorem jX7_counts_12 {p : Program} {l : Launch} {e : Env} {s : State} {m : MethodId} {args : Array Value} {below : List Frame} {meth : Method} {c : Code} {b0 : Nat} {cA : Nat → ClassId} {D : va_G} {L : List (Nat × Nat)} (hC : zC p c s m args meth cX7_counts 3 (none) (Cond.code yX7_counts cX7_counts 3 (none)) yX7_counts.cls cA D) (k12 : Nat → Int32 → Int32 → zS → Option (Unit × zS)) (h12 : ∀ (v0 : Nat) (v1 : Int32) (v2 : Int32) (σ : zS) (ls : Array Slot), L[v0]? = some (0, 7) → lv_has ls 3 [(0, .ref (b0 + v0)), (1, .int v1), (2, .int v2)] → zJ p l e rmX7_counts s m args below meth c b0 cA D L (fun z => MQ below (va_Qv (fun (u : zS) => ((), u) = z) (zB b0 cA D L) (zA b0 L)) args s 0 0 (zA b0 L)) (k12 v0 v1 v2 σ) σ 12 ls []) (v0 : Nat) (v1 : Int32) (v2 : Int32) (σ : zS) (ls : Array Slot) (hk_v0 : L[v0]? = some (0, 7)) (hl : lv_has ls 3 [(0, .ref (b0 + v0)), (1, .int v1), (2, .int v2)]) : zJ p l e rmX7_counts s m args below meth c b0 cA D L (fun z => MQ below (va_Qv (fun (u : zS) => ((), u) = z) (zB b0 cA D L) (zA b0 L)) args s 0 0 (zA b0 L)) (bX7_counts_12 k12 v0 v1 v2 σ) σ 12 ls [] := by
  unfold bX7_counts_12
  refine zj_iload_n (pc' := 13) hC dX7_counts_12 rfl rfl (lv_at hl 2 rfl) ?_
  refine zj_bipush (pc' := 15) (v := (24 : Int32)) hC dX7_counts_13 rfl rfl ?_
  refine zj_icmp_ge (tgt := 82) (pc' := 18) hC dX7_counts_15 (by decide) rfl (fun c6 => ?_) (fun c6 => ?_)
  · exact zj_vret hC dX7_counts_82
  · refine zj_aload_n (pc' := 19) hC dX7_counts_18 rfl rfl (lv_at hl 0 rfl) ?_
    refine zj_aload_n (pc' := 20) hC dX7_counts_19 rfl rfl (lv_at hl 0 rfl) ?_
    refine zj_getI (pc' := 23) hC hk_v0 fd_7_33 rfl tw_4_81 dX7_counts_20 rfl ?_
    refine zj_aload_n (pc' := 24) hC dX7_counts_23 rfl rfl (lv_at hl 0 rfl) ?_
    refine zj_getR (pc' := 27) hC hk_v0 fd_7_32 rfl tw_4_80 dX7_counts_24 rfl (fun q7 hk_q7 => ?_)
    refine zj_bipush (pc' := 29) (v := (24 : Int32)) hC dX7_counts_27 rfl rfl ?_
    refine zj_iload_n (pc' := 30) hC dX7_counts_29 rfl rfl (lv_at hl 1 rfl) ?_
    refine zj_imul (pc' := 31) hC dX7_counts_30 rfl ?_
    refine zj_iload_n (pc' := 32) hC dX7_counts_31 rfl rfl (lv_at hl 2 rfl) ?_
    refine zj_iadd (pc' := 33) hC dX7_counts_32 rfl ?_
    refine zj_iald (pc' := 34) hC hk_q7 dX7_counts_33 rfl (fun g8 => ?_)
    refine zj_iconst (pc' := 35) (v := (1 : Int32)) hC dX7_counts_34 rfl rfl ?_
    refine zj_icmp_ne (tgt := 42) (pc' := 38) hC dX7_counts_35 (by decide) rfl (fun c9 => ?_) (fun c9 => ?_)
    · refine zj_iconst (pc' := 43) (v := (0 : Int32)) hC dX7_counts_42 rfl rfl ?_
      exact jX7_counts_43 hC k12 h12 v0 v1 v2 v0 ((σ.1 v0 33)) (0 : Int32) σ ls hk_v0 hk_v0 nB_0 (lv_sub hl [0, 1, 2] rfl)
    · refine zj_iconst (pc' := 39) (v := (1 : Int32)) hC dX7_counts_38 rfl rfl ?_
      refine zj_goto (tgt := 43) hC dX7_counts_39 (by decide) ?_
      exact jX7_counts_43 hC k12 h12 v0 v1 v2 v0 ((σ.1 v0 33)) (1 : Int32) σ ls hk_v0 hk_v0 nB_1 (lv_sub hl [0, 1, 2] rfl)
set_option maxRecDepth 100000 in
set_option maxHeartbeats 4000000 in
theorem lX7_counts_12 {p : Program} {l : Launch} {e : Env} {s : State} {m : MethodId} {args : Array Value} {below : List Frame} {meth : Method} {c : Code} {b0 : Nat} {cA : Nat → ClassId} {D : va_G} {L : List (Nat × Nat)} (hC : zC p c s m args meth cX7_counts 3 (none) (Cond.code yX7_counts cX7_counts 3 (none)) yX7_counts.cls cA D)  (n : Nat) : ∀ (v0 : Nat) (v1 : Int32) (v2 : Int32) (σ : zS) (ls : Array Slot), L[v0]? = some (0, 7) → lv_has ls 3 [(0, .ref (b0 + v0)), (1, .int v1), (2, .int v2)] → zJ p l e rmX7_counts s m args below meth c b0 cA D L (fun z => MQ below (va_Qv (fun (u : zS) => ((), u) = z) (zB b0 cA D L) (zA b0 L)) args s 0 0 (zA b0 L)) (fX7_counts_12  n v0 v1 v2 σ) σ 12 ls [] := by
  induction n with
  | zero => intros; exact zj_none
  | succ n ih => exact jX7_counts_12 hC (fX7_counts_12  n) ih
set_option maxRecDepth 100000 in
set_option maxHeartbeats 4000000 in
theorem kX7_counts (l : Launch) (b0 : Nat) (cA : Nat → ClassId) (D : va_G) (L : List (Nat × Nat)) (v0 : Nat) (v1 : Int32) (σ : zS) (hk0 : L[v0]? = some (0, 7)) : zMv l b0 cA D L yX7_counts (Cond.code yX7_counts cX7_counts 3 (none)) rmX7_counts [.ref (b0 + v0), .int v1] σ (fX7_counts v0 v1 σ) := by
  refine zMv_of (by decide) (Nat.le_of_ble_eq_true rfl) ?_
  intro p e s m below meth c ls hC hl
  have hl : lv_has ls 3 [(0, .ref (b0 + v0)), (1, .int v1)] := hl
  generalize ([.ref (b0 + v0), .int v1] : List Value).toArray = args at hC ⊢
  unfold fX7_counts
  refine zj_aload_n (pc' := 1) hC dX7_counts_0 rfl rfl (lv_at hl 0 rfl) ?_
  refine zj_iconst (pc' := 2) (v := (0 : Int32)) hC dX7_counts_1 rfl rfl ?_
  refine zj_putI (pc' := 5) hC hk0 fd_7_33 rfl tw_4_81 rfl rfl rfl dX7_counts_2 rfl (fun σ10 => ?_)
  refine zj_aload_n (pc' := 6) hC dX7_counts_5 rfl rfl (lv_at hl 0 rfl) ?_
  refine zj_iconst (pc' := 7) (v := (0 : Int32)) hC dX7_counts_6 rfl rfl ?_
  refine zj_putI (pc' := 10) hC hk0 fd_7_34 rfl tw_4_82 rfl rfl rfl dX7_counts_7 rfl (fun σ11 => ?_)
  refine zj_iconst (pc' := 11) (v := (0 : Int32)) hC dX7_counts_10 rfl rfl ?_
  refine zj_istore_n (pc' := 12) (lv' := [(2, .int (0 : Int32)), (0, .ref (b0 + v0)), (1, .int v1)]) hC dX7_counts_11 rfl rfl hl (by decide) rfl (fun ls hl => ?_)
  exact lX7_counts_12 hC zFU v0 v1 (0 : Int32) σ11 ls hk0 (lv_sub hl [1, 2, 0] rfl)
-- X7_plays
theorem ddX7_plays : yX7_plays.cls ≠ "java/lang/invoke/MethodHandle" ∧ yX7_plays.cls ≠ "java/lang/invoke/VarHandle" ∧ (parseMethodDescriptor yX7_plays.desc).map (fun d => d.parameters.length) = some 1 := by decide +kernel
abbrev rmX7_plays : Room := { frames := 3, cells := 0, slots := 0, locals := 70 }
def bX7_plays_154 (k4 : Nat → Int32 → Int32 → Int32 → zS → Option (Int32 × zS)) (v0 : Nat) (v1 : Int32) (v2 : Int32) (v3 : Int32) (σ : zS) : Option (Int32 × zS) :=
  zb (fX7_counts v0 v3 σ) (fun (_ : Unit) (σ1 : zS) => bnd (((v2 + (σ1.1 v0 33)) - (σ1.1 v0 34))) (fun (x3 : Int32) => k4 v0 v1 x3 ((v3 + (1 : Int32))) σ1))
def bX7_plays_134 (k15 : Nat → Int32 → Int32 → Int32 → Int32 → zS → Option (Int32 × zS)) (v0 : Nat) (v1 : Int32) (v2 : Int32) (v3 : Int32) (v4 : Int32) (v5 : Int32) (σ : zS) : Option (Int32 × zS) :=
  bnd (σ.2 v0 32) (fun (q4 : Nat) => zX (((24 : Int32) * v3) + v4) 960 (bnd (zI σ q4 ((((24 : Int32) * v3) + v4)).toNatClampNeg v5) (fun (σ6 : zS) => k15 v0 v1 v2 v3 ((v4 + (1 : Int32))) σ6)))
def bX7_plays_54 (k134 : Nat → Int32 → Int32 → Int32 → Int32 → Int32 → zS → Option (Int32 × zS)) (v0 : Nat) (v1 : Int32) (v2 : Int32) (v3 : Int32) (v4 : Int32) (σ : zS) : Option (Int32 × zS) :=
  bnd (σ.2 v0 35) (fun (q7 : Nat) => zX v4 24 (if (σ.1 q7 (v4).toNatClampNeg) = 0 then (bnd (σ.2 v0 32) (fun (q10 : Nat) => bnd (σ.2 v0 4) (fun (q11 : Nat) => bnd (σ.2 v0 35) (fun (q12 : Nat) => bnd (σ.2 v0 5) (fun (q13 : Nat) => zb (fX7_goodFor v0 v4 v3 σ) (fun (r15 : Int32) (σ14 : zS) => zb (fX7_feels 960 v0 q10 (0 : Int32) q11 q12 q13 r15 ((σ14.1 v0 0)) v4 v3 σ14) (fun (_ : Unit) (σ16 : zS) => bnd (σ16.2 v0 4) (fun (q18 : Nat) => zX v4 24 (zb (fX7_byLaw v0 ((σ16.1 q18 (v4).toNatClampNeg)) σ16) (fun (r21 : Int32) (σ20 : zS) => k134 v0 v1 v2 v3 v4 r21 σ20)))))))))) else (bnd (σ.2 v0 9) (fun (q22 : Nat) => bnd (σ.2 v0 35) (fun (q23 : Nat) => zX v4 24 (zX (((40 : Int32) * (σ.1 q23 (v4).toNatClampNeg)) + v3) 120 (bnd ((σ.1 q22 ((((40 : Int32) * (σ.1 q23 (v4).toNatClampNeg)) + v3)).toNatClampNeg)) (fun (x26 : Int32) => k134 v0 v1 v2 v3 v4 x26 σ))))))))
def bX7_plays_15 (k4 : Nat → Int32 → Int32 → Int32 → zS → Option (Int32 × zS)) (k15 : Nat → Int32 → Int32 → Int32 → Int32 → zS → Option (Int32 × zS)) (v0 : Nat) (v1 : Int32) (v2 : Int32) (v3 : Int32) (v4 : Int32) (σ : zS) : Option (Int32 × zS) :=
  if (24 : Int32) ≤ v4 then (bX7_plays_154 k4 v0 v1 v2 v3 σ) else (zb (fX7_isTaken v0 v4 σ) (fun (r29 : Int32) (σ28 : zS) => if r29 = 0 then (bX7_plays_134 k15 v0 v1 v2 v3 v4 (0 : Int32) σ28) else (if v3 = 0 then (if ((v1 >>> (v4 &&& 31)) &&& (1 : Int32)) = (1 : Int32) then (bX7_plays_134 k15 v0 v1 v2 v3 v4 (1 : Int32) σ28) else (bX7_plays_54 (bX7_plays_134 k15) v0 v1 v2 v3 v4 σ28)) else (bX7_plays_54 (bX7_plays_134 k15) v0 v1 v2 v3 v4 σ28))))
def fX7_plays_15 (k4 : Nat → Int32 → Int32 → Int32 → zS → Option (Int32 × zS)) : Nat → Nat → Int32 → Int32 → Int32 → Int32 → zS → Option (Int32 × zS)
  | 0, _, _, _, _, _, _ => none
  | n + 1, v0, v1, v2, v3, v4, σ => bX7_plays_15 k4 (fX7_plays_15 k4 n) v0 v1 v2 v3 v4 σ
def bX7_plays_4 (k4 : Nat → Int32 → Int32 → Int32 → zS → Option (Int32 × zS)) (v0 : Nat) (v1 : Int32) (v2 : Int32) (v3 : Int32) (σ : zS) : Option (Int32 × zS) :=
  if (σ.1 v0 1) ≤ v3 then (some (v2, σ)) else (fX7_plays_15 k4 zFU v0 v1 v2 v3 (0 : Int32) σ)
def fX7_plays_4  : Nat → Nat → Int32 → Int32 → Int32 → zS → Option (Int32 × zS)
  | 0, _, _, _, _, _ => none
  | n + 1, v0, v1, v2, v3, σ => bX7_plays_4 (fX7_plays_4  n) v0 v1 v2 v3 σ
def fX7_plays (v0 : Nat) (v1 : Int32) (σ : zS) : Option (Int32 × zS) :=
  fX7_plays_4 zFU v0 v1 (0 : Int32) (0 : Int32) σ
set_option maxRecDepth 100000 in
set_option maxHeartbeats 4000000 in
theorem jX7_plays_154 {p : Program} {l : Launch} {e : Env} {s : State} {m : MethodId} {args : Array Value} {below : List Frame} {meth : Method} {c : Code} {b0 : Nat} {cA : Nat → ClassId} {D : va_G} {L : List (Nat × Nat)} (hC : zC p c s m args meth cX7_plays 6 (some Jvm.ClassFile.FieldType.int) (Cond.code yX7_plays cX7_plays 6 (some Jvm.ClassFile.FieldType.int)) yX7_plays.cls cA D) (k4 : Nat → Int32 → Int32 → Int32 → zS → Option (Int32 × zS)) (h4 : ∀ (v0 : Nat) (v1 : Int32) (v2 : Int32) (v3 : Int32) (σ : zS) (ls : Array Slot), L[v0]? = some (0, 7) → lv_has ls 6 [(0, .ref (b0 + v0)), (1, .int v1), (2, .int v2), (3, .int v3)] → zJ p l e rmX7_plays s m args below meth c b0 cA D L (fun z => MQ below (va_Qi (fun (r : Int32) (u : zS) => (r, u) = z) (zB b0 cA D L) (zA b0 L)) args s 0 0 (zA b0 L)) (k4 v0 v1 v2 v3 σ) σ 4 ls []) (v0 : Nat) (v1 : Int32) (v2 : Int32) (v3 : Int32) (σ : zS) (ls : Array Slot) (hk_v0 : L[v0]? = some (0, 7)) (hl : lv_has ls 6 [(0, .ref (b0 + v0)), (1, .int v1), (2, .int v2), (3, .int v3)]) : zJ p l e rmX7_plays s m args below meth c b0 cA D L (fun z => MQ below (va_Qi (fun (r : Int32) (u : zS) => (r, u) = z) (zB b0 cA D L) (zA b0 L)) args s 0 0 (zA b0 L)) (bX7_plays_154 k4 v0 v1 v2 v3 σ) σ 154 ls [] := by
  unfold bX7_plays_154
  refine zj_aload_n (pc' := 155) hC dX7_plays_154 rfl rfl (lv_at hl 0 rfl) ?_
  refine zj_iload_n (pc' := 156) hC dX7_plays_155 rfl rfl (lv_at hl 3 rfl) ?_
  refine zj_callvV (pc' := 159) (rest := []) hC (kX7_counts l b0 cA D L v0 v3 σ hk_v0) hk_v0 rfl tw_5_145 tw_5_142 tw_5_144 ts_4_15 tw_1_8 ddX7_counts rfl ⟨rfl, rfl⟩ ⟨by decide, by decide⟩ hl.1 (Nat.le_of_ble_eq_true rfl) rfl dX7_plays_156 rfl (fun σ1 => ?_)
  refine zj_iload_n (pc' := 160) hC dX7_plays_159 rfl rfl (lv_at hl 2 rfl) ?_
  refine zj_aload_n (pc' := 161) hC dX7_plays_160 rfl rfl (lv_at hl 0 rfl) ?_
  refine zj_getI (pc' := 164) hC hk_v0 fd_7_33 rfl tw_4_81 dX7_plays_161 rfl ?_
  refine zj_iadd (pc' := 165) hC dX7_plays_164 rfl ?_
  refine zj_aload_n (pc' := 166) hC dX7_plays_165 rfl rfl (lv_at hl 0 rfl) ?_
  refine zj_getI (pc' := 169) hC hk_v0 fd_7_34 rfl tw_4_82 dX7_plays_166 rfl ?_
  refine zj_isub (pc' := 170) hC dX7_plays_169 rfl ?_
  refine zj_nmi (fun x3 => ?_)
  refine zj_istore_n (pc' := 171) (lv' := [(2, .int x3), (0, .ref (b0 + v0)), (1, .int v1), (3, .int v3)]) hC dX7_plays_170 rfl rfl hl (by decide) rfl (fun ls hl => ?_)
  refine zj_iinc (pc' := 174) (k0 := 3) (v := (v3 + (1 : Int32))) (lv' := [(3, .int (v3 + (1 : Int32))), (2, .int x3), (0, .ref (b0 + v0)), (1, .int v1)]) hC dX7_plays_171 rfl hl rfl rfl (by decide) rfl (fun ls hl => ?_)
  refine zj_goto (tgt := 4) hC dX7_plays_174 (by decide) ?_
  exact h4 v0 v1 x3 ((v3 + (1 : Int32))) σ1 ls hk_v0 (lv_sub hl [2, 3, 1, 0] rfl)
set_option maxRecDepth 100000 in
set_option maxHeartbeats 4000000 in
theorem jX7_plays_134 {p : Program} {l : Launch} {e : Env} {s : State} {m : MethodId} {args : Array Value} {below : List Frame} {meth : Method} {c : Code} {b0 : Nat} {cA : Nat → ClassId} {D : va_G} {L : List (Nat × Nat)} (hC : zC p c s m args meth cX7_plays 6 (some Jvm.ClassFile.FieldType.int) (Cond.code yX7_plays cX7_plays 6 (some Jvm.ClassFile.FieldType.int)) yX7_plays.cls cA D) (k15 : Nat → Int32 → Int32 → Int32 → Int32 → zS → Option (Int32 × zS)) (h15 : ∀ (v0 : Nat) (v1 : Int32) (v2 : Int32) (v3 : Int32) (v4 : Int32) (σ : zS) (ls : Array Slot), L[v0]? = some (0, 7) → lv_has ls 6 [(0, .ref (b0 + v0)), (1, .int v1), (2, .int v2), (3, .int v3), (4, .int v4)] → zJ p l e rmX7_plays s m args below meth c b0 cA D L (fun z => MQ below (va_Qi (fun (r : Int32) (u : zS) => (r, u) = z) (zB b0 cA D L) (zA b0 L)) args s 0 0 (zA b0 L)) (k15 v0 v1 v2 v3 v4 σ) σ 15 ls []) (v0 : Nat) (v1 : Int32) (v2 : Int32) (v3 : Int32) (v4 : Int32) (v5 : Int32) (σ : zS) (ls : Array Slot) (hk_v0 : L[v0]? = some (0, 7)) (hl : lv_has ls 6 [(0, .ref (b0 + v0)), (1, .int v1), (2, .int v2), (3, .int v3), (4, .int v4), (5, .int v5)]) : zJ p l e rmX7_plays s m args below meth c b0 cA D L (fun z => MQ below (va_Qi (fun (r : Int32) (u : zS) => (r, u) = z) (zB b0 cA D L) (zA b0 L)) args s 0 0 (zA b0 L)) (bX7_plays_134 k15 v0 v1 v2 v3 v4 v5 σ) σ 134 ls [] := by
  unfold bX7_plays_134
  refine zj_aload_n (pc' := 135) hC dX7_plays_134 rfl rfl (lv_at hl 0 rfl) ?_
  refine zj_getR (pc' := 138) hC hk_v0 fd_7_32 rfl tw_4_80 dX7_plays_135 rfl (fun q4 hk_q4 => ?_)
  refine zj_bipush (pc' := 140) (v := (24 : Int32)) hC dX7_plays_138 rfl rfl ?_
  refine zj_iload_n (pc' := 141) hC dX7_plays_140 rfl rfl (lv_at hl 3 rfl) ?_
  refine zj_imul (pc' := 142) hC dX7_plays_141 rfl ?_
  refine zj_iload (pc' := 144) hC dX7_plays_142 rfl (lv_at hl 4 rfl) ?_
  refine zj_iadd (pc' := 145) hC dX7_plays_144 rfl ?_
  refine zj_iload (pc' := 147) hC dX7_plays_145 rfl (lv_at hl 5 rfl) ?_
  refine zj_iast (pc' := 148) hC hk_q4 dX7_plays_147 rfl (fun g5 σ6 => ?_)
  refine zj_iinc (pc' := 151) (k0 := 4) (v := (v4 + (1 : Int32))) (lv' := [(4, .int (v4 + (1 : Int32))), (0, .ref (b0 + v0)), (1, .int v1), (2, .int v2), (3, .int v3), (5, .int v5)]) hC dX7_plays_148 rfl hl rfl rfl (by decide) rfl (fun ls hl => ?_)
  refine zj_goto (tgt := 15) hC dX7_plays_151 (by decide) ?_
  exact h15 v0 v1 v2 v3 ((v4 + (1 : Int32))) σ6 ls hk_v0 (lv_sub hl [1, 2, 3, 4, 0] rfl)
set_option maxRecDepth 100000 in
set_option maxHeartbeats 4000000 in
theorem jX7_plays_54 {p : Program} {l : Launch} {e : Env} {s : State} {m : MethodId} {args : Array Value} {below : List Frame} {meth : Method} {c : Code} {b0 : Nat} {cA : Nat → ClassId} {D : va_G} {L : List (Nat × Nat)} (hC : zC p c s m args meth cX7_plays 6 (some Jvm.ClassFile.FieldType.int) (Cond.code yX7_plays cX7_plays 6 (some Jvm.ClassFile.FieldType.int)) yX7_plays.cls cA D) (k134 : Nat → Int32 → Int32 → Int32 → Int32 → Int32 → zS → Option (Int32 × zS)) (h134 : ∀ (v0 : Nat) (v1 : Int32) (v2 : Int32) (v3 : Int32) (v4 : Int32) (v5 : Int32) (σ : zS) (ls : Array Slot), L[v0]? = some (0, 7) → lv_has ls 6 [(0, .ref (b0 + v0)), (1, .int v1), (2, .int v2), (3, .int v3), (4, .int v4), (5, .int v5)] → zJ p l e rmX7_plays s m args below meth c b0 cA D L (fun z => MQ below (va_Qi (fun (r : Int32) (u : zS) => (r, u) = z) (zB b0 cA D L) (zA b0 L)) args s 0 0 (zA b0 L)) (k134 v0 v1 v2 v3 v4 v5 σ) σ 134 ls []) (v0 : Nat) (v1 : Int32) (v2 : Int32) (v3 : Int32) (v4 : Int32) (σ : zS) (ls : Array Slot) (hk_v0 : L[v0]? = some (0, 7)) (hl : lv_has ls 6 [(0, .ref (b0 + v0)), (1, .int v1), (2, .int v2), (3, .int v3), (4, .int v4)]) : zJ p l e rmX7_plays s m args below meth c b0 cA D L (fun z => MQ below (va_Qi (fun (r : Int32) (u : zS) => (r, u) = z) (zB b0 cA D L) (zA b0 L)) args s 0 0 (zA b0 L)) (bX7_plays_54 k134 v0 v1 v2 v3 v4 σ) σ 54 ls [] := by
  unfold bX7_plays_54
  refine zj_aload_n (pc' := 55) hC dX7_plays_54 rfl rfl (lv_at hl 0 rfl) ?_
  refine zj_getR (pc' := 58) hC hk_v0 fd_7_35 rfl tw_4_83 dX7_plays_55 rfl (fun q7 hk_q7 => ?_)
  refine zj_iload (pc' := 60) hC dX7_plays_58 rfl (lv_at hl 4 rfl) ?_
  refine zj_iald (pc' := 61) hC hk_q7 dX7_plays_60 rfl (fun g8 => ?_)
  refine zj_if_eq (tgt := 86) (pc' := 64) hC dX7_plays_61 (by decide) rfl (fun c9 => ?_) (fun c9 => ?_)
  · refine zj_aload_n (pc' := 87) hC dX7_plays_86 rfl rfl (lv_at hl 0 rfl) ?_
    refine zj_aload_n (pc' := 88) hC dX7_plays_87 rfl rfl (lv_at hl 0 rfl) ?_
    refine zj_getR (pc' := 91) hC hk_v0 fd_7_32 rfl tw_4_80 dX7_plays_88 rfl (fun q10 hk_q10 => ?_)
    refine zj_iconst (pc' := 92) (v := (0 : Int32)) hC dX7_plays_91 rfl rfl ?_
    refine zj_aload_n (pc' := 93) hC dX7_plays_92 rfl rfl (lv_at hl 0 rfl) ?_
    refine zj_getR (pc' := 96) hC hk_v0 fd_7_4 rfl tw_4_52 dX7_plays_93 rfl (fun q11 hk_q11 => ?_)
    refine zj_aload_n (pc' := 97) hC dX7_plays_96 rfl rfl (lv_at hl 0 rfl) ?_
    refine zj_getR (pc' := 100) hC hk_v0 fd_7_35 rfl tw_4_83 dX7_plays_97 rfl (fun q12 hk_q12 => ?_)
    refine zj_aload_n (pc' := 101) hC dX7_plays_100 rfl rfl (lv_at hl 0 rfl) ?_
    refine zj_getR (pc' := 104) hC hk_v0 fd_7_5 rfl tw_4_53 dX7_plays_101 rfl (fun q13 hk_q13 => ?_)
    refine zj_aload_n (pc' := 105) hC dX7_plays_104 rfl rfl (lv_at hl 0 rfl) ?_
    refine zj_iload (pc' := 107) hC dX7_plays_105 rfl (lv_at hl 4 rfl) ?_
    refine zj_iload_n (pc' := 108) hC dX7_plays_107 rfl rfl (lv_at hl 3 rfl) ?_
    refine zj_calliV (pc' := 111) (rest := [.ref (b0 + q13), .ref (b0 + q12), .ref (b0 + q11), .int (0 : Int32), .ref (b0 + q10), .ref (b0 + v0)]) hC (kX7_goodFor l b0 cA D L v0 v4 v3 σ hk_v0) hk_v0 rfl tw_5_122 tw_5_119 tw_5_121 ts_4_10 tw_1_8 ddX7_goodFor rfl ⟨rfl, rfl⟩ ⟨by decide, by decide⟩ hl.1 (Nat.le_of_ble_eq_true rfl) rfl dX7_plays_108 rfl (fun r15 σ14 => ?_)
    refine zj_aload_n (pc' := 112) hC dX7_plays_111 rfl rfl (lv_at hl 0 rfl) ?_
    refine zj_getI (pc' := 115) hC hk_v0 fd_7_0 rfl tw_4_48 dX7_plays_112 rfl ?_
    refine zj_iload (pc' := 117) hC dX7_plays_115 rfl (lv_at hl 4 rfl) ?_
    refine zj_iload_n (pc' := 118) hC dX7_plays_117 rfl rfl (lv_at hl 3 rfl) ?_
    refine zj_callvV (pc' := 121) (rest := []) hC (kX7_feels l b0 cA D L 960 v0 q10 (0 : Int32) q11 q12 q13 r15 ((σ14.1 v0 0)) v4 v3 σ14 hk_v0 hk_q10 hk_q11 hk_q12 hk_q13) hk_v0 rfl tw_5_126 tw_5_123 tw_5_125 ts_4_11 tw_1_8 ddX7_feels rfl ⟨rfl, rfl⟩ ⟨by decide, by decide⟩ hl.1 (Nat.le_of_ble_eq_true rfl) rfl dX7_plays_118 rfl (fun σ16 => ?_)
    refine zj_aload_n (pc' := 122) hC dX7_plays_121 rfl rfl (lv_at hl 0 rfl) ?_
    refine zj_aload_n (pc' := 123) hC dX7_plays_122 rfl rfl (lv_at hl 0 rfl) ?_
    refine zj_getR (pc' := 126) hC hk_v0 fd_7_4 rfl tw_4_52 dX7_plays_123 rfl (fun q18 hk_q18 => ?_)
    refine zj_iload (pc' := 128) hC dX7_plays_126 rfl (lv_at hl 4 rfl) ?_
    refine zj_iald (pc' := 129) hC hk_q18 dX7_plays_128 rfl (fun g19 => ?_)
    refine zj_calliV (pc' := 132) (rest := []) hC (kX7_byLaw l b0 cA D L v0 ((σ16.1 q18 (v4).toNatClampNeg)) σ16 hk_v0) hk_v0 rfl tw_5_134 tw_5_131 tw_5_133 ts_4_13 tw_1_8 ddX7_byLaw rfl ⟨rfl, rfl⟩ ⟨by decide, by decide⟩ hl.1 (Nat.le_of_ble_eq_true rfl) rfl dX7_plays_129 rfl (fun r21 σ20 => ?_)
    refine zj_istore (pc' := 134) (lv' := [(5, .int r21), (0, .ref (b0 + v0)), (1, .int v1), (2, .int v2), (3, .int v3), (4, .int v4)]) hC dX7_plays_132 rfl hl (by decide) rfl (fun ls hl => ?_)
    exact h134 v0 v1 v2 v3 v4 r21 σ20 ls hk_v0 (lv_sub hl [1, 2, 3, 4, 5, 0] rfl)
  · refine zj_aload_n (pc' := 65) hC dX7_plays_64 rfl rfl (lv_at hl 0 rfl) ?_
    refine zj_getR (pc' := 68) hC hk_v0 fd_7_9 rfl tw_4_57 dX7_plays_65 rfl (fun q22 hk_q22 => ?_)
    refine zj_bipush (pc' := 70) (v := (40 : Int32)) hC dX7_plays_68 rfl rfl ?_
    refine zj_aload_n (pc' := 71) hC dX7_plays_70 rfl rfl (lv_at hl 0 rfl) ?_
    refine zj_getR (pc' := 74) hC hk_v0 fd_7_35 rfl tw_4_83 dX7_plays_71 rfl (fun q23 hk_q23 => ?_)
    refine zj_iload (pc' := 76) hC dX7_plays_74 rfl (lv_at hl 4 rfl) ?_
    refine zj_iald (pc' := 77) hC hk_q23 dX7_plays_76 rfl (fun g24 => ?_)
    refine zj_imul (pc' := 78) hC dX7_plays_77 rfl ?_
    refine zj_iload_n (pc' := 79) hC dX7_plays_78 rfl rfl (lv_at hl 3 rfl) ?_
    refine zj_iadd (pc' := 80) hC dX7_plays_79 rfl ?_
    refine zj_iald (pc' := 81) hC hk_q22 dX7_plays_80 rfl (fun g25 => ?_)
    refine zj_nmi (fun x26 => ?_)
    refine zj_istore (pc' := 83) (lv' := [(5, .int x26), (0, .ref (b0 + v0)), (1, .int v1), (2, .int v2), (3, .int v3), (4, .int v4)]) hC dX7_plays_81 rfl hl (by decide) rfl (fun ls hl => ?_)
    refine zj_goto (tgt := 134) hC dX7_plays_83 (by decide) ?_
    exact h134 v0 v1 v2 v3 v4 x26 σ ls hk_v0 (lv_sub hl [1, 2, 3, 4, 5, 0] rfl)
set_option maxRecDepth 100000 in
set_option maxHeartbeats 4000000 in
theorem jX7_plays_15 {p : Program} {l : Launch} {e : Env} {s : State} {m : MethodId} {args : Array Value} {below : List Frame} {meth : Method} {c : Code} {b0 : Nat} {cA : Nat → ClassId} {D : va_G} {L : List (Nat × Nat)} (hC : zC p c s m args meth cX7_plays 6 (some Jvm.ClassFile.FieldType.int) (Cond.code yX7_plays cX7_plays 6 (some Jvm.ClassFile.FieldType.int)) yX7_plays.cls cA D) (k4 : Nat → Int32 → Int32 → Int32 → zS → Option (Int32 × zS)) (h4 : ∀ (v0 : Nat) (v1 : Int32) (v2 : Int32) (v3 : Int32) (σ : zS) (ls : Array Slot), L[v0]? = some (0, 7) → lv_has ls 6 [(0, .ref (b0 + v0)), (1, .int v1), (2, .int v2), (3, .int v3)] → zJ p l e rmX7_plays s m args below meth c b0 cA D L (fun z => MQ below (va_Qi (fun (r : Int32) (u : zS) => (r, u) = z) (zB b0 cA D L) (zA b0 L)) args s 0 0 (zA b0 L)) (k4 v0 v1 v2 v3 σ) σ 4 ls []) (k15 : Nat → Int32 → Int32 → Int32 → Int32 → zS → Option (Int32 × zS)) (h15 : ∀ (v0 : Nat) (v1 : Int32) (v2 : Int32) (v3 : Int32) (v4 : Int32) (σ : zS) (ls : Array Slot), L[v0]? = some (0, 7) → lv_has ls 6 [(0, .ref (b0 + v0)), (1, .int v1), (2, .int v2), (3, .int v3), (4, .int v4)] → zJ p l e rmX7_plays s m args below meth c b0 cA D L (fun z => MQ below (va_Qi (fun (r : Int32) (u : zS) => (r, u) = z) (zB b0 cA D L) (zA b0 L)) args s 0 0 (zA b0 L)) (k15 v0 v1 v2 v3 v4 σ) σ 15 ls []) (v0 : Nat) (v1 : Int32) (v2 : Int32) (v3 : Int32) (v4 : Int32) (σ : zS) (ls : Array Slot) (hk_v0 : L[v0]? = some (0, 7)) (hl : lv_has ls 6 [(0, .ref (b0 + v0)), (1, .int v1), (2, .int v2), (3, .int v3), (4, .int v4)]) : zJ p l e rmX7_plays s m args below meth c b0 cA D L (fun z => MQ below (va_Qi (fun (r : Int32) (u : zS) => (r, u) = z) (zB b0 cA D L) (zA b0 L)) args s 0 0 (zA b0 L)) (bX7_plays_15 k4 k15 v0 v1 v2 v3 v4 σ) σ 15 ls [] := by
  unfold bX7_plays_15
  refine zj_iload (pc' := 17) hC dX7_plays_15 rfl (lv_at hl 4 rfl) ?_
  refine zj_bipush (pc' := 19) (v := (24 : Int32)) hC dX7_plays_17 rfl rfl ?_
  refine zj_icmp_ge (tgt := 154) (pc' := 22) hC dX7_plays_19 (by decide) rfl (fun c27 => ?_) (fun c27 => ?_)
  · exact jX7_plays_154 hC k4 h4 v0 v1 v2 v3 σ ls hk_v0 (lv_sub hl [0, 1, 2, 3] rfl)
  · refine zj_iconst (pc' := 23) (v := (0 : Int32)) hC dX7_plays_22 rfl rfl ?_
    refine zj_istore (pc' := 25) (lv' := [(5, .int (0 : Int32)), (0, .ref (b0 + v0)), (1, .int v1), (2, .int v2), (3, .int v3), (4, .int v4)]) hC dX7_plays_23 rfl hl (by decide) rfl (fun ls hl => ?_)
    refine zj_aload_n (pc' := 26) hC dX7_plays_25 rfl rfl (lv_at hl 1 rfl) ?_
    refine zj_iload (pc' := 28) hC dX7_plays_26 rfl (lv_at hl 5 rfl) ?_
    refine zj_callzV (pc' := 31) (rest := []) hC (kX7_isTaken l b0 cA D L v0 v4 σ hk_v0) hk_v0 rfl tw_4_222 tw_4_219 tw_4_221 ts_3_4 tw_1_8 ddX7_isTaken rfl ⟨rfl, rfl⟩ ⟨by decide, by decide⟩ hl.1 (Nat.le_of_ble_eq_true rfl) rfl dX7_plays_28 rfl (fun r29 σ28 hb_r29 => ?_)
    refine zj_if_eq (tgt := 134) (pc' := 34) hC dX7_plays_31 (by decide) rfl (fun c30 => ?_) (fun c30 => ?_)
    · exact jX7_plays_134 hC k15 h15 v0 v1 v2 v3 v4 (0 : Int32) σ28 ls hk_v0 (lv_sub hl [1, 2, 3, 4, 5, 0] rfl)
    · refine zj_iload_n (pc' := 35) hC dX7_plays_34 rfl rfl (lv_at hl 4 rfl) ?_
      refine zj_if_ne (tgt := 54) (pc' := 38) hC dX7_plays_35 (by decide) rfl (fun c31 => ?_) (fun c31 => ?_)
      · exact jX7_plays_54 hC (bX7_plays_134 k15) (jX7_plays_134 hC k15 h15) v0 v1 v2 v3 v4 σ28 ls hk_v0 (lv_sub hl [1, 2, 3, 4, 5] rfl)
      · refine zj_iload_n (pc' := 39) hC dX7_plays_38 rfl rfl (lv_at hl 2 rfl) ?_
        refine zj_iload (pc' := 41) hC dX7_plays_39 rfl (lv_at hl 5 rfl) ?_
        refine zj_ishr (pc' := 42) hC dX7_plays_41 rfl ?_
        refine zj_iconst (pc' := 43) (v := (1 : Int32)) hC dX7_plays_42 rfl rfl ?_
        refine zj_iand (pc' := 44) hC dX7_plays_43 rfl ?_
        refine zj_iconst (pc' := 45) (v := (1 : Int32)) hC dX7_plays_44 rfl rfl ?_
        refine zj_icmp_ne (tgt := 54) (pc' := 48) hC dX7_plays_45 (by decide) rfl (fun c32 => ?_) (fun c32 => ?_)
        · exact jX7_plays_54 hC (bX7_plays_134 k15) (jX7_plays_134 hC k15 h15) v0 v1 v2 v3 v4 σ28 ls hk_v0 (lv_sub hl [1, 2, 3, 4, 5] rfl)
        · refine zj_iconst (pc' := 49) (v := (1 : Int32)) hC dX7_plays_48 rfl rfl ?_
          refine zj_istore (pc' := 51) (lv' := [(5, .int (1 : Int32)), (0, .ref (b0 + v0)), (1, .int v1), (2, .int v2), (3, .int v3), (4, .int v4)]) hC dX7_plays_49 rfl hl (by decide) rfl (fun ls hl => ?_)
          refine zj_goto (tgt := 134) hC dX7_plays_51 (by decide) ?_
          exact jX7_plays_134 hC k15 h15 v0 v1 v2 v3 v4 (1 : Int32) σ28 ls hk_v0 (lv_sub hl [1, 2, 3, 4, 5, 0] rfl)
set_option maxRecDepth 100000 in
set_option maxHeartbeats 4000000 in
theorem lX7_plays_15 {p : Program} {l : Launch} {e : Env} {s : State} {m : MethodId} {args : Array Value} {below : List Frame} {meth : Method} {c : Code} {b0 : Nat} {cA : Nat → ClassId} {D : va_G} {L : List (Nat × Nat)} (hC : zC p c s m args meth cX7_plays 6 (some Jvm.ClassFile.FieldType.int) (Cond.code yX7_plays cX7_plays 6 (some Jvm.ClassFile.FieldType.int)) yX7_plays.cls cA D) (k4 : Nat → Int32 → Int32 → Int32 → zS → Option (Int32 × zS)) (h4 : ∀ (v0 : Nat) (v1 : Int32) (v2 : Int32) (v3 : Int32) (σ : zS) (ls : Array Slot), L[v0]? = some (0, 7) → lv_has ls 6 [(0, .ref (b0 + v0)), (1, .int v1), (2, .int v2), (3, .int v3)] → zJ p l e rmX7_plays s m args below meth c b0 cA D L (fun z => MQ below (va_Qi (fun (r : Int32) (u : zS) => (r, u) = z) (zB b0 cA D L) (zA b0 L)) args s 0 0 (zA b0 L)) (k4 v0 v1 v2 v3 σ) σ 4 ls []) (n : Nat) : ∀ (v0 : Nat) (v1 : Int32) (v2 : Int32) (v3 : Int32) (v4 : Int32) (σ : zS) (ls : Array Slot), L[v0]? = some (0, 7) → lv_has ls 6 [(0, .ref (b0 + v0)), (1, .int v1), (2, .int v2), (3, .int v3), (4, .int v4)] → zJ p l e rmX7_plays s m args below meth c b0 cA D L (fun z => MQ below (va_Qi (fun (r : Int32) (u : zS) => (r, u) = z) (zB b0 cA D L) (zA b0 L)) args s 0 0 (zA b0 L)) (fX7_plays_15 k4 n v0 v1 v2 v3 v4 σ) σ 15 ls [] := by
  induction n with
  | zero => intros; exact zj_none
  | succ n ih => exact jX7_plays_15 hC k4 h4 (fX7_plays_15 k4 n) ih
set_option maxRecDepth 100000 in
set_option maxHeartbeats 4000000 in
theorem jX7_plays_4 {p : Program} {l : Launch} {e : Env} {s : State} {m : MethodId} {args : Array Value} {below : List Frame} {meth : Method} {c : Code} {b0 : Nat} {cA : Nat → ClassId} {D : va_G} {L : List (Nat × Nat)} (hC : zC p c s m args meth cX7_plays 6 (some Jvm.ClassFile.FieldType.int) (Cond.code yX7_plays cX7_plays 6 (some Jvm.ClassFile.FieldType.int)) yX7_plays.cls cA D) (k4 : Nat → Int32 → Int32 → Int32 → zS → Option (Int32 × zS)) (h4 : ∀ (v0 : Nat) (v1 : Int32) (v2 : Int32) (v3 : Int32) (σ : zS) (ls : Array Slot), L[v0]? = some (0, 7) → lv_has ls 6 [(0, .ref (b0 + v0)), (1, .int v1), (2, .int v2), (3, .int v3)] → zJ p l e rmX7_plays s m args below meth c b0 cA D L (fun z => MQ below (va_Qi (fun (r : Int32) (u : zS) => (r, u) = z) (zB b0 cA D L) (zA b0 L)) args s 0 0 (zA b0 L)) (k4 v0 v1 v2 v3 σ) σ 4 ls []) (v0 : Nat) (v1 : Int32) (v2 : Int32) (v3 : Int32) (σ : zS) (ls : Array Slot) (hk_v0 : L[v0]? = some (0, 7)) (hl : lv_has ls 6 [(0, .ref (b0 + v0)), (1, .int v1), (2, .int v2), (3, .int v3)]) : zJ p l e rmX7_plays s m args below meth c b0 cA D L (fun z => MQ below (va_Qi (fun (r : Int32) (u : zS) => (r, u) = z) (zB b0 cA D L) (zA b0 L)) args s 0 0 (zA b0 L)) (bX7_plays_4 k4 v0 v1 v2 v3 σ) σ 4 ls [] := by
  unfold bX7_plays_4
  refine zj_iload_n (pc' := 5) hC dX7_plays_4 rfl rfl (lv_at hl 3 rfl) ?_
  refine zj_aload_n (pc' := 6) hC dX7_plays_5 rfl rfl (lv_at hl 0 rfl) ?_
  refine zj_getI (pc' := 9) hC hk_v0 fd_7_1 rfl tw_4_49 dX7_plays_6 rfl ?_
  refine zj_icmp_ge (tgt := 177) (pc' := 12) hC dX7_plays_9 (by decide) rfl (fun c33 => ?_) (fun c33 => ?_)
  · refine zj_iload_n (pc' := 178) hC dX7_plays_177 rfl rfl (lv_at hl 2 rfl) ?_
    exact zj_iret hC dX7_plays_178
  · refine zj_iconst (pc' := 13) (v := (0 : Int32)) hC dX7_plays_12 rfl rfl ?_
    refine zj_istore (pc' := 15) (lv' := [(4, .int (0 : Int32)), (0, .ref (b0 + v0)), (1, .int v1), (2, .int v2), (3, .int v3)]) hC dX7_plays_13 rfl hl (by decide) rfl (fun ls hl => ?_)
    exact lX7_plays_15 hC k4 h4 zFU v0 v1 v2 v3 (0 : Int32) σ ls hk_v0 (lv_sub hl [1, 2, 3, 4, 0] rfl)
set_option maxRecDepth 100000 in
set_option maxHeartbeats 4000000 in
theorem lX7_plays_4 {p : Program} {l : Launch} {e : Env} {s : State} {m : MethodId} {args : Array Value} {below : List Frame} {meth : Method} {c : Code} {b0 : Nat} {cA : Nat → ClassId} {D : va_G} {L : List (Nat × Nat)} (hC : zC p c s m args meth cX7_plays 6 (some Jvm.ClassFile.FieldType.int) (Cond.code yX7_plays cX7_plays 6 (some Jvm.ClassFile.FieldType.int)) yX7_plays.cls cA D)  (n : Nat) : ∀ (v0 : Nat) (v1 : Int32) (v2 : Int32) (v3 : Int32) (σ : zS) (ls : Array Slot), L[v0]? = some (0, 7) → lv_has ls 6 [(0, .ref (b0 + v0)), (1, .int v1), (2, .int v2), (3, .int v3)] → zJ p l e rmX7_plays s m args below meth c b0 cA D L (fun z => MQ below (va_Qi (fun (r : Int32) (u : zS) => (r, u) = z) (zB b0 cA D L) (zA b0 L)) args s 0 0 (zA b0 L)) (fX7_plays_4  n v0 v1 v2 v3 σ) σ 4 ls [] := by
  induction n with
  | zero => intros; exact zj_none
  | succ n ih => exact jX7_plays_4 hC (fX7_plays_4  n) ih
set_option maxRecDepth 100000 in
set_option maxHeartbeats 4000000 in
theorem kX7_plays (l : Launch) (b0 : Nat) (cA : Nat → ClassId) (D : va_G) (L : List (Nat × Nat)) (v0 : Nat) (v1 : Int32) (σ : zS) (hk0 : L[v0]? = some (0, 7)) : zMi l b0 cA D L yX7_plays (Cond.code yX7_plays cX7_plays 6 (some Jvm.ClassFile.FieldType.int)) rmX7_plays [.ref (b0 + v0), .int v1] σ (fX7_plays v0 v1 σ) := by
  refine zMi_of (by decide) (Nat.le_of_ble_eq_true rfl) ?_
  intro p e s m below meth c ls hC hl
  have hl : lv_has ls 6 [(0, .ref (b0 + v0)), (1, .int v1)] := hl
  generalize ([.ref (b0 + v0), .int v1] : List Value).toArray = args at hC ⊢
  unfold fX7_plays
  refine zj_iconst (pc' := 1) (v := (0 : Int32)) hC dX7_plays_0 rfl rfl ?_
  refine zj_istore_n (pc' := 2) (lv' := [(2, .int (0 : Int32)), (0, .ref (b0 + v0)), (1, .int v1)]) hC dX7_plays_1 rfl rfl hl (by decide) rfl (fun ls hl => ?_)
  refine zj_iconst (pc' := 3) (v := (0 : Int32)) hC dX7_plays_2 rfl rfl ?_
  refine zj_istore_n (pc' := 4) (lv' := [(3, .int (0 : Int32)), (2, .int (0 : Int32)), (0, .ref (b0 + v0)), (1, .int v1)]) hC dX7_plays_3 rfl rfl hl (by decide) rfl (fun ls hl => ?_)
  exact lX7_plays_4 hC zFU v0 v1 (0 : Int32) (0 : Int32) σ ls hk0 (lv_sub hl [2, 3, 1, 0] rfl)
-- X7_playsAsTold
theorem ddX7_playsAsTold : yX7_playsAsTold.cls ≠ "java/lang/invoke/MethodHandle" ∧ yX7_playsAsTold.cls ≠ "java/lang/invoke/VarHandle" ∧ (parseMethodDescriptor yX7_playsAsTold.desc).map (fun d => d.parameters.length) = some 0 := by decide +kernel
abbrev rmX7_playsAsTold : Room := { frames := 4, cells := 0, slots := 0, locals := 95 }
def bX7_playsAsTold_26  (v0 : Nat) (σ : zS) : Option (Int32 × zS) :=
  zb (fX7_plays v0 (0 : Int32) σ) (fun (r2 : Int32) (σ1 : zS) => some (r2, σ1))
def bX7_playsAsTold_2 (k2 : Nat → Int32 → zS → Option (Int32 × zS)) (v0 : Nat) (v1 : Int32) (σ : zS) : Option (Int32 × zS) :=
  if (24 : Int32) ≤ v1 then (bX7_playsAsTold_26 v0 σ) else (bnd (σ.2 v0 35) (fun (q4 : Nat) => bnd (σ.2 v0 6) (fun (q5 : Nat) => zX v1 24 (zX v1 24 (bnd (zI σ q4 (v1).toNatClampNeg (σ.1 q5 (v1).toNatClampNeg)) (fun (σ8 : zS) => k2 v0 ((v1 + (1 : Int32))) σ8))))))
def fX7_playsAsTold_2  : Nat → Nat → Int32 → zS → Option (Int32 × zS)
  | 0, _, _, _ => none
  | n + 1, v0, v1, σ => bX7_playsAsTold_2 (fX7_playsAsTold_2  n) v0 v1 σ
def fX7_playsAsTold (v0 : Nat) (σ : zS) : Option (Int32 × zS) :=
  fX7_playsAsTold_2 zFU v0 (0 : Int32) σ
set_option maxRecDepth 100000 in
set_option maxHeartbeats 4000000 in
theorem jX7_playsAsTold_26 {p : Program} {l : Launch} {e : Env} {s : State} {m : MethodId} {args : Array Value} {below : List Frame} {meth : Method} {c : Code} {b0 : Nat} {cA : Nat → ClassId} {D : va_G} {L : List (Nat × Nat)} (hC : zC p c s m args meth cX7_playsAsTold 2 (some Jvm.ClassFile.FieldType.int) (Cond.code yX7_playsAsTold cX7_playsAsTold 2 (some Jvm.ClassFile.FieldType.int)) yX7_playsAsTold.cls cA D)  (v0 : Nat) (σ : zS) (ls : Array Slot) (hk_v0 : L[v0]? = some (0, 7)) (hl : lv_has ls 2 [(0, .ref (b0 + v0))]) : zJ p l e rmX7_playsAsTold s m args below meth c b0 cA D L (fun z => MQ below (va_Qi (fun (r : Int32) (u : zS) => (r, u) = z) (zB b0 cA D L) (zA b0 L)) args s 0 0 (zA b0 L)) (bX7_playsAsTold_26  v0 σ) σ 26 ls [] := by
  unfold bX7_playsAsTold_26
  refine zj_aload_n (pc' := 27) hC dX7_playsAsTold_26 rfl rfl (lv_at hl 0 rfl) ?_
  refine zj_iconst (pc' := 28) (v := (0 : Int32)) hC dX7_playsAsTold_27 rfl rfl ?_
  refine zj_calliV (pc' := 31) (rest := []) hC (kX7_plays l b0 cA D L v0 (0 : Int32) σ hk_v0) hk_v0 rfl tw_5_118 tw_5_115 tw_5_117 ts_4_9 tw_1_8 ddX7_plays rfl ⟨rfl, rfl⟩ ⟨by decide, by decide⟩ hl.1 (Nat.le_of_ble_eq_true rfl) rfl dX7_playsAsTold_28 rfl (fun r2 σ1 => ?_)
  exact zj_iret hC dX7_playsAsTold_31
set_option maxRecDepth 100000 in
set_option maxHeartbeats 4000000 in
theorem jX7_playsAsTold_2 {p : Program} {l : Launch} {e : Env} {s : State} {m : MethodId} {args : Array Value} {below : List Frame} {meth : Method} {c : Code} {b0 : Nat} {cA : Nat → ClassId} {D : va_G} {L : List (Nat × Nat)} (hC : zC p c s m args meth cX7_playsAsTold 2 (some Jvm.ClassFile.FieldType.int) (Cond.code yX7_playsAsTold cX7_playsAsTold 2 (some Jvm.ClassFile.FieldType.int)) yX7_playsAsTold.cls cA D) (k2 : Nat → Int32 → zS → Option (Int32 × zS)) (h2 : ∀ (v0 : Nat) (v1 : Int32) (σ : zS) (ls : Array Slot), L[v0]? = some (0, 7) → lv_has ls 2 [(0, .ref (b0 + v0)), (1, .int v1)] → zJ p l e rmX7_playsAsTold s m args below meth c b0 cA D L (fun z => MQ below (va_Qi (fun (r : Int32) (u : zS) => (r, u) = z) (zB b0 cA D L) (zA b0 L)) args s 0 0 (zA b0 L)) (k2 v0 v1 σ) σ 2 ls []) (v0 : Nat) (v1 : Int32) (σ : zS) (ls : Array Slot) (hk_v0 : L[v0]? = some (0, 7)) (hl : lv_has ls 2 [(0, .ref (b0 + v0)), (1, .int v1)]) : zJ p l e rmX7_playsAsTold s m args below meth c b0 cA D L (fun z => MQ below (va_Qi (fun (r : Int32) (u : zS) => (r, u) = z) (zB b0 cA D L) (zA b0 L)) args s 0 0 (zA b0 L)) (bX7_playsAsTold_2 k2 v0 v1 σ) σ 2 ls [] := by
  unfold bX7_playsAsTold_2
  refine zj_iload_n (pc' := 3) hC dX7_playsAsTold_2 rfl rfl (lv_at hl 1 rfl) ?_
  refine zj_bipush (pc' := 5) (v := (24 : Int32)) hC dX7_playsAsTold_3 rfl rfl ?_
  refine zj_icmp_ge (tgt := 26) (pc' := 8) hC dX7_playsAsTold_5 (by decide) rfl (fun c3 => ?_) (fun c3 => ?_)
  · exact jX7_playsAsTold_26 hC v0 σ ls hk_v0 (lv_sub hl [0] rfl)
  · refine zj_aload_n (pc' := 9) hC dX7_playsAsTold_8 rfl rfl (lv_at hl 0 rfl) ?_
    refine zj_getR (pc' := 12) hC hk_v0 fd_7_35 rfl tw_4_83 dX7_playsAsTold_9 rfl (fun q4 hk_q4 => ?_)
    refine zj_iload_n (pc' := 13) hC dX7_playsAsTold_12 rfl rfl (lv_at hl 1 rfl) ?_
    refine zj_aload_n (pc' := 14) hC dX7_playsAsTold_13 rfl rfl (lv_at hl 0 rfl) ?_
    refine zj_getR (pc' := 17) hC hk_v0 fd_7_6 rfl tw_4_54 dX7_playsAsTold_14 rfl (fun q5 hk_q5 => ?_)
    refine zj_iload_n (pc' := 18) hC dX7_playsAsTold_17 rfl rfl (lv_at hl 1 rfl) ?_
    refine zj_iald (pc' := 19) hC hk_q5 dX7_playsAsTold_18 rfl (fun g6 => ?_)
    refine zj_iast (pc' := 20) hC hk_q4 dX7_playsAsTold_19 rfl (fun g7 σ8 => ?_)
    refine zj_iinc (pc' := 23) (k0 := 1) (v := (v1 + (1 : Int32))) (lv' := [(1, .int (v1 + (1 : Int32))), (0, .ref (b0 + v0))]) hC dX7_playsAsTold_20 rfl hl rfl rfl (by decide) rfl (fun ls hl => ?_)
    refine zj_goto (tgt := 2) hC dX7_playsAsTold_23 (by decide) ?_
    exact h2 v0 ((v1 + (1 : Int32))) σ8 ls hk_v0 (lv_sub hl [1, 0] rfl)
set_option maxRecDepth 100000 in
set_option maxHeartbeats 4000000 in
theorem lX7_playsAsTold_2 {p : Program} {l : Launch} {e : Env} {s : State} {m : MethodId} {args : Array Value} {below : List Frame} {meth : Method} {c : Code} {b0 : Nat} {cA : Nat → ClassId} {D : va_G} {L : List (Nat × Nat)} (hC : zC p c s m args meth cX7_playsAsTold 2 (some Jvm.ClassFile.FieldType.int) (Cond.code yX7_playsAsTold cX7_playsAsTold 2 (some Jvm.ClassFile.FieldType.int)) yX7_playsAsTold.cls cA D)  (n : Nat) : ∀ (v0 : Nat) (v1 : Int32) (σ : zS) (ls : Array Slot), L[v0]? = some (0, 7) → lv_has ls 2 [(0, .ref (b0 + v0)), (1, .int v1)] → zJ p l e rmX7_playsAsTold s m args below meth c b0 cA D L (fun z => MQ below (va_Qi (fun (r : Int32) (u : zS) => (r, u) = z) (zB b0 cA D L) (zA b0 L)) args s 0 0 (zA b0 L)) (fX7_playsAsTold_2  n v0 v1 σ) σ 2 ls [] := by
  induction n with
  | zero => intros; exact zj_none
  | succ n ih => exact jX7_playsAsTold_2 hC (fX7_playsAsTold_2  n) ih
set_option maxRecDepth 100000 in
set_option maxHeartbeats 4000000 in
theorem kX7_playsAsTold (l : Launch) (b0 : Nat) (cA : Nat → ClassId) (D : va_G) (L : List (Nat × Nat)) (v0 : Nat) (σ : zS) (hk0 : L[v0]? = some (0, 7)) : zMi l b0 cA D L yX7_playsAsTold (Cond.code yX7_playsAsTold cX7_playsAsTold 2 (some Jvm.ClassFile.FieldType.int)) rmX7_playsAsTold [.ref (b0 + v0)] σ (fX7_playsAsTold v0 σ) := by
  refine zMi_of (by decide) (Nat.le_of_ble_eq_true rfl) ?_
  intro p e s m below meth c ls hC hl
  have hl : lv_has ls 2 [(0, .ref (b0 + v0))] := hl
  generalize ([.ref (b0 + v0)] : List Value).toArray = args at hC ⊢
  unfold fX7_playsAsTold
  refine zj_iconst (pc' := 1) (v := (0 : Int32)) hC dX7_playsAsTold_0 rfl rfl ?_
  refine zj_istore_n (pc' := 2) (lv' := [(1, .int (0 : Int32)), (0, .ref (b0 + v0))]) hC dX7_playsAsTold_1 rfl rfl hl (by decide) rfl (fun ls hl => ?_)
  exact lX7_playsAsTold_2 hC zFU v0 (0 : Int32) σ ls hk0 (lv_sub hl [1, 0] rfl)
-- X7_playsWithout
theorem ddX7_playsWithout : yX7_playsWithout.cls ≠ "java/lang/invoke/MethodHandle" ∧ yX7_playsWithout.cls ≠ "java/lang/invoke/VarHandle" ∧ (parseMethodDescriptor yX7_playsWithout.desc).map (fun d => d.parameters.length) = some 1 := by decide +kernel
abbrev rmX7_playsWithout : Room := { frames := 4, cells := 0, slots := 0, locals := 95 }
def bX7_playsWithout_40  (v0 : Nat) (σ : zS) : Option (Int32 × zS) :=
  zb (fX7_plays v0 (0 : Int32) σ) (fun (r2 : Int32) (σ1 : zS) => some (r2, σ1))
def bX7_playsWithout_33 (k2 : Nat → Int32 → Int32 → zS → Option (Int32 × zS)) (v0 : Nat) (v1 : Int32) (v2 : Int32) (s0 : Nat) (s1 : Int32) (s2 : Int32) (σ : zS) : Option (Int32 × zS) :=
  zX s1 24 (bnd (zI σ s0 (s1).toNatClampNeg s2) (fun (σ4 : zS) => k2 v0 v1 ((v2 + (1 : Int32))) σ4))
def bX7_playsWithout_2 (k2 : Nat → Int32 → Int32 → zS → Option (Int32 × zS)) (v0 : Nat) (v1 : Int32) (v2 : Int32) (σ : zS) : Option (Int32 × zS) :=
  if (24 : Int32) ≤ v2 then (bX7_playsWithout_40 v0 σ) else (bnd (σ.2 v0 35) (fun (q6 : Nat) => bnd (σ.2 v0 6) (fun (q7 : Nat) => zX v2 24 (if (σ.1 q7 (v2).toNatClampNeg) = v1 then (bX7_playsWithout_33 k2 v0 v1 v2 q6 v2 (0 : Int32) σ) else (bnd (σ.2 v0 6) (fun (q10 : Nat) => zX v2 24 (bX7_playsWithout_33 k2 v0 v1 v2 q6 v2 ((σ.1 q10 (v2).toNatClampNeg)) σ)))))))
def fX7_playsWithout_2  : Nat → Nat → Int32 → Int32 → zS → Option (Int32 × zS)
  | 0, _, _, _, _ => none
  | n + 1, v0, v1, v2, σ => bX7_playsWithout_2 (fX7_playsWithout_2  n) v0 v1 v2 σ
def fX7_playsWithout (v0 : Nat) (v1 : Int32) (σ : zS) : Option (Int32 × zS) :=
  fX7_playsWithout_2 zFU v0 v1 (0 : Int32) σ
set_option maxRecDepth 100000 in
set_option maxHeartbeats 4000000 in
theorem jX7_playsWithout_40 {p : Program} {l : Launch} {e : Env} {s : State} {m : MethodId} {args : Array Value} {below : List Frame} {meth : Method} {c : Code} {b0 : Nat} {cA : Nat → ClassId} {D : va_G} {L : List (Nat × Nat)} (hC : zC p c s m args meth cX7_playsWithout 3 (some Jvm.ClassFile.FieldType.int) (Cond.code yX7_playsWithout cX7_playsWithout 3 (some Jvm.ClassFile.FieldType.int)) yX7_playsWithout.cls cA D)  (v0 : Nat) (σ : zS) (ls : Array Slot) (hk_v0 : L[v0]? = some (0, 7)) (hl : lv_has ls 3 [(0, .ref (b0 + v0))]) : zJ p l e rmX7_playsWithout s m args below meth c b0 cA D L (fun z => MQ below (va_Qi (fun (r : Int32) (u : zS) => (r, u) = z) (zB b0 cA D L) (zA b0 L)) args s 0 0 (zA b0 L)) (bX7_playsWithout_40  v0 σ) σ 40 ls [] := by
  unfold bX7_playsWithout_40
  refine zj_aload_n (pc' := 41) hC dX7_playsWithout_40 rfl rfl (lv_at hl 0 rfl) ?_
  refine zj_iconst (pc' := 42) (v := (0 : Int32)) hC dX7_playsWithout_41 rfl rfl ?_
  refine zj_calliV (pc' := 45) (rest := []) hC (kX7_plays l b0 cA D L v0 (0 : Int32) σ hk_v0) hk_v0 rfl tw_5_118 tw_5_115 tw_5_117 ts_4_9 tw_1_8 ddX7_plays rfl ⟨rfl, rfl⟩ ⟨by decide, by decide⟩ hl.1 (Nat.le_of_ble_eq_true rfl) rfl dX7_playsWithout_42 rfl (fun r2 σ1 => ?_)
  exact zj_iret hC dX7_playsWithout_45
set_option maxRecDepth 100000 in
set_option maxHeartbeats 4000000 in
theorem jX7_playsWithout_33 {p : Program} {l : Launch} {e : Env} {s : State} {m : MethodId} {args : Array Value} {below : List Frame} {meth : Method} {c : Code} {b0 : Nat} {cA : Nat → ClassId} {D : va_G} {L : List (Nat × Nat)} (hC : zC p c s m args meth cX7_playsWithout 3 (some Jvm.ClassFile.FieldType.int) (Cond.code yX7_playsWithout cX7_playsWithout 3 (some Jvm.ClassFile.FieldType.int)) yX7_playsWithout.cls cA D) (k2 : Nat → Int32 → Int32 → zS → Option (Int32 × zS)) (h2 : ∀ (v0 : Nat) (v1 : Int32) (v2 : Int32) (σ : zS) (ls : Array Slot), L[v0]? = some (0, 7) → lv_has ls 3 [(0, .ref (b0 + v0)), (1, .int v1), (2, .int v2)] → zJ p l e rmX7_playsWithout s m args below meth c b0 cA D L (fun z => MQ below (va_Qi (fun (r : Int32) (u : zS) => (r, u) = z) (zB b0 cA D L) (zA b0 L)) args s 0 0 (zA b0 L)) (k2 v0 v1 v2 σ) σ 2 ls []) (v0 : Nat) (v1 : Int32) (v2 : Int32) (s0 : Nat) (s1 : Int32) (s2 : Int32) (σ : zS) (ls : Array Slot) (hk_v0 : L[v0]? = some (0, 7)) (hk_s0 : L[s0]? = some (1, 24)) (hl : lv_has ls 3 [(0, .ref (b0 + v0)), (1, .int v1), (2, .int v2)]) : zJ p l e rmX7_playsWithout s m args below meth c b0 cA D L (fun z => MQ below (va_Qi (fun (r : Int32) (u : zS) => (r, u) = z) (zB b0 cA D L) (zA b0 L)) args s 0 0 (zA b0 L)) (bX7_playsWithout_33 k2 v0 v1 v2 s0 s1 s2 σ) σ 33 ls [.int s2, .int s1, .ref (b0 + s0)] := by
  unfold bX7_playsWithout_33
  refine zj_iast (pc' := 34) hC hk_s0 dX7_playsWithout_33 rfl (fun g3 σ4 => ?_)
  refine zj_iinc (pc' := 37) (k0 := 2) (v := (v2 + (1 : Int32))) (lv' := [(2, .int (v2 + (1 : Int32))), (0, .ref (b0 + v0)), (1, .int v1)]) hC dX7_playsWithout_34 rfl hl rfl rfl (by decide) rfl (fun ls hl => ?_)
  refine zj_goto (tgt := 2) hC dX7_playsWithout_37 (by decide) ?_
  exact h2 v0 v1 ((v2 + (1 : Int32))) σ4 ls hk_v0 (lv_sub hl [1, 2, 0] rfl)
set_option maxRecDepth 100000 in
set_option maxHeartbeats 4000000 in
theorem jX7_playsWithout_2 {p : Program} {l : Launch} {e : Env} {s : State} {m : MethodId} {args : Array Value} {below : List Frame} {meth : Method} {c : Code} {b0 : Nat} {cA : Nat → ClassId} {D : va_G} {L : List (Nat × Nat)} (hC : zC p c s m args meth cX7_playsWithout 3 (some Jvm.ClassFile.FieldType.int) (Cond.code yX7_playsWithout cX7_playsWithout 3 (some Jvm.ClassFile.FieldType.int)) yX7_playsWithout.cls cA D) (k2 : Nat → Int32 → Int32 → zS → Option (Int32 × zS)) (h2 : ∀ (v0 : Nat) (v1 : Int32) (v2 : Int32) (σ : zS) (ls : Array Slot), L[v0]? = some (0, 7) → lv_has ls 3 [(0, .ref (b0 + v0)), (1, .int v1), (2, .int v2)] → zJ p l e rmX7_playsWithout s m args below meth c b0 cA D L (fun z => MQ below (va_Qi (fun (r : Int32) (u : zS) => (r, u) = z) (zB b0 cA D L) (zA b0 L)) args s 0 0 (zA b0 L)) (k2 v0 v1 v2 σ) σ 2 ls []) (v0 : Nat) (v1 : Int32) (v2 : Int32) (σ : zS) (ls : Array Slot) (hk_v0 : L[v0]? = some (0, 7)) (hl : lv_has ls 3 [(0, .ref (b0 + v0)), (1, .int v1), (2, .int v2)]) : zJ p l e rmX7_playsWithout s m args below meth c b0 cA D L (fun z => MQ below (va_Qi (fun (r : Int32) (u : zS) => (r, u) = z) (zB b0 cA D L) (zA b0 L)) args s 0 0 (zA b0 L)) (bX7_playsWithout_2 k2 v0 v1 v2 σ) σ 2 ls [] := by
  unfold bX7_playsWithout_2
  refine zj_iload_n (pc' := 3) hC dX7_playsWithout_2 rfl rfl (lv_at hl 2 rfl) ?_
  refine zj_bipush (pc' := 5) (v := (24 : Int32)) hC dX7_playsWithout_3 rfl rfl ?_
  refine zj_icmp_ge (tgt := 40) (pc' := 8) hC dX7_playsWithout_5 (by decide) rfl (fun c5 => ?_) (fun c5 => ?_)
  · exact jX7_playsWithout_40 hC v0 σ ls hk_v0 (lv_sub hl [0] rfl)
  · refine zj_aload_n (pc' := 9) hC dX7_playsWithout_8 rfl rfl (lv_at hl 0 rfl) ?_
    refine zj_getR (pc' := 12) hC hk_v0 fd_7_35 rfl tw_4_83 dX7_playsWithout_9 rfl (fun q6 hk_q6 => ?_)
    refine zj_iload_n (pc' := 13) hC dX7_playsWithout_12 rfl rfl (lv_at hl 2 rfl) ?_
    refine zj_aload_n (pc' := 14) hC dX7_playsWithout_13 rfl rfl (lv_at hl 0 rfl) ?_
    refine zj_getR (pc' := 17) hC hk_v0 fd_7_6 rfl tw_4_54 dX7_playsWithout_14 rfl (fun q7 hk_q7 => ?_)
    refine zj_iload_n (pc' := 18) hC dX7_playsWithout_17 rfl rfl (lv_at hl 2 rfl) ?_
    refine zj_iald (pc' := 19) hC hk_q7 dX7_playsWithout_18 rfl (fun g8 => ?_)
    refine zj_iload_n (pc' := 20) hC dX7_playsWithout_19 rfl rfl (lv_at hl 1 rfl) ?_
    refine zj_icmp_ne (tgt := 27) (pc' := 23) hC dX7_playsWithout_20 (by decide) rfl (fun c9 => ?_) (fun c9 => ?_)
    · refine zj_aload_n (pc' := 28) hC dX7_playsWithout_27 rfl rfl (lv_at hl 0 rfl) ?_
      refine zj_getR (pc' := 31) hC hk_v0 fd_7_6 rfl tw_4_54 dX7_playsWithout_28 rfl (fun q10 hk_q10 => ?_)
      refine zj_iload_n (pc' := 32) hC dX7_playsWithout_31 rfl rfl (lv_at hl 2 rfl) ?_
      refine zj_iald (pc' := 33) hC hk_q10 dX7_playsWithout_32 rfl (fun g11 => ?_)
      exact jX7_playsWithout_33 hC k2 h2 v0 v1 v2 q6 v2 ((σ.1 q10 (v2).toNatClampNeg)) σ ls hk_v0 hk_q6 (lv_sub hl [0, 1, 2] rfl)
    · refine zj_iconst (pc' := 24) (v := (0 : Int32)) hC dX7_playsWithout_23 rfl rfl ?_
      refine zj_goto (tgt := 33) hC dX7_playsWithout_24 (by decide) ?_
      exact jX7_playsWithout_33 hC k2 h2 v0 v1 v2 q6 v2 (0 : Int32) σ ls hk_v0 hk_q6 (lv_sub hl [0, 1, 2] rfl)
set_option maxRecDepth 100000 in
set_option maxHeartbeats 4000000 in
theorem lX7_playsWithout_2 {p : Program} {l : Launch} {e : Env} {s : State} {m : MethodId} {args : Array Value} {below : List Frame} {meth : Method} {c : Code} {b0 : Nat} {cA : Nat → ClassId} {D : va_G} {L : List (Nat × Nat)} (hC : zC p c s m args meth cX7_playsWithout 3 (some Jvm.ClassFile.FieldType.int) (Cond.code yX7_playsWithout cX7_playsWithout 3 (some Jvm.ClassFile.FieldType.int)) yX7_playsWithout.cls cA D)  (n : Nat) : ∀ (v0 : Nat) (v1 : Int32) (v2 : Int32) (σ : zS) (ls : Array Slot), L[v0]? = some (0, 7) → lv_has ls 3 [(0, .ref (b0 + v0)), (1, .int v1), (2, .int v2)] → zJ p l e rmX7_playsWithout s m args below meth c b0 cA D L (fun z => MQ below (va_Qi (fun (r : Int32) (u : zS) => (r, u) = z) (zB b0 cA D L) (zA b0 L)) args s 0 0 (zA b0 L)) (fX7_playsWithout_2  n v0 v1 v2 σ) σ 2 ls [] := by
  induction n with
  | zero => intros; exact zj_none
  | succ n ih => exact jX7_playsWithout_2 hC (fX7_playsWithout_2  n) ih
set_option maxRecDepth 100000 in
set_option maxHeartbeats 4000000 in
theorem kX7_playsWithout (l : Launch) (b0 : Nat) (cA : Nat → ClassId) (D : va_G) (L : List (Nat × Nat)) (v0 : Nat) (v1 : Int32) (σ : zS) (hk0 : L[v0]? = some (0, 7)) : zMi l b0 cA D L yX7_playsWithout (Cond.code yX7_playsWithout cX7_playsWithout 3 (some Jvm.ClassFile.FieldType.int)) rmX7_playsWithout [.ref (b0 + v0), .int v1] σ (fX7_playsWithout v0 v1 σ) := by
  refine zMi_of (by decide) (Nat.le_of_ble_eq_true rfl) ?_
  intro p e s m below meth c ls hC hl
  have hl : lv_has ls 3 [(0, .ref (b0 + v0)), (1, .int v1)] := hl
  generalize ([.ref (b0 + v0), .int v1] : List Value).toArray = args at hC ⊢
  unfold fX7_playsWithout
  refine zj_iconst (pc' := 1) (v := (0 : Int32)) hC dX7_playsWithout_0 rfl rfl ?_
  refine zj_istore_n (pc' := 2) (lv' := [(2, .int (0 : Int32)), (0, .ref (b0 + v0)), (1, .int v1)]) hC dX7_playsWithout_1 rfl rfl hl (by decide) rfl (fun ls hl => ?_)
  exact lX7_playsWithout_2 hC zFU v0 v1 (0 : Int32) σ ls hk0 (lv_sub hl [1, 2, 0] rfl)
-- X7_nobody
theorem ddX7_nobody : yX7_nobody.cls ≠ "java/lang/invoke/MethodHandle" ∧ yX7_nobody.cls ≠ "java/lang/invoke/VarHandle" ∧ (parseMethodDescriptor yX7_nobody.desc).map (fun d => d.parameters.length) = some 0 := by decide +kernel
abbrev rmX7_nobody : Room := { frames := 0, cells := 0, slots := 0, locals := 0 }
def bX7_nobody_2 (k2 : Nat → Int32 → zS → Option (Unit × zS)) (v0 : Nat) (v1 : Int32) (σ : zS) : Option (Unit × zS) :=
  if (24 : Int32) ≤ v1 then (some ((), σ)) else (bnd (σ.2 v0 35) (fun (q2 : Nat) => zX v1 24 (bnd (zI σ q2 (v1).toNatClampNeg (0 : Int32)) (fun (σ4 : zS) => k2 v0 ((v1 + (1 : Int32))) σ4))))
def fX7_nobody_2  : Nat → Nat → Int32 → zS → Option (Unit × zS)
  | 0, _, _, _ => none
  | n + 1, v0, v1, σ => bX7_nobody_2 (fX7_nobody_2  n) v0 v1 σ
def fX7_nobody (v0 : Nat) (σ : zS) : Option (Unit × zS) :=
  fX7_nobody_2 zFU v0 (0 : Int32) σ
set_option maxRecDepth 100000 in
set_option maxHeartbeats 4000000 in
theorem jX7_nobody_2 {p : Program} {l : Launch} {e : Env} {s : State} {m : MethodId} {args : Array Value} {below : List Frame} {meth : Method} {c : Code} {b0 : Nat} {cA : Nat → ClassId} {D : va_G} {L : List (Nat × Nat)} (hC : zC p c s m args meth cX7_nobody 2 (none) (Cond.code yX7_nobody cX7_nobody 2 (none)) yX7_nobody.cls cA D) (k2 : Nat → Int32 → zS → Option (Unit × zS)) (h2 : ∀ (v0 : Nat) (v1 : Int32) (σ : zS) (ls : Array Slot), L[v0]? = some (0, 7) → lv_has ls 2 [(0, .ref (b0 + v0)), (1, .int v1)] → zJ p l e rmX7_nobody s m args below meth c b0 cA D L (fun z => MQ below (va_Qv (fun (u : zS) => ((), u) = z) (zB b0 cA D L) (zA b0 L)) args s 0 0 (zA b0 L)) (k2 v0 v1 σ) σ 2 ls []) (v0 : Nat) (v1 : Int32) (σ : zS) (ls : Array Slot) (hk_v0 : L[v0]? = some (0, 7)) (hl : lv_has ls 2 [(0, .ref (b0 + v0)), (1, .int v1)]) : zJ p l e rmX7_nobody s m args below meth c b0 cA D L (fun z => MQ below (va_Qv (fun (u : zS) => ((), u) = z) (zB b0 cA D L) (zA b0 L)) args s 0 0 (zA b0 L)) (bX7_nobody_2 k2 v0 v1 σ) σ 2 ls [] := by
  unfold bX7_nobody_2
  refine zj_iload_n (pc' := 3) hC dX7_nobody_2 rfl rfl (lv_at hl 1 rfl) ?_
  refine zj_bipush (pc' := 5) (v := (24 : Int32)) hC dX7_nobody_3 rfl rfl ?_
  refine zj_icmp_ge (tgt := 21) (pc' := 8) hC dX7_nobody_5 (by decide) rfl (fun c1 => ?_) (fun c1 => ?_)
  · exact zj_vret hC dX7_nobody_21
  · refine zj_aload_n (pc' := 9) hC dX7_nobody_8 rfl rfl (lv_at hl 0 rfl) ?_
    refine zj_getR (pc' := 12) hC hk_v0 fd_7_35 rfl tw_4_83 dX7_nobody_9 rfl (fun q2 hk_q2 => ?_)
    refine zj_iload_n (pc' := 13) hC dX7_nobody_12 rfl rfl (lv_at hl 1 rfl) ?_
    refine zj_iconst (pc' := 14) (v := (0 : Int32)) hC dX7_nobody_13 rfl rfl ?_
    refine zj_iast (pc' := 15) hC hk_q2 dX7_nobody_14 rfl (fun g3 σ4 => ?_)
    refine zj_iinc (pc' := 18) (k0 := 1) (v := (v1 + (1 : Int32))) (lv' := [(1, .int (v1 + (1 : Int32))), (0, .ref (b0 + v0))]) hC dX7_nobody_15 rfl hl rfl rfl (by decide) rfl (fun ls hl => ?_)
    refine zj_goto (tgt := 2) hC dX7_nobody_18 (by decide) ?_
    exact h2 v0 ((v1 + (1 : Int32))) σ4 ls hk_v0 (lv_sub hl [1, 0] rfl)
set_option maxRecDepth 100000 in
set_option maxHeartbeats 4000000 in
theorem lX7_nobody_2 {p : Program} {l : Launch} {e : Env} {s : State} {m : MethodId} {args : Array Value} {below : List Frame} {meth : Method} {c : Code} {b0 : Nat} {cA : Nat → ClassId} {D : va_G} {L : List (Nat × Nat)} (hC : zC p c s m args meth cX7_nobody 2 (none) (Cond.code yX7_nobody cX7_nobody 2 (none)) yX7_nobody.cls cA D)  (n : Nat) : ∀ (v0 : Nat) (v1 : Int32) (σ : zS) (ls : Array Slot), L[v0]? = some (0, 7) → lv_has ls 2 [(0, .ref (b0 + v0)), (1, .int v1)] → zJ p l e rmX7_nobody s m args below meth c b0 cA D L (fun z => MQ below (va_Qv (fun (u : zS) => ((), u) = z) (zB b0 cA D L) (zA b0 L)) args s 0 0 (zA b0 L)) (fX7_nobody_2  n v0 v1 σ) σ 2 ls [] := by
  induction n with
  | zero => intros; exact zj_none
  | succ n ih => exact jX7_nobody_2 hC (fX7_nobody_2  n) ih
set_option maxRecDepth 100000 in
set_option maxHeartbeats 4000000 in
theorem kX7_nobody (l : Launch) (b0 : Nat) (cA : Nat → ClassId) (D : va_G) (L : List (Nat × Nat)) (v0 : Nat) (σ : zS) (hk0 : L[v0]? = some (0, 7)) : zMv l b0 cA D L yX7_nobody (Cond.code yX7_nobody cX7_nobody 2 (none)) rmX7_nobody [.ref (b0 + v0)] σ (fX7_nobody v0 σ) := by
  refine zMv_of (by decide) (Nat.le_of_ble_eq_true rfl) ?_
  intro p e s m below meth c ls hC hl
  have hl : lv_has ls 2 [(0, .ref (b0 + v0))] := hl
  generalize ([.ref (b0 + v0)] : List Value).toArray = args at hC ⊢
  unfold fX7_nobody
  refine zj_iconst (pc' := 1) (v := (0 : Int32)) hC dX7_nobody_0 rfl rfl ?_
  refine zj_istore_n (pc' := 2) (lv' := [(1, .int (0 : Int32)), (0, .ref (b0 + v0))]) hC dX7_nobody_1 rfl rfl hl (by decide) rfl (fun ls hl => ?_)
  exact lX7_nobody_2 hC zFU v0 (0 : Int32) σ ls hk0 (lv_sub hl [1, 0] rfl)
-- X7_shows
theorem ddX7_shows : yX7_shows.cls ≠ "java/lang/invoke/MethodHandle" ∧ yX7_shows.cls ≠ "java/lang/invoke/VarHandle" ∧ (parseMethodDescriptor yX7_shows.desc).map (fun d => d.parameters.length) = some 2 := by decide +kernel
abbrev rmX7_shows : Room := { frames := 5, cells := 0, slots := 0, locals := 116 }
def fX7_shows (v0 : Nat) (v1 : Int32) (v2 : Int32) (σ : zS) : Option (Int32 × zS) :=
  zb (fX7_isSeat v1 σ) (fun (r2 : Int32) (σ1 : zS) => if r2 = 0 then (some ((-1 : Int32), σ1)) else (zb (fX7_isTaken v0 v1 σ1) (fun (r5 : Int32) (σ4 : zS) => if r5 = 0 then (some ((-1 : Int32), σ4)) else (zb (fX7_in v2 (0 : Int32) (((σ4.1 v0 1) - (1 : Int32))) σ4) (fun (r8 : Int32) (σ7 : zS) => if r8 = 0 then (some ((-1 : Int32), σ7)) else (zb (fX7_playsAsTold v0 σ7) (fun (r11 : Int32) (σ10 : zS) => bnd (σ10.2 v0 32) (fun (q12 : Nat) => zX (((24 : Int32) * v2) + v1) 960 (some ((σ10.1 q12 ((((24 : Int32) * v2) + v1)).toNatClampNeg), σ10))))))))))
set_option maxRecDepth 100000 in
set_option maxHeartbeats 4000000 in
theorem kX7_shows (l : Launch) (b0 : Nat) (cA : Nat → ClassId) (D : va_G) (L : List (Nat × Nat)) (v0 : Nat) (v1 : Int32) (v2 : Int32) (σ : zS) (hk0 : L[v0]? = some (0, 7)) : zMi l b0 cA D L yX7_shows (Cond.code yX7_shows cX7_shows 3 (some Jvm.ClassFile.FieldType.int)) rmX7_shows [.ref (b0 + v0), .int v1, .int v2] σ (fX7_shows v0 v1 v2 σ) := by
  refine zMi_of (by decide) (Nat.le_of_ble_eq_true rfl) ?_
  intro p e s m below meth c ls hC hl
  have hl : lv_has ls 3 [(0, .ref (b0 + v0)), (1, .int v1), (2, .int v2)] := hl
  generalize ([.ref (b0 + v0), .int v1, .int v2] : List Value).toArray = args at hC ⊢
  unfold fX7_shows
  refine zj_iload_n (pc' := 1) hC dX7_shows_0 rfl rfl (lv_at hl 1 rfl) ?_
  refine zj_callzS (pc' := 4) (rest := []) hC (kX7_isSeat l b0 cA D L v1 σ ) tw_4_229 tw_4_227 tw_4_228 tw_1_8 ddX7_isSeat rfl ⟨rfl, rfl⟩ ⟨by decide, by decide⟩ hl.1 (Nat.le_of_ble_eq_true rfl) rfl dX7_shows_1 rfl (fun r2 σ1 hb_r2 => ?_)
  refine zj_if_eq (tgt := 29) (pc' := 7) hC dX7_shows_4 (by decide) rfl (fun c3 => ?_) (fun c3 => ?_)
  · refine zj_iconst (pc' := 30) (v := (-1 : Int32)) hC dX7_shows_29 rfl rfl ?_
    exact zj_iret hC dX7_shows_30
  · refine zj_aload_n (pc' := 8) hC dX7_shows_7 rfl rfl (lv_at hl 0 rfl) ?_
    refine zj_iload_n (pc' := 9) hC dX7_shows_8 rfl rfl (lv_at hl 1 rfl) ?_
    refine zj_callzV (pc' := 12) (rest := []) hC (kX7_isTaken l b0 cA D L v0 v1 σ1 hk0) hk0 rfl tw_4_222 tw_4_219 tw_4_221 ts_3_4 tw_1_8 ddX7_isTaken rfl ⟨rfl, rfl⟩ ⟨by decide, by decide⟩ hl.1 (Nat.le_of_ble_eq_true rfl) rfl dX7_shows_9 rfl (fun r5 σ4 hb_r5 => ?_)
    refine zj_if_eq (tgt := 29) (pc' := 15) hC dX7_shows_12 (by decide) rfl (fun c6 => ?_) (fun c6 => ?_)
    · refine zj_iconst (pc' := 30) (v := (-1 : Int32)) hC dX7_shows_29 rfl rfl ?_
      exact zj_iret hC dX7_shows_30
    · refine zj_iload_n (pc' := 16) hC dX7_shows_15 rfl rfl (lv_at hl 2 rfl) ?_
      refine zj_iconst (pc' := 17) (v := (0 : Int32)) hC dX7_shows_16 rfl rfl ?_
      refine zj_aload_n (pc' := 18) hC dX7_shows_17 rfl rfl (lv_at hl 0 rfl) ?_
      refine zj_getI (pc' := 21) hC hk0 fd_7_1 rfl tw_4_49 dX7_shows_18 rfl ?_
      refine zj_iconst (pc' := 22) (v := (1 : Int32)) hC dX7_shows_21 rfl rfl ?_
      refine zj_isub (pc' := 23) hC dX7_shows_22 rfl ?_
      refine zj_callzS (pc' := 26) (rest := []) hC (kX7_in l b0 cA D L v2 (0 : Int32) (((σ4.1 v0 1) - (1 : Int32))) σ4 ) tw_4_214 tw_4_212 tw_4_213 tw_1_8 ddX7_in rfl ⟨rfl, rfl⟩ ⟨by decide, by decide⟩ hl.1 (Nat.le_of_ble_eq_true rfl) rfl dX7_shows_23 rfl (fun r8 σ7 hb_r8 => ?_)
      refine zj_if_ne (tgt := 31) (pc' := 29) hC dX7_shows_26 (by decide) rfl (fun c9 => ?_) (fun c9 => ?_)
      · refine zj_aload_n (pc' := 32) hC dX7_shows_31 rfl rfl (lv_at hl 0 rfl) ?_
        refine zj_calliV (pc' := 35) (rest := []) hC (kX7_playsAsTold l b0 cA D L v0 σ7 hk0) hk0 rfl tw_5_114 tw_5_111 tw_5_113 ts_4_8 tw_1_8 ddX7_playsAsTold rfl ⟨rfl, rfl⟩ ⟨by decide, by decide⟩ hl.1 (Nat.le_of_ble_eq_true rfl) rfl dX7_shows_32 rfl (fun r11 σ10 => ?_)
        refine zj_pop (pc' := 36) hC dX7_shows_35 rfl rfl ?_
        refine zj_aload_n (pc' := 37) hC dX7_shows_36 rfl rfl (lv_at hl 0 rfl) ?_
        refine zj_getR (pc' := 40) hC hk0 fd_7_32 rfl tw_4_80 dX7_shows_37 rfl (fun q12 hk_q12 => ?_)
        refine zj_bipush (pc' := 42) (v := (24 : Int32)) hC dX7_shows_40 rfl rfl ?_
        refine zj_iload_n (pc' := 43) hC dX7_shows_42 rfl rfl (lv_at hl 2 rfl) ?_
        refine zj_imul (pc' := 44) hC dX7_shows_43 rfl ?_
        refine zj_iload_n (pc' := 45) hC dX7_shows_44 rfl rfl (lv_at hl 1 rfl) ?_
        refine zj_iadd (pc' := 46) hC dX7_shows_45 rfl ?_
        refine zj_iald (pc' := 47) hC hk_q12 dX7_shows_46 rfl (fun g13 => ?_)
        exact zj_iret hC dX7_shows_47
      · refine zj_iconst (pc' := 30) (v := (-1 : Int32)) hC dX7_shows_29 rfl rfl ?_
        exact zj_iret hC dX7_shows_30
-- X7_loud
theorem ddX7_loud : yX7_loud.cls ≠ "java/lang/invoke/MethodHandle" ∧ yX7_loud.cls ≠ "java/lang/invoke/VarHandle" ∧ (parseMethodDescriptor yX7_loud.desc).map (fun d => d.parameters.length) = some 2 := by decide +kernel
abbrev rmX7_loud : Room := { frames := 5, cells := 0, slots := 0, locals := 116 }
def fX7_loud (v0 : Nat) (v1 : Int32) (v2 : Int32) (σ : zS) : Option (Int32 × zS) :=
  zb (fX7_in v1 (0 : Int32) (((σ.1 v0 1) - (1 : Int32))) σ) (fun (r2 : Int32) (σ1 : zS) => if r2 = 0 then (some ((-1 : Int32), σ1)) else (zb (fX7_in v2 (0 : Int32) (1 : Int32) σ1) (fun (r5 : Int32) (σ4 : zS) => if r5 = 0 then (some ((-1 : Int32), σ4)) else (zb (fX7_playsAsTold v0 σ4) (fun (r8 : Int32) (σ7 : zS) => zb (fX7_counts v0 v1 σ7) (fun (_ : Unit) (σ9 : zS) => if v2 = 0 then (some ((σ9.1 v0 33), σ9)) else (some ((σ9.1 v0 34), σ9))))))))
set_option maxRecDepth 100000 in
set_option maxHeartbeats 4000000 in
theorem kX7_loud (l : Launch) (b0 : Nat) (cA : Nat → ClassId) (D : va_G) (L : List (Nat × Nat)) (v0 : Nat) (v1 : Int32) (v2 : Int32) (σ : zS) (hk0 : L[v0]? = some (0, 7)) : zMi l b0 cA D L yX7_loud (Cond.code yX7_loud cX7_loud 3 (some Jvm.ClassFile.FieldType.int)) rmX7_loud [.ref (b0 + v0), .int v1, .int v2] σ (fX7_loud v0 v1 v2 σ) := by
  refine zMi_of (by decide) (Nat.le_of_ble_eq_true rfl) ?_
  intro p e s m below meth c ls hC hl
  have hl : lv_has ls 3 [(0, .ref (b0 + v0)), (1, .int v1), (2, .int v2)] := hl
  generalize ([.ref (b0 + v0), .int v1, .int v2] : List Value).toArray = args at hC ⊢
  unfold fX7_loud
  refine zj_iload_n (pc' := 1) hC dX7_loud_0 rfl rfl (lv_at hl 1 rfl) ?_
  refine zj_iconst (pc' := 2) (v := (0 : Int32)) hC dX7_loud_1 rfl rfl ?_
  refine zj_aload_n (pc' := 3) hC dX7_loud_2 rfl rfl (lv_at hl 0 rfl) ?_
  refine zj_getI (pc' := 6) hC hk0 fd_7_1 rfl tw_4_49 dX7_loud_3 rfl ?_
  refine zj_iconst (pc' := 7) (v := (1 : Int32)) hC dX7_loud_6 rfl rfl ?_
  refine zj_isub (pc' := 8) hC dX7_loud_7 rfl ?_
  refine zj_callzS (pc' := 11) (rest := []) hC (kX7_in l b0 cA D L v1 (0 : Int32) (((σ.1 v0 1) - (1 : Int32))) σ ) tw_4_214 tw_4_212 tw_4_213 tw_1_8 ddX7_in rfl ⟨rfl, rfl⟩ ⟨by decide, by decide⟩ hl.1 (Nat.le_of_ble_eq_true rfl) rfl dX7_loud_8 rfl (fun r2 σ1 hb_r2 => ?_)
  refine zj_if_eq (tgt := 23) (pc' := 14) hC dX7_loud_11 (by decide) rfl (fun c3 => ?_) (fun c3 => ?_)
  · refine zj_iconst (pc' := 24) (v := (-1 : Int32)) hC dX7_loud_23 rfl rfl ?_
    exact zj_iret hC dX7_loud_24
  · refine zj_iload_n (pc' := 15) hC dX7_loud_14 rfl rfl (lv_at hl 2 rfl) ?_
    refine zj_iconst (pc' := 16) (v := (0 : Int32)) hC dX7_loud_15 rfl rfl ?_
    refine zj_iconst (pc' := 17) (v := (1 : Int32)) hC dX7_loud_16 rfl rfl ?_
    refine zj_callzS (pc' := 20) (rest := []) hC (kX7_in l b0 cA D L v2 (0 : Int32) (1 : Int32) σ1 ) tw_4_214 tw_4_212 tw_4_213 tw_1_8 ddX7_in rfl ⟨rfl, rfl⟩ ⟨by decide, by decide⟩ hl.1 (Nat.le_of_ble_eq_true rfl) rfl dX7_loud_17 rfl (fun r5 σ4 hb_r5 => ?_)
    refine zj_if_ne (tgt := 25) (pc' := 23) hC dX7_loud_20 (by decide) rfl (fun c6 => ?_) (fun c6 => ?_)
    · refine zj_aload_n (pc' := 26) hC dX7_loud_25 rfl rfl (lv_at hl 0 rfl) ?_
      refine zj_calliV (pc' := 29) (rest := []) hC (kX7_playsAsTold l b0 cA D L v0 σ4 hk0) hk0 rfl tw_5_114 tw_5_111 tw_5_113 ts_4_8 tw_1_8 ddX7_playsAsTold rfl ⟨rfl, rfl⟩ ⟨by decide, by decide⟩ hl.1 (Nat.le_of_ble_eq_true rfl) rfl dX7_loud_26 rfl (fun r8 σ7 => ?_)
      refine zj_pop (pc' := 30) hC dX7_loud_29 rfl rfl ?_
      refine zj_aload_n (pc' := 31) hC dX7_loud_30 rfl rfl (lv_at hl 0 rfl) ?_
      refine zj_iload_n (pc' := 32) hC dX7_loud_31 rfl rfl (lv_at hl 1 rfl) ?_
      refine zj_callvV (pc' := 35) (rest := []) hC (kX7_counts l b0 cA D L v0 v1 σ7 hk0) hk0 rfl tw_5_145 tw_5_142 tw_5_144 ts_4_15 tw_1_8 ddX7_counts rfl ⟨rfl, rfl⟩ ⟨by decide, by decide⟩ hl.1 (Nat.le_of_ble_eq_true rfl) rfl dX7_loud_32 rfl (fun σ9 => ?_)
      refine zj_iload_n (pc' := 36) hC dX7_loud_35 rfl rfl (lv_at hl 2 rfl) ?_
      refine zj_if_ne (tgt := 46) (pc' := 39) hC dX7_loud_36 (by decide) rfl (fun c11 => ?_) (fun c11 => ?_)
      · refine zj_aload_n (pc' := 47) hC dX7_loud_46 rfl rfl (lv_at hl 0 rfl) ?_
        refine zj_getI (pc' := 50) hC hk0 fd_7_34 rfl tw_4_82 dX7_loud_47 rfl ?_
        exact zj_iret hC dX7_loud_50
      · refine zj_aload_n (pc' := 40) hC dX7_loud_39 rfl rfl (lv_at hl 0 rfl) ?_
        refine zj_getI (pc' := 43) hC hk0 fd_7_33 rfl tw_4_81 dX7_loud_40 rfl ?_
        refine zj_goto (tgt := 50) hC dX7_loud_43 (by decide) ?_
        exact zj_iret hC dX7_loud_50
    · refine zj_iconst (pc' := 24) (v := (-1 : Int32)) hC dX7_loud_23 rfl rfl ?_
      exact zj_iret hC dX7_loud_24
-- X7_house
theorem ddX7_house : yX7_house.cls ≠ "java/lang/invoke/MethodHandle" ∧ yX7_house.cls ≠ "java/lang/invoke/VarHandle" ∧ (parseMethodDescriptor yX7_house.desc).map (fun d => d.parameters.length) = some 0 := by decide +kernel
abbrev rmX7_house : Room := { frames := 5, cells := 0, slots := 0, locals := 116 }
def fX7_house (v0 : Nat) (σ : zS) : Option (Int32 × zS) :=
  zb (fX7_playsAsTold v0 σ) (fun (r2 : Int32) (σ1 : zS) => some (r2, σ1))
set_option maxRecDepth 100000 in
set_option maxHeartbeats 4000000 in
theorem kX7_house (l : Launch) (b0 : Nat) (cA : Nat → ClassId) (D : va_G) (L : List (Nat × Nat)) (v0 : Nat) (σ : zS) (hk0 : L[v0]? = some (0, 7)) : zMi l b0 cA D L yX7_house (Cond.code yX7_house cX7_house 1 (some Jvm.ClassFile.FieldType.int)) rmX7_house [.ref (b0 + v0)] σ (fX7_house v0 σ) := by
  refine zMi_of (by decide) (Nat.le_of_ble_eq_true rfl) ?_
  intro p e s m below meth c ls hC hl
  have hl : lv_has ls 1 [(0, .ref (b0 + v0))] := hl
  generalize ([.ref (b0 + v0)] : List Value).toArray = args at hC ⊢
  unfold fX7_house
  refine zj_aload_n (pc' := 1) hC dX7_house_0 rfl rfl (lv_at hl 0 rfl) ?_
  refine zj_calliV (pc' := 4) (rest := []) hC (kX7_playsAsTold l b0 cA D L v0 σ hk0) hk0 rfl tw_5_114 tw_5_111 tw_5_113 ts_4_8 tw_1_8 ddX7_playsAsTold rfl ⟨rfl, rfl⟩ ⟨by decide, by decide⟩ hl.1 (Nat.le_of_ble_eq_true rfl) rfl dX7_house_1 rfl (fun r2 σ1 => ?_)
  exact zj_iret hC dX7_house_4
-- X7_costs
theorem ddX7_costs : yX7_costs.cls ≠ "java/lang/invoke/MethodHandle" ∧ yX7_costs.cls ≠ "java/lang/invoke/VarHandle" ∧ (parseMethodDescriptor yX7_costs.desc).map (fun d => d.parameters.length) = some 1 := by decide +kernel
abbrev rmX7_costs : Room := { frames := 1, cells := 0, slots := 0, locals := 20 }
def bX7_costs_105 (k48 : Nat → Int32 → Int32 → Int32 → Int32 → zS → Option (Int32 × zS)) (v0 : Nat) (v1 : Int32) (v2 : Int32) (v4 : Int32) (s0 : Int32) (s1 : Int32) (σ : zS) : Option (Int32 × zS) :=
  bnd ((s0 + s1)) (fun (x1 : Int32) => k48 v0 v1 v2 x1 ((v4 + (1 : Int32))) σ)
def bX7_costs_48 (k48 : Nat → Int32 → Int32 → Int32 → Int32 → zS → Option (Int32 × zS)) (v0 : Nat) (v1 : Int32) (v2 : Int32) (v3 : Int32) (v4 : Int32) (σ : zS) : Option (Int32 × zS) :=
  if (σ.1 v0 1) ≤ v4 then (some ((v2 * v3), σ)) else (bnd (σ.2 v0 9) (fun (q3 : Nat) => zX (((40 : Int32) * v1) + v4) 120 (if (σ.1 q3 ((((40 : Int32) * v1) + v4)).toNatClampNeg) = (1 : Int32) then (bX7_costs_105 k48 v0 v1 v2 v4 v3 ((σ.1 v0 2)) σ) else (bnd (σ.2 v0 9) (fun (q6 : Nat) => zX (((40 : Int32) * v1) + v4) 120 (if (σ.1 q6 ((((40 : Int32) * v1) + v4)).toNatClampNeg) = (2 : Int32) then (bX7_costs_105 k48 v0 v1 v2 v4 v3 ((σ.1 v0 3)) σ) else (bX7_costs_105 k48 v0 v1 v2 v4 v3 (0 : Int32) σ)))))))
def fX7_costs_48  : Nat → Nat → Int32 → Int32 → Int32 → Int32 → zS → Option (Int32 × zS)
  | 0, _, _, _, _, _, _ => none
  | n + 1, v0, v1, v2, v3, v4, σ => bX7_costs_48 (fX7_costs_48  n) v0 v1 v2 v3 v4 σ
def bX7_costs_43  (v0 : Nat) (v1 : Int32) (v2 : Int32) (σ : zS) : Option (Int32 × zS) :=
  fX7_costs_48 zFU v0 v1 v2 (0 : Int32) (0 : Int32) σ
def bX7_costs_35 (k13 : Nat → Int32 → Int32 → Int32 → zS → Option (Int32 × zS)) (v0 : Nat) (v1 : Int32) (v3 : Int32) (s0 : Int32) (s1 : Int32) (σ : zS) : Option (Int32 × zS) :=
  bnd ((s0 + s1)) (fun (x9 : Int32) => k13 v0 v1 x9 ((v3 + (1 : Int32))) σ)
def bX7_costs_13 (k13 : Nat → Int32 → Int32 → Int32 → zS → Option (Int32 × zS)) (v0 : Nat) (v1 : Int32) (v2 : Int32) (v3 : Int32) (σ : zS) : Option (Int32 × zS) :=
  if (24 : Int32) ≤ v3 then (bX7_costs_43 v0 v1 v2 σ) else (bnd (σ.2 v0 6) (fun (q11 : Nat) => zX v3 24 (if (σ.1 q11 (v3).toNatClampNeg) = v1 then (bX7_costs_35 k13 v0 v1 v3 v2 (1 : Int32) σ) else (bX7_costs_35 k13 v0 v1 v3 v2 (0 : Int32) σ))))
def fX7_costs_13  : Nat → Nat → Int32 → Int32 → Int32 → zS → Option (Int32 × zS)
  | 0, _, _, _, _, _ => none
  | n + 1, v0, v1, v2, v3, σ => bX7_costs_13 (fX7_costs_13  n) v0 v1 v2 v3 σ
def fX7_costs (v0 : Nat) (v1 : Int32) (σ : zS) : Option (Int32 × zS) :=
  zb (fX7_isStick v1 σ) (fun (r15 : Int32) (σ14 : zS) => if r15 = 0 then (some ((-1 : Int32), σ14)) else (fX7_costs_13 zFU v0 v1 (0 : Int32) (0 : Int32) σ14))
set_option maxRecDepth 100000 in
set_option maxHeartbeats 4000000 in
theorem jX7_costs_105 {p : Program} {l : Launch} {e : Env} {s : State} {m : MethodId} {args : Array Value} {below : List Frame} {meth : Method} {c : Code} {b0 : Nat} {cA : Nat → ClassId} {D : va_G} {L : List (Nat × Nat)} (hC : zC p c s m args meth cX7_costs 5 (some Jvm.ClassFile.FieldType.int) (Cond.code yX7_costs cX7_costs 5 (some Jvm.ClassFile.FieldType.int)) yX7_costs.cls cA D) (k48 : Nat → Int32 → Int32 → Int32 → Int32 → zS → Option (Int32 × zS)) (h48 : ∀ (v0 : Nat) (v1 : Int32) (v2 : Int32) (v3 : Int32) (v4 : Int32) (σ : zS) (ls : Array Slot), L[v0]? = some (0, 7) → lv_has ls 5 [(0, .ref (b0 + v0)), (1, .int v1), (2, .int v2), (3, .int v3), (4, .int v4)] → zJ p l e rmX7_costs s m args below meth c b0 cA D L (fun z => MQ below (va_Qi (fun (r : Int32) (u : zS) => (r, u) = z) (zB b0 cA D L) (zA b0 L)) args s 0 0 (zA b0 L)) (k48 v0 v1 v2 v3 v4 σ) σ 48 ls []) (v0 : Nat) (v1 : Int32) (v2 : Int32) (v4 : Int32) (s0 : Int32) (s1 : Int32) (σ : zS) (ls : Array Slot) (hk_v0 : L[v0]? = some (0, 7)) (hl : lv_has ls 5 [(0, .ref (b0 + v0)), (1, .int v1), (2, .int v2), (4, .int v4)]) : zJ p l e rmX7_costs s m args below meth c b0 cA D L (fun z => MQ below (va_Qi (fun (r : Int32) (u : zS) => (r, u) = z) (zB b0 cA D L) (zA b0 L)) args s 0 0 (zA b0 L)) (bX7_costs_105 k48 v0 v1 v2 v4 s0 s1 σ) σ 105 ls [.int s1, .int s0] := by
  unfold bX7_costs_105
  refine zj_iadd (pc' := 106) hC dX7_costs_105 rfl ?_
  refine zj_nmi (fun x1 => ?_)
  refine zj_istore_n (pc' := 107) (lv' := [(3, .int x1), (0, .ref (b0 + v0)), (1, .int v1), (2, .int v2), (4, .int v4)]) hC dX7_costs_106 rfl rfl hl (by decide) rfl (fun ls hl => ?_)
  refine zj_iinc (pc' := 110) (k0 := 4) (v := (v4 + (1 : Int32))) (lv' := [(4, .int (v4 + (1 : Int32))), (3, .int x1), (0, .ref (b0 + v0)), (1, .int v1), (2, .int v2)]) hC dX7_costs_107 rfl hl rfl rfl (by decide) rfl (fun ls hl => ?_)
  refine zj_goto (tgt := 48) hC dX7_costs_110 (by decide) ?_
  exact h48 v0 v1 v2 x1 ((v4 + (1 : Int32))) σ ls hk_v0 (lv_sub hl [2, 3, 4, 1, 0] rfl)
set_option maxRecDepth 100000 in
set_option maxHeartbeats 4000000 in
theorem jX7_costs_48 {p : Program} {l : Launch} {e : Env} {s : State} {m : MethodId} {args : Array Value} {below : List Frame} {meth : Method} {c : Code} {b0 : Nat} {cA : Nat → ClassId} {D : va_G} {L : List (Nat × Nat)} (hC : zC p c s m args meth cX7_costs 5 (some Jvm.ClassFile.FieldType.int) (Cond.code yX7_costs cX7_costs 5 (some Jvm.ClassFile.FieldType.int)) yX7_costs.cls cA D) (k48 : Nat → Int32 → Int32 → Int32 → Int32 → zS → Option (Int32 × zS)) (h48 : ∀ (v0 : Nat) (v1 : Int32) (v2 : Int32) (v3 : Int32) (v4 : Int32) (σ : zS) (ls : Array Slot), L[v0]? = some (0, 7) → lv_has ls 5 [(0, .ref (b0 + v0)), (1, .int v1), (2, .int v2), (3, .int v3), (4, .int v4)] → zJ p l e rmX7_costs s m args below meth c b0 cA D L (fun z => MQ below (va_Qi (fun (r : Int32) (u : zS) => (r, u) = z) (zB b0 cA D L) (zA b0 L)) args s 0 0 (zA b0 L)) (k48 v0 v1 v2 v3 v4 σ) σ 48 ls []) (v0 : Nat) (v1 : Int32) (v2 : Int32) (v3 : Int32) (v4 : Int32) (σ : zS) (ls : Array Slot) (hk_v0 : L[v0]? = some (0, 7)) (hl : lv_has ls 5 [(0, .ref (b0 + v0)), (1, .int v1), (2, .int v2), (3, .int v3), (4, .int v4)]) : zJ p l e rmX7_costs s m args below meth c b0 cA D L (fun z => MQ below (va_Qi (fun (r : Int32) (u : zS) => (r, u) = z) (zB b0 cA D L) (zA b0 L)) args s 0 0 (zA b0 L)) (bX7_costs_48 k48 v0 v1 v2 v3 v4 σ) σ 48 ls [] := by
  unfold bX7_costs_48
  refine zj_iload (pc' := 50) hC dX7_costs_48 rfl (lv_at hl 4 rfl) ?_
  refine zj_aload_n (pc' := 51) hC dX7_costs_50 rfl rfl (lv_at hl 0 rfl) ?_
  refine zj_getI (pc' := 54) hC hk_v0 fd_7_1 rfl tw_4_49 dX7_costs_51 rfl ?_
  refine zj_icmp_ge (tgt := 113) (pc' := 57) hC dX7_costs_54 (by decide) rfl (fun c2 => ?_) (fun c2 => ?_)
  · refine zj_iload_n (pc' := 114) hC dX7_costs_113 rfl rfl (lv_at hl 2 rfl) ?_
    refine zj_iload_n (pc' := 115) hC dX7_costs_114 rfl rfl (lv_at hl 3 rfl) ?_
    refine zj_imul (pc' := 116) hC dX7_costs_115 rfl ?_
    exact zj_iret hC dX7_costs_116
  · refine zj_iload_n (pc' := 58) hC dX7_costs_57 rfl rfl (lv_at hl 3 rfl) ?_
    refine zj_aload_n (pc' := 59) hC dX7_costs_58 rfl rfl (lv_at hl 0 rfl) ?_
    refine zj_getR (pc' := 62) hC hk_v0 fd_7_9 rfl tw_4_57 dX7_costs_59 rfl (fun q3 hk_q3 => ?_)
    refine zj_bipush (pc' := 64) (v := (40 : Int32)) hC dX7_costs_62 rfl rfl ?_
    refine zj_iload_n (pc' := 65) hC dX7_costs_64 rfl rfl (lv_at hl 1 rfl) ?_
    refine zj_imul (pc' := 66) hC dX7_costs_65 rfl ?_
    refine zj_iload (pc' := 68) hC dX7_costs_66 rfl (lv_at hl 4 rfl) ?_
    refine zj_iadd (pc' := 69) hC dX7_costs_68 rfl ?_
    refine zj_iald (pc' := 70) hC hk_q3 dX7_costs_69 rfl (fun g4 => ?_)
    refine zj_iconst (pc' := 71) (v := (1 : Int32)) hC dX7_costs_70 rfl rfl ?_
    refine zj_icmp_ne (tgt := 81) (pc' := 74) hC dX7_costs_71 (by decide) rfl (fun c5 => ?_) (fun c5 => ?_)
    · refine zj_aload_n (pc' := 82) hC dX7_costs_81 rfl rfl (lv_at hl 0 rfl) ?_
      refine zj_getR (pc' := 85) hC hk_v0 fd_7_9 rfl tw_4_57 dX7_costs_82 rfl (fun q6 hk_q6 => ?_)
      refine zj_bipush (pc' := 87) (v := (40 : Int32)) hC dX7_costs_85 rfl rfl ?_
      refine zj_iload_n (pc' := 88) hC dX7_costs_87 rfl rfl (lv_at hl 1 rfl) ?_
      refine zj_imul (pc' := 89) hC dX7_costs_88 rfl ?_
      refine zj_iload (pc' := 91) hC dX7_costs_89 rfl (lv_at hl 4 rfl) ?_
      refine zj_iadd (pc' := 92) hC dX7_costs_91 rfl ?_
      refine zj_iald (pc' := 93) hC hk_q6 dX7_costs_92 rfl (fun g7 => ?_)
      refine zj_iconst (pc' := 94) (v := (2 : Int32)) hC dX7_costs_93 rfl rfl ?_
      refine zj_icmp_ne (tgt := 104) (pc' := 97) hC dX7_costs_94 (by decide) rfl (fun c8 => ?_) (fun c8 => ?_)
      · refine zj_iconst (pc' := 105) (v := (0 : Int32)) hC dX7_costs_104 rfl rfl ?_
        exact jX7_costs_105 hC k48 h48 v0 v1 v2 v4 v3 (0 : Int32) σ ls hk_v0 (lv_sub hl [0, 1, 2, 4] rfl)
      · refine zj_aload_n (pc' := 98) hC dX7_costs_97 rfl rfl (lv_at hl 0 rfl) ?_
        refine zj_getI (pc' := 101) hC hk_v0 fd_7_3 rfl tw_4_51 dX7_costs_98 rfl ?_
        refine zj_goto (tgt := 105) hC dX7_costs_101 (by decide) ?_
        exact jX7_costs_105 hC k48 h48 v0 v1 v2 v4 v3 ((σ.1 v0 3)) σ ls hk_v0 (lv_sub hl [0, 1, 2, 4] rfl)
    · refine zj_aload_n (pc' := 75) hC dX7_costs_74 rfl rfl (lv_at hl 0 rfl) ?_
      refine zj_getI (pc' := 78) hC hk_v0 fd_7_2 rfl tw_4_50 dX7_costs_75 rfl ?_
      refine zj_goto (tgt := 105) hC dX7_costs_78 (by decide) ?_
      exact jX7_costs_105 hC k48 h48 v0 v1 v2 v4 v3 ((σ.1 v0 2)) σ ls hk_v0 (lv_sub hl [0, 1, 2, 4] rfl)
set_option maxRecDepth 100000 in
set_option maxHeartbeats 4000000 in
theorem lX7_costs_48 {p : Program} {l : Launch} {e : Env} {s : State} {m : MethodId} {args : Array Value} {below : List Frame} {meth : Method} {c : Code} {b0 : Nat} {cA : Nat → ClassId} {D : va_G} {L : List (Nat × Nat)} (hC : zC p c s m args meth cX7_costs 5 (some Jvm.ClassFile.FieldType.int) (Cond.code yX7_costs cX7_costs 5 (some Jvm.ClassFile.FieldType.int)) yX7_costs.cls cA D)  (n : Nat) : ∀ (v0 : Nat) (v1 : Int32) (v2 : Int32) (v3 : Int32) (v4 : Int32) (σ : zS) (ls : Array Slot), L[v0]? = some (0, 7) → lv_has ls 5 [(0, .ref (b0 + v0)), (1, .int v1), (2, .int v2), (3, .int v3), (4, .int v4)] → zJ p l e rmX7_costs s m args below meth c b0 cA D L (fun z => MQ below (va_Qi (fun (r : Int32) (u : zS) => (r, u) = z) (zB b0 cA D L) (zA b0 L)) args s 0 0 (zA b0 L)) (fX7_costs_48  n v0 v1 v2 v3 v4 σ) σ 48 ls [] := by
  induction n with
  | zero => intros; exact zj_none
  | succ n ih => exact jX7_costs_48 hC (fX7_costs_48  n) ih
set_option maxRecDepth 100000 in
set_option maxHeartbeats 4000000 in
theorem jX7_costs_43 {p : Program} {l : Launch} {e : Env} {s : State} {m : MethodId} {args : Array Value} {below : List Frame} {meth : Method} {c : Code} {b0 : Nat} {cA : Nat → ClassId} {D : va_G} {L : List (Nat × Nat)} (hC : zC p c s m args meth cX7_costs 5 (some Jvm.ClassFile.FieldType.int) (Cond.code yX7_costs cX7_costs 5 (some Jvm.ClassFile.FieldType.int)) yX7_costs.cls cA D)  (v0 : Nat) (v1 : Int32) (v2 : Int32) (σ : zS) (ls : Array Slot) (hk_v0 : L[v0]? = some (0, 7)) (hl : lv_has ls 5 [(0, .ref (b0 + v0)), (1, .int v1), (2, .int v2)]) : zJ p l e rmX7_costs s m args below meth c b0 cA D L (fun z => MQ below (va_Qi (fun (r : Int32) (u : zS) => (r, u) = z) (zB b0 cA D L) (zA b0 L)) args s 0 0 (zA b0 L)) (bX7_costs_43  v0 v1 v2 σ) σ 43 ls [] := by
  unfold bX7_costs_43
  refine zj_iconst (pc' := 44) (v := (0 : Int32)) hC dX7_costs_43 rfl rfl ?_
  refine zj_istore_n (pc' := 45) (lv' := [(3, .int (0 : Int32)), (0, .ref (b0 + v0)), (1, .int v1), (2, .int v2)]) hC dX7_costs_44 rfl rfl hl (by decide) rfl (fun ls hl => ?_)
  refine zj_iconst (pc' := 46) (v := (0 : Int32)) hC dX7_costs_45 rfl rfl ?_
  refine zj_istore (pc' := 48) (lv' := [(4, .int (0 : Int32)), (3, .int (0 : Int32)), (0, .ref (b0 + v0)), (1, .int v1), (2, .int v2)]) hC dX7_costs_46 rfl hl (by decide) rfl (fun ls hl => ?_)
  exact lX7_costs_48 hC zFU v0 v1 v2 (0 : Int32) (0 : Int32) σ ls hk_v0 (lv_sub hl [2, 3, 4, 1, 0] rfl)
set_option maxRecDepth 100000 in
set_option maxHeartbeats 4000000 in
theorem jX7_costs_35 {p : Program} {l : Launch} {e : Env} {s : State} {m : MethodId} {args : Array Value} {below : List Frame} {meth : Method} {c : Code} {b0 : Nat} {cA : Nat → ClassId} {D : va_G} {L : List (Nat × Nat)} (hC : zC p c s m args meth cX7_costs 5 (some Jvm.ClassFile.FieldType.int) (Cond.code yX7_costs cX7_costs 5 (some Jvm.ClassFile.FieldType.int)) yX7_costs.cls cA D) (k13 : Nat → Int32 → Int32 → Int32 → zS → Option (Int32 × zS)) (h13 : ∀ (v0 : Nat) (v1 : Int32) (v2 : Int32) (v3 : Int32) (σ : zS) (ls : Array Slot), L[v0]? = some (0, 7) → lv_has ls 5 [(0, .ref (b0 + v0)), (1, .int v1), (2, .int v2), (3, .int v3)] → zJ p l e rmX7_costs s m args below meth c b0 cA D L (fun z => MQ below (va_Qi (fun (r : Int32) (u : zS) => (r, u) = z) (zB b0 cA D L) (zA b0 L)) args s 0 0 (zA b0 L)) (k13 v0 v1 v2 v3 σ) σ 13 ls []) (v0 : Nat) (v1 : Int32) (v3 : Int32) (s0 : Int32) (s1 : Int32) (σ : zS) (ls : Array Slot) (hk_v0 : L[v0]? = some (0, 7)) (hb_s1 : nB s1) (hl : lv_has ls 5 [(0, .ref (b0 + v0)), (1, .int v1), (3, .int v3)]) : zJ p l e rmX7_costs s m args below meth c b0 cA D L (fun z => MQ below (va_Qi (fun (r : Int32) (u : zS) => (r, u) = z) (zB b0 cA D L) (zA b0 L)) args s 0 0 (zA b0 L)) (bX7_costs_35 k13 v0 v1 v3 s0 s1 σ) σ 35 ls [.int s1, .int s0] := by
  unfold bX7_costs_35
  refine zj_iadd (pc' := 36) hC dX7_costs_35 rfl ?_
  refine zj_nmi (fun x9 => ?_)
  refine zj_istore_n (pc' := 37) (lv' := [(2, .int x9), (0, .ref (b0 + v0)), (1, .int v1), (3, .int v3)]) hC dX7_costs_36 rfl rfl hl (by decide) rfl (fun ls hl => ?_)
  refine zj_iinc (pc' := 40) (k0 := 3) (v := (v3 + (1 : Int32))) (lv' := [(3, .int (v3 + (1 : Int32))), (2, .int x9), (0, .ref (b0 + v0)), (1, .int v1)]) hC dX7_costs_37 rfl hl rfl rfl (by decide) rfl (fun ls hl => ?_)
  refine zj_goto (tgt := 13) hC dX7_costs_40 (by decide) ?_
  exact h13 v0 v1 x9 ((v3 + (1 : Int32))) σ ls hk_v0 (lv_sub hl [2, 3, 1, 0] rfl)
set_option maxRecDepth 100000 in
set_option maxHeartbeats 4000000 in
theorem jX7_costs_13 {p : Program} {l : Launch} {e : Env} {s : State} {m : MethodId} {args : Array Value} {below : List Frame} {meth : Method} {c : Code} {b0 : Nat} {cA : Nat → ClassId} {D : va_G} {L : List (Nat × Nat)} (hC : zC p c s m args meth cX7_costs 5 (some Jvm.ClassFile.FieldType.int) (Cond.code yX7_costs cX7_costs 5 (some Jvm.ClassFile.FieldType.int)) yX7_costs.cls cA D) (k13 : Nat → Int32 → Int32 → Int32 → zS → Option (Int32 × zS)) (h13 : ∀ (v0 : Nat) (v1 : Int32) (v2 : Int32) (v3 : Int32) (σ : zS) (ls : Array Slot), L[v0]? = some (0, 7) → lv_has ls 5 [(0, .ref (b0 + v0)), (1, .int v1), (2, .int v2), (3, .int v3)] → zJ p l e rmX7_costs s m args below meth c b0 cA D L (fun z => MQ below (va_Qi (fun (r : Int32) (u : zS) => (r, u) = z) (zB b0 cA D L) (zA b0 L)) args s 0 0 (zA b0 L)) (k13 v0 v1 v2 v3 σ) σ 13 ls []) (v0 : Nat) (v1 : Int32) (v2 : Int32) (v3 : Int32) (σ : zS) (ls : Array Slot) (hk_v0 : L[v0]? = some (0, 7)) (hl : lv_has ls 5 [(0, .ref (b0 + v0)), (1, .int v1), (2, .int v2), (3, .int v3)]) : zJ p l e rmX7_costs s m args below meth c b0 cA D L (fun z => MQ below (va_Qi (fun (r : Int32) (u : zS) => (r, u) = z) (zB b0 cA D L) (zA b0 L)) args s 0 0 (zA b0 L)) (bX7_costs_13 k13 v0 v1 v2 v3 σ) σ 13 ls [] := by
  unfold bX7_costs_13
  refine zj_iload_n (pc' := 14) hC dX7_costs_13 rfl rfl (lv_at hl 3 rfl) ?_
  refine zj_bipush (pc' := 16) (v := (24 : Int32)) hC dX7_costs_14 rfl rfl ?_
  refine zj_icmp_ge (tgt := 43) (pc' := 19) hC dX7_costs_16 (by decide) rfl (fun c10 => ?_) (fun c10 => ?_)
  · exact jX7_costs_43 hC v0 v1 v2 σ ls hk_v0 (lv_sub hl [0, 1, 2] rfl)
  · refine zj_iload_n (pc' := 20) hC dX7_costs_19 rfl rfl (lv_at hl 2 rfl) ?_
    refine zj_aload_n (pc' := 21) hC dX7_costs_20 rfl rfl (lv_at hl 0 rfl) ?_
    refine zj_getR (pc' := 24) hC hk_v0 fd_7_6 rfl tw_4_54 dX7_costs_21 rfl (fun q11 hk_q11 => ?_)
    refine zj_iload_n (pc' := 25) hC dX7_costs_24 rfl rfl (lv_at hl 3 rfl) ?_
    refine zj_iald (pc' := 26) hC hk_q11 dX7_costs_25 rfl (fun g12 => ?_)
    refine zj_iload_n (pc' := 27) hC dX7_costs_26 rfl rfl (lv_at hl 1 rfl) ?_
    refine zj_icmp_ne (tgt := 34) (pc' := 30) hC dX7_costs_27 (by decide) rfl (fun c13 => ?_) (fun c13 => ?_)
    · refine zj_iconst (pc' := 35) (v := (0 : Int32)) hC dX7_costs_34 rfl rfl ?_
      exact jX7_costs_35 hC k13 h13 v0 v1 v3 v2 (0 : Int32) σ ls hk_v0 nB_0 (lv_sub hl [0, 1, 3] rfl)
    · refine zj_iconst (pc' := 31) (v := (1 : Int32)) hC dX7_costs_30 rfl rfl ?_
      refine zj_goto (tgt := 35) hC dX7_costs_31 (by decide) ?_
      exact jX7_costs_35 hC k13 h13 v0 v1 v3 v2 (1 : Int32) σ ls hk_v0 nB_1 (lv_sub hl [0, 1, 3] rfl)
set_option maxRecDepth 100000 in
set_option maxHeartbeats 4000000 in
theorem lX7_costs_13 {p : Program} {l : Launch} {e : Env} {s : State} {m : MethodId} {args : Array Value} {below : List Frame} {meth : Method} {c : Code} {b0 : Nat} {cA : Nat → ClassId} {D : va_G} {L : List (Nat × Nat)} (hC : zC p c s m args meth cX7_costs 5 (some Jvm.ClassFile.FieldType.int) (Cond.code yX7_costs cX7_costs 5 (some Jvm.ClassFile.FieldType.int)) yX7_costs.cls cA D)  (n : Nat) : ∀ (v0 : Nat) (v1 : Int32) (v2 : Int32) (v3 : Int32) (σ : zS) (ls : Array Slot), L[v0]? = some (0, 7) → lv_has ls 5 [(0, .ref (b0 + v0)), (1, .int v1), (2, .int v2), (3, .int v3)] → zJ p l e rmX7_costs s m args below meth c b0 cA D L (fun z => MQ below (va_Qi (fun (r : Int32) (u : zS) => (r, u) = z) (zB b0 cA D L) (zA b0 L)) args s 0 0 (zA b0 L)) (fX7_costs_13  n v0 v1 v2 v3 σ) σ 13 ls [] := by
  induction n with
  | zero => intros; exact zj_none
  | succ n ih => exact jX7_costs_13 hC (fX7_costs_13  n) ih
set_option maxRecDepth 100000 in
set_option maxHeartbeats 4000000 in
theorem kX7_costs (l : Launch) (b0 : Nat) (cA : Nat → ClassId) (D : va_G) (L : List (Nat × Nat)) (v0 : Nat) (v1 : Int32) (σ : zS) (hk0 : L[v0]? = some (0, 7)) : zMi l b0 cA D L yX7_costs (Cond.code yX7_costs cX7_costs 5 (some Jvm.ClassFile.FieldType.int)) rmX7_costs [.ref (b0 + v0), .int v1] σ (fX7_costs v0 v1 σ) := by
  refine zMi_of (by decide) (Nat.le_of_ble_eq_true rfl) ?_
  intro p e s m below meth c ls hC hl
  have hl : lv_has ls 5 [(0, .ref (b0 + v0)), (1, .int v1)] := hl
  generalize ([.ref (b0 + v0), .int v1] : List Value).toArray = args at hC ⊢
  unfold fX7_costs
  refine zj_iload_n (pc' := 1) hC dX7_costs_0 rfl rfl (lv_at hl 1 rfl) ?_
  refine zj_callzS (pc' := 4) (rest := []) hC (kX7_isStick l b0 cA D L v1 σ ) tw_5_11 tw_5_9 tw_5_10 tw_1_8 ddX7_isStick rfl ⟨rfl, rfl⟩ ⟨by decide, by decide⟩ hl.1 (Nat.le_of_ble_eq_true rfl) rfl dX7_costs_1 rfl (fun r15 σ14 hb_r15 => ?_)
  refine zj_if_ne (tgt := 9) (pc' := 7) hC dX7_costs_4 (by decide) rfl (fun c16 => ?_) (fun c16 => ?_)
  · refine zj_iconst (pc' := 10) (v := (0 : Int32)) hC dX7_costs_9 rfl rfl ?_
    refine zj_istore_n (pc' := 11) (lv' := [(2, .int (0 : Int32)), (0, .ref (b0 + v0)), (1, .int v1)]) hC dX7_costs_10 rfl rfl hl (by decide) rfl (fun ls hl => ?_)
    refine zj_iconst (pc' := 12) (v := (0 : Int32)) hC dX7_costs_11 rfl rfl ?_
    refine zj_istore_n (pc' := 13) (lv' := [(3, .int (0 : Int32)), (2, .int (0 : Int32)), (0, .ref (b0 + v0)), (1, .int v1)]) hC dX7_costs_12 rfl rfl hl (by decide) rfl (fun ls hl => ?_)
    exact lX7_costs_13 hC zFU v0 v1 (0 : Int32) (0 : Int32) σ14 ls hk0 (lv_sub hl [2, 3, 1, 0] rfl)
  · refine zj_iconst (pc' := 8) (v := (-1 : Int32)) hC dX7_costs_7 rfl rfl ?_
    exact zj_iret hC dX7_costs_8
-- X7_moreBy
theorem ddX7_moreBy : yX7_moreBy.cls ≠ "java/lang/invoke/MethodHandle" ∧ yX7_moreBy.cls ≠ "java/lang/invoke/VarHandle" ∧ (parseMethodDescriptor yX7_moreBy.desc).map (fun d => d.parameters.length) = some 1 := by decide +kernel
abbrev rmX7_moreBy : Room := { frames := 5, cells := 0, slots := 0, locals := 117 }
def fX7_moreBy (v0 : Nat) (v1 : Int32) (σ : zS) : Option (Int32 × zS) :=
  zb (fX7_playsAsTold v0 σ) (fun (r2 : Int32) (σ1 : zS) => zb (fX7_playsWithout v0 v1 σ1) (fun (r4 : Int32) (σ3 : zS) => some ((r2 - r4), σ3)))
set_option maxRecDepth 100000 in
set_option maxHeartbeats 4000000 in
theorem kX7_moreBy (l : Launch) (b0 : Nat) (cA : Nat → ClassId) (D : va_G) (L : List (Nat × Nat)) (v0 : Nat) (v1 : Int32) (σ : zS) (hk0 : L[v0]? = some (0, 7)) : zMi l b0 cA D L yX7_moreBy (Cond.code yX7_moreBy cX7_moreBy 3 (some Jvm.ClassFile.FieldType.int)) rmX7_moreBy [.ref (b0 + v0), .int v1] σ (fX7_moreBy v0 v1 σ) := by
  refine zMi_of (by decide) (Nat.le_of_ble_eq_true rfl) ?_
  intro p e s m below meth c ls hC hl
  have hl : lv_has ls 3 [(0, .ref (b0 + v0)), (1, .int v1)] := hl
  generalize ([.ref (b0 + v0), .int v1] : List Value).toArray = args at hC ⊢
  unfold fX7_moreBy
  refine zj_aload_n (pc' := 1) hC dX7_moreBy_0 rfl rfl (lv_at hl 0 rfl) ?_
  refine zj_calliV (pc' := 4) (rest := []) hC (kX7_playsAsTold l b0 cA D L v0 σ hk0) hk0 rfl tw_5_114 tw_5_111 tw_5_113 ts_4_8 tw_1_8 ddX7_playsAsTold rfl ⟨rfl, rfl⟩ ⟨by decide, by decide⟩ hl.1 (Nat.le_of_ble_eq_true rfl) rfl dX7_moreBy_1 rfl (fun r2 σ1 => ?_)
  refine zj_istore_n (pc' := 5) (lv' := [(2, .int r2), (0, .ref (b0 + v0)), (1, .int v1)]) hC dX7_moreBy_4 rfl rfl hl (by decide) rfl (fun ls hl => ?_)
  refine zj_iload_n (pc' := 6) hC dX7_moreBy_5 rfl rfl (lv_at hl 0 rfl) ?_
  refine zj_aload_n (pc' := 7) hC dX7_moreBy_6 rfl rfl (lv_at hl 1 rfl) ?_
  refine zj_iload_n (pc' := 8) hC dX7_moreBy_7 rfl rfl (lv_at hl 2 rfl) ?_
  refine zj_calliV (pc' := 11) (rest := [.int r2]) hC (kX7_playsWithout l b0 cA D L v0 v1 σ1 hk0) hk0 rfl tw_5_169 tw_5_166 tw_5_168 ts_5_1 tw_1_8 ddX7_playsWithout rfl ⟨rfl, rfl⟩ ⟨by decide, by decide⟩ hl.1 (Nat.le_of_ble_eq_true rfl) rfl dX7_moreBy_8 rfl (fun r4 σ3 => ?_)
  refine zj_isub (pc' := 12) hC dX7_moreBy_11 rfl ?_
  exact zj_iret hC dX7_moreBy_12
