-- X6_law
theorem ddX6_law : yX6_law.cls ≠ "java/lang/invoke/MethodHandle" ∧ yX6_law.cls ≠ "java/lang/invoke/VarHandle" ∧ (parseMethodDescriptor yX6_law.desc).map (fun d => d.parameters.length) = some 2 := by decide +kernel
abbrev rmX6_law : Room := { frames := 80, cells := 0, slots := 0, locals := 2949 }
def fX6_law (v0 : Nat) (v1 : Int32) (v2 : Int32) (σ : zS) : Option (Int32 × zS) :=
  zb (fX6_within v1 (0 : Int32) (3 : Int32) σ) (fun (r2 : Int32) (σ1 : zS) => if r2 = 0 then (some ((-1 : Int32), σ1)) else (zb (fX6_within v2 (1 : Int32) (120 : Int32) σ1) (fun (r5 : Int32) (σ4 : zS) => if r5 = 0 then (some ((-1 : Int32), σ4)) else (if v2 ≤ (σ4.1 v0 10) then (bnd (σ4.2 v0 8) (fun (q8 : Nat) => bnd (σ4.2 v0 7) (fun (q9 : Nat) => zb (fX5_read q8 v2 q9 σ4) (fun (r11 : Int32) (σ10 : zS) => bnd (zI σ10 v0 10 (0 : Int32)) (fun (σ12 : zS) => if r11 ≤ 0 then (some (r11, σ12)) else (bnd (σ12.2 v0 6) (fun (q14 : Nat) => zX v1 4 (bnd (σ12.2 q14 (v1).toNatClampNeg) (fun (q16 : Nat) => bnd (σ12.2 v0 6) (fun (q17 : Nat) => bnd (σ12.2 v0 7) (fun (q18 : Nat) => zX v1 4 (bnd (zR σ12 q17 (v1).toNatClampNeg q18) (fun (σ20 : zS) => bnd (zR σ20 v0 7 q16) (fun (σ21 : zS) => bnd (zI σ21 v0 2 (1 : Int32)) (fun (σ22 : zS) => some (r11, σ22)))))))))))))))) else (some ((-1 : Int32), σ4))))))
set_option maxRecDepth 100000 in
set_option maxHeartbeats 4000000 in
theorem kX6_law (l : Launch) (b0 : Nat) (cA : Nat → ClassId) (D : va_G) (L : List (Nat × Nat)) (sq sw : Nat) (v0 : Nat) (v1 : Int32) (v2 : Int32) (σ : zS) (hk0 : L[v0]? = some (0, 6)) : zNi l b0 cA D L sq sw yX6_law (Cond.code yX6_law cX6_law 5 (some Jvm.ClassFile.FieldType.int)) rmX6_law [.ref (b0 + v0), .int v1, .int v2] σ (fX6_law v0 v1 v2 σ) := by
  refine zNi_of (by decide) (Nat.le_of_ble_eq_true rfl) ?_
  intro p e s m below meth c ls hG hC hl
  have hl : lv_has ls 5 [(0, .ref (b0 + v0)), (1, .int v1), (2, .int v2)] := hl
  generalize ([.ref (b0 + v0), .int v1, .int v2] : List Value).toArray = args at hC ⊢
  unfold fX6_law
  refine zj_iload_n (pc' := 1) hC dX6_law_0 rfl rfl (lv_at hl 1 rfl) ?_
  refine zj_iconst (pc' := 2) (v := (0 : Int32)) hC dX6_law_1 rfl rfl ?_
  refine zj_iconst (pc' := 3) (v := (3 : Int32)) hC dX6_law_2 rfl rfl ?_
  refine zj_callzS (pc' := 6) (rest := []) hC (kX6_within l b0 cA D L v1 (0 : Int32) (3 : Int32) σ ) tw_2_13 tw_2_11 tw_2_12 tw_1_1 ddX6_within rfl ⟨rfl, rfl⟩ ⟨by decide, by decide⟩ hl.1 (Nat.le_of_ble_eq_true rfl) rfl dX6_law_3 rfl (fun r2 σ1 hb_r2 => ?_)
  refine zj_if_eq (tgt := 27) (pc' := 9) hC dX6_law_6 (by decide) rfl (fun c3 => ?_) (fun c3 => ?_)
  · refine zj_iconst (pc' := 28) (v := (-1 : Int32)) hC dX6_law_27 rfl rfl ?_
    exact zj_iret hC dX6_law_28
  · refine zj_iload_n (pc' := 10) hC dX6_law_9 rfl rfl (lv_at hl 2 rfl) ?_
    refine zj_iconst (pc' := 11) (v := (1 : Int32)) hC dX6_law_10 rfl rfl ?_
    refine zj_bipush (pc' := 13) (v := (120 : Int32)) hC dX6_law_11 rfl rfl ?_
    refine zj_callzS (pc' := 16) (rest := []) hC (kX6_within l b0 cA D L v2 (1 : Int32) (120 : Int32) σ1 ) tw_2_13 tw_2_11 tw_2_12 tw_1_1 ddX6_within rfl ⟨rfl, rfl⟩ ⟨by decide, by decide⟩ hl.1 (Nat.le_of_ble_eq_true rfl) rfl dX6_law_13 rfl (fun r5 σ4 hb_r5 => ?_)
    refine zj_if_eq (tgt := 27) (pc' := 19) hC dX6_law_16 (by decide) rfl (fun c6 => ?_) (fun c6 => ?_)
    · refine zj_iconst (pc' := 28) (v := (-1 : Int32)) hC dX6_law_27 rfl rfl ?_
      exact zj_iret hC dX6_law_28
    · refine zj_iload_n (pc' := 20) hC dX6_law_19 rfl rfl (lv_at hl 2 rfl) ?_
      refine zj_aload_n (pc' := 21) hC dX6_law_20 rfl rfl (lv_at hl 0 rfl) ?_
      refine zj_getI (pc' := 24) hC hk0 fd_6_10 rfl tw_1_205 dX6_law_21 rfl ?_
      refine zj_icmp_le (tgt := 29) (pc' := 27) hC dX6_law_24 (by decide) rfl (fun c7 => ?_) (fun c7 => ?_)
      · refine zj_aload_n (pc' := 30) hC dX6_law_29 rfl rfl (lv_at hl 0 rfl) ?_
        refine zj_getR (pc' := 33) hC hk0 fd_6_8 rfl tw_1_203 dX6_law_30 rfl (fun q8 hk_q8 => ?_)
        refine zj_iload_n (pc' := 34) hC dX6_law_33 rfl rfl (lv_at hl 2 rfl) ?_
        refine zj_aload_n (pc' := 35) hC dX6_law_34 rfl rfl (lv_at hl 0 rfl) ?_
        refine zj_getR (pc' := 38) hC hk0 fd_6_7 rfl tw_1_202 dX6_law_35 rfl (fun q9 hk_q9 => ?_)
        refine zn_calliV (pc' := 41) (rest := []) hG hC (kX5_read l b0 cA D L sq sw q8 v2 q9 σ4 hk_q8 hk_q9) hk_q8 rfl tw_2_80 tw_2_77 tw_2_78 tw_2_79 tw_1_7 ddX5_read rfl ⟨rfl, rfl⟩ ⟨by decide, by decide⟩ hl.1 (Nat.le_of_ble_eq_true rfl) rfl dX6_law_38 rfl (fun r11 σ10 => ?_)
        refine zj_istore_n (pc' := 42) (lv' := [(3, .int r11), (0, .ref (b0 + v0)), (1, .int v1), (2, .int v2)]) hC dX6_law_41 rfl rfl hl (by decide) rfl (fun ls hl => ?_)
        refine zj_aload_n (pc' := 43) hC dX6_law_42 rfl rfl (lv_at hl 1 rfl) ?_
        refine zj_iconst (pc' := 44) (v := (0 : Int32)) hC dX6_law_43 rfl rfl ?_
        refine zj_putI (pc' := 47) hC hk0 fd_6_10 rfl tw_1_205 rfl rfl rfl dX6_law_44 rfl (fun σ12 => ?_)
        refine zj_iload_n (pc' := 48) hC dX6_law_47 rfl rfl (lv_at hl 0 rfl) ?_
        refine zj_if_le (tgt := 80) (pc' := 51) hC dX6_law_48 (by decide) rfl (fun c13 => ?_) (fun c13 => ?_)
        · refine zj_iload_n (pc' := 81) hC dX6_law_80 rfl rfl (lv_at hl 0 rfl) ?_
          exact zj_iret hC dX6_law_81
        · refine zj_aload_n (pc' := 52) hC dX6_law_51 rfl rfl (lv_at hl 1 rfl) ?_
          refine zj_getR (pc' := 55) hC hk0 fd_6_6 rfl tw_1_201 dX6_law_52 rfl (fun q14 hk_q14 => ?_)
          refine zj_iload_n (pc' := 56) hC dX6_law_55 rfl rfl (lv_at hl 2 rfl) ?_
          refine zj_aald (t := 1) (pc' := 57) hC hk_q14 (by decide) dX6_law_56 rfl (fun g15 q16 hk_q16 => ?_)
          refine zj_astore (pc' := 59) (lv' := [(4, .ref (b0 + q16)), (3, .int r11), (0, .ref (b0 + v0)), (1, .int v1), (2, .int v2)]) hC dX6_law_57 rfl hl (by decide) rfl (fun ls hl => ?_)
          refine zj_aload_n (pc' := 60) hC dX6_law_59 rfl rfl (lv_at hl 2 rfl) ?_
          refine zj_getR (pc' := 63) hC hk0 fd_6_6 rfl tw_1_201 dX6_law_60 rfl (fun q17 hk_q17 => ?_)
          refine zj_iload_n (pc' := 64) hC dX6_law_63 rfl rfl (lv_at hl 3 rfl) ?_
          refine zj_aload_n (pc' := 65) hC dX6_law_64 rfl rfl (lv_at hl 2 rfl) ?_
          refine zj_getR (pc' := 68) hC hk0 fd_6_7 rfl tw_1_202 dX6_law_65 rfl (fun q18 hk_q18 => ?_)
          refine zj_aast (t := 1) (pc' := 69) hC hk_q17 (by decide) hk_q18 dX6_law_68 rfl (fun g19 σ20 => ?_)
          refine zj_aload_n (pc' := 70) hC dX6_law_69 rfl rfl (lv_at hl 2 rfl) ?_
          refine zj_aload (pc' := 72) hC dX6_law_70 rfl (lv_at hl 0 rfl) ?_
          refine zj_putR (pc' := 75) hC hk0 fd_6_7 rfl hk_q16 tw_1_202 rfl (fun _ => rfl) (fun _ => rfl) dX6_law_72 rfl (fun σ21 => ?_)
          refine zj_aload_n (pc' := 76) hC dX6_law_75 rfl rfl (lv_at hl 2 rfl) ?_
          refine zj_iconst (pc' := 77) (v := (1 : Int32)) hC dX6_law_76 rfl rfl ?_
          refine zj_putI (pc' := 80) hC hk0 fd_6_2 rfl tw_1_197 rfl rfl rfl dX6_law_77 rfl (fun σ22 => ?_)
          refine zj_iload_n (pc' := 81) hC dX6_law_80 rfl rfl (lv_at hl 1 rfl) ?_
          exact zj_iret hC dX6_law_81
      · refine zj_iconst (pc' := 28) (v := (-1 : Int32)) hC dX6_law_27 rfl rfl ?_
        exact zj_iret hC dX6_law_28
