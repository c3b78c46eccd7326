-- X5_clause
theorem ddX5_clause : yX5_clause.cls ≠ "java/lang/invoke/MethodHandle" ∧ yX5_clause.cls ≠ "java/lang/invoke/VarHandle" ∧ (parseMethodDescriptor yX5_clause.desc).map (fun d => d.parameters.length) = some 0 := by decide +kernel
abbrev rmX5_clause : Room := { frames := 77, cells := 0, slots := 0, locals := 2883 }
def bX5_clause_27  (v0 : Nat) (s0 : Int32) (σ : zS) : Option (Int32 × zS) :=
  if s0 = 0 then (zb (fX5_wrong v0 (1 : Int32) σ) (fun (r28 : Int32) (σ27 : zS) => some (r28, σ27))) else (bnd (σ.2 v0 1) (fun (q2 : Nat) => if (σ.1 q2 2) < (12 : Int32) then (bnd (zI σ v0 3 ((σ.1 v0 3) + (1 : Int32))) (fun (σ4 : zS) => bnd (σ4.2 v0 1) (fun (q5 : Nat) => zb (fX4_add q5 (0 : Int32) (0 : Int32) σ4) (fun (r7 : Int32) (σ6 : zS) => zb (fX5_opens v0 (40 : Int32) σ6) (fun (r9 : Int32) (σ8 : zS) => if r9 = 0 then (some ((0 : Int32), σ8)) else (zb (gX5 64 0 v0 σ8) (fun (r12 : Int32) (σ11 : zS) => if r12 = 0 then (some ((0 : Int32), σ11)) else (zb (fX5_closes v0 (41 : Int32) σ11) (fun (r15 : Int32) (σ14 : zS) => if r15 = 0 then (some ((0 : Int32), σ14)) else (bnd (σ14.2 v0 1) (fun (q17 : Nat) => zb (fX4_add q17 (1 : Int32) s0 σ14) (fun (r19 : Int32) (σ18 : zS) => bnd (σ18.2 v0 1) (fun (q20 : Nat) => zb (fX4_aimHere q20 r7 σ18) (fun (_ : Unit) (σ21 : zS) => bnd (σ21.2 v0 1) (fun (q23 : Nat) => bnd (zI σ21 q23 2 ((σ21.1 q23 2) + (1 : Int32))) (fun (σ24 : zS) => some ((1 : Int32), σ24))))))))))))))))) else (zb (fX5_wrong v0 (4 : Int32) σ) (fun (r26 : Int32) (σ25 : zS) => some (r26, σ25)))))
def fX5_clause (v0 : Nat) (σ : zS) : Option (Int32 × zS) :=
  zb (fX5_sign v0 σ) (fun (r30 : Int32) (σ29 : zS) => if r30 = (99 : Int32) then (bX5_clause_27 v0 (1 : Int32) σ29) else (zb (fX5_sign v0 σ29) (fun (r33 : Int32) (σ32 : zS) => if r33 = (104 : Int32) then (bX5_clause_27 v0 (2 : Int32) σ32) else (bX5_clause_27 v0 (0 : Int32) σ32))))
set_option maxRecDepth 100000 in
set_option maxHeartbeats 4000000 in
theorem jX5_clause_27 {p : Program} {l : Launch} {e : Env} {s : State} {m : MethodId} {args : Array Value} {below : List Frame} {meth : Method} {c : Code} {b0 : Nat} {cA : Nat → ClassId} {D : va_G} {L : List (Nat × Nat)} {sq sw : Nat} (hG : zGq (zA b0 L) sq sw s s.heap) (hC : zC p c s m args meth cX5_clause 3 (some Jvm.ClassFile.FieldType.boolean) (Cond.code yX5_clause cX5_clause 3 (some Jvm.ClassFile.FieldType.boolean)) yX5_clause.cls cA D)  (v0 : Nat) (s0 : Int32) (σ : zS) (ls : Array Slot) (hk_v0 : L[v0]? = some (0, 5)) (hl : lv_has ls 3 [(0, .ref (b0 + v0))]) : zJ p l e rmX5_clause s m args below meth c b0 cA D L (fun z => MQ below (va_Qi (fun (r : Int32) (u : zS) => (r, u) = z ∧ nB r) (zB b0 cA D L) (zA b0 L)) args s 0 0 (zA b0 L)) (bX5_clause_27  v0 s0 σ) σ 27 ls [.int s0] := by
  unfold bX5_clause_27
  refine zj_istore_n (pc' := 28) (lv' := [(1, .int s0), (0, .ref (b0 + v0))]) hC dX5_clause_27 rfl rfl hl (by decide) rfl (fun ls hl => ?_)
  refine zj_iload_n (pc' := 29) hC dX5_clause_28 rfl rfl (lv_at hl 0 rfl) ?_
  refine zj_if_ne (tgt := 38) (pc' := 32) hC dX5_clause_29 (by decide) rfl (fun c1 => ?_) (fun c1 => ?_)
  · refine zj_aload_n (pc' := 39) hC dX5_clause_38 rfl rfl (lv_at hl 1 rfl) ?_
    refine zj_getR (pc' := 42) hC hk_v0 fd_5_1 rfl tw_1_176 dX5_clause_39 rfl (fun q2 hk_q2 => ?_)
    refine zj_getI (pc' := 45) hC hk_q2 fd_4_2 rfl tw_1_160 dX5_clause_42 rfl ?_
    refine zj_bipush (pc' := 47) (v := (12 : Int32)) hC dX5_clause_45 rfl rfl ?_
    refine zj_icmp_lt (tgt := 56) (pc' := 50) hC dX5_clause_47 (by decide) rfl (fun c3 => ?_) (fun c3 => ?_)
    · refine zj_aload_n (pc' := 57) hC dX5_clause_56 rfl rfl (lv_at hl 1 rfl) ?_
      refine zj_dup (pc' := 58) hC dX5_clause_57 rfl rfl ?_
      refine zj_getI (pc' := 61) hC hk_v0 fd_5_3 rfl tw_1_178 dX5_clause_58 rfl ?_
      refine zj_iconst (pc' := 62) (v := (1 : Int32)) hC dX5_clause_61 rfl rfl ?_
      refine zj_iadd (pc' := 63) hC dX5_clause_62 rfl ?_
      refine zj_putI (pc' := 66) hC hk_v0 fd_5_3 rfl tw_1_178 rfl rfl rfl dX5_clause_63 rfl (fun σ4 => ?_)
      refine zj_aload_n (pc' := 67) hC dX5_clause_66 rfl rfl (lv_at hl 1 rfl) ?_
      refine zj_getR (pc' := 70) hC hk_v0 fd_5_1 rfl tw_1_176 dX5_clause_67 rfl (fun q5 hk_q5 => ?_)
      refine zj_iconst (pc' := 71) (v := (0 : Int32)) hC dX5_clause_70 rfl rfl ?_
      refine zj_iconst (pc' := 72) (v := (0 : Int32)) hC dX5_clause_71 rfl rfl ?_
      refine zj_calliV (pc' := 75) (rest := []) hC (kX4_add l b0 cA D L q5 (0 : Int32) (0 : Int32) σ4 hk_q5) hk_q5 rfl tw_2_104 tw_2_101 tw_2_102 tw_2_103 tw_1_6 ddX4_add rfl ⟨rfl, rfl⟩ ⟨by decide, by decide⟩ hl.1 (Nat.le_of_ble_eq_true rfl) rfl dX5_clause_72 rfl (fun r7 σ6 => ?_)
      refine zj_istore_n (pc' := 76) (lv' := [(2, .int r7), (1, .int s0), (0, .ref (b0 + v0))]) hC dX5_clause_75 rfl rfl hl (by decide) rfl (fun ls hl => ?_)
      refine zj_aload_n (pc' := 77) hC dX5_clause_76 rfl rfl (lv_at hl 2 rfl) ?_
      refine zj_bipush (pc' := 79) (v := (40 : Int32)) hC dX5_clause_77 rfl rfl ?_
      refine zj_callzV (pc' := 82) (rest := []) hC (kX5_opens l b0 cA D L v0 (40 : Int32) σ6 hk_v0) hk_v0 rfl tw_2_108 tw_2_105 tw_2_107 ts_1_6 tw_1_7 ddX5_opens rfl ⟨rfl, rfl⟩ ⟨by decide, by decide⟩ hl.1 (Nat.le_of_ble_eq_true rfl) rfl dX5_clause_79 rfl (fun r9 σ8 hb_r9 => ?_)
      refine zj_if_eq (tgt := 101) (pc' := 85) hC dX5_clause_82 (by decide) rfl (fun c10 => ?_) (fun c10 => ?_)
      · refine zj_iconst (pc' := 102) (v := (0 : Int32)) hC dX5_clause_101 rfl rfl ?_
        exact zj_zret hC nB_0 dX5_clause_102
      · refine zj_aload_n (pc' := 86) hC dX5_clause_85 rfl rfl (lv_at hl 2 rfl) ?_
        refine zn_callzV (pc' := 89) (rest := []) hG hC (kX5G l b0 cA D L sq sw 64 v0 σ8 hk_v0).1 hk_v0 rfl tw_2_116 tw_2_113 tw_2_115 ts_1_8 tw_1_7 ddX5_condition rfl ⟨rfl, rfl⟩ ⟨by decide, by decide⟩ hl.1 (Nat.le_of_ble_eq_true rfl) rfl dX5_clause_86 rfl (fun r12 σ11 hb_r12 => ?_)
        refine zj_if_eq (tgt := 101) (pc' := 92) hC dX5_clause_89 (by decide) rfl (fun c13 => ?_) (fun c13 => ?_)
        · refine zj_iconst (pc' := 102) (v := (0 : Int32)) hC dX5_clause_101 rfl rfl ?_
          exact zj_zret hC nB_0 dX5_clause_102
        · refine zj_aload_n (pc' := 93) hC dX5_clause_92 rfl rfl (lv_at hl 2 rfl) ?_
          refine zj_bipush (pc' := 95) (v := (41 : Int32)) hC dX5_clause_93 rfl rfl ?_
          refine zj_callzV (pc' := 98) (rest := []) hC (kX5_closes l b0 cA D L v0 (41 : Int32) σ11 hk_v0) hk_v0 rfl tw_2_128 tw_2_125 tw_2_127 ts_1_11 tw_1_7 ddX5_closes rfl ⟨rfl, rfl⟩ ⟨by decide, by decide⟩ hl.1 (Nat.le_of_ble_eq_true rfl) rfl dX5_clause_95 rfl (fun r15 σ14 hb_r15 => ?_)
          refine zj_if_ne (tgt := 103) (pc' := 101) hC dX5_clause_98 (by decide) rfl (fun c16 => ?_) (fun c16 => ?_)
          · refine zj_aload_n (pc' := 104) hC dX5_clause_103 rfl rfl (lv_at hl 2 rfl) ?_
            refine zj_getR (pc' := 107) hC hk_v0 fd_5_1 rfl tw_1_176 dX5_clause_104 rfl (fun q17 hk_q17 => ?_)
            refine zj_iconst (pc' := 108) (v := (1 : Int32)) hC dX5_clause_107 rfl rfl ?_
            refine zj_iload_n (pc' := 109) hC dX5_clause_108 rfl rfl (lv_at hl 1 rfl) ?_
            refine zj_calliV (pc' := 112) (rest := []) hC (kX4_add l b0 cA D L q17 (1 : Int32) s0 σ14 hk_q17) hk_q17 rfl tw_2_104 tw_2_101 tw_2_102 tw_2_103 tw_1_6 ddX4_add rfl ⟨rfl, rfl⟩ ⟨by decide, by decide⟩ hl.1 (Nat.le_of_ble_eq_true rfl) rfl dX5_clause_109 rfl (fun r19 σ18 => ?_)
            refine zj_pop (pc' := 113) hC dX5_clause_112 rfl rfl ?_
            refine zj_aload_n (pc' := 114) hC dX5_clause_113 rfl rfl (lv_at hl 2 rfl) ?_
            refine zj_getR (pc' := 117) hC hk_v0 fd_5_1 rfl tw_1_176 dX5_clause_114 rfl (fun q20 hk_q20 => ?_)
            refine zj_iload_n (pc' := 118) hC dX5_clause_117 rfl rfl (lv_at hl 0 rfl) ?_
            refine zj_callvV (pc' := 121) (rest := []) hC (kX4_aimHere l b0 cA D L q20 r7 σ18 hk_q20) hk_q20 rfl tw_3_11 tw_3_8 tw_3_9 tw_3_10 tw_1_6 ddX4_aimHere rfl ⟨rfl, rfl⟩ ⟨by decide, by decide⟩ hl.1 (Nat.le_of_ble_eq_true rfl) rfl dX5_clause_118 rfl (fun σ21 => ?_)
            refine zj_aload_n (pc' := 122) hC dX5_clause_121 rfl rfl (lv_at hl 2 rfl) ?_
            refine zj_getR (pc' := 125) hC hk_v0 fd_5_1 rfl tw_1_176 dX5_clause_122 rfl (fun q23 hk_q23 => ?_)
            refine zj_dup (pc' := 126) hC dX5_clause_125 rfl rfl ?_
            refine zj_getI (pc' := 129) hC hk_q23 fd_4_2 rfl tw_1_160 dX5_clause_126 rfl ?_
            refine zj_iconst (pc' := 130) (v := (1 : Int32)) hC dX5_clause_129 rfl rfl ?_
            refine zj_iadd (pc' := 131) hC dX5_clause_130 rfl ?_
            refine zj_putI (pc' := 134) hC hk_q23 fd_4_2 rfl tw_1_160 rfl rfl rfl dX5_clause_131 rfl (fun σ24 => ?_)
            refine zj_iconst (pc' := 135) (v := (1 : Int32)) hC dX5_clause_134 rfl rfl ?_
            exact zj_zret hC nB_1 dX5_clause_135
          · refine zj_iconst (pc' := 102) (v := (0 : Int32)) hC dX5_clause_101 rfl rfl ?_
            exact zj_zret hC nB_0 dX5_clause_102
    · refine zj_aload_n (pc' := 51) hC dX5_clause_50 rfl rfl (lv_at hl 1 rfl) ?_
      refine zj_iconst (pc' := 52) (v := (4 : Int32)) hC dX5_clause_51 rfl rfl ?_
      refine zj_callzV (pc' := 55) (rest := []) hC (kX5_wrong l b0 cA D L v0 (4 : Int32) σ hk_v0) hk_v0 rfl tw_2_100 tw_2_97 tw_2_99 ts_1_5 tw_1_7 ddX5_wrong rfl ⟨rfl, rfl⟩ ⟨by decide, by decide⟩ hl.1 (Nat.le_of_ble_eq_true rfl) rfl dX5_clause_52 rfl (fun r26 σ25 hb_r26 => ?_)
      exact zj_zret hC hb_r26 dX5_clause_55
  · refine zj_aload_n (pc' := 33) hC dX5_clause_32 rfl rfl (lv_at hl 1 rfl) ?_
    refine zj_iconst (pc' := 34) (v := (1 : Int32)) hC dX5_clause_33 rfl rfl ?_
    refine zj_callzV (pc' := 37) (rest := []) hC (kX5_wrong l b0 cA D L v0 (1 : Int32) σ hk_v0) hk_v0 rfl tw_2_100 tw_2_97 tw_2_99 ts_1_5 tw_1_7 ddX5_wrong rfl ⟨rfl, rfl⟩ ⟨by decide, by decide⟩ hl.1 (Nat.le_of_ble_eq_true rfl) rfl dX5_clause_34 rfl (fun r28 σ27 hb_r28 => ?_)
    exact zj_zret hC hb_r28 dX5_clause_37
set_option maxRecDepth 100000 in
set_option maxHeartbeats 4000000 in
theorem kX5_clause (l : Launch) (b0 : Nat) (cA : Nat → ClassId) (D : va_G) (L : List (Nat × Nat)) (sq sw : Nat) (v0 : Nat) (σ : zS) (hk0 : L[v0]? = some (0, 5)) : zNz l b0 cA D L sq sw yX5_clause (Cond.code yX5_clause cX5_clause 3 (some Jvm.ClassFile.FieldType.boolean)) rmX5_clause [.ref (b0 + v0)] σ (fX5_clause v0 σ) := by
  refine zNz_of (by decide) (Nat.le_of_ble_eq_true rfl) ?_
  intro p e s m below meth c ls hG hC hl
  have hl : lv_has ls 3 [(0, .ref (b0 + v0))] := hl
  generalize ([.ref (b0 + v0)] : List Value).toArray = args at hC ⊢
  unfold fX5_clause
  refine zj_aload_n (pc' := 1) hC dX5_clause_0 rfl rfl (lv_at hl 0 rfl) ?_
  refine zj_calliV (pc' := 4) (rest := []) hC (kX5_sign l b0 cA D L v0 σ hk0) hk0 rfl tw_2_96 tw_2_93 tw_2_95 ts_1_4 tw_1_7 ddX5_sign rfl ⟨rfl, rfl⟩ ⟨by decide, by decide⟩ hl.1 (Nat.le_of_ble_eq_true rfl) rfl dX5_clause_1 rfl (fun r30 σ29 => ?_)
  refine zj_bipush (pc' := 6) (v := (99 : Int32)) hC dX5_clause_4 rfl rfl ?_
  refine zj_icmp_ne (tgt := 13) (pc' := 9) hC dX5_clause_6 (by decide) rfl (fun c31 => ?_) (fun c31 => ?_)
  · refine zj_aload_n (pc' := 14) hC dX5_clause_13 rfl rfl (lv_at hl 0 rfl) ?_
    refine zj_calliV (pc' := 17) (rest := []) hC (kX5_sign l b0 cA D L v0 σ29 hk0) hk0 rfl tw_2_96 tw_2_93 tw_2_95 ts_1_4 tw_1_7 ddX5_sign rfl ⟨rfl, rfl⟩ ⟨by decide, by decide⟩ hl.1 (Nat.le_of_ble_eq_true rfl) rfl dX5_clause_14 rfl (fun r33 σ32 => ?_)
    refine zj_bipush (pc' := 19) (v := (104 : Int32)) hC dX5_clause_17 rfl rfl ?_
    refine zj_icmp_ne (tgt := 26) (pc' := 22) hC dX5_clause_19 (by decide) rfl (fun c34 => ?_) (fun c34 => ?_)
    · refine zj_iconst (pc' := 27) (v := (0 : Int32)) hC dX5_clause_26 rfl rfl ?_
      exact jX5_clause_27 hG hC v0 (0 : Int32) σ32 ls hk0 (lv_sub hl [0] rfl)
    · refine zj_iconst (pc' := 23) (v := (2 : Int32)) hC dX5_clause_22 rfl rfl ?_
      refine zj_goto (tgt := 27) hC dX5_clause_23 (by decide) ?_
      exact jX5_clause_27 hG hC v0 (2 : Int32) σ32 ls hk0 (lv_sub hl [0] rfl)
  · refine zj_iconst (pc' := 10) (v := (1 : Int32)) hC dX5_clause_9 rfl rfl ?_
    refine zj_goto (tgt := 27) hC dX5_clause_10 (by decide) ?_
    exact jX5_clause_27 hG hC v0 (1 : Int32) σ29 ls hk0 (lv_sub hl [0] rfl)
-- X5_allClauses
theorem ddX5_allClauses : yX5_allClauses.cls ≠ "java/lang/invoke/MethodHandle" ∧ yX5_allClauses.cls ≠ "java/lang/invoke/VarHandle" ∧ (parseMethodDescriptor yX5_allClauses.desc).map (fun d => d.parameters.length) = some 0 := by decide +kernel
abbrev rmX5_allClauses : Room := { frames := 78, cells := 0, slots := 0, locals := 2905 }
def bX5_allClauses_46 (k7 : Nat → Int32 → Int32 → zS → Option (Int32 × zS)) (v0 : Nat) (v2 : Int32) (s0 : Int32) (σ : zS) : Option (Int32 × zS) :=
  k7 v0 s0 ((v2 + (1 : Int32))) σ
def bX5_allClauses_45 (k46 : Nat → Int32 → Int32 → zS → Option (Int32 × zS)) (v0 : Nat) (v2 : Int32) (σ : zS) : Option (Int32 × zS) :=
  k46 v0 v2 (0 : Int32) σ
def bX5_allClauses_7 (k7 : Nat → Int32 → Int32 → zS → Option (Int32 × zS)) (v0 : Nat) (v1 : Int32) (v2 : Int32) (σ : zS) : Option (Int32 × zS) :=
  if (120 : Int32) ≤ v2 then (some (v1, σ)) else (if v1 = 0 then (some (v1, σ)) else (zb (fX5_sign v0 σ) (fun (r4 : Int32) (σ3 : zS) => if r4 = (-1 : Int32) then (some (v1, σ3)) else (zb (fX5_take v0 (59 : Int32) σ3) (fun (r7 : Int32) (σ6 : zS) => if r7 = 0 then (bX5_allClauses_45 (bX5_allClauses_46 k7) v0 v2 σ6) else (zb (fX5_clause v0 σ6) (fun (r10 : Int32) (σ9 : zS) => if r10 = 0 then (bX5_allClauses_45 (bX5_allClauses_46 k7) v0 v2 σ9) else (bX5_allClauses_46 k7 v0 v2 (1 : Int32) σ9))))))))
def fX5_allClauses_7  : Nat → Nat → Int32 → Int32 → zS → Option (Int32 × zS)
  | 0, _, _, _, _ => none
  | n + 1, v0, v1, v2, σ => bX5_allClauses_7 (fX5_allClauses_7  n) v0 v1 v2 σ
def fX5_allClauses (v0 : Nat) (σ : zS) : Option (Int32 × zS) :=
  zb (fX5_clause v0 σ) (fun (r13 : Int32) (σ12 : zS) => fX5_allClauses_7 zFU v0 r13 (0 : Int32) σ12)
set_option maxRecDepth 100000 in
set_option maxHeartbeats 4000000 in
theorem jX5_allClauses_46 {p : Program} {l : Launch} {e : Env} {s : State} {m : MethodId} {args : Array Value} {below : List Frame} {meth : Method} {c : Code} {b0 : Nat} {cA : Nat → ClassId} {D : va_G} {L : List (Nat × Nat)} {sq sw : Nat} (hG : zGq (zA b0 L) sq sw s s.heap) (hC : zC p c s m args meth cX5_allClauses 3 (some Jvm.ClassFile.FieldType.boolean) (Cond.code yX5_allClauses cX5_allClauses 3 (some Jvm.ClassFile.FieldType.boolean)) yX5_allClauses.cls cA D) (k7 : Nat → Int32 → Int32 → zS → Option (Int32 × zS)) (h7 : ∀ (v0 : Nat) (v1 : Int32) (v2 : Int32) (σ : zS) (ls : Array Slot), L[v0]? = some (0, 5) → nB v1 → lv_has ls 3 [(0, .ref (b0 + v0)), (1, .int v1), (2, .int v2)] → zJ p l e rmX5_allClauses s m args below meth c b0 cA D L (fun z => MQ below (va_Qi (fun (r : Int32) (u : zS) => (r, u) = z ∧ nB r) (zB b0 cA D L) (zA b0 L)) args s 0 0 (zA b0 L)) (k7 v0 v1 v2 σ) σ 7 ls []) (v0 : Nat) (v2 : Int32) (s0 : Int32) (σ : zS) (ls : Array Slot) (hk_v0 : L[v0]? = some (0, 5)) (hb_s0 : nB s0) (hl : lv_has ls 3 [(0, .ref (b0 + v0)), (2, .int v2)]) : zJ p l e rmX5_allClauses s m args below meth c b0 cA D L (fun z => MQ below (va_Qi (fun (r : Int32) (u : zS) => (r, u) = z ∧ nB r) (zB b0 cA D L) (zA b0 L)) args s 0 0 (zA b0 L)) (bX5_allClauses_46 k7 v0 v2 s0 σ) σ 46 ls [.int s0] := by
  unfold bX5_allClauses_46
  refine zj_istore_n (pc' := 47) (lv' := [(1, .int s0), (0, .ref (b0 + v0)), (2, .int v2)]) hC dX5_allClauses_46 rfl rfl hl (by decide) rfl (fun ls hl => ?_)
  refine zj_iinc (pc' := 50) (k0 := 2) (v := (v2 + (1 : Int32))) (lv' := [(2, .int (v2 + (1 : Int32))), (1, .int s0), (0, .ref (b0 + v0))]) hC dX5_allClauses_47 rfl hl rfl rfl (by decide) rfl (fun ls hl => ?_)
  refine zj_goto (tgt := 7) hC dX5_allClauses_50 (by decide) ?_
  exact h7 v0 s0 ((v2 + (1 : Int32))) σ ls hk_v0 hb_s0 (lv_sub hl [2, 1, 0] rfl)
set_option maxRecDepth 100000 in
set_option maxHeartbeats 4000000 in
theorem jX5_allClauses_45 {p : Program} {l : Launch} {e : Env} {s : State} {m : MethodId} {args : Array Value} {below : List Frame} {meth : Method} {c : Code} {b0 : Nat} {cA : Nat → ClassId} {D : va_G} {L : List (Nat × Nat)} {sq sw : Nat} (hG : zGq (zA b0 L) sq sw s s.heap) (hC : zC p c s m args meth cX5_allClauses 3 (some Jvm.ClassFile.FieldType.boolean) (Cond.code yX5_allClauses cX5_allClauses 3 (some Jvm.ClassFile.FieldType.boolean)) yX5_allClauses.cls cA D) (k46 : Nat → Int32 → Int32 → zS → Option (Int32 × zS)) (h46 : ∀ (v0 : Nat) (v2 : Int32) (s0 : Int32) (σ : zS) (ls : Array Slot), L[v0]? = some (0, 5) → nB s0 → lv_has ls 3 [(0, .ref (b0 + v0)), (2, .int v2)] → zJ p l e rmX5_allClauses s m args below meth c b0 cA D L (fun z => MQ below (va_Qi (fun (r : Int32) (u : zS) => (r, u) = z ∧ nB r) (zB b0 cA D L) (zA b0 L)) args s 0 0 (zA b0 L)) (k46 v0 v2 s0 σ) σ 46 ls [.int s0]) (v0 : Nat) (v2 : Int32) (σ : zS) (ls : Array Slot) (hk_v0 : L[v0]? = some (0, 5)) (hl : lv_has ls 3 [(0, .ref (b0 + v0)), (2, .int v2)]) : zJ p l e rmX5_allClauses s m args below meth c b0 cA D L (fun z => MQ below (va_Qi (fun (r : Int32) (u : zS) => (r, u) = z ∧ nB r) (zB b0 cA D L) (zA b0 L)) args s 0 0 (zA b0 L)) (bX5_allClauses_45 k46 v0 v2 σ) σ 45 ls [] := by
  unfold bX5_allClauses_45
  refine zj_iconst (pc' := 46) (v := (0 : Int32)) hC dX5_allClauses_45 rfl rfl ?_
  exact h46 v0 v2 (0 : Int32) σ ls hk_v0 nB_0 (lv_sub hl [0, 1] rfl)
set_option maxRecDepth 100000 in
set_option maxHeartbeats 4000000 in
theorem jX5_allClauses_7 {p : Program} {l : Launch} {e : Env} {s : State} {m : MethodId} {args : Array Value} {below : List Frame} {meth : Method} {c : Code} {b0 : Nat} {cA : Nat → ClassId} {D : va_G} {L : List (Nat × Nat)} {sq sw : Nat} (hG : zGq (zA b0 L) sq sw s s.heap) (hC : zC p c s m args meth cX5_allClauses 3 (some Jvm.ClassFile.FieldType.boolean) (Cond.code yX5_allClauses cX5_allClauses 3 (some Jvm.ClassFile.FieldType.boolean)) yX5_allClauses.cls cA D) (k7 : Nat → Int32 → Int32 → zS → Option (Int32 × zS)) (h7 : ∀ (v0 : Nat) (v1 : Int32) (v2 : Int32) (σ : zS) (ls : Array Slot), L[v0]? = some (0, 5) → nB v1 → lv_has ls 3 [(0, .ref (b0 + v0)), (1, .int v1), (2, .int v2)] → zJ p l e rmX5_allClauses s m args below meth c b0 cA D L (fun z => MQ below (va_Qi (fun (r : Int32) (u : zS) => (r, u) = z ∧ nB r) (zB b0 cA D L) (zA b0 L)) args s 0 0 (zA b0 L)) (k7 v0 v1 v2 σ) σ 7 ls []) (v0 : Nat) (v1 : Int32) (v2 : Int32) (σ : zS) (ls : Array Slot) (hk_v0 : L[v0]? = some (0, 5)) (hb_v1 : nB v1) (hl : lv_has ls 3 [(0, .ref (b0 + v0)), (1, .int v1), (2, .int v2)]) : zJ p l e rmX5_allClauses s m args below meth c b0 cA D L (fun z => MQ below (va_Qi (fun (r : Int32) (u : zS) => (r, u) = z ∧ nB r) (zB b0 cA D L) (zA b0 L)) args s 0 0 (zA b0 L)) (bX5_allClauses_7 k7 v0 v1 v2 σ) σ 7 ls [] := by
  unfold bX5_allClauses_7
  refine zj_iload_n (pc' := 8) hC dX5_allClauses_7 rfl rfl (lv_at hl 2 rfl) ?_
  refine zj_bipush (pc' := 10) (v := (120 : Int32)) hC dX5_allClauses_8 rfl rfl ?_
  refine zj_icmp_ge (tgt := 53) (pc' := 13) hC dX5_allClauses_10 (by decide) rfl (fun c1 => ?_) (fun c1 => ?_)
  · refine zj_iload_n (pc' := 54) hC dX5_allClauses_53 rfl rfl (lv_at hl 1 rfl) ?_
    exact zj_zret hC hb_v1 dX5_allClauses_54
  · refine zj_iload_n (pc' := 14) hC dX5_allClauses_13 rfl rfl (lv_at hl 1 rfl) ?_
    refine zj_if_eq (tgt := 53) (pc' := 17) hC dX5_allClauses_14 (by decide) rfl (fun c2 => ?_) (fun c2 => ?_)
    · refine zj_iload_n (pc' := 54) hC dX5_allClauses_53 rfl rfl (lv_at hl 1 rfl) ?_
      exact zj_zret hC hb_v1 dX5_allClauses_54
    · refine zj_aload_n (pc' := 18) hC dX5_allClauses_17 rfl rfl (lv_at hl 0 rfl) ?_
      refine zj_calliV (pc' := 21) (rest := []) hC (kX5_sign l b0 cA D L v0 σ hk_v0) hk_v0 rfl tw_2_96 tw_2_93 tw_2_95 ts_1_4 tw_1_7 ddX5_sign rfl ⟨rfl, rfl⟩ ⟨by decide, by decide⟩ hl.1 (Nat.le_of_ble_eq_true rfl) rfl dX5_allClauses_18 rfl (fun r4 σ3 => ?_)
      refine zj_iconst (pc' := 22) (v := (-1 : Int32)) hC dX5_allClauses_21 rfl rfl ?_
      refine zj_icmp_eq (tgt := 53) (pc' := 25) hC dX5_allClauses_22 (by decide) rfl (fun c5 => ?_) (fun c5 => ?_)
      · refine zj_iload_n (pc' := 54) hC dX5_allClauses_53 rfl rfl (lv_at hl 1 rfl) ?_
        exact zj_zret hC hb_v1 dX5_allClauses_54
      · refine zj_aload_n (pc' := 26) hC dX5_allClauses_25 rfl rfl (lv_at hl 0 rfl) ?_
        refine zj_bipush (pc' := 28) (v := (59 : Int32)) hC dX5_allClauses_26 rfl rfl ?_
        refine zj_callzV (pc' := 31) (rest := []) hC (kX5_take l b0 cA D L v0 (59 : Int32) σ3 hk_v0) hk_v0 rfl tw_2_112 tw_2_109 tw_2_111 ts_1_7 tw_1_7 ddX5_take rfl ⟨rfl, rfl⟩ ⟨by decide, by decide⟩ hl.1 (Nat.le_of_ble_eq_true rfl) rfl dX5_allClauses_28 rfl (fun r7 σ6 hb_r7 => ?_)
        refine zj_if_eq (tgt := 45) (pc' := 34) hC dX5_allClauses_31 (by decide) rfl (fun c8 => ?_) (fun c8 => ?_)
        · exact jX5_allClauses_45 hG hC (bX5_allClauses_46 k7) (jX5_allClauses_46 hG hC k7 h7) v0 v2 σ6 ls hk_v0 (lv_sub hl [0, 2] rfl)
        · refine zj_aload_n (pc' := 35) hC dX5_allClauses_34 rfl rfl (lv_at hl 0 rfl) ?_
          refine zn_callzV (pc' := 38) (rest := []) hG hC (kX5_clause l b0 cA D L sq sw v0 σ6 hk_v0) hk_v0 rfl tw_2_92 tw_2_89 tw_2_91 ts_1_3 tw_1_7 ddX5_clause rfl ⟨rfl, rfl⟩ ⟨by decide, by decide⟩ hl.1 (Nat.le_of_ble_eq_true rfl) rfl dX5_allClauses_35 rfl (fun r10 σ9 hb_r10 => ?_)
          refine zj_if_eq (tgt := 45) (pc' := 41) hC dX5_allClauses_38 (by decide) rfl (fun c11 => ?_) (fun c11 => ?_)
          · exact jX5_allClauses_45 hG hC (bX5_allClauses_46 k7) (jX5_allClauses_46 hG hC k7 h7) v0 v2 σ9 ls hk_v0 (lv_sub hl [0, 2] rfl)
          · refine zj_iconst (pc' := 42) (v := (1 : Int32)) hC dX5_allClauses_41 rfl rfl ?_
            refine zj_goto (tgt := 46) hC dX5_allClauses_42 (by decide) ?_
            exact jX5_allClauses_46 hG hC k7 h7 v0 v2 (1 : Int32) σ9 ls hk_v0 nB_1 (lv_sub hl [0, 2] rfl)
set_option maxRecDepth 100000 in
set_option maxHeartbeats 4000000 in
theorem lX5_allClauses_7 {p : Program} {l : Launch} {e : Env} {s : State} {m : MethodId} {args : Array Value} {below : List Frame} {meth : Method} {c : Code} {b0 : Nat} {cA : Nat → ClassId} {D : va_G} {L : List (Nat × Nat)} {sq sw : Nat} (hG : zGq (zA b0 L) sq sw s s.heap) (hC : zC p c s m args meth cX5_allClauses 3 (some Jvm.ClassFile.FieldType.boolean) (Cond.code yX5_allClauses cX5_allClauses 3 (some Jvm.ClassFile.FieldType.boolean)) yX5_allClauses.cls cA D)  (n : Nat) : ∀ (v0 : Nat) (v1 : Int32) (v2 : Int32) (σ : zS) (ls : Array Slot), L[v0]? = some (0, 5) → nB v1 → lv_has ls 3 [(0, .ref (b0 + v0)), (1, .int v1), (2, .int v2)] → zJ p l e rmX5_allClauses s m args below meth c b0 cA D L (fun z => MQ below (va_Qi (fun (r : Int32) (u : zS) => (r, u) = z ∧ nB r) (zB b0 cA D L) (zA b0 L)) args s 0 0 (zA b0 L)) (fX5_allClauses_7  n v0 v1 v2 σ) σ 7 ls [] := by
  induction n with
  | zero => intros; exact zj_none
  | succ n ih => exact jX5_allClauses_7 hG hC (fX5_allClauses_7  n) ih
set_option maxRecDepth 100000 in
set_option maxHeartbeats 4000000 in
theorem kX5_allClauses (l : Launch) (b0 : Nat) (cA : Nat → ClassId) (D : va_G) (L : List (Nat × Nat)) (sq sw : Nat) (v0 : Nat) (σ : zS) (hk0 : L[v0]? = some (0, 5)) : zNz l b0 cA D L sq sw yX5_allClauses (Cond.code yX5_allClauses cX5_allClauses 3 (some Jvm.ClassFile.FieldType.boolean)) rmX5_allClauses [.ref (b0 + v0)] σ (fX5_allClauses v0 σ) := by
  refine zNz_of (by decide) (Nat.le_of_ble_eq_true rfl) ?_
  intro p e s m below meth c ls hG hC hl
  have hl : lv_has ls 3 [(0, .ref (b0 + v0))] := hl
  generalize ([.ref (b0 + v0)] : List Value).toArray = args at hC ⊢
  unfold fX5_allClauses
  refine zj_aload_n (pc' := 1) hC dX5_allClauses_0 rfl rfl (lv_at hl 0 rfl) ?_
  refine zn_callzV (pc' := 4) (rest := []) hG hC (kX5_clause l b0 cA D L sq sw v0 σ hk0) hk0 rfl tw_2_92 tw_2_89 tw_2_91 ts_1_3 tw_1_7 ddX5_clause rfl ⟨rfl, rfl⟩ ⟨by decide, by decide⟩ hl.1 (Nat.le_of_ble_eq_true rfl) rfl dX5_allClauses_1 rfl (fun r13 σ12 hb_r13 => ?_)
  refine zj_istore_n (pc' := 5) (lv' := [(1, .int r13), (0, .ref (b0 + v0))]) hC dX5_allClauses_4 rfl rfl hl (by decide) rfl (fun ls hl => ?_)
  refine zj_iconst (pc' := 6) (v := (0 : Int32)) hC dX5_allClauses_5 rfl rfl ?_
  refine zj_istore_n (pc' := 7) (lv' := [(2, .int (0 : Int32)), (1, .int r13), (0, .ref (b0 + v0))]) hC dX5_allClauses_6 rfl rfl hl (by decide) rfl (fun ls hl => ?_)
  exact lX5_allClauses_7 hG hC zFU v0 r13 (0 : Int32) σ12 ls hk0 hb_r13 (lv_sub hl [2, 1, 0] rfl)
-- X5_read
theorem ddX5_read : yX5_read.cls ≠ "java/lang/invoke/MethodHandle" ∧ yX5_read.cls ≠ "java/lang/invoke/VarHandle" ∧ (parseMethodDescriptor yX5_read.desc).map (fun d => d.parameters.length) = some 2 := by decide +kernel
abbrev rmX5_read : Room := { frames := 79, cells := 0, slots := 0, locals := 2927 }
def fX5_read (v0 : Nat) (v1 : Int32) (v2 : Nat) (σ : zS) : Option (Int32 × zS) :=
  bnd (zR σ v0 1 v2) (fun (σ1 : zS) => bnd (σ1.2 v0 1) (fun (q2 : Nat) => zb (fX4_clear q2 σ1) (fun (_ : Unit) (σ3 : zS) => bnd (zI σ3 v0 2 v1) (fun (σ5 : zS) => bnd (zI σ5 v0 3 (0 : Int32)) (fun (σ6 : zS) => bnd (zI σ6 v0 4 (0 : Int32)) (fun (σ7 : zS) => bnd (zI σ7 v0 5 (0 : Int32)) (fun (σ8 : zS) => zb (fX5_allClauses v0 σ8) (fun (r10 : Int32) (σ9 : zS) => if r10 = 0 then (some ((((-1000 : Int32) * (σ9.1 v0 5)) - (σ9.1 v0 3)), σ9)) else (bnd (σ9.2 v0 1) (fun (q12 : Nat) => some ((σ9.1 q12 2), σ9)))))))))))
set_option maxRecDepth 100000 in
set_option maxHeartbeats 4000000 in
theorem kX5_read (l : Launch) (b0 : Nat) (cA : Nat → ClassId) (D : va_G) (L : List (Nat × Nat)) (sq sw : Nat) (v0 : Nat) (v1 : Int32) (v2 : Nat) (σ : zS) (hk0 : L[v0]? = some (0, 5)) (hk2 : L[v2]? = some (0, 4)) : zNi l b0 cA D L sq sw yX5_read (Cond.code yX5_read cX5_read 3 (some Jvm.ClassFile.FieldType.int)) rmX5_read [.ref (b0 + v0), .int v1, .ref (b0 + v2)] σ (fX5_read v0 v1 v2 σ) := by
  refine zNi_of (by decide) (Nat.le_of_ble_eq_true rfl) ?_
  intro p e s m below meth c ls hG hC hl
  have hl : lv_has ls 3 [(0, .ref (b0 + v0)), (1, .int v1), (2, .ref (b0 + v2))] := hl
  generalize ([.ref (b0 + v0), .int v1, .ref (b0 + v2)] : List Value).toArray = args at hC ⊢
  unfold fX5_read
  refine zj_aload_n (pc' := 1) hC dX5_read_0 rfl rfl (lv_at hl 0 rfl) ?_
  refine zj_aload_n (pc' := 2) hC dX5_read_1 rfl rfl (lv_at hl 2 rfl) ?_
  refine zj_putR (pc' := 5) hC hk0 fd_5_1 rfl hk2 tw_1_176 rfl (fun _ => rfl) (fun _ => rfl) dX5_read_2 rfl (fun σ1 => ?_)
  refine zj_aload_n (pc' := 6) hC dX5_read_5 rfl rfl (lv_at hl 0 rfl) ?_
  refine zj_getR (pc' := 9) hC hk0 fd_5_1 rfl tw_1_176 dX5_read_6 rfl (fun q2 hk_q2 => ?_)
  refine zj_callvV (pc' := 12) (rest := []) hC (kX4_clear l b0 cA D L q2 σ1 hk_q2) hk_q2 rfl tw_2_84 tw_2_81 tw_2_82 tw_2_83 tw_1_6 ddX4_clear rfl ⟨rfl, rfl⟩ ⟨by decide, by decide⟩ hl.1 (Nat.le_of_ble_eq_true rfl) rfl dX5_read_9 rfl (fun σ3 => ?_)
  refine zj_aload_n (pc' := 13) hC dX5_read_12 rfl rfl (lv_at hl 0 rfl) ?_
  refine zj_iload_n (pc' := 14) hC dX5_read_13 rfl rfl (lv_at hl 1 rfl) ?_
  refine zj_putI (pc' := 17) hC hk0 fd_5_2 rfl tw_1_177 rfl rfl rfl dX5_read_14 rfl (fun σ5 => ?_)
  refine zj_aload_n (pc' := 18) hC dX5_read_17 rfl rfl (lv_at hl 0 rfl) ?_
  refine zj_iconst (pc' := 19) (v := (0 : Int32)) hC dX5_read_18 rfl rfl ?_
  refine zj_putI (pc' := 22) hC hk0 fd_5_3 rfl tw_1_178 rfl rfl rfl dX5_read_19 rfl (fun σ6 => ?_)
  refine zj_aload_n (pc' := 23) hC dX5_read_22 rfl rfl (lv_at hl 0 rfl) ?_
  refine zj_iconst (pc' := 24) (v := (0 : Int32)) hC dX5_read_23 rfl rfl ?_
  refine zj_putI (pc' := 27) hC hk0 fd_5_4 rfl tw_1_179 rfl rfl rfl dX5_read_24 rfl (fun σ7 => ?_)
  refine zj_aload_n (pc' := 28) hC dX5_read_27 rfl rfl (lv_at hl 0 rfl) ?_
  refine zj_iconst (pc' := 29) (v := (0 : Int32)) hC dX5_read_28 rfl rfl ?_
  refine zj_putI (pc' := 32) hC hk0 fd_5_5 rfl tw_1_180 rfl rfl rfl dX5_read_29 rfl (fun σ8 => ?_)
  refine zj_aload_n (pc' := 33) hC dX5_read_32 rfl rfl (lv_at hl 0 rfl) ?_
  refine zn_callzV (pc' := 36) (rest := []) hG hC (kX5_allClauses l b0 cA D L sq sw v0 σ8 hk0) hk0 rfl tw_2_88 tw_2_85 tw_2_87 ts_1_2 tw_1_7 ddX5_allClauses rfl ⟨rfl, rfl⟩ ⟨by decide, by decide⟩ hl.1 (Nat.le_of_ble_eq_true rfl) rfl dX5_read_33 rfl (fun r10 σ9 hb_r10 => ?_)
  refine zj_if_eq (tgt := 49) (pc' := 39) hC dX5_read_36 (by decide) rfl (fun c11 => ?_) (fun c11 => ?_)
  · refine zj_sipush (pc' := 52) (v := (-1000 : Int32)) hC dX5_read_49 rfl rfl ?_
    refine zj_aload_n (pc' := 53) hC dX5_read_52 rfl rfl (lv_at hl 0 rfl) ?_
    refine zj_getI (pc' := 56) hC hk0 fd_5_5 rfl tw_1_180 dX5_read_53 rfl ?_
    refine zj_imul (pc' := 57) hC dX5_read_56 rfl ?_
    refine zj_aload_n (pc' := 58) hC dX5_read_57 rfl rfl (lv_at hl 0 rfl) ?_
    refine zj_getI (pc' := 61) hC hk0 fd_5_3 rfl tw_1_178 dX5_read_58 rfl ?_
    refine zj_isub (pc' := 62) hC dX5_read_61 rfl ?_
    exact zj_iret hC dX5_read_62
  · refine zj_aload_n (pc' := 40) hC dX5_read_39 rfl rfl (lv_at hl 0 rfl) ?_
    refine zj_getR (pc' := 43) hC hk0 fd_5_1 rfl tw_1_176 dX5_read_40 rfl (fun q12 hk_q12 => ?_)
    refine zj_getI (pc' := 46) hC hk_q12 fd_4_2 rfl tw_1_160 dX5_read_43 rfl ?_
    refine zj_goto (tgt := 62) hC dX5_read_46 (by decide) ?_
    exact zj_iret hC dX5_read_62
