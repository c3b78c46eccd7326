-- X7_more
theorem ddX7_more : yX7_more.cls ≠ "java/lang/invoke/MethodHandle" ∧ yX7_more.cls ≠ "java/lang/invoke/VarHandle" ∧ (parseMethodDescriptor yX7_more.desc).map (fun d => d.parameters.length) = some 1 := by decide +kernel
abbrev rmX7_more : Room := { frames := 6, cells := 0, slots := 0, locals := 139 }
def fX7_more (v0 : Nat) (v1 : Int32) (σ : zS) : Option (Int32 × zS) :=
  zb (fX7_isStick v1 σ) (fun (r2 : Int32) (σ1 : zS) => if r2 = 0 then (some ((-1000000 : Int32), σ1)) else (zb (fX7_moreBy v0 v1 σ1) (fun (r5 : Int32) (σ4 : zS) => some (r5, σ4))))
set_option maxRecDepth 100000 in
set_option maxHeartbeats 4000000 in
theorem kX7_more (l : Launch) (b0 : Nat) (cA : Nat → ClassId) (D : va_G) (L : List (Nat × Nat)) (v0 : Nat) (v1 : Int32) (σ : zS) (hk0 : L[v0]? = some (0, 7)) : zMi l b0 cA D L yX7_more (Cond.code yX7_more cX7_more 2 (some Jvm.ClassFile.FieldType.int)) rmX7_more [.ref (b0 + v0), .int v1] σ (fX7_more v0 v1 σ) := by
  refine zMi_of (by decide) (Nat.le_of_ble_eq_true rfl) ?_
  intro p e s m below meth c ls hC hl
  have hl : lv_has ls 2 [(0, .ref (b0 + v0)), (1, .int v1)] := hl
  generalize ([.ref (b0 + v0), .int v1] : List Value).toArray = args at hC ⊢
  unfold fX7_more
  refine zj_iload_n (pc' := 1) hC dX7_more_0 rfl rfl (lv_at hl 1 rfl) ?_
  refine zj_callzS (pc' := 4) (rest := []) hC (kX7_isStick l b0 cA D L v1 σ ) tw_5_11 tw_5_9 tw_5_10 tw_1_8 ddX7_isStick rfl ⟨rfl, rfl⟩ ⟨by decide, by decide⟩ hl.1 (Nat.le_of_ble_eq_true rfl) rfl dX7_more_1 rfl (fun r2 σ1 hb_r2 => ?_)
  refine zj_if_eq (tgt := 15) (pc' := 7) hC dX7_more_4 (by decide) rfl (fun c3 => ?_) (fun c3 => ?_)
  · refine zj_ldcw (pc' := 18) (v := (-1000000 : Int32)) hC tw_5_170 dX7_more_15 rfl ?_
    exact zj_iret hC dX7_more_18
  · refine zj_aload_n (pc' := 8) hC dX7_more_7 rfl rfl (lv_at hl 0 rfl) ?_
    refine zj_iload_n (pc' := 9) hC dX7_more_8 rfl rfl (lv_at hl 1 rfl) ?_
    refine zj_calliV (pc' := 12) (rest := []) hC (kX7_moreBy l b0 cA D L v0 v1 σ1 hk0) hk0 rfl tw_5_165 tw_5_162 tw_5_164 ts_5_0 tw_1_8 ddX7_moreBy rfl ⟨rfl, rfl⟩ ⟨by decide, by decide⟩ hl.1 (Nat.le_of_ble_eq_true rfl) rfl dX7_more_9 rfl (fun r5 σ4 => ?_)
    refine zj_goto (tgt := 18) hC dX7_more_12 (by decide) ?_
    exact zj_iret hC dX7_more_18
-- X7_wins
theorem ddX7_wins : yX7_wins.cls ≠ "java/lang/invoke/MethodHandle" ∧ yX7_wins.cls ≠ "java/lang/invoke/VarHandle" ∧ (parseMethodDescriptor yX7_wins.desc).map (fun d => d.parameters.length) = some 0 := by decide +kernel
abbrev rmX7_wins : Room := { frames := 5, cells := 0, slots := 0, locals := 116 }
def bX7_wins_133  (v2 : Int32) (v3 : Int32) (σ : zS) : Option (Int32 × zS) :=
  if v2 ≤ v3 then (if v3 ≤ v2 then (some ((0 : Int32), σ)) else (some ((2 : Int32), σ))) else (some ((1 : Int32), σ))
def bX7_wins_127 (k19 : Nat → Int32 → Int32 → Int32 → Int32 → zS → Option (Int32 × zS)) (v0 : Nat) (v1 : Int32) (v2 : Int32) (v3 : Int32) (v4 : Int32) (σ : zS) : Option (Int32 × zS) :=
  k19 v0 v1 v2 v3 ((v4 + (1 : Int32))) σ
def bX7_wins_125 (k127 : Nat → Int32 → Int32 → Int32 → Int32 → zS → Option (Int32 × zS)) (v0 : Nat) (v1 : Int32) (v2 : Int32) (v4 : Int32) (s0 : Int32) (s1 : Int32) (σ : zS) : Option (Int32 × zS) :=
  bnd ((s0 + s1)) (fun (x3 : Int32) => k127 v0 v1 v2 x3 v4 σ)
def bX7_wins_93 (k127 : Nat → Int32 → Int32 → Int32 → Int32 → zS → Option (Int32 × zS)) (v0 : Nat) (v1 : Int32) (v3 : Int32) (v4 : Int32) (s0 : Int32) (s1 : Int32) (σ : zS) : Option (Int32 × zS) :=
  bnd ((s0 + s1)) (fun (x4 : Int32) => bnd (σ.2 v0 32) (fun (q5 : Nat) => zX (((24 : Int32) * v1) + v4) 960 (bnd (σ.2 v0 9) (fun (q7 : Nat) => zX ((80 : Int32) + v1) 120 (if (σ.1 q5 ((((24 : Int32) * v1) + v4)).toNatClampNeg) = (σ.1 q7 (((80 : Int32) + v1)).toNatClampNeg) then (bX7_wins_125 k127 v0 v1 x4 v4 v3 (1 : Int32) σ) else (bX7_wins_125 k127 v0 v1 x4 v4 v3 (0 : Int32) σ))))))
def bX7_wins_19 (k19 : Nat → Int32 → Int32 → Int32 → Int32 → zS → Option (Int32 × zS)) (v0 : Nat) (v1 : Int32) (v2 : Int32) (v3 : Int32) (v4 : Int32) (σ : zS) : Option (Int32 × zS) :=
  if (24 : Int32) ≤ v4 then (bX7_wins_133 v2 v3 σ) else (zb (fX7_isTaken v0 v4 σ) (fun (r12 : Int32) (σ11 : zS) => if r12 = 0 then (bX7_wins_127 k19 v0 v1 v2 v3 v4 σ11) else (bnd (σ11.2 v0 6) (fun (q14 : Nat) => zX v4 24 (if (σ11.1 q14 (v4).toNatClampNeg) = 0 then (bnd (σ11.2 v0 32) (fun (q17 : Nat) => zX (((24 : Int32) * v1) + v4) 960 (if (σ11.1 q17 ((((24 : Int32) * v1) + v4)).toNatClampNeg) = 0 then (bX7_wins_127 k19 v0 v1 v2 v3 v4 σ11) else (bnd (σ11.2 v0 32) (fun (q20 : Nat) => zX (((24 : Int32) * v1) + v4) 960 (bnd (σ11.2 v0 9) (fun (q22 : Nat) => zX ((40 : Int32) + v1) 120 (if (σ11.1 q20 ((((24 : Int32) * v1) + v4)).toNatClampNeg) = (σ11.1 q22 (((40 : Int32) + v1)).toNatClampNeg) then (bX7_wins_93 (bX7_wins_127 k19) v0 v1 v3 v4 v2 (1 : Int32) σ11) else (bX7_wins_93 (bX7_wins_127 k19) v0 v1 v3 v4 v2 (0 : Int32) σ11))))))))) else (bX7_wins_127 k19 v0 v1 v2 v3 v4 σ11))))))
def fX7_wins_19  : Nat → Nat → Int32 → Int32 → Int32 → Int32 → zS → Option (Int32 × zS)
  | 0, _, _, _, _, _, _ => none
  | n + 1, v0, v1, v2, v3, v4, σ => bX7_wins_19 (fX7_wins_19  n) v0 v1 v2 v3 v4 σ
def fX7_wins (v0 : Nat) (σ : zS) : Option (Int32 × zS) :=
  zb (fX7_playsAsTold v0 σ) (fun (r26 : Int32) (σ25 : zS) => bnd (((σ25.1 v0 1) - (1 : Int32))) (fun (x27 : Int32) => fX7_wins_19 zFU v0 x27 (0 : Int32) (0 : Int32) (0 : Int32) σ25))
set_option maxRecDepth 100000 in
set_option maxHeartbeats 4000000 in
theorem jX7_wins_133 {p : Program} {l : Launch} {e : Env} {s : State} {m : MethodId} {args : Array Value} {below : List Frame} {meth : Method} {c : Code} {b0 : Nat} {cA : Nat → ClassId} {D : va_G} {L : List (Nat × Nat)} (hC : zC p c s m args meth cX7_wins 5 (some Jvm.ClassFile.FieldType.int) (Cond.code yX7_wins cX7_wins 5 (some Jvm.ClassFile.FieldType.int)) yX7_wins.cls cA D)  (v2 : Int32) (v3 : Int32) (σ : zS) (ls : Array Slot)  (hl : lv_has ls 5 [(2, .int v2), (3, .int v3)]) : zJ p l e rmX7_wins s m args below meth c b0 cA D L (fun z => MQ below (va_Qi (fun (r : Int32) (u : zS) => (r, u) = z) (zB b0 cA D L) (zA b0 L)) args s 0 0 (zA b0 L)) (bX7_wins_133  v2 v3 σ) σ 133 ls [] := by
  unfold bX7_wins_133
  refine zj_iload_n (pc' := 134) hC dX7_wins_133 rfl rfl (lv_at hl 0 rfl) ?_
  refine zj_iload_n (pc' := 135) hC dX7_wins_134 rfl rfl (lv_at hl 1 rfl) ?_
  refine zj_icmp_le (tgt := 142) (pc' := 138) hC dX7_wins_135 (by decide) rfl (fun c1 => ?_) (fun c1 => ?_)
  · refine zj_iload_n (pc' := 143) hC dX7_wins_142 rfl rfl (lv_at hl 1 rfl) ?_
    refine zj_iload_n (pc' := 144) hC dX7_wins_143 rfl rfl (lv_at hl 0 rfl) ?_
    refine zj_icmp_le (tgt := 151) (pc' := 147) hC dX7_wins_144 (by decide) rfl (fun c2 => ?_) (fun c2 => ?_)
    · refine zj_iconst (pc' := 152) (v := (0 : Int32)) hC dX7_wins_151 rfl rfl ?_
      exact zj_iret hC dX7_wins_152
    · refine zj_iconst (pc' := 148) (v := (2 : Int32)) hC dX7_wins_147 rfl rfl ?_
      refine zj_goto (tgt := 152) hC dX7_wins_148 (by decide) ?_
      exact zj_iret hC dX7_wins_152
  · refine zj_iconst (pc' := 139) (v := (1 : Int32)) hC dX7_wins_138 rfl rfl ?_
    refine zj_goto (tgt := 152) hC dX7_wins_139 (by decide) ?_
    exact zj_iret hC dX7_wins_152
set_option maxRecDepth 100000 in
set_option maxHeartbeats 4000000 in
theorem jX7_wins_127 {p : Program} {l : Launch} {e : Env} {s : State} {m : MethodId} {args : Array Value} {below : List Frame} {meth : Method} {c : Code} {b0 : Nat} {cA : Nat → ClassId} {D : va_G} {L : List (Nat × Nat)} (hC : zC p c s m args meth cX7_wins 5 (some Jvm.ClassFile.FieldType.int) (Cond.code yX7_wins cX7_wins 5 (some Jvm.ClassFile.FieldType.int)) yX7_wins.cls cA D) (k19 : Nat → Int32 → Int32 → Int32 → Int32 → zS → Option (Int32 × zS)) (h19 : ∀ (v0 : Nat) (v1 : Int32) (v2 : Int32) (v3 : Int32) (v4 : Int32) (σ : zS) (ls : Array Slot), L[v0]? = some (0, 7) → lv_has ls 5 [(0, .ref (b0 + v0)), (1, .int v1), (2, .int v2), (3, .int v3), (4, .int v4)] → zJ p l e rmX7_wins s m args below meth c b0 cA D L (fun z => MQ below (va_Qi (fun (r : Int32) (u : zS) => (r, u) = z) (zB b0 cA D L) (zA b0 L)) args s 0 0 (zA b0 L)) (k19 v0 v1 v2 v3 v4 σ) σ 19 ls []) (v0 : Nat) (v1 : Int32) (v2 : Int32) (v3 : Int32) (v4 : Int32) (σ : zS) (ls : Array Slot) (hk_v0 : L[v0]? = some (0, 7)) (hl : lv_has ls 5 [(0, .ref (b0 + v0)), (1, .int v1), (2, .int v2), (3, .int v3), (4, .int v4)]) : zJ p l e rmX7_wins s m args below meth c b0 cA D L (fun z => MQ below (va_Qi (fun (r : Int32) (u : zS) => (r, u) = z) (zB b0 cA D L) (zA b0 L)) args s 0 0 (zA b0 L)) (bX7_wins_127 k19 v0 v1 v2 v3 v4 σ) σ 127 ls [] := by
  unfold bX7_wins_127
  refine zj_iinc (pc' := 130) (k0 := 4) (v := (v4 + (1 : Int32))) (lv' := [(4, .int (v4 + (1 : Int32))), (0, .ref (b0 + v0)), (1, .int v1), (2, .int v2), (3, .int v3)]) hC dX7_wins_127 rfl hl rfl rfl (by decide) rfl (fun ls hl => ?_)
  refine zj_goto (tgt := 19) hC dX7_wins_130 (by decide) ?_
  exact h19 v0 v1 v2 v3 ((v4 + (1 : Int32))) σ ls hk_v0 (lv_sub hl [1, 2, 3, 4, 0] rfl)
set_option maxRecDepth 100000 in
set_option maxHeartbeats 4000000 in
theorem jX7_wins_125 {p : Program} {l : Launch} {e : Env} {s : State} {m : MethodId} {args : Array Value} {below : List Frame} {meth : Method} {c : Code} {b0 : Nat} {cA : Nat → ClassId} {D : va_G} {L : List (Nat × Nat)} (hC : zC p c s m args meth cX7_wins 5 (some Jvm.ClassFile.FieldType.int) (Cond.code yX7_wins cX7_wins 5 (some Jvm.ClassFile.FieldType.int)) yX7_wins.cls cA D) (k127 : Nat → Int32 → Int32 → Int32 → Int32 → zS → Option (Int32 × zS)) (h127 : ∀ (v0 : Nat) (v1 : Int32) (v2 : Int32) (v3 : Int32) (v4 : Int32) (σ : zS) (ls : Array Slot), L[v0]? = some (0, 7) → lv_has ls 5 [(0, .ref (b0 + v0)), (1, .int v1), (2, .int v2), (3, .int v3), (4, .int v4)] → zJ p l e rmX7_wins s m args below meth c b0 cA D L (fun z => MQ below (va_Qi (fun (r : Int32) (u : zS) => (r, u) = z) (zB b0 cA D L) (zA b0 L)) args s 0 0 (zA b0 L)) (k127 v0 v1 v2 v3 v4 σ) σ 127 ls []) (v0 : Nat) (v1 : Int32) (v2 : Int32) (v4 : Int32) (s0 : Int32) (s1 : Int32) (σ : zS) (ls : Array Slot) (hk_v0 : L[v0]? = some (0, 7)) (hb_s1 : nB s1) (hl : lv_has ls 5 [(0, .ref (b0 + v0)), (1, .int v1), (2, .int v2), (4, .int v4)]) : zJ p l e rmX7_wins s m args below meth c b0 cA D L (fun z => MQ below (va_Qi (fun (r : Int32) (u : zS) => (r, u) = z) (zB b0 cA D L) (zA b0 L)) args s 0 0 (zA b0 L)) (bX7_wins_125 k127 v0 v1 v2 v4 s0 s1 σ) σ 125 ls [.int s1, .int s0] := by
  unfold bX7_wins_125
  refine zj_iadd (pc' := 126) hC dX7_wins_125 rfl ?_
  refine zj_nmi (fun x3 => ?_)
  refine zj_istore_n (pc' := 127) (lv' := [(3, .int x3), (0, .ref (b0 + v0)), (1, .int v1), (2, .int v2), (4, .int v4)]) hC dX7_wins_126 rfl rfl hl (by decide) rfl (fun ls hl => ?_)
  exact h127 v0 v1 v2 x3 v4 σ ls hk_v0 (lv_sub hl [1, 2, 3, 0, 4] rfl)
set_option maxRecDepth 100000 in
set_option maxHeartbeats 4000000 in
theorem jX7_wins_93 {p : Program} {l : Launch} {e : Env} {s : State} {m : MethodId} {args : Array Value} {below : List Frame} {meth : Method} {c : Code} {b0 : Nat} {cA : Nat → ClassId} {D : va_G} {L : List (Nat × Nat)} (hC : zC p c s m args meth cX7_wins 5 (some Jvm.ClassFile.FieldType.int) (Cond.code yX7_wins cX7_wins 5 (some Jvm.ClassFile.FieldType.int)) yX7_wins.cls cA D) (k127 : Nat → Int32 → Int32 → Int32 → Int32 → zS → Option (Int32 × zS)) (h127 : ∀ (v0 : Nat) (v1 : Int32) (v2 : Int32) (v3 : Int32) (v4 : Int32) (σ : zS) (ls : Array Slot), L[v0]? = some (0, 7) → lv_has ls 5 [(0, .ref (b0 + v0)), (1, .int v1), (2, .int v2), (3, .int v3), (4, .int v4)] → zJ p l e rmX7_wins s m args below meth c b0 cA D L (fun z => MQ below (va_Qi (fun (r : Int32) (u : zS) => (r, u) = z) (zB b0 cA D L) (zA b0 L)) args s 0 0 (zA b0 L)) (k127 v0 v1 v2 v3 v4 σ) σ 127 ls []) (v0 : Nat) (v1 : Int32) (v3 : Int32) (v4 : Int32) (s0 : Int32) (s1 : Int32) (σ : zS) (ls : Array Slot) (hk_v0 : L[v0]? = some (0, 7)) (hb_s1 : nB s1) (hl : lv_has ls 5 [(0, .ref (b0 + v0)), (1, .int v1), (3, .int v3), (4, .int v4)]) : zJ p l e rmX7_wins s m args below meth c b0 cA D L (fun z => MQ below (va_Qi (fun (r : Int32) (u : zS) => (r, u) = z) (zB b0 cA D L) (zA b0 L)) args s 0 0 (zA b0 L)) (bX7_wins_93 k127 v0 v1 v3 v4 s0 s1 σ) σ 93 ls [.int s1, .int s0] := by
  unfold bX7_wins_93
  refine zj_iadd (pc' := 94) hC dX7_wins_93 rfl ?_
  refine zj_nmi (fun x4 => ?_)
  refine zj_istore_n (pc' := 95) (lv' := [(2, .int x4), (0, .ref (b0 + v0)), (1, .int v1), (3, .int v3), (4, .int v4)]) hC dX7_wins_94 rfl rfl hl (by decide) rfl (fun ls hl => ?_)
  refine zj_iload_n (pc' := 96) hC dX7_wins_95 rfl rfl (lv_at hl 3 rfl) ?_
  refine zj_aload_n (pc' := 97) hC dX7_wins_96 rfl rfl (lv_at hl 1 rfl) ?_
  refine zj_getR (pc' := 100) hC hk_v0 fd_7_32 rfl tw_4_80 dX7_wins_97 rfl (fun q5 hk_q5 => ?_)
  refine zj_bipush (pc' := 102) (v := (24 : Int32)) hC dX7_wins_100 rfl rfl ?_
  refine zj_iload_n (pc' := 103) hC dX7_wins_102 rfl rfl (lv_at hl 2 rfl) ?_
  refine zj_imul (pc' := 104) hC dX7_wins_103 rfl ?_
  refine zj_iload (pc' := 106) hC dX7_wins_104 rfl (lv_at hl 4 rfl) ?_
  refine zj_iadd (pc' := 107) hC dX7_wins_106 rfl ?_
  refine zj_iald (pc' := 108) hC hk_q5 dX7_wins_107 rfl (fun g6 => ?_)
  refine zj_aload_n (pc' := 109) hC dX7_wins_108 rfl rfl (lv_at hl 1 rfl) ?_
  refine zj_getR (pc' := 112) hC hk_v0 fd_7_9 rfl tw_4_57 dX7_wins_109 rfl (fun q7 hk_q7 => ?_)
  refine zj_bipush (pc' := 114) (v := (80 : Int32)) hC dX7_wins_112 rfl rfl ?_
  refine zj_iload_n (pc' := 115) hC dX7_wins_114 rfl rfl (lv_at hl 2 rfl) ?_
  refine zj_iadd (pc' := 116) hC dX7_wins_115 rfl ?_
  refine zj_iald (pc' := 117) hC hk_q7 dX7_wins_116 rfl (fun g8 => ?_)
  refine zj_icmp_ne (tgt := 124) (pc' := 120) hC dX7_wins_117 (by decide) rfl (fun c9 => ?_) (fun c9 => ?_)
  · refine zj_iconst (pc' := 125) (v := (0 : Int32)) hC dX7_wins_124 rfl rfl ?_
    exact jX7_wins_125 hC k127 h127 v0 v1 x4 v4 v3 (0 : Int32) σ ls hk_v0 nB_0 (lv_sub hl [1, 2, 0, 4] rfl)
  · refine zj_iconst (pc' := 121) (v := (1 : Int32)) hC dX7_wins_120 rfl rfl ?_
    refine zj_goto (tgt := 125) hC dX7_wins_121 (by decide) ?_
    exact jX7_wins_125 hC k127 h127 v0 v1 x4 v4 v3 (1 : Int32) σ ls hk_v0 nB_1 (lv_sub hl [1, 2, 0, 4] rfl)
set_option maxRecDepth 100000 in
set_option maxHeartbeats 4000000 in
theorem jX7_wins_19 {p : Program} {l : Launch} {e : Env} {s : State} {m : MethodId} {args : Array Value} {below : List Frame} {meth : Method} {c : Code} {b0 : Nat} {cA : Nat → ClassId} {D : va_G} {L : List (Nat × Nat)} (hC : zC p c s m args meth cX7_wins 5 (some Jvm.ClassFile.FieldType.int) (Cond.code yX7_wins cX7_wins 5 (some Jvm.ClassFile.FieldType.int)) yX7_wins.cls cA D) (k19 : Nat → Int32 → Int32 → Int32 → Int32 → zS → Option (Int32 × zS)) (h19 : ∀ (v0 : Nat) (v1 : Int32) (v2 : Int32) (v3 : Int32) (v4 : Int32) (σ : zS) (ls : Array Slot), L[v0]? = some (0, 7) → lv_has ls 5 [(0, .ref (b0 + v0)), (1, .int v1), (2, .int v2), (3, .int v3), (4, .int v4)] → zJ p l e rmX7_wins s m args below meth c b0 cA D L (fun z => MQ below (va_Qi (fun (r : Int32) (u : zS) => (r, u) = z) (zB b0 cA D L) (zA b0 L)) args s 0 0 (zA b0 L)) (k19 v0 v1 v2 v3 v4 σ) σ 19 ls []) (v0 : Nat) (v1 : Int32) (v2 : Int32) (v3 : Int32) (v4 : Int32) (σ : zS) (ls : Array Slot) (hk_v0 : L[v0]? = some (0, 7)) (hl : lv_has ls 5 [(0, .ref (b0 + v0)), (1, .int v1), (2, .int v2), (3, .int v3), (4, .int v4)]) : zJ p l e rmX7_wins s m args below meth c b0 cA D L (fun z => MQ below (va_Qi (fun (r : Int32) (u : zS) => (r, u) = z) (zB b0 cA D L) (zA b0 L)) args s 0 0 (zA b0 L)) (bX7_wins_19 k19 v0 v1 v2 v3 v4 σ) σ 19 ls [] := by
  unfold bX7_wins_19
  refine zj_iload (pc' := 21) hC dX7_wins_19 rfl (lv_at hl 4 rfl) ?_
  refine zj_bipush (pc' := 23) (v := (24 : Int32)) hC dX7_wins_21 rfl rfl ?_
  refine zj_icmp_ge (tgt := 133) (pc' := 26) hC dX7_wins_23 (by decide) rfl (fun c10 => ?_) (fun c10 => ?_)
  · exact jX7_wins_133 hC v2 v3 σ ls  (lv_sub hl [2, 3] rfl)
  · refine zj_aload_n (pc' := 27) hC dX7_wins_26 rfl rfl (lv_at hl 0 rfl) ?_
    refine zj_iload (pc' := 29) hC dX7_wins_27 rfl (lv_at hl 4 rfl) ?_
    refine zj_callzV (pc' := 32) (rest := []) hC (kX7_isTaken l b0 cA D L v0 v4 σ hk_v0) hk_v0 rfl tw_4_222 tw_4_219 tw_4_221 ts_3_4 tw_1_8 ddX7_isTaken rfl ⟨rfl, rfl⟩ ⟨by decide, by decide⟩ hl.1 (Nat.le_of_ble_eq_true rfl) rfl dX7_wins_29 rfl (fun r12 σ11 hb_r12 => ?_)
    refine zj_if_eq (tgt := 127) (pc' := 35) hC dX7_wins_32 (by decide) rfl (fun c13 => ?_) (fun c13 => ?_)
    · exact jX7_wins_127 hC k19 h19 v0 v1 v2 v3 v4 σ11 ls hk_v0 (lv_sub hl [0, 1, 2, 3, 4] rfl)
    · refine zj_aload_n (pc' := 36) hC dX7_wins_35 rfl rfl (lv_at hl 0 rfl) ?_
      refine zj_getR (pc' := 39) hC hk_v0 fd_7_6 rfl tw_4_54 dX7_wins_36 rfl (fun q14 hk_q14 => ?_)
      refine zj_iload (pc' := 41) hC dX7_wins_39 rfl (lv_at hl 4 rfl) ?_
      refine zj_iald (pc' := 42) hC hk_q14 dX7_wins_41 rfl (fun g15 => ?_)
      refine zj_if_ne (tgt := 127) (pc' := 45) hC dX7_wins_42 (by decide) rfl (fun c16 => ?_) (fun c16 => ?_)
      · exact jX7_wins_127 hC k19 h19 v0 v1 v2 v3 v4 σ11 ls hk_v0 (lv_sub hl [0, 1, 2, 3, 4] rfl)
      · refine zj_aload_n (pc' := 46) hC dX7_wins_45 rfl rfl (lv_at hl 0 rfl) ?_
        refine zj_getR (pc' := 49) hC hk_v0 fd_7_32 rfl tw_4_80 dX7_wins_46 rfl (fun q17 hk_q17 => ?_)
        refine zj_bipush (pc' := 51) (v := (24 : Int32)) hC dX7_wins_49 rfl rfl ?_
        refine zj_iload_n (pc' := 52) hC dX7_wins_51 rfl rfl (lv_at hl 1 rfl) ?_
        refine zj_imul (pc' := 53) hC dX7_wins_52 rfl ?_
        refine zj_iload (pc' := 55) hC dX7_wins_53 rfl (lv_at hl 4 rfl) ?_
        refine zj_iadd (pc' := 56) hC dX7_wins_55 rfl ?_
        refine zj_iald (pc' := 57) hC hk_q17 dX7_wins_56 rfl (fun g18 => ?_)
        refine zj_if_ne (tgt := 63) (pc' := 60) hC dX7_wins_57 (by decide) rfl (fun c19 => ?_) (fun c19 => ?_)
        · refine zj_iload_n (pc' := 64) hC dX7_wins_63 rfl rfl (lv_at hl 2 rfl) ?_
          refine zj_aload_n (pc' := 65) hC dX7_wins_64 rfl rfl (lv_at hl 0 rfl) ?_
          refine zj_getR (pc' := 68) hC hk_v0 fd_7_32 rfl tw_4_80 dX7_wins_65 rfl (fun q20 hk_q20 => ?_)
          refine zj_bipush (pc' := 70) (v := (24 : Int32)) hC dX7_wins_68 rfl rfl ?_
          refine zj_iload_n (pc' := 71) hC dX7_wins_70 rfl rfl (lv_at hl 1 rfl) ?_
          refine zj_imul (pc' := 72) hC dX7_wins_71 rfl ?_
          refine zj_iload (pc' := 74) hC dX7_wins_72 rfl (lv_at hl 4 rfl) ?_
          refine zj_iadd (pc' := 75) hC dX7_wins_74 rfl ?_
          refine zj_iald (pc' := 76) hC hk_q20 dX7_wins_75 rfl (fun g21 => ?_)
          refine zj_aload_n (pc' := 77) hC dX7_wins_76 rfl rfl (lv_at hl 0 rfl) ?_
          refine zj_getR (pc' := 80) hC hk_v0 fd_7_9 rfl tw_4_57 dX7_wins_77 rfl (fun q22 hk_q22 => ?_)
          refine zj_bipush (pc' := 82) (v := (40 : Int32)) hC dX7_wins_80 rfl rfl ?_
          refine zj_iload_n (pc' := 83) hC dX7_wins_82 rfl rfl (lv_at hl 1 rfl) ?_
          refine zj_iadd (pc' := 84) hC dX7_wins_83 rfl ?_
          refine zj_iald (pc' := 85) hC hk_q22 dX7_wins_84 rfl (fun g23 => ?_)
          refine zj_icmp_ne (tgt := 92) (pc' := 88) hC dX7_wins_85 (by decide) rfl (fun c24 => ?_) (fun c24 => ?_)
          · refine zj_iconst (pc' := 93) (v := (0 : Int32)) hC dX7_wins_92 rfl rfl ?_
            exact jX7_wins_93 hC (bX7_wins_127 k19) (jX7_wins_127 hC k19 h19) v0 v1 v3 v4 v2 (0 : Int32) σ11 ls hk_v0 nB_0 (lv_sub hl [0, 1, 3, 4] rfl)
          · refine zj_iconst (pc' := 89) (v := (1 : Int32)) hC dX7_wins_88 rfl rfl ?_
            refine zj_goto (tgt := 93) hC dX7_wins_89 (by decide) ?_
            exact jX7_wins_93 hC (bX7_wins_127 k19) (jX7_wins_127 hC k19 h19) v0 v1 v3 v4 v2 (1 : Int32) σ11 ls hk_v0 nB_1 (lv_sub hl [0, 1, 3, 4] rfl)
        · refine zj_goto (tgt := 127) hC dX7_wins_60 (by decide) ?_
          exact jX7_wins_127 hC k19 h19 v0 v1 v2 v3 v4 σ11 ls hk_v0 (lv_sub hl [0, 1, 2, 3, 4] rfl)
set_option maxRecDepth 100000 in
set_option maxHeartbeats 4000000 in
theorem lX7_wins_19 {p : Program} {l : Launch} {e : Env} {s : State} {m : MethodId} {args : Array Value} {below : List Frame} {meth : Method} {c : Code} {b0 : Nat} {cA : Nat → ClassId} {D : va_G} {L : List (Nat × Nat)} (hC : zC p c s m args meth cX7_wins 5 (some Jvm.ClassFile.FieldType.int) (Cond.code yX7_wins cX7_wins 5 (some Jvm.ClassFile.FieldType.int)) yX7_wins.cls cA D)  (n : Nat) : ∀ (v0 : Nat) (v1 : Int32) (v2 : Int32) (v3 : Int32) (v4 : Int32) (σ : zS) (ls : Array Slot), L[v0]? = some (0, 7) → lv_has ls 5 [(0, .ref (b0 + v0)), (1, .int v1), (2, .int v2), (3, .int v3), (4, .int v4)] → zJ p l e rmX7_wins s m args below meth c b0 cA D L (fun z => MQ below (va_Qi (fun (r : Int32) (u : zS) => (r, u) = z) (zB b0 cA D L) (zA b0 L)) args s 0 0 (zA b0 L)) (fX7_wins_19  n v0 v1 v2 v3 v4 σ) σ 19 ls [] := by
  induction n with
  | zero => intros; exact zj_none
  | succ n ih => exact jX7_wins_19 hC (fX7_wins_19  n) ih
set_option maxRecDepth 100000 in
set_option maxHeartbeats 4000000 in
theorem kX7_wins (l : Launch) (b0 : Nat) (cA : Nat → ClassId) (D : va_G) (L : List (Nat × Nat)) (v0 : Nat) (σ : zS) (hk0 : L[v0]? = some (0, 7)) : zMi l b0 cA D L yX7_wins (Cond.code yX7_wins cX7_wins 5 (some Jvm.ClassFile.FieldType.int)) rmX7_wins [.ref (b0 + v0)] σ (fX7_wins v0 σ) := by
  refine zMi_of (by decide) (Nat.le_of_ble_eq_true rfl) ?_
  intro p e s m below meth c ls hC hl
  have hl : lv_has ls 5 [(0, .ref (b0 + v0))] := hl
  generalize ([.ref (b0 + v0)] : List Value).toArray = args at hC ⊢
  unfold fX7_wins
  refine zj_aload_n (pc' := 1) hC dX7_wins_0 rfl rfl (lv_at hl 0 rfl) ?_
  refine zj_calliV (pc' := 4) (rest := []) hC (kX7_playsAsTold l b0 cA D L v0 σ hk0) hk0 rfl tw_5_114 tw_5_111 tw_5_113 ts_4_8 tw_1_8 ddX7_playsAsTold rfl ⟨rfl, rfl⟩ ⟨by decide, by decide⟩ hl.1 (Nat.le_of_ble_eq_true rfl) rfl dX7_wins_1 rfl (fun r26 σ25 => ?_)
  refine zj_pop (pc' := 5) hC dX7_wins_4 rfl rfl ?_
  refine zj_aload_n (pc' := 6) hC dX7_wins_5 rfl rfl (lv_at hl 0 rfl) ?_
  refine zj_getI (pc' := 9) hC hk0 fd_7_1 rfl tw_4_49 dX7_wins_6 rfl ?_
  refine zj_iconst (pc' := 10) (v := (1 : Int32)) hC dX7_wins_9 rfl rfl ?_
  refine zj_isub (pc' := 11) hC dX7_wins_10 rfl ?_
  refine zj_nmi (fun x27 => ?_)
  refine zj_istore_n (pc' := 12) (lv' := [(1, .int x27), (0, .ref (b0 + v0))]) hC dX7_wins_11 rfl rfl hl (by decide) rfl (fun ls hl => ?_)
  refine zj_iconst (pc' := 13) (v := (0 : Int32)) hC dX7_wins_12 rfl rfl ?_
  refine zj_istore_n (pc' := 14) (lv' := [(2, .int (0 : Int32)), (1, .int x27), (0, .ref (b0 + v0))]) hC dX7_wins_13 rfl rfl hl (by decide) rfl (fun ls hl => ?_)
  refine zj_iconst (pc' := 15) (v := (0 : Int32)) hC dX7_wins_14 rfl rfl ?_
  refine zj_istore_n (pc' := 16) (lv' := [(3, .int (0 : Int32)), (2, .int (0 : Int32)), (1, .int x27), (0, .ref (b0 + v0))]) hC dX7_wins_15 rfl rfl hl (by decide) rfl (fun ls hl => ?_)
  refine zj_iconst (pc' := 17) (v := (0 : Int32)) hC dX7_wins_16 rfl rfl ?_
  refine zj_istore (pc' := 19) (lv' := [(4, .int (0 : Int32)), (3, .int (0 : Int32)), (2, .int (0 : Int32)), (1, .int x27), (0, .ref (b0 + v0))]) hC dX7_wins_17 rfl hl (by decide) rfl (fun ls hl => ?_)
  exact lX7_wins_19 hC zFU v0 x27 (0 : Int32) (0 : Int32) (0 : Int32) σ25 ls hk0 (lv_sub hl [4, 3, 2, 1, 0] rfl)
-- X7_bits
theorem ddX7_bits : yX7_bits.cls ≠ "java/lang/invoke/MethodHandle" ∧ yX7_bits.cls ≠ "java/lang/invoke/VarHandle" ∧ (parseMethodDescriptor yX7_bits.desc).map (fun d => d.parameters.length) = some 1 := by decide +kernel
abbrev rmX7_bits : Room := { frames := 0, cells := 0, slots := 0, locals := 0 }
def bX7_bits_4 (k4 : Int32 → Int32 → Int32 → zS → Option (Int32 × zS)) (v0 : Int32) (v1 : Int32) (v2 : Int32) (σ : zS) : Option (Int32 × zS) :=
  if (24 : Int32) ≤ v2 then (some (v1, σ)) else (bnd ((v1 + ((v0 >>> (v2 &&& 31)) &&& (1 : Int32)))) (fun (x2 : Int32) => k4 v0 x2 ((v2 + (1 : Int32))) σ))
def fX7_bits_4  : Nat → Int32 → Int32 → Int32 → zS → Option (Int32 × zS)
  | 0, _, _, _, _ => none
  | n + 1, v0, v1, v2, σ => bX7_bits_4 (fX7_bits_4  n) v0 v1 v2 σ
def fX7_bits (v0 : Int32) (σ : zS) : Option (Int32 × zS) :=
  fX7_bits_4 zFU v0 (0 : Int32) (0 : Int32) σ
set_option maxRecDepth 100000 in
set_option maxHeartbeats 4000000 in
theorem jX7_bits_4 {p : Program} {l : Launch} {e : Env} {s : State} {m : MethodId} {args : Array Value} {below : List Frame} {meth : Method} {c : Code} {b0 : Nat} {cA : Nat → ClassId} {D : va_G} {L : List (Nat × Nat)} (hC : zC p c s m args meth cX7_bits 3 (some Jvm.ClassFile.FieldType.int) (Cond.code yX7_bits cX7_bits 3 (some Jvm.ClassFile.FieldType.int)) yX7_bits.cls cA D) (k4 : Int32 → Int32 → Int32 → zS → Option (Int32 × zS)) (h4 : ∀ (v0 : Int32) (v1 : Int32) (v2 : Int32) (σ : zS) (ls : Array Slot), lv_has ls 3 [(0, .int v0), (1, .int v1), (2, .int v2)] → zJ p l e rmX7_bits s m args below meth c b0 cA D L (fun z => MQ below (va_Qi (fun (r : Int32) (u : zS) => (r, u) = z) (zB b0 cA D L) (zA b0 L)) args s 0 0 (zA b0 L)) (k4 v0 v1 v2 σ) σ 4 ls []) (v0 : Int32) (v1 : Int32) (v2 : Int32) (σ : zS) (ls : Array Slot)  (hl : lv_has ls 3 [(0, .int v0), (1, .int v1), (2, .int v2)]) : zJ p l e rmX7_bits s m args below meth c b0 cA D L (fun z => MQ below (va_Qi (fun (r : Int32) (u : zS) => (r, u) = z) (zB b0 cA D L) (zA b0 L)) args s 0 0 (zA b0 L)) (bX7_bits_4 k4 v0 v1 v2 σ) σ 4 ls [] := by
  unfold bX7_bits_4
  refine zj_iload_n (pc' := 5) hC dX7_bits_4 rfl rfl (lv_at hl 2 rfl) ?_
  refine zj_bipush (pc' := 7) (v := (24 : Int32)) hC dX7_bits_5 rfl rfl ?_
  refine zj_icmp_ge (tgt := 24) (pc' := 10) hC dX7_bits_7 (by decide) rfl (fun c1 => ?_) (fun c1 => ?_)
  · refine zj_iload_n (pc' := 25) hC dX7_bits_24 rfl rfl (lv_at hl 1 rfl) ?_
    exact zj_iret hC dX7_bits_25
  · refine zj_iload_n (pc' := 11) hC dX7_bits_10 rfl rfl (lv_at hl 1 rfl) ?_
    refine zj_iload_n (pc' := 12) hC dX7_bits_11 rfl rfl (lv_at hl 0 rfl) ?_
    refine zj_iload_n (pc' := 13) hC dX7_bits_12 rfl rfl (lv_at hl 2 rfl) ?_
    refine zj_ishr (pc' := 14) hC dX7_bits_13 rfl ?_
    refine zj_iconst (pc' := 15) (v := (1 : Int32)) hC dX7_bits_14 rfl rfl ?_
    refine zj_iand (pc' := 16) hC dX7_bits_15 rfl ?_
    refine zj_iadd (pc' := 17) hC dX7_bits_16 rfl ?_
    refine zj_nmi (fun x2 => ?_)
    refine zj_istore_n (pc' := 18) (lv' := [(1, .int x2), (0, .int v0), (2, .int v2)]) hC dX7_bits_17 rfl rfl hl (by decide) rfl (fun ls hl => ?_)
    refine zj_iinc (pc' := 21) (k0 := 2) (v := (v2 + (1 : Int32))) (lv' := [(2, .int (v2 + (1 : Int32))), (1, .int x2), (0, .int v0)]) hC dX7_bits_18 rfl hl rfl rfl (by decide) rfl (fun ls hl => ?_)
    refine zj_goto (tgt := 4) hC dX7_bits_21 (by decide) ?_
    exact h4 v0 x2 ((v2 + (1 : Int32))) σ ls  (lv_sub hl [2, 1, 0] rfl)
set_option maxRecDepth 100000 in
set_option maxHeartbeats 4000000 in
theorem lX7_bits_4 {p : Program} {l : Launch} {e : Env} {s : State} {m : MethodId} {args : Array Value} {below : List Frame} {meth : Method} {c : Code} {b0 : Nat} {cA : Nat → ClassId} {D : va_G} {L : List (Nat × Nat)} (hC : zC p c s m args meth cX7_bits 3 (some Jvm.ClassFile.FieldType.int) (Cond.code yX7_bits cX7_bits 3 (some Jvm.ClassFile.FieldType.int)) yX7_bits.cls cA D)  (n : Nat) : ∀ (v0 : Int32) (v1 : Int32) (v2 : Int32) (σ : zS) (ls : Array Slot), lv_has ls 3 [(0, .int v0), (1, .int v1), (2, .int v2)] → zJ p l e rmX7_bits s m args below meth c b0 cA D L (fun z => MQ below (va_Qi (fun (r : Int32) (u : zS) => (r, u) = z) (zB b0 cA D L) (zA b0 L)) args s 0 0 (zA b0 L)) (fX7_bits_4  n v0 v1 v2 σ) σ 4 ls [] := by
  induction n with
  | zero => intros; exact zj_none
  | succ n ih => exact jX7_bits_4 hC (fX7_bits_4  n) ih
set_option maxRecDepth 100000 in
set_option maxHeartbeats 4000000 in
theorem kX7_bits (l : Launch) (b0 : Nat) (cA : Nat → ClassId) (D : va_G) (L : List (Nat × Nat)) (v0 : Int32) (σ : zS)  : zMi l b0 cA D L yX7_bits (Cond.code yX7_bits cX7_bits 3 (some Jvm.ClassFile.FieldType.int)) rmX7_bits [.int v0] σ (fX7_bits v0 σ) := by
  refine zMi_of (by decide) (Nat.le_of_ble_eq_true rfl) ?_
  intro p e s m below meth c ls hC hl
  have hl : lv_has ls 3 [(0, .int v0)] := hl
  generalize ([.int v0] : List Value).toArray = args at hC ⊢
  unfold fX7_bits
  refine zj_iconst (pc' := 1) (v := (0 : Int32)) hC dX7_bits_0 rfl rfl ?_
  refine zj_istore_n (pc' := 2) (lv' := [(1, .int (0 : Int32)), (0, .int v0)]) hC dX7_bits_1 rfl rfl hl (by decide) rfl (fun ls hl => ?_)
  refine zj_iconst (pc' := 3) (v := (0 : Int32)) hC dX7_bits_2 rfl rfl ?_
  refine zj_istore_n (pc' := 4) (lv' := [(2, .int (0 : Int32)), (1, .int (0 : Int32)), (0, .int v0)]) hC dX7_bits_3 rfl rfl hl (by decide) rfl (fun ls hl => ?_)
  exact lX7_bits_4 hC zFU v0 (0 : Int32) (0 : Int32) σ ls  (lv_sub hl [2, 1, 0] rfl)
-- X7_tries
theorem ddX7_tries : yX7_tries.cls ≠ "java/lang/invoke/MethodHandle" ∧ yX7_tries.cls ≠ "java/lang/invoke/VarHandle" ∧ (parseMethodDescriptor yX7_tries.desc).map (fun d => d.parameters.length) = some 3 := by decide +kernel
abbrev rmX7_tries : Room := { frames := 4, cells := 0, slots := 0, locals := 95 }
def bX7_tries_120  (v0 : Nat) (v2 : Int32) (v4 : Int32) (s0 : Int32) (σ : zS) : Option (Unit × zS) :=
  if s0 = 0 then (some ((), σ)) else (bnd (zI σ v0 36 v2) (fun (σ2 : zS) => bnd (zI σ2 v0 37 v4) (fun (σ3 : zS) => some ((), σ3))))
def bX7_tries_115 (k120 : Nat → Int32 → Int32 → Int32 → zS → Option (Unit × zS)) (v0 : Nat) (v2 : Int32) (v4 : Int32) (σ : zS) : Option (Unit × zS) :=
  k120 v0 v2 v4 (1 : Int32) σ
def bX7_tries_119 (k120 : Nat → Int32 → Int32 → Int32 → zS → Option (Unit × zS)) (v0 : Nat) (v2 : Int32) (v4 : Int32) (σ : zS) : Option (Unit × zS) :=
  k120 v0 v2 v4 (0 : Int32) σ
def bX7_tries_98 (k115 : Nat → Int32 → Int32 → zS → Option (Unit × zS)) (k120 : Nat → Int32 → Int32 → Int32 → zS → Option (Unit × zS)) (v0 : Nat) (v2 : Int32) (v4 : Int32) (σ : zS) : Option (Unit × zS) :=
  if v4 = (σ.1 v0 37) then (if (σ.1 v0 36) ≤ v2 then (bX7_tries_119 k120 v0 v2 v4 σ) else (k115 v0 v2 v4 σ)) else (bX7_tries_119 k120 v0 v2 v4 σ)
def bX7_tries_59  (v0 : Nat) (v2 : Int32) (v3 : Int32) (σ : zS) : Option (Unit × zS) :=
  zb (fX7_plays v0 (0 : Int32) σ) (fun (r7 : Int32) (σ6 : zS) => if (σ6.1 v0 36) = 0 then (bX7_tries_115 (bX7_tries_120) v0 v2 r7 σ6) else (if v3 = 0 then (if (σ6.1 v0 37) < r7 then (bX7_tries_115 (bX7_tries_120) v0 v2 r7 σ6) else (bX7_tries_98 (bX7_tries_115 (bX7_tries_120)) (bX7_tries_120) v0 v2 r7 σ6)) else (if (σ6.1 v0 37) ≤ r7 then (bX7_tries_98 (bX7_tries_115 (bX7_tries_120)) (bX7_tries_120) v0 v2 r7 σ6) else (bX7_tries_115 (bX7_tries_120) v0 v2 r7 σ6))))
def bX7_tries_52 (k3 : Nat → Int32 → Int32 → Int32 → Int32 → zS → Option (Unit × zS)) (v0 : Nat) (v1 : Int32) (v2 : Int32) (v3 : Int32) (v4 : Int32) (s0 : Nat) (s1 : Int32) (s2 : Int32) (σ : zS) : Option (Unit × zS) :=
  zX s1 24 (bnd (zI σ s0 (s1).toNatClampNeg s2) (fun (σ13 : zS) => k3 v0 v1 v2 v3 ((v4 + (1 : Int32))) σ13))
def bX7_tries_3 (k3 : Nat → Int32 → Int32 → Int32 → Int32 → zS → Option (Unit × zS)) (v0 : Nat) (v1 : Int32) (v2 : Int32) (v3 : Int32) (v4 : Int32) (σ : zS) : Option (Unit × zS) :=
  if (24 : Int32) ≤ v4 then (bX7_tries_59 v0 v2 v3 σ) else (bnd (σ.2 v0 35) (fun (q15 : Nat) => if ((v2 >>> (v4 &&& 31)) &&& (1 : Int32)) = (1 : Int32) then (bX7_tries_52 k3 v0 v1 v2 v3 v4 q15 v4 v1 σ) else (bnd (σ.2 v0 6) (fun (q17 : Nat) => zX v4 24 (if (σ.1 q17 (v4).toNatClampNeg) = v1 then (bX7_tries_52 k3 v0 v1 v2 v3 v4 q15 v4 (0 : Int32) σ) else (bnd (σ.2 v0 6) (fun (q20 : Nat) => zX v4 24 (bX7_tries_52 k3 v0 v1 v2 v3 v4 q15 v4 ((σ.1 q20 (v4).toNatClampNeg)) σ))))))))
def fX7_tries_3  : Nat → Nat → Int32 → Int32 → Int32 → Int32 → zS → Option (Unit × zS)
  | 0, _, _, _, _, _, _ => none
  | n + 1, v0, v1, v2, v3, v4, σ => bX7_tries_3 (fX7_tries_3  n) v0 v1 v2 v3 v4 σ
def fX7_tries (v0 : Nat) (v1 : Int32) (v2 : Int32) (v3 : Int32) (σ : zS) : Option (Unit × zS) :=
  fX7_tries_3 zFU v0 v1 v2 v3 (0 : Int32) σ
set_option maxRecDepth 100000 in
set_option maxHeartbeats 4000000 in
theorem jX7_tries_120 {p : Program} {l : Launch} {e : Env} {s : State} {m : MethodId} {args : Array Value} {below : List Frame} {meth : Method} {c : Code} {b0 : Nat} {cA : Nat → ClassId} {D : va_G} {L : List (Nat × Nat)} (hC : zC p c s m args meth cX7_tries 6 (none) (Cond.code yX7_tries cX7_tries 6 (none)) yX7_tries.cls cA D)  (v0 : Nat) (v2 : Int32) (v4 : Int32) (s0 : Int32) (σ : zS) (ls : Array Slot) (hk_v0 : L[v0]? = some (0, 7)) (hb_s0 : nB s0) (hl : lv_has ls 6 [(0, .ref (b0 + v0)), (2, .int v2), (4, .int v4)]) : zJ p l e rmX7_tries s m args below meth c b0 cA D L (fun z => MQ below (va_Qv (fun (u : zS) => ((), u) = z) (zB b0 cA D L) (zA b0 L)) args s 0 0 (zA b0 L)) (bX7_tries_120  v0 v2 v4 s0 σ) σ 120 ls [.int s0] := by
  unfold bX7_tries_120
  refine zj_istore (pc' := 122) (lv' := [(5, .int s0), (0, .ref (b0 + v0)), (2, .int v2), (4, .int v4)]) hC dX7_tries_120 rfl hl (by decide) rfl (fun ls hl => ?_)
  refine zj_iload (pc' := 124) hC dX7_tries_122 rfl (lv_at hl 0 rfl) ?_
  refine zj_if_ne (tgt := 128) (pc' := 127) hC dX7_tries_124 (by decide) rfl (fun c1 => ?_) (fun c1 => ?_)
  · refine zj_aload_n (pc' := 129) hC dX7_tries_128 rfl rfl (lv_at hl 1 rfl) ?_
    refine zj_iload_n (pc' := 130) hC dX7_tries_129 rfl rfl (lv_at hl 2 rfl) ?_
    refine zj_putI (pc' := 133) hC hk_v0 fd_7_36 rfl tw_4_84 rfl rfl rfl dX7_tries_130 rfl (fun σ2 => ?_)
    refine zj_aload_n (pc' := 134) hC dX7_tries_133 rfl rfl (lv_at hl 1 rfl) ?_
    refine zj_iload (pc' := 136) hC dX7_tries_134 rfl (lv_at hl 3 rfl) ?_
    refine zj_putI (pc' := 139) hC hk_v0 fd_7_37 rfl tw_4_85 rfl rfl rfl dX7_tries_136 rfl (fun σ3 => ?_)
    exact zj_vret hC dX7_tries_139
  · exact zj_vret hC dX7_tries_127
set_option maxRecDepth 100000 in
set_option maxHeartbeats 4000000 in
theorem jX7_tries_115 {p : Program} {l : Launch} {e : Env} {s : State} {m : MethodId} {args : Array Value} {below : List Frame} {meth : Method} {c : Code} {b0 : Nat} {cA : Nat → ClassId} {D : va_G} {L : List (Nat × Nat)} (hC : zC p c s m args meth cX7_tries 6 (none) (Cond.code yX7_tries cX7_tries 6 (none)) yX7_tries.cls cA D) (k120 : Nat → Int32 → Int32 → Int32 → zS → Option (Unit × zS)) (h120 : ∀ (v0 : Nat) (v2 : Int32) (v4 : Int32) (s0 : Int32) (σ : zS) (ls : Array Slot), L[v0]? = some (0, 7) → nB s0 → lv_has ls 6 [(0, .ref (b0 + v0)), (2, .int v2), (4, .int v4)] → zJ p l e rmX7_tries s m args below meth c b0 cA D L (fun z => MQ below (va_Qv (fun (u : zS) => ((), u) = z) (zB b0 cA D L) (zA b0 L)) args s 0 0 (zA b0 L)) (k120 v0 v2 v4 s0 σ) σ 120 ls [.int s0]) (v0 : Nat) (v2 : Int32) (v4 : Int32) (σ : zS) (ls : Array Slot) (hk_v0 : L[v0]? = some (0, 7)) (hl : lv_has ls 6 [(0, .ref (b0 + v0)), (2, .int v2), (4, .int v4)]) : zJ p l e rmX7_tries s m args below meth c b0 cA D L (fun z => MQ below (va_Qv (fun (u : zS) => ((), u) = z) (zB b0 cA D L) (zA b0 L)) args s 0 0 (zA b0 L)) (bX7_tries_115 k120 v0 v2 v4 σ) σ 115 ls [] := by
  unfold bX7_tries_115
  refine zj_iconst (pc' := 116) (v := (1 : Int32)) hC dX7_tries_115 rfl rfl ?_
  refine zj_goto (tgt := 120) hC dX7_tries_116 (by decide) ?_
  exact h120 v0 v2 v4 (1 : Int32) σ ls hk_v0 nB_1 (lv_sub hl [0, 1, 2] rfl)
set_option maxRecDepth 100000 in
set_option maxHeartbeats 4000000 in
theorem jX7_tries_119 {p : Program} {l : Launch} {e : Env} {s : State} {m : MethodId} {args : Array Value} {below : List Frame} {meth : Method} {c : Code} {b0 : Nat} {cA : Nat → ClassId} {D : va_G} {L : List (Nat × Nat)} (hC : zC p c s m args meth cX7_tries 6 (none) (Cond.code yX7_tries cX7_tries 6 (none)) yX7_tries.cls cA D) (k120 : Nat → Int32 → Int32 → Int32 → zS → Option (Unit × zS)) (h120 : ∀ (v0 : Nat) (v2 : Int32) (v4 : Int32) (s0 : Int32) (σ : zS) (ls : Array Slot), L[v0]? = some (0, 7) → nB s0 → lv_has ls 6 [(0, .ref (b0 + v0)), (2, .int v2), (4, .int v4)] → zJ p l e rmX7_tries s m args below meth c b0 cA D L (fun z => MQ below (va_Qv (fun (u : zS) => ((), u) = z) (zB b0 cA D L) (zA b0 L)) args s 0 0 (zA b0 L)) (k120 v0 v2 v4 s0 σ) σ 120 ls [.int s0]) (v0 : Nat) (v2 : Int32) (v4 : Int32) (σ : zS) (ls : Array Slot) (hk_v0 : L[v0]? = some (0, 7)) (hl : lv_has ls 6 [(0, .ref (b0 + v0)), (2, .int v2), (4, .int v4)]) : zJ p l e rmX7_tries s m args below meth c b0 cA D L (fun z => MQ below (va_Qv (fun (u : zS) => ((), u) = z) (zB b0 cA D L) (zA b0 L)) args s 0 0 (zA b0 L)) (bX7_tries_119 k120 v0 v2 v4 σ) σ 119 ls [] := by
  unfold bX7_tries_119
  refine zj_iconst (pc' := 120) (v := (0 : Int32)) hC dX7_tries_119 rfl rfl ?_
  exact h120 v0 v2 v4 (0 : Int32) σ ls hk_v0 nB_0 (lv_sub hl [0, 1, 2] rfl)
set_option maxRecDepth 100000 in
set_option maxHeartbeats 4000000 in
theorem jX7_tries_98 {p : Program} {l : Launch} {e : Env} {s : State} {m : MethodId} {args : Array Value} {below : List Frame} {meth : Method} {c : Code} {b0 : Nat} {cA : Nat → ClassId} {D : va_G} {L : List (Nat × Nat)} (hC : zC p c s m args meth cX7_tries 6 (none) (Cond.code yX7_tries cX7_tries 6 (none)) yX7_tries.cls cA D) (k115 : Nat → Int32 → Int32 → zS → Option (Unit × zS)) (h115 : ∀ (v0 : Nat) (v2 : Int32) (v4 : Int32) (σ : zS) (ls : Array Slot), L[v0]? = some (0, 7) → lv_has ls 6 [(0, .ref (b0 + v0)), (2, .int v2), (4, .int v4)] → zJ p l e rmX7_tries s m args below meth c b0 cA D L (fun z => MQ below (va_Qv (fun (u : zS) => ((), u) = z) (zB b0 cA D L) (zA b0 L)) args s 0 0 (zA b0 L)) (k115 v0 v2 v4 σ) σ 115 ls []) (k120 : Nat → Int32 → Int32 → Int32 → zS → Option (Unit × zS)) (h120 : ∀ (v0 : Nat) (v2 : Int32) (v4 : Int32) (s0 : Int32) (σ : zS) (ls : Array Slot), L[v0]? = some (0, 7) → nB s0 → lv_has ls 6 [(0, .ref (b0 + v0)), (2, .int v2), (4, .int v4)] → zJ p l e rmX7_tries s m args below meth c b0 cA D L (fun z => MQ below (va_Qv (fun (u : zS) => ((), u) = z) (zB b0 cA D L) (zA b0 L)) args s 0 0 (zA b0 L)) (k120 v0 v2 v4 s0 σ) σ 120 ls [.int s0]) (v0 : Nat) (v2 : Int32) (v4 : Int32) (σ : zS) (ls : Array Slot) (hk_v0 : L[v0]? = some (0, 7)) (hl : lv_has ls 6 [(0, .ref (b0 + v0)), (2, .int v2), (4, .int v4)]) : zJ p l e rmX7_tries s m args below meth c b0 cA D L (fun z => MQ below (va_Qv (fun (u : zS) => ((), u) = z) (zB b0 cA D L) (zA b0 L)) args s 0 0 (zA b0 L)) (bX7_tries_98 k115 k120 v0 v2 v4 σ) σ 98 ls [] := by
  unfold bX7_tries_98
  refine zj_iload (pc' := 100) hC dX7_tries_98 rfl (lv_at hl 2 rfl) ?_
  refine zj_aload_n (pc' := 101) hC dX7_tries_100 rfl rfl (lv_at hl 0 rfl) ?_
  refine zj_getI (pc' := 104) hC hk_v0 fd_7_37 rfl tw_4_85 dX7_tries_101 rfl ?_
  refine zj_icmp_ne (tgt := 119) (pc' := 107) hC dX7_tries_104 (by decide) rfl (fun c4 => ?_) (fun c4 => ?_)
  · exact jX7_tries_119 hC k120 h120 v0 v2 v4 σ ls hk_v0 (lv_sub hl [0, 1, 2] rfl)
  · refine zj_iload_n (pc' := 108) hC dX7_tries_107 rfl rfl (lv_at hl 1 rfl) ?_
    refine zj_aload_n (pc' := 109) hC dX7_tries_108 rfl rfl (lv_at hl 0 rfl) ?_
    refine zj_getI (pc' := 112) hC hk_v0 fd_7_36 rfl tw_4_84 dX7_tries_109 rfl ?_
    refine zj_icmp_ge (tgt := 119) (pc' := 115) hC dX7_tries_112 (by decide) rfl (fun c5 => ?_) (fun c5 => ?_)
    · exact jX7_tries_119 hC k120 h120 v0 v2 v4 σ ls hk_v0 (lv_sub hl [0, 1, 2] rfl)
    · exact h115 v0 v2 v4 σ ls hk_v0 (lv_sub hl [0, 1, 2] rfl)
set_option maxRecDepth 100000 in
set_option maxHeartbeats 4000000 in
theorem jX7_tries_59 {p : Program} {l : Launch} {e : Env} {s : State} {m : MethodId} {args : Array Value} {below : List Frame} {meth : Method} {c : Code} {b0 : Nat} {cA : Nat → ClassId} {D : va_G} {L : List (Nat × Nat)} (hC : zC p c s m args meth cX7_tries 6 (none) (Cond.code yX7_tries cX7_tries 6 (none)) yX7_tries.cls cA D)  (v0 : Nat) (v2 : Int32) (v3 : Int32) (σ : zS) (ls : Array Slot) (hk_v0 : L[v0]? = some (0, 7)) (hl : lv_has ls 6 [(0, .ref (b0 + v0)), (2, .int v2), (3, .int v3)]) : zJ p l e rmX7_tries s m args below meth c b0 cA D L (fun z => MQ below (va_Qv (fun (u : zS) => ((), u) = z) (zB b0 cA D L) (zA b0 L)) args s 0 0 (zA b0 L)) (bX7_tries_59  v0 v2 v3 σ) σ 59 ls [] := by
  unfold bX7_tries_59
  refine zj_aload_n (pc' := 60) hC dX7_tries_59 rfl rfl (lv_at hl 0 rfl) ?_
  refine zj_iconst (pc' := 61) (v := (0 : Int32)) hC dX7_tries_60 rfl rfl ?_
  refine zj_calliV (pc' := 64) (rest := []) hC (kX7_plays l b0 cA D L v0 (0 : Int32) σ hk_v0) hk_v0 rfl tw_5_118 tw_5_115 tw_5_117 ts_4_9 tw_1_8 ddX7_plays rfl ⟨rfl, rfl⟩ ⟨by decide, by decide⟩ hl.1 (Nat.le_of_ble_eq_true rfl) rfl dX7_tries_61 rfl (fun r7 σ6 => ?_)
  refine zj_istore (pc' := 66) (lv' := [(4, .int r7), (0, .ref (b0 + v0)), (2, .int v2), (3, .int v3)]) hC dX7_tries_64 rfl hl (by decide) rfl (fun ls hl => ?_)
  refine zj_aload_n (pc' := 67) hC dX7_tries_66 rfl rfl (lv_at hl 1 rfl) ?_
  refine zj_getI (pc' := 70) hC hk_v0 fd_7_36 rfl tw_4_84 dX7_tries_67 rfl ?_
  refine zj_if_eq (tgt := 115) (pc' := 73) hC dX7_tries_70 (by decide) rfl (fun c8 => ?_) (fun c8 => ?_)
  · exact jX7_tries_115 hC (bX7_tries_120) (jX7_tries_120 hC) v0 v2 r7 σ6 ls hk_v0 (lv_sub hl [1, 2, 0] rfl)
  · refine zj_iload_n (pc' := 74) hC dX7_tries_73 rfl rfl (lv_at hl 3 rfl) ?_
    refine zj_if_eq (tgt := 89) (pc' := 77) hC dX7_tries_74 (by decide) rfl (fun c9 => ?_) (fun c9 => ?_)
    · refine zj_iload (pc' := 91) hC dX7_tries_89 rfl (lv_at hl 0 rfl) ?_
      refine zj_aload_n (pc' := 92) hC dX7_tries_91 rfl rfl (lv_at hl 1 rfl) ?_
      refine zj_getI (pc' := 95) hC hk_v0 fd_7_37 rfl tw_4_85 dX7_tries_92 rfl ?_
      refine zj_icmp_gt (tgt := 115) (pc' := 98) hC dX7_tries_95 (by decide) rfl (fun c10 => ?_) (fun c10 => ?_)
      · exact jX7_tries_115 hC (bX7_tries_120) (jX7_tries_120 hC) v0 v2 r7 σ6 ls hk_v0 (lv_sub hl [1, 2, 0] rfl)
      · exact jX7_tries_98 hC (bX7_tries_115 (bX7_tries_120)) (jX7_tries_115 hC (bX7_tries_120) (jX7_tries_120 hC)) (bX7_tries_120) (jX7_tries_120 hC) v0 v2 r7 σ6 ls hk_v0 (lv_sub hl [1, 2, 0] rfl)
    · refine zj_iload (pc' := 79) hC dX7_tries_77 rfl (lv_at hl 0 rfl) ?_
      refine zj_aload_n (pc' := 80) hC dX7_tries_79 rfl rfl (lv_at hl 1 rfl) ?_
      refine zj_getI (pc' := 83) hC hk_v0 fd_7_37 rfl tw_4_85 dX7_tries_80 rfl ?_
      refine zj_icmp_ge (tgt := 98) (pc' := 86) hC dX7_tries_83 (by decide) rfl (fun c11 => ?_) (fun c11 => ?_)
      · exact jX7_tries_98 hC (bX7_tries_115 (bX7_tries_120)) (jX7_tries_115 hC (bX7_tries_120) (jX7_tries_120 hC)) (bX7_tries_120) (jX7_tries_120 hC) v0 v2 r7 σ6 ls hk_v0 (lv_sub hl [1, 2, 0] rfl)
      · refine zj_goto (tgt := 115) hC dX7_tries_86 (by decide) ?_
        exact jX7_tries_115 hC (bX7_tries_120) (jX7_tries_120 hC) v0 v2 r7 σ6 ls hk_v0 (lv_sub hl [1, 2, 0] rfl)
set_option maxRecDepth 100000 in
set_option maxHeartbeats 4000000 in
theorem jX7_tries_52 {p : Program} {l : Launch} {e : Env} {s : State} {m : MethodId} {args : Array Value} {below : List Frame} {meth : Method} {c : Code} {b0 : Nat} {cA : Nat → ClassId} {D : va_G} {L : List (Nat × Nat)} (hC : zC p c s m args meth cX7_tries 6 (none) (Cond.code yX7_tries cX7_tries 6 (none)) yX7_tries.cls cA D) (k3 : Nat → Int32 → Int32 → Int32 → Int32 → zS → Option (Unit × zS)) (h3 : ∀ (v0 : Nat) (v1 : Int32) (v2 : Int32) (v3 : Int32) (v4 : Int32) (σ : zS) (ls : Array Slot), L[v0]? = some (0, 7) → lv_has ls 6 [(0, .ref (b0 + v0)), (1, .int v1), (2, .int v2), (3, .int v3), (4, .int v4)] → zJ p l e rmX7_tries s m args below meth c b0 cA D L (fun z => MQ below (va_Qv (fun (u : zS) => ((), u) = z) (zB b0 cA D L) (zA b0 L)) args s 0 0 (zA b0 L)) (k3 v0 v1 v2 v3 v4 σ) σ 3 ls []) (v0 : Nat) (v1 : Int32) (v2 : Int32) (v3 : Int32) (v4 : Int32) (s0 : Nat) (s1 : Int32) (s2 : Int32) (σ : zS) (ls : Array Slot) (hk_v0 : L[v0]? = some (0, 7)) (hk_s0 : L[s0]? = some (1, 24)) (hl : lv_has ls 6 [(0, .ref (b0 + v0)), (1, .int v1), (2, .int v2), (3, .int v3), (4, .int v4)]) : zJ p l e rmX7_tries s m args below meth c b0 cA D L (fun z => MQ below (va_Qv (fun (u : zS) => ((), u) = z) (zB b0 cA D L) (zA b0 L)) args s 0 0 (zA b0 L)) (bX7_tries_52 k3 v0 v1 v2 v3 v4 s0 s1 s2 σ) σ 52 ls [.int s2, .int s1, .ref (b0 + s0)] := by
  unfold bX7_tries_52
  refine zj_iast (pc' := 53) hC hk_s0 dX7_tries_52 rfl (fun g12 σ13 => ?_)
  refine zj_iinc (pc' := 56) (k0 := 4) (v := (v4 + (1 : Int32))) (lv' := [(4, .int (v4 + (1 : Int32))), (0, .ref (b0 + v0)), (1, .int v1), (2, .int v2), (3, .int v3)]) hC dX7_tries_53 rfl hl rfl rfl (by decide) rfl (fun ls hl => ?_)
  refine zj_goto (tgt := 3) hC dX7_tries_56 (by decide) ?_
  exact h3 v0 v1 v2 v3 ((v4 + (1 : Int32))) σ13 ls hk_v0 (lv_sub hl [1, 2, 3, 4, 0] rfl)
set_option maxRecDepth 100000 in
set_option maxHeartbeats 4000000 in
theorem jX7_tries_3 {p : Program} {l : Launch} {e : Env} {s : State} {m : MethodId} {args : Array Value} {below : List Frame} {meth : Method} {c : Code} {b0 : Nat} {cA : Nat → ClassId} {D : va_G} {L : List (Nat × Nat)} (hC : zC p c s m args meth cX7_tries 6 (none) (Cond.code yX7_tries cX7_tries 6 (none)) yX7_tries.cls cA D) (k3 : Nat → Int32 → Int32 → Int32 → Int32 → zS → Option (Unit × zS)) (h3 : ∀ (v0 : Nat) (v1 : Int32) (v2 : Int32) (v3 : Int32) (v4 : Int32) (σ : zS) (ls : Array Slot), L[v0]? = some (0, 7) → lv_has ls 6 [(0, .ref (b0 + v0)), (1, .int v1), (2, .int v2), (3, .int v3), (4, .int v4)] → zJ p l e rmX7_tries s m args below meth c b0 cA D L (fun z => MQ below (va_Qv (fun (u : zS) => ((), u) = z) (zB b0 cA D L) (zA b0 L)) args s 0 0 (zA b0 L)) (k3 v0 v1 v2 v3 v4 σ) σ 3 ls []) (v0 : Nat) (v1 : Int32) (v2 : Int32) (v3 : Int32) (v4 : Int32) (σ : zS) (ls : Array Slot) (hk_v0 : L[v0]? = some (0, 7)) (hl : lv_has ls 6 [(0, .ref (b0 + v0)), (1, .int v1), (2, .int v2), (3, .int v3), (4, .int v4)]) : zJ p l e rmX7_tries s m args below meth c b0 cA D L (fun z => MQ below (va_Qv (fun (u : zS) => ((), u) = z) (zB b0 cA D L) (zA b0 L)) args s 0 0 (zA b0 L)) (bX7_tries_3 k3 v0 v1 v2 v3 v4 σ) σ 3 ls [] := by
  unfold bX7_tries_3
  refine zj_iload (pc' := 5) hC dX7_tries_3 rfl (lv_at hl 4 rfl) ?_
  refine zj_bipush (pc' := 7) (v := (24 : Int32)) hC dX7_tries_5 rfl rfl ?_
  refine zj_icmp_ge (tgt := 59) (pc' := 10) hC dX7_tries_7 (by decide) rfl (fun c14 => ?_) (fun c14 => ?_)
  · exact jX7_tries_59 hC v0 v2 v3 σ ls hk_v0 (lv_sub hl [0, 2, 3] rfl)
  · refine zj_aload_n (pc' := 11) hC dX7_tries_10 rfl rfl (lv_at hl 0 rfl) ?_
    refine zj_getR (pc' := 14) hC hk_v0 fd_7_35 rfl tw_4_83 dX7_tries_11 rfl (fun q15 hk_q15 => ?_)
    refine zj_iload (pc' := 16) hC dX7_tries_14 rfl (lv_at hl 4 rfl) ?_
    refine zj_iload_n (pc' := 17) hC dX7_tries_16 rfl rfl (lv_at hl 2 rfl) ?_
    refine zj_iload (pc' := 19) hC dX7_tries_17 rfl (lv_at hl 4 rfl) ?_
    refine zj_ishr (pc' := 20) hC dX7_tries_19 rfl ?_
    refine zj_iconst (pc' := 21) (v := (1 : Int32)) hC dX7_tries_20 rfl rfl ?_
    refine zj_iand (pc' := 22) hC dX7_tries_21 rfl ?_
    refine zj_iconst (pc' := 23) (v := (1 : Int32)) hC dX7_tries_22 rfl rfl ?_
    refine zj_icmp_ne (tgt := 30) (pc' := 26) hC dX7_tries_23 (by decide) rfl (fun c16 => ?_) (fun c16 => ?_)
    · refine zj_aload_n (pc' := 31) hC dX7_tries_30 rfl rfl (lv_at hl 0 rfl) ?_
      refine zj_getR (pc' := 34) hC hk_v0 fd_7_6 rfl tw_4_54 dX7_tries_31 rfl (fun q17 hk_q17 => ?_)
      refine zj_iload (pc' := 36) hC dX7_tries_34 rfl (lv_at hl 4 rfl) ?_
      refine zj_iald (pc' := 37) hC hk_q17 dX7_tries_36 rfl (fun g18 => ?_)
      refine zj_iload_n (pc' := 38) hC dX7_tries_37 rfl rfl (lv_at hl 1 rfl) ?_
      refine zj_icmp_ne (tgt := 45) (pc' := 41) hC dX7_tries_38 (by decide) rfl (fun c19 => ?_) (fun c19 => ?_)
      · refine zj_aload_n (pc' := 46) hC dX7_tries_45 rfl rfl (lv_at hl 0 rfl) ?_
        refine zj_getR (pc' := 49) hC hk_v0 fd_7_6 rfl tw_4_54 dX7_tries_46 rfl (fun q20 hk_q20 => ?_)
        refine zj_iload (pc' := 51) hC dX7_tries_49 rfl (lv_at hl 4 rfl) ?_
        refine zj_iald (pc' := 52) hC hk_q20 dX7_tries_51 rfl (fun g21 => ?_)
        exact jX7_tries_52 hC k3 h3 v0 v1 v2 v3 v4 q15 v4 ((σ.1 q20 (v4).toNatClampNeg)) σ ls hk_v0 hk_q15 (lv_sub hl [0, 1, 2, 3, 4] rfl)
      · refine zj_iconst (pc' := 42) (v := (0 : Int32)) hC dX7_tries_41 rfl rfl ?_
        refine zj_goto (tgt := 52) hC dX7_tries_42 (by decide) ?_
        exact jX7_tries_52 hC k3 h3 v0 v1 v2 v3 v4 q15 v4 (0 : Int32) σ ls hk_v0 hk_q15 (lv_sub hl [0, 1, 2, 3, 4] rfl)
    · refine zj_iload_n (pc' := 27) hC dX7_tries_26 rfl rfl (lv_at hl 1 rfl) ?_
      refine zj_goto (tgt := 52) hC dX7_tries_27 (by decide) ?_
      exact jX7_tries_52 hC k3 h3 v0 v1 v2 v3 v4 q15 v4 v1 σ ls hk_v0 hk_q15 (lv_sub hl [0, 1, 2, 3, 4] rfl)
set_option maxRecDepth 100000 in
set_option maxHeartbeats 4000000 in
theorem lX7_tries_3 {p : Program} {l : Launch} {e : Env} {s : State} {m : MethodId} {args : Array Value} {below : List Frame} {meth : Method} {c : Code} {b0 : Nat} {cA : Nat → ClassId} {D : va_G} {L : List (Nat × Nat)} (hC : zC p c s m args meth cX7_tries 6 (none) (Cond.code yX7_tries cX7_tries 6 (none)) yX7_tries.cls cA D)  (n : Nat) : ∀ (v0 : Nat) (v1 : Int32) (v2 : Int32) (v3 : Int32) (v4 : Int32) (σ : zS) (ls : Array Slot), L[v0]? = some (0, 7) → lv_has ls 6 [(0, .ref (b0 + v0)), (1, .int v1), (2, .int v2), (3, .int v3), (4, .int v4)] → zJ p l e rmX7_tries s m args below meth c b0 cA D L (fun z => MQ below (va_Qv (fun (u : zS) => ((), u) = z) (zB b0 cA D L) (zA b0 L)) args s 0 0 (zA b0 L)) (fX7_tries_3  n v0 v1 v2 v3 v4 σ) σ 3 ls [] := by
  induction n with
  | zero => intros; exact zj_none
  | succ n ih => exact jX7_tries_3 hC (fX7_tries_3  n) ih
set_option maxRecDepth 100000 in
set_option maxHeartbeats 4000000 in
theorem kX7_tries (l : Launch) (b0 : Nat) (cA : Nat → ClassId) (D : va_G) (L : List (Nat × Nat)) (v0 : Nat) (v1 : Int32) (v2 : Int32) (v3 : Int32) (σ : zS) (hk0 : L[v0]? = some (0, 7)) : zMv l b0 cA D L yX7_tries (Cond.code yX7_tries cX7_tries 6 (none)) rmX7_tries [.ref (b0 + v0), .int v1, .int v2, .int v3] σ (fX7_tries v0 v1 v2 v3 σ) := by
  refine zMv_of (by decide) (Nat.le_of_ble_eq_true rfl) ?_
  intro p e s m below meth c ls hC hl
  have hl : lv_has ls 6 [(0, .ref (b0 + v0)), (1, .int v1), (2, .int v2), (3, .int v3)] := hl
  generalize ([.ref (b0 + v0), .int v1, .int v2, .int v3] : List Value).toArray = args at hC ⊢
  unfold fX7_tries
  refine zj_iconst (pc' := 1) (v := (0 : Int32)) hC dX7_tries_0 rfl rfl ?_
  refine zj_istore (pc' := 3) (lv' := [(4, .int (0 : Int32)), (0, .ref (b0 + v0)), (1, .int v1), (2, .int v2), (3, .int v3)]) hC dX7_tries_1 rfl hl (by decide) rfl (fun ls hl => ?_)
  exact lX7_tries_3 hC zFU v0 v1 v2 v3 (0 : Int32) σ ls hk0 (lv_sub hl [1, 2, 3, 4, 0] rfl)
-- X7_mayBePaid
theorem ddX7_mayBePaid : yX7_mayBePaid.cls ≠ "java/lang/invoke/MethodHandle" ∧ yX7_mayBePaid.cls ≠ "java/lang/invoke/VarHandle" ∧ (parseMethodDescriptor yX7_mayBePaid.desc).map (fun d => d.parameters.length) = some 1 := by decide +kernel
abbrev rmX7_mayBePaid : Room := { frames := 1, cells := 0, slots := 0, locals := 21 }
def bX7_mayBePaid_39 (k4 : Nat → Int32 → Int32 → Int32 → zS → Option (Int32 × zS)) (v0 : Nat) (v1 : Int32) (v3 : Int32) (s0 : Int32) (σ : zS) : Option (Int32 × zS) :=
  k4 v0 v1 s0 ((v3 + (1 : Int32))) σ
def bX7_mayBePaid_38 (k39 : Nat → Int32 → Int32 → Int32 → zS → Option (Int32 × zS)) (v0 : Nat) (v1 : Int32) (v2 : Int32) (v3 : Int32) (σ : zS) : Option (Int32 × zS) :=
  k39 v0 v1 v3 v2 σ
def bX7_mayBePaid_4 (k4 : Nat → Int32 → Int32 → Int32 → zS → Option (Int32 × zS)) (v0 : Nat) (v1 : Int32) (v2 : Int32) (v3 : Int32) (σ : zS) : Option (Int32 × zS) :=
  if (24 : Int32) ≤ v3 then (some (v2, σ)) else (zb (fX7_isTaken v0 v3 σ) (fun (r3 : Int32) (σ2 : zS) => if r3 = 0 then (bX7_mayBePaid_38 (bX7_mayBePaid_39 k4) v0 v1 v2 v3 σ2) else (bnd (σ2.2 v0 6) (fun (q5 : Nat) => zX v3 24 (if (σ2.1 q5 (v3).toNatClampNeg) = ((3 : Int32) - v1) then (bX7_mayBePaid_38 (bX7_mayBePaid_39 k4) v0 v1 v2 v3 σ2) else (bX7_mayBePaid_39 k4 v0 v1 v3 ((v2 ||| ((1 : Int32) <<< (v3 &&& 31)))) σ2))))))
def fX7_mayBePaid_4  : Nat → Nat → Int32 → Int32 → Int32 → zS → Option (Int32 × zS)
  | 0, _, _, _, _, _ => none
  | n + 1, v0, v1, v2, v3, σ => bX7_mayBePaid_4 (fX7_mayBePaid_4  n) v0 v1 v2 v3 σ
def fX7_mayBePaid (v0 : Nat) (v1 : Int32) (σ : zS) : Option (Int32 × zS) :=
  fX7_mayBePaid_4 zFU v0 v1 (0 : Int32) (0 : Int32) σ
set_option maxRecDepth 100000 in
set_option maxHeartbeats 4000000 in
theorem jX7_mayBePaid_39 {p : Program} {l : Launch} {e : Env} {s : State} {m : MethodId} {args : Array Value} {below : List Frame} {meth : Method} {c : Code} {b0 : Nat} {cA : Nat → ClassId} {D : va_G} {L : List (Nat × Nat)} (hC : zC p c s m args meth cX7_mayBePaid 4 (some Jvm.ClassFile.FieldType.int) (Cond.code yX7_mayBePaid cX7_mayBePaid 4 (some Jvm.ClassFile.FieldType.int)) yX7_mayBePaid.cls cA D) (k4 : Nat → Int32 → Int32 → Int32 → zS → Option (Int32 × zS)) (h4 : ∀ (v0 : Nat) (v1 : Int32) (v2 : Int32) (v3 : Int32) (σ : zS) (ls : Array Slot), L[v0]? = some (0, 7) → lv_has ls 4 [(0, .ref (b0 + v0)), (1, .int v1), (2, .int v2), (3, .int v3)] → zJ p l e rmX7_mayBePaid s m args below meth c b0 cA D L (fun z => MQ below (va_Qi (fun (r : Int32) (u : zS) => (r, u) = z) (zB b0 cA D L) (zA b0 L)) args s 0 0 (zA b0 L)) (k4 v0 v1 v2 v3 σ) σ 4 ls []) (v0 : Nat) (v1 : Int32) (v3 : Int32) (s0 : Int32) (σ : zS) (ls : Array Slot) (hk_v0 : L[v0]? = some (0, 7)) (hl : lv_has ls 4 [(0, .ref (b0 + v0)), (1, .int v1), (3, .int v3)]) : zJ p l e rmX7_mayBePaid s m args below meth c b0 cA D L (fun z => MQ below (va_Qi (fun (r : Int32) (u : zS) => (r, u) = z) (zB b0 cA D L) (zA b0 L)) args s 0 0 (zA b0 L)) (bX7_mayBePaid_39 k4 v0 v1 v3 s0 σ) σ 39 ls [.int s0] := by
  unfold bX7_mayBePaid_39
  refine zj_istore_n (pc' := 40) (lv' := [(2, .int s0), (0, .ref (b0 + v0)), (1, .int v1), (3, .int v3)]) hC dX7_mayBePaid_39 rfl rfl hl (by decide) rfl (fun ls hl => ?_)
  refine zj_iinc (pc' := 43) (k0 := 3) (v := (v3 + (1 : Int32))) (lv' := [(3, .int (v3 + (1 : Int32))), (2, .int s0), (0, .ref (b0 + v0)), (1, .int v1)]) hC dX7_mayBePaid_40 rfl hl rfl rfl (by decide) rfl (fun ls hl => ?_)
  refine zj_goto (tgt := 4) hC dX7_mayBePaid_43 (by decide) ?_
  exact h4 v0 v1 s0 ((v3 + (1 : Int32))) σ ls hk_v0 (lv_sub hl [2, 3, 1, 0] rfl)
set_option maxRecDepth 100000 in
set_option maxHeartbeats 4000000 in
theorem jX7_mayBePaid_38 {p : Program} {l : Launch} {e : Env} {s : State} {m : MethodId} {args : Array Value} {below : List Frame} {meth : Method} {c : Code} {b0 : Nat} {cA : Nat → ClassId} {D : va_G} {L : List (Nat × Nat)} (hC : zC p c s m args meth cX7_mayBePaid 4 (some Jvm.ClassFile.FieldType.int) (Cond.code yX7_mayBePaid cX7_mayBePaid 4 (some Jvm.ClassFile.FieldType.int)) yX7_mayBePaid.cls cA D) (k39 : Nat → Int32 → Int32 → Int32 → zS → Option (Int32 × zS)) (h39 : ∀ (v0 : Nat) (v1 : Int32) (v3 : Int32) (s0 : Int32) (σ : zS) (ls : Array Slot), L[v0]? = some (0, 7) → lv_has ls 4 [(0, .ref (b0 + v0)), (1, .int v1), (3, .int v3)] → zJ p l e rmX7_mayBePaid s m args below meth c b0 cA D L (fun z => MQ below (va_Qi (fun (r : Int32) (u : zS) => (r, u) = z) (zB b0 cA D L) (zA b0 L)) args s 0 0 (zA b0 L)) (k39 v0 v1 v3 s0 σ) σ 39 ls [.int s0]) (v0 : Nat) (v1 : Int32) (v2 : Int32) (v3 : Int32) (σ : zS) (ls : Array Slot) (hk_v0 : L[v0]? = some (0, 7)) (hl : lv_has ls 4 [(0, .ref (b0 + v0)), (1, .int v1), (2, .int v2), (3, .int v3)]) : zJ p l e rmX7_mayBePaid s m args below meth c b0 cA D L (fun z => MQ below (va_Qi (fun (r : Int32) (u : zS) => (r, u) = z) (zB b0 cA D L) (zA b0 L)) args s 0 0 (zA b0 L)) (bX7_mayBePaid_38 k39 v0 v1 v2 v3 σ) σ 38 ls [] := by
  unfold bX7_mayBePaid_38
  refine zj_iload_n (pc' := 39) hC dX7_mayBePaid_38 rfl rfl (lv_at hl 2 rfl) ?_
  exact h39 v0 v1 v3 v2 σ ls hk_v0 (lv_sub hl [0, 1, 3] rfl)
set_option maxRecDepth 100000 in
set_option maxHeartbeats 4000000 in
theorem jX7_mayBePaid_4 {p : Program} {l : Launch} {e : Env} {s : State} {m : MethodId} {args : Array Value} {below : List Frame} {meth : Method} {c : Code} {b0 : Nat} {cA : Nat → ClassId} {D : va_G} {L : List (Nat × Nat)} (hC : zC p c s m args meth cX7_mayBePaid 4 (some Jvm.ClassFile.FieldType.int) (Cond.code yX7_mayBePaid cX7_mayBePaid 4 (some Jvm.ClassFile.FieldType.int)) yX7_mayBePaid.cls cA D) (k4 : Nat → Int32 → Int32 → Int32 → zS → Option (Int32 × zS)) (h4 : ∀ (v0 : Nat) (v1 : Int32) (v2 : Int32) (v3 : Int32) (σ : zS) (ls : Array Slot), L[v0]? = some (0, 7) → lv_has ls 4 [(0, .ref (b0 + v0)), (1, .int v1), (2, .int v2), (3, .int v3)] → zJ p l e rmX7_mayBePaid s m args below meth c b0 cA D L (fun z => MQ below (va_Qi (fun (r : Int32) (u : zS) => (r, u) = z) (zB b0 cA D L) (zA b0 L)) args s 0 0 (zA b0 L)) (k4 v0 v1 v2 v3 σ) σ 4 ls []) (v0 : Nat) (v1 : Int32) (v2 : Int32) (v3 : Int32) (σ : zS) (ls : Array Slot) (hk_v0 : L[v0]? = some (0, 7)) (hl : lv_has ls 4 [(0, .ref (b0 + v0)), (1, .int v1), (2, .int v2), (3, .int v3)]) : zJ p l e rmX7_mayBePaid s m args below meth c b0 cA D L (fun z => MQ below (va_Qi (fun (r : Int32) (u : zS) => (r, u) = z) (zB b0 cA D L) (zA b0 L)) args s 0 0 (zA b0 L)) (bX7_mayBePaid_4 k4 v0 v1 v2 v3 σ) σ 4 ls [] := by
  unfold bX7_mayBePaid_4
  refine zj_iload_n (pc' := 5) hC dX7_mayBePaid_4 rfl rfl (lv_at hl 3 rfl) ?_
  refine zj_bipush (pc' := 7) (v := (24 : Int32)) hC dX7_mayBePaid_5 rfl rfl ?_
  refine zj_icmp_ge (tgt := 46) (pc' := 10) hC dX7_mayBePaid_7 (by decide) rfl (fun c1 => ?_) (fun c1 => ?_)
  · refine zj_iload_n (pc' := 47) hC dX7_mayBePaid_46 rfl rfl (lv_at hl 2 rfl) ?_
    exact zj_iret hC dX7_mayBePaid_47
  · refine zj_aload_n (pc' := 11) hC dX7_mayBePaid_10 rfl rfl (lv_at hl 0 rfl) ?_
    refine zj_iload_n (pc' := 12) hC dX7_mayBePaid_11 rfl rfl (lv_at hl 3 rfl) ?_
    refine zj_callzV (pc' := 15) (rest := []) hC (kX7_isTaken l b0 cA D L v0 v3 σ hk_v0) hk_v0 rfl tw_4_222 tw_4_219 tw_4_221 ts_3_4 tw_1_8 ddX7_isTaken rfl ⟨rfl, rfl⟩ ⟨by decide, by decide⟩ hl.1 (Nat.le_of_ble_eq_true rfl) rfl dX7_mayBePaid_12 rfl (fun r3 σ2 hb_r3 => ?_)
    refine zj_if_eq (tgt := 38) (pc' := 18) hC dX7_mayBePaid_15 (by decide) rfl (fun c4 => ?_) (fun c4 => ?_)
    · exact jX7_mayBePaid_38 hC (bX7_mayBePaid_39 k4) (jX7_mayBePaid_39 hC k4 h4) v0 v1 v2 v3 σ2 ls hk_v0 (lv_sub hl [0, 1, 2, 3] rfl)
    · refine zj_aload_n (pc' := 19) hC dX7_mayBePaid_18 rfl rfl (lv_at hl 0 rfl) ?_
      refine zj_getR (pc' := 22) hC hk_v0 fd_7_6 rfl tw_4_54 dX7_mayBePaid_19 rfl (fun q5 hk_q5 => ?_)
      refine zj_iload_n (pc' := 23) hC dX7_mayBePaid_22 rfl rfl (lv_at hl 3 rfl) ?_
      refine zj_iald (pc' := 24) hC hk_q5 dX7_mayBePaid_23 rfl (fun g6 => ?_)
      refine zj_iconst (pc' := 25) (v := (3 : Int32)) hC dX7_mayBePaid_24 rfl rfl ?_
      refine zj_iload_n (pc' := 26) hC dX7_mayBePaid_25 rfl rfl (lv_at hl 1 rfl) ?_
      refine zj_isub (pc' := 27) hC dX7_mayBePaid_26 rfl ?_
      refine zj_icmp_eq (tgt := 38) (pc' := 30) hC dX7_mayBePaid_27 (by decide) rfl (fun c7 => ?_) (fun c7 => ?_)
      · exact jX7_mayBePaid_38 hC (bX7_mayBePaid_39 k4) (jX7_mayBePaid_39 hC k4 h4) v0 v1 v2 v3 σ2 ls hk_v0 (lv_sub hl [0, 1, 2, 3] rfl)
      · refine zj_iload_n (pc' := 31) hC dX7_mayBePaid_30 rfl rfl (lv_at hl 2 rfl) ?_
        refine zj_iconst (pc' := 32) (v := (1 : Int32)) hC dX7_mayBePaid_31 rfl rfl ?_
        refine zj_iload_n (pc' := 33) hC dX7_mayBePaid_32 rfl rfl (lv_at hl 3 rfl) ?_
        refine zj_ishl (pc' := 34) hC dX7_mayBePaid_33 rfl ?_
        refine zj_ior (pc' := 35) hC dX7_mayBePaid_34 rfl ?_
        refine zj_goto (tgt := 39) hC dX7_mayBePaid_35 (by decide) ?_
        exact jX7_mayBePaid_39 hC k4 h4 v0 v1 v3 ((v2 ||| ((1 : Int32) <<< (v3 &&& 31)))) σ2 ls hk_v0 (lv_sub hl [0, 1, 3] rfl)
set_option maxRecDepth 100000 in
set_option maxHeartbeats 4000000 in
theorem lX7_mayBePaid_4 {p : Program} {l : Launch} {e : Env} {s : State} {m : MethodId} {args : Array Value} {below : List Frame} {meth : Method} {c : Code} {b0 : Nat} {cA : Nat → ClassId} {D : va_G} {L : List (Nat × Nat)} (hC : zC p c s m args meth cX7_mayBePaid 4 (some Jvm.ClassFile.FieldType.int) (Cond.code yX7_mayBePaid cX7_mayBePaid 4 (some Jvm.ClassFile.FieldType.int)) yX7_mayBePaid.cls cA D)  (n : Nat) : ∀ (v0 : Nat) (v1 : Int32) (v2 : Int32) (v3 : Int32) (σ : zS) (ls : Array Slot), L[v0]? = some (0, 7) → lv_has ls 4 [(0, .ref (b0 + v0)), (1, .int v1), (2, .int v2), (3, .int v3)] → zJ p l e rmX7_mayBePaid s m args below meth c b0 cA D L (fun z => MQ below (va_Qi (fun (r : Int32) (u : zS) => (r, u) = z) (zB b0 cA D L) (zA b0 L)) args s 0 0 (zA b0 L)) (fX7_mayBePaid_4  n v0 v1 v2 v3 σ) σ 4 ls [] := by
  induction n with
  | zero => intros; exact zj_none
  | succ n ih => exact jX7_mayBePaid_4 hC (fX7_mayBePaid_4  n) ih
set_option maxRecDepth 100000 in
set_option maxHeartbeats 4000000 in
theorem kX7_mayBePaid (l : Launch) (b0 : Nat) (cA : Nat → ClassId) (D : va_G) (L : List (Nat × Nat)) (v0 : Nat) (v1 : Int32) (σ : zS) (hk0 : L[v0]? = some (0, 7)) : zMi l b0 cA D L yX7_mayBePaid (Cond.code yX7_mayBePaid cX7_mayBePaid 4 (some Jvm.ClassFile.FieldType.int)) rmX7_mayBePaid [.ref (b0 + v0), .int v1] σ (fX7_mayBePaid v0 v1 σ) := by
  refine zMi_of (by decide) (Nat.le_of_ble_eq_true rfl) ?_
  intro p e s m below meth c ls hC hl
  have hl : lv_has ls 4 [(0, .ref (b0 + v0)), (1, .int v1)] := hl
  generalize ([.ref (b0 + v0), .int v1] : List Value).toArray = args at hC ⊢
  unfold fX7_mayBePaid
  refine zj_iconst (pc' := 1) (v := (0 : Int32)) hC dX7_mayBePaid_0 rfl rfl ?_
  refine zj_istore_n (pc' := 2) (lv' := [(2, .int (0 : Int32)), (0, .ref (b0 + v0)), (1, .int v1)]) hC dX7_mayBePaid_1 rfl rfl hl (by decide) rfl (fun ls hl => ?_)
  refine zj_iconst (pc' := 3) (v := (0 : Int32)) hC dX7_mayBePaid_2 rfl rfl ?_
  refine zj_istore_n (pc' := 4) (lv' := [(3, .int (0 : Int32)), (2, .int (0 : Int32)), (0, .ref (b0 + v0)), (1, .int v1)]) hC dX7_mayBePaid_3 rfl rfl hl (by decide) rfl (fun ls hl => ?_)
  exact lX7_mayBePaid_4 hC zFU v0 v1 (0 : Int32) (0 : Int32) σ ls hk0 (lv_sub hl [2, 3, 1, 0] rfl)
-- X7_seated
theorem ddX7_seated : yX7_seated.cls ≠ "java/lang/invoke/MethodHandle" ∧ yX7_seated.cls ≠ "java/lang/invoke/VarHandle" ∧ (parseMethodDescriptor yX7_seated.desc).map (fun d => d.parameters.length) = some 3 := by decide +kernel
abbrev rmX7_seated : Room := { frames := 5, cells := 0, slots := 0, locals := 120 }
def bX7_seated_274  (v0 : Nat) (v3 : Int32) (σ : zS) : Option (Int32 × zS) :=
  if v3 = 0 then (some ((σ.1 v0 36), σ)) else (some ((σ.1 v0 37), σ))
def bX7_seated_268 (k136 : Nat → Int32 → Int32 → Int32 → Int32 → Int32 → Int32 → zS → Option (Int32 × zS)) (v0 : Nat) (v1 : Int32) (v2 : Int32) (v3 : Int32) (v5 : Int32) (v6 : Int32) (v7 : Int32) (σ : zS) : Option (Int32 × zS) :=
  k136 v0 v1 v2 v3 v5 v6 ((v7 + (1 : Int32))) σ
def bX7_seated_262 (k159 : Nat → Int32 → Int32 → Int32 → Int32 → Int32 → Int32 → Int32 → zS → Option (Int32 × zS)) (v0 : Nat) (v1 : Int32) (v2 : Int32) (v3 : Int32) (v5 : Int32) (v6 : Int32) (v7 : Int32) (v8 : Int32) (σ : zS) : Option (Int32 × zS) :=
  k159 v0 v1 v2 v3 v5 v6 v7 ((v8 + (1 : Int32))) σ
def bX7_seated_256 (k194 : Nat → Int32 → Int32 → Int32 → Int32 → Int32 → Int32 → Int32 → Int32 → zS → Option (Int32 × zS)) (v0 : Nat) (v1 : Int32) (v2 : Int32) (v3 : Int32) (v5 : Int32) (v6 : Int32) (v7 : Int32) (v8 : Int32) (v9 : Int32) (σ : zS) : Option (Int32 × zS) :=
  k194 v0 v1 v2 v3 v5 v6 v7 v8 ((v9 + (1 : Int32))) σ
def bX7_seated_253 (k256 : Nat → Int32 → Int32 → Int32 → Int32 → Int32 → Int32 → Int32 → Int32 → zS → Option (Int32 × zS)) (v0 : Nat) (v1 : Int32) (v2 : Int32) (v3 : Int32) (v5 : Int32) (v6 : Int32) (v7 : Int32) (v8 : Int32) (v9 : Int32) (s0 : Nat) (s1 : Int32) (s2 : Int32) (s3 : Int32) (σ : zS) : Option (Int32 × zS) :=
  zb (fX7_tries s0 s1 s2 s3 σ) (fun (_ : Unit) (σ2 : zS) => k256 v0 v1 v2 v3 v5 v6 v7 v8 v9 σ2)
def bX7_seated_210 (k159 : Nat → Int32 → Int32 → Int32 → Int32 → Int32 → Int32 → Int32 → zS → Option (Int32 × zS)) (k194 : Nat → Int32 → Int32 → Int32 → Int32 → Int32 → Int32 → Int32 → Int32 → zS → Option (Int32 × zS)) (v0 : Nat) (v1 : Int32) (v2 : Int32) (v3 : Int32) (v5 : Int32) (v6 : Int32) (v7 : Int32) (v8 : Int32) (v9 : Int32) (s0 : Int32) (s1 : Int32) (σ : zS) : Option (Int32 × zS) :=
  if s1 ≤ s0 then (bX7_seated_262 k159 v0 v1 v2 v3 v5 v6 v7 v8 σ) else (bnd ((((1 : Int32) <<< (v7 &&& 31)) ||| ((1 : Int32) <<< (v8 &&& 31)))) (fun (x5 : Int32) => bnd ((x5 ||| ((1 : Int32) <<< (v9 &&& 31)))) (fun (x6 : Int32) => if (x6 &&& (v5 ^^^ (-1 : Int32))) = 0 then (if v6 ≤ 0 then (bX7_seated_253 (bX7_seated_256 k194) v0 v1 v2 v3 v5 v6 v7 v8 v9 v0 v1 x6 (0 : Int32) σ) else (bX7_seated_253 (bX7_seated_256 k194) v0 v1 v2 v3 v5 v6 v7 v8 v9 v0 v1 x6 (1 : Int32) σ)) else (bX7_seated_256 k194 v0 v1 v2 v3 v5 v6 v7 v8 v9 σ))))
def bX7_seated_194 (k159 : Nat → Int32 → Int32 → Int32 → Int32 → Int32 → Int32 → Int32 → zS → Option (Int32 × zS)) (k194 : Nat → Int32 → Int32 → Int32 → Int32 → Int32 → Int32 → Int32 → Int32 → zS → Option (Int32 × zS)) (v0 : Nat) (v1 : Int32) (v2 : Int32) (v3 : Int32) (v5 : Int32) (v6 : Int32) (v7 : Int32) (v8 : Int32) (v9 : Int32) (σ : zS) : Option (Int32 × zS) :=
  if v2 ≤ (2 : Int32) then (bX7_seated_210 k159 k194 v0 v1 v2 v3 v5 v6 v7 v8 v9 v9 ((v8 + (1 : Int32))) σ) else (bX7_seated_210 k159 k194 v0 v1 v2 v3 v5 v6 v7 v8 v9 v9 (24 : Int32) σ)
def fX7_seated_194 (k159 : Nat → Int32 → Int32 → Int32 → Int32 → Int32 → Int32 → Int32 → zS → Option (Int32 × zS)) : Nat → Nat → Int32 → Int32 → Int32 → Int32 → Int32 → Int32 → Int32 → Int32 → zS → Option (Int32 × zS)
  | 0, _, _, _, _, _, _, _, _, _, _ => none
  | n + 1, v0, v1, v2, v3, v5, v6, v7, v8, v9, σ => bX7_seated_194 k159 (fX7_seated_194 k159 n) v0 v1 v2 v3 v5 v6 v7 v8 v9 σ
def bX7_seated_192 (k159 : Nat → Int32 → Int32 → Int32 → Int32 → Int32 → Int32 → Int32 → zS → Option (Int32 × zS)) (v0 : Nat) (v1 : Int32) (v2 : Int32) (v3 : Int32) (v5 : Int32) (v6 : Int32) (v7 : Int32) (v8 : Int32) (s0 : Int32) (σ : zS) : Option (Int32 × zS) :=
  fX7_seated_194 k159 zFU v0 v1 v2 v3 v5 v6 v7 v8 s0 σ
def bX7_seated_175 (k136 : Nat → Int32 → Int32 → Int32 → Int32 → Int32 → Int32 → zS → Option (Int32 × zS)) (k159 : Nat → Int32 → Int32 → Int32 → Int32 → Int32 → Int32 → Int32 → zS → Option (Int32 × zS)) (v0 : Nat) (v1 : Int32) (v2 : Int32) (v3 : Int32) (v5 : Int32) (v6 : Int32) (v7 : Int32) (v8 : Int32) (s0 : Int32) (s1 : Int32) (σ : zS) : Option (Int32 × zS) :=
  if s1 ≤ s0 then (bX7_seated_268 k136 v0 v1 v2 v3 v5 v6 v7 σ) else (if v2 ≤ (2 : Int32) then (bX7_seated_192 k159 v0 v1 v2 v3 v5 v6 v7 v8 v8 σ) else (bX7_seated_192 k159 v0 v1 v2 v3 v5 v6 v7 v8 ((v8 + (1 : Int32))) σ))
def bX7_seated_159 (k136 : Nat → Int32 → Int32 → Int32 → Int32 → Int32 → Int32 → zS → Option (Int32 × zS)) (k159 : Nat → Int32 → Int32 → Int32 → Int32 → Int32 → Int32 → Int32 → zS → Option (Int32 × zS)) (v0 : Nat) (v1 : Int32) (v2 : Int32) (v3 : Int32) (v5 : Int32) (v6 : Int32) (v7 : Int32) (v8 : Int32) (σ : zS) : Option (Int32 × zS) :=
  if v2 ≤ (1 : Int32) then (bX7_seated_175 k136 k159 v0 v1 v2 v3 v5 v6 v7 v8 v8 ((v7 + (1 : Int32))) σ) else (bX7_seated_175 k136 k159 v0 v1 v2 v3 v5 v6 v7 v8 v8 (24 : Int32) σ)
def fX7_seated_159 (k136 : Nat → Int32 → Int32 → Int32 → Int32 → Int32 → Int32 → zS → Option (Int32 × zS)) : Nat → Nat → Int32 → Int32 → Int32 → Int32 → Int32 → Int32 → Int32 → zS → Option (Int32 × zS)
  | 0, _, _, _, _, _, _, _, _, _ => none
  | n + 1, v0, v1, v2, v3, v5, v6, v7, v8, σ => bX7_seated_159 k136 (fX7_seated_159 k136 n) v0 v1 v2 v3 v5 v6 v7 v8 σ
def bX7_seated_157 (k136 : Nat → Int32 → Int32 → Int32 → Int32 → Int32 → Int32 → zS → Option (Int32 × zS)) (v0 : Nat) (v1 : Int32) (v2 : Int32) (v3 : Int32) (v5 : Int32) (v6 : Int32) (v7 : Int32) (s0 : Int32) (σ : zS) : Option (Int32 × zS) :=
  fX7_seated_159 k136 zFU v0 v1 v2 v3 v5 v6 v7 s0 σ
def bX7_seated_136 (k136 : Nat → Int32 → Int32 → Int32 → Int32 → Int32 → Int32 → zS → Option (Int32 × zS)) (v0 : Nat) (v1 : Int32) (v2 : Int32) (v3 : Int32) (v5 : Int32) (v6 : Int32) (v7 : Int32) (σ : zS) : Option (Int32 × zS) :=
  if (24 : Int32) ≤ v7 then (bX7_seated_274 v0 v3 σ) else (if v2 ≤ (1 : Int32) then (bX7_seated_157 k136 v0 v1 v2 v3 v5 v6 v7 v7 σ) else (bX7_seated_157 k136 v0 v1 v2 v3 v5 v6 v7 ((v7 + (1 : Int32))) σ))
def fX7_seated_136  : Nat → Nat → Int32 → Int32 → Int32 → Int32 → Int32 → Int32 → zS → Option (Int32 × zS)
  | 0, _, _, _, _, _, _, _, _ => none
  | n + 1, v0, v1, v2, v3, v5, v6, v7, σ => bX7_seated_136 (fX7_seated_136  n) v0 v1 v2 v3 v5 v6 v7 σ
def bX7_seated_128  (v0 : Nat) (v1 : Int32) (v2 : Int32) (v3 : Int32) (v5 : Int32) (v6 : Int32) (σ : zS) : Option (Int32 × zS) :=
  bnd (zI σ v0 36 (0 : Int32)) (fun (σ15 : zS) => fX7_seated_136 zFU v0 v1 v2 v3 v5 v6 (0 : Int32) σ15)
def bX7_seated_119 (k67 : Nat → Int32 → Int32 → Int32 → Int32 → Int32 → Int32 → zS → Option (Int32 × zS)) (v0 : Nat) (v1 : Int32) (v2 : Int32) (v3 : Int32) (v5 : Int32) (v7 : Int32) (s0 : Int32) (s1 : Int32) (σ : zS) : Option (Int32 × zS) :=
  bnd ((s0 + s1)) (fun (x16 : Int32) => k67 v0 v1 v2 v3 v5 x16 ((v7 + (1 : Int32))) σ)
def bX7_seated_67 (k67 : Nat → Int32 → Int32 → Int32 → Int32 → Int32 → Int32 → zS → Option (Int32 × zS)) (v0 : Nat) (v1 : Int32) (v2 : Int32) (v3 : Int32) (v5 : Int32) (v6 : Int32) (v7 : Int32) (σ : zS) : Option (Int32 × zS) :=
  if (σ.1 v0 1) ≤ v7 then (bX7_seated_128 v0 v1 v2 v3 v5 v6 σ) else (bnd (σ.2 v0 9) (fun (q18 : Nat) => zX (((40 : Int32) * v1) + v7) 120 (if (σ.1 q18 ((((40 : Int32) * v1) + v7)).toNatClampNeg) = (2 : Int32) then (bX7_seated_119 k67 v0 v1 v2 v3 v5 v7 v6 (1 : Int32) σ) else (bnd (σ.2 v0 9) (fun (q21 : Nat) => zX (((40 : Int32) * v1) + v7) 120 (if (σ.1 q21 ((((40 : Int32) * v1) + v7)).toNatClampNeg) = (1 : Int32) then (bX7_seated_119 k67 v0 v1 v2 v3 v5 v7 v6 (-1 : Int32) σ) else (bX7_seated_119 k67 v0 v1 v2 v3 v5 v7 v6 (0 : Int32) σ)))))))
def fX7_seated_67  : Nat → Nat → Int32 → Int32 → Int32 → Int32 → Int32 → Int32 → zS → Option (Int32 × zS)
  | 0, _, _, _, _, _, _, _, _ => none
  | n + 1, v0, v1, v2, v3, v5, v6, v7, σ => bX7_seated_67 (fX7_seated_67  n) v0 v1 v2 v3 v5 v6 v7 σ
def bX7_seated_12  (v0 : Nat) (v1 : Int32) (v2 : Int32) (v3 : Int32) (s0 : Int32) (σ : zS) : Option (Int32 × zS) :=
  zb (fX7_isStick v1 σ) (fun (r25 : Int32) (σ24 : zS) => if r25 = 0 then (some (s0, σ24)) else (zb (fX7_in v2 (1 : Int32) (3 : Int32) σ24) (fun (r28 : Int32) (σ27 : zS) => if r28 = 0 then (some (s0, σ27)) else (zb (fX7_in v3 (0 : Int32) (1 : Int32) σ27) (fun (r31 : Int32) (σ30 : zS) => if r31 = 0 then (some (s0, σ30)) else (zb (fX7_mayBePaid v0 v1 σ30) (fun (r34 : Int32) (σ33 : zS) => zb (fX7_bits r34 σ33) (fun (r36 : Int32) (σ35 : zS) => if v2 ≤ r36 then (fX7_seated_67 zFU v0 v1 v2 v3 r34 (0 : Int32) (0 : Int32) σ35) else (some (s0, σ35))))))))))
def fX7_seated (v0 : Nat) (v1 : Int32) (v2 : Int32) (v3 : Int32) (σ : zS) : Option (Int32 × zS) :=
  if v3 = (1 : Int32) then (bX7_seated_12 v0 v1 v2 v3 (-1000000 : Int32) σ) else (bX7_seated_12 v0 v1 v2 v3 (-1 : Int32) σ)
set_option maxRecDepth 100000 in
set_option maxHeartbeats 4000000 in
theorem jX7_seated_274 {p : Program} {l : Launch} {e : Env} {s : State} {m : MethodId} {args : Array Value} {below : List Frame} {meth : Method} {c : Code} {b0 : Nat} {cA : Nat → ClassId} {D : va_G} {L : List (Nat × Nat)} (hC : zC p c s m args meth cX7_seated 11 (some Jvm.ClassFile.FieldType.int) (Cond.code yX7_seated cX7_seated 11 (some Jvm.ClassFile.FieldType.int)) yX7_seated.cls cA D)  (v0 : Nat) (v3 : Int32) (σ : zS) (ls : Array Slot) (hk_v0 : L[v0]? = some (0, 7)) (hl : lv_has ls 11 [(0, .ref (b0 + v0)), (3, .int v3)]) : zJ p l e rmX7_seated s m args below meth c b0 cA D L (fun z => MQ below (va_Qi (fun (r : Int32) (u : zS) => (r, u) = z) (zB b0 cA D L) (zA b0 L)) args s 0 0 (zA b0 L)) (bX7_seated_274  v0 v3 σ) σ 274 ls [] := by
  unfold bX7_seated_274
  refine zj_iload_n (pc' := 275) hC dX7_seated_274 rfl rfl (lv_at hl 1 rfl) ?_
  refine zj_if_ne (tgt := 285) (pc' := 278) hC dX7_seated_275 (by decide) rfl (fun c1 => ?_) (fun c1 => ?_)
  · refine zj_aload_n (pc' := 286) hC dX7_seated_285 rfl rfl (lv_at hl 0 rfl) ?_
    refine zj_getI (pc' := 289) hC hk_v0 fd_7_37 rfl tw_4_85 dX7_seated_286 rfl ?_
    exact zj_iret hC dX7_seated_289
  · refine zj_aload_n (pc' := 279) hC dX7_seated_278 rfl rfl (lv_at hl 0 rfl) ?_
    refine zj_getI (pc' := 282) hC hk_v0 fd_7_36 rfl tw_4_84 dX7_seated_279 rfl ?_
    refine zj_goto (tgt := 289) hC dX7_seated_282 (by decide) ?_
    exact zj_iret hC dX7_seated_289
set_option maxRecDepth 100000 in
set_option maxHeartbeats 4000000 in
theorem jX7_seated_268 {p : Program} {l : Launch} {e : Env} {s : State} {m : MethodId} {args : Array Value} {below : List Frame} {meth : Method} {c : Code} {b0 : Nat} {cA : Nat → ClassId} {D : va_G} {L : List (Nat × Nat)} (hC : zC p c s m args meth cX7_seated 11 (some Jvm.ClassFile.FieldType.int) (Cond.code yX7_seated cX7_seated 11 (some Jvm.ClassFile.FieldType.int)) yX7_seated.cls cA D) (k136 : Nat → Int32 → Int32 → Int32 → Int32 → Int32 → Int32 → zS → Option (Int32 × zS)) (h136 : ∀ (v0 : Nat) (v1 : Int32) (v2 : Int32) (v3 : Int32) (v5 : Int32) (v6 : Int32) (v7 : Int32) (σ : zS) (ls : Array Slot), L[v0]? = some (0, 7) → lv_has ls 11 [(0, .ref (b0 + v0)), (1, .int v1), (2, .int v2), (3, .int v3), (5, .int v5), (6, .int v6), (7, .int v7)] → zJ p l e rmX7_seated s m args below meth c b0 cA D L (fun z => MQ below (va_Qi (fun (r : Int32) (u : zS) => (r, u) = z) (zB b0 cA D L) (zA b0 L)) args s 0 0 (zA b0 L)) (k136 v0 v1 v2 v3 v5 v6 v7 σ) σ 136 ls []) (v0 : Nat) (v1 : Int32) (v2 : Int32) (v3 : Int32) (v5 : Int32) (v6 : Int32) (v7 : Int32) (σ : zS) (ls : Array Slot) (hk_v0 : L[v0]? = some (0, 7)) (hl : lv_has ls 11 [(0, .ref (b0 + v0)), (1, .int v1), (2, .int v2), (3, .int v3), (5, .int v5), (6, .int v6), (7, .int v7)]) : zJ p l e rmX7_seated s m args below meth c b0 cA D L (fun z => MQ below (va_Qi (fun (r : Int32) (u : zS) => (r, u) = z) (zB b0 cA D L) (zA b0 L)) args s 0 0 (zA b0 L)) (bX7_seated_268 k136 v0 v1 v2 v3 v5 v6 v7 σ) σ 268 ls [] := by
  unfold bX7_seated_268
  refine zj_iinc (pc' := 271) (k0 := 6) (v := (v7 + (1 : Int32))) (lv' := [(7, .int (v7 + (1 : Int32))), (0, .ref (b0 + v0)), (1, .int v1), (2, .int v2), (3, .int v3), (5, .int v5), (6, .int v6)]) hC dX7_seated_268 rfl hl rfl rfl (by decide) rfl (fun ls hl => ?_)
  refine zj_goto (tgt := 136) hC dX7_seated_271 (by decide) ?_
  exact h136 v0 v1 v2 v3 v5 v6 ((v7 + (1 : Int32))) σ ls hk_v0 (lv_sub hl [1, 2, 3, 4, 5, 6, 0] rfl)
set_option maxRecDepth 100000 in
set_option maxHeartbeats 4000000 in
theorem jX7_seated_262 {p : Program} {l : Launch} {e : Env} {s : State} {m : MethodId} {args : Array Value} {below : List Frame} {meth : Method} {c : Code} {b0 : Nat} {cA : Nat → ClassId} {D : va_G} {L : List (Nat × Nat)} (hC : zC p c s m args meth cX7_seated 11 (some Jvm.ClassFile.FieldType.int) (Cond.code yX7_seated cX7_seated 11 (some Jvm.ClassFile.FieldType.int)) yX7_seated.cls cA D) (k159 : Nat → Int32 → Int32 → Int32 → Int32 → Int32 → Int32 → Int32 → zS → Option (Int32 × zS)) (h159 : ∀ (v0 : Nat) (v1 : Int32) (v2 : Int32) (v3 : Int32) (v5 : Int32) (v6 : Int32) (v7 : Int32) (v8 : Int32) (σ : zS) (ls : Array Slot), L[v0]? = some (0, 7) → lv_has ls 11 [(0, .ref (b0 + v0)), (1, .int v1), (2, .int v2), (3, .int v3), (5, .int v5), (6, .int v6), (7, .int v7), (8, .int v8)] → zJ p l e rmX7_seated s m args below meth c b0 cA D L (fun z => MQ below (va_Qi (fun (r : Int32) (u : zS) => (r, u) = z) (zB b0 cA D L) (zA b0 L)) args s 0 0 (zA b0 L)) (k159 v0 v1 v2 v3 v5 v6 v7 v8 σ) σ 159 ls []) (v0 : Nat) (v1 : Int32) (v2 : Int32) (v3 : Int32) (v5 : Int32) (v6 : Int32) (v7 : Int32) (v8 : Int32) (σ : zS) (ls : Array Slot) (hk_v0 : L[v0]? = some (0, 7)) (hl : lv_has ls 11 [(0, .ref (b0 + v0)), (1, .int v1), (2, .int v2), (3, .int v3), (5, .int v5), (6, .int v6), (7, .int v7), (8, .int v8)]) : zJ p l e rmX7_seated s m args below meth c b0 cA D L (fun z => MQ below (va_Qi (fun (r : Int32) (u : zS) => (r, u) = z) (zB b0 cA D L) (zA b0 L)) args s 0 0 (zA b0 L)) (bX7_seated_262 k159 v0 v1 v2 v3 v5 v6 v7 v8 σ) σ 262 ls [] := by
  unfold bX7_seated_262
  refine zj_iinc (pc' := 265) (k0 := 7) (v := (v8 + (1 : Int32))) (lv' := [(8, .int (v8 + (1 : Int32))), (0, .ref (b0 + v0)), (1, .int v1), (2, .int v2), (3, .int v3), (5, .int v5), (6, .int v6), (7, .int v7)]) hC dX7_seated_262 rfl hl rfl rfl (by decide) rfl (fun ls hl => ?_)
  refine zj_goto (tgt := 159) hC dX7_seated_265 (by decide) ?_
  exact h159 v0 v1 v2 v3 v5 v6 v7 ((v8 + (1 : Int32))) σ ls hk_v0 (lv_sub hl [1, 2, 3, 4, 5, 6, 7, 0] rfl)
set_option maxRecDepth 100000 in
set_option maxHeartbeats 4000000 in
theorem jX7_seated_256 {p : Program} {l : Launch} {e : Env} {s : State} {m : MethodId} {args : Array Value} {below : List Frame} {meth : Method} {c : Code} {b0 : Nat} {cA : Nat → ClassId} {D : va_G} {L : List (Nat × Nat)} (hC : zC p c s m args meth cX7_seated 11 (some Jvm.ClassFile.FieldType.int) (Cond.code yX7_seated cX7_seated 11 (some Jvm.ClassFile.FieldType.int)) yX7_seated.cls cA D) (k194 : Nat → Int32 → Int32 → Int32 → Int32 → Int32 → Int32 → Int32 → Int32 → zS → Option (Int32 × zS)) (h194 : ∀ (v0 : Nat) (v1 : Int32) (v2 : Int32) (v3 : Int32) (v5 : Int32) (v6 : Int32) (v7 : Int32) (v8 : Int32) (v9 : Int32) (σ : zS) (ls : Array Slot), L[v0]? = some (0, 7) → lv_has ls 11 [(0, .ref (b0 + v0)), (1, .int v1), (2, .int v2), (3, .int v3), (5, .int v5), (6, .int v6), (7, .int v7), (8, .int v8), (9, .int v9)] → zJ p l e rmX7_seated s m args below meth c b0 cA D L (fun z => MQ below (va_Qi (fun (r : Int32) (u : zS) => (r, u) = z) (zB b0 cA D L) (zA b0 L)) args s 0 0 (zA b0 L)) (k194 v0 v1 v2 v3 v5 v6 v7 v8 v9 σ) σ 194 ls []) (v0 : Nat) (v1 : Int32) (v2 : Int32) (v3 : Int32) (v5 : Int32) (v6 : Int32) (v7 : Int32) (v8 : Int32) (v9 : Int32) (σ : zS) (ls : Array Slot) (hk_v0 : L[v0]? = some (0, 7)) (hl : lv_has ls 11 [(0, .ref (b0 + v0)), (1, .int v1), (2, .int v2), (3, .int v3), (5, .int v5), (6, .int v6), (7, .int v7), (8, .int v8), (9, .int v9)]) : zJ p l e rmX7_seated s m args below meth c b0 cA D L (fun z => MQ below (va_Qi (fun (r : Int32) (u : zS) => (r, u) = z) (zB b0 cA D L) (zA b0 L)) args s 0 0 (zA b0 L)) (bX7_seated_256 k194 v0 v1 v2 v3 v5 v6 v7 v8 v9 σ) σ 256 ls [] := by
  unfold bX7_seated_256
  refine zj_iinc (pc' := 259) (k0 := 8) (v := (v9 + (1 : Int32))) (lv' := [(9, .int (v9 + (1 : Int32))), (0, .ref (b0 + v0)), (1, .int v1), (2, .int v2), (3, .int v3), (5, .int v5), (6, .int v6), (7, .int v7), (8, .int v8)]) hC dX7_seated_256 rfl hl rfl rfl (by decide) rfl (fun ls hl => ?_)
  refine zj_goto (tgt := 194) hC dX7_seated_259 (by decide) ?_
  exact h194 v0 v1 v2 v3 v5 v6 v7 v8 ((v9 + (1 : Int32))) σ ls hk_v0 (lv_sub hl [1, 2, 3, 4, 5, 6, 7, 8, 0] rfl)
set_option maxRecDepth 100000 in
set_option maxHeartbeats 4000000 in
theorem jX7_seated_253 {p : Program} {l : Launch} {e : Env} {s : State} {m : MethodId} {args : Array Value} {below : List Frame} {meth : Method} {c : Code} {b0 : Nat} {cA : Nat → ClassId} {D : va_G} {L : List (Nat × Nat)} (hC : zC p c s m args meth cX7_seated 11 (some Jvm.ClassFile.FieldType.int) (Cond.code yX7_seated cX7_seated 11 (some Jvm.ClassFile.FieldType.int)) yX7_seated.cls cA D) (k256 : Nat → Int32 → Int32 → Int32 → Int32 → Int32 → Int32 → Int32 → Int32 → zS → Option (Int32 × zS)) (h256 : ∀ (v0 : Nat) (v1 : Int32) (v2 : Int32) (v3 : Int32) (v5 : Int32) (v6 : Int32) (v7 : Int32) (v8 : Int32) (v9 : Int32) (σ : zS) (ls : Array Slot), L[v0]? = some (0, 7) → lv_has ls 11 [(0, .ref (b0 + v0)), (1, .int v1), (2, .int v2), (3, .int v3), (5, .int v5), (6, .int v6), (7, .int v7), (8, .int v8), (9, .int v9)] → zJ p l e rmX7_seated s m args below meth c b0 cA D L (fun z => MQ below (va_Qi (fun (r : Int32) (u : zS) => (r, u) = z) (zB b0 cA D L) (zA b0 L)) args s 0 0 (zA b0 L)) (k256 v0 v1 v2 v3 v5 v6 v7 v8 v9 σ) σ 256 ls []) (v0 : Nat) (v1 : Int32) (v2 : Int32) (v3 : Int32) (v5 : Int32) (v6 : Int32) (v7 : Int32) (v8 : Int32) (v9 : Int32) (s0 : Nat) (s1 : Int32) (s2 : Int32) (s3 : Int32) (σ : zS) (ls : Array Slot) (hk_v0 : L[v0]? = some (0, 7)) (hk_s0 : L[s0]? = some (0, 7)) (hb_s3 : nB s3) (hl : lv_has ls 11 [(0, .ref (b0 + v0)), (1, .int v1), (2, .int v2), (3, .int v3), (5, .int v5), (6, .int v6), (7, .int v7), (8, .int v8), (9, .int v9)]) : zJ p l e rmX7_seated s m args below meth c b0 cA D L (fun z => MQ below (va_Qi (fun (r : Int32) (u : zS) => (r, u) = z) (zB b0 cA D L) (zA b0 L)) args s 0 0 (zA b0 L)) (bX7_seated_253 k256 v0 v1 v2 v3 v5 v6 v7 v8 v9 s0 s1 s2 s3 σ) σ 253 ls [.int s3, .int s2, .int s1, .ref (b0 + s0)] := by
  unfold bX7_seated_253
  refine zj_callvV (pc' := 256) (rest := []) hC (kX7_tries l b0 cA D L s0 s1 s2 s3 σ hk_s0) hk_s0 rfl tw_5_189 tw_5_186 tw_5_188 ts_5_3 tw_1_8 ddX7_tries rfl ⟨rfl, rfl⟩ ⟨by decide, by decide⟩ hl.1 (Nat.le_of_ble_eq_true rfl) rfl dX7_seated_253 rfl (fun σ2 => ?_)
  exact h256 v0 v1 v2 v3 v5 v6 v7 v8 v9 σ2 ls hk_v0 (lv_sub hl [0, 1, 2, 3, 4, 5, 6, 7, 8] rfl)
set_option maxRecDepth 100000 in
set_option maxHeartbeats 4000000 in
theorem jX7_seated_210 {p : Program} {l : Launch} {e : Env} {s : State} {m : MethodId} {args : Array Value} {below : List Frame} {meth : Method} {c : Code} {b0 : Nat} {cA : Nat → ClassId} {D : va_G} {L : List (Nat × Nat)} (hC : zC p c s m args meth cX7_seated 11 (some Jvm.ClassFile.FieldType.int) (Cond.code yX7_seated cX7_seated 11 (some Jvm.ClassFile.FieldType.int)) yX7_seated.cls cA D) (k159 : Nat → Int32 → Int32 → Int32 → Int32 → Int32 → Int32 → Int32 → zS → Option (Int32 × zS)) (h159 : ∀ (v0 : Nat) (v1 : Int32) (v2 : Int32) (v3 : Int32) (v5 : Int32) (v6 : Int32) (v7 : Int32) (v8 : Int32) (σ : zS) (ls : Array Slot), L[v0]? = some (0, 7) → lv_has ls 11 [(0, .ref (b0 + v0)), (1, .int v1), (2, .int v2), (3, .int v3), (5, .int v5), (6, .int v6), (7, .int v7), (8, .int v8)] → zJ p l e rmX7_seated s m args below meth c b0 cA D L (fun z => MQ below (va_Qi (fun (r : Int32) (u : zS) => (r, u) = z) (zB b0 cA D L) (zA b0 L)) args s 0 0 (zA b0 L)) (k159 v0 v1 v2 v3 v5 v6 v7 v8 σ) σ 159 ls []) (k194 : Nat → Int32 → Int32 → Int32 → Int32 → Int32 → Int32 → Int32 → Int32 → zS → Option (Int32 × zS)) (h194 : ∀ (v0 : Nat) (v1 : Int32) (v2 : Int32) (v3 : Int32) (v5 : Int32) (v6 : Int32) (v7 : Int32) (v8 : Int32) (v9 : Int32) (σ : zS) (ls : Array Slot), L[v0]? = some (0, 7) → lv_has ls 11 [(0, .ref (b0 + v0)), (1, .int v1), (2, .int v2), (3, .int v3), (5, .int v5), (6, .int v6), (7, .int v7), (8, .int v8), (9, .int v9)] → zJ p l e rmX7_seated s m args below meth c b0 cA D L (fun z => MQ below (va_Qi (fun (r : Int32) (u : zS) => (r, u) = z) (zB b0 cA D L) (zA b0 L)) args s 0 0 (zA b0 L)) (k194 v0 v1 v2 v3 v5 v6 v7 v8 v9 σ) σ 194 ls []) (v0 : Nat) (v1 : Int32) (v2 : Int32) (v3 : Int32) (v5 : Int32) (v6 : Int32) (v7 : Int32) (v8 : Int32) (v9 : Int32) (s0 : Int32) (s1 : Int32) (σ : zS) (ls : Array Slot) (hk_v0 : L[v0]? = some (0, 7)) (hl : lv_has ls 11 [(0, .ref (b0 + v0)), (1, .int v1), (2, .int v2), (3, .int v3), (5, .int v5), (6, .int v6), (7, .int v7), (8, .int v8), (9, .int v9)]) : zJ p l e rmX7_seated s m args below meth c b0 cA D L (fun z => MQ below (va_Qi (fun (r : Int32) (u : zS) => (r, u) = z) (zB b0 cA D L) (zA b0 L)) args s 0 0 (zA b0 L)) (bX7_seated_210 k159 k194 v0 v1 v2 v3 v5 v6 v7 v8 v9 s0 s1 σ) σ 210 ls [.int s1, .int s0] := by
  unfold bX7_seated_210
  refine zj_icmp_ge (tgt := 262) (pc' := 213) hC dX7_seated_210 (by decide) rfl (fun c4 => ?_) (fun c4 => ?_)
  · exact jX7_seated_262 hC k159 h159 v0 v1 v2 v3 v5 v6 v7 v8 σ ls hk_v0 (lv_sub hl [0, 1, 2, 3, 4, 5, 6, 7] rfl)
  · refine zj_iconst (pc' := 214) (v := (1 : Int32)) hC dX7_seated_213 rfl rfl ?_
    refine zj_iload (pc' := 216) hC dX7_seated_214 rfl (lv_at hl 6 rfl) ?_
    refine zj_ishl (pc' := 217) hC dX7_seated_216 rfl ?_
    refine zj_iconst (pc' := 218) (v := (1 : Int32)) hC dX7_seated_217 rfl rfl ?_
    refine zj_iload (pc' := 220) hC dX7_seated_218 rfl (lv_at hl 7 rfl) ?_
    refine zj_ishl (pc' := 221) hC dX7_seated_220 rfl ?_
    refine zj_ior (pc' := 222) hC dX7_seated_221 rfl ?_
    refine zj_nmi (fun x5 => ?_)
    refine zj_iconst (pc' := 223) (v := (1 : Int32)) hC dX7_seated_222 rfl rfl ?_
    refine zj_iload (pc' := 225) hC dX7_seated_223 rfl (lv_at hl 8 rfl) ?_
    refine zj_ishl (pc' := 226) hC dX7_seated_225 rfl ?_
    refine zj_ior (pc' := 227) hC dX7_seated_226 rfl ?_
    refine zj_nmi (fun x6 => ?_)
    refine zj_istore (pc' := 229) (lv' := [(10, .int x6), (0, .ref (b0 + v0)), (1, .int v1), (2, .int v2), (3, .int v3), (5, .int v5), (6, .int v6), (7, .int v7), (8, .int v8), (9, .int v9)]) hC dX7_seated_227 rfl hl (by decide) rfl (fun ls hl => ?_)
    refine zj_iload (pc' := 231) hC dX7_seated_229 rfl (lv_at hl 0 rfl) ?_
    refine zj_iload (pc' := 233) hC dX7_seated_231 rfl (lv_at hl 5 rfl) ?_
    refine zj_iconst (pc' := 234) (v := (-1 : Int32)) hC dX7_seated_233 rfl rfl ?_
    refine zj_ixor (pc' := 235) hC dX7_seated_234 rfl ?_
    refine zj_iand (pc' := 236) hC dX7_seated_235 rfl ?_
    refine zj_if_ne (tgt := 256) (pc' := 239) hC dX7_seated_236 (by decide) rfl (fun c7 => ?_) (fun c7 => ?_)
    · exact jX7_seated_256 hC k194 h194 v0 v1 v2 v3 v5 v6 v7 v8 v9 σ ls hk_v0 (lv_sub hl [1, 2, 3, 4, 5, 6, 7, 8, 9] rfl)
    · refine zj_aload_n (pc' := 240) hC dX7_seated_239 rfl rfl (lv_at hl 1 rfl) ?_
      refine zj_iload_n (pc' := 241) hC dX7_seated_240 rfl rfl (lv_at hl 2 rfl) ?_
      refine zj_iload (pc' := 243) hC dX7_seated_241 rfl (lv_at hl 0 rfl) ?_
      refine zj_iload (pc' := 245) hC dX7_seated_243 rfl (lv_at hl 6 rfl) ?_
      refine zj_if_le (tgt := 252) (pc' := 248) hC dX7_seated_245 (by decide) rfl (fun c8 => ?_) (fun c8 => ?_)
      · refine zj_iconst (pc' := 253) (v := (0 : Int32)) hC dX7_seated_252 rfl rfl ?_
        exact jX7_seated_253 hC (bX7_seated_256 k194) (jX7_seated_256 hC k194 h194) v0 v1 v2 v3 v5 v6 v7 v8 v9 v0 v1 x6 (0 : Int32) σ ls hk_v0 hk_v0 nB_0 (lv_sub hl [1, 2, 3, 4, 5, 6, 7, 8, 9] rfl)
      · refine zj_iconst (pc' := 249) (v := (1 : Int32)) hC dX7_seated_248 rfl rfl ?_
        refine zj_goto (tgt := 253) hC dX7_seated_249 (by decide) ?_
        exact jX7_seated_253 hC (bX7_seated_256 k194) (jX7_seated_256 hC k194 h194) v0 v1 v2 v3 v5 v6 v7 v8 v9 v0 v1 x6 (1 : Int32) σ ls hk_v0 hk_v0 nB_1 (lv_sub hl [1, 2, 3, 4, 5, 6, 7, 8, 9] rfl)
set_option maxRecDepth 100000 in
set_option maxHeartbeats 4000000 in
theorem jX7_seated_194 {p : Program} {l : Launch} {e : Env} {s : State} {m : MethodId} {args : Array Value} {below : List Frame} {meth : Method} {c : Code} {b0 : Nat} {cA : Nat → ClassId} {D : va_G} {L : List (Nat × Nat)} (hC : zC p c s m args meth cX7_seated 11 (some Jvm.ClassFile.FieldType.int) (Cond.code yX7_seated cX7_seated 11 (some Jvm.ClassFile.FieldType.int)) yX7_seated.cls cA D) (k159 : Nat → Int32 → Int32 → Int32 → Int32 → Int32 → Int32 → Int32 → zS → Option (Int32 × zS)) (h159 : ∀ (v0 : Nat) (v1 : Int32) (v2 : Int32) (v3 : Int32) (v5 : Int32) (v6 : Int32) (v7 : Int32) (v8 : Int32) (σ : zS) (ls : Array Slot), L[v0]? = some (0, 7) → lv_has ls 11 [(0, .ref (b0 + v0)), (1, .int v1), (2, .int v2), (3, .int v3), (5, .int v5), (6, .int v6), (7, .int v7), (8, .int v8)] → zJ p l e rmX7_seated s m args below meth c b0 cA D L (fun z => MQ below (va_Qi (fun (r : Int32) (u : zS) => (r, u) = z) (zB b0 cA D L) (zA b0 L)) args s 0 0 (zA b0 L)) (k159 v0 v1 v2 v3 v5 v6 v7 v8 σ) σ 159 ls []) (k194 : Nat → Int32 → Int32 → Int32 → Int32 → Int32 → Int32 → Int32 → Int32 → zS → Option (Int32 × zS)) (h194 : ∀ (v0 : Nat) (v1 : Int32) (v2 : Int32) (v3 : Int32) (v5 : Int32) (v6 : Int32) (v7 : Int32) (v8 : Int32) (v9 : Int32) (σ : zS) (ls : Array Slot), L[v0]? = some (0, 7) → lv_has ls 11 [(0, .ref (b0 + v0)), (1, .int v1), (2, .int v2), (3, .int v3), (5, .int v5), (6, .int v6), (7, .int v7), (8, .int v8), (9, .int v9)] → zJ p l e rmX7_seated s m args below meth c b0 cA D L (fun z => MQ below (va_Qi (fun (r : Int32) (u : zS) => (r, u) = z) (zB b0 cA D L) (zA b0 L)) args s 0 0 (zA b0 L)) (k194 v0 v1 v2 v3 v5 v6 v7 v8 v9 σ) σ 194 ls []) (v0 : Nat) (v1 : Int32) (v2 : Int32) (v3 : Int32) (v5 : Int32) (v6 : Int32) (v7 : Int32) (v8 : Int32) (v9 : Int32) (σ : zS) (ls : Array Slot) (hk_v0 : L[v0]? = some (0, 7)) (hl : lv_has ls 11 [(0, .ref (b0 + v0)), (1, .int v1), (2, .int v2), (3, .int v3), (5, .int v5), (6, .int v6), (7, .int v7), (8, .int v8), (9, .int v9)]) : zJ p l e rmX7_seated s m args below meth c b0 cA D L (fun z => MQ below (va_Qi (fun (r : Int32) (u : zS) => (r, u) = z) (zB b0 cA D L) (zA b0 L)) args s 0 0 (zA b0 L)) (bX7_seated_194 k159 k194 v0 v1 v2 v3 v5 v6 v7 v8 v9 σ) σ 194 ls [] := by
  unfold bX7_seated_194
  refine zj_iload (pc' := 196) hC dX7_seated_194 rfl (lv_at hl 8 rfl) ?_
  refine zj_iload_n (pc' := 197) hC dX7_seated_196 rfl rfl (lv_at hl 2 rfl) ?_
  refine zj_iconst (pc' := 198) (v := (2 : Int32)) hC dX7_seated_197 rfl rfl ?_
  refine zj_icmp_le (tgt := 206) (pc' := 201) hC dX7_seated_198 (by decide) rfl (fun c9 => ?_) (fun c9 => ?_)
  · refine zj_iload (pc' := 208) hC dX7_seated_206 rfl (lv_at hl 7 rfl) ?_
    refine zj_iconst (pc' := 209) (v := (1 : Int32)) hC dX7_seated_208 rfl rfl ?_
    refine zj_iadd (pc' := 210) hC dX7_seated_209 rfl ?_
    exact jX7_seated_210 hC k159 h159 k194 h194 v0 v1 v2 v3 v5 v6 v7 v8 v9 v9 ((v8 + (1 : Int32))) σ ls hk_v0 (lv_sub hl [0, 1, 2, 3, 4, 5, 6, 7, 8] rfl)
  · refine zj_bipush (pc' := 203) (v := (24 : Int32)) hC dX7_seated_201 rfl rfl ?_
    refine zj_goto (tgt := 210) hC dX7_seated_203 (by decide) ?_
    exact jX7_seated_210 hC k159 h159 k194 h194 v0 v1 v2 v3 v5 v6 v7 v8 v9 v9 (24 : Int32) σ ls hk_v0 (lv_sub hl [0, 1, 2, 3, 4, 5, 6, 7, 8] rfl)
set_option maxRecDepth 100000 in
set_option maxHeartbeats 4000000 in
theorem lX7_seated_194 {p : Program} {l : Launch} {e : Env} {s : State} {m : MethodId} {args : Array Value} {below : List Frame} {meth : Method} {c : Code} {b0 : Nat} {cA : Nat → ClassId} {D : va_G} {L : List (Nat × Nat)} (hC : zC p c s m args meth cX7_seated 11 (some Jvm.ClassFile.FieldType.int) (Cond.code yX7_seated cX7_seated 11 (some Jvm.ClassFile.FieldType.int)) yX7_seated.cls cA D) (k159 : Nat → Int32 → Int32 → Int32 → Int32 → Int32 → Int32 → Int32 → zS → Option (Int32 × zS)) (h159 : ∀ (v0 : Nat) (v1 : Int32) (v2 : Int32) (v3 : Int32) (v5 : Int32) (v6 : Int32) (v7 : Int32) (v8 : Int32) (σ : zS) (ls : Array Slot), L[v0]? = some (0, 7) → lv_has ls 11 [(0, .ref (b0 + v0)), (1, .int v1), (2, .int v2), (3, .int v3), (5, .int v5), (6, .int v6), (7, .int v7), (8, .int v8)] → zJ p l e rmX7_seated s m args below meth c b0 cA D L (fun z => MQ below (va_Qi (fun (r : Int32) (u : zS) => (r, u) = z) (zB b0 cA D L) (zA b0 L)) args s 0 0 (zA b0 L)) (k159 v0 v1 v2 v3 v5 v6 v7 v8 σ) σ 159 ls []) (n : Nat) : ∀ (v0 : Nat) (v1 : Int32) (v2 : Int32) (v3 : Int32) (v5 : Int32) (v6 : Int32) (v7 : Int32) (v8 : Int32) (v9 : Int32) (σ : zS) (ls : Array Slot), L[v0]? = some (0, 7) → lv_has ls 11 [(0, .ref (b0 + v0)), (1, .int v1), (2, .int v2), (3, .int v3), (5, .int v5), (6, .int v6), (7, .int v7), (8, .int v8), (9, .int v9)] → zJ p l e rmX7_seated s m args below meth c b0 cA D L (fun z => MQ below (va_Qi (fun (r : Int32) (u : zS) => (r, u) = z) (zB b0 cA D L) (zA b0 L)) args s 0 0 (zA b0 L)) (fX7_seated_194 k159 n v0 v1 v2 v3 v5 v6 v7 v8 v9 σ) σ 194 ls [] := by
  induction n with
  | zero => intros; exact zj_none
  | succ n ih => exact jX7_seated_194 hC k159 h159 (fX7_seated_194 k159 n) ih
set_option maxRecDepth 100000 in
set_option maxHeartbeats 4000000 in
theorem jX7_seated_192 {p : Program} {l : Launch} {e : Env} {s : State} {m : MethodId} {args : Array Value} {below : List Frame} {meth : Method} {c : Code} {b0 : Nat} {cA : Nat → ClassId} {D : va_G} {L : List (Nat × Nat)} (hC : zC p c s m args meth cX7_seated 11 (some Jvm.ClassFile.FieldType.int) (Cond.code yX7_seated cX7_seated 11 (some Jvm.ClassFile.FieldType.int)) yX7_seated.cls cA D) (k159 : Nat → Int32 → Int32 → Int32 → Int32 → Int32 → Int32 → Int32 → zS → Option (Int32 × zS)) (h159 : ∀ (v0 : Nat) (v1 : Int32) (v2 : Int32) (v3 : Int32) (v5 : Int32) (v6 : Int32) (v7 : Int32) (v8 : Int32) (σ : zS) (ls : Array Slot), L[v0]? = some (0, 7) → lv_has ls 11 [(0, .ref (b0 + v0)), (1, .int v1), (2, .int v2), (3, .int v3), (5, .int v5), (6, .int v6), (7, .int v7), (8, .int v8)] → zJ p l e rmX7_seated s m args below meth c b0 cA D L (fun z => MQ below (va_Qi (fun (r : Int32) (u : zS) => (r, u) = z) (zB b0 cA D L) (zA b0 L)) args s 0 0 (zA b0 L)) (k159 v0 v1 v2 v3 v5 v6 v7 v8 σ) σ 159 ls []) (v0 : Nat) (v1 : Int32) (v2 : Int32) (v3 : Int32) (v5 : Int32) (v6 : Int32) (v7 : Int32) (v8 : Int32) (s0 : Int32) (σ : zS) (ls : Array Slot) (hk_v0 : L[v0]? = some (0, 7)) (hl : lv_has ls 11 [(0, .ref (b0 + v0)), (1, .int v1), (2, .int v2), (3, .int v3), (5, .int v5), (6, .int v6), (7, .int v7), (8, .int v8)]) : zJ p l e rmX7_seated s m args below meth c b0 cA D L (fun z => MQ below (va_Qi (fun (r : Int32) (u : zS) => (r, u) = z) (zB b0 cA D L) (zA b0 L)) args s 0 0 (zA b0 L)) (bX7_seated_192 k159 v0 v1 v2 v3 v5 v6 v7 v8 s0 σ) σ 192 ls [.int s0] := by
  unfold bX7_seated_192
  refine zj_istore (pc' := 194) (lv' := [(9, .int s0), (0, .ref (b0 + v0)), (1, .int v1), (2, .int v2), (3, .int v3), (5, .int v5), (6, .int v6), (7, .int v7), (8, .int v8)]) hC dX7_seated_192 rfl hl (by decide) rfl (fun ls hl => ?_)
  exact lX7_seated_194 hC k159 h159 zFU v0 v1 v2 v3 v5 v6 v7 v8 s0 σ ls hk_v0 (lv_sub hl [1, 2, 3, 4, 5, 6, 7, 8, 0] rfl)
set_option maxRecDepth 100000 in
set_option maxHeartbeats 4000000 in
theorem jX7_seated_175 {p : Program} {l : Launch} {e : Env} {s : State} {m : MethodId} {args : Array Value} {below : List Frame} {meth : Method} {c : Code} {b0 : Nat} {cA : Nat → ClassId} {D : va_G} {L : List (Nat × Nat)} (hC : zC p c s m args meth cX7_seated 11 (some Jvm.ClassFile.FieldType.int) (Cond.code yX7_seated cX7_seated 11 (some Jvm.ClassFile.FieldType.int)) yX7_seated.cls cA D) (k136 : Nat → Int32 → Int32 → Int32 → Int32 → Int32 → Int32 → zS → Option (Int32 × zS)) (h136 : ∀ (v0 : Nat) (v1 : Int32) (v2 : Int32) (v3 : Int32) (v5 : Int32) (v6 : Int32) (v7 : Int32) (σ : zS) (ls : Array Slot), L[v0]? = some (0, 7) → lv_has ls 11 [(0, .ref (b0 + v0)), (1, .int v1), (2, .int v2), (3, .int v3), (5, .int v5), (6, .int v6), (7, .int v7)] → zJ p l e rmX7_seated s m args below meth c b0 cA D L (fun z => MQ below (va_Qi (fun (r : Int32) (u : zS) => (r, u) = z) (zB b0 cA D L) (zA b0 L)) args s 0 0 (zA b0 L)) (k136 v0 v1 v2 v3 v5 v6 v7 σ) σ 136 ls []) (k159 : Nat → Int32 → Int32 → Int32 → Int32 → Int32 → Int32 → Int32 → zS → Option (Int32 × zS)) (h159 : ∀ (v0 : Nat) (v1 : Int32) (v2 : Int32) (v3 : Int32) (v5 : Int32) (v6 : Int32) (v7 : Int32) (v8 : Int32) (σ : zS) (ls : Array Slot), L[v0]? = some (0, 7) → lv_has ls 11 [(0, .ref (b0 + v0)), (1, .int v1), (2, .int v2), (3, .int v3), (5, .int v5), (6, .int v6), (7, .int v7), (8, .int v8)] → zJ p l e rmX7_seated s m args below meth c b0 cA D L (fun z => MQ below (va_Qi (fun (r : Int32) (u : zS) => (r, u) = z) (zB b0 cA D L) (zA b0 L)) args s 0 0 (zA b0 L)) (k159 v0 v1 v2 v3 v5 v6 v7 v8 σ) σ 159 ls []) (v0 : Nat) (v1 : Int32) (v2 : Int32) (v3 : Int32) (v5 : Int32) (v6 : Int32) (v7 : Int32) (v8 : Int32) (s0 : Int32) (s1 : Int32) (σ : zS) (ls : Array Slot) (hk_v0 : L[v0]? = some (0, 7)) (hl : lv_has ls 11 [(0, .ref (b0 + v0)), (1, .int v1), (2, .int v2), (3, .int v3), (5, .int v5), (6, .int v6), (7, .int v7), (8, .int v8)]) : zJ p l e rmX7_seated s m args below meth c b0 cA D L (fun z => MQ below (va_Qi (fun (r : Int32) (u : zS) => (r, u) = z) (zB b0 cA D L) (zA b0 L)) args s 0 0 (zA b0 L)) (bX7_seated_175 k136 k159 v0 v1 v2 v3 v5 v6 v7 v8 s0 s1 σ) σ 175 ls [.int s1, .int s0] := by
  unfold bX7_seated_175
  refine zj_icmp_ge (tgt := 268) (pc' := 178) hC dX7_seated_175 (by decide) rfl (fun c10 => ?_) (fun c10 => ?_)
  · exact jX7_seated_268 hC k136 h136 v0 v1 v2 v3 v5 v6 v7 σ ls hk_v0 (lv_sub hl [0, 1, 2, 3, 4, 5, 6] rfl)
  · refine zj_iload_n (pc' := 179) hC dX7_seated_178 rfl rfl (lv_at hl 2 rfl) ?_
    refine zj_iconst (pc' := 180) (v := (2 : Int32)) hC dX7_seated_179 rfl rfl ?_
    refine zj_icmp_le (tgt := 190) (pc' := 183) hC dX7_seated_180 (by decide) rfl (fun c11 => ?_) (fun c11 => ?_)
    · refine zj_iload (pc' := 192) hC dX7_seated_190 rfl (lv_at hl 7 rfl) ?_
      exact jX7_seated_192 hC k159 h159 v0 v1 v2 v3 v5 v6 v7 v8 v8 σ ls hk_v0 (lv_sub hl [0, 1, 2, 3, 4, 5, 6, 7] rfl)
    · refine zj_iload (pc' := 185) hC dX7_seated_183 rfl (lv_at hl 7 rfl) ?_
      refine zj_iconst (pc' := 186) (v := (1 : Int32)) hC dX7_seated_185 rfl rfl ?_
      refine zj_iadd (pc' := 187) hC dX7_seated_186 rfl ?_
      refine zj_goto (tgt := 192) hC dX7_seated_187 (by decide) ?_
      exact jX7_seated_192 hC k159 h159 v0 v1 v2 v3 v5 v6 v7 v8 ((v8 + (1 : Int32))) σ ls hk_v0 (lv_sub hl [0, 1, 2, 3, 4, 5, 6, 7] rfl)
set_option maxRecDepth 100000 in
set_option maxHeartbeats 4000000 in
theorem jX7_seated_159 {p : Program} {l : Launch} {e : Env} {s : State} {m : MethodId} {args : Array Value} {below : List Frame} {meth : Method} {c : Code} {b0 : Nat} {cA : Nat → ClassId} {D : va_G} {L : List (Nat × Nat)} (hC : zC p c s m args meth cX7_seated 11 (some Jvm.ClassFile.FieldType.int) (Cond.code yX7_seated cX7_seated 11 (some Jvm.ClassFile.FieldType.int)) yX7_seated.cls cA D) (k136 : Nat → Int32 → Int32 → Int32 → Int32 → Int32 → Int32 → zS → Option (Int32 × zS)) (h136 : ∀ (v0 : Nat) (v1 : Int32) (v2 : Int32) (v3 : Int32) (v5 : Int32) (v6 : Int32) (v7 : Int32) (σ : zS) (ls : Array Slot), L[v0]? = some (0, 7) → lv_has ls 11 [(0, .ref (b0 + v0)), (1, .int v1), (2, .int v2), (3, .int v3), (5, .int v5), (6, .int v6), (7, .int v7)] → zJ p l e rmX7_seated s m args below meth c b0 cA D L (fun z => MQ below (va_Qi (fun (r : Int32) (u : zS) => (r, u) = z) (zB b0 cA D L) (zA b0 L)) args s 0 0 (zA b0 L)) (k136 v0 v1 v2 v3 v5 v6 v7 σ) σ 136 ls []) (k159 : Nat → Int32 → Int32 → Int32 → Int32 → Int32 → Int32 → Int32 → zS → Option (Int32 × zS)) (h159 : ∀ (v0 : Nat) (v1 : Int32) (v2 : Int32) (v3 : Int32) (v5 : Int32) (v6 : Int32) (v7 : Int32) (v8 : Int32) (σ : zS) (ls : Array Slot), L[v0]? = some (0, 7) → lv_has ls 11 [(0, .ref (b0 + v0)), (1, .int v1), (2, .int v2), (3, .int v3), (5, .int v5), (6, .int v6), (7, .int v7), (8, .int v8)] → zJ p l e rmX7_seated s m args below meth c b0 cA D L (fun z => MQ below (va_Qi (fun (r : Int32) (u : zS) => (r, u) = z) (zB b0 cA D L) (zA b0 L)) args s 0 0 (zA b0 L)) (k159 v0 v1 v2 v3 v5 v6 v7 v8 σ) σ 159 ls []) (v0 : Nat) (v1 : Int32) (v2 : Int32) (v3 : Int32) (v5 : Int32) (v6 : Int32) (v7 : Int32) (v8 : Int32) (σ : zS) (ls : Array Slot) (hk_v0 : L[v0]? = some (0, 7)) (hl : lv_has ls 11 [(0, .ref (b0 + v0)), (1, .int v1), (2, .int v2), (3, .int v3), (5, .int v5), (6, .int v6), (7, .int v7), (8, .int v8)]) : zJ p l e rmX7_seated s m args below meth c b0 cA D L (fun z => MQ below (va_Qi (fun (r : Int32) (u : zS) => (r, u) = z) (zB b0 cA D L) (zA b0 L)) args s 0 0 (zA b0 L)) (bX7_seated_159 k136 k159 v0 v1 v2 v3 v5 v6 v7 v8 σ) σ 159 ls [] := by
  unfold bX7_seated_159
  refine zj_iload (pc' := 161) hC dX7_seated_159 rfl (lv_at hl 7 rfl) ?_
  refine zj_iload_n (pc' := 162) hC dX7_seated_161 rfl rfl (lv_at hl 2 rfl) ?_
  refine zj_iconst (pc' := 163) (v := (1 : Int32)) hC dX7_seated_162 rfl rfl ?_
  refine zj_icmp_le (tgt := 171) (pc' := 166) hC dX7_seated_163 (by decide) rfl (fun c12 => ?_) (fun c12 => ?_)
  · refine zj_iload (pc' := 173) hC dX7_seated_171 rfl (lv_at hl 6 rfl) ?_
    refine zj_iconst (pc' := 174) (v := (1 : Int32)) hC dX7_seated_173 rfl rfl ?_
    refine zj_iadd (pc' := 175) hC dX7_seated_174 rfl ?_
    exact jX7_seated_175 hC k136 h136 k159 h159 v0 v1 v2 v3 v5 v6 v7 v8 v8 ((v7 + (1 : Int32))) σ ls hk_v0 (lv_sub hl [0, 1, 2, 3, 4, 5, 6, 7] rfl)
  · refine zj_bipush (pc' := 168) (v := (24 : Int32)) hC dX7_seated_166 rfl rfl ?_
    refine zj_goto (tgt := 175) hC dX7_seated_168 (by decide) ?_
    exact jX7_seated_175 hC k136 h136 k159 h159 v0 v1 v2 v3 v5 v6 v7 v8 v8 (24 : Int32) σ ls hk_v0 (lv_sub hl [0, 1, 2, 3, 4, 5, 6, 7] rfl)
set_option maxRecDepth 100000 in
set_option maxHeartbeats 4000000 in
theorem lX7_seated_159 {p : Program} {l : Launch} {e : Env} {s : State} {m : MethodId} {args : Array Value} {below : List Frame} {meth : Method} {c : Code} {b0 : Nat} {cA : Nat → ClassId} {D : va_G} {L : List (Nat × Nat)} (hC : zC p c s m args meth cX7_seated 11 (some Jvm.ClassFile.FieldType.int) (Cond.code yX7_seated cX7_seated 11 (some Jvm.ClassFile.FieldType.int)) yX7_seated.cls cA D) (k136 : Nat → Int32 → Int32 → Int32 → Int32 → Int32 → Int32 → zS → Option (Int32 × zS)) (h136 : ∀ (v0 : Nat) (v1 : Int32) (v2 : Int32) (v3 : Int32) (v5 : Int32) (v6 : Int32) (v7 : Int32) (σ : zS) (ls : Array Slot), L[v0]? = some (0, 7) → lv_has ls 11 [(0, .ref (b0 + v0)), (1, .int v1), (2, .int v2), (3, .int v3), (5, .int v5), (6, .int v6), (7, .int v7)] → zJ p l e rmX7_seated s m args below meth c b0 cA D L (fun z => MQ below (va_Qi (fun (r : Int32) (u : zS) => (r, u) = z) (zB b0 cA D L) (zA b0 L)) args s 0 0 (zA b0 L)) (k136 v0 v1 v2 v3 v5 v6 v7 σ) σ 136 ls []) (n : Nat) : ∀ (v0 : Nat) (v1 : Int32) (v2 : Int32) (v3 : Int32) (v5 : Int32) (v6 : Int32) (v7 : Int32) (v8 : Int32) (σ : zS) (ls : Array Slot), L[v0]? = some (0, 7) → lv_has ls 11 [(0, .ref (b0 + v0)), (1, .int v1), (2, .int v2), (3, .int v3), (5, .int v5), (6, .int v6), (7, .int v7), (8, .int v8)] → zJ p l e rmX7_seated s m args below meth c b0 cA D L (fun z => MQ below (va_Qi (fun (r : Int32) (u : zS) => (r, u) = z) (zB b0 cA D L) (zA b0 L)) args s 0 0 (zA b0 L)) (fX7_seated_159 k136 n v0 v1 v2 v3 v5 v6 v7 v8 σ) σ 159 ls [] := by
  induction n with
  | zero => intros; exact zj_none
  | succ n ih => exact jX7_seated_159 hC k136 h136 (fX7_seated_159 k136 n) ih
set_option maxRecDepth 100000 in
set_option maxHeartbeats 4000000 in
theorem jX7_seated_157 {p : Program} {l : Launch} {e : Env} {s : State} {m : MethodId} {args : Array Value} {below : List Frame} {meth : Method} {c : Code} {b0 : Nat} {cA : Nat → ClassId} {D : va_G} {L : List (Nat × Nat)} (hC : zC p c s m args meth cX7_seated 11 (some Jvm.ClassFile.FieldType.int) (Cond.code yX7_seated cX7_seated 11 (some Jvm.ClassFile.FieldType.int)) yX7_seated.cls cA D) (k136 : Nat → Int32 → Int32 → Int32 → Int32 → Int32 → Int32 → zS → Option (Int32 × zS)) (h136 : ∀ (v0 : Nat) (v1 : Int32) (v2 : Int32) (v3 : Int32) (v5 : Int32) (v6 : Int32) (v7 : Int32) (σ : zS) (ls : Array Slot), L[v0]? = some (0, 7) → lv_has ls 11 [(0, .ref (b0 + v0)), (1, .int v1), (2, .int v2), (3, .int v3), (5, .int v5), (6, .int v6), (7, .int v7)] → zJ p l e rmX7_seated s m args below meth c b0 cA D L (fun z => MQ below (va_Qi (fun (r : Int32) (u : zS) => (r, u) = z) (zB b0 cA D L) (zA b0 L)) args s 0 0 (zA b0 L)) (k136 v0 v1 v2 v3 v5 v6 v7 σ) σ 136 ls []) (v0 : Nat) (v1 : Int32) (v2 : Int32) (v3 : Int32) (v5 : Int32) (v6 : Int32) (v7 : Int32) (s0 : Int32) (σ : zS) (ls : Array Slot) (hk_v0 : L[v0]? = some (0, 7)) (hl : lv_has ls 11 [(0, .ref (b0 + v0)), (1, .int v1), (2, .int v2), (3, .int v3), (5, .int v5), (6, .int v6), (7, .int v7)]) : zJ p l e rmX7_seated s m args below meth c b0 cA D L (fun z => MQ below (va_Qi (fun (r : Int32) (u : zS) => (r, u) = z) (zB b0 cA D L) (zA b0 L)) args s 0 0 (zA b0 L)) (bX7_seated_157 k136 v0 v1 v2 v3 v5 v6 v7 s0 σ) σ 157 ls [.int s0] := by
  unfold bX7_seated_157
  refine zj_istore (pc' := 159) (lv' := [(8, .int s0), (0, .ref (b0 + v0)), (1, .int v1), (2, .int v2), (3, .int v3), (5, .int v5), (6, .int v6), (7, .int v7)]) hC dX7_seated_157 rfl hl (by decide) rfl (fun ls hl => ?_)
  exact lX7_seated_159 hC k136 h136 zFU v0 v1 v2 v3 v5 v6 v7 s0 σ ls hk_v0 (lv_sub hl [1, 2, 3, 4, 5, 6, 7, 0] rfl)
set_option maxRecDepth 100000 in
set_option maxHeartbeats 4000000 in
theorem jX7_seated_136 {p : Program} {l : Launch} {e : Env} {s : State} {m : MethodId} {args : Array Value} {below : List Frame} {meth : Method} {c : Code} {b0 : Nat} {cA : Nat → ClassId} {D : va_G} {L : List (Nat × Nat)} (hC : zC p c s m args meth cX7_seated 11 (some Jvm.ClassFile.FieldType.int) (Cond.code yX7_seated cX7_seated 11 (some Jvm.ClassFile.FieldType.int)) yX7_seated.cls cA D) (k136 : Nat → Int32 → Int32 → Int32 → Int32 → Int32 → Int32 → zS → Option (Int32 × zS)) (h136 : ∀ (v0 : Nat) (v1 : Int32) (v2 : Int32) (v3 : Int32) (v5 : Int32) (v6 : Int32) (v7 : Int32) (σ : zS) (ls : Array Slot), L[v0]? = some (0, 7) → lv_has ls 11 [(0, .ref (b0 + v0)), (1, .int v1), (2, .int v2), (3, .int v3), (5, .int v5), (6, .int v6), (7, .int v7)] → zJ p l e rmX7_seated s m args below meth c b0 cA D L (fun z => MQ below (va_Qi (fun (r : Int32) (u : zS) => (r, u) = z) (zB b0 cA D L) (zA b0 L)) args s 0 0 (zA b0 L)) (k136 v0 v1 v2 v3 v5 v6 v7 σ) σ 136 ls []) (v0 : Nat) (v1 : Int32) (v2 : Int32) (v3 : Int32) (v5 : Int32) (v6 : Int32) (v7 : Int32) (σ : zS) (ls : Array Slot) (hk_v0 : L[v0]? = some (0, 7)) (hl : lv_has ls 11 [(0, .ref (b0 + v0)), (1, .int v1), (2, .int v2), (3, .int v3), (5, .int v5), (6, .int v6), (7, .int v7)]) : zJ p l e rmX7_seated s m args below meth c b0 cA D L (fun z => MQ below (va_Qi (fun (r : Int32) (u : zS) => (r, u) = z) (zB b0 cA D L) (zA b0 L)) args s 0 0 (zA b0 L)) (bX7_seated_136 k136 v0 v1 v2 v3 v5 v6 v7 σ) σ 136 ls [] := by
  unfold bX7_seated_136
  refine zj_iload (pc' := 138) hC dX7_seated_136 rfl (lv_at hl 6 rfl) ?_
  refine zj_bipush (pc' := 140) (v := (24 : Int32)) hC dX7_seated_138 rfl rfl ?_
  refine zj_icmp_ge (tgt := 274) (pc' := 143) hC dX7_seated_140 (by decide) rfl (fun c13 => ?_) (fun c13 => ?_)
  · exact jX7_seated_274 hC v0 v3 σ ls hk_v0 (lv_sub hl [0, 3] rfl)
  · refine zj_iload_n (pc' := 144) hC dX7_seated_143 rfl rfl (lv_at hl 2 rfl) ?_
    refine zj_iconst (pc' := 145) (v := (1 : Int32)) hC dX7_seated_144 rfl rfl ?_
    refine zj_icmp_le (tgt := 155) (pc' := 148) hC dX7_seated_145 (by decide) rfl (fun c14 => ?_) (fun c14 => ?_)
    · refine zj_iload (pc' := 157) hC dX7_seated_155 rfl (lv_at hl 6 rfl) ?_
      exact jX7_seated_157 hC k136 h136 v0 v1 v2 v3 v5 v6 v7 v7 σ ls hk_v0 (lv_sub hl [0, 1, 2, 3, 4, 5, 6] rfl)
    · refine zj_iload (pc' := 150) hC dX7_seated_148 rfl (lv_at hl 6 rfl) ?_
      refine zj_iconst (pc' := 151) (v := (1 : Int32)) hC dX7_seated_150 rfl rfl ?_
      refine zj_iadd (pc' := 152) hC dX7_seated_151 rfl ?_
      refine zj_goto (tgt := 157) hC dX7_seated_152 (by decide) ?_
      exact jX7_seated_157 hC k136 h136 v0 v1 v2 v3 v5 v6 v7 ((v7 + (1 : Int32))) σ ls hk_v0 (lv_sub hl [0, 1, 2, 3, 4, 5, 6] rfl)
set_option maxRecDepth 100000 in
set_option maxHeartbeats 4000000 in
theorem lX7_seated_136 {p : Program} {l : Launch} {e : Env} {s : State} {m : MethodId} {args : Array Value} {below : List Frame} {meth : Method} {c : Code} {b0 : Nat} {cA : Nat → ClassId} {D : va_G} {L : List (Nat × Nat)} (hC : zC p c s m args meth cX7_seated 11 (some Jvm.ClassFile.FieldType.int) (Cond.code yX7_seated cX7_seated 11 (some Jvm.ClassFile.FieldType.int)) yX7_seated.cls cA D)  (n : Nat) : ∀ (v0 : Nat) (v1 : Int32) (v2 : Int32) (v3 : Int32) (v5 : Int32) (v6 : Int32) (v7 : Int32) (σ : zS) (ls : Array Slot), L[v0]? = some (0, 7) → lv_has ls 11 [(0, .ref (b0 + v0)), (1, .int v1), (2, .int v2), (3, .int v3), (5, .int v5), (6, .int v6), (7, .int v7)] → zJ p l e rmX7_seated s m args below meth c b0 cA D L (fun z => MQ below (va_Qi (fun (r : Int32) (u : zS) => (r, u) = z) (zB b0 cA D L) (zA b0 L)) args s 0 0 (zA b0 L)) (fX7_seated_136  n v0 v1 v2 v3 v5 v6 v7 σ) σ 136 ls [] := by
  induction n with
  | zero => intros; exact zj_none
  | succ n ih => exact jX7_seated_136 hC (fX7_seated_136  n) ih
set_option maxRecDepth 100000 in
set_option maxHeartbeats 4000000 in
theorem jX7_seated_128 {p : Program} {l : Launch} {e : Env} {s : State} {m : MethodId} {args : Array Value} {below : List Frame} {meth : Method} {c : Code} {b0 : Nat} {cA : Nat → ClassId} {D : va_G} {L : List (Nat × Nat)} (hC : zC p c s m args meth cX7_seated 11 (some Jvm.ClassFile.FieldType.int) (Cond.code yX7_seated cX7_seated 11 (some Jvm.ClassFile.FieldType.int)) yX7_seated.cls cA D)  (v0 : Nat) (v1 : Int32) (v2 : Int32) (v3 : Int32) (v5 : Int32) (v6 : Int32) (σ : zS) (ls : Array Slot) (hk_v0 : L[v0]? = some (0, 7)) (hl : lv_has ls 11 [(0, .ref (b0 + v0)), (1, .int v1), (2, .int v2), (3, .int v3), (5, .int v5), (6, .int v6)]) : zJ p l e rmX7_seated s m args below meth c b0 cA D L (fun z => MQ below (va_Qi (fun (r : Int32) (u : zS) => (r, u) = z) (zB b0 cA D L) (zA b0 L)) args s 0 0 (zA b0 L)) (bX7_seated_128  v0 v1 v2 v3 v5 v6 σ) σ 128 ls [] := by
  unfold bX7_seated_128
  refine zj_aload_n (pc' := 129) hC dX7_seated_128 rfl rfl (lv_at hl 0 rfl) ?_
  refine zj_iconst (pc' := 130) (v := (0 : Int32)) hC dX7_seated_129 rfl rfl ?_
  refine zj_putI (pc' := 133) hC hk_v0 fd_7_36 rfl tw_4_84 rfl rfl rfl dX7_seated_130 rfl (fun σ15 => ?_)
  refine zj_iconst (pc' := 134) (v := (0 : Int32)) hC dX7_seated_133 rfl rfl ?_
  refine zj_istore (pc' := 136) (lv' := [(7, .int (0 : Int32)), (0, .ref (b0 + v0)), (1, .int v1), (2, .int v2), (3, .int v3), (5, .int v5), (6, .int v6)]) hC dX7_seated_134 rfl hl (by decide) rfl (fun ls hl => ?_)
  exact lX7_seated_136 hC zFU v0 v1 v2 v3 v5 v6 (0 : Int32) σ15 ls hk_v0 (lv_sub hl [1, 2, 3, 4, 5, 6, 0] rfl)
set_option maxRecDepth 100000 in
set_option maxHeartbeats 4000000 in
theorem jX7_seated_119 {p : Program} {l : Launch} {e : Env} {s : State} {m : MethodId} {args : Array Value} {below : List Frame} {meth : Method} {c : Code} {b0 : Nat} {cA : Nat → ClassId} {D : va_G} {L : List (Nat × Nat)} (hC : zC p c s m args meth cX7_seated 11 (some Jvm.ClassFile.FieldType.int) (Cond.code yX7_seated cX7_seated 11 (some Jvm.ClassFile.FieldType.int)) yX7_seated.cls cA D) (k67 : Nat → Int32 → Int32 → Int32 → Int32 → Int32 → Int32 → zS → Option (Int32 × zS)) (h67 : ∀ (v0 : Nat) (v1 : Int32) (v2 : Int32) (v3 : Int32) (v5 : Int32) (v6 : Int32) (v7 : Int32) (σ : zS) (ls : Array Slot), L[v0]? = some (0, 7) → lv_has ls 11 [(0, .ref (b0 + v0)), (1, .int v1), (2, .int v2), (3, .int v3), (5, .int v5), (6, .int v6), (7, .int v7)] → zJ p l e rmX7_seated s m args below meth c b0 cA D L (fun z => MQ below (va_Qi (fun (r : Int32) (u : zS) => (r, u) = z) (zB b0 cA D L) (zA b0 L)) args s 0 0 (zA b0 L)) (k67 v0 v1 v2 v3 v5 v6 v7 σ) σ 67 ls []) (v0 : Nat) (v1 : Int32) (v2 : Int32) (v3 : Int32) (v5 : Int32) (v7 : Int32) (s0 : Int32) (s1 : Int32) (σ : zS) (ls : Array Slot) (hk_v0 : L[v0]? = some (0, 7)) (hl : lv_has ls 11 [(0, .ref (b0 + v0)), (1, .int v1), (2, .int v2), (3, .int v3), (5, .int v5), (7, .int v7)]) : zJ p l e rmX7_seated s m args below meth c b0 cA D L (fun z => MQ below (va_Qi (fun (r : Int32) (u : zS) => (r, u) = z) (zB b0 cA D L) (zA b0 L)) args s 0 0 (zA b0 L)) (bX7_seated_119 k67 v0 v1 v2 v3 v5 v7 s0 s1 σ) σ 119 ls [.int s1, .int s0] := by
  unfold bX7_seated_119
  refine zj_iadd (pc' := 120) hC dX7_seated_119 rfl ?_
  refine zj_nmi (fun x16 => ?_)
  refine zj_istore (pc' := 122) (lv' := [(6, .int x16), (0, .ref (b0 + v0)), (1, .int v1), (2, .int v2), (3, .int v3), (5, .int v5), (7, .int v7)]) hC dX7_seated_120 rfl hl (by decide) rfl (fun ls hl => ?_)
  refine zj_iinc (pc' := 125) (k0 := 6) (v := (v7 + (1 : Int32))) (lv' := [(7, .int (v7 + (1 : Int32))), (6, .int x16), (0, .ref (b0 + v0)), (1, .int v1), (2, .int v2), (3, .int v3), (5, .int v5)]) hC dX7_seated_122 rfl hl rfl rfl (by decide) rfl (fun ls hl => ?_)
  refine zj_goto (tgt := 67) hC dX7_seated_125 (by decide) ?_
  exact h67 v0 v1 v2 v3 v5 x16 ((v7 + (1 : Int32))) σ ls hk_v0 (lv_sub hl [2, 3, 4, 5, 6, 1, 0] rfl)
set_option maxRecDepth 100000 in
set_option maxHeartbeats 4000000 in
theorem jX7_seated_67 {p : Program} {l : Launch} {e : Env} {s : State} {m : MethodId} {args : Array Value} {below : List Frame} {meth : Method} {c : Code} {b0 : Nat} {cA : Nat → ClassId} {D : va_G} {L : List (Nat × Nat)} (hC : zC p c s m args meth cX7_seated 11 (some Jvm.ClassFile.FieldType.int) (Cond.code yX7_seated cX7_seated 11 (some Jvm.ClassFile.FieldType.int)) yX7_seated.cls cA D) (k67 : Nat → Int32 → Int32 → Int32 → Int32 → Int32 → Int32 → zS → Option (Int32 × zS)) (h67 : ∀ (v0 : Nat) (v1 : Int32) (v2 : Int32) (v3 : Int32) (v5 : Int32) (v6 : Int32) (v7 : Int32) (σ : zS) (ls : Array Slot), L[v0]? = some (0, 7) → lv_has ls 11 [(0, .ref (b0 + v0)), (1, .int v1), (2, .int v2), (3, .int v3), (5, .int v5), (6, .int v6), (7, .int v7)] → zJ p l e rmX7_seated s m args below meth c b0 cA D L (fun z => MQ below (va_Qi (fun (r : Int32) (u : zS) => (r, u) = z) (zB b0 cA D L) (zA b0 L)) args s 0 0 (zA b0 L)) (k67 v0 v1 v2 v3 v5 v6 v7 σ) σ 67 ls []) (v0 : Nat) (v1 : Int32) (v2 : Int32) (v3 : Int32) (v5 : Int32) (v6 : Int32) (v7 : Int32) (σ : zS) (ls : Array Slot) (hk_v0 : L[v0]? = some (0, 7)) (hl : lv_has ls 11 [(0, .ref (b0 + v0)), (1, .int v1), (2, .int v2), (3, .int v3), (5, .int v5), (6, .int v6), (7, .int v7)]) : zJ p l e rmX7_seated s m args below meth c b0 cA D L (fun z => MQ below (va_Qi (fun (r : Int32) (u : zS) => (r, u) = z) (zB b0 cA D L) (zA b0 L)) args s 0 0 (zA b0 L)) (bX7_seated_67 k67 v0 v1 v2 v3 v5 v6 v7 σ) σ 67 ls [] := by
  unfold bX7_seated_67
  refine zj_iload (pc' := 69) hC dX7_seated_67 rfl (lv_at hl 6 rfl) ?_
  refine zj_aload_n (pc' := 70) hC dX7_seated_69 rfl rfl (lv_at hl 0 rfl) ?_
  refine zj_getI (pc' := 73) hC hk_v0 fd_7_1 rfl tw_4_49 dX7_seated_70 rfl ?_
  refine zj_icmp_ge (tgt := 128) (pc' := 76) hC dX7_seated_73 (by decide) rfl (fun c17 => ?_) (fun c17 => ?_)
  · exact jX7_seated_128 hC v0 v1 v2 v3 v5 v6 σ ls hk_v0 (lv_sub hl [0, 1, 2, 3, 4, 5] rfl)
  · refine zj_iload (pc' := 78) hC dX7_seated_76 rfl (lv_at hl 5 rfl) ?_
    refine zj_aload_n (pc' := 79) hC dX7_seated_78 rfl rfl (lv_at hl 0 rfl) ?_
    refine zj_getR (pc' := 82) hC hk_v0 fd_7_9 rfl tw_4_57 dX7_seated_79 rfl (fun q18 hk_q18 => ?_)
    refine zj_bipush (pc' := 84) (v := (40 : Int32)) hC dX7_seated_82 rfl rfl ?_
    refine zj_iload_n (pc' := 85) hC dX7_seated_84 rfl rfl (lv_at hl 1 rfl) ?_
    refine zj_imul (pc' := 86) hC dX7_seated_85 rfl ?_
    refine zj_iload (pc' := 88) hC dX7_seated_86 rfl (lv_at hl 6 rfl) ?_
    refine zj_iadd (pc' := 89) hC dX7_seated_88 rfl ?_
    refine zj_iald (pc' := 90) hC hk_q18 dX7_seated_89 rfl (fun g19 => ?_)
    refine zj_iconst (pc' := 91) (v := (2 : Int32)) hC dX7_seated_90 rfl rfl ?_
    refine zj_icmp_ne (tgt := 98) (pc' := 94) hC dX7_seated_91 (by decide) rfl (fun c20 => ?_) (fun c20 => ?_)
    · refine zj_aload_n (pc' := 99) hC dX7_seated_98 rfl rfl (lv_at hl 0 rfl) ?_
      refine zj_getR (pc' := 102) hC hk_v0 fd_7_9 rfl tw_4_57 dX7_seated_99 rfl (fun q21 hk_q21 => ?_)
      refine zj_bipush (pc' := 104) (v := (40 : Int32)) hC dX7_seated_102 rfl rfl ?_
      refine zj_iload_n (pc' := 105) hC dX7_seated_104 rfl rfl (lv_at hl 1 rfl) ?_
      refine zj_imul (pc' := 106) hC dX7_seated_105 rfl ?_
      refine zj_iload (pc' := 108) hC dX7_seated_106 rfl (lv_at hl 6 rfl) ?_
      refine zj_iadd (pc' := 109) hC dX7_seated_108 rfl ?_
      refine zj_iald (pc' := 110) hC hk_q21 dX7_seated_109 rfl (fun g22 => ?_)
      refine zj_iconst (pc' := 111) (v := (1 : Int32)) hC dX7_seated_110 rfl rfl ?_
      refine zj_icmp_ne (tgt := 118) (pc' := 114) hC dX7_seated_111 (by decide) rfl (fun c23 => ?_) (fun c23 => ?_)
      · refine zj_iconst (pc' := 119) (v := (0 : Int32)) hC dX7_seated_118 rfl rfl ?_
        exact jX7_seated_119 hC k67 h67 v0 v1 v2 v3 v5 v7 v6 (0 : Int32) σ ls hk_v0 (lv_sub hl [0, 1, 2, 3, 4, 6] rfl)
      · refine zj_iconst (pc' := 115) (v := (-1 : Int32)) hC dX7_seated_114 rfl rfl ?_
        refine zj_goto (tgt := 119) hC dX7_seated_115 (by decide) ?_
        exact jX7_seated_119 hC k67 h67 v0 v1 v2 v3 v5 v7 v6 (-1 : Int32) σ ls hk_v0 (lv_sub hl [0, 1, 2, 3, 4, 6] rfl)
    · refine zj_iconst (pc' := 95) (v := (1 : Int32)) hC dX7_seated_94 rfl rfl ?_
      refine zj_goto (tgt := 119) hC dX7_seated_95 (by decide) ?_
      exact jX7_seated_119 hC k67 h67 v0 v1 v2 v3 v5 v7 v6 (1 : Int32) σ ls hk_v0 (lv_sub hl [0, 1, 2, 3, 4, 6] rfl)
set_option maxRecDepth 100000 in
set_option maxHeartbeats 4000000 in
theorem lX7_seated_67 {p : Program} {l : Launch} {e : Env} {s : State} {m : MethodId} {args : Array Value} {below : List Frame} {meth : Method} {c : Code} {b0 : Nat} {cA : Nat → ClassId} {D : va_G} {L : List (Nat × Nat)} (hC : zC p c s m args meth cX7_seated 11 (some Jvm.ClassFile.FieldType.int) (Cond.code yX7_seated cX7_seated 11 (some Jvm.ClassFile.FieldType.int)) yX7_seated.cls cA D)  (n : Nat) : ∀ (v0 : Nat) (v1 : Int32) (v2 : Int32) (v3 : Int32) (v5 : Int32) (v6 : Int32) (v7 : Int32) (σ : zS) (ls : Array Slot), L[v0]? = some (0, 7) → lv_has ls 11 [(0, .ref (b0 + v0)), (1, .int v1), (2, .int v2), (3, .int v3), (5, .int v5), (6, .int v6), (7, .int v7)] → zJ p l e rmX7_seated s m args below meth c b0 cA D L (fun z => MQ below (va_Qi (fun (r : Int32) (u : zS) => (r, u) = z) (zB b0 cA D L) (zA b0 L)) args s 0 0 (zA b0 L)) (fX7_seated_67  n v0 v1 v2 v3 v5 v6 v7 σ) σ 67 ls [] := by
  induction n with
  | zero => intros; exact zj_none
  | succ n ih => exact jX7_seated_67 hC (fX7_seated_67  n) ih
set_option maxRecDepth 100000 in
set_option maxHeartbeats 4000000 in
theorem jX7_seated_12 {p : Program} {l : Launch} {e : Env} {s : State} {m : MethodId} {args : Array Value} {below : List Frame} {meth : Method} {c : Code} {b0 : Nat} {cA : Nat → ClassId} {D : va_G} {L : List (Nat × Nat)} (hC : zC p c s m args meth cX7_seated 11 (some Jvm.ClassFile.FieldType.int) (Cond.code yX7_seated cX7_seated 11 (some Jvm.ClassFile.FieldType.int)) yX7_seated.cls cA D)  (v0 : Nat) (v1 : Int32) (v2 : Int32) (v3 : Int32) (s0 : Int32) (σ : zS) (ls : Array Slot) (hk_v0 : L[v0]? = some (0, 7)) (hl : lv_has ls 11 [(0, .ref (b0 + v0)), (1, .int v1), (2, .int v2), (3, .int v3)]) : zJ p l e rmX7_seated s m args below meth c b0 cA D L (fun z => MQ below (va_Qi (fun (r : Int32) (u : zS) => (r, u) = z) (zB b0 cA D L) (zA b0 L)) args s 0 0 (zA b0 L)) (bX7_seated_12  v0 v1 v2 v3 s0 σ) σ 12 ls [.int s0] := by
  unfold bX7_seated_12
  refine zj_istore (pc' := 14) (lv' := [(4, .int s0), (0, .ref (b0 + v0)), (1, .int v1), (2, .int v2), (3, .int v3)]) hC dX7_seated_12 rfl hl (by decide) rfl (fun ls hl => ?_)
  refine zj_iload_n (pc' := 15) hC dX7_seated_14 rfl rfl (lv_at hl 2 rfl) ?_
  refine zj_callzS (pc' := 18) (rest := []) hC (kX7_isStick l b0 cA D L v1 σ ) tw_5_11 tw_5_9 tw_5_10 tw_1_8 ddX7_isStick rfl ⟨rfl, rfl⟩ ⟨by decide, by decide⟩ hl.1 (Nat.le_of_ble_eq_true rfl) rfl dX7_seated_15 rfl (fun r25 σ24 hb_r25 => ?_)
  refine zj_if_eq (tgt := 39) (pc' := 21) hC dX7_seated_18 (by decide) rfl (fun c26 => ?_) (fun c26 => ?_)
  · refine zj_iload (pc' := 41) hC dX7_seated_39 rfl (lv_at hl 0 rfl) ?_
    exact zj_iret hC dX7_seated_41
  · refine zj_iload_n (pc' := 22) hC dX7_seated_21 rfl rfl (lv_at hl 3 rfl) ?_
    refine zj_iconst (pc' := 23) (v := (1 : Int32)) hC dX7_seated_22 rfl rfl ?_
    refine zj_iconst (pc' := 24) (v := (3 : Int32)) hC dX7_seated_23 rfl rfl ?_
    refine zj_callzS (pc' := 27) (rest := []) hC (kX7_in l b0 cA D L v2 (1 : Int32) (3 : Int32) σ24 ) tw_4_214 tw_4_212 tw_4_213 tw_1_8 ddX7_in rfl ⟨rfl, rfl⟩ ⟨by decide, by decide⟩ hl.1 (Nat.le_of_ble_eq_true rfl) rfl dX7_seated_24 rfl (fun r28 σ27 hb_r28 => ?_)
    refine zj_if_eq (tgt := 39) (pc' := 30) hC dX7_seated_27 (by decide) rfl (fun c29 => ?_) (fun c29 => ?_)
    · refine zj_iload (pc' := 41) hC dX7_seated_39 rfl (lv_at hl 0 rfl) ?_
      exact zj_iret hC dX7_seated_41
    · refine zj_iload_n (pc' := 31) hC dX7_seated_30 rfl rfl (lv_at hl 4 rfl) ?_
      refine zj_iconst (pc' := 32) (v := (0 : Int32)) hC dX7_seated_31 rfl rfl ?_
      refine zj_iconst (pc' := 33) (v := (1 : Int32)) hC dX7_seated_32 rfl rfl ?_
      refine zj_callzS (pc' := 36) (rest := []) hC (kX7_in l b0 cA D L v3 (0 : Int32) (1 : Int32) σ27 ) tw_4_214 tw_4_212 tw_4_213 tw_1_8 ddX7_in rfl ⟨rfl, rfl⟩ ⟨by decide, by decide⟩ hl.1 (Nat.le_of_ble_eq_true rfl) rfl dX7_seated_33 rfl (fun r31 σ30 hb_r31 => ?_)
      refine zj_if_ne (tgt := 42) (pc' := 39) hC dX7_seated_36 (by decide) rfl (fun c32 => ?_) (fun c32 => ?_)
      · refine zj_aload_n (pc' := 43) hC dX7_seated_42 rfl rfl (lv_at hl 1 rfl) ?_
        refine zj_iload_n (pc' := 44) hC dX7_seated_43 rfl rfl (lv_at hl 2 rfl) ?_
        refine zj_calliV (pc' := 47) (rest := []) hC (kX7_mayBePaid l b0 cA D L v0 v1 σ30 hk_v0) hk_v0 rfl tw_5_182 tw_5_179 tw_5_181 ts_5_2 tw_1_8 ddX7_mayBePaid rfl ⟨rfl, rfl⟩ ⟨by decide, by decide⟩ hl.1 (Nat.le_of_ble_eq_true rfl) rfl dX7_seated_44 rfl (fun r34 σ33 => ?_)
        refine zj_istore (pc' := 49) (lv' := [(5, .int r34), (4, .int s0), (0, .ref (b0 + v0)), (1, .int v1), (2, .int v2), (3, .int v3)]) hC dX7_seated_47 rfl hl (by decide) rfl (fun ls hl => ?_)
        refine zj_iload (pc' := 51) hC dX7_seated_49 rfl (lv_at hl 0 rfl) ?_
        refine zj_calliS (pc' := 54) (rest := []) hC (kX7_bits l b0 cA D L r34 σ33 ) tw_5_185 tw_5_183 tw_5_184 tw_1_8 ddX7_bits rfl ⟨rfl, rfl⟩ ⟨by decide, by decide⟩ hl.1 (Nat.le_of_ble_eq_true rfl) rfl dX7_seated_51 rfl (fun r36 σ35 => ?_)
        refine zj_iload_n (pc' := 55) hC dX7_seated_54 rfl rfl (lv_at hl 4 rfl) ?_
        refine zj_icmp_ge (tgt := 61) (pc' := 58) hC dX7_seated_55 (by decide) rfl (fun c37 => ?_) (fun c37 => ?_)
        · refine zj_iconst (pc' := 62) (v := (0 : Int32)) hC dX7_seated_61 rfl rfl ?_
          refine zj_istore (pc' := 64) (lv' := [(6, .int (0 : Int32)), (5, .int r34), (4, .int s0), (0, .ref (b0 + v0)), (1, .int v1), (2, .int v2), (3, .int v3)]) hC dX7_seated_62 rfl hl (by decide) rfl (fun ls hl => ?_)
          refine zj_iconst (pc' := 65) (v := (0 : Int32)) hC dX7_seated_64 rfl rfl ?_
          refine zj_istore (pc' := 67) (lv' := [(7, .int (0 : Int32)), (6, .int (0 : Int32)), (5, .int r34), (4, .int s0), (0, .ref (b0 + v0)), (1, .int v1), (2, .int v2), (3, .int v3)]) hC dX7_seated_65 rfl hl (by decide) rfl (fun ls hl => ?_)
          exact lX7_seated_67 hC zFU v0 v1 v2 v3 r34 (0 : Int32) (0 : Int32) σ35 ls hk_v0 (lv_sub hl [4, 5, 6, 7, 2, 1, 0] rfl)
        · refine zj_iload (pc' := 60) hC dX7_seated_58 rfl (lv_at hl 1 rfl) ?_
          exact zj_iret hC dX7_seated_60
      · refine zj_iload (pc' := 41) hC dX7_seated_39 rfl (lv_at hl 0 rfl) ?_
        exact zj_iret hC dX7_seated_41
set_option maxRecDepth 100000 in
set_option maxHeartbeats 4000000 in
theorem kX7_seated (l : Launch) (b0 : Nat) (cA : Nat → ClassId) (D : va_G) (L : List (Nat × Nat)) (v0 : Nat) (v1 : Int32) (v2 : Int32) (v3 : Int32) (σ : zS) (hk0 : L[v0]? = some (0, 7)) : zMi l b0 cA D L yX7_seated (Cond.code yX7_seated cX7_seated 11 (some Jvm.ClassFile.FieldType.int)) rmX7_seated [.ref (b0 + v0), .int v1, .int v2, .int v3] σ (fX7_seated v0 v1 v2 v3 σ) := by
  refine zMi_of (by decide) (Nat.le_of_ble_eq_true rfl) ?_
  intro p e s m below meth c ls hC hl
  have hl : lv_has ls 11 [(0, .ref (b0 + v0)), (1, .int v1), (2, .int v2), (3, .int v3)] := hl
  generalize ([.ref (b0 + v0), .int v1, .int v2, .int v3] : List Value).toArray = args at hC ⊢
  unfold fX7_seated
  refine zj_iload_n (pc' := 1) hC dX7_seated_0 rfl rfl (lv_at hl 3 rfl) ?_
  refine zj_iconst (pc' := 2) (v := (1 : Int32)) hC dX7_seated_1 rfl rfl ?_
  refine zj_icmp_ne (tgt := 11) (pc' := 5) hC dX7_seated_2 (by decide) rfl (fun c38 => ?_) (fun c38 => ?_)
  · refine zj_iconst (pc' := 12) (v := (-1 : Int32)) hC dX7_seated_11 rfl rfl ?_
    exact jX7_seated_12 hC v0 v1 v2 v3 (-1 : Int32) σ ls hk0 (lv_sub hl [0, 1, 2, 3] rfl)
  · refine zj_ldcw (pc' := 8) (v := (-1000000 : Int32)) hC tw_5_170 dX7_seated_5 rfl ?_
    refine zj_goto (tgt := 12) hC dX7_seated_8 (by decide) ?_
    exact jX7_seated_12 hC v0 v1 v2 v3 (-1000000 : Int32) σ ls hk0 (lv_sub hl [0, 1, 2, 3] rfl)
-- X7_isBegun
theorem ddX7_isBegun : yX7_isBegun.cls ≠ "java/lang/invoke/MethodHandle" ∧ yX7_isBegun.cls ≠ "java/lang/invoke/VarHandle" ∧ (parseMethodDescriptor yX7_isBegun.desc).map (fun d => d.parameters.length) = some 1 := by decide +kernel
abbrev rmX7_isBegun : Room := { frames := 4, cells := 0, slots := 0, locals := 95 }
def bX7_isBegun_48 (k12 : Nat → Int32 → zS → Option (Int32 × zS)) (v0 : Nat) (v2 : Int32) (σ : zS) : Option (Int32 × zS) :=
  k12 v0 ((v2 + (1 : Int32))) σ
def bX7_isBegun_12 (k12 : Nat → Int32 → zS → Option (Int32 × zS)) (v0 : Nat) (v2 : Int32) (σ : zS) : Option (Int32 × zS) :=
  if (24 : Int32) ≤ v2 then (some ((1 : Int32), σ)) else (zb (fX7_isTaken v0 v2 σ) (fun (r3 : Int32) (σ2 : zS) => if r3 = 0 then (bX7_isBegun_48 k12 v0 v2 σ2) else (bnd (σ2.2 v0 32) (fun (q5 : Nat) => zX (((24 : Int32) * ((σ2.1 v0 1) - (1 : Int32))) + v2) 960 (bnd ((σ2.1 q5 ((((24 : Int32) * ((σ2.1 v0 1) - (1 : Int32))) + v2)).toNatClampNeg)) (fun (x7 : Int32) => if x7 = (1 : Int32) then (bX7_isBegun_48 k12 v0 v2 σ2) else (some ((0 : Int32), σ2))))))))
def fX7_isBegun_12  : Nat → Nat → Int32 → zS → Option (Int32 × zS)
  | 0, _, _, _ => none
  | n + 1, v0, v2, σ => bX7_isBegun_12 (fX7_isBegun_12  n) v0 v2 σ
def fX7_isBegun (v0 : Nat) (v1 : Int32) (σ : zS) : Option (Int32 × zS) :=
  zb (fX7_nobody v0 σ) (fun (_ : Unit) (σ9 : zS) => zb (fX7_plays v0 v1 σ9) (fun (r12 : Int32) (σ11 : zS) => fX7_isBegun_12 zFU v0 (0 : Int32) σ11))
set_option maxRecDepth 100000 in
set_option maxHeartbeats 4000000 in
theorem jX7_isBegun_48 {p : Program} {l : Launch} {e : Env} {s : State} {m : MethodId} {args : Array Value} {below : List Frame} {meth : Method} {c : Code} {b0 : Nat} {cA : Nat → ClassId} {D : va_G} {L : List (Nat × Nat)} (hC : zC p c s m args meth cX7_isBegun 3 (some Jvm.ClassFile.FieldType.boolean) (Cond.code yX7_isBegun cX7_isBegun 3 (some Jvm.ClassFile.FieldType.boolean)) yX7_isBegun.cls cA D) (k12 : Nat → Int32 → zS → Option (Int32 × zS)) (h12 : ∀ (v0 : Nat) (v2 : Int32) (σ : zS) (ls : Array Slot), L[v0]? = some (0, 7) → lv_has ls 3 [(0, .ref (b0 + v0)), (2, .int v2)] → zJ p l e rmX7_isBegun s m args below meth c b0 cA D L (fun z => MQ below (va_Qi (fun (r : Int32) (u : zS) => (r, u) = z ∧ nB r) (zB b0 cA D L) (zA b0 L)) args s 0 0 (zA b0 L)) (k12 v0 v2 σ) σ 12 ls []) (v0 : Nat) (v2 : Int32) (σ : zS) (ls : Array Slot) (hk_v0 : L[v0]? = some (0, 7)) (hl : lv_has ls 3 [(0, .ref (b0 + v0)), (2, .int v2)]) : zJ p l e rmX7_isBegun s m args below meth c b0 cA D L (fun z => MQ below (va_Qi (fun (r : Int32) (u : zS) => (r, u) = z ∧ nB r) (zB b0 cA D L) (zA b0 L)) args s 0 0 (zA b0 L)) (bX7_isBegun_48 k12 v0 v2 σ) σ 48 ls [] := by
  unfold bX7_isBegun_48
  refine zj_iinc (pc' := 51) (k0 := 1) (v := (v2 + (1 : Int32))) (lv' := [(2, .int (v2 + (1 : Int32))), (0, .ref (b0 + v0))]) hC dX7_isBegun_48 rfl hl rfl rfl (by decide) rfl (fun ls hl => ?_)
  refine zj_goto (tgt := 12) hC dX7_isBegun_51 (by decide) ?_
  exact h12 v0 ((v2 + (1 : Int32))) σ ls hk_v0 (lv_sub hl [1, 0] rfl)
set_option maxRecDepth 100000 in
set_option maxHeartbeats 4000000 in
theorem jX7_isBegun_12 {p : Program} {l : Launch} {e : Env} {s : State} {m : MethodId} {args : Array Value} {below : List Frame} {meth : Method} {c : Code} {b0 : Nat} {cA : Nat → ClassId} {D : va_G} {L : List (Nat × Nat)} (hC : zC p c s m args meth cX7_isBegun 3 (some Jvm.ClassFile.FieldType.boolean) (Cond.code yX7_isBegun cX7_isBegun 3 (some Jvm.ClassFile.FieldType.boolean)) yX7_isBegun.cls cA D) (k12 : Nat → Int32 → zS → Option (Int32 × zS)) (h12 : ∀ (v0 : Nat) (v2 : Int32) (σ : zS) (ls : Array Slot), L[v0]? = some (0, 7) → lv_has ls 3 [(0, .ref (b0 + v0)), (2, .int v2)] → zJ p l e rmX7_isBegun s m args below meth c b0 cA D L (fun z => MQ below (va_Qi (fun (r : Int32) (u : zS) => (r, u) = z ∧ nB r) (zB b0 cA D L) (zA b0 L)) args s 0 0 (zA b0 L)) (k12 v0 v2 σ) σ 12 ls []) (v0 : Nat) (v2 : Int32) (σ : zS) (ls : Array Slot) (hk_v0 : L[v0]? = some (0, 7)) (hl : lv_has ls 3 [(0, .ref (b0 + v0)), (2, .int v2)]) : zJ p l e rmX7_isBegun s m args below meth c b0 cA D L (fun z => MQ below (va_Qi (fun (r : Int32) (u : zS) => (r, u) = z ∧ nB r) (zB b0 cA D L) (zA b0 L)) args s 0 0 (zA b0 L)) (bX7_isBegun_12 k12 v0 v2 σ) σ 12 ls [] := by
  unfold bX7_isBegun_12
  refine zj_iload_n (pc' := 13) hC dX7_isBegun_12 rfl rfl (lv_at hl 1 rfl) ?_
  refine zj_bipush (pc' := 15) (v := (24 : Int32)) hC dX7_isBegun_13 rfl rfl ?_
  refine zj_icmp_ge (tgt := 54) (pc' := 18) hC dX7_isBegun_15 (by decide) rfl (fun c1 => ?_) (fun c1 => ?_)
  · refine zj_iconst (pc' := 55) (v := (1 : Int32)) hC dX7_isBegun_54 rfl rfl ?_
    exact zj_zret hC nB_1 dX7_isBegun_55
  · refine zj_aload_n (pc' := 19) hC dX7_isBegun_18 rfl rfl (lv_at hl 0 rfl) ?_
    refine zj_iload_n (pc' := 20) hC dX7_isBegun_19 rfl rfl (lv_at hl 1 rfl) ?_
    refine zj_callzV (pc' := 23) (rest := []) hC (kX7_isTaken l b0 cA D L v0 v2 σ hk_v0) hk_v0 rfl tw_4_222 tw_4_219 tw_4_221 ts_3_4 tw_1_8 ddX7_isTaken rfl ⟨rfl, rfl⟩ ⟨by decide, by decide⟩ hl.1 (Nat.le_of_ble_eq_true rfl) rfl dX7_isBegun_20 rfl (fun r3 σ2 hb_r3 => ?_)
    refine zj_if_eq (tgt := 48) (pc' := 26) hC dX7_isBegun_23 (by decide) rfl (fun c4 => ?_) (fun c4 => ?_)
    · exact jX7_isBegun_48 hC k12 h12 v0 v2 σ2 ls hk_v0 (lv_sub hl [0, 1] rfl)
    · refine zj_aload_n (pc' := 27) hC dX7_isBegun_26 rfl rfl (lv_at hl 0 rfl) ?_
      refine zj_getR (pc' := 30) hC hk_v0 fd_7_32 rfl tw_4_80 dX7_isBegun_27 rfl (fun q5 hk_q5 => ?_)
      refine zj_bipush (pc' := 32) (v := (24 : Int32)) hC dX7_isBegun_30 rfl rfl ?_
      refine zj_aload_n (pc' := 33) hC dX7_isBegun_32 rfl rfl (lv_at hl 0 rfl) ?_
      refine zj_getI (pc' := 36) hC hk_v0 fd_7_1 rfl tw_4_49 dX7_isBegun_33 rfl ?_
      refine zj_iconst (pc' := 37) (v := (1 : Int32)) hC dX7_isBegun_36 rfl rfl ?_
      refine zj_isub (pc' := 38) hC dX7_isBegun_37 rfl ?_
      refine zj_imul (pc' := 39) hC dX7_isBegun_38 rfl ?_
      refine zj_iload_n (pc' := 40) hC dX7_isBegun_39 rfl rfl (lv_at hl 1 rfl) ?_
      refine zj_iadd (pc' := 41) hC dX7_isBegun_40 rfl ?_
      refine zj_iald (pc' := 42) hC hk_q5 dX7_isBegun_41 rfl (fun g6 => ?_)
      refine zj_nmi (fun x7 => ?_)
      refine zj_iconst (pc' := 43) (v := (1 : Int32)) hC dX7_isBegun_42 rfl rfl ?_
      refine zj_icmp_eq (tgt := 48) (pc' := 46) hC dX7_isBegun_43 (by decide) rfl (fun c8 => ?_) (fun c8 => ?_)
      · exact jX7_isBegun_48 hC k12 h12 v0 v2 σ2 ls hk_v0 (lv_sub hl [0, 1] rfl)
      · refine zj_iconst (pc' := 47) (v := (0 : Int32)) hC dX7_isBegun_46 rfl rfl ?_
        exact zj_zret hC nB_0 dX7_isBegun_47
set_option maxRecDepth 100000 in
set_option maxHeartbeats 4000000 in
theorem lX7_isBegun_12 {p : Program} {l : Launch} {e : Env} {s : State} {m : MethodId} {args : Array Value} {below : List Frame} {meth : Method} {c : Code} {b0 : Nat} {cA : Nat → ClassId} {D : va_G} {L : List (Nat × Nat)} (hC : zC p c s m args meth cX7_isBegun 3 (some Jvm.ClassFile.FieldType.boolean) (Cond.code yX7_isBegun cX7_isBegun 3 (some Jvm.ClassFile.FieldType.boolean)) yX7_isBegun.cls cA D)  (n : Nat) : ∀ (v0 : Nat) (v2 : Int32) (σ : zS) (ls : Array Slot), L[v0]? = some (0, 7) → lv_has ls 3 [(0, .ref (b0 + v0)), (2, .int v2)] → zJ p l e rmX7_isBegun s m args below meth c b0 cA D L (fun z => MQ below (va_Qi (fun (r : Int32) (u : zS) => (r, u) = z ∧ nB r) (zB b0 cA D L) (zA b0 L)) args s 0 0 (zA b0 L)) (fX7_isBegun_12  n v0 v2 σ) σ 12 ls [] := by
  induction n with
  | zero => intros; exact zj_none
  | succ n ih => exact jX7_isBegun_12 hC (fX7_isBegun_12  n) ih
set_option maxRecDepth 100000 in
set_option maxHeartbeats 4000000 in
theorem kX7_isBegun (l : Launch) (b0 : Nat) (cA : Nat → ClassId) (D : va_G) (L : List (Nat × Nat)) (v0 : Nat) (v1 : Int32) (σ : zS) (hk0 : L[v0]? = some (0, 7)) : zMz l b0 cA D L yX7_isBegun (Cond.code yX7_isBegun cX7_isBegun 3 (some Jvm.ClassFile.FieldType.boolean)) rmX7_isBegun [.ref (b0 + v0), .int v1] σ (fX7_isBegun v0 v1 σ) := by
  refine zMz_of (by decide) (Nat.le_of_ble_eq_true rfl) ?_
  intro p e s m below meth c ls hC hl
  have hl : lv_has ls 3 [(0, .ref (b0 + v0)), (1, .int v1)] := hl
  generalize ([.ref (b0 + v0), .int v1] : List Value).toArray = args at hC ⊢
  unfold fX7_isBegun
  refine zj_aload_n (pc' := 1) hC dX7_isBegun_0 rfl rfl (lv_at hl 0 rfl) ?_
  refine zj_callvV (pc' := 4) (rest := []) hC (kX7_nobody l b0 cA D L v0 σ hk0) hk0 rfl tw_5_201 tw_5_198 tw_5_200 ts_5_5 tw_1_8 ddX7_nobody rfl ⟨rfl, rfl⟩ ⟨by decide, by decide⟩ hl.1 (Nat.le_of_ble_eq_true rfl) rfl dX7_isBegun_1 rfl (fun σ9 => ?_)
  refine zj_aload_n (pc' := 5) hC dX7_isBegun_4 rfl rfl (lv_at hl 0 rfl) ?_
  refine zj_iload_n (pc' := 6) hC dX7_isBegun_5 rfl rfl (lv_at hl 1 rfl) ?_
  refine zj_calliV (pc' := 9) (rest := []) hC (kX7_plays l b0 cA D L v0 v1 σ9 hk0) hk0 rfl tw_5_118 tw_5_115 tw_5_117 ts_4_9 tw_1_8 ddX7_plays rfl ⟨rfl, rfl⟩ ⟨by decide, by decide⟩ hl.1 (Nat.le_of_ble_eq_true rfl) rfl dX7_isBegun_6 rfl (fun r12 σ11 => ?_)
  refine zj_pop (pc' := 10) hC dX7_isBegun_9 rfl rfl ?_
  refine zj_iconst (pc' := 11) (v := (0 : Int32)) hC dX7_isBegun_10 rfl rfl ?_
  refine zj_istore_n (pc' := 12) (lv' := [(2, .int (0 : Int32)), (0, .ref (b0 + v0)), (1, .int v1)]) hC dX7_isBegun_11 rfl rfl hl (by decide) rfl (fun ls hl => ?_)
  exact lX7_isBegun_12 hC zFU v0 (0 : Int32) σ11 ls hk0 (lv_sub hl [1, 0] rfl)
-- X7_beginners
theorem ddX7_beginners : yX7_beginners.cls ≠ "java/lang/invoke/MethodHandle" ∧ yX7_beginners.cls ≠ "java/lang/invoke/VarHandle" ∧ (parseMethodDescriptor yX7_beginners.desc).map (fun d => d.parameters.length) = some 1 := by decide +kernel
abbrev rmX7_beginners : Room := { frames := 5, cells := 0, slots := 0, locals := 117 }
def bX7_beginners_153 (k4 : Nat → Int32 → Int32 → Int32 → zS → Option (Int32 × zS)) (v0 : Nat) (v1 : Int32) (v2 : Int32) (v3 : Int32) (σ : zS) : Option (Int32 × zS) :=
  k4 v0 v1 v2 ((v3 + (1 : Int32))) σ
def bX7_beginners_147 (k24 : Nat → Int32 → Int32 → Int32 → Int32 → zS → Option (Int32 × zS)) (v0 : Nat) (v1 : Int32) (v2 : Int32) (v3 : Int32) (v4 : Int32) (σ : zS) : Option (Int32 × zS) :=
  k24 v0 v1 v2 v3 ((v4 + (1 : Int32))) σ
def bX7_beginners_141 (k58 : Nat → Int32 → Int32 → Int32 → Int32 → Int32 → zS → Option (Int32 × zS)) (v0 : Nat) (v1 : Int32) (v2 : Int32) (v3 : Int32) (v4 : Int32) (v5 : Int32) (σ : zS) : Option (Int32 × zS) :=
  k58 v0 v1 v2 v3 v4 ((v5 + (1 : Int32))) σ
def bX7_beginners_129 (k141 : Nat → Int32 → Int32 → Int32 → Int32 → Int32 → zS → Option (Int32 × zS)) (v0 : Nat) (v1 : Int32) (v2 : Int32) (v3 : Int32) (v4 : Int32) (v5 : Int32) (v6 : Int32) (σ : zS) : Option (Int32 × zS) :=
  zb (fX7_isBegun v0 v6 σ) (fun (r2 : Int32) (σ1 : zS) => if r2 = 0 then (k141 v0 v1 v2 v3 v4 v5 σ1) else (k141 v0 v1 v6 v3 v4 v5 σ1))
def bX7_beginners_74 (k24 : Nat → Int32 → Int32 → Int32 → Int32 → zS → Option (Int32 × zS)) (k58 : Nat → Int32 → Int32 → Int32 → Int32 → Int32 → zS → Option (Int32 × zS)) (v0 : Nat) (v1 : Int32) (v2 : Int32) (v3 : Int32) (v4 : Int32) (v5 : Int32) (s0 : Int32) (s1 : Int32) (σ : zS) : Option (Int32 × zS) :=
  if s1 ≤ s0 then (bX7_beginners_147 k24 v0 v1 v2 v3 v4 σ) else (bnd ((((1 : Int32) <<< (v3 &&& 31)) ||| ((1 : Int32) <<< (v4 &&& 31)))) (fun (x5 : Int32) => bnd ((x5 ||| ((1 : Int32) <<< (v5 &&& 31)))) (fun (x6 : Int32) => zb (fX7_isTaken v0 v3 σ) (fun (r8 : Int32) (σ7 : zS) => if r8 = 0 then (bX7_beginners_141 k58 v0 v1 v2 v3 v4 v5 σ7) else (zb (fX7_isTaken v0 v4 σ7) (fun (r11 : Int32) (σ10 : zS) => if r11 = 0 then (bX7_beginners_141 k58 v0 v1 v2 v3 v4 v5 σ10) else (zb (fX7_isTaken v0 v5 σ10) (fun (r14 : Int32) (σ13 : zS) => if r14 = 0 then (bX7_beginners_141 k58 v0 v1 v2 v3 v4 v5 σ13) else (if v2 = (-1 : Int32) then (bX7_beginners_129 (bX7_beginners_141 k58) v0 v1 v2 v3 v4 v5 x6 σ13) else (if v2 ≤ x6 then (bX7_beginners_141 k58 v0 v1 v2 v3 v4 v5 σ13) else (bX7_beginners_129 (bX7_beginners_141 k58) v0 v1 v2 v3 v4 v5 x6 σ13)))))))))))
def bX7_beginners_58 (k24 : Nat → Int32 → Int32 → Int32 → Int32 → zS → Option (Int32 × zS)) (k58 : Nat → Int32 → Int32 → Int32 → Int32 → Int32 → zS → Option (Int32 × zS)) (v0 : Nat) (v1 : Int32) (v2 : Int32) (v3 : Int32) (v4 : Int32) (v5 : Int32) (σ : zS) : Option (Int32 × zS) :=
  if v1 ≤ (2 : Int32) then (bX7_beginners_74 k24 k58 v0 v1 v2 v3 v4 v5 v5 ((v4 + (1 : Int32))) σ) else (bX7_beginners_74 k24 k58 v0 v1 v2 v3 v4 v5 v5 (24 : Int32) σ)
def fX7_beginners_58 (k24 : Nat → Int32 → Int32 → Int32 → Int32 → zS → Option (Int32 × zS)) : Nat → Nat → Int32 → Int32 → Int32 → Int32 → Int32 → zS → Option (Int32 × zS)
  | 0, _, _, _, _, _, _, _ => none
  | n + 1, v0, v1, v2, v3, v4, v5, σ => bX7_beginners_58 k24 (fX7_beginners_58 k24 n) v0 v1 v2 v3 v4 v5 σ
def bX7_beginners_56 (k24 : Nat → Int32 → Int32 → Int32 → Int32 → zS → Option (Int32 × zS)) (v0 : Nat) (v1 : Int32) (v2 : Int32) (v3 : Int32) (v4 : Int32) (s0 : Int32) (σ : zS) : Option (Int32 × zS) :=
  fX7_beginners_58 k24 zFU v0 v1 v2 v3 v4 s0 σ
def bX7_beginners_39 (k4 : Nat → Int32 → Int32 → Int32 → zS → Option (Int32 × zS)) (k24 : Nat → Int32 → Int32 → Int32 → Int32 → zS → Option (Int32 × zS)) (v0 : Nat) (v1 : Int32) (v2 : Int32) (v3 : Int32) (v4 : Int32) (s0 : Int32) (s1 : Int32) (σ : zS) : Option (Int32 × zS) :=
  if s1 ≤ s0 then (bX7_beginners_153 k4 v0 v1 v2 v3 σ) else (if v1 ≤ (2 : Int32) then (bX7_beginners_56 k24 v0 v1 v2 v3 v4 v4 σ) else (bX7_beginners_56 k24 v0 v1 v2 v3 v4 ((v4 + (1 : Int32))) σ))
def bX7_beginners_24 (k4 : Nat → Int32 → Int32 → Int32 → zS → Option (Int32 × zS)) (k24 : Nat → Int32 → Int32 → Int32 → Int32 → zS → Option (Int32 × zS)) (v0 : Nat) (v1 : Int32) (v2 : Int32) (v3 : Int32) (v4 : Int32) (σ : zS) : Option (Int32 × zS) :=
  if v1 ≤ (1 : Int32) then (bX7_beginners_39 k4 k24 v0 v1 v2 v3 v4 v4 ((v3 + (1 : Int32))) σ) else (bX7_beginners_39 k4 k24 v0 v1 v2 v3 v4 v4 (24 : Int32) σ)
def fX7_beginners_24 (k4 : Nat → Int32 → Int32 → Int32 → zS → Option (Int32 × zS)) : Nat → Nat → Int32 → Int32 → Int32 → Int32 → zS → Option (Int32 × zS)
  | 0, _, _, _, _, _, _ => none
  | n + 1, v0, v1, v2, v3, v4, σ => bX7_beginners_24 k4 (fX7_beginners_24 k4 n) v0 v1 v2 v3 v4 σ
def bX7_beginners_22 (k4 : Nat → Int32 → Int32 → Int32 → zS → Option (Int32 × zS)) (v0 : Nat) (v1 : Int32) (v2 : Int32) (v3 : Int32) (s0 : Int32) (σ : zS) : Option (Int32 × zS) :=
  fX7_beginners_24 k4 zFU v0 v1 v2 v3 s0 σ
def bX7_beginners_4 (k4 : Nat → Int32 → Int32 → Int32 → zS → Option (Int32 × zS)) (v0 : Nat) (v1 : Int32) (v2 : Int32) (v3 : Int32) (σ : zS) : Option (Int32 × zS) :=
  if (24 : Int32) ≤ v3 then (some (v2, σ)) else (if v1 ≤ (1 : Int32) then (bX7_beginners_22 k4 v0 v1 v2 v3 v3 σ) else (bX7_beginners_22 k4 v0 v1 v2 v3 ((v3 + (1 : Int32))) σ))
def fX7_beginners_4  : Nat → Nat → Int32 → Int32 → Int32 → zS → Option (Int32 × zS)
  | 0, _, _, _, _, _ => none
  | n + 1, v0, v1, v2, v3, σ => bX7_beginners_4 (fX7_beginners_4  n) v0 v1 v2 v3 σ
def fX7_beginners (v0 : Nat) (v1 : Int32) (σ : zS) : Option (Int32 × zS) :=
  fX7_beginners_4 zFU v0 v1 (-1 : Int32) (0 : Int32) σ
set_option maxRecDepth 100000 in
set_option maxHeartbeats 4000000 in
theorem jX7_beginners_153 {p : Program} {l : Launch} {e : Env} {s : State} {m : MethodId} {args : Array Value} {below : List Frame} {meth : Method} {c : Code} {b0 : Nat} {cA : Nat → ClassId} {D : va_G} {L : List (Nat × Nat)} (hC : zC p c s m args meth cX7_beginners 7 (some Jvm.ClassFile.FieldType.int) (Cond.code yX7_beginners cX7_beginners 7 (some Jvm.ClassFile.FieldType.int)) yX7_beginners.cls cA D) (k4 : Nat → Int32 → Int32 → Int32 → zS → Option (Int32 × zS)) (h4 : ∀ (v0 : Nat) (v1 : Int32) (v2 : Int32) (v3 : Int32) (σ : zS) (ls : Array Slot), L[v0]? = some (0, 7) → lv_has ls 7 [(0, .ref (b0 + v0)), (1, .int v1), (2, .int v2), (3, .int v3)] → zJ p l e rmX7_beginners s m args below meth c b0 cA D L (fun z => MQ below (va_Qi (fun (r : Int32) (u : zS) => (r, u) = z) (zB b0 cA D L) (zA b0 L)) args s 0 0 (zA b0 L)) (k4 v0 v1 v2 v3 σ) σ 4 ls []) (v0 : Nat) (v1 : Int32) (v2 : Int32) (v3 : Int32) (σ : zS) (ls : Array Slot) (hk_v0 : L[v0]? = some (0, 7)) (hl : lv_has ls 7 [(0, .ref (b0 + v0)), (1, .int v1), (2, .int v2), (3, .int v3)]) : zJ p l e rmX7_beginners s m args below meth c b0 cA D L (fun z => MQ below (va_Qi (fun (r : Int32) (u : zS) => (r, u) = z) (zB b0 cA D L) (zA b0 L)) args s 0 0 (zA b0 L)) (bX7_beginners_153 k4 v0 v1 v2 v3 σ) σ 153 ls [] := by
  unfold bX7_beginners_153
  refine zj_iinc (pc' := 156) (k0 := 3) (v := (v3 + (1 : Int32))) (lv' := [(3, .int (v3 + (1 : Int32))), (0, .ref (b0 + v0)), (1, .int v1), (2, .int v2)]) hC dX7_beginners_153 rfl hl rfl rfl (by decide) rfl (fun ls hl => ?_)
  refine zj_goto (tgt := 4) hC dX7_beginners_156 (by decide) ?_
  exact h4 v0 v1 v2 ((v3 + (1 : Int32))) σ ls hk_v0 (lv_sub hl [1, 2, 3, 0] rfl)
set_option maxRecDepth 100000 in
set_option maxHeartbeats 4000000 in
theorem jX7_beginners_147 {p : Program} {l : Launch} {e : Env} {s : State} {m : MethodId} {args : Array Value} {below : List Frame} {meth : Method} {c : Code} {b0 : Nat} {cA : Nat → ClassId} {D : va_G} {L : List (Nat × Nat)} (hC : zC p c s m args meth cX7_beginners 7 (some Jvm.ClassFile.FieldType.int) (Cond.code yX7_beginners cX7_beginners 7 (some Jvm.ClassFile.FieldType.int)) yX7_beginners.cls cA D) (k24 : Nat → Int32 → Int32 → Int32 → Int32 → zS → Option (Int32 × zS)) (h24 : ∀ (v0 : Nat) (v1 : Int32) (v2 : Int32) (v3 : Int32) (v4 : Int32) (σ : zS) (ls : Array Slot), L[v0]? = some (0, 7) → lv_has ls 7 [(0, .ref (b0 + v0)), (1, .int v1), (2, .int v2), (3, .int v3), (4, .int v4)] → zJ p l e rmX7_beginners s m args below meth c b0 cA D L (fun z => MQ below (va_Qi (fun (r : Int32) (u : zS) => (r, u) = z) (zB b0 cA D L) (zA b0 L)) args s 0 0 (zA b0 L)) (k24 v0 v1 v2 v3 v4 σ) σ 24 ls []) (v0 : Nat) (v1 : Int32) (v2 : Int32) (v3 : Int32) (v4 : Int32) (σ : zS) (ls : Array Slot) (hk_v0 : L[v0]? = some (0, 7)) (hl : lv_has ls 7 [(0, .ref (b0 + v0)), (1, .int v1), (2, .int v2), (3, .int v3), (4, .int v4)]) : zJ p l e rmX7_beginners s m args below meth c b0 cA D L (fun z => MQ below (va_Qi (fun (r : Int32) (u : zS) => (r, u) = z) (zB b0 cA D L) (zA b0 L)) args s 0 0 (zA b0 L)) (bX7_beginners_147 k24 v0 v1 v2 v3 v4 σ) σ 147 ls [] := by
  unfold bX7_beginners_147
  refine zj_iinc (pc' := 150) (k0 := 4) (v := (v4 + (1 : Int32))) (lv' := [(4, .int (v4 + (1 : Int32))), (0, .ref (b0 + v0)), (1, .int v1), (2, .int v2), (3, .int v3)]) hC dX7_beginners_147 rfl hl rfl rfl (by decide) rfl (fun ls hl => ?_)
  refine zj_goto (tgt := 24) hC dX7_beginners_150 (by decide) ?_
  exact h24 v0 v1 v2 v3 ((v4 + (1 : Int32))) σ ls hk_v0 (lv_sub hl [1, 2, 3, 4, 0] rfl)
set_option maxRecDepth 100000 in
set_option maxHeartbeats 4000000 in
theorem jX7_beginners_141 {p : Program} {l : Launch} {e : Env} {s : State} {m : MethodId} {args : Array Value} {below : List Frame} {meth : Method} {c : Code} {b0 : Nat} {cA : Nat → ClassId} {D : va_G} {L : List (Nat × Nat)} (hC : zC p c s m args meth cX7_beginners 7 (some Jvm.ClassFile.FieldType.int) (Cond.code yX7_beginners cX7_beginners 7 (some Jvm.ClassFile.FieldType.int)) yX7_beginners.cls cA D) (k58 : Nat → Int32 → Int32 → Int32 → Int32 → Int32 → zS → Option (Int32 × zS)) (h58 : ∀ (v0 : Nat) (v1 : Int32) (v2 : Int32) (v3 : Int32) (v4 : Int32) (v5 : Int32) (σ : zS) (ls : Array Slot), L[v0]? = some (0, 7) → lv_has ls 7 [(0, .ref (b0 + v0)), (1, .int v1), (2, .int v2), (3, .int v3), (4, .int v4), (5, .int v5)] → zJ p l e rmX7_beginners s m args below meth c b0 cA D L (fun z => MQ below (va_Qi (fun (r : Int32) (u : zS) => (r, u) = z) (zB b0 cA D L) (zA b0 L)) args s 0 0 (zA b0 L)) (k58 v0 v1 v2 v3 v4 v5 σ) σ 58 ls []) (v0 : Nat) (v1 : Int32) (v2 : Int32) (v3 : Int32) (v4 : Int32) (v5 : Int32) (σ : zS) (ls : Array Slot) (hk_v0 : L[v0]? = some (0, 7)) (hl : lv_has ls 7 [(0, .ref (b0 + v0)), (1, .int v1), (2, .int v2), (3, .int v3), (4, .int v4), (5, .int v5)]) : zJ p l e rmX7_beginners s m args below meth c b0 cA D L (fun z => MQ below (va_Qi (fun (r : Int32) (u : zS) => (r, u) = z) (zB b0 cA D L) (zA b0 L)) args s 0 0 (zA b0 L)) (bX7_beginners_141 k58 v0 v1 v2 v3 v4 v5 σ) σ 141 ls [] := by
  unfold bX7_beginners_141
  refine zj_iinc (pc' := 144) (k0 := 5) (v := (v5 + (1 : Int32))) (lv' := [(5, .int (v5 + (1 : Int32))), (0, .ref (b0 + v0)), (1, .int v1), (2, .int v2), (3, .int v3), (4, .int v4)]) hC dX7_beginners_141 rfl hl rfl rfl (by decide) rfl (fun ls hl => ?_)
  refine zj_goto (tgt := 58) hC dX7_beginners_144 (by decide) ?_
  exact h58 v0 v1 v2 v3 v4 ((v5 + (1 : Int32))) σ ls hk_v0 (lv_sub hl [1, 2, 3, 4, 5, 0] rfl)
set_option maxRecDepth 100000 in
set_option maxHeartbeats 4000000 in
theorem jX7_beginners_129 {p : Program} {l : Launch} {e : Env} {s : State} {m : MethodId} {args : Array Value} {below : List Frame} {meth : Method} {c : Code} {b0 : Nat} {cA : Nat → ClassId} {D : va_G} {L : List (Nat × Nat)} (hC : zC p c s m args meth cX7_beginners 7 (some Jvm.ClassFile.FieldType.int) (Cond.code yX7_beginners cX7_beginners 7 (some Jvm.ClassFile.FieldType.int)) yX7_beginners.cls cA D) (k141 : Nat → Int32 → Int32 → Int32 → Int32 → Int32 → zS → Option (Int32 × zS)) (h141 : ∀ (v0 : Nat) (v1 : Int32) (v2 : Int32) (v3 : Int32) (v4 : Int32) (v5 : Int32) (σ : zS) (ls : Array Slot), L[v0]? = some (0, 7) → lv_has ls 7 [(0, .ref (b0 + v0)), (1, .int v1), (2, .int v2), (3, .int v3), (4, .int v4), (5, .int v5)] → zJ p l e rmX7_beginners s m args below meth c b0 cA D L (fun z => MQ below (va_Qi (fun (r : Int32) (u : zS) => (r, u) = z) (zB b0 cA D L) (zA b0 L)) args s 0 0 (zA b0 L)) (k141 v0 v1 v2 v3 v4 v5 σ) σ 141 ls []) (v0 : Nat) (v1 : Int32) (v2 : Int32) (v3 : Int32) (v4 : Int32) (v5 : Int32) (v6 : Int32) (σ : zS) (ls : Array Slot) (hk_v0 : L[v0]? = some (0, 7)) (hl : lv_has ls 7 [(0, .ref (b0 + v0)), (1, .int v1), (2, .int v2), (3, .int v3), (4, .int v4), (5, .int v5), (6, .int v6)]) : zJ p l e rmX7_beginners s m args below meth c b0 cA D L (fun z => MQ below (va_Qi (fun (r : Int32) (u : zS) => (r, u) = z) (zB b0 cA D L) (zA b0 L)) args s 0 0 (zA b0 L)) (bX7_beginners_129 k141 v0 v1 v2 v3 v4 v5 v6 σ) σ 129 ls [] := by
  unfold bX7_beginners_129
  refine zj_aload_n (pc' := 130) hC dX7_beginners_129 rfl rfl (lv_at hl 0 rfl) ?_
  refine zj_iload (pc' := 132) hC dX7_beginners_130 rfl (lv_at hl 6 rfl) ?_
  refine zj_callzV (pc' := 135) (rest := []) hC (kX7_isBegun l b0 cA D L v0 v6 σ hk_v0) hk_v0 rfl tw_5_197 tw_5_194 tw_5_196 ts_5_4 tw_1_8 ddX7_isBegun rfl ⟨rfl, rfl⟩ ⟨by decide, by decide⟩ hl.1 (Nat.le_of_ble_eq_true rfl) rfl dX7_beginners_132 rfl (fun r2 σ1 hb_r2 => ?_)
  refine zj_if_eq (tgt := 141) (pc' := 138) hC dX7_beginners_135 (by decide) rfl (fun c3 => ?_) (fun c3 => ?_)
  · exact h141 v0 v1 v2 v3 v4 v5 σ1 ls hk_v0 (lv_sub hl [0, 1, 2, 3, 4, 5] rfl)
  · refine zj_iload (pc' := 140) hC dX7_beginners_138 rfl (lv_at hl 6 rfl) ?_
    refine zj_istore_n (pc' := 141) (lv' := [(2, .int v6), (0, .ref (b0 + v0)), (1, .int v1), (3, .int v3), (4, .int v4), (5, .int v5), (6, .int v6)]) hC dX7_beginners_140 rfl rfl hl (by decide) rfl (fun ls hl => ?_)
    exact h141 v0 v1 v6 v3 v4 v5 σ1 ls hk_v0 (lv_sub hl [1, 2, 0, 3, 4, 5] rfl)
set_option maxRecDepth 100000 in
set_option maxHeartbeats 4000000 in
theorem jX7_beginners_74 {p : Program} {l : Launch} {e : Env} {s : State} {m : MethodId} {args : Array Value} {below : List Frame} {meth : Method} {c : Code} {b0 : Nat} {cA : Nat → ClassId} {D : va_G} {L : List (Nat × Nat)} (hC : zC p c s m args meth cX7_beginners 7 (some Jvm.ClassFile.FieldType.int) (Cond.code yX7_beginners cX7_beginners 7 (some Jvm.ClassFile.FieldType.int)) yX7_beginners.cls cA D) (k24 : Nat → Int32 → Int32 → Int32 → Int32 → zS → Option (Int32 × zS)) (h24 : ∀ (v0 : Nat) (v1 : Int32) (v2 : Int32) (v3 : Int32) (v4 : Int32) (σ : zS) (ls : Array Slot), L[v0]? = some (0, 7) → lv_has ls 7 [(0, .ref (b0 + v0)), (1, .int v1), (2, .int v2), (3, .int v3), (4, .int v4)] → zJ p l e rmX7_beginners s m args below meth c b0 cA D L (fun z => MQ below (va_Qi (fun (r : Int32) (u : zS) => (r, u) = z) (zB b0 cA D L) (zA b0 L)) args s 0 0 (zA b0 L)) (k24 v0 v1 v2 v3 v4 σ) σ 24 ls []) (k58 : Nat → Int32 → Int32 → Int32 → Int32 → Int32 → zS → Option (Int32 × zS)) (h58 : ∀ (v0 : Nat) (v1 : Int32) (v2 : Int32) (v3 : Int32) (v4 : Int32) (v5 : Int32) (σ : zS) (ls : Array Slot), L[v0]? = some (0, 7) → lv_has ls 7 [(0, .ref (b0 + v0)), (1, .int v1), (2, .int v2), (3, .int v3), (4, .int v4), (5, .int v5)] → zJ p l e rmX7_beginners s m args below meth c b0 cA D L (fun z => MQ below (va_Qi (fun (r : Int32) (u : zS) => (r, u) = z) (zB b0 cA D L) (zA b0 L)) args s 0 0 (zA b0 L)) (k58 v0 v1 v2 v3 v4 v5 σ) σ 58 ls []) (v0 : Nat) (v1 : Int32) (v2 : Int32) (v3 : Int32) (v4 : Int32) (v5 : Int32) (s0 : Int32) (s1 : Int32) (σ : zS) (ls : Array Slot) (hk_v0 : L[v0]? = some (0, 7)) (hl : lv_has ls 7 [(0, .ref (b0 + v0)), (1, .int v1), (2, .int v2), (3, .int v3), (4, .int v4), (5, .int v5)]) : zJ p l e rmX7_beginners s m args below meth c b0 cA D L (fun z => MQ below (va_Qi (fun (r : Int32) (u : zS) => (r, u) = z) (zB b0 cA D L) (zA b0 L)) args s 0 0 (zA b0 L)) (bX7_beginners_74 k24 k58 v0 v1 v2 v3 v4 v5 s0 s1 σ) σ 74 ls [.int s1, .int s0] := by
  unfold bX7_beginners_74
  refine zj_icmp_ge (tgt := 147) (pc' := 77) hC dX7_beginners_74 (by decide) rfl (fun c4 => ?_) (fun c4 => ?_)
  · exact jX7_beginners_147 hC k24 h24 v0 v1 v2 v3 v4 σ ls hk_v0 (lv_sub hl [0, 1, 2, 3, 4] rfl)
  · refine zj_iconst (pc' := 78) (v := (1 : Int32)) hC dX7_beginners_77 rfl rfl ?_
    refine zj_iload_n (pc' := 79) hC dX7_beginners_78 rfl rfl (lv_at hl 3 rfl) ?_
    refine zj_ishl (pc' := 80) hC dX7_beginners_79 rfl ?_
    refine zj_iconst (pc' := 81) (v := (1 : Int32)) hC dX7_beginners_80 rfl rfl ?_
    refine zj_iload (pc' := 83) hC dX7_beginners_81 rfl (lv_at hl 4 rfl) ?_
    refine zj_ishl (pc' := 84) hC dX7_beginners_83 rfl ?_
    refine zj_ior (pc' := 85) hC dX7_beginners_84 rfl ?_
    refine zj_nmi (fun x5 => ?_)
    refine zj_iconst (pc' := 86) (v := (1 : Int32)) hC dX7_beginners_85 rfl rfl ?_
    refine zj_iload (pc' := 88) hC dX7_beginners_86 rfl (lv_at hl 5 rfl) ?_
    refine zj_ishl (pc' := 89) hC dX7_beginners_88 rfl ?_
    refine zj_ior (pc' := 90) hC dX7_beginners_89 rfl ?_
    refine zj_nmi (fun x6 => ?_)
    refine zj_istore (pc' := 92) (lv' := [(6, .int x6), (0, .ref (b0 + v0)), (1, .int v1), (2, .int v2), (3, .int v3), (4, .int v4), (5, .int v5)]) hC dX7_beginners_90 rfl hl (by decide) rfl (fun ls hl => ?_)
    refine zj_aload_n (pc' := 93) hC dX7_beginners_92 rfl rfl (lv_at hl 1 rfl) ?_
    refine zj_iload_n (pc' := 94) hC dX7_beginners_93 rfl rfl (lv_at hl 4 rfl) ?_
    refine zj_callzV (pc' := 97) (rest := []) hC (kX7_isTaken l b0 cA D L v0 v3 σ hk_v0) hk_v0 rfl tw_4_222 tw_4_219 tw_4_221 ts_3_4 tw_1_8 ddX7_isTaken rfl ⟨rfl, rfl⟩ ⟨by decide, by decide⟩ hl.1 (Nat.le_of_ble_eq_true rfl) rfl dX7_beginners_94 rfl (fun r8 σ7 hb_r8 => ?_)
    refine zj_if_eq (tgt := 141) (pc' := 100) hC dX7_beginners_97 (by decide) rfl (fun c9 => ?_) (fun c9 => ?_)
    · exact jX7_beginners_141 hC k58 h58 v0 v1 v2 v3 v4 v5 σ7 ls hk_v0 (lv_sub hl [1, 2, 3, 4, 5, 6] rfl)
    · refine zj_aload_n (pc' := 101) hC dX7_beginners_100 rfl rfl (lv_at hl 1 rfl) ?_
      refine zj_iload (pc' := 103) hC dX7_beginners_101 rfl (lv_at hl 5 rfl) ?_
      refine zj_callzV (pc' := 106) (rest := []) hC (kX7_isTaken l b0 cA D L v0 v4 σ7 hk_v0) hk_v0 rfl tw_4_222 tw_4_219 tw_4_221 ts_3_4 tw_1_8 ddX7_isTaken rfl ⟨rfl, rfl⟩ ⟨by decide, by decide⟩ hl.1 (Nat.le_of_ble_eq_true rfl) rfl dX7_beginners_103 rfl (fun r11 σ10 hb_r11 => ?_)
      refine zj_if_eq (tgt := 141) (pc' := 109) hC dX7_beginners_106 (by decide) rfl (fun c12 => ?_) (fun c12 => ?_)
      · exact jX7_beginners_141 hC k58 h58 v0 v1 v2 v3 v4 v5 σ10 ls hk_v0 (lv_sub hl [1, 2, 3, 4, 5, 6] rfl)
      · refine zj_aload_n (pc' := 110) hC dX7_beginners_109 rfl rfl (lv_at hl 1 rfl) ?_
        refine zj_iload (pc' := 112) hC dX7_beginners_110 rfl (lv_at hl 6 rfl) ?_
        refine zj_callzV (pc' := 115) (rest := []) hC (kX7_isTaken l b0 cA D L v0 v5 σ10 hk_v0) hk_v0 rfl tw_4_222 tw_4_219 tw_4_221 ts_3_4 tw_1_8 ddX7_isTaken rfl ⟨rfl, rfl⟩ ⟨by decide, by decide⟩ hl.1 (Nat.le_of_ble_eq_true rfl) rfl dX7_beginners_112 rfl (fun r14 σ13 hb_r14 => ?_)
        refine zj_if_eq (tgt := 141) (pc' := 118) hC dX7_beginners_115 (by decide) rfl (fun c15 => ?_) (fun c15 => ?_)
        · exact jX7_beginners_141 hC k58 h58 v0 v1 v2 v3 v4 v5 σ13 ls hk_v0 (lv_sub hl [1, 2, 3, 4, 5, 6] rfl)
        · refine zj_iload_n (pc' := 119) hC dX7_beginners_118 rfl rfl (lv_at hl 3 rfl) ?_
          refine zj_iconst (pc' := 120) (v := (-1 : Int32)) hC dX7_beginners_119 rfl rfl ?_
          refine zj_icmp_eq (tgt := 129) (pc' := 123) hC dX7_beginners_120 (by decide) rfl (fun c16 => ?_) (fun c16 => ?_)
          · exact jX7_beginners_129 hC (bX7_beginners_141 k58) (jX7_beginners_141 hC k58 h58) v0 v1 v2 v3 v4 v5 x6 σ13 ls hk_v0 (lv_sub hl [1, 2, 3, 4, 5, 6, 0] rfl)
          · refine zj_iload (pc' := 125) hC dX7_beginners_123 rfl (lv_at hl 0 rfl) ?_
            refine zj_iload_n (pc' := 126) hC dX7_beginners_125 rfl rfl (lv_at hl 3 rfl) ?_
            refine zj_icmp_ge (tgt := 141) (pc' := 129) hC dX7_beginners_126 (by decide) rfl (fun c17 => ?_) (fun c17 => ?_)
            · exact jX7_beginners_141 hC k58 h58 v0 v1 v2 v3 v4 v5 σ13 ls hk_v0 (lv_sub hl [1, 2, 3, 4, 5, 6] rfl)
            · exact jX7_beginners_129 hC (bX7_beginners_141 k58) (jX7_beginners_141 hC k58 h58) v0 v1 v2 v3 v4 v5 x6 σ13 ls hk_v0 (lv_sub hl [1, 2, 3, 4, 5, 6, 0] rfl)
set_option maxRecDepth 100000 in
set_option maxHeartbeats 4000000 in
theorem jX7_beginners_58 {p : Program} {l : Launch} {e : Env} {s : State} {m : MethodId} {args : Array Value} {below : List Frame} {meth : Method} {c : Code} {b0 : Nat} {cA : Nat → ClassId} {D : va_G} {L : List (Nat × Nat)} (hC : zC p c s m args meth cX7_beginners 7 (some Jvm.ClassFile.FieldType.int) (Cond.code yX7_beginners cX7_beginners 7 (some Jvm.ClassFile.FieldType.int)) yX7_beginners.cls cA D) (k24 : Nat → Int32 → Int32 → Int32 → Int32 → zS → Option (Int32 × zS)) (h24 : ∀ (v0 : Nat) (v1 : Int32) (v2 : Int32) (v3 : Int32) (v4 : Int32) (σ : zS) (ls : Array Slot), L[v0]? = some (0, 7) → lv_has ls 7 [(0, .ref (b0 + v0)), (1, .int v1), (2, .int v2), (3, .int v3), (4, .int v4)] → zJ p l e rmX7_beginners s m args below meth c b0 cA D L (fun z => MQ below (va_Qi (fun (r : Int32) (u : zS) => (r, u) = z) (zB b0 cA D L) (zA b0 L)) args s 0 0 (zA b0 L)) (k24 v0 v1 v2 v3 v4 σ) σ 24 ls []) (k58 : Nat → Int32 → Int32 → Int32 → Int32 → Int32 → zS → Option (Int32 × zS)) (h58 : ∀ (v0 : Nat) (v1 : Int32) (v2 : Int32) (v3 : Int32) (v4 : Int32) (v5 : Int32) (σ : zS) (ls : Array Slot), L[v0]? = some (0, 7) → lv_has ls 7 [(0, .ref (b0 + v0)), (1, .int v1), (2, .int v2), (3, .int v3), (4, .int v4), (5, .int v5)] → zJ p l e rmX7_beginners s m args below meth c b0 cA D L (fun z => MQ below (va_Qi (fun (r : Int32) (u : zS) => (r, u) = z) (zB b0 cA D L) (zA b0 L)) args s 0 0 (zA b0 L)) (k58 v0 v1 v2 v3 v4 v5 σ) σ 58 ls []) (v0 : Nat) (v1 : Int32) (v2 : Int32) (v3 : Int32) (v4 : Int32) (v5 : Int32) (σ : zS) (ls : Array Slot) (hk_v0 : L[v0]? = some (0, 7)) (hl : lv_has ls 7 [(0, .ref (b0 + v0)), (1, .int v1), (2, .int v2), (3, .int v3), (4, .int v4), (5, .int v5)]) : zJ p l e rmX7_beginners s m args below meth c b0 cA D L (fun z => MQ below (va_Qi (fun (r : Int32) (u : zS) => (r, u) = z) (zB b0 cA D L) (zA b0 L)) args s 0 0 (zA b0 L)) (bX7_beginners_58 k24 k58 v0 v1 v2 v3 v4 v5 σ) σ 58 ls [] := by
  unfold bX7_beginners_58
  refine zj_iload (pc' := 60) hC dX7_beginners_58 rfl (lv_at hl 5 rfl) ?_
  refine zj_iload_n (pc' := 61) hC dX7_beginners_60 rfl rfl (lv_at hl 1 rfl) ?_
  refine zj_iconst (pc' := 62) (v := (2 : Int32)) hC dX7_beginners_61 rfl rfl ?_
  refine zj_icmp_le (tgt := 70) (pc' := 65) hC dX7_beginners_62 (by decide) rfl (fun c18 => ?_) (fun c18 => ?_)
  · refine zj_iload (pc' := 72) hC dX7_beginners_70 rfl (lv_at hl 4 rfl) ?_
    refine zj_iconst (pc' := 73) (v := (1 : Int32)) hC dX7_beginners_72 rfl rfl ?_
    refine zj_iadd (pc' := 74) hC dX7_beginners_73 rfl ?_
    exact jX7_beginners_74 hC k24 h24 k58 h58 v0 v1 v2 v3 v4 v5 v5 ((v4 + (1 : Int32))) σ ls hk_v0 (lv_sub hl [0, 1, 2, 3, 4, 5] rfl)
  · refine zj_bipush (pc' := 67) (v := (24 : Int32)) hC dX7_beginners_65 rfl rfl ?_
    refine zj_goto (tgt := 74) hC dX7_beginners_67 (by decide) ?_
    exact jX7_beginners_74 hC k24 h24 k58 h58 v0 v1 v2 v3 v4 v5 v5 (24 : Int32) σ ls hk_v0 (lv_sub hl [0, 1, 2, 3, 4, 5] rfl)
set_option maxRecDepth 100000 in
set_option maxHeartbeats 4000000 in
theorem lX7_beginners_58 {p : Program} {l : Launch} {e : Env} {s : State} {m : MethodId} {args : Array Value} {below : List Frame} {meth : Method} {c : Code} {b0 : Nat} {cA : Nat → ClassId} {D : va_G} {L : List (Nat × Nat)} (hC : zC p c s m args meth cX7_beginners 7 (some Jvm.ClassFile.FieldType.int) (Cond.code yX7_beginners cX7_beginners 7 (some Jvm.ClassFile.FieldType.int)) yX7_beginners.cls cA D) (k24 : Nat → Int32 → Int32 → Int32 → Int32 → zS → Option (Int32 × zS)) (h24 : ∀ (v0 : Nat) (v1 : Int32) (v2 : Int32) (v3 : Int32) (v4 : Int32) (σ : zS) (ls : Array Slot), L[v0]? = some (0, 7) → lv_has ls 7 [(0, .ref (b0 + v0)), (1, .int v1), (2, .int v2), (3, .int v3), (4, .int v4)] → zJ p l e rmX7_beginners s m args below meth c b0 cA D L (fun z => MQ below (va_Qi (fun (r : Int32) (u : zS) => (r, u) = z) (zB b0 cA D L) (zA b0 L)) args s 0 0 (zA b0 L)) (k24 v0 v1 v2 v3 v4 σ) σ 24 ls []) (n : Nat) : ∀ (v0 : Nat) (v1 : Int32) (v2 : Int32) (v3 : Int32) (v4 : Int32) (v5 : Int32) (σ : zS) (ls : Array Slot), L[v0]? = some (0, 7) → lv_has ls 7 [(0, .ref (b0 + v0)), (1, .int v1), (2, .int v2), (3, .int v3), (4, .int v4), (5, .int v5)] → zJ p l e rmX7_beginners s m args below meth c b0 cA D L (fun z => MQ below (va_Qi (fun (r : Int32) (u : zS) => (r, u) = z) (zB b0 cA D L) (zA b0 L)) args s 0 0 (zA b0 L)) (fX7_beginners_58 k24 n v0 v1 v2 v3 v4 v5 σ) σ 58 ls [] := by
  induction n with
  | zero => intros; exact zj_none
  | succ n ih => exact jX7_beginners_58 hC k24 h24 (fX7_beginners_58 k24 n) ih
set_option maxRecDepth 100000 in
set_option maxHeartbeats 4000000 in
theorem jX7_beginners_56 {p : Program} {l : Launch} {e : Env} {s : State} {m : MethodId} {args : Array Value} {below : List Frame} {meth : Method} {c : Code} {b0 : Nat} {cA : Nat → ClassId} {D : va_G} {L : List (Nat × Nat)} (hC : zC p c s m args meth cX7_beginners 7 (some Jvm.ClassFile.FieldType.int) (Cond.code yX7_beginners cX7_beginners 7 (some Jvm.ClassFile.FieldType.int)) yX7_beginners.cls cA D) (k24 : Nat → Int32 → Int32 → Int32 → Int32 → zS → Option (Int32 × zS)) (h24 : ∀ (v0 : Nat) (v1 : Int32) (v2 : Int32) (v3 : Int32) (v4 : Int32) (σ : zS) (ls : Array Slot), L[v0]? = some (0, 7) → lv_has ls 7 [(0, .ref (b0 + v0)), (1, .int v1), (2, .int v2), (3, .int v3), (4, .int v4)] → zJ p l e rmX7_beginners s m args below meth c b0 cA D L (fun z => MQ below (va_Qi (fun (r : Int32) (u : zS) => (r, u) = z) (zB b0 cA D L) (zA b0 L)) args s 0 0 (zA b0 L)) (k24 v0 v1 v2 v3 v4 σ) σ 24 ls []) (v0 : Nat) (v1 : Int32) (v2 : Int32) (v3 : Int32) (v4 : Int32) (s0 : Int32) (σ : zS) (ls : Array Slot) (hk_v0 : L[v0]? = some (0, 7)) (hl : lv_has ls 7 [(0, .ref (b0 + v0)), (1, .int v1), (2, .int v2), (3, .int v3), (4, .int v4)]) : zJ p l e rmX7_beginners s m args below meth c b0 cA D L (fun z => MQ below (va_Qi (fun (r : Int32) (u : zS) => (r, u) = z) (zB b0 cA D L) (zA b0 L)) args s 0 0 (zA b0 L)) (bX7_beginners_56 k24 v0 v1 v2 v3 v4 s0 σ) σ 56 ls [.int s0] := by
  unfold bX7_beginners_56
  refine zj_istore (pc' := 58) (lv' := [(5, .int s0), (0, .ref (b0 + v0)), (1, .int v1), (2, .int v2), (3, .int v3), (4, .int v4)]) hC dX7_beginners_56 rfl hl (by decide) rfl (fun ls hl => ?_)
  exact lX7_beginners_58 hC k24 h24 zFU v0 v1 v2 v3 v4 s0 σ ls hk_v0 (lv_sub hl [1, 2, 3, 4, 5, 0] rfl)
set_option maxRecDepth 100000 in
set_option maxHeartbeats 4000000 in
theorem jX7_beginners_39 {p : Program} {l : Launch} {e : Env} {s : State} {m : MethodId} {args : Array Value} {below : List Frame} {meth : Method} {c : Code} {b0 : Nat} {cA : Nat → ClassId} {D : va_G} {L : List (Nat × Nat)} (hC : zC p c s m args meth cX7_beginners 7 (some Jvm.ClassFile.FieldType.int) (Cond.code yX7_beginners cX7_beginners 7 (some Jvm.ClassFile.FieldType.int)) yX7_beginners.cls cA D) (k4 : Nat → Int32 → Int32 → Int32 → zS → Option (Int32 × zS)) (h4 : ∀ (v0 : Nat) (v1 : Int32) (v2 : Int32) (v3 : Int32) (σ : zS) (ls : Array Slot), L[v0]? = some (0, 7) → lv_has ls 7 [(0, .ref (b0 + v0)), (1, .int v1), (2, .int v2), (3, .int v3)] → zJ p l e rmX7_beginners s m args below meth c b0 cA D L (fun z => MQ below (va_Qi (fun (r : Int32) (u : zS) => (r, u) = z) (zB b0 cA D L) (zA b0 L)) args s 0 0 (zA b0 L)) (k4 v0 v1 v2 v3 σ) σ 4 ls []) (k24 : Nat → Int32 → Int32 → Int32 → Int32 → zS → Option (Int32 × zS)) (h24 : ∀ (v0 : Nat) (v1 : Int32) (v2 : Int32) (v3 : Int32) (v4 : Int32) (σ : zS) (ls : Array Slot), L[v0]? = some (0, 7) → lv_has ls 7 [(0, .ref (b0 + v0)), (1, .int v1), (2, .int v2), (3, .int v3), (4, .int v4)] → zJ p l e rmX7_beginners s m args below meth c b0 cA D L (fun z => MQ below (va_Qi (fun (r : Int32) (u : zS) => (r, u) = z) (zB b0 cA D L) (zA b0 L)) args s 0 0 (zA b0 L)) (k24 v0 v1 v2 v3 v4 σ) σ 24 ls []) (v0 : Nat) (v1 : Int32) (v2 : Int32) (v3 : Int32) (v4 : Int32) (s0 : Int32) (s1 : Int32) (σ : zS) (ls : Array Slot) (hk_v0 : L[v0]? = some (0, 7)) (hl : lv_has ls 7 [(0, .ref (b0 + v0)), (1, .int v1), (2, .int v2), (3, .int v3), (4, .int v4)]) : zJ p l e rmX7_beginners s m args below meth c b0 cA D L (fun z => MQ below (va_Qi (fun (r : Int32) (u : zS) => (r, u) = z) (zB b0 cA D L) (zA b0 L)) args s 0 0 (zA b0 L)) (bX7_beginners_39 k4 k24 v0 v1 v2 v3 v4 s0 s1 σ) σ 39 ls [.int s1, .int s0] := by
  unfold bX7_beginners_39
  refine zj_icmp_ge (tgt := 153) (pc' := 42) hC dX7_beginners_39 (by decide) rfl (fun c19 => ?_) (fun c19 => ?_)
  · exact jX7_beginners_153 hC k4 h4 v0 v1 v2 v3 σ ls hk_v0 (lv_sub hl [0, 1, 2, 3] rfl)
  · refine zj_iload_n (pc' := 43) hC dX7_beginners_42 rfl rfl (lv_at hl 1 rfl) ?_
    refine zj_iconst (pc' := 44) (v := (2 : Int32)) hC dX7_beginners_43 rfl rfl ?_
    refine zj_icmp_le (tgt := 54) (pc' := 47) hC dX7_beginners_44 (by decide) rfl (fun c20 => ?_) (fun c20 => ?_)
    · refine zj_iload (pc' := 56) hC dX7_beginners_54 rfl (lv_at hl 4 rfl) ?_
      exact jX7_beginners_56 hC k24 h24 v0 v1 v2 v3 v4 v4 σ ls hk_v0 (lv_sub hl [0, 1, 2, 3, 4] rfl)
    · refine zj_iload (pc' := 49) hC dX7_beginners_47 rfl (lv_at hl 4 rfl) ?_
      refine zj_iconst (pc' := 50) (v := (1 : Int32)) hC dX7_beginners_49 rfl rfl ?_
      refine zj_iadd (pc' := 51) hC dX7_beginners_50 rfl ?_
      refine zj_goto (tgt := 56) hC dX7_beginners_51 (by decide) ?_
      exact jX7_beginners_56 hC k24 h24 v0 v1 v2 v3 v4 ((v4 + (1 : Int32))) σ ls hk_v0 (lv_sub hl [0, 1, 2, 3, 4] rfl)
set_option maxRecDepth 100000 in
set_option maxHeartbeats 4000000 in
theorem jX7_beginners_24 {p : Program} {l : Launch} {e : Env} {s : State} {m : MethodId} {args : Array Value} {below : List Frame} {meth : Method} {c : Code} {b0 : Nat} {cA : Nat → ClassId} {D : va_G} {L : List (Nat × Nat)} (hC : zC p c s m args meth cX7_beginners 7 (some Jvm.ClassFile.FieldType.int) (Cond.code yX7_beginners cX7_beginners 7 (some Jvm.ClassFile.FieldType.int)) yX7_beginners.cls cA D) (k4 : Nat → Int32 → Int32 → Int32 → zS → Option (Int32 × zS)) (h4 : ∀ (v0 : Nat) (v1 : Int32) (v2 : Int32) (v3 : Int32) (σ : zS) (ls : Array Slot), L[v0]? = some (0, 7) → lv_has ls 7 [(0, .ref (b0 + v0)), (1, .int v1), (2, .int v2), (3, .int v3)] → zJ p l e rmX7_beginners s m args below meth c b0 cA D L (fun z => MQ below (va_Qi (fun (r : Int32) (u : zS) => (r, u) = z) (zB b0 cA D L) (zA b0 L)) args s 0 0 (zA b0 L)) (k4 v0 v1 v2 v3 σ) σ 4 ls []) (k24 : Nat → Int32 → Int32 → Int32 → Int32 → zS → Option (Int32 × zS)) (h24 : ∀ (v0 : Nat) (v1 : Int32) (v2 : Int32) (v3 : Int32) (v4 : Int32) (σ : zS) (ls : Array Slot), L[v0]? = some (0, 7) → lv_has ls 7 [(0, .ref (b0 + v0)), (1, .int v1), (2, .int v2), (3, .int v3), (4, .int v4)] → zJ p l e rmX7_beginners s m args below meth c b0 cA D L (fun z => MQ below (va_Qi (fun (r : Int32) (u : zS) => (r, u) = z) (zB b0 cA D L) (zA b0 L)) args s 0 0 (zA b0 L)) (k24 v0 v1 v2 v3 v4 σ) σ 24 ls []) (v0 : Nat) (v1 : Int32) (v2 : Int32) (v3 : Int32) (v4 : Int32) (σ : zS) (ls : Array Slot) (hk_v0 : L[v0]? = some (0, 7)) (hl : lv_has ls 7 [(0, .ref (b0 + v0)), (1, .int v1), (2, .int v2), (3, .int v3), (4, .int v4)]) : zJ p l e rmX7_beginners s m args below meth c b0 cA D L (fun z => MQ below (va_Qi (fun (r : Int32) (u : zS) => (r, u) = z) (zB b0 cA D L) (zA b0 L)) args s 0 0 (zA b0 L)) (bX7_beginners_24 k4 k24 v0 v1 v2 v3 v4 σ) σ 24 ls [] := by
  unfold bX7_beginners_24
  refine zj_iload (pc' := 26) hC dX7_beginners_24 rfl (lv_at hl 4 rfl) ?_
  refine zj_iload_n (pc' := 27) hC dX7_beginners_26 rfl rfl (lv_at hl 1 rfl) ?_
  refine zj_iconst (pc' := 28) (v := (1 : Int32)) hC dX7_beginners_27 rfl rfl ?_
  refine zj_icmp_le (tgt := 36) (pc' := 31) hC dX7_beginners_28 (by decide) rfl (fun c21 => ?_) (fun c21 => ?_)
  · refine zj_iload_n (pc' := 37) hC dX7_beginners_36 rfl rfl (lv_at hl 3 rfl) ?_
    refine zj_iconst (pc' := 38) (v := (1 : Int32)) hC dX7_beginners_37 rfl rfl ?_
    refine zj_iadd (pc' := 39) hC dX7_beginners_38 rfl ?_
    exact jX7_beginners_39 hC k4 h4 k24 h24 v0 v1 v2 v3 v4 v4 ((v3 + (1 : Int32))) σ ls hk_v0 (lv_sub hl [0, 1, 2, 3, 4] rfl)
  · refine zj_bipush (pc' := 33) (v := (24 : Int32)) hC dX7_beginners_31 rfl rfl ?_
    refine zj_goto (tgt := 39) hC dX7_beginners_33 (by decide) ?_
    exact jX7_beginners_39 hC k4 h4 k24 h24 v0 v1 v2 v3 v4 v4 (24 : Int32) σ ls hk_v0 (lv_sub hl [0, 1, 2, 3, 4] rfl)
set_option maxRecDepth 100000 in
set_option maxHeartbeats 4000000 in
theorem lX7_beginners_24 {p : Program} {l : Launch} {e : Env} {s : State} {m : MethodId} {args : Array Value} {below : List Frame} {meth : Method} {c : Code} {b0 : Nat} {cA : Nat → ClassId} {D : va_G} {L : List (Nat × Nat)} (hC : zC p c s m args meth cX7_beginners 7 (some Jvm.ClassFile.FieldType.int) (Cond.code yX7_beginners cX7_beginners 7 (some Jvm.ClassFile.FieldType.int)) yX7_beginners.cls cA D) (k4 : Nat → Int32 → Int32 → Int32 → zS → Option (Int32 × zS)) (h4 : ∀ (v0 : Nat) (v1 : Int32) (v2 : Int32) (v3 : Int32) (σ : zS) (ls : Array Slot), L[v0]? = some (0, 7) → lv_has ls 7 [(0, .ref (b0 + v0)), (1, .int v1), (2, .int v2), (3, .int v3)] → zJ p l e rmX7_beginners s m args below meth c b0 cA D L (fun z => MQ below (va_Qi (fun (r : Int32) (u : zS) => (r, u) = z) (zB b0 cA D L) (zA b0 L)) args s 0 0 (zA b0 L)) (k4 v0 v1 v2 v3 σ) σ 4 ls []) (n : Nat) : ∀ (v0 : Nat) (v1 : Int32) (v2 : Int32) (v3 : Int32) (v4 : Int32) (σ : zS) (ls : Array Slot), L[v0]? = some (0, 7) → lv_has ls 7 [(0, .ref (b0 + v0)), (1, .int v1), (2, .int v2), (3, .int v3), (4, .int v4)] → zJ p l e rmX7_beginners s m args below meth c b0 cA D L (fun z => MQ below (va_Qi (fun (r : Int32) (u : zS) => (r, u) = z) (zB b0 cA D L) (zA b0 L)) args s 0 0 (zA b0 L)) (fX7_beginners_24 k4 n v0 v1 v2 v3 v4 σ) σ 24 ls [] := by
  induction n with
  | zero => intros; exact zj_none
  | succ n ih => exact jX7_beginners_24 hC k4 h4 (fX7_beginners_24 k4 n) ih
set_option maxRecDepth 100000 in
set_option maxHeartbeats 4000000 in
theorem jX7_beginners_22 {p : Program} {l : Launch} {e : Env} {s : State} {m : MethodId} {args : Array Value} {below : List Frame} {meth : Method} {c : Code} {b0 : Nat} {cA : Nat → ClassId} {D : va_G} {L : List (Nat × Nat)} (hC : zC p c s m args meth cX7_beginners 7 (some Jvm.ClassFile.FieldType.int) (Cond.code yX7_beginners cX7_beginners 7 (some Jvm.ClassFile.FieldType.int)) yX7_beginners.cls cA D) (k4 : Nat → Int32 → Int32 → Int32 → zS → Option (Int32 × zS)) (h4 : ∀ (v0 : Nat) (v1 : Int32) (v2 : Int32) (v3 : Int32) (σ : zS) (ls : Array Slot), L[v0]? = some (0, 7) → lv_has ls 7 [(0, .ref (b0 + v0)), (1, .int v1), (2, .int v2), (3, .int v3)] → zJ p l e rmX7_beginners s m args below meth c b0 cA D L (fun z => MQ below (va_Qi (fun (r : Int32) (u : zS) => (r, u) = z) (zB b0 cA D L) (zA b0 L)) args s 0 0 (zA b0 L)) (k4 v0 v1 v2 v3 σ) σ 4 ls []) (v0 : Nat) (v1 : Int32) (v2 : Int32) (v3 : Int32) (s0 : Int32) (σ : zS) (ls : Array Slot) (hk_v0 : L[v0]? = some (0, 7)) (hl : lv_has ls 7 [(0, .ref (b0 + v0)), (1, .int v1), (2, .int v2), (3, .int v3)]) : zJ p l e rmX7_beginners s m args below meth c b0 cA D L (fun z => MQ below (va_Qi (fun (r : Int32) (u : zS) => (r, u) = z) (zB b0 cA D L) (zA b0 L)) args s 0 0 (zA b0 L)) (bX7_beginners_22 k4 v0 v1 v2 v3 s0 σ) σ 22 ls [.int s0] := by
  unfold bX7_beginners_22
  refine zj_istore (pc' := 24) (lv' := [(4, .int s0), (0, .ref (b0 + v0)), (1, .int v1), (2, .int v2), (3, .int v3)]) hC dX7_beginners_22 rfl hl (by decide) rfl (fun ls hl => ?_)
  exact lX7_beginners_24 hC k4 h4 zFU v0 v1 v2 v3 s0 σ ls hk_v0 (lv_sub hl [1, 2, 3, 4, 0] rfl)
set_option maxRecDepth 100000 in
set_option maxHeartbeats 4000000 in
theorem jX7_beginners_4 {p : Program} {l : Launch} {e : Env} {s : State} {m : MethodId} {args : Array Value} {below : List Frame} {meth : Method} {c : Code} {b0 : Nat} {cA : Nat → ClassId} {D : va_G} {L : List (Nat × Nat)} (hC : zC p c s m args meth cX7_beginners 7 (some Jvm.ClassFile.FieldType.int) (Cond.code yX7_beginners cX7_beginners 7 (some Jvm.ClassFile.FieldType.int)) yX7_beginners.cls cA D) (k4 : Nat → Int32 → Int32 → Int32 → zS → Option (Int32 × zS)) (h4 : ∀ (v0 : Nat) (v1 : Int32) (v2 : Int32) (v3 : Int32) (σ : zS) (ls : Array Slot), L[v0]? = some (0, 7) → lv_has ls 7 [(0, .ref (b0 + v0)), (1, .int v1), (2, .int v2), (3, .int v3)] → zJ p l e rmX7_beginners s m args below meth c b0 cA D L (fun z => MQ below (va_Qi (fun (r : Int32) (u : zS) => (r, u) = z) (zB b0 cA D L) (zA b0 L)) args s 0 0 (zA b0 L)) (k4 v0 v1 v2 v3 σ) σ 4 ls []) (v0 : Nat) (v1 : Int32) (v2 : Int32) (v3 : Int32) (σ : zS) (ls : Array Slot) (hk_v0 : L[v0]? = some (0, 7)) (hl : lv_has ls 7 [(0, .ref (b0 + v0)), (1, .int v1), (2, .int v2), (3, .int v3)]) : zJ p l e rmX7_beginners s m args below meth c b0 cA D L (fun z => MQ below (va_Qi (fun (r : Int32) (u : zS) => (r, u) = z) (zB b0 cA D L) (zA b0 L)) args s 0 0 (zA b0 L)) (bX7_beginners_4 k4 v0 v1 v2 v3 σ) σ 4 ls [] := by
  unfold bX7_beginners_4
  refine zj_iload_n (pc' := 5) hC dX7_beginners_4 rfl rfl (lv_at hl 3 rfl) ?_
  refine zj_bipush (pc' := 7) (v := (24 : Int32)) hC dX7_beginners_5 rfl rfl ?_
  refine zj_icmp_ge (tgt := 159) (pc' := 10) hC dX7_beginners_7 (by decide) rfl (fun c22 => ?_) (fun c22 => ?_)
  · refine zj_iload_n (pc' := 160) hC dX7_beginners_159 rfl rfl (lv_at hl 2 rfl) ?_
    exact zj_iret hC dX7_beginners_160
  · refine zj_iload_n (pc' := 11) hC dX7_beginners_10 rfl rfl (lv_at hl 1 rfl) ?_
    refine zj_iconst (pc' := 12) (v := (1 : Int32)) hC dX7_beginners_11 rfl rfl ?_
    refine zj_icmp_le (tgt := 21) (pc' := 15) hC dX7_beginners_12 (by decide) rfl (fun c23 => ?_) (fun c23 => ?_)
    · refine zj_iload_n (pc' := 22) hC dX7_beginners_21 rfl rfl (lv_at hl 3 rfl) ?_
      exact jX7_beginners_22 hC k4 h4 v0 v1 v2 v3 v3 σ ls hk_v0 (lv_sub hl [0, 1, 2, 3] rfl)
    · refine zj_iload_n (pc' := 16) hC dX7_beginners_15 rfl rfl (lv_at hl 3 rfl) ?_
      refine zj_iconst (pc' := 17) (v := (1 : Int32)) hC dX7_beginners_16 rfl rfl ?_
      refine zj_iadd (pc' := 18) hC dX7_beginners_17 rfl ?_
      refine zj_goto (tgt := 22) hC dX7_beginners_18 (by decide) ?_
      exact jX7_beginners_22 hC k4 h4 v0 v1 v2 v3 ((v3 + (1 : Int32))) σ ls hk_v0 (lv_sub hl [0, 1, 2, 3] rfl)
set_option maxRecDepth 100000 in
set_option maxHeartbeats 4000000 in
theorem lX7_beginners_4 {p : Program} {l : Launch} {e : Env} {s : State} {m : MethodId} {args : Array Value} {below : List Frame} {meth : Method} {c : Code} {b0 : Nat} {cA : Nat → ClassId} {D : va_G} {L : List (Nat × Nat)} (hC : zC p c s m args meth cX7_beginners 7 (some Jvm.ClassFile.FieldType.int) (Cond.code yX7_beginners cX7_beginners 7 (some Jvm.ClassFile.FieldType.int)) yX7_beginners.cls cA D)  (n : Nat) : ∀ (v0 : Nat) (v1 : Int32) (v2 : Int32) (v3 : Int32) (σ : zS) (ls : Array Slot), L[v0]? = some (0, 7) → lv_has ls 7 [(0, .ref (b0 + v0)), (1, .int v1), (2, .int v2), (3, .int v3)] → zJ p l e rmX7_beginners s m args below meth c b0 cA D L (fun z => MQ below (va_Qi (fun (r : Int32) (u : zS) => (r, u) = z) (zB b0 cA D L) (zA b0 L)) args s 0 0 (zA b0 L)) (fX7_beginners_4  n v0 v1 v2 v3 σ) σ 4 ls [] := by
  induction n with
  | zero => intros; exact zj_none
  | succ n ih => exact jX7_beginners_4 hC (fX7_beginners_4  n) ih
set_option maxRecDepth 100000 in
set_option maxHeartbeats 4000000 in
theorem kX7_beginners (l : Launch) (b0 : Nat) (cA : Nat → ClassId) (D : va_G) (L : List (Nat × Nat)) (v0 : Nat) (v1 : Int32) (σ : zS) (hk0 : L[v0]? = some (0, 7)) : zMi l b0 cA D L yX7_beginners (Cond.code yX7_beginners cX7_beginners 7 (some Jvm.ClassFile.FieldType.int)) rmX7_beginners [.ref (b0 + v0), .int v1] σ (fX7_beginners v0 v1 σ) := by
  refine zMi_of (by decide) (Nat.le_of_ble_eq_true rfl) ?_
  intro p e s m below meth c ls hC hl
  have hl : lv_has ls 7 [(0, .ref (b0 + v0)), (1, .int v1)] := hl
  generalize ([.ref (b0 + v0), .int v1] : List Value).toArray = args at hC ⊢
  unfold fX7_beginners
  refine zj_iconst (pc' := 1) (v := (-1 : Int32)) hC dX7_beginners_0 rfl rfl ?_
  refine zj_istore_n (pc' := 2) (lv' := [(2, .int (-1 : Int32)), (0, .ref (b0 + v0)), (1, .int v1)]) hC dX7_beginners_1 rfl rfl hl (by decide) rfl (fun ls hl => ?_)
  refine zj_iconst (pc' := 3) (v := (0 : Int32)) hC dX7_beginners_2 rfl rfl ?_
  refine zj_istore_n (pc' := 4) (lv' := [(3, .int (0 : Int32)), (2, .int (-1 : Int32)), (0, .ref (b0 + v0)), (1, .int v1)]) hC dX7_beginners_3 rfl rfl hl (by decide) rfl (fun ls hl => ?_)
  exact lX7_beginners_4 hC zFU v0 v1 (-1 : Int32) (0 : Int32) σ ls hk0 (lv_sub hl [2, 3, 1, 0] rfl)
-- X7_begins
theorem ddX7_begins : yX7_begins.cls ≠ "java/lang/invoke/MethodHandle" ∧ yX7_begins.cls ≠ "java/lang/invoke/VarHandle" ∧ (parseMethodDescriptor yX7_begins.desc).map (fun d => d.parameters.length) = some 0 := by decide +kernel
abbrev rmX7_begins : Room := { frames := 6, cells := 0, slots := 0, locals := 143 }
def bX7_begins_21 (k21 : Nat → Int32 → zS → Option (Int32 × zS)) (v0 : Nat) (v1 : Int32) (σ : zS) : Option (Int32 × zS) :=
  if (3 : Int32) < v1 then (some ((-2 : Int32), σ)) else (zb (fX7_beginners v0 v1 σ) (fun (r3 : Int32) (σ2 : zS) => if r3 = (-1 : Int32) then (k21 v0 ((v1 + (1 : Int32))) σ2) else (some (r3, σ2))))
def fX7_begins_21  : Nat → Nat → Int32 → zS → Option (Int32 × zS)
  | 0, _, _, _ => none
  | n + 1, v0, v1, σ => bX7_begins_21 (fX7_begins_21  n) v0 v1 σ
def fX7_begins (v0 : Nat) (σ : zS) : Option (Int32 × zS) :=
  zb (fX7_persons v0 σ) (fun (r6 : Int32) (σ5 : zS) => if r6 = 0 then (some ((-1 : Int32), σ5)) else (zb (fX7_isBegun v0 (0 : Int32) σ5) (fun (r9 : Int32) (σ8 : zS) => if r9 = 0 then (fX7_begins_21 zFU v0 (1 : Int32) σ8) else (some ((0 : Int32), σ8)))))
set_option maxRecDepth 100000 in
set_option maxHeartbeats 4000000 in
theorem jX7_begins_21 {p : Program} {l : Launch} {e : Env} {s : State} {m : MethodId} {args : Array Value} {below : List Frame} {meth : Method} {c : Code} {b0 : Nat} {cA : Nat → ClassId} {D : va_G} {L : List (Nat × Nat)} (hC : zC p c s m args meth cX7_begins 3 (some Jvm.ClassFile.FieldType.int) (Cond.code yX7_begins cX7_begins 3 (some Jvm.ClassFile.FieldType.int)) yX7_begins.cls cA D) (k21 : Nat → Int32 → zS → Option (Int32 × zS)) (h21 : ∀ (v0 : Nat) (v1 : Int32) (σ : zS) (ls : Array Slot), L[v0]? = some (0, 7) → lv_has ls 3 [(0, .ref (b0 + v0)), (1, .int v1)] → zJ p l e rmX7_begins s m args below meth c b0 cA D L (fun z => MQ below (va_Qi (fun (r : Int32) (u : zS) => (r, u) = z) (zB b0 cA D L) (zA b0 L)) args s 0 0 (zA b0 L)) (k21 v0 v1 σ) σ 21 ls []) (v0 : Nat) (v1 : Int32) (σ : zS) (ls : Array Slot) (hk_v0 : L[v0]? = some (0, 7)) (hl : lv_has ls 3 [(0, .ref (b0 + v0)), (1, .int v1)]) : zJ p l e rmX7_begins s m args below meth c b0 cA D L (fun z => MQ below (va_Qi (fun (r : Int32) (u : zS) => (r, u) = z) (zB b0 cA D L) (zA b0 L)) args s 0 0 (zA b0 L)) (bX7_begins_21 k21 v0 v1 σ) σ 21 ls [] := by
  unfold bX7_begins_21
  refine zj_iload_n (pc' := 22) hC dX7_begins_21 rfl rfl (lv_at hl 1 rfl) ?_
  refine zj_iconst (pc' := 23) (v := (3 : Int32)) hC dX7_begins_22 rfl rfl ?_
  refine zj_icmp_gt (tgt := 45) (pc' := 26) hC dX7_begins_23 (by decide) rfl (fun c1 => ?_) (fun c1 => ?_)
  · refine zj_bipush (pc' := 47) (v := (-2 : Int32)) hC dX7_begins_45 rfl rfl ?_
    exact zj_iret hC dX7_begins_47
  · refine zj_aload_n (pc' := 27) hC dX7_begins_26 rfl rfl (lv_at hl 0 rfl) ?_
    refine zj_iload_n (pc' := 28) hC dX7_begins_27 rfl rfl (lv_at hl 1 rfl) ?_
    refine zj_calliV (pc' := 31) (rest := []) hC (kX7_beginners l b0 cA D L v0 v1 σ hk_v0) hk_v0 rfl tw_5_205 tw_5_202 tw_5_204 ts_5_6 tw_1_8 ddX7_beginners rfl ⟨rfl, rfl⟩ ⟨by decide, by decide⟩ hl.1 (Nat.le_of_ble_eq_true rfl) rfl dX7_begins_28 rfl (fun r3 σ2 => ?_)
    refine zj_istore_n (pc' := 32) (lv' := [(2, .int r3), (0, .ref (b0 + v0)), (1, .int v1)]) hC dX7_begins_31 rfl rfl hl (by decide) rfl (fun ls hl => ?_)
    refine zj_iload_n (pc' := 33) hC dX7_begins_32 rfl rfl (lv_at hl 0 rfl) ?_
    refine zj_iconst (pc' := 34) (v := (-1 : Int32)) hC dX7_begins_33 rfl rfl ?_
    refine zj_icmp_eq (tgt := 39) (pc' := 37) hC dX7_begins_34 (by decide) rfl (fun c4 => ?_) (fun c4 => ?_)
    · refine zj_iinc (pc' := 42) (k0 := 2) (v := (v1 + (1 : Int32))) (lv' := [(1, .int (v1 + (1 : Int32))), (2, .int r3), (0, .ref (b0 + v0))]) hC dX7_begins_39 rfl hl rfl rfl (by decide) rfl (fun ls hl => ?_)
      refine zj_goto (tgt := 21) hC dX7_begins_42 (by decide) ?_
      exact h21 v0 ((v1 + (1 : Int32))) σ2 ls hk_v0 (lv_sub hl [2, 0] rfl)
    · refine zj_iload_n (pc' := 38) hC dX7_begins_37 rfl rfl (lv_at hl 0 rfl) ?_
      exact zj_iret hC dX7_begins_38
set_option maxRecDepth 100000 in
set_option maxHeartbeats 4000000 in
theorem lX7_begins_21 {p : Program} {l : Launch} {e : Env} {s : State} {m : MethodId} {args : Array Value} {below : List Frame} {meth : Method} {c : Code} {b0 : Nat} {cA : Nat → ClassId} {D : va_G} {L : List (Nat × Nat)} (hC : zC p c s m args meth cX7_begins 3 (some Jvm.ClassFile.FieldType.int) (Cond.code yX7_begins cX7_begins 3 (some Jvm.ClassFile.FieldType.int)) yX7_begins.cls cA D)  (n : Nat) : ∀ (v0 : Nat) (v1 : Int32) (σ : zS) (ls : Array Slot), L[v0]? = some (0, 7) → lv_has ls 3 [(0, .ref (b0 + v0)), (1, .int v1)] → zJ p l e rmX7_begins s m args below meth c b0 cA D L (fun z => MQ below (va_Qi (fun (r : Int32) (u : zS) => (r, u) = z) (zB b0 cA D L) (zA b0 L)) args s 0 0 (zA b0 L)) (fX7_begins_21  n v0 v1 σ) σ 21 ls [] := by
  induction n with
  | zero => intros; exact zj_none
  | succ n ih => exact jX7_begins_21 hC (fX7_begins_21  n) ih
set_option maxRecDepth 100000 in
set_option maxHeartbeats 4000000 in
theorem kX7_begins (l : Launch) (b0 : Nat) (cA : Nat → ClassId) (D : va_G) (L : List (Nat × Nat)) (v0 : Nat) (σ : zS) (hk0 : L[v0]? = some (0, 7)) : zMi l b0 cA D L yX7_begins (Cond.code yX7_begins cX7_begins 3 (some Jvm.ClassFile.FieldType.int)) rmX7_begins [.ref (b0 + v0)] σ (fX7_begins v0 σ) := by
  refine zMi_of (by decide) (Nat.le_of_ble_eq_true rfl) ?_
  intro p e s m below meth c ls hC hl
  have hl : lv_has ls 3 [(0, .ref (b0 + v0))] := hl
  generalize ([.ref (b0 + v0)] : List Value).toArray = args at hC ⊢
  unfold fX7_begins
  refine zj_aload_n (pc' := 1) hC dX7_begins_0 rfl rfl (lv_at hl 0 rfl) ?_
  refine zj_calliV (pc' := 4) (rest := []) hC (kX7_persons l b0 cA D L v0 σ hk0) hk0 rfl tw_4_218 tw_4_215 tw_4_217 ts_3_3 tw_1_8 ddX7_persons rfl ⟨rfl, rfl⟩ ⟨by decide, by decide⟩ hl.1 (Nat.le_of_ble_eq_true rfl) rfl dX7_begins_1 rfl (fun r6 σ5 => ?_)
  refine zj_if_ne (tgt := 9) (pc' := 7) hC dX7_begins_4 (by decide) rfl (fun c7 => ?_) (fun c7 => ?_)
  · refine zj_aload_n (pc' := 10) hC dX7_begins_9 rfl rfl (lv_at hl 0 rfl) ?_
    refine zj_iconst (pc' := 11) (v := (0 : Int32)) hC dX7_begins_10 rfl rfl ?_
    refine zj_callzV (pc' := 14) (rest := []) hC (kX7_isBegun l b0 cA D L v0 (0 : Int32) σ5 hk0) hk0 rfl tw_5_197 tw_5_194 tw_5_196 ts_5_4 tw_1_8 ddX7_isBegun rfl ⟨rfl, rfl⟩ ⟨by decide, by decide⟩ hl.1 (Nat.le_of_ble_eq_true rfl) rfl dX7_begins_11 rfl (fun r9 σ8 hb_r9 => ?_)
    refine zj_if_eq (tgt := 19) (pc' := 17) hC dX7_begins_14 (by decide) rfl (fun c10 => ?_) (fun c10 => ?_)
    · refine zj_iconst (pc' := 20) (v := (1 : Int32)) hC dX7_begins_19 rfl rfl ?_
      refine zj_istore_n (pc' := 21) (lv' := [(1, .int (1 : Int32)), (0, .ref (b0 + v0))]) hC dX7_begins_20 rfl rfl hl (by decide) rfl (fun ls hl => ?_)
      exact lX7_begins_21 hC zFU v0 (1 : Int32) σ8 ls hk0 (lv_sub hl [1, 0] rfl)
    · refine zj_iconst (pc' := 18) (v := (0 : Int32)) hC dX7_begins_17 rfl rfl ?_
      exact zj_iret hC dX7_begins_18
  · refine zj_iconst (pc' := 8) (v := (-1 : Int32)) hC dX7_begins_7 rfl rfl ?_
    exact zj_iret hC dX7_begins_8
-- X7_silent
theorem ddX7_silent : yX7_silent.cls ≠ "java/lang/invoke/MethodHandle" ∧ yX7_silent.cls ≠ "java/lang/invoke/VarHandle" ∧ (parseMethodDescriptor yX7_silent.desc).map (fun d => d.parameters.length) = some 1 := by decide +kernel
abbrev rmX7_silent : Room := { frames := 4, cells := 0, slots := 0, locals := 95 }
def bX7_silent_117 (k34 : Nat → Int32 → Int32 → Int32 → zS → Option (Int32 × zS)) (v0 : Nat) (v1 : Int32) (v4 : Int32) (s0 : Int32) (s1 : Int32) (σ : zS) : Option (Int32 × zS) :=
  bnd ((s0 + s1)) (fun (x1 : Int32) => k34 v0 v1 x1 ((v4 + (1 : Int32))) σ)
def bX7_silent_116 (k117 : Nat → Int32 → Int32 → Int32 → Int32 → zS → Option (Int32 × zS)) (v0 : Nat) (v1 : Int32) (v4 : Int32) (s0 : Int32) (σ : zS) : Option (Int32 × zS) :=
  k117 v0 v1 v4 s0 (0 : Int32) σ
def bX7_silent_112 (k117 : Nat → Int32 → Int32 → Int32 → Int32 → zS → Option (Int32 × zS)) (v0 : Nat) (v1 : Int32) (v4 : Int32) (s0 : Int32) (σ : zS) : Option (Int32 × zS) :=
  k117 v0 v1 v4 s0 (1 : Int32) σ
def bX7_silent_90 (k34 : Nat → Int32 → Int32 → Int32 → zS → Option (Int32 × zS)) (v0 : Nat) (v1 : Int32) (v3 : Int32) (v4 : Int32) (v5 : Int32) (σ : zS) : Option (Int32 × zS) :=
  if v5 = 0 then (bX7_silent_116 (bX7_silent_117 k34) v0 v1 v4 v3 σ) else (if v1 = (1 : Int32) then (bX7_silent_112 (bX7_silent_117 k34) v0 v1 v4 v3 σ) else (bnd (σ.2 v0 5) (fun (q4 : Nat) => zX v4 24 (if (σ.1 q4 (v4).toNatClampNeg) = (1 : Int32) then (bX7_silent_112 (bX7_silent_117 k34) v0 v1 v4 v3 σ) else (bX7_silent_116 (bX7_silent_117 k34) v0 v1 v4 v3 σ)))))
def bX7_silent_82 (k47 : Nat → Int32 → Int32 → Int32 → Int32 → Int32 → zS → Option (Int32 × zS)) (v0 : Nat) (v1 : Int32) (v3 : Int32) (v4 : Int32) (v6 : Int32) (s0 : Int32) (σ : zS) : Option (Int32 × zS) :=
  k47 v0 v1 v3 v4 s0 ((v6 + (1 : Int32))) σ
def bX7_silent_77 (k82 : Nat → Int32 → Int32 → Int32 → Int32 → Int32 → zS → Option (Int32 × zS)) (v0 : Nat) (v1 : Int32) (v3 : Int32) (v4 : Int32) (v6 : Int32) (σ : zS) : Option (Int32 × zS) :=
  k82 v0 v1 v3 v4 v6 (1 : Int32) σ
def bX7_silent_47 (k34 : Nat → Int32 → Int32 → Int32 → zS → Option (Int32 × zS)) (k47 : Nat → Int32 → Int32 → Int32 → Int32 → Int32 → zS → Option (Int32 × zS)) (v0 : Nat) (v1 : Int32) (v3 : Int32) (v4 : Int32) (v5 : Int32) (v6 : Int32) (σ : zS) : Option (Int32 × zS) :=
  if (σ.1 v0 1) ≤ v6 then (bX7_silent_90 k34 v0 v1 v3 v4 v5 σ) else (if v5 = 0 then (bnd (σ.2 v0 32) (fun (q9 : Nat) => zX (((24 : Int32) * v6) + v4) 960 (if (σ.1 q9 ((((24 : Int32) * v6) + v4)).toNatClampNeg) = 0 then (bX7_silent_82 k47 v0 v1 v3 v4 v6 (0 : Int32) σ) else (bX7_silent_77 (bX7_silent_82 k47) v0 v1 v3 v4 v6 σ)))) else (bX7_silent_77 (bX7_silent_82 k47) v0 v1 v3 v4 v6 σ))
def fX7_silent_47 (k34 : Nat → Int32 → Int32 → Int32 → zS → Option (Int32 × zS)) : Nat → Nat → Int32 → Int32 → Int32 → Int32 → Int32 → zS → Option (Int32 × zS)
  | 0, _, _, _, _, _, _, _ => none
  | n + 1, v0, v1, v3, v4, v5, v6, σ => bX7_silent_47 k34 (fX7_silent_47 k34 n) v0 v1 v3 v4 v5 v6 σ
def bX7_silent_34 (k34 : Nat → Int32 → Int32 → Int32 → zS → Option (Int32 × zS)) (v0 : Nat) (v1 : Int32) (v3 : Int32) (v4 : Int32) (σ : zS) : Option (Int32 × zS) :=
  if (24 : Int32) ≤ v4 then (some (v3, σ)) else (fX7_silent_47 k34 zFU v0 v1 v3 v4 (0 : Int32) (0 : Int32) σ)
def fX7_silent_34  : Nat → Nat → Int32 → Int32 → Int32 → zS → Option (Int32 × zS)
  | 0, _, _, _, _, _ => none
  | n + 1, v0, v1, v3, v4, σ => bX7_silent_34 (fX7_silent_34  n) v0 v1 v3 v4 σ
def fX7_silent (v0 : Nat) (v1 : Int32) (σ : zS) : Option (Int32 × zS) :=
  zb (fX7_in v1 (0 : Int32) (2 : Int32) σ) (fun (r14 : Int32) (σ13 : zS) => if r14 = 0 then (some ((-1000000 : Int32), σ13)) else (zb (fX7_nobody v0 σ13) (fun (_ : Unit) (σ16 : zS) => zb (fX7_plays v0 (0 : Int32) σ16) (fun (r19 : Int32) (σ18 : zS) => if v1 = 0 then (some (r19, σ18)) else (fX7_silent_34 zFU v0 v1 (0 : Int32) (0 : Int32) σ18)))))
set_option maxRecDepth 100000 in
set_option maxHeartbeats 4000000 in
theorem jX7_silent_117 {p : Program} {l : Launch} {e : Env} {s : State} {m : MethodId} {args : Array Value} {below : List Frame} {meth : Method} {c : Code} {b0 : Nat} {cA : Nat → ClassId} {D : va_G} {L : List (Nat × Nat)} (hC : zC p c s m args meth cX7_silent 7 (some Jvm.ClassFile.FieldType.int) (Cond.code yX7_silent cX7_silent 7 (some Jvm.ClassFile.FieldType.int)) yX7_silent.cls cA D) (k34 : Nat → Int32 → Int32 → Int32 → zS → Option (Int32 × zS)) (h34 : ∀ (v0 : Nat) (v1 : Int32) (v3 : Int32) (v4 : Int32) (σ : zS) (ls : Array Slot), L[v0]? = some (0, 7) → lv_has ls 7 [(0, .ref (b0 + v0)), (1, .int v1), (3, .int v3), (4, .int v4)] → zJ p l e rmX7_silent s m args below meth c b0 cA D L (fun z => MQ below (va_Qi (fun (r : Int32) (u : zS) => (r, u) = z) (zB b0 cA D L) (zA b0 L)) args s 0 0 (zA b0 L)) (k34 v0 v1 v3 v4 σ) σ 34 ls []) (v0 : Nat) (v1 : Int32) (v4 : Int32) (s0 : Int32) (s1 : Int32) (σ : zS) (ls : Array Slot) (hk_v0 : L[v0]? = some (0, 7)) (hb_s1 : nB s1) (hl : lv_has ls 7 [(0, .ref (b0 + v0)), (1, .int v1), (4, .int v4)]) : zJ p l e rmX7_silent s m args below meth c b0 cA D L (fun z => MQ below (va_Qi (fun (r : Int32) (u : zS) => (r, u) = z) (zB b0 cA D L) (zA b0 L)) args s 0 0 (zA b0 L)) (bX7_silent_117 k34 v0 v1 v4 s0 s1 σ) σ 117 ls [.int s1, .int s0] := by
  unfold bX7_silent_117
  refine zj_iadd (pc' := 118) hC dX7_silent_117 rfl ?_
  refine zj_nmi (fun x1 => ?_)
  refine zj_istore_n (pc' := 119) (lv' := [(3, .int x1), (0, .ref (b0 + v0)), (1, .int v1), (4, .int v4)]) hC dX7_silent_118 rfl rfl hl (by decide) rfl (fun ls hl => ?_)
  refine zj_iinc (pc' := 122) (k0 := 3) (v := (v4 + (1 : Int32))) (lv' := [(4, .int (v4 + (1 : Int32))), (3, .int x1), (0, .ref (b0 + v0)), (1, .int v1)]) hC dX7_silent_119 rfl hl rfl rfl (by decide) rfl (fun ls hl => ?_)
  refine zj_goto (tgt := 34) hC dX7_silent_122 (by decide) ?_
  exact h34 v0 v1 x1 ((v4 + (1 : Int32))) σ ls hk_v0 (lv_sub hl [2, 3, 1, 0] rfl)
set_option maxRecDepth 100000 in
set_option maxHeartbeats 4000000 in
theorem jX7_silent_116 {p : Program} {l : Launch} {e : Env} {s : State} {m : MethodId} {args : Array Value} {below : List Frame} {meth : Method} {c : Code} {b0 : Nat} {cA : Nat → ClassId} {D : va_G} {L : List (Nat × Nat)} (hC : zC p c s m args meth cX7_silent 7 (some Jvm.ClassFile.FieldType.int) (Cond.code yX7_silent cX7_silent 7 (some Jvm.ClassFile.FieldType.int)) yX7_silent.cls cA D) (k117 : Nat → Int32 → Int32 → Int32 → Int32 → zS → Option (Int32 × zS)) (h117 : ∀ (v0 : Nat) (v1 : Int32) (v4 : Int32) (s0 : Int32) (s1 : Int32) (σ : zS) (ls : Array Slot), L[v0]? = some (0, 7) → nB s1 → lv_has ls 7 [(0, .ref (b0 + v0)), (1, .int v1), (4, .int v4)] → zJ p l e rmX7_silent s m args below meth c b0 cA D L (fun z => MQ below (va_Qi (fun (r : Int32) (u : zS) => (r, u) = z) (zB b0 cA D L) (zA b0 L)) args s 0 0 (zA b0 L)) (k117 v0 v1 v4 s0 s1 σ) σ 117 ls [.int s1, .int s0]) (v0 : Nat) (v1 : Int32) (v4 : Int32) (s0 : Int32) (σ : zS) (ls : Array Slot) (hk_v0 : L[v0]? = some (0, 7)) (hl : lv_has ls 7 [(0, .ref (b0 + v0)), (1, .int v1), (4, .int v4)]) : zJ p l e rmX7_silent s m args below meth c b0 cA D L (fun z => MQ below (va_Qi (fun (r : Int32) (u : zS) => (r, u) = z) (zB b0 cA D L) (zA b0 L)) args s 0 0 (zA b0 L)) (bX7_silent_116 k117 v0 v1 v4 s0 σ) σ 116 ls [.int s0] := by
  unfold bX7_silent_116
  refine zj_iconst (pc' := 117) (v := (0 : Int32)) hC dX7_silent_116 rfl rfl ?_
  exact h117 v0 v1 v4 s0 (0 : Int32) σ ls hk_v0 nB_0 (lv_sub hl [0, 1, 2] rfl)
set_option maxRecDepth 100000 in
set_option maxHeartbeats 4000000 in
theorem jX7_silent_112 {p : Program} {l : Launch} {e : Env} {s : State} {m : MethodId} {args : Array Value} {below : List Frame} {meth : Method} {c : Code} {b0 : Nat} {cA : Nat → ClassId} {D : va_G} {L : List (Nat × Nat)} (hC : zC p c s m args meth cX7_silent 7 (some Jvm.ClassFile.FieldType.int) (Cond.code yX7_silent cX7_silent 7 (some Jvm.ClassFile.FieldType.int)) yX7_silent.cls cA D) (k117 : Nat → Int32 → Int32 → Int32 → Int32 → zS → Option (Int32 × zS)) (h117 : ∀ (v0 : Nat) (v1 : Int32) (v4 : Int32) (s0 : Int32) (s1 : Int32) (σ : zS) (ls : Array Slot), L[v0]? = some (0, 7) → nB s1 → lv_has ls 7 [(0, .ref (b0 + v0)), (1, .int v1), (4, .int v4)] → zJ p l e rmX7_silent s m args below meth c b0 cA D L (fun z => MQ below (va_Qi (fun (r : Int32) (u : zS) => (r, u) = z) (zB b0 cA D L) (zA b0 L)) args s 0 0 (zA b0 L)) (k117 v0 v1 v4 s0 s1 σ) σ 117 ls [.int s1, .int s0]) (v0 : Nat) (v1 : Int32) (v4 : Int32) (s0 : Int32) (σ : zS) (ls : Array Slot) (hk_v0 : L[v0]? = some (0, 7)) (hl : lv_has ls 7 [(0, .ref (b0 + v0)), (1, .int v1), (4, .int v4)]) : zJ p l e rmX7_silent s m args below meth c b0 cA D L (fun z => MQ below (va_Qi (fun (r : Int32) (u : zS) => (r, u) = z) (zB b0 cA D L) (zA b0 L)) args s 0 0 (zA b0 L)) (bX7_silent_112 k117 v0 v1 v4 s0 σ) σ 112 ls [.int s0] := by
  unfold bX7_silent_112
  refine zj_iconst (pc' := 113) (v := (1 : Int32)) hC dX7_silent_112 rfl rfl ?_
  refine zj_goto (tgt := 117) hC dX7_silent_113 (by decide) ?_
  exact h117 v0 v1 v4 s0 (1 : Int32) σ ls hk_v0 nB_1 (lv_sub hl [0, 1, 2] rfl)
set_option maxRecDepth 100000 in
set_option maxHeartbeats 4000000 in
theorem jX7_silent_90 {p : Program} {l : Launch} {e : Env} {s : State} {m : MethodId} {args : Array Value} {below : List Frame} {meth : Method} {c : Code} {b0 : Nat} {cA : Nat → ClassId} {D : va_G} {L : List (Nat × Nat)} (hC : zC p c s m args meth cX7_silent 7 (some Jvm.ClassFile.FieldType.int) (Cond.code yX7_silent cX7_silent 7 (some Jvm.ClassFile.FieldType.int)) yX7_silent.cls cA D) (k34 : Nat → Int32 → Int32 → Int32 → zS → Option (Int32 × zS)) (h34 : ∀ (v0 : Nat) (v1 : Int32) (v3 : Int32) (v4 : Int32) (σ : zS) (ls : Array Slot), L[v0]? = some (0, 7) → lv_has ls 7 [(0, .ref (b0 + v0)), (1, .int v1), (3, .int v3), (4, .int v4)] → zJ p l e rmX7_silent s m args below meth c b0 cA D L (fun z => MQ below (va_Qi (fun (r : Int32) (u : zS) => (r, u) = z) (zB b0 cA D L) (zA b0 L)) args s 0 0 (zA b0 L)) (k34 v0 v1 v3 v4 σ) σ 34 ls []) (v0 : Nat) (v1 : Int32) (v3 : Int32) (v4 : Int32) (v5 : Int32) (σ : zS) (ls : Array Slot) (hk_v0 : L[v0]? = some (0, 7)) (hb_v5 : nB v5) (hl : lv_has ls 7 [(0, .ref (b0 + v0)), (1, .int v1), (3, .int v3), (4, .int v4), (5, .int v5)]) : zJ p l e rmX7_silent s m args below meth c b0 cA D L (fun z => MQ below (va_Qi (fun (r : Int32) (u : zS) => (r, u) = z) (zB b0 cA D L) (zA b0 L)) args s 0 0 (zA b0 L)) (bX7_silent_90 k34 v0 v1 v3 v4 v5 σ) σ 90 ls [] := by
  unfold bX7_silent_90
  refine zj_iload_n (pc' := 91) hC dX7_silent_90 rfl rfl (lv_at hl 2 rfl) ?_
  refine zj_iload (pc' := 93) hC dX7_silent_91 rfl (lv_at hl 4 rfl) ?_
  refine zj_if_eq (tgt := 116) (pc' := 96) hC dX7_silent_93 (by decide) rfl (fun c2 => ?_) (fun c2 => ?_)
  · exact jX7_silent_116 hC (bX7_silent_117 k34) (jX7_silent_117 hC k34 h34) v0 v1 v4 v3 σ ls hk_v0 (lv_sub hl [0, 1, 3] rfl)
  · refine zj_iload_n (pc' := 97) hC dX7_silent_96 rfl rfl (lv_at hl 1 rfl) ?_
    refine zj_iconst (pc' := 98) (v := (1 : Int32)) hC dX7_silent_97 rfl rfl ?_
    refine zj_icmp_eq (tgt := 112) (pc' := 101) hC dX7_silent_98 (by decide) rfl (fun c3 => ?_) (fun c3 => ?_)
    · exact jX7_silent_112 hC (bX7_silent_117 k34) (jX7_silent_117 hC k34 h34) v0 v1 v4 v3 σ ls hk_v0 (lv_sub hl [0, 1, 3] rfl)
    · refine zj_aload_n (pc' := 102) hC dX7_silent_101 rfl rfl (lv_at hl 0 rfl) ?_
      refine zj_getR (pc' := 105) hC hk_v0 fd_7_5 rfl tw_4_53 dX7_silent_102 rfl (fun q4 hk_q4 => ?_)
      refine zj_iload (pc' := 107) hC dX7_silent_105 rfl (lv_at hl 3 rfl) ?_
      refine zj_iald (pc' := 108) hC hk_q4 dX7_silent_107 rfl (fun g5 => ?_)
      refine zj_iconst (pc' := 109) (v := (1 : Int32)) hC dX7_silent_108 rfl rfl ?_
      refine zj_icmp_ne (tgt := 116) (pc' := 112) hC dX7_silent_109 (by decide) rfl (fun c6 => ?_) (fun c6 => ?_)
      · exact jX7_silent_116 hC (bX7_silent_117 k34) (jX7_silent_117 hC k34 h34) v0 v1 v4 v3 σ ls hk_v0 (lv_sub hl [0, 1, 3] rfl)
      · exact jX7_silent_112 hC (bX7_silent_117 k34) (jX7_silent_117 hC k34 h34) v0 v1 v4 v3 σ ls hk_v0 (lv_sub hl [0, 1, 3] rfl)
set_option maxRecDepth 100000 in
set_option maxHeartbeats 4000000 in
theorem jX7_silent_82 {p : Program} {l : Launch} {e : Env} {s : State} {m : MethodId} {args : Array Value} {below : List Frame} {meth : Method} {c : Code} {b0 : Nat} {cA : Nat → ClassId} {D : va_G} {L : List (Nat × Nat)} (hC : zC p c s m args meth cX7_silent 7 (some Jvm.ClassFile.FieldType.int) (Cond.code yX7_silent cX7_silent 7 (some Jvm.ClassFile.FieldType.int)) yX7_silent.cls cA D) (k47 : Nat → Int32 → Int32 → Int32 → Int32 → Int32 → zS → Option (Int32 × zS)) (h47 : ∀ (v0 : Nat) (v1 : Int32) (v3 : Int32) (v4 : Int32) (v5 : Int32) (v6 : Int32) (σ : zS) (ls : Array Slot), L[v0]? = some (0, 7) → nB v5 → lv_has ls 7 [(0, .ref (b0 + v0)), (1, .int v1), (3, .int v3), (4, .int v4), (5, .int v5), (6, .int v6)] → zJ p l e rmX7_silent s m args below meth c b0 cA D L (fun z => MQ below (va_Qi (fun (r : Int32) (u : zS) => (r, u) = z) (zB b0 cA D L) (zA b0 L)) args s 0 0 (zA b0 L)) (k47 v0 v1 v3 v4 v5 v6 σ) σ 47 ls []) (v0 : Nat) (v1 : Int32) (v3 : Int32) (v4 : Int32) (v6 : Int32) (s0 : Int32) (σ : zS) (ls : Array Slot) (hk_v0 : L[v0]? = some (0, 7)) (hb_s0 : nB s0) (hl : lv_has ls 7 [(0, .ref (b0 + v0)), (1, .int v1), (3, .int v3), (4, .int v4), (6, .int v6)]) : zJ p l e rmX7_silent s m args below meth c b0 cA D L (fun z => MQ below (va_Qi (fun (r : Int32) (u : zS) => (r, u) = z) (zB b0 cA D L) (zA b0 L)) args s 0 0 (zA b0 L)) (bX7_silent_82 k47 v0 v1 v3 v4 v6 s0 σ) σ 82 ls [.int s0] := by
  unfold bX7_silent_82
  refine zj_istore (pc' := 84) (lv' := [(5, .int s0), (0, .ref (b0 + v0)), (1, .int v1), (3, .int v3), (4, .int v4), (6, .int v6)]) hC dX7_silent_82 rfl hl (by decide) rfl (fun ls hl => ?_)
  refine zj_iinc (pc' := 87) (k0 := 5) (v := (v6 + (1 : Int32))) (lv' := [(6, .int (v6 + (1 : Int32))), (5, .int s0), (0, .ref (b0 + v0)), (1, .int v1), (3, .int v3), (4, .int v4)]) hC dX7_silent_84 rfl hl rfl rfl (by decide) rfl (fun ls hl => ?_)
  refine zj_goto (tgt := 47) hC dX7_silent_87 (by decide) ?_
  exact h47 v0 v1 v3 v4 s0 ((v6 + (1 : Int32))) σ ls hk_v0 hb_s0 (lv_sub hl [2, 3, 4, 5, 1, 0] rfl)
set_option maxRecDepth 100000 in
set_option maxHeartbeats 4000000 in
theorem jX7_silent_77 {p : Program} {l : Launch} {e : Env} {s : State} {m : MethodId} {args : Array Value} {below : List Frame} {meth : Method} {c : Code} {b0 : Nat} {cA : Nat → ClassId} {D : va_G} {L : List (Nat × Nat)} (hC : zC p c s m args meth cX7_silent 7 (some Jvm.ClassFile.FieldType.int) (Cond.code yX7_silent cX7_silent 7 (some Jvm.ClassFile.FieldType.int)) yX7_silent.cls cA D) (k82 : Nat → Int32 → Int32 → Int32 → Int32 → Int32 → zS → Option (Int32 × zS)) (h82 : ∀ (v0 : Nat) (v1 : Int32) (v3 : Int32) (v4 : Int32) (v6 : Int32) (s0 : Int32) (σ : zS) (ls : Array Slot), L[v0]? = some (0, 7) → nB s0 → lv_has ls 7 [(0, .ref (b0 + v0)), (1, .int v1), (3, .int v3), (4, .int v4), (6, .int v6)] → zJ p l e rmX7_silent s m args below meth c b0 cA D L (fun z => MQ below (va_Qi (fun (r : Int32) (u : zS) => (r, u) = z) (zB b0 cA D L) (zA b0 L)) args s 0 0 (zA b0 L)) (k82 v0 v1 v3 v4 v6 s0 σ) σ 82 ls [.int s0]) (v0 : Nat) (v1 : Int32) (v3 : Int32) (v4 : Int32) (v6 : Int32) (σ : zS) (ls : Array Slot) (hk_v0 : L[v0]? = some (0, 7)) (hl : lv_has ls 7 [(0, .ref (b0 + v0)), (1, .int v1), (3, .int v3), (4, .int v4), (6, .int v6)]) : zJ p l e rmX7_silent s m args below meth c b0 cA D L (fun z => MQ below (va_Qi (fun (r : Int32) (u : zS) => (r, u) = z) (zB b0 cA D L) (zA b0 L)) args s 0 0 (zA b0 L)) (bX7_silent_77 k82 v0 v1 v3 v4 v6 σ) σ 77 ls [] := by
  unfold bX7_silent_77
  refine zj_iconst (pc' := 78) (v := (1 : Int32)) hC dX7_silent_77 rfl rfl ?_
  refine zj_goto (tgt := 82) hC dX7_silent_78 (by decide) ?_
  exact h82 v0 v1 v3 v4 v6 (1 : Int32) σ ls hk_v0 nB_1 (lv_sub hl [0, 1, 2, 3, 4] rfl)
set_option maxRecDepth 100000 in
set_option maxHeartbeats 4000000 in
theorem jX7_silent_47 {p : Program} {l : Launch} {e : Env} {s : State} {m : MethodId} {args : Array Value} {below : List Frame} {meth : Method} {c : Code} {b0 : Nat} {cA : Nat → ClassId} {D : va_G} {L : List (Nat × Nat)} (hC : zC p c s m args meth cX7_silent 7 (some Jvm.ClassFile.FieldType.int) (Cond.code yX7_silent cX7_silent 7 (some Jvm.ClassFile.FieldType.int)) yX7_silent.cls cA D) (k34 : Nat → Int32 → Int32 → Int32 → zS → Option (Int32 × zS)) (h34 : ∀ (v0 : Nat) (v1 : Int32) (v3 : Int32) (v4 : Int32) (σ : zS) (ls : Array Slot), L[v0]? = some (0, 7) → lv_has ls 7 [(0, .ref (b0 + v0)), (1, .int v1), (3, .int v3), (4, .int v4)] → zJ p l e rmX7_silent s m args below meth c b0 cA D L (fun z => MQ below (va_Qi (fun (r : Int32) (u : zS) => (r, u) = z) (zB b0 cA D L) (zA b0 L)) args s 0 0 (zA b0 L)) (k34 v0 v1 v3 v4 σ) σ 34 ls []) (k47 : Nat → Int32 → Int32 → Int32 → Int32 → Int32 → zS → Option (Int32 × zS)) (h47 : ∀ (v0 : Nat) (v1 : Int32) (v3 : Int32) (v4 : Int32) (v5 : Int32) (v6 : Int32) (σ : zS) (ls : Array Slot), L[v0]? = some (0, 7) → nB v5 → lv_has ls 7 [(0, .ref (b0 + v0)), (1, .int v1), (3, .int v3), (4, .int v4), (5, .int v5), (6, .int v6)] → zJ p l e rmX7_silent s m args below meth c b0 cA D L (fun z => MQ below (va_Qi (fun (r : Int32) (u : zS) => (r, u) = z) (zB b0 cA D L) (zA b0 L)) args s 0 0 (zA b0 L)) (k47 v0 v1 v3 v4 v5 v6 σ) σ 47 ls []) (v0 : Nat) (v1 : Int32) (v3 : Int32) (v4 : Int32) (v5 : Int32) (v6 : Int32) (σ : zS) (ls : Array Slot) (hk_v0 : L[v0]? = some (0, 7)) (hb_v5 : nB v5) (hl : lv_has ls 7 [(0, .ref (b0 + v0)), (1, .int v1), (3, .int v3), (4, .int v4), (5, .int v5), (6, .int v6)]) : zJ p l e rmX7_silent s m args below meth c b0 cA D L (fun z => MQ below (va_Qi (fun (r : Int32) (u : zS) => (r, u) = z) (zB b0 cA D L) (zA b0 L)) args s 0 0 (zA b0 L)) (bX7_silent_47 k34 k47 v0 v1 v3 v4 v5 v6 σ) σ 47 ls [] := by
  unfold bX7_silent_47
  refine zj_iload (pc' := 49) hC dX7_silent_47 rfl (lv_at hl 5 rfl) ?_
  refine zj_aload_n (pc' := 50) hC dX7_silent_49 rfl rfl (lv_at hl 0 rfl) ?_
  refine zj_getI (pc' := 53) hC hk_v0 fd_7_1 rfl tw_4_49 dX7_silent_50 rfl ?_
  refine zj_icmp_ge (tgt := 90) (pc' := 56) hC dX7_silent_53 (by decide) rfl (fun c7 => ?_) (fun c7 => ?_)
  · exact jX7_silent_90 hC k34 h34 v0 v1 v3 v4 v5 σ ls hk_v0 hb_v5 (lv_sub hl [0, 1, 2, 3, 4] rfl)
  · refine zj_iload (pc' := 58) hC dX7_silent_56 rfl (lv_at hl 4 rfl) ?_
    refine zj_if_ne (tgt := 77) (pc' := 61) hC dX7_silent_58 (by decide) rfl (fun c8 => ?_) (fun c8 => ?_)
    · exact jX7_silent_77 hC (bX7_silent_82 k47) (jX7_silent_82 hC k47 h47) v0 v1 v3 v4 v6 σ ls hk_v0 (lv_sub hl [0, 1, 2, 3, 5] rfl)
    · refine zj_aload_n (pc' := 62) hC dX7_silent_61 rfl rfl (lv_at hl 0 rfl) ?_
      refine zj_getR (pc' := 65) hC hk_v0 fd_7_32 rfl tw_4_80 dX7_silent_62 rfl (fun q9 hk_q9 => ?_)
      refine zj_bipush (pc' := 67) (v := (24 : Int32)) hC dX7_silent_65 rfl rfl ?_
      refine zj_iload (pc' := 69) hC dX7_silent_67 rfl (lv_at hl 5 rfl) ?_
      refine zj_imul (pc' := 70) hC dX7_silent_69 rfl ?_
      refine zj_iload (pc' := 72) hC dX7_silent_70 rfl (lv_at hl 3 rfl) ?_
      refine zj_iadd (pc' := 73) hC dX7_silent_72 rfl ?_
      refine zj_iald (pc' := 74) hC hk_q9 dX7_silent_73 rfl (fun g10 => ?_)
      refine zj_if_eq (tgt := 81) (pc' := 77) hC dX7_silent_74 (by decide) rfl (fun c11 => ?_) (fun c11 => ?_)
      · refine zj_iconst (pc' := 82) (v := (0 : Int32)) hC dX7_silent_81 rfl rfl ?_
        exact jX7_silent_82 hC k47 h47 v0 v1 v3 v4 v6 (0 : Int32) σ ls hk_v0 nB_0 (lv_sub hl [0, 1, 2, 3, 5] rfl)
      · exact jX7_silent_77 hC (bX7_silent_82 k47) (jX7_silent_82 hC k47 h47) v0 v1 v3 v4 v6 σ ls hk_v0 (lv_sub hl [0, 1, 2, 3, 5] rfl)
set_option maxRecDepth 100000 in
set_option maxHeartbeats 4000000 in
theorem lX7_silent_47 {p : Program} {l : Launch} {e : Env} {s : State} {m : MethodId} {args : Array Value} {below : List Frame} {meth : Method} {c : Code} {b0 : Nat} {cA : Nat → ClassId} {D : va_G} {L : List (Nat × Nat)} (hC : zC p c s m args meth cX7_silent 7 (some Jvm.ClassFile.FieldType.int) (Cond.code yX7_silent cX7_silent 7 (some Jvm.ClassFile.FieldType.int)) yX7_silent.cls cA D) (k34 : Nat → Int32 → Int32 → Int32 → zS → Option (Int32 × zS)) (h34 : ∀ (v0 : Nat) (v1 : Int32) (v3 : Int32) (v4 : Int32) (σ : zS) (ls : Array Slot), L[v0]? = some (0, 7) → lv_has ls 7 [(0, .ref (b0 + v0)), (1, .int v1), (3, .int v3), (4, .int v4)] → zJ p l e rmX7_silent s m args below meth c b0 cA D L (fun z => MQ below (va_Qi (fun (r : Int32) (u : zS) => (r, u) = z) (zB b0 cA D L) (zA b0 L)) args s 0 0 (zA b0 L)) (k34 v0 v1 v3 v4 σ) σ 34 ls []) (n : Nat) : ∀ (v0 : Nat) (v1 : Int32) (v3 : Int32) (v4 : Int32) (v5 : Int32) (v6 : Int32) (σ : zS) (ls : Array Slot), L[v0]? = some (0, 7) → nB v5 → lv_has ls 7 [(0, .ref (b0 + v0)), (1, .int v1), (3, .int v3), (4, .int v4), (5, .int v5), (6, .int v6)] → zJ p l e rmX7_silent s m args below meth c b0 cA D L (fun z => MQ below (va_Qi (fun (r : Int32) (u : zS) => (r, u) = z) (zB b0 cA D L) (zA b0 L)) args s 0 0 (zA b0 L)) (fX7_silent_47 k34 n v0 v1 v3 v4 v5 v6 σ) σ 47 ls [] := by
  induction n with
  | zero => intros; exact zj_none
  | succ n ih => exact jX7_silent_47 hC k34 h34 (fX7_silent_47 k34 n) ih
set_option maxRecDepth 100000 in
set_option maxHeartbeats 4000000 in
theorem jX7_silent_34 {p : Program} {l : Launch} {e : Env} {s : State} {m : MethodId} {args : Array Value} {below : List Frame} {meth : Method} {c : Code} {b0 : Nat} {cA : Nat → ClassId} {D : va_G} {L : List (Nat × Nat)} (hC : zC p c s m args meth cX7_silent 7 (some Jvm.ClassFile.FieldType.int) (Cond.code yX7_silent cX7_silent 7 (some Jvm.ClassFile.FieldType.int)) yX7_silent.cls cA D) (k34 : Nat → Int32 → Int32 → Int32 → zS → Option (Int32 × zS)) (h34 : ∀ (v0 : Nat) (v1 : Int32) (v3 : Int32) (v4 : Int32) (σ : zS) (ls : Array Slot), L[v0]? = some (0, 7) → lv_has ls 7 [(0, .ref (b0 + v0)), (1, .int v1), (3, .int v3), (4, .int v4)] → zJ p l e rmX7_silent s m args below meth c b0 cA D L (fun z => MQ below (va_Qi (fun (r : Int32) (u : zS) => (r, u) = z) (zB b0 cA D L) (zA b0 L)) args s 0 0 (zA b0 L)) (k34 v0 v1 v3 v4 σ) σ 34 ls []) (v0 : Nat) (v1 : Int32) (v3 : Int32) (v4 : Int32) (σ : zS) (ls : Array Slot) (hk_v0 : L[v0]? = some (0, 7)) (hl : lv_has ls 7 [(0, .ref (b0 + v0)), (1, .int v1), (3, .int v3), (4, .int v4)]) : zJ p l e rmX7_silent s m args below meth c b0 cA D L (fun z => MQ below (va_Qi (fun (r : Int32) (u : zS) => (r, u) = z) (zB b0 cA D L) (zA b0 L)) args s 0 0 (zA b0 L)) (bX7_silent_34 k34 v0 v1 v3 v4 σ) σ 34 ls [] := by
  unfold bX7_silent_34
  refine zj_iload (pc' := 36) hC dX7_silent_34 rfl (lv_at hl 3 rfl) ?_
  refine zj_bipush (pc' := 38) (v := (24 : Int32)) hC dX7_silent_36 rfl rfl ?_
  refine zj_icmp_ge (tgt := 125) (pc' := 41) hC dX7_silent_38 (by decide) rfl (fun c12 => ?_) (fun c12 => ?_)
  · refine zj_iload_n (pc' := 126) hC dX7_silent_125 rfl rfl (lv_at hl 2 rfl) ?_
    exact zj_iret hC dX7_silent_126
  · refine zj_iconst (pc' := 42) (v := (0 : Int32)) hC dX7_silent_41 rfl rfl ?_
    refine zj_istore (pc' := 44) (lv' := [(5, .int (0 : Int32)), (0, .ref (b0 + v0)), (1, .int v1), (3, .int v3), (4, .int v4)]) hC dX7_silent_42 rfl hl (by decide) rfl (fun ls hl => ?_)
    refine zj_iconst (pc' := 45) (v := (0 : Int32)) hC dX7_silent_44 rfl rfl ?_
    refine zj_istore (pc' := 47) (lv' := [(6, .int (0 : Int32)), (5, .int (0 : Int32)), (0, .ref (b0 + v0)), (1, .int v1), (3, .int v3), (4, .int v4)]) hC dX7_silent_45 rfl hl (by decide) rfl (fun ls hl => ?_)
    exact lX7_silent_47 hC k34 h34 zFU v0 v1 v3 v4 (0 : Int32) (0 : Int32) σ ls hk_v0 nB_0 (lv_sub hl [2, 3, 4, 5, 1, 0] rfl)
set_option maxRecDepth 100000 in
set_option maxHeartbeats 4000000 in
theorem lX7_silent_34 {p : Program} {l : Launch} {e : Env} {s : State} {m : MethodId} {args : Array Value} {below : List Frame} {meth : Method} {c : Code} {b0 : Nat} {cA : Nat → ClassId} {D : va_G} {L : List (Nat × Nat)} (hC : zC p c s m args meth cX7_silent 7 (some Jvm.ClassFile.FieldType.int) (Cond.code yX7_silent cX7_silent 7 (some Jvm.ClassFile.FieldType.int)) yX7_silent.cls cA D)  (n : Nat) : ∀ (v0 : Nat) (v1 : Int32) (v3 : Int32) (v4 : Int32) (σ : zS) (ls : Array Slot), L[v0]? = some (0, 7) → lv_has ls 7 [(0, .ref (b0 + v0)), (1, .int v1), (3, .int v3), (4, .int v4)] → zJ p l e rmX7_silent s m args below meth c b0 cA D L (fun z => MQ below (va_Qi (fun (r : Int32) (u : zS) => (r, u) = z) (zB b0 cA D L) (zA b0 L)) args s 0 0 (zA b0 L)) (fX7_silent_34  n v0 v1 v3 v4 σ) σ 34 ls [] := by
  induction n with
  | zero => intros; exact zj_none
  | succ n ih => exact jX7_silent_34 hC (fX7_silent_34  n) ih
set_option maxRecDepth 100000 in
set_option maxHeartbeats 4000000 in
theorem kX7_silent (l : Launch) (b0 : Nat) (cA : Nat → ClassId) (D : va_G) (L : List (Nat × Nat)) (v0 : Nat) (v1 : Int32) (σ : zS) (hk0 : L[v0]? = some (0, 7)) : zMi l b0 cA D L yX7_silent (Cond.code yX7_silent cX7_silent 7 (some Jvm.ClassFile.FieldType.int)) rmX7_silent [.ref (b0 + v0), .int v1] σ (fX7_silent v0 v1 σ) := by
  refine zMi_of (by decide) (Nat.le_of_ble_eq_true rfl) ?_
  intro p e s m below meth c ls hC hl
  have hl : lv_has ls 7 [(0, .ref (b0 + v0)), (1, .int v1)] := hl
  generalize ([.ref (b0 + v0), .int v1] : List Value).toArray = args at hC ⊢
  unfold fX7_silent
  refine zj_iload_n (pc' := 1) hC dX7_silent_0 rfl rfl (lv_at hl 1 rfl) ?_
  refine zj_iconst (pc' := 2) (v := (0 : Int32)) hC dX7_silent_1 rfl rfl ?_
  refine zj_iconst (pc' := 3) (v := (2 : Int32)) hC dX7_silent_2 rfl rfl ?_
  refine zj_callzS (pc' := 6) (rest := []) hC (kX7_in l b0 cA D L v1 (0 : Int32) (2 : Int32) σ ) tw_4_214 tw_4_212 tw_4_213 tw_1_8 ddX7_in rfl ⟨rfl, rfl⟩ ⟨by decide, by decide⟩ hl.1 (Nat.le_of_ble_eq_true rfl) rfl dX7_silent_3 rfl (fun r14 σ13 hb_r14 => ?_)
  refine zj_if_ne (tgt := 13) (pc' := 9) hC dX7_silent_6 (by decide) rfl (fun c15 => ?_) (fun c15 => ?_)
  · refine zj_aload_n (pc' := 14) hC dX7_silent_13 rfl rfl (lv_at hl 0 rfl) ?_
    refine zj_callvV (pc' := 17) (rest := []) hC (kX7_nobody l b0 cA D L v0 σ13 hk0) hk0 rfl tw_5_201 tw_5_198 tw_5_200 ts_5_5 tw_1_8 ddX7_nobody rfl ⟨rfl, rfl⟩ ⟨by decide, by decide⟩ hl.1 (Nat.le_of_ble_eq_true rfl) rfl dX7_silent_14 rfl (fun σ16 => ?_)
    refine zj_aload_n (pc' := 18) hC dX7_silent_17 rfl rfl (lv_at hl 0 rfl) ?_
    refine zj_iconst (pc' := 19) (v := (0 : Int32)) hC dX7_silent_18 rfl rfl ?_
    refine zj_calliV (pc' := 22) (rest := []) hC (kX7_plays l b0 cA D L v0 (0 : Int32) σ16 hk0) hk0 rfl tw_5_118 tw_5_115 tw_5_117 ts_4_9 tw_1_8 ddX7_plays rfl ⟨rfl, rfl⟩ ⟨by decide, by decide⟩ hl.1 (Nat.le_of_ble_eq_true rfl) rfl dX7_silent_19 rfl (fun r19 σ18 => ?_)
    refine zj_istore_n (pc' := 23) (lv' := [(2, .int r19), (0, .ref (b0 + v0)), (1, .int v1)]) hC dX7_silent_22 rfl rfl hl (by decide) rfl (fun ls hl => ?_)
    refine zj_iload_n (pc' := 24) hC dX7_silent_23 rfl rfl (lv_at hl 2 rfl) ?_
    refine zj_if_ne (tgt := 29) (pc' := 27) hC dX7_silent_24 (by decide) rfl (fun c20 => ?_) (fun c20 => ?_)
    · refine zj_iconst (pc' := 30) (v := (0 : Int32)) hC dX7_silent_29 rfl rfl ?_
      refine zj_istore_n (pc' := 31) (lv' := [(3, .int (0 : Int32)), (2, .int r19), (0, .ref (b0 + v0)), (1, .int v1)]) hC dX7_silent_30 rfl rfl hl (by decide) rfl (fun ls hl => ?_)
      refine zj_iconst (pc' := 32) (v := (0 : Int32)) hC dX7_silent_31 rfl rfl ?_
      refine zj_istore (pc' := 34) (lv' := [(4, .int (0 : Int32)), (3, .int (0 : Int32)), (2, .int r19), (0, .ref (b0 + v0)), (1, .int v1)]) hC dX7_silent_32 rfl hl (by decide) rfl (fun ls hl => ?_)
      exact lX7_silent_34 hC zFU v0 v1 (0 : Int32) (0 : Int32) σ18 ls hk0 (lv_sub hl [3, 4, 1, 0] rfl)
    · refine zj_iload_n (pc' := 28) hC dX7_silent_27 rfl rfl (lv_at hl 0 rfl) ?_
      exact zj_iret hC dX7_silent_28
  · refine zj_ldcw (pc' := 12) (v := (-1000000 : Int32)) hC tw_5_170 dX7_silent_9 rfl ?_
    exact zj_iret hC dX7_silent_12
-- X7_table
theorem ddX7_table : yX7_table.cls ≠ "java/lang/invoke/MethodHandle" ∧ yX7_table.cls ≠ "java/lang/invoke/VarHandle" ∧ (parseMethodDescriptor yX7_table.desc).map (fun d => d.parameters.length) = some 4 := by decide +kernel
abbrev rmX7_table : Room := { frames := 1, cells := 0, slots := 0, locals := 22 }
def fX7_table (v0 : Nat) (v1 : Int32) (v2 : Int32) (v3 : Int32) (v4 : Int32) (σ : zS) : Option (Int32 × zS) :=
  zb (fX7_in v1 (0 : Int32) (1 : Int32) σ) (fun (r2 : Int32) (σ1 : zS) => if r2 = 0 then (some ((0 : Int32), σ1)) else (zb (fX7_in v2 (0 : Int32) (4 : Int32) σ1) (fun (r5 : Int32) (σ4 : zS) => if r5 = 0 then (some ((0 : Int32), σ4)) else (zb (fX7_in v3 (0 : Int32) (4 : Int32) σ4) (fun (r8 : Int32) (σ7 : zS) => if r8 = 0 then (some ((0 : Int32), σ7)) else (zb (fX7_in v4 (-1000 : Int32) (1000 : Int32) σ7) (fun (r11 : Int32) (σ10 : zS) => if r11 = 0 then (some ((0 : Int32), σ10)) else (bnd (σ10.2 v0 38) (fun (q13 : Nat) => zX ((((25 : Int32) * v1) + ((5 : Int32) * v2)) + v3) 50 (bnd (zI σ10 q13 (((((25 : Int32) * v1) + ((5 : Int32) * v2)) + v3)).toNatClampNeg v4) (fun (σ15 : zS) => some ((1 : Int32), σ15))))))))))))
set_option maxRecDepth 100000 in
set_option maxHeartbeats 4000000 in
theorem kX7_table (l : Launch) (b0 : Nat) (cA : Nat → ClassId) (D : va_G) (L : List (Nat × Nat)) (v0 : Nat) (v1 : Int32) (v2 : Int32) (v3 : Int32) (v4 : Int32) (σ : zS) (hk0 : L[v0]? = some (0, 7)) : zMz l b0 cA D L yX7_table (Cond.code yX7_table cX7_table 5 (some Jvm.ClassFile.FieldType.boolean)) rmX7_table [.ref (b0 + v0), .int v1, .int v2, .int v3, .int v4] σ (fX7_table v0 v1 v2 v3 v4 σ) := by
  refine zMz_of (by decide) (Nat.le_of_ble_eq_true rfl) ?_
  intro p e s m below meth c ls hC hl
  have hl : lv_has ls 5 [(0, .ref (b0 + v0)), (1, .int v1), (2, .int v2), (3, .int v3), (4, .int v4)] := hl
  generalize ([.ref (b0 + v0), .int v1, .int v2, .int v3, .int v4] : List Value).toArray = args at hC ⊢
  unfold fX7_table
  refine zj_iload_n (pc' := 1) hC dX7_table_0 rfl rfl (lv_at hl 1 rfl) ?_
  refine zj_iconst (pc' := 2) (v := (0 : Int32)) hC dX7_table_1 rfl rfl ?_
  refine zj_iconst (pc' := 3) (v := (1 : Int32)) hC dX7_table_2 rfl rfl ?_
  refine zj_callzS (pc' := 6) (rest := []) hC (kX7_in l b0 cA D L v1 (0 : Int32) (1 : Int32) σ ) tw_4_214 tw_4_212 tw_4_213 tw_1_8 ddX7_in rfl ⟨rfl, rfl⟩ ⟨by decide, by decide⟩ hl.1 (Nat.le_of_ble_eq_true rfl) rfl dX7_table_3 rfl (fun r2 σ1 hb_r2 => ?_)
  refine zj_if_eq (tgt := 41) (pc' := 9) hC dX7_table_6 (by decide) rfl (fun c3 => ?_) (fun c3 => ?_)
  · refine zj_iconst (pc' := 42) (v := (0 : Int32)) hC dX7_table_41 rfl rfl ?_
    exact zj_zret hC nB_0 dX7_table_42
  · refine zj_iload_n (pc' := 10) hC dX7_table_9 rfl rfl (lv_at hl 2 rfl) ?_
    refine zj_iconst (pc' := 11) (v := (0 : Int32)) hC dX7_table_10 rfl rfl ?_
    refine zj_iconst (pc' := 12) (v := (4 : Int32)) hC dX7_table_11 rfl rfl ?_
    refine zj_callzS (pc' := 15) (rest := []) hC (kX7_in l b0 cA D L v2 (0 : Int32) (4 : Int32) σ1 ) tw_4_214 tw_4_212 tw_4_213 tw_1_8 ddX7_in rfl ⟨rfl, rfl⟩ ⟨by decide, by decide⟩ hl.1 (Nat.le_of_ble_eq_true rfl) rfl dX7_table_12 rfl (fun r5 σ4 hb_r5 => ?_)
    refine zj_if_eq (tgt := 41) (pc' := 18) hC dX7_table_15 (by decide) rfl (fun c6 => ?_) (fun c6 => ?_)
    · refine zj_iconst (pc' := 42) (v := (0 : Int32)) hC dX7_table_41 rfl rfl ?_
      exact zj_zret hC nB_0 dX7_table_42
    · refine zj_iload_n (pc' := 19) hC dX7_table_18 rfl rfl (lv_at hl 3 rfl) ?_
      refine zj_iconst (pc' := 20) (v := (0 : Int32)) hC dX7_table_19 rfl rfl ?_
      refine zj_iconst (pc' := 21) (v := (4 : Int32)) hC dX7_table_20 rfl rfl ?_
      refine zj_callzS (pc' := 24) (rest := []) hC (kX7_in l b0 cA D L v3 (0 : Int32) (4 : Int32) σ4 ) tw_4_214 tw_4_212 tw_4_213 tw_1_8 ddX7_in rfl ⟨rfl, rfl⟩ ⟨by decide, by decide⟩ hl.1 (Nat.le_of_ble_eq_true rfl) rfl dX7_table_21 rfl (fun r8 σ7 hb_r8 => ?_)
      refine zj_if_eq (tgt := 41) (pc' := 27) hC dX7_table_24 (by decide) rfl (fun c9 => ?_) (fun c9 => ?_)
      · refine zj_iconst (pc' := 42) (v := (0 : Int32)) hC dX7_table_41 rfl rfl ?_
        exact zj_zret hC nB_0 dX7_table_42
      · refine zj_iload (pc' := 29) hC dX7_table_27 rfl (lv_at hl 4 rfl) ?_
        refine zj_sipush (pc' := 32) (v := (-1000 : Int32)) hC dX7_table_29 rfl rfl ?_
        refine zj_sipush (pc' := 35) (v := (1000 : Int32)) hC dX7_table_32 rfl rfl ?_
        refine zj_callzS (pc' := 38) (rest := []) hC (kX7_in l b0 cA D L v4 (-1000 : Int32) (1000 : Int32) σ7 ) tw_4_214 tw_4_212 tw_4_213 tw_1_8 ddX7_in rfl ⟨rfl, rfl⟩ ⟨by decide, by decide⟩ hl.1 (Nat.le_of_ble_eq_true rfl) rfl dX7_table_35 rfl (fun r11 σ10 hb_r11 => ?_)
        refine zj_if_ne (tgt := 43) (pc' := 41) hC dX7_table_38 (by decide) rfl (fun c12 => ?_) (fun c12 => ?_)
        · refine zj_aload_n (pc' := 44) hC dX7_table_43 rfl rfl (lv_at hl 0 rfl) ?_
          refine zj_getR (pc' := 47) hC hk0 fd_7_38 rfl tw_4_86 dX7_table_44 rfl (fun q13 hk_q13 => ?_)
          refine zj_bipush (pc' := 49) (v := (25 : Int32)) hC dX7_table_47 rfl rfl ?_
          refine zj_iload_n (pc' := 50) hC dX7_table_49 rfl rfl (lv_at hl 1 rfl) ?_
          refine zj_imul (pc' := 51) hC dX7_table_50 rfl ?_
          refine zj_iconst (pc' := 52) (v := (5 : Int32)) hC dX7_table_51 rfl rfl ?_
          refine zj_iload_n (pc' := 53) hC dX7_table_52 rfl rfl (lv_at hl 2 rfl) ?_
          refine zj_imul (pc' := 54) hC dX7_table_53 rfl ?_
          refine zj_iadd (pc' := 55) hC dX7_table_54 rfl ?_
          refine zj_iload_n (pc' := 56) hC dX7_table_55 rfl rfl (lv_at hl 3 rfl) ?_
          refine zj_iadd (pc' := 57) hC dX7_table_56 rfl ?_
          refine zj_iload (pc' := 59) hC dX7_table_57 rfl (lv_at hl 4 rfl) ?_
          refine zj_iast (pc' := 60) hC hk_q13 dX7_table_59 rfl (fun g14 σ15 => ?_)
          refine zj_iconst (pc' := 61) (v := (1 : Int32)) hC dX7_table_60 rfl rfl ?_
          exact zj_zret hC nB_1 dX7_table_61
        · refine zj_iconst (pc' := 42) (v := (0 : Int32)) hC dX7_table_41 rfl rfl ?_
          exact zj_zret hC nB_0 dX7_table_42
-- X7_isRest
theorem ddX7_isRest : yX7_isRest.cls ≠ "java/lang/invoke/MethodHandle" ∧ yX7_isRest.cls ≠ "java/lang/invoke/VarHandle" ∧ (parseMethodDescriptor yX7_isRest.desc).map (fun d => d.parameters.length) = some 3 := by decide +kernel
abbrev rmX7_isRest : Room := { frames := 0, cells := 0, slots := 0, locals := 0 }
def bX7_isRest_3 (k3 : Nat → Int32 → Int32 → Int32 → Int32 → zS → Option (Int32 × zS)) (v0 : Nat) (v1 : Int32) (v2 : Int32) (v3 : Int32) (v4 : Int32) (σ : zS) : Option (Int32 × zS) :=
  if v1 ≤ v4 then (some ((1 : Int32), σ)) else (bnd (σ.2 v0 38) (fun (q2 : Nat) => zX (((5 : Int32) * v4) + v3) 50 (bnd (σ.2 v0 38) (fun (q4 : Nat) => zX (((5 : Int32) * v2) + v3) 50 (if (σ.1 q4 ((((5 : Int32) * v2) + v3)).toNatClampNeg) < (σ.1 q2 ((((5 : Int32) * v4) + v3)).toNatClampNeg) then (some ((0 : Int32), σ)) else (bnd (σ.2 v0 38) (fun (q7 : Nat) => zX (((25 : Int32) + ((5 : Int32) * v2)) + v4) 50 (bnd ((σ.1 q7 ((((25 : Int32) + ((5 : Int32) * v2)) + v4)).toNatClampNeg)) (fun (x9 : Int32) => bnd (σ.2 v0 38) (fun (q10 : Nat) => zX (((25 : Int32) + ((5 : Int32) * v2)) + v3) 50 (bnd ((σ.1 q10 ((((25 : Int32) + ((5 : Int32) * v2)) + v3)).toNatClampNeg)) (fun (x12 : Int32) => if x9 ≤ x12 then (k3 v0 v1 v2 v3 ((v4 + (1 : Int32))) σ) else (some ((0 : Int32), σ))))))))))))))
def fX7_isRest_3  : Nat → Nat → Int32 → Int32 → Int32 → Int32 → zS → Option (Int32 × zS)
  | 0, _, _, _, _, _, _ => none
  | n + 1, v0, v1, v2, v3, v4, σ => bX7_isRest_3 (fX7_isRest_3  n) v0 v1 v2 v3 v4 σ
def fX7_isRest (v0 : Nat) (v1 : Int32) (v2 : Int32) (v3 : Int32) (σ : zS) : Option (Int32 × zS) :=
  fX7_isRest_3 zFU v0 v1 v2 v3 (0 : Int32) σ
set_option maxRecDepth 100000 in
set_option maxHeartbeats 4000000 in
theorem jX7_isRest_3 {p : Program} {l : Launch} {e : Env} {s : State} {m : MethodId} {args : Array Value} {below : List Frame} {meth : Method} {c : Code} {b0 : Nat} {cA : Nat → ClassId} {D : va_G} {L : List (Nat × Nat)} (hC : zC p c s m args meth cX7_isRest 5 (some Jvm.ClassFile.FieldType.boolean) (Cond.code yX7_isRest cX7_isRest 5 (some Jvm.ClassFile.FieldType.boolean)) yX7_isRest.cls cA D) (k3 : Nat → Int32 → Int32 → Int32 → Int32 → zS → Option (Int32 × zS)) (h3 : ∀ (v0 : Nat) (v1 : Int32) (v2 : Int32) (v3 : Int32) (v4 : Int32) (σ : zS) (ls : Array Slot), L[v0]? = some (0, 7) → lv_has ls 5 [(0, .ref (b0 + v0)), (1, .int v1), (2, .int v2), (3, .int v3), (4, .int v4)] → zJ p l e rmX7_isRest s m args below meth c b0 cA D L (fun z => MQ below (va_Qi (fun (r : Int32) (u : zS) => (r, u) = z ∧ nB r) (zB b0 cA D L) (zA b0 L)) args s 0 0 (zA b0 L)) (k3 v0 v1 v2 v3 v4 σ) σ 3 ls []) (v0 : Nat) (v1 : Int32) (v2 : Int32) (v3 : Int32) (v4 : Int32) (σ : zS) (ls : Array Slot) (hk_v0 : L[v0]? = some (0, 7)) (hl : lv_has ls 5 [(0, .ref (b0 + v0)), (1, .int v1), (2, .int v2), (3, .int v3), (4, .int v4)]) : zJ p l e rmX7_isRest s m args below meth c b0 cA D L (fun z => MQ below (va_Qi (fun (r : Int32) (u : zS) => (r, u) = z ∧ nB r) (zB b0 cA D L) (zA b0 L)) args s 0 0 (zA b0 L)) (bX7_isRest_3 k3 v0 v1 v2 v3 v4 σ) σ 3 ls [] := by
  unfold bX7_isRest_3
  refine zj_iload (pc' := 5) hC dX7_isRest_3 rfl (lv_at hl 4 rfl) ?_
  refine zj_iload_n (pc' := 6) hC dX7_isRest_5 rfl rfl (lv_at hl 1 rfl) ?_
  refine zj_icmp_ge (tgt := 71) (pc' := 9) hC dX7_isRest_6 (by decide) rfl (fun c1 => ?_) (fun c1 => ?_)
  · refine zj_iconst (pc' := 72) (v := (1 : Int32)) hC dX7_isRest_71 rfl rfl ?_
    exact zj_zret hC nB_1 dX7_isRest_72
  · refine zj_aload_n (pc' := 10) hC dX7_isRest_9 rfl rfl (lv_at hl 0 rfl) ?_
    refine zj_getR (pc' := 13) hC hk_v0 fd_7_38 rfl tw_4_86 dX7_isRest_10 rfl (fun q2 hk_q2 => ?_)
    refine zj_iconst (pc' := 14) (v := (5 : Int32)) hC dX7_isRest_13 rfl rfl ?_
    refine zj_iload (pc' := 16) hC dX7_isRest_14 rfl (lv_at hl 4 rfl) ?_
    refine zj_imul (pc' := 17) hC dX7_isRest_16 rfl ?_
    refine zj_iload_n (pc' := 18) hC dX7_isRest_17 rfl rfl (lv_at hl 3 rfl) ?_
    refine zj_iadd (pc' := 19) hC dX7_isRest_18 rfl ?_
    refine zj_iald (pc' := 20) hC hk_q2 dX7_isRest_19 rfl (fun g3 => ?_)
    refine zj_aload_n (pc' := 21) hC dX7_isRest_20 rfl rfl (lv_at hl 0 rfl) ?_
    refine zj_getR (pc' := 24) hC hk_v0 fd_7_38 rfl tw_4_86 dX7_isRest_21 rfl (fun q4 hk_q4 => ?_)
    refine zj_iconst (pc' := 25) (v := (5 : Int32)) hC dX7_isRest_24 rfl rfl ?_
    refine zj_iload_n (pc' := 26) hC dX7_isRest_25 rfl rfl (lv_at hl 2 rfl) ?_
    refine zj_imul (pc' := 27) hC dX7_isRest_26 rfl ?_
    refine zj_iload_n (pc' := 28) hC dX7_isRest_27 rfl rfl (lv_at hl 3 rfl) ?_
    refine zj_iadd (pc' := 29) hC dX7_isRest_28 rfl ?_
    refine zj_iald (pc' := 30) hC hk_q4 dX7_isRest_29 rfl (fun g5 => ?_)
    refine zj_icmp_gt (tgt := 63) (pc' := 33) hC dX7_isRest_30 (by decide) rfl (fun c6 => ?_) (fun c6 => ?_)
    · refine zj_iconst (pc' := 64) (v := (0 : Int32)) hC dX7_isRest_63 rfl rfl ?_
      exact zj_zret hC nB_0 dX7_isRest_64
    · refine zj_aload_n (pc' := 34) hC dX7_isRest_33 rfl rfl (lv_at hl 0 rfl) ?_
      refine zj_getR (pc' := 37) hC hk_v0 fd_7_38 rfl tw_4_86 dX7_isRest_34 rfl (fun q7 hk_q7 => ?_)
      refine zj_bipush (pc' := 39) (v := (25 : Int32)) hC dX7_isRest_37 rfl rfl ?_
      refine zj_iconst (pc' := 40) (v := (5 : Int32)) hC dX7_isRest_39 rfl rfl ?_
      refine zj_iload_n (pc' := 41) hC dX7_isRest_40 rfl rfl (lv_at hl 2 rfl) ?_
      refine zj_imul (pc' := 42) hC dX7_isRest_41 rfl ?_
      refine zj_iadd (pc' := 43) hC dX7_isRest_42 rfl ?_
      refine zj_iload (pc' := 45) hC dX7_isRest_43 rfl (lv_at hl 4 rfl) ?_
      refine zj_iadd (pc' := 46) hC dX7_isRest_45 rfl ?_
      refine zj_iald (pc' := 47) hC hk_q7 dX7_isRest_46 rfl (fun g8 => ?_)
      refine zj_nmi (fun x9 => ?_)
      refine zj_aload_n (pc' := 48) hC dX7_isRest_47 rfl rfl (lv_at hl 0 rfl) ?_
      refine zj_getR (pc' := 51) hC hk_v0 fd_7_38 rfl tw_4_86 dX7_isRest_48 rfl (fun q10 hk_q10 => ?_)
      refine zj_bipush (pc' := 53) (v := (25 : Int32)) hC dX7_isRest_51 rfl rfl ?_
      refine zj_iconst (pc' := 54) (v := (5 : Int32)) hC dX7_isRest_53 rfl rfl ?_
      refine zj_iload_n (pc' := 55) hC dX7_isRest_54 rfl rfl (lv_at hl 2 rfl) ?_
      refine zj_imul (pc' := 56) hC dX7_isRest_55 rfl ?_
      refine zj_iadd (pc' := 57) hC dX7_isRest_56 rfl ?_
      refine zj_iload_n (pc' := 58) hC dX7_isRest_57 rfl rfl (lv_at hl 3 rfl) ?_
      refine zj_iadd (pc' := 59) hC dX7_isRest_58 rfl ?_
      refine zj_iald (pc' := 60) hC hk_q10 dX7_isRest_59 rfl (fun g11 => ?_)
      refine zj_nmi (fun x12 => ?_)
      refine zj_icmp_le (tgt := 65) (pc' := 63) hC dX7_isRest_60 (by decide) rfl (fun c13 => ?_) (fun c13 => ?_)
      · refine zj_iinc (pc' := 68) (k0 := 4) (v := (v4 + (1 : Int32))) (lv' := [(4, .int (v4 + (1 : Int32))), (0, .ref (b0 + v0)), (1, .int v1), (2, .int v2), (3, .int v3)]) hC dX7_isRest_65 rfl hl rfl rfl (by decide) rfl (fun ls hl => ?_)
        refine zj_goto (tgt := 3) hC dX7_isRest_68 (by decide) ?_
        exact h3 v0 v1 v2 v3 ((v4 + (1 : Int32))) σ ls hk_v0 (lv_sub hl [1, 2, 3, 4, 0] rfl)
      · refine zj_iconst (pc' := 64) (v := (0 : Int32)) hC dX7_isRest_63 rfl rfl ?_
        exact zj_zret hC nB_0 dX7_isRest_64
set_option maxRecDepth 100000 in
set_option maxHeartbeats 4000000 in
theorem lX7_isRest_3 {p : Program} {l : Launch} {e : Env} {s : State} {m : MethodId} {args : Array Value} {below : List Frame} {meth : Method} {c : Code} {b0 : Nat} {cA : Nat → ClassId} {D : va_G} {L : List (Nat × Nat)} (hC : zC p c s m args meth cX7_isRest 5 (some Jvm.ClassFile.FieldType.boolean) (Cond.code yX7_isRest cX7_isRest 5 (some Jvm.ClassFile.FieldType.boolean)) yX7_isRest.cls cA D)  (n : Nat) : ∀ (v0 : Nat) (v1 : Int32) (v2 : Int32) (v3 : Int32) (v4 : Int32) (σ : zS) (ls : Array Slot), L[v0]? = some (0, 7) → lv_has ls 5 [(0, .ref (b0 + v0)), (1, .int v1), (2, .int v2), (3, .int v3), (4, .int v4)] → zJ p l e rmX7_isRest s m args below meth c b0 cA D L (fun z => MQ below (va_Qi (fun (r : Int32) (u : zS) => (r, u) = z ∧ nB r) (zB b0 cA D L) (zA b0 L)) args s 0 0 (zA b0 L)) (fX7_isRest_3  n v0 v1 v2 v3 v4 σ) σ 3 ls [] := by
  induction n with
  | zero => intros; exact zj_none
  | succ n ih => exact jX7_isRest_3 hC (fX7_isRest_3  n) ih
set_option maxRecDepth 100000 in
set_option maxHeartbeats 4000000 in
theorem kX7_isRest (l : Launch) (b0 : Nat) (cA : Nat → ClassId) (D : va_G) (L : List (Nat × Nat)) (v0 : Nat) (v1 : Int32) (v2 : Int32) (v3 : Int32) (σ : zS) (hk0 : L[v0]? = some (0, 7)) : zMz l b0 cA D L yX7_isRest (Cond.code yX7_isRest cX7_isRest 5 (some Jvm.ClassFile.FieldType.boolean)) rmX7_isRest [.ref (b0 + v0), .int v1, .int v2, .int v3] σ (fX7_isRest v0 v1 v2 v3 σ) := by
  refine zMz_of (by decide) (Nat.le_of_ble_eq_true rfl) ?_
  intro p e s m below meth c ls hC hl
  have hl : lv_has ls 5 [(0, .ref (b0 + v0)), (1, .int v1), (2, .int v2), (3, .int v3)] := hl
  generalize ([.ref (b0 + v0), .int v1, .int v2, .int v3] : List Value).toArray = args at hC ⊢
  unfold fX7_isRest
  refine zj_iconst (pc' := 1) (v := (0 : Int32)) hC dX7_isRest_0 rfl rfl ?_
  refine zj_istore (pc' := 3) (lv' := [(4, .int (0 : Int32)), (0, .ref (b0 + v0)), (1, .int v1), (2, .int v2), (3, .int v3)]) hC dX7_isRest_1 rfl hl (by decide) rfl (fun ls hl => ?_)
  exact lX7_isRest_3 hC zFU v0 v1 v2 v3 (0 : Int32) σ ls hk0 (lv_sub hl [1, 2, 3, 4, 0] rfl)
-- X7_rests
theorem ddX7_rests : yX7_rests.cls ≠ "java/lang/invoke/MethodHandle" ∧ yX7_rests.cls ≠ "java/lang/invoke/VarHandle" ∧ (parseMethodDescriptor yX7_rests.desc).map (fun d => d.parameters.length) = some 2 := by decide +kernel
abbrev rmX7_rests : Room := { frames := 1, cells := 0, slots := 0, locals := 24 }
def bX7_rests_80  (v2 : Int32) (v3 : Int32) (σ : zS) : Option (Int32 × zS) :=
  if v2 = (-1 : Int32) then (some (v3, σ)) else (some ((-1 : Int32), σ))
def bX7_rests_74 (k21 : Nat → Int32 → Int32 → Int32 → Int32 → zS → Option (Int32 × zS)) (v0 : Nat) (v1 : Int32) (v2 : Int32) (v3 : Int32) (v4 : Int32) (σ : zS) : Option (Int32 × zS) :=
  k21 v0 v1 v2 v3 ((v4 + (1 : Int32))) σ
def bX7_rests_68 (k30 : Nat → Int32 → Int32 → Int32 → Int32 → Int32 → zS → Option (Int32 × zS)) (v0 : Nat) (v1 : Int32) (v2 : Int32) (v3 : Int32) (v4 : Int32) (v5 : Int32) (σ : zS) : Option (Int32 × zS) :=
  k30 v0 v1 v2 v3 v4 ((v5 + (1 : Int32))) σ
def bX7_rests_56  (v4 : Int32) (v5 : Int32) (σ : zS) : Option (Int32 × zS) :=
  some ((((5 : Int32) * v4) + v5), σ)
def bX7_rests_30 (k21 : Nat → Int32 → Int32 → Int32 → Int32 → zS → Option (Int32 × zS)) (k30 : Nat → Int32 → Int32 → Int32 → Int32 → Int32 → zS → Option (Int32 × zS)) (v0 : Nat) (v1 : Int32) (v2 : Int32) (v3 : Int32) (v4 : Int32) (v5 : Int32) (σ : zS) : Option (Int32 × zS) :=
  if v1 ≤ v5 then (bX7_rests_74 k21 v0 v1 v2 v3 v4 σ) else (zb (fX7_isRest v0 v1 v4 v5 σ) (fun (r4 : Int32) (σ3 : zS) => if r4 = 0 then (bX7_rests_68 k30 v0 v1 v2 v3 v4 v5 σ3) else (if v3 = v2 then (bX7_rests_56 v4 v5 σ3) else (bnd ((v3 + (1 : Int32))) (fun (x7 : Int32) => bX7_rests_68 k30 v0 v1 v2 x7 v4 v5 σ3)))))
def fX7_rests_30 (k21 : Nat → Int32 → Int32 → Int32 → Int32 → zS → Option (Int32 × zS)) : Nat → Nat → Int32 → Int32 → Int32 → Int32 → Int32 → zS → Option (Int32 × zS)
  | 0, _, _, _, _, _, _, _ => none
  | n + 1, v0, v1, v2, v3, v4, v5, σ => bX7_rests_30 k21 (fX7_rests_30 k21 n) v0 v1 v2 v3 v4 v5 σ
def bX7_rests_21 (k21 : Nat → Int32 → Int32 → Int32 → Int32 → zS → Option (Int32 × zS)) (v0 : Nat) (v1 : Int32) (v2 : Int32) (v3 : Int32) (v4 : Int32) (σ : zS) : Option (Int32 × zS) :=
  if v1 ≤ v4 then (bX7_rests_80 v2 v3 σ) else (fX7_rests_30 k21 zFU v0 v1 v2 v3 v4 (0 : Int32) σ)
def fX7_rests_21  : Nat → Nat → Int32 → Int32 → Int32 → Int32 → zS → Option (Int32 × zS)
  | 0, _, _, _, _, _, _ => none
  | n + 1, v0, v1, v2, v3, v4, σ => bX7_rests_21 (fX7_rests_21  n) v0 v1 v2 v3 v4 σ
def fX7_rests (v0 : Nat) (v1 : Int32) (v2 : Int32) (σ : zS) : Option (Int32 × zS) :=
  zb (fX7_in v1 (2 : Int32) (5 : Int32) σ) (fun (r10 : Int32) (σ9 : zS) => if r10 = 0 then (some ((-1 : Int32), σ9)) else (if (-1 : Int32) ≤ v2 then (fX7_rests_21 zFU v0 v1 v2 (0 : Int32) (0 : Int32) σ9) else (some ((-1 : Int32), σ9))))
set_option maxRecDepth 100000 in
set_option maxHeartbeats 4000000 in
theorem jX7_rests_80 {p : Program} {l : Launch} {e : Env} {s : State} {m : MethodId} {args : Array Value} {below : List Frame} {meth : Method} {c : Code} {b0 : Nat} {cA : Nat → ClassId} {D : va_G} {L : List (Nat × Nat)} (hC : zC p c s m args meth cX7_rests 6 (some Jvm.ClassFile.FieldType.int) (Cond.code yX7_rests cX7_rests 6 (some Jvm.ClassFile.FieldType.int)) yX7_rests.cls cA D)  (v2 : Int32) (v3 : Int32) (σ : zS) (ls : Array Slot)  (hl : lv_has ls 6 [(2, .int v2), (3, .int v3)]) : zJ p l e rmX7_rests s m args below meth c b0 cA D L (fun z => MQ below (va_Qi (fun (r : Int32) (u : zS) => (r, u) = z) (zB b0 cA D L) (zA b0 L)) args s 0 0 (zA b0 L)) (bX7_rests_80  v2 v3 σ) σ 80 ls [] := by
  unfold bX7_rests_80
  refine zj_iload_n (pc' := 81) hC dX7_rests_80 rfl rfl (lv_at hl 0 rfl) ?_
  refine zj_iconst (pc' := 82) (v := (-1 : Int32)) hC dX7_rests_81 rfl rfl ?_
  refine zj_icmp_ne (tgt := 89) (pc' := 85) hC dX7_rests_82 (by decide) rfl (fun c1 => ?_) (fun c1 => ?_)
  · refine zj_iconst (pc' := 90) (v := (-1 : Int32)) hC dX7_rests_89 rfl rfl ?_
    exact zj_iret hC dX7_rests_90
  · refine zj_iload_n (pc' := 86) hC dX7_rests_85 rfl rfl (lv_at hl 1 rfl) ?_
    refine zj_goto (tgt := 90) hC dX7_rests_86 (by decide) ?_
    exact zj_iret hC dX7_rests_90
set_option maxRecDepth 100000 in
set_option maxHeartbeats 4000000 in
theorem jX7_rests_74 {p : Program} {l : Launch} {e : Env} {s : State} {m : MethodId} {args : Array Value} {below : List Frame} {meth : Method} {c : Code} {b0 : Nat} {cA : Nat → ClassId} {D : va_G} {L : List (Nat × Nat)} (hC : zC p c s m args meth cX7_rests 6 (some Jvm.ClassFile.FieldType.int) (Cond.code yX7_rests cX7_rests 6 (some Jvm.ClassFile.FieldType.int)) yX7_rests.cls cA D) (k21 : Nat → Int32 → Int32 → Int32 → Int32 → zS → Option (Int32 × zS)) (h21 : ∀ (v0 : Nat) (v1 : Int32) (v2 : Int32) (v3 : Int32) (v4 : Int32) (σ : zS) (ls : Array Slot), L[v0]? = some (0, 7) → lv_has ls 6 [(0, .ref (b0 + v0)), (1, .int v1), (2, .int v2), (3, .int v3), (4, .int v4)] → zJ p l e rmX7_rests s m args below meth c b0 cA D L (fun z => MQ below (va_Qi (fun (r : Int32) (u : zS) => (r, u) = z) (zB b0 cA D L) (zA b0 L)) args s 0 0 (zA b0 L)) (k21 v0 v1 v2 v3 v4 σ) σ 21 ls []) (v0 : Nat) (v1 : Int32) (v2 : Int32) (v3 : Int32) (v4 : Int32) (σ : zS) (ls : Array Slot) (hk_v0 : L[v0]? = some (0, 7)) (hl : lv_has ls 6 [(0, .ref (b0 + v0)), (1, .int v1), (2, .int v2), (3, .int v3), (4, .int v4)]) : zJ p l e rmX7_rests s m args below meth c b0 cA D L (fun z => MQ below (va_Qi (fun (r : Int32) (u : zS) => (r, u) = z) (zB b0 cA D L) (zA b0 L)) args s 0 0 (zA b0 L)) (bX7_rests_74 k21 v0 v1 v2 v3 v4 σ) σ 74 ls [] := by
  unfold bX7_rests_74
  refine zj_iinc (pc' := 77) (k0 := 4) (v := (v4 + (1 : Int32))) (lv' := [(4, .int (v4 + (1 : Int32))), (0, .ref (b0 + v0)), (1, .int v1), (2, .int v2), (3, .int v3)]) hC dX7_rests_74 rfl hl rfl rfl (by decide) rfl (fun ls hl => ?_)
  refine zj_goto (tgt := 21) hC dX7_rests_77 (by decide) ?_
  exact h21 v0 v1 v2 v3 ((v4 + (1 : Int32))) σ ls hk_v0 (lv_sub hl [1, 2, 3, 4, 0] rfl)
set_option maxRecDepth 100000 in
set_option maxHeartbeats 4000000 in
theorem jX7_rests_68 {p : Program} {l : Launch} {e : Env} {s : State} {m : MethodId} {args : Array Value} {below : List Frame} {meth : Method} {c : Code} {b0 : Nat} {cA : Nat → ClassId} {D : va_G} {L : List (Nat × Nat)} (hC : zC p c s m args meth cX7_rests 6 (some Jvm.ClassFile.FieldType.int) (Cond.code yX7_rests cX7_rests 6 (some Jvm.ClassFile.FieldType.int)) yX7_rests.cls cA D) (k30 : Nat → Int32 → Int32 → Int32 → Int32 → Int32 → zS → Option (Int32 × zS)) (h30 : ∀ (v0 : Nat) (v1 : Int32) (v2 : Int32) (v3 : Int32) (v4 : Int32) (v5 : Int32) (σ : zS) (ls : Array Slot), L[v0]? = some (0, 7) → lv_has ls 6 [(0, .ref (b0 + v0)), (1, .int v1), (2, .int v2), (3, .int v3), (4, .int v4), (5, .int v5)] → zJ p l e rmX7_rests s m args below meth c b0 cA D L (fun z => MQ below (va_Qi (fun (r : Int32) (u : zS) => (r, u) = z) (zB b0 cA D L) (zA b0 L)) args s 0 0 (zA b0 L)) (k30 v0 v1 v2 v3 v4 v5 σ) σ 30 ls []) (v0 : Nat) (v1 : Int32) (v2 : Int32) (v3 : Int32) (v4 : Int32) (v5 : Int32) (σ : zS) (ls : Array Slot) (hk_v0 : L[v0]? = some (0, 7)) (hl : lv_has ls 6 [(0, .ref (b0 + v0)), (1, .int v1), (2, .int v2), (3, .int v3), (4, .int v4), (5, .int v5)]) : zJ p l e rmX7_rests s m args below meth c b0 cA D L (fun z => MQ below (va_Qi (fun (r : Int32) (u : zS) => (r, u) = z) (zB b0 cA D L) (zA b0 L)) args s 0 0 (zA b0 L)) (bX7_rests_68 k30 v0 v1 v2 v3 v4 v5 σ) σ 68 ls [] := by
  unfold bX7_rests_68
  refine zj_iinc (pc' := 71) (k0 := 5) (v := (v5 + (1 : Int32))) (lv' := [(5, .int (v5 + (1 : Int32))), (0, .ref (b0 + v0)), (1, .int v1), (2, .int v2), (3, .int v3), (4, .int v4)]) hC dX7_rests_68 rfl hl rfl rfl (by decide) rfl (fun ls hl => ?_)
  refine zj_goto (tgt := 30) hC dX7_rests_71 (by decide) ?_
  exact h30 v0 v1 v2 v3 v4 ((v5 + (1 : Int32))) σ ls hk_v0 (lv_sub hl [1, 2, 3, 4, 5, 0] rfl)
set_option maxRecDepth 100000 in
set_option maxHeartbeats 4000000 in
theorem jX7_rests_56 {p : Program} {l : Launch} {e : Env} {s : State} {m : MethodId} {args : Array Value} {below : List Frame} {meth : Method} {c : Code} {b0 : Nat} {cA : Nat → ClassId} {D : va_G} {L : List (Nat × Nat)} (hC : zC p c s m args meth cX7_rests 6 (some Jvm.ClassFile.FieldType.int) (Cond.code yX7_rests cX7_rests 6 (some Jvm.ClassFile.FieldType.int)) yX7_rests.cls cA D)  (v4 : Int32) (v5 : Int32) (σ : zS) (ls : Array Slot)  (hl : lv_has ls 6 [(4, .int v4), (5, .int v5)]) : zJ p l e rmX7_rests s m args below meth c b0 cA D L (fun z => MQ below (va_Qi (fun (r : Int32) (u : zS) => (r, u) = z) (zB b0 cA D L) (zA b0 L)) args s 0 0 (zA b0 L)) (bX7_rests_56  v4 v5 σ) σ 56 ls [] := by
  unfold bX7_rests_56
  refine zj_iconst (pc' := 57) (v := (5 : Int32)) hC dX7_rests_56 rfl rfl ?_
  refine zj_iload (pc' := 59) hC dX7_rests_57 rfl (lv_at hl 0 rfl) ?_
  refine zj_imul (pc' := 60) hC dX7_rests_59 rfl ?_
  refine zj_iload (pc' := 62) hC dX7_rests_60 rfl (lv_at hl 1 rfl) ?_
  refine zj_iadd (pc' := 63) hC dX7_rests_62 rfl ?_
  exact zj_iret hC dX7_rests_63
set_option maxRecDepth 100000 in
set_option maxHeartbeats 4000000 in
theorem jX7_rests_30 {p : Program} {l : Launch} {e : Env} {s : State} {m : MethodId} {args : Array Value} {below : List Frame} {meth : Method} {c : Code} {b0 : Nat} {cA : Nat → ClassId} {D : va_G} {L : List (Nat × Nat)} (hC : zC p c s m args meth cX7_rests 6 (some Jvm.ClassFile.FieldType.int) (Cond.code yX7_rests cX7_rests 6 (some Jvm.ClassFile.FieldType.int)) yX7_rests.cls cA D) (k21 : Nat → Int32 → Int32 → Int32 → Int32 → zS → Option (Int32 × zS)) (h21 : ∀ (v0 : Nat) (v1 : Int32) (v2 : Int32) (v3 : Int32) (v4 : Int32) (σ : zS) (ls : Array Slot), L[v0]? = some (0, 7) → lv_has ls 6 [(0, .ref (b0 + v0)), (1, .int v1), (2, .int v2), (3, .int v3), (4, .int v4)] → zJ p l e rmX7_rests s m args below meth c b0 cA D L (fun z => MQ below (va_Qi (fun (r : Int32) (u : zS) => (r, u) = z) (zB b0 cA D L) (zA b0 L)) args s 0 0 (zA b0 L)) (k21 v0 v1 v2 v3 v4 σ) σ 21 ls []) (k30 : Nat → Int32 → Int32 → Int32 → Int32 → Int32 → zS → Option (Int32 × zS)) (h30 : ∀ (v0 : Nat) (v1 : Int32) (v2 : Int32) (v3 : Int32) (v4 : Int32) (v5 : Int32) (σ : zS) (ls : Array Slot), L[v0]? = some (0, 7) → lv_has ls 6 [(0, .ref (b0 + v0)), (1, .int v1), (2, .int v2), (3, .int v3), (4, .int v4), (5, .int v5)] → zJ p l e rmX7_rests s m args below meth c b0 cA D L (fun z => MQ below (va_Qi (fun (r : Int32) (u : zS) => (r, u) = z) (zB b0 cA D L) (zA b0 L)) args s 0 0 (zA b0 L)) (k30 v0 v1 v2 v3 v4 v5 σ) σ 30 ls []) (v0 : Nat) (v1 : Int32) (v2 : Int32) (v3 : Int32) (v4 : Int32) (v5 : Int32) (σ : zS) (ls : Array Slot) (hk_v0 : L[v0]? = some (0, 7)) (hl : lv_has ls 6 [(0, .ref (b0 + v0)), (1, .int v1), (2, .int v2), (3, .int v3), (4, .int v4), (5, .int v5)]) : zJ p l e rmX7_rests s m args below meth c b0 cA D L (fun z => MQ below (va_Qi (fun (r : Int32) (u : zS) => (r, u) = z) (zB b0 cA D L) (zA b0 L)) args s 0 0 (zA b0 L)) (bX7_rests_30 k21 k30 v0 v1 v2 v3 v4 v5 σ) σ 30 ls [] := by
  unfold bX7_rests_30
  refine zj_iload (pc' := 32) hC dX7_rests_30 rfl (lv_at hl 5 rfl) ?_
  refine zj_iload_n (pc' := 33) hC dX7_rests_32 rfl rfl (lv_at hl 1 rfl) ?_
  refine zj_icmp_ge (tgt := 74) (pc' := 36) hC dX7_rests_33 (by decide) rfl (fun c2 => ?_) (fun c2 => ?_)
  · exact jX7_rests_74 hC k21 h21 v0 v1 v2 v3 v4 σ ls hk_v0 (lv_sub hl [0, 1, 2, 3, 4] rfl)
  · refine zj_aload_n (pc' := 37) hC dX7_rests_36 rfl rfl (lv_at hl 0 rfl) ?_
    refine zj_iload_n (pc' := 38) hC dX7_rests_37 rfl rfl (lv_at hl 1 rfl) ?_
    refine zj_iload (pc' := 40) hC dX7_rests_38 rfl (lv_at hl 4 rfl) ?_
    refine zj_iload (pc' := 42) hC dX7_rests_40 rfl (lv_at hl 5 rfl) ?_
    refine zj_callzV (pc' := 45) (rest := []) hC (kX7_isRest l b0 cA D L v0 v1 v4 v5 σ hk_v0) hk_v0 rfl tw_5_221 tw_5_218 tw_5_220 ts_5_7 tw_1_8 ddX7_isRest rfl ⟨rfl, rfl⟩ ⟨by decide, by decide⟩ hl.1 (Nat.le_of_ble_eq_true rfl) rfl dX7_rests_42 rfl (fun r4 σ3 hb_r4 => ?_)
    refine zj_if_ne (tgt := 51) (pc' := 48) hC dX7_rests_45 (by decide) rfl (fun c5 => ?_) (fun c5 => ?_)
    · refine zj_iload_n (pc' := 52) hC dX7_rests_51 rfl rfl (lv_at hl 3 rfl) ?_
      refine zj_iload_n (pc' := 53) hC dX7_rests_52 rfl rfl (lv_at hl 2 rfl) ?_
      refine zj_icmp_ne (tgt := 64) (pc' := 56) hC dX7_rests_53 (by decide) rfl (fun c6 => ?_) (fun c6 => ?_)
      · refine zj_iload_n (pc' := 65) hC dX7_rests_64 rfl rfl (lv_at hl 3 rfl) ?_
        refine zj_iconst (pc' := 66) (v := (1 : Int32)) hC dX7_rests_65 rfl rfl ?_
        refine zj_iadd (pc' := 67) hC dX7_rests_66 rfl ?_
        refine zj_nmi (fun x7 => ?_)
        refine zj_istore_n (pc' := 68) (lv' := [(3, .int x7), (0, .ref (b0 + v0)), (1, .int v1), (2, .int v2), (4, .int v4), (5, .int v5)]) hC dX7_rests_67 rfl rfl hl (by decide) rfl (fun ls hl => ?_)
        exact jX7_rests_68 hC k30 h30 v0 v1 v2 x7 v4 v5 σ3 ls hk_v0 (lv_sub hl [1, 2, 3, 0, 4, 5] rfl)
      · exact jX7_rests_56 hC v4 v5 σ3 ls  (lv_sub hl [4, 5] rfl)
    · refine zj_goto (tgt := 68) hC dX7_rests_48 (by decide) ?_
      exact jX7_rests_68 hC k30 h30 v0 v1 v2 v3 v4 v5 σ3 ls hk_v0 (lv_sub hl [0, 1, 2, 3, 4, 5] rfl)
set_option maxRecDepth 100000 in
set_option maxHeartbeats 4000000 in
theorem lX7_rests_30 {p : Program} {l : Launch} {e : Env} {s : State} {m : MethodId} {args : Array Value} {below : List Frame} {meth : Method} {c : Code} {b0 : Nat} {cA : Nat → ClassId} {D : va_G} {L : List (Nat × Nat)} (hC : zC p c s m args meth cX7_rests 6 (some Jvm.ClassFile.FieldType.int) (Cond.code yX7_rests cX7_rests 6 (some Jvm.ClassFile.FieldType.int)) yX7_rests.cls cA D) (k21 : Nat → Int32 → Int32 → Int32 → Int32 → zS → Option (Int32 × zS)) (h21 : ∀ (v0 : Nat) (v1 : Int32) (v2 : Int32) (v3 : Int32) (v4 : Int32) (σ : zS) (ls : Array Slot), L[v0]? = some (0, 7) → lv_has ls 6 [(0, .ref (b0 + v0)), (1, .int v1), (2, .int v2), (3, .int v3), (4, .int v4)] → zJ p l e rmX7_rests s m args below meth c b0 cA D L (fun z => MQ below (va_Qi (fun (r : Int32) (u : zS) => (r, u) = z) (zB b0 cA D L) (zA b0 L)) args s 0 0 (zA b0 L)) (k21 v0 v1 v2 v3 v4 σ) σ 21 ls []) (n : Nat) : ∀ (v0 : Nat) (v1 : Int32) (v2 : Int32) (v3 : Int32) (v4 : Int32) (v5 : Int32) (σ : zS) (ls : Array Slot), L[v0]? = some (0, 7) → lv_has ls 6 [(0, .ref (b0 + v0)), (1, .int v1), (2, .int v2), (3, .int v3), (4, .int v4), (5, .int v5)] → zJ p l e rmX7_rests s m args below meth c b0 cA D L (fun z => MQ below (va_Qi (fun (r : Int32) (u : zS) => (r, u) = z) (zB b0 cA D L) (zA b0 L)) args s 0 0 (zA b0 L)) (fX7_rests_30 k21 n v0 v1 v2 v3 v4 v5 σ) σ 30 ls [] := by
  induction n with
  | zero => intros; exact zj_none
  | succ n ih => exact jX7_rests_30 hC k21 h21 (fX7_rests_30 k21 n) ih
set_option maxRecDepth 100000 in
set_option maxHeartbeats 4000000 in
theorem jX7_rests_21 {p : Program} {l : Launch} {e : Env} {s : State} {m : MethodId} {args : Array Value} {below : List Frame} {meth : Method} {c : Code} {b0 : Nat} {cA : Nat → ClassId} {D : va_G} {L : List (Nat × Nat)} (hC : zC p c s m args meth cX7_rests 6 (some Jvm.ClassFile.FieldType.int) (Cond.code yX7_rests cX7_rests 6 (some Jvm.ClassFile.FieldType.int)) yX7_rests.cls cA D) (k21 : Nat → Int32 → Int32 → Int32 → Int32 → zS → Option (Int32 × zS)) (h21 : ∀ (v0 : Nat) (v1 : Int32) (v2 : Int32) (v3 : Int32) (v4 : Int32) (σ : zS) (ls : Array Slot), L[v0]? = some (0, 7) → lv_has ls 6 [(0, .ref (b0 + v0)), (1, .int v1), (2, .int v2), (3, .int v3), (4, .int v4)] → zJ p l e rmX7_rests s m args below meth c b0 cA D L (fun z => MQ below (va_Qi (fun (r : Int32) (u : zS) => (r, u) = z) (zB b0 cA D L) (zA b0 L)) args s 0 0 (zA b0 L)) (k21 v0 v1 v2 v3 v4 σ) σ 21 ls []) (v0 : Nat) (v1 : Int32) (v2 : Int32) (v3 : Int32) (v4 : Int32) (σ : zS) (ls : Array Slot) (hk_v0 : L[v0]? = some (0, 7)) (hl : lv_has ls 6 [(0, .ref (b0 + v0)), (1, .int v1), (2, .int v2), (3, .int v3), (4, .int v4)]) : zJ p l e rmX7_rests s m args below meth c b0 cA D L (fun z => MQ below (va_Qi (fun (r : Int32) (u : zS) => (r, u) = z) (zB b0 cA D L) (zA b0 L)) args s 0 0 (zA b0 L)) (bX7_rests_21 k21 v0 v1 v2 v3 v4 σ) σ 21 ls [] := by
  unfold bX7_rests_21
  refine zj_iload (pc' := 23) hC dX7_rests_21 rfl (lv_at hl 4 rfl) ?_
  refine zj_iload_n (pc' := 24) hC dX7_rests_23 rfl rfl (lv_at hl 1 rfl) ?_
  refine zj_icmp_ge (tgt := 80) (pc' := 27) hC dX7_rests_24 (by decide) rfl (fun c8 => ?_) (fun c8 => ?_)
  · exact jX7_rests_80 hC v2 v3 σ ls  (lv_sub hl [2, 3] rfl)
  · refine zj_iconst (pc' := 28) (v := (0 : Int32)) hC dX7_rests_27 rfl rfl ?_
    refine zj_istore (pc' := 30) (lv' := [(5, .int (0 : Int32)), (0, .ref (b0 + v0)), (1, .int v1), (2, .int v2), (3, .int v3), (4, .int v4)]) hC dX7_rests_28 rfl hl (by decide) rfl (fun ls hl => ?_)
    exact lX7_rests_30 hC k21 h21 zFU v0 v1 v2 v3 v4 (0 : Int32) σ ls hk_v0 (lv_sub hl [1, 2, 3, 4, 5, 0] rfl)
set_option maxRecDepth 100000 in
set_option maxHeartbeats 4000000 in
theorem lX7_rests_21 {p : Program} {l : Launch} {e : Env} {s : State} {m : MethodId} {args : Array Value} {below : List Frame} {meth : Method} {c : Code} {b0 : Nat} {cA : Nat → ClassId} {D : va_G} {L : List (Nat × Nat)} (hC : zC p c s m args meth cX7_rests 6 (some Jvm.ClassFile.FieldType.int) (Cond.code yX7_rests cX7_rests 6 (some Jvm.ClassFile.FieldType.int)) yX7_rests.cls cA D)  (n : Nat) : ∀ (v0 : Nat) (v1 : Int32) (v2 : Int32) (v3 : Int32) (v4 : Int32) (σ : zS) (ls : Array Slot), L[v0]? = some (0, 7) → lv_has ls 6 [(0, .ref (b0 + v0)), (1, .int v1), (2, .int v2), (3, .int v3), (4, .int v4)] → zJ p l e rmX7_rests s m args below meth c b0 cA D L (fun z => MQ below (va_Qi (fun (r : Int32) (u : zS) => (r, u) = z) (zB b0 cA D L) (zA b0 L)) args s 0 0 (zA b0 L)) (fX7_rests_21  n v0 v1 v2 v3 v4 σ) σ 21 ls [] := by
  induction n with
  | zero => intros; exact zj_none
  | succ n ih => exact jX7_rests_21 hC (fX7_rests_21  n) ih
set_option maxRecDepth 100000 in
set_option maxHeartbeats 4000000 in
theorem kX7_rests (l : Launch) (b0 : Nat) (cA : Nat → ClassId) (D : va_G) (L : List (Nat × Nat)) (v0 : Nat) (v1 : Int32) (v2 : Int32) (σ : zS) (hk0 : L[v0]? = some (0, 7)) : zMi l b0 cA D L yX7_rests (Cond.code yX7_rests cX7_rests 6 (some Jvm.ClassFile.FieldType.int)) rmX7_rests [.ref (b0 + v0), .int v1, .int v2] σ (fX7_rests v0 v1 v2 σ) := by
  refine zMi_of (by decide) (Nat.le_of_ble_eq_true rfl) ?_
  intro p e s m below meth c ls hC hl
  have hl : lv_has ls 6 [(0, .ref (b0 + v0)), (1, .int v1), (2, .int v2)] := hl
  generalize ([.ref (b0 + v0), .int v1, .int v2] : List Value).toArray = args at hC ⊢
  unfold fX7_rests
  refine zj_iload_n (pc' := 1) hC dX7_rests_0 rfl rfl (lv_at hl 1 rfl) ?_
  refine zj_iconst (pc' := 2) (v := (2 : Int32)) hC dX7_rests_1 rfl rfl ?_
  refine zj_iconst (pc' := 3) (v := (5 : Int32)) hC dX7_rests_2 rfl rfl ?_
  refine zj_callzS (pc' := 6) (rest := []) hC (kX7_in l b0 cA D L v1 (2 : Int32) (5 : Int32) σ ) tw_4_214 tw_4_212 tw_4_213 tw_1_8 ddX7_in rfl ⟨rfl, rfl⟩ ⟨by decide, by decide⟩ hl.1 (Nat.le_of_ble_eq_true rfl) rfl dX7_rests_3 rfl (fun r10 σ9 hb_r10 => ?_)
  refine zj_if_eq (tgt := 14) (pc' := 9) hC dX7_rests_6 (by decide) rfl (fun c11 => ?_) (fun c11 => ?_)
  · refine zj_iconst (pc' := 15) (v := (-1 : Int32)) hC dX7_rests_14 rfl rfl ?_
    exact zj_iret hC dX7_rests_15
  · refine zj_iload_n (pc' := 10) hC dX7_rests_9 rfl rfl (lv_at hl 2 rfl) ?_
    refine zj_iconst (pc' := 11) (v := (-1 : Int32)) hC dX7_rests_10 rfl rfl ?_
    refine zj_icmp_ge (tgt := 16) (pc' := 14) hC dX7_rests_11 (by decide) rfl (fun c12 => ?_) (fun c12 => ?_)
    · refine zj_iconst (pc' := 17) (v := (0 : Int32)) hC dX7_rests_16 rfl rfl ?_
      refine zj_istore_n (pc' := 18) (lv' := [(3, .int (0 : Int32)), (0, .ref (b0 + v0)), (1, .int v1), (2, .int v2)]) hC dX7_rests_17 rfl rfl hl (by decide) rfl (fun ls hl => ?_)
      refine zj_iconst (pc' := 19) (v := (0 : Int32)) hC dX7_rests_18 rfl rfl ?_
      refine zj_istore (pc' := 21) (lv' := [(4, .int (0 : Int32)), (3, .int (0 : Int32)), (0, .ref (b0 + v0)), (1, .int v1), (2, .int v2)]) hC dX7_rests_19 rfl hl (by decide) rfl (fun ls hl => ?_)
      exact lX7_rests_21 hC zFU v0 v1 v2 (0 : Int32) (0 : Int32) σ9 ls hk0 (lv_sub hl [2, 3, 4, 1, 0] rfl)
    · refine zj_iconst (pc' := 15) (v := (-1 : Int32)) hC dX7_rests_14 rfl rfl ?_
      exact zj_iret hC dX7_rests_15
-- X7_keep
theorem ddX7_keep : yX7_keep.cls ≠ "java/lang/invoke/MethodHandle" ∧ yX7_keep.cls ≠ "java/lang/invoke/VarHandle" ∧ (parseMethodDescriptor yX7_keep.desc).map (fun d => d.parameters.length) = some 0 := by decide +kernel
abbrev rmX7_keep : Room := { frames := 5, cells := 0, slots := 0, locals := 116 }
def bX7_keep_278  (v0 : Nat) (σ : zS) : Option (Int32 × zS) :=
  bnd (zI σ v0 39 ((σ.1 v0 39) + (1 : Int32))) (fun (σ1 : zS) => some ((σ1.1 v0 39), σ1))
def bX7_keep_206 (k206 : Nat → Int32 → zS → Option (Int32 × zS)) (v0 : Nat) (v1 : Int32) (σ : zS) : Option (Int32 × zS) :=
  if (24 : Int32) ≤ v1 then (bX7_keep_278 v0 σ) else (bnd (σ.2 v0 41) (fun (q3 : Nat) => bnd (σ.2 v0 4) (fun (q4 : Nat) => zX v1 24 (zX (((24 : Int32) * (σ.1 v0 39)) + v1) 480 (bnd (zI σ q3 ((((24 : Int32) * (σ.1 v0 39)) + v1)).toNatClampNeg (σ.1 q4 (v1).toNatClampNeg)) (fun (σ7 : zS) => bnd (σ7.2 v0 42) (fun (q8 : Nat) => bnd (σ7.2 v0 5) (fun (q9 : Nat) => zX v1 24 (zX (((24 : Int32) * (σ7.1 v0 39)) + v1) 480 (bnd (zI σ7 q8 ((((24 : Int32) * (σ7.1 v0 39)) + v1)).toNatClampNeg (σ7.1 q9 (v1).toNatClampNeg)) (fun (σ12 : zS) => bnd (σ12.2 v0 43) (fun (q13 : Nat) => bnd (σ12.2 v0 6) (fun (q14 : Nat) => zX v1 24 (zX (((24 : Int32) * (σ12.1 v0 39)) + v1) 480 (bnd (zI σ12 q13 ((((24 : Int32) * (σ12.1 v0 39)) + v1)).toNatClampNeg (σ12.1 q14 (v1).toNatClampNeg)) (fun (σ17 : zS) => k206 v0 ((v1 + (1 : Int32))) σ17))))))))))))))))
def fX7_keep_206  : Nat → Nat → Int32 → zS → Option (Int32 × zS)
  | 0, _, _, _ => none
  | n + 1, v0, v1, σ => bX7_keep_206 (fX7_keep_206  n) v0 v1 σ
def bX7_keep_204  (v0 : Nat) (σ : zS) : Option (Int32 × zS) :=
  fX7_keep_206 zFU v0 (0 : Int32) σ
def bX7_keep_198 (k62 : Nat → Int32 → zS → Option (Int32 × zS)) (v0 : Nat) (v1 : Int32) (σ : zS) : Option (Int32 × zS) :=
  k62 v0 ((v1 + (1 : Int32))) σ
def bX7_keep_147 (k62 : Nat → Int32 → zS → Option (Int32 × zS)) (k147 : Nat → Int32 → Int32 → zS → Option (Int32 × zS)) (v0 : Nat) (v1 : Int32) (v2 : Int32) (σ : zS) : Option (Int32 × zS) :=
  if (24 : Int32) ≤ v2 then (bX7_keep_198 k62 v0 v1 σ) else (if (σ.1 v0 1) ≤ v1 then (bX7_keep_198 k62 v0 v1 σ) else (bnd (σ.2 v0 40) (fun (q20 : Nat) => bnd (σ.2 v0 32) (fun (q21 : Nat) => zX (((24 : Int32) * v1) + v2) 960 (zX ((((960 : Int32) * (σ.1 v0 39)) + ((24 : Int32) * v1)) + v2) 19200 (bnd (zI σ q20 (((((960 : Int32) * (σ.1 v0 39)) + ((24 : Int32) * v1)) + v2)).toNatClampNeg (σ.1 q21 ((((24 : Int32) * v1) + v2)).toNatClampNeg)) (fun (σ24 : zS) => k147 v0 v1 ((v2 + (1 : Int32))) σ24)))))))
def fX7_keep_147 (k62 : Nat → Int32 → zS → Option (Int32 × zS)) : Nat → Nat → Int32 → Int32 → zS → Option (Int32 × zS)
  | 0, _, _, _, _ => none
  | n + 1, v0, v1, v2, σ => bX7_keep_147 k62 (fX7_keep_147 k62 n) v0 v1 v2 σ
def bX7_keep_143 (k62 : Nat → Int32 → zS → Option (Int32 × zS)) (v0 : Nat) (v1 : Int32) (s0 : Nat) (s1 : Int32) (s2 : Int32) (s3 : Int32) (σ : zS) : Option (Int32 × zS) :=
  zX s1 20 (bnd (zI σ s0 (s1).toNatClampNeg (s2 + s3)) (fun (σ26 : zS) => fX7_keep_147 k62 zFU v0 v1 (0 : Int32) σ26))
def bX7_keep_62 (k62 : Nat → Int32 → zS → Option (Int32 × zS)) (v0 : Nat) (v1 : Int32) (σ : zS) : Option (Int32 × zS) :=
  if (40 : Int32) ≤ v1 then (bX7_keep_204 v0 σ) else (bnd (σ.2 v0 44) (fun (q28 : Nat) => bnd (σ.2 v0 7) (fun (q29 : Nat) => zX v1 40 (zX (((40 : Int32) * (σ.1 v0 39)) + v1) 800 (bnd (zI σ q28 ((((40 : Int32) * (σ.1 v0 39)) + v1)).toNatClampNeg (σ.1 q29 (v1).toNatClampNeg)) (fun (σ32 : zS) => bnd (σ32.2 v0 45) (fun (q33 : Nat) => bnd (σ32.2 v0 8) (fun (q34 : Nat) => zX v1 40 (zX (((40 : Int32) * (σ32.1 v0 39)) + v1) 800 (bnd (zI σ32 q33 ((((40 : Int32) * (σ32.1 v0 39)) + v1)).toNatClampNeg (σ32.1 q34 (v1).toNatClampNeg)) (fun (σ37 : zS) => bnd (σ37.2 v0 49) (fun (q38 : Nat) => bnd (σ37.2 v0 49) (fun (q39 : Nat) => zX (σ37.1 v0 39) 20 (if (σ37.1 v0 1) ≤ v1 then (bX7_keep_143 k62 v0 v1 q38 ((σ37.1 v0 39)) ((σ37.1 q39 ((σ37.1 v0 39)).toNatClampNeg)) (0 : Int32) σ37) else (bnd (σ37.2 v0 7) (fun (q42 : Nat) => zX v1 40 (bX7_keep_143 k62 v0 v1 q38 ((σ37.1 v0 39)) ((σ37.1 q39 ((σ37.1 v0 39)).toNatClampNeg)) ((σ37.1 q42 (v1).toNatClampNeg)) σ37)))))))))))))))))
def fX7_keep_62  : Nat → Nat → Int32 → zS → Option (Int32 × zS)
  | 0, _, _, _ => none
  | n + 1, v0, v1, σ => bX7_keep_62 (fX7_keep_62  n) v0 v1 σ
def fX7_keep (v0 : Nat) (σ : zS) : Option (Int32 × zS) :=
  if (σ.1 v0 39) = (20 : Int32) then (some ((-1 : Int32), σ)) else (bnd (σ.2 v0 48) (fun (q45 : Nat) => zb (fX7_playsAsTold v0 σ) (fun (r47 : Int32) (σ46 : zS) => zX (σ.1 v0 39) 20 (bnd (zI σ46 q45 ((σ.1 v0 39)).toNatClampNeg r47) (fun (σ49 : zS) => bnd (σ49.2 v0 46) (fun (q50 : Nat) => zX (σ49.1 v0 39) 20 (bnd (zI σ49 q50 ((σ49.1 v0 39)).toNatClampNeg (σ49.1 v0 1)) (fun (σ52 : zS) => bnd (σ52.2 v0 47) (fun (q53 : Nat) => zX (σ52.1 v0 39) 20 (bnd (zI σ52 q53 ((σ52.1 v0 39)).toNatClampNeg (σ52.1 v0 0)) (fun (σ55 : zS) => bnd (σ55.2 v0 49) (fun (q56 : Nat) => zX (σ55.1 v0 39) 20 (bnd (zI σ55 q56 ((σ55.1 v0 39)).toNatClampNeg (0 : Int32)) (fun (σ58 : zS) => fX7_keep_62 zFU v0 (0 : Int32) σ58))))))))))))))
set_option maxRecDepth 100000 in
set_option maxHeartbeats 4000000 in
theorem jX7_keep_278 {p : Program} {l : Launch} {e : Env} {s : State} {m : MethodId} {args : Array Value} {below : List Frame} {meth : Method} {c : Code} {b0 : Nat} {cA : Nat → ClassId} {D : va_G} {L : List (Nat × Nat)} (hC : zC p c s m args meth cX7_keep 3 (some Jvm.ClassFile.FieldType.int) (Cond.code yX7_keep cX7_keep 3 (some Jvm.ClassFile.FieldType.int)) yX7_keep.cls cA D)  (v0 : Nat) (σ : zS) (ls : Array Slot) (hk_v0 : L[v0]? = some (0, 7)) (hl : lv_has ls 3 [(0, .ref (b0 + v0))]) : zJ p l e rmX7_keep s m args below meth c b0 cA D L (fun z => MQ below (va_Qi (fun (r : Int32) (u : zS) => (r, u) = z) (zB b0 cA D L) (zA b0 L)) args s 0 0 (zA b0 L)) (bX7_keep_278  v0 σ) σ 278 ls [] := by
  unfold bX7_keep_278
  refine zj_aload_n (pc' := 279) hC dX7_keep_278 rfl rfl (lv_at hl 0 rfl) ?_
  refine zj_aload_n (pc' := 280) hC dX7_keep_279 rfl rfl (lv_at hl 0 rfl) ?_
  refine zj_getI (pc' := 283) hC hk_v0 fd_7_39 rfl tw_4_87 dX7_keep_280 rfl ?_
  refine zj_iconst (pc' := 284) (v := (1 : Int32)) hC dX7_keep_283 rfl rfl ?_
  refine zj_iadd (pc' := 285) hC dX7_keep_284 rfl ?_
  refine zj_putI (pc' := 288) hC hk_v0 fd_7_39 rfl tw_4_87 rfl rfl rfl dX7_keep_285 rfl (fun σ1 => ?_)
  refine zj_aload_n (pc' := 289) hC dX7_keep_288 rfl rfl (lv_at hl 0 rfl) ?_
  refine zj_getI (pc' := 292) hC hk_v0 fd_7_39 rfl tw_4_87 dX7_keep_289 rfl ?_
  exact zj_iret hC dX7_keep_292
set_option maxRecDepth 100000 in
set_option maxHeartbeats 4000000 in
theorem jX7_keep_206 {p : Program} {l : Launch} {e : Env} {s : State} {m : MethodId} {args : Array Value} {below : List Frame} {meth : Method} {c : Code} {b0 : Nat} {cA : Nat → ClassId} {D : va_G} {L : List (Nat × Nat)} (hC : zC p c s m args meth cX7_keep 3 (some Jvm.ClassFile.FieldType.int) (Cond.code yX7_keep cX7_keep 3 (some Jvm.ClassFile.FieldType.int)) yX7_keep.cls cA D) (k206 : Nat → Int32 → zS → Option (Int32 × zS)) (h206 : ∀ (v0 : Nat) (v1 : Int32) (σ : zS) (ls : Array Slot), L[v0]? = some (0, 7) → lv_has ls 3 [(0, .ref (b0 + v0)), (1, .int v1)] → zJ p l e rmX7_keep s m args below meth c b0 cA D L (fun z => MQ below (va_Qi (fun (r : Int32) (u : zS) => (r, u) = z) (zB b0 cA D L) (zA b0 L)) args s 0 0 (zA b0 L)) (k206 v0 v1 σ) σ 206 ls []) (v0 : Nat) (v1 : Int32) (σ : zS) (ls : Array Slot) (hk_v0 : L[v0]? = some (0, 7)) (hl : lv_has ls 3 [(0, .ref (b0 + v0)), (1, .int v1)]) : zJ p l e rmX7_keep s m args below meth c b0 cA D L (fun z => MQ below (va_Qi (fun (r : Int32) (u : zS) => (r, u) = z) (zB b0 cA D L) (zA b0 L)) args s 0 0 (zA b0 L)) (bX7_keep_206 k206 v0 v1 σ) σ 206 ls [] := by
  unfold bX7_keep_206
  refine zj_iload_n (pc' := 207) hC dX7_keep_206 rfl rfl (lv_at hl 1 rfl) ?_
  refine zj_bipush (pc' := 209) (v := (24 : Int32)) hC dX7_keep_207 rfl rfl ?_
  refine zj_icmp_ge (tgt := 278) (pc' := 212) hC dX7_keep_209 (by decide) rfl (fun c2 => ?_) (fun c2 => ?_)
  · exact jX7_keep_278 hC v0 σ ls hk_v0 (lv_sub hl [0] rfl)
  · refine zj_aload_n (pc' := 213) hC dX7_keep_212 rfl rfl (lv_at hl 0 rfl) ?_
    refine zj_getR (pc' := 216) hC hk_v0 fd_7_41 rfl tw_4_89 dX7_keep_213 rfl (fun q3 hk_q3 => ?_)
    refine zj_bipush (pc' := 218) (v := (24 : Int32)) hC dX7_keep_216 rfl rfl ?_
    refine zj_aload_n (pc' := 219) hC dX7_keep_218 rfl rfl (lv_at hl 0 rfl) ?_
    refine zj_getI (pc' := 222) hC hk_v0 fd_7_39 rfl tw_4_87 dX7_keep_219 rfl ?_
    refine zj_imul (pc' := 223) hC dX7_keep_222 rfl ?_
    refine zj_iload_n (pc' := 224) hC dX7_keep_223 rfl rfl (lv_at hl 1 rfl) ?_
    refine zj_iadd (pc' := 225) hC dX7_keep_224 rfl ?_
    refine zj_aload_n (pc' := 226) hC dX7_keep_225 rfl rfl (lv_at hl 0 rfl) ?_
    refine zj_getR (pc' := 229) hC hk_v0 fd_7_4 rfl tw_4_52 dX7_keep_226 rfl (fun q4 hk_q4 => ?_)
    refine zj_iload_n (pc' := 230) hC dX7_keep_229 rfl rfl (lv_at hl 1 rfl) ?_
    refine zj_iald (pc' := 231) hC hk_q4 dX7_keep_230 rfl (fun g5 => ?_)
    refine zj_iast (pc' := 232) hC hk_q3 dX7_keep_231 rfl (fun g6 σ7 => ?_)
    refine zj_aload_n (pc' := 233) hC dX7_keep_232 rfl rfl (lv_at hl 0 rfl) ?_
    refine zj_getR (pc' := 236) hC hk_v0 fd_7_42 rfl tw_4_90 dX7_keep_233 rfl (fun q8 hk_q8 => ?_)
    refine zj_bipush (pc' := 238) (v := (24 : Int32)) hC dX7_keep_236 rfl rfl ?_
    refine zj_aload_n (pc' := 239) hC dX7_keep_238 rfl rfl (lv_at hl 0 rfl) ?_
    refine zj_getI (pc' := 242) hC hk_v0 fd_7_39 rfl tw_4_87 dX7_keep_239 rfl ?_
    refine zj_imul (pc' := 243) hC dX7_keep_242 rfl ?_
    refine zj_iload_n (pc' := 244) hC dX7_keep_243 rfl rfl (lv_at hl 1 rfl) ?_
    refine zj_iadd (pc' := 245) hC dX7_keep_244 rfl ?_
    refine zj_aload_n (pc' := 246) hC dX7_keep_245 rfl rfl (lv_at hl 0 rfl) ?_
    refine zj_getR (pc' := 249) hC hk_v0 fd_7_5 rfl tw_4_53 dX7_keep_246 rfl (fun q9 hk_q9 => ?_)
    refine zj_iload_n (pc' := 250) hC dX7_keep_249 rfl rfl (lv_at hl 1 rfl) ?_
    refine zj_iald (pc' := 251) hC hk_q9 dX7_keep_250 rfl (fun g10 => ?_)
    refine zj_iast (pc' := 252) hC hk_q8 dX7_keep_251 rfl (fun g11 σ12 => ?_)
    refine zj_aload_n (pc' := 253) hC dX7_keep_252 rfl rfl (lv_at hl 0 rfl) ?_
    refine zj_getR (pc' := 256) hC hk_v0 fd_7_43 rfl tw_4_91 dX7_keep_253 rfl (fun q13 hk_q13 => ?_)
    refine zj_bipush (pc' := 258) (v := (24 : Int32)) hC dX7_keep_256 rfl rfl ?_
    refine zj_aload_n (pc' := 259) hC dX7_keep_258 rfl rfl (lv_at hl 0 rfl) ?_
    refine zj_getI (pc' := 262) hC hk_v0 fd_7_39 rfl tw_4_87 dX7_keep_259 rfl ?_
    refine zj_imul (pc' := 263) hC dX7_keep_262 rfl ?_
    refine zj_iload_n (pc' := 264) hC dX7_keep_263 rfl rfl (lv_at hl 1 rfl) ?_
    refine zj_iadd (pc' := 265) hC dX7_keep_264 rfl ?_
    refine zj_aload_n (pc' := 266) hC dX7_keep_265 rfl rfl (lv_at hl 0 rfl) ?_
    refine zj_getR (pc' := 269) hC hk_v0 fd_7_6 rfl tw_4_54 dX7_keep_266 rfl (fun q14 hk_q14 => ?_)
    refine zj_iload_n (pc' := 270) hC dX7_keep_269 rfl rfl (lv_at hl 1 rfl) ?_
    refine zj_iald (pc' := 271) hC hk_q14 dX7_keep_270 rfl (fun g15 => ?_)
    refine zj_iast (pc' := 272) hC hk_q13 dX7_keep_271 rfl (fun g16 σ17 => ?_)
    refine zj_iinc (pc' := 275) (k0 := 1) (v := (v1 + (1 : Int32))) (lv' := [(1, .int (v1 + (1 : Int32))), (0, .ref (b0 + v0))]) hC dX7_keep_272 rfl hl rfl rfl (by decide) rfl (fun ls hl => ?_)
    refine zj_goto (tgt := 206) hC dX7_keep_275 (by decide) ?_
    exact h206 v0 ((v1 + (1 : Int32))) σ17 ls hk_v0 (lv_sub hl [1, 0] rfl)
set_option maxRecDepth 100000 in
set_option maxHeartbeats 4000000 in
theorem lX7_keep_206 {p : Program} {l : Launch} {e : Env} {s : State} {m : MethodId} {args : Array Value} {below : List Frame} {meth : Method} {c : Code} {b0 : Nat} {cA : Nat → ClassId} {D : va_G} {L : List (Nat × Nat)} (hC : zC p c s m args meth cX7_keep 3 (some Jvm.ClassFile.FieldType.int) (Cond.code yX7_keep cX7_keep 3 (some Jvm.ClassFile.FieldType.int)) yX7_keep.cls cA D)  (n : Nat) : ∀ (v0 : Nat) (v1 : Int32) (σ : zS) (ls : Array Slot), L[v0]? = some (0, 7) → lv_has ls 3 [(0, .ref (b0 + v0)), (1, .int v1)] → zJ p l e rmX7_keep s m args below meth c b0 cA D L (fun z => MQ below (va_Qi (fun (r : Int32) (u : zS) => (r, u) = z) (zB b0 cA D L) (zA b0 L)) args s 0 0 (zA b0 L)) (fX7_keep_206  n v0 v1 σ) σ 206 ls [] := by
  induction n with
  | zero => intros; exact zj_none
  | succ n ih => exact jX7_keep_206 hC (fX7_keep_206  n) ih
set_option maxRecDepth 100000 in
set_option maxHeartbeats 4000000 in
theorem jX7_keep_204 {p : Program} {l : Launch} {e : Env} {s : State} {m : MethodId} {args : Array Value} {below : List Frame} {meth : Method} {c : Code} {b0 : Nat} {cA : Nat → ClassId} {D : va_G} {L : List (Nat × Nat)} (hC : zC p c s m args meth cX7_keep 3 (some Jvm.ClassFile.FieldType.int) (Cond.code yX7_keep cX7_keep 3 (some Jvm.ClassFile.FieldType.int)) yX7_keep.cls cA D)  (v0 : Nat) (σ : zS) (ls : Array Slot) (hk_v0 : L[v0]? = some (0, 7)) (hl : lv_has ls 3 [(0, .ref (b0 + v0))]) : zJ p l e rmX7_keep s m args below meth c b0 cA D L (fun z => MQ below (va_Qi (fun (r : Int32) (u : zS) => (r, u) = z) (zB b0 cA D L) (zA b0 L)) args s 0 0 (zA b0 L)) (bX7_keep_204  v0 σ) σ 204 ls [] := by
  unfold bX7_keep_204
  refine zj_iconst (pc' := 205) (v := (0 : Int32)) hC dX7_keep_204 rfl rfl ?_
  refine zj_istore_n (pc' := 206) (lv' := [(1, .int (0 : Int32)), (0, .ref (b0 + v0))]) hC dX7_keep_205 rfl rfl hl (by decide) rfl (fun ls hl => ?_)
  exact lX7_keep_206 hC zFU v0 (0 : Int32) σ ls hk_v0 (lv_sub hl [1, 0] rfl)
set_option maxRecDepth 100000 in
set_option maxHeartbeats 4000000 in
theorem jX7_keep_198 {p : Program} {l : Launch} {e : Env} {s : State} {m : MethodId} {args : Array Value} {below : List Frame} {meth : Method} {c : Code} {b0 : Nat} {cA : Nat → ClassId} {D : va_G} {L : List (Nat × Nat)} (hC : zC p c s m args meth cX7_keep 3 (some Jvm.ClassFile.FieldType.int) (Cond.code yX7_keep cX7_keep 3 (some Jvm.ClassFile.FieldType.int)) yX7_keep.cls cA D) (k62 : Nat → Int32 → zS → Option (Int32 × zS)) (h62 : ∀ (v0 : Nat) (v1 : Int32) (σ : zS) (ls : Array Slot), L[v0]? = some (0, 7) → lv_has ls 3 [(0, .ref (b0 + v0)), (1, .int v1)] → zJ p l e rmX7_keep s m args below meth c b0 cA D L (fun z => MQ below (va_Qi (fun (r : Int32) (u : zS) => (r, u) = z) (zB b0 cA D L) (zA b0 L)) args s 0 0 (zA b0 L)) (k62 v0 v1 σ) σ 62 ls []) (v0 : Nat) (v1 : Int32) (σ : zS) (ls : Array Slot) (hk_v0 : L[v0]? = some (0, 7)) (hl : lv_has ls 3 [(0, .ref (b0 + v0)), (1, .int v1)]) : zJ p l e rmX7_keep s m args below meth c b0 cA D L (fun z => MQ below (va_Qi (fun (r : Int32) (u : zS) => (r, u) = z) (zB b0 cA D L) (zA b0 L)) args s 0 0 (zA b0 L)) (bX7_keep_198 k62 v0 v1 σ) σ 198 ls [] := by
  unfold bX7_keep_198
  refine zj_iinc (pc' := 201) (k0 := 1) (v := (v1 + (1 : Int32))) (lv' := [(1, .int (v1 + (1 : Int32))), (0, .ref (b0 + v0))]) hC dX7_keep_198 rfl hl rfl rfl (by decide) rfl (fun ls hl => ?_)
  refine zj_goto (tgt := 62) hC dX7_keep_201 (by decide) ?_
  exact h62 v0 ((v1 + (1 : Int32))) σ ls hk_v0 (lv_sub hl [1, 0] rfl)
set_option maxRecDepth 100000 in
set_option maxHeartbeats 4000000 in
theorem jX7_keep_147 {p : Program} {l : Launch} {e : Env} {s : State} {m : MethodId} {args : Array Value} {below : List Frame} {meth : Method} {c : Code} {b0 : Nat} {cA : Nat → ClassId} {D : va_G} {L : List (Nat × Nat)} (hC : zC p c s m args meth cX7_keep 3 (some Jvm.ClassFile.FieldType.int) (Cond.code yX7_keep cX7_keep 3 (some Jvm.ClassFile.FieldType.int)) yX7_keep.cls cA D) (k62 : Nat → Int32 → zS → Option (Int32 × zS)) (h62 : ∀ (v0 : Nat) (v1 : Int32) (σ : zS) (ls : Array Slot), L[v0]? = some (0, 7) → lv_has ls 3 [(0, .ref (b0 + v0)), (1, .int v1)] → zJ p l e rmX7_keep s m args below meth c b0 cA D L (fun z => MQ below (va_Qi (fun (r : Int32) (u : zS) => (r, u) = z) (zB b0 cA D L) (zA b0 L)) args s 0 0 (zA b0 L)) (k62 v0 v1 σ) σ 62 ls []) (k147 : Nat → Int32 → Int32 → zS → Option (Int32 × zS)) (h147 : ∀ (v0 : Nat) (v1 : Int32) (v2 : Int32) (σ : zS) (ls : Array Slot), L[v0]? = some (0, 7) → lv_has ls 3 [(0, .ref (b0 + v0)), (1, .int v1), (2, .int v2)] → zJ p l e rmX7_keep s m args below meth c b0 cA D L (fun z => MQ below (va_Qi (fun (r : Int32) (u : zS) => (r, u) = z) (zB b0 cA D L) (zA b0 L)) args s 0 0 (zA b0 L)) (k147 v0 v1 v2 σ) σ 147 ls []) (v0 : Nat) (v1 : Int32) (v2 : Int32) (σ : zS) (ls : Array Slot) (hk_v0 : L[v0]? = some (0, 7)) (hl : lv_has ls 3 [(0, .ref (b0 + v0)), (1, .int v1), (2, .int v2)]) : zJ p l e rmX7_keep s m args below meth c b0 cA D L (fun z => MQ below (va_Qi (fun (r : Int32) (u : zS) => (r, u) = z) (zB b0 cA D L) (zA b0 L)) args s 0 0 (zA b0 L)) (bX7_keep_147 k62 k147 v0 v1 v2 σ) σ 147 ls [] := by
  unfold bX7_keep_147
  refine zj_iload_n (pc' := 148) hC dX7_keep_147 rfl rfl (lv_at hl 2 rfl) ?_
  refine zj_bipush (pc' := 150) (v := (24 : Int32)) hC dX7_keep_148 rfl rfl ?_
  refine zj_icmp_ge (tgt := 198) (pc' := 153) hC dX7_keep_150 (by decide) rfl (fun c18 => ?_) (fun c18 => ?_)
  · exact jX7_keep_198 hC k62 h62 v0 v1 σ ls hk_v0 (lv_sub hl [0, 1] rfl)
  · refine zj_iload_n (pc' := 154) hC dX7_keep_153 rfl rfl (lv_at hl 1 rfl) ?_
    refine zj_aload_n (pc' := 155) hC dX7_keep_154 rfl rfl (lv_at hl 0 rfl) ?_
    refine zj_getI (pc' := 158) hC hk_v0 fd_7_1 rfl tw_4_49 dX7_keep_155 rfl ?_
    refine zj_icmp_ge (tgt := 198) (pc' := 161) hC dX7_keep_158 (by decide) rfl (fun c19 => ?_) (fun c19 => ?_)
    · exact jX7_keep_198 hC k62 h62 v0 v1 σ ls hk_v0 (lv_sub hl [0, 1] rfl)
    · refine zj_aload_n (pc' := 162) hC dX7_keep_161 rfl rfl (lv_at hl 0 rfl) ?_
      refine zj_getR (pc' := 165) hC hk_v0 fd_7_40 rfl tw_4_88 dX7_keep_162 rfl (fun q20 hk_q20 => ?_)
      refine zj_sipush (pc' := 168) (v := (960 : Int32)) hC dX7_keep_165 rfl rfl ?_
      refine zj_aload_n (pc' := 169) hC dX7_keep_168 rfl rfl (lv_at hl 0 rfl) ?_
      refine zj_getI (pc' := 172) hC hk_v0 fd_7_39 rfl tw_4_87 dX7_keep_169 rfl ?_
      refine zj_imul (pc' := 173) hC dX7_keep_172 rfl ?_
      refine zj_bipush (pc' := 175) (v := (24 : Int32)) hC dX7_keep_173 rfl rfl ?_
      refine zj_iload_n (pc' := 176) hC dX7_keep_175 rfl rfl (lv_at hl 1 rfl) ?_
      refine zj_imul (pc' := 177) hC dX7_keep_176 rfl ?_
      refine zj_iadd (pc' := 178) hC dX7_keep_177 rfl ?_
      refine zj_iload_n (pc' := 179) hC dX7_keep_178 rfl rfl (lv_at hl 2 rfl) ?_
      refine zj_iadd (pc' := 180) hC dX7_keep_179 rfl ?_
      refine zj_aload_n (pc' := 181) hC dX7_keep_180 rfl rfl (lv_at hl 0 rfl) ?_
      refine zj_getR (pc' := 184) hC hk_v0 fd_7_32 rfl tw_4_80 dX7_keep_181 rfl (fun q21 hk_q21 => ?_)
      refine zj_bipush (pc' := 186) (v := (24 : Int32)) hC dX7_keep_184 rfl rfl ?_
      refine zj_iload_n (pc' := 187) hC dX7_keep_186 rfl rfl (lv_at hl 1 rfl) ?_
      refine zj_imul (pc' := 188) hC dX7_keep_187 rfl ?_
      refine zj_iload_n (pc' := 189) hC dX7_keep_188 rfl rfl (lv_at hl 2 rfl) ?_
      refine zj_iadd (pc' := 190) hC dX7_keep_189 rfl ?_
      refine zj_iald (pc' := 191) hC hk_q21 dX7_keep_190 rfl (fun g22 => ?_)
      refine zj_iast (pc' := 192) hC hk_q20 dX7_keep_191 rfl (fun g23 σ24 => ?_)
      refine zj_iinc (pc' := 195) (k0 := 2) (v := (v2 + (1 : Int32))) (lv' := [(2, .int (v2 + (1 : Int32))), (0, .ref (b0 + v0)), (1, .int v1)]) hC dX7_keep_192 rfl hl rfl rfl (by decide) rfl (fun ls hl => ?_)
      refine zj_goto (tgt := 147) hC dX7_keep_195 (by decide) ?_
      exact h147 v0 v1 ((v2 + (1 : Int32))) σ24 ls hk_v0 (lv_sub hl [1, 2, 0] rfl)
set_option maxRecDepth 100000 in
set_option maxHeartbeats 4000000 in
theorem lX7_keep_147 {p : Program} {l : Launch} {e : Env} {s : State} {m : MethodId} {args : Array Value} {below : List Frame} {meth : Method} {c : Code} {b0 : Nat} {cA : Nat → ClassId} {D : va_G} {L : List (Nat × Nat)} (hC : zC p c s m args meth cX7_keep 3 (some Jvm.ClassFile.FieldType.int) (Cond.code yX7_keep cX7_keep 3 (some Jvm.ClassFile.FieldType.int)) yX7_keep.cls cA D) (k62 : Nat → Int32 → zS → Option (Int32 × zS)) (h62 : ∀ (v0 : Nat) (v1 : Int32) (σ : zS) (ls : Array Slot), L[v0]? = some (0, 7) → lv_has ls 3 [(0, .ref (b0 + v0)), (1, .int v1)] → zJ p l e rmX7_keep s m args below meth c b0 cA D L (fun z => MQ below (va_Qi (fun (r : Int32) (u : zS) => (r, u) = z) (zB b0 cA D L) (zA b0 L)) args s 0 0 (zA b0 L)) (k62 v0 v1 σ) σ 62 ls []) (n : Nat) : ∀ (v0 : Nat) (v1 : Int32) (v2 : Int32) (σ : zS) (ls : Array Slot), L[v0]? = some (0, 7) → lv_has ls 3 [(0, .ref (b0 + v0)), (1, .int v1), (2, .int v2)] → zJ p l e rmX7_keep s m args below meth c b0 cA D L (fun z => MQ below (va_Qi (fun (r : Int32) (u : zS) => (r, u) = z) (zB b0 cA D L) (zA b0 L)) args s 0 0 (zA b0 L)) (fX7_keep_147 k62 n v0 v1 v2 σ) σ 147 ls [] := by
  induction n with
  | zero => intros; exact zj_none
  | succ n ih => exact jX7_keep_147 hC k62 h62 (fX7_keep_147 k62 n) ih
set_option maxRecDepth 100000 in
set_option maxHeartbeats 4000000 in
theorem jX7_keep_143 {p : Program} {l : Launch} {e : Env} {s : State} {m : MethodId} {args : Array Value} {below : List Frame} {meth : Method} {c : Code} {b0 : Nat} {cA : Nat → ClassId} {D : va_G} {L : List (Nat × Nat)} (hC : zC p c s m args meth cX7_keep 3 (some Jvm.ClassFile.FieldType.int) (Cond.code yX7_keep cX7_keep 3 (some Jvm.ClassFile.FieldType.int)) yX7_keep.cls cA D) (k62 : Nat → Int32 → zS → Option (Int32 × zS)) (h62 : ∀ (v0 : Nat) (v1 : Int32) (σ : zS) (ls : Array Slot), L[v0]? = some (0, 7) → lv_has ls 3 [(0, .ref (b0 + v0)), (1, .int v1)] → zJ p l e rmX7_keep s m args below meth c b0 cA D L (fun z => MQ below (va_Qi (fun (r : Int32) (u : zS) => (r, u) = z) (zB b0 cA D L) (zA b0 L)) args s 0 0 (zA b0 L)) (k62 v0 v1 σ) σ 62 ls []) (v0 : Nat) (v1 : Int32) (s0 : Nat) (s1 : Int32) (s2 : Int32) (s3 : Int32) (σ : zS) (ls : Array Slot) (hk_v0 : L[v0]? = some (0, 7)) (hk_s0 : L[s0]? = some (1, 20)) (hl : lv_has ls 3 [(0, .ref (b0 + v0)), (1, .int v1)]) : zJ p l e rmX7_keep s m args below meth c b0 cA D L (fun z => MQ below (va_Qi (fun (r : Int32) (u : zS) => (r, u) = z) (zB b0 cA D L) (zA b0 L)) args s 0 0 (zA b0 L)) (bX7_keep_143 k62 v0 v1 s0 s1 s2 s3 σ) σ 143 ls [.int s3, .int s2, .int s1, .ref (b0 + s0)] := by
  unfold bX7_keep_143
  refine zj_iadd (pc' := 144) hC dX7_keep_143 rfl ?_
  refine zj_iast (pc' := 145) hC hk_s0 dX7_keep_144 rfl (fun g25 σ26 => ?_)
  refine zj_iconst (pc' := 146) (v := (0 : Int32)) hC dX7_keep_145 rfl rfl ?_
  refine zj_istore_n (pc' := 147) (lv' := [(2, .int (0 : Int32)), (0, .ref (b0 + v0)), (1, .int v1)]) hC dX7_keep_146 rfl rfl hl (by decide) rfl (fun ls hl => ?_)
  exact lX7_keep_147 hC k62 h62 zFU v0 v1 (0 : Int32) σ26 ls hk_v0 (lv_sub hl [1, 2, 0] rfl)
set_option maxRecDepth 100000 in
set_option maxHeartbeats 4000000 in
theorem jX7_keep_62 {p : Program} {l : Launch} {e : Env} {s : State} {m : MethodId} {args : Array Value} {below : List Frame} {meth : Method} {c : Code} {b0 : Nat} {cA : Nat → ClassId} {D : va_G} {L : List (Nat × Nat)} (hC : zC p c s m args meth cX7_keep 3 (some Jvm.ClassFile.FieldType.int) (Cond.code yX7_keep cX7_keep 3 (some Jvm.ClassFile.FieldType.int)) yX7_keep.cls cA D) (k62 : Nat → Int32 → zS → Option (Int32 × zS)) (h62 : ∀ (v0 : Nat) (v1 : Int32) (σ : zS) (ls : Array Slot), L[v0]? = some (0, 7) → lv_has ls 3 [(0, .ref (b0 + v0)), (1, .int v1)] → zJ p l e rmX7_keep s m args below meth c b0 cA D L (fun z => MQ below (va_Qi (fun (r : Int32) (u : zS) => (r, u) = z) (zB b0 cA D L) (zA b0 L)) args s 0 0 (zA b0 L)) (k62 v0 v1 σ) σ 62 ls []) (v0 : Nat) (v1 : Int32) (σ : zS) (ls : Array Slot) (hk_v0 : L[v0]? = some (0, 7)) (hl : lv_has ls 3 [(0, .ref (b0 + v0)), (1, .int v1)]) : zJ p l e rmX7_keep s m args below meth c b0 cA D L (fun z => MQ below (va_Qi (fun (r : Int32) (u : zS) => (r, u) = z) (zB b0 cA D L) (zA b0 L)) args s 0 0 (zA b0 L)) (bX7_keep_62 k62 v0 v1 σ) σ 62 ls [] := by
  unfold bX7_keep_62
  refine zj_iload_n (pc' := 63) hC dX7_keep_62 rfl rfl (lv_at hl 1 rfl) ?_
  refine zj_bipush (pc' := 65) (v := (40 : Int32)) hC dX7_keep_63 rfl rfl ?_
  refine zj_icmp_ge (tgt := 204) (pc' := 68) hC dX7_keep_65 (by decide) rfl (fun c27 => ?_) (fun c27 => ?_)
  · exact jX7_keep_204 hC v0 σ ls hk_v0 (lv_sub hl [0] rfl)
  · refine zj_aload_n (pc' := 69) hC dX7_keep_68 rfl rfl (lv_at hl 0 rfl) ?_
    refine zj_getR (pc' := 72) hC hk_v0 fd_7_44 rfl tw_4_92 dX7_keep_69 rfl (fun q28 hk_q28 => ?_)
    refine zj_bipush (pc' := 74) (v := (40 : Int32)) hC dX7_keep_72 rfl rfl ?_
    refine zj_aload_n (pc' := 75) hC dX7_keep_74 rfl rfl (lv_at hl 0 rfl) ?_
    refine zj_getI (pc' := 78) hC hk_v0 fd_7_39 rfl tw_4_87 dX7_keep_75 rfl ?_
    refine zj_imul (pc' := 79) hC dX7_keep_78 rfl ?_
    refine zj_iload_n (pc' := 80) hC dX7_keep_79 rfl rfl (lv_at hl 1 rfl) ?_
    refine zj_iadd (pc' := 81) hC dX7_keep_80 rfl ?_
    refine zj_aload_n (pc' := 82) hC dX7_keep_81 rfl rfl (lv_at hl 0 rfl) ?_
    refine zj_getR (pc' := 85) hC hk_v0 fd_7_7 rfl tw_4_55 dX7_keep_82 rfl (fun q29 hk_q29 => ?_)
    refine zj_iload_n (pc' := 86) hC dX7_keep_85 rfl rfl (lv_at hl 1 rfl) ?_
    refine zj_iald (pc' := 87) hC hk_q29 dX7_keep_86 rfl (fun g30 => ?_)
    refine zj_iast (pc' := 88) hC hk_q28 dX7_keep_87 rfl (fun g31 σ32 => ?_)
    refine zj_aload_n (pc' := 89) hC dX7_keep_88 rfl rfl (lv_at hl 0 rfl) ?_
    refine zj_getR (pc' := 92) hC hk_v0 fd_7_45 rfl tw_4_93 dX7_keep_89 rfl (fun q33 hk_q33 => ?_)
    refine zj_bipush (pc' := 94) (v := (40 : Int32)) hC dX7_keep_92 rfl rfl ?_
    refine zj_aload_n (pc' := 95) hC dX7_keep_94 rfl rfl (lv_at hl 0 rfl) ?_
    refine zj_getI (pc' := 98) hC hk_v0 fd_7_39 rfl tw_4_87 dX7_keep_95 rfl ?_
    refine zj_imul (pc' := 99) hC dX7_keep_98 rfl ?_
    refine zj_iload_n (pc' := 100) hC dX7_keep_99 rfl rfl (lv_at hl 1 rfl) ?_
    refine zj_iadd (pc' := 101) hC dX7_keep_100 rfl ?_
    refine zj_aload_n (pc' := 102) hC dX7_keep_101 rfl rfl (lv_at hl 0 rfl) ?_
    refine zj_getR (pc' := 105) hC hk_v0 fd_7_8 rfl tw_4_56 dX7_keep_102 rfl (fun q34 hk_q34 => ?_)
    refine zj_iload_n (pc' := 106) hC dX7_keep_105 rfl rfl (lv_at hl 1 rfl) ?_
    refine zj_iald (pc' := 107) hC hk_q34 dX7_keep_106 rfl (fun g35 => ?_)
    refine zj_iast (pc' := 108) hC hk_q33 dX7_keep_107 rfl (fun g36 σ37 => ?_)
    refine zj_aload_n (pc' := 109) hC dX7_keep_108 rfl rfl (lv_at hl 0 rfl) ?_
    refine zj_getR (pc' := 112) hC hk_v0 fd_7_49 rfl tw_4_97 dX7_keep_109 rfl (fun q38 hk_q38 => ?_)
    refine zj_aload_n (pc' := 113) hC dX7_keep_112 rfl rfl (lv_at hl 0 rfl) ?_
    refine zj_getI (pc' := 116) hC hk_v0 fd_7_39 rfl tw_4_87 dX7_keep_113 rfl ?_
    refine zj_aload_n (pc' := 117) hC dX7_keep_116 rfl rfl (lv_at hl 0 rfl) ?_
    refine zj_getR (pc' := 120) hC hk_v0 fd_7_49 rfl tw_4_97 dX7_keep_117 rfl (fun q39 hk_q39 => ?_)
    refine zj_aload_n (pc' := 121) hC dX7_keep_120 rfl rfl (lv_at hl 0 rfl) ?_
    refine zj_getI (pc' := 124) hC hk_v0 fd_7_39 rfl tw_4_87 dX7_keep_121 rfl ?_
    refine zj_iald (pc' := 125) hC hk_q39 dX7_keep_124 rfl (fun g40 => ?_)
    refine zj_iload_n (pc' := 126) hC dX7_keep_125 rfl rfl (lv_at hl 1 rfl) ?_
    refine zj_aload_n (pc' := 127) hC dX7_keep_126 rfl rfl (lv_at hl 0 rfl) ?_
    refine zj_getI (pc' := 130) hC hk_v0 fd_7_1 rfl tw_4_49 dX7_keep_127 rfl ?_
    refine zj_icmp_ge (tgt := 142) (pc' := 133) hC dX7_keep_130 (by decide) rfl (fun c41 => ?_) (fun c41 => ?_)
    · refine zj_iconst (pc' := 143) (v := (0 : Int32)) hC dX7_keep_142 rfl rfl ?_
      exact jX7_keep_143 hC k62 h62 v0 v1 q38 ((σ37.1 v0 39)) ((σ37.1 q39 ((σ37.1 v0 39)).toNatClampNeg)) (0 : Int32) σ37 ls hk_v0 hk_q38 (lv_sub hl [0, 1] rfl)
    · refine zj_aload_n (pc' := 134) hC dX7_keep_133 rfl rfl (lv_at hl 0 rfl) ?_
      refine zj_getR (pc' := 137) hC hk_v0 fd_7_7 rfl tw_4_55 dX7_keep_134 rfl (fun q42 hk_q42 => ?_)
      refine zj_iload_n (pc' := 138) hC dX7_keep_137 rfl rfl (lv_at hl 1 rfl) ?_
      refine zj_iald (pc' := 139) hC hk_q42 dX7_keep_138 rfl (fun g43 => ?_)
      refine zj_goto (tgt := 143) hC dX7_keep_139 (by decide) ?_
      exact jX7_keep_143 hC k62 h62 v0 v1 q38 ((σ37.1 v0 39)) ((σ37.1 q39 ((σ37.1 v0 39)).toNatClampNeg)) ((σ37.1 q42 (v1).toNatClampNeg)) σ37 ls hk_v0 hk_q38 (lv_sub hl [0, 1] rfl)
set_option maxRecDepth 100000 in
set_option maxHeartbeats 4000000 in
theorem lX7_keep_62 {p : Program} {l : Launch} {e : Env} {s : State} {m : MethodId} {args : Array Value} {below : List Frame} {meth : Method} {c : Code} {b0 : Nat} {cA : Nat → ClassId} {D : va_G} {L : List (Nat × Nat)} (hC : zC p c s m args meth cX7_keep 3 (some Jvm.ClassFile.FieldType.int) (Cond.code yX7_keep cX7_keep 3 (some Jvm.ClassFile.FieldType.int)) yX7_keep.cls cA D)  (n : Nat) : ∀ (v0 : Nat) (v1 : Int32) (σ : zS) (ls : Array Slot), L[v0]? = some (0, 7) → lv_has ls 3 [(0, .ref (b0 + v0)), (1, .int v1)] → zJ p l e rmX7_keep s m args below meth c b0 cA D L (fun z => MQ below (va_Qi (fun (r : Int32) (u : zS) => (r, u) = z) (zB b0 cA D L) (zA b0 L)) args s 0 0 (zA b0 L)) (fX7_keep_62  n v0 v1 σ) σ 62 ls [] := by
  induction n with
  | zero => intros; exact zj_none
  | succ n ih => exact jX7_keep_62 hC (fX7_keep_62  n) ih
set_option maxRecDepth 100000 in
set_option maxHeartbeats 4000000 in
theorem kX7_keep (l : Launch) (b0 : Nat) (cA : Nat → ClassId) (D : va_G) (L : List (Nat × Nat)) (v0 : Nat) (σ : zS) (hk0 : L[v0]? = some (0, 7)) : zMi l b0 cA D L yX7_keep (Cond.code yX7_keep cX7_keep 3 (some Jvm.ClassFile.FieldType.int)) rmX7_keep [.ref (b0 + v0)] σ (fX7_keep v0 σ) := by
  refine zMi_of (by decide) (Nat.le_of_ble_eq_true rfl) ?_
  intro p e s m below meth c ls hC hl
  have hl : lv_has ls 3 [(0, .ref (b0 + v0))] := hl
  generalize ([.ref (b0 + v0)] : List Value).toArray = args at hC ⊢
  unfold fX7_keep
  refine zj_aload_n (pc' := 1) hC dX7_keep_0 rfl rfl (lv_at hl 0 rfl) ?_
  refine zj_getI (pc' := 4) hC hk0 fd_7_39 rfl tw_4_87 dX7_keep_1 rfl ?_
  refine zj_bipush (pc' := 6) (v := (20 : Int32)) hC dX7_keep_4 rfl rfl ?_
  refine zj_icmp_ne (tgt := 11) (pc' := 9) hC dX7_keep_6 (by decide) rfl (fun c44 => ?_) (fun c44 => ?_)
  · refine zj_aload_n (pc' := 12) hC dX7_keep_11 rfl rfl (lv_at hl 0 rfl) ?_
    refine zj_getR (pc' := 15) hC hk0 fd_7_48 rfl tw_4_96 dX7_keep_12 rfl (fun q45 hk_q45 => ?_)
    refine zj_aload_n (pc' := 16) hC dX7_keep_15 rfl rfl (lv_at hl 0 rfl) ?_
    refine zj_getI (pc' := 19) hC hk0 fd_7_39 rfl tw_4_87 dX7_keep_16 rfl ?_
    refine zj_aload_n (pc' := 20) hC dX7_keep_19 rfl rfl (lv_at hl 0 rfl) ?_
    refine zj_calliV (pc' := 23) (rest := [.int (σ.1 v0 39), .ref (b0 + q45)]) hC (kX7_playsAsTold l b0 cA D L v0 σ hk0) hk0 rfl tw_5_114 tw_5_111 tw_5_113 ts_4_8 tw_1_8 ddX7_playsAsTold rfl ⟨rfl, rfl⟩ ⟨by decide, by decide⟩ hl.1 (Nat.le_of_ble_eq_true rfl) rfl dX7_keep_20 rfl (fun r47 σ46 => ?_)
    refine zj_iast (pc' := 24) hC hk_q45 dX7_keep_23 rfl (fun g48 σ49 => ?_)
    refine zj_aload_n (pc' := 25) hC dX7_keep_24 rfl rfl (lv_at hl 0 rfl) ?_
    refine zj_getR (pc' := 28) hC hk0 fd_7_46 rfl tw_4_94 dX7_keep_25 rfl (fun q50 hk_q50 => ?_)
    refine zj_aload_n (pc' := 29) hC dX7_keep_28 rfl rfl (lv_at hl 0 rfl) ?_
    refine zj_getI (pc' := 32) hC hk0 fd_7_39 rfl tw_4_87 dX7_keep_29 rfl ?_
    refine zj_aload_n (pc' := 33) hC dX7_keep_32 rfl rfl (lv_at hl 0 rfl) ?_
    refine zj_getI (pc' := 36) hC hk0 fd_7_1 rfl tw_4_49 dX7_keep_33 rfl ?_
    refine zj_iast (pc' := 37) hC hk_q50 dX7_keep_36 rfl (fun g51 σ52 => ?_)
    refine zj_aload_n (pc' := 38) hC dX7_keep_37 rfl rfl (lv_at hl 0 rfl) ?_
    refine zj_getR (pc' := 41) hC hk0 fd_7_47 rfl tw_4_95 dX7_keep_38 rfl (fun q53 hk_q53 => ?_)
    refine zj_aload_n (pc' := 42) hC dX7_keep_41 rfl rfl (lv_at hl 0 rfl) ?_
    refine zj_getI (pc' := 45) hC hk0 fd_7_39 rfl tw_4_87 dX7_keep_42 rfl ?_
    refine zj_aload_n (pc' := 46) hC dX7_keep_45 rfl rfl (lv_at hl 0 rfl) ?_
    refine zj_getI (pc' := 49) hC hk0 fd_7_0 rfl tw_4_48 dX7_keep_46 rfl ?_
    refine zj_iast (pc' := 50) hC hk_q53 dX7_keep_49 rfl (fun g54 σ55 => ?_)
    refine zj_aload_n (pc' := 51) hC dX7_keep_50 rfl rfl (lv_at hl 0 rfl) ?_
    refine zj_getR (pc' := 54) hC hk0 fd_7_49 rfl tw_4_97 dX7_keep_51 rfl (fun q56 hk_q56 => ?_)
    refine zj_aload_n (pc' := 55) hC dX7_keep_54 rfl rfl (lv_at hl 0 rfl) ?_
    refine zj_getI (pc' := 58) hC hk0 fd_7_39 rfl tw_4_87 dX7_keep_55 rfl ?_
    refine zj_iconst (pc' := 59) (v := (0 : Int32)) hC dX7_keep_58 rfl rfl ?_
    refine zj_iast (pc' := 60) hC hk_q56 dX7_keep_59 rfl (fun g57 σ58 => ?_)
    refine zj_iconst (pc' := 61) (v := (0 : Int32)) hC dX7_keep_60 rfl rfl ?_
    refine zj_istore_n (pc' := 62) (lv' := [(1, .int (0 : Int32)), (0, .ref (b0 + v0))]) hC dX7_keep_61 rfl rfl hl (by decide) rfl (fun ls hl => ?_)
    exact lX7_keep_62 hC zFU v0 (0 : Int32) σ58 ls hk0 (lv_sub hl [1, 0] rfl)
  · refine zj_iconst (pc' := 10) (v := (-1 : Int32)) hC dX7_keep_9 rfl rfl ?_
    exact zj_iret hC dX7_keep_10
-- X7_hears
theorem ddX7_hears : yX7_hears.cls ≠ "java/lang/invoke/MethodHandle" ∧ yX7_hears.cls ≠ "java/lang/invoke/VarHandle" ∧ (parseMethodDescriptor yX7_hears.desc).map (fun d => d.parameters.length) = some 1 := by decide +kernel
abbrev rmX7_hears : Room := { frames := 1, cells := 0, slots := 0, locals := 22 }
def bX7_hears_171  (v1 : Int32) (v2 : Int32) (v3 : Int32) (σ : zS) : Option (Int32 × zS) :=
  if v1 = 0 then (some (v2, σ)) else (some (v3, σ))
def bX7_hears_165 (k18 : Nat → Int32 → Int32 → Int32 → Int32 → zS → Option (Int32 × zS)) (v0 : Nat) (v1 : Int32) (v2 : Int32) (v3 : Int32) (v4 : Int32) (σ : zS) : Option (Int32 × zS) :=
  k18 v0 v1 v2 v3 ((v4 + (1 : Int32))) σ
def bX7_hears_159 (k33 : Nat → Int32 → Int32 → Int32 → Int32 → Int32 → zS → Option (Int32 × zS)) (v0 : Nat) (v1 : Int32) (v2 : Int32) (v3 : Int32) (v4 : Int32) (v5 : Int32) (σ : zS) : Option (Int32 × zS) :=
  k33 v0 v1 v2 v3 v4 ((v5 + (1 : Int32))) σ
def bX7_hears_157 (k159 : Nat → Int32 → Int32 → Int32 → Int32 → Int32 → zS → Option (Int32 × zS)) (v0 : Nat) (v1 : Int32) (v2 : Int32) (v4 : Int32) (v5 : Int32) (s0 : Int32) (s1 : Int32) (σ : zS) : Option (Int32 × zS) :=
  bnd ((s0 + s1)) (fun (x2 : Int32) => k159 v0 v1 v2 x2 v4 v5 σ)
def bX7_hears_144 (k159 : Nat → Int32 → Int32 → Int32 → Int32 → Int32 → zS → Option (Int32 × zS)) (v0 : Nat) (v1 : Int32) (v3 : Int32) (v4 : Int32) (v5 : Int32) (v6 : Int32) (s0 : Int32) (s1 : Int32) (σ : zS) : Option (Int32 × zS) :=
  bnd ((s0 + s1)) (fun (x3 : Int32) => if v6 = 0 then (bX7_hears_157 k159 v0 v1 x3 v4 v5 v3 (1 : Int32) σ) else (bX7_hears_157 k159 v0 v1 x3 v4 v5 v3 (0 : Int32) σ))
def bX7_hears_131 (k159 : Nat → Int32 → Int32 → Int32 → Int32 → Int32 → zS → Option (Int32 × zS)) (v0 : Nat) (v1 : Int32) (v2 : Int32) (v3 : Int32) (v4 : Int32) (v5 : Int32) (s0 : Int32) (σ : zS) : Option (Int32 × zS) :=
  if s0 = 0 then (bX7_hears_144 k159 v0 v1 v3 v4 v5 s0 v2 (0 : Int32) σ) else (bX7_hears_144 k159 v0 v1 v3 v4 v5 s0 v2 (1 : Int32) σ)
def bX7_hears_123 (k159 : Nat → Int32 → Int32 → Int32 → Int32 → Int32 → zS → Option (Int32 × zS)) (v0 : Nat) (v1 : Int32) (v2 : Int32) (v3 : Int32) (v4 : Int32) (v5 : Int32) (s0 : Int32) (s1 : Int32) (σ : zS) : Option (Int32 × zS) :=
  if s0 = s1 then (bX7_hears_131 k159 v0 v1 v2 v3 v4 v5 (1 : Int32) σ) else (bX7_hears_131 k159 v0 v1 v2 v3 v4 v5 (0 : Int32) σ)
def bX7_hears_101 (k159 : Nat → Int32 → Int32 → Int32 → Int32 → Int32 → zS → Option (Int32 × zS)) (v0 : Nat) (v1 : Int32) (v2 : Int32) (v3 : Int32) (v4 : Int32) (v5 : Int32) (s0 : Int32) (σ : zS) : Option (Int32 × zS) :=
  bnd (σ.2 v0 49) (fun (q7 : Nat) => zX v4 20 (bnd (σ.2 v0 49) (fun (q9 : Nat) => zX v5 20 (if (σ.1 q9 (v5).toNatClampNeg) ≤ (σ.1 q7 (v4).toNatClampNeg) then (bX7_hears_123 k159 v0 v1 v2 v3 v4 v5 s0 (0 : Int32) σ) else (bX7_hears_123 k159 v0 v1 v2 v3 v4 v5 s0 (1 : Int32) σ)))))
def bX7_hears_33 (k18 : Nat → Int32 → Int32 → Int32 → Int32 → zS → Option (Int32 × zS)) (k33 : Nat → Int32 → Int32 → Int32 → Int32 → Int32 → zS → Option (Int32 × zS)) (v0 : Nat) (v1 : Int32) (v2 : Int32) (v3 : Int32) (v4 : Int32) (v5 : Int32) (σ : zS) : Option (Int32 × zS) :=
  if (σ.1 v0 39) ≤ v5 then (bX7_hears_165 k18 v0 v1 v2 v3 v4 σ) else (bnd (σ.2 v0 48) (fun (q13 : Nat) => zX v4 20 (bnd (σ.2 v0 48) (fun (q15 : Nat) => zX v5 20 (if (σ.1 q13 (v4).toNatClampNeg) = (σ.1 q15 (v5).toNatClampNeg) then (bX7_hears_159 k33 v0 v1 v2 v3 v4 v5 σ) else (bnd (σ.2 v0 49) (fun (q18 : Nat) => zX v4 20 (bnd (σ.2 v0 49) (fun (q20 : Nat) => zX v5 20 (if (σ.1 q18 (v4).toNatClampNeg) = (σ.1 q20 (v5).toNatClampNeg) then (bX7_hears_159 k33 v0 v1 v2 v3 v4 v5 σ) else (bnd (σ.2 v0 48) (fun (q23 : Nat) => zX v4 20 (bnd (σ.2 v0 48) (fun (q25 : Nat) => zX v5 20 (if (σ.1 q25 (v5).toNatClampNeg) ≤ (σ.1 q23 (v4).toNatClampNeg) then (bX7_hears_101 (bX7_hears_159 k33) v0 v1 v2 v3 v4 v5 (0 : Int32) σ) else (bX7_hears_101 (bX7_hears_159 k33) v0 v1 v2 v3 v4 v5 (1 : Int32) σ))))))))))))))))
def fX7_hears_33 (k18 : Nat → Int32 → Int32 → Int32 → Int32 → zS → Option (Int32 × zS)) : Nat → Nat → Int32 → Int32 → Int32 → Int32 → Int32 → zS → Option (Int32 × zS)
  | 0, _, _, _, _, _, _, _ => none
  | n + 1, v0, v1, v2, v3, v4, v5, σ => bX7_hears_33 k18 (fX7_hears_33 k18 n) v0 v1 v2 v3 v4 v5 σ
def bX7_hears_18 (k18 : Nat → Int32 → Int32 → Int32 → Int32 → zS → Option (Int32 × zS)) (v0 : Nat) (v1 : Int32) (v2 : Int32) (v3 : Int32) (v4 : Int32) (σ : zS) : Option (Int32 × zS) :=
  if (σ.1 v0 39) ≤ v4 then (bX7_hears_171 v1 v2 v3 σ) else (bnd ((v4 + (1 : Int32))) (fun (x29 : Int32) => fX7_hears_33 k18 zFU v0 v1 v2 v3 v4 x29 σ))
def fX7_hears_18  : Nat → Nat → Int32 → Int32 → Int32 → Int32 → zS → Option (Int32 × zS)
  | 0, _, _, _, _, _, _ => none
  | n + 1, v0, v1, v2, v3, v4, σ => bX7_hears_18 (fX7_hears_18  n) v0 v1 v2 v3 v4 σ
def fX7_hears (v0 : Nat) (v1 : Int32) (σ : zS) : Option (Int32 × zS) :=
  zb (fX7_in v1 (0 : Int32) (1 : Int32) σ) (fun (r31 : Int32) (σ30 : zS) => if r31 = 0 then (some ((-1 : Int32), σ30)) else (fX7_hears_18 zFU v0 v1 (0 : Int32) (0 : Int32) (0 : Int32) σ30))
set_option maxRecDepth 100000 in
set_option maxHeartbeats 4000000 in
theorem jX7_hears_171 {p : Program} {l : Launch} {e : Env} {s : State} {m : MethodId} {args : Array Value} {below : List Frame} {meth : Method} {c : Code} {b0 : Nat} {cA : Nat → ClassId} {D : va_G} {L : List (Nat × Nat)} (hC : zC p c s m args meth cX7_hears 7 (some Jvm.ClassFile.FieldType.int) (Cond.code yX7_hears cX7_hears 7 (some Jvm.ClassFile.FieldType.int)) yX7_hears.cls cA D)  (v1 : Int32) (v2 : Int32) (v3 : Int32) (σ : zS) (ls : Array Slot)  (hl : lv_has ls 7 [(1, .int v1), (2, .int v2), (3, .int v3)]) : zJ p l e rmX7_hears s m args below meth c b0 cA D L (fun z => MQ below (va_Qi (fun (r : Int32) (u : zS) => (r, u) = z) (zB b0 cA D L) (zA b0 L)) args s 0 0 (zA b0 L)) (bX7_hears_171  v1 v2 v3 σ) σ 171 ls [] := by
  unfold bX7_hears_171
  refine zj_iload_n (pc' := 172) hC dX7_hears_171 rfl rfl (lv_at hl 0 rfl) ?_
  refine zj_if_ne (tgt := 179) (pc' := 175) hC dX7_hears_172 (by decide) rfl (fun c1 => ?_) (fun c1 => ?_)
  · refine zj_iload_n (pc' := 180) hC dX7_hears_179 rfl rfl (lv_at hl 2 rfl) ?_
    exact zj_iret hC dX7_hears_180
  · refine zj_iload_n (pc' := 176) hC dX7_hears_175 rfl rfl (lv_at hl 1 rfl) ?_
    refine zj_goto (tgt := 180) hC dX7_hears_176 (by decide) ?_
    exact zj_iret hC dX7_hears_180
set_option maxRecDepth 100000 in
set_option maxHeartbeats 4000000 in
theorem jX7_hears_165 {p : Program} {l : Launch} {e : Env} {s : State} {m : MethodId} {args : Array Value} {below : List Frame} {meth : Method} {c : Code} {b0 : Nat} {cA : Nat → ClassId} {D : va_G} {L : List (Nat × Nat)} (hC : zC p c s m args meth cX7_hears 7 (some Jvm.ClassFile.FieldType.int) (Cond.code yX7_hears cX7_hears 7 (some Jvm.ClassFile.FieldType.int)) yX7_hears.cls cA D) (k18 : Nat → Int32 → Int32 → Int32 → Int32 → zS → Option (Int32 × zS)) (h18 : ∀ (v0 : Nat) (v1 : Int32) (v2 : Int32) (v3 : Int32) (v4 : Int32) (σ : zS) (ls : Array Slot), L[v0]? = some (0, 7) → lv_has ls 7 [(0, .ref (b0 + v0)), (1, .int v1), (2, .int v2), (3, .int v3), (4, .int v4)] → zJ p l e rmX7_hears s m args below meth c b0 cA D L (fun z => MQ below (va_Qi (fun (r : Int32) (u : zS) => (r, u) = z) (zB b0 cA D L) (zA b0 L)) args s 0 0 (zA b0 L)) (k18 v0 v1 v2 v3 v4 σ) σ 18 ls []) (v0 : Nat) (v1 : Int32) (v2 : Int32) (v3 : Int32) (v4 : Int32) (σ : zS) (ls : Array Slot) (hk_v0 : L[v0]? = some (0, 7)) (hl : lv_has ls 7 [(0, .ref (b0 + v0)), (1, .int v1), (2, .int v2), (3, .int v3), (4, .int v4)]) : zJ p l e rmX7_hears s m args below meth c b0 cA D L (fun z => MQ below (va_Qi (fun (r : Int32) (u : zS) => (r, u) = z) (zB b0 cA D L) (zA b0 L)) args s 0 0 (zA b0 L)) (bX7_hears_165 k18 v0 v1 v2 v3 v4 σ) σ 165 ls [] := by
  unfold bX7_hears_165
  refine zj_iinc (pc' := 168) (k0 := 4) (v := (v4 + (1 : Int32))) (lv' := [(4, .int (v4 + (1 : Int32))), (0, .ref (b0 + v0)), (1, .int v1), (2, .int v2), (3, .int v3)]) hC dX7_hears_165 rfl hl rfl rfl (by decide) rfl (fun ls hl => ?_)
  refine zj_goto (tgt := 18) hC dX7_hears_168 (by decide) ?_
  exact h18 v0 v1 v2 v3 ((v4 + (1 : Int32))) σ ls hk_v0 (lv_sub hl [1, 2, 3, 4, 0] rfl)
set_option maxRecDepth 100000 in
set_option maxHeartbeats 4000000 in
theorem jX7_hears_159 {p : Program} {l : Launch} {e : Env} {s : State} {m : MethodId} {args : Array Value} {below : List Frame} {meth : Method} {c : Code} {b0 : Nat} {cA : Nat → ClassId} {D : va_G} {L : List (Nat × Nat)} (hC : zC p c s m args meth cX7_hears 7 (some Jvm.ClassFile.FieldType.int) (Cond.code yX7_hears cX7_hears 7 (some Jvm.ClassFile.FieldType.int)) yX7_hears.cls cA D) (k33 : Nat → Int32 → Int32 → Int32 → Int32 → Int32 → zS → Option (Int32 × zS)) (h33 : ∀ (v0 : Nat) (v1 : Int32) (v2 : Int32) (v3 : Int32) (v4 : Int32) (v5 : Int32) (σ : zS) (ls : Array Slot), L[v0]? = some (0, 7) → lv_has ls 7 [(0, .ref (b0 + v0)), (1, .int v1), (2, .int v2), (3, .int v3), (4, .int v4), (5, .int v5)] → zJ p l e rmX7_hears s m args below meth c b0 cA D L (fun z => MQ below (va_Qi (fun (r : Int32) (u : zS) => (r, u) = z) (zB b0 cA D L) (zA b0 L)) args s 0 0 (zA b0 L)) (k33 v0 v1 v2 v3 v4 v5 σ) σ 33 ls []) (v0 : Nat) (v1 : Int32) (v2 : Int32) (v3 : Int32) (v4 : Int32) (v5 : Int32) (σ : zS) (ls : Array Slot) (hk_v0 : L[v0]? = some (0, 7)) (hl : lv_has ls 7 [(0, .ref (b0 + v0)), (1, .int v1), (2, .int v2), (3, .int v3), (4, .int v4), (5, .int v5)]) : zJ p l e rmX7_hears s m args below meth c b0 cA D L (fun z => MQ below (va_Qi (fun (r : Int32) (u : zS) => (r, u) = z) (zB b0 cA D L) (zA b0 L)) args s 0 0 (zA b0 L)) (bX7_hears_159 k33 v0 v1 v2 v3 v4 v5 σ) σ 159 ls [] := by
  unfold bX7_hears_159
  refine zj_iinc (pc' := 162) (k0 := 5) (v := (v5 + (1 : Int32))) (lv' := [(5, .int (v5 + (1 : Int32))), (0, .ref (b0 + v0)), (1, .int v1), (2, .int v2), (3, .int v3), (4, .int v4)]) hC dX7_hears_159 rfl hl rfl rfl (by decide) rfl (fun ls hl => ?_)
  refine zj_goto (tgt := 33) hC dX7_hears_162 (by decide) ?_
  exact h33 v0 v1 v2 v3 v4 ((v5 + (1 : Int32))) σ ls hk_v0 (lv_sub hl [1, 2, 3, 4, 5, 0] rfl)
set_option maxRecDepth 100000 in
set_option maxHeartbeats 4000000 in
theorem jX7_hears_157 {p : Program} {l : Launch} {e : Env} {s : State} {m : MethodId} {args : Array Value} {below : List Frame} {meth : Method} {c : Code} {b0 : Nat} {cA : Nat → ClassId} {D : va_G} {L : List (Nat × Nat)} (hC : zC p c s m args meth cX7_hears 7 (some Jvm.ClassFile.FieldType.int) (Cond.code yX7_hears cX7_hears 7 (some Jvm.ClassFile.FieldType.int)) yX7_hears.cls cA D) (k159 : Nat → Int32 → Int32 → Int32 → Int32 → Int32 → zS → Option (Int32 × zS)) (h159 : ∀ (v0 : Nat) (v1 : Int32) (v2 : Int32) (v3 : Int32) (v4 : Int32) (v5 : Int32) (σ : zS) (ls : Array Slot), L[v0]? = some (0, 7) → lv_has ls 7 [(0, .ref (b0 + v0)), (1, .int v1), (2, .int v2), (3, .int v3), (4, .int v4), (5, .int v5)] → zJ p l e rmX7_hears s m args below meth c b0 cA D L (fun z => MQ below (va_Qi (fun (r : Int32) (u : zS) => (r, u) = z) (zB b0 cA D L) (zA b0 L)) args s 0 0 (zA b0 L)) (k159 v0 v1 v2 v3 v4 v5 σ) σ 159 ls []) (v0 : Nat) (v1 : Int32) (v2 : Int32) (v4 : Int32) (v5 : Int32) (s0 : Int32) (s1 : Int32) (σ : zS) (ls : Array Slot) (hk_v0 : L[v0]? = some (0, 7)) (hb_s1 : nB s1) (hl : lv_has ls 7 [(0, .ref (b0 + v0)), (1, .int v1), (2, .int v2), (4, .int v4), (5, .int v5)]) : zJ p l e rmX7_hears s m args below meth c b0 cA D L (fun z => MQ below (va_Qi (fun (r : Int32) (u : zS) => (r, u) = z) (zB b0 cA D L) (zA b0 L)) args s 0 0 (zA b0 L)) (bX7_hears_157 k159 v0 v1 v2 v4 v5 s0 s1 σ) σ 157 ls [.int s1, .int s0] := by
  unfold bX7_hears_157
  refine zj_iadd (pc' := 158) hC dX7_hears_157 rfl ?_
  refine zj_nmi (fun x2 => ?_)
  refine zj_istore_n (pc' := 159) (lv' := [(3, .int x2), (0, .ref (b0 + v0)), (1, .int v1), (2, .int v2), (4, .int v4), (5, .int v5)]) hC dX7_hears_158 rfl rfl hl (by decide) rfl (fun ls hl => ?_)
  exact h159 v0 v1 v2 x2 v4 v5 σ ls hk_v0 (lv_sub hl [1, 2, 3, 0, 4, 5] rfl)
set_option maxRecDepth 100000 in
set_option maxHeartbeats 4000000 in
theorem jX7_hears_144 {p : Program} {l : Launch} {e : Env} {s : State} {m : MethodId} {args : Array Value} {below : List Frame} {meth : Method} {c : Code} {b0 : Nat} {cA : Nat → ClassId} {D : va_G} {L : List (Nat × Nat)} (hC : zC p c s m args meth cX7_hears 7 (some Jvm.ClassFile.FieldType.int) (Cond.code yX7_hears cX7_hears 7 (some Jvm.ClassFile.FieldType.int)) yX7_hears.cls cA D) (k159 : Nat → Int32 → Int32 → Int32 → Int32 → Int32 → zS → Option (Int32 × zS)) (h159 : ∀ (v0 : Nat) (v1 : Int32) (v2 : Int32) (v3 : Int32) (v4 : Int32) (v5 : Int32) (σ : zS) (ls : Array Slot), L[v0]? = some (0, 7) → lv_has ls 7 [(0, .ref (b0 + v0)), (1, .int v1), (2, .int v2), (3, .int v3), (4, .int v4), (5, .int v5)] → zJ p l e rmX7_hears s m args below meth c b0 cA D L (fun z => MQ below (va_Qi (fun (r : Int32) (u : zS) => (r, u) = z) (zB b0 cA D L) (zA b0 L)) args s 0 0 (zA b0 L)) (k159 v0 v1 v2 v3 v4 v5 σ) σ 159 ls []) (v0 : Nat) (v1 : Int32) (v3 : Int32) (v4 : Int32) (v5 : Int32) (v6 : Int32) (s0 : Int32) (s1 : Int32) (σ : zS) (ls : Array Slot) (hk_v0 : L[v0]? = some (0, 7)) (hb_v6 : nB v6) (hb_s1 : nB s1) (hl : lv_has ls 7 [(0, .ref (b0 + v0)), (1, .int v1), (3, .int v3), (4, .int v4), (5, .int v5), (6, .int v6)]) : zJ p l e rmX7_hears s m args below meth c b0 cA D L (fun z => MQ below (va_Qi (fun (r : Int32) (u : zS) => (r, u) = z) (zB b0 cA D L) (zA b0 L)) args s 0 0 (zA b0 L)) (bX7_hears_144 k159 v0 v1 v3 v4 v5 v6 s0 s1 σ) σ 144 ls [.int s1, .int s0] := by
  unfold bX7_hears_144
  refine zj_iadd (pc' := 145) hC dX7_hears_144 rfl ?_
  refine zj_nmi (fun x3 => ?_)
  refine zj_istore_n (pc' := 146) (lv' := [(2, .int x3), (0, .ref (b0 + v0)), (1, .int v1), (3, .int v3), (4, .int v4), (5, .int v5), (6, .int v6)]) hC dX7_hears_145 rfl rfl hl (by decide) rfl (fun ls hl => ?_)
  refine zj_iload_n (pc' := 147) hC dX7_hears_146 rfl rfl (lv_at hl 3 rfl) ?_
  refine zj_iload (pc' := 149) hC dX7_hears_147 rfl (lv_at hl 6 rfl) ?_
  refine zj_if_eq (tgt := 156) (pc' := 152) hC dX7_hears_149 (by decide) rfl (fun c4 => ?_) (fun c4 => ?_)
  · refine zj_iconst (pc' := 157) (v := (1 : Int32)) hC dX7_hears_156 rfl rfl ?_
    exact jX7_hears_157 hC k159 h159 v0 v1 x3 v4 v5 v3 (1 : Int32) σ ls hk_v0 nB_1 (lv_sub hl [1, 2, 0, 4, 5] rfl)
  · refine zj_iconst (pc' := 153) (v := (0 : Int32)) hC dX7_hears_152 rfl rfl ?_
    refine zj_goto (tgt := 157) hC dX7_hears_153 (by decide) ?_
    exact jX7_hears_157 hC k159 h159 v0 v1 x3 v4 v5 v3 (0 : Int32) σ ls hk_v0 nB_0 (lv_sub hl [1, 2, 0, 4, 5] rfl)
set_option maxRecDepth 100000 in
set_option maxHeartbeats 4000000 in
theorem jX7_hears_131 {p : Program} {l : Launch} {e : Env} {s : State} {m : MethodId} {args : Array Value} {below : List Frame} {meth : Method} {c : Code} {b0 : Nat} {cA : Nat → ClassId} {D : va_G} {L : List (Nat × Nat)} (hC : zC p c s m args meth cX7_hears 7 (some Jvm.ClassFile.FieldType.int) (Cond.code yX7_hears cX7_hears 7 (some Jvm.ClassFile.FieldType.int)) yX7_hears.cls cA D) (k159 : Nat → Int32 → Int32 → Int32 → Int32 → Int32 → zS → Option (Int32 × zS)) (h159 : ∀ (v0 : Nat) (v1 : Int32) (v2 : Int32) (v3 : Int32) (v4 : Int32) (v5 : Int32) (σ : zS) (ls : Array Slot), L[v0]? = some (0, 7) → lv_has ls 7 [(0, .ref (b0 + v0)), (1, .int v1), (2, .int v2), (3, .int v3), (4, .int v4), (5, .int v5)] → zJ p l e rmX7_hears s m args below meth c b0 cA D L (fun z => MQ below (va_Qi (fun (r : Int32) (u : zS) => (r, u) = z) (zB b0 cA D L) (zA b0 L)) args s 0 0 (zA b0 L)) (k159 v0 v1 v2 v3 v4 v5 σ) σ 159 ls []) (v0 : Nat) (v1 : Int32) (v2 : Int32) (v3 : Int32) (v4 : Int32) (v5 : Int32) (s0 : Int32) (σ : zS) (ls : Array Slot) (hk_v0 : L[v0]? = some (0, 7)) (hb_s0 : nB s0) (hl : lv_has ls 7 [(0, .ref (b0 + v0)), (1, .int v1), (2, .int v2), (3, .int v3), (4, .int v4), (5, .int v5)]) : zJ p l e rmX7_hears s m args below meth c b0 cA D L (fun z => MQ below (va_Qi (fun (r : Int32) (u : zS) => (r, u) = z) (zB b0 cA D L) (zA b0 L)) args s 0 0 (zA b0 L)) (bX7_hears_131 k159 v0 v1 v2 v3 v4 v5 s0 σ) σ 131 ls [.int s0] := by
  unfold bX7_hears_131
  refine zj_istore (pc' := 133) (lv' := [(6, .int s0), (0, .ref (b0 + v0)), (1, .int v1), (2, .int v2), (3, .int v3), (4, .int v4), (5, .int v5)]) hC dX7_hears_131 rfl hl (by decide) rfl (fun ls hl => ?_)
  refine zj_iload_n (pc' := 134) hC dX7_hears_133 rfl rfl (lv_at hl 3 rfl) ?_
  refine zj_iload (pc' := 136) hC dX7_hears_134 rfl (lv_at hl 0 rfl) ?_
  refine zj_if_eq (tgt := 143) (pc' := 139) hC dX7_hears_136 (by decide) rfl (fun c5 => ?_) (fun c5 => ?_)
  · refine zj_iconst (pc' := 144) (v := (0 : Int32)) hC dX7_hears_143 rfl rfl ?_
    exact jX7_hears_144 hC k159 h159 v0 v1 v3 v4 v5 s0 v2 (0 : Int32) σ ls hk_v0 hb_s0 nB_0 (lv_sub hl [1, 2, 4, 5, 6, 0] rfl)
  · refine zj_iconst (pc' := 140) (v := (1 : Int32)) hC dX7_hears_139 rfl rfl ?_
    refine zj_goto (tgt := 144) hC dX7_hears_140 (by decide) ?_
    exact jX7_hears_144 hC k159 h159 v0 v1 v3 v4 v5 s0 v2 (1 : Int32) σ ls hk_v0 hb_s0 nB_1 (lv_sub hl [1, 2, 4, 5, 6, 0] rfl)
set_option maxRecDepth 100000 in
set_option maxHeartbeats 4000000 in
theorem jX7_hears_123 {p : Program} {l : Launch} {e : Env} {s : State} {m : MethodId} {args : Array Value} {below : List Frame} {meth : Method} {c : Code} {b0 : Nat} {cA : Nat → ClassId} {D : va_G} {L : List (Nat × Nat)} (hC : zC p c s m args meth cX7_hears 7 (some Jvm.ClassFile.FieldType.int) (Cond.code yX7_hears cX7_hears 7 (some Jvm.ClassFile.FieldType.int)) yX7_hears.cls cA D) (k159 : Nat → Int32 → Int32 → Int32 → Int32 → Int32 → zS → Option (Int32 × zS)) (h159 : ∀ (v0 : Nat) (v1 : Int32) (v2 : Int32) (v3 : Int32) (v4 : Int32) (v5 : Int32) (σ : zS) (ls : Array Slot), L[v0]? = some (0, 7) → lv_has ls 7 [(0, .ref (b0 + v0)), (1, .int v1), (2, .int v2), (3, .int v3), (4, .int v4), (5, .int v5)] → zJ p l e rmX7_hears s m args below meth c b0 cA D L (fun z => MQ below (va_Qi (fun (r : Int32) (u : zS) => (r, u) = z) (zB b0 cA D L) (zA b0 L)) args s 0 0 (zA b0 L)) (k159 v0 v1 v2 v3 v4 v5 σ) σ 159 ls []) (v0 : Nat) (v1 : Int32) (v2 : Int32) (v3 : Int32) (v4 : Int32) (v5 : Int32) (s0 : Int32) (s1 : Int32) (σ : zS) (ls : Array Slot) (hk_v0 : L[v0]? = some (0, 7)) (hb_s0 : nB s0) (hb_s1 : nB s1) (hl : lv_has ls 7 [(0, .ref (b0 + v0)), (1, .int v1), (2, .int v2), (3, .int v3), (4, .int v4), (5, .int v5)]) : zJ p l e rmX7_hears s m args below meth c b0 cA D L (fun z => MQ below (va_Qi (fun (r : Int32) (u : zS) => (r, u) = z) (zB b0 cA D L) (zA b0 L)) args s 0 0 (zA b0 L)) (bX7_hears_123 k159 v0 v1 v2 v3 v4 v5 s0 s1 σ) σ 123 ls [.int s1, .int s0] := by
  unfold bX7_hears_123
  refine zj_icmp_ne (tgt := 130) (pc' := 126) hC dX7_hears_123 (by decide) rfl (fun c6 => ?_) (fun c6 => ?_)
  · refine zj_iconst (pc' := 131) (v := (0 : Int32)) hC dX7_hears_130 rfl rfl ?_
    exact jX7_hears_131 hC k159 h159 v0 v1 v2 v3 v4 v5 (0 : Int32) σ ls hk_v0 nB_0 (lv_sub hl [0, 1, 2, 3, 4, 5] rfl)
  · refine zj_iconst (pc' := 127) (v := (1 : Int32)) hC dX7_hears_126 rfl rfl ?_
    refine zj_goto (tgt := 131) hC dX7_hears_127 (by decide) ?_
    exact jX7_hears_131 hC k159 h159 v0 v1 v2 v3 v4 v5 (1 : Int32) σ ls hk_v0 nB_1 (lv_sub hl [0, 1, 2, 3, 4, 5] rfl)
set_option maxRecDepth 100000 in
set_option maxHeartbeats 4000000 in
theorem jX7_hears_101 {p : Program} {l : Launch} {e : Env} {s : State} {m : MethodId} {args : Array Value} {below : List Frame} {meth : Method} {c : Code} {b0 : Nat} {cA : Nat → ClassId} {D : va_G} {L : List (Nat × Nat)} (hC : zC p c s m args meth cX7_hears 7 (some Jvm.ClassFile.FieldType.int) (Cond.code yX7_hears cX7_hears 7 (some Jvm.ClassFile.FieldType.int)) yX7_hears.cls cA D) (k159 : Nat → Int32 → Int32 → Int32 → Int32 → Int32 → zS → Option (Int32 × zS)) (h159 : ∀ (v0 : Nat) (v1 : Int32) (v2 : Int32) (v3 : Int32) (v4 : Int32) (v5 : Int32) (σ : zS) (ls : Array Slot), L[v0]? = some (0, 7) → lv_has ls 7 [(0, .ref (b0 + v0)), (1, .int v1), (2, .int v2), (3, .int v3), (4, .int v4), (5, .int v5)] → zJ p l e rmX7_hears s m args below meth c b0 cA D L (fun z => MQ below (va_Qi (fun (r : Int32) (u : zS) => (r, u) = z) (zB b0 cA D L) (zA b0 L)) args s 0 0 (zA b0 L)) (k159 v0 v1 v2 v3 v4 v5 σ) σ 159 ls []) (v0 : Nat) (v1 : Int32) (v2 : Int32) (v3 : Int32) (v4 : Int32) (v5 : Int32) (s0 : Int32) (σ : zS) (ls : Array Slot) (hk_v0 : L[v0]? = some (0, 7)) (hb_s0 : nB s0) (hl : lv_has ls 7 [(0, .ref (b0 + v0)), (1, .int v1), (2, .int v2), (3, .int v3), (4, .int v4), (5, .int v5)]) : zJ p l e rmX7_hears s m args below meth c b0 cA D L (fun z => MQ below (va_Qi (fun (r : Int32) (u : zS) => (r, u) = z) (zB b0 cA D L) (zA b0 L)) args s 0 0 (zA b0 L)) (bX7_hears_101 k159 v0 v1 v2 v3 v4 v5 s0 σ) σ 101 ls [.int s0] := by
  unfold bX7_hears_101
  refine zj_aload_n (pc' := 102) hC dX7_hears_101 rfl rfl (lv_at hl 0 rfl) ?_
  refine zj_getR (pc' := 105) hC hk_v0 fd_7_49 rfl tw_4_97 dX7_hears_102 rfl (fun q7 hk_q7 => ?_)
  refine zj_iload (pc' := 107) hC dX7_hears_105 rfl (lv_at hl 4 rfl) ?_
  refine zj_iald (pc' := 108) hC hk_q7 dX7_hears_107 rfl (fun g8 => ?_)
  refine zj_aload_n (pc' := 109) hC dX7_hears_108 rfl rfl (lv_at hl 0 rfl) ?_
  refine zj_getR (pc' := 112) hC hk_v0 fd_7_49 rfl tw_4_97 dX7_hears_109 rfl (fun q9 hk_q9 => ?_)
  refine zj_iload (pc' := 114) hC dX7_hears_112 rfl (lv_at hl 5 rfl) ?_
  refine zj_iald (pc' := 115) hC hk_q9 dX7_hears_114 rfl (fun g10 => ?_)
  refine zj_icmp_ge (tgt := 122) (pc' := 118) hC dX7_hears_115 (by decide) rfl (fun c11 => ?_) (fun c11 => ?_)
  · refine zj_iconst (pc' := 123) (v := (0 : Int32)) hC dX7_hears_122 rfl rfl ?_
    exact jX7_hears_123 hC k159 h159 v0 v1 v2 v3 v4 v5 s0 (0 : Int32) σ ls hk_v0 hb_s0 nB_0 (lv_sub hl [0, 1, 2, 3, 4, 5] rfl)
  · refine zj_iconst (pc' := 119) (v := (1 : Int32)) hC dX7_hears_118 rfl rfl ?_
    refine zj_goto (tgt := 123) hC dX7_hears_119 (by decide) ?_
    exact jX7_hears_123 hC k159 h159 v0 v1 v2 v3 v4 v5 s0 (1 : Int32) σ ls hk_v0 hb_s0 nB_1 (lv_sub hl [0, 1, 2, 3, 4, 5] rfl)
set_option maxRecDepth 100000 in
set_option maxHeartbeats 4000000 in
theorem jX7_hears_33 {p : Program} {l : Launch} {e : Env} {s : State} {m : MethodId} {args : Array Value} {below : List Frame} {meth : Method} {c : Code} {b0 : Nat} {cA : Nat → ClassId} {D : va_G} {L : List (Nat × Nat)} (hC : zC p c s m args meth cX7_hears 7 (some Jvm.ClassFile.FieldType.int) (Cond.code yX7_hears cX7_hears 7 (some Jvm.ClassFile.FieldType.int)) yX7_hears.cls cA D) (k18 : Nat → Int32 → Int32 → Int32 → Int32 → zS → Option (Int32 × zS)) (h18 : ∀ (v0 : Nat) (v1 : Int32) (v2 : Int32) (v3 : Int32) (v4 : Int32) (σ : zS) (ls : Array Slot), L[v0]? = some (0, 7) → lv_has ls 7 [(0, .ref (b0 + v0)), (1, .int v1), (2, .int v2), (3, .int v3), (4, .int v4)] → zJ p l e rmX7_hears s m args below meth c b0 cA D L (fun z => MQ below (va_Qi (fun (r : Int32) (u : zS) => (r, u) = z) (zB b0 cA D L) (zA b0 L)) args s 0 0 (zA b0 L)) (k18 v0 v1 v2 v3 v4 σ) σ 18 ls []) (k33 : Nat → Int32 → Int32 → Int32 → Int32 → Int32 → zS → Option (Int32 × zS)) (h33 : ∀ (v0 : Nat) (v1 : Int32) (v2 : Int32) (v3 : Int32) (v4 : Int32) (v5 : Int32) (σ : zS) (ls : Array Slot), L[v0]? = some (0, 7) → lv_has ls 7 [(0, .ref (b0 + v0)), (1, .int v1), (2, .int v2), (3, .int v3), (4, .int v4), (5, .int v5)] → zJ p l e rmX7_hears s m args below meth c b0 cA D L (fun z => MQ below (va_Qi (fun (r : Int32) (u : zS) => (r, u) = z) (zB b0 cA D L) (zA b0 L)) args s 0 0 (zA b0 L)) (k33 v0 v1 v2 v3 v4 v5 σ) σ 33 ls []) (v0 : Nat) (v1 : Int32) (v2 : Int32) (v3 : Int32) (v4 : Int32) (v5 : Int32) (σ : zS) (ls : Array Slot) (hk_v0 : L[v0]? = some (0, 7)) (hl : lv_has ls 7 [(0, .ref (b0 + v0)), (1, .int v1), (2, .int v2), (3, .int v3), (4, .int v4), (5, .int v5)]) : zJ p l e rmX7_hears s m args below meth c b0 cA D L (fun z => MQ below (va_Qi (fun (r : Int32) (u : zS) => (r, u) = z) (zB b0 cA D L) (zA b0 L)) args s 0 0 (zA b0 L)) (bX7_hears_33 k18 k33 v0 v1 v2 v3 v4 v5 σ) σ 33 ls [] := by
  unfold bX7_hears_33
  refine zj_iload (pc' := 35) hC dX7_hears_33 rfl (lv_at hl 5 rfl) ?_
  refine zj_aload_n (pc' := 36) hC dX7_hears_35 rfl rfl (lv_at hl 0 rfl) ?_
  refine zj_getI (pc' := 39) hC hk_v0 fd_7_39 rfl tw_4_87 dX7_hears_36 rfl ?_
  refine zj_icmp_ge (tgt := 165) (pc' := 42) hC dX7_hears_39 (by decide) rfl (fun c12 => ?_) (fun c12 => ?_)
  · exact jX7_hears_165 hC k18 h18 v0 v1 v2 v3 v4 σ ls hk_v0 (lv_sub hl [0, 1, 2, 3, 4] rfl)
  · refine zj_aload_n (pc' := 43) hC dX7_hears_42 rfl rfl (lv_at hl 0 rfl) ?_
    refine zj_getR (pc' := 46) hC hk_v0 fd_7_48 rfl tw_4_96 dX7_hears_43 rfl (fun q13 hk_q13 => ?_)
    refine zj_iload (pc' := 48) hC dX7_hears_46 rfl (lv_at hl 4 rfl) ?_
    refine zj_iald (pc' := 49) hC hk_q13 dX7_hears_48 rfl (fun g14 => ?_)
    refine zj_aload_n (pc' := 50) hC dX7_hears_49 rfl rfl (lv_at hl 0 rfl) ?_
    refine zj_getR (pc' := 53) hC hk_v0 fd_7_48 rfl tw_4_96 dX7_hears_50 rfl (fun q15 hk_q15 => ?_)
    refine zj_iload (pc' := 55) hC dX7_hears_53 rfl (lv_at hl 5 rfl) ?_
    refine zj_iald (pc' := 56) hC hk_q15 dX7_hears_55 rfl (fun g16 => ?_)
    refine zj_icmp_eq (tgt := 159) (pc' := 59) hC dX7_hears_56 (by decide) rfl (fun c17 => ?_) (fun c17 => ?_)
    · exact jX7_hears_159 hC k33 h33 v0 v1 v2 v3 v4 v5 σ ls hk_v0 (lv_sub hl [0, 1, 2, 3, 4, 5] rfl)
    · refine zj_aload_n (pc' := 60) hC dX7_hears_59 rfl rfl (lv_at hl 0 rfl) ?_
      refine zj_getR (pc' := 63) hC hk_v0 fd_7_49 rfl tw_4_97 dX7_hears_60 rfl (fun q18 hk_q18 => ?_)
      refine zj_iload (pc' := 65) hC dX7_hears_63 rfl (lv_at hl 4 rfl) ?_
      refine zj_iald (pc' := 66) hC hk_q18 dX7_hears_65 rfl (fun g19 => ?_)
      refine zj_aload_n (pc' := 67) hC dX7_hears_66 rfl rfl (lv_at hl 0 rfl) ?_
      refine zj_getR (pc' := 70) hC hk_v0 fd_7_49 rfl tw_4_97 dX7_hears_67 rfl (fun q20 hk_q20 => ?_)
      refine zj_iload (pc' := 72) hC dX7_hears_70 rfl (lv_at hl 5 rfl) ?_
      refine zj_iald (pc' := 73) hC hk_q20 dX7_hears_72 rfl (fun g21 => ?_)
      refine zj_icmp_ne (tgt := 79) (pc' := 76) hC dX7_hears_73 (by decide) rfl (fun c22 => ?_) (fun c22 => ?_)
      · refine zj_aload_n (pc' := 80) hC dX7_hears_79 rfl rfl (lv_at hl 0 rfl) ?_
        refine zj_getR (pc' := 83) hC hk_v0 fd_7_48 rfl tw_4_96 dX7_hears_80 rfl (fun q23 hk_q23 => ?_)
        refine zj_iload (pc' := 85) hC dX7_hears_83 rfl (lv_at hl 4 rfl) ?_
        refine zj_iald (pc' := 86) hC hk_q23 dX7_hears_85 rfl (fun g24 => ?_)
        refine zj_aload_n (pc' := 87) hC dX7_hears_86 rfl rfl (lv_at hl 0 rfl) ?_
        refine zj_getR (pc' := 90) hC hk_v0 fd_7_48 rfl tw_4_96 dX7_hears_87 rfl (fun q25 hk_q25 => ?_)
        refine zj_iload (pc' := 92) hC dX7_hears_90 rfl (lv_at hl 5 rfl) ?_
        refine zj_iald (pc' := 93) hC hk_q25 dX7_hears_92 rfl (fun g26 => ?_)
        refine zj_icmp_ge (tgt := 100) (pc' := 96) hC dX7_hears_93 (by decide) rfl (fun c27 => ?_) (fun c27 => ?_)
        · refine zj_iconst (pc' := 101) (v := (0 : Int32)) hC dX7_hears_100 rfl rfl ?_
          exact jX7_hears_101 hC (bX7_hears_159 k33) (jX7_hears_159 hC k33 h33) v0 v1 v2 v3 v4 v5 (0 : Int32) σ ls hk_v0 nB_0 (lv_sub hl [0, 1, 2, 3, 4, 5] rfl)
        · refine zj_iconst (pc' := 97) (v := (1 : Int32)) hC dX7_hears_96 rfl rfl ?_
          refine zj_goto (tgt := 101) hC dX7_hears_97 (by decide) ?_
          exact jX7_hears_101 hC (bX7_hears_159 k33) (jX7_hears_159 hC k33 h33) v0 v1 v2 v3 v4 v5 (1 : Int32) σ ls hk_v0 nB_1 (lv_sub hl [0, 1, 2, 3, 4, 5] rfl)
      · refine zj_goto (tgt := 159) hC dX7_hears_76 (by decide) ?_
        exact jX7_hears_159 hC k33 h33 v0 v1 v2 v3 v4 v5 σ ls hk_v0 (lv_sub hl [0, 1, 2, 3, 4, 5] rfl)
set_option maxRecDepth 100000 in
set_option maxHeartbeats 4000000 in
theorem lX7_hears_33 {p : Program} {l : Launch} {e : Env} {s : State} {m : MethodId} {args : Array Value} {below : List Frame} {meth : Method} {c : Code} {b0 : Nat} {cA : Nat → ClassId} {D : va_G} {L : List (Nat × Nat)} (hC : zC p c s m args meth cX7_hears 7 (some Jvm.ClassFile.FieldType.int) (Cond.code yX7_hears cX7_hears 7 (some Jvm.ClassFile.FieldType.int)) yX7_hears.cls cA D) (k18 : Nat → Int32 → Int32 → Int32 → Int32 → zS → Option (Int32 × zS)) (h18 : ∀ (v0 : Nat) (v1 : Int32) (v2 : Int32) (v3 : Int32) (v4 : Int32) (σ : zS) (ls : Array Slot), L[v0]? = some (0, 7) → lv_has ls 7 [(0, .ref (b0 + v0)), (1, .int v1), (2, .int v2), (3, .int v3), (4, .int v4)] → zJ p l e rmX7_hears s m args below meth c b0 cA D L (fun z => MQ below (va_Qi (fun (r : Int32) (u : zS) => (r, u) = z) (zB b0 cA D L) (zA b0 L)) args s 0 0 (zA b0 L)) (k18 v0 v1 v2 v3 v4 σ) σ 18 ls []) (n : Nat) : ∀ (v0 : Nat) (v1 : Int32) (v2 : Int32) (v3 : Int32) (v4 : Int32) (v5 : Int32) (σ : zS) (ls : Array Slot), L[v0]? = some (0, 7) → lv_has ls 7 [(0, .ref (b0 + v0)), (1, .int v1), (2, .int v2), (3, .int v3), (4, .int v4), (5, .int v5)] → zJ p l e rmX7_hears s m args below meth c b0 cA D L (fun z => MQ below (va_Qi (fun (r : Int32) (u : zS) => (r, u) = z) (zB b0 cA D L) (zA b0 L)) args s 0 0 (zA b0 L)) (fX7_hears_33 k18 n v0 v1 v2 v3 v4 v5 σ) σ 33 ls [] := by
  induction n with
  | zero => intros; exact zj_none
  | succ n ih => exact jX7_hears_33 hC k18 h18 (fX7_hears_33 k18 n) ih
set_option maxRecDepth 100000 in
set_option maxHeartbeats 4000000 in
theorem jX7_hears_18 {p : Program} {l : Launch} {e : Env} {s : State} {m : MethodId} {args : Array Value} {below : List Frame} {meth : Method} {c : Code} {b0 : Nat} {cA : Nat → ClassId} {D : va_G} {L : List (Nat × Nat)} (hC : zC p c s m args meth cX7_hears 7 (some Jvm.ClassFile.FieldType.int) (Cond.code yX7_hears cX7_hears 7 (some Jvm.ClassFile.FieldType.int)) yX7_hears.cls cA D) (k18 : Nat → Int32 → Int32 → Int32 → Int32 → zS → Option (Int32 × zS)) (h18 : ∀ (v0 : Nat) (v1 : Int32) (v2 : Int32) (v3 : Int32) (v4 : Int32) (σ : zS) (ls : Array Slot), L[v0]? = some (0, 7) → lv_has ls 7 [(0, .ref (b0 + v0)), (1, .int v1), (2, .int v2), (3, .int v3), (4, .int v4)] → zJ p l e rmX7_hears s m args below meth c b0 cA D L (fun z => MQ below (va_Qi (fun (r : Int32) (u : zS) => (r, u) = z) (zB b0 cA D L) (zA b0 L)) args s 0 0 (zA b0 L)) (k18 v0 v1 v2 v3 v4 σ) σ 18 ls []) (v0 : Nat) (v1 : Int32) (v2 : Int32) (v3 : Int32) (v4 : Int32) (σ : zS) (ls : Array Slot) (hk_v0 : L[v0]? = some (0, 7)) (hl : lv_has ls 7 [(0, .ref (b0 + v0)), (1, .int v1), (2, .int v2), (3, .int v3), (4, .int v4)]) : zJ p l e rmX7_hears s m args below meth c b0 cA D L (fun z => MQ below (va_Qi (fun (r : Int32) (u : zS) => (r, u) = z) (zB b0 cA D L) (zA b0 L)) args s 0 0 (zA b0 L)) (bX7_hears_18 k18 v0 v1 v2 v3 v4 σ) σ 18 ls [] := by
  unfold bX7_hears_18
  refine zj_iload (pc' := 20) hC dX7_hears_18 rfl (lv_at hl 4 rfl) ?_
  refine zj_aload_n (pc' := 21) hC dX7_hears_20 rfl rfl (lv_at hl 0 rfl) ?_
  refine zj_getI (pc' := 24) hC hk_v0 fd_7_39 rfl tw_4_87 dX7_hears_21 rfl ?_
  refine zj_icmp_ge (tgt := 171) (pc' := 27) hC dX7_hears_24 (by decide) rfl (fun c28 => ?_) (fun c28 => ?_)
  · exact jX7_hears_171 hC v1 v2 v3 σ ls  (lv_sub hl [1, 2, 3] rfl)
  · refine zj_iload (pc' := 29) hC dX7_hears_27 rfl (lv_at hl 4 rfl) ?_
    refine zj_iconst (pc' := 30) (v := (1 : Int32)) hC dX7_hears_29 rfl rfl ?_
    refine zj_iadd (pc' := 31) hC dX7_hears_30 rfl ?_
    refine zj_nmi (fun x29 => ?_)
    refine zj_istore (pc' := 33) (lv' := [(5, .int x29), (0, .ref (b0 + v0)), (1, .int v1), (2, .int v2), (3, .int v3), (4, .int v4)]) hC dX7_hears_31 rfl hl (by decide) rfl (fun ls hl => ?_)
    exact lX7_hears_33 hC k18 h18 zFU v0 v1 v2 v3 v4 x29 σ ls hk_v0 (lv_sub hl [1, 2, 3, 4, 5, 0] rfl)
set_option maxRecDepth 100000 in
set_option maxHeartbeats 4000000 in
theorem lX7_hears_18 {p : Program} {l : Launch} {e : Env} {s : State} {m : MethodId} {args : Array Value} {below : List Frame} {meth : Method} {c : Code} {b0 : Nat} {cA : Nat → ClassId} {D : va_G} {L : List (Nat × Nat)} (hC : zC p c s m args meth cX7_hears 7 (some Jvm.ClassFile.FieldType.int) (Cond.code yX7_hears cX7_hears 7 (some Jvm.ClassFile.FieldType.int)) yX7_hears.cls cA D)  (n : Nat) : ∀ (v0 : Nat) (v1 : Int32) (v2 : Int32) (v3 : Int32) (v4 : Int32) (σ : zS) (ls : Array Slot), L[v0]? = some (0, 7) → lv_has ls 7 [(0, .ref (b0 + v0)), (1, .int v1), (2, .int v2), (3, .int v3), (4, .int v4)] → zJ p l e rmX7_hears s m args below meth c b0 cA D L (fun z => MQ below (va_Qi (fun (r : Int32) (u : zS) => (r, u) = z) (zB b0 cA D L) (zA b0 L)) args s 0 0 (zA b0 L)) (fX7_hears_18  n v0 v1 v2 v3 v4 σ) σ 18 ls [] := by
  induction n with
  | zero => intros; exact zj_none
  | succ n ih => exact jX7_hears_18 hC (fX7_hears_18  n) ih
set_option maxRecDepth 100000 in
set_option maxHeartbeats 4000000 in
theorem kX7_hears (l : Launch) (b0 : Nat) (cA : Nat → ClassId) (D : va_G) (L : List (Nat × Nat)) (v0 : Nat) (v1 : Int32) (σ : zS) (hk0 : L[v0]? = some (0, 7)) : zMi l b0 cA D L yX7_hears (Cond.code yX7_hears cX7_hears 7 (some Jvm.ClassFile.FieldType.int)) rmX7_hears [.ref (b0 + v0), .int v1] σ (fX7_hears v0 v1 σ) := by
  refine zMi_of (by decide) (Nat.le_of_ble_eq_true rfl) ?_
  intro p e s m below meth c ls hC hl
  have hl : lv_has ls 7 [(0, .ref (b0 + v0)), (1, .int v1)] := hl
  generalize ([.ref (b0 + v0), .int v1] : List Value).toArray = args at hC ⊢
  unfold fX7_hears
  refine zj_iload_n (pc' := 1) hC dX7_hears_0 rfl rfl (lv_at hl 1 rfl) ?_
  refine zj_iconst (pc' := 2) (v := (0 : Int32)) hC dX7_hears_1 rfl rfl ?_
  refine zj_iconst (pc' := 3) (v := (1 : Int32)) hC dX7_hears_2 rfl rfl ?_
  refine zj_callzS (pc' := 6) (rest := []) hC (kX7_in l b0 cA D L v1 (0 : Int32) (1 : Int32) σ ) tw_4_214 tw_4_212 tw_4_213 tw_1_8 ddX7_in rfl ⟨rfl, rfl⟩ ⟨by decide, by decide⟩ hl.1 (Nat.le_of_ble_eq_true rfl) rfl dX7_hears_3 rfl (fun r31 σ30 hb_r31 => ?_)
  refine zj_if_ne (tgt := 11) (pc' := 9) hC dX7_hears_6 (by decide) rfl (fun c32 => ?_) (fun c32 => ?_)
  · refine zj_iconst (pc' := 12) (v := (0 : Int32)) hC dX7_hears_11 rfl rfl ?_
    refine zj_istore_n (pc' := 13) (lv' := [(2, .int (0 : Int32)), (0, .ref (b0 + v0)), (1, .int v1)]) hC dX7_hears_12 rfl rfl hl (by decide) rfl (fun ls hl => ?_)
    refine zj_iconst (pc' := 14) (v := (0 : Int32)) hC dX7_hears_13 rfl rfl ?_
    refine zj_istore_n (pc' := 15) (lv' := [(3, .int (0 : Int32)), (2, .int (0 : Int32)), (0, .ref (b0 + v0)), (1, .int v1)]) hC dX7_hears_14 rfl rfl hl (by decide) rfl (fun ls hl => ?_)
    refine zj_iconst (pc' := 16) (v := (0 : Int32)) hC dX7_hears_15 rfl rfl ?_
    refine zj_istore (pc' := 18) (lv' := [(4, .int (0 : Int32)), (3, .int (0 : Int32)), (2, .int (0 : Int32)), (0, .ref (b0 + v0)), (1, .int v1)]) hC dX7_hears_16 rfl hl (by decide) rfl (fun ls hl => ?_)
    exact lX7_hears_18 hC zFU v0 v1 (0 : Int32) (0 : Int32) (0 : Int32) σ30 ls hk0 (lv_sub hl [3, 4, 2, 1, 0] rfl)
  · refine zj_iconst (pc' := 10) (v := (-1 : Int32)) hC dX7_hears_9 rfl rfl ?_
    exact zj_iret hC dX7_hears_10
-- X7_otherThan
theorem ddX7_otherThan : yX7_otherThan.cls ≠ "java/lang/invoke/MethodHandle" ∧ yX7_otherThan.cls ≠ "java/lang/invoke/VarHandle" ∧ (parseMethodDescriptor yX7_otherThan.desc).map (fun d => d.parameters.length) = some 1 := by decide +kernel
abbrev rmX7_otherThan : Room := { frames := 3, cells := 0, slots := 0, locals := 70 }
def bX7_otherThan_229 (k4 : Nat → Int32 → Int32 → Int32 → zS → Option (Int32 × zS)) (v0 : Nat) (v1 : Int32) (v2 : Int32) (v3 : Int32) (σ : zS) : Option (Int32 × zS) :=
  k4 v0 v1 v2 ((v3 + (1 : Int32))) σ
def bX7_otherThan_221 (k88 : Nat → Int32 → Int32 → Int32 → Int32 → zS → Option (Int32 × zS)) (v0 : Nat) (v1 : Int32) (v3 : Int32) (v4 : Int32) (s0 : Int32) (s1 : Int32) (σ : zS) : Option (Int32 × zS) :=
  bnd ((s0 + s1)) (fun (x1 : Int32) => k88 v0 v1 x1 v3 ((v4 + (1 : Int32))) σ)
def bX7_otherThan_146 (k88 : Nat → Int32 → Int32 → Int32 → Int32 → zS → Option (Int32 × zS)) (v0 : Nat) (v1 : Int32) (v2 : Int32) (v3 : Int32) (v4 : Int32) (s0 : Int32) (σ : zS) : Option (Int32 × zS) :=
  bnd (σ.2 v0 40) (fun (q2 : Nat) => bnd (σ.2 v0 50) (fun (q3 : Nat) => bnd (σ.2 v0 52) (fun (q4 : Nat) => bnd (σ.2 v0 51) (fun (q5 : Nat) => bnd (σ.2 v0 47) (fun (q6 : Nat) => zX v3 20 (zb (fX7_feels 19200 v0 q2 (((960 : Int32) * v3)) q3 q4 q5 s0 ((σ.1 q6 (v3).toNatClampNeg)) v1 v4 σ) (fun (_ : Unit) (σ8 : zS) => bnd (σ8.2 v0 50) (fun (q10 : Nat) => zX v1 24 (zb (fX7_byLaw v0 ((σ8.1 q10 (v1).toNatClampNeg)) σ8) (fun (r13 : Int32) (σ12 : zS) => bnd (σ12.2 v0 40) (fun (q14 : Nat) => zX ((((960 : Int32) * v3) + ((24 : Int32) * v4)) + v1) 19200 (bnd ((σ12.1 q14 (((((960 : Int32) * v3) + ((24 : Int32) * v4)) + v1)).toNatClampNeg)) (fun (x16 : Int32) => if r13 = x16 then (bX7_otherThan_221 k88 v0 v1 v3 v4 v2 (0 : Int32) σ12) else (bX7_otherThan_221 k88 v0 v1 v3 v4 v2 (1 : Int32) σ12))))))))))))))
def bX7_otherThan_88 (k4 : Nat → Int32 → Int32 → Int32 → zS → Option (Int32 × zS)) (k88 : Nat → Int32 → Int32 → Int32 → Int32 → zS → Option (Int32 × zS)) (v0 : Nat) (v1 : Int32) (v2 : Int32) (v3 : Int32) (v4 : Int32) (σ : zS) : Option (Int32 × zS) :=
  bnd (σ.2 v0 46) (fun (q18 : Nat) => zX v3 20 (if (σ.1 q18 (v3).toNatClampNeg) ≤ v4 then (bX7_otherThan_229 k4 v0 v1 v2 v3 σ) else (bnd (σ.2 v0 50) (fun (q21 : Nat) => zX v1 24 (if (σ.1 q21 (v1).toNatClampNeg) = (-1 : Int32) then (bX7_otherThan_229 k4 v0 v1 v2 v3 σ) else (bnd (σ.2 v0 51) (fun (q24 : Nat) => zX v1 24 (if (σ.1 q24 (v1).toNatClampNeg) = (1 : Int32) then (bnd (σ.2 v0 44) (fun (q29 : Nat) => zX (((40 : Int32) * v3) + v4) 800 (bX7_otherThan_146 k88 v0 v1 v2 v3 v4 ((σ.1 q29 ((((40 : Int32) * v3) + v4)).toNatClampNeg)) σ))) else (bnd (σ.2 v0 45) (fun (q27 : Nat) => zX (((40 : Int32) * v3) + v4) 800 (bX7_otherThan_146 k88 v0 v1 v2 v3 v4 ((σ.1 q27 ((((40 : Int32) * v3) + v4)).toNatClampNeg)) σ)))))))))))
def fX7_otherThan_88 (k4 : Nat → Int32 → Int32 → Int32 → zS → Option (Int32 × zS)) : Nat → Nat → Int32 → Int32 → Int32 → Int32 → zS → Option (Int32 × zS)
  | 0, _, _, _, _, _, _ => none
  | n + 1, v0, v1, v2, v3, v4, σ => bX7_otherThan_88 k4 (fX7_otherThan_88 k4 n) v0 v1 v2 v3 v4 σ
def bX7_otherThan_85 (k4 : Nat → Int32 → Int32 → Int32 → zS → Option (Int32 × zS)) (v0 : Nat) (v1 : Int32) (v2 : Int32) (v3 : Int32) (σ : zS) : Option (Int32 × zS) :=
  fX7_otherThan_88 k4 zFU v0 v1 v2 v3 (0 : Int32) σ
def bX7_otherThan_15 (k4 : Nat → Int32 → Int32 → Int32 → zS → Option (Int32 × zS)) (k15 : Nat → Int32 → Int32 → Int32 → Int32 → zS → Option (Int32 × zS)) (v0 : Nat) (v1 : Int32) (v2 : Int32) (v3 : Int32) (v4 : Int32) (σ : zS) : Option (Int32 × zS) :=
  if (24 : Int32) ≤ v4 then (bX7_otherThan_85 k4 v0 v1 v2 v3 σ) else (bnd (σ.2 v0 50) (fun (q32 : Nat) => bnd (σ.2 v0 41) (fun (q33 : Nat) => zX (((24 : Int32) * v3) + v4) 480 (zX v4 24 (bnd (zI σ q32 (v4).toNatClampNeg (σ.1 q33 ((((24 : Int32) * v3) + v4)).toNatClampNeg)) (fun (σ36 : zS) => bnd (σ36.2 v0 51) (fun (q37 : Nat) => bnd (σ36.2 v0 42) (fun (q38 : Nat) => zX (((24 : Int32) * v3) + v4) 480 (zX v4 24 (bnd (zI σ36 q37 (v4).toNatClampNeg (σ36.1 q38 ((((24 : Int32) * v3) + v4)).toNatClampNeg)) (fun (σ41 : zS) => bnd (σ41.2 v0 52) (fun (q42 : Nat) => bnd (σ41.2 v0 43) (fun (q43 : Nat) => zX (((24 : Int32) * v3) + v4) 480 (zX v4 24 (bnd (zI σ41 q42 (v4).toNatClampNeg (σ41.1 q43 ((((24 : Int32) * v3) + v4)).toNatClampNeg)) (fun (σ46 : zS) => k15 v0 v1 v2 v3 ((v4 + (1 : Int32))) σ46))))))))))))))))
def fX7_otherThan_15 (k4 : Nat → Int32 → Int32 → Int32 → zS → Option (Int32 × zS)) : Nat → Nat → Int32 → Int32 → Int32 → Int32 → zS → Option (Int32 × zS)
  | 0, _, _, _, _, _, _ => none
  | n + 1, v0, v1, v2, v3, v4, σ => bX7_otherThan_15 k4 (fX7_otherThan_15 k4 n) v0 v1 v2 v3 v4 σ
def bX7_otherThan_4 (k4 : Nat → Int32 → Int32 → Int32 → zS → Option (Int32 × zS)) (v0 : Nat) (v1 : Int32) (v2 : Int32) (v3 : Int32) (σ : zS) : Option (Int32 × zS) :=
  if (σ.1 v0 39) ≤ v3 then (some (v2, σ)) else (fX7_otherThan_15 k4 zFU v0 v1 v2 v3 (0 : Int32) σ)
def fX7_otherThan_4  : Nat → Nat → Int32 → Int32 → Int32 → zS → Option (Int32 × zS)
  | 0, _, _, _, _, _ => none
  | n + 1, v0, v1, v2, v3, σ => bX7_otherThan_4 (fX7_otherThan_4  n) v0 v1 v2 v3 σ
def fX7_otherThan (v0 : Nat) (v1 : Int32) (σ : zS) : Option (Int32 × zS) :=
  fX7_otherThan_4 zFU v0 v1 (0 : Int32) (0 : Int32) σ
set_option maxRecDepth 100000 in
set_option maxHeartbeats 4000000 in
theorem jX7_otherThan_229 {p : Program} {l : Launch} {e : Env} {s : State} {m : MethodId} {args : Array Value} {below : List Frame} {meth : Method} {c : Code} {b0 : Nat} {cA : Nat → ClassId} {D : va_G} {L : List (Nat × Nat)} (hC : zC p c s m args meth cX7_otherThan 6 (some Jvm.ClassFile.FieldType.int) (Cond.code yX7_otherThan cX7_otherThan 6 (some Jvm.ClassFile.FieldType.int)) yX7_otherThan.cls cA D) (k4 : Nat → Int32 → Int32 → Int32 → zS → Option (Int32 × zS)) (h4 : ∀ (v0 : Nat) (v1 : Int32) (v2 : Int32) (v3 : Int32) (σ : zS) (ls : Array Slot), L[v0]? = some (0, 7) → lv_has ls 6 [(0, .ref (b0 + v0)), (1, .int v1), (2, .int v2), (3, .int v3)] → zJ p l e rmX7_otherThan s m args below meth c b0 cA D L (fun z => MQ below (va_Qi (fun (r : Int32) (u : zS) => (r, u) = z) (zB b0 cA D L) (zA b0 L)) args s 0 0 (zA b0 L)) (k4 v0 v1 v2 v3 σ) σ 4 ls []) (v0 : Nat) (v1 : Int32) (v2 : Int32) (v3 : Int32) (σ : zS) (ls : Array Slot) (hk_v0 : L[v0]? = some (0, 7)) (hl : lv_has ls 6 [(0, .ref (b0 + v0)), (1, .int v1), (2, .int v2), (3, .int v3)]) : zJ p l e rmX7_otherThan s m args below meth c b0 cA D L (fun z => MQ below (va_Qi (fun (r : Int32) (u : zS) => (r, u) = z) (zB b0 cA D L) (zA b0 L)) args s 0 0 (zA b0 L)) (bX7_otherThan_229 k4 v0 v1 v2 v3 σ) σ 229 ls [] := by
  unfold bX7_otherThan_229
  refine zj_iinc (pc' := 232) (k0 := 3) (v := (v3 + (1 : Int32))) (lv' := [(3, .int (v3 + (1 : Int32))), (0, .ref (b0 + v0)), (1, .int v1), (2, .int v2)]) hC dX7_otherThan_229 rfl hl rfl rfl (by decide) rfl (fun ls hl => ?_)
  refine zj_goto (tgt := 4) hC dX7_otherThan_232 (by decide) ?_
  exact h4 v0 v1 v2 ((v3 + (1 : Int32))) σ ls hk_v0 (lv_sub hl [1, 2, 3, 0] rfl)
set_option maxRecDepth 100000 in
set_option maxHeartbeats 4000000 in
theorem jX7_otherThan_221 {p : Program} {l : Launch} {e : Env} {s : State} {m : MethodId} {args : Array Value} {below : List Frame} {meth : Method} {c : Code} {b0 : Nat} {cA : Nat → ClassId} {D : va_G} {L : List (Nat × Nat)} (hC : zC p c s m args meth cX7_otherThan 6 (some Jvm.ClassFile.FieldType.int) (Cond.code yX7_otherThan cX7_otherThan 6 (some Jvm.ClassFile.FieldType.int)) yX7_otherThan.cls cA D) (k88 : Nat → Int32 → Int32 → Int32 → Int32 → zS → Option (Int32 × zS)) (h88 : ∀ (v0 : Nat) (v1 : Int32) (v2 : Int32) (v3 : Int32) (v4 : Int32) (σ : zS) (ls : Array Slot), L[v0]? = some (0, 7) → lv_has ls 6 [(0, .ref (b0 + v0)), (1, .int v1), (2, .int v2), (3, .int v3), (4, .int v4)] → zJ p l e rmX7_otherThan s m args below meth c b0 cA D L (fun z => MQ below (va_Qi (fun (r : Int32) (u : zS) => (r, u) = z) (zB b0 cA D L) (zA b0 L)) args s 0 0 (zA b0 L)) (k88 v0 v1 v2 v3 v4 σ) σ 88 ls []) (v0 : Nat) (v1 : Int32) (v3 : Int32) (v4 : Int32) (s0 : Int32) (s1 : Int32) (σ : zS) (ls : Array Slot) (hk_v0 : L[v0]? = some (0, 7)) (hb_s1 : nB s1) (hl : lv_has ls 6 [(0, .ref (b0 + v0)), (1, .int v1), (3, .int v3), (4, .int v4)]) : zJ p l e rmX7_otherThan s m args below meth c b0 cA D L (fun z => MQ below (va_Qi (fun (r : Int32) (u : zS) => (r, u) = z) (zB b0 cA D L) (zA b0 L)) args s 0 0 (zA b0 L)) (bX7_otherThan_221 k88 v0 v1 v3 v4 s0 s1 σ) σ 221 ls [.int s1, .int s0] := by
  unfold bX7_otherThan_221
  refine zj_iadd (pc' := 222) hC dX7_otherThan_221 rfl ?_
  refine zj_nmi (fun x1 => ?_)
  refine zj_istore_n (pc' := 223) (lv' := [(2, .int x1), (0, .ref (b0 + v0)), (1, .int v1), (3, .int v3), (4, .int v4)]) hC dX7_otherThan_222 rfl rfl hl (by decide) rfl (fun ls hl => ?_)
  refine zj_iinc (pc' := 226) (k0 := 4) (v := (v4 + (1 : Int32))) (lv' := [(4, .int (v4 + (1 : Int32))), (2, .int x1), (0, .ref (b0 + v0)), (1, .int v1), (3, .int v3)]) hC dX7_otherThan_223 rfl hl rfl rfl (by decide) rfl (fun ls hl => ?_)
  refine zj_goto (tgt := 88) hC dX7_otherThan_226 (by decide) ?_
  exact h88 v0 v1 x1 v3 ((v4 + (1 : Int32))) σ ls hk_v0 (lv_sub hl [2, 3, 1, 4, 0] rfl)
set_option maxRecDepth 100000 in
set_option maxHeartbeats 4000000 in
theorem jX7_otherThan_146 {p : Program} {l : Launch} {e : Env} {s : State} {m : MethodId} {args : Array Value} {below : List Frame} {meth : Method} {c : Code} {b0 : Nat} {cA : Nat → ClassId} {D : va_G} {L : List (Nat × Nat)} (hC : zC p c s m args meth cX7_otherThan 6 (some Jvm.ClassFile.FieldType.int) (Cond.code yX7_otherThan cX7_otherThan 6 (some Jvm.ClassFile.FieldType.int)) yX7_otherThan.cls cA D) (k88 : Nat → Int32 → Int32 → Int32 → Int32 → zS → Option (Int32 × zS)) (h88 : ∀ (v0 : Nat) (v1 : Int32) (v2 : Int32) (v3 : Int32) (v4 : Int32) (σ : zS) (ls : Array Slot), L[v0]? = some (0, 7) → lv_has ls 6 [(0, .ref (b0 + v0)), (1, .int v1), (2, .int v2), (3, .int v3), (4, .int v4)] → zJ p l e rmX7_otherThan s m args below meth c b0 cA D L (fun z => MQ below (va_Qi (fun (r : Int32) (u : zS) => (r, u) = z) (zB b0 cA D L) (zA b0 L)) args s 0 0 (zA b0 L)) (k88 v0 v1 v2 v3 v4 σ) σ 88 ls []) (v0 : Nat) (v1 : Int32) (v2 : Int32) (v3 : Int32) (v4 : Int32) (s0 : Int32) (σ : zS) (ls : Array Slot) (hk_v0 : L[v0]? = some (0, 7)) (hl : lv_has ls 6 [(0, .ref (b0 + v0)), (1, .int v1), (2, .int v2), (3, .int v3), (4, .int v4)]) : zJ p l e rmX7_otherThan s m args below meth c b0 cA D L (fun z => MQ below (va_Qi (fun (r : Int32) (u : zS) => (r, u) = z) (zB b0 cA D L) (zA b0 L)) args s 0 0 (zA b0 L)) (bX7_otherThan_146 k88 v0 v1 v2 v3 v4 s0 σ) σ 146 ls [.int s0] := by
  unfold bX7_otherThan_146
  refine zj_istore (pc' := 148) (lv' := [(5, .int s0), (0, .ref (b0 + v0)), (1, .int v1), (2, .int v2), (3, .int v3), (4, .int v4)]) hC dX7_otherThan_146 rfl hl (by decide) rfl (fun ls hl => ?_)
  refine zj_aload_n (pc' := 149) hC dX7_otherThan_148 rfl rfl (lv_at hl 1 rfl) ?_
  refine zj_aload_n (pc' := 150) hC dX7_otherThan_149 rfl rfl (lv_at hl 1 rfl) ?_
  refine zj_getR (pc' := 153) hC hk_v0 fd_7_40 rfl tw_4_88 dX7_otherThan_150 rfl (fun q2 hk_q2 => ?_)
  refine zj_sipush (pc' := 156) (v := (960 : Int32)) hC dX7_otherThan_153 rfl rfl ?_
  refine zj_iload_n (pc' := 157) hC dX7_otherThan_156 rfl rfl (lv_at hl 4 rfl) ?_
  refine zj_imul (pc' := 158) hC dX7_otherThan_157 rfl ?_
  refine zj_aload_n (pc' := 159) hC dX7_otherThan_158 rfl rfl (lv_at hl 1 rfl) ?_
  refine zj_getR (pc' := 162) hC hk_v0 fd_7_50 rfl tw_4_98 dX7_otherThan_159 rfl (fun q3 hk_q3 => ?_)
  refine zj_aload_n (pc' := 163) hC dX7_otherThan_162 rfl rfl (lv_at hl 1 rfl) ?_
  refine zj_getR (pc' := 166) hC hk_v0 fd_7_52 rfl tw_4_100 dX7_otherThan_163 rfl (fun q4 hk_q4 => ?_)
  refine zj_aload_n (pc' := 167) hC dX7_otherThan_166 rfl rfl (lv_at hl 1 rfl) ?_
  refine zj_getR (pc' := 170) hC hk_v0 fd_7_51 rfl tw_4_99 dX7_otherThan_167 rfl (fun q5 hk_q5 => ?_)
  refine zj_iload (pc' := 172) hC dX7_otherThan_170 rfl (lv_at hl 0 rfl) ?_
  refine zj_aload_n (pc' := 173) hC dX7_otherThan_172 rfl rfl (lv_at hl 1 rfl) ?_
  refine zj_getR (pc' := 176) hC hk_v0 fd_7_47 rfl tw_4_95 dX7_otherThan_173 rfl (fun q6 hk_q6 => ?_)
  refine zj_iload_n (pc' := 177) hC dX7_otherThan_176 rfl rfl (lv_at hl 4 rfl) ?_
  refine zj_iald (pc' := 178) hC hk_q6 dX7_otherThan_177 rfl (fun g7 => ?_)
  refine zj_iload_n (pc' := 179) hC dX7_otherThan_178 rfl rfl (lv_at hl 2 rfl) ?_
  refine zj_iload (pc' := 181) hC dX7_otherThan_179 rfl (lv_at hl 5 rfl) ?_
  refine zj_callvV (pc' := 184) (rest := []) hC (kX7_feels l b0 cA D L 19200 v0 q2 (((960 : Int32) * v3)) q3 q4 q5 s0 ((σ.1 q6 (v3).toNatClampNeg)) v1 v4 σ hk_v0 hk_q2 hk_q3 hk_q4 hk_q5) hk_v0 rfl tw_5_126 tw_5_123 tw_5_125 ts_4_11 tw_1_8 ddX7_feels rfl ⟨rfl, rfl⟩ ⟨by decide, by decide⟩ hl.1 (Nat.le_of_ble_eq_true rfl) rfl dX7_otherThan_181 rfl (fun σ8 => ?_)
  refine zj_iload_n (pc' := 185) hC dX7_otherThan_184 rfl rfl (lv_at hl 3 rfl) ?_
  refine zj_aload_n (pc' := 186) hC dX7_otherThan_185 rfl rfl (lv_at hl 1 rfl) ?_
  refine zj_aload_n (pc' := 187) hC dX7_otherThan_186 rfl rfl (lv_at hl 1 rfl) ?_
  refine zj_getR (pc' := 190) hC hk_v0 fd_7_50 rfl tw_4_98 dX7_otherThan_187 rfl (fun q10 hk_q10 => ?_)
  refine zj_iload_n (pc' := 191) hC dX7_otherThan_190 rfl rfl (lv_at hl 2 rfl) ?_
  refine zj_iald (pc' := 192) hC hk_q10 dX7_otherThan_191 rfl (fun g11 => ?_)
  refine zj_calliV (pc' := 195) (rest := [.int v2]) hC (kX7_byLaw l b0 cA D L v0 ((σ8.1 q10 (v1).toNatClampNeg)) σ8 hk_v0) hk_v0 rfl tw_5_134 tw_5_131 tw_5_133 ts_4_13 tw_1_8 ddX7_byLaw rfl ⟨rfl, rfl⟩ ⟨by decide, by decide⟩ hl.1 (Nat.le_of_ble_eq_true rfl) rfl dX7_otherThan_192 rfl (fun r13 σ12 => ?_)
  refine zj_aload_n (pc' := 196) hC dX7_otherThan_195 rfl rfl (lv_at hl 1 rfl) ?_
  refine zj_getR (pc' := 199) hC hk_v0 fd_7_40 rfl tw_4_88 dX7_otherThan_196 rfl (fun q14 hk_q14 => ?_)
  refine zj_sipush (pc' := 202) (v := (960 : Int32)) hC dX7_otherThan_199 rfl rfl ?_
  refine zj_iload_n (pc' := 203) hC dX7_otherThan_202 rfl rfl (lv_at hl 4 rfl) ?_
  refine zj_imul (pc' := 204) hC dX7_otherThan_203 rfl ?_
  refine zj_bipush (pc' := 206) (v := (24 : Int32)) hC dX7_otherThan_204 rfl rfl ?_
  refine zj_iload (pc' := 208) hC dX7_otherThan_206 rfl (lv_at hl 5 rfl) ?_
  refine zj_imul (pc' := 209) hC dX7_otherThan_208 rfl ?_
  refine zj_iadd (pc' := 210) hC dX7_otherThan_209 rfl ?_
  refine zj_iload_n (pc' := 211) hC dX7_otherThan_210 rfl rfl (lv_at hl 2 rfl) ?_
  refine zj_iadd (pc' := 212) hC dX7_otherThan_211 rfl ?_
  refine zj_iald (pc' := 213) hC hk_q14 dX7_otherThan_212 rfl (fun g15 => ?_)
  refine zj_nmi (fun x16 => ?_)
  refine zj_icmp_ne (tgt := 220) (pc' := 216) hC dX7_otherThan_213 (by decide) rfl (fun c17 => ?_) (fun c17 => ?_)
  · refine zj_iconst (pc' := 221) (v := (1 : Int32)) hC dX7_otherThan_220 rfl rfl ?_
    exact jX7_otherThan_221 hC k88 h88 v0 v1 v3 v4 v2 (1 : Int32) σ12 ls hk_v0 nB_1 (lv_sub hl [1, 2, 4, 5] rfl)
  · refine zj_iconst (pc' := 217) (v := (0 : Int32)) hC dX7_otherThan_216 rfl rfl ?_
    refine zj_goto (tgt := 221) hC dX7_otherThan_217 (by decide) ?_
    exact jX7_otherThan_221 hC k88 h88 v0 v1 v3 v4 v2 (0 : Int32) σ12 ls hk_v0 nB_0 (lv_sub hl [1, 2, 4, 5] rfl)
set_option maxRecDepth 100000 in
set_option maxHeartbeats 4000000 in
theorem jX7_otherThan_88 {p : Program} {l : Launch} {e : Env} {s : State} {m : MethodId} {args : Array Value} {below : List Frame} {meth : Method} {c : Code} {b0 : Nat} {cA : Nat → ClassId} {D : va_G} {L : List (Nat × Nat)} (hC : zC p c s m args meth cX7_otherThan 6 (some Jvm.ClassFile.FieldType.int) (Cond.code yX7_otherThan cX7_otherThan 6 (some Jvm.ClassFile.FieldType.int)) yX7_otherThan.cls cA D) (k4 : Nat → Int32 → Int32 → Int32 → zS → Option (Int32 × zS)) (h4 : ∀ (v0 : Nat) (v1 : Int32) (v2 : Int32) (v3 : Int32) (σ : zS) (ls : Array Slot), L[v0]? = some (0, 7) → lv_has ls 6 [(0, .ref (b0 + v0)), (1, .int v1), (2, .int v2), (3, .int v3)] → zJ p l e rmX7_otherThan s m args below meth c b0 cA D L (fun z => MQ below (va_Qi (fun (r : Int32) (u : zS) => (r, u) = z) (zB b0 cA D L) (zA b0 L)) args s 0 0 (zA b0 L)) (k4 v0 v1 v2 v3 σ) σ 4 ls []) (k88 : Nat → Int32 → Int32 → Int32 → Int32 → zS → Option (Int32 × zS)) (h88 : ∀ (v0 : Nat) (v1 : Int32) (v2 : Int32) (v3 : Int32) (v4 : Int32) (σ : zS) (ls : Array Slot), L[v0]? = some (0, 7) → lv_has ls 6 [(0, .ref (b0 + v0)), (1, .int v1), (2, .int v2), (3, .int v3), (4, .int v4)] → zJ p l e rmX7_otherThan s m args below meth c b0 cA D L (fun z => MQ below (va_Qi (fun (r : Int32) (u : zS) => (r, u) = z) (zB b0 cA D L) (zA b0 L)) args s 0 0 (zA b0 L)) (k88 v0 v1 v2 v3 v4 σ) σ 88 ls []) (v0 : Nat) (v1 : Int32) (v2 : Int32) (v3 : Int32) (v4 : Int32) (σ : zS) (ls : Array Slot) (hk_v0 : L[v0]? = some (0, 7)) (hl : lv_has ls 6 [(0, .ref (b0 + v0)), (1, .int v1), (2, .int v2), (3, .int v3), (4, .int v4)]) : zJ p l e rmX7_otherThan s m args below meth c b0 cA D L (fun z => MQ below (va_Qi (fun (r : Int32) (u : zS) => (r, u) = z) (zB b0 cA D L) (zA b0 L)) args s 0 0 (zA b0 L)) (bX7_otherThan_88 k4 k88 v0 v1 v2 v3 v4 σ) σ 88 ls [] := by
  unfold bX7_otherThan_88
  refine zj_iload (pc' := 90) hC dX7_otherThan_88 rfl (lv_at hl 4 rfl) ?_
  refine zj_aload_n (pc' := 91) hC dX7_otherThan_90 rfl rfl (lv_at hl 0 rfl) ?_
  refine zj_getR (pc' := 94) hC hk_v0 fd_7_46 rfl tw_4_94 dX7_otherThan_91 rfl (fun q18 hk_q18 => ?_)
  refine zj_iload_n (pc' := 95) hC dX7_otherThan_94 rfl rfl (lv_at hl 3 rfl) ?_
  refine zj_iald (pc' := 96) hC hk_q18 dX7_otherThan_95 rfl (fun g19 => ?_)
  refine zj_icmp_ge (tgt := 229) (pc' := 99) hC dX7_otherThan_96 (by decide) rfl (fun c20 => ?_) (fun c20 => ?_)
  · exact jX7_otherThan_229 hC k4 h4 v0 v1 v2 v3 σ ls hk_v0 (lv_sub hl [0, 1, 2, 3] rfl)
  · refine zj_aload_n (pc' := 100) hC dX7_otherThan_99 rfl rfl (lv_at hl 0 rfl) ?_
    refine zj_getR (pc' := 103) hC hk_v0 fd_7_50 rfl tw_4_98 dX7_otherThan_100 rfl (fun q21 hk_q21 => ?_)
    refine zj_iload_n (pc' := 104) hC dX7_otherThan_103 rfl rfl (lv_at hl 1 rfl) ?_
    refine zj_iald (pc' := 105) hC hk_q21 dX7_otherThan_104 rfl (fun g22 => ?_)
    refine zj_iconst (pc' := 106) (v := (-1 : Int32)) hC dX7_otherThan_105 rfl rfl ?_
    refine zj_icmp_eq (tgt := 229) (pc' := 109) hC dX7_otherThan_106 (by decide) rfl (fun c23 => ?_) (fun c23 => ?_)
    · exact jX7_otherThan_229 hC k4 h4 v0 v1 v2 v3 σ ls hk_v0 (lv_sub hl [0, 1, 2, 3] rfl)
    · refine zj_aload_n (pc' := 110) hC dX7_otherThan_109 rfl rfl (lv_at hl 0 rfl) ?_
      refine zj_getR (pc' := 113) hC hk_v0 fd_7_51 rfl tw_4_99 dX7_otherThan_110 rfl (fun q24 hk_q24 => ?_)
      refine zj_iload_n (pc' := 114) hC dX7_otherThan_113 rfl rfl (lv_at hl 1 rfl) ?_
      refine zj_iald (pc' := 115) hC hk_q24 dX7_otherThan_114 rfl (fun g25 => ?_)
      refine zj_iconst (pc' := 116) (v := (1 : Int32)) hC dX7_otherThan_115 rfl rfl ?_
      refine zj_icmp_ne (tgt := 134) (pc' := 119) hC dX7_otherThan_116 (by decide) rfl (fun c26 => ?_) (fun c26 => ?_)
      · refine zj_aload_n (pc' := 135) hC dX7_otherThan_134 rfl rfl (lv_at hl 0 rfl) ?_
        refine zj_getR (pc' := 138) hC hk_v0 fd_7_45 rfl tw_4_93 dX7_otherThan_135 rfl (fun q27 hk_q27 => ?_)
        refine zj_bipush (pc' := 140) (v := (40 : Int32)) hC dX7_otherThan_138 rfl rfl ?_
        refine zj_iload_n (pc' := 141) hC dX7_otherThan_140 rfl rfl (lv_at hl 3 rfl) ?_
        refine zj_imul (pc' := 142) hC dX7_otherThan_141 rfl ?_
        refine zj_iload (pc' := 144) hC dX7_otherThan_142 rfl (lv_at hl 4 rfl) ?_
        refine zj_iadd (pc' := 145) hC dX7_otherThan_144 rfl ?_
        refine zj_iald (pc' := 146) hC hk_q27 dX7_otherThan_145 rfl (fun g28 => ?_)
        exact jX7_otherThan_146 hC k88 h88 v0 v1 v2 v3 v4 ((σ.1 q27 ((((40 : Int32) * v3) + v4)).toNatClampNeg)) σ ls hk_v0 (lv_sub hl [0, 1, 2, 3, 4] rfl)
      · refine zj_aload_n (pc' := 120) hC dX7_otherThan_119 rfl rfl (lv_at hl 0 rfl) ?_
        refine zj_getR (pc' := 123) hC hk_v0 fd_7_44 rfl tw_4_92 dX7_otherThan_120 rfl (fun q29 hk_q29 => ?_)
        refine zj_bipush (pc' := 125) (v := (40 : Int32)) hC dX7_otherThan_123 rfl rfl ?_
        refine zj_iload_n (pc' := 126) hC dX7_otherThan_125 rfl rfl (lv_at hl 3 rfl) ?_
        refine zj_imul (pc' := 127) hC dX7_otherThan_126 rfl ?_
        refine zj_iload (pc' := 129) hC dX7_otherThan_127 rfl (lv_at hl 4 rfl) ?_
        refine zj_iadd (pc' := 130) hC dX7_otherThan_129 rfl ?_
        refine zj_iald (pc' := 131) hC hk_q29 dX7_otherThan_130 rfl (fun g30 => ?_)
        refine zj_goto (tgt := 146) hC dX7_otherThan_131 (by decide) ?_
        exact jX7_otherThan_146 hC k88 h88 v0 v1 v2 v3 v4 ((σ.1 q29 ((((40 : Int32) * v3) + v4)).toNatClampNeg)) σ ls hk_v0 (lv_sub hl [0, 1, 2, 3, 4] rfl)
set_option maxRecDepth 100000 in
set_option maxHeartbeats 4000000 in
theorem lX7_otherThan_88 {p : Program} {l : Launch} {e : Env} {s : State} {m : MethodId} {args : Array Value} {below : List Frame} {meth : Method} {c : Code} {b0 : Nat} {cA : Nat → ClassId} {D : va_G} {L : List (Nat × Nat)} (hC : zC p c s m args meth cX7_otherThan 6 (some Jvm.ClassFile.FieldType.int) (Cond.code yX7_otherThan cX7_otherThan 6 (some Jvm.ClassFile.FieldType.int)) yX7_otherThan.cls cA D) (k4 : Nat → Int32 → Int32 → Int32 → zS → Option (Int32 × zS)) (h4 : ∀ (v0 : Nat) (v1 : Int32) (v2 : Int32) (v3 : Int32) (σ : zS) (ls : Array Slot), L[v0]? = some (0, 7) → lv_has ls 6 [(0, .ref (b0 + v0)), (1, .int v1), (2, .int v2), (3, .int v3)] → zJ p l e rmX7_otherThan s m args below meth c b0 cA D L (fun z => MQ below (va_Qi (fun (r : Int32) (u : zS) => (r, u) = z) (zB b0 cA D L) (zA b0 L)) args s 0 0 (zA b0 L)) (k4 v0 v1 v2 v3 σ) σ 4 ls []) (n : Nat) : ∀ (v0 : Nat) (v1 : Int32) (v2 : Int32) (v3 : Int32) (v4 : Int32) (σ : zS) (ls : Array Slot), L[v0]? = some (0, 7) → lv_has ls 6 [(0, .ref (b0 + v0)), (1, .int v1), (2, .int v2), (3, .int v3), (4, .int v4)] → zJ p l e rmX7_otherThan s m args below meth c b0 cA D L (fun z => MQ below (va_Qi (fun (r : Int32) (u : zS) => (r, u) = z) (zB b0 cA D L) (zA b0 L)) args s 0 0 (zA b0 L)) (fX7_otherThan_88 k4 n v0 v1 v2 v3 v4 σ) σ 88 ls [] := by
  induction n with
  | zero => intros; exact zj_none
  | succ n ih => exact jX7_otherThan_88 hC k4 h4 (fX7_otherThan_88 k4 n) ih
set_option maxRecDepth 100000 in
set_option maxHeartbeats 4000000 in
theorem jX7_otherThan_85 {p : Program} {l : Launch} {e : Env} {s : State} {m : MethodId} {args : Array Value} {below : List Frame} {meth : Method} {c : Code} {b0 : Nat} {cA : Nat → ClassId} {D : va_G} {L : List (Nat × Nat)} (hC : zC p c s m args meth cX7_otherThan 6 (some Jvm.ClassFile.FieldType.int) (Cond.code yX7_otherThan cX7_otherThan 6 (some Jvm.ClassFile.FieldType.int)) yX7_otherThan.cls cA D) (k4 : Nat → Int32 → Int32 → Int32 → zS → Option (Int32 × zS)) (h4 : ∀ (v0 : Nat) (v1 : Int32) (v2 : Int32) (v3 : Int32) (σ : zS) (ls : Array Slot), L[v0]? = some (0, 7) → lv_has ls 6 [(0, .ref (b0 + v0)), (1, .int v1), (2, .int v2), (3, .int v3)] → zJ p l e rmX7_otherThan s m args below meth c b0 cA D L (fun z => MQ below (va_Qi (fun (r : Int32) (u : zS) => (r, u) = z) (zB b0 cA D L) (zA b0 L)) args s 0 0 (zA b0 L)) (k4 v0 v1 v2 v3 σ) σ 4 ls []) (v0 : Nat) (v1 : Int32) (v2 : Int32) (v3 : Int32) (σ : zS) (ls : Array Slot) (hk_v0 : L[v0]? = some (0, 7)) (hl : lv_has ls 6 [(0, .ref (b0 + v0)), (1, .int v1), (2, .int v2), (3, .int v3)]) : zJ p l e rmX7_otherThan s m args below meth c b0 cA D L (fun z => MQ below (va_Qi (fun (r : Int32) (u : zS) => (r, u) = z) (zB b0 cA D L) (zA b0 L)) args s 0 0 (zA b0 L)) (bX7_otherThan_85 k4 v0 v1 v2 v3 σ) σ 85 ls [] := by
  unfold bX7_otherThan_85
  refine zj_iconst (pc' := 86) (v := (0 : Int32)) hC dX7_otherThan_85 rfl rfl ?_
  refine zj_istore (pc' := 88) (lv' := [(4, .int (0 : Int32)), (0, .ref (b0 + v0)), (1, .int v1), (2, .int v2), (3, .int v3)]) hC dX7_otherThan_86 rfl hl (by decide) rfl (fun ls hl => ?_)
  exact lX7_otherThan_88 hC k4 h4 zFU v0 v1 v2 v3 (0 : Int32) σ ls hk_v0 (lv_sub hl [1, 2, 3, 4, 0] rfl)
set_option maxRecDepth 100000 in
set_option maxHeartbeats 4000000 in
theorem jX7_otherThan_15 {p : Program} {l : Launch} {e : Env} {s : State} {m : MethodId} {args : Array Value} {below : List Frame} {meth : Method} {c : Code} {b0 : Nat} {cA : Nat → ClassId} {D : va_G} {L : List (Nat × Nat)} (hC : zC p c s m args meth cX7_otherThan 6 (some Jvm.ClassFile.FieldType.int) (Cond.code yX7_otherThan cX7_otherThan 6 (some Jvm.ClassFile.FieldType.int)) yX7_otherThan.cls cA D) (k4 : Nat → Int32 → Int32 → Int32 → zS → Option (Int32 × zS)) (h4 : ∀ (v0 : Nat) (v1 : Int32) (v2 : Int32) (v3 : Int32) (σ : zS) (ls : Array Slot), L[v0]? = some (0, 7) → lv_has ls 6 [(0, .ref (b0 + v0)), (1, .int v1), (2, .int v2), (3, .int v3)] → zJ p l e rmX7_otherThan s m args below meth c b0 cA D L (fun z => MQ below (va_Qi (fun (r : Int32) (u : zS) => (r, u) = z) (zB b0 cA D L) (zA b0 L)) args s 0 0 (zA b0 L)) (k4 v0 v1 v2 v3 σ) σ 4 ls []) (k15 : Nat → Int32 → Int32 → Int32 → Int32 → zS → Option (Int32 × zS)) (h15 : ∀ (v0 : Nat) (v1 : Int32) (v2 : Int32) (v3 : Int32) (v4 : Int32) (σ : zS) (ls : Array Slot), L[v0]? = some (0, 7) → lv_has ls 6 [(0, .ref (b0 + v0)), (1, .int v1), (2, .int v2), (3, .int v3), (4, .int v4)] → zJ p l e rmX7_otherThan s m args below meth c b0 cA D L (fun z => MQ below (va_Qi (fun (r : Int32) (u : zS) => (r, u) = z) (zB b0 cA D L) (zA b0 L)) args s 0 0 (zA b0 L)) (k15 v0 v1 v2 v3 v4 σ) σ 15 ls []) (v0 : Nat) (v1 : Int32) (v2 : Int32) (v3 : Int32) (v4 : Int32) (σ : zS) (ls : Array Slot) (hk_v0 : L[v0]? = some (0, 7)) (hl : lv_has ls 6 [(0, .ref (b0 + v0)), (1, .int v1), (2, .int v2), (3, .int v3), (4, .int v4)]) : zJ p l e rmX7_otherThan s m args below meth c b0 cA D L (fun z => MQ below (va_Qi (fun (r : Int32) (u : zS) => (r, u) = z) (zB b0 cA D L) (zA b0 L)) args s 0 0 (zA b0 L)) (bX7_otherThan_15 k4 k15 v0 v1 v2 v3 v4 σ) σ 15 ls [] := by
  unfold bX7_otherThan_15
  refine zj_iload (pc' := 17) hC dX7_otherThan_15 rfl (lv_at hl 4 rfl) ?_
  refine zj_bipush (pc' := 19) (v := (24 : Int32)) hC dX7_otherThan_17 rfl rfl ?_
  refine zj_icmp_ge (tgt := 85) (pc' := 22) hC dX7_otherThan_19 (by decide) rfl (fun c31 => ?_) (fun c31 => ?_)
  · exact jX7_otherThan_85 hC k4 h4 v0 v1 v2 v3 σ ls hk_v0 (lv_sub hl [0, 1, 2, 3] rfl)
  · refine zj_aload_n (pc' := 23) hC dX7_otherThan_22 rfl rfl (lv_at hl 0 rfl) ?_
    refine zj_getR (pc' := 26) hC hk_v0 fd_7_50 rfl tw_4_98 dX7_otherThan_23 rfl (fun q32 hk_q32 => ?_)
    refine zj_iload (pc' := 28) hC dX7_otherThan_26 rfl (lv_at hl 4 rfl) ?_
    refine zj_aload_n (pc' := 29) hC dX7_otherThan_28 rfl rfl (lv_at hl 0 rfl) ?_
    refine zj_getR (pc' := 32) hC hk_v0 fd_7_41 rfl tw_4_89 dX7_otherThan_29 rfl (fun q33 hk_q33 => ?_)
    refine zj_bipush (pc' := 34) (v := (24 : Int32)) hC dX7_otherThan_32 rfl rfl ?_
    refine zj_iload_n (pc' := 35) hC dX7_otherThan_34 rfl rfl (lv_at hl 3 rfl) ?_
    refine zj_imul (pc' := 36) hC dX7_otherThan_35 rfl ?_
    refine zj_iload (pc' := 38) hC dX7_otherThan_36 rfl (lv_at hl 4 rfl) ?_
    refine zj_iadd (pc' := 39) hC dX7_otherThan_38 rfl ?_
    refine zj_iald (pc' := 40) hC hk_q33 dX7_otherThan_39 rfl (fun g34 => ?_)
    refine zj_iast (pc' := 41) hC hk_q32 dX7_otherThan_40 rfl (fun g35 σ36 => ?_)
    refine zj_aload_n (pc' := 42) hC dX7_otherThan_41 rfl rfl (lv_at hl 0 rfl) ?_
    refine zj_getR (pc' := 45) hC hk_v0 fd_7_51 rfl tw_4_99 dX7_otherThan_42 rfl (fun q37 hk_q37 => ?_)
    refine zj_iload (pc' := 47) hC dX7_otherThan_45 rfl (lv_at hl 4 rfl) ?_
    refine zj_aload_n (pc' := 48) hC dX7_otherThan_47 rfl rfl (lv_at hl 0 rfl) ?_
    refine zj_getR (pc' := 51) hC hk_v0 fd_7_42 rfl tw_4_90 dX7_otherThan_48 rfl (fun q38 hk_q38 => ?_)
    refine zj_bipush (pc' := 53) (v := (24 : Int32)) hC dX7_otherThan_51 rfl rfl ?_
    refine zj_iload_n (pc' := 54) hC dX7_otherThan_53 rfl rfl (lv_at hl 3 rfl) ?_
    refine zj_imul (pc' := 55) hC dX7_otherThan_54 rfl ?_
    refine zj_iload (pc' := 57) hC dX7_otherThan_55 rfl (lv_at hl 4 rfl) ?_
    refine zj_iadd (pc' := 58) hC dX7_otherThan_57 rfl ?_
    refine zj_iald (pc' := 59) hC hk_q38 dX7_otherThan_58 rfl (fun g39 => ?_)
    refine zj_iast (pc' := 60) hC hk_q37 dX7_otherThan_59 rfl (fun g40 σ41 => ?_)
    refine zj_aload_n (pc' := 61) hC dX7_otherThan_60 rfl rfl (lv_at hl 0 rfl) ?_
    refine zj_getR (pc' := 64) hC hk_v0 fd_7_52 rfl tw_4_100 dX7_otherThan_61 rfl (fun q42 hk_q42 => ?_)
    refine zj_iload (pc' := 66) hC dX7_otherThan_64 rfl (lv_at hl 4 rfl) ?_
    refine zj_aload_n (pc' := 67) hC dX7_otherThan_66 rfl rfl (lv_at hl 0 rfl) ?_
    refine zj_getR (pc' := 70) hC hk_v0 fd_7_43 rfl tw_4_91 dX7_otherThan_67 rfl (fun q43 hk_q43 => ?_)
    refine zj_bipush (pc' := 72) (v := (24 : Int32)) hC dX7_otherThan_70 rfl rfl ?_
    refine zj_iload_n (pc' := 73) hC dX7_otherThan_72 rfl rfl (lv_at hl 3 rfl) ?_
    refine zj_imul (pc' := 74) hC dX7_otherThan_73 rfl ?_
    refine zj_iload (pc' := 76) hC dX7_otherThan_74 rfl (lv_at hl 4 rfl) ?_
    refine zj_iadd (pc' := 77) hC dX7_otherThan_76 rfl ?_
    refine zj_iald (pc' := 78) hC hk_q43 dX7_otherThan_77 rfl (fun g44 => ?_)
    refine zj_iast (pc' := 79) hC hk_q42 dX7_otherThan_78 rfl (fun g45 σ46 => ?_)
    refine zj_iinc (pc' := 82) (k0 := 4) (v := (v4 + (1 : Int32))) (lv' := [(4, .int (v4 + (1 : Int32))), (0, .ref (b0 + v0)), (1, .int v1), (2, .int v2), (3, .int v3)]) hC dX7_otherThan_79 rfl hl rfl rfl (by decide) rfl (fun ls hl => ?_)
    refine zj_goto (tgt := 15) hC dX7_otherThan_82 (by decide) ?_
    exact h15 v0 v1 v2 v3 ((v4 + (1 : Int32))) σ46 ls hk_v0 (lv_sub hl [1, 2, 3, 4, 0] rfl)
set_option maxRecDepth 100000 in
set_option maxHeartbeats 4000000 in
theorem lX7_otherThan_15 {p : Program} {l : Launch} {e : Env} {s : State} {m : MethodId} {args : Array Value} {below : List Frame} {meth : Method} {c : Code} {b0 : Nat} {cA : Nat → ClassId} {D : va_G} {L : List (Nat × Nat)} (hC : zC p c s m args meth cX7_otherThan 6 (some Jvm.ClassFile.FieldType.int) (Cond.code yX7_otherThan cX7_otherThan 6 (some Jvm.ClassFile.FieldType.int)) yX7_otherThan.cls cA D) (k4 : Nat → Int32 → Int32 → Int32 → zS → Option (Int32 × zS)) (h4 : ∀ (v0 : Nat) (v1 : Int32) (v2 : Int32) (v3 : Int32) (σ : zS) (ls : Array Slot), L[v0]? = some (0, 7) → lv_has ls 6 [(0, .ref (b0 + v0)), (1, .int v1), (2, .int v2), (3, .int v3)] → zJ p l e rmX7_otherThan s m args below meth c b0 cA D L (fun z => MQ below (va_Qi (fun (r : Int32) (u : zS) => (r, u) = z) (zB b0 cA D L) (zA b0 L)) args s 0 0 (zA b0 L)) (k4 v0 v1 v2 v3 σ) σ 4 ls []) (n : Nat) : ∀ (v0 : Nat) (v1 : Int32) (v2 : Int32) (v3 : Int32) (v4 : Int32) (σ : zS) (ls : Array Slot), L[v0]? = some (0, 7) → lv_has ls 6 [(0, .ref (b0 + v0)), (1, .int v1), (2, .int v2), (3, .int v3), (4, .int v4)] → zJ p l e rmX7_otherThan s m args below meth c b0 cA D L (fun z => MQ below (va_Qi (fun (r : Int32) (u : zS) => (r, u) = z) (zB b0 cA D L) (zA b0 L)) args s 0 0 (zA b0 L)) (fX7_otherThan_15 k4 n v0 v1 v2 v3 v4 σ) σ 15 ls [] := by
  induction n with
  | zero => intros; exact zj_none
  | succ n ih => exact jX7_otherThan_15 hC k4 h4 (fX7_otherThan_15 k4 n) ih
set_option maxRecDepth 100000 in
set_option maxHeartbeats 4000000 in
theorem jX7_otherThan_4 {p : Program} {l : Launch} {e : Env} {s : State} {m : MethodId} {args : Array Value} {below : List Frame} {meth : Method} {c : Code} {b0 : Nat} {cA : Nat → ClassId} {D : va_G} {L : List (Nat × Nat)} (hC : zC p c s m args meth cX7_otherThan 6 (some Jvm.ClassFile.FieldType.int) (Cond.code yX7_otherThan cX7_otherThan 6 (some Jvm.ClassFile.FieldType.int)) yX7_otherThan.cls cA D) (k4 : Nat → Int32 → Int32 → Int32 → zS → Option (Int32 × zS)) (h4 : ∀ (v0 : Nat) (v1 : Int32) (v2 : Int32) (v3 : Int32) (σ : zS) (ls : Array Slot), L[v0]? = some (0, 7) → lv_has ls 6 [(0, .ref (b0 + v0)), (1, .int v1), (2, .int v2), (3, .int v3)] → zJ p l e rmX7_otherThan s m args below meth c b0 cA D L (fun z => MQ below (va_Qi (fun (r : Int32) (u : zS) => (r, u) = z) (zB b0 cA D L) (zA b0 L)) args s 0 0 (zA b0 L)) (k4 v0 v1 v2 v3 σ) σ 4 ls []) (v0 : Nat) (v1 : Int32) (v2 : Int32) (v3 : Int32) (σ : zS) (ls : Array Slot) (hk_v0 : L[v0]? = some (0, 7)) (hl : lv_has ls 6 [(0, .ref (b0 + v0)), (1, .int v1), (2, .int v2), (3, .int v3)]) : zJ p l e rmX7_otherThan s m args below meth c b0 cA D L (fun z => MQ below (va_Qi (fun (r : Int32) (u : zS) => (r, u) = z) (zB b0 cA D L) (zA b0 L)) args s 0 0 (zA b0 L)) (bX7_otherThan_4 k4 v0 v1 v2 v3 σ) σ 4 ls [] := by
  unfold bX7_otherThan_4
  refine zj_iload_n (pc' := 5) hC dX7_otherThan_4 rfl rfl (lv_at hl 3 rfl) ?_
  refine zj_aload_n (pc' := 6) hC dX7_otherThan_5 rfl rfl (lv_at hl 0 rfl) ?_
  refine zj_getI (pc' := 9) hC hk_v0 fd_7_39 rfl tw_4_87 dX7_otherThan_6 rfl ?_
  refine zj_icmp_ge (tgt := 235) (pc' := 12) hC dX7_otherThan_9 (by decide) rfl (fun c47 => ?_) (fun c47 => ?_)
  · refine zj_iload_n (pc' := 236) hC dX7_otherThan_235 rfl rfl (lv_at hl 2 rfl) ?_
    exact zj_iret hC dX7_otherThan_236
  · refine zj_iconst (pc' := 13) (v := (0 : Int32)) hC dX7_otherThan_12 rfl rfl ?_
    refine zj_istore (pc' := 15) (lv' := [(4, .int (0 : Int32)), (0, .ref (b0 + v0)), (1, .int v1), (2, .int v2), (3, .int v3)]) hC dX7_otherThan_13 rfl hl (by decide) rfl (fun ls hl => ?_)
    exact lX7_otherThan_15 hC k4 h4 zFU v0 v1 v2 v3 (0 : Int32) σ ls hk_v0 (lv_sub hl [1, 2, 3, 4, 0] rfl)
set_option maxRecDepth 100000 in
set_option maxHeartbeats 4000000 in
theorem lX7_otherThan_4 {p : Program} {l : Launch} {e : Env} {s : State} {m : MethodId} {args : Array Value} {below : List Frame} {meth : Method} {c : Code} {b0 : Nat} {cA : Nat → ClassId} {D : va_G} {L : List (Nat × Nat)} (hC : zC p c s m args meth cX7_otherThan 6 (some Jvm.ClassFile.FieldType.int) (Cond.code yX7_otherThan cX7_otherThan 6 (some Jvm.ClassFile.FieldType.int)) yX7_otherThan.cls cA D)  (n : Nat) : ∀ (v0 : Nat) (v1 : Int32) (v2 : Int32) (v3 : Int32) (σ : zS) (ls : Array Slot), L[v0]? = some (0, 7) → lv_has ls 6 [(0, .ref (b0 + v0)), (1, .int v1), (2, .int v2), (3, .int v3)] → zJ p l e rmX7_otherThan s m args below meth c b0 cA D L (fun z => MQ below (va_Qi (fun (r : Int32) (u : zS) => (r, u) = z) (zB b0 cA D L) (zA b0 L)) args s 0 0 (zA b0 L)) (fX7_otherThan_4  n v0 v1 v2 v3 σ) σ 4 ls [] := by
  induction n with
  | zero => intros; exact zj_none
  | succ n ih => exact jX7_otherThan_4 hC (fX7_otherThan_4  n) ih
set_option maxRecDepth 100000 in
set_option maxHeartbeats 4000000 in
theorem kX7_otherThan (l : Launch) (b0 : Nat) (cA : Nat → ClassId) (D : va_G) (L : List (Nat × Nat)) (v0 : Nat) (v1 : Int32) (σ : zS) (hk0 : L[v0]? = some (0, 7)) : zMi l b0 cA D L yX7_otherThan (Cond.code yX7_otherThan cX7_otherThan 6 (some Jvm.ClassFile.FieldType.int)) rmX7_otherThan [.ref (b0 + v0), .int v1] σ (fX7_otherThan v0 v1 σ) := by
  refine zMi_of (by decide) (Nat.le_of_ble_eq_true rfl) ?_
  intro p e s m below meth c ls hC hl
  have hl : lv_has ls 6 [(0, .ref (b0 + v0)), (1, .int v1)] := hl
  generalize ([.ref (b0 + v0), .int v1] : List Value).toArray = args at hC ⊢
  unfold fX7_otherThan
  refine zj_iconst (pc' := 1) (v := (0 : Int32)) hC dX7_otherThan_0 rfl rfl ?_
  refine zj_istore_n (pc' := 2) (lv' := [(2, .int (0 : Int32)), (0, .ref (b0 + v0)), (1, .int v1)]) hC dX7_otherThan_1 rfl rfl hl (by decide) rfl (fun ls hl => ?_)
  refine zj_iconst (pc' := 3) (v := (0 : Int32)) hC dX7_otherThan_2 rfl rfl ?_
  refine zj_istore_n (pc' := 4) (lv' := [(3, .int (0 : Int32)), (2, .int (0 : Int32)), (0, .ref (b0 + v0)), (1, .int v1)]) hC dX7_otherThan_3 rfl rfl hl (by decide) rfl (fun ls hl => ?_)
  exact lX7_otherThan_4 hC zFU v0 v1 (0 : Int32) (0 : Int32) σ ls hk0 (lv_sub hl [2, 3, 1, 0] rfl)
-- X7_otherwise
theorem ddX7_otherwise : yX7_otherwise.cls ≠ "java/lang/invoke/MethodHandle" ∧ yX7_otherwise.cls ≠ "java/lang/invoke/VarHandle" ∧ (parseMethodDescriptor yX7_otherwise.desc).map (fun d => d.parameters.length) = some 1 := by decide +kernel
abbrev rmX7_otherwise : Room := { frames := 4, cells := 0, slots := 0, locals := 95 }
def fX7_otherwise (v0 : Nat) (v1 : Int32) (σ : zS) : Option (Int32 × zS) :=
  zb (fX7_isSeat v1 σ) (fun (r2 : Int32) (σ1 : zS) => if r2 = 0 then (some ((-1 : Int32), σ1)) else (zb (fX7_isTaken v0 v1 σ1) (fun (r5 : Int32) (σ4 : zS) => if r5 = 0 then (some ((-1 : Int32), σ4)) else (zb (fX7_otherThan v0 v1 σ4) (fun (r8 : Int32) (σ7 : zS) => some (r8, σ7))))))
set_option maxRecDepth 100000 in
set_option maxHeartbeats 4000000 in
theorem kX7_otherwise (l : Launch) (b0 : Nat) (cA : Nat → ClassId) (D : va_G) (L : List (Nat × Nat)) (v0 : Nat) (v1 : Int32) (σ : zS) (hk0 : L[v0]? = some (0, 7)) : zMi l b0 cA D L yX7_otherwise (Cond.code yX7_otherwise cX7_otherwise 2 (some Jvm.ClassFile.FieldType.int)) rmX7_otherwise [.ref (b0 + v0), .int v1] σ (fX7_otherwise v0 v1 σ) := by
  refine zMi_of (by decide) (Nat.le_of_ble_eq_true rfl) ?_
  intro p e s m below meth c ls hC hl
  have hl : lv_has ls 2 [(0, .ref (b0 + v0)), (1, .int v1)] := hl
  generalize ([.ref (b0 + v0), .int v1] : List Value).toArray = args at hC ⊢
  unfold fX7_otherwise
  refine zj_iload_n (pc' := 1) hC dX7_otherwise_0 rfl rfl (lv_at hl 1 rfl) ?_
  refine zj_callzS (pc' := 4) (rest := []) hC (kX7_isSeat l b0 cA D L v1 σ ) tw_4_229 tw_4_227 tw_4_228 tw_1_8 ddX7_isSeat rfl ⟨rfl, rfl⟩ ⟨by decide, by decide⟩ hl.1 (Nat.le_of_ble_eq_true rfl) rfl dX7_otherwise_1 rfl (fun r2 σ1 hb_r2 => ?_)
  refine zj_if_eq (tgt := 23) (pc' := 7) hC dX7_otherwise_4 (by decide) rfl (fun c3 => ?_) (fun c3 => ?_)
  · refine zj_iconst (pc' := 24) (v := (-1 : Int32)) hC dX7_otherwise_23 rfl rfl ?_
    exact zj_iret hC dX7_otherwise_24
  · refine zj_aload_n (pc' := 8) hC dX7_otherwise_7 rfl rfl (lv_at hl 0 rfl) ?_
    refine zj_iload_n (pc' := 9) hC dX7_otherwise_8 rfl rfl (lv_at hl 1 rfl) ?_
    refine zj_callzV (pc' := 12) (rest := []) hC (kX7_isTaken l b0 cA D L v0 v1 σ1 hk0) hk0 rfl tw_4_222 tw_4_219 tw_4_221 ts_3_4 tw_1_8 ddX7_isTaken rfl ⟨rfl, rfl⟩ ⟨by decide, by decide⟩ hl.1 (Nat.le_of_ble_eq_true rfl) rfl dX7_otherwise_9 rfl (fun r5 σ4 hb_r5 => ?_)
    refine zj_if_eq (tgt := 23) (pc' := 15) hC dX7_otherwise_12 (by decide) rfl (fun c6 => ?_) (fun c6 => ?_)
    · refine zj_iconst (pc' := 24) (v := (-1 : Int32)) hC dX7_otherwise_23 rfl rfl ?_
      exact zj_iret hC dX7_otherwise_24
    · refine zj_aload_n (pc' := 16) hC dX7_otherwise_15 rfl rfl (lv_at hl 0 rfl) ?_
      refine zj_iload_n (pc' := 17) hC dX7_otherwise_16 rfl rfl (lv_at hl 1 rfl) ?_
      refine zj_calliV (pc' := 20) (rest := []) hC (kX7_otherThan l b0 cA D L v0 v1 σ4 hk0) hk0 rfl tw_5_237 tw_5_234 tw_5_236 ts_5_8 tw_1_8 ddX7_otherThan rfl ⟨rfl, rfl⟩ ⟨by decide, by decide⟩ hl.1 (Nat.le_of_ble_eq_true rfl) rfl dX7_otherwise_17 rfl (fun r8 σ7 => ?_)
      refine zj_goto (tgt := 24) hC dX7_otherwise_20 (by decide) ?_
      exact zj_iret hC dX7_otherwise_24
-- X7_suspects
theorem ddX7_suspects : yX7_suspects.cls ≠ "java/lang/invoke/MethodHandle" ∧ yX7_suspects.cls ≠ "java/lang/invoke/VarHandle" ∧ (parseMethodDescriptor yX7_suspects.desc).map (fun d => d.parameters.length) = some 1 := by decide +kernel
abbrev rmX7_suspects : Room := { frames := 4, cells := 0, slots := 0, locals := 95 }
def bX7_suspects_49 (k17 : Nat → Int32 → Int32 → Int32 → zS → Option (Int32 × zS)) (v0 : Nat) (v1 : Int32) (v3 : Int32) (s0 : Int32) (σ : zS) : Option (Int32 × zS) :=
  k17 v0 v1 s0 ((v3 + (1 : Int32))) σ
def bX7_suspects_48 (k49 : Nat → Int32 → Int32 → Int32 → zS → Option (Int32 × zS)) (v0 : Nat) (v1 : Int32) (v2 : Int32) (v3 : Int32) (σ : zS) : Option (Int32 × zS) :=
  k49 v0 v1 v3 v2 σ
def bX7_suspects_17 (k17 : Nat → Int32 → Int32 → Int32 → zS → Option (Int32 × zS)) (v0 : Nat) (v1 : Int32) (v2 : Int32) (v3 : Int32) (σ : zS) : Option (Int32 × zS) :=
  if (24 : Int32) ≤ v3 then (some (v2, σ)) else (zb (fX7_isTaken v0 v3 σ) (fun (r3 : Int32) (σ2 : zS) => if r3 = 0 then (bX7_suspects_48 (bX7_suspects_49 k17) v0 v1 v2 v3 σ2) else (zb (fX7_otherThan v0 v3 σ2) (fun (r6 : Int32) (σ5 : zS) => if r6 < v1 then (bX7_suspects_48 (bX7_suspects_49 k17) v0 v1 v2 v3 σ5) else (bX7_suspects_49 k17 v0 v1 v3 ((v2 ||| ((1 : Int32) <<< (v3 &&& 31)))) σ5)))))
def fX7_suspects_17  : Nat → Nat → Int32 → Int32 → Int32 → zS → Option (Int32 × zS)
  | 0, _, _, _, _, _ => none
  | n + 1, v0, v1, v2, v3, σ => bX7_suspects_17 (fX7_suspects_17  n) v0 v1 v2 v3 σ
def fX7_suspects (v0 : Nat) (v1 : Int32) (σ : zS) : Option (Int32 × zS) :=
  zb (fX7_in v1 (1 : Int32) (800 : Int32) σ) (fun (r9 : Int32) (σ8 : zS) => if r9 = 0 then (some ((-1 : Int32), σ8)) else (fX7_suspects_17 zFU v0 v1 (0 : Int32) (0 : Int32) σ8))
set_option maxRecDepth 100000 in
set_option maxHeartbeats 4000000 in
theorem jX7_suspects_49 {p : Program} {l : Launch} {e : Env} {s : State} {m : MethodId} {args : Array Value} {below : List Frame} {meth : Method} {c : Code} {b0 : Nat} {cA : Nat → ClassId} {D : va_G} {L : List (Nat × Nat)} (hC : zC p c s m args meth cX7_suspects 4 (some Jvm.ClassFile.FieldType.int) (Cond.code yX7_suspects cX7_suspects 4 (some Jvm.ClassFile.FieldType.int)) yX7_suspects.cls cA D) (k17 : Nat → Int32 → Int32 → Int32 → zS → Option (Int32 × zS)) (h17 : ∀ (v0 : Nat) (v1 : Int32) (v2 : Int32) (v3 : Int32) (σ : zS) (ls : Array Slot), L[v0]? = some (0, 7) → lv_has ls 4 [(0, .ref (b0 + v0)), (1, .int v1), (2, .int v2), (3, .int v3)] → zJ p l e rmX7_suspects s m args below meth c b0 cA D L (fun z => MQ below (va_Qi (fun (r : Int32) (u : zS) => (r, u) = z) (zB b0 cA D L) (zA b0 L)) args s 0 0 (zA b0 L)) (k17 v0 v1 v2 v3 σ) σ 17 ls []) (v0 : Nat) (v1 : Int32) (v3 : Int32) (s0 : Int32) (σ : zS) (ls : Array Slot) (hk_v0 : L[v0]? = some (0, 7)) (hl : lv_has ls 4 [(0, .ref (b0 + v0)), (1, .int v1), (3, .int v3)]) : zJ p l e rmX7_suspects s m args below meth c b0 cA D L (fun z => MQ below (va_Qi (fun (r : Int32) (u : zS) => (r, u) = z) (zB b0 cA D L) (zA b0 L)) args s 0 0 (zA b0 L)) (bX7_suspects_49 k17 v0 v1 v3 s0 σ) σ 49 ls [.int s0] := by
  unfold bX7_suspects_49
  refine zj_istore_n (pc' := 50) (lv' := [(2, .int s0), (0, .ref (b0 + v0)), (1, .int v1), (3, .int v3)]) hC dX7_suspects_49 rfl rfl hl (by decide) rfl (fun ls hl => ?_)
  refine zj_iinc (pc' := 53) (k0 := 3) (v := (v3 + (1 : Int32))) (lv' := [(3, .int (v3 + (1 : Int32))), (2, .int s0), (0, .ref (b0 + v0)), (1, .int v1)]) hC dX7_suspects_50 rfl hl rfl rfl (by decide) rfl (fun ls hl => ?_)
  refine zj_goto (tgt := 17) hC dX7_suspects_53 (by decide) ?_
  exact h17 v0 v1 s0 ((v3 + (1 : Int32))) σ ls hk_v0 (lv_sub hl [2, 3, 1, 0] rfl)
set_option maxRecDepth 100000 in
set_option maxHeartbeats 4000000 in
theorem jX7_suspects_48 {p : Program} {l : Launch} {e : Env} {s : State} {m : MethodId} {args : Array Value} {below : List Frame} {meth : Method} {c : Code} {b0 : Nat} {cA : Nat → ClassId} {D : va_G} {L : List (Nat × Nat)} (hC : zC p c s m args meth cX7_suspects 4 (some Jvm.ClassFile.FieldType.int) (Cond.code yX7_suspects cX7_suspects 4 (some Jvm.ClassFile.FieldType.int)) yX7_suspects.cls cA D) (k49 : Nat → Int32 → Int32 → Int32 → zS → Option (Int32 × zS)) (h49 : ∀ (v0 : Nat) (v1 : Int32) (v3 : Int32) (s0 : Int32) (σ : zS) (ls : Array Slot), L[v0]? = some (0, 7) → lv_has ls 4 [(0, .ref (b0 + v0)), (1, .int v1), (3, .int v3)] → zJ p l e rmX7_suspects s m args below meth c b0 cA D L (fun z => MQ below (va_Qi (fun (r : Int32) (u : zS) => (r, u) = z) (zB b0 cA D L) (zA b0 L)) args s 0 0 (zA b0 L)) (k49 v0 v1 v3 s0 σ) σ 49 ls [.int s0]) (v0 : Nat) (v1 : Int32) (v2 : Int32) (v3 : Int32) (σ : zS) (ls : Array Slot) (hk_v0 : L[v0]? = some (0, 7)) (hl : lv_has ls 4 [(0, .ref (b0 + v0)), (1, .int v1), (2, .int v2), (3, .int v3)]) : zJ p l e rmX7_suspects s m args below meth c b0 cA D L (fun z => MQ below (va_Qi (fun (r : Int32) (u : zS) => (r, u) = z) (zB b0 cA D L) (zA b0 L)) args s 0 0 (zA b0 L)) (bX7_suspects_48 k49 v0 v1 v2 v3 σ) σ 48 ls [] := by
  unfold bX7_suspects_48
  refine zj_iload_n (pc' := 49) hC dX7_suspects_48 rfl rfl (lv_at hl 2 rfl) ?_
  exact h49 v0 v1 v3 v2 σ ls hk_v0 (lv_sub hl [0, 1, 3] rfl)
set_option maxRecDepth 100000 in
set_option maxHeartbeats 4000000 in
theorem jX7_suspects_17 {p : Program} {l : Launch} {e : Env} {s : State} {m : MethodId} {args : Array Value} {below : List Frame} {meth : Method} {c : Code} {b0 : Nat} {cA : Nat → ClassId} {D : va_G} {L : List (Nat × Nat)} (hC : zC p c s m args meth cX7_suspects 4 (some Jvm.ClassFile.FieldType.int) (Cond.code yX7_suspects cX7_suspects 4 (some Jvm.ClassFile.FieldType.int)) yX7_suspects.cls cA D) (k17 : Nat → Int32 → Int32 → Int32 → zS → Option (Int32 × zS)) (h17 : ∀ (v0 : Nat) (v1 : Int32) (v2 : Int32) (v3 : Int32) (σ : zS) (ls : Array Slot), L[v0]? = some (0, 7) → lv_has ls 4 [(0, .ref (b0 + v0)), (1, .int v1), (2, .int v2), (3, .int v3)] → zJ p l e rmX7_suspects s m args below meth c b0 cA D L (fun z => MQ below (va_Qi (fun (r : Int32) (u : zS) => (r, u) = z) (zB b0 cA D L) (zA b0 L)) args s 0 0 (zA b0 L)) (k17 v0 v1 v2 v3 σ) σ 17 ls []) (v0 : Nat) (v1 : Int32) (v2 : Int32) (v3 : Int32) (σ : zS) (ls : Array Slot) (hk_v0 : L[v0]? = some (0, 7)) (hl : lv_has ls 4 [(0, .ref (b0 + v0)), (1, .int v1), (2, .int v2), (3, .int v3)]) : zJ p l e rmX7_suspects s m args below meth c b0 cA D L (fun z => MQ below (va_Qi (fun (r : Int32) (u : zS) => (r, u) = z) (zB b0 cA D L) (zA b0 L)) args s 0 0 (zA b0 L)) (bX7_suspects_17 k17 v0 v1 v2 v3 σ) σ 17 ls [] := by
  unfold bX7_suspects_17
  refine zj_iload_n (pc' := 18) hC dX7_suspects_17 rfl rfl (lv_at hl 3 rfl) ?_
  refine zj_bipush (pc' := 20) (v := (24 : Int32)) hC dX7_suspects_18 rfl rfl ?_
  refine zj_icmp_ge (tgt := 56) (pc' := 23) hC dX7_suspects_20 (by decide) rfl (fun c1 => ?_) (fun c1 => ?_)
  · refine zj_iload_n (pc' := 57) hC dX7_suspects_56 rfl rfl (lv_at hl 2 rfl) ?_
    exact zj_iret hC dX7_suspects_57
  · refine zj_aload_n (pc' := 24) hC dX7_suspects_23 rfl rfl (lv_at hl 0 rfl) ?_
    refine zj_iload_n (pc' := 25) hC dX7_suspects_24 rfl rfl (lv_at hl 3 rfl) ?_
    refine zj_callzV (pc' := 28) (rest := []) hC (kX7_isTaken l b0 cA D L v0 v3 σ hk_v0) hk_v0 rfl tw_4_222 tw_4_219 tw_4_221 ts_3_4 tw_1_8 ddX7_isTaken rfl ⟨rfl, rfl⟩ ⟨by decide, by decide⟩ hl.1 (Nat.le_of_ble_eq_true rfl) rfl dX7_suspects_25 rfl (fun r3 σ2 hb_r3 => ?_)
    refine zj_if_eq (tgt := 48) (pc' := 31) hC dX7_suspects_28 (by decide) rfl (fun c4 => ?_) (fun c4 => ?_)
    · exact jX7_suspects_48 hC (bX7_suspects_49 k17) (jX7_suspects_49 hC k17 h17) v0 v1 v2 v3 σ2 ls hk_v0 (lv_sub hl [0, 1, 2, 3] rfl)
    · refine zj_aload_n (pc' := 32) hC dX7_suspects_31 rfl rfl (lv_at hl 0 rfl) ?_
      refine zj_iload_n (pc' := 33) hC dX7_suspects_32 rfl rfl (lv_at hl 3 rfl) ?_
      refine zj_calliV (pc' := 36) (rest := []) hC (kX7_otherThan l b0 cA D L v0 v3 σ2 hk_v0) hk_v0 rfl tw_5_237 tw_5_234 tw_5_236 ts_5_8 tw_1_8 ddX7_otherThan rfl ⟨rfl, rfl⟩ ⟨by decide, by decide⟩ hl.1 (Nat.le_of_ble_eq_true rfl) rfl dX7_suspects_33 rfl (fun r6 σ5 => ?_)
      refine zj_iload_n (pc' := 37) hC dX7_suspects_36 rfl rfl (lv_at hl 1 rfl) ?_
      refine zj_icmp_lt (tgt := 48) (pc' := 40) hC dX7_suspects_37 (by decide) rfl (fun c7 => ?_) (fun c7 => ?_)
      · exact jX7_suspects_48 hC (bX7_suspects_49 k17) (jX7_suspects_49 hC k17 h17) v0 v1 v2 v3 σ5 ls hk_v0 (lv_sub hl [0, 1, 2, 3] rfl)
      · refine zj_iload_n (pc' := 41) hC dX7_suspects_40 rfl rfl (lv_at hl 2 rfl) ?_
        refine zj_iconst (pc' := 42) (v := (1 : Int32)) hC dX7_suspects_41 rfl rfl ?_
        refine zj_iload_n (pc' := 43) hC dX7_suspects_42 rfl rfl (lv_at hl 3 rfl) ?_
        refine zj_ishl (pc' := 44) hC dX7_suspects_43 rfl ?_
        refine zj_ior (pc' := 45) hC dX7_suspects_44 rfl ?_
        refine zj_goto (tgt := 49) hC dX7_suspects_45 (by decide) ?_
        exact jX7_suspects_49 hC k17 h17 v0 v1 v3 ((v2 ||| ((1 : Int32) <<< (v3 &&& 31)))) σ5 ls hk_v0 (lv_sub hl [0, 1, 3] rfl)
set_option maxRecDepth 100000 in
set_option maxHeartbeats 4000000 in
theorem lX7_suspects_17 {p : Program} {l : Launch} {e : Env} {s : State} {m : MethodId} {args : Array Value} {below : List Frame} {meth : Method} {c : Code} {b0 : Nat} {cA : Nat → ClassId} {D : va_G} {L : List (Nat × Nat)} (hC : zC p c s m args meth cX7_suspects 4 (some Jvm.ClassFile.FieldType.int) (Cond.code yX7_suspects cX7_suspects 4 (some Jvm.ClassFile.FieldType.int)) yX7_suspects.cls cA D)  (n : Nat) : ∀ (v0 : Nat) (v1 : Int32) (v2 : Int32) (v3 : Int32) (σ : zS) (ls : Array Slot), L[v0]? = some (0, 7) → lv_has ls 4 [(0, .ref (b0 + v0)), (1, .int v1), (2, .int v2), (3, .int v3)] → zJ p l e rmX7_suspects s m args below meth c b0 cA D L (fun z => MQ below (va_Qi (fun (r : Int32) (u : zS) => (r, u) = z) (zB b0 cA D L) (zA b0 L)) args s 0 0 (zA b0 L)) (fX7_suspects_17  n v0 v1 v2 v3 σ) σ 17 ls [] := by
  induction n with
  | zero => intros; exact zj_none
  | succ n ih => exact jX7_suspects_17 hC (fX7_suspects_17  n) ih
set_option maxRecDepth 100000 in
set_option maxHeartbeats 4000000 in
theorem kX7_suspects (l : Launch) (b0 : Nat) (cA : Nat → ClassId) (D : va_G) (L : List (Nat × Nat)) (v0 : Nat) (v1 : Int32) (σ : zS) (hk0 : L[v0]? = some (0, 7)) : zMi l b0 cA D L yX7_suspects (Cond.code yX7_suspects cX7_suspects 4 (some Jvm.ClassFile.FieldType.int)) rmX7_suspects [.ref (b0 + v0), .int v1] σ (fX7_suspects v0 v1 σ) := by
  refine zMi_of (by decide) (Nat.le_of_ble_eq_true rfl) ?_
  intro p e s m below meth c ls hC hl
  have hl : lv_has ls 4 [(0, .ref (b0 + v0)), (1, .int v1)] := hl
  generalize ([.ref (b0 + v0), .int v1] : List Value).toArray = args at hC ⊢
  unfold fX7_suspects
  refine zj_iload_n (pc' := 1) hC dX7_suspects_0 rfl rfl (lv_at hl 1 rfl) ?_
  refine zj_iconst (pc' := 2) (v := (1 : Int32)) hC dX7_suspects_1 rfl rfl ?_
  refine zj_sipush (pc' := 5) (v := (800 : Int32)) hC dX7_suspects_2 rfl rfl ?_
  refine zj_callzS (pc' := 8) (rest := []) hC (kX7_in l b0 cA D L v1 (1 : Int32) (800 : Int32) σ ) tw_4_214 tw_4_212 tw_4_213 tw_1_8 ddX7_in rfl ⟨rfl, rfl⟩ ⟨by decide, by decide⟩ hl.1 (Nat.le_of_ble_eq_true rfl) rfl dX7_suspects_5 rfl (fun r9 σ8 hb_r9 => ?_)
  refine zj_if_ne (tgt := 13) (pc' := 11) hC dX7_suspects_8 (by decide) rfl (fun c10 => ?_) (fun c10 => ?_)
  · refine zj_iconst (pc' := 14) (v := (0 : Int32)) hC dX7_suspects_13 rfl rfl ?_
    refine zj_istore_n (pc' := 15) (lv' := [(2, .int (0 : Int32)), (0, .ref (b0 + v0)), (1, .int v1)]) hC dX7_suspects_14 rfl rfl hl (by decide) rfl (fun ls hl => ?_)
    refine zj_iconst (pc' := 16) (v := (0 : Int32)) hC dX7_suspects_15 rfl rfl ?_
    refine zj_istore_n (pc' := 17) (lv' := [(3, .int (0 : Int32)), (2, .int (0 : Int32)), (0, .ref (b0 + v0)), (1, .int v1)]) hC dX7_suspects_16 rfl rfl hl (by decide) rfl (fun ls hl => ?_)
    exact lX7_suspects_17 hC zFU v0 v1 (0 : Int32) (0 : Int32) σ8 ls hk0 (lv_sub hl [2, 3, 1, 0] rfl)
  · refine zj_iconst (pc' := 12) (v := (-1 : Int32)) hC dX7_suspects_11 rfl rfl ?_
    exact zj_iret hC dX7_suspects_12
-- X7_choose
theorem ddX7_choose : yX7_choose.cls ≠ "java/lang/invoke/MethodHandle" ∧ yX7_choose.cls ≠ "java/lang/invoke/VarHandle" ∧ (parseMethodDescriptor yX7_choose.desc).map (fun d => d.parameters.length) = some 2 := by decide +kernel
abbrev rmX7_choose : Room := { frames := 0, cells := 0, slots := 0, locals := 0 }
def bX7_choose_16 (k16 : Int32 → Int32 → Int64 → Int32 → zS → Option (Int64 × zS)) (v0 : Int32) (v1 : Int32) (v2 : Int64) (v4 : Int32) (σ : zS) : Option (Int64 × zS) :=
  if v1 < v4 then (some (v2, σ)) else (zVL ((v4).toInt64) (bnd (((v2 * ((((v0 - v1) + v4)).toInt64)) / ((v4).toInt64))) (fun (x3 : Int64) => k16 v0 v1 x3 ((v4 + (1 : Int32))) σ)))
def fX7_choose_16  : Nat → Int32 → Int32 → Int64 → Int32 → zS → Option (Int64 × zS)
  | 0, _, _, _, _, _ => none
  | n + 1, v0, v1, v2, v4, σ => bX7_choose_16 (fX7_choose_16  n) v0 v1 v2 v4 σ
def fX7_choose (v0 : Int32) (v1 : Int32) (σ : zS) : Option (Int64 × zS) :=
  if v1 < 0 then (some ((0 : Int64), σ)) else (if v1 ≤ v0 then (fX7_choose_16 zFU v0 v1 (1 : Int64) (1 : Int32) σ) else (some ((0 : Int64), σ)))
set_option maxRecDepth 100000 in
set_option maxHeartbeats 4000000 in
theorem jX7_choose_16 {p : Program} {l : Launch} {e : Env} {s : State} {m : MethodId} {args : Array Value} {below : List Frame} {meth : Method} {c : Code} {b0 : Nat} {cA : Nat → ClassId} {D : va_G} {L : List (Nat × Nat)} (hC : zC p c s m args meth cX7_choose 5 (some Jvm.ClassFile.FieldType.long) (Cond.code yX7_choose cX7_choose 5 (some Jvm.ClassFile.FieldType.long)) yX7_choose.cls cA D) (k16 : Int32 → Int32 → Int64 → Int32 → zS → Option (Int64 × zS)) (h16 : ∀ (v0 : Int32) (v1 : Int32) (v2 : Int64) (v4 : Int32) (σ : zS) (ls : Array Slot), lv_has ls 5 [(0, .int v0), (1, .int v1), (2, .long v2), (4, .int v4)] → zJ p l e rmX7_choose s m args below meth c b0 cA D L (fun z => MQ below (va_Ql (fun (r : Int64) (u : zS) => (r, u) = z) (zB b0 cA D L) (zA b0 L)) args s 0 0 (zA b0 L)) (k16 v0 v1 v2 v4 σ) σ 16 ls []) (v0 : Int32) (v1 : Int32) (v2 : Int64) (v4 : Int32) (σ : zS) (ls : Array Slot)  (hl : lv_has ls 5 [(0, .int v0), (1, .int v1), (2, .long v2), (4, .int v4)]) : zJ p l e rmX7_choose s m args below meth c b0 cA D L (fun z => MQ below (va_Ql (fun (r : Int64) (u : zS) => (r, u) = z) (zB b0 cA D L) (zA b0 L)) args s 0 0 (zA b0 L)) (bX7_choose_16 k16 v0 v1 v2 v4 σ) σ 16 ls [] := by
  unfold bX7_choose_16
  refine zj_iload (pc' := 18) hC dX7_choose_16 rfl (lv_at hl 3 rfl) ?_
  refine zj_iload_n (pc' := 19) hC dX7_choose_18 rfl rfl (lv_at hl 1 rfl) ?_
  refine zj_icmp_gt (tgt := 42) (pc' := 22) hC dX7_choose_19 (by decide) rfl (fun c1 => ?_) (fun c1 => ?_)
  · refine zj_lload_n (pc' := 43) hC dX7_choose_42 rfl rfl (lv_at hl 2 rfl) ?_
    exact zj_lret hC dX7_choose_43
  · refine zj_lload_n (pc' := 23) hC dX7_choose_22 rfl rfl (lv_at hl 2 rfl) ?_
    refine zj_iload_n (pc' := 24) hC dX7_choose_23 rfl rfl (lv_at hl 0 rfl) ?_
    refine zj_iload_n (pc' := 25) hC dX7_choose_24 rfl rfl (lv_at hl 1 rfl) ?_
    refine zj_isub (pc' := 26) hC dX7_choose_25 rfl ?_
    refine zj_iload (pc' := 28) hC dX7_choose_26 rfl (lv_at hl 3 rfl) ?_
    refine zj_iadd (pc' := 29) hC dX7_choose_28 rfl ?_
    refine zj_i2l (pc' := 30) hC dX7_choose_29 rfl ?_
    refine zj_lmul (pc' := 31) hC dX7_choose_30 rfl ?_
    refine zj_iload (pc' := 33) hC dX7_choose_31 rfl (lv_at hl 3 rfl) ?_
    refine zj_i2l (pc' := 34) hC dX7_choose_33 rfl ?_
    refine zj_ldiv (pc' := 35) hC dX7_choose_34 rfl (fun g2 => ?_)
    refine zj_nml (fun x3 => ?_)
    refine zj_lstore_n (pc' := 36) (lv' := [(2, .long x3), (0, .int v0), (1, .int v1), (4, .int v4)]) hC dX7_choose_35 rfl rfl hl (by decide) rfl (fun ls hl => ?_)
    refine zj_iinc (pc' := 39) (k0 := 3) (v := (v4 + (1 : Int32))) (lv' := [(4, .int (v4 + (1 : Int32))), (2, .long x3), (0, .int v0), (1, .int v1)]) hC dX7_choose_36 rfl hl rfl rfl (by decide) rfl (fun ls hl => ?_)
    refine zj_goto (tgt := 16) hC dX7_choose_39 (by decide) ?_
    exact h16 v0 v1 x3 ((v4 + (1 : Int32))) σ ls  (lv_sub hl [2, 3, 1, 0] rfl)
set_option maxRecDepth 100000 in
set_option maxHeartbeats 4000000 in
theorem lX7_choose_16 {p : Program} {l : Launch} {e : Env} {s : State} {m : MethodId} {args : Array Value} {below : List Frame} {meth : Method} {c : Code} {b0 : Nat} {cA : Nat → ClassId} {D : va_G} {L : List (Nat × Nat)} (hC : zC p c s m args meth cX7_choose 5 (some Jvm.ClassFile.FieldType.long) (Cond.code yX7_choose cX7_choose 5 (some Jvm.ClassFile.FieldType.long)) yX7_choose.cls cA D)  (n : Nat) : ∀ (v0 : Int32) (v1 : Int32) (v2 : Int64) (v4 : Int32) (σ : zS) (ls : Array Slot), lv_has ls 5 [(0, .int v0), (1, .int v1), (2, .long v2), (4, .int v4)] → zJ p l e rmX7_choose s m args below meth c b0 cA D L (fun z => MQ below (va_Ql (fun (r : Int64) (u : zS) => (r, u) = z) (zB b0 cA D L) (zA b0 L)) args s 0 0 (zA b0 L)) (fX7_choose_16  n v0 v1 v2 v4 σ) σ 16 ls [] := by
  induction n with
  | zero => intros; exact zj_none
  | succ n ih => exact jX7_choose_16 hC (fX7_choose_16  n) ih
set_option maxRecDepth 100000 in
set_option maxHeartbeats 4000000 in
theorem kX7_choose (l : Launch) (b0 : Nat) (cA : Nat → ClassId) (D : va_G) (L : List (Nat × Nat)) (v0 : Int32) (v1 : Int32) (σ : zS)  : zMl l b0 cA D L yX7_choose (Cond.code yX7_choose cX7_choose 5 (some Jvm.ClassFile.FieldType.long)) rmX7_choose [.int v0, .int v1] σ (fX7_choose v0 v1 σ) := by
  refine zMl_of (by decide) (Nat.le_of_ble_eq_true rfl) ?_
  intro p e s m below meth c ls hC hl
  have hl : lv_has ls 5 [(0, .int v0), (1, .int v1)] := hl
  generalize ([.int v0, .int v1] : List Value).toArray = args at hC ⊢
  unfold fX7_choose
  refine zj_iload_n (pc' := 1) hC dX7_choose_0 rfl rfl (lv_at hl 1 rfl) ?_
  refine zj_if_lt (tgt := 9) (pc' := 4) hC dX7_choose_1 (by decide) rfl (fun c4 => ?_) (fun c4 => ?_)
  · refine zj_lconst (pc' := 10) (v := (0 : Int64)) hC dX7_choose_9 rfl rfl ?_
    exact zj_lret hC dX7_choose_10
  · refine zj_iload_n (pc' := 5) hC dX7_choose_4 rfl rfl (lv_at hl 1 rfl) ?_
    refine zj_iload_n (pc' := 6) hC dX7_choose_5 rfl rfl (lv_at hl 0 rfl) ?_
    refine zj_icmp_le (tgt := 11) (pc' := 9) hC dX7_choose_6 (by decide) rfl (fun c5 => ?_) (fun c5 => ?_)
    · refine zj_lconst (pc' := 12) (v := (1 : Int64)) hC dX7_choose_11 rfl rfl ?_
      refine zj_lstore_n (pc' := 13) (lv' := [(2, .long (1 : Int64)), (0, .int v0), (1, .int v1)]) hC dX7_choose_12 rfl rfl hl (by decide) rfl (fun ls hl => ?_)
      refine zj_iconst (pc' := 14) (v := (1 : Int32)) hC dX7_choose_13 rfl rfl ?_
      refine zj_istore (pc' := 16) (lv' := [(4, .int (1 : Int32)), (2, .long (1 : Int64)), (0, .int v0), (1, .int v1)]) hC dX7_choose_14 rfl hl (by decide) rfl (fun ls hl => ?_)
      exact lX7_choose_16 hC zFU v0 v1 (1 : Int64) (1 : Int32) σ ls  (lv_sub hl [2, 3, 1, 0] rfl)
    · refine zj_lconst (pc' := 10) (v := (0 : Int64)) hC dX7_choose_9 rfl rfl ?_
      exact zj_lret hC dX7_choose_10
-- X7_funnier
theorem ddX7_funnier : yX7_funnier.cls ≠ "java/lang/invoke/MethodHandle" ∧ yX7_funnier.cls ≠ "java/lang/invoke/VarHandle" ∧ (parseMethodDescriptor yX7_funnier.desc).map (fun d => d.parameters.length) = some 5 := by decide +kernel
abbrev rmX7_funnier : Room := { frames := 1, cells := 0, slots := 0, locals := 24 }
def bX7_funnier_140  (v5 : Int32) (v6 : Int64) (v8 : Int64) (v10 : Int64) (σ : zS) : Option (Int64 × zS) :=
  if v5 = 0 then (zVL v10 (some ((v6 / v10), σ))) else (zVL v10 (some ((v8 / v10), σ)))
def bX7_funnier_115 (k115 : Int32 → Int64 → Int64 → Int64 → Int64 → zS → Option (Int64 × zS)) (v5 : Int32) (v6 : Int64) (v8 : Int64) (v10 : Int64) (v12 : Int64) (σ : zS) : Option (Int64 × zS) :=
  if (lg_cmp v12 (0 : Int64)) = 0 then (bX7_funnier_140 v5 v6 v8 v10 σ) else (zVL v12 (bnd ((v10 - v10 / v12 * v12)) (fun (x6 : Int64) => k115 v5 v6 v8 v12 x6 σ)))
def fX7_funnier_115  : Nat → Int32 → Int64 → Int64 → Int64 → Int64 → zS → Option (Int64 × zS)
  | 0, _, _, _, _, _, _ => none
  | n + 1, v5, v6, v8, v10, v12, σ => bX7_funnier_115 (fX7_funnier_115  n) v5 v6 v8 v10 v12 σ
def bX7_funnier_100  (v1 : Int32) (v2 : Int32) (v5 : Int32) (v6 : Int64) (σ : zS) : Option (Int64 × zS) :=
  zb (fX7_choose v1 v2 σ) (fun (r8 : Int64) (σ7 : zS) => fX7_funnier_115 zFU v5 v6 r8 v6 r8 σ7)
def bX7_funnier_60 (k60 : Int32 → Int32 → Int32 → Int32 → Int32 → Int64 → Int32 → zS → Option (Int64 × zS)) (v1 : Int32) (v2 : Int32) (v3 : Int32) (v4 : Int32) (v5 : Int32) (v6 : Int64) (v8 : Int32) (σ : zS) : Option (Int64 × zS) :=
  if v2 < v8 then (bX7_funnier_100 v1 v2 v5 v6 σ) else (zb (fX7_choose ((v3 + v4)) v8 σ) (fun (r11 : Int64) (σ10 : zS) => zb (fX7_choose (((v1 - v3) - v4)) ((v2 - v8)) σ10) (fun (r13 : Int64) (σ12 : zS) => bnd ((v6 + (r11 * r13))) (fun (x14 : Int64) => k60 v1 v2 v3 v4 v5 x14 ((v8 + (1 : Int32))) σ12))))
def fX7_funnier_60  : Nat → Int32 → Int32 → Int32 → Int32 → Int32 → Int64 → Int32 → zS → Option (Int64 × zS)
  | 0, _, _, _, _, _, _, _, _ => none
  | n + 1, v1, v2, v3, v4, v5, v6, v8, σ => bX7_funnier_60 (fX7_funnier_60  n) v1 v2 v3 v4 v5 v6 v8 σ
def fX7_funnier (v0 : Nat) (v1 : Int32) (v2 : Int32) (v3 : Int32) (v4 : Int32) (v5 : Int32) (σ : zS) : Option (Int64 × zS) :=
  zb (fX7_in v1 (1 : Int32) (20 : Int32) σ) (fun (r16 : Int32) (σ15 : zS) => if r16 = 0 then (some ((-1 : Int64), σ15)) else (zb (fX7_in v2 (0 : Int32) v1 σ15) (fun (r19 : Int32) (σ18 : zS) => if r19 = 0 then (some ((-1 : Int64), σ18)) else (zb (fX7_in v3 (0 : Int32) v2 σ18) (fun (r22 : Int32) (σ21 : zS) => if r22 = 0 then (some ((-1 : Int64), σ21)) else (zb (fX7_in v4 (0 : Int32) ((v1 - v2)) σ21) (fun (r25 : Int32) (σ24 : zS) => if r25 = 0 then (some ((-1 : Int64), σ24)) else (zb (fX7_in v5 (0 : Int32) (1 : Int32) σ24) (fun (r28 : Int32) (σ27 : zS) => if r28 = 0 then (some ((-1 : Int64), σ27)) else (fX7_funnier_60 zFU v1 v2 v3 v4 v5 (0 : Int64) v3 σ27))))))))))
set_option maxRecDepth 100000 in
set_option maxHeartbeats 4000000 in
theorem jX7_funnier_140 {p : Program} {l : Launch} {e : Env} {s : State} {m : MethodId} {args : Array Value} {below : List Frame} {meth : Method} {c : Code} {b0 : Nat} {cA : Nat → ClassId} {D : va_G} {L : List (Nat × Nat)} (hC : zC p c s m args meth cX7_funnier 16 (some Jvm.ClassFile.FieldType.long) (Cond.code yX7_funnier cX7_funnier 16 (some Jvm.ClassFile.FieldType.long)) yX7_funnier.cls cA D)  (v5 : Int32) (v6 : Int64) (v8 : Int64) (v10 : Int64) (σ : zS) (ls : Array Slot)  (hl : lv_has ls 16 [(5, .int v5), (6, .long v6), (8, .long v8), (10, .long v10)]) : zJ p l e rmX7_funnier s m args below meth c b0 cA D L (fun z => MQ below (va_Ql (fun (r : Int64) (u : zS) => (r, u) = z) (zB b0 cA D L) (zA b0 L)) args s 0 0 (zA b0 L)) (bX7_funnier_140  v5 v6 v8 v10 σ) σ 140 ls [] := by
  unfold bX7_funnier_140
  refine zj_iload (pc' := 142) hC dX7_funnier_140 rfl (lv_at hl 0 rfl) ?_
  refine zj_if_ne (tgt := 153) (pc' := 145) hC dX7_funnier_142 (by decide) rfl (fun c1 => ?_) (fun c1 => ?_)
  · refine zj_lload (pc' := 155) hC dX7_funnier_153 rfl (lv_at hl 2 rfl) ?_
    refine zj_lload (pc' := 157) hC dX7_funnier_155 rfl (lv_at hl 3 rfl) ?_
    refine zj_ldiv (pc' := 158) hC dX7_funnier_157 rfl (fun g2 => ?_)
    exact zj_lret hC dX7_funnier_158
  · refine zj_lload (pc' := 147) hC dX7_funnier_145 rfl (lv_at hl 1 rfl) ?_
    refine zj_lload (pc' := 149) hC dX7_funnier_147 rfl (lv_at hl 3 rfl) ?_
    refine zj_ldiv (pc' := 150) hC dX7_funnier_149 rfl (fun g3 => ?_)
    refine zj_goto (tgt := 158) hC dX7_funnier_150 (by decide) ?_
    exact zj_lret hC dX7_funnier_158
set_option maxRecDepth 100000 in
set_option maxHeartbeats 4000000 in
theorem jX7_funnier_115 {p : Program} {l : Launch} {e : Env} {s : State} {m : MethodId} {args : Array Value} {below : List Frame} {meth : Method} {c : Code} {b0 : Nat} {cA : Nat → ClassId} {D : va_G} {L : List (Nat × Nat)} (hC : zC p c s m args meth cX7_funnier 16 (some Jvm.ClassFile.FieldType.long) (Cond.code yX7_funnier cX7_funnier 16 (some Jvm.ClassFile.FieldType.long)) yX7_funnier.cls cA D) (k115 : Int32 → Int64 → Int64 → Int64 → Int64 → zS → Option (Int64 × zS)) (h115 : ∀ (v5 : Int32) (v6 : Int64) (v8 : Int64) (v10 : Int64) (v12 : Int64) (σ : zS) (ls : Array Slot), lv_has ls 16 [(5, .int v5), (6, .long v6), (8, .long v8), (10, .long v10), (12, .long v12)] → zJ p l e rmX7_funnier s m args below meth c b0 cA D L (fun z => MQ below (va_Ql (fun (r : Int64) (u : zS) => (r, u) = z) (zB b0 cA D L) (zA b0 L)) args s 0 0 (zA b0 L)) (k115 v5 v6 v8 v10 v12 σ) σ 115 ls []) (v5 : Int32) (v6 : Int64) (v8 : Int64) (v10 : Int64) (v12 : Int64) (σ : zS) (ls : Array Slot)  (hl : lv_has ls 16 [(5, .int v5), (6, .long v6), (8, .long v8), (10, .long v10), (12, .long v12)]) : zJ p l e rmX7_funnier s m args below meth c b0 cA D L (fun z => MQ below (va_Ql (fun (r : Int64) (u : zS) => (r, u) = z) (zB b0 cA D L) (zA b0 L)) args s 0 0 (zA b0 L)) (bX7_funnier_115 k115 v5 v6 v8 v10 v12 σ) σ 115 ls [] := by
  unfold bX7_funnier_115
  refine zj_lload (pc' := 117) hC dX7_funnier_115 rfl (lv_at hl 4 rfl) ?_
  refine zj_lconst (pc' := 118) (v := (0 : Int64)) hC dX7_funnier_117 rfl rfl ?_
  refine zj_lcmp (pc' := 119) hC dX7_funnier_118 rfl ?_
  refine zj_if_eq (tgt := 140) (pc' := 122) hC dX7_funnier_119 (by decide) rfl (fun c4 => ?_) (fun c4 => ?_)
  · exact jX7_funnier_140 hC v5 v6 v8 v10 σ ls  (lv_sub hl [0, 1, 2, 3] rfl)
  · refine zj_lload (pc' := 124) hC dX7_funnier_122 rfl (lv_at hl 3 rfl) ?_
    refine zj_lload (pc' := 126) hC dX7_funnier_124 rfl (lv_at hl 4 rfl) ?_
    refine zj_lrem (pc' := 127) hC dX7_funnier_126 rfl (fun g5 => ?_)
    refine zj_nml (fun x6 => ?_)
    refine zj_lstore (pc' := 129) (lv' := [(14, .long x6), (5, .int v5), (6, .long v6), (8, .long v8), (10, .long v10), (12, .long v12)]) hC dX7_funnier_127 rfl hl (by decide) rfl (fun ls hl => ?_)
    refine zj_lload (pc' := 131) hC dX7_funnier_129 rfl (lv_at hl 5 rfl) ?_
    refine zj_lstore (pc' := 133) (lv' := [(10, .long v12), (14, .long x6), (5, .int v5), (6, .long v6), (8, .long v8), (12, .long v12)]) hC dX7_funnier_131 rfl hl (by decide) rfl (fun ls hl => ?_)
    refine zj_lload (pc' := 135) hC dX7_funnier_133 rfl (lv_at hl 1 rfl) ?_
    refine zj_lstore (pc' := 137) (lv' := [(12, .long x6), (10, .long v12), (14, .long x6), (5, .int v5), (6, .long v6), (8, .long v8)]) hC dX7_funnier_135 rfl hl (by decide) rfl (fun ls hl => ?_)
    refine zj_goto (tgt := 115) hC dX7_funnier_137 (by decide) ?_
    exact h115 v5 v6 v8 v12 x6 σ ls  (lv_sub hl [3, 4, 5, 1, 0] rfl)
set_option maxRecDepth 100000 in
set_option maxHeartbeats 4000000 in
theorem lX7_funnier_115 {p : Program} {l : Launch} {e : Env} {s : State} {m : MethodId} {args : Array Value} {below : List Frame} {meth : Method} {c : Code} {b0 : Nat} {cA : Nat → ClassId} {D : va_G} {L : List (Nat × Nat)} (hC : zC p c s m args meth cX7_funnier 16 (some Jvm.ClassFile.FieldType.long) (Cond.code yX7_funnier cX7_funnier 16 (some Jvm.ClassFile.FieldType.long)) yX7_funnier.cls cA D)  (n : Nat) : ∀ (v5 : Int32) (v6 : Int64) (v8 : Int64) (v10 : Int64) (v12 : Int64) (σ : zS) (ls : Array Slot), lv_has ls 16 [(5, .int v5), (6, .long v6), (8, .long v8), (10, .long v10), (12, .long v12)] → zJ p l e rmX7_funnier s m args below meth c b0 cA D L (fun z => MQ below (va_Ql (fun (r : Int64) (u : zS) => (r, u) = z) (zB b0 cA D L) (zA b0 L)) args s 0 0 (zA b0 L)) (fX7_funnier_115  n v5 v6 v8 v10 v12 σ) σ 115 ls [] := by
  induction n with
  | zero => intros; exact zj_none
  | succ n ih => exact jX7_funnier_115 hC (fX7_funnier_115  n) ih
set_option maxRecDepth 100000 in
set_option maxHeartbeats 4000000 in
theorem jX7_funnier_100 {p : Program} {l : Launch} {e : Env} {s : State} {m : MethodId} {args : Array Value} {below : List Frame} {meth : Method} {c : Code} {b0 : Nat} {cA : Nat → ClassId} {D : va_G} {L : List (Nat × Nat)} (hC : zC p c s m args meth cX7_funnier 16 (some Jvm.ClassFile.FieldType.long) (Cond.code yX7_funnier cX7_funnier 16 (some Jvm.ClassFile.FieldType.long)) yX7_funnier.cls cA D)  (v1 : Int32) (v2 : Int32) (v5 : Int32) (v6 : Int64) (σ : zS) (ls : Array Slot)  (hl : lv_has ls 16 [(1, .int v1), (2, .int v2), (5, .int v5), (6, .long v6)]) : zJ p l e rmX7_funnier s m args below meth c b0 cA D L (fun z => MQ below (va_Ql (fun (r : Int64) (u : zS) => (r, u) = z) (zB b0 cA D L) (zA b0 L)) args s 0 0 (zA b0 L)) (bX7_funnier_100  v1 v2 v5 v6 σ) σ 100 ls [] := by
  unfold bX7_funnier_100
  refine zj_iload_n (pc' := 101) hC dX7_funnier_100 rfl rfl (lv_at hl 0 rfl) ?_
  refine zj_iload_n (pc' := 102) hC dX7_funnier_101 rfl rfl (lv_at hl 1 rfl) ?_
  refine zj_calllS (pc' := 105) (rest := []) hC (kX7_choose l b0 cA D L v1 v2 σ ) tw_6_9 tw_6_7 tw_6_8 tw_1_8 ddX7_choose rfl ⟨rfl, rfl⟩ ⟨by decide, by decide⟩ hl.1 (Nat.le_of_ble_eq_true rfl) rfl dX7_funnier_102 rfl (fun r8 σ7 => ?_)
  refine zj_lstore (pc' := 107) (lv' := [(8, .long r8), (1, .int v1), (2, .int v2), (5, .int v5), (6, .long v6)]) hC dX7_funnier_105 rfl hl (by decide) rfl (fun ls hl => ?_)
  refine zj_lload (pc' := 109) hC dX7_funnier_107 rfl (lv_at hl 4 rfl) ?_
  refine zj_lstore (pc' := 111) (lv' := [(10, .long v6), (8, .long r8), (1, .int v1), (2, .int v2), (5, .int v5), (6, .long v6)]) hC dX7_funnier_109 rfl hl (by decide) rfl (fun ls hl => ?_)
  refine zj_lload (pc' := 113) hC dX7_funnier_111 rfl (lv_at hl 1 rfl) ?_
  refine zj_lstore (pc' := 115) (lv' := [(12, .long r8), (10, .long v6), (8, .long r8), (1, .int v1), (2, .int v2), (5, .int v5), (6, .long v6)]) hC dX7_funnier_113 rfl hl (by decide) rfl (fun ls hl => ?_)
  exact lX7_funnier_115 hC zFU v5 v6 r8 v6 r8 σ7 ls  (lv_sub hl [5, 6, 2, 1, 0] rfl)
set_option maxRecDepth 100000 in
set_option maxHeartbeats 4000000 in
theorem jX7_funnier_60 {p : Program} {l : Launch} {e : Env} {s : State} {m : MethodId} {args : Array Value} {below : List Frame} {meth : Method} {c : Code} {b0 : Nat} {cA : Nat → ClassId} {D : va_G} {L : List (Nat × Nat)} (hC : zC p c s m args meth cX7_funnier 16 (some Jvm.ClassFile.FieldType.long) (Cond.code yX7_funnier cX7_funnier 16 (some Jvm.ClassFile.FieldType.long)) yX7_funnier.cls cA D) (k60 : Int32 → Int32 → Int32 → Int32 → Int32 → Int64 → Int32 → zS → Option (Int64 × zS)) (h60 : ∀ (v1 : Int32) (v2 : Int32) (v3 : Int32) (v4 : Int32) (v5 : Int32) (v6 : Int64) (v8 : Int32) (σ : zS) (ls : Array Slot), lv_has ls 16 [(1, .int v1), (2, .int v2), (3, .int v3), (4, .int v4), (5, .int v5), (6, .long v6), (8, .int v8)] → zJ p l e rmX7_funnier s m args below meth c b0 cA D L (fun z => MQ below (va_Ql (fun (r : Int64) (u : zS) => (r, u) = z) (zB b0 cA D L) (zA b0 L)) args s 0 0 (zA b0 L)) (k60 v1 v2 v3 v4 v5 v6 v8 σ) σ 60 ls []) (v1 : Int32) (v2 : Int32) (v3 : Int32) (v4 : Int32) (v5 : Int32) (v6 : Int64) (v8 : Int32) (σ : zS) (ls : Array Slot)  (hl : lv_has ls 16 [(1, .int v1), (2, .int v2), (3, .int v3), (4, .int v4), (5, .int v5), (6, .long v6), (8, .int v8)]) : zJ p l e rmX7_funnier s m args below meth c b0 cA D L (fun z => MQ below (va_Ql (fun (r : Int64) (u : zS) => (r, u) = z) (zB b0 cA D L) (zA b0 L)) args s 0 0 (zA b0 L)) (bX7_funnier_60 k60 v1 v2 v3 v4 v5 v6 v8 σ) σ 60 ls [] := by
  unfold bX7_funnier_60
  refine zj_iload (pc' := 62) hC dX7_funnier_60 rfl (lv_at hl 6 rfl) ?_
  refine zj_iload_n (pc' := 63) hC dX7_funnier_62 rfl rfl (lv_at hl 1 rfl) ?_
  refine zj_icmp_gt (tgt := 100) (pc' := 66) hC dX7_funnier_63 (by decide) rfl (fun c9 => ?_) (fun c9 => ?_)
  · exact jX7_funnier_100 hC v1 v2 v5 v6 σ ls  (lv_sub hl [0, 1, 4, 5] rfl)
  · refine zj_lload (pc' := 68) hC dX7_funnier_66 rfl (lv_at hl 5 rfl) ?_
    refine zj_iload_n (pc' := 69) hC dX7_funnier_68 rfl rfl (lv_at hl 2 rfl) ?_
    refine zj_iload (pc' := 71) hC dX7_funnier_69 rfl (lv_at hl 3 rfl) ?_
    refine zj_iadd (pc' := 72) hC dX7_funnier_71 rfl ?_
    refine zj_iload (pc' := 74) hC dX7_funnier_72 rfl (lv_at hl 6 rfl) ?_
    refine zj_calllS (pc' := 77) (rest := [.long v6]) hC (kX7_choose l b0 cA D L ((v3 + v4)) v8 σ ) tw_6_9 tw_6_7 tw_6_8 tw_1_8 ddX7_choose rfl ⟨rfl, rfl⟩ ⟨by decide, by decide⟩ hl.1 (Nat.le_of_ble_eq_true rfl) rfl dX7_funnier_74 rfl (fun r11 σ10 => ?_)
    refine zj_iload_n (pc' := 78) hC dX7_funnier_77 rfl rfl (lv_at hl 0 rfl) ?_
    refine zj_iload_n (pc' := 79) hC dX7_funnier_78 rfl rfl (lv_at hl 2 rfl) ?_
    refine zj_isub (pc' := 80) hC dX7_funnier_79 rfl ?_
    refine zj_iload (pc' := 82) hC dX7_funnier_80 rfl (lv_at hl 3 rfl) ?_
    refine zj_isub (pc' := 83) hC dX7_funnier_82 rfl ?_
    refine zj_iload_n (pc' := 84) hC dX7_funnier_83 rfl rfl (lv_at hl 1 rfl) ?_
    refine zj_iload (pc' := 86) hC dX7_funnier_84 rfl (lv_at hl 6 rfl) ?_
    refine zj_isub (pc' := 87) hC dX7_funnier_86 rfl ?_
    refine zj_calllS (pc' := 90) (rest := [.long r11, .long v6]) hC (kX7_choose l b0 cA D L (((v1 - v3) - v4)) ((v2 - v8)) σ10 ) tw_6_9 tw_6_7 tw_6_8 tw_1_8 ddX7_choose rfl ⟨rfl, rfl⟩ ⟨by decide, by decide⟩ hl.1 (Nat.le_of_ble_eq_true rfl) rfl dX7_funnier_87 rfl (fun r13 σ12 => ?_)
    refine zj_lmul (pc' := 91) hC dX7_funnier_90 rfl ?_
    refine zj_ladd (pc' := 92) hC dX7_funnier_91 rfl ?_
    refine zj_nml (fun x14 => ?_)
    refine zj_lstore (pc' := 94) (lv' := [(6, .long x14), (1, .int v1), (2, .int v2), (3, .int v3), (4, .int v4), (5, .int v5), (8, .int v8)]) hC dX7_funnier_92 rfl hl (by decide) rfl (fun ls hl => ?_)
    refine zj_iinc (pc' := 97) (k0 := 6) (v := (v8 + (1 : Int32))) (lv' := [(8, .int (v8 + (1 : Int32))), (6, .long x14), (1, .int v1), (2, .int v2), (3, .int v3), (4, .int v4), (5, .int v5)]) hC dX7_funnier_94 rfl hl rfl rfl (by decide) rfl (fun ls hl => ?_)
    refine zj_goto (tgt := 60) hC dX7_funnier_97 (by decide) ?_
    exact h60 v1 v2 v3 v4 v5 x14 ((v8 + (1 : Int32))) σ12 ls  (lv_sub hl [2, 3, 4, 5, 6, 1, 0] rfl)
set_option maxRecDepth 100000 in
set_option maxHeartbeats 4000000 in
theorem lX7_funnier_60 {p : Program} {l : Launch} {e : Env} {s : State} {m : MethodId} {args : Array Value} {below : List Frame} {meth : Method} {c : Code} {b0 : Nat} {cA : Nat → ClassId} {D : va_G} {L : List (Nat × Nat)} (hC : zC p c s m args meth cX7_funnier 16 (some Jvm.ClassFile.FieldType.long) (Cond.code yX7_funnier cX7_funnier 16 (some Jvm.ClassFile.FieldType.long)) yX7_funnier.cls cA D)  (n : Nat) : ∀ (v1 : Int32) (v2 : Int32) (v3 : Int32) (v4 : Int32) (v5 : Int32) (v6 : Int64) (v8 : Int32) (σ : zS) (ls : Array Slot), lv_has ls 16 [(1, .int v1), (2, .int v2), (3, .int v3), (4, .int v4), (5, .int v5), (6, .long v6), (8, .int v8)] → zJ p l e rmX7_funnier s m args below meth c b0 cA D L (fun z => MQ below (va_Ql (fun (r : Int64) (u : zS) => (r, u) = z) (zB b0 cA D L) (zA b0 L)) args s 0 0 (zA b0 L)) (fX7_funnier_60  n v1 v2 v3 v4 v5 v6 v8 σ) σ 60 ls [] := by
  induction n with
  | zero => intros; exact zj_none
  | succ n ih => exact jX7_funnier_60 hC (fX7_funnier_60  n) ih
set_option maxRecDepth 100000 in
set_option maxHeartbeats 4000000 in
theorem kX7_funnier (l : Launch) (b0 : Nat) (cA : Nat → ClassId) (D : va_G) (L : List (Nat × Nat)) (v0 : Nat) (v1 : Int32) (v2 : Int32) (v3 : Int32) (v4 : Int32) (v5 : Int32) (σ : zS) (hk0 : L[v0]? = some (0, 7)) : zMl l b0 cA D L yX7_funnier (Cond.code yX7_funnier cX7_funnier 16 (some Jvm.ClassFile.FieldType.long)) rmX7_funnier [.ref (b0 + v0), .int v1, .int v2, .int v3, .int v4, .int v5] σ (fX7_funnier v0 v1 v2 v3 v4 v5 σ) := by
  refine zMl_of (by decide) (Nat.le_of_ble_eq_true rfl) ?_
  intro p e s m below meth c ls hC hl
  have hl : lv_has ls 16 [(0, .ref (b0 + v0)), (1, .int v1), (2, .int v2), (3, .int v3), (4, .int v4), (5, .int v5)] := hl
  generalize ([.ref (b0 + v0), .int v1, .int v2, .int v3, .int v4, .int v5] : List Value).toArray = args at hC ⊢
  unfold fX7_funnier
  refine zj_iload_n (pc' := 1) hC dX7_funnier_0 rfl rfl (lv_at hl 1 rfl) ?_
  refine zj_iconst (pc' := 2) (v := (1 : Int32)) hC dX7_funnier_1 rfl rfl ?_
  refine zj_bipush (pc' := 4) (v := (20 : Int32)) hC dX7_funnier_2 rfl rfl ?_
  refine zj_callzS (pc' := 7) (rest := []) hC (kX7_in l b0 cA D L v1 (1 : Int32) (20 : Int32) σ ) tw_4_214 tw_4_212 tw_4_213 tw_1_8 ddX7_in rfl ⟨rfl, rfl⟩ ⟨by decide, by decide⟩ hl.1 (Nat.le_of_ble_eq_true rfl) rfl dX7_funnier_4 rfl (fun r16 σ15 hb_r16 => ?_)
  refine zj_if_eq (tgt := 50) (pc' := 10) hC dX7_funnier_7 (by decide) rfl (fun c17 => ?_) (fun c17 => ?_)
  · refine zj_ldc2 (pc' := 53) (v := (-1 : Int64)) hC tw_6_6 dX7_funnier_50 rfl ?_
    exact zj_lret hC dX7_funnier_53
  · refine zj_iload_n (pc' := 11) hC dX7_funnier_10 rfl rfl (lv_at hl 2 rfl) ?_
    refine zj_iconst (pc' := 12) (v := (0 : Int32)) hC dX7_funnier_11 rfl rfl ?_
    refine zj_iload_n (pc' := 13) hC dX7_funnier_12 rfl rfl (lv_at hl 1 rfl) ?_
    refine zj_callzS (pc' := 16) (rest := []) hC (kX7_in l b0 cA D L v2 (0 : Int32) v1 σ15 ) tw_4_214 tw_4_212 tw_4_213 tw_1_8 ddX7_in rfl ⟨rfl, rfl⟩ ⟨by decide, by decide⟩ hl.1 (Nat.le_of_ble_eq_true rfl) rfl dX7_funnier_13 rfl (fun r19 σ18 hb_r19 => ?_)
    refine zj_if_eq (tgt := 50) (pc' := 19) hC dX7_funnier_16 (by decide) rfl (fun c20 => ?_) (fun c20 => ?_)
    · refine zj_ldc2 (pc' := 53) (v := (-1 : Int64)) hC tw_6_6 dX7_funnier_50 rfl ?_
      exact zj_lret hC dX7_funnier_53
    · refine zj_iload_n (pc' := 20) hC dX7_funnier_19 rfl rfl (lv_at hl 3 rfl) ?_
      refine zj_iconst (pc' := 21) (v := (0 : Int32)) hC dX7_funnier_20 rfl rfl ?_
      refine zj_iload_n (pc' := 22) hC dX7_funnier_21 rfl rfl (lv_at hl 2 rfl) ?_
      refine zj_callzS (pc' := 25) (rest := []) hC (kX7_in l b0 cA D L v3 (0 : Int32) v2 σ18 ) tw_4_214 tw_4_212 tw_4_213 tw_1_8 ddX7_in rfl ⟨rfl, rfl⟩ ⟨by decide, by decide⟩ hl.1 (Nat.le_of_ble_eq_true rfl) rfl dX7_funnier_22 rfl (fun r22 σ21 hb_r22 => ?_)
      refine zj_if_eq (tgt := 50) (pc' := 28) hC dX7_funnier_25 (by decide) rfl (fun c23 => ?_) (fun c23 => ?_)
      · refine zj_ldc2 (pc' := 53) (v := (-1 : Int64)) hC tw_6_6 dX7_funnier_50 rfl ?_
        exact zj_lret hC dX7_funnier_53
      · refine zj_iload (pc' := 30) hC dX7_funnier_28 rfl (lv_at hl 4 rfl) ?_
        refine zj_iconst (pc' := 31) (v := (0 : Int32)) hC dX7_funnier_30 rfl rfl ?_
        refine zj_iload_n (pc' := 32) hC dX7_funnier_31 rfl rfl (lv_at hl 1 rfl) ?_
        refine zj_iload_n (pc' := 33) hC dX7_funnier_32 rfl rfl (lv_at hl 2 rfl) ?_
        refine zj_isub (pc' := 34) hC dX7_funnier_33 rfl ?_
        refine zj_callzS (pc' := 37) (rest := []) hC (kX7_in l b0 cA D L v4 (0 : Int32) ((v1 - v2)) σ21 ) tw_4_214 tw_4_212 tw_4_213 tw_1_8 ddX7_in rfl ⟨rfl, rfl⟩ ⟨by decide, by decide⟩ hl.1 (Nat.le_of_ble_eq_true rfl) rfl dX7_funnier_34 rfl (fun r25 σ24 hb_r25 => ?_)
        refine zj_if_eq (tgt := 50) (pc' := 40) hC dX7_funnier_37 (by decide) rfl (fun c26 => ?_) (fun c26 => ?_)
        · refine zj_ldc2 (pc' := 53) (v := (-1 : Int64)) hC tw_6_6 dX7_funnier_50 rfl ?_
          exact zj_lret hC dX7_funnier_53
        · refine zj_iload (pc' := 42) hC dX7_funnier_40 rfl (lv_at hl 5 rfl) ?_
          refine zj_iconst (pc' := 43) (v := (0 : Int32)) hC dX7_funnier_42 rfl rfl ?_
          refine zj_iconst (pc' := 44) (v := (1 : Int32)) hC dX7_funnier_43 rfl rfl ?_
          refine zj_callzS (pc' := 47) (rest := []) hC (kX7_in l b0 cA D L v5 (0 : Int32) (1 : Int32) σ24 ) tw_4_214 tw_4_212 tw_4_213 tw_1_8 ddX7_in rfl ⟨rfl, rfl⟩ ⟨by decide, by decide⟩ hl.1 (Nat.le_of_ble_eq_true rfl) rfl dX7_funnier_44 rfl (fun r28 σ27 hb_r28 => ?_)
          refine zj_if_ne (tgt := 54) (pc' := 50) hC dX7_funnier_47 (by decide) rfl (fun c29 => ?_) (fun c29 => ?_)
          · refine zj_lconst (pc' := 55) (v := (0 : Int64)) hC dX7_funnier_54 rfl rfl ?_
            refine zj_lstore (pc' := 57) (lv' := [(6, .long (0 : Int64)), (0, .ref (b0 + v0)), (1, .int v1), (2, .int v2), (3, .int v3), (4, .int v4), (5, .int v5)]) hC dX7_funnier_55 rfl hl (by decide) rfl (fun ls hl => ?_)
            refine zj_iload_n (pc' := 58) hC dX7_funnier_57 rfl rfl (lv_at hl 4 rfl) ?_
            refine zj_istore (pc' := 60) (lv' := [(8, .int v3), (6, .long (0 : Int64)), (0, .ref (b0 + v0)), (1, .int v1), (2, .int v2), (3, .int v3), (4, .int v4), (5, .int v5)]) hC dX7_funnier_58 rfl hl (by decide) rfl (fun ls hl => ?_)
            exact lX7_funnier_60 hC zFU v1 v2 v3 v4 v5 (0 : Int64) v3 σ27 ls  (lv_sub hl [3, 4, 5, 6, 7, 1, 0] rfl)
          · refine zj_ldc2 (pc' := 53) (v := (-1 : Int64)) hC tw_6_6 dX7_funnier_50 rfl ?_
            exact zj_lret hC dX7_funnier_53
-- X7_years
theorem ddX7_years : yX7_years.cls ≠ "java/lang/invoke/MethodHandle" ∧ yX7_years.cls ≠ "java/lang/invoke/VarHandle" ∧ (parseMethodDescriptor yX7_years.desc).map (fun d => d.parameters.length) = some 4 := by decide +kernel
abbrev rmX7_years : Room := { frames := 6, cells := 0, slots := 0, locals := 139 }
def bX7_years_115 (k69 : Int32 → Int32 → Int32 → Int32 → Int32 → Int32 → Int32 → zS → Option (Int32 × zS)) (v3 : Int32) (v4 : Int32) (v5 : Int32) (v6 : Int32) (v7 : Int32) (v8 : Int32) (v9 : Int32) (s0 : Int32) (σ : zS) : Option (Int32 × zS) :=
  bnd ((v7 + s0)) (fun (x1 : Int32) => bnd ((v8 - s0)) (fun (x2 : Int32) => k69 v3 v4 v5 v6 x1 x2 ((v9 + (1 : Int32))) σ))
def bX7_years_69 (k69 : Int32 → Int32 → Int32 → Int32 → Int32 → Int32 → Int32 → zS → Option (Int32 × zS)) (v3 : Int32) (v4 : Int32) (v5 : Int32) (v6 : Int32) (v7 : Int32) (v8 : Int32) (v9 : Int32) (σ : zS) : Option (Int32 × zS) :=
  if v3 ≤ v9 then (some (v7, σ)) else (if v5 ≤ v6 then (if v6 ≤ v5 then (bX7_years_115 k69 v3 v4 v5 v6 v7 v8 v9 (0 : Int32) σ) else (bX7_years_115 k69 v3 v4 v5 v6 v7 v8 v9 ((-((v7 * v4) / (1000 : Int32)))) σ)) else (bX7_years_115 k69 v3 v4 v5 v6 v7 v8 v9 (((v8 * v4) / (1000 : Int32))) σ))
def fX7_years_69  : Nat → Int32 → Int32 → Int32 → Int32 → Int32 → Int32 → Int32 → zS → Option (Int32 × zS)
  | 0, _, _, _, _, _, _, _, _ => none
  | n + 1, v3, v4, v5, v6, v7, v8, v9, σ => bX7_years_69 (fX7_years_69  n) v3 v4 v5 v6 v7 v8 v9 σ
def fX7_years (v0 : Nat) (v1 : Int32) (v2 : Int32) (v3 : Int32) (v4 : Int32) (σ : zS) : Option (Int32 × zS) :=
  zb (fX7_in v1 (0 : Int32) (10000 : Int32) σ) (fun (r7 : Int32) (σ6 : zS) => if r7 = 0 then (some ((-1 : Int32), σ6)) else (zb (fX7_in v2 (0 : Int32) (10000 : Int32) σ6) (fun (r10 : Int32) (σ9 : zS) => if r10 = 0 then (some ((-1 : Int32), σ9)) else (zb (fX7_in v3 (1 : Int32) (50 : Int32) σ9) (fun (r13 : Int32) (σ12 : zS) => if r13 = 0 then (some ((-1 : Int32), σ12)) else (zb (fX7_in v4 (0 : Int32) (1000 : Int32) σ12) (fun (r16 : Int32) (σ15 : zS) => if r16 = 0 then (some ((-1 : Int32), σ15)) else (zb (fX7_moreBy v0 (1 : Int32) σ15) (fun (r19 : Int32) (σ18 : zS) => zb (fX7_moreBy v0 (2 : Int32) σ18) (fun (r21 : Int32) (σ20 : zS) => fX7_years_69 zFU v3 v4 r19 r21 v1 v2 (0 : Int32) σ20))))))))))
set_option maxRecDepth 100000 in
set_option maxHeartbeats 4000000 in
theorem jX7_years_115 {p : Program} {l : Launch} {e : Env} {s : State} {m : MethodId} {args : Array Value} {below : List Frame} {meth : Method} {c : Code} {b0 : Nat} {cA : Nat → ClassId} {D : va_G} {L : List (Nat × Nat)} (hC : zC p c s m args meth cX7_years 11 (some Jvm.ClassFile.FieldType.int) (Cond.code yX7_years cX7_years 11 (some Jvm.ClassFile.FieldType.int)) yX7_years.cls cA D) (k69 : Int32 → Int32 → Int32 → Int32 → Int32 → Int32 → Int32 → zS → Option (Int32 × zS)) (h69 : ∀ (v3 : Int32) (v4 : Int32) (v5 : Int32) (v6 : Int32) (v7 : Int32) (v8 : Int32) (v9 : Int32) (σ : zS) (ls : Array Slot), lv_has ls 11 [(3, .int v3), (4, .int v4), (5, .int v5), (6, .int v6), (7, .int v7), (8, .int v8), (9, .int v9)] → zJ p l e rmX7_years s m args below meth c b0 cA D L (fun z => MQ below (va_Qi (fun (r : Int32) (u : zS) => (r, u) = z) (zB b0 cA D L) (zA b0 L)) args s 0 0 (zA b0 L)) (k69 v3 v4 v5 v6 v7 v8 v9 σ) σ 69 ls []) (v3 : Int32) (v4 : Int32) (v5 : Int32) (v6 : Int32) (v7 : Int32) (v8 : Int32) (v9 : Int32) (s0 : Int32) (σ : zS) (ls : Array Slot)  (hl : lv_has ls 11 [(3, .int v3), (4, .int v4), (5, .int v5), (6, .int v6), (7, .int v7), (8, .int v8), (9, .int v9)]) : zJ p l e rmX7_years s m args below meth c b0 cA D L (fun z => MQ below (va_Qi (fun (r : Int32) (u : zS) => (r, u) = z) (zB b0 cA D L) (zA b0 L)) args s 0 0 (zA b0 L)) (bX7_years_115 k69 v3 v4 v5 v6 v7 v8 v9 s0 σ) σ 115 ls [.int s0] := by
  unfold bX7_years_115
  refine zj_istore (pc' := 117) (lv' := [(10, .int s0), (3, .int v3), (4, .int v4), (5, .int v5), (6, .int v6), (7, .int v7), (8, .int v8), (9, .int v9)]) hC dX7_years_115 rfl hl (by decide) rfl (fun ls hl => ?_)
  refine zj_iload (pc' := 119) hC dX7_years_117 rfl (lv_at hl 5 rfl) ?_
  refine zj_iload (pc' := 121) hC dX7_years_119 rfl (lv_at hl 0 rfl) ?_
  refine zj_iadd (pc' := 122) hC dX7_years_121 rfl ?_
  refine zj_nmi (fun x1 => ?_)
  refine zj_istore (pc' := 124) (lv' := [(7, .int x1), (10, .int s0), (3, .int v3), (4, .int v4), (5, .int v5), (6, .int v6), (8, .int v8), (9, .int v9)]) hC dX7_years_122 rfl hl (by decide) rfl (fun ls hl => ?_)
  refine zj_iload (pc' := 126) hC dX7_years_124 rfl (lv_at hl 6 rfl) ?_
  refine zj_iload (pc' := 128) hC dX7_years_126 rfl (lv_at hl 1 rfl) ?_
  refine zj_isub (pc' := 129) hC dX7_years_128 rfl ?_
  refine zj_nmi (fun x2 => ?_)
  refine zj_istore (pc' := 131) (lv' := [(8, .int x2), (7, .int x1), (10, .int s0), (3, .int v3), (4, .int v4), (5, .int v5), (6, .int v6), (9, .int v9)]) hC dX7_years_129 rfl hl (by decide) rfl (fun ls hl => ?_)
  refine zj_iinc (pc' := 134) (k0 := 7) (v := (v9 + (1 : Int32))) (lv' := [(9, .int (v9 + (1 : Int32))), (8, .int x2), (7, .int x1), (10, .int s0), (3, .int v3), (4, .int v4), (5, .int v5), (6, .int v6)]) hC dX7_years_131 rfl hl rfl rfl (by decide) rfl (fun ls hl => ?_)
  refine zj_goto (tgt := 69) hC dX7_years_134 (by decide) ?_
  exact h69 v3 v4 v5 v6 x1 x2 ((v9 + (1 : Int32))) σ ls  (lv_sub hl [4, 5, 6, 7, 2, 1, 0] rfl)
set_option maxRecDepth 100000 in
set_option maxHeartbeats 4000000 in
theorem jX7_years_69 {p : Program} {l : Launch} {e : Env} {s : State} {m : MethodId} {args : Array Value} {below : List Frame} {meth : Method} {c : Code} {b0 : Nat} {cA : Nat → ClassId} {D : va_G} {L : List (Nat × Nat)} (hC : zC p c s m args meth cX7_years 11 (some Jvm.ClassFile.FieldType.int) (Cond.code yX7_years cX7_years 11 (some Jvm.ClassFile.FieldType.int)) yX7_years.cls cA D) (k69 : Int32 → Int32 → Int32 → Int32 → Int32 → Int32 → Int32 → zS → Option (Int32 × zS)) (h69 : ∀ (v3 : Int32) (v4 : Int32) (v5 : Int32) (v6 : Int32) (v7 : Int32) (v8 : Int32) (v9 : Int32) (σ : zS) (ls : Array Slot), lv_has ls 11 [(3, .int v3), (4, .int v4), (5, .int v5), (6, .int v6), (7, .int v7), (8, .int v8), (9, .int v9)] → zJ p l e rmX7_years s m args below meth c b0 cA D L (fun z => MQ below (va_Qi (fun (r : Int32) (u : zS) => (r, u) = z) (zB b0 cA D L) (zA b0 L)) args s 0 0 (zA b0 L)) (k69 v3 v4 v5 v6 v7 v8 v9 σ) σ 69 ls []) (v3 : Int32) (v4 : Int32) (v5 : Int32) (v6 : Int32) (v7 : Int32) (v8 : Int32) (v9 : Int32) (σ : zS) (ls : Array Slot)  (hl : lv_has ls 11 [(3, .int v3), (4, .int v4), (5, .int v5), (6, .int v6), (7, .int v7), (8, .int v8), (9, .int v9)]) : zJ p l e rmX7_years s m args below meth c b0 cA D L (fun z => MQ below (va_Qi (fun (r : Int32) (u : zS) => (r, u) = z) (zB b0 cA D L) (zA b0 L)) args s 0 0 (zA b0 L)) (bX7_years_69 k69 v3 v4 v5 v6 v7 v8 v9 σ) σ 69 ls [] := by
  unfold bX7_years_69
  refine zj_iload (pc' := 71) hC dX7_years_69 rfl (lv_at hl 6 rfl) ?_
  refine zj_iload_n (pc' := 72) hC dX7_years_71 rfl rfl (lv_at hl 0 rfl) ?_
  refine zj_icmp_ge (tgt := 137) (pc' := 75) hC dX7_years_72 (by decide) rfl (fun c3 => ?_) (fun c3 => ?_)
  · refine zj_iload (pc' := 139) hC dX7_years_137 rfl (lv_at hl 4 rfl) ?_
    exact zj_iret hC dX7_years_139
  · refine zj_iload (pc' := 77) hC dX7_years_75 rfl (lv_at hl 2 rfl) ?_
    refine zj_iload (pc' := 79) hC dX7_years_77 rfl (lv_at hl 3 rfl) ?_
    refine zj_icmp_le (tgt := 94) (pc' := 82) hC dX7_years_79 (by decide) rfl (fun c4 => ?_) (fun c4 => ?_)
    · refine zj_iload (pc' := 96) hC dX7_years_94 rfl (lv_at hl 2 rfl) ?_
      refine zj_iload (pc' := 98) hC dX7_years_96 rfl (lv_at hl 3 rfl) ?_
      refine zj_icmp_ge (tgt := 114) (pc' := 101) hC dX7_years_98 (by decide) rfl (fun c5 => ?_) (fun c5 => ?_)
      · refine zj_iconst (pc' := 115) (v := (0 : Int32)) hC dX7_years_114 rfl rfl ?_
        exact jX7_years_115 hC k69 h69 v3 v4 v5 v6 v7 v8 v9 (0 : Int32) σ ls  (lv_sub hl [0, 1, 2, 3, 4, 5, 6] rfl)
      · refine zj_iload (pc' := 103) hC dX7_years_101 rfl (lv_at hl 4 rfl) ?_
        refine zj_iload (pc' := 105) hC dX7_years_103 rfl (lv_at hl 1 rfl) ?_
        refine zj_imul (pc' := 106) hC dX7_years_105 rfl ?_
        refine zj_sipush (pc' := 109) (v := (1000 : Int32)) hC dX7_years_106 rfl rfl ?_
        refine zj_idivK (pc' := 110) hC dX7_years_109 rfl (by decide) ?_
        refine zj_ineg (pc' := 111) hC dX7_years_110 rfl ?_
        refine zj_goto (tgt := 115) hC dX7_years_111 (by decide) ?_
        exact jX7_years_115 hC k69 h69 v3 v4 v5 v6 v7 v8 v9 ((-((v7 * v4) / (1000 : Int32)))) σ ls  (lv_sub hl [0, 1, 2, 3, 4, 5, 6] rfl)
    · refine zj_iload (pc' := 84) hC dX7_years_82 rfl (lv_at hl 5 rfl) ?_
      refine zj_iload (pc' := 86) hC dX7_years_84 rfl (lv_at hl 1 rfl) ?_
      refine zj_imul (pc' := 87) hC dX7_years_86 rfl ?_
      refine zj_sipush (pc' := 90) (v := (1000 : Int32)) hC dX7_years_87 rfl rfl ?_
      refine zj_idivK (pc' := 91) hC dX7_years_90 rfl (by decide) ?_
      refine zj_goto (tgt := 115) hC dX7_years_91 (by decide) ?_
      exact jX7_years_115 hC k69 h69 v3 v4 v5 v6 v7 v8 v9 (((v8 * v4) / (1000 : Int32))) σ ls  (lv_sub hl [0, 1, 2, 3, 4, 5, 6] rfl)
set_option maxRecDepth 100000 in
set_option maxHeartbeats 4000000 in
theorem lX7_years_69 {p : Program} {l : Launch} {e : Env} {s : State} {m : MethodId} {args : Array Value} {below : List Frame} {meth : Method} {c : Code} {b0 : Nat} {cA : Nat → ClassId} {D : va_G} {L : List (Nat × Nat)} (hC : zC p c s m args meth cX7_years 11 (some Jvm.ClassFile.FieldType.int) (Cond.code yX7_years cX7_years 11 (some Jvm.ClassFile.FieldType.int)) yX7_years.cls cA D)  (n : Nat) : ∀ (v3 : Int32) (v4 : Int32) (v5 : Int32) (v6 : Int32) (v7 : Int32) (v8 : Int32) (v9 : Int32) (σ : zS) (ls : Array Slot), lv_has ls 11 [(3, .int v3), (4, .int v4), (5, .int v5), (6, .int v6), (7, .int v7), (8, .int v8), (9, .int v9)] → zJ p l e rmX7_years s m args below meth c b0 cA D L (fun z => MQ below (va_Qi (fun (r : Int32) (u : zS) => (r, u) = z) (zB b0 cA D L) (zA b0 L)) args s 0 0 (zA b0 L)) (fX7_years_69  n v3 v4 v5 v6 v7 v8 v9 σ) σ 69 ls [] := by
  induction n with
  | zero => intros; exact zj_none
  | succ n ih => exact jX7_years_69 hC (fX7_years_69  n) ih
set_option maxRecDepth 100000 in
set_option maxHeartbeats 4000000 in
theorem kX7_years (l : Launch) (b0 : Nat) (cA : Nat → ClassId) (D : va_G) (L : List (Nat × Nat)) (v0 : Nat) (v1 : Int32) (v2 : Int32) (v3 : Int32) (v4 : Int32) (σ : zS) (hk0 : L[v0]? = some (0, 7)) : zMi l b0 cA D L yX7_years (Cond.code yX7_years cX7_years 11 (some Jvm.ClassFile.FieldType.int)) rmX7_years [.ref (b0 + v0), .int v1, .int v2, .int v3, .int v4] σ (fX7_years v0 v1 v2 v3 v4 σ) := by
  refine zMi_of (by decide) (Nat.le_of_ble_eq_true rfl) ?_
  intro p e s m below meth c ls hC hl
  have hl : lv_has ls 11 [(0, .ref (b0 + v0)), (1, .int v1), (2, .int v2), (3, .int v3), (4, .int v4)] := hl
  generalize ([.ref (b0 + v0), .int v1, .int v2, .int v3, .int v4] : List Value).toArray = args at hC ⊢
  unfold fX7_years
  refine zj_iload_n (pc' := 1) hC dX7_years_0 rfl rfl (lv_at hl 1 rfl) ?_
  refine zj_iconst (pc' := 2) (v := (0 : Int32)) hC dX7_years_1 rfl rfl ?_
  refine zj_sipush (pc' := 5) (v := (10000 : Int32)) hC dX7_years_2 rfl rfl ?_
  refine zj_callzS (pc' := 8) (rest := []) hC (kX7_in l b0 cA D L v1 (0 : Int32) (10000 : Int32) σ ) tw_4_214 tw_4_212 tw_4_213 tw_1_8 ddX7_in rfl ⟨rfl, rfl⟩ ⟨by decide, by decide⟩ hl.1 (Nat.le_of_ble_eq_true rfl) rfl dX7_years_5 rfl (fun r7 σ6 hb_r7 => ?_)
  refine zj_if_eq (tgt := 44) (pc' := 11) hC dX7_years_8 (by decide) rfl (fun c8 => ?_) (fun c8 => ?_)
  · refine zj_iconst (pc' := 45) (v := (-1 : Int32)) hC dX7_years_44 rfl rfl ?_
    exact zj_iret hC dX7_years_45
  · refine zj_iload_n (pc' := 12) hC dX7_years_11 rfl rfl (lv_at hl 2 rfl) ?_
    refine zj_iconst (pc' := 13) (v := (0 : Int32)) hC dX7_years_12 rfl rfl ?_
    refine zj_sipush (pc' := 16) (v := (10000 : Int32)) hC dX7_years_13 rfl rfl ?_
    refine zj_callzS (pc' := 19) (rest := []) hC (kX7_in l b0 cA D L v2 (0 : Int32) (10000 : Int32) σ6 ) tw_4_214 tw_4_212 tw_4_213 tw_1_8 ddX7_in rfl ⟨rfl, rfl⟩ ⟨by decide, by decide⟩ hl.1 (Nat.le_of_ble_eq_true rfl) rfl dX7_years_16 rfl (fun r10 σ9 hb_r10 => ?_)
    refine zj_if_eq (tgt := 44) (pc' := 22) hC dX7_years_19 (by decide) rfl (fun c11 => ?_) (fun c11 => ?_)
    · refine zj_iconst (pc' := 45) (v := (-1 : Int32)) hC dX7_years_44 rfl rfl ?_
      exact zj_iret hC dX7_years_45
    · refine zj_iload_n (pc' := 23) hC dX7_years_22 rfl rfl (lv_at hl 3 rfl) ?_
      refine zj_iconst (pc' := 24) (v := (1 : Int32)) hC dX7_years_23 rfl rfl ?_
      refine zj_bipush (pc' := 26) (v := (50 : Int32)) hC dX7_years_24 rfl rfl ?_
      refine zj_callzS (pc' := 29) (rest := []) hC (kX7_in l b0 cA D L v3 (1 : Int32) (50 : Int32) σ9 ) tw_4_214 tw_4_212 tw_4_213 tw_1_8 ddX7_in rfl ⟨rfl, rfl⟩ ⟨by decide, by decide⟩ hl.1 (Nat.le_of_ble_eq_true rfl) rfl dX7_years_26 rfl (fun r13 σ12 hb_r13 => ?_)
      refine zj_if_eq (tgt := 44) (pc' := 32) hC dX7_years_29 (by decide) rfl (fun c14 => ?_) (fun c14 => ?_)
      · refine zj_iconst (pc' := 45) (v := (-1 : Int32)) hC dX7_years_44 rfl rfl ?_
        exact zj_iret hC dX7_years_45
      · refine zj_iload (pc' := 34) hC dX7_years_32 rfl (lv_at hl 4 rfl) ?_
        refine zj_iconst (pc' := 35) (v := (0 : Int32)) hC dX7_years_34 rfl rfl ?_
        refine zj_sipush (pc' := 38) (v := (1000 : Int32)) hC dX7_years_35 rfl rfl ?_
        refine zj_callzS (pc' := 41) (rest := []) hC (kX7_in l b0 cA D L v4 (0 : Int32) (1000 : Int32) σ12 ) tw_4_214 tw_4_212 tw_4_213 tw_1_8 ddX7_in rfl ⟨rfl, rfl⟩ ⟨by decide, by decide⟩ hl.1 (Nat.le_of_ble_eq_true rfl) rfl dX7_years_38 rfl (fun r16 σ15 hb_r16 => ?_)
        refine zj_if_ne (tgt := 46) (pc' := 44) hC dX7_years_41 (by decide) rfl (fun c17 => ?_) (fun c17 => ?_)
        · refine zj_aload_n (pc' := 47) hC dX7_years_46 rfl rfl (lv_at hl 0 rfl) ?_
          refine zj_iconst (pc' := 48) (v := (1 : Int32)) hC dX7_years_47 rfl rfl ?_
          refine zj_calliV (pc' := 51) (rest := []) hC (kX7_moreBy l b0 cA D L v0 (1 : Int32) σ15 hk0) hk0 rfl tw_5_165 tw_5_162 tw_5_164 ts_5_0 tw_1_8 ddX7_moreBy rfl ⟨rfl, rfl⟩ ⟨by decide, by decide⟩ hl.1 (Nat.le_of_ble_eq_true rfl) rfl dX7_years_48 rfl (fun r19 σ18 => ?_)
          refine zj_istore (pc' := 53) (lv' := [(5, .int r19), (0, .ref (b0 + v0)), (1, .int v1), (2, .int v2), (3, .int v3), (4, .int v4)]) hC dX7_years_51 rfl hl (by decide) rfl (fun ls hl => ?_)
          refine zj_aload_n (pc' := 54) hC dX7_years_53 rfl rfl (lv_at hl 1 rfl) ?_
          refine zj_iconst (pc' := 55) (v := (2 : Int32)) hC dX7_years_54 rfl rfl ?_
          refine zj_calliV (pc' := 58) (rest := []) hC (kX7_moreBy l b0 cA D L v0 (2 : Int32) σ18 hk0) hk0 rfl tw_5_165 tw_5_162 tw_5_164 ts_5_0 tw_1_8 ddX7_moreBy rfl ⟨rfl, rfl⟩ ⟨by decide, by decide⟩ hl.1 (Nat.le_of_ble_eq_true rfl) rfl dX7_years_55 rfl (fun r21 σ20 => ?_)
          refine zj_istore (pc' := 60) (lv' := [(6, .int r21), (5, .int r19), (0, .ref (b0 + v0)), (1, .int v1), (2, .int v2), (3, .int v3), (4, .int v4)]) hC dX7_years_58 rfl hl (by decide) rfl (fun ls hl => ?_)
          refine zj_iload_n (pc' := 61) hC dX7_years_60 rfl rfl (lv_at hl 3 rfl) ?_
          refine zj_istore (pc' := 63) (lv' := [(7, .int v1), (6, .int r21), (5, .int r19), (0, .ref (b0 + v0)), (1, .int v1), (2, .int v2), (3, .int v3), (4, .int v4)]) hC dX7_years_61 rfl hl (by decide) rfl (fun ls hl => ?_)
          refine zj_iload_n (pc' := 64) hC dX7_years_63 rfl rfl (lv_at hl 5 rfl) ?_
          refine zj_istore (pc' := 66) (lv' := [(8, .int v2), (7, .int v1), (6, .int r21), (5, .int r19), (0, .ref (b0 + v0)), (1, .int v1), (2, .int v2), (3, .int v3), (4, .int v4)]) hC dX7_years_64 rfl hl (by decide) rfl (fun ls hl => ?_)
          refine zj_iconst (pc' := 67) (v := (0 : Int32)) hC dX7_years_66 rfl rfl ?_
          refine zj_istore (pc' := 69) (lv' := [(9, .int (0 : Int32)), (8, .int v2), (7, .int v1), (6, .int r21), (5, .int r19), (0, .ref (b0 + v0)), (1, .int v1), (2, .int v2), (3, .int v3), (4, .int v4)]) hC dX7_years_67 rfl hl (by decide) rfl (fun ls hl => ?_)
          exact lX7_years_69 hC zFU v3 v4 r19 r21 v1 v2 (0 : Int32) σ20 ls  (lv_sub hl [8, 9, 4, 3, 2, 1, 0] rfl)
        · refine zj_iconst (pc' := 45) (v := (-1 : Int32)) hC dX7_years_44 rfl rfl ?_
          exact zj_iret hC dX7_years_45
-- X7_tapeNumber
theorem ddX7_tapeNumber : yX7_tapeNumber.cls ≠ "java/lang/invoke/MethodHandle" ∧ yX7_tapeNumber.cls ≠ "java/lang/invoke/VarHandle" ∧ (parseMethodDescriptor yX7_tapeNumber.desc).map (fun d => d.parameters.length) = some 1 := by decide +kernel
abbrev rmX7_tapeNumber : Room := { frames := 0, cells := 0, slots := 0, locals := 0 }
def bX7_tapeNumber_6 (k6 : Nat → Int32 → Int32 → Int32 → zS → Option (Int32 × zS)) (v0 : Nat) (v1 : Int32) (v2 : Int32) (v3 : Int32) (σ : zS) : Option (Int32 × zS) :=
  if (((4 : Int32) * v1) + (4 : Int32)) ≤ v3 then (some (v2, σ)) else (bnd (σ.2 v0 10) (fun (q2 : Nat) => zX v3 500 (bnd (((v2 <<< ((8 : Int32) &&& 31)) ||| ((σ.1 q2 (v3).toNatClampNeg) &&& (255 : Int32)))) (fun (x4 : Int32) => k6 v0 v1 x4 ((v3 + (1 : Int32))) σ))))
def fX7_tapeNumber_6  : Nat → Nat → Int32 → Int32 → Int32 → zS → Option (Int32 × zS)
  | 0, _, _, _, _, _ => none
  | n + 1, v0, v1, v2, v3, σ => bX7_tapeNumber_6 (fX7_tapeNumber_6  n) v0 v1 v2 v3 σ
def fX7_tapeNumber (v0 : Nat) (v1 : Int32) (σ : zS) : Option (Int32 × zS) :=
  bnd (((4 : Int32) * v1)) (fun (x5 : Int32) => fX7_tapeNumber_6 zFU v0 v1 (0 : Int32) x5 σ)
set_option maxRecDepth 100000 in
set_option maxHeartbeats 4000000 in
theorem jX7_tapeNumber_6 {p : Program} {l : Launch} {e : Env} {s : State} {m : MethodId} {args : Array Value} {below : List Frame} {meth : Method} {c : Code} {b0 : Nat} {cA : Nat → ClassId} {D : va_G} {L : List (Nat × Nat)} (hC : zC p c s m args meth cX7_tapeNumber 4 (some Jvm.ClassFile.FieldType.int) (Cond.code yX7_tapeNumber cX7_tapeNumber 4 (some Jvm.ClassFile.FieldType.int)) yX7_tapeNumber.cls cA D) (k6 : Nat → Int32 → Int32 → Int32 → zS → Option (Int32 × zS)) (h6 : ∀ (v0 : Nat) (v1 : Int32) (v2 : Int32) (v3 : Int32) (σ : zS) (ls : Array Slot), L[v0]? = some (0, 7) → lv_has ls 4 [(0, .ref (b0 + v0)), (1, .int v1), (2, .int v2), (3, .int v3)] → zJ p l e rmX7_tapeNumber s m args below meth c b0 cA D L (fun z => MQ below (va_Qi (fun (r : Int32) (u : zS) => (r, u) = z) (zB b0 cA D L) (zA b0 L)) args s 0 0 (zA b0 L)) (k6 v0 v1 v2 v3 σ) σ 6 ls []) (v0 : Nat) (v1 : Int32) (v2 : Int32) (v3 : Int32) (σ : zS) (ls : Array Slot) (hk_v0 : L[v0]? = some (0, 7)) (hl : lv_has ls 4 [(0, .ref (b0 + v0)), (1, .int v1), (2, .int v2), (3, .int v3)]) : zJ p l e rmX7_tapeNumber s m args below meth c b0 cA D L (fun z => MQ below (va_Qi (fun (r : Int32) (u : zS) => (r, u) = z) (zB b0 cA D L) (zA b0 L)) args s 0 0 (zA b0 L)) (bX7_tapeNumber_6 k6 v0 v1 v2 v3 σ) σ 6 ls [] := by
  unfold bX7_tapeNumber_6
  refine zj_iload_n (pc' := 7) hC dX7_tapeNumber_6 rfl rfl (lv_at hl 3 rfl) ?_
  refine zj_iconst (pc' := 8) (v := (4 : Int32)) hC dX7_tapeNumber_7 rfl rfl ?_
  refine zj_iload_n (pc' := 9) hC dX7_tapeNumber_8 rfl rfl (lv_at hl 1 rfl) ?_
  refine zj_imul (pc' := 10) hC dX7_tapeNumber_9 rfl ?_
  refine zj_iconst (pc' := 11) (v := (4 : Int32)) hC dX7_tapeNumber_10 rfl rfl ?_
  refine zj_iadd (pc' := 12) hC dX7_tapeNumber_11 rfl ?_
  refine zj_icmp_ge (tgt := 37) (pc' := 15) hC dX7_tapeNumber_12 (by decide) rfl (fun c1 => ?_) (fun c1 => ?_)
  · refine zj_iload_n (pc' := 38) hC dX7_tapeNumber_37 rfl rfl (lv_at hl 2 rfl) ?_
    exact zj_iret hC dX7_tapeNumber_38
  · refine zj_iload_n (pc' := 16) hC dX7_tapeNumber_15 rfl rfl (lv_at hl 2 rfl) ?_
    refine zj_bipush (pc' := 18) (v := (8 : Int32)) hC dX7_tapeNumber_16 rfl rfl ?_
    refine zj_ishl (pc' := 19) hC dX7_tapeNumber_18 rfl ?_
    refine zj_aload_n (pc' := 20) hC dX7_tapeNumber_19 rfl rfl (lv_at hl 0 rfl) ?_
    refine zj_getR (pc' := 23) hC hk_v0 fd_7_10 rfl tw_4_58 dX7_tapeNumber_20 rfl (fun q2 hk_q2 => ?_)
    refine zj_iload_n (pc' := 24) hC dX7_tapeNumber_23 rfl rfl (lv_at hl 3 rfl) ?_
    refine zj_bald (pc' := 25) hC hk_q2 dX7_tapeNumber_24 rfl (fun g3 => ?_)
    refine zj_sipush (pc' := 28) (v := (255 : Int32)) hC dX7_tapeNumber_25 rfl rfl ?_
    refine zj_iand (pc' := 29) hC dX7_tapeNumber_28 rfl ?_
    refine zj_ior (pc' := 30) hC dX7_tapeNumber_29 rfl ?_
    refine zj_nmi (fun x4 => ?_)
    refine zj_istore_n (pc' := 31) (lv' := [(2, .int x4), (0, .ref (b0 + v0)), (1, .int v1), (3, .int v3)]) hC dX7_tapeNumber_30 rfl rfl hl (by decide) rfl (fun ls hl => ?_)
    refine zj_iinc (pc' := 34) (k0 := 3) (v := (v3 + (1 : Int32))) (lv' := [(3, .int (v3 + (1 : Int32))), (2, .int x4), (0, .ref (b0 + v0)), (1, .int v1)]) hC dX7_tapeNumber_31 rfl hl rfl rfl (by decide) rfl (fun ls hl => ?_)
    refine zj_goto (tgt := 6) hC dX7_tapeNumber_34 (by decide) ?_
    exact h6 v0 v1 x4 ((v3 + (1 : Int32))) σ ls hk_v0 (lv_sub hl [2, 3, 1, 0] rfl)
set_option maxRecDepth 100000 in
set_option maxHeartbeats 4000000 in
theorem lX7_tapeNumber_6 {p : Program} {l : Launch} {e : Env} {s : State} {m : MethodId} {args : Array Value} {below : List Frame} {meth : Method} {c : Code} {b0 : Nat} {cA : Nat → ClassId} {D : va_G} {L : List (Nat × Nat)} (hC : zC p c s m args meth cX7_tapeNumber 4 (some Jvm.ClassFile.FieldType.int) (Cond.code yX7_tapeNumber cX7_tapeNumber 4 (some Jvm.ClassFile.FieldType.int)) yX7_tapeNumber.cls cA D)  (n : Nat) : ∀ (v0 : Nat) (v1 : Int32) (v2 : Int32) (v3 : Int32) (σ : zS) (ls : Array Slot), L[v0]? = some (0, 7) → lv_has ls 4 [(0, .ref (b0 + v0)), (1, .int v1), (2, .int v2), (3, .int v3)] → zJ p l e rmX7_tapeNumber s m args below meth c b0 cA D L (fun z => MQ below (va_Qi (fun (r : Int32) (u : zS) => (r, u) = z) (zB b0 cA D L) (zA b0 L)) args s 0 0 (zA b0 L)) (fX7_tapeNumber_6  n v0 v1 v2 v3 σ) σ 6 ls [] := by
  induction n with
  | zero => intros; exact zj_none
  | succ n ih => exact jX7_tapeNumber_6 hC (fX7_tapeNumber_6  n) ih
set_option maxRecDepth 100000 in
set_option maxHeartbeats 4000000 in
theorem kX7_tapeNumber (l : Launch) (b0 : Nat) (cA : Nat → ClassId) (D : va_G) (L : List (Nat × Nat)) (v0 : Nat) (v1 : Int32) (σ : zS) (hk0 : L[v0]? = some (0, 7)) : zMi l b0 cA D L yX7_tapeNumber (Cond.code yX7_tapeNumber cX7_tapeNumber 4 (some Jvm.ClassFile.FieldType.int)) rmX7_tapeNumber [.ref (b0 + v0), .int v1] σ (fX7_tapeNumber v0 v1 σ) := by
  refine zMi_of (by decide) (Nat.le_of_ble_eq_true rfl) ?_
  intro p e s m below meth c ls hC hl
  have hl : lv_has ls 4 [(0, .ref (b0 + v0)), (1, .int v1)] := hl
  generalize ([.ref (b0 + v0), .int v1] : List Value).toArray = args at hC ⊢
  unfold fX7_tapeNumber
  refine zj_iconst (pc' := 1) (v := (0 : Int32)) hC dX7_tapeNumber_0 rfl rfl ?_
  refine zj_istore_n (pc' := 2) (lv' := [(2, .int (0 : Int32)), (0, .ref (b0 + v0)), (1, .int v1)]) hC dX7_tapeNumber_1 rfl rfl hl (by decide) rfl (fun ls hl => ?_)
  refine zj_iconst (pc' := 3) (v := (4 : Int32)) hC dX7_tapeNumber_2 rfl rfl ?_
  refine zj_iload_n (pc' := 4) hC dX7_tapeNumber_3 rfl rfl (lv_at hl 2 rfl) ?_
  refine zj_imul (pc' := 5) hC dX7_tapeNumber_4 rfl ?_
  refine zj_nmi (fun x5 => ?_)
  refine zj_istore_n (pc' := 6) (lv' := [(3, .int x5), (2, .int (0 : Int32)), (0, .ref (b0 + v0)), (1, .int v1)]) hC dX7_tapeNumber_5 rfl rfl hl (by decide) rfl (fun ls hl => ?_)
  exact lX7_tapeNumber_6 hC zFU v0 v1 (0 : Int32) x5 σ ls hk0 (lv_sub hl [2, 3, 1, 0] rfl)
-- X7_check
theorem ddX7_check : yX7_check.cls ≠ "java/lang/invoke/MethodHandle" ∧ yX7_check.cls ≠ "java/lang/invoke/VarHandle" ∧ (parseMethodDescriptor yX7_check.desc).map (fun d => d.parameters.length) = some 1 := by decide +kernel
abbrev rmX7_check : Room := { frames := 5, cells := 0, slots := 0, locals := 116 }
def bX7_check_113  (v0 : Nat) (v1 : Int32) (σ : zS) : Option (Int32 × zS) :=
  if v1 ≤ (σ.1 v0 1) then (some ((-1 : Int32), σ)) else (some (((3 : Int32) * (σ.1 v0 1)), σ))
def bX7_check_101  (v2 : Int32) (σ : zS) : Option (Int32 × zS) :=
  some ((((3 : Int32) * v2) + (2 : Int32)), σ)
def bX7_check_79  (v2 : Int32) (σ : zS) : Option (Int32 × zS) :=
  some ((((3 : Int32) * v2) + (1 : Int32)), σ)
def bX7_check_30 (k30 : Nat → Int32 → Int32 → zS → Option (Int32 × zS)) (v0 : Nat) (v1 : Int32) (v2 : Int32) (σ : zS) : Option (Int32 × zS) :=
  if (σ.1 v0 1) ≤ v2 then (bX7_check_113 v0 v1 σ) else (zb (fX7_counts v0 v2 σ) (fun (_ : Unit) (σ3 : zS) => if v2 = v1 then (some (((3 : Int32) * v2), σ3)) else (zb (fX7_tapeNumber v0 (((3 : Int32) * v2)) σ3) (fun (r7 : Int32) (σ6 : zS) => if r7 = v2 then (zb (fX7_tapeNumber v0 ((((3 : Int32) * v2) + (1 : Int32))) σ6) (fun (r10 : Int32) (σ9 : zS) => if r10 = (σ9.1 v0 33) then (zb (fX7_tapeNumber v0 ((((3 : Int32) * v2) + (2 : Int32))) σ9) (fun (r13 : Int32) (σ12 : zS) => if r13 = (σ12.1 v0 34) then (k30 v0 v1 ((v2 + (1 : Int32))) σ12) else (bX7_check_101 v2 σ12))) else (bX7_check_79 v2 σ9))) else (some (((3 : Int32) * v2), σ6))))))
def fX7_check_30  : Nat → Nat → Int32 → Int32 → zS → Option (Int32 × zS)
  | 0, _, _, _, _ => none
  | n + 1, v0, v1, v2, σ => bX7_check_30 (fX7_check_30  n) v0 v1 v2 σ
def fX7_check (v0 : Nat) (v1 : Int32) (σ : zS) : Option (Int32 × zS) :=
  if v1 < 0 then (some ((-2 : Int32), σ)) else (if v1 ≤ ((σ.1 v0 11) / (12 : Int32)) then (bnd (zI σ v0 11 (0 : Int32)) (fun (σ17 : zS) => zb (fX7_playsAsTold v0 σ17) (fun (r19 : Int32) (σ18 : zS) => fX7_check_30 zFU v0 v1 (0 : Int32) σ18))) else (some ((-2 : Int32), σ)))
set_option maxRecDepth 100000 in
set_option maxHeartbeats 4000000 in
theorem jX7_check_113 {p : Program} {l : Launch} {e : Env} {s : State} {m : MethodId} {args : Array Value} {below : List Frame} {meth : Method} {c : Code} {b0 : Nat} {cA : Nat → ClassId} {D : va_G} {L : List (Nat × Nat)} (hC : zC p c s m args meth cX7_check 3 (some Jvm.ClassFile.FieldType.int) (Cond.code yX7_check cX7_check 3 (some Jvm.ClassFile.FieldType.int)) yX7_check.cls cA D)  (v0 : Nat) (v1 : Int32) (σ : zS) (ls : Array Slot) (hk_v0 : L[v0]? = some (0, 7)) (hl : lv_has ls 3 [(0, .ref (b0 + v0)), (1, .int v1)]) : zJ p l e rmX7_check s m args below meth c b0 cA D L (fun z => MQ below (va_Qi (fun (r : Int32) (u : zS) => (r, u) = z) (zB b0 cA D L) (zA b0 L)) args s 0 0 (zA b0 L)) (bX7_check_113  v0 v1 σ) σ 113 ls [] := by
  unfold bX7_check_113
  refine zj_aload_n (pc' := 114) hC dX7_check_113 rfl rfl (lv_at hl 0 rfl) ?_
  refine zj_getI (pc' := 117) hC hk_v0 fd_7_1 rfl tw_4_49 dX7_check_114 rfl ?_
  refine zj_iload_n (pc' := 118) hC dX7_check_117 rfl rfl (lv_at hl 1 rfl) ?_
  refine zj_icmp_ge (tgt := 130) (pc' := 121) hC dX7_check_118 (by decide) rfl (fun c1 => ?_) (fun c1 => ?_)
  · refine zj_iconst (pc' := 131) (v := (-1 : Int32)) hC dX7_check_130 rfl rfl ?_
    exact zj_iret hC dX7_check_131
  · refine zj_iconst (pc' := 122) (v := (3 : Int32)) hC dX7_check_121 rfl rfl ?_
    refine zj_aload_n (pc' := 123) hC dX7_check_122 rfl rfl (lv_at hl 0 rfl) ?_
    refine zj_getI (pc' := 126) hC hk_v0 fd_7_1 rfl tw_4_49 dX7_check_123 rfl ?_
    refine zj_imul (pc' := 127) hC dX7_check_126 rfl ?_
    refine zj_goto (tgt := 131) hC dX7_check_127 (by decide) ?_
    exact zj_iret hC dX7_check_131
set_option maxRecDepth 100000 in
set_option maxHeartbeats 4000000 in
theorem jX7_check_101 {p : Program} {l : Launch} {e : Env} {s : State} {m : MethodId} {args : Array Value} {below : List Frame} {meth : Method} {c : Code} {b0 : Nat} {cA : Nat → ClassId} {D : va_G} {L : List (Nat × Nat)} (hC : zC p c s m args meth cX7_check 3 (some Jvm.ClassFile.FieldType.int) (Cond.code yX7_check cX7_check 3 (some Jvm.ClassFile.FieldType.int)) yX7_check.cls cA D)  (v2 : Int32) (σ : zS) (ls : Array Slot)  (hl : lv_has ls 3 [(2, .int v2)]) : zJ p l e rmX7_check s m args below meth c b0 cA D L (fun z => MQ below (va_Qi (fun (r : Int32) (u : zS) => (r, u) = z) (zB b0 cA D L) (zA b0 L)) args s 0 0 (zA b0 L)) (bX7_check_101  v2 σ) σ 101 ls [] := by
  unfold bX7_check_101
  refine zj_iconst (pc' := 102) (v := (3 : Int32)) hC dX7_check_101 rfl rfl ?_
  refine zj_iload_n (pc' := 103) hC dX7_check_102 rfl rfl (lv_at hl 0 rfl) ?_
  refine zj_imul (pc' := 104) hC dX7_check_103 rfl ?_
  refine zj_iconst (pc' := 105) (v := (2 : Int32)) hC dX7_check_104 rfl rfl ?_
  refine zj_iadd (pc' := 106) hC dX7_check_105 rfl ?_
  exact zj_iret hC dX7_check_106
set_option maxRecDepth 100000 in
set_option maxHeartbeats 4000000 in
theorem jX7_check_79 {p : Program} {l : Launch} {e : Env} {s : State} {m : MethodId} {args : Array Value} {below : List Frame} {meth : Method} {c : Code} {b0 : Nat} {cA : Nat → ClassId} {D : va_G} {L : List (Nat × Nat)} (hC : zC p c s m args meth cX7_check 3 (some Jvm.ClassFile.FieldType.int) (Cond.code yX7_check cX7_check 3 (some Jvm.ClassFile.FieldType.int)) yX7_check.cls cA D)  (v2 : Int32) (σ : zS) (ls : Array Slot)  (hl : lv_has ls 3 [(2, .int v2)]) : zJ p l e rmX7_check s m args below meth c b0 cA D L (fun z => MQ below (va_Qi (fun (r : Int32) (u : zS) => (r, u) = z) (zB b0 cA D L) (zA b0 L)) args s 0 0 (zA b0 L)) (bX7_check_79  v2 σ) σ 79 ls [] := by
  unfold bX7_check_79
  refine zj_iconst (pc' := 80) (v := (3 : Int32)) hC dX7_check_79 rfl rfl ?_
  refine zj_iload_n (pc' := 81) hC dX7_check_80 rfl rfl (lv_at hl 0 rfl) ?_
  refine zj_imul (pc' := 82) hC dX7_check_81 rfl ?_
  refine zj_iconst (pc' := 83) (v := (1 : Int32)) hC dX7_check_82 rfl rfl ?_
  refine zj_iadd (pc' := 84) hC dX7_check_83 rfl ?_
  exact zj_iret hC dX7_check_84
set_option maxRecDepth 100000 in
set_option maxHeartbeats 4000000 in
theorem jX7_check_30 {p : Program} {l : Launch} {e : Env} {s : State} {m : MethodId} {args : Array Value} {below : List Frame} {meth : Method} {c : Code} {b0 : Nat} {cA : Nat → ClassId} {D : va_G} {L : List (Nat × Nat)} (hC : zC p c s m args meth cX7_check 3 (some Jvm.ClassFile.FieldType.int) (Cond.code yX7_check cX7_check 3 (some Jvm.ClassFile.FieldType.int)) yX7_check.cls cA D) (k30 : Nat → Int32 → Int32 → zS → Option (Int32 × zS)) (h30 : ∀ (v0 : Nat) (v1 : Int32) (v2 : Int32) (σ : zS) (ls : Array Slot), L[v0]? = some (0, 7) → lv_has ls 3 [(0, .ref (b0 + v0)), (1, .int v1), (2, .int v2)] → zJ p l e rmX7_check s m args below meth c b0 cA D L (fun z => MQ below (va_Qi (fun (r : Int32) (u : zS) => (r, u) = z) (zB b0 cA D L) (zA b0 L)) args s 0 0 (zA b0 L)) (k30 v0 v1 v2 σ) σ 30 ls []) (v0 : Nat) (v1 : Int32) (v2 : Int32) (σ : zS) (ls : Array Slot) (hk_v0 : L[v0]? = some (0, 7)) (hl : lv_has ls 3 [(0, .ref (b0 + v0)), (1, .int v1), (2, .int v2)]) : zJ p l e rmX7_check s m args below meth c b0 cA D L (fun z => MQ below (va_Qi (fun (r : Int32) (u : zS) => (r, u) = z) (zB b0 cA D L) (zA b0 L)) args s 0 0 (zA b0 L)) (bX7_check_30 k30 v0 v1 v2 σ) σ 30 ls [] := by
  unfold bX7_check_30
  refine zj_iload_n (pc' := 31) hC dX7_check_30 rfl rfl (lv_at hl 2 rfl) ?_
  refine zj_aload_n (pc' := 32) hC dX7_check_31 rfl rfl (lv_at hl 0 rfl) ?_
  refine zj_getI (pc' := 35) hC hk_v0 fd_7_1 rfl tw_4_49 dX7_check_32 rfl ?_
  refine zj_icmp_ge (tgt := 113) (pc' := 38) hC dX7_check_35 (by decide) rfl (fun c2 => ?_) (fun c2 => ?_)
  · exact jX7_check_113 hC v0 v1 σ ls hk_v0 (lv_sub hl [0, 1] rfl)
  · refine zj_aload_n (pc' := 39) hC dX7_check_38 rfl rfl (lv_at hl 0 rfl) ?_
    refine zj_iload_n (pc' := 40) hC dX7_check_39 rfl rfl (lv_at hl 2 rfl) ?_
    refine zj_callvV (pc' := 43) (rest := []) hC (kX7_counts l b0 cA D L v0 v2 σ hk_v0) hk_v0 rfl tw_5_145 tw_5_142 tw_5_144 ts_4_15 tw_1_8 ddX7_counts rfl ⟨rfl, rfl⟩ ⟨by decide, by decide⟩ hl.1 (Nat.le_of_ble_eq_true rfl) rfl dX7_check_40 rfl (fun σ3 => ?_)
    refine zj_iload_n (pc' := 44) hC dX7_check_43 rfl rfl (lv_at hl 2 rfl) ?_
    refine zj_iload_n (pc' := 45) hC dX7_check_44 rfl rfl (lv_at hl 1 rfl) ?_
    refine zj_icmp_eq (tgt := 59) (pc' := 48) hC dX7_check_45 (by decide) rfl (fun c5 => ?_) (fun c5 => ?_)
    · refine zj_iconst (pc' := 60) (v := (3 : Int32)) hC dX7_check_59 rfl rfl ?_
      refine zj_iload_n (pc' := 61) hC dX7_check_60 rfl rfl (lv_at hl 2 rfl) ?_
      refine zj_imul (pc' := 62) hC dX7_check_61 rfl ?_
      exact zj_iret hC dX7_check_62
    · refine zj_aload_n (pc' := 49) hC dX7_check_48 rfl rfl (lv_at hl 0 rfl) ?_
      refine zj_iconst (pc' := 50) (v := (3 : Int32)) hC dX7_check_49 rfl rfl ?_
      refine zj_iload_n (pc' := 51) hC dX7_check_50 rfl rfl (lv_at hl 2 rfl) ?_
      refine zj_imul (pc' := 52) hC dX7_check_51 rfl ?_
      refine zj_calliV (pc' := 55) (rest := []) hC (kX7_tapeNumber l b0 cA D L v0 (((3 : Int32) * v2)) σ3 hk_v0) hk_v0 rfl tw_6_21 tw_6_18 tw_6_20 ts_5_9 tw_1_8 ddX7_tapeNumber rfl ⟨rfl, rfl⟩ ⟨by decide, by decide⟩ hl.1 (Nat.le_of_ble_eq_true rfl) rfl dX7_check_52 rfl (fun r7 σ6 => ?_)
      refine zj_iload_n (pc' := 56) hC dX7_check_55 rfl rfl (lv_at hl 2 rfl) ?_
      refine zj_icmp_eq (tgt := 63) (pc' := 59) hC dX7_check_56 (by decide) rfl (fun c8 => ?_) (fun c8 => ?_)
      · refine zj_aload_n (pc' := 64) hC dX7_check_63 rfl rfl (lv_at hl 0 rfl) ?_
        refine zj_iconst (pc' := 65) (v := (3 : Int32)) hC dX7_check_64 rfl rfl ?_
        refine zj_iload_n (pc' := 66) hC dX7_check_65 rfl rfl (lv_at hl 2 rfl) ?_
        refine zj_imul (pc' := 67) hC dX7_check_66 rfl ?_
        refine zj_iconst (pc' := 68) (v := (1 : Int32)) hC dX7_check_67 rfl rfl ?_
        refine zj_iadd (pc' := 69) hC dX7_check_68 rfl ?_
        refine zj_calliV (pc' := 72) (rest := []) hC (kX7_tapeNumber l b0 cA D L v0 ((((3 : Int32) * v2) + (1 : Int32))) σ6 hk_v0) hk_v0 rfl tw_6_21 tw_6_18 tw_6_20 ts_5_9 tw_1_8 ddX7_tapeNumber rfl ⟨rfl, rfl⟩ ⟨by decide, by decide⟩ hl.1 (Nat.le_of_ble_eq_true rfl) rfl dX7_check_69 rfl (fun r10 σ9 => ?_)
        refine zj_aload_n (pc' := 73) hC dX7_check_72 rfl rfl (lv_at hl 0 rfl) ?_
        refine zj_getI (pc' := 76) hC hk_v0 fd_7_33 rfl tw_4_81 dX7_check_73 rfl ?_
        refine zj_icmp_eq (tgt := 85) (pc' := 79) hC dX7_check_76 (by decide) rfl (fun c11 => ?_) (fun c11 => ?_)
        · refine zj_aload_n (pc' := 86) hC dX7_check_85 rfl rfl (lv_at hl 0 rfl) ?_
          refine zj_iconst (pc' := 87) (v := (3 : Int32)) hC dX7_check_86 rfl rfl ?_
          refine zj_iload_n (pc' := 88) hC dX7_check_87 rfl rfl (lv_at hl 2 rfl) ?_
          refine zj_imul (pc' := 89) hC dX7_check_88 rfl ?_
          refine zj_iconst (pc' := 90) (v := (2 : Int32)) hC dX7_check_89 rfl rfl ?_
          refine zj_iadd (pc' := 91) hC dX7_check_90 rfl ?_
          refine zj_calliV (pc' := 94) (rest := []) hC (kX7_tapeNumber l b0 cA D L v0 ((((3 : Int32) * v2) + (2 : Int32))) σ9 hk_v0) hk_v0 rfl tw_6_21 tw_6_18 tw_6_20 ts_5_9 tw_1_8 ddX7_tapeNumber rfl ⟨rfl, rfl⟩ ⟨by decide, by decide⟩ hl.1 (Nat.le_of_ble_eq_true rfl) rfl dX7_check_91 rfl (fun r13 σ12 => ?_)
          refine zj_aload_n (pc' := 95) hC dX7_check_94 rfl rfl (lv_at hl 0 rfl) ?_
          refine zj_getI (pc' := 98) hC hk_v0 fd_7_34 rfl tw_4_82 dX7_check_95 rfl ?_
          refine zj_icmp_eq (tgt := 107) (pc' := 101) hC dX7_check_98 (by decide) rfl (fun c14 => ?_) (fun c14 => ?_)
          · refine zj_iinc (pc' := 110) (k0 := 2) (v := (v2 + (1 : Int32))) (lv' := [(2, .int (v2 + (1 : Int32))), (0, .ref (b0 + v0)), (1, .int v1)]) hC dX7_check_107 rfl hl rfl rfl (by decide) rfl (fun ls hl => ?_)
            refine zj_goto (tgt := 30) hC dX7_check_110 (by decide) ?_
            exact h30 v0 v1 ((v2 + (1 : Int32))) σ12 ls hk_v0 (lv_sub hl [1, 2, 0] rfl)
          · exact jX7_check_101 hC v2 σ12 ls  (lv_sub hl [2] rfl)
        · exact jX7_check_79 hC v2 σ9 ls  (lv_sub hl [2] rfl)
      · refine zj_iconst (pc' := 60) (v := (3 : Int32)) hC dX7_check_59 rfl rfl ?_
        refine zj_iload_n (pc' := 61) hC dX7_check_60 rfl rfl (lv_at hl 2 rfl) ?_
        refine zj_imul (pc' := 62) hC dX7_check_61 rfl ?_
        exact zj_iret hC dX7_check_62
set_option maxRecDepth 100000 in
set_option maxHeartbeats 4000000 in
theorem lX7_check_30 {p : Program} {l : Launch} {e : Env} {s : State} {m : MethodId} {args : Array Value} {below : List Frame} {meth : Method} {c : Code} {b0 : Nat} {cA : Nat → ClassId} {D : va_G} {L : List (Nat × Nat)} (hC : zC p c s m args meth cX7_check 3 (some Jvm.ClassFile.FieldType.int) (Cond.code yX7_check cX7_check 3 (some Jvm.ClassFile.FieldType.int)) yX7_check.cls cA D)  (n : Nat) : ∀ (v0 : Nat) (v1 : Int32) (v2 : Int32) (σ : zS) (ls : Array Slot), L[v0]? = some (0, 7) → lv_has ls 3 [(0, .ref (b0 + v0)), (1, .int v1), (2, .int v2)] → zJ p l e rmX7_check s m args below meth c b0 cA D L (fun z => MQ below (va_Qi (fun (r : Int32) (u : zS) => (r, u) = z) (zB b0 cA D L) (zA b0 L)) args s 0 0 (zA b0 L)) (fX7_check_30  n v0 v1 v2 σ) σ 30 ls [] := by
  induction n with
  | zero => intros; exact zj_none
  | succ n ih => exact jX7_check_30 hC (fX7_check_30  n) ih
set_option maxRecDepth 100000 in
set_option maxHeartbeats 4000000 in
theorem kX7_check (l : Launch) (b0 : Nat) (cA : Nat → ClassId) (D : va_G) (L : List (Nat × Nat)) (v0 : Nat) (v1 : Int32) (σ : zS) (hk0 : L[v0]? = some (0, 7)) : zMi l b0 cA D L yX7_check (Cond.code yX7_check cX7_check 3 (some Jvm.ClassFile.FieldType.int)) rmX7_check [.ref (b0 + v0), .int v1] σ (fX7_check v0 v1 σ) := by
  refine zMi_of (by decide) (Nat.le_of_ble_eq_true rfl) ?_
  intro p e s m below meth c ls hC hl
  have hl : lv_has ls 3 [(0, .ref (b0 + v0)), (1, .int v1)] := hl
  generalize ([.ref (b0 + v0), .int v1] : List Value).toArray = args at hC ⊢
  unfold fX7_check
  refine zj_iload_n (pc' := 1) hC dX7_check_0 rfl rfl (lv_at hl 1 rfl) ?_
  refine zj_if_lt (tgt := 15) (pc' := 4) hC dX7_check_1 (by decide) rfl (fun c15 => ?_) (fun c15 => ?_)
  · refine zj_bipush (pc' := 17) (v := (-2 : Int32)) hC dX7_check_15 rfl rfl ?_
    exact zj_iret hC dX7_check_17
  · refine zj_iload_n (pc' := 5) hC dX7_check_4 rfl rfl (lv_at hl 1 rfl) ?_
    refine zj_aload_n (pc' := 6) hC dX7_check_5 rfl rfl (lv_at hl 0 rfl) ?_
    refine zj_getI (pc' := 9) hC hk0 fd_7_11 rfl tw_4_59 dX7_check_6 rfl ?_
    refine zj_bipush (pc' := 11) (v := (12 : Int32)) hC dX7_check_9 rfl rfl ?_
    refine zj_idivK (pc' := 12) hC dX7_check_11 rfl (by decide) ?_
    refine zj_icmp_le (tgt := 18) (pc' := 15) hC dX7_check_12 (by decide) rfl (fun c16 => ?_) (fun c16 => ?_)
    · refine zj_aload_n (pc' := 19) hC dX7_check_18 rfl rfl (lv_at hl 0 rfl) ?_
      refine zj_iconst (pc' := 20) (v := (0 : Int32)) hC dX7_check_19 rfl rfl ?_
      refine zj_putI (pc' := 23) hC hk0 fd_7_11 rfl tw_4_59 rfl rfl rfl dX7_check_20 rfl (fun σ17 => ?_)
      refine zj_aload_n (pc' := 24) hC dX7_check_23 rfl rfl (lv_at hl 0 rfl) ?_
      refine zj_calliV (pc' := 27) (rest := []) hC (kX7_playsAsTold l b0 cA D L v0 σ17 hk0) hk0 rfl tw_5_114 tw_5_111 tw_5_113 ts_4_8 tw_1_8 ddX7_playsAsTold rfl ⟨rfl, rfl⟩ ⟨by decide, by decide⟩ hl.1 (Nat.le_of_ble_eq_true rfl) rfl dX7_check_24 rfl (fun r19 σ18 => ?_)
      refine zj_pop (pc' := 28) hC dX7_check_27 rfl rfl ?_
      refine zj_iconst (pc' := 29) (v := (0 : Int32)) hC dX7_check_28 rfl rfl ?_
      refine zj_istore_n (pc' := 30) (lv' := [(2, .int (0 : Int32)), (0, .ref (b0 + v0)), (1, .int v1)]) hC dX7_check_29 rfl rfl hl (by decide) rfl (fun ls hl => ?_)
      exact lX7_check_30 hC zFU v0 v1 (0 : Int32) σ18 ls hk0 (lv_sub hl [1, 2, 0] rfl)
    · refine zj_bipush (pc' := 17) (v := (-2 : Int32)) hC dX7_check_15 rfl rfl ?_
      exact zj_iret hC dX7_check_17
-- X7_count
theorem ddX7_count : yX7_count.cls ≠ "java/lang/invoke/MethodHandle" ∧ yX7_count.cls ≠ "java/lang/invoke/VarHandle" ∧ (parseMethodDescriptor yX7_count.desc).map (fun d => d.parameters.length) = some 1 := by decide +kernel
abbrev rmX7_count : Room := { frames := 2, cells := 0, slots := 0, locals := 43 }
def fX7_count (v0 : Nat) (v1 : Int32) (σ : zS) : Option (Int32 × zS) :=
  if v1 = (0 : Int32) then (some ((σ.1 v0 0), σ)) else (if v1 = (1 : Int32) then (zb (fX7_persons v0 σ) (fun (r4 : Int32) (σ3 : zS) => some (r4, σ3))) else (if v1 = (2 : Int32) then (some ((σ.1 v0 1), σ)) else (if v1 = (3 : Int32) then (some ((σ.1 v0 11), σ)) else (if v1 = (4 : Int32) then (some ((σ.1 v0 39), σ)) else (if v1 = (5 : Int32) then (some ((σ.1 v0 2), σ)) else (if v1 = (6 : Int32) then (some ((σ.1 v0 3), σ)) else (zb (fX7_in v1 (10 : Int32) (13 : Int32) σ) (fun (r11 : Int32) (σ10 : zS) => if r11 = 0 then (zb (fX7_in v1 (20 : Int32) (43 : Int32) σ10) (fun (r14 : Int32) (σ13 : zS) => if r14 = 0 then (zb (fX7_in v1 (50 : Int32) (73 : Int32) σ13) (fun (r17 : Int32) (σ16 : zS) => if r17 = 0 then (some ((-1 : Int32), σ16)) else (zb (fX7_isTaken v0 ((v1 - (50 : Int32))) σ16) (fun (r20 : Int32) (σ19 : zS) => if r20 = 0 then (some ((-1 : Int32), σ19)) else (bnd (σ19.2 v0 6) (fun (q22 : Nat) => zX (v1 - (50 : Int32)) 24 (some ((σ19.1 q22 ((v1 - (50 : Int32))).toNatClampNeg), σ19)))))))) else (bnd (σ13.2 v0 4) (fun (q24 : Nat) => zX (v1 - (20 : Int32)) 24 (some ((σ13.1 q24 ((v1 - (20 : Int32))).toNatClampNeg), σ13)))))) else (bnd (σ10.2 v0 26) (fun (q26 : Nat) => zX (v1 - (10 : Int32)) 4 (some ((σ10.1 q26 ((v1 - (10 : Int32))).toNatClampNeg), σ10))))))))))))
set_option maxRecDepth 100000 in
set_option maxHeartbeats 4000000 in
theorem kX7_count (l : Launch) (b0 : Nat) (cA : Nat → ClassId) (D : va_G) (L : List (Nat × Nat)) (v0 : Nat) (v1 : Int32) (σ : zS) (hk0 : L[v0]? = some (0, 7)) : zMi l b0 cA D L yX7_count (Cond.code yX7_count cX7_count 2 (some Jvm.ClassFile.FieldType.int)) rmX7_count [.ref (b0 + v0), .int v1] σ (fX7_count v0 v1 σ) := by
  refine zMi_of (by decide) (Nat.le_of_ble_eq_true rfl) ?_
  intro p e s m below meth c ls hC hl
  have hl : lv_has ls 2 [(0, .ref (b0 + v0)), (1, .int v1)] := hl
  generalize ([.ref (b0 + v0), .int v1] : List Value).toArray = args at hC ⊢
  unfold fX7_count
  refine zj_iload_n (pc' := 1) hC dX7_count_0 rfl rfl (lv_at hl 1 rfl) ?_
  refine zj_split (fun c1 => ?_) (fun c1 => ?_)
  · refine zj_tabIn (tgt := 44) 0 hC dX7_count_1 (by rw [c1]; decide) (by decide) (by decide) rfl (by decide) ?_
    refine zj_aload_n (pc' := 45) hC dX7_count_44 rfl rfl (lv_at hl 0 rfl) ?_
    refine zj_getI (pc' := 48) hC hk0 fd_7_0 rfl tw_4_48 dX7_count_45 rfl ?_
    exact zj_iret hC dX7_count_48
  refine zj_split (fun c2 => ?_) (fun c2 => ?_)
  · refine zj_tabIn (tgt := 49) 1 hC dX7_count_1 (by rw [c2]; decide) (by decide) (by decide) rfl (by decide) ?_
    refine zj_aload_n (pc' := 50) hC dX7_count_49 rfl rfl (lv_at hl 0 rfl) ?_
    refine zj_calliV (pc' := 53) (rest := []) hC (kX7_persons l b0 cA D L v0 σ hk0) hk0 rfl tw_4_218 tw_4_215 tw_4_217 ts_3_3 tw_1_8 ddX7_persons rfl ⟨rfl, rfl⟩ ⟨by decide, by decide⟩ hl.1 (Nat.le_of_ble_eq_true rfl) rfl dX7_count_50 rfl (fun r4 σ3 => ?_)
    exact zj_iret hC dX7_count_53
  refine zj_split (fun c5 => ?_) (fun c5 => ?_)
  · refine zj_tabIn (tgt := 54) 2 hC dX7_count_1 (by rw [c5]; decide) (by decide) (by decide) rfl (by decide) ?_
    refine zj_aload_n (pc' := 55) hC dX7_count_54 rfl rfl (lv_at hl 0 rfl) ?_
    refine zj_getI (pc' := 58) hC hk0 fd_7_1 rfl tw_4_49 dX7_count_55 rfl ?_
    exact zj_iret hC dX7_count_58
  refine zj_split (fun c6 => ?_) (fun c6 => ?_)
  · refine zj_tabIn (tgt := 59) 3 hC dX7_count_1 (by rw [c6]; decide) (by decide) (by decide) rfl (by decide) ?_
    refine zj_aload_n (pc' := 60) hC dX7_count_59 rfl rfl (lv_at hl 0 rfl) ?_
    refine zj_getI (pc' := 63) hC hk0 fd_7_11 rfl tw_4_59 dX7_count_60 rfl ?_
    exact zj_iret hC dX7_count_63
  refine zj_split (fun c7 => ?_) (fun c7 => ?_)
  · refine zj_tabIn (tgt := 64) 4 hC dX7_count_1 (by rw [c7]; decide) (by decide) (by decide) rfl (by decide) ?_
    refine zj_aload_n (pc' := 65) hC dX7_count_64 rfl rfl (lv_at hl 0 rfl) ?_
    refine zj_getI (pc' := 68) hC hk0 fd_7_39 rfl tw_4_87 dX7_count_65 rfl ?_
    exact zj_iret hC dX7_count_68
  refine zj_split (fun c8 => ?_) (fun c8 => ?_)
  · refine zj_tabIn (tgt := 69) 5 hC dX7_count_1 (by rw [c8]; decide) (by decide) (by decide) rfl (by decide) ?_
    refine zj_aload_n (pc' := 70) hC dX7_count_69 rfl rfl (lv_at hl 0 rfl) ?_
    refine zj_getI (pc' := 73) hC hk0 fd_7_2 rfl tw_4_50 dX7_count_70 rfl ?_
    exact zj_iret hC dX7_count_73
  refine zj_split (fun c9 => ?_) (fun c9 => ?_)
  · refine zj_tabIn (tgt := 74) 6 hC dX7_count_1 (by rw [c9]; decide) (by decide) (by decide) rfl (by decide) ?_
    refine zj_aload_n (pc' := 75) hC dX7_count_74 rfl rfl (lv_at hl 0 rfl) ?_
    refine zj_getI (pc' := 78) hC hk0 fd_7_3 rfl tw_4_51 dX7_count_75 rfl ?_
    exact zj_iret hC dX7_count_78
  refine zj_tabD (tgt := 79) [0, 1, 2, 3, 4, 5, 6] 7 hC dX7_count_1 (by decide) (by decide) (List.forall_mem_cons.mpr ⟨lv_neT c1 (by decide), List.forall_mem_cons.mpr ⟨lv_neT c2 (by decide), List.forall_mem_cons.mpr ⟨lv_neT c5 (by decide), List.forall_mem_cons.mpr ⟨lv_neT c6 (by decide), List.forall_mem_cons.mpr ⟨lv_neT c7 (by decide), List.forall_mem_cons.mpr ⟨lv_neT c8 (by decide), List.forall_mem_cons.mpr ⟨lv_neT c9 (by decide), fun _ h => absurd h List.not_mem_nil⟩⟩⟩⟩⟩⟩⟩) (by decide) ?_
  refine zj_iload_n (pc' := 80) hC dX7_count_79 rfl rfl (lv_at hl 1 rfl) ?_
  refine zj_bipush (pc' := 82) (v := (10 : Int32)) hC dX7_count_80 rfl rfl ?_
  refine zj_bipush (pc' := 84) (v := (13 : Int32)) hC dX7_count_82 rfl rfl ?_
  refine zj_callzS (pc' := 87) (rest := []) hC (kX7_in l b0 cA D L v1 (10 : Int32) (13 : Int32) σ ) tw_4_214 tw_4_212 tw_4_213 tw_1_8 ddX7_in rfl ⟨rfl, rfl⟩ ⟨by decide, by decide⟩ hl.1 (Nat.le_of_ble_eq_true rfl) rfl dX7_count_84 rfl (fun r11 σ10 hb_r11 => ?_)
  refine zj_if_eq (tgt := 100) (pc' := 90) hC dX7_count_87 (by decide) rfl (fun c12 => ?_) (fun c12 => ?_)
  · refine zj_iload_n (pc' := 101) hC dX7_count_100 rfl rfl (lv_at hl 1 rfl) ?_
    refine zj_bipush (pc' := 103) (v := (20 : Int32)) hC dX7_count_101 rfl rfl ?_
    refine zj_bipush (pc' := 105) (v := (43 : Int32)) hC dX7_count_103 rfl rfl ?_
    refine zj_callzS (pc' := 108) (rest := []) hC (kX7_in l b0 cA D L v1 (20 : Int32) (43 : Int32) σ10 ) tw_4_214 tw_4_212 tw_4_213 tw_1_8 ddX7_in rfl ⟨rfl, rfl⟩ ⟨by decide, by decide⟩ hl.1 (Nat.le_of_ble_eq_true rfl) rfl dX7_count_105 rfl (fun r14 σ13 hb_r14 => ?_)
    refine zj_if_eq (tgt := 121) (pc' := 111) hC dX7_count_108 (by decide) rfl (fun c15 => ?_) (fun c15 => ?_)
    · refine zj_iload_n (pc' := 122) hC dX7_count_121 rfl rfl (lv_at hl 1 rfl) ?_
      refine zj_bipush (pc' := 124) (v := (50 : Int32)) hC dX7_count_122 rfl rfl ?_
      refine zj_bipush (pc' := 126) (v := (73 : Int32)) hC dX7_count_124 rfl rfl ?_
      refine zj_callzS (pc' := 129) (rest := []) hC (kX7_in l b0 cA D L v1 (50 : Int32) (73 : Int32) σ13 ) tw_4_214 tw_4_212 tw_4_213 tw_1_8 ddX7_in rfl ⟨rfl, rfl⟩ ⟨by decide, by decide⟩ hl.1 (Nat.le_of_ble_eq_true rfl) rfl dX7_count_126 rfl (fun r17 σ16 hb_r17 => ?_)
      refine zj_if_eq (tgt := 155) (pc' := 132) hC dX7_count_129 (by decide) rfl (fun c18 => ?_) (fun c18 => ?_)
      · refine zj_iconst (pc' := 156) (v := (-1 : Int32)) hC dX7_count_155 rfl rfl ?_
        exact zj_iret hC dX7_count_156
      · refine zj_aload_n (pc' := 133) hC dX7_count_132 rfl rfl (lv_at hl 0 rfl) ?_
        refine zj_iload_n (pc' := 134) hC dX7_count_133 rfl rfl (lv_at hl 1 rfl) ?_
        refine zj_bipush (pc' := 136) (v := (50 : Int32)) hC dX7_count_134 rfl rfl ?_
        refine zj_isub (pc' := 137) hC dX7_count_136 rfl ?_
        refine zj_callzV (pc' := 140) (rest := []) hC (kX7_isTaken l b0 cA D L v0 ((v1 - (50 : Int32))) σ16 hk0) hk0 rfl tw_4_222 tw_4_219 tw_4_221 ts_3_4 tw_1_8 ddX7_isTaken rfl ⟨rfl, rfl⟩ ⟨by decide, by decide⟩ hl.1 (Nat.le_of_ble_eq_true rfl) rfl dX7_count_137 rfl (fun r20 σ19 hb_r20 => ?_)
        refine zj_if_eq (tgt := 155) (pc' := 143) hC dX7_count_140 (by decide) rfl (fun c21 => ?_) (fun c21 => ?_)
        · refine zj_iconst (pc' := 156) (v := (-1 : Int32)) hC dX7_count_155 rfl rfl ?_
          exact zj_iret hC dX7_count_156
        · refine zj_aload_n (pc' := 144) hC dX7_count_143 rfl rfl (lv_at hl 0 rfl) ?_
          refine zj_getR (pc' := 147) hC hk0 fd_7_6 rfl tw_4_54 dX7_count_144 rfl (fun q22 hk_q22 => ?_)
          refine zj_iload_n (pc' := 148) hC dX7_count_147 rfl rfl (lv_at hl 1 rfl) ?_
          refine zj_bipush (pc' := 150) (v := (50 : Int32)) hC dX7_count_148 rfl rfl ?_
          refine zj_isub (pc' := 151) hC dX7_count_150 rfl ?_
          refine zj_iald (pc' := 152) hC hk_q22 dX7_count_151 rfl (fun g23 => ?_)
          refine zj_goto (tgt := 156) hC dX7_count_152 (by decide) ?_
          exact zj_iret hC dX7_count_156
    · refine zj_aload_n (pc' := 112) hC dX7_count_111 rfl rfl (lv_at hl 0 rfl) ?_
      refine zj_getR (pc' := 115) hC hk0 fd_7_4 rfl tw_4_52 dX7_count_112 rfl (fun q24 hk_q24 => ?_)
      refine zj_iload_n (pc' := 116) hC dX7_count_115 rfl rfl (lv_at hl 1 rfl) ?_
      refine zj_bipush (pc' := 118) (v := (20 : Int32)) hC dX7_count_116 rfl rfl ?_
      refine zj_isub (pc' := 119) hC dX7_count_118 rfl ?_
      refine zj_iald (pc' := 120) hC hk_q24 dX7_count_119 rfl (fun g25 => ?_)
      exact zj_iret hC dX7_count_120
  · refine zj_aload_n (pc' := 91) hC dX7_count_90 rfl rfl (lv_at hl 0 rfl) ?_
    refine zj_getR (pc' := 94) hC hk0 fd_7_26 rfl tw_4_74 dX7_count_91 rfl (fun q26 hk_q26 => ?_)
    refine zj_iload_n (pc' := 95) hC dX7_count_94 rfl rfl (lv_at hl 1 rfl) ?_
    refine zj_bipush (pc' := 97) (v := (10 : Int32)) hC dX7_count_95 rfl rfl ?_
    refine zj_isub (pc' := 98) hC dX7_count_97 rfl ?_
    refine zj_iald (pc' := 99) hC hk_q26 dX7_count_98 rfl (fun g27 => ?_)
    exact zj_iret hC dX7_count_99
