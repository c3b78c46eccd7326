-- X0_findNeighbours
theorem ddX0_findNeighbours : yX0_findNeighbours.cls ≠ "java/lang/invoke/MethodHandle" ∧ yX0_findNeighbours.cls ≠ "java/lang/invoke/VarHandle" ∧ (parseMethodDescriptor yX0_findNeighbours.desc).map (fun d => d.parameters.length) = some 0 := by decide +kernel
abbrev rmX0_findNeighbours : Room := { frames := 0, cells := 0, slots := 0, locals := 0 }
def bX0_findNeighbours_80 (k2 : Nat → Int32 → zS → Option (Unit × zS)) (v0 : Nat) (v1 : Int32) (s0 : Int32) (s1 : Int32) (σ : zS) : Option (Unit × zS) :=
  bnd ((s0 ||| s1)) (fun (x1 : Int32) => bnd (σ.2 v0 1) (fun (q2 : Nat) => zX v1 24 (bnd (zI σ q2 (v1).toNatClampNeg (x1 &&& (16777215 : Int32))) (fun (σ4 : zS) => k2 v0 ((v1 + (1 : Int32))) σ4))))
def bX0_findNeighbours_58 (k2 : Nat → Int32 → zS → Option (Unit × zS)) (v0 : Nat) (v1 : Int32) (v2 : Int32) (v3 : Int32) (s0 : Int32) (s1 : Int32) (σ : zS) : Option (Unit × zS) :=
  bnd ((s0 ||| s1)) (fun (x5 : Int32) => if ((σ.1 v0 3) - (1 : Int32)) ≤ v3 then (bX0_findNeighbours_80 k2 v0 v1 x5 (0 : Int32) σ) else (bX0_findNeighbours_80 k2 v0 v1 x5 ((v2 <<< ((1 : Int32) &&& 31))) σ))
def bX0_findNeighbours_29 (k2 : Nat → Int32 → zS → Option (Unit × zS)) (v0 : Nat) (v1 : Int32) (v2 : Int32) (s0 : Int32) (σ : zS) : Option (Unit × zS) :=
  bnd (((v2 <<< ((σ.1 v0 3) &&& 31)) ||| (v2 >>> ((σ.1 v0 3) &&& 31)))) (fun (x7 : Int32) => if s0 ≤ 0 then (bX0_findNeighbours_58 k2 v0 v1 v2 s0 x7 (0 : Int32) σ) else (bX0_findNeighbours_58 k2 v0 v1 v2 s0 x7 ((v2 >>> ((1 : Int32) &&& 31))) σ))
def bX0_findNeighbours_2 (k2 : Nat → Int32 → zS → Option (Unit × zS)) (v0 : Nat) (v1 : Int32) (σ : zS) : Option (Unit × zS) :=
  if (24 : Int32) ≤ v1 then (some ((), σ)) else (bnd (((1 : Int32) <<< (v1 &&& 31))) (fun (x10 : Int32) => if (σ.1 v0 3) ≤ 0 then (bX0_findNeighbours_29 k2 v0 v1 x10 (0 : Int32) σ) else (zV (σ.1 v0 3) (bX0_findNeighbours_29 k2 v0 v1 x10 ((v1 - v1 / (σ.1 v0 3) * (σ.1 v0 3))) σ))))
def fX0_findNeighbours_2  : Nat → Nat → Int32 → zS → Option (Unit × zS)
  | 0, _, _, _ => none
  | n + 1, v0, v1, σ => bX0_findNeighbours_2 (fX0_findNeighbours_2  n) v0 v1 σ
def fX0_findNeighbours (v0 : Nat) (σ : zS) : Option (Unit × zS) :=
  fX0_findNeighbours_2 zFU v0 (0 : Int32) σ
set_option maxRecDepth 100000 in
set_option maxHeartbeats 4000000 in
theorem jX0_findNeighbours_80 {p : Program} {l : Launch} {e : Env} {s : State} {m : MethodId} {args : Array Value} {below : List Frame} {meth : Method} {c : Code} {b0 : Nat} {cA : Nat → ClassId} {D : va_G} {L : List (Nat × Nat)} (hC : zC p c s m args meth cX0_findNeighbours 5 (none) (Cond.code yX0_findNeighbours cX0_findNeighbours 5 (none)) yX0_findNeighbours.cls cA D) (k2 : Nat → Int32 → zS → Option (Unit × zS)) (h2 : ∀ (v0 : Nat) (v1 : Int32) (σ : zS) (ls : Array Slot), L[v0]? = some (0, 0) → lv_has ls 5 [(0, .ref (b0 + v0)), (1, .int v1)] → zJ p l e rmX0_findNeighbours s m args below meth c b0 cA D L (fun z => MQ below (va_Qv (fun (u : zS) => ((), u) = z) (zB b0 cA D L) (zA b0 L)) args s 0 0 (zA b0 L)) (k2 v0 v1 σ) σ 2 ls []) (v0 : Nat) (v1 : Int32) (s0 : Int32) (s1 : Int32) (σ : zS) (ls : Array Slot) (hk_v0 : L[v0]? = some (0, 0)) (hl : lv_has ls 5 [(0, .ref (b0 + v0)), (1, .int v1)]) : zJ p l e rmX0_findNeighbours s m args below meth c b0 cA D L (fun z => MQ below (va_Qv (fun (u : zS) => ((), u) = z) (zB b0 cA D L) (zA b0 L)) args s 0 0 (zA b0 L)) (bX0_findNeighbours_80 k2 v0 v1 s0 s1 σ) σ 80 ls [.int s1, .int s0] := by
  unfold bX0_findNeighbours_80
  refine zj_ior (pc' := 81) hC dX0_findNeighbours_80 rfl ?_
  refine zj_nmi (fun x1 => ?_)
  refine zj_istore (pc' := 83) (lv' := [(4, .int x1), (0, .ref (b0 + v0)), (1, .int v1)]) hC dX0_findNeighbours_81 rfl hl (by decide) rfl (fun ls hl => ?_)
  refine zj_aload_n (pc' := 84) hC dX0_findNeighbours_83 rfl rfl (lv_at hl 1 rfl) ?_
  refine zj_getR (pc' := 87) hC hk_v0 fd_0_1 rfl tw_1_121 dX0_findNeighbours_84 rfl (fun q2 hk_q2 => ?_)
  refine zj_iload_n (pc' := 88) hC dX0_findNeighbours_87 rfl rfl (lv_at hl 2 rfl) ?_
  refine zj_iload (pc' := 90) hC dX0_findNeighbours_88 rfl (lv_at hl 0 rfl) ?_
  refine zj_ldc (pc' := 92) (v := (16777215 : Int32)) hC tw_3_40 dX0_findNeighbours_90 rfl ?_
  refine zj_iand (pc' := 93) hC dX0_findNeighbours_92 rfl ?_
  refine zj_iast (pc' := 94) hC hk_q2 dX0_findNeighbours_93 rfl (fun g3 σ4 => ?_)
  refine zj_iinc (pc' := 97) (k0 := 2) (v := (v1 + (1 : Int32))) (lv' := [(1, .int (v1 + (1 : Int32))), (4, .int x1), (0, .ref (b0 + v0))]) hC dX0_findNeighbours_94 rfl hl rfl rfl (by decide) rfl (fun ls hl => ?_)
  refine zj_goto (tgt := 2) hC dX0_findNeighbours_97 (by decide) ?_
  exact h2 v0 ((v1 + (1 : Int32))) σ4 ls hk_v0 (lv_sub hl [2, 0] rfl)
set_option maxRecDepth 100000 in
set_option maxHeartbeats 4000000 in
theorem jX0_findNeighbours_58 {p : Program} {l : Launch} {e : Env} {s : State} {m : MethodId} {args : Array Value} {below : List Frame} {meth : Method} {c : Code} {b0 : Nat} {cA : Nat → ClassId} {D : va_G} {L : List (Nat × Nat)} (hC : zC p c s m args meth cX0_findNeighbours 5 (none) (Cond.code yX0_findNeighbours cX0_findNeighbours 5 (none)) yX0_findNeighbours.cls cA D) (k2 : Nat → Int32 → zS → Option (Unit × zS)) (h2 : ∀ (v0 : Nat) (v1 : Int32) (σ : zS) (ls : Array Slot), L[v0]? = some (0, 0) → lv_has ls 5 [(0, .ref (b0 + v0)), (1, .int v1)] → zJ p l e rmX0_findNeighbours s m args below meth c b0 cA D L (fun z => MQ below (va_Qv (fun (u : zS) => ((), u) = z) (zB b0 cA D L) (zA b0 L)) args s 0 0 (zA b0 L)) (k2 v0 v1 σ) σ 2 ls []) (v0 : Nat) (v1 : Int32) (v2 : Int32) (v3 : Int32) (s0 : Int32) (s1 : Int32) (σ : zS) (ls : Array Slot) (hk_v0 : L[v0]? = some (0, 0)) (hl : lv_has ls 5 [(0, .ref (b0 + v0)), (1, .int v1), (2, .int v2), (3, .int v3)]) : zJ p l e rmX0_findNeighbours s m args below meth c b0 cA D L (fun z => MQ below (va_Qv (fun (u : zS) => ((), u) = z) (zB b0 cA D L) (zA b0 L)) args s 0 0 (zA b0 L)) (bX0_findNeighbours_58 k2 v0 v1 v2 v3 s0 s1 σ) σ 58 ls [.int s1, .int s0] := by
  unfold bX0_findNeighbours_58
  refine zj_ior (pc' := 59) hC dX0_findNeighbours_58 rfl ?_
  refine zj_nmi (fun x5 => ?_)
  refine zj_istore (pc' := 61) (lv' := [(4, .int x5), (0, .ref (b0 + v0)), (1, .int v1), (2, .int v2), (3, .int v3)]) hC dX0_findNeighbours_59 rfl hl (by decide) rfl (fun ls hl => ?_)
  refine zj_iload (pc' := 63) hC dX0_findNeighbours_61 rfl (lv_at hl 0 rfl) ?_
  refine zj_iload_n (pc' := 64) hC dX0_findNeighbours_63 rfl rfl (lv_at hl 4 rfl) ?_
  refine zj_aload_n (pc' := 65) hC dX0_findNeighbours_64 rfl rfl (lv_at hl 1 rfl) ?_
  refine zj_getI (pc' := 68) hC hk_v0 fd_0_3 rfl tw_1_123 dX0_findNeighbours_65 rfl ?_
  refine zj_iconst (pc' := 69) (v := (1 : Int32)) hC dX0_findNeighbours_68 rfl rfl ?_
  refine zj_isub (pc' := 70) hC dX0_findNeighbours_69 rfl ?_
  refine zj_icmp_ge (tgt := 79) (pc' := 73) hC dX0_findNeighbours_70 (by decide) rfl (fun c6 => ?_) (fun c6 => ?_)
  · refine zj_iconst (pc' := 80) (v := (0 : Int32)) hC dX0_findNeighbours_79 rfl rfl ?_
    exact jX0_findNeighbours_80 hC k2 h2 v0 v1 x5 (0 : Int32) σ ls hk_v0 (lv_sub hl [1, 2] rfl)
  · refine zj_iload_n (pc' := 74) hC dX0_findNeighbours_73 rfl rfl (lv_at hl 3 rfl) ?_
    refine zj_iconst (pc' := 75) (v := (1 : Int32)) hC dX0_findNeighbours_74 rfl rfl ?_
    refine zj_ishl (pc' := 76) hC dX0_findNeighbours_75 rfl ?_
    refine zj_goto (tgt := 80) hC dX0_findNeighbours_76 (by decide) ?_
    exact jX0_findNeighbours_80 hC k2 h2 v0 v1 x5 ((v2 <<< ((1 : Int32) &&& 31))) σ ls hk_v0 (lv_sub hl [1, 2] rfl)
set_option maxRecDepth 100000 in
set_option maxHeartbeats 4000000 in
theorem jX0_findNeighbours_29 {p : Program} {l : Launch} {e : Env} {s : State} {m : MethodId} {args : Array Value} {below : List Frame} {meth : Method} {c : Code} {b0 : Nat} {cA : Nat → ClassId} {D : va_G} {L : List (Nat × Nat)} (hC : zC p c s m args meth cX0_findNeighbours 5 (none) (Cond.code yX0_findNeighbours cX0_findNeighbours 5 (none)) yX0_findNeighbours.cls cA D) (k2 : Nat → Int32 → zS → Option (Unit × zS)) (h2 : ∀ (v0 : Nat) (v1 : Int32) (σ : zS) (ls : Array Slot), L[v0]? = some (0, 0) → lv_has ls 5 [(0, .ref (b0 + v0)), (1, .int v1)] → zJ p l e rmX0_findNeighbours s m args below meth c b0 cA D L (fun z => MQ below (va_Qv (fun (u : zS) => ((), u) = z) (zB b0 cA D L) (zA b0 L)) args s 0 0 (zA b0 L)) (k2 v0 v1 σ) σ 2 ls []) (v0 : Nat) (v1 : Int32) (v2 : Int32) (s0 : Int32) (σ : zS) (ls : Array Slot) (hk_v0 : L[v0]? = some (0, 0)) (hl : lv_has ls 5 [(0, .ref (b0 + v0)), (1, .int v1), (2, .int v2)]) : zJ p l e rmX0_findNeighbours s m args below meth c b0 cA D L (fun z => MQ below (va_Qv (fun (u : zS) => ((), u) = z) (zB b0 cA D L) (zA b0 L)) args s 0 0 (zA b0 L)) (bX0_findNeighbours_29 k2 v0 v1 v2 s0 σ) σ 29 ls [.int s0] := by
  unfold bX0_findNeighbours_29
  refine zj_istore_n (pc' := 30) (lv' := [(3, .int s0), (0, .ref (b0 + v0)), (1, .int v1), (2, .int v2)]) hC dX0_findNeighbours_29 rfl rfl hl (by decide) rfl (fun ls hl => ?_)
  refine zj_iload_n (pc' := 31) hC dX0_findNeighbours_30 rfl rfl (lv_at hl 3 rfl) ?_
  refine zj_aload_n (pc' := 32) hC dX0_findNeighbours_31 rfl rfl (lv_at hl 1 rfl) ?_
  refine zj_getI (pc' := 35) hC hk_v0 fd_0_3 rfl tw_1_123 dX0_findNeighbours_32 rfl ?_
  refine zj_ishl (pc' := 36) hC dX0_findNeighbours_35 rfl ?_
  refine zj_iload_n (pc' := 37) hC dX0_findNeighbours_36 rfl rfl (lv_at hl 3 rfl) ?_
  refine zj_aload_n (pc' := 38) hC dX0_findNeighbours_37 rfl rfl (lv_at hl 1 rfl) ?_
  refine zj_getI (pc' := 41) hC hk_v0 fd_0_3 rfl tw_1_123 dX0_findNeighbours_38 rfl ?_
  refine zj_ishr (pc' := 42) hC dX0_findNeighbours_41 rfl ?_
  refine zj_ior (pc' := 43) hC dX0_findNeighbours_42 rfl ?_
  refine zj_nmi (fun x7 => ?_)
  refine zj_istore (pc' := 45) (lv' := [(4, .int x7), (3, .int s0), (0, .ref (b0 + v0)), (1, .int v1), (2, .int v2)]) hC dX0_findNeighbours_43 rfl hl (by decide) rfl (fun ls hl => ?_)
  refine zj_iload (pc' := 47) hC dX0_findNeighbours_45 rfl (lv_at hl 0 rfl) ?_
  refine zj_iload_n (pc' := 48) hC dX0_findNeighbours_47 rfl rfl (lv_at hl 1 rfl) ?_
  refine zj_if_le (tgt := 57) (pc' := 51) hC dX0_findNeighbours_48 (by decide) rfl (fun c8 => ?_) (fun c8 => ?_)
  · refine zj_iconst (pc' := 58) (v := (0 : Int32)) hC dX0_findNeighbours_57 rfl rfl ?_
    exact jX0_findNeighbours_58 hC k2 h2 v0 v1 v2 s0 x7 (0 : Int32) σ ls hk_v0 (lv_sub hl [2, 3, 4, 1] rfl)
  · refine zj_iload_n (pc' := 52) hC dX0_findNeighbours_51 rfl rfl (lv_at hl 4 rfl) ?_
    refine zj_iconst (pc' := 53) (v := (1 : Int32)) hC dX0_findNeighbours_52 rfl rfl ?_
    refine zj_ishr (pc' := 54) hC dX0_findNeighbours_53 rfl ?_
    refine zj_goto (tgt := 58) hC dX0_findNeighbours_54 (by decide) ?_
    exact jX0_findNeighbours_58 hC k2 h2 v0 v1 v2 s0 x7 ((v2 >>> ((1 : Int32) &&& 31))) σ ls hk_v0 (lv_sub hl [2, 3, 4, 1] rfl)
set_option maxRecDepth 100000 in
set_option maxHeartbeats 4000000 in
theorem jX0_findNeighbours_2 {p : Program} {l : Launch} {e : Env} {s : State} {m : MethodId} {args : Array Value} {below : List Frame} {meth : Method} {c : Code} {b0 : Nat} {cA : Nat → ClassId} {D : va_G} {L : List (Nat × Nat)} (hC : zC p c s m args meth cX0_findNeighbours 5 (none) (Cond.code yX0_findNeighbours cX0_findNeighbours 5 (none)) yX0_findNeighbours.cls cA D) (k2 : Nat → Int32 → zS → Option (Unit × zS)) (h2 : ∀ (v0 : Nat) (v1 : Int32) (σ : zS) (ls : Array Slot), L[v0]? = some (0, 0) → lv_has ls 5 [(0, .ref (b0 + v0)), (1, .int v1)] → zJ p l e rmX0_findNeighbours s m args below meth c b0 cA D L (fun z => MQ below (va_Qv (fun (u : zS) => ((), u) = z) (zB b0 cA D L) (zA b0 L)) args s 0 0 (zA b0 L)) (k2 v0 v1 σ) σ 2 ls []) (v0 : Nat) (v1 : Int32) (σ : zS) (ls : Array Slot) (hk_v0 : L[v0]? = some (0, 0)) (hl : lv_has ls 5 [(0, .ref (b0 + v0)), (1, .int v1)]) : zJ p l e rmX0_findNeighbours s m args below meth c b0 cA D L (fun z => MQ below (va_Qv (fun (u : zS) => ((), u) = z) (zB b0 cA D L) (zA b0 L)) args s 0 0 (zA b0 L)) (bX0_findNeighbours_2 k2 v0 v1 σ) σ 2 ls [] := by
  unfold bX0_findNeighbours_2
  refine zj_iload_n (pc' := 3) hC dX0_findNeighbours_2 rfl rfl (lv_at hl 1 rfl) ?_
  refine zj_bipush (pc' := 5) (v := (24 : Int32)) hC dX0_findNeighbours_3 rfl rfl ?_
  refine zj_icmp_ge (tgt := 100) (pc' := 8) hC dX0_findNeighbours_5 (by decide) rfl (fun c9 => ?_) (fun c9 => ?_)
  · exact zj_vret hC dX0_findNeighbours_100
  · refine zj_iconst (pc' := 9) (v := (1 : Int32)) hC dX0_findNeighbours_8 rfl rfl ?_
    refine zj_iload_n (pc' := 10) hC dX0_findNeighbours_9 rfl rfl (lv_at hl 1 rfl) ?_
    refine zj_ishl (pc' := 11) hC dX0_findNeighbours_10 rfl ?_
    refine zj_nmi (fun x10 => ?_)
    refine zj_istore_n (pc' := 12) (lv' := [(2, .int x10), (0, .ref (b0 + v0)), (1, .int v1)]) hC dX0_findNeighbours_11 rfl rfl hl (by decide) rfl (fun ls hl => ?_)
    refine zj_aload_n (pc' := 13) hC dX0_findNeighbours_12 rfl rfl (lv_at hl 1 rfl) ?_
    refine zj_getI (pc' := 16) hC hk_v0 fd_0_3 rfl tw_1_123 dX0_findNeighbours_13 rfl ?_
    refine zj_if_le (tgt := 28) (pc' := 19) hC dX0_findNeighbours_16 (by decide) rfl (fun c11 => ?_) (fun c11 => ?_)
    · refine zj_iconst (pc' := 29) (v := (0 : Int32)) hC dX0_findNeighbours_28 rfl rfl ?_
      exact jX0_findNeighbours_29 hC k2 h2 v0 v1 x10 (0 : Int32) σ ls hk_v0 (lv_sub hl [1, 2, 0] rfl)
    · refine zj_iload_n (pc' := 20) hC dX0_findNeighbours_19 rfl rfl (lv_at hl 2 rfl) ?_
      refine zj_aload_n (pc' := 21) hC dX0_findNeighbours_20 rfl rfl (lv_at hl 1 rfl) ?_
      refine zj_getI (pc' := 24) hC hk_v0 fd_0_3 rfl tw_1_123 dX0_findNeighbours_21 rfl ?_
      refine zj_irem (pc' := 25) hC dX0_findNeighbours_24 rfl (fun g12 => ?_)
      refine zj_goto (tgt := 29) hC dX0_findNeighbours_25 (by decide) ?_
      exact jX0_findNeighbours_29 hC k2 h2 v0 v1 x10 ((v1 - v1 / (σ.1 v0 3) * (σ.1 v0 3))) σ ls hk_v0 (lv_sub hl [1, 2, 0] rfl)
set_option maxRecDepth 100000 in
set_option maxHeartbeats 4000000 in
theorem lX0_findNeighbours_2 {p : Program} {l : Launch} {e : Env} {s : State} {m : MethodId} {args : Array Value} {below : List Frame} {meth : Method} {c : Code} {b0 : Nat} {cA : Nat → ClassId} {D : va_G} {L : List (Nat × Nat)} (hC : zC p c s m args meth cX0_findNeighbours 5 (none) (Cond.code yX0_findNeighbours cX0_findNeighbours 5 (none)) yX0_findNeighbours.cls cA D)  (n : Nat) : ∀ (v0 : Nat) (v1 : Int32) (σ : zS) (ls : Array Slot), L[v0]? = some (0, 0) → lv_has ls 5 [(0, .ref (b0 + v0)), (1, .int v1)] → zJ p l e rmX0_findNeighbours s m args below meth c b0 cA D L (fun z => MQ below (va_Qv (fun (u : zS) => ((), u) = z) (zB b0 cA D L) (zA b0 L)) args s 0 0 (zA b0 L)) (fX0_findNeighbours_2  n v0 v1 σ) σ 2 ls [] := by
  induction n with
  | zero => intros; exact zj_none
  | succ n ih => exact jX0_findNeighbours_2 hC (fX0_findNeighbours_2  n) ih
set_option maxRecDepth 100000 in
set_option maxHeartbeats 4000000 in
theorem kX0_findNeighbours (l : Launch) (b0 : Nat) (cA : Nat → ClassId) (D : va_G) (L : List (Nat × Nat)) (v0 : Nat) (σ : zS) (hk0 : L[v0]? = some (0, 0)) : zMv l b0 cA D L yX0_findNeighbours (Cond.code yX0_findNeighbours cX0_findNeighbours 5 (none)) rmX0_findNeighbours [.ref (b0 + v0)] σ (fX0_findNeighbours v0 σ) := by
  refine zMv_of (by decide) (Nat.le_of_ble_eq_true rfl) ?_
  intro p e s m below meth c ls hC hl
  have hl : lv_has ls 5 [(0, .ref (b0 + v0))] := hl
  generalize ([.ref (b0 + v0)] : List Value).toArray = args at hC ⊢
  unfold fX0_findNeighbours
  refine zj_iconst (pc' := 1) (v := (0 : Int32)) hC dX0_findNeighbours_0 rfl rfl ?_
  refine zj_istore_n (pc' := 2) (lv' := [(1, .int (0 : Int32)), (0, .ref (b0 + v0))]) hC dX0_findNeighbours_1 rfl rfl hl (by decide) rfl (fun ls hl => ?_)
  exact lX0_findNeighbours_2 hC zFU v0 (0 : Int32) σ ls hk0 (lv_sub hl [1, 0] rfl)
-- X0_stand
theorem ddX0_stand : yX0_stand.cls ≠ "java/lang/invoke/MethodHandle" ∧ yX0_stand.cls ≠ "java/lang/invoke/VarHandle" ∧ (parseMethodDescriptor yX0_stand.desc).map (fun d => d.parameters.length) = some 4 := by decide +kernel
abbrev rmX0_stand : Room := { frames := 1, cells := 0, slots := 0, locals := 24 }
def bX0_stand_49  (v0 : Nat) (v3 : Int32) (v4 : Int32) (σ : zS) : Option (Unit × zS) :=
  bnd (zI σ v0 7 v3) (fun (σ1 : zS) => bnd (zI σ1 v0 8 v4) (fun (σ2 : zS) => bnd (σ2.2 v0 2) (fun (q3 : Nat) => if (σ2.1 v0 3) = (σ2.1 q3 0) then (some ((), σ2)) else (bnd (σ2.2 v0 2) (fun (q5 : Nat) => if (σ2.1 q5 0) ≤ 0 then (some ((), σ2)) else (bnd (σ2.2 v0 2) (fun (q7 : Nat) => bnd (zI σ2 v0 3 (σ2.1 q7 0)) (fun (σ8 : zS) => zb (fX0_findNeighbours v0 σ8) (fun (_ : Unit) (σ9 : zS) => some ((), σ9))))))))))
def fX0_stand (v0 : Nat) (v1 : Nat) (v2 : Int32) (v3 : Int32) (v4 : Int32) (σ : zS) : Option (Unit × zS) :=
  bnd (σ.2 v1 0) (fun (q11 : Nat) => bnd (zR σ v0 2 q11) (fun (σ12 : zS) => bnd (zI σ12 v0 4 v2) (fun (σ13 : zS) => if v2 < 0 then (bX0_stand_49 v0 v3 v4 σ13) else (if (40 : Int32) ≤ v2 then (bX0_stand_49 v0 v3 v4 σ13) else (bnd (σ13.2 v1 1) (fun (q16 : Nat) => bnd (σ13.2 q16 1) (fun (q17 : Nat) => zX v2 40 (bnd (zI σ13 v0 5 (σ13.1 q17 (v2).toNatClampNeg)) (fun (σ19 : zS) => bnd (σ19.2 v1 1) (fun (q20 : Nat) => bnd (σ19.2 q20 2) (fun (q21 : Nat) => zX v2 40 (bnd (zI σ19 v0 6 (σ19.1 q21 (v2).toNatClampNeg)) (fun (σ23 : zS) => bX0_stand_49 v0 v3 v4 σ23)))))))))))))
set_option maxRecDepth 100000 in
set_option maxHeartbeats 4000000 in
theorem jX0_stand_49 {p : Program} {l : Launch} {e : Env} {s : State} {m : MethodId} {args : Array Value} {below : List Frame} {meth : Method} {c : Code} {b0 : Nat} {cA : Nat → ClassId} {D : va_G} {L : List (Nat × Nat)} (hC : zC p c s m args meth cX0_stand 5 (none) (Cond.code yX0_stand cX0_stand 5 (none)) yX0_stand.cls cA D)  (v0 : Nat) (v3 : Int32) (v4 : Int32) (σ : zS) (ls : Array Slot) (hk_v0 : L[v0]? = some (0, 0)) (hl : lv_has ls 5 [(0, .ref (b0 + v0)), (3, .int v3), (4, .int v4)]) : zJ p l e rmX0_stand s m args below meth c b0 cA D L (fun z => MQ below (va_Qv (fun (u : zS) => ((), u) = z) (zB b0 cA D L) (zA b0 L)) args s 0 0 (zA b0 L)) (bX0_stand_49  v0 v3 v4 σ) σ 49 ls [] := by
  unfold bX0_stand_49
  refine zj_aload_n (pc' := 50) hC dX0_stand_49 rfl rfl (lv_at hl 0 rfl) ?_
  refine zj_iload_n (pc' := 51) hC dX0_stand_50 rfl rfl (lv_at hl 1 rfl) ?_
  refine zj_putI (pc' := 54) hC hk_v0 fd_0_7 rfl tw_1_127 rfl rfl rfl dX0_stand_51 rfl (fun σ1 => ?_)
  refine zj_aload_n (pc' := 55) hC dX0_stand_54 rfl rfl (lv_at hl 0 rfl) ?_
  refine zj_iload (pc' := 57) hC dX0_stand_55 rfl (lv_at hl 2 rfl) ?_
  refine zj_putI (pc' := 60) hC hk_v0 fd_0_8 rfl tw_1_128 rfl rfl rfl dX0_stand_57 rfl (fun σ2 => ?_)
  refine zj_aload_n (pc' := 61) hC dX0_stand_60 rfl rfl (lv_at hl 0 rfl) ?_
  refine zj_getI (pc' := 64) hC hk_v0 fd_0_3 rfl tw_1_123 dX0_stand_61 rfl ?_
  refine zj_aload_n (pc' := 65) hC dX0_stand_64 rfl rfl (lv_at hl 0 rfl) ?_
  refine zj_getR (pc' := 68) hC hk_v0 fd_0_2 rfl tw_1_122 dX0_stand_65 rfl (fun q3 hk_q3 => ?_)
  refine zj_getI (pc' := 71) hC hk_q3 fd_2_0 rfl tw_1_62 dX0_stand_68 rfl ?_
  refine zj_icmp_eq (tgt := 99) (pc' := 74) hC dX0_stand_71 (by decide) rfl (fun c4 => ?_) (fun c4 => ?_)
  · exact zj_vret hC dX0_stand_99
  · refine zj_aload_n (pc' := 75) hC dX0_stand_74 rfl rfl (lv_at hl 0 rfl) ?_
    refine zj_getR (pc' := 78) hC hk_v0 fd_0_2 rfl tw_1_122 dX0_stand_75 rfl (fun q5 hk_q5 => ?_)
    refine zj_getI (pc' := 81) hC hk_q5 fd_2_0 rfl tw_1_62 dX0_stand_78 rfl ?_
    refine zj_if_le (tgt := 99) (pc' := 84) hC dX0_stand_81 (by decide) rfl (fun c6 => ?_) (fun c6 => ?_)
    · exact zj_vret hC dX0_stand_99
    · refine zj_aload_n (pc' := 85) hC dX0_stand_84 rfl rfl (lv_at hl 0 rfl) ?_
      refine zj_aload_n (pc' := 86) hC dX0_stand_85 rfl rfl (lv_at hl 0 rfl) ?_
      refine zj_getR (pc' := 89) hC hk_v0 fd_0_2 rfl tw_1_122 dX0_stand_86 rfl (fun q7 hk_q7 => ?_)
      refine zj_getI (pc' := 92) hC hk_q7 fd_2_0 rfl tw_1_62 dX0_stand_89 rfl ?_
      refine zj_putI (pc' := 95) hC hk_v0 fd_0_3 rfl tw_1_123 rfl rfl rfl dX0_stand_92 rfl (fun σ8 => ?_)
      refine zj_aload_n (pc' := 96) hC dX0_stand_95 rfl rfl (lv_at hl 0 rfl) ?_
      refine zj_callvV (pc' := 99) (rest := []) hC (kX0_findNeighbours l b0 cA D L v0 σ8 hk_v0) hk_v0 rfl tw_3_39 tw_3_36 tw_3_38 ts_2_4 tw_1_5 ddX0_findNeighbours rfl ⟨rfl, rfl⟩ ⟨by decide, by decide⟩ hl.1 (Nat.le_of_ble_eq_true rfl) rfl dX0_stand_96 rfl (fun σ9 => ?_)
      exact zj_vret hC dX0_stand_99
set_option maxRecDepth 100000 in
set_option maxHeartbeats 4000000 in
theorem kX0_stand (l : Launch) (b0 : Nat) (cA : Nat → ClassId) (D : va_G) (L : List (Nat × Nat)) (v0 : Nat) (v1 : Nat) (v2 : Int32) (v3 : Int32) (v4 : Int32) (σ : zS) (hk0 : L[v0]? = some (0, 0)) (hk1 : L[v1]? = some (0, 3)) : zMv l b0 cA D L yX0_stand (Cond.code yX0_stand cX0_stand 5 (none)) rmX0_stand [.ref (b0 + v0), .ref (b0 + v1), .int v2, .int v3, .int v4] σ (fX0_stand v0 v1 v2 v3 v4 σ) := by
  refine zMv_of (by decide) (Nat.le_of_ble_eq_true rfl) ?_
  intro p e s m below meth c ls hC hl
  have hl : lv_has ls 5 [(0, .ref (b0 + v0)), (1, .ref (b0 + v1)), (2, .int v2), (3, .int v3), (4, .int v4)] := hl
  generalize ([.ref (b0 + v0), .ref (b0 + v1), .int v2, .int v3, .int v4] : List Value).toArray = args at hC ⊢
  unfold fX0_stand
  refine zj_aload_n (pc' := 1) hC dX0_stand_0 rfl rfl (lv_at hl 0 rfl) ?_
  refine zj_aload_n (pc' := 2) hC dX0_stand_1 rfl rfl (lv_at hl 1 rfl) ?_
  refine zj_getR (pc' := 5) hC hk1 fd_3_0 rfl tw_1_94 dX0_stand_2 rfl (fun q11 hk_q11 => ?_)
  refine zj_putR (pc' := 8) hC hk0 fd_0_2 rfl hk_q11 tw_1_122 rfl (fun _ => rfl) (fun _ => rfl) dX0_stand_5 rfl (fun σ12 => ?_)
  refine zj_aload_n (pc' := 9) hC dX0_stand_8 rfl rfl (lv_at hl 0 rfl) ?_
  refine zj_iload_n (pc' := 10) hC dX0_stand_9 rfl rfl (lv_at hl 2 rfl) ?_
  refine zj_putI (pc' := 13) hC hk0 fd_0_4 rfl tw_1_124 rfl rfl rfl dX0_stand_10 rfl (fun σ13 => ?_)
  refine zj_iload_n (pc' := 14) hC dX0_stand_13 rfl rfl (lv_at hl 2 rfl) ?_
  refine zj_if_lt (tgt := 49) (pc' := 17) hC dX0_stand_14 (by decide) rfl (fun c14 => ?_) (fun c14 => ?_)
  · exact jX0_stand_49 hC v0 v3 v4 σ13 ls hk0 (lv_sub hl [0, 3, 4] rfl)
  · refine zj_iload_n (pc' := 18) hC dX0_stand_17 rfl rfl (lv_at hl 2 rfl) ?_
    refine zj_bipush (pc' := 20) (v := (40 : Int32)) hC dX0_stand_18 rfl rfl ?_
    refine zj_icmp_ge (tgt := 49) (pc' := 23) hC dX0_stand_20 (by decide) rfl (fun c15 => ?_) (fun c15 => ?_)
    · exact jX0_stand_49 hC v0 v3 v4 σ13 ls hk0 (lv_sub hl [0, 3, 4] rfl)
    · refine zj_aload_n (pc' := 24) hC dX0_stand_23 rfl rfl (lv_at hl 0 rfl) ?_
      refine zj_aload_n (pc' := 25) hC dX0_stand_24 rfl rfl (lv_at hl 1 rfl) ?_
      refine zj_getR (pc' := 28) hC hk1 fd_3_1 rfl tw_1_97 dX0_stand_25 rfl (fun q16 hk_q16 => ?_)
      refine zj_getR (pc' := 31) hC hk_q16 fd_1_1 rfl tw_1_37 dX0_stand_28 rfl (fun q17 hk_q17 => ?_)
      refine zj_iload_n (pc' := 32) hC dX0_stand_31 rfl rfl (lv_at hl 2 rfl) ?_
      refine zj_iald (pc' := 33) hC hk_q17 dX0_stand_32 rfl (fun g18 => ?_)
      refine zj_putI (pc' := 36) hC hk0 fd_0_5 rfl tw_1_125 rfl rfl rfl dX0_stand_33 rfl (fun σ19 => ?_)
      refine zj_aload_n (pc' := 37) hC dX0_stand_36 rfl rfl (lv_at hl 0 rfl) ?_
      refine zj_aload_n (pc' := 38) hC dX0_stand_37 rfl rfl (lv_at hl 1 rfl) ?_
      refine zj_getR (pc' := 41) hC hk1 fd_3_1 rfl tw_1_97 dX0_stand_38 rfl (fun q20 hk_q20 => ?_)
      refine zj_getR (pc' := 44) hC hk_q20 fd_1_2 rfl tw_1_40 dX0_stand_41 rfl (fun q21 hk_q21 => ?_)
      refine zj_iload_n (pc' := 45) hC dX0_stand_44 rfl rfl (lv_at hl 2 rfl) ?_
      refine zj_iald (pc' := 46) hC hk_q21 dX0_stand_45 rfl (fun g22 => ?_)
      refine zj_putI (pc' := 49) hC hk0 fd_0_6 rfl tw_1_126 rfl rfl rfl dX0_stand_46 rfl (fun σ23 => ?_)
      exact jX0_stand_49 hC v0 v3 v4 σ23 ls hk0 (lv_sub hl [0, 3, 4] rfl)
-- J6_bitCount_0f7a4
theorem ddJ6_bitCount_0f7a4 : yJ6_bitCount_0f7a4.cls ≠ "java/lang/invoke/MethodHandle" ∧ yJ6_bitCount_0f7a4.cls ≠ "java/lang/invoke/VarHandle" ∧ (parseMethodDescriptor yJ6_bitCount_0f7a4.desc).map (fun d => d.parameters.length) = some 1 := by decide +kernel
abbrev rmJ6_bitCount_0f7a4 : Room := { frames := 0, cells := 0, slots := 0, locals := 0 }
def fJ6_bitCount_0f7a4 (v0 : Int32) (σ : zS) : Option (Int32 × zS) :=
  bnd ((((v0).toUInt32 >>> (((1 : Int32)).toUInt32 &&& Int32.toUInt32 31)).toInt32)) (fun (x1 : Int32) => bnd ((v0 - (x1 &&& (1431655765 : Int32)))) (fun (x2 : Int32) => bnd ((((x2).toUInt32 >>> (((2 : Int32)).toUInt32 &&& Int32.toUInt32 31)).toInt32)) (fun (x3 : Int32) => bnd (((x2 &&& (858993459 : Int32)) + (x3 &&& (858993459 : Int32)))) (fun (x4 : Int32) => bnd ((((x4).toUInt32 >>> (((4 : Int32)).toUInt32 &&& Int32.toUInt32 31)).toInt32)) (fun (x5 : Int32) => bnd (((x4 + x5) &&& (252645135 : Int32))) (fun (x6 : Int32) => bnd ((((x6).toUInt32 >>> (((8 : Int32)).toUInt32 &&& Int32.toUInt32 31)).toInt32)) (fun (x7 : Int32) => bnd ((x6 + x7)) (fun (x8 : Int32) => bnd ((((x8).toUInt32 >>> (((16 : Int32)).toUInt32 &&& Int32.toUInt32 31)).toInt32)) (fun (x9 : Int32) => bnd ((x8 + x9)) (fun (x10 : Int32) => some ((x10 &&& (63 : Int32)), σ)))))))))))
set_option maxRecDepth 100000 in
set_option maxHeartbeats 4000000 in
theorem kJ6_bitCount_0f7a4 (l : Launch) (b0 : Nat) (cA : Nat → ClassId) (D : va_G) (L : List (Nat × Nat)) (v0 : Int32) (σ : zS)  : zMi l b0 cA D L yJ6_bitCount_0f7a4 (Cond.code yJ6_bitCount_0f7a4 cJ6_bitCount_0f7a4 1 (some Jvm.ClassFile.FieldType.int)) rmJ6_bitCount_0f7a4 [.int v0] σ (fJ6_bitCount_0f7a4 v0 σ) := by
  refine zMi_of (by decide) (Nat.le_of_ble_eq_true rfl) ?_
  intro p e s m below meth c ls hC hl
  have hl : lv_has ls 1 [(0, .int v0)] := hl
  generalize ([.int v0] : List Value).toArray = args at hC ⊢
  unfold fJ6_bitCount_0f7a4
  refine zj_iload_n (pc' := 1) hC dJ6_bitCount_0f7a4_0 rfl rfl (lv_at hl 0 rfl) ?_
  refine zj_iload_n (pc' := 2) hC dJ6_bitCount_0f7a4_1 rfl rfl (lv_at hl 0 rfl) ?_
  refine zj_iconst (pc' := 3) (v := (1 : Int32)) hC dJ6_bitCount_0f7a4_2 rfl rfl ?_
  refine zj_iushr (pc' := 4) hC dJ6_bitCount_0f7a4_3 rfl ?_
  refine zj_nmi (fun x1 => ?_)
  refine zj_ldcw (pc' := 7) (v := (1431655765 : Int32)) hC tw_3_69 dJ6_bitCount_0f7a4_4 rfl ?_
  refine zj_iand (pc' := 8) hC dJ6_bitCount_0f7a4_7 rfl ?_
  refine zj_isub (pc' := 9) hC dJ6_bitCount_0f7a4_8 rfl ?_
  refine zj_nmi (fun x2 => ?_)
  refine zj_istore_n (pc' := 10) (lv' := [(0, .int x2)]) hC dJ6_bitCount_0f7a4_9 rfl rfl hl (by decide) rfl (fun ls hl => ?_)
  refine zj_iload_n (pc' := 11) hC dJ6_bitCount_0f7a4_10 rfl rfl (lv_at hl 0 rfl) ?_
  refine zj_ldcw (pc' := 14) (v := (858993459 : Int32)) hC tw_3_70 dJ6_bitCount_0f7a4_11 rfl ?_
  refine zj_iand (pc' := 15) hC dJ6_bitCount_0f7a4_14 rfl ?_
  refine zj_iload_n (pc' := 16) hC dJ6_bitCount_0f7a4_15 rfl rfl (lv_at hl 0 rfl) ?_
  refine zj_iconst (pc' := 17) (v := (2 : Int32)) hC dJ6_bitCount_0f7a4_16 rfl rfl ?_
  refine zj_iushr (pc' := 18) hC dJ6_bitCount_0f7a4_17 rfl ?_
  refine zj_nmi (fun x3 => ?_)
  refine zj_ldcw (pc' := 21) (v := (858993459 : Int32)) hC tw_3_70 dJ6_bitCount_0f7a4_18 rfl ?_
  refine zj_iand (pc' := 22) hC dJ6_bitCount_0f7a4_21 rfl ?_
  refine zj_iadd (pc' := 23) hC dJ6_bitCount_0f7a4_22 rfl ?_
  refine zj_nmi (fun x4 => ?_)
  refine zj_istore_n (pc' := 24) (lv' := [(0, .int x4)]) hC dJ6_bitCount_0f7a4_23 rfl rfl hl (by decide) rfl (fun ls hl => ?_)
  refine zj_iload_n (pc' := 25) hC dJ6_bitCount_0f7a4_24 rfl rfl (lv_at hl 0 rfl) ?_
  refine zj_iload_n (pc' := 26) hC dJ6_bitCount_0f7a4_25 rfl rfl (lv_at hl 0 rfl) ?_
  refine zj_iconst (pc' := 27) (v := (4 : Int32)) hC dJ6_bitCount_0f7a4_26 rfl rfl ?_
  refine zj_iushr (pc' := 28) hC dJ6_bitCount_0f7a4_27 rfl ?_
  refine zj_nmi (fun x5 => ?_)
  refine zj_iadd (pc' := 29) hC dJ6_bitCount_0f7a4_28 rfl ?_
  refine zj_ldcw (pc' := 32) (v := (252645135 : Int32)) hC tw_3_71 dJ6_bitCount_0f7a4_29 rfl ?_
  refine zj_iand (pc' := 33) hC dJ6_bitCount_0f7a4_32 rfl ?_
  refine zj_nmi (fun x6 => ?_)
  refine zj_istore_n (pc' := 34) (lv' := [(0, .int x6)]) hC dJ6_bitCount_0f7a4_33 rfl rfl hl (by decide) rfl (fun ls hl => ?_)
  refine zj_iload_n (pc' := 35) hC dJ6_bitCount_0f7a4_34 rfl rfl (lv_at hl 0 rfl) ?_
  refine zj_iload_n (pc' := 36) hC dJ6_bitCount_0f7a4_35 rfl rfl (lv_at hl 0 rfl) ?_
  refine zj_bipush (pc' := 38) (v := (8 : Int32)) hC dJ6_bitCount_0f7a4_36 rfl rfl ?_
  refine zj_iushr (pc' := 39) hC dJ6_bitCount_0f7a4_38 rfl ?_
  refine zj_nmi (fun x7 => ?_)
  refine zj_iadd (pc' := 40) hC dJ6_bitCount_0f7a4_39 rfl ?_
  refine zj_nmi (fun x8 => ?_)
  refine zj_istore_n (pc' := 41) (lv' := [(0, .int x8)]) hC dJ6_bitCount_0f7a4_40 rfl rfl hl (by decide) rfl (fun ls hl => ?_)
  refine zj_iload_n (pc' := 42) hC dJ6_bitCount_0f7a4_41 rfl rfl (lv_at hl 0 rfl) ?_
  refine zj_iload_n (pc' := 43) hC dJ6_bitCount_0f7a4_42 rfl rfl (lv_at hl 0 rfl) ?_
  refine zj_bipush (pc' := 45) (v := (16 : Int32)) hC dJ6_bitCount_0f7a4_43 rfl rfl ?_
  refine zj_iushr (pc' := 46) hC dJ6_bitCount_0f7a4_45 rfl ?_
  refine zj_nmi (fun x9 => ?_)
  refine zj_iadd (pc' := 47) hC dJ6_bitCount_0f7a4_46 rfl ?_
  refine zj_nmi (fun x10 => ?_)
  refine zj_istore_n (pc' := 48) (lv' := [(0, .int x10)]) hC dJ6_bitCount_0f7a4_47 rfl rfl hl (by decide) rfl (fun ls hl => ?_)
  refine zj_iload_n (pc' := 49) hC dJ6_bitCount_0f7a4_48 rfl rfl (lv_at hl 0 rfl) ?_
  refine zj_bipush (pc' := 51) (v := (63 : Int32)) hC dJ6_bitCount_0f7a4_49 rfl rfl ?_
  refine zj_iand (pc' := 52) hC dJ6_bitCount_0f7a4_51 rfl ?_
  exact zj_iret hC dJ6_bitCount_0f7a4_52
-- X0_letter
theorem ddX0_letter : yX0_letter.cls ≠ "java/lang/invoke/MethodHandle" ∧ yX0_letter.cls ≠ "java/lang/invoke/VarHandle" ∧ (parseMethodDescriptor yX0_letter.desc).map (fun d => d.parameters.length) = some 2 := by decide +kernel
abbrev rmX0_letter : Room := { frames := 1, cells := 0, slots := 0, locals := 20 }
def fX0_letter (v0 : Nat) (v1 : Int32) (v2 : Int32) (σ : zS) : Option (Int32 × zS) :=
  if v2 < 0 then (some ((0 : Int32), σ)) else (if v2 < (24 : Int32) then (bnd (σ.2 v0 2) (fun (q3 : Nat) => bnd ((((σ.1 q3 2) >>> (v2 &&& 31)) &&& (1 : Int32))) (fun (x4 : Int32) => if v1 = (97 : Int32) then (zb (fJ6_bitCount_0f7a4 ((σ.1 v0 7)) σ) (fun (r7 : Int32) (σ6 : zS) => some (r7, σ6))) else (if v1 = (98 : Int32) then (zb (fJ6_bitCount_0f7a4 ((σ.1 v0 8)) σ) (fun (r10 : Int32) (σ9 : zS) => some (r10, σ9))) else (if v1 = (103 : Int32) then (if x4 = 0 then (some ((σ.1 v0 6), σ)) else (some ((σ.1 v0 5), σ))) else (if v1 = (108 : Int32) then (bnd (((((σ.1 v0 7) >>> (v2 &&& 31)) &&& (1 : Int32)) * (1 : Int32))) (fun (x14 : Int32) => bnd (((((σ.1 v0 8) >>> (v2 &&& 31)) &&& (1 : Int32)) * (2 : Int32))) (fun (x15 : Int32) => some ((x14 + x15), σ)))) else (if v1 = (110 : Int32) then (bnd (σ.2 v0 1) (fun (q17 : Nat) => zX v2 24 (zb (fJ6_bitCount_0f7a4 (((σ.1 v0 7) &&& (σ.1 q17 (v2).toNatClampNeg))) σ) (fun (r20 : Int32) (σ19 : zS) => some (r20, σ19))))) else (if v1 = (112 : Int32) then (bnd (σ.2 v0 2) (fun (q22 : Nat) => zb (fJ6_bitCount_0f7a4 ((σ.1 q22 1)) σ) (fun (r24 : Int32) (σ23 : zS) => some (r24, σ23)))) else (if v1 = (113 : Int32) then (bnd (σ.2 v0 2) (fun (q26 : Nat) => bnd (σ.2 v0 2) (fun (q27 : Nat) => bnd (σ.2 v0 1) (fun (q28 : Nat) => zX v2 24 (bnd ((((σ.1 q26 5) ||| (σ.1 q27 6)) &&& (σ.1 q28 (v2).toNatClampNeg))) (fun (x30 : Int32) => zb (fJ6_bitCount_0f7a4 x30 σ) (fun (r32 : Int32) (σ31 : zS) => some (r32, σ31)))))))) else (if v1 = (115 : Int32) then (some (v2, σ)) else (if v1 = (116 : Int32) then (some ((σ.1 v0 4), σ)) else (if v1 = (119 : Int32) then (if (σ.1 v0 3) ≤ 0 then (some ((0 : Int32), σ)) else (zV (σ.1 v0 3) (some ((v2 / (σ.1 v0 3)), σ)))) else (if v1 = (122 : Int32) then (bnd (σ.2 v0 1) (fun (q39 : Nat) => zX v2 24 (zb (fJ6_bitCount_0f7a4 (((σ.1 v0 8) &&& (σ.1 q39 (v2).toNatClampNeg))) σ) (fun (r42 : Int32) (σ41 : zS) => some (r42, σ41))))) else (some (x4, σ))))))))))))))) else (some ((0 : Int32), σ)))
set_option maxRecDepth 100000 in
set_option maxHeartbeats 4000000 in
theorem kX0_letter (l : Launch) (b0 : Nat) (cA : Nat → ClassId) (D : va_G) (L : List (Nat × Nat)) (v0 : Nat) (v1 : Int32) (v2 : Int32) (σ : zS) (hk0 : L[v0]? = some (0, 0)) : zMi l b0 cA D L yX0_letter (Cond.code yX0_letter cX0_letter 4 (some Jvm.ClassFile.FieldType.int)) rmX0_letter [.ref (b0 + v0), .int v1, .int v2] σ (fX0_letter v0 v1 v2 σ) := by
  refine zMi_of (by decide) (Nat.le_of_ble_eq_true rfl) ?_
  intro p e s m below meth c ls hC hl
  have hl : lv_has ls 4 [(0, .ref (b0 + v0)), (1, .int v1), (2, .int v2)] := hl
  generalize ([.ref (b0 + v0), .int v1, .int v2] : List Value).toArray = args at hC ⊢
  unfold fX0_letter
  refine zj_iload_n (pc' := 1) hC dX0_letter_0 rfl rfl (lv_at hl 2 rfl) ?_
  refine zj_if_lt (tgt := 10) (pc' := 4) hC dX0_letter_1 (by decide) rfl (fun c1 => ?_) (fun c1 => ?_)
  · refine zj_iconst (pc' := 11) (v := (0 : Int32)) hC dX0_letter_10 rfl rfl ?_
    exact zj_iret hC dX0_letter_11
  · refine zj_iload_n (pc' := 5) hC dX0_letter_4 rfl rfl (lv_at hl 2 rfl) ?_
    refine zj_bipush (pc' := 7) (v := (24 : Int32)) hC dX0_letter_5 rfl rfl ?_
    refine zj_icmp_lt (tgt := 12) (pc' := 10) hC dX0_letter_7 (by decide) rfl (fun c2 => ?_) (fun c2 => ?_)
    · refine zj_aload_n (pc' := 13) hC dX0_letter_12 rfl rfl (lv_at hl 0 rfl) ?_
      refine zj_getR (pc' := 16) hC hk0 fd_0_2 rfl tw_1_122 dX0_letter_13 rfl (fun q3 hk_q3 => ?_)
      refine zj_getI (pc' := 19) hC hk_q3 fd_2_2 rfl tw_1_66 dX0_letter_16 rfl ?_
      refine zj_iload_n (pc' := 20) hC dX0_letter_19 rfl rfl (lv_at hl 2 rfl) ?_
      refine zj_ishr (pc' := 21) hC dX0_letter_20 rfl ?_
      refine zj_iconst (pc' := 22) (v := (1 : Int32)) hC dX0_letter_21 rfl rfl ?_
      refine zj_iand (pc' := 23) hC dX0_letter_22 rfl ?_
      refine zj_nmi (fun x4 => ?_)
      refine zj_istore_n (pc' := 24) (lv' := [(3, .int x4), (0, .ref (b0 + v0)), (1, .int v1), (2, .int v2)]) hC dX0_letter_23 rfl rfl hl (by decide) rfl (fun ls hl => ?_)
      refine zj_iload_n (pc' := 25) hC dX0_letter_24 rfl rfl (lv_at hl 2 rfl) ?_
      refine zj_split (fun c5 => ?_) (fun c5 => ?_)
      · refine zj_tabIn (tgt := 190) 97 hC dX0_letter_25 (by rw [c5]; decide) (by decide) (by decide) rfl (by decide) ?_
        refine zj_aload_n (pc' := 191) hC dX0_letter_190 rfl rfl (lv_at hl 1 rfl) ?_
        refine zj_getI (pc' := 194) hC hk0 fd_0_7 rfl tw_1_127 dX0_letter_191 rfl ?_
        refine zj_calliS (pc' := 197) (rest := []) hC (kJ6_bitCount_0f7a4 l b0 cA D L ((σ.1 v0 7)) σ ) tw_3_68 tw_3_66 tw_3_67 tw_1_15 ddJ6_bitCount_0f7a4 rfl ⟨rfl, rfl⟩ ⟨by decide, by decide⟩ hl.1 (Nat.le_of_ble_eq_true rfl) rfl dX0_letter_194 rfl (fun r7 σ6 => ?_)
        exact zj_iret hC dX0_letter_197
      refine zj_split (fun c8 => ?_) (fun c8 => ?_)
      · refine zj_tabIn (tgt := 198) 98 hC dX0_letter_25 (by rw [c8]; decide) (by decide) (by decide) rfl (by decide) ?_
        refine zj_aload_n (pc' := 199) hC dX0_letter_198 rfl rfl (lv_at hl 1 rfl) ?_
        refine zj_getI (pc' := 202) hC hk0 fd_0_8 rfl tw_1_128 dX0_letter_199 rfl ?_
        refine zj_calliS (pc' := 205) (rest := []) hC (kJ6_bitCount_0f7a4 l b0 cA D L ((σ.1 v0 8)) σ ) tw_3_68 tw_3_66 tw_3_67 tw_1_15 ddJ6_bitCount_0f7a4 rfl ⟨rfl, rfl⟩ ⟨by decide, by decide⟩ hl.1 (Nat.le_of_ble_eq_true rfl) rfl dX0_letter_202 rfl (fun r10 σ9 => ?_)
        exact zj_iret hC dX0_letter_205
      refine zj_split (fun c11 => ?_) (fun c11 => ?_)
      · refine zj_tabIn (tgt := 144) 103 hC dX0_letter_25 (by rw [c11]; decide) (by decide) (by decide) rfl (by decide) ?_
        refine zj_iload_n (pc' := 145) hC dX0_letter_144 rfl rfl (lv_at hl 0 rfl) ?_
        refine zj_if_eq (tgt := 155) (pc' := 148) hC dX0_letter_145 (by decide) rfl (fun c12 => ?_) (fun c12 => ?_)
        · refine zj_aload_n (pc' := 156) hC dX0_letter_155 rfl rfl (lv_at hl 1 rfl) ?_
          refine zj_getI (pc' := 159) hC hk0 fd_0_6 rfl tw_1_126 dX0_letter_156 rfl ?_
          exact zj_iret hC dX0_letter_159
        · refine zj_aload_n (pc' := 149) hC dX0_letter_148 rfl rfl (lv_at hl 1 rfl) ?_
          refine zj_getI (pc' := 152) hC hk0 fd_0_5 rfl tw_1_125 dX0_letter_149 rfl ?_
          refine zj_goto (tgt := 159) hC dX0_letter_152 (by decide) ?_
          exact zj_iret hC dX0_letter_159
      refine zj_split (fun c13 => ?_) (fun c13 => ?_)
      · refine zj_tabIn (tgt := 217) 108 hC dX0_letter_25 (by rw [c13]; decide) (by decide) (by decide) rfl (by decide) ?_
        refine zj_aload_n (pc' := 218) hC dX0_letter_217 rfl rfl (lv_at hl 1 rfl) ?_
        refine zj_getI (pc' := 221) hC hk0 fd_0_7 rfl tw_1_127 dX0_letter_218 rfl ?_
        refine zj_iload_n (pc' := 222) hC dX0_letter_221 rfl rfl (lv_at hl 3 rfl) ?_
        refine zj_ishr (pc' := 223) hC dX0_letter_222 rfl ?_
        refine zj_iconst (pc' := 224) (v := (1 : Int32)) hC dX0_letter_223 rfl rfl ?_
        refine zj_iand (pc' := 225) hC dX0_letter_224 rfl ?_
        refine zj_iconst (pc' := 226) (v := (1 : Int32)) hC dX0_letter_225 rfl rfl ?_
        refine zj_imul (pc' := 227) hC dX0_letter_226 rfl ?_
        refine zj_nmi (fun x14 => ?_)
        refine zj_aload_n (pc' := 228) hC dX0_letter_227 rfl rfl (lv_at hl 1 rfl) ?_
        refine zj_getI (pc' := 231) hC hk0 fd_0_8 rfl tw_1_128 dX0_letter_228 rfl ?_
        refine zj_iload_n (pc' := 232) hC dX0_letter_231 rfl rfl (lv_at hl 3 rfl) ?_
        refine zj_ishr (pc' := 233) hC dX0_letter_232 rfl ?_
        refine zj_iconst (pc' := 234) (v := (1 : Int32)) hC dX0_letter_233 rfl rfl ?_
        refine zj_iand (pc' := 235) hC dX0_letter_234 rfl ?_
        refine zj_iconst (pc' := 236) (v := (2 : Int32)) hC dX0_letter_235 rfl rfl ?_
        refine zj_imul (pc' := 237) hC dX0_letter_236 rfl ?_
        refine zj_nmi (fun x15 => ?_)
        refine zj_iadd (pc' := 238) hC dX0_letter_237 rfl ?_
        exact zj_iret hC dX0_letter_238
      refine zj_split (fun c16 => ?_) (fun c16 => ?_)
      · refine zj_tabIn (tgt := 160) 110 hC dX0_letter_25 (by rw [c16]; decide) (by decide) (by decide) rfl (by decide) ?_
        refine zj_aload_n (pc' := 161) hC dX0_letter_160 rfl rfl (lv_at hl 1 rfl) ?_
        refine zj_getI (pc' := 164) hC hk0 fd_0_7 rfl tw_1_127 dX0_letter_161 rfl ?_
        refine zj_aload_n (pc' := 165) hC dX0_letter_164 rfl rfl (lv_at hl 1 rfl) ?_
        refine zj_getR (pc' := 168) hC hk0 fd_0_1 rfl tw_1_121 dX0_letter_165 rfl (fun q17 hk_q17 => ?_)
        refine zj_iload_n (pc' := 169) hC dX0_letter_168 rfl rfl (lv_at hl 3 rfl) ?_
        refine zj_iald (pc' := 170) hC hk_q17 dX0_letter_169 rfl (fun g18 => ?_)
        refine zj_iand (pc' := 171) hC dX0_letter_170 rfl ?_
        refine zj_calliS (pc' := 174) (rest := []) hC (kJ6_bitCount_0f7a4 l b0 cA D L (((σ.1 v0 7) &&& (σ.1 q17 (v2).toNatClampNeg))) σ ) tw_3_68 tw_3_66 tw_3_67 tw_1_15 ddJ6_bitCount_0f7a4 rfl ⟨rfl, rfl⟩ ⟨by decide, by decide⟩ hl.1 (Nat.le_of_ble_eq_true rfl) rfl dX0_letter_171 rfl (fun r20 σ19 => ?_)
        exact zj_iret hC dX0_letter_174
      refine zj_split (fun c21 => ?_) (fun c21 => ?_)
      · refine zj_tabIn (tgt := 206) 112 hC dX0_letter_25 (by rw [c21]; decide) (by decide) (by decide) rfl (by decide) ?_
        refine zj_aload_n (pc' := 207) hC dX0_letter_206 rfl rfl (lv_at hl 1 rfl) ?_
        refine zj_getR (pc' := 210) hC hk0 fd_0_2 rfl tw_1_122 dX0_letter_207 rfl (fun q22 hk_q22 => ?_)
        refine zj_getI (pc' := 213) hC hk_q22 fd_2_1 rfl tw_1_65 dX0_letter_210 rfl ?_
        refine zj_calliS (pc' := 216) (rest := []) hC (kJ6_bitCount_0f7a4 l b0 cA D L ((σ.1 q22 1)) σ ) tw_3_68 tw_3_66 tw_3_67 tw_1_15 ddJ6_bitCount_0f7a4 rfl ⟨rfl, rfl⟩ ⟨by decide, by decide⟩ hl.1 (Nat.le_of_ble_eq_true rfl) rfl dX0_letter_213 rfl (fun r24 σ23 => ?_)
        exact zj_iret hC dX0_letter_216
      refine zj_split (fun c25 => ?_) (fun c25 => ?_)
      · refine zj_tabIn (tgt := 264) 113 hC dX0_letter_25 (by rw [c25]; decide) (by decide) (by decide) rfl (by decide) ?_
        refine zj_aload_n (pc' := 265) hC dX0_letter_264 rfl rfl (lv_at hl 1 rfl) ?_
        refine zj_getR (pc' := 268) hC hk0 fd_0_2 rfl tw_1_122 dX0_letter_265 rfl (fun q26 hk_q26 => ?_)
        refine zj_getI (pc' := 271) hC hk_q26 fd_2_5 rfl tw_1_72 dX0_letter_268 rfl ?_
        refine zj_aload_n (pc' := 272) hC dX0_letter_271 rfl rfl (lv_at hl 1 rfl) ?_
        refine zj_getR (pc' := 275) hC hk0 fd_0_2 rfl tw_1_122 dX0_letter_272 rfl (fun q27 hk_q27 => ?_)
        refine zj_getI (pc' := 278) hC hk_q27 fd_2_6 rfl tw_1_75 dX0_letter_275 rfl ?_
        refine zj_ior (pc' := 279) hC dX0_letter_278 rfl ?_
        refine zj_aload_n (pc' := 280) hC dX0_letter_279 rfl rfl (lv_at hl 1 rfl) ?_
        refine zj_getR (pc' := 283) hC hk0 fd_0_1 rfl tw_1_121 dX0_letter_280 rfl (fun q28 hk_q28 => ?_)
        refine zj_iload_n (pc' := 284) hC dX0_letter_283 rfl rfl (lv_at hl 3 rfl) ?_
        refine zj_iald (pc' := 285) hC hk_q28 dX0_letter_284 rfl (fun g29 => ?_)
        refine zj_iand (pc' := 286) hC dX0_letter_285 rfl ?_
        refine zj_nmi (fun x30 => ?_)
        refine zj_calliS (pc' := 289) (rest := []) hC (kJ6_bitCount_0f7a4 l b0 cA D L x30 σ ) tw_3_68 tw_3_66 tw_3_67 tw_1_15 ddJ6_bitCount_0f7a4 rfl ⟨rfl, rfl⟩ ⟨by decide, by decide⟩ hl.1 (Nat.le_of_ble_eq_true rfl) rfl dX0_letter_286 rfl (fun r32 σ31 => ?_)
        exact zj_iret hC dX0_letter_289
      refine zj_split (fun c33 => ?_) (fun c33 => ?_)
      · refine zj_tabIn (tgt := 244) 115 hC dX0_letter_25 (by rw [c33]; decide) (by decide) (by decide) rfl (by decide) ?_
        refine zj_iload_n (pc' := 245) hC dX0_letter_244 rfl rfl (lv_at hl 3 rfl) ?_
        exact zj_iret hC dX0_letter_245
      refine zj_split (fun c34 => ?_) (fun c34 => ?_)
      · refine zj_tabIn (tgt := 239) 116 hC dX0_letter_25 (by rw [c34]; decide) (by decide) (by decide) rfl (by decide) ?_
        refine zj_aload_n (pc' := 240) hC dX0_letter_239 rfl rfl (lv_at hl 1 rfl) ?_
        refine zj_getI (pc' := 243) hC hk0 fd_0_4 rfl tw_1_124 dX0_letter_240 rfl ?_
        exact zj_iret hC dX0_letter_243
      refine zj_split (fun c35 => ?_) (fun c35 => ?_)
      · refine zj_tabIn (tgt := 246) 119 hC dX0_letter_25 (by rw [c35]; decide) (by decide) (by decide) rfl (by decide) ?_
        refine zj_aload_n (pc' := 247) hC dX0_letter_246 rfl rfl (lv_at hl 1 rfl) ?_
        refine zj_getI (pc' := 250) hC hk0 fd_0_3 rfl tw_1_123 dX0_letter_247 rfl ?_
        refine zj_if_le (tgt := 262) (pc' := 253) hC dX0_letter_250 (by decide) rfl (fun c36 => ?_) (fun c36 => ?_)
        · refine zj_iconst (pc' := 263) (v := (0 : Int32)) hC dX0_letter_262 rfl rfl ?_
          exact zj_iret hC dX0_letter_263
        · refine zj_iload_n (pc' := 254) hC dX0_letter_253 rfl rfl (lv_at hl 3 rfl) ?_
          refine zj_aload_n (pc' := 255) hC dX0_letter_254 rfl rfl (lv_at hl 1 rfl) ?_
          refine zj_getI (pc' := 258) hC hk0 fd_0_3 rfl tw_1_123 dX0_letter_255 rfl ?_
          refine zj_idiv (pc' := 259) hC dX0_letter_258 rfl (fun g37 => ?_)
          refine zj_goto (tgt := 263) hC dX0_letter_259 (by decide) ?_
          exact zj_iret hC dX0_letter_263
      refine zj_split (fun c38 => ?_) (fun c38 => ?_)
      · refine zj_tabIn (tgt := 175) 122 hC dX0_letter_25 (by rw [c38]; decide) (by decide) (by decide) rfl (by decide) ?_
        refine zj_aload_n (pc' := 176) hC dX0_letter_175 rfl rfl (lv_at hl 1 rfl) ?_
        refine zj_getI (pc' := 179) hC hk0 fd_0_8 rfl tw_1_128 dX0_letter_176 rfl ?_
        refine zj_aload_n (pc' := 180) hC dX0_letter_179 rfl rfl (lv_at hl 1 rfl) ?_
        refine zj_getR (pc' := 183) hC hk0 fd_0_1 rfl tw_1_121 dX0_letter_180 rfl (fun q39 hk_q39 => ?_)
        refine zj_iload_n (pc' := 184) hC dX0_letter_183 rfl rfl (lv_at hl 3 rfl) ?_
        refine zj_iald (pc' := 185) hC hk_q39 dX0_letter_184 rfl (fun g40 => ?_)
        refine zj_iand (pc' := 186) hC dX0_letter_185 rfl ?_
        refine zj_calliS (pc' := 189) (rest := []) hC (kJ6_bitCount_0f7a4 l b0 cA D L (((σ.1 v0 8) &&& (σ.1 q39 (v2).toNatClampNeg))) σ ) tw_3_68 tw_3_66 tw_3_67 tw_1_15 ddJ6_bitCount_0f7a4 rfl ⟨rfl, rfl⟩ ⟨by decide, by decide⟩ hl.1 (Nat.le_of_ble_eq_true rfl) rfl dX0_letter_186 rfl (fun r42 σ41 => ?_)
        exact zj_iret hC dX0_letter_189
      refine zj_tabD (tgt := 290) [0, 1, 6, 11, 13, 15, 16, 18, 19, 22, 25] 26 hC dX0_letter_25 (by decide) (by decide) (List.forall_mem_cons.mpr ⟨lv_neT c5 (by decide), List.forall_mem_cons.mpr ⟨lv_neT c8 (by decide), List.forall_mem_cons.mpr ⟨lv_neT c11 (by decide), List.forall_mem_cons.mpr ⟨lv_neT c13 (by decide), List.forall_mem_cons.mpr ⟨lv_neT c16 (by decide), List.forall_mem_cons.mpr ⟨lv_neT c21 (by decide), List.forall_mem_cons.mpr ⟨lv_neT c25 (by decide), List.forall_mem_cons.mpr ⟨lv_neT c33 (by decide), List.forall_mem_cons.mpr ⟨lv_neT c34 (by decide), List.forall_mem_cons.mpr ⟨lv_neT c35 (by decide), List.forall_mem_cons.mpr ⟨lv_neT c38 (by decide), fun _ h => absurd h List.not_mem_nil⟩⟩⟩⟩⟩⟩⟩⟩⟩⟩⟩) (by decide) ?_
      refine zj_iload_n (pc' := 291) hC dX0_letter_290 rfl rfl (lv_at hl 0 rfl) ?_
      exact zj_iret hC dX0_letter_291
    · refine zj_iconst (pc' := 11) (v := (0 : Int32)) hC dX0_letter_10 rfl rfl ?_
      exact zj_iret hC dX0_letter_11
-- X0_reckon
theorem ddX0_reckon : yX0_reckon.cls ≠ "java/lang/invoke/MethodHandle" ∧ yX0_reckon.cls ≠ "java/lang/invoke/VarHandle" ∧ (parseMethodDescriptor yX0_reckon.desc).map (fun d => d.parameters.length) = some 3 := by decide +kernel
abbrev rmX0_reckon : Room := { frames := 0, cells := 0, slots := 0, locals := 0 }
def fX0_reckon (v0 : Int32) (v1 : Int32) (v2 : Int32) (σ : zS) : Option (Int32 × zS) :=
  if v0 = (7 : Int32) then (some ((v1 + v2), σ)) else (if v0 = (8 : Int32) then (some ((v1 - v2), σ)) else (if v0 = (9 : Int32) then (some ((v1 * v2), σ)) else (if v0 = (10 : Int32) then (if v2 = 0 then (some ((0 : Int32), σ)) else (zV v2 (some ((v1 / v2), σ)))) else (if v0 = (11 : Int32) then (if v2 = 0 then (some ((0 : Int32), σ)) else (zV v2 (some ((v1 - v1 / v2 * v2), σ)))) else (if v0 = (12 : Int32) then (if v2 ≤ v1 then (some ((0 : Int32), σ)) else (some ((1 : Int32), σ))) else (if v0 = (13 : Int32) then (if v1 ≤ v2 then (some ((0 : Int32), σ)) else (some ((1 : Int32), σ))) else (if v1 = v2 then (some ((1 : Int32), σ)) else (some ((0 : Int32), σ)))))))))
set_option maxRecDepth 100000 in
set_option maxHeartbeats 4000000 in
theorem kX0_reckon (l : Launch) (b0 : Nat) (cA : Nat → ClassId) (D : va_G) (L : List (Nat × Nat)) (v0 : Int32) (v1 : Int32) (v2 : Int32) (σ : zS)  : zMi l b0 cA D L yX0_reckon (Cond.code yX0_reckon cX0_reckon 3 (some Jvm.ClassFile.FieldType.int)) rmX0_reckon [.int v0, .int v1, .int v2] σ (fX0_reckon v0 v1 v2 σ) := by
  refine zMi_of (by decide) (Nat.le_of_ble_eq_true rfl) ?_
  intro p e s m below meth c ls hC hl
  have hl : lv_has ls 3 [(0, .int v0), (1, .int v1), (2, .int v2)] := hl
  generalize ([.int v0, .int v1, .int v2] : List Value).toArray = args at hC ⊢
  unfold fX0_reckon
  refine zj_iload_n (pc' := 1) hC dX0_reckon_0 rfl rfl (lv_at hl 0 rfl) ?_
  refine zj_split (fun c1 => ?_) (fun c1 => ?_)
  · refine zj_tabIn (tgt := 44) 7 hC dX0_reckon_1 (by rw [c1]; decide) (by decide) (by decide) rfl (by decide) ?_
    refine zj_iload_n (pc' := 45) hC dX0_reckon_44 rfl rfl (lv_at hl 1 rfl) ?_
    refine zj_iload_n (pc' := 46) hC dX0_reckon_45 rfl rfl (lv_at hl 2 rfl) ?_
    refine zj_iadd (pc' := 47) hC dX0_reckon_46 rfl ?_
    exact zj_iret hC dX0_reckon_47
  refine zj_split (fun c2 => ?_) (fun c2 => ?_)
  · refine zj_tabIn (tgt := 48) 8 hC dX0_reckon_1 (by rw [c2]; decide) (by decide) (by decide) rfl (by decide) ?_
    refine zj_iload_n (pc' := 49) hC dX0_reckon_48 rfl rfl (lv_at hl 1 rfl) ?_
    refine zj_iload_n (pc' := 50) hC dX0_reckon_49 rfl rfl (lv_at hl 2 rfl) ?_
    refine zj_isub (pc' := 51) hC dX0_reckon_50 rfl ?_
    exact zj_iret hC dX0_reckon_51
  refine zj_split (fun c3 => ?_) (fun c3 => ?_)
  · refine zj_tabIn (tgt := 52) 9 hC dX0_reckon_1 (by rw [c3]; decide) (by decide) (by decide) rfl (by decide) ?_
    refine zj_iload_n (pc' := 53) hC dX0_reckon_52 rfl rfl (lv_at hl 1 rfl) ?_
    refine zj_iload_n (pc' := 54) hC dX0_reckon_53 rfl rfl (lv_at hl 2 rfl) ?_
    refine zj_imul (pc' := 55) hC dX0_reckon_54 rfl ?_
    exact zj_iret hC dX0_reckon_55
  refine zj_split (fun c4 => ?_) (fun c4 => ?_)
  · refine zj_tabIn (tgt := 56) 10 hC dX0_reckon_1 (by rw [c4]; decide) (by decide) (by decide) rfl (by decide) ?_
    refine zj_iload_n (pc' := 57) hC dX0_reckon_56 rfl rfl (lv_at hl 2 rfl) ?_
    refine zj_if_ne (tgt := 64) (pc' := 60) hC dX0_reckon_57 (by decide) rfl (fun c5 => ?_) (fun c5 => ?_)
    · refine zj_iload_n (pc' := 65) hC dX0_reckon_64 rfl rfl (lv_at hl 1 rfl) ?_
      refine zj_iload_n (pc' := 66) hC dX0_reckon_65 rfl rfl (lv_at hl 2 rfl) ?_
      refine zj_idiv (pc' := 67) hC dX0_reckon_66 rfl (fun g6 => ?_)
      exact zj_iret hC dX0_reckon_67
    · refine zj_iconst (pc' := 61) (v := (0 : Int32)) hC dX0_reckon_60 rfl rfl ?_
      refine zj_goto (tgt := 67) hC dX0_reckon_61 (by decide) ?_
      exact zj_iret hC dX0_reckon_67
  refine zj_split (fun c7 => ?_) (fun c7 => ?_)
  · refine zj_tabIn (tgt := 68) 11 hC dX0_reckon_1 (by rw [c7]; decide) (by decide) (by decide) rfl (by decide) ?_
    refine zj_iload_n (pc' := 69) hC dX0_reckon_68 rfl rfl (lv_at hl 2 rfl) ?_
    refine zj_if_ne (tgt := 76) (pc' := 72) hC dX0_reckon_69 (by decide) rfl (fun c8 => ?_) (fun c8 => ?_)
    · refine zj_iload_n (pc' := 77) hC dX0_reckon_76 rfl rfl (lv_at hl 1 rfl) ?_
      refine zj_iload_n (pc' := 78) hC dX0_reckon_77 rfl rfl (lv_at hl 2 rfl) ?_
      refine zj_irem (pc' := 79) hC dX0_reckon_78 rfl (fun g9 => ?_)
      exact zj_iret hC dX0_reckon_79
    · refine zj_iconst (pc' := 73) (v := (0 : Int32)) hC dX0_reckon_72 rfl rfl ?_
      refine zj_goto (tgt := 79) hC dX0_reckon_73 (by decide) ?_
      exact zj_iret hC dX0_reckon_79
  refine zj_split (fun c10 => ?_) (fun c10 => ?_)
  · refine zj_tabIn (tgt := 80) 12 hC dX0_reckon_1 (by rw [c10]; decide) (by decide) (by decide) rfl (by decide) ?_
    refine zj_iload_n (pc' := 81) hC dX0_reckon_80 rfl rfl (lv_at hl 1 rfl) ?_
    refine zj_iload_n (pc' := 82) hC dX0_reckon_81 rfl rfl (lv_at hl 2 rfl) ?_
    refine zj_icmp_ge (tgt := 89) (pc' := 85) hC dX0_reckon_82 (by decide) rfl (fun c11 => ?_) (fun c11 => ?_)
    · refine zj_iconst (pc' := 90) (v := (0 : Int32)) hC dX0_reckon_89 rfl rfl ?_
      exact zj_iret hC dX0_reckon_90
    · refine zj_iconst (pc' := 86) (v := (1 : Int32)) hC dX0_reckon_85 rfl rfl ?_
      refine zj_goto (tgt := 90) hC dX0_reckon_86 (by decide) ?_
      exact zj_iret hC dX0_reckon_90
  refine zj_split (fun c12 => ?_) (fun c12 => ?_)
  · refine zj_tabIn (tgt := 91) 13 hC dX0_reckon_1 (by rw [c12]; decide) (by decide) (by decide) rfl (by decide) ?_
    refine zj_iload_n (pc' := 92) hC dX0_reckon_91 rfl rfl (lv_at hl 1 rfl) ?_
    refine zj_iload_n (pc' := 93) hC dX0_reckon_92 rfl rfl (lv_at hl 2 rfl) ?_
    refine zj_icmp_le (tgt := 100) (pc' := 96) hC dX0_reckon_93 (by decide) rfl (fun c13 => ?_) (fun c13 => ?_)
    · refine zj_iconst (pc' := 101) (v := (0 : Int32)) hC dX0_reckon_100 rfl rfl ?_
      exact zj_iret hC dX0_reckon_101
    · refine zj_iconst (pc' := 97) (v := (1 : Int32)) hC dX0_reckon_96 rfl rfl ?_
      refine zj_goto (tgt := 101) hC dX0_reckon_97 (by decide) ?_
      exact zj_iret hC dX0_reckon_101
  refine zj_tabD (tgt := 102) [0, 1, 2, 3, 4, 5, 6] 7 hC dX0_reckon_1 (by decide) (by decide) (List.forall_mem_cons.mpr ⟨lv_neT c1 (by decide), List.forall_mem_cons.mpr ⟨lv_neT c2 (by decide), List.forall_mem_cons.mpr ⟨lv_neT c3 (by decide), List.forall_mem_cons.mpr ⟨lv_neT c4 (by decide), List.forall_mem_cons.mpr ⟨lv_neT c7 (by decide), List.forall_mem_cons.mpr ⟨lv_neT c10 (by decide), List.forall_mem_cons.mpr ⟨lv_neT c12 (by decide), fun _ h => absurd h List.not_mem_nil⟩⟩⟩⟩⟩⟩⟩) (by decide) ?_
  refine zj_iload_n (pc' := 103) hC dX0_reckon_102 rfl rfl (lv_at hl 1 rfl) ?_
  refine zj_iload_n (pc' := 104) hC dX0_reckon_103 rfl rfl (lv_at hl 2 rfl) ?_
  refine zj_icmp_ne (tgt := 111) (pc' := 107) hC dX0_reckon_104 (by decide) rfl (fun c14 => ?_) (fun c14 => ?_)
  · refine zj_iconst (pc' := 112) (v := (0 : Int32)) hC dX0_reckon_111 rfl rfl ?_
    exact zj_iret hC dX0_reckon_112
  · refine zj_iconst (pc' := 108) (v := (1 : Int32)) hC dX0_reckon_107 rfl rfl ?_
    refine zj_goto (tgt := 112) hC dX0_reckon_108 (by decide) ?_
    exact zj_iret hC dX0_reckon_112
-- X0_ask
theorem ddX0_ask : yX0_ask.cls ≠ "java/lang/invoke/MethodHandle" ∧ yX0_ask.cls ≠ "java/lang/invoke/VarHandle" ∧ (parseMethodDescriptor yX0_ask.desc).map (fun d => d.parameters.length) = some 2 := by decide +kernel
abbrev rmX0_ask : Room := { frames := 2, cells := 0, slots := 0, locals := 43 }
def bX0_ask_321 (k11 : Nat → Nat → Int32 → Int32 → Int32 → Int32 → Int32 → zS → Option (Int32 × zS)) (v0 : Nat) (v1 : Nat) (v2 : Int32) (v3 : Int32) (v4 : Int32) (v5 : Int32) (v6 : Int32) (σ : zS) : Option (Int32 × zS) :=
  k11 v0 v1 v2 v3 v4 v5 ((v6 + (1 : Int32))) σ
def bX0_ask_288 (k321 : Nat → Nat → Int32 → Int32 → Int32 → Int32 → Int32 → zS → Option (Int32 × zS)) (v0 : Nat) (v1 : Nat) (v2 : Int32) (v3 : Int32) (v4 : Int32) (v5 : Int32) (v6 : Int32) (v7 : Int32) (σ : zS) : Option (Int32 × zS) :=
  bnd (σ.2 v0 0) (fun (q1 : Nat) => bnd (σ.2 v0 0) (fun (q2 : Nat) => zX ((v4 + (-1 : Int32)) - (1 : Int32)) 40 (bnd (σ.2 v0 0) (fun (q4 : Nat) => zX (v4 + (-1 : Int32)) 40 (zb (fX0_reckon v7 ((σ.1 q2 (((v4 + (-1 : Int32)) - (1 : Int32))).toNatClampNeg)) ((σ.1 q4 ((v4 + (-1 : Int32))).toNatClampNeg)) σ) (fun (r7 : Int32) (σ6 : zS) => zX ((v4 + (-1 : Int32)) - (1 : Int32)) 40 (bnd (zI σ6 q1 (((v4 + (-1 : Int32)) - (1 : Int32))).toNatClampNeg r7) (fun (σ9 : zS) => k321 v0 v1 v2 v3 ((v4 + (-1 : Int32))) v5 v6 σ9))))))))
def bX0_ask_279 (k321 : Nat → Nat → Int32 → Int32 → Int32 → Int32 → Int32 → zS → Option (Int32 × zS)) (v0 : Nat) (v1 : Nat) (v2 : Int32) (v3 : Int32) (v6 : Int32) (σ : zS) : Option (Int32 × zS) :=
  k321 v0 v1 v2 v3 (2 : Int32) v3 v6 σ
def bX0_ask_237 (k321 : Nat → Nat → Int32 → Int32 → Int32 → Int32 → Int32 → zS → Option (Int32 × zS)) (v0 : Nat) (v1 : Nat) (v2 : Int32) (v3 : Int32) (v4 : Int32) (v5 : Int32) (v6 : Int32) (v8 : Int32) (s0 : Int32) (s1 : Int32) (σ : zS) : Option (Int32 × zS) :=
  if s0 = s1 then (k321 v0 v1 v2 v3 v4 v8 v6 σ) else (k321 v0 v1 v2 v3 ((v4 + (-1 : Int32))) v5 v6 σ)
def bX0_ask_225 (k321 : Nat → Nat → Int32 → Int32 → Int32 → Int32 → Int32 → zS → Option (Int32 × zS)) (v0 : Nat) (v1 : Nat) (v2 : Int32) (v3 : Int32) (v4 : Int32) (v5 : Int32) (v6 : Int32) (v7 : Int32) (v8 : Int32) (s0 : Int32) (σ : zS) : Option (Int32 × zS) :=
  if v7 = (6 : Int32) then (bX0_ask_237 k321 v0 v1 v2 v3 v4 v5 v6 v8 s0 (1 : Int32) σ) else (bX0_ask_237 k321 v0 v1 v2 v3 v4 v5 v6 v8 s0 (0 : Int32) σ)
def bX0_ask_11 (k11 : Nat → Nat → Int32 → Int32 → Int32 → Int32 → Int32 → zS → Option (Int32 × zS)) (v0 : Nat) (v1 : Nat) (v2 : Int32) (v3 : Int32) (v4 : Int32) (v5 : Int32) (v6 : Int32) (σ : zS) : Option (Int32 × zS) :=
  if (128 : Int32) ≤ v6 then (some ((0 : Int32), σ)) else (if v5 < 0 then (some ((0 : Int32), σ)) else (if (σ.1 v1 1) ≤ v5 then (some ((0 : Int32), σ)) else (if (128 : Int32) ≤ v5 then (some ((0 : Int32), σ)) else (if v4 < (2 : Int32) then (some ((0 : Int32), σ)) else (if v4 < (40 : Int32) then (bnd (σ.2 v1 0) (fun (q18 : Nat) => zX v5 128 (bnd (((σ.1 q18 (v5).toNatClampNeg) &&& (15 : Int32))) (fun (x20 : Int32) => bnd (σ.2 v1 0) (fun (q21 : Nat) => zX v5 128 (bnd (((σ.1 q21 (v5).toNatClampNeg) >>> ((4 : Int32) &&& 31))) (fun (x23 : Int32) => if x20 = (0 : Int32) then (bX0_ask_321 k11 v0 v1 v2 x23 v4 ((v5 + (1 : Int32))) v6 σ) else (if x20 = (1 : Int32) then (bnd (σ.2 v0 0) (fun (q26 : Nat) => zX (v4 + (-1 : Int32)) 40 (if (σ.1 q26 ((v4 + (-1 : Int32))).toNatClampNeg) = 0 then (bX0_ask_321 k11 v0 v1 v2 v3 ((v4 + (-1 : Int32))) ((v5 + (1 : Int32))) v6 σ) else (some (x23, σ))))) else (if x20 = (2 : Int32) then (bnd (σ.2 v0 0) (fun (q30 : Nat) => zX v4 40 (bnd (zI σ q30 (v4).toNatClampNeg x23) (fun (σ32 : zS) => bX0_ask_321 k11 v0 v1 v2 v3 ((v4 + (1 : Int32))) ((v5 + (1 : Int32))) v6 σ32)))) else (if x20 = (3 : Int32) then (bnd (σ.2 v0 0) (fun (q34 : Nat) => zb (fX0_letter v0 x23 v2 σ) (fun (r36 : Int32) (σ35 : zS) => zX v4 40 (bnd (zI σ35 q34 (v4).toNatClampNeg r36) (fun (σ38 : zS) => bX0_ask_321 k11 v0 v1 v2 v3 ((v4 + (1 : Int32))) ((v5 + (1 : Int32))) v6 σ38))))) else (if x20 = (4 : Int32) then (bnd (σ.2 v0 0) (fun (q40 : Nat) => bnd (σ.2 v0 0) (fun (q41 : Nat) => zX (v4 - (1 : Int32)) 40 (zX (v4 - (1 : Int32)) 40 (bnd (zI σ q40 ((v4 - (1 : Int32))).toNatClampNeg ((1 : Int32) - (σ.1 q41 ((v4 - (1 : Int32))).toNatClampNeg))) (fun (σ44 : zS) => bX0_ask_321 k11 v0 v1 v2 v3 v4 ((v5 + (1 : Int32))) v6 σ44)))))) else (if x20 = (5 : Int32) then (bnd (σ.2 v0 0) (fun (q46 : Nat) => zX (v4 - (1 : Int32)) 40 (if (σ.1 q46 ((v4 - (1 : Int32))).toNatClampNeg) = 0 then (bX0_ask_225 (bX0_ask_321 k11) v0 v1 v2 v3 v4 ((v5 + (1 : Int32))) v6 x20 x23 (0 : Int32) σ) else (bX0_ask_225 (bX0_ask_321 k11) v0 v1 v2 v3 v4 ((v5 + (1 : Int32))) v6 x20 x23 (1 : Int32) σ)))) else (if x20 = (6 : Int32) then (bnd (σ.2 v0 0) (fun (q50 : Nat) => zX (v4 - (1 : Int32)) 40 (if (σ.1 q50 ((v4 - (1 : Int32))).toNatClampNeg) = 0 then (bX0_ask_225 (bX0_ask_321 k11) v0 v1 v2 v3 v4 ((v5 + (1 : Int32))) v6 x20 x23 (0 : Int32) σ) else (bX0_ask_225 (bX0_ask_321 k11) v0 v1 v2 v3 v4 ((v5 + (1 : Int32))) v6 x20 x23 (1 : Int32) σ)))) else (bnd (σ.2 v0 0) (fun (q53 : Nat) => zX (v4 - (1 : Int32)) 40 (if (σ.1 q53 ((v4 - (1 : Int32))).toNatClampNeg) = 0 then (if x20 = (10 : Int32) then (bX0_ask_279 (bX0_ask_321 k11) v0 v1 v2 v3 v6 σ) else (if x20 = (11 : Int32) then (bX0_ask_279 (bX0_ask_321 k11) v0 v1 v2 v3 v6 σ) else (bX0_ask_288 (bX0_ask_321 k11) v0 v1 v2 v3 v4 ((v5 + (1 : Int32))) v6 x20 σ))) else (bX0_ask_288 (bX0_ask_321 k11) v0 v1 v2 v3 v4 ((v5 + (1 : Int32))) v6 x20 σ))))))))))))))))) else (some ((0 : Int32), σ)))))))
def fX0_ask_11  : Nat → Nat → Nat → Int32 → Int32 → Int32 → Int32 → Int32 → zS → Option (Int32 × zS)
  | 0, _, _, _, _, _, _, _, _ => none
  | n + 1, v0, v1, v2, v3, v4, v5, v6, σ => bX0_ask_11 (fX0_ask_11  n) v0 v1 v2 v3 v4 v5 v6 σ
def fX0_ask (v0 : Nat) (v1 : Nat) (v2 : Int32) (σ : zS) : Option (Int32 × zS) :=
  fX0_ask_11 zFU v0 v1 v2 (0 : Int32) (2 : Int32) (0 : Int32) (0 : Int32) σ
set_option maxRecDepth 100000 in
set_option maxHeartbeats 4000000 in
theorem jX0_ask_321 {p : Program} {l : Launch} {e : Env} {s : State} {m : MethodId} {args : Array Value} {below : List Frame} {meth : Method} {c : Code} {b0 : Nat} {cA : Nat → ClassId} {D : va_G} {L : List (Nat × Nat)} (hC : zC p c s m args meth cX0_ask 9 (some Jvm.ClassFile.FieldType.int) (Cond.code yX0_ask cX0_ask 9 (some Jvm.ClassFile.FieldType.int)) yX0_ask.cls cA D) (k11 : Nat → Nat → Int32 → Int32 → Int32 → Int32 → Int32 → zS → Option (Int32 × zS)) (h11 : ∀ (v0 : Nat) (v1 : Nat) (v2 : Int32) (v3 : Int32) (v4 : Int32) (v5 : Int32) (v6 : Int32) (σ : zS) (ls : Array Slot), L[v0]? = some (0, 0) → L[v1]? = some (0, 4) → lv_has ls 9 [(0, .ref (b0 + v0)), (1, .ref (b0 + v1)), (2, .int v2), (3, .int v3), (4, .int v4), (5, .int v5), (6, .int v6)] → zJ p l e rmX0_ask s m args below meth c b0 cA D L (fun z => MQ below (va_Qi (fun (r : Int32) (u : zS) => (r, u) = z) (zB b0 cA D L) (zA b0 L)) args s 0 0 (zA b0 L)) (k11 v0 v1 v2 v3 v4 v5 v6 σ) σ 11 ls []) (v0 : Nat) (v1 : Nat) (v2 : Int32) (v3 : Int32) (v4 : Int32) (v5 : Int32) (v6 : Int32) (σ : zS) (ls : Array Slot) (hk_v0 : L[v0]? = some (0, 0)) (hk_v1 : L[v1]? = some (0, 4)) (hl : lv_has ls 9 [(0, .ref (b0 + v0)), (1, .ref (b0 + v1)), (2, .int v2), (3, .int v3), (4, .int v4), (5, .int v5), (6, .int v6)]) : zJ p l e rmX0_ask s m args below meth c b0 cA D L (fun z => MQ below (va_Qi (fun (r : Int32) (u : zS) => (r, u) = z) (zB b0 cA D L) (zA b0 L)) args s 0 0 (zA b0 L)) (bX0_ask_321 k11 v0 v1 v2 v3 v4 v5 v6 σ) σ 321 ls [] := by
  unfold bX0_ask_321
  refine zj_iinc (pc' := 324) (k0 := 6) (v := (v6 + (1 : Int32))) (lv' := [(6, .int (v6 + (1 : Int32))), (0, .ref (b0 + v0)), (1, .ref (b0 + v1)), (2, .int v2), (3, .int v3), (4, .int v4), (5, .int v5)]) hC dX0_ask_321 rfl hl rfl rfl (by decide) rfl (fun ls hl => ?_)
  refine zj_goto (tgt := 11) hC dX0_ask_324 (by decide) ?_
  exact h11 v0 v1 v2 v3 v4 v5 ((v6 + (1 : Int32))) σ ls hk_v0 hk_v1 (lv_sub hl [1, 2, 3, 4, 5, 6, 0] rfl)
set_option maxRecDepth 100000 in
set_option maxHeartbeats 4000000 in
theorem jX0_ask_288 {p : Program} {l : Launch} {e : Env} {s : State} {m : MethodId} {args : Array Value} {below : List Frame} {meth : Method} {c : Code} {b0 : Nat} {cA : Nat → ClassId} {D : va_G} {L : List (Nat × Nat)} (hC : zC p c s m args meth cX0_ask 9 (some Jvm.ClassFile.FieldType.int) (Cond.code yX0_ask cX0_ask 9 (some Jvm.ClassFile.FieldType.int)) yX0_ask.cls cA D) (k321 : Nat → Nat → Int32 → Int32 → Int32 → Int32 → Int32 → zS → Option (Int32 × zS)) (h321 : ∀ (v0 : Nat) (v1 : Nat) (v2 : Int32) (v3 : Int32) (v4 : Int32) (v5 : Int32) (v6 : Int32) (σ : zS) (ls : Array Slot), L[v0]? = some (0, 0) → L[v1]? = some (0, 4) → lv_has ls 9 [(0, .ref (b0 + v0)), (1, .ref (b0 + v1)), (2, .int v2), (3, .int v3), (4, .int v4), (5, .int v5), (6, .int v6)] → zJ p l e rmX0_ask s m args below meth c b0 cA D L (fun z => MQ below (va_Qi (fun (r : Int32) (u : zS) => (r, u) = z) (zB b0 cA D L) (zA b0 L)) args s 0 0 (zA b0 L)) (k321 v0 v1 v2 v3 v4 v5 v6 σ) σ 321 ls []) (v0 : Nat) (v1 : Nat) (v2 : Int32) (v3 : Int32) (v4 : Int32) (v5 : Int32) (v6 : Int32) (v7 : Int32) (σ : zS) (ls : Array Slot) (hk_v0 : L[v0]? = some (0, 0)) (hk_v1 : L[v1]? = some (0, 4)) (hl : lv_has ls 9 [(0, .ref (b0 + v0)), (1, .ref (b0 + v1)), (2, .int v2), (3, .int v3), (4, .int v4), (5, .int v5), (6, .int v6), (7, .int v7)]) : zJ p l e rmX0_ask s m args below meth c b0 cA D L (fun z => MQ below (va_Qi (fun (r : Int32) (u : zS) => (r, u) = z) (zB b0 cA D L) (zA b0 L)) args s 0 0 (zA b0 L)) (bX0_ask_288 k321 v0 v1 v2 v3 v4 v5 v6 v7 σ) σ 288 ls [] := by
  unfold bX0_ask_288
  refine zj_iinc (pc' := 291) (k0 := 4) (v := (v4 + (-1 : Int32))) (lv' := [(4, .int (v4 + (-1 : Int32))), (0, .ref (b0 + v0)), (1, .ref (b0 + v1)), (2, .int v2), (3, .int v3), (5, .int v5), (6, .int v6), (7, .int v7)]) hC dX0_ask_288 rfl hl rfl rfl (by decide) rfl (fun ls hl => ?_)
  refine zj_aload_n (pc' := 292) hC dX0_ask_291 rfl rfl (lv_at hl 1 rfl) ?_
  refine zj_getR (pc' := 295) hC hk_v0 fd_0_0 rfl tw_1_120 dX0_ask_292 rfl (fun q1 hk_q1 => ?_)
  refine zj_iload (pc' := 297) hC dX0_ask_295 rfl (lv_at hl 0 rfl) ?_
  refine zj_iconst (pc' := 298) (v := (1 : Int32)) hC dX0_ask_297 rfl rfl ?_
  refine zj_isub (pc' := 299) hC dX0_ask_298 rfl ?_
  refine zj_iload (pc' := 301) hC dX0_ask_299 rfl (lv_at hl 7 rfl) ?_
  refine zj_aload_n (pc' := 302) hC dX0_ask_301 rfl rfl (lv_at hl 1 rfl) ?_
  refine zj_getR (pc' := 305) hC hk_v0 fd_0_0 rfl tw_1_120 dX0_ask_302 rfl (fun q2 hk_q2 => ?_)
  refine zj_iload (pc' := 307) hC dX0_ask_305 rfl (lv_at hl 0 rfl) ?_
  refine zj_iconst (pc' := 308) (v := (1 : Int32)) hC dX0_ask_307 rfl rfl ?_
  refine zj_isub (pc' := 309) hC dX0_ask_308 rfl ?_
  refine zj_iald (pc' := 310) hC hk_q2 dX0_ask_309 rfl (fun g3 => ?_)
  refine zj_aload_n (pc' := 311) hC dX0_ask_310 rfl rfl (lv_at hl 1 rfl) ?_
  refine zj_getR (pc' := 314) hC hk_v0 fd_0_0 rfl tw_1_120 dX0_ask_311 rfl (fun q4 hk_q4 => ?_)
  refine zj_iload (pc' := 316) hC dX0_ask_314 rfl (lv_at hl 0 rfl) ?_
  refine zj_iald (pc' := 317) hC hk_q4 dX0_ask_316 rfl (fun g5 => ?_)
  refine zj_calliS (pc' := 320) (rest := [.int ((v4 + (-1 : Int32)) - (1 : Int32)), .ref (b0 + q1)]) hC (kX0_reckon l b0 cA D L v7 ((σ.1 q2 (((v4 + (-1 : Int32)) - (1 : Int32))).toNatClampNeg)) ((σ.1 q4 ((v4 + (-1 : Int32))).toNatClampNeg)) σ ) tw_3_74 tw_3_72 tw_3_73 tw_1_5 ddX0_reckon rfl ⟨rfl, rfl⟩ ⟨by decide, by decide⟩ hl.1 (Nat.le_of_ble_eq_true rfl) rfl dX0_ask_317 rfl (fun r7 σ6 => ?_)
  refine zj_iast (pc' := 321) hC hk_q1 dX0_ask_320 rfl (fun g8 σ9 => ?_)
  exact h321 v0 v1 v2 v3 ((v4 + (-1 : Int32))) v5 v6 σ9 ls hk_v0 hk_v1 (lv_sub hl [1, 2, 3, 4, 0, 5, 6] rfl)
set_option maxRecDepth 100000 in
set_option maxHeartbeats 4000000 in
theorem jX0_ask_279 {p : Program} {l : Launch} {e : Env} {s : State} {m : MethodId} {args : Array Value} {below : List Frame} {meth : Method} {c : Code} {b0 : Nat} {cA : Nat → ClassId} {D : va_G} {L : List (Nat × Nat)} (hC : zC p c s m args meth cX0_ask 9 (some Jvm.ClassFile.FieldType.int) (Cond.code yX0_ask cX0_ask 9 (some Jvm.ClassFile.FieldType.int)) yX0_ask.cls cA D) (k321 : Nat → Nat → Int32 → Int32 → Int32 → Int32 → Int32 → zS → Option (Int32 × zS)) (h321 : ∀ (v0 : Nat) (v1 : Nat) (v2 : Int32) (v3 : Int32) (v4 : Int32) (v5 : Int32) (v6 : Int32) (σ : zS) (ls : Array Slot), L[v0]? = some (0, 0) → L[v1]? = some (0, 4) → lv_has ls 9 [(0, .ref (b0 + v0)), (1, .ref (b0 + v1)), (2, .int v2), (3, .int v3), (4, .int v4), (5, .int v5), (6, .int v6)] → zJ p l e rmX0_ask s m args below meth c b0 cA D L (fun z => MQ below (va_Qi (fun (r : Int32) (u : zS) => (r, u) = z) (zB b0 cA D L) (zA b0 L)) args s 0 0 (zA b0 L)) (k321 v0 v1 v2 v3 v4 v5 v6 σ) σ 321 ls []) (v0 : Nat) (v1 : Nat) (v2 : Int32) (v3 : Int32) (v6 : Int32) (σ : zS) (ls : Array Slot) (hk_v0 : L[v0]? = some (0, 0)) (hk_v1 : L[v1]? = some (0, 4)) (hl : lv_has ls 9 [(0, .ref (b0 + v0)), (1, .ref (b0 + v1)), (2, .int v2), (3, .int v3), (6, .int v6)]) : zJ p l e rmX0_ask s m args below meth c b0 cA D L (fun z => MQ below (va_Qi (fun (r : Int32) (u : zS) => (r, u) = z) (zB b0 cA D L) (zA b0 L)) args s 0 0 (zA b0 L)) (bX0_ask_279 k321 v0 v1 v2 v3 v6 σ) σ 279 ls [] := by
  unfold bX0_ask_279
  refine zj_iload_n (pc' := 280) hC dX0_ask_279 rfl rfl (lv_at hl 3 rfl) ?_
  refine zj_istore (pc' := 282) (lv' := [(5, .int v3), (0, .ref (b0 + v0)), (1, .ref (b0 + v1)), (2, .int v2), (3, .int v3), (6, .int v6)]) hC dX0_ask_280 rfl hl (by decide) rfl (fun ls hl => ?_)
  refine zj_iconst (pc' := 283) (v := (2 : Int32)) hC dX0_ask_282 rfl rfl ?_
  refine zj_istore (pc' := 285) (lv' := [(4, .int (2 : Int32)), (5, .int v3), (0, .ref (b0 + v0)), (1, .ref (b0 + v1)), (2, .int v2), (3, .int v3), (6, .int v6)]) hC dX0_ask_283 rfl hl (by decide) rfl (fun ls hl => ?_)
  refine zj_goto (tgt := 321) hC dX0_ask_285 (by decide) ?_
  exact h321 v0 v1 v2 v3 (2 : Int32) v3 v6 σ ls hk_v0 hk_v1 (lv_sub hl [2, 3, 4, 5, 0, 1, 6] rfl)
set_option maxRecDepth 100000 in
set_option maxHeartbeats 4000000 in
theorem jX0_ask_237 {p : Program} {l : Launch} {e : Env} {s : State} {m : MethodId} {args : Array Value} {below : List Frame} {meth : Method} {c : Code} {b0 : Nat} {cA : Nat → ClassId} {D : va_G} {L : List (Nat × Nat)} (hC : zC p c s m args meth cX0_ask 9 (some Jvm.ClassFile.FieldType.int) (Cond.code yX0_ask cX0_ask 9 (some Jvm.ClassFile.FieldType.int)) yX0_ask.cls cA D) (k321 : Nat → Nat → Int32 → Int32 → Int32 → Int32 → Int32 → zS → Option (Int32 × zS)) (h321 : ∀ (v0 : Nat) (v1 : Nat) (v2 : Int32) (v3 : Int32) (v4 : Int32) (v5 : Int32) (v6 : Int32) (σ : zS) (ls : Array Slot), L[v0]? = some (0, 0) → L[v1]? = some (0, 4) → lv_has ls 9 [(0, .ref (b0 + v0)), (1, .ref (b0 + v1)), (2, .int v2), (3, .int v3), (4, .int v4), (5, .int v5), (6, .int v6)] → zJ p l e rmX0_ask s m args below meth c b0 cA D L (fun z => MQ below (va_Qi (fun (r : Int32) (u : zS) => (r, u) = z) (zB b0 cA D L) (zA b0 L)) args s 0 0 (zA b0 L)) (k321 v0 v1 v2 v3 v4 v5 v6 σ) σ 321 ls []) (v0 : Nat) (v1 : Nat) (v2 : Int32) (v3 : Int32) (v4 : Int32) (v5 : Int32) (v6 : Int32) (v8 : Int32) (s0 : Int32) (s1 : Int32) (σ : zS) (ls : Array Slot) (hk_v0 : L[v0]? = some (0, 0)) (hk_v1 : L[v1]? = some (0, 4)) (hb_s0 : nB s0) (hb_s1 : nB s1) (hl : lv_has ls 9 [(0, .ref (b0 + v0)), (1, .ref (b0 + v1)), (2, .int v2), (3, .int v3), (4, .int v4), (5, .int v5), (6, .int v6), (8, .int v8)]) : zJ p l e rmX0_ask s m args below meth c b0 cA D L (fun z => MQ below (va_Qi (fun (r : Int32) (u : zS) => (r, u) = z) (zB b0 cA D L) (zA b0 L)) args s 0 0 (zA b0 L)) (bX0_ask_237 k321 v0 v1 v2 v3 v4 v5 v6 v8 s0 s1 σ) σ 237 ls [.int s1, .int s0] := by
  unfold bX0_ask_237
  refine zj_icmp_ne (tgt := 247) (pc' := 240) hC dX0_ask_237 (by decide) rfl (fun c10 => ?_) (fun c10 => ?_)
  · refine zj_iinc (pc' := 250) (k0 := 4) (v := (v4 + (-1 : Int32))) (lv' := [(4, .int (v4 + (-1 : Int32))), (0, .ref (b0 + v0)), (1, .ref (b0 + v1)), (2, .int v2), (3, .int v3), (5, .int v5), (6, .int v6), (8, .int v8)]) hC dX0_ask_247 rfl hl rfl rfl (by decide) rfl (fun ls hl => ?_)
    refine zj_goto (tgt := 321) hC dX0_ask_250 (by decide) ?_
    exact h321 v0 v1 v2 v3 ((v4 + (-1 : Int32))) v5 v6 σ ls hk_v0 hk_v1 (lv_sub hl [1, 2, 3, 4, 0, 5, 6] rfl)
  · refine zj_iload (pc' := 242) hC dX0_ask_240 rfl (lv_at hl 7 rfl) ?_
    refine zj_istore (pc' := 244) (lv' := [(5, .int v8), (0, .ref (b0 + v0)), (1, .ref (b0 + v1)), (2, .int v2), (3, .int v3), (4, .int v4), (6, .int v6), (8, .int v8)]) hC dX0_ask_242 rfl hl (by decide) rfl (fun ls hl => ?_)
    refine zj_goto (tgt := 321) hC dX0_ask_244 (by decide) ?_
    exact h321 v0 v1 v2 v3 v4 v8 v6 σ ls hk_v0 hk_v1 (lv_sub hl [1, 2, 3, 4, 5, 0, 6] rfl)
set_option maxRecDepth 100000 in
set_option maxHeartbeats 4000000 in
theorem jX0_ask_225 {p : Program} {l : Launch} {e : Env} {s : State} {m : MethodId} {args : Array Value} {below : List Frame} {meth : Method} {c : Code} {b0 : Nat} {cA : Nat → ClassId} {D : va_G} {L : List (Nat × Nat)} (hC : zC p c s m args meth cX0_ask 9 (some Jvm.ClassFile.FieldType.int) (Cond.code yX0_ask cX0_ask 9 (some Jvm.ClassFile.FieldType.int)) yX0_ask.cls cA D) (k321 : Nat → Nat → Int32 → Int32 → Int32 → Int32 → Int32 → zS → Option (Int32 × zS)) (h321 : ∀ (v0 : Nat) (v1 : Nat) (v2 : Int32) (v3 : Int32) (v4 : Int32) (v5 : Int32) (v6 : Int32) (σ : zS) (ls : Array Slot), L[v0]? = some (0, 0) → L[v1]? = some (0, 4) → lv_has ls 9 [(0, .ref (b0 + v0)), (1, .ref (b0 + v1)), (2, .int v2), (3, .int v3), (4, .int v4), (5, .int v5), (6, .int v6)] → zJ p l e rmX0_ask s m args below meth c b0 cA D L (fun z => MQ below (va_Qi (fun (r : Int32) (u : zS) => (r, u) = z) (zB b0 cA D L) (zA b0 L)) args s 0 0 (zA b0 L)) (k321 v0 v1 v2 v3 v4 v5 v6 σ) σ 321 ls []) (v0 : Nat) (v1 : Nat) (v2 : Int32) (v3 : Int32) (v4 : Int32) (v5 : Int32) (v6 : Int32) (v7 : Int32) (v8 : Int32) (s0 : Int32) (σ : zS) (ls : Array Slot) (hk_v0 : L[v0]? = some (0, 0)) (hk_v1 : L[v1]? = some (0, 4)) (hb_s0 : nB s0) (hl : lv_has ls 9 [(0, .ref (b0 + v0)), (1, .ref (b0 + v1)), (2, .int v2), (3, .int v3), (4, .int v4), (5, .int v5), (6, .int v6), (7, .int v7), (8, .int v8)]) : zJ p l e rmX0_ask s m args below meth c b0 cA D L (fun z => MQ below (va_Qi (fun (r : Int32) (u : zS) => (r, u) = z) (zB b0 cA D L) (zA b0 L)) args s 0 0 (zA b0 L)) (bX0_ask_225 k321 v0 v1 v2 v3 v4 v5 v6 v7 v8 s0 σ) σ 225 ls [.int s0] := by
  unfold bX0_ask_225
  refine zj_iload (pc' := 227) hC dX0_ask_225 rfl (lv_at hl 7 rfl) ?_
  refine zj_bipush (pc' := 229) (v := (6 : Int32)) hC dX0_ask_227 rfl rfl ?_
  refine zj_icmp_ne (tgt := 236) (pc' := 232) hC dX0_ask_229 (by decide) rfl (fun c11 => ?_) (fun c11 => ?_)
  · refine zj_iconst (pc' := 237) (v := (0 : Int32)) hC dX0_ask_236 rfl rfl ?_
    exact jX0_ask_237 hC k321 h321 v0 v1 v2 v3 v4 v5 v6 v8 s0 (0 : Int32) σ ls hk_v0 hk_v1 hb_s0 nB_0 (lv_sub hl [0, 1, 2, 3, 4, 5, 6, 8] rfl)
  · refine zj_iconst (pc' := 233) (v := (1 : Int32)) hC dX0_ask_232 rfl rfl ?_
    refine zj_goto (tgt := 237) hC dX0_ask_233 (by decide) ?_
    exact jX0_ask_237 hC k321 h321 v0 v1 v2 v3 v4 v5 v6 v8 s0 (1 : Int32) σ ls hk_v0 hk_v1 hb_s0 nB_1 (lv_sub hl [0, 1, 2, 3, 4, 5, 6, 8] rfl)
set_option maxRecDepth 100000 in
set_option maxHeartbeats 4000000 in
theorem jX0_ask_11 {p : Program} {l : Launch} {e : Env} {s : State} {m : MethodId} {args : Array Value} {below : List Frame} {meth : Method} {c : Code} {b0 : Nat} {cA : Nat → ClassId} {D : va_G} {L : List (Nat × Nat)} (hC : zC p c s m args meth cX0_ask 9 (some Jvm.ClassFile.FieldType.int) (Cond.code yX0_ask cX0_ask 9 (some Jvm.ClassFile.FieldType.int)) yX0_ask.cls cA D) (k11 : Nat → Nat → Int32 → Int32 → Int32 → Int32 → Int32 → zS → Option (Int32 × zS)) (h11 : ∀ (v0 : Nat) (v1 : Nat) (v2 : Int32) (v3 : Int32) (v4 : Int32) (v5 : Int32) (v6 : Int32) (σ : zS) (ls : Array Slot), L[v0]? = some (0, 0) → L[v1]? = some (0, 4) → lv_has ls 9 [(0, .ref (b0 + v0)), (1, .ref (b0 + v1)), (2, .int v2), (3, .int v3), (4, .int v4), (5, .int v5), (6, .int v6)] → zJ p l e rmX0_ask s m args below meth c b0 cA D L (fun z => MQ below (va_Qi (fun (r : Int32) (u : zS) => (r, u) = z) (zB b0 cA D L) (zA b0 L)) args s 0 0 (zA b0 L)) (k11 v0 v1 v2 v3 v4 v5 v6 σ) σ 11 ls []) (v0 : Nat) (v1 : Nat) (v2 : Int32) (v3 : Int32) (v4 : Int32) (v5 : Int32) (v6 : Int32) (σ : zS) (ls : Array Slot) (hk_v0 : L[v0]? = some (0, 0)) (hk_v1 : L[v1]? = some (0, 4)) (hl : lv_has ls 9 [(0, .ref (b0 + v0)), (1, .ref (b0 + v1)), (2, .int v2), (3, .int v3), (4, .int v4), (5, .int v5), (6, .int v6)]) : zJ p l e rmX0_ask s m args below meth c b0 cA D L (fun z => MQ below (va_Qi (fun (r : Int32) (u : zS) => (r, u) = z) (zB b0 cA D L) (zA b0 L)) args s 0 0 (zA b0 L)) (bX0_ask_11 k11 v0 v1 v2 v3 v4 v5 v6 σ) σ 11 ls [] := by
  unfold bX0_ask_11
  refine zj_iload (pc' := 13) hC dX0_ask_11 rfl (lv_at hl 6 rfl) ?_
  refine zj_sipush (pc' := 16) (v := (128 : Int32)) hC dX0_ask_13 rfl rfl ?_
  refine zj_icmp_ge (tgt := 327) (pc' := 19) hC dX0_ask_16 (by decide) rfl (fun c12 => ?_) (fun c12 => ?_)
  · refine zj_iconst (pc' := 328) (v := (0 : Int32)) hC dX0_ask_327 rfl rfl ?_
    exact zj_iret hC dX0_ask_328
  · refine zj_iload (pc' := 21) hC dX0_ask_19 rfl (lv_at hl 5 rfl) ?_
    refine zj_if_lt (tgt := 54) (pc' := 24) hC dX0_ask_21 (by decide) rfl (fun c13 => ?_) (fun c13 => ?_)
    · refine zj_iconst (pc' := 55) (v := (0 : Int32)) hC dX0_ask_54 rfl rfl ?_
      exact zj_iret hC dX0_ask_55
    · refine zj_iload (pc' := 26) hC dX0_ask_24 rfl (lv_at hl 5 rfl) ?_
      refine zj_aload_n (pc' := 27) hC dX0_ask_26 rfl rfl (lv_at hl 1 rfl) ?_
      refine zj_getI (pc' := 30) hC hk_v1 fd_4_1 rfl tw_1_158 dX0_ask_27 rfl ?_
      refine zj_icmp_ge (tgt := 54) (pc' := 33) hC dX0_ask_30 (by decide) rfl (fun c14 => ?_) (fun c14 => ?_)
      · refine zj_iconst (pc' := 55) (v := (0 : Int32)) hC dX0_ask_54 rfl rfl ?_
        exact zj_iret hC dX0_ask_55
      · refine zj_iload (pc' := 35) hC dX0_ask_33 rfl (lv_at hl 5 rfl) ?_
        refine zj_sipush (pc' := 38) (v := (128 : Int32)) hC dX0_ask_35 rfl rfl ?_
        refine zj_icmp_ge (tgt := 54) (pc' := 41) hC dX0_ask_38 (by decide) rfl (fun c15 => ?_) (fun c15 => ?_)
        · refine zj_iconst (pc' := 55) (v := (0 : Int32)) hC dX0_ask_54 rfl rfl ?_
          exact zj_iret hC dX0_ask_55
        · refine zj_iload (pc' := 43) hC dX0_ask_41 rfl (lv_at hl 4 rfl) ?_
          refine zj_iconst (pc' := 44) (v := (2 : Int32)) hC dX0_ask_43 rfl rfl ?_
          refine zj_icmp_lt (tgt := 54) (pc' := 47) hC dX0_ask_44 (by decide) rfl (fun c16 => ?_) (fun c16 => ?_)
          · refine zj_iconst (pc' := 55) (v := (0 : Int32)) hC dX0_ask_54 rfl rfl ?_
            exact zj_iret hC dX0_ask_55
          · refine zj_iload (pc' := 49) hC dX0_ask_47 rfl (lv_at hl 4 rfl) ?_
            refine zj_bipush (pc' := 51) (v := (40 : Int32)) hC dX0_ask_49 rfl rfl ?_
            refine zj_icmp_lt (tgt := 56) (pc' := 54) hC dX0_ask_51 (by decide) rfl (fun c17 => ?_) (fun c17 => ?_)
            · refine zj_aload_n (pc' := 57) hC dX0_ask_56 rfl rfl (lv_at hl 1 rfl) ?_
              refine zj_getR (pc' := 60) hC hk_v1 fd_4_0 rfl tw_1_156 dX0_ask_57 rfl (fun q18 hk_q18 => ?_)
              refine zj_iload (pc' := 62) hC dX0_ask_60 rfl (lv_at hl 5 rfl) ?_
              refine zj_iald (pc' := 63) hC hk_q18 dX0_ask_62 rfl (fun g19 => ?_)
              refine zj_bipush (pc' := 65) (v := (15 : Int32)) hC dX0_ask_63 rfl rfl ?_
              refine zj_iand (pc' := 66) hC dX0_ask_65 rfl ?_
              refine zj_nmi (fun x20 => ?_)
              refine zj_istore (pc' := 68) (lv' := [(7, .int x20), (0, .ref (b0 + v0)), (1, .ref (b0 + v1)), (2, .int v2), (3, .int v3), (4, .int v4), (5, .int v5), (6, .int v6)]) hC dX0_ask_66 rfl hl (by decide) rfl (fun ls hl => ?_)
              refine zj_aload_n (pc' := 69) hC dX0_ask_68 rfl rfl (lv_at hl 2 rfl) ?_
              refine zj_getR (pc' := 72) hC hk_v1 fd_4_0 rfl tw_1_156 dX0_ask_69 rfl (fun q21 hk_q21 => ?_)
              refine zj_iload (pc' := 74) hC dX0_ask_72 rfl (lv_at hl 6 rfl) ?_
              refine zj_iald (pc' := 75) hC hk_q21 dX0_ask_74 rfl (fun g22 => ?_)
              refine zj_iconst (pc' := 76) (v := (4 : Int32)) hC dX0_ask_75 rfl rfl ?_
              refine zj_ishr (pc' := 77) hC dX0_ask_76 rfl ?_
              refine zj_nmi (fun x23 => ?_)
              refine zj_istore (pc' := 79) (lv' := [(8, .int x23), (7, .int x20), (0, .ref (b0 + v0)), (1, .ref (b0 + v1)), (2, .int v2), (3, .int v3), (4, .int v4), (5, .int v5), (6, .int v6)]) hC dX0_ask_77 rfl hl (by decide) rfl (fun ls hl => ?_)
              refine zj_iinc (pc' := 82) (k0 := 7) (v := (v5 + (1 : Int32))) (lv' := [(5, .int (v5 + (1 : Int32))), (8, .int x23), (7, .int x20), (0, .ref (b0 + v0)), (1, .ref (b0 + v1)), (2, .int v2), (3, .int v3), (4, .int v4), (6, .int v6)]) hC dX0_ask_79 rfl hl rfl rfl (by decide) rfl (fun ls hl => ?_)
              refine zj_iload (pc' := 84) hC dX0_ask_82 rfl (lv_at hl 2 rfl) ?_
              refine zj_split (fun c24 => ?_) (fun c24 => ?_)
              · refine zj_tabIn (tgt := 128) 0 hC dX0_ask_84 (by rw [c24]; decide) (by decide) (by decide) rfl (by decide) ?_
                refine zj_iload (pc' := 130) hC dX0_ask_128 rfl (lv_at hl 1 rfl) ?_
                refine zj_istore_n (pc' := 131) (lv' := [(3, .int x23), (5, .int (v5 + (1 : Int32))), (8, .int x23), (7, .int x20), (0, .ref (b0 + v0)), (1, .ref (b0 + v1)), (2, .int v2), (4, .int v4), (6, .int v6)]) hC dX0_ask_130 rfl rfl hl (by decide) rfl (fun ls hl => ?_)
                refine zj_goto (tgt := 321) hC dX0_ask_131 (by decide) ?_
                exact jX0_ask_321 hC k11 h11 v0 v1 v2 x23 v4 ((v5 + (1 : Int32))) v6 σ ls hk_v0 hk_v1 (lv_sub hl [4, 5, 6, 0, 7, 1, 8] rfl)
              refine zj_split (fun c25 => ?_) (fun c25 => ?_)
              · refine zj_tabIn (tgt := 134) 1 hC dX0_ask_84 (by rw [c25]; decide) (by decide) (by decide) rfl (by decide) ?_
                refine zj_iinc (pc' := 137) (k0 := 7) (v := (v4 + (-1 : Int32))) (lv' := [(4, .int (v4 + (-1 : Int32))), (5, .int (v5 + (1 : Int32))), (8, .int x23), (7, .int x20), (0, .ref (b0 + v0)), (1, .ref (b0 + v1)), (2, .int v2), (3, .int v3), (6, .int v6)]) hC dX0_ask_134 rfl hl rfl rfl (by decide) rfl (fun ls hl => ?_)
                refine zj_aload_n (pc' := 138) hC dX0_ask_137 rfl rfl (lv_at hl 4 rfl) ?_
                refine zj_getR (pc' := 141) hC hk_v0 fd_0_0 rfl tw_1_120 dX0_ask_138 rfl (fun q26 hk_q26 => ?_)
                refine zj_iload (pc' := 143) hC dX0_ask_141 rfl (lv_at hl 0 rfl) ?_
                refine zj_iald (pc' := 144) hC hk_q26 dX0_ask_143 rfl (fun g27 => ?_)
                refine zj_if_eq (tgt := 321) (pc' := 147) hC dX0_ask_144 (by decide) rfl (fun c28 => ?_) (fun c28 => ?_)
                · exact jX0_ask_321 hC k11 h11 v0 v1 v2 v3 ((v4 + (-1 : Int32))) ((v5 + (1 : Int32))) v6 σ ls hk_v0 hk_v1 (lv_sub hl [4, 5, 6, 7, 0, 1, 8] rfl)
                · refine zj_iload (pc' := 149) hC dX0_ask_147 rfl (lv_at hl 2 rfl) ?_
                  exact zj_iret hC dX0_ask_149
              refine zj_split (fun c29 => ?_) (fun c29 => ?_)
              · refine zj_tabIn (tgt := 150) 2 hC dX0_ask_84 (by rw [c29]; decide) (by decide) (by decide) rfl (by decide) ?_
                refine zj_aload_n (pc' := 151) hC dX0_ask_150 rfl rfl (lv_at hl 3 rfl) ?_
                refine zj_getR (pc' := 154) hC hk_v0 fd_0_0 rfl tw_1_120 dX0_ask_151 rfl (fun q30 hk_q30 => ?_)
                refine zj_iload (pc' := 156) hC dX0_ask_154 rfl (lv_at hl 7 rfl) ?_
                refine zj_iload (pc' := 158) hC dX0_ask_156 rfl (lv_at hl 1 rfl) ?_
                refine zj_iast (pc' := 159) hC hk_q30 dX0_ask_158 rfl (fun g31 σ32 => ?_)
                refine zj_iinc (pc' := 162) (k0 := 7) (v := (v4 + (1 : Int32))) (lv' := [(4, .int (v4 + (1 : Int32))), (5, .int (v5 + (1 : Int32))), (8, .int x23), (7, .int x20), (0, .ref (b0 + v0)), (1, .ref (b0 + v1)), (2, .int v2), (3, .int v3), (6, .int v6)]) hC dX0_ask_159 rfl hl rfl rfl (by decide) rfl (fun ls hl => ?_)
                refine zj_goto (tgt := 321) hC dX0_ask_162 (by decide) ?_
                exact jX0_ask_321 hC k11 h11 v0 v1 v2 v3 ((v4 + (1 : Int32))) ((v5 + (1 : Int32))) v6 σ32 ls hk_v0 hk_v1 (lv_sub hl [4, 5, 6, 7, 0, 1, 8] rfl)
              refine zj_split (fun c33 => ?_) (fun c33 => ?_)
              · refine zj_tabIn (tgt := 165) 3 hC dX0_ask_84 (by rw [c33]; decide) (by decide) (by decide) rfl (by decide) ?_
                refine zj_aload_n (pc' := 166) hC dX0_ask_165 rfl rfl (lv_at hl 3 rfl) ?_
                refine zj_getR (pc' := 169) hC hk_v0 fd_0_0 rfl tw_1_120 dX0_ask_166 rfl (fun q34 hk_q34 => ?_)
                refine zj_iload (pc' := 171) hC dX0_ask_169 rfl (lv_at hl 7 rfl) ?_
                refine zj_aload_n (pc' := 172) hC dX0_ask_171 rfl rfl (lv_at hl 3 rfl) ?_
                refine zj_iload (pc' := 174) hC dX0_ask_172 rfl (lv_at hl 1 rfl) ?_
                refine zj_iload_n (pc' := 175) hC dX0_ask_174 rfl rfl (lv_at hl 5 rfl) ?_
                refine zj_calliV (pc' := 178) (rest := [.int v4, .ref (b0 + q34)]) hC (kX0_letter l b0 cA D L v0 x23 v2 σ hk_v0) hk_v0 rfl tw_3_65 tw_3_62 tw_3_64 ts_2_7 tw_1_5 ddX0_letter rfl ⟨rfl, rfl⟩ ⟨by decide, by decide⟩ hl.1 (Nat.le_of_ble_eq_true rfl) rfl dX0_ask_175 rfl (fun r36 σ35 => ?_)
                refine zj_iast (pc' := 179) hC hk_q34 dX0_ask_178 rfl (fun g37 σ38 => ?_)
                refine zj_iinc (pc' := 182) (k0 := 7) (v := (v4 + (1 : Int32))) (lv' := [(4, .int (v4 + (1 : Int32))), (5, .int (v5 + (1 : Int32))), (8, .int x23), (7, .int x20), (0, .ref (b0 + v0)), (1, .ref (b0 + v1)), (2, .int v2), (3, .int v3), (6, .int v6)]) hC dX0_ask_179 rfl hl rfl rfl (by decide) rfl (fun ls hl => ?_)
                refine zj_goto (tgt := 321) hC dX0_ask_182 (by decide) ?_
                exact jX0_ask_321 hC k11 h11 v0 v1 v2 v3 ((v4 + (1 : Int32))) ((v5 + (1 : Int32))) v6 σ38 ls hk_v0 hk_v1 (lv_sub hl [4, 5, 6, 7, 0, 1, 8] rfl)
              refine zj_split (fun c39 => ?_) (fun c39 => ?_)
              · refine zj_tabIn (tgt := 185) 4 hC dX0_ask_84 (by rw [c39]; decide) (by decide) (by decide) rfl (by decide) ?_
                refine zj_aload_n (pc' := 186) hC dX0_ask_185 rfl rfl (lv_at hl 3 rfl) ?_
                refine zj_getR (pc' := 189) hC hk_v0 fd_0_0 rfl tw_1_120 dX0_ask_186 rfl (fun q40 hk_q40 => ?_)
                refine zj_iload (pc' := 191) hC dX0_ask_189 rfl (lv_at hl 7 rfl) ?_
                refine zj_iconst (pc' := 192) (v := (1 : Int32)) hC dX0_ask_191 rfl rfl ?_
                refine zj_isub (pc' := 193) hC dX0_ask_192 rfl ?_
                refine zj_iconst (pc' := 194) (v := (1 : Int32)) hC dX0_ask_193 rfl rfl ?_
                refine zj_aload_n (pc' := 195) hC dX0_ask_194 rfl rfl (lv_at hl 3 rfl) ?_
                refine zj_getR (pc' := 198) hC hk_v0 fd_0_0 rfl tw_1_120 dX0_ask_195 rfl (fun q41 hk_q41 => ?_)
                refine zj_iload (pc' := 200) hC dX0_ask_198 rfl (lv_at hl 7 rfl) ?_
                refine zj_iconst (pc' := 201) (v := (1 : Int32)) hC dX0_ask_200 rfl rfl ?_
                refine zj_isub (pc' := 202) hC dX0_ask_201 rfl ?_
                refine zj_iald (pc' := 203) hC hk_q41 dX0_ask_202 rfl (fun g42 => ?_)
                refine zj_isub (pc' := 204) hC dX0_ask_203 rfl ?_
                refine zj_iast (pc' := 205) hC hk_q40 dX0_ask_204 rfl (fun g43 σ44 => ?_)
                refine zj_goto (tgt := 321) hC dX0_ask_205 (by decide) ?_
                exact jX0_ask_321 hC k11 h11 v0 v1 v2 v3 v4 ((v5 + (1 : Int32))) v6 σ44 ls hk_v0 hk_v1 (lv_sub hl [3, 4, 5, 6, 7, 0, 8] rfl)
              refine zj_split (fun c45 => ?_) (fun c45 => ?_)
              · refine zj_tabIn (tgt := 208) 5 hC dX0_ask_84 (by rw [c45]; decide) (by decide) (by decide) rfl (by decide) ?_
                refine zj_aload_n (pc' := 209) hC dX0_ask_208 rfl rfl (lv_at hl 3 rfl) ?_
                refine zj_getR (pc' := 212) hC hk_v0 fd_0_0 rfl tw_1_120 dX0_ask_209 rfl (fun q46 hk_q46 => ?_)
                refine zj_iload (pc' := 214) hC dX0_ask_212 rfl (lv_at hl 7 rfl) ?_
                refine zj_iconst (pc' := 215) (v := (1 : Int32)) hC dX0_ask_214 rfl rfl ?_
                refine zj_isub (pc' := 216) hC dX0_ask_215 rfl ?_
                refine zj_iald (pc' := 217) hC hk_q46 dX0_ask_216 rfl (fun g47 => ?_)
                refine zj_if_eq (tgt := 224) (pc' := 220) hC dX0_ask_217 (by decide) rfl (fun c48 => ?_) (fun c48 => ?_)
                · refine zj_iconst (pc' := 225) (v := (0 : Int32)) hC dX0_ask_224 rfl rfl ?_
                  exact jX0_ask_225 hC (bX0_ask_321 k11) (jX0_ask_321 hC k11 h11) v0 v1 v2 v3 v4 ((v5 + (1 : Int32))) v6 x20 x23 (0 : Int32) σ ls hk_v0 hk_v1 nB_0 (lv_sub hl [3, 4, 5, 6, 7, 0, 8, 2, 1] rfl)
                · refine zj_iconst (pc' := 221) (v := (1 : Int32)) hC dX0_ask_220 rfl rfl ?_
                  refine zj_goto (tgt := 225) hC dX0_ask_221 (by decide) ?_
                  exact jX0_ask_225 hC (bX0_ask_321 k11) (jX0_ask_321 hC k11 h11) v0 v1 v2 v3 v4 ((v5 + (1 : Int32))) v6 x20 x23 (1 : Int32) σ ls hk_v0 hk_v1 nB_1 (lv_sub hl [3, 4, 5, 6, 7, 0, 8, 2, 1] rfl)
              refine zj_split (fun c49 => ?_) (fun c49 => ?_)
              · refine zj_tabIn (tgt := 208) 6 hC dX0_ask_84 (by rw [c49]; decide) (by decide) (by decide) rfl (by decide) ?_
                refine zj_aload_n (pc' := 209) hC dX0_ask_208 rfl rfl (lv_at hl 3 rfl) ?_
                refine zj_getR (pc' := 212) hC hk_v0 fd_0_0 rfl tw_1_120 dX0_ask_209 rfl (fun q50 hk_q50 => ?_)
                refine zj_iload (pc' := 214) hC dX0_ask_212 rfl (lv_at hl 7 rfl) ?_
                refine zj_iconst (pc' := 215) (v := (1 : Int32)) hC dX0_ask_214 rfl rfl ?_
                refine zj_isub (pc' := 216) hC dX0_ask_215 rfl ?_
                refine zj_iald (pc' := 217) hC hk_q50 dX0_ask_216 rfl (fun g51 => ?_)
                refine zj_if_eq (tgt := 224) (pc' := 220) hC dX0_ask_217 (by decide) rfl (fun c52 => ?_) (fun c52 => ?_)
                · refine zj_iconst (pc' := 225) (v := (0 : Int32)) hC dX0_ask_224 rfl rfl ?_
                  exact jX0_ask_225 hC (bX0_ask_321 k11) (jX0_ask_321 hC k11 h11) v0 v1 v2 v3 v4 ((v5 + (1 : Int32))) v6 x20 x23 (0 : Int32) σ ls hk_v0 hk_v1 nB_0 (lv_sub hl [3, 4, 5, 6, 7, 0, 8, 2, 1] rfl)
                · refine zj_iconst (pc' := 221) (v := (1 : Int32)) hC dX0_ask_220 rfl rfl ?_
                  refine zj_goto (tgt := 225) hC dX0_ask_221 (by decide) ?_
                  exact jX0_ask_225 hC (bX0_ask_321 k11) (jX0_ask_321 hC k11 h11) v0 v1 v2 v3 v4 ((v5 + (1 : Int32))) v6 x20 x23 (1 : Int32) σ ls hk_v0 hk_v1 nB_1 (lv_sub hl [3, 4, 5, 6, 7, 0, 8, 2, 1] rfl)
              refine zj_tabD (tgt := 253) [0, 1, 2, 3, 4, 5, 6] 7 hC dX0_ask_84 (by decide) (by decide) (List.forall_mem_cons.mpr ⟨lv_neT c24 (by decide), List.forall_mem_cons.mpr ⟨lv_neT c25 (by decide), List.forall_mem_cons.mpr ⟨lv_neT c29 (by decide), List.forall_mem_cons.mpr ⟨lv_neT c33 (by decide), List.forall_mem_cons.mpr ⟨lv_neT c39 (by decide), List.forall_mem_cons.mpr ⟨lv_neT c45 (by decide), List.forall_mem_cons.mpr ⟨lv_neT c49 (by decide), fun _ h => absurd h List.not_mem_nil⟩⟩⟩⟩⟩⟩⟩) (by decide) ?_
              refine zj_aload_n (pc' := 254) hC dX0_ask_253 rfl rfl (lv_at hl 3 rfl) ?_
              refine zj_getR (pc' := 257) hC hk_v0 fd_0_0 rfl tw_1_120 dX0_ask_254 rfl (fun q53 hk_q53 => ?_)
              refine zj_iload (pc' := 259) hC dX0_ask_257 rfl (lv_at hl 7 rfl) ?_
              refine zj_iconst (pc' := 260) (v := (1 : Int32)) hC dX0_ask_259 rfl rfl ?_
              refine zj_isub (pc' := 261) hC dX0_ask_260 rfl ?_
              refine zj_iald (pc' := 262) hC hk_q53 dX0_ask_261 rfl (fun g54 => ?_)
              refine zj_if_ne (tgt := 288) (pc' := 265) hC dX0_ask_262 (by decide) rfl (fun c55 => ?_) (fun c55 => ?_)
              · exact jX0_ask_288 hC (bX0_ask_321 k11) (jX0_ask_321 hC k11 h11) v0 v1 v2 v3 v4 ((v5 + (1 : Int32))) v6 x20 σ ls hk_v0 hk_v1 (lv_sub hl [3, 4, 5, 6, 7, 0, 8, 2] rfl)
              · refine zj_iload (pc' := 267) hC dX0_ask_265 rfl (lv_at hl 2 rfl) ?_
                refine zj_bipush (pc' := 269) (v := (10 : Int32)) hC dX0_ask_267 rfl rfl ?_
                refine zj_icmp_eq (tgt := 279) (pc' := 272) hC dX0_ask_269 (by decide) rfl (fun c56 => ?_) (fun c56 => ?_)
                · exact jX0_ask_279 hC (bX0_ask_321 k11) (jX0_ask_321 hC k11 h11) v0 v1 v2 v3 v6 σ ls hk_v0 hk_v1 (lv_sub hl [3, 4, 5, 6, 8] rfl)
                · refine zj_iload (pc' := 274) hC dX0_ask_272 rfl (lv_at hl 2 rfl) ?_
                  refine zj_bipush (pc' := 276) (v := (11 : Int32)) hC dX0_ask_274 rfl rfl ?_
                  refine zj_icmp_ne (tgt := 288) (pc' := 279) hC dX0_ask_276 (by decide) rfl (fun c57 => ?_) (fun c57 => ?_)
                  · exact jX0_ask_288 hC (bX0_ask_321 k11) (jX0_ask_321 hC k11 h11) v0 v1 v2 v3 v4 ((v5 + (1 : Int32))) v6 x20 σ ls hk_v0 hk_v1 (lv_sub hl [3, 4, 5, 6, 7, 0, 8, 2] rfl)
                  · exact jX0_ask_279 hC (bX0_ask_321 k11) (jX0_ask_321 hC k11 h11) v0 v1 v2 v3 v6 σ ls hk_v0 hk_v1 (lv_sub hl [3, 4, 5, 6, 8] rfl)
            · refine zj_iconst (pc' := 55) (v := (0 : Int32)) hC dX0_ask_54 rfl rfl ?_
              exact zj_iret hC dX0_ask_55
set_option maxRecDepth 100000 in
set_option maxHeartbeats 4000000 in
theorem lX0_ask_11 {p : Program} {l : Launch} {e : Env} {s : State} {m : MethodId} {args : Array Value} {below : List Frame} {meth : Method} {c : Code} {b0 : Nat} {cA : Nat → ClassId} {D : va_G} {L : List (Nat × Nat)} (hC : zC p c s m args meth cX0_ask 9 (some Jvm.ClassFile.FieldType.int) (Cond.code yX0_ask cX0_ask 9 (some Jvm.ClassFile.FieldType.int)) yX0_ask.cls cA D)  (n : Nat) : ∀ (v0 : Nat) (v1 : Nat) (v2 : Int32) (v3 : Int32) (v4 : Int32) (v5 : Int32) (v6 : Int32) (σ : zS) (ls : Array Slot), L[v0]? = some (0, 0) → L[v1]? = some (0, 4) → lv_has ls 9 [(0, .ref (b0 + v0)), (1, .ref (b0 + v1)), (2, .int v2), (3, .int v3), (4, .int v4), (5, .int v5), (6, .int v6)] → zJ p l e rmX0_ask s m args below meth c b0 cA D L (fun z => MQ below (va_Qi (fun (r : Int32) (u : zS) => (r, u) = z) (zB b0 cA D L) (zA b0 L)) args s 0 0 (zA b0 L)) (fX0_ask_11  n v0 v1 v2 v3 v4 v5 v6 σ) σ 11 ls [] := by
  induction n with
  | zero => intros; exact zj_none
  | succ n ih => exact jX0_ask_11 hC (fX0_ask_11  n) ih
set_option maxRecDepth 100000 in
set_option maxHeartbeats 4000000 in
theorem kX0_ask (l : Launch) (b0 : Nat) (cA : Nat → ClassId) (D : va_G) (L : List (Nat × Nat)) (v0 : Nat) (v1 : Nat) (v2 : Int32) (σ : zS) (hk0 : L[v0]? = some (0, 0)) (hk1 : L[v1]? = some (0, 4)) : zMi l b0 cA D L yX0_ask (Cond.code yX0_ask cX0_ask 9 (some Jvm.ClassFile.FieldType.int)) rmX0_ask [.ref (b0 + v0), .ref (b0 + v1), .int v2] σ (fX0_ask v0 v1 v2 σ) := by
  refine zMi_of (by decide) (Nat.le_of_ble_eq_true rfl) ?_
  intro p e s m below meth c ls hC hl
  have hl : lv_has ls 9 [(0, .ref (b0 + v0)), (1, .ref (b0 + v1)), (2, .int v2)] := hl
  generalize ([.ref (b0 + v0), .ref (b0 + v1), .int v2] : List Value).toArray = args at hC ⊢
  unfold fX0_ask
  refine zj_iconst (pc' := 1) (v := (0 : Int32)) hC dX0_ask_0 rfl rfl ?_
  refine zj_istore_n (pc' := 2) (lv' := [(3, .int (0 : Int32)), (0, .ref (b0 + v0)), (1, .ref (b0 + v1)), (2, .int v2)]) hC dX0_ask_1 rfl rfl hl (by decide) rfl (fun ls hl => ?_)
  refine zj_iconst (pc' := 3) (v := (2 : Int32)) hC dX0_ask_2 rfl rfl ?_
  refine zj_istore (pc' := 5) (lv' := [(4, .int (2 : Int32)), (3, .int (0 : Int32)), (0, .ref (b0 + v0)), (1, .ref (b0 + v1)), (2, .int v2)]) hC dX0_ask_3 rfl hl (by decide) rfl (fun ls hl => ?_)
  refine zj_iconst (pc' := 6) (v := (0 : Int32)) hC dX0_ask_5 rfl rfl ?_
  refine zj_istore (pc' := 8) (lv' := [(5, .int (0 : Int32)), (4, .int (2 : Int32)), (3, .int (0 : Int32)), (0, .ref (b0 + v0)), (1, .ref (b0 + v1)), (2, .int v2)]) hC dX0_ask_6 rfl hl (by decide) rfl (fun ls hl => ?_)
  refine zj_iconst (pc' := 9) (v := (0 : Int32)) hC dX0_ask_8 rfl rfl ?_
  refine zj_istore (pc' := 11) (lv' := [(6, .int (0 : Int32)), (5, .int (0 : Int32)), (4, .int (2 : Int32)), (3, .int (0 : Int32)), (0, .ref (b0 + v0)), (1, .ref (b0 + v1)), (2, .int v2)]) hC dX0_ask_9 rfl hl (by decide) rfl (fun ls hl => ?_)
  exact lX0_ask_11 hC zFU v0 v1 v2 (0 : Int32) (2 : Int32) (0 : Int32) (0 : Int32) σ ls hk0 hk1 (lv_sub hl [4, 5, 6, 3, 2, 1, 0] rfl)
-- X1_goodForKnowing
theorem ddX1_goodForKnowing : yX1_goodForKnowing.cls ≠ "java/lang/invoke/MethodHandle" ∧ yX1_goodForKnowing.cls ≠ "java/lang/invoke/VarHandle" ∧ (parseMethodDescriptor yX1_goodForKnowing.desc).map (fun d => d.parameters.length) = some 0 := by decide +kernel
abbrev rmX1_goodForKnowing : Room := { frames := 0, cells := 0, slots := 0, locals := 0 }
def bX1_goodForKnowing_4 (k4 : Nat → Int32 → Int32 → zS → Option (Int32 × zS)) (v0 : Nat) (v1 : Int32) (v2 : Int32) (σ : zS) : Option (Int32 × zS) :=
  if (σ.1 v0 0) ≤ v2 then (some (v1, σ)) else (if (40 : Int32) ≤ v2 then (some (v1, σ)) else (bnd (σ.2 v0 1) (fun (q3 : Nat) => zX v2 40 (bnd ((v1 + (σ.1 q3 (v2).toNatClampNeg))) (fun (x5 : Int32) => k4 v0 x5 ((v2 + (1 : Int32))) σ)))))
def fX1_goodForKnowing_4  : Nat → Nat → Int32 → Int32 → zS → Option (Int32 × zS)
  | 0, _, _, _, _ => none
  | n + 1, v0, v1, v2, σ => bX1_goodForKnowing_4 (fX1_goodForKnowing_4  n) v0 v1 v2 σ
def fX1_goodForKnowing (v0 : Nat) (σ : zS) : Option (Int32 × zS) :=
  fX1_goodForKnowing_4 zFU v0 (0 : Int32) (0 : Int32) σ
set_option maxRecDepth 100000 in
set_option maxHeartbeats 4000000 in
theorem jX1_goodForKnowing_4 {p : Program} {l : Launch} {e : Env} {s : State} {m : MethodId} {args : Array Value} {below : List Frame} {meth : Method} {c : Code} {b0 : Nat} {cA : Nat → ClassId} {D : va_G} {L : List (Nat × Nat)} (hC : zC p c s m args meth cX1_goodForKnowing 3 (some Jvm.ClassFile.FieldType.int) (Cond.code yX1_goodForKnowing cX1_goodForKnowing 3 (some Jvm.ClassFile.FieldType.int)) yX1_goodForKnowing.cls cA D) (k4 : Nat → Int32 → Int32 → zS → Option (Int32 × zS)) (h4 : ∀ (v0 : Nat) (v1 : Int32) (v2 : Int32) (σ : zS) (ls : Array Slot), L[v0]? = some (0, 1) → lv_has ls 3 [(0, .ref (b0 + v0)), (1, .int v1), (2, .int v2)] → zJ p l e rmX1_goodForKnowing s m args below meth c b0 cA D L (fun z => MQ below (va_Qi (fun (r : Int32) (u : zS) => (r, u) = z) (zB b0 cA D L) (zA b0 L)) args s 0 0 (zA b0 L)) (k4 v0 v1 v2 σ) σ 4 ls []) (v0 : Nat) (v1 : Int32) (v2 : Int32) (σ : zS) (ls : Array Slot) (hk_v0 : L[v0]? = some (0, 1)) (hl : lv_has ls 3 [(0, .ref (b0 + v0)), (1, .int v1), (2, .int v2)]) : zJ p l e rmX1_goodForKnowing s m args below meth c b0 cA D L (fun z => MQ below (va_Qi (fun (r : Int32) (u : zS) => (r, u) = z) (zB b0 cA D L) (zA b0 L)) args s 0 0 (zA b0 L)) (bX1_goodForKnowing_4 k4 v0 v1 v2 σ) σ 4 ls [] := by
  unfold bX1_goodForKnowing_4
  refine zj_iload_n (pc' := 5) hC dX1_goodForKnowing_4 rfl rfl (lv_at hl 2 rfl) ?_
  refine zj_aload_n (pc' := 6) hC dX1_goodForKnowing_5 rfl rfl (lv_at hl 0 rfl) ?_
  refine zj_getI (pc' := 9) hC hk_v0 fd_1_0 rfl tw_1_33 dX1_goodForKnowing_6 rfl ?_
  refine zj_icmp_ge (tgt := 33) (pc' := 12) hC dX1_goodForKnowing_9 (by decide) rfl (fun c1 => ?_) (fun c1 => ?_)
  · refine zj_iload_n (pc' := 34) hC dX1_goodForKnowing_33 rfl rfl (lv_at hl 1 rfl) ?_
    exact zj_iret hC dX1_goodForKnowing_34
  · refine zj_iload_n (pc' := 13) hC dX1_goodForKnowing_12 rfl rfl (lv_at hl 2 rfl) ?_
    refine zj_bipush (pc' := 15) (v := (40 : Int32)) hC dX1_goodForKnowing_13 rfl rfl ?_
    refine zj_icmp_ge (tgt := 33) (pc' := 18) hC dX1_goodForKnowing_15 (by decide) rfl (fun c2 => ?_) (fun c2 => ?_)
    · refine zj_iload_n (pc' := 34) hC dX1_goodForKnowing_33 rfl rfl (lv_at hl 1 rfl) ?_
      exact zj_iret hC dX1_goodForKnowing_34
    · refine zj_iload_n (pc' := 19) hC dX1_goodForKnowing_18 rfl rfl (lv_at hl 1 rfl) ?_
      refine zj_aload_n (pc' := 20) hC dX1_goodForKnowing_19 rfl rfl (lv_at hl 0 rfl) ?_
      refine zj_getR (pc' := 23) hC hk_v0 fd_1_1 rfl tw_1_36 dX1_goodForKnowing_20 rfl (fun q3 hk_q3 => ?_)
      refine zj_iload_n (pc' := 24) hC dX1_goodForKnowing_23 rfl rfl (lv_at hl 2 rfl) ?_
      refine zj_iald (pc' := 25) hC hk_q3 dX1_goodForKnowing_24 rfl (fun g4 => ?_)
      refine zj_iadd (pc' := 26) hC dX1_goodForKnowing_25 rfl ?_
      refine zj_nmi (fun x5 => ?_)
      refine zj_istore_n (pc' := 27) (lv' := [(1, .int x5), (0, .ref (b0 + v0)), (2, .int v2)]) hC dX1_goodForKnowing_26 rfl rfl hl (by decide) rfl (fun ls hl => ?_)
      refine zj_iinc (pc' := 30) (k0 := 2) (v := (v2 + (1 : Int32))) (lv' := [(2, .int (v2 + (1 : Int32))), (1, .int x5), (0, .ref (b0 + v0))]) hC dX1_goodForKnowing_27 rfl hl rfl rfl (by decide) rfl (fun ls hl => ?_)
      refine zj_goto (tgt := 4) hC dX1_goodForKnowing_30 (by decide) ?_
      exact h4 v0 x5 ((v2 + (1 : Int32))) σ ls hk_v0 (lv_sub hl [2, 1, 0] rfl)
set_option maxRecDepth 100000 in
set_option maxHeartbeats 4000000 in
theorem lX1_goodForKnowing_4 {p : Program} {l : Launch} {e : Env} {s : State} {m : MethodId} {args : Array Value} {below : List Frame} {meth : Method} {c : Code} {b0 : Nat} {cA : Nat → ClassId} {D : va_G} {L : List (Nat × Nat)} (hC : zC p c s m args meth cX1_goodForKnowing 3 (some Jvm.ClassFile.FieldType.int) (Cond.code yX1_goodForKnowing cX1_goodForKnowing 3 (some Jvm.ClassFile.FieldType.int)) yX1_goodForKnowing.cls cA D)  (n : Nat) : ∀ (v0 : Nat) (v1 : Int32) (v2 : Int32) (σ : zS) (ls : Array Slot), L[v0]? = some (0, 1) → lv_has ls 3 [(0, .ref (b0 + v0)), (1, .int v1), (2, .int v2)] → zJ p l e rmX1_goodForKnowing s m args below meth c b0 cA D L (fun z => MQ below (va_Qi (fun (r : Int32) (u : zS) => (r, u) = z) (zB b0 cA D L) (zA b0 L)) args s 0 0 (zA b0 L)) (fX1_goodForKnowing_4  n v0 v1 v2 σ) σ 4 ls [] := by
  induction n with
  | zero => intros; exact zj_none
  | succ n ih => exact jX1_goodForKnowing_4 hC (fX1_goodForKnowing_4  n) ih
set_option maxRecDepth 100000 in
set_option maxHeartbeats 4000000 in
theorem kX1_goodForKnowing (l : Launch) (b0 : Nat) (cA : Nat → ClassId) (D : va_G) (L : List (Nat × Nat)) (v0 : Nat) (σ : zS) (hk0 : L[v0]? = some (0, 1)) : zMi l b0 cA D L yX1_goodForKnowing (Cond.code yX1_goodForKnowing cX1_goodForKnowing 3 (some Jvm.ClassFile.FieldType.int)) rmX1_goodForKnowing [.ref (b0 + v0)] σ (fX1_goodForKnowing v0 σ) := by
  refine zMi_of (by decide) (Nat.le_of_ble_eq_true rfl) ?_
  intro p e s m below meth c ls hC hl
  have hl : lv_has ls 3 [(0, .ref (b0 + v0))] := hl
  generalize ([.ref (b0 + v0)] : List Value).toArray = args at hC ⊢
  unfold fX1_goodForKnowing
  refine zj_iconst (pc' := 1) (v := (0 : Int32)) hC dX1_goodForKnowing_0 rfl rfl ?_
  refine zj_istore_n (pc' := 2) (lv' := [(1, .int (0 : Int32)), (0, .ref (b0 + v0))]) hC dX1_goodForKnowing_1 rfl rfl hl (by decide) rfl (fun ls hl => ?_)
  refine zj_iconst (pc' := 3) (v := (0 : Int32)) hC dX1_goodForKnowing_2 rfl rfl ?_
  refine zj_istore_n (pc' := 4) (lv' := [(2, .int (0 : Int32)), (1, .int (0 : Int32)), (0, .ref (b0 + v0))]) hC dX1_goodForKnowing_3 rfl rfl hl (by decide) rfl (fun ls hl => ?_)
  exact lX1_goodForKnowing_4 hC zFU v0 (0 : Int32) (0 : Int32) σ ls hk0 (lv_sub hl [2, 1, 0] rfl)
-- X1_copy
theorem ddX1_copy : yX1_copy.cls ≠ "java/lang/invoke/MethodHandle" ∧ yX1_copy.cls ≠ "java/lang/invoke/VarHandle" ∧ (parseMethodDescriptor yX1_copy.desc).map (fun d => d.parameters.length) = some 1 := by decide +kernel
abbrev rmX1_copy : Room := { frames := 1, cells := 0, slots := 0, locals := 48 }
def fX1_copy (v0 : Nat) (v1 : Nat) (σ : zS) : Option (Unit × zS) :=
  bnd (zI σ v0 0 (σ.1 v1 0)) (fun (σ1 : zS) => bnd (σ1.2 v1 1) (fun (q2 : Nat) => bnd (σ1.2 v0 1) (fun (q3 : Nat) => bnd (zY σ1 q2 q3 ((0 : Int32)).toNatClampNeg ((0 : Int32)).toNatClampNeg ((40 : Int32)).toNatClampNeg) (fun (σ4 : zS) => bnd (σ4.2 v1 2) (fun (q5 : Nat) => bnd (σ4.2 v0 2) (fun (q6 : Nat) => bnd (zY σ4 q5 q6 ((0 : Int32)).toNatClampNeg ((0 : Int32)).toNatClampNeg ((40 : Int32)).toNatClampNeg) (fun (σ7 : zS) => some ((), σ7))))))))
set_option maxRecDepth 100000 in
set_option maxHeartbeats 4000000 in
theorem kX1_copy (l : Launch) (b0 : Nat) (cA : Nat → ClassId) (D : va_G) (L : List (Nat × Nat)) (v0 : Nat) (v1 : Nat) (σ : zS) (hk0 : L[v0]? = some (0, 1)) (hk1 : L[v1]? = some (0, 1)) : zMv l b0 cA D L yX1_copy (Cond.code yX1_copy cX1_copy 2 (none)) rmX1_copy [.ref (b0 + v0), .ref (b0 + v1)] σ (fX1_copy v0 v1 σ) := by
  refine zMv_of (by decide) (Nat.le_of_ble_eq_true rfl) ?_
  intro p e s m below meth c ls hC hl
  have hl : lv_has ls 2 [(0, .ref (b0 + v0)), (1, .ref (b0 + v1))] := hl
  generalize ([.ref (b0 + v0), .ref (b0 + v1)] : List Value).toArray = args at hC ⊢
  unfold fX1_copy
  refine zj_aload_n (pc' := 1) hC dX1_copy_0 rfl rfl (lv_at hl 0 rfl) ?_
  refine zj_aload_n (pc' := 2) hC dX1_copy_1 rfl rfl (lv_at hl 1 rfl) ?_
  refine zj_getI (pc' := 5) hC hk1 fd_1_0 rfl tw_1_33 dX1_copy_2 rfl ?_
  refine zj_putI (pc' := 8) hC hk0 fd_1_0 rfl tw_1_33 rfl rfl rfl dX1_copy_5 rfl (fun σ1 => ?_)
  refine zj_aload_n (pc' := 9) hC dX1_copy_8 rfl rfl (lv_at hl 1 rfl) ?_
  refine zj_getR (pc' := 12) hC hk1 fd_1_1 rfl tw_1_36 dX1_copy_9 rfl (fun q2 hk_q2 => ?_)
  refine zj_iconst (pc' := 13) (v := (0 : Int32)) hC dX1_copy_12 rfl rfl ?_
  refine zj_aload_n (pc' := 14) hC dX1_copy_13 rfl rfl (lv_at hl 0 rfl) ?_
  refine zj_getR (pc' := 17) hC hk0 fd_1_1 rfl tw_1_36 dX1_copy_14 rfl (fun q3 hk_q3 => ?_)
  refine zj_iconst (pc' := 18) (v := (0 : Int32)) hC dX1_copy_17 rfl rfl ?_
  refine zj_bipush (pc' := 20) (v := (40 : Int32)) hC dX1_copy_18 rfl rfl ?_
  refine zj_copy (pc' := 23) (sp := (0 : Int32)) (dp := (0 : Int32)) (n := (40 : Int32)) hC hk_q2 hk_q3 tw_3_213 tw_3_215 tw_3_214 tw_1_16 hl.1 (by decide) (by decide) (by decide) (by decide) (by decide) (by decide) (Nat.le_of_ble_eq_true rfl) dX1_copy_20 rfl (fun σ4 => ?_)
  refine zj_aload_n (pc' := 24) hC dX1_copy_23 rfl rfl (lv_at hl 1 rfl) ?_
  refine zj_getR (pc' := 27) hC hk1 fd_1_2 rfl tw_1_39 dX1_copy_24 rfl (fun q5 hk_q5 => ?_)
  refine zj_iconst (pc' := 28) (v := (0 : Int32)) hC dX1_copy_27 rfl rfl ?_
  refine zj_aload_n (pc' := 29) hC dX1_copy_28 rfl rfl (lv_at hl 0 rfl) ?_
  refine zj_getR (pc' := 32) hC hk0 fd_1_2 rfl tw_1_39 dX1_copy_29 rfl (fun q6 hk_q6 => ?_)
  refine zj_iconst (pc' := 33) (v := (0 : Int32)) hC dX1_copy_32 rfl rfl ?_
  refine zj_bipush (pc' := 35) (v := (40 : Int32)) hC dX1_copy_33 rfl rfl ?_
  refine zj_copy (pc' := 38) (sp := (0 : Int32)) (dp := (0 : Int32)) (n := (40 : Int32)) hC hk_q5 hk_q6 tw_3_213 tw_3_215 tw_3_214 tw_1_16 hl.1 (by decide) (by decide) (by decide) (by decide) (by decide) (by decide) (Nat.le_of_ble_eq_true rfl) dX1_copy_35 rfl (fun σ7 => ?_)
  exact zj_vret hC dX1_copy_38
-- X2_has
theorem ddX2_has : yX2_has.cls ≠ "java/lang/invoke/MethodHandle" ∧ yX2_has.cls ≠ "java/lang/invoke/VarHandle" ∧ (parseMethodDescriptor yX2_has.desc).map (fun d => d.parameters.length) = some 1 := by decide +kernel
abbrev rmX2_has : Room := { frames := 0, cells := 0, slots := 0, locals := 0 }
def fX2_has (v0 : Nat) (v1 : Int32) (σ : zS) : Option (Int32 × zS) :=
  if (((σ.1 v0 1) >>> (v1 &&& 31)) &&& (1 : Int32)) = 0 then (some ((0 : Int32), σ)) else (some ((1 : Int32), σ))
set_option maxRecDepth 100000 in
set_option maxHeartbeats 4000000 in
theorem kX2_has (l : Launch) (b0 : Nat) (cA : Nat → ClassId) (D : va_G) (L : List (Nat × Nat)) (v0 : Nat) (v1 : Int32) (σ : zS) (hk0 : L[v0]? = some (0, 2)) : zMz l b0 cA D L yX2_has (Cond.code yX2_has cX2_has 2 (some Jvm.ClassFile.FieldType.boolean)) rmX2_has [.ref (b0 + v0), .int v1] σ (fX2_has v0 v1 σ) := by
  refine zMz_of (by decide) (Nat.le_of_ble_eq_true rfl) ?_
  intro p e s m below meth c ls hC hl
  have hl : lv_has ls 2 [(0, .ref (b0 + v0)), (1, .int v1)] := hl
  generalize ([.ref (b0 + v0), .int v1] : List Value).toArray = args at hC ⊢
  unfold fX2_has
  refine zj_aload_n (pc' := 1) hC dX2_has_0 rfl rfl (lv_at hl 0 rfl) ?_
  refine zj_getI (pc' := 4) hC hk0 fd_2_1 rfl tw_1_63 dX2_has_1 rfl ?_
  refine zj_iload_n (pc' := 5) hC dX2_has_4 rfl rfl (lv_at hl 1 rfl) ?_
  refine zj_ishr (pc' := 6) hC dX2_has_5 rfl ?_
  refine zj_iconst (pc' := 7) (v := (1 : Int32)) hC dX2_has_6 rfl rfl ?_
  refine zj_iand (pc' := 8) hC dX2_has_7 rfl ?_
  refine zj_if_eq (tgt := 15) (pc' := 11) hC dX2_has_8 (by decide) rfl (fun c1 => ?_) (fun c1 => ?_)
  · refine zj_iconst (pc' := 16) (v := (0 : Int32)) hC dX2_has_15 rfl rfl ?_
    exact zj_zret hC nB_0 dX2_has_16
  · refine zj_iconst (pc' := 12) (v := (1 : Int32)) hC dX2_has_11 rfl rfl ?_
    refine zj_goto (tgt := 16) hC dX2_has_12 (by decide) ?_
    exact zj_zret hC nB_1 dX2_has_16
-- X2_sortOf
theorem ddX2_sortOf : yX2_sortOf.cls ≠ "java/lang/invoke/MethodHandle" ∧ yX2_sortOf.cls ≠ "java/lang/invoke/VarHandle" ∧ (parseMethodDescriptor yX2_sortOf.desc).map (fun d => d.parameters.length) = some 1 := by decide +kernel
abbrev rmX2_sortOf : Room := { frames := 1, cells := 0, slots := 0, locals := 21 }
def fX2_sortOf (v0 : Nat) (v1 : Int32) (σ : zS) : Option (Int32 × zS) :=
  zb (fX2_has v0 v1 σ) (fun (r2 : Int32) (σ1 : zS) => if r2 = 0 then (some ((-1 : Int32), σ1)) else (bnd (((((σ1.1 v0 4) >>> (v1 &&& 31)) &&& (1 : Int32)) <<< ((1 : Int32) &&& 31))) (fun (x4 : Int32) => some (((((σ1.1 v0 3) >>> (v1 &&& 31)) &&& (1 : Int32)) ||| x4), σ1))))
set_option maxRecDepth 100000 in
set_option maxHeartbeats 4000000 in
theorem kX2_sortOf (l : Launch) (b0 : Nat) (cA : Nat → ClassId) (D : va_G) (L : List (Nat × Nat)) (v0 : Nat) (v1 : Int32) (σ : zS) (hk0 : L[v0]? = some (0, 2)) : zMi l b0 cA D L yX2_sortOf (Cond.code yX2_sortOf cX2_sortOf 2 (some Jvm.ClassFile.FieldType.int)) rmX2_sortOf [.ref (b0 + v0), .int v1] σ (fX2_sortOf v0 v1 σ) := by
  refine zMi_of (by decide) (Nat.le_of_ble_eq_true rfl) ?_
  intro p e s m below meth c ls hC hl
  have hl : lv_has ls 2 [(0, .ref (b0 + v0)), (1, .int v1)] := hl
  generalize ([.ref (b0 + v0), .int v1] : List Value).toArray = args at hC ⊢
  unfold fX2_sortOf
  refine zj_aload_n (pc' := 1) hC dX2_sortOf_0 rfl rfl (lv_at hl 0 rfl) ?_
  refine zj_iload_n (pc' := 2) hC dX2_sortOf_1 rfl rfl (lv_at hl 1 rfl) ?_
  refine zj_callzV (pc' := 5) (rest := []) hC (kX2_has l b0 cA D L v0 v1 σ hk0) hk0 rfl tw_2_40 tw_3_53 tw_2_38 tw_2_39 tw_1_4 ddX2_has rfl ⟨rfl, rfl⟩ ⟨by decide, by decide⟩ hl.1 (Nat.le_of_ble_eq_true rfl) rfl dX2_sortOf_2 rfl (fun r2 σ1 hb_r2 => ?_)
  refine zj_if_eq (tgt := 30) (pc' := 8) hC dX2_sortOf_5 (by decide) rfl (fun c3 => ?_) (fun c3 => ?_)
  · refine zj_iconst (pc' := 31) (v := (-1 : Int32)) hC dX2_sortOf_30 rfl rfl ?_
    exact zj_iret hC dX2_sortOf_31
  · refine zj_aload_n (pc' := 9) hC dX2_sortOf_8 rfl rfl (lv_at hl 0 rfl) ?_
    refine zj_getI (pc' := 12) hC hk0 fd_2_3 rfl tw_1_69 dX2_sortOf_9 rfl ?_
    refine zj_iload_n (pc' := 13) hC dX2_sortOf_12 rfl rfl (lv_at hl 1 rfl) ?_
    refine zj_ishr (pc' := 14) hC dX2_sortOf_13 rfl ?_
    refine zj_iconst (pc' := 15) (v := (1 : Int32)) hC dX2_sortOf_14 rfl rfl ?_
    refine zj_iand (pc' := 16) hC dX2_sortOf_15 rfl ?_
    refine zj_aload_n (pc' := 17) hC dX2_sortOf_16 rfl rfl (lv_at hl 0 rfl) ?_
    refine zj_getI (pc' := 20) hC hk0 fd_2_4 rfl tw_1_70 dX2_sortOf_17 rfl ?_
    refine zj_iload_n (pc' := 21) hC dX2_sortOf_20 rfl rfl (lv_at hl 1 rfl) ?_
    refine zj_ishr (pc' := 22) hC dX2_sortOf_21 rfl ?_
    refine zj_iconst (pc' := 23) (v := (1 : Int32)) hC dX2_sortOf_22 rfl rfl ?_
    refine zj_iand (pc' := 24) hC dX2_sortOf_23 rfl ?_
    refine zj_iconst (pc' := 25) (v := (1 : Int32)) hC dX2_sortOf_24 rfl rfl ?_
    refine zj_ishl (pc' := 26) hC dX2_sortOf_25 rfl ?_
    refine zj_nmi (fun x4 => ?_)
    refine zj_ior (pc' := 27) hC dX2_sortOf_26 rfl ?_
    refine zj_goto (tgt := 31) hC dX2_sortOf_27 (by decide) ?_
    exact zj_iret hC dX2_sortOf_31
-- X2_payerOf
theorem ddX2_payerOf : yX2_payerOf.cls ≠ "java/lang/invoke/MethodHandle" ∧ yX2_payerOf.cls ≠ "java/lang/invoke/VarHandle" ∧ (parseMethodDescriptor yX2_payerOf.desc).map (fun d => d.parameters.length) = some 1 := by decide +kernel
abbrev rmX2_payerOf : Room := { frames := 1, cells := 0, slots := 0, locals := 21 }
def fX2_payerOf (v0 : Nat) (v1 : Int32) (σ : zS) : Option (Int32 × zS) :=
  zb (fX2_has v0 v1 σ) (fun (r2 : Int32) (σ1 : zS) => if r2 = 0 then (some ((-1 : Int32), σ1)) else (bnd (((((σ1.1 v0 6) >>> (v1 &&& 31)) &&& (1 : Int32)) <<< ((1 : Int32) &&& 31))) (fun (x4 : Int32) => some (((((σ1.1 v0 5) >>> (v1 &&& 31)) &&& (1 : Int32)) ||| x4), σ1))))
set_option maxRecDepth 100000 in
set_option maxHeartbeats 4000000 in
theorem kX2_payerOf (l : Launch) (b0 : Nat) (cA : Nat → ClassId) (D : va_G) (L : List (Nat × Nat)) (v0 : Nat) (v1 : Int32) (σ : zS) (hk0 : L[v0]? = some (0, 2)) : zMi l b0 cA D L yX2_payerOf (Cond.code yX2_payerOf cX2_payerOf 2 (some Jvm.ClassFile.FieldType.int)) rmX2_payerOf [.ref (b0 + v0), .int v1] σ (fX2_payerOf v0 v1 σ) := by
  refine zMi_of (by decide) (Nat.le_of_ble_eq_true rfl) ?_
  intro p e s m below meth c ls hC hl
  have hl : lv_has ls 2 [(0, .ref (b0 + v0)), (1, .int v1)] := hl
  generalize ([.ref (b0 + v0), .int v1] : List Value).toArray = args at hC ⊢
  unfold fX2_payerOf
  refine zj_aload_n (pc' := 1) hC dX2_payerOf_0 rfl rfl (lv_at hl 0 rfl) ?_
  refine zj_iload_n (pc' := 2) hC dX2_payerOf_1 rfl rfl (lv_at hl 1 rfl) ?_
  refine zj_callzV (pc' := 5) (rest := []) hC (kX2_has l b0 cA D L v0 v1 σ hk0) hk0 rfl tw_2_40 tw_3_53 tw_2_38 tw_2_39 tw_1_4 ddX2_has rfl ⟨rfl, rfl⟩ ⟨by decide, by decide⟩ hl.1 (Nat.le_of_ble_eq_true rfl) rfl dX2_payerOf_2 rfl (fun r2 σ1 hb_r2 => ?_)
  refine zj_if_eq (tgt := 30) (pc' := 8) hC dX2_payerOf_5 (by decide) rfl (fun c3 => ?_) (fun c3 => ?_)
  · refine zj_iconst (pc' := 31) (v := (-1 : Int32)) hC dX2_payerOf_30 rfl rfl ?_
    exact zj_iret hC dX2_payerOf_31
  · refine zj_aload_n (pc' := 9) hC dX2_payerOf_8 rfl rfl (lv_at hl 0 rfl) ?_
    refine zj_getI (pc' := 12) hC hk0 fd_2_5 rfl tw_1_71 dX2_payerOf_9 rfl ?_
    refine zj_iload_n (pc' := 13) hC dX2_payerOf_12 rfl rfl (lv_at hl 1 rfl) ?_
    refine zj_ishr (pc' := 14) hC dX2_payerOf_13 rfl ?_
    refine zj_iconst (pc' := 15) (v := (1 : Int32)) hC dX2_payerOf_14 rfl rfl ?_
    refine zj_iand (pc' := 16) hC dX2_payerOf_15 rfl ?_
    refine zj_aload_n (pc' := 17) hC dX2_payerOf_16 rfl rfl (lv_at hl 0 rfl) ?_
    refine zj_getI (pc' := 20) hC hk0 fd_2_6 rfl tw_1_74 dX2_payerOf_17 rfl ?_
    refine zj_iload_n (pc' := 21) hC dX2_payerOf_20 rfl rfl (lv_at hl 1 rfl) ?_
    refine zj_ishr (pc' := 22) hC dX2_payerOf_21 rfl ?_
    refine zj_iconst (pc' := 23) (v := (1 : Int32)) hC dX2_payerOf_22 rfl rfl ?_
    refine zj_iand (pc' := 24) hC dX2_payerOf_23 rfl ?_
    refine zj_iconst (pc' := 25) (v := (1 : Int32)) hC dX2_payerOf_24 rfl rfl ?_
    refine zj_ishl (pc' := 26) hC dX2_payerOf_25 rfl ?_
    refine zj_nmi (fun x4 => ?_)
    refine zj_ior (pc' := 27) hC dX2_payerOf_26 rfl ?_
    refine zj_goto (tgt := 31) hC dX2_payerOf_27 (by decide) ?_
    exact zj_iret hC dX2_payerOf_31
-- X2_paidBy
theorem ddX2_paidBy : yX2_paidBy.cls ≠ "java/lang/invoke/MethodHandle" ∧ yX2_paidBy.cls ≠ "java/lang/invoke/VarHandle" ∧ (parseMethodDescriptor yX2_paidBy.desc).map (fun d => d.parameters.length) = some 1 := by decide +kernel
abbrev rmX2_paidBy : Room := { frames := 0, cells := 0, slots := 0, locals := 0 }
def fX2_paidBy (v0 : Nat) (v1 : Int32) (σ : zS) : Option (Int32 × zS) :=
  if v1 = (1 : Int32) then (some ((σ.1 v0 5), σ)) else (some ((σ.1 v0 6), σ))
set_option maxRecDepth 100000 in
set_option maxHeartbeats 4000000 in
theorem kX2_paidBy (l : Launch) (b0 : Nat) (cA : Nat → ClassId) (D : va_G) (L : List (Nat × Nat)) (v0 : Nat) (v1 : Int32) (σ : zS) (hk0 : L[v0]? = some (0, 2)) : zMi l b0 cA D L yX2_paidBy (Cond.code yX2_paidBy cX2_paidBy 2 (some Jvm.ClassFile.FieldType.int)) rmX2_paidBy [.ref (b0 + v0), .int v1] σ (fX2_paidBy v0 v1 σ) := by
  refine zMi_of (by decide) (Nat.le_of_ble_eq_true rfl) ?_
  intro p e s m below meth c ls hC hl
  have hl : lv_has ls 2 [(0, .ref (b0 + v0)), (1, .int v1)] := hl
  generalize ([.ref (b0 + v0), .int v1] : List Value).toArray = args at hC ⊢
  unfold fX2_paidBy
  refine zj_iload_n (pc' := 1) hC dX2_paidBy_0 rfl rfl (lv_at hl 1 rfl) ?_
  refine zj_iconst (pc' := 2) (v := (1 : Int32)) hC dX2_paidBy_1 rfl rfl ?_
  refine zj_icmp_ne (tgt := 12) (pc' := 5) hC dX2_paidBy_2 (by decide) rfl (fun c1 => ?_) (fun c1 => ?_)
  · refine zj_aload_n (pc' := 13) hC dX2_paidBy_12 rfl rfl (lv_at hl 0 rfl) ?_
    refine zj_getI (pc' := 16) hC hk0 fd_2_6 rfl tw_1_74 dX2_paidBy_13 rfl ?_
    exact zj_iret hC dX2_paidBy_16
  · refine zj_aload_n (pc' := 6) hC dX2_paidBy_5 rfl rfl (lv_at hl 0 rfl) ?_
    refine zj_getI (pc' := 9) hC hk0 fd_2_5 rfl tw_1_71 dX2_paidBy_6 rfl ?_
    refine zj_goto (tgt := 16) hC dX2_paidBy_9 (by decide) ?_
    exact zj_iret hC dX2_paidBy_16
-- X2_unpaid
theorem ddX2_unpaid : yX2_unpaid.cls ≠ "java/lang/invoke/MethodHandle" ∧ yX2_unpaid.cls ≠ "java/lang/invoke/VarHandle" ∧ (parseMethodDescriptor yX2_unpaid.desc).map (fun d => d.parameters.length) = some 0 := by decide +kernel
abbrev rmX2_unpaid : Room := { frames := 0, cells := 0, slots := 0, locals := 0 }
def fX2_unpaid (v0 : Nat) (σ : zS) : Option (Int32 × zS) :=
  bnd (((σ.1 v0 1) &&& (((σ.1 v0 5) ||| (σ.1 v0 6)) ^^^ (-1 : Int32)))) (fun (x1 : Int32) => some (x1, σ))
set_option maxRecDepth 100000 in
set_option maxHeartbeats 4000000 in
theorem kX2_unpaid (l : Launch) (b0 : Nat) (cA : Nat → ClassId) (D : va_G) (L : List (Nat × Nat)) (v0 : Nat) (σ : zS) (hk0 : L[v0]? = some (0, 2)) : zMi l b0 cA D L yX2_unpaid (Cond.code yX2_unpaid cX2_unpaid 1 (some Jvm.ClassFile.FieldType.int)) rmX2_unpaid [.ref (b0 + v0)] σ (fX2_unpaid v0 σ) := by
  refine zMi_of (by decide) (Nat.le_of_ble_eq_true rfl) ?_
  intro p e s m below meth c ls hC hl
  have hl : lv_has ls 1 [(0, .ref (b0 + v0))] := hl
  generalize ([.ref (b0 + v0)] : List Value).toArray = args at hC ⊢
  unfold fX2_unpaid
  refine zj_aload_n (pc' := 1) hC dX2_unpaid_0 rfl rfl (lv_at hl 0 rfl) ?_
  refine zj_getI (pc' := 4) hC hk0 fd_2_1 rfl tw_1_63 dX2_unpaid_1 rfl ?_
  refine zj_aload_n (pc' := 5) hC dX2_unpaid_4 rfl rfl (lv_at hl 0 rfl) ?_
  refine zj_getI (pc' := 8) hC hk0 fd_2_5 rfl tw_1_71 dX2_unpaid_5 rfl ?_
  refine zj_aload_n (pc' := 9) hC dX2_unpaid_8 rfl rfl (lv_at hl 0 rfl) ?_
  refine zj_getI (pc' := 12) hC hk0 fd_2_6 rfl tw_1_74 dX2_unpaid_9 rfl ?_
  refine zj_ior (pc' := 13) hC dX2_unpaid_12 rfl ?_
  refine zj_iconst (pc' := 14) (v := (-1 : Int32)) hC dX2_unpaid_13 rfl rfl ?_
  refine zj_ixor (pc' := 15) hC dX2_unpaid_14 rfl ?_
  refine zj_iand (pc' := 16) hC dX2_unpaid_15 rfl ?_
  refine zj_nmi (fun x1 => ?_)
  exact zj_iret hC dX2_unpaid_16
-- X2_sit
theorem ddX2_sit : yX2_sit.cls ≠ "java/lang/invoke/MethodHandle" ∧ yX2_sit.cls ≠ "java/lang/invoke/VarHandle" ∧ (parseMethodDescriptor yX2_sit.desc).map (fun d => d.parameters.length) = some 3 := by decide +kernel
abbrev rmX2_sit : Room := { frames := 0, cells := 0, slots := 0, locals := 0 }
def fX2_sit (v0 : Nat) (v1 : Int32) (v2 : Int32) (v3 : Int32) (σ : zS) : Option (Unit × zS) :=
  bnd (((1 : Int32) <<< (v1 &&& 31))) (fun (x1 : Int32) => bnd (zI σ v0 1 ((σ.1 v0 1) ||| x1)) (fun (σ2 : zS) => bnd ((((σ2.1 v0 2) &&& (x1 ^^^ (-1 : Int32))) ||| (v3 <<< (v1 &&& 31)))) (fun (x3 : Int32) => bnd (zI σ2 v0 2 x3) (fun (σ4 : zS) => bnd ((((σ4.1 v0 3) &&& (x1 ^^^ (-1 : Int32))) ||| ((v2 &&& (1 : Int32)) <<< (v1 &&& 31)))) (fun (x5 : Int32) => bnd (zI σ4 v0 3 x5) (fun (σ6 : zS) => bnd ((((v2 >>> ((1 : Int32) &&& 31)) &&& (1 : Int32)) <<< (v1 &&& 31))) (fun (x7 : Int32) => bnd (zI σ6 v0 4 (((σ6.1 v0 4) &&& (x1 ^^^ (-1 : Int32))) ||| x7)) (fun (σ8 : zS) => some ((), σ8)))))))))
set_option maxRecDepth 100000 in
set_option maxHeartbeats 4000000 in
theorem kX2_sit (l : Launch) (b0 : Nat) (cA : Nat → ClassId) (D : va_G) (L : List (Nat × Nat)) (v0 : Nat) (v1 : Int32) (v2 : Int32) (v3 : Int32) (σ : zS) (hk0 : L[v0]? = some (0, 2)) : zMv l b0 cA D L yX2_sit (Cond.code yX2_sit cX2_sit 5 (none)) rmX2_sit [.ref (b0 + v0), .int v1, .int v2, .int v3] σ (fX2_sit v0 v1 v2 v3 σ) := by
  refine zMv_of (by decide) (Nat.le_of_ble_eq_true rfl) ?_
  intro p e s m below meth c ls hC hl
  have hl : lv_has ls 5 [(0, .ref (b0 + v0)), (1, .int v1), (2, .int v2), (3, .int v3)] := hl
  generalize ([.ref (b0 + v0), .int v1, .int v2, .int v3] : List Value).toArray = args at hC ⊢
  unfold fX2_sit
  refine zj_iconst (pc' := 1) (v := (1 : Int32)) hC dX2_sit_0 rfl rfl ?_
  refine zj_iload_n (pc' := 2) hC dX2_sit_1 rfl rfl (lv_at hl 1 rfl) ?_
  refine zj_ishl (pc' := 3) hC dX2_sit_2 rfl ?_
  refine zj_nmi (fun x1 => ?_)
  refine zj_istore (pc' := 5) (lv' := [(4, .int x1), (0, .ref (b0 + v0)), (1, .int v1), (2, .int v2), (3, .int v3)]) hC dX2_sit_3 rfl hl (by decide) rfl (fun ls hl => ?_)
  refine zj_aload_n (pc' := 6) hC dX2_sit_5 rfl rfl (lv_at hl 1 rfl) ?_
  refine zj_dup (pc' := 7) hC dX2_sit_6 rfl rfl ?_
  refine zj_getI (pc' := 10) hC hk0 fd_2_1 rfl tw_1_63 dX2_sit_7 rfl ?_
  refine zj_iload (pc' := 12) hC dX2_sit_10 rfl (lv_at hl 0 rfl) ?_
  refine zj_ior (pc' := 13) hC dX2_sit_12 rfl ?_
  refine zj_putI (pc' := 16) hC hk0 fd_2_1 rfl tw_1_63 rfl rfl rfl dX2_sit_13 rfl (fun σ2 => ?_)
  refine zj_aload_n (pc' := 17) hC dX2_sit_16 rfl rfl (lv_at hl 1 rfl) ?_
  refine zj_aload_n (pc' := 18) hC dX2_sit_17 rfl rfl (lv_at hl 1 rfl) ?_
  refine zj_getI (pc' := 21) hC hk0 fd_2_2 rfl tw_1_67 dX2_sit_18 rfl ?_
  refine zj_iload (pc' := 23) hC dX2_sit_21 rfl (lv_at hl 0 rfl) ?_
  refine zj_iconst (pc' := 24) (v := (-1 : Int32)) hC dX2_sit_23 rfl rfl ?_
  refine zj_ixor (pc' := 25) hC dX2_sit_24 rfl ?_
  refine zj_iand (pc' := 26) hC dX2_sit_25 rfl ?_
  refine zj_iload_n (pc' := 27) hC dX2_sit_26 rfl rfl (lv_at hl 4 rfl) ?_
  refine zj_iload_n (pc' := 28) hC dX2_sit_27 rfl rfl (lv_at hl 2 rfl) ?_
  refine zj_ishl (pc' := 29) hC dX2_sit_28 rfl ?_
  refine zj_ior (pc' := 30) hC dX2_sit_29 rfl ?_
  refine zj_nmi (fun x3 => ?_)
  refine zj_putI (pc' := 33) hC hk0 fd_2_2 rfl tw_1_67 rfl rfl rfl dX2_sit_30 rfl (fun σ4 => ?_)
  refine zj_aload_n (pc' := 34) hC dX2_sit_33 rfl rfl (lv_at hl 1 rfl) ?_
  refine zj_aload_n (pc' := 35) hC dX2_sit_34 rfl rfl (lv_at hl 1 rfl) ?_
  refine zj_getI (pc' := 38) hC hk0 fd_2_3 rfl tw_1_69 dX2_sit_35 rfl ?_
  refine zj_iload (pc' := 40) hC dX2_sit_38 rfl (lv_at hl 0 rfl) ?_
  refine zj_iconst (pc' := 41) (v := (-1 : Int32)) hC dX2_sit_40 rfl rfl ?_
  refine zj_ixor (pc' := 42) hC dX2_sit_41 rfl ?_
  refine zj_iand (pc' := 43) hC dX2_sit_42 rfl ?_
  refine zj_iload_n (pc' := 44) hC dX2_sit_43 rfl rfl (lv_at hl 3 rfl) ?_
  refine zj_iconst (pc' := 45) (v := (1 : Int32)) hC dX2_sit_44 rfl rfl ?_
  refine zj_iand (pc' := 46) hC dX2_sit_45 rfl ?_
  refine zj_iload_n (pc' := 47) hC dX2_sit_46 rfl rfl (lv_at hl 2 rfl) ?_
  refine zj_ishl (pc' := 48) hC dX2_sit_47 rfl ?_
  refine zj_ior (pc' := 49) hC dX2_sit_48 rfl ?_
  refine zj_nmi (fun x5 => ?_)
  refine zj_putI (pc' := 52) hC hk0 fd_2_3 rfl tw_1_69 rfl rfl rfl dX2_sit_49 rfl (fun σ6 => ?_)
  refine zj_aload_n (pc' := 53) hC dX2_sit_52 rfl rfl (lv_at hl 1 rfl) ?_
  refine zj_aload_n (pc' := 54) hC dX2_sit_53 rfl rfl (lv_at hl 1 rfl) ?_
  refine zj_getI (pc' := 57) hC hk0 fd_2_4 rfl tw_1_70 dX2_sit_54 rfl ?_
  refine zj_iload (pc' := 59) hC dX2_sit_57 rfl (lv_at hl 0 rfl) ?_
  refine zj_iconst (pc' := 60) (v := (-1 : Int32)) hC dX2_sit_59 rfl rfl ?_
  refine zj_ixor (pc' := 61) hC dX2_sit_60 rfl ?_
  refine zj_iand (pc' := 62) hC dX2_sit_61 rfl ?_
  refine zj_iload_n (pc' := 63) hC dX2_sit_62 rfl rfl (lv_at hl 3 rfl) ?_
  refine zj_iconst (pc' := 64) (v := (1 : Int32)) hC dX2_sit_63 rfl rfl ?_
  refine zj_ishr (pc' := 65) hC dX2_sit_64 rfl ?_
  refine zj_iconst (pc' := 66) (v := (1 : Int32)) hC dX2_sit_65 rfl rfl ?_
  refine zj_iand (pc' := 67) hC dX2_sit_66 rfl ?_
  refine zj_iload_n (pc' := 68) hC dX2_sit_67 rfl rfl (lv_at hl 2 rfl) ?_
  refine zj_ishl (pc' := 69) hC dX2_sit_68 rfl ?_
  refine zj_nmi (fun x7 => ?_)
  refine zj_ior (pc' := 70) hC dX2_sit_69 rfl ?_
  refine zj_putI (pc' := 73) hC hk0 fd_2_4 rfl tw_1_70 rfl rfl rfl dX2_sit_70 rfl (fun σ8 => ?_)
  exact zj_vret hC dX2_sit_73
-- X2_hire
theorem ddX2_hire : yX2_hire.cls ≠ "java/lang/invoke/MethodHandle" ∧ yX2_hire.cls ≠ "java/lang/invoke/VarHandle" ∧ (parseMethodDescriptor yX2_hire.desc).map (fun d => d.parameters.length) = some 2 := by decide +kernel
abbrev rmX2_hire : Room := { frames := 0, cells := 0, slots := 0, locals := 0 }
def bX2_hire_23  (v0 : Nat) (v2 : Int32) (v3 : Int32) (s0 : Nat) (s1 : Int32) (s2 : Int32) (σ : zS) : Option (Unit × zS) :=
  bnd (zI σ s0 5 (s1 ||| s2)) (fun (σ1 : zS) => if v2 = (2 : Int32) then (bnd (zI σ1 v0 6 (((σ1.1 v0 6) &&& (v3 ^^^ (-1 : Int32))) ||| v3)) (fun (σ4 : zS) => some ((), σ4))) else (bnd (zI σ1 v0 6 (((σ1.1 v0 6) &&& (v3 ^^^ (-1 : Int32))) ||| (0 : Int32))) (fun (σ3 : zS) => some ((), σ3))))
def fX2_hire (v0 : Nat) (v1 : Int32) (v2 : Int32) (σ : zS) : Option (Unit × zS) :=
  bnd (((1 : Int32) <<< (v1 &&& 31))) (fun (x5 : Int32) => if v2 = (1 : Int32) then (bX2_hire_23 v0 v2 x5 v0 (((σ.1 v0 5) &&& (x5 ^^^ (-1 : Int32)))) x5 σ) else (bX2_hire_23 v0 v2 x5 v0 (((σ.1 v0 5) &&& (x5 ^^^ (-1 : Int32)))) (0 : Int32) σ))
set_option maxRecDepth 100000 in
set_option maxHeartbeats 4000000 in
theorem jX2_hire_23 {p : Program} {l : Launch} {e : Env} {s : State} {m : MethodId} {args : Array Value} {below : List Frame} {meth : Method} {c : Code} {b0 : Nat} {cA : Nat → ClassId} {D : va_G} {L : List (Nat × Nat)} (hC : zC p c s m args meth cX2_hire 4 (none) (Cond.code yX2_hire cX2_hire 4 (none)) yX2_hire.cls cA D)  (v0 : Nat) (v2 : Int32) (v3 : Int32) (s0 : Nat) (s1 : Int32) (s2 : Int32) (σ : zS) (ls : Array Slot) (hk_v0 : L[v0]? = some (0, 2)) (hk_s0 : L[s0]? = some (0, 2)) (hl : lv_has ls 4 [(0, .ref (b0 + v0)), (2, .int v2), (3, .int v3)]) : zJ p l e rmX2_hire s m args below meth c b0 cA D L (fun z => MQ below (va_Qv (fun (u : zS) => ((), u) = z) (zB b0 cA D L) (zA b0 L)) args s 0 0 (zA b0 L)) (bX2_hire_23  v0 v2 v3 s0 s1 s2 σ) σ 23 ls [.int s2, .int s1, .ref (b0 + s0)] := by
  unfold bX2_hire_23
  refine zj_ior (pc' := 24) hC dX2_hire_23 rfl ?_
  refine zj_putI (pc' := 27) hC hk_s0 fd_2_5 rfl tw_1_71 rfl rfl rfl dX2_hire_24 rfl (fun σ1 => ?_)
  refine zj_aload_n (pc' := 28) hC dX2_hire_27 rfl rfl (lv_at hl 0 rfl) ?_
  refine zj_aload_n (pc' := 29) hC dX2_hire_28 rfl rfl (lv_at hl 0 rfl) ?_
  refine zj_getI (pc' := 32) hC hk_v0 fd_2_6 rfl tw_1_74 dX2_hire_29 rfl ?_
  refine zj_iload_n (pc' := 33) hC dX2_hire_32 rfl rfl (lv_at hl 2 rfl) ?_
  refine zj_iconst (pc' := 34) (v := (-1 : Int32)) hC dX2_hire_33 rfl rfl ?_
  refine zj_ixor (pc' := 35) hC dX2_hire_34 rfl ?_
  refine zj_iand (pc' := 36) hC dX2_hire_35 rfl ?_
  refine zj_iload_n (pc' := 37) hC dX2_hire_36 rfl rfl (lv_at hl 1 rfl) ?_
  refine zj_iconst (pc' := 38) (v := (2 : Int32)) hC dX2_hire_37 rfl rfl ?_
  refine zj_icmp_ne (tgt := 45) (pc' := 41) hC dX2_hire_38 (by decide) rfl (fun c2 => ?_) (fun c2 => ?_)
  · refine zj_iconst (pc' := 46) (v := (0 : Int32)) hC dX2_hire_45 rfl rfl ?_
    refine zj_ior (pc' := 47) hC dX2_hire_46 rfl ?_
    refine zj_putI (pc' := 50) hC hk_v0 fd_2_6 rfl tw_1_74 rfl rfl rfl dX2_hire_47 rfl (fun σ3 => ?_)
    exact zj_vret hC dX2_hire_50
  · refine zj_iload_n (pc' := 42) hC dX2_hire_41 rfl rfl (lv_at hl 2 rfl) ?_
    refine zj_goto (tgt := 46) hC dX2_hire_42 (by decide) ?_
    refine zj_ior (pc' := 47) hC dX2_hire_46 rfl ?_
    refine zj_putI (pc' := 50) hC hk_v0 fd_2_6 rfl tw_1_74 rfl rfl rfl dX2_hire_47 rfl (fun σ4 => ?_)
    exact zj_vret hC dX2_hire_50
set_option maxRecDepth 100000 in
set_option maxHeartbeats 4000000 in
theorem kX2_hire (l : Launch) (b0 : Nat) (cA : Nat → ClassId) (D : va_G) (L : List (Nat × Nat)) (v0 : Nat) (v1 : Int32) (v2 : Int32) (σ : zS) (hk0 : L[v0]? = some (0, 2)) : zMv l b0 cA D L yX2_hire (Cond.code yX2_hire cX2_hire 4 (none)) rmX2_hire [.ref (b0 + v0), .int v1, .int v2] σ (fX2_hire v0 v1 v2 σ) := by
  refine zMv_of (by decide) (Nat.le_of_ble_eq_true rfl) ?_
  intro p e s m below meth c ls hC hl
  have hl : lv_has ls 4 [(0, .ref (b0 + v0)), (1, .int v1), (2, .int v2)] := hl
  generalize ([.ref (b0 + v0), .int v1, .int v2] : List Value).toArray = args at hC ⊢
  unfold fX2_hire
  refine zj_iconst (pc' := 1) (v := (1 : Int32)) hC dX2_hire_0 rfl rfl ?_
  refine zj_iload_n (pc' := 2) hC dX2_hire_1 rfl rfl (lv_at hl 1 rfl) ?_
  refine zj_ishl (pc' := 3) hC dX2_hire_2 rfl ?_
  refine zj_nmi (fun x5 => ?_)
  refine zj_istore_n (pc' := 4) (lv' := [(3, .int x5), (0, .ref (b0 + v0)), (1, .int v1), (2, .int v2)]) hC dX2_hire_3 rfl rfl hl (by decide) rfl (fun ls hl => ?_)
  refine zj_aload_n (pc' := 5) hC dX2_hire_4 rfl rfl (lv_at hl 1 rfl) ?_
  refine zj_aload_n (pc' := 6) hC dX2_hire_5 rfl rfl (lv_at hl 1 rfl) ?_
  refine zj_getI (pc' := 9) hC hk0 fd_2_5 rfl tw_1_71 dX2_hire_6 rfl ?_
  refine zj_iload_n (pc' := 10) hC dX2_hire_9 rfl rfl (lv_at hl 0 rfl) ?_
  refine zj_iconst (pc' := 11) (v := (-1 : Int32)) hC dX2_hire_10 rfl rfl ?_
  refine zj_ixor (pc' := 12) hC dX2_hire_11 rfl ?_
  refine zj_iand (pc' := 13) hC dX2_hire_12 rfl ?_
  refine zj_iload_n (pc' := 14) hC dX2_hire_13 rfl rfl (lv_at hl 3 rfl) ?_
  refine zj_iconst (pc' := 15) (v := (1 : Int32)) hC dX2_hire_14 rfl rfl ?_
  refine zj_icmp_ne (tgt := 22) (pc' := 18) hC dX2_hire_15 (by decide) rfl (fun c6 => ?_) (fun c6 => ?_)
  · refine zj_iconst (pc' := 23) (v := (0 : Int32)) hC dX2_hire_22 rfl rfl ?_
    exact jX2_hire_23 hC v0 v2 x5 v0 (((σ.1 v0 5) &&& (x5 ^^^ (-1 : Int32)))) (0 : Int32) σ ls hk0 hk0 (lv_sub hl [1, 3, 0] rfl)
  · refine zj_iload_n (pc' := 19) hC dX2_hire_18 rfl rfl (lv_at hl 0 rfl) ?_
    refine zj_goto (tgt := 23) hC dX2_hire_19 (by decide) ?_
    exact jX2_hire_23 hC v0 v2 x5 v0 (((σ.1 v0 5) &&& (x5 ^^^ (-1 : Int32)))) x5 σ ls hk0 hk0 (lv_sub hl [1, 3, 0] rfl)
-- X2_leave
theorem ddX2_leave : yX2_leave.cls ≠ "java/lang/invoke/MethodHandle" ∧ yX2_leave.cls ≠ "java/lang/invoke/VarHandle" ∧ (parseMethodDescriptor yX2_leave.desc).map (fun d => d.parameters.length) = some 1 := by decide +kernel
abbrev rmX2_leave : Room := { frames := 1, cells := 0, slots := 0, locals := 23 }
def fX2_leave (v0 : Nat) (v1 : Int32) (σ : zS) : Option (Unit × zS) :=
  bnd (((σ.1 v0 1) &&& (((1 : Int32) <<< (v1 &&& 31)) ^^^ (-1 : Int32)))) (fun (x1 : Int32) => bnd (zI σ v0 1 x1) (fun (σ2 : zS) => zb (fX2_hire v0 v1 (0 : Int32) σ2) (fun (_ : Unit) (σ3 : zS) => some ((), σ3))))
set_option maxRecDepth 100000 in
set_option maxHeartbeats 4000000 in
theorem kX2_leave (l : Launch) (b0 : Nat) (cA : Nat → ClassId) (D : va_G) (L : List (Nat × Nat)) (v0 : Nat) (v1 : Int32) (σ : zS) (hk0 : L[v0]? = some (0, 2)) : zMv l b0 cA D L yX2_leave (Cond.code yX2_leave cX2_leave 2 (none)) rmX2_leave [.ref (b0 + v0), .int v1] σ (fX2_leave v0 v1 σ) := by
  refine zMv_of (by decide) (Nat.le_of_ble_eq_true rfl) ?_
  intro p e s m below meth c ls hC hl
  have hl : lv_has ls 2 [(0, .ref (b0 + v0)), (1, .int v1)] := hl
  generalize ([.ref (b0 + v0), .int v1] : List Value).toArray = args at hC ⊢
  unfold fX2_leave
  refine zj_aload_n (pc' := 1) hC dX2_leave_0 rfl rfl (lv_at hl 0 rfl) ?_
  refine zj_dup (pc' := 2) hC dX2_leave_1 rfl rfl ?_
  refine zj_getI (pc' := 5) hC hk0 fd_2_1 rfl tw_1_63 dX2_leave_2 rfl ?_
  refine zj_iconst (pc' := 6) (v := (1 : Int32)) hC dX2_leave_5 rfl rfl ?_
  refine zj_iload_n (pc' := 7) hC dX2_leave_6 rfl rfl (lv_at hl 1 rfl) ?_
  refine zj_ishl (pc' := 8) hC dX2_leave_7 rfl ?_
  refine zj_iconst (pc' := 9) (v := (-1 : Int32)) hC dX2_leave_8 rfl rfl ?_
  refine zj_ixor (pc' := 10) hC dX2_leave_9 rfl ?_
  refine zj_iand (pc' := 11) hC dX2_leave_10 rfl ?_
  refine zj_nmi (fun x1 => ?_)
  refine zj_putI (pc' := 14) hC hk0 fd_2_1 rfl tw_1_63 rfl rfl rfl dX2_leave_11 rfl (fun σ2 => ?_)
  refine zj_aload_n (pc' := 15) hC dX2_leave_14 rfl rfl (lv_at hl 0 rfl) ?_
  refine zj_iload_n (pc' := 16) hC dX2_leave_15 rfl rfl (lv_at hl 1 rfl) ?_
  refine zj_iconst (pc' := 17) (v := (0 : Int32)) hC dX2_leave_16 rfl rfl ?_
  refine zj_callvV (pc' := 20) (rest := []) hC (kX2_hire l b0 cA D L v0 v1 (0 : Int32) σ2 hk0) hk0 rfl tw_2_28 tw_2_25 tw_2_26 tw_2_27 tw_1_4 ddX2_hire rfl ⟨rfl, rfl⟩ ⟨by decide, by decide⟩ hl.1 (Nat.le_of_ble_eq_true rfl) rfl dX2_leave_17 rfl (fun σ3 => ?_)
  exact zj_vret hC dX2_leave_20
-- X2_hireAll
theorem ddX2_hireAll : yX2_hireAll.cls ≠ "java/lang/invoke/MethodHandle" ∧ yX2_hireAll.cls ≠ "java/lang/invoke/VarHandle" ∧ (parseMethodDescriptor yX2_hireAll.desc).map (fun d => d.parameters.length) = some 2 := by decide +kernel
abbrev rmX2_hireAll : Room := { frames := 0, cells := 0, slots := 0, locals := 0 }
def fX2_hireAll (v0 : Nat) (v1 : Int32) (v2 : Int32) (σ : zS) : Option (Unit × zS) :=
  if v1 = (1 : Int32) then (bnd (zI σ v0 5 v2) (fun (σ3 : zS) => some ((), σ3))) else (bnd (zI σ v0 6 v2) (fun (σ2 : zS) => some ((), σ2)))
set_option maxRecDepth 100000 in
set_option maxHeartbeats 4000000 in
theorem kX2_hireAll (l : Launch) (b0 : Nat) (cA : Nat → ClassId) (D : va_G) (L : List (Nat × Nat)) (v0 : Nat) (v1 : Int32) (v2 : Int32) (σ : zS) (hk0 : L[v0]? = some (0, 2)) : zMv l b0 cA D L yX2_hireAll (Cond.code yX2_hireAll cX2_hireAll 3 (none)) rmX2_hireAll [.ref (b0 + v0), .int v1, .int v2] σ (fX2_hireAll v0 v1 v2 σ) := by
  refine zMv_of (by decide) (Nat.le_of_ble_eq_true rfl) ?_
  intro p e s m below meth c ls hC hl
  have hl : lv_has ls 3 [(0, .ref (b0 + v0)), (1, .int v1), (2, .int v2)] := hl
  generalize ([.ref (b0 + v0), .int v1, .int v2] : List Value).toArray = args at hC ⊢
  unfold fX2_hireAll
  refine zj_iload_n (pc' := 1) hC dX2_hireAll_0 rfl rfl (lv_at hl 1 rfl) ?_
  refine zj_iconst (pc' := 2) (v := (1 : Int32)) hC dX2_hireAll_1 rfl rfl ?_
  refine zj_icmp_ne (tgt := 13) (pc' := 5) hC dX2_hireAll_2 (by decide) rfl (fun c1 => ?_) (fun c1 => ?_)
  · refine zj_aload_n (pc' := 14) hC dX2_hireAll_13 rfl rfl (lv_at hl 0 rfl) ?_
    refine zj_iload_n (pc' := 15) hC dX2_hireAll_14 rfl rfl (lv_at hl 2 rfl) ?_
    refine zj_putI (pc' := 18) hC hk0 fd_2_6 rfl tw_1_74 rfl rfl rfl dX2_hireAll_15 rfl (fun σ2 => ?_)
    exact zj_vret hC dX2_hireAll_18
  · refine zj_aload_n (pc' := 6) hC dX2_hireAll_5 rfl rfl (lv_at hl 0 rfl) ?_
    refine zj_iload_n (pc' := 7) hC dX2_hireAll_6 rfl rfl (lv_at hl 2 rfl) ?_
    refine zj_putI (pc' := 10) hC hk0 fd_2_5 rfl tw_1_71 rfl rfl rfl dX2_hireAll_7 rfl (fun σ3 => ?_)
    refine zj_goto (tgt := 18) hC dX2_hireAll_10 (by decide) ?_
    exact zj_vret hC dX2_hireAll_18
-- X2_copy
theorem ddX2_copy : yX2_copy.cls ≠ "java/lang/invoke/MethodHandle" ∧ yX2_copy.cls ≠ "java/lang/invoke/VarHandle" ∧ (parseMethodDescriptor yX2_copy.desc).map (fun d => d.parameters.length) = some 1 := by decide +kernel
abbrev rmX2_copy : Room := { frames := 0, cells := 0, slots := 0, locals := 0 }
def fX2_copy (v0 : Nat) (v1 : Nat) (σ : zS) : Option (Unit × zS) :=
  bnd (zI σ v0 0 (σ.1 v1 0)) (fun (σ1 : zS) => bnd (zI σ1 v0 1 (σ1.1 v1 1)) (fun (σ2 : zS) => bnd (zI σ2 v0 2 (σ2.1 v1 2)) (fun (σ3 : zS) => bnd (zI σ3 v0 3 (σ3.1 v1 3)) (fun (σ4 : zS) => bnd (zI σ4 v0 4 (σ4.1 v1 4)) (fun (σ5 : zS) => bnd (zI σ5 v0 5 (σ5.1 v1 5)) (fun (σ6 : zS) => bnd (zI σ6 v0 6 (σ6.1 v1 6)) (fun (σ7 : zS) => some ((), σ7))))))))
set_option maxRecDepth 100000 in
set_option maxHeartbeats 4000000 in
theorem kX2_copy (l : Launch) (b0 : Nat) (cA : Nat → ClassId) (D : va_G) (L : List (Nat × Nat)) (v0 : Nat) (v1 : Nat) (σ : zS) (hk0 : L[v0]? = some (0, 2)) (hk1 : L[v1]? = some (0, 2)) : zMv l b0 cA D L yX2_copy (Cond.code yX2_copy cX2_copy 2 (none)) rmX2_copy [.ref (b0 + v0), .ref (b0 + v1)] σ (fX2_copy v0 v1 σ) := by
  refine zMv_of (by decide) (Nat.le_of_ble_eq_true rfl) ?_
  intro p e s m below meth c ls hC hl
  have hl : lv_has ls 2 [(0, .ref (b0 + v0)), (1, .ref (b0 + v1))] := hl
  generalize ([.ref (b0 + v0), .ref (b0 + v1)] : List Value).toArray = args at hC ⊢
  unfold fX2_copy
  refine zj_aload_n (pc' := 1) hC dX2_copy_0 rfl rfl (lv_at hl 0 rfl) ?_
  refine zj_aload_n (pc' := 2) hC dX2_copy_1 rfl rfl (lv_at hl 1 rfl) ?_
  refine zj_getI (pc' := 5) hC hk1 fd_2_0 rfl tw_1_60 dX2_copy_2 rfl ?_
  refine zj_putI (pc' := 8) hC hk0 fd_2_0 rfl tw_1_60 rfl rfl rfl dX2_copy_5 rfl (fun σ1 => ?_)
  refine zj_aload_n (pc' := 9) hC dX2_copy_8 rfl rfl (lv_at hl 0 rfl) ?_
  refine zj_aload_n (pc' := 10) hC dX2_copy_9 rfl rfl (lv_at hl 1 rfl) ?_
  refine zj_getI (pc' := 13) hC hk1 fd_2_1 rfl tw_1_63 dX2_copy_10 rfl ?_
  refine zj_putI (pc' := 16) hC hk0 fd_2_1 rfl tw_1_63 rfl rfl rfl dX2_copy_13 rfl (fun σ2 => ?_)
  refine zj_aload_n (pc' := 17) hC dX2_copy_16 rfl rfl (lv_at hl 0 rfl) ?_
  refine zj_aload_n (pc' := 18) hC dX2_copy_17 rfl rfl (lv_at hl 1 rfl) ?_
  refine zj_getI (pc' := 21) hC hk1 fd_2_2 rfl tw_1_67 dX2_copy_18 rfl ?_
  refine zj_putI (pc' := 24) hC hk0 fd_2_2 rfl tw_1_67 rfl rfl rfl dX2_copy_21 rfl (fun σ3 => ?_)
  refine zj_aload_n (pc' := 25) hC dX2_copy_24 rfl rfl (lv_at hl 0 rfl) ?_
  refine zj_aload_n (pc' := 26) hC dX2_copy_25 rfl rfl (lv_at hl 1 rfl) ?_
  refine zj_getI (pc' := 29) hC hk1 fd_2_3 rfl tw_1_69 dX2_copy_26 rfl ?_
  refine zj_putI (pc' := 32) hC hk0 fd_2_3 rfl tw_1_69 rfl rfl rfl dX2_copy_29 rfl (fun σ4 => ?_)
  refine zj_aload_n (pc' := 33) hC dX2_copy_32 rfl rfl (lv_at hl 0 rfl) ?_
  refine zj_aload_n (pc' := 34) hC dX2_copy_33 rfl rfl (lv_at hl 1 rfl) ?_
  refine zj_getI (pc' := 37) hC hk1 fd_2_4 rfl tw_1_70 dX2_copy_34 rfl ?_
  refine zj_putI (pc' := 40) hC hk0 fd_2_4 rfl tw_1_70 rfl rfl rfl dX2_copy_37 rfl (fun σ5 => ?_)
  refine zj_aload_n (pc' := 41) hC dX2_copy_40 rfl rfl (lv_at hl 0 rfl) ?_
  refine zj_aload_n (pc' := 42) hC dX2_copy_41 rfl rfl (lv_at hl 1 rfl) ?_
  refine zj_getI (pc' := 45) hC hk1 fd_2_5 rfl tw_1_71 dX2_copy_42 rfl ?_
  refine zj_putI (pc' := 48) hC hk0 fd_2_5 rfl tw_1_71 rfl rfl rfl dX2_copy_45 rfl (fun σ6 => ?_)
  refine zj_aload_n (pc' := 49) hC dX2_copy_48 rfl rfl (lv_at hl 0 rfl) ?_
  refine zj_aload_n (pc' := 50) hC dX2_copy_49 rfl rfl (lv_at hl 1 rfl) ?_
  refine zj_getI (pc' := 53) hC hk1 fd_2_6 rfl tw_1_74 dX2_copy_50 rfl ?_
  refine zj_putI (pc' := 56) hC hk0 fd_2_6 rfl tw_1_74 rfl rfl rfl dX2_copy_53 rfl (fun σ7 => ?_)
  exact zj_vret hC dX2_copy_56
-- X3_hasSecond
theorem ddX3_hasSecond : yX3_hasSecond.cls ≠ "java/lang/invoke/MethodHandle" ∧ yX3_hasSecond.cls ≠ "java/lang/invoke/VarHandle" ∧ (parseMethodDescriptor yX3_hasSecond.desc).map (fun d => d.parameters.length) = some 1 := by decide +kernel
abbrev rmX3_hasSecond : Room := { frames := 0, cells := 0, slots := 0, locals := 0 }
def fX3_hasSecond (v0 : Nat) (v1 : Int32) (σ : zS) : Option (Int32 × zS) :=
  if v1 < 0 then (some ((0 : Int32), σ)) else (bnd (σ.2 v0 1) (fun (q2 : Nat) => if (σ.1 q2 0) ≤ v1 then (some ((0 : Int32), σ)) else (if (40 : Int32) ≤ v1 then (some ((0 : Int32), σ)) else (some ((1 : Int32), σ)))))
set_option maxRecDepth 100000 in
set_option maxHeartbeats 4000000 in
theorem kX3_hasSecond (l : Launch) (b0 : Nat) (cA : Nat → ClassId) (D : va_G) (L : List (Nat × Nat)) (v0 : Nat) (v1 : Int32) (σ : zS) (hk0 : L[v0]? = some (0, 3)) : zMz l b0 cA D L yX3_hasSecond (Cond.code yX3_hasSecond cX3_hasSecond 2 (some Jvm.ClassFile.FieldType.boolean)) rmX3_hasSecond [.ref (b0 + v0), .int v1] σ (fX3_hasSecond v0 v1 σ) := by
  refine zMz_of (by decide) (Nat.le_of_ble_eq_true rfl) ?_
  intro p e s m below meth c ls hC hl
  have hl : lv_has ls 2 [(0, .ref (b0 + v0)), (1, .int v1)] := hl
  generalize ([.ref (b0 + v0), .int v1] : List Value).toArray = args at hC ⊢
  unfold fX3_hasSecond
  refine zj_iload_n (pc' := 1) hC dX3_hasSecond_0 rfl rfl (lv_at hl 1 rfl) ?_
  refine zj_if_lt (tgt := 25) (pc' := 4) hC dX3_hasSecond_1 (by decide) rfl (fun c1 => ?_) (fun c1 => ?_)
  · refine zj_iconst (pc' := 26) (v := (0 : Int32)) hC dX3_hasSecond_25 rfl rfl ?_
    exact zj_zret hC nB_0 dX3_hasSecond_26
  · refine zj_iload_n (pc' := 5) hC dX3_hasSecond_4 rfl rfl (lv_at hl 1 rfl) ?_
    refine zj_aload_n (pc' := 6) hC dX3_hasSecond_5 rfl rfl (lv_at hl 0 rfl) ?_
    refine zj_getR (pc' := 9) hC hk0 fd_3_1 rfl tw_1_96 dX3_hasSecond_6 rfl (fun q2 hk_q2 => ?_)
    refine zj_getI (pc' := 12) hC hk_q2 fd_1_0 rfl tw_1_34 dX3_hasSecond_9 rfl ?_
    refine zj_icmp_ge (tgt := 25) (pc' := 15) hC dX3_hasSecond_12 (by decide) rfl (fun c3 => ?_) (fun c3 => ?_)
    · refine zj_iconst (pc' := 26) (v := (0 : Int32)) hC dX3_hasSecond_25 rfl rfl ?_
      exact zj_zret hC nB_0 dX3_hasSecond_26
    · refine zj_iload_n (pc' := 16) hC dX3_hasSecond_15 rfl rfl (lv_at hl 1 rfl) ?_
      refine zj_bipush (pc' := 18) (v := (40 : Int32)) hC dX3_hasSecond_16 rfl rfl ?_
      refine zj_icmp_ge (tgt := 25) (pc' := 21) hC dX3_hasSecond_18 (by decide) rfl (fun c4 => ?_) (fun c4 => ?_)
      · refine zj_iconst (pc' := 26) (v := (0 : Int32)) hC dX3_hasSecond_25 rfl rfl ?_
        exact zj_zret hC nB_0 dX3_hasSecond_26
      · refine zj_iconst (pc' := 22) (v := (1 : Int32)) hC dX3_hasSecond_21 rfl rfl ?_
        refine zj_goto (tgt := 26) hC dX3_hasSecond_22 (by decide) ?_
        exact zj_zret hC nB_1 dX3_hasSecond_26
-- X3_showing
theorem ddX3_showing : yX3_showing.cls ≠ "java/lang/invoke/MethodHandle" ∧ yX3_showing.cls ≠ "java/lang/invoke/VarHandle" ∧ (parseMethodDescriptor yX3_showing.desc).map (fun d => d.parameters.length) = some 2 := by decide +kernel
abbrev rmX3_showing : Room := { frames := 1, cells := 0, slots := 0, locals := 21 }
def fX3_showing (v0 : Nat) (v1 : Int32) (v2 : Int32) (σ : zS) : Option (Int32 × zS) :=
  zb (fX3_hasSecond v0 v1 σ) (fun (r2 : Int32) (σ1 : zS) => if r2 = 0 then (some ((0 : Int32), σ1)) else (if v2 = (1 : Int32) then (bnd (σ1.2 v0 2) (fun (q7 : Nat) => zX v1 40 (some ((σ1.1 q7 (v1).toNatClampNeg), σ1)))) else (bnd (σ1.2 v0 3) (fun (q5 : Nat) => zX v1 40 (some ((σ1.1 q5 (v1).toNatClampNeg), σ1))))))
set_option maxRecDepth 100000 in
set_option maxHeartbeats 4000000 in
theorem kX3_showing (l : Launch) (b0 : Nat) (cA : Nat → ClassId) (D : va_G) (L : List (Nat × Nat)) (v0 : Nat) (v1 : Int32) (v2 : Int32) (σ : zS) (hk0 : L[v0]? = some (0, 3)) : zMi l b0 cA D L yX3_showing (Cond.code yX3_showing cX3_showing 3 (some Jvm.ClassFile.FieldType.int)) rmX3_showing [.ref (b0 + v0), .int v1, .int v2] σ (fX3_showing v0 v1 v2 σ) := by
  refine zMi_of (by decide) (Nat.le_of_ble_eq_true rfl) ?_
  intro p e s m below meth c ls hC hl
  have hl : lv_has ls 3 [(0, .ref (b0 + v0)), (1, .int v1), (2, .int v2)] := hl
  generalize ([.ref (b0 + v0), .int v1, .int v2] : List Value).toArray = args at hC ⊢
  unfold fX3_showing
  refine zj_aload_n (pc' := 1) hC dX3_showing_0 rfl rfl (lv_at hl 0 rfl) ?_
  refine zj_iload_n (pc' := 2) hC dX3_showing_1 rfl rfl (lv_at hl 1 rfl) ?_
  refine zj_callzV (pc' := 5) (rest := []) hC (kX3_hasSecond l b0 cA D L v0 v1 σ hk0) hk0 rfl tw_3_23 tw_3_79 tw_3_21 tw_3_22 tw_1_2 ddX3_hasSecond rfl ⟨rfl, rfl⟩ ⟨by decide, by decide⟩ hl.1 (Nat.le_of_ble_eq_true rfl) rfl dX3_showing_2 rfl (fun r2 σ1 hb_r2 => ?_)
  refine zj_if_ne (tgt := 10) (pc' := 8) hC dX3_showing_5 (by decide) rfl (fun c3 => ?_) (fun c3 => ?_)
  · refine zj_iload_n (pc' := 11) hC dX3_showing_10 rfl rfl (lv_at hl 2 rfl) ?_
    refine zj_iconst (pc' := 12) (v := (1 : Int32)) hC dX3_showing_11 rfl rfl ?_
    refine zj_icmp_ne (tgt := 24) (pc' := 15) hC dX3_showing_12 (by decide) rfl (fun c4 => ?_) (fun c4 => ?_)
    · refine zj_aload_n (pc' := 25) hC dX3_showing_24 rfl rfl (lv_at hl 0 rfl) ?_
      refine zj_getR (pc' := 28) hC hk0 fd_3_3 rfl tw_1_99 dX3_showing_25 rfl (fun q5 hk_q5 => ?_)
      refine zj_iload_n (pc' := 29) hC dX3_showing_28 rfl rfl (lv_at hl 1 rfl) ?_
      refine zj_iald (pc' := 30) hC hk_q5 dX3_showing_29 rfl (fun g6 => ?_)
      exact zj_iret hC dX3_showing_30
    · refine zj_aload_n (pc' := 16) hC dX3_showing_15 rfl rfl (lv_at hl 0 rfl) ?_
      refine zj_getR (pc' := 19) hC hk0 fd_3_2 rfl tw_1_98 dX3_showing_16 rfl (fun q7 hk_q7 => ?_)
      refine zj_iload_n (pc' := 20) hC dX3_showing_19 rfl rfl (lv_at hl 1 rfl) ?_
      refine zj_iald (pc' := 21) hC hk_q7 dX3_showing_20 rfl (fun g8 => ?_)
      refine zj_goto (tgt := 30) hC dX3_showing_21 (by decide) ?_
      exact zj_iret hC dX3_showing_30
  · refine zj_iconst (pc' := 9) (v := (0 : Int32)) hC dX3_showing_8 rfl rfl ?_
    exact zj_iret hC dX3_showing_9
-- X3_clapping
theorem ddX3_clapping : yX3_clapping.cls ≠ "java/lang/invoke/MethodHandle" ∧ yX3_clapping.cls ≠ "java/lang/invoke/VarHandle" ∧ (parseMethodDescriptor yX3_clapping.desc).map (fun d => d.parameters.length) = some 1 := by decide +kernel
abbrev rmX3_clapping : Room := { frames := 2, cells := 0, slots := 0, locals := 43 }
def fX3_clapping (v0 : Nat) (v1 : Int32) (σ : zS) : Option (Int32 × zS) :=
  zb (fX3_showing v0 v1 (1 : Int32) σ) (fun (r2 : Int32) (σ1 : zS) => zb (fJ6_bitCount_0f7a4 r2 σ1) (fun (r4 : Int32) (σ3 : zS) => some (r4, σ3)))
set_option maxRecDepth 100000 in
set_option maxHeartbeats 4000000 in
theorem kX3_clapping (l : Launch) (b0 : Nat) (cA : Nat → ClassId) (D : va_G) (L : List (Nat × Nat)) (v0 : Nat) (v1 : Int32) (σ : zS) (hk0 : L[v0]? = some (0, 3)) : zMi l b0 cA D L yX3_clapping (Cond.code yX3_clapping cX3_clapping 2 (some Jvm.ClassFile.FieldType.int)) rmX3_clapping [.ref (b0 + v0), .int v1] σ (fX3_clapping v0 v1 σ) := by
  refine zMi_of (by decide) (Nat.le_of_ble_eq_true rfl) ?_
  intro p e s m below meth c ls hC hl
  have hl : lv_has ls 2 [(0, .ref (b0 + v0)), (1, .int v1)] := hl
  generalize ([.ref (b0 + v0), .int v1] : List Value).toArray = args at hC ⊢
  unfold fX3_clapping
  refine zj_aload_n (pc' := 1) hC dX3_clapping_0 rfl rfl (lv_at hl 0 rfl) ?_
  refine zj_iload_n (pc' := 2) hC dX3_clapping_1 rfl rfl (lv_at hl 1 rfl) ?_
  refine zj_iconst (pc' := 3) (v := (1 : Int32)) hC dX3_clapping_2 rfl rfl ?_
  refine zj_calliV (pc' := 6) (rest := []) hC (kX3_showing l b0 cA D L v0 v1 (1 : Int32) σ hk0) hk0 rfl tw_3_87 tw_3_84 tw_3_85 tw_3_86 tw_1_2 ddX3_showing rfl ⟨rfl, rfl⟩ ⟨by decide, by decide⟩ hl.1 (Nat.le_of_ble_eq_true rfl) rfl dX3_clapping_3 rfl (fun r2 σ1 => ?_)
  refine zj_calliS (pc' := 9) (rest := []) hC (kJ6_bitCount_0f7a4 l b0 cA D L r2 σ1 ) tw_3_68 tw_3_88 tw_3_67 tw_1_15 ddJ6_bitCount_0f7a4 rfl ⟨rfl, rfl⟩ ⟨by decide, by decide⟩ hl.1 (Nat.le_of_ble_eq_true rfl) rfl dX3_clapping_6 rfl (fun r4 σ3 => ?_)
  exact zj_iret hC dX3_clapping_9
-- X3_hissing
theorem ddX3_hissing : yX3_hissing.cls ≠ "java/lang/invoke/MethodHandle" ∧ yX3_hissing.cls ≠ "java/lang/invoke/VarHandle" ∧ (parseMethodDescriptor yX3_hissing.desc).map (fun d => d.parameters.length) = some 1 := by decide +kernel
abbrev rmX3_hissing : Room := { frames := 2, cells := 0, slots := 0, locals := 43 }
def fX3_hissing (v0 : Nat) (v1 : Int32) (σ : zS) : Option (Int32 × zS) :=
  zb (fX3_showing v0 v1 (2 : Int32) σ) (fun (r2 : Int32) (σ1 : zS) => zb (fJ6_bitCount_0f7a4 r2 σ1) (fun (r4 : Int32) (σ3 : zS) => some (r4, σ3)))
set_option maxRecDepth 100000 in
set_option maxHeartbeats 4000000 in
theorem kX3_hissing (l : Launch) (b0 : Nat) (cA : Nat → ClassId) (D : va_G) (L : List (Nat × Nat)) (v0 : Nat) (v1 : Int32) (σ : zS) (hk0 : L[v0]? = some (0, 3)) : zMi l b0 cA D L yX3_hissing (Cond.code yX3_hissing cX3_hissing 2 (some Jvm.ClassFile.FieldType.int)) rmX3_hissing [.ref (b0 + v0), .int v1] σ (fX3_hissing v0 v1 σ) := by
  refine zMi_of (by decide) (Nat.le_of_ble_eq_true rfl) ?_
  intro p e s m below meth c ls hC hl
  have hl : lv_has ls 2 [(0, .ref (b0 + v0)), (1, .int v1)] := hl
  generalize ([.ref (b0 + v0), .int v1] : List Value).toArray = args at hC ⊢
  unfold fX3_hissing
  refine zj_aload_n (pc' := 1) hC dX3_hissing_0 rfl rfl (lv_at hl 0 rfl) ?_
  refine zj_iload_n (pc' := 2) hC dX3_hissing_1 rfl rfl (lv_at hl 1 rfl) ?_
  refine zj_iconst (pc' := 3) (v := (2 : Int32)) hC dX3_hissing_2 rfl rfl ?_
  refine zj_calliV (pc' := 6) (rest := []) hC (kX3_showing l b0 cA D L v0 v1 (2 : Int32) σ hk0) hk0 rfl tw_3_87 tw_3_84 tw_3_85 tw_3_86 tw_1_2 ddX3_showing rfl ⟨rfl, rfl⟩ ⟨by decide, by decide⟩ hl.1 (Nat.le_of_ble_eq_true rfl) rfl dX3_hissing_3 rfl (fun r2 σ1 => ?_)
  refine zj_calliS (pc' := 9) (rest := []) hC (kJ6_bitCount_0f7a4 l b0 cA D L r2 σ1 ) tw_3_68 tw_3_88 tw_3_67 tw_1_15 ddJ6_bitCount_0f7a4 rfl ⟨rfl, rfl⟩ ⟨by decide, by decide⟩ hl.1 (Nat.le_of_ble_eq_true rfl) rfl dX3_hissing_6 rfl (fun r4 σ3 => ?_)
  exact zj_iret hC dX3_hissing_9
-- X3_put
theorem ddX3_put : yX3_put.cls ≠ "java/lang/invoke/MethodHandle" ∧ yX3_put.cls ≠ "java/lang/invoke/VarHandle" ∧ (parseMethodDescriptor yX3_put.desc).map (fun d => d.parameters.length) = some 3 := by decide +kernel
abbrev rmX3_put : Room := { frames := 3, cells := 0, slots := 0, locals := 64 }
def fX3_put (v0 : Nat) (v1 : Int32) (v2 : Int32) (v3 : Int32) (σ : zS) : Option (Unit × zS) :=
  zb (fX3_hasSecond v0 v1 σ) (fun (r2 : Int32) (σ1 : zS) => if r2 = 0 then (some ((), σ1)) else (bnd (σ1.2 v0 2) (fun (q4 : Nat) => zX v1 40 (bnd (zI σ1 q4 (v1).toNatClampNeg v2) (fun (σ6 : zS) => bnd (σ6.2 v0 3) (fun (q7 : Nat) => zX v1 40 (bnd (zI σ6 q7 (v1).toNatClampNeg v3) (fun (σ9 : zS) => zb (fX3_clapping v0 v1 σ9) (fun (r11 : Int32) (σ10 : zS) => zb (fX3_hissing v0 v1 σ10) (fun (r13 : Int32) (σ12 : zS) => bnd (zI σ12 v0 4 ((σ9.1 v0 4) + (r11 - r13))) (fun (σ14 : zS) => some ((), σ14))))))))))))
set_option maxRecDepth 100000 in
set_option maxHeartbeats 4000000 in
theorem kX3_put (l : Launch) (b0 : Nat) (cA : Nat → ClassId) (D : va_G) (L : List (Nat × Nat)) (v0 : Nat) (v1 : Int32) (v2 : Int32) (v3 : Int32) (σ : zS) (hk0 : L[v0]? = some (0, 3)) : zMv l b0 cA D L yX3_put (Cond.code yX3_put cX3_put 4 (none)) rmX3_put [.ref (b0 + v0), .int v1, .int v2, .int v3] σ (fX3_put v0 v1 v2 v3 σ) := by
  refine zMv_of (by decide) (Nat.le_of_ble_eq_true rfl) ?_
  intro p e s m below meth c ls hC hl
  have hl : lv_has ls 4 [(0, .ref (b0 + v0)), (1, .int v1), (2, .int v2), (3, .int v3)] := hl
  generalize ([.ref (b0 + v0), .int v1, .int v2, .int v3] : List Value).toArray = args at hC ⊢
  unfold fX3_put
  refine zj_aload_n (pc' := 1) hC dX3_put_0 rfl rfl (lv_at hl 0 rfl) ?_
  refine zj_iload_n (pc' := 2) hC dX3_put_1 rfl rfl (lv_at hl 1 rfl) ?_
  refine zj_callzV (pc' := 5) (rest := []) hC (kX3_hasSecond l b0 cA D L v0 v1 σ hk0) hk0 rfl tw_3_23 tw_3_79 tw_3_21 tw_3_22 tw_1_2 ddX3_hasSecond rfl ⟨rfl, rfl⟩ ⟨by decide, by decide⟩ hl.1 (Nat.le_of_ble_eq_true rfl) rfl dX3_put_2 rfl (fun r2 σ1 hb_r2 => ?_)
  refine zj_if_ne (tgt := 9) (pc' := 8) hC dX3_put_5 (by decide) rfl (fun c3 => ?_) (fun c3 => ?_)
  · refine zj_aload_n (pc' := 10) hC dX3_put_9 rfl rfl (lv_at hl 0 rfl) ?_
    refine zj_getR (pc' := 13) hC hk0 fd_3_2 rfl tw_1_98 dX3_put_10 rfl (fun q4 hk_q4 => ?_)
    refine zj_iload_n (pc' := 14) hC dX3_put_13 rfl rfl (lv_at hl 1 rfl) ?_
    refine zj_iload_n (pc' := 15) hC dX3_put_14 rfl rfl (lv_at hl 2 rfl) ?_
    refine zj_iast (pc' := 16) hC hk_q4 dX3_put_15 rfl (fun g5 σ6 => ?_)
    refine zj_aload_n (pc' := 17) hC dX3_put_16 rfl rfl (lv_at hl 0 rfl) ?_
    refine zj_getR (pc' := 20) hC hk0 fd_3_3 rfl tw_1_99 dX3_put_17 rfl (fun q7 hk_q7 => ?_)
    refine zj_iload_n (pc' := 21) hC dX3_put_20 rfl rfl (lv_at hl 1 rfl) ?_
    refine zj_iload_n (pc' := 22) hC dX3_put_21 rfl rfl (lv_at hl 3 rfl) ?_
    refine zj_iast (pc' := 23) hC hk_q7 dX3_put_22 rfl (fun g8 σ9 => ?_)
    refine zj_aload_n (pc' := 24) hC dX3_put_23 rfl rfl (lv_at hl 0 rfl) ?_
    refine zj_dup (pc' := 25) hC dX3_put_24 rfl rfl ?_
    refine zj_getI (pc' := 28) hC hk0 fd_3_4 rfl tw_1_100 dX3_put_25 rfl ?_
    refine zj_aload_n (pc' := 29) hC dX3_put_28 rfl rfl (lv_at hl 0 rfl) ?_
    refine zj_iload_n (pc' := 30) hC dX3_put_29 rfl rfl (lv_at hl 1 rfl) ?_
    refine zj_calliV (pc' := 33) (rest := [.int (σ9.1 v0 4), .ref (b0 + v0)]) hC (kX3_clapping l b0 cA D L v0 v1 σ9 hk0) hk0 rfl tw_3_83 tw_3_80 tw_3_81 tw_3_82 tw_1_2 ddX3_clapping rfl ⟨rfl, rfl⟩ ⟨by decide, by decide⟩ hl.1 (Nat.le_of_ble_eq_true rfl) rfl dX3_put_30 rfl (fun r11 σ10 => ?_)
    refine zj_aload_n (pc' := 34) hC dX3_put_33 rfl rfl (lv_at hl 0 rfl) ?_
    refine zj_iload_n (pc' := 35) hC dX3_put_34 rfl rfl (lv_at hl 1 rfl) ?_
    refine zj_calliV (pc' := 38) (rest := [.int r11, .int (σ9.1 v0 4), .ref (b0 + v0)]) hC (kX3_hissing l b0 cA D L v0 v1 σ10 hk0) hk0 rfl tw_3_92 tw_3_89 tw_3_90 tw_3_91 tw_1_2 ddX3_hissing rfl ⟨rfl, rfl⟩ ⟨by decide, by decide⟩ hl.1 (Nat.le_of_ble_eq_true rfl) rfl dX3_put_35 rfl (fun r13 σ12 => ?_)
    refine zj_isub (pc' := 39) hC dX3_put_38 rfl ?_
    refine zj_iadd (pc' := 40) hC dX3_put_39 rfl ?_
    refine zj_putI (pc' := 43) hC hk0 fd_3_4 rfl tw_1_100 rfl rfl rfl dX3_put_40 rfl (fun σ14 => ?_)
    exact zj_vret hC dX3_put_43
  · exact zj_vret hC dX3_put_8
-- X3_shown
theorem ddX3_shown : yX3_shown.cls ≠ "java/lang/invoke/MethodHandle" ∧ yX3_shown.cls ≠ "java/lang/invoke/VarHandle" ∧ (parseMethodDescriptor yX3_shown.desc).map (fun d => d.parameters.length) = some 2 := by decide +kernel
abbrev rmX3_shown : Room := { frames := 2, cells := 0, slots := 0, locals := 43 }
def fX3_shown (v0 : Nat) (v1 : Int32) (v2 : Int32) (σ : zS) : Option (Int32 × zS) :=
  zb (fX3_showing v0 v2 (1 : Int32) σ) (fun (r2 : Int32) (σ1 : zS) => if ((r2 >>> (v1 &&& 31)) &&& (1 : Int32)) = 0 then (zb (fX3_showing v0 v2 (2 : Int32) σ1) (fun (r5 : Int32) (σ4 : zS) => if ((r5 >>> (v1 &&& 31)) &&& (1 : Int32)) = 0 then (some ((0 : Int32), σ4)) else (some ((2 : Int32), σ4)))) else (some ((1 : Int32), σ1)))
set_option maxRecDepth 100000 in
set_option maxHeartbeats 4000000 in
theorem kX3_shown (l : Launch) (b0 : Nat) (cA : Nat → ClassId) (D : va_G) (L : List (Nat × Nat)) (v0 : Nat) (v1 : Int32) (v2 : Int32) (σ : zS) (hk0 : L[v0]? = some (0, 3)) : zMi l b0 cA D L yX3_shown (Cond.code yX3_shown cX3_shown 3 (some Jvm.ClassFile.FieldType.int)) rmX3_shown [.ref (b0 + v0), .int v1, .int v2] σ (fX3_shown v0 v1 v2 σ) := by
  refine zMi_of (by decide) (Nat.le_of_ble_eq_true rfl) ?_
  intro p e s m below meth c ls hC hl
  have hl : lv_has ls 3 [(0, .ref (b0 + v0)), (1, .int v1), (2, .int v2)] := hl
  generalize ([.ref (b0 + v0), .int v1, .int v2] : List Value).toArray = args at hC ⊢
  unfold fX3_shown
  refine zj_aload_n (pc' := 1) hC dX3_shown_0 rfl rfl (lv_at hl 0 rfl) ?_
  refine zj_iload_n (pc' := 2) hC dX3_shown_1 rfl rfl (lv_at hl 2 rfl) ?_
  refine zj_iconst (pc' := 3) (v := (1 : Int32)) hC dX3_shown_2 rfl rfl ?_
  refine zj_calliV (pc' := 6) (rest := []) hC (kX3_showing l b0 cA D L v0 v2 (1 : Int32) σ hk0) hk0 rfl tw_3_87 tw_3_84 tw_3_85 tw_3_86 tw_1_2 ddX3_showing rfl ⟨rfl, rfl⟩ ⟨by decide, by decide⟩ hl.1 (Nat.le_of_ble_eq_true rfl) rfl dX3_shown_3 rfl (fun r2 σ1 => ?_)
  refine zj_iload_n (pc' := 7) hC dX3_shown_6 rfl rfl (lv_at hl 1 rfl) ?_
  refine zj_ishr (pc' := 8) hC dX3_shown_7 rfl ?_
  refine zj_iconst (pc' := 9) (v := (1 : Int32)) hC dX3_shown_8 rfl rfl ?_
  refine zj_iand (pc' := 10) hC dX3_shown_9 rfl ?_
  refine zj_if_eq (tgt := 15) (pc' := 13) hC dX3_shown_10 (by decide) rfl (fun c3 => ?_) (fun c3 => ?_)
  · refine zj_aload_n (pc' := 16) hC dX3_shown_15 rfl rfl (lv_at hl 0 rfl) ?_
    refine zj_iload_n (pc' := 17) hC dX3_shown_16 rfl rfl (lv_at hl 2 rfl) ?_
    refine zj_iconst (pc' := 18) (v := (2 : Int32)) hC dX3_shown_17 rfl rfl ?_
    refine zj_calliV (pc' := 21) (rest := []) hC (kX3_showing l b0 cA D L v0 v2 (2 : Int32) σ1 hk0) hk0 rfl tw_3_87 tw_3_84 tw_3_85 tw_3_86 tw_1_2 ddX3_showing rfl ⟨rfl, rfl⟩ ⟨by decide, by decide⟩ hl.1 (Nat.le_of_ble_eq_true rfl) rfl dX3_shown_18 rfl (fun r5 σ4 => ?_)
    refine zj_iload_n (pc' := 22) hC dX3_shown_21 rfl rfl (lv_at hl 1 rfl) ?_
    refine zj_ishr (pc' := 23) hC dX3_shown_22 rfl ?_
    refine zj_iconst (pc' := 24) (v := (1 : Int32)) hC dX3_shown_23 rfl rfl ?_
    refine zj_iand (pc' := 25) hC dX3_shown_24 rfl ?_
    refine zj_if_eq (tgt := 32) (pc' := 28) hC dX3_shown_25 (by decide) rfl (fun c6 => ?_) (fun c6 => ?_)
    · refine zj_iconst (pc' := 33) (v := (0 : Int32)) hC dX3_shown_32 rfl rfl ?_
      exact zj_iret hC dX3_shown_33
    · refine zj_iconst (pc' := 29) (v := (2 : Int32)) hC dX3_shown_28 rfl rfl ?_
      refine zj_goto (tgt := 33) hC dX3_shown_29 (by decide) ?_
      exact zj_iret hC dX3_shown_33
  · refine zj_iconst (pc' := 14) (v := (1 : Int32)) hC dX3_shown_13 rfl rfl ?_
    exact zj_iret hC dX3_shown_14
-- X3_heard
theorem ddX3_heard : yX3_heard.cls ≠ "java/lang/invoke/MethodHandle" ∧ yX3_heard.cls ≠ "java/lang/invoke/VarHandle" ∧ (parseMethodDescriptor yX3_heard.desc).map (fun d => d.parameters.length) = some 0 := by decide +kernel
abbrev rmX3_heard : Room := { frames := 0, cells := 0, slots := 0, locals := 0 }
def bX3_heard_4 (k4 : Nat → Int32 → Int32 → zS → Option (Int32 × zS)) (v0 : Nat) (v1 : Int32) (v2 : Int32) (σ : zS) : Option (Int32 × zS) :=
  bnd (σ.2 v0 1) (fun (q1 : Nat) => if (σ.1 q1 0) ≤ v2 then (some (v1, σ)) else (if (40 : Int32) ≤ v2 then (some (v1, σ)) else (bnd (σ.2 v0 2) (fun (q4 : Nat) => zX v2 40 (bnd (σ.2 v0 3) (fun (q6 : Nat) => zX v2 40 (bnd (((σ.1 q4 (v2).toNatClampNeg) ||| (σ.1 q6 (v2).toNatClampNeg))) (fun (x8 : Int32) => bnd ((v1 ||| x8)) (fun (x9 : Int32) => k4 v0 x9 ((v2 + (1 : Int32))) σ)))))))))
def fX3_heard_4  : Nat → Nat → Int32 → Int32 → zS → Option (Int32 × zS)
  | 0, _, _, _, _ => none
  | n + 1, v0, v1, v2, σ => bX3_heard_4 (fX3_heard_4  n) v0 v1 v2 σ
def fX3_heard (v0 : Nat) (σ : zS) : Option (Int32 × zS) :=
  fX3_heard_4 zFU v0 (0 : Int32) (0 : Int32) σ
set_option maxRecDepth 100000 in
set_option maxHeartbeats 4000000 in
theorem jX3_heard_4 {p : Program} {l : Launch} {e : Env} {s : State} {m : MethodId} {args : Array Value} {below : List Frame} {meth : Method} {c : Code} {b0 : Nat} {cA : Nat → ClassId} {D : va_G} {L : List (Nat × Nat)} (hC : zC p c s m args meth cX3_heard 3 (some Jvm.ClassFile.FieldType.int) (Cond.code yX3_heard cX3_heard 3 (some Jvm.ClassFile.FieldType.int)) yX3_heard.cls cA D) (k4 : Nat → Int32 → Int32 → zS → Option (Int32 × zS)) (h4 : ∀ (v0 : Nat) (v1 : Int32) (v2 : Int32) (σ : zS) (ls : Array Slot), L[v0]? = some (0, 3) → lv_has ls 3 [(0, .ref (b0 + v0)), (1, .int v1), (2, .int v2)] → zJ p l e rmX3_heard s m args below meth c b0 cA D L (fun z => MQ below (va_Qi (fun (r : Int32) (u : zS) => (r, u) = z) (zB b0 cA D L) (zA b0 L)) args s 0 0 (zA b0 L)) (k4 v0 v1 v2 σ) σ 4 ls []) (v0 : Nat) (v1 : Int32) (v2 : Int32) (σ : zS) (ls : Array Slot) (hk_v0 : L[v0]? = some (0, 3)) (hl : lv_has ls 3 [(0, .ref (b0 + v0)), (1, .int v1), (2, .int v2)]) : zJ p l e rmX3_heard s m args below meth c b0 cA D L (fun z => MQ below (va_Qi (fun (r : Int32) (u : zS) => (r, u) = z) (zB b0 cA D L) (zA b0 L)) args s 0 0 (zA b0 L)) (bX3_heard_4 k4 v0 v1 v2 σ) σ 4 ls [] := by
  unfold bX3_heard_4
  refine zj_iload_n (pc' := 5) hC dX3_heard_4 rfl rfl (lv_at hl 2 rfl) ?_
  refine zj_aload_n (pc' := 6) hC dX3_heard_5 rfl rfl (lv_at hl 0 rfl) ?_
  refine zj_getR (pc' := 9) hC hk_v0 fd_3_1 rfl tw_1_96 dX3_heard_6 rfl (fun q1 hk_q1 => ?_)
  refine zj_getI (pc' := 12) hC hk_q1 fd_1_0 rfl tw_1_34 dX3_heard_9 rfl ?_
  refine zj_icmp_ge (tgt := 43) (pc' := 15) hC dX3_heard_12 (by decide) rfl (fun c2 => ?_) (fun c2 => ?_)
  · refine zj_iload_n (pc' := 44) hC dX3_heard_43 rfl rfl (lv_at hl 1 rfl) ?_
    exact zj_iret hC dX3_heard_44
  · refine zj_iload_n (pc' := 16) hC dX3_heard_15 rfl rfl (lv_at hl 2 rfl) ?_
    refine zj_bipush (pc' := 18) (v := (40 : Int32)) hC dX3_heard_16 rfl rfl ?_
    refine zj_icmp_ge (tgt := 43) (pc' := 21) hC dX3_heard_18 (by decide) rfl (fun c3 => ?_) (fun c3 => ?_)
    · refine zj_iload_n (pc' := 44) hC dX3_heard_43 rfl rfl (lv_at hl 1 rfl) ?_
      exact zj_iret hC dX3_heard_44
    · refine zj_iload_n (pc' := 22) hC dX3_heard_21 rfl rfl (lv_at hl 1 rfl) ?_
      refine zj_aload_n (pc' := 23) hC dX3_heard_22 rfl rfl (lv_at hl 0 rfl) ?_
      refine zj_getR (pc' := 26) hC hk_v0 fd_3_2 rfl tw_1_98 dX3_heard_23 rfl (fun q4 hk_q4 => ?_)
      refine zj_iload_n (pc' := 27) hC dX3_heard_26 rfl rfl (lv_at hl 2 rfl) ?_
      refine zj_iald (pc' := 28) hC hk_q4 dX3_heard_27 rfl (fun g5 => ?_)
      refine zj_aload_n (pc' := 29) hC dX3_heard_28 rfl rfl (lv_at hl 0 rfl) ?_
      refine zj_getR (pc' := 32) hC hk_v0 fd_3_3 rfl tw_1_99 dX3_heard_29 rfl (fun q6 hk_q6 => ?_)
      refine zj_iload_n (pc' := 33) hC dX3_heard_32 rfl rfl (lv_at hl 2 rfl) ?_
      refine zj_iald (pc' := 34) hC hk_q6 dX3_heard_33 rfl (fun g7 => ?_)
      refine zj_ior (pc' := 35) hC dX3_heard_34 rfl ?_
      refine zj_nmi (fun x8 => ?_)
      refine zj_ior (pc' := 36) hC dX3_heard_35 rfl ?_
      refine zj_nmi (fun x9 => ?_)
      refine zj_istore_n (pc' := 37) (lv' := [(1, .int x9), (0, .ref (b0 + v0)), (2, .int v2)]) hC dX3_heard_36 rfl rfl hl (by decide) rfl (fun ls hl => ?_)
      refine zj_iinc (pc' := 40) (k0 := 2) (v := (v2 + (1 : Int32))) (lv' := [(2, .int (v2 + (1 : Int32))), (1, .int x9), (0, .ref (b0 + v0))]) hC dX3_heard_37 rfl hl rfl rfl (by decide) rfl (fun ls hl => ?_)
      refine zj_goto (tgt := 4) hC dX3_heard_40 (by decide) ?_
      exact h4 v0 x9 ((v2 + (1 : Int32))) σ ls hk_v0 (lv_sub hl [2, 1, 0] rfl)
set_option maxRecDepth 100000 in
set_option maxHeartbeats 4000000 in
theorem lX3_heard_4 {p : Program} {l : Launch} {e : Env} {s : State} {m : MethodId} {args : Array Value} {below : List Frame} {meth : Method} {c : Code} {b0 : Nat} {cA : Nat → ClassId} {D : va_G} {L : List (Nat × Nat)} (hC : zC p c s m args meth cX3_heard 3 (some Jvm.ClassFile.FieldType.int) (Cond.code yX3_heard cX3_heard 3 (some Jvm.ClassFile.FieldType.int)) yX3_heard.cls cA D)  (n : Nat) : ∀ (v0 : Nat) (v1 : Int32) (v2 : Int32) (σ : zS) (ls : Array Slot), L[v0]? = some (0, 3) → lv_has ls 3 [(0, .ref (b0 + v0)), (1, .int v1), (2, .int v2)] → zJ p l e rmX3_heard s m args below meth c b0 cA D L (fun z => MQ below (va_Qi (fun (r : Int32) (u : zS) => (r, u) = z) (zB b0 cA D L) (zA b0 L)) args s 0 0 (zA b0 L)) (fX3_heard_4  n v0 v1 v2 σ) σ 4 ls [] := by
  induction n with
  | zero => intros; exact zj_none
  | succ n ih => exact jX3_heard_4 hC (fX3_heard_4  n) ih
set_option maxRecDepth 100000 in
set_option maxHeartbeats 4000000 in
theorem kX3_heard (l : Launch) (b0 : Nat) (cA : Nat → ClassId) (D : va_G) (L : List (Nat × Nat)) (v0 : Nat) (σ : zS) (hk0 : L[v0]? = some (0, 3)) : zMi l b0 cA D L yX3_heard (Cond.code yX3_heard cX3_heard 3 (some Jvm.ClassFile.FieldType.int)) rmX3_heard [.ref (b0 + v0)] σ (fX3_heard v0 σ) := by
  refine zMi_of (by decide) (Nat.le_of_ble_eq_true rfl) ?_
  intro p e s m below meth c ls hC hl
  have hl : lv_has ls 3 [(0, .ref (b0 + v0))] := hl
  generalize ([.ref (b0 + v0)] : List Value).toArray = args at hC ⊢
  unfold fX3_heard
  refine zj_iconst (pc' := 1) (v := (0 : Int32)) hC dX3_heard_0 rfl rfl ?_
  refine zj_istore_n (pc' := 2) (lv' := [(1, .int (0 : Int32)), (0, .ref (b0 + v0))]) hC dX3_heard_1 rfl rfl hl (by decide) rfl (fun ls hl => ?_)
  refine zj_iconst (pc' := 3) (v := (0 : Int32)) hC dX3_heard_2 rfl rfl ?_
  refine zj_istore_n (pc' := 4) (lv' := [(2, .int (0 : Int32)), (1, .int (0 : Int32)), (0, .ref (b0 + v0))]) hC dX3_heard_3 rfl rfl hl (by decide) rfl (fun ls hl => ?_)
  exact lX3_heard_4 hC zFU v0 (0 : Int32) (0 : Int32) σ ls hk0 (lv_sub hl [2, 1, 0] rfl)
-- X3_told
theorem ddX3_told : yX3_told.cls ≠ "java/lang/invoke/MethodHandle" ∧ yX3_told.cls ≠ "java/lang/invoke/VarHandle" ∧ (parseMethodDescriptor yX3_told.desc).map (fun d => d.parameters.length) = some 2 := by decide +kernel
abbrev rmX3_told : Room := { frames := 3, cells := 0, slots := 0, locals := 64 }
def fX3_told (v0 : Nat) (v1 : Int32) (v2 : Int32) (σ : zS) : Option (Int32 × zS) :=
  if v2 = 0 then (some (v1, σ)) else (if v2 = (1 : Int32) then (zb (fX3_clapping v0 v1 σ) (fun (r6 : Int32) (σ5 : zS) => some (r6, σ5))) else (zb (fX3_hissing v0 v1 σ) (fun (r4 : Int32) (σ3 : zS) => some (r4, σ3))))
set_option maxRecDepth 100000 in
set_option maxHeartbeats 4000000 in
theorem kX3_told (l : Launch) (b0 : Nat) (cA : Nat → ClassId) (D : va_G) (L : List (Nat × Nat)) (v0 : Nat) (v1 : Int32) (v2 : Int32) (σ : zS) (hk0 : L[v0]? = some (0, 3)) : zMi l b0 cA D L yX3_told (Cond.code yX3_told cX3_told 3 (some Jvm.ClassFile.FieldType.int)) rmX3_told [.ref (b0 + v0), .int v1, .int v2] σ (fX3_told v0 v1 v2 σ) := by
  refine zMi_of (by decide) (Nat.le_of_ble_eq_true rfl) ?_
  intro p e s m below meth c ls hC hl
  have hl : lv_has ls 3 [(0, .ref (b0 + v0)), (1, .int v1), (2, .int v2)] := hl
  generalize ([.ref (b0 + v0), .int v1, .int v2] : List Value).toArray = args at hC ⊢
  unfold fX3_told
  refine zj_iload_n (pc' := 1) hC dX3_told_0 rfl rfl (lv_at hl 2 rfl) ?_
  refine zj_if_ne (tgt := 6) (pc' := 4) hC dX3_told_1 (by decide) rfl (fun c1 => ?_) (fun c1 => ?_)
  · refine zj_iload_n (pc' := 7) hC dX3_told_6 rfl rfl (lv_at hl 2 rfl) ?_
    refine zj_iconst (pc' := 8) (v := (1 : Int32)) hC dX3_told_7 rfl rfl ?_
    refine zj_icmp_ne (tgt := 19) (pc' := 11) hC dX3_told_8 (by decide) rfl (fun c2 => ?_) (fun c2 => ?_)
    · refine zj_aload_n (pc' := 20) hC dX3_told_19 rfl rfl (lv_at hl 0 rfl) ?_
      refine zj_iload_n (pc' := 21) hC dX3_told_20 rfl rfl (lv_at hl 1 rfl) ?_
      refine zj_calliV (pc' := 24) (rest := []) hC (kX3_hissing l b0 cA D L v0 v1 σ hk0) hk0 rfl tw_3_92 tw_3_89 tw_3_90 tw_3_91 tw_1_2 ddX3_hissing rfl ⟨rfl, rfl⟩ ⟨by decide, by decide⟩ hl.1 (Nat.le_of_ble_eq_true rfl) rfl dX3_told_21 rfl (fun r4 σ3 => ?_)
      exact zj_iret hC dX3_told_24
    · refine zj_aload_n (pc' := 12) hC dX3_told_11 rfl rfl (lv_at hl 0 rfl) ?_
      refine zj_iload_n (pc' := 13) hC dX3_told_12 rfl rfl (lv_at hl 1 rfl) ?_
      refine zj_calliV (pc' := 16) (rest := []) hC (kX3_clapping l b0 cA D L v0 v1 σ hk0) hk0 rfl tw_3_83 tw_3_80 tw_3_81 tw_3_82 tw_1_2 ddX3_clapping rfl ⟨rfl, rfl⟩ ⟨by decide, by decide⟩ hl.1 (Nat.le_of_ble_eq_true rfl) rfl dX3_told_13 rfl (fun r6 σ5 => ?_)
      refine zj_goto (tgt := 24) hC dX3_told_16 (by decide) ?_
      exact zj_iret hC dX3_told_24
  · refine zj_iload_n (pc' := 5) hC dX3_told_4 rfl rfl (lv_at hl 1 rfl) ?_
    exact zj_iret hC dX3_told_5
-- X3_copy
theorem ddX3_copy : yX3_copy.cls ≠ "java/lang/invoke/MethodHandle" ∧ yX3_copy.cls ≠ "java/lang/invoke/VarHandle" ∧ (parseMethodDescriptor yX3_copy.desc).map (fun d => d.parameters.length) = some 1 := by decide +kernel
abbrev rmX3_copy : Room := { frames := 2, cells := 0, slots := 0, locals := 69 }
def fX3_copy (v0 : Nat) (v1 : Nat) (σ : zS) : Option (Unit × zS) :=
  bnd (σ.2 v0 0) (fun (q1 : Nat) => bnd (σ.2 v1 0) (fun (q2 : Nat) => zb (fX2_copy q1 q2 σ) (fun (_ : Unit) (σ3 : zS) => bnd (σ3.2 v0 1) (fun (q5 : Nat) => bnd (σ3.2 v1 1) (fun (q6 : Nat) => zb (fX1_copy q5 q6 σ3) (fun (_ : Unit) (σ7 : zS) => bnd (σ7.2 v1 2) (fun (q9 : Nat) => bnd (σ7.2 v0 2) (fun (q10 : Nat) => bnd (zY σ7 q9 q10 ((0 : Int32)).toNatClampNeg ((0 : Int32)).toNatClampNeg ((40 : Int32)).toNatClampNeg) (fun (σ11 : zS) => bnd (σ11.2 v1 3) (fun (q12 : Nat) => bnd (σ11.2 v0 3) (fun (q13 : Nat) => bnd (zY σ11 q12 q13 ((0 : Int32)).toNatClampNeg ((0 : Int32)).toNatClampNeg ((40 : Int32)).toNatClampNeg) (fun (σ14 : zS) => bnd (zI σ14 v0 4 (σ14.1 v1 4)) (fun (σ15 : zS) => some ((), σ15))))))))))))))
set_option maxRecDepth 100000 in
set_option maxHeartbeats 4000000 in
theorem kX3_copy (l : Launch) (b0 : Nat) (cA : Nat → ClassId) (D : va_G) (L : List (Nat × Nat)) (v0 : Nat) (v1 : Nat) (σ : zS) (hk0 : L[v0]? = some (0, 3)) (hk1 : L[v1]? = some (0, 3)) : zMv l b0 cA D L yX3_copy (Cond.code yX3_copy cX3_copy 2 (none)) rmX3_copy [.ref (b0 + v0), .ref (b0 + v1)] σ (fX3_copy v0 v1 σ) := by
  refine zMv_of (by decide) (Nat.le_of_ble_eq_true rfl) ?_
  intro p e s m below meth c ls hC hl
  have hl : lv_has ls 2 [(0, .ref (b0 + v0)), (1, .ref (b0 + v1))] := hl
  generalize ([.ref (b0 + v0), .ref (b0 + v1)] : List Value).toArray = args at hC ⊢
  unfold fX3_copy
  refine zj_aload_n (pc' := 1) hC dX3_copy_0 rfl rfl (lv_at hl 0 rfl) ?_
  refine zj_getR (pc' := 4) hC hk0 fd_3_0 rfl tw_1_92 dX3_copy_1 rfl (fun q1 hk_q1 => ?_)
  refine zj_aload_n (pc' := 5) hC dX3_copy_4 rfl rfl (lv_at hl 1 rfl) ?_
  refine zj_getR (pc' := 8) hC hk1 fd_3_0 rfl tw_1_92 dX3_copy_5 rfl (fun q2 hk_q2 => ?_)
  refine zj_callvV (pc' := 11) (rest := []) hC (kX2_copy l b0 cA D L q1 q2 σ hk_q1 hk_q2) hk_q1 rfl tw_3_135 tw_3_208 tw_3_133 tw_3_134 tw_1_4 ddX2_copy rfl ⟨rfl, rfl⟩ ⟨by decide, by decide⟩ hl.1 (Nat.le_of_ble_eq_true rfl) rfl dX3_copy_8 rfl (fun σ3 => ?_)
  refine zj_aload_n (pc' := 12) hC dX3_copy_11 rfl rfl (lv_at hl 0 rfl) ?_
  refine zj_getR (pc' := 15) hC hk0 fd_3_1 rfl tw_1_96 dX3_copy_12 rfl (fun q5 hk_q5 => ?_)
  refine zj_aload_n (pc' := 16) hC dX3_copy_15 rfl rfl (lv_at hl 1 rfl) ?_
  refine zj_getR (pc' := 19) hC hk1 fd_3_1 rfl tw_1_96 dX3_copy_16 rfl (fun q6 hk_q6 => ?_)
  refine zj_callvV (pc' := 22) (rest := []) hC (kX1_copy l b0 cA D L q5 q6 σ3 hk_q5 hk_q6) hk_q5 rfl tw_3_212 tw_3_209 tw_3_210 tw_3_211 tw_1_3 ddX1_copy rfl ⟨rfl, rfl⟩ ⟨by decide, by decide⟩ hl.1 (Nat.le_of_ble_eq_true rfl) rfl dX3_copy_19 rfl (fun σ7 => ?_)
  refine zj_aload_n (pc' := 23) hC dX3_copy_22 rfl rfl (lv_at hl 1 rfl) ?_
  refine zj_getR (pc' := 26) hC hk1 fd_3_2 rfl tw_1_98 dX3_copy_23 rfl (fun q9 hk_q9 => ?_)
  refine zj_iconst (pc' := 27) (v := (0 : Int32)) hC dX3_copy_26 rfl rfl ?_
  refine zj_aload_n (pc' := 28) hC dX3_copy_27 rfl rfl (lv_at hl 0 rfl) ?_
  refine zj_getR (pc' := 31) hC hk0 fd_3_2 rfl tw_1_98 dX3_copy_28 rfl (fun q10 hk_q10 => ?_)
  refine zj_iconst (pc' := 32) (v := (0 : Int32)) hC dX3_copy_31 rfl rfl ?_
  refine zj_bipush (pc' := 34) (v := (40 : Int32)) hC dX3_copy_32 rfl rfl ?_
  refine zj_copy (pc' := 37) (sp := (0 : Int32)) (dp := (0 : Int32)) (n := (40 : Int32)) hC hk_q9 hk_q10 tw_3_216 tw_3_215 tw_3_214 tw_1_16 hl.1 (by decide) (by decide) (by decide) (by decide) (by decide) (by decide) (Nat.le_of_ble_eq_true rfl) dX3_copy_34 rfl (fun σ11 => ?_)
  refine zj_aload_n (pc' := 38) hC dX3_copy_37 rfl rfl (lv_at hl 1 rfl) ?_
  refine zj_getR (pc' := 41) hC hk1 fd_3_3 rfl tw_1_99 dX3_copy_38 rfl (fun q12 hk_q12 => ?_)
  refine zj_iconst (pc' := 42) (v := (0 : Int32)) hC dX3_copy_41 rfl rfl ?_
  refine zj_aload_n (pc' := 43) hC dX3_copy_42 rfl rfl (lv_at hl 0 rfl) ?_
  refine zj_getR (pc' := 46) hC hk0 fd_3_3 rfl tw_1_99 dX3_copy_43 rfl (fun q13 hk_q13 => ?_)
  refine zj_iconst (pc' := 47) (v := (0 : Int32)) hC dX3_copy_46 rfl rfl ?_
  refine zj_bipush (pc' := 49) (v := (40 : Int32)) hC dX3_copy_47 rfl rfl ?_
  refine zj_copy (pc' := 52) (sp := (0 : Int32)) (dp := (0 : Int32)) (n := (40 : Int32)) hC hk_q12 hk_q13 tw_3_216 tw_3_215 tw_3_214 tw_1_16 hl.1 (by decide) (by decide) (by decide) (by decide) (by decide) (by decide) (Nat.le_of_ble_eq_true rfl) dX3_copy_49 rfl (fun σ14 => ?_)
  refine zj_aload_n (pc' := 53) hC dX3_copy_52 rfl rfl (lv_at hl 0 rfl) ?_
  refine zj_aload_n (pc' := 54) hC dX3_copy_53 rfl rfl (lv_at hl 1 rfl) ?_
  refine zj_getI (pc' := 57) hC hk1 fd_3_4 rfl tw_1_100 dX3_copy_54 rfl ?_
  refine zj_putI (pc' := 60) hC hk0 fd_3_4 rfl tw_1_100 rfl rfl rfl dX3_copy_57 rfl (fun σ15 => ?_)
  exact zj_vret hC dX3_copy_60
-- X4_clear
theorem ddX4_clear : yX4_clear.cls ≠ "java/lang/invoke/MethodHandle" ∧ yX4_clear.cls ≠ "java/lang/invoke/VarHandle" ∧ (parseMethodDescriptor yX4_clear.desc).map (fun d => d.parameters.length) = some 0 := by decide +kernel
abbrev rmX4_clear : Room := { frames := 0, cells := 0, slots := 0, locals := 0 }
def fX4_clear (v0 : Nat) (σ : zS) : Option (Unit × zS) :=
  bnd (zI σ v0 1 (0 : Int32)) (fun (σ1 : zS) => bnd (zI σ1 v0 2 (0 : Int32)) (fun (σ2 : zS) => some ((), σ2)))
set_option maxRecDepth 100000 in
set_option maxHeartbeats 4000000 in
theorem kX4_clear (l : Launch) (b0 : Nat) (cA : Nat → ClassId) (D : va_G) (L : List (Nat × Nat)) (v0 : Nat) (σ : zS) (hk0 : L[v0]? = some (0, 4)) : zMv l b0 cA D L yX4_clear (Cond.code yX4_clear cX4_clear 1 (none)) rmX4_clear [.ref (b0 + v0)] σ (fX4_clear v0 σ) := by
  refine zMv_of (by decide) (Nat.le_of_ble_eq_true rfl) ?_
  intro p e s m below meth c ls hC hl
  have hl : lv_has ls 1 [(0, .ref (b0 + v0))] := hl
  generalize ([.ref (b0 + v0)] : List Value).toArray = args at hC ⊢
  unfold fX4_clear
  refine zj_aload_n (pc' := 1) hC dX4_clear_0 rfl rfl (lv_at hl 0 rfl) ?_
  refine zj_iconst (pc' := 2) (v := (0 : Int32)) hC dX4_clear_1 rfl rfl ?_
  refine zj_putI (pc' := 5) hC hk0 fd_4_1 rfl tw_1_157 rfl rfl rfl dX4_clear_2 rfl (fun σ1 => ?_)
  refine zj_aload_n (pc' := 6) hC dX4_clear_5 rfl rfl (lv_at hl 0 rfl) ?_
  refine zj_iconst (pc' := 7) (v := (0 : Int32)) hC dX4_clear_6 rfl rfl ?_
  refine zj_putI (pc' := 10) hC hk0 fd_4_2 rfl tw_1_159 rfl rfl rfl dX4_clear_7 rfl (fun σ2 => ?_)
  exact zj_vret hC dX4_clear_10
-- X4_add
theorem ddX4_add : yX4_add.cls ≠ "java/lang/invoke/MethodHandle" ∧ yX4_add.cls ≠ "java/lang/invoke/VarHandle" ∧ (parseMethodDescriptor yX4_add.desc).map (fun d => d.parameters.length) = some 2 := by decide +kernel
abbrev rmX4_add : Room := { frames := 0, cells := 0, slots := 0, locals := 0 }
def fX4_add (v0 : Nat) (v1 : Int32) (v2 : Int32) (σ : zS) : Option (Int32 × zS) :=
  bnd ((σ.1 v0 1)) (fun (x1 : Int32) => if x1 < 0 then (some (x1, σ)) else (if (128 : Int32) ≤ x1 then (some (x1, σ)) else (bnd (σ.2 v0 0) (fun (q4 : Nat) => zX x1 128 (bnd (zI σ q4 (x1).toNatClampNeg ((v2 <<< ((4 : Int32) &&& 31)) ||| v1)) (fun (σ6 : zS) => bnd (zI σ6 v0 1 (x1 + (1 : Int32))) (fun (σ7 : zS) => some (x1, σ7))))))))
set_option maxRecDepth 100000 in
set_option maxHeartbeats 4000000 in
theorem kX4_add (l : Launch) (b0 : Nat) (cA : Nat → ClassId) (D : va_G) (L : List (Nat × Nat)) (v0 : Nat) (v1 : Int32) (v2 : Int32) (σ : zS) (hk0 : L[v0]? = some (0, 4)) : zMi l b0 cA D L yX4_add (Cond.code yX4_add cX4_add 4 (some Jvm.ClassFile.FieldType.int)) rmX4_add [.ref (b0 + v0), .int v1, .int v2] σ (fX4_add v0 v1 v2 σ) := by
  refine zMi_of (by decide) (Nat.le_of_ble_eq_true rfl) ?_
  intro p e s m below meth c ls hC hl
  have hl : lv_has ls 4 [(0, .ref (b0 + v0)), (1, .int v1), (2, .int v2)] := hl
  generalize ([.ref (b0 + v0), .int v1, .int v2] : List Value).toArray = args at hC ⊢
  unfold fX4_add
  refine zj_aload_n (pc' := 1) hC dX4_add_0 rfl rfl (lv_at hl 0 rfl) ?_
  refine zj_getI (pc' := 4) hC hk0 fd_4_1 rfl tw_1_157 dX4_add_1 rfl ?_
  refine zj_nmi (fun x1 => ?_)
  refine zj_istore_n (pc' := 5) (lv' := [(3, .int x1), (0, .ref (b0 + v0)), (1, .int v1), (2, .int v2)]) hC dX4_add_4 rfl rfl hl (by decide) rfl (fun ls hl => ?_)
  refine zj_iload_n (pc' := 6) hC dX4_add_5 rfl rfl (lv_at hl 0 rfl) ?_
  refine zj_if_lt (tgt := 34) (pc' := 9) hC dX4_add_6 (by decide) rfl (fun c2 => ?_) (fun c2 => ?_)
  · refine zj_iload_n (pc' := 35) hC dX4_add_34 rfl rfl (lv_at hl 0 rfl) ?_
    exact zj_iret hC dX4_add_35
  · refine zj_iload_n (pc' := 10) hC dX4_add_9 rfl rfl (lv_at hl 0 rfl) ?_
    refine zj_sipush (pc' := 13) (v := (128 : Int32)) hC dX4_add_10 rfl rfl ?_
    refine zj_icmp_ge (tgt := 34) (pc' := 16) hC dX4_add_13 (by decide) rfl (fun c3 => ?_) (fun c3 => ?_)
    · refine zj_iload_n (pc' := 35) hC dX4_add_34 rfl rfl (lv_at hl 0 rfl) ?_
      exact zj_iret hC dX4_add_35
    · refine zj_aload_n (pc' := 17) hC dX4_add_16 rfl rfl (lv_at hl 1 rfl) ?_
      refine zj_getR (pc' := 20) hC hk0 fd_4_0 rfl tw_1_155 dX4_add_17 rfl (fun q4 hk_q4 => ?_)
      refine zj_iload_n (pc' := 21) hC dX4_add_20 rfl rfl (lv_at hl 0 rfl) ?_
      refine zj_iload_n (pc' := 22) hC dX4_add_21 rfl rfl (lv_at hl 3 rfl) ?_
      refine zj_iconst (pc' := 23) (v := (4 : Int32)) hC dX4_add_22 rfl rfl ?_
      refine zj_ishl (pc' := 24) hC dX4_add_23 rfl ?_
      refine zj_iload_n (pc' := 25) hC dX4_add_24 rfl rfl (lv_at hl 2 rfl) ?_
      refine zj_ior (pc' := 26) hC dX4_add_25 rfl ?_
      refine zj_iast (pc' := 27) hC hk_q4 dX4_add_26 rfl (fun g5 σ6 => ?_)
      refine zj_aload_n (pc' := 28) hC dX4_add_27 rfl rfl (lv_at hl 1 rfl) ?_
      refine zj_iload_n (pc' := 29) hC dX4_add_28 rfl rfl (lv_at hl 0 rfl) ?_
      refine zj_iconst (pc' := 30) (v := (1 : Int32)) hC dX4_add_29 rfl rfl ?_
      refine zj_iadd (pc' := 31) hC dX4_add_30 rfl ?_
      refine zj_putI (pc' := 34) hC hk0 fd_4_1 rfl tw_1_157 rfl rfl rfl dX4_add_31 rfl (fun σ7 => ?_)
      refine zj_iload_n (pc' := 35) hC dX4_add_34 rfl rfl (lv_at hl 0 rfl) ?_
      exact zj_iret hC dX4_add_35
-- X4_aimHere
theorem ddX4_aimHere : yX4_aimHere.cls ≠ "java/lang/invoke/MethodHandle" ∧ yX4_aimHere.cls ≠ "java/lang/invoke/VarHandle" ∧ (parseMethodDescriptor yX4_aimHere.desc).map (fun d => d.parameters.length) = some 1 := by decide +kernel
abbrev rmX4_aimHere : Room := { frames := 0, cells := 0, slots := 0, locals := 0 }
def fX4_aimHere (v0 : Nat) (v1 : Int32) (σ : zS) : Option (Unit × zS) :=
  if v1 < 0 then (some ((), σ)) else (if (128 : Int32) ≤ v1 then (some ((), σ)) else (bnd (σ.2 v0 0) (fun (q3 : Nat) => bnd (σ.2 v0 0) (fun (q4 : Nat) => zX v1 128 (bnd ((((σ.1 v0 1) <<< ((4 : Int32) &&& 31)) ||| ((σ.1 q4 (v1).toNatClampNeg) &&& (15 : Int32)))) (fun (x6 : Int32) => zX v1 128 (bnd (zI σ q3 (v1).toNatClampNeg x6) (fun (σ8 : zS) => some ((), σ8)))))))))
set_option maxRecDepth 100000 in
set_option maxHeartbeats 4000000 in
theorem kX4_aimHere (l : Launch) (b0 : Nat) (cA : Nat → ClassId) (D : va_G) (L : List (Nat × Nat)) (v0 : Nat) (v1 : Int32) (σ : zS) (hk0 : L[v0]? = some (0, 4)) : zMv l b0 cA D L yX4_aimHere (Cond.code yX4_aimHere cX4_aimHere 2 (none)) rmX4_aimHere [.ref (b0 + v0), .int v1] σ (fX4_aimHere v0 v1 σ) := by
  refine zMv_of (by decide) (Nat.le_of_ble_eq_true rfl) ?_
  intro p e s m below meth c ls hC hl
  have hl : lv_has ls 2 [(0, .ref (b0 + v0)), (1, .int v1)] := hl
  generalize ([.ref (b0 + v0), .int v1] : List Value).toArray = args at hC ⊢
  unfold fX4_aimHere
  refine zj_iload_n (pc' := 1) hC dX4_aimHere_0 rfl rfl (lv_at hl 1 rfl) ?_
  refine zj_if_lt (tgt := 33) (pc' := 4) hC dX4_aimHere_1 (by decide) rfl (fun c1 => ?_) (fun c1 => ?_)
  · exact zj_vret hC dX4_aimHere_33
  · refine zj_iload_n (pc' := 5) hC dX4_aimHere_4 rfl rfl (lv_at hl 1 rfl) ?_
    refine zj_sipush (pc' := 8) (v := (128 : Int32)) hC dX4_aimHere_5 rfl rfl ?_
    refine zj_icmp_ge (tgt := 33) (pc' := 11) hC dX4_aimHere_8 (by decide) rfl (fun c2 => ?_) (fun c2 => ?_)
    · exact zj_vret hC dX4_aimHere_33
    · refine zj_aload_n (pc' := 12) hC dX4_aimHere_11 rfl rfl (lv_at hl 0 rfl) ?_
      refine zj_getR (pc' := 15) hC hk0 fd_4_0 rfl tw_1_155 dX4_aimHere_12 rfl (fun q3 hk_q3 => ?_)
      refine zj_iload_n (pc' := 16) hC dX4_aimHere_15 rfl rfl (lv_at hl 1 rfl) ?_
      refine zj_aload_n (pc' := 17) hC dX4_aimHere_16 rfl rfl (lv_at hl 0 rfl) ?_
      refine zj_getI (pc' := 20) hC hk0 fd_4_1 rfl tw_1_157 dX4_aimHere_17 rfl ?_
      refine zj_iconst (pc' := 21) (v := (4 : Int32)) hC dX4_aimHere_20 rfl rfl ?_
      refine zj_ishl (pc' := 22) hC dX4_aimHere_21 rfl ?_
      refine zj_aload_n (pc' := 23) hC dX4_aimHere_22 rfl rfl (lv_at hl 0 rfl) ?_
      refine zj_getR (pc' := 26) hC hk0 fd_4_0 rfl tw_1_155 dX4_aimHere_23 rfl (fun q4 hk_q4 => ?_)
      refine zj_iload_n (pc' := 27) hC dX4_aimHere_26 rfl rfl (lv_at hl 1 rfl) ?_
      refine zj_iald (pc' := 28) hC hk_q4 dX4_aimHere_27 rfl (fun g5 => ?_)
      refine zj_bipush (pc' := 30) (v := (15 : Int32)) hC dX4_aimHere_28 rfl rfl ?_
      refine zj_iand (pc' := 31) hC dX4_aimHere_30 rfl ?_
      refine zj_ior (pc' := 32) hC dX4_aimHere_31 rfl ?_
      refine zj_nmi (fun x6 => ?_)
      refine zj_iast (pc' := 33) hC hk_q3 dX4_aimHere_32 rfl (fun g7 σ8 => ?_)
      exact zj_vret hC dX4_aimHere_33
-- J6_compare_7cf53
theorem ddJ6_compare_7cf53 : yJ6_compare_7cf53.cls ≠ "java/lang/invoke/MethodHandle" ∧ yJ6_compare_7cf53.cls ≠ "java/lang/invoke/VarHandle" ∧ (parseMethodDescriptor yJ6_compare_7cf53.desc).map (fun d => d.parameters.length) = some 2 := by decide +kernel
abbrev rmJ6_compare_7cf53 : Room := { frames := 0, cells := 0, slots := 0, locals := 0 }
def fJ6_compare_7cf53 (v0 : Int32) (v1 : Int32) (σ : zS) : Option (Int32 × zS) :=
  if v1 ≤ v0 then (if v0 = v1 then (some ((0 : Int32), σ)) else (some ((1 : Int32), σ))) else (some ((-1 : Int32), σ))
set_option maxRecDepth 100000 in
set_option maxHeartbeats 4000000 in
theorem kJ6_compare_7cf53 (l : Launch) (b0 : Nat) (cA : Nat → ClassId) (D : va_G) (L : List (Nat × Nat)) (v0 : Int32) (v1 : Int32) (σ : zS)  : zMi l b0 cA D L yJ6_compare_7cf53 (Cond.code yJ6_compare_7cf53 cJ6_compare_7cf53 2 (some Jvm.ClassFile.FieldType.int)) rmJ6_compare_7cf53 [.int v0, .int v1] σ (fJ6_compare_7cf53 v0 v1 σ) := by
  refine zMi_of (by decide) (Nat.le_of_ble_eq_true rfl) ?_
  intro p e s m below meth c ls hC hl
  have hl : lv_has ls 2 [(0, .int v0), (1, .int v1)] := hl
  generalize ([.int v0, .int v1] : List Value).toArray = args at hC ⊢
  unfold fJ6_compare_7cf53
  refine zj_iload_n (pc' := 1) hC dJ6_compare_7cf53_0 rfl rfl (lv_at hl 0 rfl) ?_
  refine zj_iload_n (pc' := 2) hC dJ6_compare_7cf53_1 rfl rfl (lv_at hl 1 rfl) ?_
  refine zj_icmp_ge (tgt := 9) (pc' := 5) hC dJ6_compare_7cf53_2 (by decide) rfl (fun c1 => ?_) (fun c1 => ?_)
  · refine zj_iload_n (pc' := 10) hC dJ6_compare_7cf53_9 rfl rfl (lv_at hl 0 rfl) ?_
    refine zj_iload_n (pc' := 11) hC dJ6_compare_7cf53_10 rfl rfl (lv_at hl 1 rfl) ?_
    refine zj_icmp_ne (tgt := 18) (pc' := 14) hC dJ6_compare_7cf53_11 (by decide) rfl (fun c2 => ?_) (fun c2 => ?_)
    · refine zj_iconst (pc' := 19) (v := (1 : Int32)) hC dJ6_compare_7cf53_18 rfl rfl ?_
      exact zj_iret hC dJ6_compare_7cf53_19
    · refine zj_iconst (pc' := 15) (v := (0 : Int32)) hC dJ6_compare_7cf53_14 rfl rfl ?_
      refine zj_goto (tgt := 19) hC dJ6_compare_7cf53_15 (by decide) ?_
      exact zj_iret hC dJ6_compare_7cf53_19
  · refine zj_iconst (pc' := 6) (v := (-1 : Int32)) hC dJ6_compare_7cf53_5 rfl rfl ?_
    refine zj_goto (tgt := 19) hC dJ6_compare_7cf53_6 (by decide) ?_
    exact zj_iret hC dJ6_compare_7cf53_19
