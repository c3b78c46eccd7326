-- X6_wins
theorem ddX6_wins : yX6_wins.cls ≠ "java/lang/invoke/MethodHandle" ∧ yX6_wins.cls ≠ "java/lang/invoke/VarHandle" ∧ (parseMethodDescriptor yX6_wins.desc).map (fun d => d.parameters.length) = some 0 := by decide +kernel
abbrev rmX6_wins : Room := { frames := 7, cells := 0, slots := 0, locals := 165 }
def fX6_wins (v0 : Nat) (σ : zS) : Option (Int32 × zS) :=
  zb (fX6_followers v0 (1 : Int32) σ) (fun (r2 : Int32) (σ1 : zS) => zb (fX6_followers v0 (2 : Int32) σ1) (fun (r4 : Int32) (σ3 : zS) => if r2 = r4 then (some ((0 : Int32), σ3)) else (if r2 ≤ r4 then (some ((2 : Int32), σ3)) else (some ((1 : Int32), σ3)))))
set_option maxRecDepth 100000 in
set_option maxHeartbeats 4000000 in
theorem kX6_wins (l : Launch) (b0 : Nat) (cA : Nat → ClassId) (D : va_G) (L : List (Nat × Nat)) (v0 : Nat) (σ : zS) (hk0 : L[v0]? = some (0, 6)) : zMi l b0 cA D L yX6_wins (Cond.code yX6_wins cX6_wins 3 (some Jvm.ClassFile.FieldType.int)) rmX6_wins [.ref (b0 + v0)] σ (fX6_wins v0 σ) := by
  refine zMi_of (by decide) (Nat.le_of_ble_eq_true rfl) ?_
  intro p e s m below meth c ls hC hl
  have hl : lv_has ls 3 [(0, .ref (b0 + v0))] := hl
  generalize ([.ref (b0 + v0)] : List Value).toArray = args at hC ⊢
  unfold fX6_wins
  refine zj_aload_n (pc' := 1) hC dX6_wins_0 rfl rfl (lv_at hl 0 rfl) ?_
  refine zj_iconst (pc' := 2) (v := (1 : Int32)) hC dX6_wins_1 rfl rfl ?_
  refine zj_calliV (pc' := 5) (rest := []) hC (kX6_followers l b0 cA D L v0 (1 : Int32) σ hk0) hk0 rfl tw_3_148 tw_3_145 tw_3_147 ts_2_11 tw_1_1 ddX6_followers rfl ⟨rfl, rfl⟩ ⟨by decide, by decide⟩ hl.1 (Nat.le_of_ble_eq_true rfl) rfl dX6_wins_2 rfl (fun r2 σ1 => ?_)
  refine zj_istore_n (pc' := 6) (lv' := [(1, .int r2), (0, .ref (b0 + v0))]) hC dX6_wins_5 rfl rfl hl (by decide) rfl (fun ls hl => ?_)
  refine zj_aload_n (pc' := 7) hC dX6_wins_6 rfl rfl (lv_at hl 1 rfl) ?_
  refine zj_iconst (pc' := 8) (v := (2 : Int32)) hC dX6_wins_7 rfl rfl ?_
  refine zj_calliV (pc' := 11) (rest := []) hC (kX6_followers l b0 cA D L v0 (2 : Int32) σ1 hk0) hk0 rfl tw_3_148 tw_3_145 tw_3_147 ts_2_11 tw_1_1 ddX6_followers rfl ⟨rfl, rfl⟩ ⟨by decide, by decide⟩ hl.1 (Nat.le_of_ble_eq_true rfl) rfl dX6_wins_8 rfl (fun r4 σ3 => ?_)
  refine zj_istore_n (pc' := 12) (lv' := [(2, .int r4), (1, .int r2), (0, .ref (b0 + v0))]) hC dX6_wins_11 rfl rfl hl (by decide) rfl (fun ls hl => ?_)
  refine zj_iload_n (pc' := 13) hC dX6_wins_12 rfl rfl (lv_at hl 1 rfl) ?_
  refine zj_iload_n (pc' := 14) hC dX6_wins_13 rfl rfl (lv_at hl 0 rfl) ?_
  refine zj_icmp_ne (tgt := 19) (pc' := 17) hC dX6_wins_14 (by decide) rfl (fun c5 => ?_) (fun c5 => ?_)
  · refine zj_iload_n (pc' := 20) hC dX6_wins_19 rfl rfl (lv_at hl 1 rfl) ?_
    refine zj_iload_n (pc' := 21) hC dX6_wins_20 rfl rfl (lv_at hl 0 rfl) ?_
    refine zj_icmp_le (tgt := 28) (pc' := 24) hC dX6_wins_21 (by decide) rfl (fun c6 => ?_) (fun c6 => ?_)
    · refine zj_iconst (pc' := 29) (v := (2 : Int32)) hC dX6_wins_28 rfl rfl ?_
      exact zj_iret hC dX6_wins_29
    · refine zj_iconst (pc' := 25) (v := (1 : Int32)) hC dX6_wins_24 rfl rfl ?_
      refine zj_goto (tgt := 29) hC dX6_wins_25 (by decide) ?_
      exact zj_iret hC dX6_wins_29
  · refine zj_iconst (pc' := 18) (v := (0 : Int32)) hC dX6_wins_17 rfl rfl ?_
    exact zj_iret hC dX6_wins_18
-- X6_nextPicks
theorem ddX6_nextPicks : yX6_nextPicks.cls ≠ "java/lang/invoke/MethodHandle" ∧ yX6_nextPicks.cls ≠ "java/lang/invoke/VarHandle" ∧ (parseMethodDescriptor yX6_nextPicks.desc).map (fun d => d.parameters.length) = some 1 := by decide +kernel
abbrev rmX6_nextPicks : Room := { frames := 1, cells := 0, slots := 0, locals := 20 }
def fX6_nextPicks (v0 : Int32) (σ : zS) : Option (Int32 × zS) :=
  if v0 = 0 then (some ((16777216 : Int32), σ)) else (bnd ((v0 &&& (-v0))) (fun (x2 : Int32) => bnd ((v0 + x2)) (fun (x3 : Int32) => zb (fJ6_bitCount_0f7a4 ((x2 - (1 : Int32))) σ) (fun (r5 : Int32) (σ4 : zS) => some ((x3 ||| ((v0 ^^^ x3) >>> ((r5 + (2 : Int32)) &&& 31))), σ4)))))
set_option maxRecDepth 100000 in
set_option maxHeartbeats 4000000 in
theorem kX6_nextPicks (l : Launch) (b0 : Nat) (cA : Nat → ClassId) (D : va_G) (L : List (Nat × Nat)) (v0 : Int32) (σ : zS)  : zMi l b0 cA D L yX6_nextPicks (Cond.code yX6_nextPicks cX6_nextPicks 4 (some Jvm.ClassFile.FieldType.int)) rmX6_nextPicks [.int v0] σ (fX6_nextPicks v0 σ) := by
  refine zMi_of (by decide) (Nat.le_of_ble_eq_true rfl) ?_
  intro p e s m below meth c ls hC hl
  have hl : lv_has ls 4 [(0, .int v0)] := hl
  generalize ([.int v0] : List Value).toArray = args at hC ⊢
  unfold fX6_nextPicks
  refine zj_iload_n (pc' := 1) hC dX6_nextPicks_0 rfl rfl (lv_at hl 0 rfl) ?_
  refine zj_if_ne (tgt := 8) (pc' := 4) hC dX6_nextPicks_1 (by decide) rfl (fun c1 => ?_) (fun c1 => ?_)
  · refine zj_iload_n (pc' := 9) hC dX6_nextPicks_8 rfl rfl (lv_at hl 0 rfl) ?_
    refine zj_iload_n (pc' := 10) hC dX6_nextPicks_9 rfl rfl (lv_at hl 0 rfl) ?_
    refine zj_ineg (pc' := 11) hC dX6_nextPicks_10 rfl ?_
    refine zj_iand (pc' := 12) hC dX6_nextPicks_11 rfl ?_
    refine zj_nmi (fun x2 => ?_)
    refine zj_istore_n (pc' := 13) (lv' := [(1, .int x2), (0, .int v0)]) hC dX6_nextPicks_12 rfl rfl hl (by decide) rfl (fun ls hl => ?_)
    refine zj_iload_n (pc' := 14) hC dX6_nextPicks_13 rfl rfl (lv_at hl 1 rfl) ?_
    refine zj_iload_n (pc' := 15) hC dX6_nextPicks_14 rfl rfl (lv_at hl 0 rfl) ?_
    refine zj_iadd (pc' := 16) hC dX6_nextPicks_15 rfl ?_
    refine zj_nmi (fun x3 => ?_)
    refine zj_istore_n (pc' := 17) (lv' := [(2, .int x3), (1, .int x2), (0, .int v0)]) hC dX6_nextPicks_16 rfl rfl hl (by decide) rfl (fun ls hl => ?_)
    refine zj_iload_n (pc' := 18) hC dX6_nextPicks_17 rfl rfl (lv_at hl 1 rfl) ?_
    refine zj_iconst (pc' := 19) (v := (1 : Int32)) hC dX6_nextPicks_18 rfl rfl ?_
    refine zj_isub (pc' := 20) hC dX6_nextPicks_19 rfl ?_
    refine zj_calliS (pc' := 23) (rest := []) hC (kJ6_bitCount_0f7a4 l b0 cA D L ((x2 - (1 : Int32))) σ ) tw_3_68 tw_3_119 tw_3_67 tw_1_15 ddJ6_bitCount_0f7a4 rfl ⟨rfl, rfl⟩ ⟨by decide, by decide⟩ hl.1 (Nat.le_of_ble_eq_true rfl) rfl dX6_nextPicks_20 rfl (fun r5 σ4 => ?_)
    refine zj_istore_n (pc' := 24) (lv' := [(3, .int r5), (2, .int x3), (1, .int x2), (0, .int v0)]) hC dX6_nextPicks_23 rfl rfl hl (by decide) rfl (fun ls hl => ?_)
    refine zj_iload_n (pc' := 25) hC dX6_nextPicks_24 rfl rfl (lv_at hl 1 rfl) ?_
    refine zj_iload_n (pc' := 26) hC dX6_nextPicks_25 rfl rfl (lv_at hl 3 rfl) ?_
    refine zj_iload_n (pc' := 27) hC dX6_nextPicks_26 rfl rfl (lv_at hl 1 rfl) ?_
    refine zj_ixor (pc' := 28) hC dX6_nextPicks_27 rfl ?_
    refine zj_iload_n (pc' := 29) hC dX6_nextPicks_28 rfl rfl (lv_at hl 0 rfl) ?_
    refine zj_iconst (pc' := 30) (v := (2 : Int32)) hC dX6_nextPicks_29 rfl rfl ?_
    refine zj_iadd (pc' := 31) hC dX6_nextPicks_30 rfl ?_
    refine zj_ishr (pc' := 32) hC dX6_nextPicks_31 rfl ?_
    refine zj_ior (pc' := 33) hC dX6_nextPicks_32 rfl ?_
    exact zj_iret hC dX6_nextPicks_33
  · refine zj_ldcw (pc' := 7) (v := (16777216 : Int32)) hC tw_3_164 dX6_nextPicks_4 rfl ?_
    exact zj_iret hC dX6_nextPicks_7
-- X6_spread
theorem ddX6_spread : yX6_spread.cls ≠ "java/lang/invoke/MethodHandle" ∧ yX6_spread.cls ≠ "java/lang/invoke/VarHandle" ∧ (parseMethodDescriptor yX6_spread.desc).map (fun d => d.parameters.length) = some 2 := by decide +kernel
abbrev rmX6_spread : Room := { frames := 0, cells := 0, slots := 0, locals := 0 }
def bX6_spread_44 (k7 : Int32 → Int32 → Int32 → Int32 → Int32 → zS → Option (Int32 × zS)) (v0 : Int32) (v1 : Int32) (v2 : Int32) (v3 : Int32) (v4 : Int32) (σ : zS) : Option (Int32 × zS) :=
  k7 v0 v1 v2 v3 ((v4 + (1 : Int32))) σ
def bX6_spread_41 (k44 : Int32 → Int32 → Int32 → Int32 → Int32 → zS → Option (Int32 × zS)) (v0 : Int32) (v1 : Int32) (v2 : Int32) (v3 : Int32) (v4 : Int32) (σ : zS) : Option (Int32 × zS) :=
  k44 v0 v1 v2 ((v3 + (1 : Int32))) v4 σ
def bX6_spread_7 (k7 : Int32 → Int32 → Int32 → Int32 → Int32 → zS → Option (Int32 × zS)) (v0 : Int32) (v1 : Int32) (v2 : Int32) (v3 : Int32) (v4 : Int32) (σ : zS) : Option (Int32 × zS) :=
  if (24 : Int32) ≤ v4 then (some (v2, σ)) else (if ((v1 >>> (v4 &&& 31)) &&& (1 : Int32)) = 0 then (bX6_spread_44 k7 v0 v1 v2 v3 v4 σ) else (if ((v0 >>> (v3 &&& 31)) &&& (1 : Int32)) = 0 then (bX6_spread_41 (bX6_spread_44 k7) v0 v1 v2 v3 v4 σ) else (bnd ((v2 ||| ((1 : Int32) <<< (v4 &&& 31)))) (fun (x4 : Int32) => bX6_spread_41 (bX6_spread_44 k7) v0 v1 x4 v3 v4 σ))))
def fX6_spread_7  : Nat → Int32 → Int32 → Int32 → Int32 → Int32 → zS → Option (Int32 × zS)
  | 0, _, _, _, _, _, _ => none
  | n + 1, v0, v1, v2, v3, v4, σ => bX6_spread_7 (fX6_spread_7  n) v0 v1 v2 v3 v4 σ
def fX6_spread (v0 : Int32) (v1 : Int32) (σ : zS) : Option (Int32 × zS) :=
  fX6_spread_7 zFU v0 v1 (0 : Int32) (0 : Int32) (0 : Int32) σ
set_option maxRecDepth 100000 in
set_option maxHeartbeats 4000000 in
theorem jX6_spread_44 {p : Program} {l : Launch} {e : Env} {s : State} {m : MethodId} {args : Array Value} {below : List Frame} {meth : Method} {c : Code} {b0 : Nat} {cA : Nat → ClassId} {D : va_G} {L : List (Nat × Nat)} (hC : zC p c s m args meth cX6_spread 5 (some Jvm.ClassFile.FieldType.int) (Cond.code yX6_spread cX6_spread 5 (some Jvm.ClassFile.FieldType.int)) yX6_spread.cls cA D) (k7 : Int32 → Int32 → Int32 → Int32 → Int32 → zS → Option (Int32 × zS)) (h7 : ∀ (v0 : Int32) (v1 : Int32) (v2 : Int32) (v3 : Int32) (v4 : Int32) (σ : zS) (ls : Array Slot), lv_has ls 5 [(0, .int v0), (1, .int v1), (2, .int v2), (3, .int v3), (4, .int v4)] → zJ p l e rmX6_spread s m args below meth c b0 cA D L (fun z => MQ below (va_Qi (fun (r : Int32) (u : zS) => (r, u) = z) (zB b0 cA D L) (zA b0 L)) args s 0 0 (zA b0 L)) (k7 v0 v1 v2 v3 v4 σ) σ 7 ls []) (v0 : Int32) (v1 : Int32) (v2 : Int32) (v3 : Int32) (v4 : Int32) (σ : zS) (ls : Array Slot)  (hl : lv_has ls 5 [(0, .int v0), (1, .int v1), (2, .int v2), (3, .int v3), (4, .int v4)]) : zJ p l e rmX6_spread s m args below meth c b0 cA D L (fun z => MQ below (va_Qi (fun (r : Int32) (u : zS) => (r, u) = z) (zB b0 cA D L) (zA b0 L)) args s 0 0 (zA b0 L)) (bX6_spread_44 k7 v0 v1 v2 v3 v4 σ) σ 44 ls [] := by
  unfold bX6_spread_44
  refine zj_iinc (pc' := 47) (k0 := 4) (v := (v4 + (1 : Int32))) (lv' := [(4, .int (v4 + (1 : Int32))), (0, .int v0), (1, .int v1), (2, .int v2), (3, .int v3)]) hC dX6_spread_44 rfl hl rfl rfl (by decide) rfl (fun ls hl => ?_)
  refine zj_goto (tgt := 7) hC dX6_spread_47 (by decide) ?_
  exact h7 v0 v1 v2 v3 ((v4 + (1 : Int32))) σ ls  (lv_sub hl [1, 2, 3, 4, 0] rfl)
set_option maxRecDepth 100000 in
set_option maxHeartbeats 4000000 in
theorem jX6_spread_41 {p : Program} {l : Launch} {e : Env} {s : State} {m : MethodId} {args : Array Value} {below : List Frame} {meth : Method} {c : Code} {b0 : Nat} {cA : Nat → ClassId} {D : va_G} {L : List (Nat × Nat)} (hC : zC p c s m args meth cX6_spread 5 (some Jvm.ClassFile.FieldType.int) (Cond.code yX6_spread cX6_spread 5 (some Jvm.ClassFile.FieldType.int)) yX6_spread.cls cA D) (k44 : Int32 → Int32 → Int32 → Int32 → Int32 → zS → Option (Int32 × zS)) (h44 : ∀ (v0 : Int32) (v1 : Int32) (v2 : Int32) (v3 : Int32) (v4 : Int32) (σ : zS) (ls : Array Slot), lv_has ls 5 [(0, .int v0), (1, .int v1), (2, .int v2), (3, .int v3), (4, .int v4)] → zJ p l e rmX6_spread s m args below meth c b0 cA D L (fun z => MQ below (va_Qi (fun (r : Int32) (u : zS) => (r, u) = z) (zB b0 cA D L) (zA b0 L)) args s 0 0 (zA b0 L)) (k44 v0 v1 v2 v3 v4 σ) σ 44 ls []) (v0 : Int32) (v1 : Int32) (v2 : Int32) (v3 : Int32) (v4 : Int32) (σ : zS) (ls : Array Slot)  (hl : lv_has ls 5 [(0, .int v0), (1, .int v1), (2, .int v2), (3, .int v3), (4, .int v4)]) : zJ p l e rmX6_spread s m args below meth c b0 cA D L (fun z => MQ below (va_Qi (fun (r : Int32) (u : zS) => (r, u) = z) (zB b0 cA D L) (zA b0 L)) args s 0 0 (zA b0 L)) (bX6_spread_41 k44 v0 v1 v2 v3 v4 σ) σ 41 ls [] := by
  unfold bX6_spread_41
  refine zj_iinc (pc' := 44) (k0 := 3) (v := (v3 + (1 : Int32))) (lv' := [(3, .int (v3 + (1 : Int32))), (0, .int v0), (1, .int v1), (2, .int v2), (4, .int v4)]) hC dX6_spread_41 rfl hl rfl rfl (by decide) rfl (fun ls hl => ?_)
  exact h44 v0 v1 v2 ((v3 + (1 : Int32))) v4 σ ls  (lv_sub hl [1, 2, 3, 0, 4] rfl)
set_option maxRecDepth 100000 in
set_option maxHeartbeats 4000000 in
theorem jX6_spread_7 {p : Program} {l : Launch} {e : Env} {s : State} {m : MethodId} {args : Array Value} {below : List Frame} {meth : Method} {c : Code} {b0 : Nat} {cA : Nat → ClassId} {D : va_G} {L : List (Nat × Nat)} (hC : zC p c s m args meth cX6_spread 5 (some Jvm.ClassFile.FieldType.int) (Cond.code yX6_spread cX6_spread 5 (some Jvm.ClassFile.FieldType.int)) yX6_spread.cls cA D) (k7 : Int32 → Int32 → Int32 → Int32 → Int32 → zS → Option (Int32 × zS)) (h7 : ∀ (v0 : Int32) (v1 : Int32) (v2 : Int32) (v3 : Int32) (v4 : Int32) (σ : zS) (ls : Array Slot), lv_has ls 5 [(0, .int v0), (1, .int v1), (2, .int v2), (3, .int v3), (4, .int v4)] → zJ p l e rmX6_spread s m args below meth c b0 cA D L (fun z => MQ below (va_Qi (fun (r : Int32) (u : zS) => (r, u) = z) (zB b0 cA D L) (zA b0 L)) args s 0 0 (zA b0 L)) (k7 v0 v1 v2 v3 v4 σ) σ 7 ls []) (v0 : Int32) (v1 : Int32) (v2 : Int32) (v3 : Int32) (v4 : Int32) (σ : zS) (ls : Array Slot)  (hl : lv_has ls 5 [(0, .int v0), (1, .int v1), (2, .int v2), (3, .int v3), (4, .int v4)]) : zJ p l e rmX6_spread s m args below meth c b0 cA D L (fun z => MQ below (va_Qi (fun (r : Int32) (u : zS) => (r, u) = z) (zB b0 cA D L) (zA b0 L)) args s 0 0 (zA b0 L)) (bX6_spread_7 k7 v0 v1 v2 v3 v4 σ) σ 7 ls [] := by
  unfold bX6_spread_7
  refine zj_iload (pc' := 9) hC dX6_spread_7 rfl (lv_at hl 4 rfl) ?_
  refine zj_bipush (pc' := 11) (v := (24 : Int32)) hC dX6_spread_9 rfl rfl ?_
  refine zj_icmp_ge (tgt := 50) (pc' := 14) hC dX6_spread_11 (by decide) rfl (fun c1 => ?_) (fun c1 => ?_)
  · refine zj_iload_n (pc' := 51) hC dX6_spread_50 rfl rfl (lv_at hl 2 rfl) ?_
    exact zj_iret hC dX6_spread_51
  · refine zj_iload_n (pc' := 15) hC dX6_spread_14 rfl rfl (lv_at hl 1 rfl) ?_
    refine zj_iload (pc' := 17) hC dX6_spread_15 rfl (lv_at hl 4 rfl) ?_
    refine zj_ishr (pc' := 18) hC dX6_spread_17 rfl ?_
    refine zj_iconst (pc' := 19) (v := (1 : Int32)) hC dX6_spread_18 rfl rfl ?_
    refine zj_iand (pc' := 20) hC dX6_spread_19 rfl ?_
    refine zj_if_ne (tgt := 26) (pc' := 23) hC dX6_spread_20 (by decide) rfl (fun c2 => ?_) (fun c2 => ?_)
    · refine zj_iload_n (pc' := 27) hC dX6_spread_26 rfl rfl (lv_at hl 0 rfl) ?_
      refine zj_iload_n (pc' := 28) hC dX6_spread_27 rfl rfl (lv_at hl 3 rfl) ?_
      refine zj_ishr (pc' := 29) hC dX6_spread_28 rfl ?_
      refine zj_iconst (pc' := 30) (v := (1 : Int32)) hC dX6_spread_29 rfl rfl ?_
      refine zj_iand (pc' := 31) hC dX6_spread_30 rfl ?_
      refine zj_if_eq (tgt := 41) (pc' := 34) hC dX6_spread_31 (by decide) rfl (fun c3 => ?_) (fun c3 => ?_)
      · exact jX6_spread_41 hC (bX6_spread_44 k7) (jX6_spread_44 hC k7 h7) v0 v1 v2 v3 v4 σ ls  (lv_sub hl [0, 1, 2, 3, 4] rfl)
      · refine zj_iload_n (pc' := 35) hC dX6_spread_34 rfl rfl (lv_at hl 2 rfl) ?_
        refine zj_iconst (pc' := 36) (v := (1 : Int32)) hC dX6_spread_35 rfl rfl ?_
        refine zj_iload (pc' := 38) hC dX6_spread_36 rfl (lv_at hl 4 rfl) ?_
        refine zj_ishl (pc' := 39) hC dX6_spread_38 rfl ?_
        refine zj_ior (pc' := 40) hC dX6_spread_39 rfl ?_
        refine zj_nmi (fun x4 => ?_)
        refine zj_istore_n (pc' := 41) (lv' := [(2, .int x4), (0, .int v0), (1, .int v1), (3, .int v3), (4, .int v4)]) hC dX6_spread_40 rfl rfl hl (by decide) rfl (fun ls hl => ?_)
        exact jX6_spread_41 hC (bX6_spread_44 k7) (jX6_spread_44 hC k7 h7) v0 v1 x4 v3 v4 σ ls  (lv_sub hl [1, 2, 0, 3, 4] rfl)
    · refine zj_goto (tgt := 44) hC dX6_spread_23 (by decide) ?_
      exact jX6_spread_44 hC k7 h7 v0 v1 v2 v3 v4 σ ls  (lv_sub hl [0, 1, 2, 3, 4] rfl)
set_option maxRecDepth 100000 in
set_option maxHeartbeats 4000000 in
theorem lX6_spread_7 {p : Program} {l : Launch} {e : Env} {s : State} {m : MethodId} {args : Array Value} {below : List Frame} {meth : Method} {c : Code} {b0 : Nat} {cA : Nat → ClassId} {D : va_G} {L : List (Nat × Nat)} (hC : zC p c s m args meth cX6_spread 5 (some Jvm.ClassFile.FieldType.int) (Cond.code yX6_spread cX6_spread 5 (some Jvm.ClassFile.FieldType.int)) yX6_spread.cls cA D)  (n : Nat) : ∀ (v0 : Int32) (v1 : Int32) (v2 : Int32) (v3 : Int32) (v4 : Int32) (σ : zS) (ls : Array Slot), lv_has ls 5 [(0, .int v0), (1, .int v1), (2, .int v2), (3, .int v3), (4, .int v4)] → zJ p l e rmX6_spread s m args below meth c b0 cA D L (fun z => MQ below (va_Qi (fun (r : Int32) (u : zS) => (r, u) = z) (zB b0 cA D L) (zA b0 L)) args s 0 0 (zA b0 L)) (fX6_spread_7  n v0 v1 v2 v3 v4 σ) σ 7 ls [] := by
  induction n with
  | zero => intros; exact zj_none
  | succ n ih => exact jX6_spread_7 hC (fX6_spread_7  n) ih
set_option maxRecDepth 100000 in
set_option maxHeartbeats 4000000 in
theorem kX6_spread (l : Launch) (b0 : Nat) (cA : Nat → ClassId) (D : va_G) (L : List (Nat × Nat)) (v0 : Int32) (v1 : Int32) (σ : zS)  : zMi l b0 cA D L yX6_spread (Cond.code yX6_spread cX6_spread 5 (some Jvm.ClassFile.FieldType.int)) rmX6_spread [.int v0, .int v1] σ (fX6_spread v0 v1 σ) := by
  refine zMi_of (by decide) (Nat.le_of_ble_eq_true rfl) ?_
  intro p e s m below meth c ls hC hl
  have hl : lv_has ls 5 [(0, .int v0), (1, .int v1)] := hl
  generalize ([.int v0, .int v1] : List Value).toArray = args at hC ⊢
  unfold fX6_spread
  refine zj_iconst (pc' := 1) (v := (0 : Int32)) hC dX6_spread_0 rfl rfl ?_
  refine zj_istore_n (pc' := 2) (lv' := [(2, .int (0 : Int32)), (0, .int v0), (1, .int v1)]) hC dX6_spread_1 rfl rfl hl (by decide) rfl (fun ls hl => ?_)
  refine zj_iconst (pc' := 3) (v := (0 : Int32)) hC dX6_spread_2 rfl rfl ?_
  refine zj_istore_n (pc' := 4) (lv' := [(3, .int (0 : Int32)), (2, .int (0 : Int32)), (0, .int v0), (1, .int v1)]) hC dX6_spread_3 rfl rfl hl (by decide) rfl (fun ls hl => ?_)
  refine zj_iconst (pc' := 5) (v := (0 : Int32)) hC dX6_spread_4 rfl rfl ?_
  refine zj_istore (pc' := 7) (lv' := [(4, .int (0 : Int32)), (3, .int (0 : Int32)), (2, .int (0 : Int32)), (0, .int v0), (1, .int v1)]) hC dX6_spread_5 rfl hl (by decide) rfl (fun ls hl => ?_)
  exact lX6_spread_7 hC zFU v0 v1 (0 : Int32) (0 : Int32) (0 : Int32) σ ls  (lv_sub hl [3, 4, 2, 1, 0] rfl)
-- X6_bestSet
theorem ddX6_bestSet : yX6_bestSet.cls ≠ "java/lang/invoke/MethodHandle" ∧ yX6_bestSet.cls ≠ "java/lang/invoke/VarHandle" ∧ (parseMethodDescriptor yX6_bestSet.desc).map (fun d => d.parameters.length) = some 2 := by decide +kernel
abbrev rmX6_bestSet : Room := { frames := 6, cells := 0, slots := 0, locals := 143 }
def bX6_bestSet_129 (k73 : Nat → Int32 → Int32 → Int32 → Int32 → Int32 → Int32 → Int32 → Int32 → zS → Option (Int32 × zS)) (v0 : Nat) (v1 : Int32) (v3 : Int32) (v4 : Int32) (v5 : Int32) (v6 : Int32) (v7 : Int32) (v8 : Int32) (v9 : Int32) (σ : zS) : Option (Int32 × zS) :=
  zb (fX6_nextPicks v8 σ) (fun (r2 : Int32) (σ1 : zS) => k73 v0 v1 v3 v4 v5 v6 v7 r2 ((v9 + (1 : Int32))) σ1)
def bX6_bestSet_121 (k129 : Nat → Int32 → Int32 → Int32 → Int32 → Int32 → Int32 → Int32 → Int32 → zS → Option (Int32 × zS)) (v0 : Nat) (v1 : Int32) (v3 : Int32) (v4 : Int32) (v5 : Int32) (v8 : Int32) (v9 : Int32) (v10 : Int32) (v11 : Int32) (σ : zS) : Option (Int32 × zS) :=
  k129 v0 v1 v3 v4 v5 v10 v11 v8 v9 σ
def bX6_bestSet_73 (k73 : Nat → Int32 → Int32 → Int32 → Int32 → Int32 → Int32 → Int32 → Int32 → zS → Option (Int32 × zS)) (v0 : Nat) (v1 : Int32) (v3 : Int32) (v4 : Int32) (v5 : Int32) (v6 : Int32) (v7 : Int32) (v8 : Int32) (v9 : Int32) (σ : zS) : Option (Int32 × zS) :=
  if (3000 : Int32) ≤ v9 then (some (v6, σ)) else (if v4 ≤ v8 then (some (v6, σ)) else (zb (fX6_spread v8 v3 σ) (fun (r6 : Int32) (σ5 : zS) => zb (fX6_houseWith v0 v1 r6 σ5) (fun (r8 : Int32) (σ7 : zS) => bnd ((v5 * r8)) (fun (x9 : Int32) => if v6 = (-1 : Int32) then (bX6_bestSet_121 (bX6_bestSet_129 k73) v0 v1 v3 v4 v5 v8 v9 r6 x9 σ7) else (if x9 ≤ v7 then (bX6_bestSet_129 k73 v0 v1 v3 v4 v5 v6 v7 v8 v9 σ7) else (bX6_bestSet_121 (bX6_bestSet_129 k73) v0 v1 v3 v4 v5 v8 v9 r6 x9 σ7)))))))
def fX6_bestSet_73  : Nat → Nat → Int32 → Int32 → Int32 → Int32 → Int32 → Int32 → Int32 → Int32 → zS → Option (Int32 × zS)
  | 0, _, _, _, _, _, _, _, _, _, _ => none
  | n + 1, v0, v1, v3, v4, v5, v6, v7, v8, v9, σ => bX6_bestSet_73 (fX6_bestSet_73  n) v0 v1 v3 v4 v5 v6 v7 v8 v9 σ
def bX6_bestSet_55  (v0 : Nat) (v1 : Int32) (v2 : Int32) (v3 : Int32) (v4 : Int32) (s0 : Int32) (σ : zS) : Option (Int32 × zS) :=
  bnd ((((1 : Int32) <<< (v2 &&& 31)) - (1 : Int32))) (fun (x12 : Int32) => fX6_bestSet_73 zFU v0 v1 v3 v4 s0 (-1 : Int32) (0 : Int32) x12 (0 : Int32) σ)
def fX6_bestSet (v0 : Nat) (v1 : Int32) (v2 : Int32) (σ : zS) : Option (Int32 × zS) :=
  bnd (σ.2 v0 0) (fun (q13 : Nat) => bnd (σ.2 q13 0) (fun (q14 : Nat) => bnd (σ.2 v0 0) (fun (q15 : Nat) => bnd (σ.2 q15 0) (fun (q16 : Nat) => zb (fX2_paidBy q16 (((3 : Int32) - v1)) σ) (fun (r18 : Int32) (σ17 : zS) => bnd (((σ.1 q14 1) &&& (r18 ^^^ (-1 : Int32)))) (fun (x19 : Int32) => zb (fJ6_bitCount_0f7a4 x19 σ17) (fun (r21 : Int32) (σ20 : zS) => bnd (((1 : Int32) <<< (r21 &&& 31))) (fun (x22 : Int32) => zb (fX6_planned v0 v1 (2 : Int32) σ20) (fun (r24 : Int32) (σ23 : zS) => zb (fX6_planned v0 v1 (1 : Int32) σ23) (fun (r26 : Int32) (σ25 : zS) => if r24 ≤ r26 then (bX6_bestSet_55 v0 v1 v2 x19 x22 (1 : Int32) σ25) else (bX6_bestSet_55 v0 v1 v2 x19 x22 (-1 : Int32) σ25)))))))))))
set_option maxRecDepth 100000 in
set_option maxHeartbeats 4000000 in
theorem jX6_bestSet_129 {p : Program} {l : Launch} {e : Env} {s : State} {m : MethodId} {args : Array Value} {below : List Frame} {meth : Method} {c : Code} {b0 : Nat} {cA : Nat → ClassId} {D : va_G} {L : List (Nat × Nat)} (hC : zC p c s m args meth cX6_bestSet 12 (some Jvm.ClassFile.FieldType.int) (Cond.code yX6_bestSet cX6_bestSet 12 (some Jvm.ClassFile.FieldType.int)) yX6_bestSet.cls cA D) (k73 : Nat → Int32 → Int32 → Int32 → Int32 → Int32 → Int32 → Int32 → Int32 → zS → Option (Int32 × zS)) (h73 : ∀ (v0 : Nat) (v1 : Int32) (v3 : Int32) (v4 : Int32) (v5 : Int32) (v6 : Int32) (v7 : Int32) (v8 : Int32) (v9 : Int32) (σ : zS) (ls : Array Slot), L[v0]? = some (0, 6) → lv_has ls 12 [(0, .ref (b0 + v0)), (1, .int v1), (3, .int v3), (4, .int v4), (5, .int v5), (6, .int v6), (7, .int v7), (8, .int v8), (9, .int v9)] → zJ p l e rmX6_bestSet s m args below meth c b0 cA D L (fun z => MQ below (va_Qi (fun (r : Int32) (u : zS) => (r, u) = z) (zB b0 cA D L) (zA b0 L)) args s 0 0 (zA b0 L)) (k73 v0 v1 v3 v4 v5 v6 v7 v8 v9 σ) σ 73 ls []) (v0 : Nat) (v1 : Int32) (v3 : Int32) (v4 : Int32) (v5 : Int32) (v6 : Int32) (v7 : Int32) (v8 : Int32) (v9 : Int32) (σ : zS) (ls : Array Slot) (hk_v0 : L[v0]? = some (0, 6)) (hl : lv_has ls 12 [(0, .ref (b0 + v0)), (1, .int v1), (3, .int v3), (4, .int v4), (5, .int v5), (6, .int v6), (7, .int v7), (8, .int v8), (9, .int v9)]) : zJ p l e rmX6_bestSet s m args below meth c b0 cA D L (fun z => MQ below (va_Qi (fun (r : Int32) (u : zS) => (r, u) = z) (zB b0 cA D L) (zA b0 L)) args s 0 0 (zA b0 L)) (bX6_bestSet_129 k73 v0 v1 v3 v4 v5 v6 v7 v8 v9 σ) σ 129 ls [] := by
  unfold bX6_bestSet_129
  refine zj_iload (pc' := 131) hC dX6_bestSet_129 rfl (lv_at hl 7 rfl) ?_
  refine zj_calliS (pc' := 134) (rest := []) hC (kX6_nextPicks l b0 cA D L v8 σ ) tw_3_163 tw_3_161 tw_3_162 tw_1_1 ddX6_nextPicks rfl ⟨rfl, rfl⟩ ⟨by decide, by decide⟩ hl.1 (Nat.le_of_ble_eq_true rfl) rfl dX6_bestSet_131 rfl (fun r2 σ1 => ?_)
  refine zj_istore (pc' := 136) (lv' := [(8, .int r2), (0, .ref (b0 + v0)), (1, .int v1), (3, .int v3), (4, .int v4), (5, .int v5), (6, .int v6), (7, .int v7), (9, .int v9)]) hC dX6_bestSet_134 rfl hl (by decide) rfl (fun ls hl => ?_)
  refine zj_iinc (pc' := 139) (k0 := 8) (v := (v9 + (1 : Int32))) (lv' := [(9, .int (v9 + (1 : Int32))), (8, .int r2), (0, .ref (b0 + v0)), (1, .int v1), (3, .int v3), (4, .int v4), (5, .int v5), (6, .int v6), (7, .int v7)]) hC dX6_bestSet_136 rfl hl rfl rfl (by decide) rfl (fun ls hl => ?_)
  refine zj_goto (tgt := 73) hC dX6_bestSet_139 (by decide) ?_
  exact h73 v0 v1 v3 v4 v5 v6 v7 r2 ((v9 + (1 : Int32))) σ1 ls hk_v0 (lv_sub hl [2, 3, 4, 5, 6, 7, 8, 1, 0] rfl)
set_option maxRecDepth 100000 in
set_option maxHeartbeats 4000000 in
theorem jX6_bestSet_121 {p : Program} {l : Launch} {e : Env} {s : State} {m : MethodId} {args : Array Value} {below : List Frame} {meth : Method} {c : Code} {b0 : Nat} {cA : Nat → ClassId} {D : va_G} {L : List (Nat × Nat)} (hC : zC p c s m args meth cX6_bestSet 12 (some Jvm.ClassFile.FieldType.int) (Cond.code yX6_bestSet cX6_bestSet 12 (some Jvm.ClassFile.FieldType.int)) yX6_bestSet.cls cA D) (k129 : Nat → Int32 → Int32 → Int32 → Int32 → Int32 → Int32 → Int32 → Int32 → zS → Option (Int32 × zS)) (h129 : ∀ (v0 : Nat) (v1 : Int32) (v3 : Int32) (v4 : Int32) (v5 : Int32) (v6 : Int32) (v7 : Int32) (v8 : Int32) (v9 : Int32) (σ : zS) (ls : Array Slot), L[v0]? = some (0, 6) → lv_has ls 12 [(0, .ref (b0 + v0)), (1, .int v1), (3, .int v3), (4, .int v4), (5, .int v5), (6, .int v6), (7, .int v7), (8, .int v8), (9, .int v9)] → zJ p l e rmX6_bestSet s m args below meth c b0 cA D L (fun z => MQ below (va_Qi (fun (r : Int32) (u : zS) => (r, u) = z) (zB b0 cA D L) (zA b0 L)) args s 0 0 (zA b0 L)) (k129 v0 v1 v3 v4 v5 v6 v7 v8 v9 σ) σ 129 ls []) (v0 : Nat) (v1 : Int32) (v3 : Int32) (v4 : Int32) (v5 : Int32) (v8 : Int32) (v9 : Int32) (v10 : Int32) (v11 : Int32) (σ : zS) (ls : Array Slot) (hk_v0 : L[v0]? = some (0, 6)) (hl : lv_has ls 12 [(0, .ref (b0 + v0)), (1, .int v1), (3, .int v3), (4, .int v4), (5, .int v5), (8, .int v8), (9, .int v9), (10, .int v10), (11, .int v11)]) : zJ p l e rmX6_bestSet s m args below meth c b0 cA D L (fun z => MQ below (va_Qi (fun (r : Int32) (u : zS) => (r, u) = z) (zB b0 cA D L) (zA b0 L)) args s 0 0 (zA b0 L)) (bX6_bestSet_121 k129 v0 v1 v3 v4 v5 v8 v9 v10 v11 σ) σ 121 ls [] := by
  unfold bX6_bestSet_121
  refine zj_iload (pc' := 123) hC dX6_bestSet_121 rfl (lv_at hl 7 rfl) ?_
  refine zj_istore (pc' := 125) (lv' := [(6, .int v10), (0, .ref (b0 + v0)), (1, .int v1), (3, .int v3), (4, .int v4), (5, .int v5), (8, .int v8), (9, .int v9), (10, .int v10), (11, .int v11)]) hC dX6_bestSet_123 rfl hl (by decide) rfl (fun ls hl => ?_)
  refine zj_iload (pc' := 127) hC dX6_bestSet_125 rfl (lv_at hl 9 rfl) ?_
  refine zj_istore (pc' := 129) (lv' := [(7, .int v11), (6, .int v10), (0, .ref (b0 + v0)), (1, .int v1), (3, .int v3), (4, .int v4), (5, .int v5), (8, .int v8), (9, .int v9), (10, .int v10), (11, .int v11)]) hC dX6_bestSet_127 rfl hl (by decide) rfl (fun ls hl => ?_)
  exact h129 v0 v1 v3 v4 v5 v10 v11 v8 v9 σ ls hk_v0 (lv_sub hl [2, 3, 4, 5, 6, 1, 0, 7, 8] rfl)
set_option maxRecDepth 100000 in
set_option maxHeartbeats 4000000 in
theorem jX6_bestSet_73 {p : Program} {l : Launch} {e : Env} {s : State} {m : MethodId} {args : Array Value} {below : List Frame} {meth : Method} {c : Code} {b0 : Nat} {cA : Nat → ClassId} {D : va_G} {L : List (Nat × Nat)} (hC : zC p c s m args meth cX6_bestSet 12 (some Jvm.ClassFile.FieldType.int) (Cond.code yX6_bestSet cX6_bestSet 12 (some Jvm.ClassFile.FieldType.int)) yX6_bestSet.cls cA D) (k73 : Nat → Int32 → Int32 → Int32 → Int32 → Int32 → Int32 → Int32 → Int32 → zS → Option (Int32 × zS)) (h73 : ∀ (v0 : Nat) (v1 : Int32) (v3 : Int32) (v4 : Int32) (v5 : Int32) (v6 : Int32) (v7 : Int32) (v8 : Int32) (v9 : Int32) (σ : zS) (ls : Array Slot), L[v0]? = some (0, 6) → lv_has ls 12 [(0, .ref (b0 + v0)), (1, .int v1), (3, .int v3), (4, .int v4), (5, .int v5), (6, .int v6), (7, .int v7), (8, .int v8), (9, .int v9)] → zJ p l e rmX6_bestSet s m args below meth c b0 cA D L (fun z => MQ below (va_Qi (fun (r : Int32) (u : zS) => (r, u) = z) (zB b0 cA D L) (zA b0 L)) args s 0 0 (zA b0 L)) (k73 v0 v1 v3 v4 v5 v6 v7 v8 v9 σ) σ 73 ls []) (v0 : Nat) (v1 : Int32) (v3 : Int32) (v4 : Int32) (v5 : Int32) (v6 : Int32) (v7 : Int32) (v8 : Int32) (v9 : Int32) (σ : zS) (ls : Array Slot) (hk_v0 : L[v0]? = some (0, 6)) (hl : lv_has ls 12 [(0, .ref (b0 + v0)), (1, .int v1), (3, .int v3), (4, .int v4), (5, .int v5), (6, .int v6), (7, .int v7), (8, .int v8), (9, .int v9)]) : zJ p l e rmX6_bestSet s m args below meth c b0 cA D L (fun z => MQ below (va_Qi (fun (r : Int32) (u : zS) => (r, u) = z) (zB b0 cA D L) (zA b0 L)) args s 0 0 (zA b0 L)) (bX6_bestSet_73 k73 v0 v1 v3 v4 v5 v6 v7 v8 v9 σ) σ 73 ls [] := by
  unfold bX6_bestSet_73
  refine zj_iload (pc' := 75) hC dX6_bestSet_73 rfl (lv_at hl 8 rfl) ?_
  refine zj_sipush (pc' := 78) (v := (3000 : Int32)) hC dX6_bestSet_75 rfl rfl ?_
  refine zj_icmp_ge (tgt := 142) (pc' := 81) hC dX6_bestSet_78 (by decide) rfl (fun c3 => ?_) (fun c3 => ?_)
  · refine zj_iload (pc' := 144) hC dX6_bestSet_142 rfl (lv_at hl 5 rfl) ?_
    exact zj_iret hC dX6_bestSet_144
  · refine zj_iload (pc' := 83) hC dX6_bestSet_81 rfl (lv_at hl 7 rfl) ?_
    refine zj_iload (pc' := 85) hC dX6_bestSet_83 rfl (lv_at hl 3 rfl) ?_
    refine zj_icmp_ge (tgt := 142) (pc' := 88) hC dX6_bestSet_85 (by decide) rfl (fun c4 => ?_) (fun c4 => ?_)
    · refine zj_iload (pc' := 144) hC dX6_bestSet_142 rfl (lv_at hl 5 rfl) ?_
      exact zj_iret hC dX6_bestSet_144
    · refine zj_iload (pc' := 90) hC dX6_bestSet_88 rfl (lv_at hl 7 rfl) ?_
      refine zj_iload_n (pc' := 91) hC dX6_bestSet_90 rfl rfl (lv_at hl 2 rfl) ?_
      refine zj_calliS (pc' := 94) (rest := []) hC (kX6_spread l b0 cA D L v8 v3 σ ) tw_3_160 tw_3_158 tw_3_159 tw_1_1 ddX6_spread rfl ⟨rfl, rfl⟩ ⟨by decide, by decide⟩ hl.1 (Nat.le_of_ble_eq_true rfl) rfl dX6_bestSet_91 rfl (fun r6 σ5 => ?_)
      refine zj_istore (pc' := 96) (lv' := [(10, .int r6), (0, .ref (b0 + v0)), (1, .int v1), (3, .int v3), (4, .int v4), (5, .int v5), (6, .int v6), (7, .int v7), (8, .int v8), (9, .int v9)]) hC dX6_bestSet_94 rfl hl (by decide) rfl (fun ls hl => ?_)
      refine zj_iload (pc' := 98) hC dX6_bestSet_96 rfl (lv_at hl 5 rfl) ?_
      refine zj_aload_n (pc' := 99) hC dX6_bestSet_98 rfl rfl (lv_at hl 1 rfl) ?_
      refine zj_iload_n (pc' := 100) hC dX6_bestSet_99 rfl rfl (lv_at hl 2 rfl) ?_
      refine zj_iload (pc' := 102) hC dX6_bestSet_100 rfl (lv_at hl 0 rfl) ?_
      refine zj_calliV (pc' := 105) (rest := [.int v5]) hC (kX6_houseWith l b0 cA D L v0 v1 r6 σ5 hk_v0) hk_v0 rfl tw_3_131 tw_3_128 tw_3_130 ts_2_10 tw_1_1 ddX6_houseWith rfl ⟨rfl, rfl⟩ ⟨by decide, by decide⟩ hl.1 (Nat.le_of_ble_eq_true rfl) rfl dX6_bestSet_102 rfl (fun r8 σ7 => ?_)
      refine zj_imul (pc' := 106) hC dX6_bestSet_105 rfl ?_
      refine zj_nmi (fun x9 => ?_)
      refine zj_istore (pc' := 108) (lv' := [(11, .int x9), (10, .int r6), (0, .ref (b0 + v0)), (1, .int v1), (3, .int v3), (4, .int v4), (5, .int v5), (6, .int v6), (7, .int v7), (8, .int v8), (9, .int v9)]) hC dX6_bestSet_106 rfl hl (by decide) rfl (fun ls hl => ?_)
      refine zj_iload (pc' := 110) hC dX6_bestSet_108 rfl (lv_at hl 7 rfl) ?_
      refine zj_iconst (pc' := 111) (v := (-1 : Int32)) hC dX6_bestSet_110 rfl rfl ?_
      refine zj_icmp_eq (tgt := 121) (pc' := 114) hC dX6_bestSet_111 (by decide) rfl (fun c10 => ?_) (fun c10 => ?_)
      · exact jX6_bestSet_121 hC (bX6_bestSet_129 k73) (jX6_bestSet_129 hC k73 h73) v0 v1 v3 v4 v5 v8 v9 r6 x9 σ7 ls hk_v0 (lv_sub hl [2, 3, 4, 5, 6, 9, 10, 1, 0] rfl)
      · refine zj_iload (pc' := 116) hC dX6_bestSet_114 rfl (lv_at hl 0 rfl) ?_
        refine zj_iload (pc' := 118) hC dX6_bestSet_116 rfl (lv_at hl 8 rfl) ?_
        refine zj_icmp_le (tgt := 129) (pc' := 121) hC dX6_bestSet_118 (by decide) rfl (fun c11 => ?_) (fun c11 => ?_)
        · exact jX6_bestSet_129 hC k73 h73 v0 v1 v3 v4 v5 v6 v7 v8 v9 σ7 ls hk_v0 (lv_sub hl [2, 3, 4, 5, 6, 7, 8, 9, 10] rfl)
        · exact jX6_bestSet_121 hC (bX6_bestSet_129 k73) (jX6_bestSet_129 hC k73 h73) v0 v1 v3 v4 v5 v8 v9 r6 x9 σ7 ls hk_v0 (lv_sub hl [2, 3, 4, 5, 6, 9, 10, 1, 0] rfl)
set_option maxRecDepth 100000 in
set_option maxHeartbeats 4000000 in
theorem lX6_bestSet_73 {p : Program} {l : Launch} {e : Env} {s : State} {m : MethodId} {args : Array Value} {below : List Frame} {meth : Method} {c : Code} {b0 : Nat} {cA : Nat → ClassId} {D : va_G} {L : List (Nat × Nat)} (hC : zC p c s m args meth cX6_bestSet 12 (some Jvm.ClassFile.FieldType.int) (Cond.code yX6_bestSet cX6_bestSet 12 (some Jvm.ClassFile.FieldType.int)) yX6_bestSet.cls cA D)  (n : Nat) : ∀ (v0 : Nat) (v1 : Int32) (v3 : Int32) (v4 : Int32) (v5 : Int32) (v6 : Int32) (v7 : Int32) (v8 : Int32) (v9 : Int32) (σ : zS) (ls : Array Slot), L[v0]? = some (0, 6) → lv_has ls 12 [(0, .ref (b0 + v0)), (1, .int v1), (3, .int v3), (4, .int v4), (5, .int v5), (6, .int v6), (7, .int v7), (8, .int v8), (9, .int v9)] → zJ p l e rmX6_bestSet s m args below meth c b0 cA D L (fun z => MQ below (va_Qi (fun (r : Int32) (u : zS) => (r, u) = z) (zB b0 cA D L) (zA b0 L)) args s 0 0 (zA b0 L)) (fX6_bestSet_73  n v0 v1 v3 v4 v5 v6 v7 v8 v9 σ) σ 73 ls [] := by
  induction n with
  | zero => intros; exact zj_none
  | succ n ih => exact jX6_bestSet_73 hC (fX6_bestSet_73  n) ih
set_option maxRecDepth 100000 in
set_option maxHeartbeats 4000000 in
theorem jX6_bestSet_55 {p : Program} {l : Launch} {e : Env} {s : State} {m : MethodId} {args : Array Value} {below : List Frame} {meth : Method} {c : Code} {b0 : Nat} {cA : Nat → ClassId} {D : va_G} {L : List (Nat × Nat)} (hC : zC p c s m args meth cX6_bestSet 12 (some Jvm.ClassFile.FieldType.int) (Cond.code yX6_bestSet cX6_bestSet 12 (some Jvm.ClassFile.FieldType.int)) yX6_bestSet.cls cA D)  (v0 : Nat) (v1 : Int32) (v2 : Int32) (v3 : Int32) (v4 : Int32) (s0 : Int32) (σ : zS) (ls : Array Slot) (hk_v0 : L[v0]? = some (0, 6)) (hl : lv_has ls 12 [(0, .ref (b0 + v0)), (1, .int v1), (2, .int v2), (3, .int v3), (4, .int v4)]) : zJ p l e rmX6_bestSet s m args below meth c b0 cA D L (fun z => MQ below (va_Qi (fun (r : Int32) (u : zS) => (r, u) = z) (zB b0 cA D L) (zA b0 L)) args s 0 0 (zA b0 L)) (bX6_bestSet_55  v0 v1 v2 v3 v4 s0 σ) σ 55 ls [.int s0] := by
  unfold bX6_bestSet_55
  refine zj_istore (pc' := 57) (lv' := [(5, .int s0), (0, .ref (b0 + v0)), (1, .int v1), (2, .int v2), (3, .int v3), (4, .int v4)]) hC dX6_bestSet_55 rfl hl (by decide) rfl (fun ls hl => ?_)
  refine zj_iconst (pc' := 58) (v := (-1 : Int32)) hC dX6_bestSet_57 rfl rfl ?_
  refine zj_istore (pc' := 60) (lv' := [(6, .int (-1 : Int32)), (5, .int s0), (0, .ref (b0 + v0)), (1, .int v1), (2, .int v2), (3, .int v3), (4, .int v4)]) hC dX6_bestSet_58 rfl hl (by decide) rfl (fun ls hl => ?_)
  refine zj_iconst (pc' := 61) (v := (0 : Int32)) hC dX6_bestSet_60 rfl rfl ?_
  refine zj_istore (pc' := 63) (lv' := [(7, .int (0 : Int32)), (6, .int (-1 : Int32)), (5, .int s0), (0, .ref (b0 + v0)), (1, .int v1), (2, .int v2), (3, .int v3), (4, .int v4)]) hC dX6_bestSet_61 rfl hl (by decide) rfl (fun ls hl => ?_)
  refine zj_iconst (pc' := 64) (v := (1 : Int32)) hC dX6_bestSet_63 rfl rfl ?_
  refine zj_iload_n (pc' := 65) hC dX6_bestSet_64 rfl rfl (lv_at hl 5 rfl) ?_
  refine zj_ishl (pc' := 66) hC dX6_bestSet_65 rfl ?_
  refine zj_iconst (pc' := 67) (v := (1 : Int32)) hC dX6_bestSet_66 rfl rfl ?_
  refine zj_isub (pc' := 68) hC dX6_bestSet_67 rfl ?_
  refine zj_nmi (fun x12 => ?_)
  refine zj_istore (pc' := 70) (lv' := [(8, .int x12), (7, .int (0 : Int32)), (6, .int (-1 : Int32)), (5, .int s0), (0, .ref (b0 + v0)), (1, .int v1), (2, .int v2), (3, .int v3), (4, .int v4)]) hC dX6_bestSet_68 rfl hl (by decide) rfl (fun ls hl => ?_)
  refine zj_iconst (pc' := 71) (v := (0 : Int32)) hC dX6_bestSet_70 rfl rfl ?_
  refine zj_istore (pc' := 73) (lv' := [(9, .int (0 : Int32)), (8, .int x12), (7, .int (0 : Int32)), (6, .int (-1 : Int32)), (5, .int s0), (0, .ref (b0 + v0)), (1, .int v1), (2, .int v2), (3, .int v3), (4, .int v4)]) hC dX6_bestSet_71 rfl hl (by decide) rfl (fun ls hl => ?_)
  exact lX6_bestSet_73 hC zFU v0 v1 v3 v4 s0 (-1 : Int32) (0 : Int32) x12 (0 : Int32) σ ls hk_v0 (lv_sub hl [5, 6, 8, 9, 4, 3, 2, 1, 0] rfl)
set_option maxRecDepth 100000 in
set_option maxHeartbeats 4000000 in
theorem kX6_bestSet (l : Launch) (b0 : Nat) (cA : Nat → ClassId) (D : va_G) (L : List (Nat × Nat)) (v0 : Nat) (v1 : Int32) (v2 : Int32) (σ : zS) (hk0 : L[v0]? = some (0, 6)) : zMi l b0 cA D L yX6_bestSet (Cond.code yX6_bestSet cX6_bestSet 12 (some Jvm.ClassFile.FieldType.int)) rmX6_bestSet [.ref (b0 + v0), .int v1, .int v2] σ (fX6_bestSet v0 v1 v2 σ) := by
  refine zMi_of (by decide) (Nat.le_of_ble_eq_true rfl) ?_
  intro p e s m below meth c ls hC hl
  have hl : lv_has ls 12 [(0, .ref (b0 + v0)), (1, .int v1), (2, .int v2)] := hl
  generalize ([.ref (b0 + v0), .int v1, .int v2] : List Value).toArray = args at hC ⊢
  unfold fX6_bestSet
  refine zj_aload_n (pc' := 1) hC dX6_bestSet_0 rfl rfl (lv_at hl 0 rfl) ?_
  refine zj_getR (pc' := 4) hC hk0 fd_6_0 rfl tw_1_195 dX6_bestSet_1 rfl (fun q13 hk_q13 => ?_)
  refine zj_getR (pc' := 7) hC hk_q13 fd_3_0 rfl tw_1_93 dX6_bestSet_4 rfl (fun q14 hk_q14 => ?_)
  refine zj_getI (pc' := 10) hC hk_q14 fd_2_1 rfl tw_1_64 dX6_bestSet_7 rfl ?_
  refine zj_aload_n (pc' := 11) hC dX6_bestSet_10 rfl rfl (lv_at hl 0 rfl) ?_
  refine zj_getR (pc' := 14) hC hk0 fd_6_0 rfl tw_1_195 dX6_bestSet_11 rfl (fun q15 hk_q15 => ?_)
  refine zj_getR (pc' := 17) hC hk_q15 fd_3_0 rfl tw_1_93 dX6_bestSet_14 rfl (fun q16 hk_q16 => ?_)
  refine zj_iconst (pc' := 18) (v := (3 : Int32)) hC dX6_bestSet_17 rfl rfl ?_
  refine zj_iload_n (pc' := 19) hC dX6_bestSet_18 rfl rfl (lv_at hl 1 rfl) ?_
  refine zj_isub (pc' := 20) hC dX6_bestSet_19 rfl ?_
  refine zj_calliV (pc' := 23) (rest := [.int (σ.1 q14 1)]) hC (kX2_paidBy l b0 cA D L q16 (((3 : Int32) - v1)) σ hk_q16) hk_q16 rfl tw_3_118 tw_3_115 tw_3_116 tw_3_117 tw_1_4 ddX2_paidBy rfl ⟨rfl, rfl⟩ ⟨by decide, by decide⟩ hl.1 (Nat.le_of_ble_eq_true rfl) rfl dX6_bestSet_20 rfl (fun r18 σ17 => ?_)
  refine zj_iconst (pc' := 24) (v := (-1 : Int32)) hC dX6_bestSet_23 rfl rfl ?_
  refine zj_ixor (pc' := 25) hC dX6_bestSet_24 rfl ?_
  refine zj_iand (pc' := 26) hC dX6_bestSet_25 rfl ?_
  refine zj_nmi (fun x19 => ?_)
  refine zj_istore_n (pc' := 27) (lv' := [(3, .int x19), (0, .ref (b0 + v0)), (1, .int v1), (2, .int v2)]) hC dX6_bestSet_26 rfl rfl hl (by decide) rfl (fun ls hl => ?_)
  refine zj_iconst (pc' := 28) (v := (1 : Int32)) hC dX6_bestSet_27 rfl rfl ?_
  refine zj_iload_n (pc' := 29) hC dX6_bestSet_28 rfl rfl (lv_at hl 0 rfl) ?_
  refine zj_calliS (pc' := 32) (rest := [.int (1 : Int32)]) hC (kJ6_bitCount_0f7a4 l b0 cA D L x19 σ17 ) tw_3_68 tw_3_119 tw_3_67 tw_1_15 ddJ6_bitCount_0f7a4 rfl ⟨rfl, rfl⟩ ⟨by decide, by decide⟩ hl.1 (Nat.le_of_ble_eq_true rfl) rfl dX6_bestSet_29 rfl (fun r21 σ20 => ?_)
  refine zj_ishl (pc' := 33) hC dX6_bestSet_32 rfl ?_
  refine zj_nmi (fun x22 => ?_)
  refine zj_istore (pc' := 35) (lv' := [(4, .int x22), (3, .int x19), (0, .ref (b0 + v0)), (1, .int v1), (2, .int v2)]) hC dX6_bestSet_33 rfl hl (by decide) rfl (fun ls hl => ?_)
  refine zj_aload_n (pc' := 36) hC dX6_bestSet_35 rfl rfl (lv_at hl 2 rfl) ?_
  refine zj_iload_n (pc' := 37) hC dX6_bestSet_36 rfl rfl (lv_at hl 3 rfl) ?_
  refine zj_iconst (pc' := 38) (v := (2 : Int32)) hC dX6_bestSet_37 rfl rfl ?_
  refine zj_calliV (pc' := 41) (rest := []) hC (kX6_planned l b0 cA D L v0 v1 (2 : Int32) σ20 hk0) hk0 rfl tw_3_114 tw_3_111 tw_3_113 ts_2_8 tw_1_1 ddX6_planned rfl ⟨rfl, rfl⟩ ⟨by decide, by decide⟩ hl.1 (Nat.le_of_ble_eq_true rfl) rfl dX6_bestSet_38 rfl (fun r24 σ23 => ?_)
  refine zj_aload_n (pc' := 42) hC dX6_bestSet_41 rfl rfl (lv_at hl 2 rfl) ?_
  refine zj_iload_n (pc' := 43) hC dX6_bestSet_42 rfl rfl (lv_at hl 3 rfl) ?_
  refine zj_iconst (pc' := 44) (v := (1 : Int32)) hC dX6_bestSet_43 rfl rfl ?_
  refine zj_calliV (pc' := 47) (rest := [.int r24]) hC (kX6_planned l b0 cA D L v0 v1 (1 : Int32) σ23 hk0) hk0 rfl tw_3_114 tw_3_111 tw_3_113 ts_2_8 tw_1_1 ddX6_planned rfl ⟨rfl, rfl⟩ ⟨by decide, by decide⟩ hl.1 (Nat.le_of_ble_eq_true rfl) rfl dX6_bestSet_44 rfl (fun r26 σ25 => ?_)
  refine zj_icmp_le (tgt := 54) (pc' := 50) hC dX6_bestSet_47 (by decide) rfl (fun c27 => ?_) (fun c27 => ?_)
  · refine zj_iconst (pc' := 55) (v := (1 : Int32)) hC dX6_bestSet_54 rfl rfl ?_
    exact jX6_bestSet_55 hC v0 v1 v2 x19 x22 (1 : Int32) σ25 ls hk0 (lv_sub hl [2, 3, 4, 1, 0] rfl)
  · refine zj_iconst (pc' := 51) (v := (-1 : Int32)) hC dX6_bestSet_50 rfl rfl ?_
    refine zj_goto (tgt := 55) hC dX6_bestSet_51 (by decide) ?_
    exact jX6_bestSet_55 hC v0 v1 v2 x19 x22 (-1 : Int32) σ25 ls hk0 (lv_sub hl [2, 3, 4, 1, 0] rfl)
-- X6_seated
theorem ddX6_seated : yX6_seated.cls ≠ "java/lang/invoke/MethodHandle" ∧ yX6_seated.cls ≠ "java/lang/invoke/VarHandle" ∧ (parseMethodDescriptor yX6_seated.desc).map (fun d => d.parameters.length) = some 3 := by decide +kernel
abbrev rmX6_seated : Room := { frames := 7, cells := 0, slots := 0, locals := 174 }
def bX6_seated_11  (v0 : Nat) (v1 : Int32) (v2 : Int32) (v3 : Int32) (s0 : Int32) (σ : zS) : Option (Int32 × zS) :=
  zb (fX6_isStick v1 σ) (fun (r2 : Int32) (σ1 : zS) => if r2 = 0 then (some (s0, σ1)) else (zb (fX6_within v2 (1 : Int32) (3 : Int32) σ1) (fun (r5 : Int32) (σ4 : zS) => if r5 = 0 then (some (s0, σ4)) else (zb (fX6_within v3 (0 : Int32) (1 : Int32) σ4) (fun (r8 : Int32) (σ7 : zS) => if r8 = 0 then (some (s0, σ7)) else (zb (fX6_bestSet v0 v1 v2 σ7) (fun (r11 : Int32) (σ10 : zS) => if r11 = (-1 : Int32) then (some (s0, σ10)) else (if v3 = 0 then (some (r11, σ10)) else (zb (fX6_houseWith v0 v1 r11 σ10) (fun (r15 : Int32) (σ14 : zS) => some (r15, σ14)))))))))))
def fX6_seated (v0 : Nat) (v1 : Int32) (v2 : Int32) (v3 : Int32) (σ : zS) : Option (Int32 × zS) :=
  if v3 = (1 : Int32) then (bX6_seated_11 v0 v1 v2 v3 (-1000000 : Int32) σ) else (bX6_seated_11 v0 v1 v2 v3 (-1 : Int32) σ)
set_option maxRecDepth 100000 in
set_option maxHeartbeats 4000000 in
theorem jX6_seated_11 {p : Program} {l : Launch} {e : Env} {s : State} {m : MethodId} {args : Array Value} {below : List Frame} {meth : Method} {c : Code} {b0 : Nat} {cA : Nat → ClassId} {D : va_G} {L : List (Nat × Nat)} (hC : zC p c s m args meth cX6_seated 6 (some Jvm.ClassFile.FieldType.int) (Cond.code yX6_seated cX6_seated 6 (some Jvm.ClassFile.FieldType.int)) yX6_seated.cls cA D)  (v0 : Nat) (v1 : Int32) (v2 : Int32) (v3 : Int32) (s0 : Int32) (σ : zS) (ls : Array Slot) (hk_v0 : L[v0]? = some (0, 6)) (hl : lv_has ls 6 [(0, .ref (b0 + v0)), (1, .int v1), (2, .int v2), (3, .int v3)]) : zJ p l e rmX6_seated s m args below meth c b0 cA D L (fun z => MQ below (va_Qi (fun (r : Int32) (u : zS) => (r, u) = z) (zB b0 cA D L) (zA b0 L)) args s 0 0 (zA b0 L)) (bX6_seated_11  v0 v1 v2 v3 s0 σ) σ 11 ls [.int s0] := by
  unfold bX6_seated_11
  refine zj_istore (pc' := 13) (lv' := [(4, .int s0), (0, .ref (b0 + v0)), (1, .int v1), (2, .int v2), (3, .int v3)]) hC dX6_seated_11 rfl hl (by decide) rfl (fun ls hl => ?_)
  refine zj_iload_n (pc' := 14) hC dX6_seated_13 rfl rfl (lv_at hl 2 rfl) ?_
  refine zj_callzS (pc' := 17) (rest := []) hC (kX6_isStick l b0 cA D L v1 σ ) tw_2_56 tw_2_54 tw_2_55 tw_1_1 ddX6_isStick rfl ⟨rfl, rfl⟩ ⟨by decide, by decide⟩ hl.1 (Nat.le_of_ble_eq_true rfl) rfl dX6_seated_14 rfl (fun r2 σ1 hb_r2 => ?_)
  refine zj_if_eq (tgt := 38) (pc' := 20) hC dX6_seated_17 (by decide) rfl (fun c3 => ?_) (fun c3 => ?_)
  · refine zj_iload (pc' := 40) hC dX6_seated_38 rfl (lv_at hl 0 rfl) ?_
    exact zj_iret hC dX6_seated_40
  · refine zj_iload_n (pc' := 21) hC dX6_seated_20 rfl rfl (lv_at hl 3 rfl) ?_
    refine zj_iconst (pc' := 22) (v := (1 : Int32)) hC dX6_seated_21 rfl rfl ?_
    refine zj_iconst (pc' := 23) (v := (3 : Int32)) hC dX6_seated_22 rfl rfl ?_
    refine zj_callzS (pc' := 26) (rest := []) hC (kX6_within l b0 cA D L v2 (1 : Int32) (3 : Int32) σ1 ) tw_2_13 tw_2_11 tw_2_12 tw_1_1 ddX6_within rfl ⟨rfl, rfl⟩ ⟨by decide, by decide⟩ hl.1 (Nat.le_of_ble_eq_true rfl) rfl dX6_seated_23 rfl (fun r5 σ4 hb_r5 => ?_)
    refine zj_if_eq (tgt := 38) (pc' := 29) hC dX6_seated_26 (by decide) rfl (fun c6 => ?_) (fun c6 => ?_)
    · refine zj_iload (pc' := 40) hC dX6_seated_38 rfl (lv_at hl 0 rfl) ?_
      exact zj_iret hC dX6_seated_40
    · refine zj_iload_n (pc' := 30) hC dX6_seated_29 rfl rfl (lv_at hl 4 rfl) ?_
      refine zj_iconst (pc' := 31) (v := (0 : Int32)) hC dX6_seated_30 rfl rfl ?_
      refine zj_iconst (pc' := 32) (v := (1 : Int32)) hC dX6_seated_31 rfl rfl ?_
      refine zj_callzS (pc' := 35) (rest := []) hC (kX6_within l b0 cA D L v3 (0 : Int32) (1 : Int32) σ4 ) tw_2_13 tw_2_11 tw_2_12 tw_1_1 ddX6_within rfl ⟨rfl, rfl⟩ ⟨by decide, by decide⟩ hl.1 (Nat.le_of_ble_eq_true rfl) rfl dX6_seated_32 rfl (fun r8 σ7 hb_r8 => ?_)
      refine zj_if_ne (tgt := 41) (pc' := 38) hC dX6_seated_35 (by decide) rfl (fun c9 => ?_) (fun c9 => ?_)
      · refine zj_aload_n (pc' := 42) hC dX6_seated_41 rfl rfl (lv_at hl 1 rfl) ?_
        refine zj_iload_n (pc' := 43) hC dX6_seated_42 rfl rfl (lv_at hl 2 rfl) ?_
        refine zj_iload_n (pc' := 44) hC dX6_seated_43 rfl rfl (lv_at hl 3 rfl) ?_
        refine zj_calliV (pc' := 47) (rest := []) hC (kX6_bestSet l b0 cA D L v0 v1 v2 σ7 hk_v0) hk_v0 rfl tw_3_157 tw_3_154 tw_3_156 ts_2_12 tw_1_1 ddX6_bestSet rfl ⟨rfl, rfl⟩ ⟨by decide, by decide⟩ hl.1 (Nat.le_of_ble_eq_true rfl) rfl dX6_seated_44 rfl (fun r11 σ10 => ?_)
        refine zj_istore (pc' := 49) (lv' := [(5, .int r11), (4, .int s0), (0, .ref (b0 + v0)), (1, .int v1), (2, .int v2), (3, .int v3)]) hC dX6_seated_47 rfl hl (by decide) rfl (fun ls hl => ?_)
        refine zj_iload (pc' := 51) hC dX6_seated_49 rfl (lv_at hl 0 rfl) ?_
        refine zj_iconst (pc' := 52) (v := (-1 : Int32)) hC dX6_seated_51 rfl rfl ?_
        refine zj_icmp_ne (tgt := 58) (pc' := 55) hC dX6_seated_52 (by decide) rfl (fun c12 => ?_) (fun c12 => ?_)
        · refine zj_iload_n (pc' := 59) hC dX6_seated_58 rfl rfl (lv_at hl 5 rfl) ?_
          refine zj_if_ne (tgt := 67) (pc' := 62) hC dX6_seated_59 (by decide) rfl (fun c13 => ?_) (fun c13 => ?_)
          · refine zj_aload_n (pc' := 68) hC dX6_seated_67 rfl rfl (lv_at hl 2 rfl) ?_
            refine zj_iload_n (pc' := 69) hC dX6_seated_68 rfl rfl (lv_at hl 3 rfl) ?_
            refine zj_iload (pc' := 71) hC dX6_seated_69 rfl (lv_at hl 0 rfl) ?_
            refine zj_calliV (pc' := 74) (rest := []) hC (kX6_houseWith l b0 cA D L v0 v1 r11 σ10 hk_v0) hk_v0 rfl tw_3_131 tw_3_128 tw_3_130 ts_2_10 tw_1_1 ddX6_houseWith rfl ⟨rfl, rfl⟩ ⟨by decide, by decide⟩ hl.1 (Nat.le_of_ble_eq_true rfl) rfl dX6_seated_71 rfl (fun r15 σ14 => ?_)
            exact zj_iret hC dX6_seated_74
          · refine zj_iload (pc' := 64) hC dX6_seated_62 rfl (lv_at hl 0 rfl) ?_
            refine zj_goto (tgt := 74) hC dX6_seated_64 (by decide) ?_
            exact zj_iret hC dX6_seated_74
        · refine zj_iload (pc' := 57) hC dX6_seated_55 rfl (lv_at hl 1 rfl) ?_
          exact zj_iret hC dX6_seated_57
      · refine zj_iload (pc' := 40) hC dX6_seated_38 rfl (lv_at hl 0 rfl) ?_
        exact zj_iret hC dX6_seated_40
set_option maxRecDepth 100000 in
set_option maxHeartbeats 4000000 in
theorem kX6_seated (l : Launch) (b0 : Nat) (cA : Nat → ClassId) (D : va_G) (L : List (Nat × Nat)) (v0 : Nat) (v1 : Int32) (v2 : Int32) (v3 : Int32) (σ : zS) (hk0 : L[v0]? = some (0, 6)) : zMi l b0 cA D L yX6_seated (Cond.code yX6_seated cX6_seated 6 (some Jvm.ClassFile.FieldType.int)) rmX6_seated [.ref (b0 + v0), .int v1, .int v2, .int v3] σ (fX6_seated v0 v1 v2 v3 σ) := by
  refine zMi_of (by decide) (Nat.le_of_ble_eq_true rfl) ?_
  intro p e s m below meth c ls hC hl
  have hl : lv_has ls 6 [(0, .ref (b0 + v0)), (1, .int v1), (2, .int v2), (3, .int v3)] := hl
  generalize ([.ref (b0 + v0), .int v1, .int v2, .int v3] : List Value).toArray = args at hC ⊢
  unfold fX6_seated
  refine zj_iload_n (pc' := 1) hC dX6_seated_0 rfl rfl (lv_at hl 3 rfl) ?_
  refine zj_iconst (pc' := 2) (v := (1 : Int32)) hC dX6_seated_1 rfl rfl ?_
  refine zj_icmp_ne (tgt := 10) (pc' := 5) hC dX6_seated_2 (by decide) rfl (fun c16 => ?_) (fun c16 => ?_)
  · refine zj_iconst (pc' := 11) (v := (-1 : Int32)) hC dX6_seated_10 rfl rfl ?_
    exact jX6_seated_11 hC v0 v1 v2 v3 (-1 : Int32) σ ls hk0 (lv_sub hl [0, 1, 2, 3] rfl)
  · refine zj_ldc (pc' := 7) (v := (-1000000 : Int32)) hC tw_3_140 dX6_seated_5 rfl ?_
    refine zj_goto (tgt := 11) hC dX6_seated_7 (by decide) ?_
    exact jX6_seated_11 hC v0 v1 v2 v3 (-1000000 : Int32) σ ls hk0 (lv_sub hl [0, 1, 2, 3] rfl)
-- X6_playUnpaid
theorem ddX6_playUnpaid : yX6_playUnpaid.cls ≠ "java/lang/invoke/MethodHandle" ∧ yX6_playUnpaid.cls ≠ "java/lang/invoke/VarHandle" ∧ (parseMethodDescriptor yX6_playUnpaid.desc).map (fun d => d.parameters.length) = some 1 := by decide +kernel
abbrev rmX6_playUnpaid : Room := { frames := 5, cells := 0, slots := 0, locals := 121 }
def fX6_playUnpaid (v0 : Nat) (v1 : Int32) (σ : zS) : Option (Unit × zS) :=
  bnd (σ.2 v0 1) (fun (q1 : Nat) => bnd (σ.2 q1 0) (fun (q2 : Nat) => bnd (σ.2 v0 0) (fun (q3 : Nat) => bnd (σ.2 q3 0) (fun (q4 : Nat) => zb (fX2_copy q2 q4 σ) (fun (_ : Unit) (σ5 : zS) => bnd (σ5.2 v0 1) (fun (q7 : Nat) => bnd (σ5.2 q7 0) (fun (q8 : Nat) => bnd (zI σ5 q8 5 (0 : Int32)) (fun (σ9 : zS) => bnd (σ9.2 v0 1) (fun (q10 : Nat) => bnd (σ9.2 q10 0) (fun (q11 : Nat) => bnd (zI σ9 q11 6 (0 : Int32)) (fun (σ12 : zS) => bnd (σ12.2 v0 1) (fun (q13 : Nat) => zb (fX6_play v0 q13 v1 σ12) (fun (_ : Unit) (σ14 : zS) => some ((), σ14))))))))))))))
set_option maxRecDepth 100000 in
set_option maxHeartbeats 4000000 in
theorem kX6_playUnpaid (l : Launch) (b0 : Nat) (cA : Nat → ClassId) (D : va_G) (L : List (Nat × Nat)) (v0 : Nat) (v1 : Int32) (σ : zS) (hk0 : L[v0]? = some (0, 6)) : zMv l b0 cA D L yX6_playUnpaid (Cond.code yX6_playUnpaid cX6_playUnpaid 2 (none)) rmX6_playUnpaid [.ref (b0 + v0), .int v1] σ (fX6_playUnpaid v0 v1 σ) := by
  refine zMv_of (by decide) (Nat.le_of_ble_eq_true rfl) ?_
  intro p e s m below meth c ls hC hl
  have hl : lv_has ls 2 [(0, .ref (b0 + v0)), (1, .int v1)] := hl
  generalize ([.ref (b0 + v0), .int v1] : List Value).toArray = args at hC ⊢
  unfold fX6_playUnpaid
  refine zj_aload_n (pc' := 1) hC dX6_playUnpaid_0 rfl rfl (lv_at hl 0 rfl) ?_
  refine zj_getR (pc' := 4) hC hk0 fd_6_1 rfl tw_1_196 dX6_playUnpaid_1 rfl (fun q1 hk_q1 => ?_)
  refine zj_getR (pc' := 7) hC hk_q1 fd_3_0 rfl tw_1_93 dX6_playUnpaid_4 rfl (fun q2 hk_q2 => ?_)
  refine zj_aload_n (pc' := 8) hC dX6_playUnpaid_7 rfl rfl (lv_at hl 0 rfl) ?_
  refine zj_getR (pc' := 11) hC hk0 fd_6_0 rfl tw_1_195 dX6_playUnpaid_8 rfl (fun q3 hk_q3 => ?_)
  refine zj_getR (pc' := 14) hC hk_q3 fd_3_0 rfl tw_1_93 dX6_playUnpaid_11 rfl (fun q4 hk_q4 => ?_)
  refine zj_callvV (pc' := 17) (rest := []) hC (kX2_copy l b0 cA D L q2 q4 σ hk_q2 hk_q4) hk_q2 rfl tw_3_135 tw_3_132 tw_3_133 tw_3_134 tw_1_4 ddX2_copy rfl ⟨rfl, rfl⟩ ⟨by decide, by decide⟩ hl.1 (Nat.le_of_ble_eq_true rfl) rfl dX6_playUnpaid_14 rfl (fun σ5 => ?_)
  refine zj_aload_n (pc' := 18) hC dX6_playUnpaid_17 rfl rfl (lv_at hl 0 rfl) ?_
  refine zj_getR (pc' := 21) hC hk0 fd_6_1 rfl tw_1_196 dX6_playUnpaid_18 rfl (fun q7 hk_q7 => ?_)
  refine zj_getR (pc' := 24) hC hk_q7 fd_3_0 rfl tw_1_93 dX6_playUnpaid_21 rfl (fun q8 hk_q8 => ?_)
  refine zj_iconst (pc' := 25) (v := (0 : Int32)) hC dX6_playUnpaid_24 rfl rfl ?_
  refine zj_putI (pc' := 28) hC hk_q8 fd_2_5 rfl tw_1_73 rfl rfl rfl dX6_playUnpaid_25 rfl (fun σ9 => ?_)
  refine zj_aload_n (pc' := 29) hC dX6_playUnpaid_28 rfl rfl (lv_at hl 0 rfl) ?_
  refine zj_getR (pc' := 32) hC hk0 fd_6_1 rfl tw_1_196 dX6_playUnpaid_29 rfl (fun q10 hk_q10 => ?_)
  refine zj_getR (pc' := 35) hC hk_q10 fd_3_0 rfl tw_1_93 dX6_playUnpaid_32 rfl (fun q11 hk_q11 => ?_)
  refine zj_iconst (pc' := 36) (v := (0 : Int32)) hC dX6_playUnpaid_35 rfl rfl ?_
  refine zj_putI (pc' := 39) hC hk_q11 fd_2_6 rfl tw_1_76 rfl rfl rfl dX6_playUnpaid_36 rfl (fun σ12 => ?_)
  refine zj_aload_n (pc' := 40) hC dX6_playUnpaid_39 rfl rfl (lv_at hl 0 rfl) ?_
  refine zj_aload_n (pc' := 41) hC dX6_playUnpaid_40 rfl rfl (lv_at hl 0 rfl) ?_
  refine zj_getR (pc' := 44) hC hk0 fd_6_1 rfl tw_1_196 dX6_playUnpaid_41 rfl (fun q13 hk_q13 => ?_)
  refine zj_iload_n (pc' := 45) hC dX6_playUnpaid_44 rfl rfl (lv_at hl 1 rfl) ?_
  refine zj_callvV (pc' := 48) (rest := []) hC (kX6_play l b0 cA D L v0 q13 v1 σ12 hk0 hk_q13) hk0 rfl tw_3_31 tw_3_28 tw_3_30 ts_2_3 tw_1_1 ddX6_play rfl ⟨rfl, rfl⟩ ⟨by decide, by decide⟩ hl.1 (Nat.le_of_ble_eq_true rfl) rfl dX6_playUnpaid_45 rfl (fun σ14 => ?_)
  exact zj_vret hC dX6_playUnpaid_48
-- X6_leastBeginners
theorem ddX6_leastBeginners : yX6_leastBeginners.cls ≠ "java/lang/invoke/MethodHandle" ∧ yX6_leastBeginners.cls ≠ "java/lang/invoke/VarHandle" ∧ (parseMethodDescriptor yX6_leastBeginners.desc).map (fun d => d.parameters.length) = some 1 := by decide +kernel
abbrev rmX6_leastBeginners : Room := { frames := 6, cells := 0, slots := 0, locals := 142 }
def bX6_leastBeginners_28 (k28 : Nat → Int32 → Int32 → Int32 → Int32 → zS → Option (Int32 × zS)) (v0 : Nat) (v2 : Int32) (v3 : Int32) (v4 : Int32) (v5 : Int32) (σ : zS) : Option (Int32 × zS) :=
  if (3000 : Int32) ≤ v5 then (some ((-1 : Int32), σ)) else (if v3 ≤ v4 then (some ((-1 : Int32), σ)) else (zb (fX6_spread v4 v2 σ) (fun (r4 : Int32) (σ3 : zS) => zb (fX6_playUnpaid v0 r4 σ3) (fun (_ : Unit) (σ5 : zS) => bnd (σ5.2 v0 1) (fun (q7 : Nat) => bnd (σ5.2 v0 1) (fun (q8 : Nat) => bnd (σ5.2 q8 1) (fun (q9 : Nat) => zb (fX3_showing q7 (((σ5.1 q9 0) - (1 : Int32))) (1 : Int32) σ5) (fun (r11 : Int32) (σ10 : zS) => if r11 = v2 then (some (r4, σ10)) else (zb (fX6_nextPicks v4 σ10) (fun (r14 : Int32) (σ13 : zS) => k28 v0 v2 v3 r14 ((v5 + (1 : Int32))) σ13))))))))))
def fX6_leastBeginners_28  : Nat → Nat → Int32 → Int32 → Int32 → Int32 → zS → Option (Int32 × zS)
  | 0, _, _, _, _, _, _ => none
  | n + 1, v0, v2, v3, v4, v5, σ => bX6_leastBeginners_28 (fX6_leastBeginners_28  n) v0 v2 v3 v4 v5 σ
def fX6_leastBeginners (v0 : Nat) (v1 : Int32) (σ : zS) : Option (Int32 × zS) :=
  bnd (σ.2 v0 0) (fun (q15 : Nat) => bnd (σ.2 q15 0) (fun (q16 : Nat) => bnd ((σ.1 q16 1)) (fun (x17 : Int32) => zb (fJ6_bitCount_0f7a4 x17 σ) (fun (r19 : Int32) (σ18 : zS) => bnd (((1 : Int32) <<< (r19 &&& 31))) (fun (x20 : Int32) => bnd ((((1 : Int32) <<< (v1 &&& 31)) - (1 : Int32))) (fun (x21 : Int32) => fX6_leastBeginners_28 zFU v0 x17 x20 x21 (0 : Int32) σ18))))))
set_option maxRecDepth 100000 in
set_option maxHeartbeats 4000000 in
theorem jX6_leastBeginners_28 {p : Program} {l : Launch} {e : Env} {s : State} {m : MethodId} {args : Array Value} {below : List Frame} {meth : Method} {c : Code} {b0 : Nat} {cA : Nat → ClassId} {D : va_G} {L : List (Nat × Nat)} (hC : zC p c s m args meth cX6_leastBeginners 7 (some Jvm.ClassFile.FieldType.int) (Cond.code yX6_leastBeginners cX6_leastBeginners 7 (some Jvm.ClassFile.FieldType.int)) yX6_leastBeginners.cls cA D) (k28 : Nat → Int32 → Int32 → Int32 → Int32 → zS → Option (Int32 × zS)) (h28 : ∀ (v0 : Nat) (v2 : Int32) (v3 : Int32) (v4 : Int32) (v5 : Int32) (σ : zS) (ls : Array Slot), L[v0]? = some (0, 6) → lv_has ls 7 [(0, .ref (b0 + v0)), (2, .int v2), (3, .int v3), (4, .int v4), (5, .int v5)] → zJ p l e rmX6_leastBeginners s m args below meth c b0 cA D L (fun z => MQ below (va_Qi (fun (r : Int32) (u : zS) => (r, u) = z) (zB b0 cA D L) (zA b0 L)) args s 0 0 (zA b0 L)) (k28 v0 v2 v3 v4 v5 σ) σ 28 ls []) (v0 : Nat) (v2 : Int32) (v3 : Int32) (v4 : Int32) (v5 : Int32) (σ : zS) (ls : Array Slot) (hk_v0 : L[v0]? = some (0, 6)) (hl : lv_has ls 7 [(0, .ref (b0 + v0)), (2, .int v2), (3, .int v3), (4, .int v4), (5, .int v5)]) : zJ p l e rmX6_leastBeginners s m args below meth c b0 cA D L (fun z => MQ below (va_Qi (fun (r : Int32) (u : zS) => (r, u) = z) (zB b0 cA D L) (zA b0 L)) args s 0 0 (zA b0 L)) (bX6_leastBeginners_28 k28 v0 v2 v3 v4 v5 σ) σ 28 ls [] := by
  unfold bX6_leastBeginners_28
  refine zj_iload (pc' := 30) hC dX6_leastBeginners_28 rfl (lv_at hl 4 rfl) ?_
  refine zj_sipush (pc' := 33) (v := (3000 : Int32)) hC dX6_leastBeginners_30 rfl rfl ?_
  refine zj_icmp_ge (tgt := 96) (pc' := 36) hC dX6_leastBeginners_33 (by decide) rfl (fun c1 => ?_) (fun c1 => ?_)
  · refine zj_iconst (pc' := 97) (v := (-1 : Int32)) hC dX6_leastBeginners_96 rfl rfl ?_
    exact zj_iret hC dX6_leastBeginners_97
  · refine zj_iload (pc' := 38) hC dX6_leastBeginners_36 rfl (lv_at hl 3 rfl) ?_
    refine zj_iload_n (pc' := 39) hC dX6_leastBeginners_38 rfl rfl (lv_at hl 2 rfl) ?_
    refine zj_icmp_ge (tgt := 96) (pc' := 42) hC dX6_leastBeginners_39 (by decide) rfl (fun c2 => ?_) (fun c2 => ?_)
    · refine zj_iconst (pc' := 97) (v := (-1 : Int32)) hC dX6_leastBeginners_96 rfl rfl ?_
      exact zj_iret hC dX6_leastBeginners_97
    · refine zj_iload (pc' := 44) hC dX6_leastBeginners_42 rfl (lv_at hl 3 rfl) ?_
      refine zj_iload_n (pc' := 45) hC dX6_leastBeginners_44 rfl rfl (lv_at hl 1 rfl) ?_
      refine zj_calliS (pc' := 48) (rest := []) hC (kX6_spread l b0 cA D L v4 v2 σ ) tw_3_160 tw_3_158 tw_3_159 tw_1_1 ddX6_spread rfl ⟨rfl, rfl⟩ ⟨by decide, by decide⟩ hl.1 (Nat.le_of_ble_eq_true rfl) rfl dX6_leastBeginners_45 rfl (fun r4 σ3 => ?_)
      refine zj_istore (pc' := 50) (lv' := [(6, .int r4), (0, .ref (b0 + v0)), (2, .int v2), (3, .int v3), (4, .int v4), (5, .int v5)]) hC dX6_leastBeginners_48 rfl hl (by decide) rfl (fun ls hl => ?_)
      refine zj_aload_n (pc' := 51) hC dX6_leastBeginners_50 rfl rfl (lv_at hl 1 rfl) ?_
      refine zj_iload (pc' := 53) hC dX6_leastBeginners_51 rfl (lv_at hl 0 rfl) ?_
      refine zj_callvV (pc' := 56) (rest := []) hC (kX6_playUnpaid l b0 cA D L v0 r4 σ3 hk_v0) hk_v0 rfl tw_3_176 tw_3_173 tw_3_175 ts_2_14 tw_1_1 ddX6_playUnpaid rfl ⟨rfl, rfl⟩ ⟨by decide, by decide⟩ hl.1 (Nat.le_of_ble_eq_true rfl) rfl dX6_leastBeginners_53 rfl (fun σ5 => ?_)
      refine zj_aload_n (pc' := 57) hC dX6_leastBeginners_56 rfl rfl (lv_at hl 1 rfl) ?_
      refine zj_getR (pc' := 60) hC hk_v0 fd_6_1 rfl tw_1_196 dX6_leastBeginners_57 rfl (fun q7 hk_q7 => ?_)
      refine zj_aload_n (pc' := 61) hC dX6_leastBeginners_60 rfl rfl (lv_at hl 1 rfl) ?_
      refine zj_getR (pc' := 64) hC hk_v0 fd_6_1 rfl tw_1_196 dX6_leastBeginners_61 rfl (fun q8 hk_q8 => ?_)
      refine zj_getR (pc' := 67) hC hk_q8 fd_3_1 rfl tw_1_95 dX6_leastBeginners_64 rfl (fun q9 hk_q9 => ?_)
      refine zj_getI (pc' := 70) hC hk_q9 fd_1_0 rfl tw_1_35 dX6_leastBeginners_67 rfl ?_
      refine zj_iconst (pc' := 71) (v := (1 : Int32)) hC dX6_leastBeginners_70 rfl rfl ?_
      refine zj_isub (pc' := 72) hC dX6_leastBeginners_71 rfl ?_
      refine zj_iconst (pc' := 73) (v := (1 : Int32)) hC dX6_leastBeginners_72 rfl rfl ?_
      refine zj_calliV (pc' := 76) (rest := []) hC (kX3_showing l b0 cA D L q7 (((σ5.1 q9 0) - (1 : Int32))) (1 : Int32) σ5 hk_q7) hk_q7 rfl tw_3_87 tw_3_149 tw_3_85 tw_3_86 tw_1_2 ddX3_showing rfl ⟨rfl, rfl⟩ ⟨by decide, by decide⟩ hl.1 (Nat.le_of_ble_eq_true rfl) rfl dX6_leastBeginners_73 rfl (fun r11 σ10 => ?_)
      refine zj_iload_n (pc' := 77) hC dX6_leastBeginners_76 rfl rfl (lv_at hl 2 rfl) ?_
      refine zj_icmp_ne (tgt := 83) (pc' := 80) hC dX6_leastBeginners_77 (by decide) rfl (fun c12 => ?_) (fun c12 => ?_)
      · refine zj_iload (pc' := 85) hC dX6_leastBeginners_83 rfl (lv_at hl 4 rfl) ?_
        refine zj_calliS (pc' := 88) (rest := []) hC (kX6_nextPicks l b0 cA D L v4 σ10 ) tw_3_163 tw_3_161 tw_3_162 tw_1_1 ddX6_nextPicks rfl ⟨rfl, rfl⟩ ⟨by decide, by decide⟩ hl.1 (Nat.le_of_ble_eq_true rfl) rfl dX6_leastBeginners_85 rfl (fun r14 σ13 => ?_)
        refine zj_istore (pc' := 90) (lv' := [(4, .int r14), (6, .int r4), (0, .ref (b0 + v0)), (2, .int v2), (3, .int v3), (5, .int v5)]) hC dX6_leastBeginners_88 rfl hl (by decide) rfl (fun ls hl => ?_)
        refine zj_iinc (pc' := 93) (k0 := 5) (v := (v5 + (1 : Int32))) (lv' := [(5, .int (v5 + (1 : Int32))), (4, .int r14), (6, .int r4), (0, .ref (b0 + v0)), (2, .int v2), (3, .int v3)]) hC dX6_leastBeginners_90 rfl hl rfl rfl (by decide) rfl (fun ls hl => ?_)
        refine zj_goto (tgt := 28) hC dX6_leastBeginners_93 (by decide) ?_
        exact h28 v0 v2 v3 r14 ((v5 + (1 : Int32))) σ13 ls hk_v0 (lv_sub hl [3, 4, 5, 1, 0] rfl)
      · refine zj_iload (pc' := 82) hC dX6_leastBeginners_80 rfl (lv_at hl 0 rfl) ?_
        exact zj_iret hC dX6_leastBeginners_82
set_option maxRecDepth 100000 in
set_option maxHeartbeats 4000000 in
theorem lX6_leastBeginners_28 {p : Program} {l : Launch} {e : Env} {s : State} {m : MethodId} {args : Array Value} {below : List Frame} {meth : Method} {c : Code} {b0 : Nat} {cA : Nat → ClassId} {D : va_G} {L : List (Nat × Nat)} (hC : zC p c s m args meth cX6_leastBeginners 7 (some Jvm.ClassFile.FieldType.int) (Cond.code yX6_leastBeginners cX6_leastBeginners 7 (some Jvm.ClassFile.FieldType.int)) yX6_leastBeginners.cls cA D)  (n : Nat) : ∀ (v0 : Nat) (v2 : Int32) (v3 : Int32) (v4 : Int32) (v5 : Int32) (σ : zS) (ls : Array Slot), L[v0]? = some (0, 6) → lv_has ls 7 [(0, .ref (b0 + v0)), (2, .int v2), (3, .int v3), (4, .int v4), (5, .int v5)] → zJ p l e rmX6_leastBeginners s m args below meth c b0 cA D L (fun z => MQ below (va_Qi (fun (r : Int32) (u : zS) => (r, u) = z) (zB b0 cA D L) (zA b0 L)) args s 0 0 (zA b0 L)) (fX6_leastBeginners_28  n v0 v2 v3 v4 v5 σ) σ 28 ls [] := by
  induction n with
  | zero => intros; exact zj_none
  | succ n ih => exact jX6_leastBeginners_28 hC (fX6_leastBeginners_28  n) ih
set_option maxRecDepth 100000 in
set_option maxHeartbeats 4000000 in
theorem kX6_leastBeginners (l : Launch) (b0 : Nat) (cA : Nat → ClassId) (D : va_G) (L : List (Nat × Nat)) (v0 : Nat) (v1 : Int32) (σ : zS) (hk0 : L[v0]? = some (0, 6)) : zMi l b0 cA D L yX6_leastBeginners (Cond.code yX6_leastBeginners cX6_leastBeginners 7 (some Jvm.ClassFile.FieldType.int)) rmX6_leastBeginners [.ref (b0 + v0), .int v1] σ (fX6_leastBeginners v0 v1 σ) := by
  refine zMi_of (by decide) (Nat.le_of_ble_eq_true rfl) ?_
  intro p e s m below meth c ls hC hl
  have hl : lv_has ls 7 [(0, .ref (b0 + v0)), (1, .int v1)] := hl
  generalize ([.ref (b0 + v0), .int v1] : List Value).toArray = args at hC ⊢
  unfold fX6_leastBeginners
  refine zj_aload_n (pc' := 1) hC dX6_leastBeginners_0 rfl rfl (lv_at hl 0 rfl) ?_
  refine zj_getR (pc' := 4) hC hk0 fd_6_0 rfl tw_1_195 dX6_leastBeginners_1 rfl (fun q15 hk_q15 => ?_)
  refine zj_getR (pc' := 7) hC hk_q15 fd_3_0 rfl tw_1_93 dX6_leastBeginners_4 rfl (fun q16 hk_q16 => ?_)
  refine zj_getI (pc' := 10) hC hk_q16 fd_2_1 rfl tw_1_64 dX6_leastBeginners_7 rfl ?_
  refine zj_nmi (fun x17 => ?_)
  refine zj_istore_n (pc' := 11) (lv' := [(2, .int x17), (0, .ref (b0 + v0)), (1, .int v1)]) hC dX6_leastBeginners_10 rfl rfl hl (by decide) rfl (fun ls hl => ?_)
  refine zj_iconst (pc' := 12) (v := (1 : Int32)) hC dX6_leastBeginners_11 rfl rfl ?_
  refine zj_iload_n (pc' := 13) hC dX6_leastBeginners_12 rfl rfl (lv_at hl 0 rfl) ?_
  refine zj_calliS (pc' := 16) (rest := [.int (1 : Int32)]) hC (kJ6_bitCount_0f7a4 l b0 cA D L x17 σ ) tw_3_68 tw_3_119 tw_3_67 tw_1_15 ddJ6_bitCount_0f7a4 rfl ⟨rfl, rfl⟩ ⟨by decide, by decide⟩ hl.1 (Nat.le_of_ble_eq_true rfl) rfl dX6_leastBeginners_13 rfl (fun r19 σ18 => ?_)
  refine zj_ishl (pc' := 17) hC dX6_leastBeginners_16 rfl ?_
  refine zj_nmi (fun x20 => ?_)
  refine zj_istore_n (pc' := 18) (lv' := [(3, .int x20), (2, .int x17), (0, .ref (b0 + v0)), (1, .int v1)]) hC dX6_leastBeginners_17 rfl rfl hl (by decide) rfl (fun ls hl => ?_)
  refine zj_iconst (pc' := 19) (v := (1 : Int32)) hC dX6_leastBeginners_18 rfl rfl ?_
  refine zj_iload_n (pc' := 20) hC dX6_leastBeginners_19 rfl rfl (lv_at hl 3 rfl) ?_
  refine zj_ishl (pc' := 21) hC dX6_leastBeginners_20 rfl ?_
  refine zj_iconst (pc' := 22) (v := (1 : Int32)) hC dX6_leastBeginners_21 rfl rfl ?_
  refine zj_isub (pc' := 23) hC dX6_leastBeginners_22 rfl ?_
  refine zj_nmi (fun x21 => ?_)
  refine zj_istore (pc' := 25) (lv' := [(4, .int x21), (3, .int x20), (2, .int x17), (0, .ref (b0 + v0)), (1, .int v1)]) hC dX6_leastBeginners_23 rfl hl (by decide) rfl (fun ls hl => ?_)
  refine zj_iconst (pc' := 26) (v := (0 : Int32)) hC dX6_leastBeginners_25 rfl rfl ?_
  refine zj_istore (pc' := 28) (lv' := [(5, .int (0 : Int32)), (4, .int x21), (3, .int x20), (2, .int x17), (0, .ref (b0 + v0)), (1, .int v1)]) hC dX6_leastBeginners_26 rfl hl (by decide) rfl (fun ls hl => ?_)
  exact lX6_leastBeginners_28 hC zFU v0 x17 x20 x21 (0 : Int32) σ18 ls hk0 (lv_sub hl [4, 3, 2, 1, 0] rfl)
-- X6_begins
theorem ddX6_begins : yX6_begins.cls ≠ "java/lang/invoke/MethodHandle" ∧ yX6_begins.cls ≠ "java/lang/invoke/VarHandle" ∧ (parseMethodDescriptor yX6_begins.desc).map (fun d => d.parameters.length) = some 0 := by decide +kernel
abbrev rmX6_begins : Room := { frames := 7, cells := 0, slots := 0, locals := 168 }
def bX6_begins_17 (k17 : Nat → Int32 → zS → Option (Int32 × zS)) (v0 : Nat) (v1 : Int32) (σ : zS) : Option (Int32 × zS) :=
  if (3 : Int32) < v1 then (some ((-2 : Int32), σ)) else (zb (fX6_leastBeginners v0 v1 σ) (fun (r3 : Int32) (σ2 : zS) => if r3 = (-1 : Int32) then (k17 v0 ((v1 + (1 : Int32))) σ2) else (some (r3, σ2))))
def fX6_begins_17  : Nat → Nat → Int32 → zS → Option (Int32 × zS)
  | 0, _, _, _ => none
  | n + 1, v0, v1, σ => bX6_begins_17 (fX6_begins_17  n) v0 v1 σ
def fX6_begins (v0 : Nat) (σ : zS) : Option (Int32 × zS) :=
  bnd (σ.2 v0 0) (fun (q5 : Nat) => bnd (σ.2 q5 0) (fun (q6 : Nat) => if (σ.1 q6 1) = 0 then (some ((-1 : Int32), σ)) else (fX6_begins_17 zFU v0 (0 : Int32) σ)))
set_option maxRecDepth 100000 in
set_option maxHeartbeats 4000000 in
theorem jX6_begins_17 {p : Program} {l : Launch} {e : Env} {s : State} {m : MethodId} {args : Array Value} {below : List Frame} {meth : Method} {c : Code} {b0 : Nat} {cA : Nat → ClassId} {D : va_G} {L : List (Nat × Nat)} (hC : zC p c s m args meth cX6_begins 3 (some Jvm.ClassFile.FieldType.int) (Cond.code yX6_begins cX6_begins 3 (some Jvm.ClassFile.FieldType.int)) yX6_begins.cls cA D) (k17 : Nat → Int32 → zS → Option (Int32 × zS)) (h17 : ∀ (v0 : Nat) (v1 : Int32) (σ : zS) (ls : Array Slot), L[v0]? = some (0, 6) → lv_has ls 3 [(0, .ref (b0 + v0)), (1, .int v1)] → zJ p l e rmX6_begins s m args below meth c b0 cA D L (fun z => MQ below (va_Qi (fun (r : Int32) (u : zS) => (r, u) = z) (zB b0 cA D L) (zA b0 L)) args s 0 0 (zA b0 L)) (k17 v0 v1 σ) σ 17 ls []) (v0 : Nat) (v1 : Int32) (σ : zS) (ls : Array Slot) (hk_v0 : L[v0]? = some (0, 6)) (hl : lv_has ls 3 [(0, .ref (b0 + v0)), (1, .int v1)]) : zJ p l e rmX6_begins s m args below meth c b0 cA D L (fun z => MQ below (va_Qi (fun (r : Int32) (u : zS) => (r, u) = z) (zB b0 cA D L) (zA b0 L)) args s 0 0 (zA b0 L)) (bX6_begins_17 k17 v0 v1 σ) σ 17 ls [] := by
  unfold bX6_begins_17
  refine zj_iload_n (pc' := 18) hC dX6_begins_17 rfl rfl (lv_at hl 1 rfl) ?_
  refine zj_iconst (pc' := 19) (v := (3 : Int32)) hC dX6_begins_18 rfl rfl ?_
  refine zj_icmp_gt (tgt := 41) (pc' := 22) hC dX6_begins_19 (by decide) rfl (fun c1 => ?_) (fun c1 => ?_)
  · refine zj_bipush (pc' := 43) (v := (-2 : Int32)) hC dX6_begins_41 rfl rfl ?_
    exact zj_iret hC dX6_begins_43
  · refine zj_aload_n (pc' := 23) hC dX6_begins_22 rfl rfl (lv_at hl 0 rfl) ?_
    refine zj_iload_n (pc' := 24) hC dX6_begins_23 rfl rfl (lv_at hl 1 rfl) ?_
    refine zj_calliV (pc' := 27) (rest := []) hC (kX6_leastBeginners l b0 cA D L v0 v1 σ hk_v0) hk_v0 rfl tw_3_172 tw_3_169 tw_3_171 ts_2_13 tw_1_1 ddX6_leastBeginners rfl ⟨rfl, rfl⟩ ⟨by decide, by decide⟩ hl.1 (Nat.le_of_ble_eq_true rfl) rfl dX6_begins_24 rfl (fun r3 σ2 => ?_)
    refine zj_istore_n (pc' := 28) (lv' := [(2, .int r3), (0, .ref (b0 + v0)), (1, .int v1)]) hC dX6_begins_27 rfl rfl hl (by decide) rfl (fun ls hl => ?_)
    refine zj_iload_n (pc' := 29) hC dX6_begins_28 rfl rfl (lv_at hl 0 rfl) ?_
    refine zj_iconst (pc' := 30) (v := (-1 : Int32)) hC dX6_begins_29 rfl rfl ?_
    refine zj_icmp_eq (tgt := 35) (pc' := 33) hC dX6_begins_30 (by decide) rfl (fun c4 => ?_) (fun c4 => ?_)
    · refine zj_iinc (pc' := 38) (k0 := 2) (v := (v1 + (1 : Int32))) (lv' := [(1, .int (v1 + (1 : Int32))), (2, .int r3), (0, .ref (b0 + v0))]) hC dX6_begins_35 rfl hl rfl rfl (by decide) rfl (fun ls hl => ?_)
      refine zj_goto (tgt := 17) hC dX6_begins_38 (by decide) ?_
      exact h17 v0 ((v1 + (1 : Int32))) σ2 ls hk_v0 (lv_sub hl [2, 0] rfl)
    · refine zj_iload_n (pc' := 34) hC dX6_begins_33 rfl rfl (lv_at hl 0 rfl) ?_
      exact zj_iret hC dX6_begins_34
set_option maxRecDepth 100000 in
set_option maxHeartbeats 4000000 in
theorem lX6_begins_17 {p : Program} {l : Launch} {e : Env} {s : State} {m : MethodId} {args : Array Value} {below : List Frame} {meth : Method} {c : Code} {b0 : Nat} {cA : Nat → ClassId} {D : va_G} {L : List (Nat × Nat)} (hC : zC p c s m args meth cX6_begins 3 (some Jvm.ClassFile.FieldType.int) (Cond.code yX6_begins cX6_begins 3 (some Jvm.ClassFile.FieldType.int)) yX6_begins.cls cA D)  (n : Nat) : ∀ (v0 : Nat) (v1 : Int32) (σ : zS) (ls : Array Slot), L[v0]? = some (0, 6) → lv_has ls 3 [(0, .ref (b0 + v0)), (1, .int v1)] → zJ p l e rmX6_begins s m args below meth c b0 cA D L (fun z => MQ below (va_Qi (fun (r : Int32) (u : zS) => (r, u) = z) (zB b0 cA D L) (zA b0 L)) args s 0 0 (zA b0 L)) (fX6_begins_17  n v0 v1 σ) σ 17 ls [] := by
  induction n with
  | zero => intros; exact zj_none
  | succ n ih => exact jX6_begins_17 hC (fX6_begins_17  n) ih
set_option maxRecDepth 100000 in
set_option maxHeartbeats 4000000 in
theorem kX6_begins (l : Launch) (b0 : Nat) (cA : Nat → ClassId) (D : va_G) (L : List (Nat × Nat)) (v0 : Nat) (σ : zS) (hk0 : L[v0]? = some (0, 6)) : zMi l b0 cA D L yX6_begins (Cond.code yX6_begins cX6_begins 3 (some Jvm.ClassFile.FieldType.int)) rmX6_begins [.ref (b0 + v0)] σ (fX6_begins v0 σ) := by
  refine zMi_of (by decide) (Nat.le_of_ble_eq_true rfl) ?_
  intro p e s m below meth c ls hC hl
  have hl : lv_has ls 3 [(0, .ref (b0 + v0))] := hl
  generalize ([.ref (b0 + v0)] : List Value).toArray = args at hC ⊢
  unfold fX6_begins
  refine zj_aload_n (pc' := 1) hC dX6_begins_0 rfl rfl (lv_at hl 0 rfl) ?_
  refine zj_getR (pc' := 4) hC hk0 fd_6_0 rfl tw_1_195 dX6_begins_1 rfl (fun q5 hk_q5 => ?_)
  refine zj_getR (pc' := 7) hC hk_q5 fd_3_0 rfl tw_1_93 dX6_begins_4 rfl (fun q6 hk_q6 => ?_)
  refine zj_getI (pc' := 10) hC hk_q6 fd_2_1 rfl tw_1_64 dX6_begins_7 rfl ?_
  refine zj_if_ne (tgt := 15) (pc' := 13) hC dX6_begins_10 (by decide) rfl (fun c7 => ?_) (fun c7 => ?_)
  · refine zj_iconst (pc' := 16) (v := (0 : Int32)) hC dX6_begins_15 rfl rfl ?_
    refine zj_istore_n (pc' := 17) (lv' := [(1, .int (0 : Int32)), (0, .ref (b0 + v0))]) hC dX6_begins_16 rfl rfl hl (by decide) rfl (fun ls hl => ?_)
    exact lX6_begins_17 hC zFU v0 (0 : Int32) σ ls hk0 (lv_sub hl [1, 0] rfl)
  · refine zj_iconst (pc' := 14) (v := (-1 : Int32)) hC dX6_begins_13 rfl rfl ?_
    exact zj_iret hC dX6_begins_14
-- X6_silent
theorem ddX6_silent : yX6_silent.cls ≠ "java/lang/invoke/MethodHandle" ∧ yX6_silent.cls ≠ "java/lang/invoke/VarHandle" ∧ (parseMethodDescriptor yX6_silent.desc).map (fun d => d.parameters.length) = some 1 := by decide +kernel
abbrev rmX6_silent : Room := { frames := 6, cells := 0, slots := 0, locals := 142 }
def bX6_silent_58  (s0 : Int32) (σ : zS) : Option (Int32 × zS) :=
  zb (fJ6_bitCount_0f7a4 s0 σ) (fun (r2 : Int32) (σ1 : zS) => some (r2, σ1))
def fX6_silent (v0 : Nat) (v1 : Int32) (σ : zS) : Option (Int32 × zS) :=
  zb (fX6_within v1 (0 : Int32) (2 : Int32) σ) (fun (r4 : Int32) (σ3 : zS) => if r4 = 0 then (some ((-1000000 : Int32), σ3)) else (zb (fX6_playUnpaid v0 (0 : Int32) σ3) (fun (_ : Unit) (σ6 : zS) => if v1 = 0 then (bnd (σ6.2 v0 1) (fun (q15 : Nat) => some ((σ6.1 q15 4), σ6))) else (bnd (σ6.2 v0 1) (fun (q9 : Nat) => zb (fX3_heard q9 σ6) (fun (r11 : Int32) (σ10 : zS) => if v1 = (1 : Int32) then (bX6_silent_58 r11 σ10) else (bnd (σ10.2 v0 1) (fun (q13 : Nat) => bnd (σ10.2 q13 0) (fun (q14 : Nat) => bX6_silent_58 ((r11 &&& (σ10.1 q14 2))) σ10)))))))))
set_option maxRecDepth 100000 in
set_option maxHeartbeats 4000000 in
theorem jX6_silent_58 {p : Program} {l : Launch} {e : Env} {s : State} {m : MethodId} {args : Array Value} {below : List Frame} {meth : Method} {c : Code} {b0 : Nat} {cA : Nat → ClassId} {D : va_G} {L : List (Nat × Nat)} (hC : zC p c s m args meth cX6_silent 3 (some Jvm.ClassFile.FieldType.int) (Cond.code yX6_silent cX6_silent 3 (some Jvm.ClassFile.FieldType.int)) yX6_silent.cls cA D)  (s0 : Int32) (σ : zS) (ls : Array Slot)  (hl : lv_has ls 3 []) : zJ p l e rmX6_silent s m args below meth c b0 cA D L (fun z => MQ below (va_Qi (fun (r : Int32) (u : zS) => (r, u) = z) (zB b0 cA D L) (zA b0 L)) args s 0 0 (zA b0 L)) (bX6_silent_58  s0 σ) σ 58 ls [.int s0] := by
  unfold bX6_silent_58
  refine zj_calliS (pc' := 61) (rest := []) hC (kJ6_bitCount_0f7a4 l b0 cA D L s0 σ ) tw_3_68 tw_3_119 tw_3_67 tw_1_15 ddJ6_bitCount_0f7a4 rfl ⟨rfl, rfl⟩ ⟨by decide, by decide⟩ hl.1 (Nat.le_of_ble_eq_true rfl) rfl dX6_silent_58 rfl (fun r2 σ1 => ?_)
  exact zj_iret hC dX6_silent_61
set_option maxRecDepth 100000 in
set_option maxHeartbeats 4000000 in
theorem kX6_silent (l : Launch) (b0 : Nat) (cA : Nat → ClassId) (D : va_G) (L : List (Nat × Nat)) (v0 : Nat) (v1 : Int32) (σ : zS) (hk0 : L[v0]? = some (0, 6)) : zMi l b0 cA D L yX6_silent (Cond.code yX6_silent cX6_silent 3 (some Jvm.ClassFile.FieldType.int)) rmX6_silent [.ref (b0 + v0), .int v1] σ (fX6_silent v0 v1 σ) := by
  refine zMi_of (by decide) (Nat.le_of_ble_eq_true rfl) ?_
  intro p e s m below meth c ls hC hl
  have hl : lv_has ls 3 [(0, .ref (b0 + v0)), (1, .int v1)] := hl
  generalize ([.ref (b0 + v0), .int v1] : List Value).toArray = args at hC ⊢
  unfold fX6_silent
  refine zj_iload_n (pc' := 1) hC dX6_silent_0 rfl rfl (lv_at hl 1 rfl) ?_
  refine zj_iconst (pc' := 2) (v := (0 : Int32)) hC dX6_silent_1 rfl rfl ?_
  refine zj_iconst (pc' := 3) (v := (2 : Int32)) hC dX6_silent_2 rfl rfl ?_
  refine zj_callzS (pc' := 6) (rest := []) hC (kX6_within l b0 cA D L v1 (0 : Int32) (2 : Int32) σ ) tw_2_13 tw_2_11 tw_2_12 tw_1_1 ddX6_within rfl ⟨rfl, rfl⟩ ⟨by decide, by decide⟩ hl.1 (Nat.le_of_ble_eq_true rfl) rfl dX6_silent_3 rfl (fun r4 σ3 hb_r4 => ?_)
  refine zj_if_ne (tgt := 12) (pc' := 9) hC dX6_silent_6 (by decide) rfl (fun c5 => ?_) (fun c5 => ?_)
  · refine zj_aload_n (pc' := 13) hC dX6_silent_12 rfl rfl (lv_at hl 0 rfl) ?_
    refine zj_iconst (pc' := 14) (v := (0 : Int32)) hC dX6_silent_13 rfl rfl ?_
    refine zj_callvV (pc' := 17) (rest := []) hC (kX6_playUnpaid l b0 cA D L v0 (0 : Int32) σ3 hk0) hk0 rfl tw_3_176 tw_3_173 tw_3_175 ts_2_14 tw_1_1 ddX6_playUnpaid rfl ⟨rfl, rfl⟩ ⟨by decide, by decide⟩ hl.1 (Nat.le_of_ble_eq_true rfl) rfl dX6_silent_14 rfl (fun σ6 => ?_)
    refine zj_iload_n (pc' := 18) hC dX6_silent_17 rfl rfl (lv_at hl 1 rfl) ?_
    refine zj_if_ne (tgt := 29) (pc' := 21) hC dX6_silent_18 (by decide) rfl (fun c8 => ?_) (fun c8 => ?_)
    · refine zj_aload_n (pc' := 30) hC dX6_silent_29 rfl rfl (lv_at hl 0 rfl) ?_
      refine zj_getR (pc' := 33) hC hk0 fd_6_1 rfl tw_1_196 dX6_silent_30 rfl (fun q9 hk_q9 => ?_)
      refine zj_calliV (pc' := 36) (rest := []) hC (kX3_heard l b0 cA D L q9 σ6 hk_q9) hk_q9 rfl tw_3_184 tw_3_181 tw_3_182 tw_3_183 tw_1_2 ddX3_heard rfl ⟨rfl, rfl⟩ ⟨by decide, by decide⟩ hl.1 (Nat.le_of_ble_eq_true rfl) rfl dX6_silent_33 rfl (fun r11 σ10 => ?_)
      refine zj_istore_n (pc' := 37) (lv' := [(2, .int r11), (0, .ref (b0 + v0)), (1, .int v1)]) hC dX6_silent_36 rfl rfl hl (by decide) rfl (fun ls hl => ?_)
      refine zj_iload_n (pc' := 38) hC dX6_silent_37 rfl rfl (lv_at hl 2 rfl) ?_
      refine zj_iconst (pc' := 39) (v := (1 : Int32)) hC dX6_silent_38 rfl rfl ?_
      refine zj_icmp_ne (tgt := 46) (pc' := 42) hC dX6_silent_39 (by decide) rfl (fun c12 => ?_) (fun c12 => ?_)
      · refine zj_iload_n (pc' := 47) hC dX6_silent_46 rfl rfl (lv_at hl 0 rfl) ?_
        refine zj_aload_n (pc' := 48) hC dX6_silent_47 rfl rfl (lv_at hl 1 rfl) ?_
        refine zj_getR (pc' := 51) hC hk0 fd_6_1 rfl tw_1_196 dX6_silent_48 rfl (fun q13 hk_q13 => ?_)
        refine zj_getR (pc' := 54) hC hk_q13 fd_3_0 rfl tw_1_93 dX6_silent_51 rfl (fun q14 hk_q14 => ?_)
        refine zj_getI (pc' := 57) hC hk_q14 fd_2_2 rfl tw_1_68 dX6_silent_54 rfl ?_
        refine zj_iand (pc' := 58) hC dX6_silent_57 rfl ?_
        exact jX6_silent_58 hC ((r11 &&& (σ10.1 q14 2))) σ10 ls  (lv_sub hl [] rfl)
      · refine zj_iload_n (pc' := 43) hC dX6_silent_42 rfl rfl (lv_at hl 0 rfl) ?_
        refine zj_goto (tgt := 58) hC dX6_silent_43 (by decide) ?_
        exact jX6_silent_58 hC r11 σ10 ls  (lv_sub hl [] rfl)
    · refine zj_aload_n (pc' := 22) hC dX6_silent_21 rfl rfl (lv_at hl 0 rfl) ?_
      refine zj_getR (pc' := 25) hC hk0 fd_6_1 rfl tw_1_196 dX6_silent_22 rfl (fun q15 hk_q15 => ?_)
      refine zj_getI (pc' := 28) hC hk_q15 fd_3_4 rfl tw_1_101 dX6_silent_25 rfl ?_
      exact zj_iret hC dX6_silent_28
  · refine zj_ldc (pc' := 11) (v := (-1000000 : Int32)) hC tw_3_140 dX6_silent_9 rfl ?_
    exact zj_iret hC dX6_silent_11
-- X6_table
theorem ddX6_table : yX6_table.cls ≠ "java/lang/invoke/MethodHandle" ∧ yX6_table.cls ≠ "java/lang/invoke/VarHandle" ∧ (parseMethodDescriptor yX6_table.desc).map (fun d => d.parameters.length) = some 4 := by decide +kernel
abbrev rmX6_table : Room := { frames := 1, cells := 0, slots := 0, locals := 22 }
def bX6_table_58  (v2 : Int32) (v3 : Int32) (v4 : Int32) (s0 : Nat) (σ : zS) : Option (Int32 × zS) :=
  zX (((5 : Int32) * v2) + v3) 25 (bnd (zI σ s0 ((((5 : Int32) * v2) + v3)).toNatClampNeg v4) (fun (σ2 : zS) => some ((1 : Int32), σ2)))
def fX6_table (v0 : Nat) (v1 : Int32) (v2 : Int32) (v3 : Int32) (v4 : Int32) (σ : zS) : Option (Int32 × zS) :=
  zb (fX6_within v1 (0 : Int32) (1 : Int32) σ) (fun (r4 : Int32) (σ3 : zS) => if r4 = 0 then (some ((0 : Int32), σ3)) else (zb (fX6_within v2 (0 : Int32) (4 : Int32) σ3) (fun (r7 : Int32) (σ6 : zS) => if r7 = 0 then (some ((0 : Int32), σ6)) else (zb (fX6_within v3 (0 : Int32) (4 : Int32) σ6) (fun (r10 : Int32) (σ9 : zS) => if r10 = 0 then (some ((0 : Int32), σ9)) else (zb (fX6_within v4 (-1000 : Int32) (1000 : Int32) σ9) (fun (r13 : Int32) (σ12 : zS) => if r13 = 0 then (some ((0 : Int32), σ12)) else (if v1 = 0 then (bnd (σ12.2 v0 15) (fun (q17 : Nat) => bX6_table_58 v2 v3 v4 q17 σ12)) else (bnd (σ12.2 v0 16) (fun (q16 : Nat) => bX6_table_58 v2 v3 v4 q16 σ12))))))))))
set_option maxRecDepth 100000 in
set_option maxHeartbeats 4000000 in
theorem jX6_table_58 {p : Program} {l : Launch} {e : Env} {s : State} {m : MethodId} {args : Array Value} {below : List Frame} {meth : Method} {c : Code} {b0 : Nat} {cA : Nat → ClassId} {D : va_G} {L : List (Nat × Nat)} (hC : zC p c s m args meth cX6_table 6 (some Jvm.ClassFile.FieldType.boolean) (Cond.code yX6_table cX6_table 6 (some Jvm.ClassFile.FieldType.boolean)) yX6_table.cls cA D)  (v2 : Int32) (v3 : Int32) (v4 : Int32) (s0 : Nat) (σ : zS) (ls : Array Slot) (hk_s0 : L[s0]? = some (1, 25)) (hl : lv_has ls 6 [(2, .int v2), (3, .int v3), (4, .int v4)]) : zJ p l e rmX6_table s m args below meth c b0 cA D L (fun z => MQ below (va_Qi (fun (r : Int32) (u : zS) => (r, u) = z ∧ nB r) (zB b0 cA D L) (zA b0 L)) args s 0 0 (zA b0 L)) (bX6_table_58  v2 v3 v4 s0 σ) σ 58 ls [.ref (b0 + s0)] := by
  unfold bX6_table_58
  refine zj_astore (pc' := 60) (lv' := [(5, .ref (b0 + s0)), (2, .int v2), (3, .int v3), (4, .int v4)]) hC dX6_table_58 rfl hl (by decide) rfl (fun ls hl => ?_)
  refine zj_aload (pc' := 62) hC dX6_table_60 rfl (lv_at hl 0 rfl) ?_
  refine zj_iconst (pc' := 63) (v := (5 : Int32)) hC dX6_table_62 rfl rfl ?_
  refine zj_iload_n (pc' := 64) hC dX6_table_63 rfl rfl (lv_at hl 1 rfl) ?_
  refine zj_imul (pc' := 65) hC dX6_table_64 rfl ?_
  refine zj_iload_n (pc' := 66) hC dX6_table_65 rfl rfl (lv_at hl 2 rfl) ?_
  refine zj_iadd (pc' := 67) hC dX6_table_66 rfl ?_
  refine zj_iload (pc' := 69) hC dX6_table_67 rfl (lv_at hl 3 rfl) ?_
  refine zj_iast (pc' := 70) hC hk_s0 dX6_table_69 rfl (fun g1 σ2 => ?_)
  refine zj_iconst (pc' := 71) (v := (1 : Int32)) hC dX6_table_70 rfl rfl ?_
  exact zj_zret hC nB_1 dX6_table_71
set_option maxRecDepth 100000 in
set_option maxHeartbeats 4000000 in
theorem kX6_table (l : Launch) (b0 : Nat) (cA : Nat → ClassId) (D : va_G) (L : List (Nat × Nat)) (v0 : Nat) (v1 : Int32) (v2 : Int32) (v3 : Int32) (v4 : Int32) (σ : zS) (hk0 : L[v0]? = some (0, 6)) : zMz l b0 cA D L yX6_table (Cond.code yX6_table cX6_table 6 (some Jvm.ClassFile.FieldType.boolean)) rmX6_table [.ref (b0 + v0), .int v1, .int v2, .int v3, .int v4] σ (fX6_table v0 v1 v2 v3 v4 σ) := by
  refine zMz_of (by decide) (Nat.le_of_ble_eq_true rfl) ?_
  intro p e s m below meth c ls hC hl
  have hl : lv_has ls 6 [(0, .ref (b0 + v0)), (1, .int v1), (2, .int v2), (3, .int v3), (4, .int v4)] := hl
  generalize ([.ref (b0 + v0), .int v1, .int v2, .int v3, .int v4] : List Value).toArray = args at hC ⊢
  unfold fX6_table
  refine zj_iload_n (pc' := 1) hC dX6_table_0 rfl rfl (lv_at hl 1 rfl) ?_
  refine zj_iconst (pc' := 2) (v := (0 : Int32)) hC dX6_table_1 rfl rfl ?_
  refine zj_iconst (pc' := 3) (v := (1 : Int32)) hC dX6_table_2 rfl rfl ?_
  refine zj_callzS (pc' := 6) (rest := []) hC (kX6_within l b0 cA D L v1 (0 : Int32) (1 : Int32) σ ) tw_2_13 tw_2_11 tw_2_12 tw_1_1 ddX6_within rfl ⟨rfl, rfl⟩ ⟨by decide, by decide⟩ hl.1 (Nat.le_of_ble_eq_true rfl) rfl dX6_table_3 rfl (fun r4 σ3 hb_r4 => ?_)
  refine zj_if_eq (tgt := 41) (pc' := 9) hC dX6_table_6 (by decide) rfl (fun c5 => ?_) (fun c5 => ?_)
  · refine zj_iconst (pc' := 42) (v := (0 : Int32)) hC dX6_table_41 rfl rfl ?_
    exact zj_zret hC nB_0 dX6_table_42
  · refine zj_iload_n (pc' := 10) hC dX6_table_9 rfl rfl (lv_at hl 2 rfl) ?_
    refine zj_iconst (pc' := 11) (v := (0 : Int32)) hC dX6_table_10 rfl rfl ?_
    refine zj_iconst (pc' := 12) (v := (4 : Int32)) hC dX6_table_11 rfl rfl ?_
    refine zj_callzS (pc' := 15) (rest := []) hC (kX6_within l b0 cA D L v2 (0 : Int32) (4 : Int32) σ3 ) tw_2_13 tw_2_11 tw_2_12 tw_1_1 ddX6_within rfl ⟨rfl, rfl⟩ ⟨by decide, by decide⟩ hl.1 (Nat.le_of_ble_eq_true rfl) rfl dX6_table_12 rfl (fun r7 σ6 hb_r7 => ?_)
    refine zj_if_eq (tgt := 41) (pc' := 18) hC dX6_table_15 (by decide) rfl (fun c8 => ?_) (fun c8 => ?_)
    · refine zj_iconst (pc' := 42) (v := (0 : Int32)) hC dX6_table_41 rfl rfl ?_
      exact zj_zret hC nB_0 dX6_table_42
    · refine zj_iload_n (pc' := 19) hC dX6_table_18 rfl rfl (lv_at hl 3 rfl) ?_
      refine zj_iconst (pc' := 20) (v := (0 : Int32)) hC dX6_table_19 rfl rfl ?_
      refine zj_iconst (pc' := 21) (v := (4 : Int32)) hC dX6_table_20 rfl rfl ?_
      refine zj_callzS (pc' := 24) (rest := []) hC (kX6_within l b0 cA D L v3 (0 : Int32) (4 : Int32) σ6 ) tw_2_13 tw_2_11 tw_2_12 tw_1_1 ddX6_within rfl ⟨rfl, rfl⟩ ⟨by decide, by decide⟩ hl.1 (Nat.le_of_ble_eq_true rfl) rfl dX6_table_21 rfl (fun r10 σ9 hb_r10 => ?_)
      refine zj_if_eq (tgt := 41) (pc' := 27) hC dX6_table_24 (by decide) rfl (fun c11 => ?_) (fun c11 => ?_)
      · refine zj_iconst (pc' := 42) (v := (0 : Int32)) hC dX6_table_41 rfl rfl ?_
        exact zj_zret hC nB_0 dX6_table_42
      · refine zj_iload (pc' := 29) hC dX6_table_27 rfl (lv_at hl 4 rfl) ?_
        refine zj_sipush (pc' := 32) (v := (-1000 : Int32)) hC dX6_table_29 rfl rfl ?_
        refine zj_sipush (pc' := 35) (v := (1000 : Int32)) hC dX6_table_32 rfl rfl ?_
        refine zj_callzS (pc' := 38) (rest := []) hC (kX6_within l b0 cA D L v4 (-1000 : Int32) (1000 : Int32) σ9 ) tw_2_13 tw_2_11 tw_2_12 tw_1_1 ddX6_within rfl ⟨rfl, rfl⟩ ⟨by decide, by decide⟩ hl.1 (Nat.le_of_ble_eq_true rfl) rfl dX6_table_35 rfl (fun r13 σ12 hb_r13 => ?_)
        refine zj_if_ne (tgt := 43) (pc' := 41) hC dX6_table_38 (by decide) rfl (fun c14 => ?_) (fun c14 => ?_)
        · refine zj_iload_n (pc' := 44) hC dX6_table_43 rfl rfl (lv_at hl 1 rfl) ?_
          refine zj_if_ne (tgt := 54) (pc' := 47) hC dX6_table_44 (by decide) rfl (fun c15 => ?_) (fun c15 => ?_)
          · refine zj_aload_n (pc' := 55) hC dX6_table_54 rfl rfl (lv_at hl 0 rfl) ?_
            refine zj_getR (pc' := 58) hC hk0 fd_6_16 rfl tw_1_211 dX6_table_55 rfl (fun q16 hk_q16 => ?_)
            exact jX6_table_58 hC v2 v3 v4 q16 σ12 ls hk_q16 (lv_sub hl [2, 3, 4] rfl)
          · refine zj_aload_n (pc' := 48) hC dX6_table_47 rfl rfl (lv_at hl 0 rfl) ?_
            refine zj_getR (pc' := 51) hC hk0 fd_6_15 rfl tw_1_210 dX6_table_48 rfl (fun q17 hk_q17 => ?_)
            refine zj_goto (tgt := 58) hC dX6_table_51 (by decide) ?_
            exact jX6_table_58 hC v2 v3 v4 q17 σ12 ls hk_q17 (lv_sub hl [2, 3, 4] rfl)
        · refine zj_iconst (pc' := 42) (v := (0 : Int32)) hC dX6_table_41 rfl rfl ?_
          exact zj_zret hC nB_0 dX6_table_42
-- X6_sumAt
theorem ddX6_sumAt : yX6_sumAt.cls ≠ "java/lang/invoke/MethodHandle" ∧ yX6_sumAt.cls ≠ "java/lang/invoke/VarHandle" ∧ (parseMethodDescriptor yX6_sumAt.desc).map (fun d => d.parameters.length) = some 3 := by decide +kernel
abbrev rmX6_sumAt : Room := { frames := 0, cells := 0, slots := 0, locals := 0 }
def fX6_sumAt (v0 : Nat) (v1 : Int32) (v2 : Int32) (σ : zS) : Option (Int32 × zS) :=
  bnd ((((5 : Int32) * v1) + v2)) (fun (x1 : Int32) => if x1 < 0 then (some ((0 : Int32), σ)) else (if (25 : Int32) ≤ x1 then (some ((0 : Int32), σ)) else (zX x1 25 (some ((σ.1 v0 (x1).toNatClampNeg), σ)))))
set_option maxRecDepth 100000 in
set_option maxHeartbeats 4000000 in
theorem kX6_sumAt (l : Launch) (b0 : Nat) (cA : Nat → ClassId) (D : va_G) (L : List (Nat × Nat)) (v0 : Nat) (v1 : Int32) (v2 : Int32) (σ : zS) (hk0 : L[v0]? = some (1, 25)) : zMi l b0 cA D L yX6_sumAt (Cond.code yX6_sumAt cX6_sumAt 4 (some Jvm.ClassFile.FieldType.int)) rmX6_sumAt [.ref (b0 + v0), .int v1, .int v2] σ (fX6_sumAt v0 v1 v2 σ) := by
  refine zMi_of (by decide) (Nat.le_of_ble_eq_true rfl) ?_
  intro p e s m below meth c ls hC hl
  have hl : lv_has ls 4 [(0, .ref (b0 + v0)), (1, .int v1), (2, .int v2)] := hl
  generalize ([.ref (b0 + v0), .int v1, .int v2] : List Value).toArray = args at hC ⊢
  unfold fX6_sumAt
  refine zj_iconst (pc' := 1) (v := (5 : Int32)) hC dX6_sumAt_0 rfl rfl ?_
  refine zj_iload_n (pc' := 2) hC dX6_sumAt_1 rfl rfl (lv_at hl 1 rfl) ?_
  refine zj_imul (pc' := 3) hC dX6_sumAt_2 rfl ?_
  refine zj_iload_n (pc' := 4) hC dX6_sumAt_3 rfl rfl (lv_at hl 2 rfl) ?_
  refine zj_iadd (pc' := 5) hC dX6_sumAt_4 rfl ?_
  refine zj_nmi (fun x1 => ?_)
  refine zj_istore_n (pc' := 6) (lv' := [(3, .int x1), (0, .ref (b0 + v0)), (1, .int v1), (2, .int v2)]) hC dX6_sumAt_5 rfl rfl hl (by decide) rfl (fun ls hl => ?_)
  refine zj_iload_n (pc' := 7) hC dX6_sumAt_6 rfl rfl (lv_at hl 0 rfl) ?_
  refine zj_if_lt (tgt := 22) (pc' := 10) hC dX6_sumAt_7 (by decide) rfl (fun c2 => ?_) (fun c2 => ?_)
  · refine zj_iconst (pc' := 23) (v := (0 : Int32)) hC dX6_sumAt_22 rfl rfl ?_
    exact zj_iret hC dX6_sumAt_23
  · refine zj_iload_n (pc' := 11) hC dX6_sumAt_10 rfl rfl (lv_at hl 0 rfl) ?_
    refine zj_aload_n (pc' := 12) hC dX6_sumAt_11 rfl rfl (lv_at hl 1 rfl) ?_
    refine zj_alen (pc' := 13) (v := (25 : Int32)) hC hk0 (by decide) rfl dX6_sumAt_12 rfl ?_
    refine zj_icmp_ge (tgt := 22) (pc' := 16) hC dX6_sumAt_13 (by decide) rfl (fun c3 => ?_) (fun c3 => ?_)
    · refine zj_iconst (pc' := 23) (v := (0 : Int32)) hC dX6_sumAt_22 rfl rfl ?_
      exact zj_iret hC dX6_sumAt_23
    · refine zj_aload_n (pc' := 17) hC dX6_sumAt_16 rfl rfl (lv_at hl 1 rfl) ?_
      refine zj_iload_n (pc' := 18) hC dX6_sumAt_17 rfl rfl (lv_at hl 0 rfl) ?_
      refine zj_iald (pc' := 19) hC hk0 dX6_sumAt_18 rfl (fun g4 => ?_)
      refine zj_goto (tgt := 23) hC dX6_sumAt_19 (by decide) ?_
      exact zj_iret hC dX6_sumAt_23
-- X6_atRest
theorem ddX6_atRest : yX6_atRest.cls ≠ "java/lang/invoke/MethodHandle" ∧ yX6_atRest.cls ≠ "java/lang/invoke/VarHandle" ∧ (parseMethodDescriptor yX6_atRest.desc).map (fun d => d.parameters.length) = some 3 := by decide +kernel
abbrev rmX6_atRest : Room := { frames := 1, cells := 0, slots := 0, locals := 23 }
def bX6_atRest_25 (k25 : Nat → Int32 → Int32 → Int32 → Int32 → Int32 → Int32 → zS → Option (Int32 × zS)) (v0 : Nat) (v1 : Int32) (v2 : Int32) (v3 : Int32) (v4 : Int32) (v5 : Int32) (v6 : Int32) (σ : zS) : Option (Int32 × zS) :=
  if v3 ≤ v6 then (some ((1 : Int32), σ)) else (bnd (σ.2 v0 15) (fun (q2 : Nat) => zb (fX6_sumAt q2 v6 v2 σ) (fun (r4 : Int32) (σ3 : zS) => if v4 < r4 then (some ((0 : Int32), σ3)) else (bnd (σ3.2 v0 16) (fun (q6 : Nat) => zb (fX6_sumAt q6 v1 v6 σ3) (fun (r8 : Int32) (σ7 : zS) => if r8 ≤ v5 then (k25 v0 v1 v2 v3 v4 v5 ((v6 + (1 : Int32))) σ7) else (some ((0 : Int32), σ7))))))))
def fX6_atRest_25  : Nat → Nat → Int32 → Int32 → Int32 → Int32 → Int32 → Int32 → zS → Option (Int32 × zS)
  | 0, _, _, _, _, _, _, _, _ => none
  | n + 1, v0, v1, v2, v3, v4, v5, v6, σ => bX6_atRest_25 (fX6_atRest_25  n) v0 v1 v2 v3 v4 v5 v6 σ
def fX6_atRest (v0 : Nat) (v1 : Int32) (v2 : Int32) (v3 : Int32) (σ : zS) : Option (Int32 × zS) :=
  bnd (σ.2 v0 15) (fun (q10 : Nat) => zb (fX6_sumAt q10 v1 v2 σ) (fun (r12 : Int32) (σ11 : zS) => bnd (σ11.2 v0 16) (fun (q13 : Nat) => zb (fX6_sumAt q13 v1 v2 σ11) (fun (r15 : Int32) (σ14 : zS) => fX6_atRest_25 zFU v0 v1 v2 v3 r12 r15 (0 : Int32) σ14))))
set_option maxRecDepth 100000 in
set_option maxHeartbeats 4000000 in
theorem jX6_atRest_25 {p : Program} {l : Launch} {e : Env} {s : State} {m : MethodId} {args : Array Value} {below : List Frame} {meth : Method} {c : Code} {b0 : Nat} {cA : Nat → ClassId} {D : va_G} {L : List (Nat × Nat)} (hC : zC p c s m args meth cX6_atRest 7 (some Jvm.ClassFile.FieldType.boolean) (Cond.code yX6_atRest cX6_atRest 7 (some Jvm.ClassFile.FieldType.boolean)) yX6_atRest.cls cA D) (k25 : Nat → Int32 → Int32 → Int32 → Int32 → Int32 → Int32 → zS → Option (Int32 × zS)) (h25 : ∀ (v0 : Nat) (v1 : Int32) (v2 : Int32) (v3 : Int32) (v4 : Int32) (v5 : Int32) (v6 : Int32) (σ : zS) (ls : Array Slot), L[v0]? = some (0, 6) → lv_has ls 7 [(0, .ref (b0 + v0)), (1, .int v1), (2, .int v2), (3, .int v3), (4, .int v4), (5, .int v5), (6, .int v6)] → zJ p l e rmX6_atRest s m args below meth c b0 cA D L (fun z => MQ below (va_Qi (fun (r : Int32) (u : zS) => (r, u) = z ∧ nB r) (zB b0 cA D L) (zA b0 L)) args s 0 0 (zA b0 L)) (k25 v0 v1 v2 v3 v4 v5 v6 σ) σ 25 ls []) (v0 : Nat) (v1 : Int32) (v2 : Int32) (v3 : Int32) (v4 : Int32) (v5 : Int32) (v6 : Int32) (σ : zS) (ls : Array Slot) (hk_v0 : L[v0]? = some (0, 6)) (hl : lv_has ls 7 [(0, .ref (b0 + v0)), (1, .int v1), (2, .int v2), (3, .int v3), (4, .int v4), (5, .int v5), (6, .int v6)]) : zJ p l e rmX6_atRest s m args below meth c b0 cA D L (fun z => MQ below (va_Qi (fun (r : Int32) (u : zS) => (r, u) = z ∧ nB r) (zB b0 cA D L) (zA b0 L)) args s 0 0 (zA b0 L)) (bX6_atRest_25 k25 v0 v1 v2 v3 v4 v5 v6 σ) σ 25 ls [] := by
  unfold bX6_atRest_25
  refine zj_iload (pc' := 27) hC dX6_atRest_25 rfl (lv_at hl 6 rfl) ?_
  refine zj_iload_n (pc' := 28) hC dX6_atRest_27 rfl rfl (lv_at hl 3 rfl) ?_
  refine zj_icmp_ge (tgt := 69) (pc' := 31) hC dX6_atRest_28 (by decide) rfl (fun c1 => ?_) (fun c1 => ?_)
  · refine zj_iconst (pc' := 70) (v := (1 : Int32)) hC dX6_atRest_69 rfl rfl ?_
    exact zj_zret hC nB_1 dX6_atRest_70
  · refine zj_aload_n (pc' := 32) hC dX6_atRest_31 rfl rfl (lv_at hl 0 rfl) ?_
    refine zj_getR (pc' := 35) hC hk_v0 fd_6_15 rfl tw_1_210 dX6_atRest_32 rfl (fun q2 hk_q2 => ?_)
    refine zj_iload (pc' := 37) hC dX6_atRest_35 rfl (lv_at hl 6 rfl) ?_
    refine zj_iload_n (pc' := 38) hC dX6_atRest_37 rfl rfl (lv_at hl 2 rfl) ?_
    refine zj_calliS (pc' := 41) (rest := []) hC (kX6_sumAt l b0 cA D L q2 v6 v2 σ hk_q2) tw_3_199 tw_3_197 tw_3_198 tw_1_1 ddX6_sumAt rfl ⟨rfl, rfl⟩ ⟨by decide, by decide⟩ hl.1 (Nat.le_of_ble_eq_true rfl) rfl dX6_atRest_38 rfl (fun r4 σ3 => ?_)
    refine zj_iload (pc' := 43) hC dX6_atRest_41 rfl (lv_at hl 4 rfl) ?_
    refine zj_icmp_gt (tgt := 61) (pc' := 46) hC dX6_atRest_43 (by decide) rfl (fun c5 => ?_) (fun c5 => ?_)
    · refine zj_iconst (pc' := 62) (v := (0 : Int32)) hC dX6_atRest_61 rfl rfl ?_
      exact zj_zret hC nB_0 dX6_atRest_62
    · refine zj_aload_n (pc' := 47) hC dX6_atRest_46 rfl rfl (lv_at hl 0 rfl) ?_
      refine zj_getR (pc' := 50) hC hk_v0 fd_6_16 rfl tw_1_211 dX6_atRest_47 rfl (fun q6 hk_q6 => ?_)
      refine zj_iload_n (pc' := 51) hC dX6_atRest_50 rfl rfl (lv_at hl 1 rfl) ?_
      refine zj_iload (pc' := 53) hC dX6_atRest_51 rfl (lv_at hl 6 rfl) ?_
      refine zj_calliS (pc' := 56) (rest := []) hC (kX6_sumAt l b0 cA D L q6 v1 v6 σ3 hk_q6) tw_3_199 tw_3_197 tw_3_198 tw_1_1 ddX6_sumAt rfl ⟨rfl, rfl⟩ ⟨by decide, by decide⟩ hl.1 (Nat.le_of_ble_eq_true rfl) rfl dX6_atRest_53 rfl (fun r8 σ7 => ?_)
      refine zj_iload (pc' := 58) hC dX6_atRest_56 rfl (lv_at hl 5 rfl) ?_
      refine zj_icmp_le (tgt := 63) (pc' := 61) hC dX6_atRest_58 (by decide) rfl (fun c9 => ?_) (fun c9 => ?_)
      · refine zj_iinc (pc' := 66) (k0 := 6) (v := (v6 + (1 : Int32))) (lv' := [(6, .int (v6 + (1 : Int32))), (0, .ref (b0 + v0)), (1, .int v1), (2, .int v2), (3, .int v3), (4, .int v4), (5, .int v5)]) hC dX6_atRest_63 rfl hl rfl rfl (by decide) rfl (fun ls hl => ?_)
        refine zj_goto (tgt := 25) hC dX6_atRest_66 (by decide) ?_
        exact h25 v0 v1 v2 v3 v4 v5 ((v6 + (1 : Int32))) σ7 ls hk_v0 (lv_sub hl [1, 2, 3, 4, 5, 6, 0] rfl)
      · refine zj_iconst (pc' := 62) (v := (0 : Int32)) hC dX6_atRest_61 rfl rfl ?_
        exact zj_zret hC nB_0 dX6_atRest_62
set_option maxRecDepth 100000 in
set_option maxHeartbeats 4000000 in
theorem lX6_atRest_25 {p : Program} {l : Launch} {e : Env} {s : State} {m : MethodId} {args : Array Value} {below : List Frame} {meth : Method} {c : Code} {b0 : Nat} {cA : Nat → ClassId} {D : va_G} {L : List (Nat × Nat)} (hC : zC p c s m args meth cX6_atRest 7 (some Jvm.ClassFile.FieldType.boolean) (Cond.code yX6_atRest cX6_atRest 7 (some Jvm.ClassFile.FieldType.boolean)) yX6_atRest.cls cA D)  (n : Nat) : ∀ (v0 : Nat) (v1 : Int32) (v2 : Int32) (v3 : Int32) (v4 : Int32) (v5 : Int32) (v6 : Int32) (σ : zS) (ls : Array Slot), L[v0]? = some (0, 6) → lv_has ls 7 [(0, .ref (b0 + v0)), (1, .int v1), (2, .int v2), (3, .int v3), (4, .int v4), (5, .int v5), (6, .int v6)] → zJ p l e rmX6_atRest s m args below meth c b0 cA D L (fun z => MQ below (va_Qi (fun (r : Int32) (u : zS) => (r, u) = z ∧ nB r) (zB b0 cA D L) (zA b0 L)) args s 0 0 (zA b0 L)) (fX6_atRest_25  n v0 v1 v2 v3 v4 v5 v6 σ) σ 25 ls [] := by
  induction n with
  | zero => intros; exact zj_none
  | succ n ih => exact jX6_atRest_25 hC (fX6_atRest_25  n) ih
set_option maxRecDepth 100000 in
set_option maxHeartbeats 4000000 in
theorem kX6_atRest (l : Launch) (b0 : Nat) (cA : Nat → ClassId) (D : va_G) (L : List (Nat × Nat)) (v0 : Nat) (v1 : Int32) (v2 : Int32) (v3 : Int32) (σ : zS) (hk0 : L[v0]? = some (0, 6)) : zMz l b0 cA D L yX6_atRest (Cond.code yX6_atRest cX6_atRest 7 (some Jvm.ClassFile.FieldType.boolean)) rmX6_atRest [.ref (b0 + v0), .int v1, .int v2, .int v3] σ (fX6_atRest v0 v1 v2 v3 σ) := by
  refine zMz_of (by decide) (Nat.le_of_ble_eq_true rfl) ?_
  intro p e s m below meth c ls hC hl
  have hl : lv_has ls 7 [(0, .ref (b0 + v0)), (1, .int v1), (2, .int v2), (3, .int v3)] := hl
  generalize ([.ref (b0 + v0), .int v1, .int v2, .int v3] : List Value).toArray = args at hC ⊢
  unfold fX6_atRest
  refine zj_aload_n (pc' := 1) hC dX6_atRest_0 rfl rfl (lv_at hl 0 rfl) ?_
  refine zj_getR (pc' := 4) hC hk0 fd_6_15 rfl tw_1_210 dX6_atRest_1 rfl (fun q10 hk_q10 => ?_)
  refine zj_iload_n (pc' := 5) hC dX6_atRest_4 rfl rfl (lv_at hl 1 rfl) ?_
  refine zj_iload_n (pc' := 6) hC dX6_atRest_5 rfl rfl (lv_at hl 2 rfl) ?_
  refine zj_calliS (pc' := 9) (rest := []) hC (kX6_sumAt l b0 cA D L q10 v1 v2 σ hk_q10) tw_3_199 tw_3_197 tw_3_198 tw_1_1 ddX6_sumAt rfl ⟨rfl, rfl⟩ ⟨by decide, by decide⟩ hl.1 (Nat.le_of_ble_eq_true rfl) rfl dX6_atRest_6 rfl (fun r12 σ11 => ?_)
  refine zj_istore (pc' := 11) (lv' := [(4, .int r12), (0, .ref (b0 + v0)), (1, .int v1), (2, .int v2), (3, .int v3)]) hC dX6_atRest_9 rfl hl (by decide) rfl (fun ls hl => ?_)
  refine zj_aload_n (pc' := 12) hC dX6_atRest_11 rfl rfl (lv_at hl 1 rfl) ?_
  refine zj_getR (pc' := 15) hC hk0 fd_6_16 rfl tw_1_211 dX6_atRest_12 rfl (fun q13 hk_q13 => ?_)
  refine zj_iload_n (pc' := 16) hC dX6_atRest_15 rfl rfl (lv_at hl 2 rfl) ?_
  refine zj_iload_n (pc' := 17) hC dX6_atRest_16 rfl rfl (lv_at hl 3 rfl) ?_
  refine zj_calliS (pc' := 20) (rest := []) hC (kX6_sumAt l b0 cA D L q13 v1 v2 σ11 hk_q13) tw_3_199 tw_3_197 tw_3_198 tw_1_1 ddX6_sumAt rfl ⟨rfl, rfl⟩ ⟨by decide, by decide⟩ hl.1 (Nat.le_of_ble_eq_true rfl) rfl dX6_atRest_17 rfl (fun r15 σ14 => ?_)
  refine zj_istore (pc' := 22) (lv' := [(5, .int r15), (4, .int r12), (0, .ref (b0 + v0)), (1, .int v1), (2, .int v2), (3, .int v3)]) hC dX6_atRest_20 rfl hl (by decide) rfl (fun ls hl => ?_)
  refine zj_iconst (pc' := 23) (v := (0 : Int32)) hC dX6_atRest_22 rfl rfl ?_
  refine zj_istore (pc' := 25) (lv' := [(6, .int (0 : Int32)), (5, .int r15), (4, .int r12), (0, .ref (b0 + v0)), (1, .int v1), (2, .int v2), (3, .int v3)]) hC dX6_atRest_23 rfl hl (by decide) rfl (fun ls hl => ?_)
  exact lX6_atRest_25 hC zFU v0 v1 v2 v3 r12 r15 (0 : Int32) σ14 ls hk0 (lv_sub hl [3, 4, 5, 6, 2, 1, 0] rfl)
-- X6_rests
theorem ddX6_rests : yX6_rests.cls ≠ "java/lang/invoke/MethodHandle" ∧ yX6_rests.cls ≠ "java/lang/invoke/VarHandle" ∧ (parseMethodDescriptor yX6_rests.desc).map (fun d => d.parameters.length) = some 2 := by decide +kernel
abbrev rmX6_rests : Room := { frames := 2, cells := 0, slots := 0, locals := 49 }
def bX6_rests_79  (v2 : Int32) (v3 : Int32) (σ : zS) : Option (Int32 × zS) :=
  if v2 = (-1 : Int32) then (some (v3, σ)) else (some ((-1 : Int32), σ))
def bX6_rests_73 (k21 : Nat → Int32 → Int32 → Int32 → Int32 → zS → Option (Int32 × zS)) (v0 : Nat) (v1 : Int32) (v2 : Int32) (v3 : Int32) (v4 : Int32) (σ : zS) : Option (Int32 × zS) :=
  k21 v0 v1 v2 v3 ((v4 + (1 : Int32))) σ
def bX6_rests_67 (k30 : Nat → Int32 → Int32 → Int32 → Int32 → Int32 → zS → Option (Int32 × zS)) (v0 : Nat) (v1 : Int32) (v2 : Int32) (v3 : Int32) (v4 : Int32) (v5 : Int32) (σ : zS) : Option (Int32 × zS) :=
  k30 v0 v1 v2 v3 v4 ((v5 + (1 : Int32))) σ
def bX6_rests_56  (v4 : Int32) (v5 : Int32) (σ : zS) : Option (Int32 × zS) :=
  some ((((5 : Int32) * v4) + v5), σ)
def bX6_rests_30 (k21 : Nat → Int32 → Int32 → Int32 → Int32 → zS → Option (Int32 × zS)) (k30 : Nat → Int32 → Int32 → Int32 → Int32 → Int32 → zS → Option (Int32 × zS)) (v0 : Nat) (v1 : Int32) (v2 : Int32) (v3 : Int32) (v4 : Int32) (v5 : Int32) (σ : zS) : Option (Int32 × zS) :=
  if v1 ≤ v5 then (bX6_rests_73 k21 v0 v1 v2 v3 v4 σ) else (zb (fX6_atRest v0 v4 v5 v1 σ) (fun (r4 : Int32) (σ3 : zS) => if r4 = 0 then (bX6_rests_67 k30 v0 v1 v2 v3 v4 v5 σ3) else (if v3 = v2 then (bX6_rests_56 v4 v5 σ3) else (bX6_rests_67 k30 v0 v1 v2 ((v3 + (1 : Int32))) v4 v5 σ3))))
def fX6_rests_30 (k21 : Nat → Int32 → Int32 → Int32 → Int32 → zS → Option (Int32 × zS)) : Nat → Nat → Int32 → Int32 → Int32 → Int32 → Int32 → zS → Option (Int32 × zS)
  | 0, _, _, _, _, _, _, _ => none
  | n + 1, v0, v1, v2, v3, v4, v5, σ => bX6_rests_30 k21 (fX6_rests_30 k21 n) v0 v1 v2 v3 v4 v5 σ
def bX6_rests_21 (k21 : Nat → Int32 → Int32 → Int32 → Int32 → zS → Option (Int32 × zS)) (v0 : Nat) (v1 : Int32) (v2 : Int32) (v3 : Int32) (v4 : Int32) (σ : zS) : Option (Int32 × zS) :=
  if v1 ≤ v4 then (bX6_rests_79 v2 v3 σ) else (fX6_rests_30 k21 zFU v0 v1 v2 v3 v4 (0 : Int32) σ)
def fX6_rests_21  : Nat → Nat → Int32 → Int32 → Int32 → Int32 → zS → Option (Int32 × zS)
  | 0, _, _, _, _, _, _ => none
  | n + 1, v0, v1, v2, v3, v4, σ => bX6_rests_21 (fX6_rests_21  n) v0 v1 v2 v3 v4 σ
def fX6_rests (v0 : Nat) (v1 : Int32) (v2 : Int32) (σ : zS) : Option (Int32 × zS) :=
  zb (fX6_within v1 (2 : Int32) (5 : Int32) σ) (fun (r9 : Int32) (σ8 : zS) => if r9 = 0 then (some ((-1 : Int32), σ8)) else (if (-1 : Int32) ≤ v2 then (fX6_rests_21 zFU v0 v1 v2 (0 : Int32) (0 : Int32) σ8) else (some ((-1 : Int32), σ8))))
set_option maxRecDepth 100000 in
set_option maxHeartbeats 4000000 in
theorem jX6_rests_79 {p : Program} {l : Launch} {e : Env} {s : State} {m : MethodId} {args : Array Value} {below : List Frame} {meth : Method} {c : Code} {b0 : Nat} {cA : Nat → ClassId} {D : va_G} {L : List (Nat × Nat)} (hC : zC p c s m args meth cX6_rests 6 (some Jvm.ClassFile.FieldType.int) (Cond.code yX6_rests cX6_rests 6 (some Jvm.ClassFile.FieldType.int)) yX6_rests.cls cA D)  (v2 : Int32) (v3 : Int32) (σ : zS) (ls : Array Slot)  (hl : lv_has ls 6 [(2, .int v2), (3, .int v3)]) : zJ p l e rmX6_rests s m args below meth c b0 cA D L (fun z => MQ below (va_Qi (fun (r : Int32) (u : zS) => (r, u) = z) (zB b0 cA D L) (zA b0 L)) args s 0 0 (zA b0 L)) (bX6_rests_79  v2 v3 σ) σ 79 ls [] := by
  unfold bX6_rests_79
  refine zj_iload_n (pc' := 80) hC dX6_rests_79 rfl rfl (lv_at hl 0 rfl) ?_
  refine zj_iconst (pc' := 81) (v := (-1 : Int32)) hC dX6_rests_80 rfl rfl ?_
  refine zj_icmp_ne (tgt := 88) (pc' := 84) hC dX6_rests_81 (by decide) rfl (fun c1 => ?_) (fun c1 => ?_)
  · refine zj_iconst (pc' := 89) (v := (-1 : Int32)) hC dX6_rests_88 rfl rfl ?_
    exact zj_iret hC dX6_rests_89
  · refine zj_iload_n (pc' := 85) hC dX6_rests_84 rfl rfl (lv_at hl 1 rfl) ?_
    refine zj_goto (tgt := 89) hC dX6_rests_85 (by decide) ?_
    exact zj_iret hC dX6_rests_89
set_option maxRecDepth 100000 in
set_option maxHeartbeats 4000000 in
theorem jX6_rests_73 {p : Program} {l : Launch} {e : Env} {s : State} {m : MethodId} {args : Array Value} {below : List Frame} {meth : Method} {c : Code} {b0 : Nat} {cA : Nat → ClassId} {D : va_G} {L : List (Nat × Nat)} (hC : zC p c s m args meth cX6_rests 6 (some Jvm.ClassFile.FieldType.int) (Cond.code yX6_rests cX6_rests 6 (some Jvm.ClassFile.FieldType.int)) yX6_rests.cls cA D) (k21 : Nat → Int32 → Int32 → Int32 → Int32 → zS → Option (Int32 × zS)) (h21 : ∀ (v0 : Nat) (v1 : Int32) (v2 : Int32) (v3 : Int32) (v4 : Int32) (σ : zS) (ls : Array Slot), L[v0]? = some (0, 6) → lv_has ls 6 [(0, .ref (b0 + v0)), (1, .int v1), (2, .int v2), (3, .int v3), (4, .int v4)] → zJ p l e rmX6_rests s m args below meth c b0 cA D L (fun z => MQ below (va_Qi (fun (r : Int32) (u : zS) => (r, u) = z) (zB b0 cA D L) (zA b0 L)) args s 0 0 (zA b0 L)) (k21 v0 v1 v2 v3 v4 σ) σ 21 ls []) (v0 : Nat) (v1 : Int32) (v2 : Int32) (v3 : Int32) (v4 : Int32) (σ : zS) (ls : Array Slot) (hk_v0 : L[v0]? = some (0, 6)) (hl : lv_has ls 6 [(0, .ref (b0 + v0)), (1, .int v1), (2, .int v2), (3, .int v3), (4, .int v4)]) : zJ p l e rmX6_rests s m args below meth c b0 cA D L (fun z => MQ below (va_Qi (fun (r : Int32) (u : zS) => (r, u) = z) (zB b0 cA D L) (zA b0 L)) args s 0 0 (zA b0 L)) (bX6_rests_73 k21 v0 v1 v2 v3 v4 σ) σ 73 ls [] := by
  unfold bX6_rests_73
  refine zj_iinc (pc' := 76) (k0 := 4) (v := (v4 + (1 : Int32))) (lv' := [(4, .int (v4 + (1 : Int32))), (0, .ref (b0 + v0)), (1, .int v1), (2, .int v2), (3, .int v3)]) hC dX6_rests_73 rfl hl rfl rfl (by decide) rfl (fun ls hl => ?_)
  refine zj_goto (tgt := 21) hC dX6_rests_76 (by decide) ?_
  exact h21 v0 v1 v2 v3 ((v4 + (1 : Int32))) σ ls hk_v0 (lv_sub hl [1, 2, 3, 4, 0] rfl)
set_option maxRecDepth 100000 in
set_option maxHeartbeats 4000000 in
theorem jX6_rests_67 {p : Program} {l : Launch} {e : Env} {s : State} {m : MethodId} {args : Array Value} {below : List Frame} {meth : Method} {c : Code} {b0 : Nat} {cA : Nat → ClassId} {D : va_G} {L : List (Nat × Nat)} (hC : zC p c s m args meth cX6_rests 6 (some Jvm.ClassFile.FieldType.int) (Cond.code yX6_rests cX6_rests 6 (some Jvm.ClassFile.FieldType.int)) yX6_rests.cls cA D) (k30 : Nat → Int32 → Int32 → Int32 → Int32 → Int32 → zS → Option (Int32 × zS)) (h30 : ∀ (v0 : Nat) (v1 : Int32) (v2 : Int32) (v3 : Int32) (v4 : Int32) (v5 : Int32) (σ : zS) (ls : Array Slot), L[v0]? = some (0, 6) → lv_has ls 6 [(0, .ref (b0 + v0)), (1, .int v1), (2, .int v2), (3, .int v3), (4, .int v4), (5, .int v5)] → zJ p l e rmX6_rests s m args below meth c b0 cA D L (fun z => MQ below (va_Qi (fun (r : Int32) (u : zS) => (r, u) = z) (zB b0 cA D L) (zA b0 L)) args s 0 0 (zA b0 L)) (k30 v0 v1 v2 v3 v4 v5 σ) σ 30 ls []) (v0 : Nat) (v1 : Int32) (v2 : Int32) (v3 : Int32) (v4 : Int32) (v5 : Int32) (σ : zS) (ls : Array Slot) (hk_v0 : L[v0]? = some (0, 6)) (hl : lv_has ls 6 [(0, .ref (b0 + v0)), (1, .int v1), (2, .int v2), (3, .int v3), (4, .int v4), (5, .int v5)]) : zJ p l e rmX6_rests s m args below meth c b0 cA D L (fun z => MQ below (va_Qi (fun (r : Int32) (u : zS) => (r, u) = z) (zB b0 cA D L) (zA b0 L)) args s 0 0 (zA b0 L)) (bX6_rests_67 k30 v0 v1 v2 v3 v4 v5 σ) σ 67 ls [] := by
  unfold bX6_rests_67
  refine zj_iinc (pc' := 70) (k0 := 5) (v := (v5 + (1 : Int32))) (lv' := [(5, .int (v5 + (1 : Int32))), (0, .ref (b0 + v0)), (1, .int v1), (2, .int v2), (3, .int v3), (4, .int v4)]) hC dX6_rests_67 rfl hl rfl rfl (by decide) rfl (fun ls hl => ?_)
  refine zj_goto (tgt := 30) hC dX6_rests_70 (by decide) ?_
  exact h30 v0 v1 v2 v3 v4 ((v5 + (1 : Int32))) σ ls hk_v0 (lv_sub hl [1, 2, 3, 4, 5, 0] rfl)
set_option maxRecDepth 100000 in
set_option maxHeartbeats 4000000 in
theorem jX6_rests_56 {p : Program} {l : Launch} {e : Env} {s : State} {m : MethodId} {args : Array Value} {below : List Frame} {meth : Method} {c : Code} {b0 : Nat} {cA : Nat → ClassId} {D : va_G} {L : List (Nat × Nat)} (hC : zC p c s m args meth cX6_rests 6 (some Jvm.ClassFile.FieldType.int) (Cond.code yX6_rests cX6_rests 6 (some Jvm.ClassFile.FieldType.int)) yX6_rests.cls cA D)  (v4 : Int32) (v5 : Int32) (σ : zS) (ls : Array Slot)  (hl : lv_has ls 6 [(4, .int v4), (5, .int v5)]) : zJ p l e rmX6_rests s m args below meth c b0 cA D L (fun z => MQ below (va_Qi (fun (r : Int32) (u : zS) => (r, u) = z) (zB b0 cA D L) (zA b0 L)) args s 0 0 (zA b0 L)) (bX6_rests_56  v4 v5 σ) σ 56 ls [] := by
  unfold bX6_rests_56
  refine zj_iconst (pc' := 57) (v := (5 : Int32)) hC dX6_rests_56 rfl rfl ?_
  refine zj_iload (pc' := 59) hC dX6_rests_57 rfl (lv_at hl 0 rfl) ?_
  refine zj_imul (pc' := 60) hC dX6_rests_59 rfl ?_
  refine zj_iload (pc' := 62) hC dX6_rests_60 rfl (lv_at hl 1 rfl) ?_
  refine zj_iadd (pc' := 63) hC dX6_rests_62 rfl ?_
  exact zj_iret hC dX6_rests_63
set_option maxRecDepth 100000 in
set_option maxHeartbeats 4000000 in
theorem jX6_rests_30 {p : Program} {l : Launch} {e : Env} {s : State} {m : MethodId} {args : Array Value} {below : List Frame} {meth : Method} {c : Code} {b0 : Nat} {cA : Nat → ClassId} {D : va_G} {L : List (Nat × Nat)} (hC : zC p c s m args meth cX6_rests 6 (some Jvm.ClassFile.FieldType.int) (Cond.code yX6_rests cX6_rests 6 (some Jvm.ClassFile.FieldType.int)) yX6_rests.cls cA D) (k21 : Nat → Int32 → Int32 → Int32 → Int32 → zS → Option (Int32 × zS)) (h21 : ∀ (v0 : Nat) (v1 : Int32) (v2 : Int32) (v3 : Int32) (v4 : Int32) (σ : zS) (ls : Array Slot), L[v0]? = some (0, 6) → lv_has ls 6 [(0, .ref (b0 + v0)), (1, .int v1), (2, .int v2), (3, .int v3), (4, .int v4)] → zJ p l e rmX6_rests s m args below meth c b0 cA D L (fun z => MQ below (va_Qi (fun (r : Int32) (u : zS) => (r, u) = z) (zB b0 cA D L) (zA b0 L)) args s 0 0 (zA b0 L)) (k21 v0 v1 v2 v3 v4 σ) σ 21 ls []) (k30 : Nat → Int32 → Int32 → Int32 → Int32 → Int32 → zS → Option (Int32 × zS)) (h30 : ∀ (v0 : Nat) (v1 : Int32) (v2 : Int32) (v3 : Int32) (v4 : Int32) (v5 : Int32) (σ : zS) (ls : Array Slot), L[v0]? = some (0, 6) → lv_has ls 6 [(0, .ref (b0 + v0)), (1, .int v1), (2, .int v2), (3, .int v3), (4, .int v4), (5, .int v5)] → zJ p l e rmX6_rests s m args below meth c b0 cA D L (fun z => MQ below (va_Qi (fun (r : Int32) (u : zS) => (r, u) = z) (zB b0 cA D L) (zA b0 L)) args s 0 0 (zA b0 L)) (k30 v0 v1 v2 v3 v4 v5 σ) σ 30 ls []) (v0 : Nat) (v1 : Int32) (v2 : Int32) (v3 : Int32) (v4 : Int32) (v5 : Int32) (σ : zS) (ls : Array Slot) (hk_v0 : L[v0]? = some (0, 6)) (hl : lv_has ls 6 [(0, .ref (b0 + v0)), (1, .int v1), (2, .int v2), (3, .int v3), (4, .int v4), (5, .int v5)]) : zJ p l e rmX6_rests s m args below meth c b0 cA D L (fun z => MQ below (va_Qi (fun (r : Int32) (u : zS) => (r, u) = z) (zB b0 cA D L) (zA b0 L)) args s 0 0 (zA b0 L)) (bX6_rests_30 k21 k30 v0 v1 v2 v3 v4 v5 σ) σ 30 ls [] := by
  unfold bX6_rests_30
  refine zj_iload (pc' := 32) hC dX6_rests_30 rfl (lv_at hl 5 rfl) ?_
  refine zj_iload_n (pc' := 33) hC dX6_rests_32 rfl rfl (lv_at hl 1 rfl) ?_
  refine zj_icmp_ge (tgt := 73) (pc' := 36) hC dX6_rests_33 (by decide) rfl (fun c2 => ?_) (fun c2 => ?_)
  · exact jX6_rests_73 hC k21 h21 v0 v1 v2 v3 v4 σ ls hk_v0 (lv_sub hl [0, 1, 2, 3, 4] rfl)
  · refine zj_aload_n (pc' := 37) hC dX6_rests_36 rfl rfl (lv_at hl 0 rfl) ?_
    refine zj_iload (pc' := 39) hC dX6_rests_37 rfl (lv_at hl 4 rfl) ?_
    refine zj_iload (pc' := 41) hC dX6_rests_39 rfl (lv_at hl 5 rfl) ?_
    refine zj_iload_n (pc' := 42) hC dX6_rests_41 rfl rfl (lv_at hl 1 rfl) ?_
    refine zj_callzV (pc' := 45) (rest := []) hC (kX6_atRest l b0 cA D L v0 v4 v5 v1 σ hk_v0) hk_v0 rfl tw_3_196 tw_3_193 tw_3_195 ts_2_15 tw_1_1 ddX6_atRest rfl ⟨rfl, rfl⟩ ⟨by decide, by decide⟩ hl.1 (Nat.le_of_ble_eq_true rfl) rfl dX6_rests_42 rfl (fun r4 σ3 hb_r4 => ?_)
    refine zj_if_ne (tgt := 51) (pc' := 48) hC dX6_rests_45 (by decide) rfl (fun c5 => ?_) (fun c5 => ?_)
    · refine zj_iload_n (pc' := 52) hC dX6_rests_51 rfl rfl (lv_at hl 3 rfl) ?_
      refine zj_iload_n (pc' := 53) hC dX6_rests_52 rfl rfl (lv_at hl 2 rfl) ?_
      refine zj_icmp_ne (tgt := 64) (pc' := 56) hC dX6_rests_53 (by decide) rfl (fun c6 => ?_) (fun c6 => ?_)
      · refine zj_iinc (pc' := 67) (k0 := 3) (v := (v3 + (1 : Int32))) (lv' := [(3, .int (v3 + (1 : Int32))), (0, .ref (b0 + v0)), (1, .int v1), (2, .int v2), (4, .int v4), (5, .int v5)]) hC dX6_rests_64 rfl hl rfl rfl (by decide) rfl (fun ls hl => ?_)
        exact jX6_rests_67 hC k30 h30 v0 v1 v2 ((v3 + (1 : Int32))) v4 v5 σ3 ls hk_v0 (lv_sub hl [1, 2, 3, 0, 4, 5] rfl)
      · exact jX6_rests_56 hC v4 v5 σ3 ls  (lv_sub hl [4, 5] rfl)
    · refine zj_goto (tgt := 67) hC dX6_rests_48 (by decide) ?_
      exact jX6_rests_67 hC k30 h30 v0 v1 v2 v3 v4 v5 σ3 ls hk_v0 (lv_sub hl [0, 1, 2, 3, 4, 5] rfl)
set_option maxRecDepth 100000 in
set_option maxHeartbeats 4000000 in
theorem lX6_rests_30 {p : Program} {l : Launch} {e : Env} {s : State} {m : MethodId} {args : Array Value} {below : List Frame} {meth : Method} {c : Code} {b0 : Nat} {cA : Nat → ClassId} {D : va_G} {L : List (Nat × Nat)} (hC : zC p c s m args meth cX6_rests 6 (some Jvm.ClassFile.FieldType.int) (Cond.code yX6_rests cX6_rests 6 (some Jvm.ClassFile.FieldType.int)) yX6_rests.cls cA D) (k21 : Nat → Int32 → Int32 → Int32 → Int32 → zS → Option (Int32 × zS)) (h21 : ∀ (v0 : Nat) (v1 : Int32) (v2 : Int32) (v3 : Int32) (v4 : Int32) (σ : zS) (ls : Array Slot), L[v0]? = some (0, 6) → lv_has ls 6 [(0, .ref (b0 + v0)), (1, .int v1), (2, .int v2), (3, .int v3), (4, .int v4)] → zJ p l e rmX6_rests s m args below meth c b0 cA D L (fun z => MQ below (va_Qi (fun (r : Int32) (u : zS) => (r, u) = z) (zB b0 cA D L) (zA b0 L)) args s 0 0 (zA b0 L)) (k21 v0 v1 v2 v3 v4 σ) σ 21 ls []) (n : Nat) : ∀ (v0 : Nat) (v1 : Int32) (v2 : Int32) (v3 : Int32) (v4 : Int32) (v5 : Int32) (σ : zS) (ls : Array Slot), L[v0]? = some (0, 6) → lv_has ls 6 [(0, .ref (b0 + v0)), (1, .int v1), (2, .int v2), (3, .int v3), (4, .int v4), (5, .int v5)] → zJ p l e rmX6_rests s m args below meth c b0 cA D L (fun z => MQ below (va_Qi (fun (r : Int32) (u : zS) => (r, u) = z) (zB b0 cA D L) (zA b0 L)) args s 0 0 (zA b0 L)) (fX6_rests_30 k21 n v0 v1 v2 v3 v4 v5 σ) σ 30 ls [] := by
  induction n with
  | zero => intros; exact zj_none
  | succ n ih => exact jX6_rests_30 hC k21 h21 (fX6_rests_30 k21 n) ih
set_option maxRecDepth 100000 in
set_option maxHeartbeats 4000000 in
theorem jX6_rests_21 {p : Program} {l : Launch} {e : Env} {s : State} {m : MethodId} {args : Array Value} {below : List Frame} {meth : Method} {c : Code} {b0 : Nat} {cA : Nat → ClassId} {D : va_G} {L : List (Nat × Nat)} (hC : zC p c s m args meth cX6_rests 6 (some Jvm.ClassFile.FieldType.int) (Cond.code yX6_rests cX6_rests 6 (some Jvm.ClassFile.FieldType.int)) yX6_rests.cls cA D) (k21 : Nat → Int32 → Int32 → Int32 → Int32 → zS → Option (Int32 × zS)) (h21 : ∀ (v0 : Nat) (v1 : Int32) (v2 : Int32) (v3 : Int32) (v4 : Int32) (σ : zS) (ls : Array Slot), L[v0]? = some (0, 6) → lv_has ls 6 [(0, .ref (b0 + v0)), (1, .int v1), (2, .int v2), (3, .int v3), (4, .int v4)] → zJ p l e rmX6_rests s m args below meth c b0 cA D L (fun z => MQ below (va_Qi (fun (r : Int32) (u : zS) => (r, u) = z) (zB b0 cA D L) (zA b0 L)) args s 0 0 (zA b0 L)) (k21 v0 v1 v2 v3 v4 σ) σ 21 ls []) (v0 : Nat) (v1 : Int32) (v2 : Int32) (v3 : Int32) (v4 : Int32) (σ : zS) (ls : Array Slot) (hk_v0 : L[v0]? = some (0, 6)) (hl : lv_has ls 6 [(0, .ref (b0 + v0)), (1, .int v1), (2, .int v2), (3, .int v3), (4, .int v4)]) : zJ p l e rmX6_rests s m args below meth c b0 cA D L (fun z => MQ below (va_Qi (fun (r : Int32) (u : zS) => (r, u) = z) (zB b0 cA D L) (zA b0 L)) args s 0 0 (zA b0 L)) (bX6_rests_21 k21 v0 v1 v2 v3 v4 σ) σ 21 ls [] := by
  unfold bX6_rests_21
  refine zj_iload (pc' := 23) hC dX6_rests_21 rfl (lv_at hl 4 rfl) ?_
  refine zj_iload_n (pc' := 24) hC dX6_rests_23 rfl rfl (lv_at hl 1 rfl) ?_
  refine zj_icmp_ge (tgt := 79) (pc' := 27) hC dX6_rests_24 (by decide) rfl (fun c7 => ?_) (fun c7 => ?_)
  · exact jX6_rests_79 hC v2 v3 σ ls  (lv_sub hl [2, 3] rfl)
  · refine zj_iconst (pc' := 28) (v := (0 : Int32)) hC dX6_rests_27 rfl rfl ?_
    refine zj_istore (pc' := 30) (lv' := [(5, .int (0 : Int32)), (0, .ref (b0 + v0)), (1, .int v1), (2, .int v2), (3, .int v3), (4, .int v4)]) hC dX6_rests_28 rfl hl (by decide) rfl (fun ls hl => ?_)
    exact lX6_rests_30 hC k21 h21 zFU v0 v1 v2 v3 v4 (0 : Int32) σ ls hk_v0 (lv_sub hl [1, 2, 3, 4, 5, 0] rfl)
set_option maxRecDepth 100000 in
set_option maxHeartbeats 4000000 in
theorem lX6_rests_21 {p : Program} {l : Launch} {e : Env} {s : State} {m : MethodId} {args : Array Value} {below : List Frame} {meth : Method} {c : Code} {b0 : Nat} {cA : Nat → ClassId} {D : va_G} {L : List (Nat × Nat)} (hC : zC p c s m args meth cX6_rests 6 (some Jvm.ClassFile.FieldType.int) (Cond.code yX6_rests cX6_rests 6 (some Jvm.ClassFile.FieldType.int)) yX6_rests.cls cA D)  (n : Nat) : ∀ (v0 : Nat) (v1 : Int32) (v2 : Int32) (v3 : Int32) (v4 : Int32) (σ : zS) (ls : Array Slot), L[v0]? = some (0, 6) → lv_has ls 6 [(0, .ref (b0 + v0)), (1, .int v1), (2, .int v2), (3, .int v3), (4, .int v4)] → zJ p l e rmX6_rests s m args below meth c b0 cA D L (fun z => MQ below (va_Qi (fun (r : Int32) (u : zS) => (r, u) = z) (zB b0 cA D L) (zA b0 L)) args s 0 0 (zA b0 L)) (fX6_rests_21  n v0 v1 v2 v3 v4 σ) σ 21 ls [] := by
  induction n with
  | zero => intros; exact zj_none
  | succ n ih => exact jX6_rests_21 hC (fX6_rests_21  n) ih
set_option maxRecDepth 100000 in
set_option maxHeartbeats 4000000 in
theorem kX6_rests (l : Launch) (b0 : Nat) (cA : Nat → ClassId) (D : va_G) (L : List (Nat × Nat)) (v0 : Nat) (v1 : Int32) (v2 : Int32) (σ : zS) (hk0 : L[v0]? = some (0, 6)) : zMi l b0 cA D L yX6_rests (Cond.code yX6_rests cX6_rests 6 (some Jvm.ClassFile.FieldType.int)) rmX6_rests [.ref (b0 + v0), .int v1, .int v2] σ (fX6_rests v0 v1 v2 σ) := by
  refine zMi_of (by decide) (Nat.le_of_ble_eq_true rfl) ?_
  intro p e s m below meth c ls hC hl
  have hl : lv_has ls 6 [(0, .ref (b0 + v0)), (1, .int v1), (2, .int v2)] := hl
  generalize ([.ref (b0 + v0), .int v1, .int v2] : List Value).toArray = args at hC ⊢
  unfold fX6_rests
  refine zj_iload_n (pc' := 1) hC dX6_rests_0 rfl rfl (lv_at hl 1 rfl) ?_
  refine zj_iconst (pc' := 2) (v := (2 : Int32)) hC dX6_rests_1 rfl rfl ?_
  refine zj_iconst (pc' := 3) (v := (5 : Int32)) hC dX6_rests_2 rfl rfl ?_
  refine zj_callzS (pc' := 6) (rest := []) hC (kX6_within l b0 cA D L v1 (2 : Int32) (5 : Int32) σ ) tw_2_13 tw_2_11 tw_2_12 tw_1_1 ddX6_within rfl ⟨rfl, rfl⟩ ⟨by decide, by decide⟩ hl.1 (Nat.le_of_ble_eq_true rfl) rfl dX6_rests_3 rfl (fun r9 σ8 hb_r9 => ?_)
  refine zj_if_eq (tgt := 14) (pc' := 9) hC dX6_rests_6 (by decide) rfl (fun c10 => ?_) (fun c10 => ?_)
  · refine zj_iconst (pc' := 15) (v := (-1 : Int32)) hC dX6_rests_14 rfl rfl ?_
    exact zj_iret hC dX6_rests_15
  · refine zj_iload_n (pc' := 10) hC dX6_rests_9 rfl rfl (lv_at hl 2 rfl) ?_
    refine zj_iconst (pc' := 11) (v := (-1 : Int32)) hC dX6_rests_10 rfl rfl ?_
    refine zj_icmp_ge (tgt := 16) (pc' := 14) hC dX6_rests_11 (by decide) rfl (fun c11 => ?_) (fun c11 => ?_)
    · refine zj_iconst (pc' := 17) (v := (0 : Int32)) hC dX6_rests_16 rfl rfl ?_
      refine zj_istore_n (pc' := 18) (lv' := [(3, .int (0 : Int32)), (0, .ref (b0 + v0)), (1, .int v1), (2, .int v2)]) hC dX6_rests_17 rfl rfl hl (by decide) rfl (fun ls hl => ?_)
      refine zj_iconst (pc' := 19) (v := (0 : Int32)) hC dX6_rests_18 rfl rfl ?_
      refine zj_istore (pc' := 21) (lv' := [(4, .int (0 : Int32)), (3, .int (0 : Int32)), (0, .ref (b0 + v0)), (1, .int v1), (2, .int v2)]) hC dX6_rests_19 rfl hl (by decide) rfl (fun ls hl => ?_)
      exact lX6_rests_21 hC zFU v0 v1 v2 (0 : Int32) (0 : Int32) σ8 ls hk0 (lv_sub hl [2, 3, 4, 1, 0] rfl)
    · refine zj_iconst (pc' := 15) (v := (-1 : Int32)) hC dX6_rests_14 rfl rfl ?_
      exact zj_iret hC dX6_rests_15
-- X6_keep
theorem ddX6_keep : yX6_keep.cls ≠ "java/lang/invoke/MethodHandle" ∧ yX6_keep.cls ≠ "java/lang/invoke/VarHandle" ∧ (parseMethodDescriptor yX6_keep.desc).map (fun d => d.parameters.length) = some 0 := by decide +kernel
abbrev rmX6_keep : Room := { frames := 6, cells := 0, slots := 0, locals := 141 }
def fX6_keep (v0 : Nat) (σ : zS) : Option (Int32 × zS) :=
  if (σ.1 v0 4) < 0 then (some ((-1 : Int32), σ)) else (bnd (σ.2 v0 3) (fun (q2 : Nat) => if (σ.1 v0 4) < (20 : Int32) then (bnd (σ.2 v0 3) (fun (q4 : Nat) => zX (σ.1 v0 4) 20 (bnd (σ.2 q4 ((σ.1 v0 4)).toNatClampNeg) (fun (q6 : Nat) => zb (fX6_played v0 σ) (fun (r8 : Nat) (σ7 : zS) => zb (fX3_copy q6 r8 σ7) (fun (_ : Unit) (σ9 : zS) => bnd (zI σ9 v0 4 ((σ9.1 v0 4) + (1 : Int32))) (fun (σ11 : zS) => some ((σ11.1 v0 4), σ11)))))))) else (some ((-1 : Int32), σ))))
set_option maxRecDepth 100000 in
set_option maxHeartbeats 4000000 in
theorem kX6_keep (l : Launch) (b0 : Nat) (cA : Nat → ClassId) (D : va_G) (L : List (Nat × Nat)) (v0 : Nat) (σ : zS) (hk0 : L[v0]? = some (0, 6)) : zMi l b0 cA D L yX6_keep (Cond.code yX6_keep cX6_keep 1 (some Jvm.ClassFile.FieldType.int)) rmX6_keep [.ref (b0 + v0)] σ (fX6_keep v0 σ) := by
  refine zMi_of (by decide) (Nat.le_of_ble_eq_true rfl) ?_
  intro p e s m below meth c ls hC hl
  have hl : lv_has ls 1 [(0, .ref (b0 + v0))] := hl
  generalize ([.ref (b0 + v0)] : List Value).toArray = args at hC ⊢
  unfold fX6_keep
  refine zj_aload_n (pc' := 1) hC dX6_keep_0 rfl rfl (lv_at hl 0 rfl) ?_
  refine zj_getI (pc' := 4) hC hk0 fd_6_4 rfl tw_1_199 dX6_keep_1 rfl ?_
  refine zj_if_lt (tgt := 19) (pc' := 7) hC dX6_keep_4 (by decide) rfl (fun c1 => ?_) (fun c1 => ?_)
  · refine zj_iconst (pc' := 20) (v := (-1 : Int32)) hC dX6_keep_19 rfl rfl ?_
    exact zj_iret hC dX6_keep_20
  · refine zj_aload_n (pc' := 8) hC dX6_keep_7 rfl rfl (lv_at hl 0 rfl) ?_
    refine zj_getI (pc' := 11) hC hk0 fd_6_4 rfl tw_1_199 dX6_keep_8 rfl ?_
    refine zj_aload_n (pc' := 12) hC dX6_keep_11 rfl rfl (lv_at hl 0 rfl) ?_
    refine zj_getR (pc' := 15) hC hk0 fd_6_3 rfl tw_1_198 dX6_keep_12 rfl (fun q2 hk_q2 => ?_)
    refine zj_alen (pc' := 16) (v := (20 : Int32)) hC hk_q2 (by decide) rfl dX6_keep_15 rfl ?_
    refine zj_icmp_lt (tgt := 21) (pc' := 19) hC dX6_keep_16 (by decide) rfl (fun c3 => ?_) (fun c3 => ?_)
    · refine zj_aload_n (pc' := 22) hC dX6_keep_21 rfl rfl (lv_at hl 0 rfl) ?_
      refine zj_getR (pc' := 25) hC hk0 fd_6_3 rfl tw_1_198 dX6_keep_22 rfl (fun q4 hk_q4 => ?_)
      refine zj_aload_n (pc' := 26) hC dX6_keep_25 rfl rfl (lv_at hl 0 rfl) ?_
      refine zj_getI (pc' := 29) hC hk0 fd_6_4 rfl tw_1_199 dX6_keep_26 rfl ?_
      refine zj_aald (t := 0) (pc' := 30) hC hk_q4 (by decide) dX6_keep_29 rfl (fun g5 q6 hk_q6 => ?_)
      refine zj_aload_n (pc' := 31) hC dX6_keep_30 rfl rfl (lv_at hl 0 rfl) ?_
      refine zj_callrV (pc' := 34) (rest := [.ref (b0 + q6)]) hC (kX6_played l b0 cA D L v0 σ hk0) hk0 rfl tw_3_27 tw_3_24 tw_3_26 ts_2_2 tw_1_1 ddX6_played rfl ⟨rfl, rfl⟩ ⟨by decide, by decide⟩ hl.1 (Nat.le_of_ble_eq_true rfl) rfl dX6_keep_31 rfl (fun r8 σ7 hk_r8 => ?_)
      refine zj_callvV (pc' := 37) (rest := []) hC (kX3_copy l b0 cA D L q6 r8 σ7 hk_q6 hk_r8) hk_q6 rfl tw_3_207 tw_3_204 tw_3_205 tw_3_206 tw_1_2 ddX3_copy rfl ⟨rfl, rfl⟩ ⟨by decide, by decide⟩ hl.1 (Nat.le_of_ble_eq_true rfl) rfl dX6_keep_34 rfl (fun σ9 => ?_)
      refine zj_aload_n (pc' := 38) hC dX6_keep_37 rfl rfl (lv_at hl 0 rfl) ?_
      refine zj_dup (pc' := 39) hC dX6_keep_38 rfl rfl ?_
      refine zj_getI (pc' := 42) hC hk0 fd_6_4 rfl tw_1_199 dX6_keep_39 rfl ?_
      refine zj_iconst (pc' := 43) (v := (1 : Int32)) hC dX6_keep_42 rfl rfl ?_
      refine zj_iadd (pc' := 44) hC dX6_keep_43 rfl ?_
      refine zj_putI (pc' := 47) hC hk0 fd_6_4 rfl tw_1_199 rfl rfl rfl dX6_keep_44 rfl (fun σ11 => ?_)
      refine zj_aload_n (pc' := 48) hC dX6_keep_47 rfl rfl (lv_at hl 0 rfl) ?_
      refine zj_getI (pc' := 51) hC hk0 fd_6_4 rfl tw_1_199 dX6_keep_48 rfl ?_
      exact zj_iret hC dX6_keep_51
    · refine zj_iconst (pc' := 20) (v := (-1 : Int32)) hC dX6_keep_19 rfl rfl ?_
      exact zj_iret hC dX6_keep_20
-- X6_goTogether
theorem ddX6_goTogether : yX6_goTogether.cls ≠ "java/lang/invoke/MethodHandle" ∧ yX6_goTogether.cls ≠ "java/lang/invoke/VarHandle" ∧ (parseMethodDescriptor yX6_goTogether.desc).map (fun d => d.parameters.length) = some 2 := by decide +kernel
abbrev rmX6_goTogether : Room := { frames := 1, cells := 0, slots := 0, locals := 22 }
def fX6_goTogether (v0 : Nat) (v1 : Nat) (σ : zS) : Option (Int32 × zS) :=
  zb (fJ6_compare_7cf53 ((σ.1 v0 4)) ((σ.1 v1 4)) σ) (fun (r2 : Int32) (σ1 : zS) => bnd (σ1.2 v0 1) (fun (q3 : Nat) => zb (fX1_goodForKnowing q3 σ1) (fun (r5 : Int32) (σ4 : zS) => bnd (σ4.2 v1 1) (fun (q6 : Nat) => zb (fX1_goodForKnowing q6 σ4) (fun (r8 : Int32) (σ7 : zS) => zb (fJ6_compare_7cf53 r5 r8 σ7) (fun (r10 : Int32) (σ9 : zS) => some ((r2 * r10), σ9)))))))
set_option maxRecDepth 100000 in
set_option maxHeartbeats 4000000 in
theorem kX6_goTogether (l : Launch) (b0 : Nat) (cA : Nat → ClassId) (D : va_G) (L : List (Nat × Nat)) (v0 : Nat) (v1 : Nat) (σ : zS) (hk0 : L[v0]? = some (0, 3)) (hk1 : L[v1]? = some (0, 3)) : zMi l b0 cA D L yX6_goTogether (Cond.code yX6_goTogether cX6_goTogether 2 (some Jvm.ClassFile.FieldType.int)) rmX6_goTogether [.ref (b0 + v0), .ref (b0 + v1)] σ (fX6_goTogether v0 v1 σ) := by
  refine zMi_of (by decide) (Nat.le_of_ble_eq_true rfl) ?_
  intro p e s m below meth c ls hC hl
  have hl : lv_has ls 2 [(0, .ref (b0 + v0)), (1, .ref (b0 + v1))] := hl
  generalize ([.ref (b0 + v0), .ref (b0 + v1)] : List Value).toArray = args at hC ⊢
  unfold fX6_goTogether
  refine zj_aload_n (pc' := 1) hC dX6_goTogether_0 rfl rfl (lv_at hl 0 rfl) ?_
  refine zj_getI (pc' := 4) hC hk0 fd_3_4 rfl tw_1_101 dX6_goTogether_1 rfl ?_
  refine zj_aload_n (pc' := 5) hC dX6_goTogether_4 rfl rfl (lv_at hl 1 rfl) ?_
  refine zj_getI (pc' := 8) hC hk1 fd_3_4 rfl tw_1_101 dX6_goTogether_5 rfl ?_
  refine zj_calliS (pc' := 11) (rest := []) hC (kJ6_compare_7cf53 l b0 cA D L ((σ.1 v0 4)) ((σ.1 v1 4)) σ ) tw_3_226 tw_3_224 tw_3_225 tw_1_15 ddJ6_compare_7cf53 rfl ⟨rfl, rfl⟩ ⟨by decide, by decide⟩ hl.1 (Nat.le_of_ble_eq_true rfl) rfl dX6_goTogether_8 rfl (fun r2 σ1 => ?_)
  refine zj_aload_n (pc' := 12) hC dX6_goTogether_11 rfl rfl (lv_at hl 0 rfl) ?_
  refine zj_getR (pc' := 15) hC hk0 fd_3_1 rfl tw_1_95 dX6_goTogether_12 rfl (fun q3 hk_q3 => ?_)
  refine zj_calliV (pc' := 18) (rest := [.int r2]) hC (kX1_goodForKnowing l b0 cA D L q3 σ1 hk_q3) hk_q3 rfl tw_3_230 tw_3_227 tw_3_228 tw_3_229 tw_1_3 ddX1_goodForKnowing rfl ⟨rfl, rfl⟩ ⟨by decide, by decide⟩ hl.1 (Nat.le_of_ble_eq_true rfl) rfl dX6_goTogether_15 rfl (fun r5 σ4 => ?_)
  refine zj_aload_n (pc' := 19) hC dX6_goTogether_18 rfl rfl (lv_at hl 1 rfl) ?_
  refine zj_getR (pc' := 22) hC hk1 fd_3_1 rfl tw_1_95 dX6_goTogether_19 rfl (fun q6 hk_q6 => ?_)
  refine zj_calliV (pc' := 25) (rest := [.int r5, .int r2]) hC (kX1_goodForKnowing l b0 cA D L q6 σ4 hk_q6) hk_q6 rfl tw_3_230 tw_3_227 tw_3_228 tw_3_229 tw_1_3 ddX1_goodForKnowing rfl ⟨rfl, rfl⟩ ⟨by decide, by decide⟩ hl.1 (Nat.le_of_ble_eq_true rfl) rfl dX6_goTogether_22 rfl (fun r8 σ7 => ?_)
  refine zj_calliS (pc' := 28) (rest := [.int r2]) hC (kJ6_compare_7cf53 l b0 cA D L r5 r8 σ7 ) tw_3_226 tw_3_224 tw_3_225 tw_1_15 ddJ6_compare_7cf53 rfl ⟨rfl, rfl⟩ ⟨by decide, by decide⟩ hl.1 (Nat.le_of_ble_eq_true rfl) rfl dX6_goTogether_25 rfl (fun r10 σ9 => ?_)
  refine zj_imul (pc' := 29) hC dX6_goTogether_28 rfl ?_
  exact zj_iret hC dX6_goTogether_29
-- X6_hears
theorem ddX6_hears : yX6_hears.cls ≠ "java/lang/invoke/MethodHandle" ∧ yX6_hears.cls ≠ "java/lang/invoke/VarHandle" ∧ (parseMethodDescriptor yX6_hears.desc).map (fun d => d.parameters.length) = some 1 := by decide +kernel
abbrev rmX6_hears : Room := { frames := 2, cells := 0, slots := 0, locals := 43 }
def bX6_hears_85 (k26 : Nat → Int32 → Int32 → Int32 → zS → Option (Int32 × zS)) (v0 : Nat) (v2 : Int32) (v3 : Int32) (v4 : Int32) (σ : zS) : Option (Int32 × zS) :=
  k26 v0 v2 v3 ((v4 + (1 : Int32))) σ
def bX6_hears_79 (k48 : Nat → Int32 → Int32 → Int32 → Int32 → zS → Option (Int32 × zS)) (v0 : Nat) (v2 : Int32) (v3 : Int32) (v4 : Int32) (v5 : Int32) (σ : zS) : Option (Int32 × zS) :=
  k48 v0 v2 v3 v4 ((v5 + (1 : Int32))) σ
def bX6_hears_48 (k26 : Nat → Int32 → Int32 → Int32 → zS → Option (Int32 × zS)) (k48 : Nat → Int32 → Int32 → Int32 → Int32 → zS → Option (Int32 × zS)) (v0 : Nat) (v2 : Int32) (v3 : Int32) (v4 : Int32) (v5 : Int32) (σ : zS) : Option (Int32 × zS) :=
  if v4 ≤ v5 then (bX6_hears_85 k26 v0 v2 v3 v4 σ) else (bnd (σ.2 v0 3) (fun (q2 : Nat) => zX v4 20 (bnd (σ.2 q2 (v4).toNatClampNeg) (fun (q4 : Nat) => bnd (σ.2 v0 3) (fun (q5 : Nat) => zX v5 20 (bnd (σ.2 q5 (v5).toNatClampNeg) (fun (q7 : Nat) => zb (fX6_goTogether q4 q7 σ) (fun (r9 : Int32) (σ8 : zS) => if r9 = v2 then (bX6_hears_79 k48 v0 v2 ((v3 + (1 : Int32))) v4 v5 σ8) else (bX6_hears_79 k48 v0 v2 v3 v4 v5 σ8)))))))))
def fX6_hears_48 (k26 : Nat → Int32 → Int32 → Int32 → zS → Option (Int32 × zS)) : Nat → Nat → Int32 → Int32 → Int32 → Int32 → zS → Option (Int32 × zS)
  | 0, _, _, _, _, _, _ => none
  | n + 1, v0, v2, v3, v4, v5, σ => bX6_hears_48 k26 (fX6_hears_48 k26 n) v0 v2 v3 v4 v5 σ
def bX6_hears_26 (k26 : Nat → Int32 → Int32 → Int32 → zS → Option (Int32 × zS)) (v0 : Nat) (v2 : Int32) (v3 : Int32) (v4 : Int32) (σ : zS) : Option (Int32 × zS) :=
  if (σ.1 v0 4) ≤ v4 then (some (v3, σ)) else (bnd (σ.2 v0 3) (fun (q12 : Nat) => if (20 : Int32) ≤ v4 then (some (v3, σ)) else (fX6_hears_48 k26 zFU v0 v2 v3 v4 (0 : Int32) σ)))
def fX6_hears_26  : Nat → Nat → Int32 → Int32 → Int32 → zS → Option (Int32 × zS)
  | 0, _, _, _, _, _ => none
  | n + 1, v0, v2, v3, v4, σ => bX6_hears_26 (fX6_hears_26  n) v0 v2 v3 v4 σ
def bX6_hears_20  (v0 : Nat) (s0 : Int32) (σ : zS) : Option (Int32 × zS) :=
  fX6_hears_26 zFU v0 s0 (0 : Int32) (0 : Int32) σ
def fX6_hears (v0 : Nat) (v1 : Int32) (σ : zS) : Option (Int32 × zS) :=
  zb (fX6_within v1 (0 : Int32) (1 : Int32) σ) (fun (r15 : Int32) (σ14 : zS) => if r15 = 0 then (some ((-1 : Int32), σ14)) else (if v1 = 0 then (bX6_hears_20 v0 (1 : Int32) σ14) else (bX6_hears_20 v0 (-1 : Int32) σ14)))
set_option maxRecDepth 100000 in
set_option maxHeartbeats 4000000 in
theorem jX6_hears_85 {p : Program} {l : Launch} {e : Env} {s : State} {m : MethodId} {args : Array Value} {below : List Frame} {meth : Method} {c : Code} {b0 : Nat} {cA : Nat → ClassId} {D : va_G} {L : List (Nat × Nat)} (hC : zC p c s m args meth cX6_hears 6 (some Jvm.ClassFile.FieldType.int) (Cond.code yX6_hears cX6_hears 6 (some Jvm.ClassFile.FieldType.int)) yX6_hears.cls cA D) (k26 : Nat → Int32 → Int32 → Int32 → zS → Option (Int32 × zS)) (h26 : ∀ (v0 : Nat) (v2 : Int32) (v3 : Int32) (v4 : Int32) (σ : zS) (ls : Array Slot), L[v0]? = some (0, 6) → lv_has ls 6 [(0, .ref (b0 + v0)), (2, .int v2), (3, .int v3), (4, .int v4)] → zJ p l e rmX6_hears s m args below meth c b0 cA D L (fun z => MQ below (va_Qi (fun (r : Int32) (u : zS) => (r, u) = z) (zB b0 cA D L) (zA b0 L)) args s 0 0 (zA b0 L)) (k26 v0 v2 v3 v4 σ) σ 26 ls []) (v0 : Nat) (v2 : Int32) (v3 : Int32) (v4 : Int32) (σ : zS) (ls : Array Slot) (hk_v0 : L[v0]? = some (0, 6)) (hl : lv_has ls 6 [(0, .ref (b0 + v0)), (2, .int v2), (3, .int v3), (4, .int v4)]) : zJ p l e rmX6_hears s m args below meth c b0 cA D L (fun z => MQ below (va_Qi (fun (r : Int32) (u : zS) => (r, u) = z) (zB b0 cA D L) (zA b0 L)) args s 0 0 (zA b0 L)) (bX6_hears_85 k26 v0 v2 v3 v4 σ) σ 85 ls [] := by
  unfold bX6_hears_85
  refine zj_iinc (pc' := 88) (k0 := 3) (v := (v4 + (1 : Int32))) (lv' := [(4, .int (v4 + (1 : Int32))), (0, .ref (b0 + v0)), (2, .int v2), (3, .int v3)]) hC dX6_hears_85 rfl hl rfl rfl (by decide) rfl (fun ls hl => ?_)
  refine zj_goto (tgt := 26) hC dX6_hears_88 (by decide) ?_
  exact h26 v0 v2 v3 ((v4 + (1 : Int32))) σ ls hk_v0 (lv_sub hl [1, 2, 3, 0] rfl)
set_option maxRecDepth 100000 in
set_option maxHeartbeats 4000000 in
theorem jX6_hears_79 {p : Program} {l : Launch} {e : Env} {s : State} {m : MethodId} {args : Array Value} {below : List Frame} {meth : Method} {c : Code} {b0 : Nat} {cA : Nat → ClassId} {D : va_G} {L : List (Nat × Nat)} (hC : zC p c s m args meth cX6_hears 6 (some Jvm.ClassFile.FieldType.int) (Cond.code yX6_hears cX6_hears 6 (some Jvm.ClassFile.FieldType.int)) yX6_hears.cls cA D) (k48 : Nat → Int32 → Int32 → Int32 → Int32 → zS → Option (Int32 × zS)) (h48 : ∀ (v0 : Nat) (v2 : Int32) (v3 : Int32) (v4 : Int32) (v5 : Int32) (σ : zS) (ls : Array Slot), L[v0]? = some (0, 6) → lv_has ls 6 [(0, .ref (b0 + v0)), (2, .int v2), (3, .int v3), (4, .int v4), (5, .int v5)] → zJ p l e rmX6_hears s m args below meth c b0 cA D L (fun z => MQ below (va_Qi (fun (r : Int32) (u : zS) => (r, u) = z) (zB b0 cA D L) (zA b0 L)) args s 0 0 (zA b0 L)) (k48 v0 v2 v3 v4 v5 σ) σ 48 ls []) (v0 : Nat) (v2 : Int32) (v3 : Int32) (v4 : Int32) (v5 : Int32) (σ : zS) (ls : Array Slot) (hk_v0 : L[v0]? = some (0, 6)) (hl : lv_has ls 6 [(0, .ref (b0 + v0)), (2, .int v2), (3, .int v3), (4, .int v4), (5, .int v5)]) : zJ p l e rmX6_hears s m args below meth c b0 cA D L (fun z => MQ below (va_Qi (fun (r : Int32) (u : zS) => (r, u) = z) (zB b0 cA D L) (zA b0 L)) args s 0 0 (zA b0 L)) (bX6_hears_79 k48 v0 v2 v3 v4 v5 σ) σ 79 ls [] := by
  unfold bX6_hears_79
  refine zj_iinc (pc' := 82) (k0 := 4) (v := (v5 + (1 : Int32))) (lv' := [(5, .int (v5 + (1 : Int32))), (0, .ref (b0 + v0)), (2, .int v2), (3, .int v3), (4, .int v4)]) hC dX6_hears_79 rfl hl rfl rfl (by decide) rfl (fun ls hl => ?_)
  refine zj_goto (tgt := 48) hC dX6_hears_82 (by decide) ?_
  exact h48 v0 v2 v3 v4 ((v5 + (1 : Int32))) σ ls hk_v0 (lv_sub hl [1, 2, 3, 4, 0] rfl)
set_option maxRecDepth 100000 in
set_option maxHeartbeats 4000000 in
theorem jX6_hears_48 {p : Program} {l : Launch} {e : Env} {s : State} {m : MethodId} {args : Array Value} {below : List Frame} {meth : Method} {c : Code} {b0 : Nat} {cA : Nat → ClassId} {D : va_G} {L : List (Nat × Nat)} (hC : zC p c s m args meth cX6_hears 6 (some Jvm.ClassFile.FieldType.int) (Cond.code yX6_hears cX6_hears 6 (some Jvm.ClassFile.FieldType.int)) yX6_hears.cls cA D) (k26 : Nat → Int32 → Int32 → Int32 → zS → Option (Int32 × zS)) (h26 : ∀ (v0 : Nat) (v2 : Int32) (v3 : Int32) (v4 : Int32) (σ : zS) (ls : Array Slot), L[v0]? = some (0, 6) → lv_has ls 6 [(0, .ref (b0 + v0)), (2, .int v2), (3, .int v3), (4, .int v4)] → zJ p l e rmX6_hears s m args below meth c b0 cA D L (fun z => MQ below (va_Qi (fun (r : Int32) (u : zS) => (r, u) = z) (zB b0 cA D L) (zA b0 L)) args s 0 0 (zA b0 L)) (k26 v0 v2 v3 v4 σ) σ 26 ls []) (k48 : Nat → Int32 → Int32 → Int32 → Int32 → zS → Option (Int32 × zS)) (h48 : ∀ (v0 : Nat) (v2 : Int32) (v3 : Int32) (v4 : Int32) (v5 : Int32) (σ : zS) (ls : Array Slot), L[v0]? = some (0, 6) → lv_has ls 6 [(0, .ref (b0 + v0)), (2, .int v2), (3, .int v3), (4, .int v4), (5, .int v5)] → zJ p l e rmX6_hears s m args below meth c b0 cA D L (fun z => MQ below (va_Qi (fun (r : Int32) (u : zS) => (r, u) = z) (zB b0 cA D L) (zA b0 L)) args s 0 0 (zA b0 L)) (k48 v0 v2 v3 v4 v5 σ) σ 48 ls []) (v0 : Nat) (v2 : Int32) (v3 : Int32) (v4 : Int32) (v5 : Int32) (σ : zS) (ls : Array Slot) (hk_v0 : L[v0]? = some (0, 6)) (hl : lv_has ls 6 [(0, .ref (b0 + v0)), (2, .int v2), (3, .int v3), (4, .int v4), (5, .int v5)]) : zJ p l e rmX6_hears s m args below meth c b0 cA D L (fun z => MQ below (va_Qi (fun (r : Int32) (u : zS) => (r, u) = z) (zB b0 cA D L) (zA b0 L)) args s 0 0 (zA b0 L)) (bX6_hears_48 k26 k48 v0 v2 v3 v4 v5 σ) σ 48 ls [] := by
  unfold bX6_hears_48
  refine zj_iload (pc' := 50) hC dX6_hears_48 rfl (lv_at hl 4 rfl) ?_
  refine zj_iload (pc' := 52) hC dX6_hears_50 rfl (lv_at hl 3 rfl) ?_
  refine zj_icmp_ge (tgt := 85) (pc' := 55) hC dX6_hears_52 (by decide) rfl (fun c1 => ?_) (fun c1 => ?_)
  · exact jX6_hears_85 hC k26 h26 v0 v2 v3 v4 σ ls hk_v0 (lv_sub hl [0, 1, 2, 3] rfl)
  · refine zj_aload_n (pc' := 56) hC dX6_hears_55 rfl rfl (lv_at hl 0 rfl) ?_
    refine zj_getR (pc' := 59) hC hk_v0 fd_6_3 rfl tw_1_198 dX6_hears_56 rfl (fun q2 hk_q2 => ?_)
    refine zj_iload (pc' := 61) hC dX6_hears_59 rfl (lv_at hl 3 rfl) ?_
    refine zj_aald (t := 0) (pc' := 62) hC hk_q2 (by decide) dX6_hears_61 rfl (fun g3 q4 hk_q4 => ?_)
    refine zj_aload_n (pc' := 63) hC dX6_hears_62 rfl rfl (lv_at hl 0 rfl) ?_
    refine zj_getR (pc' := 66) hC hk_v0 fd_6_3 rfl tw_1_198 dX6_hears_63 rfl (fun q5 hk_q5 => ?_)
    refine zj_iload (pc' := 68) hC dX6_hears_66 rfl (lv_at hl 4 rfl) ?_
    refine zj_aald (t := 0) (pc' := 69) hC hk_q5 (by decide) dX6_hears_68 rfl (fun g6 q7 hk_q7 => ?_)
    refine zj_calliS (pc' := 72) (rest := []) hC (kX6_goTogether l b0 cA D L q4 q7 σ hk_q4 hk_q7) tw_3_223 tw_3_221 tw_3_222 tw_1_1 ddX6_goTogether rfl ⟨rfl, rfl⟩ ⟨by decide, by decide⟩ hl.1 (Nat.le_of_ble_eq_true rfl) rfl dX6_hears_69 rfl (fun r9 σ8 => ?_)
    refine zj_iload_n (pc' := 73) hC dX6_hears_72 rfl rfl (lv_at hl 1 rfl) ?_
    refine zj_icmp_ne (tgt := 79) (pc' := 76) hC dX6_hears_73 (by decide) rfl (fun c10 => ?_) (fun c10 => ?_)
    · exact jX6_hears_79 hC k48 h48 v0 v2 v3 v4 v5 σ8 ls hk_v0 (lv_sub hl [0, 1, 2, 3, 4] rfl)
    · refine zj_iinc (pc' := 79) (k0 := 2) (v := (v3 + (1 : Int32))) (lv' := [(3, .int (v3 + (1 : Int32))), (0, .ref (b0 + v0)), (2, .int v2), (4, .int v4), (5, .int v5)]) hC dX6_hears_76 rfl hl rfl rfl (by decide) rfl (fun ls hl => ?_)
      exact jX6_hears_79 hC k48 h48 v0 v2 ((v3 + (1 : Int32))) v4 v5 σ8 ls hk_v0 (lv_sub hl [1, 2, 0, 3, 4] rfl)
set_option maxRecDepth 100000 in
set_option maxHeartbeats 4000000 in
theorem lX6_hears_48 {p : Program} {l : Launch} {e : Env} {s : State} {m : MethodId} {args : Array Value} {below : List Frame} {meth : Method} {c : Code} {b0 : Nat} {cA : Nat → ClassId} {D : va_G} {L : List (Nat × Nat)} (hC : zC p c s m args meth cX6_hears 6 (some Jvm.ClassFile.FieldType.int) (Cond.code yX6_hears cX6_hears 6 (some Jvm.ClassFile.FieldType.int)) yX6_hears.cls cA D) (k26 : Nat → Int32 → Int32 → Int32 → zS → Option (Int32 × zS)) (h26 : ∀ (v0 : Nat) (v2 : Int32) (v3 : Int32) (v4 : Int32) (σ : zS) (ls : Array Slot), L[v0]? = some (0, 6) → lv_has ls 6 [(0, .ref (b0 + v0)), (2, .int v2), (3, .int v3), (4, .int v4)] → zJ p l e rmX6_hears s m args below meth c b0 cA D L (fun z => MQ below (va_Qi (fun (r : Int32) (u : zS) => (r, u) = z) (zB b0 cA D L) (zA b0 L)) args s 0 0 (zA b0 L)) (k26 v0 v2 v3 v4 σ) σ 26 ls []) (n : Nat) : ∀ (v0 : Nat) (v2 : Int32) (v3 : Int32) (v4 : Int32) (v5 : Int32) (σ : zS) (ls : Array Slot), L[v0]? = some (0, 6) → lv_has ls 6 [(0, .ref (b0 + v0)), (2, .int v2), (3, .int v3), (4, .int v4), (5, .int v5)] → zJ p l e rmX6_hears s m args below meth c b0 cA D L (fun z => MQ below (va_Qi (fun (r : Int32) (u : zS) => (r, u) = z) (zB b0 cA D L) (zA b0 L)) args s 0 0 (zA b0 L)) (fX6_hears_48 k26 n v0 v2 v3 v4 v5 σ) σ 48 ls [] := by
  induction n with
  | zero => intros; exact zj_none
  | succ n ih => exact jX6_hears_48 hC k26 h26 (fX6_hears_48 k26 n) ih
set_option maxRecDepth 100000 in
set_option maxHeartbeats 4000000 in
theorem jX6_hears_26 {p : Program} {l : Launch} {e : Env} {s : State} {m : MethodId} {args : Array Value} {below : List Frame} {meth : Method} {c : Code} {b0 : Nat} {cA : Nat → ClassId} {D : va_G} {L : List (Nat × Nat)} (hC : zC p c s m args meth cX6_hears 6 (some Jvm.ClassFile.FieldType.int) (Cond.code yX6_hears cX6_hears 6 (some Jvm.ClassFile.FieldType.int)) yX6_hears.cls cA D) (k26 : Nat → Int32 → Int32 → Int32 → zS → Option (Int32 × zS)) (h26 : ∀ (v0 : Nat) (v2 : Int32) (v3 : Int32) (v4 : Int32) (σ : zS) (ls : Array Slot), L[v0]? = some (0, 6) → lv_has ls 6 [(0, .ref (b0 + v0)), (2, .int v2), (3, .int v3), (4, .int v4)] → zJ p l e rmX6_hears s m args below meth c b0 cA D L (fun z => MQ below (va_Qi (fun (r : Int32) (u : zS) => (r, u) = z) (zB b0 cA D L) (zA b0 L)) args s 0 0 (zA b0 L)) (k26 v0 v2 v3 v4 σ) σ 26 ls []) (v0 : Nat) (v2 : Int32) (v3 : Int32) (v4 : Int32) (σ : zS) (ls : Array Slot) (hk_v0 : L[v0]? = some (0, 6)) (hl : lv_has ls 6 [(0, .ref (b0 + v0)), (2, .int v2), (3, .int v3), (4, .int v4)]) : zJ p l e rmX6_hears s m args below meth c b0 cA D L (fun z => MQ below (va_Qi (fun (r : Int32) (u : zS) => (r, u) = z) (zB b0 cA D L) (zA b0 L)) args s 0 0 (zA b0 L)) (bX6_hears_26 k26 v0 v2 v3 v4 σ) σ 26 ls [] := by
  unfold bX6_hears_26
  refine zj_iload (pc' := 28) hC dX6_hears_26 rfl (lv_at hl 3 rfl) ?_
  refine zj_aload_n (pc' := 29) hC dX6_hears_28 rfl rfl (lv_at hl 0 rfl) ?_
  refine zj_getI (pc' := 32) hC hk_v0 fd_6_4 rfl tw_1_199 dX6_hears_29 rfl ?_
  refine zj_icmp_ge (tgt := 91) (pc' := 35) hC dX6_hears_32 (by decide) rfl (fun c11 => ?_) (fun c11 => ?_)
  · refine zj_iload_n (pc' := 92) hC dX6_hears_91 rfl rfl (lv_at hl 2 rfl) ?_
    exact zj_iret hC dX6_hears_92
  · refine zj_iload (pc' := 37) hC dX6_hears_35 rfl (lv_at hl 3 rfl) ?_
    refine zj_aload_n (pc' := 38) hC dX6_hears_37 rfl rfl (lv_at hl 0 rfl) ?_
    refine zj_getR (pc' := 41) hC hk_v0 fd_6_3 rfl tw_1_198 dX6_hears_38 rfl (fun q12 hk_q12 => ?_)
    refine zj_alen (pc' := 42) (v := (20 : Int32)) hC hk_q12 (by decide) rfl dX6_hears_41 rfl ?_
    refine zj_icmp_ge (tgt := 91) (pc' := 45) hC dX6_hears_42 (by decide) rfl (fun c13 => ?_) (fun c13 => ?_)
    · refine zj_iload_n (pc' := 92) hC dX6_hears_91 rfl rfl (lv_at hl 2 rfl) ?_
      exact zj_iret hC dX6_hears_92
    · refine zj_iconst (pc' := 46) (v := (0 : Int32)) hC dX6_hears_45 rfl rfl ?_
      refine zj_istore (pc' := 48) (lv' := [(5, .int (0 : Int32)), (0, .ref (b0 + v0)), (2, .int v2), (3, .int v3), (4, .int v4)]) hC dX6_hears_46 rfl hl (by decide) rfl (fun ls hl => ?_)
      exact lX6_hears_48 hC k26 h26 zFU v0 v2 v3 v4 (0 : Int32) σ ls hk_v0 (lv_sub hl [1, 2, 3, 4, 0] rfl)
set_option maxRecDepth 100000 in
set_option maxHeartbeats 4000000 in
theorem lX6_hears_26 {p : Program} {l : Launch} {e : Env} {s : State} {m : MethodId} {args : Array Value} {below : List Frame} {meth : Method} {c : Code} {b0 : Nat} {cA : Nat → ClassId} {D : va_G} {L : List (Nat × Nat)} (hC : zC p c s m args meth cX6_hears 6 (some Jvm.ClassFile.FieldType.int) (Cond.code yX6_hears cX6_hears 6 (some Jvm.ClassFile.FieldType.int)) yX6_hears.cls cA D)  (n : Nat) : ∀ (v0 : Nat) (v2 : Int32) (v3 : Int32) (v4 : Int32) (σ : zS) (ls : Array Slot), L[v0]? = some (0, 6) → lv_has ls 6 [(0, .ref (b0 + v0)), (2, .int v2), (3, .int v3), (4, .int v4)] → zJ p l e rmX6_hears s m args below meth c b0 cA D L (fun z => MQ below (va_Qi (fun (r : Int32) (u : zS) => (r, u) = z) (zB b0 cA D L) (zA b0 L)) args s 0 0 (zA b0 L)) (fX6_hears_26  n v0 v2 v3 v4 σ) σ 26 ls [] := by
  induction n with
  | zero => intros; exact zj_none
  | succ n ih => exact jX6_hears_26 hC (fX6_hears_26  n) ih
set_option maxRecDepth 100000 in
set_option maxHeartbeats 4000000 in
theorem jX6_hears_20 {p : Program} {l : Launch} {e : Env} {s : State} {m : MethodId} {args : Array Value} {below : List Frame} {meth : Method} {c : Code} {b0 : Nat} {cA : Nat → ClassId} {D : va_G} {L : List (Nat × Nat)} (hC : zC p c s m args meth cX6_hears 6 (some Jvm.ClassFile.FieldType.int) (Cond.code yX6_hears cX6_hears 6 (some Jvm.ClassFile.FieldType.int)) yX6_hears.cls cA D)  (v0 : Nat) (s0 : Int32) (σ : zS) (ls : Array Slot) (hk_v0 : L[v0]? = some (0, 6)) (hl : lv_has ls 6 [(0, .ref (b0 + v0))]) : zJ p l e rmX6_hears s m args below meth c b0 cA D L (fun z => MQ below (va_Qi (fun (r : Int32) (u : zS) => (r, u) = z) (zB b0 cA D L) (zA b0 L)) args s 0 0 (zA b0 L)) (bX6_hears_20  v0 s0 σ) σ 20 ls [.int s0] := by
  unfold bX6_hears_20
  refine zj_istore_n (pc' := 21) (lv' := [(2, .int s0), (0, .ref (b0 + v0))]) hC dX6_hears_20 rfl rfl hl (by decide) rfl (fun ls hl => ?_)
  refine zj_iconst (pc' := 22) (v := (0 : Int32)) hC dX6_hears_21 rfl rfl ?_
  refine zj_istore_n (pc' := 23) (lv' := [(3, .int (0 : Int32)), (2, .int s0), (0, .ref (b0 + v0))]) hC dX6_hears_22 rfl rfl hl (by decide) rfl (fun ls hl => ?_)
  refine zj_iconst (pc' := 24) (v := (0 : Int32)) hC dX6_hears_23 rfl rfl ?_
  refine zj_istore (pc' := 26) (lv' := [(4, .int (0 : Int32)), (3, .int (0 : Int32)), (2, .int s0), (0, .ref (b0 + v0))]) hC dX6_hears_24 rfl hl (by decide) rfl (fun ls hl => ?_)
  exact lX6_hears_26 hC zFU v0 s0 (0 : Int32) (0 : Int32) σ ls hk_v0 (lv_sub hl [3, 2, 1, 0] rfl)
set_option maxRecDepth 100000 in
set_option maxHeartbeats 4000000 in
theorem kX6_hears (l : Launch) (b0 : Nat) (cA : Nat → ClassId) (D : va_G) (L : List (Nat × Nat)) (v0 : Nat) (v1 : Int32) (σ : zS) (hk0 : L[v0]? = some (0, 6)) : zMi l b0 cA D L yX6_hears (Cond.code yX6_hears cX6_hears 6 (some Jvm.ClassFile.FieldType.int)) rmX6_hears [.ref (b0 + v0), .int v1] σ (fX6_hears v0 v1 σ) := by
  refine zMi_of (by decide) (Nat.le_of_ble_eq_true rfl) ?_
  intro p e s m below meth c ls hC hl
  have hl : lv_has ls 6 [(0, .ref (b0 + v0)), (1, .int v1)] := hl
  generalize ([.ref (b0 + v0), .int v1] : List Value).toArray = args at hC ⊢
  unfold fX6_hears
  refine zj_iload_n (pc' := 1) hC dX6_hears_0 rfl rfl (lv_at hl 1 rfl) ?_
  refine zj_iconst (pc' := 2) (v := (0 : Int32)) hC dX6_hears_1 rfl rfl ?_
  refine zj_iconst (pc' := 3) (v := (1 : Int32)) hC dX6_hears_2 rfl rfl ?_
  refine zj_callzS (pc' := 6) (rest := []) hC (kX6_within l b0 cA D L v1 (0 : Int32) (1 : Int32) σ ) tw_2_13 tw_2_11 tw_2_12 tw_1_1 ddX6_within rfl ⟨rfl, rfl⟩ ⟨by decide, by decide⟩ hl.1 (Nat.le_of_ble_eq_true rfl) rfl dX6_hears_3 rfl (fun r15 σ14 hb_r15 => ?_)
  refine zj_if_ne (tgt := 11) (pc' := 9) hC dX6_hears_6 (by decide) rfl (fun c16 => ?_) (fun c16 => ?_)
  · refine zj_iload_n (pc' := 12) hC dX6_hears_11 rfl rfl (lv_at hl 1 rfl) ?_
    refine zj_if_ne (tgt := 19) (pc' := 15) hC dX6_hears_12 (by decide) rfl (fun c17 => ?_) (fun c17 => ?_)
    · refine zj_iconst (pc' := 20) (v := (-1 : Int32)) hC dX6_hears_19 rfl rfl ?_
      exact jX6_hears_20 hC v0 (-1 : Int32) σ14 ls hk0 (lv_sub hl [0] rfl)
    · refine zj_iconst (pc' := 16) (v := (1 : Int32)) hC dX6_hears_15 rfl rfl ?_
      refine zj_goto (tgt := 20) hC dX6_hears_16 (by decide) ?_
      exact jX6_hears_20 hC v0 (1 : Int32) σ14 ls hk0 (lv_sub hl [0] rfl)
  · refine zj_iconst (pc' := 10) (v := (-1 : Int32)) hC dX6_hears_9 rfl rfl ?_
    exact zj_iret hC dX6_hears_10
-- X6_straysIn
theorem ddX6_straysIn : yX6_straysIn.cls ≠ "java/lang/invoke/MethodHandle" ∧ yX6_straysIn.cls ≠ "java/lang/invoke/VarHandle" ∧ (parseMethodDescriptor yX6_straysIn.desc).map (fun d => d.parameters.length) = some 2 := by decide +kernel
abbrev rmX6_straysIn : Room := { frames := 4, cells := 0, slots := 0, locals := 93 }
def bX6_straysIn_87 (k28 : Nat → Nat → Int32 → Int32 → Int32 → Int32 → zS → Option (Int32 × zS)) (v0 : Nat) (v1 : Nat) (v2 : Int32) (v3 : Int32) (v4 : Int32) (v5 : Int32) (σ : zS) : Option (Int32 × zS) :=
  k28 v0 v1 v2 v3 v4 ((v5 + (1 : Int32))) σ
def bX6_straysIn_28 (k28 : Nat → Nat → Int32 → Int32 → Int32 → Int32 → zS → Option (Int32 × zS)) (v0 : Nat) (v1 : Nat) (v2 : Int32) (v3 : Int32) (v4 : Int32) (v5 : Int32) (σ : zS) : Option (Int32 × zS) :=
  bnd (σ.2 v1 1) (fun (q1 : Nat) => if (σ.1 q1 0) ≤ v5 then (some (v4, σ)) else (bnd (σ.2 v0 5) (fun (q3 : Nat) => zb (fX3_showing v1 ((v5 - (1 : Int32))) (1 : Int32) σ) (fun (r5 : Int32) (σ4 : zS) => zb (fX3_showing v1 ((v5 - (1 : Int32))) (2 : Int32) σ4) (fun (r7 : Int32) (σ6 : zS) => zb (fX0_stand q3 v1 v5 r5 r7 σ6) (fun (_ : Unit) (σ8 : zS) => zb (fX6_asked v0 v3 v2 σ8) (fun (r11 : Int32) (σ10 : zS) => zb (fX3_shown v1 v2 v5 σ10) (fun (r13 : Int32) (σ12 : zS) => if r11 = r13 then (bX6_straysIn_87 k28 v0 v1 v2 v3 v4 v5 σ12) else (bX6_straysIn_87 k28 v0 v1 v2 v3 ((v4 + (1 : Int32))) v5 σ12)))))))))
def fX6_straysIn_28  : Nat → Nat → Nat → Int32 → Int32 → Int32 → Int32 → zS → Option (Int32 × zS)
  | 0, _, _, _, _, _, _, _ => none
  | n + 1, v0, v1, v2, v3, v4, v5, σ => bX6_straysIn_28 (fX6_straysIn_28  n) v0 v1 v2 v3 v4 v5 σ
def fX6_straysIn (v0 : Nat) (v1 : Nat) (v2 : Int32) (σ : zS) : Option (Int32 × zS) :=
  bnd (σ.2 v1 0) (fun (q15 : Nat) => zb (fX2_has q15 v2 σ) (fun (r17 : Int32) (σ16 : zS) => if r17 = 0 then (some ((0 : Int32), σ16)) else (bnd (σ16.2 v1 0) (fun (q19 : Nat) => zb (fX2_sortOf q19 v2 σ16) (fun (r21 : Int32) (σ20 : zS) => fX6_straysIn_28 zFU v0 v1 v2 r21 (0 : Int32) (0 : Int32) σ20)))))
set_option maxRecDepth 100000 in
set_option maxHeartbeats 4000000 in
theorem jX6_straysIn_87 {p : Program} {l : Launch} {e : Env} {s : State} {m : MethodId} {args : Array Value} {below : List Frame} {meth : Method} {c : Code} {b0 : Nat} {cA : Nat → ClassId} {D : va_G} {L : List (Nat × Nat)} (hC : zC p c s m args meth cX6_straysIn 6 (some Jvm.ClassFile.FieldType.int) (Cond.code yX6_straysIn cX6_straysIn 6 (some Jvm.ClassFile.FieldType.int)) yX6_straysIn.cls cA D) (k28 : Nat → Nat → Int32 → Int32 → Int32 → Int32 → zS → Option (Int32 × zS)) (h28 : ∀ (v0 : Nat) (v1 : Nat) (v2 : Int32) (v3 : Int32) (v4 : Int32) (v5 : Int32) (σ : zS) (ls : Array Slot), L[v0]? = some (0, 6) → L[v1]? = some (0, 3) → lv_has ls 6 [(0, .ref (b0 + v0)), (1, .ref (b0 + v1)), (2, .int v2), (3, .int v3), (4, .int v4), (5, .int v5)] → zJ p l e rmX6_straysIn s m args below meth c b0 cA D L (fun z => MQ below (va_Qi (fun (r : Int32) (u : zS) => (r, u) = z) (zB b0 cA D L) (zA b0 L)) args s 0 0 (zA b0 L)) (k28 v0 v1 v2 v3 v4 v5 σ) σ 28 ls []) (v0 : Nat) (v1 : Nat) (v2 : Int32) (v3 : Int32) (v4 : Int32) (v5 : Int32) (σ : zS) (ls : Array Slot) (hk_v0 : L[v0]? = some (0, 6)) (hk_v1 : L[v1]? = some (0, 3)) (hl : lv_has ls 6 [(0, .ref (b0 + v0)), (1, .ref (b0 + v1)), (2, .int v2), (3, .int v3), (4, .int v4), (5, .int v5)]) : zJ p l e rmX6_straysIn s m args below meth c b0 cA D L (fun z => MQ below (va_Qi (fun (r : Int32) (u : zS) => (r, u) = z) (zB b0 cA D L) (zA b0 L)) args s 0 0 (zA b0 L)) (bX6_straysIn_87 k28 v0 v1 v2 v3 v4 v5 σ) σ 87 ls [] := by
  unfold bX6_straysIn_87
  refine zj_iinc (pc' := 90) (k0 := 5) (v := (v5 + (1 : Int32))) (lv' := [(5, .int (v5 + (1 : Int32))), (0, .ref (b0 + v0)), (1, .ref (b0 + v1)), (2, .int v2), (3, .int v3), (4, .int v4)]) hC dX6_straysIn_87 rfl hl rfl rfl (by decide) rfl (fun ls hl => ?_)
  refine zj_goto (tgt := 28) hC dX6_straysIn_90 (by decide) ?_
  exact h28 v0 v1 v2 v3 v4 ((v5 + (1 : Int32))) σ ls hk_v0 hk_v1 (lv_sub hl [1, 2, 3, 4, 5, 0] rfl)
set_option maxRecDepth 100000 in
set_option maxHeartbeats 4000000 in
theorem jX6_straysIn_28 {p : Program} {l : Launch} {e : Env} {s : State} {m : MethodId} {args : Array Value} {below : List Frame} {meth : Method} {c : Code} {b0 : Nat} {cA : Nat → ClassId} {D : va_G} {L : List (Nat × Nat)} (hC : zC p c s m args meth cX6_straysIn 6 (some Jvm.ClassFile.FieldType.int) (Cond.code yX6_straysIn cX6_straysIn 6 (some Jvm.ClassFile.FieldType.int)) yX6_straysIn.cls cA D) (k28 : Nat → Nat → Int32 → Int32 → Int32 → Int32 → zS → Option (Int32 × zS)) (h28 : ∀ (v0 : Nat) (v1 : Nat) (v2 : Int32) (v3 : Int32) (v4 : Int32) (v5 : Int32) (σ : zS) (ls : Array Slot), L[v0]? = some (0, 6) → L[v1]? = some (0, 3) → lv_has ls 6 [(0, .ref (b0 + v0)), (1, .ref (b0 + v1)), (2, .int v2), (3, .int v3), (4, .int v4), (5, .int v5)] → zJ p l e rmX6_straysIn s m args below meth c b0 cA D L (fun z => MQ below (va_Qi (fun (r : Int32) (u : zS) => (r, u) = z) (zB b0 cA D L) (zA b0 L)) args s 0 0 (zA b0 L)) (k28 v0 v1 v2 v3 v4 v5 σ) σ 28 ls []) (v0 : Nat) (v1 : Nat) (v2 : Int32) (v3 : Int32) (v4 : Int32) (v5 : Int32) (σ : zS) (ls : Array Slot) (hk_v0 : L[v0]? = some (0, 6)) (hk_v1 : L[v1]? = some (0, 3)) (hl : lv_has ls 6 [(0, .ref (b0 + v0)), (1, .ref (b0 + v1)), (2, .int v2), (3, .int v3), (4, .int v4), (5, .int v5)]) : zJ p l e rmX6_straysIn s m args below meth c b0 cA D L (fun z => MQ below (va_Qi (fun (r : Int32) (u : zS) => (r, u) = z) (zB b0 cA D L) (zA b0 L)) args s 0 0 (zA b0 L)) (bX6_straysIn_28 k28 v0 v1 v2 v3 v4 v5 σ) σ 28 ls [] := by
  unfold bX6_straysIn_28
  refine zj_iload (pc' := 30) hC dX6_straysIn_28 rfl (lv_at hl 5 rfl) ?_
  refine zj_aload_n (pc' := 31) hC dX6_straysIn_30 rfl rfl (lv_at hl 1 rfl) ?_
  refine zj_getR (pc' := 34) hC hk_v1 fd_3_1 rfl tw_1_95 dX6_straysIn_31 rfl (fun q1 hk_q1 => ?_)
  refine zj_getI (pc' := 37) hC hk_q1 fd_1_0 rfl tw_1_35 dX6_straysIn_34 rfl ?_
  refine zj_icmp_ge (tgt := 93) (pc' := 40) hC dX6_straysIn_37 (by decide) rfl (fun c2 => ?_) (fun c2 => ?_)
  · refine zj_iload (pc' := 95) hC dX6_straysIn_93 rfl (lv_at hl 4 rfl) ?_
    exact zj_iret hC dX6_straysIn_95
  · refine zj_aload_n (pc' := 41) hC dX6_straysIn_40 rfl rfl (lv_at hl 0 rfl) ?_
    refine zj_getR (pc' := 44) hC hk_v0 fd_6_5 rfl tw_1_200 dX6_straysIn_41 rfl (fun q3 hk_q3 => ?_)
    refine zj_aload_n (pc' := 45) hC dX6_straysIn_44 rfl rfl (lv_at hl 1 rfl) ?_
    refine zj_iload (pc' := 47) hC dX6_straysIn_45 rfl (lv_at hl 5 rfl) ?_
    refine zj_aload_n (pc' := 48) hC dX6_straysIn_47 rfl rfl (lv_at hl 1 rfl) ?_
    refine zj_iload (pc' := 50) hC dX6_straysIn_48 rfl (lv_at hl 5 rfl) ?_
    refine zj_iconst (pc' := 51) (v := (1 : Int32)) hC dX6_straysIn_50 rfl rfl ?_
    refine zj_isub (pc' := 52) hC dX6_straysIn_51 rfl ?_
    refine zj_iconst (pc' := 53) (v := (1 : Int32)) hC dX6_straysIn_52 rfl rfl ?_
    refine zj_calliV (pc' := 56) (rest := [.int v5, .ref (b0 + v1), .ref (b0 + q3)]) hC (kX3_showing l b0 cA D L v1 ((v5 - (1 : Int32))) (1 : Int32) σ hk_v1) hk_v1 rfl tw_3_87 tw_3_149 tw_3_85 tw_3_86 tw_1_2 ddX3_showing rfl ⟨rfl, rfl⟩ ⟨by decide, by decide⟩ hl.1 (Nat.le_of_ble_eq_true rfl) rfl dX6_straysIn_53 rfl (fun r5 σ4 => ?_)
    refine zj_aload_n (pc' := 57) hC dX6_straysIn_56 rfl rfl (lv_at hl 1 rfl) ?_
    refine zj_iload (pc' := 59) hC dX6_straysIn_57 rfl (lv_at hl 5 rfl) ?_
    refine zj_iconst (pc' := 60) (v := (1 : Int32)) hC dX6_straysIn_59 rfl rfl ?_
    refine zj_isub (pc' := 61) hC dX6_straysIn_60 rfl ?_
    refine zj_iconst (pc' := 62) (v := (2 : Int32)) hC dX6_straysIn_61 rfl rfl ?_
    refine zj_calliV (pc' := 65) (rest := [.int r5, .int v5, .ref (b0 + v1), .ref (b0 + q3)]) hC (kX3_showing l b0 cA D L v1 ((v5 - (1 : Int32))) (2 : Int32) σ4 hk_v1) hk_v1 rfl tw_3_87 tw_3_149 tw_3_85 tw_3_86 tw_1_2 ddX3_showing rfl ⟨rfl, rfl⟩ ⟨by decide, by decide⟩ hl.1 (Nat.le_of_ble_eq_true rfl) rfl dX6_straysIn_62 rfl (fun r7 σ6 => ?_)
    refine zj_callvV (pc' := 68) (rest := []) hC (kX0_stand l b0 cA D L q3 v1 v5 r5 r7 σ6 hk_q3 hk_v1) hk_q3 rfl tw_3_35 tw_3_32 tw_3_33 tw_3_34 tw_1_5 ddX0_stand rfl ⟨rfl, rfl⟩ ⟨by decide, by decide⟩ hl.1 (Nat.le_of_ble_eq_true rfl) rfl dX6_straysIn_65 rfl (fun σ8 => ?_)
    refine zj_aload_n (pc' := 69) hC dX6_straysIn_68 rfl rfl (lv_at hl 0 rfl) ?_
    refine zj_iload_n (pc' := 70) hC dX6_straysIn_69 rfl rfl (lv_at hl 3 rfl) ?_
    refine zj_iload_n (pc' := 71) hC dX6_straysIn_70 rfl rfl (lv_at hl 2 rfl) ?_
    refine zj_calliV (pc' := 74) (rest := []) hC (kX6_asked l b0 cA D L v0 v3 v2 σ8 hk_v0) hk_v0 rfl tw_3_57 tw_3_54 tw_3_56 ts_2_6 tw_1_1 ddX6_asked rfl ⟨rfl, rfl⟩ ⟨by decide, by decide⟩ hl.1 (Nat.le_of_ble_eq_true rfl) rfl dX6_straysIn_71 rfl (fun r11 σ10 => ?_)
    refine zj_aload_n (pc' := 75) hC dX6_straysIn_74 rfl rfl (lv_at hl 1 rfl) ?_
    refine zj_iload_n (pc' := 76) hC dX6_straysIn_75 rfl rfl (lv_at hl 2 rfl) ?_
    refine zj_iload (pc' := 78) hC dX6_straysIn_76 rfl (lv_at hl 5 rfl) ?_
    refine zj_calliV (pc' := 81) (rest := [.int r11]) hC (kX3_shown l b0 cA D L v1 v2 v5 σ10 hk_v1) hk_v1 rfl tw_3_96 tw_3_93 tw_3_94 tw_3_95 tw_1_2 ddX3_shown rfl ⟨rfl, rfl⟩ ⟨by decide, by decide⟩ hl.1 (Nat.le_of_ble_eq_true rfl) rfl dX6_straysIn_78 rfl (fun r13 σ12 => ?_)
    refine zj_icmp_eq (tgt := 87) (pc' := 84) hC dX6_straysIn_81 (by decide) rfl (fun c14 => ?_) (fun c14 => ?_)
    · exact jX6_straysIn_87 hC k28 h28 v0 v1 v2 v3 v4 v5 σ12 ls hk_v0 hk_v1 (lv_sub hl [0, 1, 2, 3, 4, 5] rfl)
    · refine zj_iinc (pc' := 87) (k0 := 4) (v := (v4 + (1 : Int32))) (lv' := [(4, .int (v4 + (1 : Int32))), (0, .ref (b0 + v0)), (1, .ref (b0 + v1)), (2, .int v2), (3, .int v3), (5, .int v5)]) hC dX6_straysIn_84 rfl hl rfl rfl (by decide) rfl (fun ls hl => ?_)
      exact jX6_straysIn_87 hC k28 h28 v0 v1 v2 v3 ((v4 + (1 : Int32))) v5 σ12 ls hk_v0 hk_v1 (lv_sub hl [1, 2, 3, 4, 0, 5] rfl)
set_option maxRecDepth 100000 in
set_option maxHeartbeats 4000000 in
theorem lX6_straysIn_28 {p : Program} {l : Launch} {e : Env} {s : State} {m : MethodId} {args : Array Value} {below : List Frame} {meth : Method} {c : Code} {b0 : Nat} {cA : Nat → ClassId} {D : va_G} {L : List (Nat × Nat)} (hC : zC p c s m args meth cX6_straysIn 6 (some Jvm.ClassFile.FieldType.int) (Cond.code yX6_straysIn cX6_straysIn 6 (some Jvm.ClassFile.FieldType.int)) yX6_straysIn.cls cA D)  (n : Nat) : ∀ (v0 : Nat) (v1 : Nat) (v2 : Int32) (v3 : Int32) (v4 : Int32) (v5 : Int32) (σ : zS) (ls : Array Slot), L[v0]? = some (0, 6) → L[v1]? = some (0, 3) → lv_has ls 6 [(0, .ref (b0 + v0)), (1, .ref (b0 + v1)), (2, .int v2), (3, .int v3), (4, .int v4), (5, .int v5)] → zJ p l e rmX6_straysIn s m args below meth c b0 cA D L (fun z => MQ below (va_Qi (fun (r : Int32) (u : zS) => (r, u) = z) (zB b0 cA D L) (zA b0 L)) args s 0 0 (zA b0 L)) (fX6_straysIn_28  n v0 v1 v2 v3 v4 v5 σ) σ 28 ls [] := by
  induction n with
  | zero => intros; exact zj_none
  | succ n ih => exact jX6_straysIn_28 hC (fX6_straysIn_28  n) ih
set_option maxRecDepth 100000 in
set_option maxHeartbeats 4000000 in
theorem kX6_straysIn (l : Launch) (b0 : Nat) (cA : Nat → ClassId) (D : va_G) (L : List (Nat × Nat)) (v0 : Nat) (v1 : Nat) (v2 : Int32) (σ : zS) (hk0 : L[v0]? = some (0, 6)) (hk1 : L[v1]? = some (0, 3)) : zMi l b0 cA D L yX6_straysIn (Cond.code yX6_straysIn cX6_straysIn 6 (some Jvm.ClassFile.FieldType.int)) rmX6_straysIn [.ref (b0 + v0), .ref (b0 + v1), .int v2] σ (fX6_straysIn v0 v1 v2 σ) := by
  refine zMi_of (by decide) (Nat.le_of_ble_eq_true rfl) ?_
  intro p e s m below meth c ls hC hl
  have hl : lv_has ls 6 [(0, .ref (b0 + v0)), (1, .ref (b0 + v1)), (2, .int v2)] := hl
  generalize ([.ref (b0 + v0), .ref (b0 + v1), .int v2] : List Value).toArray = args at hC ⊢
  unfold fX6_straysIn
  refine zj_aload_n (pc' := 1) hC dX6_straysIn_0 rfl rfl (lv_at hl 1 rfl) ?_
  refine zj_getR (pc' := 4) hC hk1 fd_3_0 rfl tw_1_93 dX6_straysIn_1 rfl (fun q15 hk_q15 => ?_)
  refine zj_iload_n (pc' := 5) hC dX6_straysIn_4 rfl rfl (lv_at hl 2 rfl) ?_
  refine zj_callzV (pc' := 8) (rest := []) hC (kX2_has l b0 cA D L q15 v2 σ hk_q15) hk_q15 rfl tw_2_40 tw_2_37 tw_2_38 tw_2_39 tw_1_4 ddX2_has rfl ⟨rfl, rfl⟩ ⟨by decide, by decide⟩ hl.1 (Nat.le_of_ble_eq_true rfl) rfl dX6_straysIn_5 rfl (fun r17 σ16 hb_r17 => ?_)
  refine zj_if_ne (tgt := 13) (pc' := 11) hC dX6_straysIn_8 (by decide) rfl (fun c18 => ?_) (fun c18 => ?_)
  · refine zj_aload_n (pc' := 14) hC dX6_straysIn_13 rfl rfl (lv_at hl 1 rfl) ?_
    refine zj_getR (pc' := 17) hC hk1 fd_3_0 rfl tw_1_93 dX6_straysIn_14 rfl (fun q19 hk_q19 => ?_)
    refine zj_iload_n (pc' := 18) hC dX6_straysIn_17 rfl rfl (lv_at hl 2 rfl) ?_
    refine zj_calliV (pc' := 21) (rest := []) hC (kX2_sortOf l b0 cA D L q19 v2 σ16 hk_q19) hk_q19 rfl tw_3_52 tw_3_49 tw_3_50 tw_3_51 tw_1_4 ddX2_sortOf rfl ⟨rfl, rfl⟩ ⟨by decide, by decide⟩ hl.1 (Nat.le_of_ble_eq_true rfl) rfl dX6_straysIn_18 rfl (fun r21 σ20 => ?_)
    refine zj_istore_n (pc' := 22) (lv' := [(3, .int r21), (0, .ref (b0 + v0)), (1, .ref (b0 + v1)), (2, .int v2)]) hC dX6_straysIn_21 rfl rfl hl (by decide) rfl (fun ls hl => ?_)
    refine zj_iconst (pc' := 23) (v := (0 : Int32)) hC dX6_straysIn_22 rfl rfl ?_
    refine zj_istore (pc' := 25) (lv' := [(4, .int (0 : Int32)), (3, .int r21), (0, .ref (b0 + v0)), (1, .ref (b0 + v1)), (2, .int v2)]) hC dX6_straysIn_23 rfl hl (by decide) rfl (fun ls hl => ?_)
    refine zj_iconst (pc' := 26) (v := (0 : Int32)) hC dX6_straysIn_25 rfl rfl ?_
    refine zj_istore (pc' := 28) (lv' := [(5, .int (0 : Int32)), (4, .int (0 : Int32)), (3, .int r21), (0, .ref (b0 + v0)), (1, .ref (b0 + v1)), (2, .int v2)]) hC dX6_straysIn_26 rfl hl (by decide) rfl (fun ls hl => ?_)
    exact lX6_straysIn_28 hC zFU v0 v1 v2 r21 (0 : Int32) (0 : Int32) σ20 ls hk0 hk1 (lv_sub hl [3, 4, 5, 2, 1, 0] rfl)
  · refine zj_iconst (pc' := 12) (v := (0 : Int32)) hC dX6_straysIn_11 rfl rfl ?_
    exact zj_iret hC dX6_straysIn_12
-- X6_strays
theorem ddX6_strays : yX6_strays.cls ≠ "java/lang/invoke/MethodHandle" ∧ yX6_strays.cls ≠ "java/lang/invoke/VarHandle" ∧ (parseMethodDescriptor yX6_strays.desc).map (fun d => d.parameters.length) = some 1 := by decide +kernel
abbrev rmX6_strays : Room := { frames := 5, cells := 0, slots := 0, locals := 118 }
def bX6_strays_4 (k4 : Nat → Int32 → Int32 → Int32 → zS → Option (Int32 × zS)) (v0 : Nat) (v1 : Int32) (v2 : Int32) (v3 : Int32) (σ : zS) : Option (Int32 × zS) :=
  if (σ.1 v0 4) ≤ v3 then (some (v2, σ)) else (bnd (σ.2 v0 3) (fun (q2 : Nat) => if (20 : Int32) ≤ v3 then (some (v2, σ)) else (bnd (σ.2 v0 3) (fun (q4 : Nat) => zX v3 20 (bnd (σ.2 q4 (v3).toNatClampNeg) (fun (q6 : Nat) => zb (fX6_straysIn v0 q6 v1 σ) (fun (r8 : Int32) (σ7 : zS) => bnd ((v2 + r8)) (fun (x9 : Int32) => k4 v0 v1 x9 ((v3 + (1 : Int32))) σ7))))))))
def fX6_strays_4  : Nat → Nat → Int32 → Int32 → Int32 → zS → Option (Int32 × zS)
  | 0, _, _, _, _, _ => none
  | n + 1, v0, v1, v2, v3, σ => bX6_strays_4 (fX6_strays_4  n) v0 v1 v2 v3 σ
def fX6_strays (v0 : Nat) (v1 : Int32) (σ : zS) : Option (Int32 × zS) :=
  fX6_strays_4 zFU v0 v1 (0 : Int32) (0 : Int32) σ
set_option maxRecDepth 100000 in
set_option maxHeartbeats 4000000 in
theorem jX6_strays_4 {p : Program} {l : Launch} {e : Env} {s : State} {m : MethodId} {args : Array Value} {below : List Frame} {meth : Method} {c : Code} {b0 : Nat} {cA : Nat → ClassId} {D : va_G} {L : List (Nat × Nat)} (hC : zC p c s m args meth cX6_strays 4 (some Jvm.ClassFile.FieldType.int) (Cond.code yX6_strays cX6_strays 4 (some Jvm.ClassFile.FieldType.int)) yX6_strays.cls cA D) (k4 : Nat → Int32 → Int32 → Int32 → zS → Option (Int32 × zS)) (h4 : ∀ (v0 : Nat) (v1 : Int32) (v2 : Int32) (v3 : Int32) (σ : zS) (ls : Array Slot), L[v0]? = some (0, 6) → lv_has ls 4 [(0, .ref (b0 + v0)), (1, .int v1), (2, .int v2), (3, .int v3)] → zJ p l e rmX6_strays s m args below meth c b0 cA D L (fun z => MQ below (va_Qi (fun (r : Int32) (u : zS) => (r, u) = z) (zB b0 cA D L) (zA b0 L)) args s 0 0 (zA b0 L)) (k4 v0 v1 v2 v3 σ) σ 4 ls []) (v0 : Nat) (v1 : Int32) (v2 : Int32) (v3 : Int32) (σ : zS) (ls : Array Slot) (hk_v0 : L[v0]? = some (0, 6)) (hl : lv_has ls 4 [(0, .ref (b0 + v0)), (1, .int v1), (2, .int v2), (3, .int v3)]) : zJ p l e rmX6_strays s m args below meth c b0 cA D L (fun z => MQ below (va_Qi (fun (r : Int32) (u : zS) => (r, u) = z) (zB b0 cA D L) (zA b0 L)) args s 0 0 (zA b0 L)) (bX6_strays_4 k4 v0 v1 v2 v3 σ) σ 4 ls [] := by
  unfold bX6_strays_4
  refine zj_iload_n (pc' := 5) hC dX6_strays_4 rfl rfl (lv_at hl 3 rfl) ?_
  refine zj_aload_n (pc' := 6) hC dX6_strays_5 rfl rfl (lv_at hl 0 rfl) ?_
  refine zj_getI (pc' := 9) hC hk_v0 fd_6_4 rfl tw_1_199 dX6_strays_6 rfl ?_
  refine zj_icmp_ge (tgt := 41) (pc' := 12) hC dX6_strays_9 (by decide) rfl (fun c1 => ?_) (fun c1 => ?_)
  · refine zj_iload_n (pc' := 42) hC dX6_strays_41 rfl rfl (lv_at hl 2 rfl) ?_
    exact zj_iret hC dX6_strays_42
  · refine zj_iload_n (pc' := 13) hC dX6_strays_12 rfl rfl (lv_at hl 3 rfl) ?_
    refine zj_aload_n (pc' := 14) hC dX6_strays_13 rfl rfl (lv_at hl 0 rfl) ?_
    refine zj_getR (pc' := 17) hC hk_v0 fd_6_3 rfl tw_1_198 dX6_strays_14 rfl (fun q2 hk_q2 => ?_)
    refine zj_alen (pc' := 18) (v := (20 : Int32)) hC hk_q2 (by decide) rfl dX6_strays_17 rfl ?_
    refine zj_icmp_ge (tgt := 41) (pc' := 21) hC dX6_strays_18 (by decide) rfl (fun c3 => ?_) (fun c3 => ?_)
    · refine zj_iload_n (pc' := 42) hC dX6_strays_41 rfl rfl (lv_at hl 2 rfl) ?_
      exact zj_iret hC dX6_strays_42
    · refine zj_iload_n (pc' := 22) hC dX6_strays_21 rfl rfl (lv_at hl 2 rfl) ?_
      refine zj_aload_n (pc' := 23) hC dX6_strays_22 rfl rfl (lv_at hl 0 rfl) ?_
      refine zj_aload_n (pc' := 24) hC dX6_strays_23 rfl rfl (lv_at hl 0 rfl) ?_
      refine zj_getR (pc' := 27) hC hk_v0 fd_6_3 rfl tw_1_198 dX6_strays_24 rfl (fun q4 hk_q4 => ?_)
      refine zj_iload_n (pc' := 28) hC dX6_strays_27 rfl rfl (lv_at hl 3 rfl) ?_
      refine zj_aald (t := 0) (pc' := 29) hC hk_q4 (by decide) dX6_strays_28 rfl (fun g5 q6 hk_q6 => ?_)
      refine zj_iload_n (pc' := 30) hC dX6_strays_29 rfl rfl (lv_at hl 1 rfl) ?_
      refine zj_calliV (pc' := 33) (rest := [.int v2]) hC (kX6_straysIn l b0 cA D L v0 q6 v1 σ hk_v0 hk_q6) hk_v0 rfl tw_4_2 tw_3_239 tw_4_1 ts_3_1 tw_1_1 ddX6_straysIn rfl ⟨rfl, rfl⟩ ⟨by decide, by decide⟩ hl.1 (Nat.le_of_ble_eq_true rfl) rfl dX6_strays_30 rfl (fun r8 σ7 => ?_)
      refine zj_iadd (pc' := 34) hC dX6_strays_33 rfl ?_
      refine zj_nmi (fun x9 => ?_)
      refine zj_istore_n (pc' := 35) (lv' := [(2, .int x9), (0, .ref (b0 + v0)), (1, .int v1), (3, .int v3)]) hC dX6_strays_34 rfl rfl hl (by decide) rfl (fun ls hl => ?_)
      refine zj_iinc (pc' := 38) (k0 := 3) (v := (v3 + (1 : Int32))) (lv' := [(3, .int (v3 + (1 : Int32))), (2, .int x9), (0, .ref (b0 + v0)), (1, .int v1)]) hC dX6_strays_35 rfl hl rfl rfl (by decide) rfl (fun ls hl => ?_)
      refine zj_goto (tgt := 4) hC dX6_strays_38 (by decide) ?_
      exact h4 v0 v1 x9 ((v3 + (1 : Int32))) σ7 ls hk_v0 (lv_sub hl [2, 3, 1, 0] rfl)
set_option maxRecDepth 100000 in
set_option maxHeartbeats 4000000 in
theorem lX6_strays_4 {p : Program} {l : Launch} {e : Env} {s : State} {m : MethodId} {args : Array Value} {below : List Frame} {meth : Method} {c : Code} {b0 : Nat} {cA : Nat → ClassId} {D : va_G} {L : List (Nat × Nat)} (hC : zC p c s m args meth cX6_strays 4 (some Jvm.ClassFile.FieldType.int) (Cond.code yX6_strays cX6_strays 4 (some Jvm.ClassFile.FieldType.int)) yX6_strays.cls cA D)  (n : Nat) : ∀ (v0 : Nat) (v1 : Int32) (v2 : Int32) (v3 : Int32) (σ : zS) (ls : Array Slot), L[v0]? = some (0, 6) → lv_has ls 4 [(0, .ref (b0 + v0)), (1, .int v1), (2, .int v2), (3, .int v3)] → zJ p l e rmX6_strays s m args below meth c b0 cA D L (fun z => MQ below (va_Qi (fun (r : Int32) (u : zS) => (r, u) = z) (zB b0 cA D L) (zA b0 L)) args s 0 0 (zA b0 L)) (fX6_strays_4  n v0 v1 v2 v3 σ) σ 4 ls [] := by
  induction n with
  | zero => intros; exact zj_none
  | succ n ih => exact jX6_strays_4 hC (fX6_strays_4  n) ih
set_option maxRecDepth 100000 in
set_option maxHeartbeats 4000000 in
theorem kX6_strays (l : Launch) (b0 : Nat) (cA : Nat → ClassId) (D : va_G) (L : List (Nat × Nat)) (v0 : Nat) (v1 : Int32) (σ : zS) (hk0 : L[v0]? = some (0, 6)) : zMi l b0 cA D L yX6_strays (Cond.code yX6_strays cX6_strays 4 (some Jvm.ClassFile.FieldType.int)) rmX6_strays [.ref (b0 + v0), .int v1] σ (fX6_strays v0 v1 σ) := by
  refine zMi_of (by decide) (Nat.le_of_ble_eq_true rfl) ?_
  intro p e s m below meth c ls hC hl
  have hl : lv_has ls 4 [(0, .ref (b0 + v0)), (1, .int v1)] := hl
  generalize ([.ref (b0 + v0), .int v1] : List Value).toArray = args at hC ⊢
  unfold fX6_strays
  refine zj_iconst (pc' := 1) (v := (0 : Int32)) hC dX6_strays_0 rfl rfl ?_
  refine zj_istore_n (pc' := 2) (lv' := [(2, .int (0 : Int32)), (0, .ref (b0 + v0)), (1, .int v1)]) hC dX6_strays_1 rfl rfl hl (by decide) rfl (fun ls hl => ?_)
  refine zj_iconst (pc' := 3) (v := (0 : Int32)) hC dX6_strays_2 rfl rfl ?_
  refine zj_istore_n (pc' := 4) (lv' := [(3, .int (0 : Int32)), (2, .int (0 : Int32)), (0, .ref (b0 + v0)), (1, .int v1)]) hC dX6_strays_3 rfl rfl hl (by decide) rfl (fun ls hl => ?_)
  exact lX6_strays_4 hC zFU v0 v1 (0 : Int32) (0 : Int32) σ ls hk0 (lv_sub hl [2, 3, 1, 0] rfl)
-- X6_otherwise
theorem ddX6_otherwise : yX6_otherwise.cls ≠ "java/lang/invoke/MethodHandle" ∧ yX6_otherwise.cls ≠ "java/lang/invoke/VarHandle" ∧ (parseMethodDescriptor yX6_otherwise.desc).map (fun d => d.parameters.length) = some 1 := by decide +kernel
abbrev rmX6_otherwise : Room := { frames := 6, cells := 0, slots := 0, locals := 141 }
def fX6_otherwise (v0 : Nat) (v1 : Int32) (σ : zS) : Option (Int32 × zS) :=
  zb (fX6_isSeat v1 σ) (fun (r2 : Int32) (σ1 : zS) => if r2 = 0 then (some ((-1 : Int32), σ1)) else (bnd (σ1.2 v0 0) (fun (q4 : Nat) => bnd (σ1.2 q4 0) (fun (q5 : Nat) => zb (fX2_has q5 v1 σ1) (fun (r7 : Int32) (σ6 : zS) => if r7 = 0 then (some ((-1 : Int32), σ6)) else (zb (fX6_strays v0 v1 σ6) (fun (r10 : Int32) (σ9 : zS) => some (r10, σ9))))))))
set_option maxRecDepth 100000 in
set_option maxHeartbeats 4000000 in
theorem kX6_otherwise (l : Launch) (b0 : Nat) (cA : Nat → ClassId) (D : va_G) (L : List (Nat × Nat)) (v0 : Nat) (v1 : Int32) (σ : zS) (hk0 : L[v0]? = some (0, 6)) : zMi l b0 cA D L yX6_otherwise (Cond.code yX6_otherwise cX6_otherwise 2 (some Jvm.ClassFile.FieldType.int)) rmX6_otherwise [.ref (b0 + v0), .int v1] σ (fX6_otherwise v0 v1 σ) := by
  refine zMi_of (by decide) (Nat.le_of_ble_eq_true rfl) ?_
  intro p e s m below meth c ls hC hl
  have hl : lv_has ls 2 [(0, .ref (b0 + v0)), (1, .int v1)] := hl
  generalize ([.ref (b0 + v0), .int v1] : List Value).toArray = args at hC ⊢
  unfold fX6_otherwise
  refine zj_iload_n (pc' := 1) hC dX6_otherwise_0 rfl rfl (lv_at hl 1 rfl) ?_
  refine zj_callzS (pc' := 4) (rest := []) hC (kX6_isSeat l b0 cA D L v1 σ ) tw_2_20 tw_2_18 tw_2_19 tw_1_1 ddX6_isSeat rfl ⟨rfl, rfl⟩ ⟨by decide, by decide⟩ hl.1 (Nat.le_of_ble_eq_true rfl) rfl dX6_otherwise_1 rfl (fun r2 σ1 hb_r2 => ?_)
  refine zj_if_eq (tgt := 29) (pc' := 7) hC dX6_otherwise_4 (by decide) rfl (fun c3 => ?_) (fun c3 => ?_)
  · refine zj_iconst (pc' := 30) (v := (-1 : Int32)) hC dX6_otherwise_29 rfl rfl ?_
    exact zj_iret hC dX6_otherwise_30
  · refine zj_aload_n (pc' := 8) hC dX6_otherwise_7 rfl rfl (lv_at hl 0 rfl) ?_
    refine zj_getR (pc' := 11) hC hk0 fd_6_0 rfl tw_1_195 dX6_otherwise_8 rfl (fun q4 hk_q4 => ?_)
    refine zj_getR (pc' := 14) hC hk_q4 fd_3_0 rfl tw_1_93 dX6_otherwise_11 rfl (fun q5 hk_q5 => ?_)
    refine zj_iload_n (pc' := 15) hC dX6_otherwise_14 rfl rfl (lv_at hl 1 rfl) ?_
    refine zj_callzV (pc' := 18) (rest := []) hC (kX2_has l b0 cA D L q5 v1 σ1 hk_q5) hk_q5 rfl tw_2_40 tw_2_37 tw_2_38 tw_2_39 tw_1_4 ddX2_has rfl ⟨rfl, rfl⟩ ⟨by decide, by decide⟩ hl.1 (Nat.le_of_ble_eq_true rfl) rfl dX6_otherwise_15 rfl (fun r7 σ6 hb_r7 => ?_)
    refine zj_if_eq (tgt := 29) (pc' := 21) hC dX6_otherwise_18 (by decide) rfl (fun c8 => ?_) (fun c8 => ?_)
    · refine zj_iconst (pc' := 30) (v := (-1 : Int32)) hC dX6_otherwise_29 rfl rfl ?_
      exact zj_iret hC dX6_otherwise_30
    · refine zj_aload_n (pc' := 22) hC dX6_otherwise_21 rfl rfl (lv_at hl 0 rfl) ?_
      refine zj_iload_n (pc' := 23) hC dX6_otherwise_22 rfl rfl (lv_at hl 1 rfl) ?_
      refine zj_calliV (pc' := 26) (rest := []) hC (kX6_strays l b0 cA D L v0 v1 σ6 hk0) hk0 rfl tw_3_238 tw_3_235 tw_3_237 ts_3_0 tw_1_1 ddX6_strays rfl ⟨rfl, rfl⟩ ⟨by decide, by decide⟩ hl.1 (Nat.le_of_ble_eq_true rfl) rfl dX6_otherwise_23 rfl (fun r10 σ9 => ?_)
      refine zj_goto (tgt := 30) hC dX6_otherwise_26 (by decide) ?_
      exact zj_iret hC dX6_otherwise_30
-- X6_suspects
theorem ddX6_suspects : yX6_suspects.cls ≠ "java/lang/invoke/MethodHandle" ∧ yX6_suspects.cls ≠ "java/lang/invoke/VarHandle" ∧ (parseMethodDescriptor yX6_suspects.desc).map (fun d => d.parameters.length) = some 1 := by decide +kernel
abbrev rmX6_suspects : Room := { frames := 6, cells := 0, slots := 0, locals := 141 }
def bX6_suspects_52 (k17 : Nat → Int32 → Int32 → Int32 → zS → Option (Int32 × zS)) (v0 : Nat) (v1 : Int32) (v2 : Int32) (v3 : Int32) (σ : zS) : Option (Int32 × zS) :=
  k17 v0 v1 v2 ((v3 + (1 : Int32))) σ
def bX6_suspects_17 (k17 : Nat → Int32 → Int32 → Int32 → zS → Option (Int32 × zS)) (v0 : Nat) (v1 : Int32) (v2 : Int32) (v3 : Int32) (σ : zS) : Option (Int32 × zS) :=
  if (24 : Int32) ≤ v3 then (some (v2, σ)) else (bnd (σ.2 v0 0) (fun (q2 : Nat) => bnd (σ.2 q2 0) (fun (q3 : Nat) => zb (fX2_has q3 v3 σ) (fun (r5 : Int32) (σ4 : zS) => if r5 = 0 then (bX6_suspects_52 k17 v0 v1 v2 v3 σ4) else (zb (fX6_strays v0 v3 σ4) (fun (r8 : Int32) (σ7 : zS) => if r8 < v1 then (bX6_suspects_52 k17 v0 v1 v2 v3 σ7) else (bnd ((v2 ||| ((1 : Int32) <<< (v3 &&& 31)))) (fun (x10 : Int32) => bX6_suspects_52 k17 v0 v1 x10 v3 σ7))))))))
def fX6_suspects_17  : Nat → Nat → Int32 → Int32 → Int32 → zS → Option (Int32 × zS)
  | 0, _, _, _, _, _ => none
  | n + 1, v0, v1, v2, v3, σ => bX6_suspects_17 (fX6_suspects_17  n) v0 v1 v2 v3 σ
def fX6_suspects (v0 : Nat) (v1 : Int32) (σ : zS) : Option (Int32 × zS) :=
  zb (fX6_within v1 (1 : Int32) (800 : Int32) σ) (fun (r12 : Int32) (σ11 : zS) => if r12 = 0 then (some ((-1 : Int32), σ11)) else (fX6_suspects_17 zFU v0 v1 (0 : Int32) (0 : Int32) σ11))
set_option maxRecDepth 100000 in
set_option maxHeartbeats 4000000 in
theorem jX6_suspects_52 {p : Program} {l : Launch} {e : Env} {s : State} {m : MethodId} {args : Array Value} {below : List Frame} {meth : Method} {c : Code} {b0 : Nat} {cA : Nat → ClassId} {D : va_G} {L : List (Nat × Nat)} (hC : zC p c s m args meth cX6_suspects 4 (some Jvm.ClassFile.FieldType.int) (Cond.code yX6_suspects cX6_suspects 4 (some Jvm.ClassFile.FieldType.int)) yX6_suspects.cls cA D) (k17 : Nat → Int32 → Int32 → Int32 → zS → Option (Int32 × zS)) (h17 : ∀ (v0 : Nat) (v1 : Int32) (v2 : Int32) (v3 : Int32) (σ : zS) (ls : Array Slot), L[v0]? = some (0, 6) → lv_has ls 4 [(0, .ref (b0 + v0)), (1, .int v1), (2, .int v2), (3, .int v3)] → zJ p l e rmX6_suspects s m args below meth c b0 cA D L (fun z => MQ below (va_Qi (fun (r : Int32) (u : zS) => (r, u) = z) (zB b0 cA D L) (zA b0 L)) args s 0 0 (zA b0 L)) (k17 v0 v1 v2 v3 σ) σ 17 ls []) (v0 : Nat) (v1 : Int32) (v2 : Int32) (v3 : Int32) (σ : zS) (ls : Array Slot) (hk_v0 : L[v0]? = some (0, 6)) (hl : lv_has ls 4 [(0, .ref (b0 + v0)), (1, .int v1), (2, .int v2), (3, .int v3)]) : zJ p l e rmX6_suspects s m args below meth c b0 cA D L (fun z => MQ below (va_Qi (fun (r : Int32) (u : zS) => (r, u) = z) (zB b0 cA D L) (zA b0 L)) args s 0 0 (zA b0 L)) (bX6_suspects_52 k17 v0 v1 v2 v3 σ) σ 52 ls [] := by
  unfold bX6_suspects_52
  refine zj_iinc (pc' := 55) (k0 := 3) (v := (v3 + (1 : Int32))) (lv' := [(3, .int (v3 + (1 : Int32))), (0, .ref (b0 + v0)), (1, .int v1), (2, .int v2)]) hC dX6_suspects_52 rfl hl rfl rfl (by decide) rfl (fun ls hl => ?_)
  refine zj_goto (tgt := 17) hC dX6_suspects_55 (by decide) ?_
  exact h17 v0 v1 v2 ((v3 + (1 : Int32))) σ ls hk_v0 (lv_sub hl [1, 2, 3, 0] rfl)
set_option maxRecDepth 100000 in
set_option maxHeartbeats 4000000 in
theorem jX6_suspects_17 {p : Program} {l : Launch} {e : Env} {s : State} {m : MethodId} {args : Array Value} {below : List Frame} {meth : Method} {c : Code} {b0 : Nat} {cA : Nat → ClassId} {D : va_G} {L : List (Nat × Nat)} (hC : zC p c s m args meth cX6_suspects 4 (some Jvm.ClassFile.FieldType.int) (Cond.code yX6_suspects cX6_suspects 4 (some Jvm.ClassFile.FieldType.int)) yX6_suspects.cls cA D) (k17 : Nat → Int32 → Int32 → Int32 → zS → Option (Int32 × zS)) (h17 : ∀ (v0 : Nat) (v1 : Int32) (v2 : Int32) (v3 : Int32) (σ : zS) (ls : Array Slot), L[v0]? = some (0, 6) → lv_has ls 4 [(0, .ref (b0 + v0)), (1, .int v1), (2, .int v2), (3, .int v3)] → zJ p l e rmX6_suspects s m args below meth c b0 cA D L (fun z => MQ below (va_Qi (fun (r : Int32) (u : zS) => (r, u) = z) (zB b0 cA D L) (zA b0 L)) args s 0 0 (zA b0 L)) (k17 v0 v1 v2 v3 σ) σ 17 ls []) (v0 : Nat) (v1 : Int32) (v2 : Int32) (v3 : Int32) (σ : zS) (ls : Array Slot) (hk_v0 : L[v0]? = some (0, 6)) (hl : lv_has ls 4 [(0, .ref (b0 + v0)), (1, .int v1), (2, .int v2), (3, .int v3)]) : zJ p l e rmX6_suspects s m args below meth c b0 cA D L (fun z => MQ below (va_Qi (fun (r : Int32) (u : zS) => (r, u) = z) (zB b0 cA D L) (zA b0 L)) args s 0 0 (zA b0 L)) (bX6_suspects_17 k17 v0 v1 v2 v3 σ) σ 17 ls [] := by
  unfold bX6_suspects_17
  refine zj_iload_n (pc' := 18) hC dX6_suspects_17 rfl rfl (lv_at hl 3 rfl) ?_
  refine zj_bipush (pc' := 20) (v := (24 : Int32)) hC dX6_suspects_18 rfl rfl ?_
  refine zj_icmp_ge (tgt := 58) (pc' := 23) hC dX6_suspects_20 (by decide) rfl (fun c1 => ?_) (fun c1 => ?_)
  · refine zj_iload_n (pc' := 59) hC dX6_suspects_58 rfl rfl (lv_at hl 2 rfl) ?_
    exact zj_iret hC dX6_suspects_59
  · refine zj_aload_n (pc' := 24) hC dX6_suspects_23 rfl rfl (lv_at hl 0 rfl) ?_
    refine zj_getR (pc' := 27) hC hk_v0 fd_6_0 rfl tw_1_195 dX6_suspects_24 rfl (fun q2 hk_q2 => ?_)
    refine zj_getR (pc' := 30) hC hk_q2 fd_3_0 rfl tw_1_93 dX6_suspects_27 rfl (fun q3 hk_q3 => ?_)
    refine zj_iload_n (pc' := 31) hC dX6_suspects_30 rfl rfl (lv_at hl 3 rfl) ?_
    refine zj_callzV (pc' := 34) (rest := []) hC (kX2_has l b0 cA D L q3 v3 σ hk_q3) hk_q3 rfl tw_2_40 tw_2_37 tw_2_38 tw_2_39 tw_1_4 ddX2_has rfl ⟨rfl, rfl⟩ ⟨by decide, by decide⟩ hl.1 (Nat.le_of_ble_eq_true rfl) rfl dX6_suspects_31 rfl (fun r5 σ4 hb_r5 => ?_)
    refine zj_if_eq (tgt := 52) (pc' := 37) hC dX6_suspects_34 (by decide) rfl (fun c6 => ?_) (fun c6 => ?_)
    · exact jX6_suspects_52 hC k17 h17 v0 v1 v2 v3 σ4 ls hk_v0 (lv_sub hl [0, 1, 2, 3] rfl)
    · refine zj_aload_n (pc' := 38) hC dX6_suspects_37 rfl rfl (lv_at hl 0 rfl) ?_
      refine zj_iload_n (pc' := 39) hC dX6_suspects_38 rfl rfl (lv_at hl 3 rfl) ?_
      refine zj_calliV (pc' := 42) (rest := []) hC (kX6_strays l b0 cA D L v0 v3 σ4 hk_v0) hk_v0 rfl tw_3_238 tw_3_235 tw_3_237 ts_3_0 tw_1_1 ddX6_strays rfl ⟨rfl, rfl⟩ ⟨by decide, by decide⟩ hl.1 (Nat.le_of_ble_eq_true rfl) rfl dX6_suspects_39 rfl (fun r8 σ7 => ?_)
      refine zj_iload_n (pc' := 43) hC dX6_suspects_42 rfl rfl (lv_at hl 1 rfl) ?_
      refine zj_icmp_lt (tgt := 52) (pc' := 46) hC dX6_suspects_43 (by decide) rfl (fun c9 => ?_) (fun c9 => ?_)
      · exact jX6_suspects_52 hC k17 h17 v0 v1 v2 v3 σ7 ls hk_v0 (lv_sub hl [0, 1, 2, 3] rfl)
      · refine zj_iload_n (pc' := 47) hC dX6_suspects_46 rfl rfl (lv_at hl 2 rfl) ?_
        refine zj_iconst (pc' := 48) (v := (1 : Int32)) hC dX6_suspects_47 rfl rfl ?_
        refine zj_iload_n (pc' := 49) hC dX6_suspects_48 rfl rfl (lv_at hl 3 rfl) ?_
        refine zj_ishl (pc' := 50) hC dX6_suspects_49 rfl ?_
        refine zj_ior (pc' := 51) hC dX6_suspects_50 rfl ?_
        refine zj_nmi (fun x10 => ?_)
        refine zj_istore_n (pc' := 52) (lv' := [(2, .int x10), (0, .ref (b0 + v0)), (1, .int v1), (3, .int v3)]) hC dX6_suspects_51 rfl rfl hl (by decide) rfl (fun ls hl => ?_)
        exact jX6_suspects_52 hC k17 h17 v0 v1 x10 v3 σ7 ls hk_v0 (lv_sub hl [1, 2, 0, 3] rfl)
set_option maxRecDepth 100000 in
set_option maxHeartbeats 4000000 in
theorem lX6_suspects_17 {p : Program} {l : Launch} {e : Env} {s : State} {m : MethodId} {args : Array Value} {below : List Frame} {meth : Method} {c : Code} {b0 : Nat} {cA : Nat → ClassId} {D : va_G} {L : List (Nat × Nat)} (hC : zC p c s m args meth cX6_suspects 4 (some Jvm.ClassFile.FieldType.int) (Cond.code yX6_suspects cX6_suspects 4 (some Jvm.ClassFile.FieldType.int)) yX6_suspects.cls cA D)  (n : Nat) : ∀ (v0 : Nat) (v1 : Int32) (v2 : Int32) (v3 : Int32) (σ : zS) (ls : Array Slot), L[v0]? = some (0, 6) → lv_has ls 4 [(0, .ref (b0 + v0)), (1, .int v1), (2, .int v2), (3, .int v3)] → zJ p l e rmX6_suspects s m args below meth c b0 cA D L (fun z => MQ below (va_Qi (fun (r : Int32) (u : zS) => (r, u) = z) (zB b0 cA D L) (zA b0 L)) args s 0 0 (zA b0 L)) (fX6_suspects_17  n v0 v1 v2 v3 σ) σ 17 ls [] := by
  induction n with
  | zero => intros; exact zj_none
  | succ n ih => exact jX6_suspects_17 hC (fX6_suspects_17  n) ih
set_option maxRecDepth 100000 in
set_option maxHeartbeats 4000000 in
theorem kX6_suspects (l : Launch) (b0 : Nat) (cA : Nat → ClassId) (D : va_G) (L : List (Nat × Nat)) (v0 : Nat) (v1 : Int32) (σ : zS) (hk0 : L[v0]? = some (0, 6)) : zMi l b0 cA D L yX6_suspects (Cond.code yX6_suspects cX6_suspects 4 (some Jvm.ClassFile.FieldType.int)) rmX6_suspects [.ref (b0 + v0), .int v1] σ (fX6_suspects v0 v1 σ) := by
  refine zMi_of (by decide) (Nat.le_of_ble_eq_true rfl) ?_
  intro p e s m below meth c ls hC hl
  have hl : lv_has ls 4 [(0, .ref (b0 + v0)), (1, .int v1)] := hl
  generalize ([.ref (b0 + v0), .int v1] : List Value).toArray = args at hC ⊢
  unfold fX6_suspects
  refine zj_iload_n (pc' := 1) hC dX6_suspects_0 rfl rfl (lv_at hl 1 rfl) ?_
  refine zj_iconst (pc' := 2) (v := (1 : Int32)) hC dX6_suspects_1 rfl rfl ?_
  refine zj_sipush (pc' := 5) (v := (800 : Int32)) hC dX6_suspects_2 rfl rfl ?_
  refine zj_callzS (pc' := 8) (rest := []) hC (kX6_within l b0 cA D L v1 (1 : Int32) (800 : Int32) σ ) tw_2_13 tw_2_11 tw_2_12 tw_1_1 ddX6_within rfl ⟨rfl, rfl⟩ ⟨by decide, by decide⟩ hl.1 (Nat.le_of_ble_eq_true rfl) rfl dX6_suspects_5 rfl (fun r12 σ11 hb_r12 => ?_)
  refine zj_if_ne (tgt := 13) (pc' := 11) hC dX6_suspects_8 (by decide) rfl (fun c13 => ?_) (fun c13 => ?_)
  · refine zj_iconst (pc' := 14) (v := (0 : Int32)) hC dX6_suspects_13 rfl rfl ?_
    refine zj_istore_n (pc' := 15) (lv' := [(2, .int (0 : Int32)), (0, .ref (b0 + v0)), (1, .int v1)]) hC dX6_suspects_14 rfl rfl hl (by decide) rfl (fun ls hl => ?_)
    refine zj_iconst (pc' := 16) (v := (0 : Int32)) hC dX6_suspects_15 rfl rfl ?_
    refine zj_istore_n (pc' := 17) (lv' := [(3, .int (0 : Int32)), (2, .int (0 : Int32)), (0, .ref (b0 + v0)), (1, .int v1)]) hC dX6_suspects_16 rfl rfl hl (by decide) rfl (fun ls hl => ?_)
    exact lX6_suspects_17 hC zFU v0 v1 (0 : Int32) (0 : Int32) σ11 ls hk0 (lv_sub hl [2, 3, 1, 0] rfl)
  · refine zj_iconst (pc' := 12) (v := (-1 : Int32)) hC dX6_suspects_11 rfl rfl ?_
    exact zj_iret hC dX6_suspects_12
-- X6_divisor
theorem ddX6_divisor : yX6_divisor.cls ≠ "java/lang/invoke/MethodHandle" ∧ yX6_divisor.cls ≠ "java/lang/invoke/VarHandle" ∧ (parseMethodDescriptor yX6_divisor.desc).map (fun d => d.parameters.length) = some 2 := by decide +kernel
abbrev rmX6_divisor : Room := { frames := 0, cells := 0, slots := 0, locals := 0 }
def bX6_divisor_9 (k9 : Int64 → Int64 → Int32 → zS → Option (Int64 × zS)) (v4 : Int64) (v6 : Int64) (v8 : Int32) (σ : zS) : Option (Int64 × zS) :=
  if (200 : Int32) ≤ v8 then (some (v4, σ)) else (if (lg_cmp v6 (0 : Int64)) = 0 then (some (v4, σ)) else (zVL v6 (bnd ((v4 - v4 / v6 * v6)) (fun (x4 : Int64) => k9 v6 x4 ((v8 + (1 : Int32))) σ))))
def fX6_divisor_9  : Nat → Int64 → Int64 → Int32 → zS → Option (Int64 × zS)
  | 0, _, _, _, _ => none
  | n + 1, v4, v6, v8, σ => bX6_divisor_9 (fX6_divisor_9  n) v4 v6 v8 σ
def fX6_divisor (v0 : Int64) (v2 : Int64) (σ : zS) : Option (Int64 × zS) :=
  fX6_divisor_9 zFU v0 v2 (0 : Int32) σ
set_option maxRecDepth 100000 in
set_option maxHeartbeats 4000000 in
theorem jX6_divisor_9 {p : Program} {l : Launch} {e : Env} {s : State} {m : MethodId} {args : Array Value} {below : List Frame} {meth : Method} {c : Code} {b0 : Nat} {cA : Nat → ClassId} {D : va_G} {L : List (Nat × Nat)} (hC : zC p c s m args meth cX6_divisor 11 (some Jvm.ClassFile.FieldType.long) (Cond.code yX6_divisor cX6_divisor 11 (some Jvm.ClassFile.FieldType.long)) yX6_divisor.cls cA D) (k9 : Int64 → Int64 → Int32 → zS → Option (Int64 × zS)) (h9 : ∀ (v4 : Int64) (v6 : Int64) (v8 : Int32) (σ : zS) (ls : Array Slot), lv_has ls 11 [(4, .long v4), (6, .long v6), (8, .int v8)] → zJ p l e rmX6_divisor s m args below meth c b0 cA D L (fun z => MQ below (va_Ql (fun (r : Int64) (u : zS) => (r, u) = z) (zB b0 cA D L) (zA b0 L)) args s 0 0 (zA b0 L)) (k9 v4 v6 v8 σ) σ 9 ls []) (v4 : Int64) (v6 : Int64) (v8 : Int32) (σ : zS) (ls : Array Slot)  (hl : lv_has ls 11 [(4, .long v4), (6, .long v6), (8, .int v8)]) : zJ p l e rmX6_divisor s m args below meth c b0 cA D L (fun z => MQ below (va_Ql (fun (r : Int64) (u : zS) => (r, u) = z) (zB b0 cA D L) (zA b0 L)) args s 0 0 (zA b0 L)) (bX6_divisor_9 k9 v4 v6 v8 σ) σ 9 ls [] := by
  unfold bX6_divisor_9
  refine zj_iload (pc' := 11) hC dX6_divisor_9 rfl (lv_at hl 2 rfl) ?_
  refine zj_sipush (pc' := 14) (v := (200 : Int32)) hC dX6_divisor_11 rfl rfl ?_
  refine zj_icmp_ge (tgt := 45) (pc' := 17) hC dX6_divisor_14 (by decide) rfl (fun c1 => ?_) (fun c1 => ?_)
  · refine zj_lload (pc' := 47) hC dX6_divisor_45 rfl (lv_at hl 0 rfl) ?_
    exact zj_lret hC dX6_divisor_47
  · refine zj_lload (pc' := 19) hC dX6_divisor_17 rfl (lv_at hl 1 rfl) ?_
    refine zj_lconst (pc' := 20) (v := (0 : Int64)) hC dX6_divisor_19 rfl rfl ?_
    refine zj_lcmp (pc' := 21) hC dX6_divisor_20 rfl ?_
    refine zj_if_eq (tgt := 45) (pc' := 24) hC dX6_divisor_21 (by decide) rfl (fun c2 => ?_) (fun c2 => ?_)
    · refine zj_lload (pc' := 47) hC dX6_divisor_45 rfl (lv_at hl 0 rfl) ?_
      exact zj_lret hC dX6_divisor_47
    · refine zj_lload (pc' := 26) hC dX6_divisor_24 rfl (lv_at hl 0 rfl) ?_
      refine zj_lload (pc' := 28) hC dX6_divisor_26 rfl (lv_at hl 1 rfl) ?_
      refine zj_lrem (pc' := 29) hC dX6_divisor_28 rfl (fun g3 => ?_)
      refine zj_nml (fun x4 => ?_)
      refine zj_lstore (pc' := 31) (lv' := [(9, .long x4), (4, .long v4), (6, .long v6), (8, .int v8)]) hC dX6_divisor_29 rfl hl (by decide) rfl (fun ls hl => ?_)
      refine zj_lload (pc' := 33) hC dX6_divisor_31 rfl (lv_at hl 2 rfl) ?_
      refine zj_lstore (pc' := 35) (lv' := [(4, .long v6), (9, .long x4), (6, .long v6), (8, .int v8)]) hC dX6_divisor_33 rfl hl (by decide) rfl (fun ls hl => ?_)
      refine zj_lload (pc' := 37) hC dX6_divisor_35 rfl (lv_at hl 1 rfl) ?_
      refine zj_lstore (pc' := 39) (lv' := [(6, .long x4), (4, .long v6), (9, .long x4), (8, .int v8)]) hC dX6_divisor_37 rfl hl (by decide) rfl (fun ls hl => ?_)
      refine zj_iinc (pc' := 42) (k0 := 3) (v := (v8 + (1 : Int32))) (lv' := [(8, .int (v8 + (1 : Int32))), (6, .long x4), (4, .long v6), (9, .long x4)]) hC dX6_divisor_39 rfl hl rfl rfl (by decide) rfl (fun ls hl => ?_)
      refine zj_goto (tgt := 9) hC dX6_divisor_42 (by decide) ?_
      exact h9 v6 x4 ((v8 + (1 : Int32))) σ ls  (lv_sub hl [2, 1, 0] rfl)
set_option maxRecDepth 100000 in
set_option maxHeartbeats 4000000 in
theorem lX6_divisor_9 {p : Program} {l : Launch} {e : Env} {s : State} {m : MethodId} {args : Array Value} {below : List Frame} {meth : Method} {c : Code} {b0 : Nat} {cA : Nat → ClassId} {D : va_G} {L : List (Nat × Nat)} (hC : zC p c s m args meth cX6_divisor 11 (some Jvm.ClassFile.FieldType.long) (Cond.code yX6_divisor cX6_divisor 11 (some Jvm.ClassFile.FieldType.long)) yX6_divisor.cls cA D)  (n : Nat) : ∀ (v4 : Int64) (v6 : Int64) (v8 : Int32) (σ : zS) (ls : Array Slot), lv_has ls 11 [(4, .long v4), (6, .long v6), (8, .int v8)] → zJ p l e rmX6_divisor s m args below meth c b0 cA D L (fun z => MQ below (va_Ql (fun (r : Int64) (u : zS) => (r, u) = z) (zB b0 cA D L) (zA b0 L)) args s 0 0 (zA b0 L)) (fX6_divisor_9  n v4 v6 v8 σ) σ 9 ls [] := by
  induction n with
  | zero => intros; exact zj_none
  | succ n ih => exact jX6_divisor_9 hC (fX6_divisor_9  n) ih
set_option maxRecDepth 100000 in
set_option maxHeartbeats 4000000 in
theorem kX6_divisor (l : Launch) (b0 : Nat) (cA : Nat → ClassId) (D : va_G) (L : List (Nat × Nat)) (v0 : Int64) (v2 : Int64) (σ : zS)  : zMl l b0 cA D L yX6_divisor (Cond.code yX6_divisor cX6_divisor 11 (some Jvm.ClassFile.FieldType.long)) rmX6_divisor [.long v0, .long v2] σ (fX6_divisor v0 v2 σ) := by
  refine zMl_of (by decide) (Nat.le_of_ble_eq_true rfl) ?_
  intro p e s m below meth c ls hC hl
  have hl : lv_has ls 11 [(0, .long v0), (2, .long v2)] := hl
  generalize ([.long v0, .long v2] : List Value).toArray = args at hC ⊢
  unfold fX6_divisor
  refine zj_lload_n (pc' := 1) hC dX6_divisor_0 rfl rfl (lv_at hl 0 rfl) ?_
  refine zj_lstore (pc' := 3) (lv' := [(4, .long v0), (0, .long v0), (2, .long v2)]) hC dX6_divisor_1 rfl hl (by decide) rfl (fun ls hl => ?_)
  refine zj_lload_n (pc' := 4) hC dX6_divisor_3 rfl rfl (lv_at hl 2 rfl) ?_
  refine zj_lstore (pc' := 6) (lv' := [(6, .long v2), (4, .long v0), (0, .long v0), (2, .long v2)]) hC dX6_divisor_4 rfl hl (by decide) rfl (fun ls hl => ?_)
  refine zj_iconst (pc' := 7) (v := (0 : Int32)) hC dX6_divisor_6 rfl rfl ?_
  refine zj_istore (pc' := 9) (lv' := [(8, .int (0 : Int32)), (6, .long v2), (4, .long v0), (0, .long v0), (2, .long v2)]) hC dX6_divisor_7 rfl hl (by decide) rfl (fun ls hl => ?_)
  exact lX6_divisor_9 hC zFU v0 v2 (0 : Int32) σ ls  (lv_sub hl [2, 1, 0] rfl)
-- X6_ways
theorem ddX6_ways : yX6_ways.cls ≠ "java/lang/invoke/MethodHandle" ∧ yX6_ways.cls ≠ "java/lang/invoke/VarHandle" ∧ (parseMethodDescriptor yX6_ways.desc).map (fun d => d.parameters.length) = some 2 := by decide +kernel
abbrev rmX6_ways : Room := { frames := 0, cells := 0, slots := 0, locals := 0 }
def bX6_ways_16 (k16 : Int32 → Int32 → Int64 → Int32 → zS → Option (Int64 × zS)) (v0 : Int32) (v1 : Int32) (v2 : Int64) (v4 : Int32) (σ : zS) : Option (Int64 × zS) :=
  if v1 < v4 then (some (v2, σ)) else (zVL ((v4).toInt64) (bnd (((v2 * ((((v0 - v1) + v4)).toInt64)) / ((v4).toInt64))) (fun (x3 : Int64) => k16 v0 v1 x3 ((v4 + (1 : Int32))) σ)))
def fX6_ways_16  : Nat → Int32 → Int32 → Int64 → Int32 → zS → Option (Int64 × zS)
  | 0, _, _, _, _, _ => none
  | n + 1, v0, v1, v2, v4, σ => bX6_ways_16 (fX6_ways_16  n) v0 v1 v2 v4 σ
def fX6_ways (v0 : Int32) (v1 : Int32) (σ : zS) : Option (Int64 × zS) :=
  if v1 < 0 then (some ((0 : Int64), σ)) else (if v1 ≤ v0 then (fX6_ways_16 zFU v0 v1 (1 : Int64) (1 : Int32) σ) else (some ((0 : Int64), σ)))
set_option maxRecDepth 100000 in
set_option maxHeartbeats 4000000 in
theorem jX6_ways_16 {p : Program} {l : Launch} {e : Env} {s : State} {m : MethodId} {args : Array Value} {below : List Frame} {meth : Method} {c : Code} {b0 : Nat} {cA : Nat → ClassId} {D : va_G} {L : List (Nat × Nat)} (hC : zC p c s m args meth cX6_ways 5 (some Jvm.ClassFile.FieldType.long) (Cond.code yX6_ways cX6_ways 5 (some Jvm.ClassFile.FieldType.long)) yX6_ways.cls cA D) (k16 : Int32 → Int32 → Int64 → Int32 → zS → Option (Int64 × zS)) (h16 : ∀ (v0 : Int32) (v1 : Int32) (v2 : Int64) (v4 : Int32) (σ : zS) (ls : Array Slot), lv_has ls 5 [(0, .int v0), (1, .int v1), (2, .long v2), (4, .int v4)] → zJ p l e rmX6_ways s m args below meth c b0 cA D L (fun z => MQ below (va_Ql (fun (r : Int64) (u : zS) => (r, u) = z) (zB b0 cA D L) (zA b0 L)) args s 0 0 (zA b0 L)) (k16 v0 v1 v2 v4 σ) σ 16 ls []) (v0 : Int32) (v1 : Int32) (v2 : Int64) (v4 : Int32) (σ : zS) (ls : Array Slot)  (hl : lv_has ls 5 [(0, .int v0), (1, .int v1), (2, .long v2), (4, .int v4)]) : zJ p l e rmX6_ways s m args below meth c b0 cA D L (fun z => MQ below (va_Ql (fun (r : Int64) (u : zS) => (r, u) = z) (zB b0 cA D L) (zA b0 L)) args s 0 0 (zA b0 L)) (bX6_ways_16 k16 v0 v1 v2 v4 σ) σ 16 ls [] := by
  unfold bX6_ways_16
  refine zj_iload (pc' := 18) hC dX6_ways_16 rfl (lv_at hl 3 rfl) ?_
  refine zj_iload_n (pc' := 19) hC dX6_ways_18 rfl rfl (lv_at hl 1 rfl) ?_
  refine zj_icmp_gt (tgt := 42) (pc' := 22) hC dX6_ways_19 (by decide) rfl (fun c1 => ?_) (fun c1 => ?_)
  · refine zj_lload_n (pc' := 43) hC dX6_ways_42 rfl rfl (lv_at hl 2 rfl) ?_
    exact zj_lret hC dX6_ways_43
  · refine zj_lload_n (pc' := 23) hC dX6_ways_22 rfl rfl (lv_at hl 2 rfl) ?_
    refine zj_iload_n (pc' := 24) hC dX6_ways_23 rfl rfl (lv_at hl 0 rfl) ?_
    refine zj_iload_n (pc' := 25) hC dX6_ways_24 rfl rfl (lv_at hl 1 rfl) ?_
    refine zj_isub (pc' := 26) hC dX6_ways_25 rfl ?_
    refine zj_iload (pc' := 28) hC dX6_ways_26 rfl (lv_at hl 3 rfl) ?_
    refine zj_iadd (pc' := 29) hC dX6_ways_28 rfl ?_
    refine zj_i2l (pc' := 30) hC dX6_ways_29 rfl ?_
    refine zj_lmul (pc' := 31) hC dX6_ways_30 rfl ?_
    refine zj_iload (pc' := 33) hC dX6_ways_31 rfl (lv_at hl 3 rfl) ?_
    refine zj_i2l (pc' := 34) hC dX6_ways_33 rfl ?_
    refine zj_ldiv (pc' := 35) hC dX6_ways_34 rfl (fun g2 => ?_)
    refine zj_nml (fun x3 => ?_)
    refine zj_lstore_n (pc' := 36) (lv' := [(2, .long x3), (0, .int v0), (1, .int v1), (4, .int v4)]) hC dX6_ways_35 rfl rfl hl (by decide) rfl (fun ls hl => ?_)
    refine zj_iinc (pc' := 39) (k0 := 3) (v := (v4 + (1 : Int32))) (lv' := [(4, .int (v4 + (1 : Int32))), (2, .long x3), (0, .int v0), (1, .int v1)]) hC dX6_ways_36 rfl hl rfl rfl (by decide) rfl (fun ls hl => ?_)
    refine zj_goto (tgt := 16) hC dX6_ways_39 (by decide) ?_
    exact h16 v0 v1 x3 ((v4 + (1 : Int32))) σ ls  (lv_sub hl [2, 3, 1, 0] rfl)
set_option maxRecDepth 100000 in
set_option maxHeartbeats 4000000 in
theorem lX6_ways_16 {p : Program} {l : Launch} {e : Env} {s : State} {m : MethodId} {args : Array Value} {below : List Frame} {meth : Method} {c : Code} {b0 : Nat} {cA : Nat → ClassId} {D : va_G} {L : List (Nat × Nat)} (hC : zC p c s m args meth cX6_ways 5 (some Jvm.ClassFile.FieldType.long) (Cond.code yX6_ways cX6_ways 5 (some Jvm.ClassFile.FieldType.long)) yX6_ways.cls cA D)  (n : Nat) : ∀ (v0 : Int32) (v1 : Int32) (v2 : Int64) (v4 : Int32) (σ : zS) (ls : Array Slot), lv_has ls 5 [(0, .int v0), (1, .int v1), (2, .long v2), (4, .int v4)] → zJ p l e rmX6_ways s m args below meth c b0 cA D L (fun z => MQ below (va_Ql (fun (r : Int64) (u : zS) => (r, u) = z) (zB b0 cA D L) (zA b0 L)) args s 0 0 (zA b0 L)) (fX6_ways_16  n v0 v1 v2 v4 σ) σ 16 ls [] := by
  induction n with
  | zero => intros; exact zj_none
  | succ n ih => exact jX6_ways_16 hC (fX6_ways_16  n) ih
set_option maxRecDepth 100000 in
set_option maxHeartbeats 4000000 in
theorem kX6_ways (l : Launch) (b0 : Nat) (cA : Nat → ClassId) (D : va_G) (L : List (Nat × Nat)) (v0 : Int32) (v1 : Int32) (σ : zS)  : zMl l b0 cA D L yX6_ways (Cond.code yX6_ways cX6_ways 5 (some Jvm.ClassFile.FieldType.long)) rmX6_ways [.int v0, .int v1] σ (fX6_ways v0 v1 σ) := by
  refine zMl_of (by decide) (Nat.le_of_ble_eq_true rfl) ?_
  intro p e s m below meth c ls hC hl
  have hl : lv_has ls 5 [(0, .int v0), (1, .int v1)] := hl
  generalize ([.int v0, .int v1] : List Value).toArray = args at hC ⊢
  unfold fX6_ways
  refine zj_iload_n (pc' := 1) hC dX6_ways_0 rfl rfl (lv_at hl 1 rfl) ?_
  refine zj_if_lt (tgt := 9) (pc' := 4) hC dX6_ways_1 (by decide) rfl (fun c4 => ?_) (fun c4 => ?_)
  · refine zj_lconst (pc' := 10) (v := (0 : Int64)) hC dX6_ways_9 rfl rfl ?_
    exact zj_lret hC dX6_ways_10
  · refine zj_iload_n (pc' := 5) hC dX6_ways_4 rfl rfl (lv_at hl 1 rfl) ?_
    refine zj_iload_n (pc' := 6) hC dX6_ways_5 rfl rfl (lv_at hl 0 rfl) ?_
    refine zj_icmp_le (tgt := 11) (pc' := 9) hC dX6_ways_6 (by decide) rfl (fun c5 => ?_) (fun c5 => ?_)
    · refine zj_lconst (pc' := 12) (v := (1 : Int64)) hC dX6_ways_11 rfl rfl ?_
      refine zj_lstore_n (pc' := 13) (lv' := [(2, .long (1 : Int64)), (0, .int v0), (1, .int v1)]) hC dX6_ways_12 rfl rfl hl (by decide) rfl (fun ls hl => ?_)
      refine zj_iconst (pc' := 14) (v := (1 : Int32)) hC dX6_ways_13 rfl rfl ?_
      refine zj_istore (pc' := 16) (lv' := [(4, .int (1 : Int32)), (2, .long (1 : Int64)), (0, .int v0), (1, .int v1)]) hC dX6_ways_14 rfl hl (by decide) rfl (fun ls hl => ?_)
      exact lX6_ways_16 hC zFU v0 v1 (1 : Int64) (1 : Int32) σ ls  (lv_sub hl [2, 3, 1, 0] rfl)
    · refine zj_lconst (pc' := 10) (v := (0 : Int64)) hC dX6_ways_9 rfl rfl ?_
      exact zj_lret hC dX6_ways_10
-- X6_funnier
theorem ddX6_funnier : yX6_funnier.cls ≠ "java/lang/invoke/MethodHandle" ∧ yX6_funnier.cls ≠ "java/lang/invoke/VarHandle" ∧ (parseMethodDescriptor yX6_funnier.desc).map (fun d => d.parameters.length) = some 5 := by decide +kernel
abbrev rmX6_funnier : Room := { frames := 1, cells := 0, slots := 0, locals := 30 }
def bX6_funnier_130  (v11 : Int64) (s0 : Int64) (σ : zS) : Option (Int64 × zS) :=
  if (lg_cmp v11 (0 : Int64)) = 0 then (some (s0, σ)) else (zVL v11 (some ((s0 / v11), σ)))
def bX6_funnier_102  (v1 : Int32) (v2 : Int32) (v5 : Int32) (v7 : Int64) (σ : zS) : Option (Int64 × zS) :=
  zb (fX6_ways v1 v2 σ) (fun (r4 : Int64) (σ3 : zS) => zb (fX6_divisor v7 r4 σ3) (fun (r6 : Int64) (σ5 : zS) => if v5 = 0 then (bX6_funnier_130 r6 v7 σ5) else (bX6_funnier_130 r6 r4 σ5)))
def bX6_funnier_66 (k66 : Int32 → Int32 → Int32 → Int32 → Int64 → Int32 → zS → Option (Int64 × zS)) (v1 : Int32) (v2 : Int32) (v5 : Int32) (v6 : Int32) (v7 : Int64) (v9 : Int32) (σ : zS) : Option (Int64 × zS) :=
  if v2 < v9 then (bX6_funnier_102 v1 v2 v5 v7 σ) else (zb (fX6_ways v6 v9 σ) (fun (r10 : Int64) (σ9 : zS) => zb (fX6_ways ((v1 - v6)) ((v2 - v9)) σ9) (fun (r12 : Int64) (σ11 : zS) => bnd ((v7 + (r10 * r12))) (fun (x13 : Int64) => k66 v1 v2 v5 v6 x13 ((v9 + (1 : Int32))) σ11))))
def fX6_funnier_66  : Nat → Int32 → Int32 → Int32 → Int32 → Int64 → Int32 → zS → Option (Int64 × zS)
  | 0, _, _, _, _, _, _, _ => none
  | n + 1, v1, v2, v5, v6, v7, v9, σ => bX6_funnier_66 (fX6_funnier_66  n) v1 v2 v5 v6 v7 v9 σ
def fX6_funnier (v0 : Nat) (v1 : Int32) (v2 : Int32) (v3 : Int32) (v4 : Int32) (v5 : Int32) (σ : zS) : Option (Int64 × zS) :=
  zb (fX6_within v1 (1 : Int32) (20 : Int32) σ) (fun (r15 : Int32) (σ14 : zS) => if r15 = 0 then (some ((-1 : Int64), σ14)) else (zb (fX6_within v2 (0 : Int32) v1 σ14) (fun (r18 : Int32) (σ17 : zS) => if r18 = 0 then (some ((-1 : Int64), σ17)) else (zb (fX6_within v3 (0 : Int32) v2 σ17) (fun (r21 : Int32) (σ20 : zS) => if r21 = 0 then (some ((-1 : Int64), σ20)) else (zb (fX6_within v4 (0 : Int32) ((v1 - v2)) σ20) (fun (r24 : Int32) (σ23 : zS) => if r24 = 0 then (some ((-1 : Int64), σ23)) else (zb (fX6_within v5 (0 : Int32) (1 : Int32) σ23) (fun (r27 : Int32) (σ26 : zS) => if r27 = 0 then (some ((-1 : Int64), σ26)) else (bnd ((v3 + v4)) (fun (x29 : Int32) => fX6_funnier_66 zFU v1 v2 v5 x29 (0 : Int64) v3 σ26)))))))))))
set_option maxRecDepth 100000 in
set_option maxHeartbeats 4000000 in
theorem jX6_funnier_130 {p : Program} {l : Launch} {e : Env} {s : State} {m : MethodId} {args : Array Value} {below : List Frame} {meth : Method} {c : Code} {b0 : Nat} {cA : Nat → ClassId} {D : va_G} {L : List (Nat × Nat)} (hC : zC p c s m args meth cX6_funnier 15 (some Jvm.ClassFile.FieldType.long) (Cond.code yX6_funnier cX6_funnier 15 (some Jvm.ClassFile.FieldType.long)) yX6_funnier.cls cA D)  (v11 : Int64) (s0 : Int64) (σ : zS) (ls : Array Slot)  (hl : lv_has ls 15 [(11, .long v11)]) : zJ p l e rmX6_funnier s m args below meth c b0 cA D L (fun z => MQ below (va_Ql (fun (r : Int64) (u : zS) => (r, u) = z) (zB b0 cA D L) (zA b0 L)) args s 0 0 (zA b0 L)) (bX6_funnier_130  v11 s0 σ) σ 130 ls [.long s0] := by
  unfold bX6_funnier_130
  refine zj_lstore (pc' := 132) (lv' := [(13, .long s0), (11, .long v11)]) hC dX6_funnier_130 rfl hl (by decide) rfl (fun ls hl => ?_)
  refine zj_lload (pc' := 134) hC dX6_funnier_132 rfl (lv_at hl 1 rfl) ?_
  refine zj_lconst (pc' := 135) (v := (0 : Int64)) hC dX6_funnier_134 rfl rfl ?_
  refine zj_lcmp (pc' := 136) hC dX6_funnier_135 rfl ?_
  refine zj_if_ne (tgt := 144) (pc' := 139) hC dX6_funnier_136 (by decide) rfl (fun c1 => ?_) (fun c1 => ?_)
  · refine zj_lload (pc' := 146) hC dX6_funnier_144 rfl (lv_at hl 0 rfl) ?_
    refine zj_lload (pc' := 148) hC dX6_funnier_146 rfl (lv_at hl 1 rfl) ?_
    refine zj_ldiv (pc' := 149) hC dX6_funnier_148 rfl (fun g2 => ?_)
    exact zj_lret hC dX6_funnier_149
  · refine zj_lload (pc' := 141) hC dX6_funnier_139 rfl (lv_at hl 0 rfl) ?_
    refine zj_goto (tgt := 149) hC dX6_funnier_141 (by decide) ?_
    exact zj_lret hC dX6_funnier_149
set_option maxRecDepth 100000 in
set_option maxHeartbeats 4000000 in
theorem jX6_funnier_102 {p : Program} {l : Launch} {e : Env} {s : State} {m : MethodId} {args : Array Value} {below : List Frame} {meth : Method} {c : Code} {b0 : Nat} {cA : Nat → ClassId} {D : va_G} {L : List (Nat × Nat)} (hC : zC p c s m args meth cX6_funnier 15 (some Jvm.ClassFile.FieldType.long) (Cond.code yX6_funnier cX6_funnier 15 (some Jvm.ClassFile.FieldType.long)) yX6_funnier.cls cA D)  (v1 : Int32) (v2 : Int32) (v5 : Int32) (v7 : Int64) (σ : zS) (ls : Array Slot)  (hl : lv_has ls 15 [(1, .int v1), (2, .int v2), (5, .int v5), (7, .long v7)]) : zJ p l e rmX6_funnier s m args below meth c b0 cA D L (fun z => MQ below (va_Ql (fun (r : Int64) (u : zS) => (r, u) = z) (zB b0 cA D L) (zA b0 L)) args s 0 0 (zA b0 L)) (bX6_funnier_102  v1 v2 v5 v7 σ) σ 102 ls [] := by
  unfold bX6_funnier_102
  refine zj_iload_n (pc' := 103) hC dX6_funnier_102 rfl rfl (lv_at hl 0 rfl) ?_
  refine zj_iload_n (pc' := 104) hC dX6_funnier_103 rfl rfl (lv_at hl 1 rfl) ?_
  refine zj_calllS (pc' := 107) (rest := []) hC (kX6_ways l b0 cA D L v1 v2 σ ) tw_4_14 tw_4_12 tw_4_13 tw_1_1 ddX6_ways rfl ⟨rfl, rfl⟩ ⟨by decide, by decide⟩ hl.1 (Nat.le_of_ble_eq_true rfl) rfl dX6_funnier_104 rfl (fun r4 σ3 => ?_)
  refine zj_lstore (pc' := 109) (lv' := [(9, .long r4), (1, .int v1), (2, .int v2), (5, .int v5), (7, .long v7)]) hC dX6_funnier_107 rfl hl (by decide) rfl (fun ls hl => ?_)
  refine zj_lload (pc' := 111) hC dX6_funnier_109 rfl (lv_at hl 4 rfl) ?_
  refine zj_lload (pc' := 113) hC dX6_funnier_111 rfl (lv_at hl 0 rfl) ?_
  refine zj_calllS (pc' := 116) (rest := []) hC (kX6_divisor l b0 cA D L v7 r4 σ3 ) tw_4_17 tw_4_15 tw_4_16 tw_1_1 ddX6_divisor rfl ⟨rfl, rfl⟩ ⟨by decide, by decide⟩ hl.1 (Nat.le_of_ble_eq_true rfl) rfl dX6_funnier_113 rfl (fun r6 σ5 => ?_)
  refine zj_lstore (pc' := 118) (lv' := [(11, .long r6), (9, .long r4), (1, .int v1), (2, .int v2), (5, .int v5), (7, .long v7)]) hC dX6_funnier_116 rfl hl (by decide) rfl (fun ls hl => ?_)
  refine zj_iload (pc' := 120) hC dX6_funnier_118 rfl (lv_at hl 4 rfl) ?_
  refine zj_if_ne (tgt := 128) (pc' := 123) hC dX6_funnier_120 (by decide) rfl (fun c7 => ?_) (fun c7 => ?_)
  · refine zj_lload (pc' := 130) hC dX6_funnier_128 rfl (lv_at hl 1 rfl) ?_
    exact jX6_funnier_130 hC r6 r4 σ5 ls  (lv_sub hl [0] rfl)
  · refine zj_lload (pc' := 125) hC dX6_funnier_123 rfl (lv_at hl 5 rfl) ?_
    refine zj_goto (tgt := 130) hC dX6_funnier_125 (by decide) ?_
    exact jX6_funnier_130 hC r6 v7 σ5 ls  (lv_sub hl [0] rfl)
set_option maxRecDepth 100000 in
set_option maxHeartbeats 4000000 in
theorem jX6_funnier_66 {p : Program} {l : Launch} {e : Env} {s : State} {m : MethodId} {args : Array Value} {below : List Frame} {meth : Method} {c : Code} {b0 : Nat} {cA : Nat → ClassId} {D : va_G} {L : List (Nat × Nat)} (hC : zC p c s m args meth cX6_funnier 15 (some Jvm.ClassFile.FieldType.long) (Cond.code yX6_funnier cX6_funnier 15 (some Jvm.ClassFile.FieldType.long)) yX6_funnier.cls cA D) (k66 : Int32 → Int32 → Int32 → Int32 → Int64 → Int32 → zS → Option (Int64 × zS)) (h66 : ∀ (v1 : Int32) (v2 : Int32) (v5 : Int32) (v6 : Int32) (v7 : Int64) (v9 : Int32) (σ : zS) (ls : Array Slot), lv_has ls 15 [(1, .int v1), (2, .int v2), (5, .int v5), (6, .int v6), (7, .long v7), (9, .int v9)] → zJ p l e rmX6_funnier s m args below meth c b0 cA D L (fun z => MQ below (va_Ql (fun (r : Int64) (u : zS) => (r, u) = z) (zB b0 cA D L) (zA b0 L)) args s 0 0 (zA b0 L)) (k66 v1 v2 v5 v6 v7 v9 σ) σ 66 ls []) (v1 : Int32) (v2 : Int32) (v5 : Int32) (v6 : Int32) (v7 : Int64) (v9 : Int32) (σ : zS) (ls : Array Slot)  (hl : lv_has ls 15 [(1, .int v1), (2, .int v2), (5, .int v5), (6, .int v6), (7, .long v7), (9, .int v9)]) : zJ p l e rmX6_funnier s m args below meth c b0 cA D L (fun z => MQ below (va_Ql (fun (r : Int64) (u : zS) => (r, u) = z) (zB b0 cA D L) (zA b0 L)) args s 0 0 (zA b0 L)) (bX6_funnier_66 k66 v1 v2 v5 v6 v7 v9 σ) σ 66 ls [] := by
  unfold bX6_funnier_66
  refine zj_iload (pc' := 68) hC dX6_funnier_66 rfl (lv_at hl 5 rfl) ?_
  refine zj_iload_n (pc' := 69) hC dX6_funnier_68 rfl rfl (lv_at hl 1 rfl) ?_
  refine zj_icmp_gt (tgt := 102) (pc' := 72) hC dX6_funnier_69 (by decide) rfl (fun c8 => ?_) (fun c8 => ?_)
  · exact jX6_funnier_102 hC v1 v2 v5 v7 σ ls  (lv_sub hl [0, 1, 2, 4] rfl)
  · refine zj_lload (pc' := 74) hC dX6_funnier_72 rfl (lv_at hl 4 rfl) ?_
    refine zj_iload (pc' := 76) hC dX6_funnier_74 rfl (lv_at hl 3 rfl) ?_
    refine zj_iload (pc' := 78) hC dX6_funnier_76 rfl (lv_at hl 5 rfl) ?_
    refine zj_calllS (pc' := 81) (rest := [.long v7]) hC (kX6_ways l b0 cA D L v6 v9 σ ) tw_4_14 tw_4_12 tw_4_13 tw_1_1 ddX6_ways rfl ⟨rfl, rfl⟩ ⟨by decide, by decide⟩ hl.1 (Nat.le_of_ble_eq_true rfl) rfl dX6_funnier_78 rfl (fun r10 σ9 => ?_)
    refine zj_iload_n (pc' := 82) hC dX6_funnier_81 rfl rfl (lv_at hl 0 rfl) ?_
    refine zj_iload (pc' := 84) hC dX6_funnier_82 rfl (lv_at hl 3 rfl) ?_
    refine zj_isub (pc' := 85) hC dX6_funnier_84 rfl ?_
    refine zj_iload_n (pc' := 86) hC dX6_funnier_85 rfl rfl (lv_at hl 1 rfl) ?_
    refine zj_iload (pc' := 88) hC dX6_funnier_86 rfl (lv_at hl 5 rfl) ?_
    refine zj_isub (pc' := 89) hC dX6_funnier_88 rfl ?_
    refine zj_calllS (pc' := 92) (rest := [.long r10, .long v7]) hC (kX6_ways l b0 cA D L ((v1 - v6)) ((v2 - v9)) σ9 ) tw_4_14 tw_4_12 tw_4_13 tw_1_1 ddX6_ways rfl ⟨rfl, rfl⟩ ⟨by decide, by decide⟩ hl.1 (Nat.le_of_ble_eq_true rfl) rfl dX6_funnier_89 rfl (fun r12 σ11 => ?_)
    refine zj_lmul (pc' := 93) hC dX6_funnier_92 rfl ?_
    refine zj_ladd (pc' := 94) hC dX6_funnier_93 rfl ?_
    refine zj_nml (fun x13 => ?_)
    refine zj_lstore (pc' := 96) (lv' := [(7, .long x13), (1, .int v1), (2, .int v2), (5, .int v5), (6, .int v6), (9, .int v9)]) hC dX6_funnier_94 rfl hl (by decide) rfl (fun ls hl => ?_)
    refine zj_iinc (pc' := 99) (k0 := 5) (v := (v9 + (1 : Int32))) (lv' := [(9, .int (v9 + (1 : Int32))), (7, .long x13), (1, .int v1), (2, .int v2), (5, .int v5), (6, .int v6)]) hC dX6_funnier_96 rfl hl rfl rfl (by decide) rfl (fun ls hl => ?_)
    refine zj_goto (tgt := 66) hC dX6_funnier_99 (by decide) ?_
    exact h66 v1 v2 v5 v6 x13 ((v9 + (1 : Int32))) σ11 ls  (lv_sub hl [2, 3, 4, 5, 1, 0] rfl)
set_option maxRecDepth 100000 in
set_option maxHeartbeats 4000000 in
theorem lX6_funnier_66 {p : Program} {l : Launch} {e : Env} {s : State} {m : MethodId} {args : Array Value} {below : List Frame} {meth : Method} {c : Code} {b0 : Nat} {cA : Nat → ClassId} {D : va_G} {L : List (Nat × Nat)} (hC : zC p c s m args meth cX6_funnier 15 (some Jvm.ClassFile.FieldType.long) (Cond.code yX6_funnier cX6_funnier 15 (some Jvm.ClassFile.FieldType.long)) yX6_funnier.cls cA D)  (n : Nat) : ∀ (v1 : Int32) (v2 : Int32) (v5 : Int32) (v6 : Int32) (v7 : Int64) (v9 : Int32) (σ : zS) (ls : Array Slot), lv_has ls 15 [(1, .int v1), (2, .int v2), (5, .int v5), (6, .int v6), (7, .long v7), (9, .int v9)] → zJ p l e rmX6_funnier s m args below meth c b0 cA D L (fun z => MQ below (va_Ql (fun (r : Int64) (u : zS) => (r, u) = z) (zB b0 cA D L) (zA b0 L)) args s 0 0 (zA b0 L)) (fX6_funnier_66  n v1 v2 v5 v6 v7 v9 σ) σ 66 ls [] := by
  induction n with
  | zero => intros; exact zj_none
  | succ n ih => exact jX6_funnier_66 hC (fX6_funnier_66  n) ih
set_option maxRecDepth 100000 in
set_option maxHeartbeats 4000000 in
theorem kX6_funnier (l : Launch) (b0 : Nat) (cA : Nat → ClassId) (D : va_G) (L : List (Nat × Nat)) (v0 : Nat) (v1 : Int32) (v2 : Int32) (v3 : Int32) (v4 : Int32) (v5 : Int32) (σ : zS) (hk0 : L[v0]? = some (0, 6)) : zMl l b0 cA D L yX6_funnier (Cond.code yX6_funnier cX6_funnier 15 (some Jvm.ClassFile.FieldType.long)) rmX6_funnier [.ref (b0 + v0), .int v1, .int v2, .int v3, .int v4, .int v5] σ (fX6_funnier v0 v1 v2 v3 v4 v5 σ) := by
  refine zMl_of (by decide) (Nat.le_of_ble_eq_true rfl) ?_
  intro p e s m below meth c ls hC hl
  have hl : lv_has ls 15 [(0, .ref (b0 + v0)), (1, .int v1), (2, .int v2), (3, .int v3), (4, .int v4), (5, .int v5)] := hl
  generalize ([.ref (b0 + v0), .int v1, .int v2, .int v3, .int v4, .int v5] : List Value).toArray = args at hC ⊢
  unfold fX6_funnier
  refine zj_iload_n (pc' := 1) hC dX6_funnier_0 rfl rfl (lv_at hl 1 rfl) ?_
  refine zj_iconst (pc' := 2) (v := (1 : Int32)) hC dX6_funnier_1 rfl rfl ?_
  refine zj_bipush (pc' := 4) (v := (20 : Int32)) hC dX6_funnier_2 rfl rfl ?_
  refine zj_callzS (pc' := 7) (rest := []) hC (kX6_within l b0 cA D L v1 (1 : Int32) (20 : Int32) σ ) tw_2_13 tw_2_11 tw_2_12 tw_1_1 ddX6_within rfl ⟨rfl, rfl⟩ ⟨by decide, by decide⟩ hl.1 (Nat.le_of_ble_eq_true rfl) rfl dX6_funnier_4 rfl (fun r15 σ14 hb_r15 => ?_)
  refine zj_if_eq (tgt := 50) (pc' := 10) hC dX6_funnier_7 (by decide) rfl (fun c16 => ?_) (fun c16 => ?_)
  · refine zj_ldc2 (pc' := 53) (v := (-1 : Int64)) hC tw_4_11 dX6_funnier_50 rfl ?_
    exact zj_lret hC dX6_funnier_53
  · refine zj_iload_n (pc' := 11) hC dX6_funnier_10 rfl rfl (lv_at hl 2 rfl) ?_
    refine zj_iconst (pc' := 12) (v := (0 : Int32)) hC dX6_funnier_11 rfl rfl ?_
    refine zj_iload_n (pc' := 13) hC dX6_funnier_12 rfl rfl (lv_at hl 1 rfl) ?_
    refine zj_callzS (pc' := 16) (rest := []) hC (kX6_within l b0 cA D L v2 (0 : Int32) v1 σ14 ) tw_2_13 tw_2_11 tw_2_12 tw_1_1 ddX6_within rfl ⟨rfl, rfl⟩ ⟨by decide, by decide⟩ hl.1 (Nat.le_of_ble_eq_true rfl) rfl dX6_funnier_13 rfl (fun r18 σ17 hb_r18 => ?_)
    refine zj_if_eq (tgt := 50) (pc' := 19) hC dX6_funnier_16 (by decide) rfl (fun c19 => ?_) (fun c19 => ?_)
    · refine zj_ldc2 (pc' := 53) (v := (-1 : Int64)) hC tw_4_11 dX6_funnier_50 rfl ?_
      exact zj_lret hC dX6_funnier_53
    · refine zj_iload_n (pc' := 20) hC dX6_funnier_19 rfl rfl (lv_at hl 3 rfl) ?_
      refine zj_iconst (pc' := 21) (v := (0 : Int32)) hC dX6_funnier_20 rfl rfl ?_
      refine zj_iload_n (pc' := 22) hC dX6_funnier_21 rfl rfl (lv_at hl 2 rfl) ?_
      refine zj_callzS (pc' := 25) (rest := []) hC (kX6_within l b0 cA D L v3 (0 : Int32) v2 σ17 ) tw_2_13 tw_2_11 tw_2_12 tw_1_1 ddX6_within rfl ⟨rfl, rfl⟩ ⟨by decide, by decide⟩ hl.1 (Nat.le_of_ble_eq_true rfl) rfl dX6_funnier_22 rfl (fun r21 σ20 hb_r21 => ?_)
      refine zj_if_eq (tgt := 50) (pc' := 28) hC dX6_funnier_25 (by decide) rfl (fun c22 => ?_) (fun c22 => ?_)
      · refine zj_ldc2 (pc' := 53) (v := (-1 : Int64)) hC tw_4_11 dX6_funnier_50 rfl ?_
        exact zj_lret hC dX6_funnier_53
      · refine zj_iload (pc' := 30) hC dX6_funnier_28 rfl (lv_at hl 4 rfl) ?_
        refine zj_iconst (pc' := 31) (v := (0 : Int32)) hC dX6_funnier_30 rfl rfl ?_
        refine zj_iload_n (pc' := 32) hC dX6_funnier_31 rfl rfl (lv_at hl 1 rfl) ?_
        refine zj_iload_n (pc' := 33) hC dX6_funnier_32 rfl rfl (lv_at hl 2 rfl) ?_
        refine zj_isub (pc' := 34) hC dX6_funnier_33 rfl ?_
        refine zj_callzS (pc' := 37) (rest := []) hC (kX6_within l b0 cA D L v4 (0 : Int32) ((v1 - v2)) σ20 ) tw_2_13 tw_2_11 tw_2_12 tw_1_1 ddX6_within rfl ⟨rfl, rfl⟩ ⟨by decide, by decide⟩ hl.1 (Nat.le_of_ble_eq_true rfl) rfl dX6_funnier_34 rfl (fun r24 σ23 hb_r24 => ?_)
        refine zj_if_eq (tgt := 50) (pc' := 40) hC dX6_funnier_37 (by decide) rfl (fun c25 => ?_) (fun c25 => ?_)
        · refine zj_ldc2 (pc' := 53) (v := (-1 : Int64)) hC tw_4_11 dX6_funnier_50 rfl ?_
          exact zj_lret hC dX6_funnier_53
        · refine zj_iload (pc' := 42) hC dX6_funnier_40 rfl (lv_at hl 5 rfl) ?_
          refine zj_iconst (pc' := 43) (v := (0 : Int32)) hC dX6_funnier_42 rfl rfl ?_
          refine zj_iconst (pc' := 44) (v := (1 : Int32)) hC dX6_funnier_43 rfl rfl ?_
          refine zj_callzS (pc' := 47) (rest := []) hC (kX6_within l b0 cA D L v5 (0 : Int32) (1 : Int32) σ23 ) tw_2_13 tw_2_11 tw_2_12 tw_1_1 ddX6_within rfl ⟨rfl, rfl⟩ ⟨by decide, by decide⟩ hl.1 (Nat.le_of_ble_eq_true rfl) rfl dX6_funnier_44 rfl (fun r27 σ26 hb_r27 => ?_)
          refine zj_if_ne (tgt := 54) (pc' := 50) hC dX6_funnier_47 (by decide) rfl (fun c28 => ?_) (fun c28 => ?_)
          · refine zj_iload_n (pc' := 55) hC dX6_funnier_54 rfl rfl (lv_at hl 3 rfl) ?_
            refine zj_iload (pc' := 57) hC dX6_funnier_55 rfl (lv_at hl 4 rfl) ?_
            refine zj_iadd (pc' := 58) hC dX6_funnier_57 rfl ?_
            refine zj_nmi (fun x29 => ?_)
            refine zj_istore (pc' := 60) (lv' := [(6, .int x29), (0, .ref (b0 + v0)), (1, .int v1), (2, .int v2), (3, .int v3), (4, .int v4), (5, .int v5)]) hC dX6_funnier_58 rfl hl (by decide) rfl (fun ls hl => ?_)
            refine zj_lconst (pc' := 61) (v := (0 : Int64)) hC dX6_funnier_60 rfl rfl ?_
            refine zj_lstore (pc' := 63) (lv' := [(7, .long (0 : Int64)), (6, .int x29), (0, .ref (b0 + v0)), (1, .int v1), (2, .int v2), (3, .int v3), (4, .int v4), (5, .int v5)]) hC dX6_funnier_61 rfl hl (by decide) rfl (fun ls hl => ?_)
            refine zj_iload_n (pc' := 64) hC dX6_funnier_63 rfl rfl (lv_at hl 5 rfl) ?_
            refine zj_istore (pc' := 66) (lv' := [(9, .int v3), (7, .long (0 : Int64)), (6, .int x29), (0, .ref (b0 + v0)), (1, .int v1), (2, .int v2), (3, .int v3), (4, .int v4), (5, .int v5)]) hC dX6_funnier_64 rfl hl (by decide) rfl (fun ls hl => ?_)
            exact lX6_funnier_66 hC zFU v1 v2 v5 x29 (0 : Int64) v3 σ26 ls  (lv_sub hl [4, 5, 8, 2, 1, 0] rfl)
          · refine zj_ldc2 (pc' := 53) (v := (-1 : Int64)) hC tw_4_11 dX6_funnier_50 rfl ?_
            exact zj_lret hC dX6_funnier_53
-- X6_years
theorem ddX6_years : yX6_years.cls ≠ "java/lang/invoke/MethodHandle" ∧ yX6_years.cls ≠ "java/lang/invoke/VarHandle" ∧ (parseMethodDescriptor yX6_years.desc).map (fun d => d.parameters.length) = some 4 := by decide +kernel
abbrev rmX6_years : Room := { frames := 7, cells := 0, slots := 0, locals := 164 }
def bX6_years_111 (k69 : Int32 → Int32 → Int32 → Int32 → Int32 → Int32 → Int32 → zS → Option (Int32 × zS)) (v3 : Int32) (v4 : Int32) (v5 : Int32) (v6 : Int32) (v7 : Int32) (v8 : Int32) (v9 : Int32) (s0 : Int32) (σ : zS) : Option (Int32 × zS) :=
  bnd ((v7 + s0)) (fun (x1 : Int32) => bnd ((v8 - s0)) (fun (x2 : Int32) => k69 v3 v4 v5 v6 x1 x2 ((v9 + (1 : Int32))) σ))
def bX6_years_69 (k69 : Int32 → Int32 → Int32 → Int32 → Int32 → Int32 → Int32 → zS → Option (Int32 × zS)) (v3 : Int32) (v4 : Int32) (v5 : Int32) (v6 : Int32) (v7 : Int32) (v8 : Int32) (v9 : Int32) (σ : zS) : Option (Int32 × zS) :=
  if v3 ≤ v9 then (some (v7, σ)) else (if v5 = v6 then (some (v7, σ)) else (if v5 ≤ v6 then (bX6_years_111 k69 v3 v4 v5 v6 v7 v8 v9 ((-((v7 * v4) / (1000 : Int32)))) σ) else (bX6_years_111 k69 v3 v4 v5 v6 v7 v8 v9 (((v8 * v4) / (1000 : Int32))) σ)))
def fX6_years_69  : Nat → Int32 → Int32 → Int32 → Int32 → Int32 → Int32 → Int32 → zS → Option (Int32 × zS)
  | 0, _, _, _, _, _, _, _, _ => none
  | n + 1, v3, v4, v5, v6, v7, v8, v9, σ => bX6_years_69 (fX6_years_69  n) v3 v4 v5 v6 v7 v8 v9 σ
def fX6_years (v0 : Nat) (v1 : Int32) (v2 : Int32) (v3 : Int32) (v4 : Int32) (σ : zS) : Option (Int32 × zS) :=
  zb (fX6_within v1 (0 : Int32) (10000 : Int32) σ) (fun (r7 : Int32) (σ6 : zS) => if r7 = 0 then (some ((-1 : Int32), σ6)) else (zb (fX6_within v2 (0 : Int32) (10000 : Int32) σ6) (fun (r10 : Int32) (σ9 : zS) => if r10 = 0 then (some ((-1 : Int32), σ9)) else (zb (fX6_within v3 (1 : Int32) (50 : Int32) σ9) (fun (r13 : Int32) (σ12 : zS) => if r13 = 0 then (some ((-1 : Int32), σ12)) else (zb (fX6_within v4 (0 : Int32) (1000 : Int32) σ12) (fun (r16 : Int32) (σ15 : zS) => if r16 = 0 then (some ((-1 : Int32), σ15)) else (zb (fX6_added v0 (1 : Int32) σ15) (fun (r19 : Int32) (σ18 : zS) => zb (fX6_added v0 (2 : Int32) σ18) (fun (r21 : Int32) (σ20 : zS) => fX6_years_69 zFU v3 v4 r19 r21 v1 v2 (0 : Int32) σ20))))))))))
set_option maxRecDepth 100000 in
set_option maxHeartbeats 4000000 in
theorem jX6_years_111 {p : Program} {l : Launch} {e : Env} {s : State} {m : MethodId} {args : Array Value} {below : List Frame} {meth : Method} {c : Code} {b0 : Nat} {cA : Nat → ClassId} {D : va_G} {L : List (Nat × Nat)} (hC : zC p c s m args meth cX6_years 11 (some Jvm.ClassFile.FieldType.int) (Cond.code yX6_years cX6_years 11 (some Jvm.ClassFile.FieldType.int)) yX6_years.cls cA D) (k69 : Int32 → Int32 → Int32 → Int32 → Int32 → Int32 → Int32 → zS → Option (Int32 × zS)) (h69 : ∀ (v3 : Int32) (v4 : Int32) (v5 : Int32) (v6 : Int32) (v7 : Int32) (v8 : Int32) (v9 : Int32) (σ : zS) (ls : Array Slot), lv_has ls 11 [(3, .int v3), (4, .int v4), (5, .int v5), (6, .int v6), (7, .int v7), (8, .int v8), (9, .int v9)] → zJ p l e rmX6_years s m args below meth c b0 cA D L (fun z => MQ below (va_Qi (fun (r : Int32) (u : zS) => (r, u) = z) (zB b0 cA D L) (zA b0 L)) args s 0 0 (zA b0 L)) (k69 v3 v4 v5 v6 v7 v8 v9 σ) σ 69 ls []) (v3 : Int32) (v4 : Int32) (v5 : Int32) (v6 : Int32) (v7 : Int32) (v8 : Int32) (v9 : Int32) (s0 : Int32) (σ : zS) (ls : Array Slot)  (hl : lv_has ls 11 [(3, .int v3), (4, .int v4), (5, .int v5), (6, .int v6), (7, .int v7), (8, .int v8), (9, .int v9)]) : zJ p l e rmX6_years s m args below meth c b0 cA D L (fun z => MQ below (va_Qi (fun (r : Int32) (u : zS) => (r, u) = z) (zB b0 cA D L) (zA b0 L)) args s 0 0 (zA b0 L)) (bX6_years_111 k69 v3 v4 v5 v6 v7 v8 v9 s0 σ) σ 111 ls [.int s0] := by
  unfold bX6_years_111
  refine zj_istore (pc' := 113) (lv' := [(10, .int s0), (3, .int v3), (4, .int v4), (5, .int v5), (6, .int v6), (7, .int v7), (8, .int v8), (9, .int v9)]) hC dX6_years_111 rfl hl (by decide) rfl (fun ls hl => ?_)
  refine zj_iload (pc' := 115) hC dX6_years_113 rfl (lv_at hl 5 rfl) ?_
  refine zj_iload (pc' := 117) hC dX6_years_115 rfl (lv_at hl 0 rfl) ?_
  refine zj_iadd (pc' := 118) hC dX6_years_117 rfl ?_
  refine zj_nmi (fun x1 => ?_)
  refine zj_istore (pc' := 120) (lv' := [(7, .int x1), (10, .int s0), (3, .int v3), (4, .int v4), (5, .int v5), (6, .int v6), (8, .int v8), (9, .int v9)]) hC dX6_years_118 rfl hl (by decide) rfl (fun ls hl => ?_)
  refine zj_iload (pc' := 122) hC dX6_years_120 rfl (lv_at hl 6 rfl) ?_
  refine zj_iload (pc' := 124) hC dX6_years_122 rfl (lv_at hl 1 rfl) ?_
  refine zj_isub (pc' := 125) hC dX6_years_124 rfl ?_
  refine zj_nmi (fun x2 => ?_)
  refine zj_istore (pc' := 127) (lv' := [(8, .int x2), (7, .int x1), (10, .int s0), (3, .int v3), (4, .int v4), (5, .int v5), (6, .int v6), (9, .int v9)]) hC dX6_years_125 rfl hl (by decide) rfl (fun ls hl => ?_)
  refine zj_iinc (pc' := 130) (k0 := 7) (v := (v9 + (1 : Int32))) (lv' := [(9, .int (v9 + (1 : Int32))), (8, .int x2), (7, .int x1), (10, .int s0), (3, .int v3), (4, .int v4), (5, .int v5), (6, .int v6)]) hC dX6_years_127 rfl hl rfl rfl (by decide) rfl (fun ls hl => ?_)
  refine zj_goto (tgt := 69) hC dX6_years_130 (by decide) ?_
  exact h69 v3 v4 v5 v6 x1 x2 ((v9 + (1 : Int32))) σ ls  (lv_sub hl [4, 5, 6, 7, 2, 1, 0] rfl)
set_option maxRecDepth 100000 in
set_option maxHeartbeats 4000000 in
theorem jX6_years_69 {p : Program} {l : Launch} {e : Env} {s : State} {m : MethodId} {args : Array Value} {below : List Frame} {meth : Method} {c : Code} {b0 : Nat} {cA : Nat → ClassId} {D : va_G} {L : List (Nat × Nat)} (hC : zC p c s m args meth cX6_years 11 (some Jvm.ClassFile.FieldType.int) (Cond.code yX6_years cX6_years 11 (some Jvm.ClassFile.FieldType.int)) yX6_years.cls cA D) (k69 : Int32 → Int32 → Int32 → Int32 → Int32 → Int32 → Int32 → zS → Option (Int32 × zS)) (h69 : ∀ (v3 : Int32) (v4 : Int32) (v5 : Int32) (v6 : Int32) (v7 : Int32) (v8 : Int32) (v9 : Int32) (σ : zS) (ls : Array Slot), lv_has ls 11 [(3, .int v3), (4, .int v4), (5, .int v5), (6, .int v6), (7, .int v7), (8, .int v8), (9, .int v9)] → zJ p l e rmX6_years s m args below meth c b0 cA D L (fun z => MQ below (va_Qi (fun (r : Int32) (u : zS) => (r, u) = z) (zB b0 cA D L) (zA b0 L)) args s 0 0 (zA b0 L)) (k69 v3 v4 v5 v6 v7 v8 v9 σ) σ 69 ls []) (v3 : Int32) (v4 : Int32) (v5 : Int32) (v6 : Int32) (v7 : Int32) (v8 : Int32) (v9 : Int32) (σ : zS) (ls : Array Slot)  (hl : lv_has ls 11 [(3, .int v3), (4, .int v4), (5, .int v5), (6, .int v6), (7, .int v7), (8, .int v8), (9, .int v9)]) : zJ p l e rmX6_years s m args below meth c b0 cA D L (fun z => MQ below (va_Qi (fun (r : Int32) (u : zS) => (r, u) = z) (zB b0 cA D L) (zA b0 L)) args s 0 0 (zA b0 L)) (bX6_years_69 k69 v3 v4 v5 v6 v7 v8 v9 σ) σ 69 ls [] := by
  unfold bX6_years_69
  refine zj_iload (pc' := 71) hC dX6_years_69 rfl (lv_at hl 6 rfl) ?_
  refine zj_iload_n (pc' := 72) hC dX6_years_71 rfl rfl (lv_at hl 0 rfl) ?_
  refine zj_icmp_ge (tgt := 133) (pc' := 75) hC dX6_years_72 (by decide) rfl (fun c3 => ?_) (fun c3 => ?_)
  · refine zj_iload (pc' := 135) hC dX6_years_133 rfl (lv_at hl 4 rfl) ?_
    exact zj_iret hC dX6_years_135
  · refine zj_iload (pc' := 77) hC dX6_years_75 rfl (lv_at hl 2 rfl) ?_
    refine zj_iload (pc' := 79) hC dX6_years_77 rfl (lv_at hl 3 rfl) ?_
    refine zj_icmp_eq (tgt := 133) (pc' := 82) hC dX6_years_79 (by decide) rfl (fun c4 => ?_) (fun c4 => ?_)
    · refine zj_iload (pc' := 135) hC dX6_years_133 rfl (lv_at hl 4 rfl) ?_
      exact zj_iret hC dX6_years_135
    · refine zj_iload (pc' := 84) hC dX6_years_82 rfl (lv_at hl 2 rfl) ?_
      refine zj_iload (pc' := 86) hC dX6_years_84 rfl (lv_at hl 3 rfl) ?_
      refine zj_icmp_le (tgt := 101) (pc' := 89) hC dX6_years_86 (by decide) rfl (fun c5 => ?_) (fun c5 => ?_)
      · refine zj_iload (pc' := 103) hC dX6_years_101 rfl (lv_at hl 4 rfl) ?_
        refine zj_iload (pc' := 105) hC dX6_years_103 rfl (lv_at hl 1 rfl) ?_
        refine zj_imul (pc' := 106) hC dX6_years_105 rfl ?_
        refine zj_sipush (pc' := 109) (v := (1000 : Int32)) hC dX6_years_106 rfl rfl ?_
        refine zj_idivK (pc' := 110) hC dX6_years_109 rfl (by decide) ?_
        refine zj_ineg (pc' := 111) hC dX6_years_110 rfl ?_
        exact jX6_years_111 hC k69 h69 v3 v4 v5 v6 v7 v8 v9 ((-((v7 * v4) / (1000 : Int32)))) σ ls  (lv_sub hl [0, 1, 2, 3, 4, 5, 6] rfl)
      · refine zj_iload (pc' := 91) hC dX6_years_89 rfl (lv_at hl 5 rfl) ?_
        refine zj_iload (pc' := 93) hC dX6_years_91 rfl (lv_at hl 1 rfl) ?_
        refine zj_imul (pc' := 94) hC dX6_years_93 rfl ?_
        refine zj_sipush (pc' := 97) (v := (1000 : Int32)) hC dX6_years_94 rfl rfl ?_
        refine zj_idivK (pc' := 98) hC dX6_years_97 rfl (by decide) ?_
        refine zj_goto (tgt := 111) hC dX6_years_98 (by decide) ?_
        exact jX6_years_111 hC k69 h69 v3 v4 v5 v6 v7 v8 v9 (((v8 * v4) / (1000 : Int32))) σ ls  (lv_sub hl [0, 1, 2, 3, 4, 5, 6] rfl)
set_option maxRecDepth 100000 in
set_option maxHeartbeats 4000000 in
theorem lX6_years_69 {p : Program} {l : Launch} {e : Env} {s : State} {m : MethodId} {args : Array Value} {below : List Frame} {meth : Method} {c : Code} {b0 : Nat} {cA : Nat → ClassId} {D : va_G} {L : List (Nat × Nat)} (hC : zC p c s m args meth cX6_years 11 (some Jvm.ClassFile.FieldType.int) (Cond.code yX6_years cX6_years 11 (some Jvm.ClassFile.FieldType.int)) yX6_years.cls cA D)  (n : Nat) : ∀ (v3 : Int32) (v4 : Int32) (v5 : Int32) (v6 : Int32) (v7 : Int32) (v8 : Int32) (v9 : Int32) (σ : zS) (ls : Array Slot), lv_has ls 11 [(3, .int v3), (4, .int v4), (5, .int v5), (6, .int v6), (7, .int v7), (8, .int v8), (9, .int v9)] → zJ p l e rmX6_years s m args below meth c b0 cA D L (fun z => MQ below (va_Qi (fun (r : Int32) (u : zS) => (r, u) = z) (zB b0 cA D L) (zA b0 L)) args s 0 0 (zA b0 L)) (fX6_years_69  n v3 v4 v5 v6 v7 v8 v9 σ) σ 69 ls [] := by
  induction n with
  | zero => intros; exact zj_none
  | succ n ih => exact jX6_years_69 hC (fX6_years_69  n) ih
set_option maxRecDepth 100000 in
set_option maxHeartbeats 4000000 in
theorem kX6_years (l : Launch) (b0 : Nat) (cA : Nat → ClassId) (D : va_G) (L : List (Nat × Nat)) (v0 : Nat) (v1 : Int32) (v2 : Int32) (v3 : Int32) (v4 : Int32) (σ : zS) (hk0 : L[v0]? = some (0, 6)) : zMi l b0 cA D L yX6_years (Cond.code yX6_years cX6_years 11 (some Jvm.ClassFile.FieldType.int)) rmX6_years [.ref (b0 + v0), .int v1, .int v2, .int v3, .int v4] σ (fX6_years v0 v1 v2 v3 v4 σ) := by
  refine zMi_of (by decide) (Nat.le_of_ble_eq_true rfl) ?_
  intro p e s m below meth c ls hC hl
  have hl : lv_has ls 11 [(0, .ref (b0 + v0)), (1, .int v1), (2, .int v2), (3, .int v3), (4, .int v4)] := hl
  generalize ([.ref (b0 + v0), .int v1, .int v2, .int v3, .int v4] : List Value).toArray = args at hC ⊢
  unfold fX6_years
  refine zj_iload_n (pc' := 1) hC dX6_years_0 rfl rfl (lv_at hl 1 rfl) ?_
  refine zj_iconst (pc' := 2) (v := (0 : Int32)) hC dX6_years_1 rfl rfl ?_
  refine zj_sipush (pc' := 5) (v := (10000 : Int32)) hC dX6_years_2 rfl rfl ?_
  refine zj_callzS (pc' := 8) (rest := []) hC (kX6_within l b0 cA D L v1 (0 : Int32) (10000 : Int32) σ ) tw_2_13 tw_2_11 tw_2_12 tw_1_1 ddX6_within rfl ⟨rfl, rfl⟩ ⟨by decide, by decide⟩ hl.1 (Nat.le_of_ble_eq_true rfl) rfl dX6_years_5 rfl (fun r7 σ6 hb_r7 => ?_)
  refine zj_if_eq (tgt := 44) (pc' := 11) hC dX6_years_8 (by decide) rfl (fun c8 => ?_) (fun c8 => ?_)
  · refine zj_iconst (pc' := 45) (v := (-1 : Int32)) hC dX6_years_44 rfl rfl ?_
    exact zj_iret hC dX6_years_45
  · refine zj_iload_n (pc' := 12) hC dX6_years_11 rfl rfl (lv_at hl 2 rfl) ?_
    refine zj_iconst (pc' := 13) (v := (0 : Int32)) hC dX6_years_12 rfl rfl ?_
    refine zj_sipush (pc' := 16) (v := (10000 : Int32)) hC dX6_years_13 rfl rfl ?_
    refine zj_callzS (pc' := 19) (rest := []) hC (kX6_within l b0 cA D L v2 (0 : Int32) (10000 : Int32) σ6 ) tw_2_13 tw_2_11 tw_2_12 tw_1_1 ddX6_within rfl ⟨rfl, rfl⟩ ⟨by decide, by decide⟩ hl.1 (Nat.le_of_ble_eq_true rfl) rfl dX6_years_16 rfl (fun r10 σ9 hb_r10 => ?_)
    refine zj_if_eq (tgt := 44) (pc' := 22) hC dX6_years_19 (by decide) rfl (fun c11 => ?_) (fun c11 => ?_)
    · refine zj_iconst (pc' := 45) (v := (-1 : Int32)) hC dX6_years_44 rfl rfl ?_
      exact zj_iret hC dX6_years_45
    · refine zj_iload_n (pc' := 23) hC dX6_years_22 rfl rfl (lv_at hl 3 rfl) ?_
      refine zj_iconst (pc' := 24) (v := (1 : Int32)) hC dX6_years_23 rfl rfl ?_
      refine zj_bipush (pc' := 26) (v := (50 : Int32)) hC dX6_years_24 rfl rfl ?_
      refine zj_callzS (pc' := 29) (rest := []) hC (kX6_within l b0 cA D L v3 (1 : Int32) (50 : Int32) σ9 ) tw_2_13 tw_2_11 tw_2_12 tw_1_1 ddX6_within rfl ⟨rfl, rfl⟩ ⟨by decide, by decide⟩ hl.1 (Nat.le_of_ble_eq_true rfl) rfl dX6_years_26 rfl (fun r13 σ12 hb_r13 => ?_)
      refine zj_if_eq (tgt := 44) (pc' := 32) hC dX6_years_29 (by decide) rfl (fun c14 => ?_) (fun c14 => ?_)
      · refine zj_iconst (pc' := 45) (v := (-1 : Int32)) hC dX6_years_44 rfl rfl ?_
        exact zj_iret hC dX6_years_45
      · refine zj_iload (pc' := 34) hC dX6_years_32 rfl (lv_at hl 4 rfl) ?_
        refine zj_iconst (pc' := 35) (v := (0 : Int32)) hC dX6_years_34 rfl rfl ?_
        refine zj_sipush (pc' := 38) (v := (1000 : Int32)) hC dX6_years_35 rfl rfl ?_
        refine zj_callzS (pc' := 41) (rest := []) hC (kX6_within l b0 cA D L v4 (0 : Int32) (1000 : Int32) σ12 ) tw_2_13 tw_2_11 tw_2_12 tw_1_1 ddX6_within rfl ⟨rfl, rfl⟩ ⟨by decide, by decide⟩ hl.1 (Nat.le_of_ble_eq_true rfl) rfl dX6_years_38 rfl (fun r16 σ15 hb_r16 => ?_)
        refine zj_if_ne (tgt := 46) (pc' := 44) hC dX6_years_41 (by decide) rfl (fun c17 => ?_) (fun c17 => ?_)
        · refine zj_aload_n (pc' := 47) hC dX6_years_46 rfl rfl (lv_at hl 0 rfl) ?_
          refine zj_iconst (pc' := 48) (v := (1 : Int32)) hC dX6_years_47 rfl rfl ?_
          refine zj_calliV (pc' := 51) (rest := []) hC (kX6_added l b0 cA D L v0 (1 : Int32) σ15 hk0) hk0 rfl tw_3_127 tw_3_124 tw_3_126 ts_2_9 tw_1_1 ddX6_added rfl ⟨rfl, rfl⟩ ⟨by decide, by decide⟩ hl.1 (Nat.le_of_ble_eq_true rfl) rfl dX6_years_48 rfl (fun r19 σ18 => ?_)
          refine zj_istore (pc' := 53) (lv' := [(5, .int r19), (0, .ref (b0 + v0)), (1, .int v1), (2, .int v2), (3, .int v3), (4, .int v4)]) hC dX6_years_51 rfl hl (by decide) rfl (fun ls hl => ?_)
          refine zj_aload_n (pc' := 54) hC dX6_years_53 rfl rfl (lv_at hl 1 rfl) ?_
          refine zj_iconst (pc' := 55) (v := (2 : Int32)) hC dX6_years_54 rfl rfl ?_
          refine zj_calliV (pc' := 58) (rest := []) hC (kX6_added l b0 cA D L v0 (2 : Int32) σ18 hk0) hk0 rfl tw_3_127 tw_3_124 tw_3_126 ts_2_9 tw_1_1 ddX6_added rfl ⟨rfl, rfl⟩ ⟨by decide, by decide⟩ hl.1 (Nat.le_of_ble_eq_true rfl) rfl dX6_years_55 rfl (fun r21 σ20 => ?_)
          refine zj_istore (pc' := 60) (lv' := [(6, .int r21), (5, .int r19), (0, .ref (b0 + v0)), (1, .int v1), (2, .int v2), (3, .int v3), (4, .int v4)]) hC dX6_years_58 rfl hl (by decide) rfl (fun ls hl => ?_)
          refine zj_iload_n (pc' := 61) hC dX6_years_60 rfl rfl (lv_at hl 3 rfl) ?_
          refine zj_istore (pc' := 63) (lv' := [(7, .int v1), (6, .int r21), (5, .int r19), (0, .ref (b0 + v0)), (1, .int v1), (2, .int v2), (3, .int v3), (4, .int v4)]) hC dX6_years_61 rfl hl (by decide) rfl (fun ls hl => ?_)
          refine zj_iload_n (pc' := 64) hC dX6_years_63 rfl rfl (lv_at hl 5 rfl) ?_
          refine zj_istore (pc' := 66) (lv' := [(8, .int v2), (7, .int v1), (6, .int r21), (5, .int r19), (0, .ref (b0 + v0)), (1, .int v1), (2, .int v2), (3, .int v3), (4, .int v4)]) hC dX6_years_64 rfl hl (by decide) rfl (fun ls hl => ?_)
          refine zj_iconst (pc' := 67) (v := (0 : Int32)) hC dX6_years_66 rfl rfl ?_
          refine zj_istore (pc' := 69) (lv' := [(9, .int (0 : Int32)), (8, .int v2), (7, .int v1), (6, .int r21), (5, .int r19), (0, .ref (b0 + v0)), (1, .int v1), (2, .int v2), (3, .int v3), (4, .int v4)]) hC dX6_years_67 rfl hl (by decide) rfl (fun ls hl => ?_)
          exact lX6_years_69 hC zFU v3 v4 r19 r21 v1 v2 (0 : Int32) σ20 ls  (lv_sub hl [8, 9, 4, 3, 2, 1, 0] rfl)
        · refine zj_iconst (pc' := 45) (v := (-1 : Int32)) hC dX6_years_44 rfl rfl ?_
          exact zj_iret hC dX6_years_45
-- X6_numberAt
theorem ddX6_numberAt : yX6_numberAt.cls ≠ "java/lang/invoke/MethodHandle" ∧ yX6_numberAt.cls ≠ "java/lang/invoke/VarHandle" ∧ (parseMethodDescriptor yX6_numberAt.desc).map (fun d => d.parameters.length) = some 1 := by decide +kernel
abbrev rmX6_numberAt : Room := { frames := 0, cells := 0, slots := 0, locals := 0 }
def bX6_numberAt_44 (k6 : Nat → Int32 → Int32 → Int32 → zS → Option (Int32 × zS)) (v0 : Nat) (v1 : Int32) (v2 : Int32) (v3 : Int32) (σ : zS) : Option (Int32 × zS) :=
  k6 v0 v1 v2 ((v3 + (1 : Int32))) σ
def bX6_numberAt_6 (k6 : Nat → Int32 → Int32 → Int32 → zS → Option (Int32 × zS)) (v0 : Nat) (v1 : Int32) (v2 : Int32) (v3 : Int32) (σ : zS) : Option (Int32 × zS) :=
  if (((4 : Int32) * v1) + (4 : Int32)) ≤ v3 then (some (v2, σ)) else (if v3 < 0 then (bX6_numberAt_44 k6 v0 v1 v2 v3 σ) else (bnd (σ.2 v0 9) (fun (q3 : Nat) => if (500 : Int32) ≤ v3 then (bX6_numberAt_44 k6 v0 v1 v2 v3 σ) else (bnd (σ.2 v0 9) (fun (q5 : Nat) => zX v3 500 (bnd (((v2 <<< ((8 : Int32) &&& 31)) ||| ((σ.1 q5 (v3).toNatClampNeg) &&& (255 : Int32)))) (fun (x7 : Int32) => bX6_numberAt_44 k6 v0 v1 x7 v3 σ)))))))
def fX6_numberAt_6  : Nat → Nat → Int32 → Int32 → Int32 → zS → Option (Int32 × zS)
  | 0, _, _, _, _, _ => none
  | n + 1, v0, v1, v2, v3, σ => bX6_numberAt_6 (fX6_numberAt_6  n) v0 v1 v2 v3 σ
def fX6_numberAt (v0 : Nat) (v1 : Int32) (σ : zS) : Option (Int32 × zS) :=
  bnd (((4 : Int32) * v1)) (fun (x8 : Int32) => fX6_numberAt_6 zFU v0 v1 (0 : Int32) x8 σ)
set_option maxRecDepth 100000 in
set_option maxHeartbeats 4000000 in
theorem jX6_numberAt_44 {p : Program} {l : Launch} {e : Env} {s : State} {m : MethodId} {args : Array Value} {below : List Frame} {meth : Method} {c : Code} {b0 : Nat} {cA : Nat → ClassId} {D : va_G} {L : List (Nat × Nat)} (hC : zC p c s m args meth cX6_numberAt 4 (some Jvm.ClassFile.FieldType.int) (Cond.code yX6_numberAt cX6_numberAt 4 (some Jvm.ClassFile.FieldType.int)) yX6_numberAt.cls cA D) (k6 : Nat → Int32 → Int32 → Int32 → zS → Option (Int32 × zS)) (h6 : ∀ (v0 : Nat) (v1 : Int32) (v2 : Int32) (v3 : Int32) (σ : zS) (ls : Array Slot), L[v0]? = some (0, 6) → lv_has ls 4 [(0, .ref (b0 + v0)), (1, .int v1), (2, .int v2), (3, .int v3)] → zJ p l e rmX6_numberAt s m args below meth c b0 cA D L (fun z => MQ below (va_Qi (fun (r : Int32) (u : zS) => (r, u) = z) (zB b0 cA D L) (zA b0 L)) args s 0 0 (zA b0 L)) (k6 v0 v1 v2 v3 σ) σ 6 ls []) (v0 : Nat) (v1 : Int32) (v2 : Int32) (v3 : Int32) (σ : zS) (ls : Array Slot) (hk_v0 : L[v0]? = some (0, 6)) (hl : lv_has ls 4 [(0, .ref (b0 + v0)), (1, .int v1), (2, .int v2), (3, .int v3)]) : zJ p l e rmX6_numberAt s m args below meth c b0 cA D L (fun z => MQ below (va_Qi (fun (r : Int32) (u : zS) => (r, u) = z) (zB b0 cA D L) (zA b0 L)) args s 0 0 (zA b0 L)) (bX6_numberAt_44 k6 v0 v1 v2 v3 σ) σ 44 ls [] := by
  unfold bX6_numberAt_44
  refine zj_iinc (pc' := 47) (k0 := 3) (v := (v3 + (1 : Int32))) (lv' := [(3, .int (v3 + (1 : Int32))), (0, .ref (b0 + v0)), (1, .int v1), (2, .int v2)]) hC dX6_numberAt_44 rfl hl rfl rfl (by decide) rfl (fun ls hl => ?_)
  refine zj_goto (tgt := 6) hC dX6_numberAt_47 (by decide) ?_
  exact h6 v0 v1 v2 ((v3 + (1 : Int32))) σ ls hk_v0 (lv_sub hl [1, 2, 3, 0] rfl)
set_option maxRecDepth 100000 in
set_option maxHeartbeats 4000000 in
theorem jX6_numberAt_6 {p : Program} {l : Launch} {e : Env} {s : State} {m : MethodId} {args : Array Value} {below : List Frame} {meth : Method} {c : Code} {b0 : Nat} {cA : Nat → ClassId} {D : va_G} {L : List (Nat × Nat)} (hC : zC p c s m args meth cX6_numberAt 4 (some Jvm.ClassFile.FieldType.int) (Cond.code yX6_numberAt cX6_numberAt 4 (some Jvm.ClassFile.FieldType.int)) yX6_numberAt.cls cA D) (k6 : Nat → Int32 → Int32 → Int32 → zS → Option (Int32 × zS)) (h6 : ∀ (v0 : Nat) (v1 : Int32) (v2 : Int32) (v3 : Int32) (σ : zS) (ls : Array Slot), L[v0]? = some (0, 6) → lv_has ls 4 [(0, .ref (b0 + v0)), (1, .int v1), (2, .int v2), (3, .int v3)] → zJ p l e rmX6_numberAt s m args below meth c b0 cA D L (fun z => MQ below (va_Qi (fun (r : Int32) (u : zS) => (r, u) = z) (zB b0 cA D L) (zA b0 L)) args s 0 0 (zA b0 L)) (k6 v0 v1 v2 v3 σ) σ 6 ls []) (v0 : Nat) (v1 : Int32) (v2 : Int32) (v3 : Int32) (σ : zS) (ls : Array Slot) (hk_v0 : L[v0]? = some (0, 6)) (hl : lv_has ls 4 [(0, .ref (b0 + v0)), (1, .int v1), (2, .int v2), (3, .int v3)]) : zJ p l e rmX6_numberAt s m args below meth c b0 cA D L (fun z => MQ below (va_Qi (fun (r : Int32) (u : zS) => (r, u) = z) (zB b0 cA D L) (zA b0 L)) args s 0 0 (zA b0 L)) (bX6_numberAt_6 k6 v0 v1 v2 v3 σ) σ 6 ls [] := by
  unfold bX6_numberAt_6
  refine zj_iload_n (pc' := 7) hC dX6_numberAt_6 rfl rfl (lv_at hl 3 rfl) ?_
  refine zj_iconst (pc' := 8) (v := (4 : Int32)) hC dX6_numberAt_7 rfl rfl ?_
  refine zj_iload_n (pc' := 9) hC dX6_numberAt_8 rfl rfl (lv_at hl 1 rfl) ?_
  refine zj_imul (pc' := 10) hC dX6_numberAt_9 rfl ?_
  refine zj_iconst (pc' := 11) (v := (4 : Int32)) hC dX6_numberAt_10 rfl rfl ?_
  refine zj_iadd (pc' := 12) hC dX6_numberAt_11 rfl ?_
  refine zj_icmp_ge (tgt := 50) (pc' := 15) hC dX6_numberAt_12 (by decide) rfl (fun c1 => ?_) (fun c1 => ?_)
  · refine zj_iload_n (pc' := 51) hC dX6_numberAt_50 rfl rfl (lv_at hl 2 rfl) ?_
    exact zj_iret hC dX6_numberAt_51
  · refine zj_iload_n (pc' := 16) hC dX6_numberAt_15 rfl rfl (lv_at hl 3 rfl) ?_
    refine zj_if_lt (tgt := 44) (pc' := 19) hC dX6_numberAt_16 (by decide) rfl (fun c2 => ?_) (fun c2 => ?_)
    · exact jX6_numberAt_44 hC k6 h6 v0 v1 v2 v3 σ ls hk_v0 (lv_sub hl [0, 1, 2, 3] rfl)
    · refine zj_iload_n (pc' := 20) hC dX6_numberAt_19 rfl rfl (lv_at hl 3 rfl) ?_
      refine zj_aload_n (pc' := 21) hC dX6_numberAt_20 rfl rfl (lv_at hl 0 rfl) ?_
      refine zj_getR (pc' := 24) hC hk_v0 fd_6_9 rfl tw_1_204 dX6_numberAt_21 rfl (fun q3 hk_q3 => ?_)
      refine zj_alen (pc' := 25) (v := (500 : Int32)) hC hk_q3 (by decide) rfl dX6_numberAt_24 rfl ?_
      refine zj_icmp_ge (tgt := 44) (pc' := 28) hC dX6_numberAt_25 (by decide) rfl (fun c4 => ?_) (fun c4 => ?_)
      · exact jX6_numberAt_44 hC k6 h6 v0 v1 v2 v3 σ ls hk_v0 (lv_sub hl [0, 1, 2, 3] rfl)
      · refine zj_iload_n (pc' := 29) hC dX6_numberAt_28 rfl rfl (lv_at hl 2 rfl) ?_
        refine zj_bipush (pc' := 31) (v := (8 : Int32)) hC dX6_numberAt_29 rfl rfl ?_
        refine zj_ishl (pc' := 32) hC dX6_numberAt_31 rfl ?_
        refine zj_aload_n (pc' := 33) hC dX6_numberAt_32 rfl rfl (lv_at hl 0 rfl) ?_
        refine zj_getR (pc' := 36) hC hk_v0 fd_6_9 rfl tw_1_204 dX6_numberAt_33 rfl (fun q5 hk_q5 => ?_)
        refine zj_iload_n (pc' := 37) hC dX6_numberAt_36 rfl rfl (lv_at hl 3 rfl) ?_
        refine zj_bald (pc' := 38) hC hk_q5 dX6_numberAt_37 rfl (fun g6 => ?_)
        refine zj_sipush (pc' := 41) (v := (255 : Int32)) hC dX6_numberAt_38 rfl rfl ?_
        refine zj_iand (pc' := 42) hC dX6_numberAt_41 rfl ?_
        refine zj_ior (pc' := 43) hC dX6_numberAt_42 rfl ?_
        refine zj_nmi (fun x7 => ?_)
        refine zj_istore_n (pc' := 44) (lv' := [(2, .int x7), (0, .ref (b0 + v0)), (1, .int v1), (3, .int v3)]) hC dX6_numberAt_43 rfl rfl hl (by decide) rfl (fun ls hl => ?_)
        exact jX6_numberAt_44 hC k6 h6 v0 v1 x7 v3 σ ls hk_v0 (lv_sub hl [1, 2, 0, 3] rfl)
set_option maxRecDepth 100000 in
set_option maxHeartbeats 4000000 in
theorem lX6_numberAt_6 {p : Program} {l : Launch} {e : Env} {s : State} {m : MethodId} {args : Array Value} {below : List Frame} {meth : Method} {c : Code} {b0 : Nat} {cA : Nat → ClassId} {D : va_G} {L : List (Nat × Nat)} (hC : zC p c s m args meth cX6_numberAt 4 (some Jvm.ClassFile.FieldType.int) (Cond.code yX6_numberAt cX6_numberAt 4 (some Jvm.ClassFile.FieldType.int)) yX6_numberAt.cls cA D)  (n : Nat) : ∀ (v0 : Nat) (v1 : Int32) (v2 : Int32) (v3 : Int32) (σ : zS) (ls : Array Slot), L[v0]? = some (0, 6) → lv_has ls 4 [(0, .ref (b0 + v0)), (1, .int v1), (2, .int v2), (3, .int v3)] → zJ p l e rmX6_numberAt s m args below meth c b0 cA D L (fun z => MQ below (va_Qi (fun (r : Int32) (u : zS) => (r, u) = z) (zB b0 cA D L) (zA b0 L)) args s 0 0 (zA b0 L)) (fX6_numberAt_6  n v0 v1 v2 v3 σ) σ 6 ls [] := by
  induction n with
  | zero => intros; exact zj_none
  | succ n ih => exact jX6_numberAt_6 hC (fX6_numberAt_6  n) ih
set_option maxRecDepth 100000 in
set_option maxHeartbeats 4000000 in
theorem kX6_numberAt (l : Launch) (b0 : Nat) (cA : Nat → ClassId) (D : va_G) (L : List (Nat × Nat)) (v0 : Nat) (v1 : Int32) (σ : zS) (hk0 : L[v0]? = some (0, 6)) : zMi l b0 cA D L yX6_numberAt (Cond.code yX6_numberAt cX6_numberAt 4 (some Jvm.ClassFile.FieldType.int)) rmX6_numberAt [.ref (b0 + v0), .int v1] σ (fX6_numberAt v0 v1 σ) := by
  refine zMi_of (by decide) (Nat.le_of_ble_eq_true rfl) ?_
  intro p e s m below meth c ls hC hl
  have hl : lv_has ls 4 [(0, .ref (b0 + v0)), (1, .int v1)] := hl
  generalize ([.ref (b0 + v0), .int v1] : List Value).toArray = args at hC ⊢
  unfold fX6_numberAt
  refine zj_iconst (pc' := 1) (v := (0 : Int32)) hC dX6_numberAt_0 rfl rfl ?_
  refine zj_istore_n (pc' := 2) (lv' := [(2, .int (0 : Int32)), (0, .ref (b0 + v0)), (1, .int v1)]) hC dX6_numberAt_1 rfl rfl hl (by decide) rfl (fun ls hl => ?_)
  refine zj_iconst (pc' := 3) (v := (4 : Int32)) hC dX6_numberAt_2 rfl rfl ?_
  refine zj_iload_n (pc' := 4) hC dX6_numberAt_3 rfl rfl (lv_at hl 2 rfl) ?_
  refine zj_imul (pc' := 5) hC dX6_numberAt_4 rfl ?_
  refine zj_nmi (fun x8 => ?_)
  refine zj_istore_n (pc' := 6) (lv' := [(3, .int x8), (2, .int (0 : Int32)), (0, .ref (b0 + v0)), (1, .int v1)]) hC dX6_numberAt_5 rfl rfl hl (by decide) rfl (fun ls hl => ?_)
  exact lX6_numberAt_6 hC zFU v0 v1 (0 : Int32) x8 σ ls hk0 (lv_sub hl [2, 3, 1, 0] rfl)
-- X6_check
theorem ddX6_check : yX6_check.cls ≠ "java/lang/invoke/MethodHandle" ∧ yX6_check.cls ≠ "java/lang/invoke/VarHandle" ∧ (parseMethodDescriptor yX6_check.desc).map (fun d => d.parameters.length) = some 1 := by decide +kernel
abbrev rmX6_check : Room := { frames := 6, cells := 0, slots := 0, locals := 141 }
def bX6_check_83  (v1 : Int32) (v2 : Nat) (σ : zS) : Option (Int32 × zS) :=
  bnd (σ.2 v2 1) (fun (q1 : Nat) => if v1 = (σ.1 q1 0) then (some ((-1 : Int32), σ)) else (some (((3 : Int32) * v1), σ)))
def bX6_check_37 (k37 : Nat → Int32 → Nat → Int32 → zS → Option (Int32 × zS)) (v0 : Nat) (v1 : Int32) (v2 : Nat) (v3 : Int32) (σ : zS) : Option (Int32 × zS) :=
  if ((3 : Int32) * v1) ≤ v3 then (bX6_check_83 v1 v2 σ) else (bnd ((v3 / (3 : Int32))) (fun (x4 : Int32) => zb (fX3_hasSecond v2 x4 σ) (fun (r6 : Int32) (σ5 : zS) => if r6 = 0 then (some (v3, σ5)) else (zb (fX6_numberAt v0 v3 σ5) (fun (r9 : Int32) (σ8 : zS) => zb (fX3_told v2 x4 ((v3 - v3 / (3 : Int32) * (3 : Int32))) σ8) (fun (r11 : Int32) (σ10 : zS) => if r9 = r11 then (k37 v0 v1 v2 ((v3 + (1 : Int32))) σ10) else (some (v3, σ10))))))))
def fX6_check_37  : Nat → Nat → Int32 → Nat → Int32 → zS → Option (Int32 × zS)
  | 0, _, _, _, _, _ => none
  | n + 1, v0, v1, v2, v3, σ => bX6_check_37 (fX6_check_37  n) v0 v1 v2 v3 σ
def fX6_check (v0 : Nat) (v1 : Int32) (σ : zS) : Option (Int32 × zS) :=
  zb (fX6_within v1 (0 : Int32) (500 : Int32) σ) (fun (r14 : Int32) (σ13 : zS) => if r14 = 0 then (some ((-2 : Int32), σ13)) else (if ((12 : Int32) * v1) ≤ (σ13.1 v0 10) then (bnd (zI σ13 v0 10 (0 : Int32)) (fun (σ17 : zS) => zb (fX6_played v0 σ17) (fun (r19 : Nat) (σ18 : zS) => fX6_check_37 zFU v0 v1 r19 (0 : Int32) σ18))) else (some ((-2 : Int32), σ13))))
set_option maxRecDepth 100000 in
set_option maxHeartbeats 4000000 in
theorem jX6_check_83 {p : Program} {l : Launch} {e : Env} {s : State} {m : MethodId} {args : Array Value} {below : List Frame} {meth : Method} {c : Code} {b0 : Nat} {cA : Nat → ClassId} {D : va_G} {L : List (Nat × Nat)} (hC : zC p c s m args meth cX6_check 5 (some Jvm.ClassFile.FieldType.int) (Cond.code yX6_check cX6_check 5 (some Jvm.ClassFile.FieldType.int)) yX6_check.cls cA D)  (v1 : Int32) (v2 : Nat) (σ : zS) (ls : Array Slot) (hk_v2 : L[v2]? = some (0, 3)) (hl : lv_has ls 5 [(1, .int v1), (2, .ref (b0 + v2))]) : zJ p l e rmX6_check s m args below meth c b0 cA D L (fun z => MQ below (va_Qi (fun (r : Int32) (u : zS) => (r, u) = z) (zB b0 cA D L) (zA b0 L)) args s 0 0 (zA b0 L)) (bX6_check_83  v1 v2 σ) σ 83 ls [] := by
  unfold bX6_check_83
  refine zj_iload_n (pc' := 84) hC dX6_check_83 rfl rfl (lv_at hl 0 rfl) ?_
  refine zj_aload_n (pc' := 85) hC dX6_check_84 rfl rfl (lv_at hl 1 rfl) ?_
  refine zj_getR (pc' := 88) hC hk_v2 fd_3_1 rfl tw_1_95 dX6_check_85 rfl (fun q1 hk_q1 => ?_)
  refine zj_getI (pc' := 91) hC hk_q1 fd_1_0 rfl tw_1_35 dX6_check_88 rfl ?_
  refine zj_icmp_ne (tgt := 98) (pc' := 94) hC dX6_check_91 (by decide) rfl (fun c2 => ?_) (fun c2 => ?_)
  · refine zj_iconst (pc' := 99) (v := (3 : Int32)) hC dX6_check_98 rfl rfl ?_
    refine zj_iload_n (pc' := 100) hC dX6_check_99 rfl rfl (lv_at hl 0 rfl) ?_
    refine zj_imul (pc' := 101) hC dX6_check_100 rfl ?_
    exact zj_iret hC dX6_check_101
  · refine zj_iconst (pc' := 95) (v := (-1 : Int32)) hC dX6_check_94 rfl rfl ?_
    refine zj_goto (tgt := 101) hC dX6_check_95 (by decide) ?_
    exact zj_iret hC dX6_check_101
set_option maxRecDepth 100000 in
set_option maxHeartbeats 4000000 in
theorem jX6_check_37 {p : Program} {l : Launch} {e : Env} {s : State} {m : MethodId} {args : Array Value} {below : List Frame} {meth : Method} {c : Code} {b0 : Nat} {cA : Nat → ClassId} {D : va_G} {L : List (Nat × Nat)} (hC : zC p c s m args meth cX6_check 5 (some Jvm.ClassFile.FieldType.int) (Cond.code yX6_check cX6_check 5 (some Jvm.ClassFile.FieldType.int)) yX6_check.cls cA D) (k37 : Nat → Int32 → Nat → Int32 → zS → Option (Int32 × zS)) (h37 : ∀ (v0 : Nat) (v1 : Int32) (v2 : Nat) (v3 : Int32) (σ : zS) (ls : Array Slot), L[v0]? = some (0, 6) → L[v2]? = some (0, 3) → lv_has ls 5 [(0, .ref (b0 + v0)), (1, .int v1), (2, .ref (b0 + v2)), (3, .int v3)] → zJ p l e rmX6_check s m args below meth c b0 cA D L (fun z => MQ below (va_Qi (fun (r : Int32) (u : zS) => (r, u) = z) (zB b0 cA D L) (zA b0 L)) args s 0 0 (zA b0 L)) (k37 v0 v1 v2 v3 σ) σ 37 ls []) (v0 : Nat) (v1 : Int32) (v2 : Nat) (v3 : Int32) (σ : zS) (ls : Array Slot) (hk_v0 : L[v0]? = some (0, 6)) (hk_v2 : L[v2]? = some (0, 3)) (hl : lv_has ls 5 [(0, .ref (b0 + v0)), (1, .int v1), (2, .ref (b0 + v2)), (3, .int v3)]) : zJ p l e rmX6_check s m args below meth c b0 cA D L (fun z => MQ below (va_Qi (fun (r : Int32) (u : zS) => (r, u) = z) (zB b0 cA D L) (zA b0 L)) args s 0 0 (zA b0 L)) (bX6_check_37 k37 v0 v1 v2 v3 σ) σ 37 ls [] := by
  unfold bX6_check_37
  refine zj_iload_n (pc' := 38) hC dX6_check_37 rfl rfl (lv_at hl 3 rfl) ?_
  refine zj_iconst (pc' := 39) (v := (3 : Int32)) hC dX6_check_38 rfl rfl ?_
  refine zj_iload_n (pc' := 40) hC dX6_check_39 rfl rfl (lv_at hl 1 rfl) ?_
  refine zj_imul (pc' := 41) hC dX6_check_40 rfl ?_
  refine zj_icmp_ge (tgt := 83) (pc' := 44) hC dX6_check_41 (by decide) rfl (fun c3 => ?_) (fun c3 => ?_)
  · exact jX6_check_83 hC v1 v2 σ ls hk_v2 (lv_sub hl [1, 2] rfl)
  · refine zj_iload_n (pc' := 45) hC dX6_check_44 rfl rfl (lv_at hl 3 rfl) ?_
    refine zj_iconst (pc' := 46) (v := (3 : Int32)) hC dX6_check_45 rfl rfl ?_
    refine zj_idivK (pc' := 47) hC dX6_check_46 rfl (by decide) ?_
    refine zj_nmi (fun x4 => ?_)
    refine zj_istore (pc' := 49) (lv' := [(4, .int x4), (0, .ref (b0 + v0)), (1, .int v1), (2, .ref (b0 + v2)), (3, .int v3)]) hC dX6_check_47 rfl hl (by decide) rfl (fun ls hl => ?_)
    refine zj_aload_n (pc' := 50) hC dX6_check_49 rfl rfl (lv_at hl 3 rfl) ?_
    refine zj_iload (pc' := 52) hC dX6_check_50 rfl (lv_at hl 0 rfl) ?_
    refine zj_callzV (pc' := 55) (rest := []) hC (kX3_hasSecond l b0 cA D L v2 x4 σ hk_v2) hk_v2 rfl tw_3_23 tw_3_20 tw_3_21 tw_3_22 tw_1_2 ddX3_hasSecond rfl ⟨rfl, rfl⟩ ⟨by decide, by decide⟩ hl.1 (Nat.le_of_ble_eq_true rfl) rfl dX6_check_52 rfl (fun r6 σ5 hb_r6 => ?_)
    refine zj_if_eq (tgt := 75) (pc' := 58) hC dX6_check_55 (by decide) rfl (fun c7 => ?_) (fun c7 => ?_)
    · refine zj_iload_n (pc' := 76) hC dX6_check_75 rfl rfl (lv_at hl 4 rfl) ?_
      exact zj_iret hC dX6_check_76
    · refine zj_aload_n (pc' := 59) hC dX6_check_58 rfl rfl (lv_at hl 1 rfl) ?_
      refine zj_iload_n (pc' := 60) hC dX6_check_59 rfl rfl (lv_at hl 4 rfl) ?_
      refine zj_calliV (pc' := 63) (rest := []) hC (kX6_numberAt l b0 cA D L v0 v3 σ5 hk_v0) hk_v0 rfl tw_4_29 tw_4_26 tw_4_28 ts_3_2 tw_1_1 ddX6_numberAt rfl ⟨rfl, rfl⟩ ⟨by decide, by decide⟩ hl.1 (Nat.le_of_ble_eq_true rfl) rfl dX6_check_60 rfl (fun r9 σ8 => ?_)
      refine zj_aload_n (pc' := 64) hC dX6_check_63 rfl rfl (lv_at hl 3 rfl) ?_
      refine zj_iload (pc' := 66) hC dX6_check_64 rfl (lv_at hl 0 rfl) ?_
      refine zj_iload_n (pc' := 67) hC dX6_check_66 rfl rfl (lv_at hl 4 rfl) ?_
      refine zj_iconst (pc' := 68) (v := (3 : Int32)) hC dX6_check_67 rfl rfl ?_
      refine zj_iremK (pc' := 69) hC dX6_check_68 rfl (by decide) ?_
      refine zj_calliV (pc' := 72) (rest := [.int r9]) hC (kX3_told l b0 cA D L v2 x4 ((v3 - v3 / (3 : Int32) * (3 : Int32))) σ8 hk_v2) hk_v2 rfl tw_4_33 tw_4_30 tw_4_31 tw_4_32 tw_1_2 ddX3_told rfl ⟨rfl, rfl⟩ ⟨by decide, by decide⟩ hl.1 (Nat.le_of_ble_eq_true rfl) rfl dX6_check_69 rfl (fun r11 σ10 => ?_)
      refine zj_icmp_eq (tgt := 77) (pc' := 75) hC dX6_check_72 (by decide) rfl (fun c12 => ?_) (fun c12 => ?_)
      · refine zj_iinc (pc' := 80) (k0 := 4) (v := (v3 + (1 : Int32))) (lv' := [(3, .int (v3 + (1 : Int32))), (4, .int x4), (0, .ref (b0 + v0)), (1, .int v1), (2, .ref (b0 + v2))]) hC dX6_check_77 rfl hl rfl rfl (by decide) rfl (fun ls hl => ?_)
        refine zj_goto (tgt := 37) hC dX6_check_80 (by decide) ?_
        exact h37 v0 v1 v2 ((v3 + (1 : Int32))) σ10 ls hk_v0 hk_v2 (lv_sub hl [2, 3, 4, 0] rfl)
      · refine zj_iload_n (pc' := 76) hC dX6_check_75 rfl rfl (lv_at hl 4 rfl) ?_
        exact zj_iret hC dX6_check_76
set_option maxRecDepth 100000 in
set_option maxHeartbeats 4000000 in
theorem lX6_check_37 {p : Program} {l : Launch} {e : Env} {s : State} {m : MethodId} {args : Array Value} {below : List Frame} {meth : Method} {c : Code} {b0 : Nat} {cA : Nat → ClassId} {D : va_G} {L : List (Nat × Nat)} (hC : zC p c s m args meth cX6_check 5 (some Jvm.ClassFile.FieldType.int) (Cond.code yX6_check cX6_check 5 (some Jvm.ClassFile.FieldType.int)) yX6_check.cls cA D)  (n : Nat) : ∀ (v0 : Nat) (v1 : Int32) (v2 : Nat) (v3 : Int32) (σ : zS) (ls : Array Slot), L[v0]? = some (0, 6) → L[v2]? = some (0, 3) → lv_has ls 5 [(0, .ref (b0 + v0)), (1, .int v1), (2, .ref (b0 + v2)), (3, .int v3)] → zJ p l e rmX6_check s m args below meth c b0 cA D L (fun z => MQ below (va_Qi (fun (r : Int32) (u : zS) => (r, u) = z) (zB b0 cA D L) (zA b0 L)) args s 0 0 (zA b0 L)) (fX6_check_37  n v0 v1 v2 v3 σ) σ 37 ls [] := by
  induction n with
  | zero => intros; exact zj_none
  | succ n ih => exact jX6_check_37 hC (fX6_check_37  n) ih
set_option maxRecDepth 100000 in
set_option maxHeartbeats 4000000 in
theorem kX6_check (l : Launch) (b0 : Nat) (cA : Nat → ClassId) (D : va_G) (L : List (Nat × Nat)) (v0 : Nat) (v1 : Int32) (σ : zS) (hk0 : L[v0]? = some (0, 6)) : zMi l b0 cA D L yX6_check (Cond.code yX6_check cX6_check 5 (some Jvm.ClassFile.FieldType.int)) rmX6_check [.ref (b0 + v0), .int v1] σ (fX6_check v0 v1 σ) := by
  refine zMi_of (by decide) (Nat.le_of_ble_eq_true rfl) ?_
  intro p e s m below meth c ls hC hl
  have hl : lv_has ls 5 [(0, .ref (b0 + v0)), (1, .int v1)] := hl
  generalize ([.ref (b0 + v0), .int v1] : List Value).toArray = args at hC ⊢
  unfold fX6_check
  refine zj_iload_n (pc' := 1) hC dX6_check_0 rfl rfl (lv_at hl 1 rfl) ?_
  refine zj_iconst (pc' := 2) (v := (0 : Int32)) hC dX6_check_1 rfl rfl ?_
  refine zj_sipush (pc' := 5) (v := (500 : Int32)) hC dX6_check_2 rfl rfl ?_
  refine zj_callzS (pc' := 8) (rest := []) hC (kX6_within l b0 cA D L v1 (0 : Int32) (500 : Int32) σ ) tw_2_13 tw_2_11 tw_2_12 tw_1_1 ddX6_within rfl ⟨rfl, rfl⟩ ⟨by decide, by decide⟩ hl.1 (Nat.le_of_ble_eq_true rfl) rfl dX6_check_5 rfl (fun r14 σ13 hb_r14 => ?_)
  refine zj_if_eq (tgt := 22) (pc' := 11) hC dX6_check_8 (by decide) rfl (fun c15 => ?_) (fun c15 => ?_)
  · refine zj_bipush (pc' := 24) (v := (-2 : Int32)) hC dX6_check_22 rfl rfl ?_
    exact zj_iret hC dX6_check_24
  · refine zj_bipush (pc' := 13) (v := (12 : Int32)) hC dX6_check_11 rfl rfl ?_
    refine zj_iload_n (pc' := 14) hC dX6_check_13 rfl rfl (lv_at hl 1 rfl) ?_
    refine zj_imul (pc' := 15) hC dX6_check_14 rfl ?_
    refine zj_aload_n (pc' := 16) hC dX6_check_15 rfl rfl (lv_at hl 0 rfl) ?_
    refine zj_getI (pc' := 19) hC hk0 fd_6_10 rfl tw_1_205 dX6_check_16 rfl ?_
    refine zj_icmp_le (tgt := 25) (pc' := 22) hC dX6_check_19 (by decide) rfl (fun c16 => ?_) (fun c16 => ?_)
    · refine zj_aload_n (pc' := 26) hC dX6_check_25 rfl rfl (lv_at hl 0 rfl) ?_
      refine zj_iconst (pc' := 27) (v := (0 : Int32)) hC dX6_check_26 rfl rfl ?_
      refine zj_putI (pc' := 30) hC hk0 fd_6_10 rfl tw_1_205 rfl rfl rfl dX6_check_27 rfl (fun σ17 => ?_)
      refine zj_aload_n (pc' := 31) hC dX6_check_30 rfl rfl (lv_at hl 0 rfl) ?_
      refine zj_callrV (pc' := 34) (rest := []) hC (kX6_played l b0 cA D L v0 σ17 hk0) hk0 rfl tw_3_27 tw_3_24 tw_3_26 ts_2_2 tw_1_1 ddX6_played rfl ⟨rfl, rfl⟩ ⟨by decide, by decide⟩ hl.1 (Nat.le_of_ble_eq_true rfl) rfl dX6_check_31 rfl (fun r19 σ18 hk_r19 => ?_)
      refine zj_astore_n (pc' := 35) (lv' := [(2, .ref (b0 + r19)), (0, .ref (b0 + v0)), (1, .int v1)]) hC dX6_check_34 rfl rfl hl (by decide) rfl (fun ls hl => ?_)
      refine zj_iconst (pc' := 36) (v := (0 : Int32)) hC dX6_check_35 rfl rfl ?_
      refine zj_istore_n (pc' := 37) (lv' := [(3, .int (0 : Int32)), (2, .ref (b0 + r19)), (0, .ref (b0 + v0)), (1, .int v1)]) hC dX6_check_36 rfl rfl hl (by decide) rfl (fun ls hl => ?_)
      exact lX6_check_37 hC zFU v0 v1 r19 (0 : Int32) σ18 ls hk0 hk_r19 (lv_sub hl [2, 3, 1, 0] rfl)
    · refine zj_bipush (pc' := 24) (v := (-2 : Int32)) hC dX6_check_22 rfl rfl ?_
      exact zj_iret hC dX6_check_24
-- X6_count
theorem ddX6_count : yX6_count.cls ≠ "java/lang/invoke/MethodHandle" ∧ yX6_count.cls ≠ "java/lang/invoke/VarHandle" ∧ (parseMethodDescriptor yX6_count.desc).map (fun d => d.parameters.length) = some 1 := by decide +kernel
abbrev rmX6_count : Room := { frames := 2, cells := 0, slots := 0, locals := 42 }
def fX6_count (v0 : Nat) (v1 : Int32) (σ : zS) : Option (Int32 × zS) :=
  zb (fX6_within v1 (10 : Int32) (13 : Int32) σ) (fun (r2 : Int32) (σ1 : zS) => if r2 = 0 then (zb (fX6_within v1 (20 : Int32) (43 : Int32) σ1) (fun (r5 : Int32) (σ4 : zS) => if r5 = 0 then (zb (fX6_within v1 (50 : Int32) (73 : Int32) σ4) (fun (r8 : Int32) (σ7 : zS) => if r8 = 0 then (if v1 = (0 : Int32) then (bnd (σ7.2 v0 0) (fun (q11 : Nat) => bnd (σ7.2 q11 0) (fun (q12 : Nat) => some ((σ7.1 q12 0), σ7)))) else (if v1 = (1 : Int32) then (bnd (σ7.2 v0 0) (fun (q14 : Nat) => bnd (σ7.2 q14 0) (fun (q15 : Nat) => zb (fJ6_bitCount_0f7a4 ((σ7.1 q15 1)) σ7) (fun (r17 : Int32) (σ16 : zS) => some (r17, σ16))))) else (if v1 = (2 : Int32) then (bnd (σ7.2 v0 0) (fun (q19 : Nat) => bnd (σ7.2 q19 1) (fun (q20 : Nat) => some ((σ7.1 q20 0), σ7)))) else (if v1 = (3 : Int32) then (some ((σ7.1 v0 10), σ7)) else (if v1 = (4 : Int32) then (some ((σ7.1 v0 4), σ7)) else (if v1 = (5 : Int32) then (some ((σ7.1 v0 13), σ7)) else (if v1 = (6 : Int32) then (some ((σ7.1 v0 14), σ7)) else (some ((-1 : Int32), σ7))))))))) else (bnd (σ7.2 v0 0) (fun (q25 : Nat) => bnd (σ7.2 q25 0) (fun (q26 : Nat) => zb (fX2_payerOf q26 ((v1 - (50 : Int32))) σ7) (fun (r28 : Int32) (σ27 : zS) => some (r28, σ27))))))) else (bnd (σ4.2 v0 0) (fun (q29 : Nat) => bnd (σ4.2 q29 0) (fun (q30 : Nat) => zb (fX2_sortOf q30 ((v1 - (20 : Int32))) σ4) (fun (r32 : Int32) (σ31 : zS) => some (r32, σ31))))))) else (bnd (σ1.2 v0 6) (fun (q33 : Nat) => zX (v1 - (10 : Int32)) 4 (bnd (σ1.2 q33 ((v1 - (10 : Int32))).toNatClampNeg) (fun (q35 : Nat) => some ((σ1.1 q35 2), σ1))))))
set_option maxRecDepth 100000 in
set_option maxHeartbeats 4000000 in
theorem kX6_count (l : Launch) (b0 : Nat) (cA : Nat → ClassId) (D : va_G) (L : List (Nat × Nat)) (v0 : Nat) (v1 : Int32) (σ : zS) (hk0 : L[v0]? = some (0, 6)) : zMi l b0 cA D L yX6_count (Cond.code yX6_count cX6_count 2 (some Jvm.ClassFile.FieldType.int)) rmX6_count [.ref (b0 + v0), .int v1] σ (fX6_count v0 v1 σ) := by
  refine zMi_of (by decide) (Nat.le_of_ble_eq_true rfl) ?_
  intro p e s m below meth c ls hC hl
  have hl : lv_has ls 2 [(0, .ref (b0 + v0)), (1, .int v1)] := hl
  generalize ([.ref (b0 + v0), .int v1] : List Value).toArray = args at hC ⊢
  unfold fX6_count
  refine zj_iload_n (pc' := 1) hC dX6_count_0 rfl rfl (lv_at hl 1 rfl) ?_
  refine zj_bipush (pc' := 3) (v := (10 : Int32)) hC dX6_count_1 rfl rfl ?_
  refine zj_bipush (pc' := 5) (v := (13 : Int32)) hC dX6_count_3 rfl rfl ?_
  refine zj_callzS (pc' := 8) (rest := []) hC (kX6_within l b0 cA D L v1 (10 : Int32) (13 : Int32) σ ) tw_2_13 tw_2_11 tw_2_12 tw_1_1 ddX6_within rfl ⟨rfl, rfl⟩ ⟨by decide, by decide⟩ hl.1 (Nat.le_of_ble_eq_true rfl) rfl dX6_count_5 rfl (fun r2 σ1 hb_r2 => ?_)
  refine zj_if_eq (tgt := 24) (pc' := 11) hC dX6_count_8 (by decide) rfl (fun c3 => ?_) (fun c3 => ?_)
  · refine zj_iload_n (pc' := 25) hC dX6_count_24 rfl rfl (lv_at hl 1 rfl) ?_
    refine zj_bipush (pc' := 27) (v := (20 : Int32)) hC dX6_count_25 rfl rfl ?_
    refine zj_bipush (pc' := 29) (v := (43 : Int32)) hC dX6_count_27 rfl rfl ?_
    refine zj_callzS (pc' := 32) (rest := []) hC (kX6_within l b0 cA D L v1 (20 : Int32) (43 : Int32) σ1 ) tw_2_13 tw_2_11 tw_2_12 tw_1_1 ddX6_within rfl ⟨rfl, rfl⟩ ⟨by decide, by decide⟩ hl.1 (Nat.le_of_ble_eq_true rfl) rfl dX6_count_29 rfl (fun r5 σ4 hb_r5 => ?_)
    refine zj_if_eq (tgt := 50) (pc' := 35) hC dX6_count_32 (by decide) rfl (fun c6 => ?_) (fun c6 => ?_)
    · refine zj_iload_n (pc' := 51) hC dX6_count_50 rfl rfl (lv_at hl 1 rfl) ?_
      refine zj_bipush (pc' := 53) (v := (50 : Int32)) hC dX6_count_51 rfl rfl ?_
      refine zj_bipush (pc' := 55) (v := (73 : Int32)) hC dX6_count_53 rfl rfl ?_
      refine zj_callzS (pc' := 58) (rest := []) hC (kX6_within l b0 cA D L v1 (50 : Int32) (73 : Int32) σ4 ) tw_2_13 tw_2_11 tw_2_12 tw_1_1 ddX6_within rfl ⟨rfl, rfl⟩ ⟨by decide, by decide⟩ hl.1 (Nat.le_of_ble_eq_true rfl) rfl dX6_count_55 rfl (fun r8 σ7 hb_r8 => ?_)
      refine zj_if_eq (tgt := 76) (pc' := 61) hC dX6_count_58 (by decide) rfl (fun c9 => ?_) (fun c9 => ?_)
      · refine zj_iload_n (pc' := 77) hC dX6_count_76 rfl rfl (lv_at hl 1 rfl) ?_
        refine zj_split (fun c10 => ?_) (fun c10 => ?_)
        · refine zj_tabIn (tgt := 120) 0 hC dX6_count_77 (by rw [c10]; decide) (by decide) (by decide) rfl (by decide) ?_
          refine zj_aload_n (pc' := 121) hC dX6_count_120 rfl rfl (lv_at hl 0 rfl) ?_
          refine zj_getR (pc' := 124) hC hk0 fd_6_0 rfl tw_1_195 dX6_count_121 rfl (fun q11 hk_q11 => ?_)
          refine zj_getR (pc' := 127) hC hk_q11 fd_3_0 rfl tw_1_93 dX6_count_124 rfl (fun q12 hk_q12 => ?_)
          refine zj_getI (pc' := 130) hC hk_q12 fd_2_0 rfl tw_1_61 dX6_count_127 rfl ?_
          exact zj_iret hC dX6_count_130
        refine zj_split (fun c13 => ?_) (fun c13 => ?_)
        · refine zj_tabIn (tgt := 131) 1 hC dX6_count_77 (by rw [c13]; decide) (by decide) (by decide) rfl (by decide) ?_
          refine zj_aload_n (pc' := 132) hC dX6_count_131 rfl rfl (lv_at hl 0 rfl) ?_
          refine zj_getR (pc' := 135) hC hk0 fd_6_0 rfl tw_1_195 dX6_count_132 rfl (fun q14 hk_q14 => ?_)
          refine zj_getR (pc' := 138) hC hk_q14 fd_3_0 rfl tw_1_93 dX6_count_135 rfl (fun q15 hk_q15 => ?_)
          refine zj_getI (pc' := 141) hC hk_q15 fd_2_1 rfl tw_1_64 dX6_count_138 rfl ?_
          refine zj_calliS (pc' := 144) (rest := []) hC (kJ6_bitCount_0f7a4 l b0 cA D L ((σ7.1 q15 1)) σ7 ) tw_3_68 tw_3_119 tw_3_67 tw_1_15 ddJ6_bitCount_0f7a4 rfl ⟨rfl, rfl⟩ ⟨by decide, by decide⟩ hl.1 (Nat.le_of_ble_eq_true rfl) rfl dX6_count_141 rfl (fun r17 σ16 => ?_)
          exact zj_iret hC dX6_count_144
        refine zj_split (fun c18 => ?_) (fun c18 => ?_)
        · refine zj_tabIn (tgt := 145) 2 hC dX6_count_77 (by rw [c18]; decide) (by decide) (by decide) rfl (by decide) ?_
          refine zj_aload_n (pc' := 146) hC dX6_count_145 rfl rfl (lv_at hl 0 rfl) ?_
          refine zj_getR (pc' := 149) hC hk0 fd_6_0 rfl tw_1_195 dX6_count_146 rfl (fun q19 hk_q19 => ?_)
          refine zj_getR (pc' := 152) hC hk_q19 fd_3_1 rfl tw_1_95 dX6_count_149 rfl (fun q20 hk_q20 => ?_)
          refine zj_getI (pc' := 155) hC hk_q20 fd_1_0 rfl tw_1_35 dX6_count_152 rfl ?_
          exact zj_iret hC dX6_count_155
        refine zj_split (fun c21 => ?_) (fun c21 => ?_)
        · refine zj_tabIn (tgt := 156) 3 hC dX6_count_77 (by rw [c21]; decide) (by decide) (by decide) rfl (by decide) ?_
          refine zj_aload_n (pc' := 157) hC dX6_count_156 rfl rfl (lv_at hl 0 rfl) ?_
          refine zj_getI (pc' := 160) hC hk0 fd_6_10 rfl tw_1_205 dX6_count_157 rfl ?_
          exact zj_iret hC dX6_count_160
        refine zj_split (fun c22 => ?_) (fun c22 => ?_)
        · refine zj_tabIn (tgt := 161) 4 hC dX6_count_77 (by rw [c22]; decide) (by decide) (by decide) rfl (by decide) ?_
          refine zj_aload_n (pc' := 162) hC dX6_count_161 rfl rfl (lv_at hl 0 rfl) ?_
          refine zj_getI (pc' := 165) hC hk0 fd_6_4 rfl tw_1_199 dX6_count_162 rfl ?_
          exact zj_iret hC dX6_count_165
        refine zj_split (fun c23 => ?_) (fun c23 => ?_)
        · refine zj_tabIn (tgt := 166) 5 hC dX6_count_77 (by rw [c23]; decide) (by decide) (by decide) rfl (by decide) ?_
          refine zj_aload_n (pc' := 167) hC dX6_count_166 rfl rfl (lv_at hl 0 rfl) ?_
          refine zj_getI (pc' := 170) hC hk0 fd_6_13 rfl tw_1_208 dX6_count_167 rfl ?_
          exact zj_iret hC dX6_count_170
        refine zj_split (fun c24 => ?_) (fun c24 => ?_)
        · refine zj_tabIn (tgt := 171) 6 hC dX6_count_77 (by rw [c24]; decide) (by decide) (by decide) rfl (by decide) ?_
          refine zj_aload_n (pc' := 172) hC dX6_count_171 rfl rfl (lv_at hl 0 rfl) ?_
          refine zj_getI (pc' := 175) hC hk0 fd_6_14 rfl tw_1_209 dX6_count_172 rfl ?_
          exact zj_iret hC dX6_count_175
        refine zj_tabD (tgt := 176) [0, 1, 2, 3, 4, 5, 6] 7 hC dX6_count_77 (by decide) (by decide) (List.forall_mem_cons.mpr ⟨lv_neT c10 (by decide), List.forall_mem_cons.mpr ⟨lv_neT c13 (by decide), List.forall_mem_cons.mpr ⟨lv_neT c18 (by decide), List.forall_mem_cons.mpr ⟨lv_neT c21 (by decide), List.forall_mem_cons.mpr ⟨lv_neT c22 (by decide), List.forall_mem_cons.mpr ⟨lv_neT c23 (by decide), List.forall_mem_cons.mpr ⟨lv_neT c24 (by decide), fun _ h => absurd h List.not_mem_nil⟩⟩⟩⟩⟩⟩⟩) (by decide) ?_
        refine zj_iconst (pc' := 177) (v := (-1 : Int32)) hC dX6_count_176 rfl rfl ?_
        exact zj_iret hC dX6_count_177
      · refine zj_aload_n (pc' := 62) hC dX6_count_61 rfl rfl (lv_at hl 0 rfl) ?_
        refine zj_getR (pc' := 65) hC hk0 fd_6_0 rfl tw_1_195 dX6_count_62 rfl (fun q25 hk_q25 => ?_)
        refine zj_getR (pc' := 68) hC hk_q25 fd_3_0 rfl tw_1_93 dX6_count_65 rfl (fun q26 hk_q26 => ?_)
        refine zj_iload_n (pc' := 69) hC dX6_count_68 rfl rfl (lv_at hl 1 rfl) ?_
        refine zj_bipush (pc' := 71) (v := (50 : Int32)) hC dX6_count_69 rfl rfl ?_
        refine zj_isub (pc' := 72) hC dX6_count_71 rfl ?_
        refine zj_calliV (pc' := 75) (rest := []) hC (kX2_payerOf l b0 cA D L q26 ((v1 - (50 : Int32))) σ7 hk_q26) hk_q26 rfl tw_4_41 tw_4_38 tw_4_39 tw_4_40 tw_1_4 ddX2_payerOf rfl ⟨rfl, rfl⟩ ⟨by decide, by decide⟩ hl.1 (Nat.le_of_ble_eq_true rfl) rfl dX6_count_72 rfl (fun r28 σ27 => ?_)
        exact zj_iret hC dX6_count_75
    · refine zj_aload_n (pc' := 36) hC dX6_count_35 rfl rfl (lv_at hl 0 rfl) ?_
      refine zj_getR (pc' := 39) hC hk0 fd_6_0 rfl tw_1_195 dX6_count_36 rfl (fun q29 hk_q29 => ?_)
      refine zj_getR (pc' := 42) hC hk_q29 fd_3_0 rfl tw_1_93 dX6_count_39 rfl (fun q30 hk_q30 => ?_)
      refine zj_iload_n (pc' := 43) hC dX6_count_42 rfl rfl (lv_at hl 1 rfl) ?_
      refine zj_bipush (pc' := 45) (v := (20 : Int32)) hC dX6_count_43 rfl rfl ?_
      refine zj_isub (pc' := 46) hC dX6_count_45 rfl ?_
      refine zj_calliV (pc' := 49) (rest := []) hC (kX2_sortOf l b0 cA D L q30 ((v1 - (20 : Int32))) σ4 hk_q30) hk_q30 rfl tw_3_52 tw_3_49 tw_3_50 tw_3_51 tw_1_4 ddX2_sortOf rfl ⟨rfl, rfl⟩ ⟨by decide, by decide⟩ hl.1 (Nat.le_of_ble_eq_true rfl) rfl dX6_count_46 rfl (fun r32 σ31 => ?_)
      exact zj_iret hC dX6_count_49
  · refine zj_aload_n (pc' := 12) hC dX6_count_11 rfl rfl (lv_at hl 0 rfl) ?_
    refine zj_getR (pc' := 15) hC hk0 fd_6_6 rfl tw_1_201 dX6_count_12 rfl (fun q33 hk_q33 => ?_)
    refine zj_iload_n (pc' := 16) hC dX6_count_15 rfl rfl (lv_at hl 1 rfl) ?_
    refine zj_bipush (pc' := 18) (v := (10 : Int32)) hC dX6_count_16 rfl rfl ?_
    refine zj_isub (pc' := 19) hC dX6_count_18 rfl ?_
    refine zj_aald (t := 1) (pc' := 20) hC hk_q33 (by decide) dX6_count_19 rfl (fun g34 q35 hk_q35 => ?_)
    refine zj_getI (pc' := 23) hC hk_q35 fd_4_2 rfl tw_1_161 dX6_count_20 rfl ?_
    exact zj_iret hC dX6_count_23
