/-- the bytes of the one String constant -/
def zBy : List Int32 := [103, 110, 122, 97, 98, 112, 108, 116, 115, 119, 113, 107]
/-- the constant "gnzabpltswqk" (object q, bytes v), outside the world A -/
def zGq (A : Nat → Prop) (q v : Nat) (U : State) (H : Heap) : Prop :=
  va_O "java/lang/String" q A U H ∧ va_OF "java/lang/String" "coder" "B" (.int 0) q A U H ∧ va_OF "java/lang/String" "value" "[B" (.ref v) q A U H ∧ va_T .byte v 12 (fun j => .int (zBy.getD j 0)) A U H ∧ va_Z "java/lang/String" "COMPACT_STRINGS" "Z" (.int 1) A U H ∧ vk_R "PaidHouse$Reader" 109 "gnzabpltswqk" q U
theorem zGq.go {A : Nat → Prop} {q v : Nat} {s U : State} {H : Heap} (h : zGq A q v s s.heap) (hq : ∀ a : Nat, a < s.heap.size → ¬ A a → H[a]? = s.heap[a]?) (hU : U.heap = H) (hW : s.WarmedH U.vm) : zGq A q v U U.heap := by
  rw [hU]
  obtain ⟨h1, h2, h3, h4, h5, h6⟩ := h
  exact ⟨va_O.moved hW.alike (h1.kept hq), va_OF.moved hW.alike (h2.kept hq), va_OF.moved hW.alike (h3.kept hq), va_T.moved hW.alike (h4.kept hq), va_Z.moved hW.alike (h5.kept hq), h6.warm hW⟩
theorem zGq.blind {A : Nat → Prop} {q v : Nat} {U : State} {g : JFrame} {mk : MethodId} {a : Array Value} (h : zGq A q v U U.heap) : zGq A q v (U.calling g mk a) (U.calling g mk a).heap := by
  obtain ⟨h1, h2, h3, h4, h5, h6⟩ := h
  have hv : U.vm.Alike (U.calling g mk a).vm := Vm.Alike.refl U.vm
  exact ⟨va_O.moved hv h1, va_OF.moved hv h2, va_OF.moved hv h3, va_T.moved hv h4, va_Z.moved hv h5, h6.same rfl⟩
def zNi (l : Launch) (b0 : Nat) (cA : Nat → ClassId) (D : va_G) (L : List (Nat × Nat)) (sq sw : Nat) (y : MethodName) (w0 : Cond) (rm : Room) (av : List Value) (σ : zS) (o : Option (Int32 × zS)) : Prop :=
  ∀ z, o = some z → Met l y (w0 :: zBig) rm (va_Pc av (fun U => zB b0 cA D L σ U ∧ zGq (zA b0 L) sq sw U U.heap)) (va_Qi (fun (r : Int32) (u : zS) => (r, u) = z) (zB b0 cA D L) (zA b0 L)) 0 0 (zA b0 L)
theorem zNi_of {l : Launch} {b0 : Nat} {cA : Nat → ClassId} {D : va_G} {L : List (Nat × Nat)} {sq sw : Nat} {y : MethodName} {cc : ByteArray} {maxL : Nat} {rm : Room} {av : List Value} {σ : zS} {o : Option (Int32 × zS)} (hy : plainName y.cls = true) (hlen : (lg_sl av).length ≤ maxL)
    (body : ∀ (p : Program) (e : Env) (s : State) (m : MethodId) (below : List Frame) (meth : Method) (c : Code) (ls : Array Slot), zGq (zA b0 L) sq sw s s.heap → zC p c s m av.toArray meth cc maxL (some .int) (Cond.code y cc maxL (some .int)) y.cls cA D → lv_has ls maxL (lv_args 0 av) → zJ p l e rm s m av.toArray below meth c b0 cA D L (fun z => MQ below (va_Qi (fun (r : Int32) (u : zS) => (r, u) = z) (zB b0 cA D L) (zA b0 L)) av.toArray s 0 0 (zA b0 L)) o σ 0 ls []) :
    zNi l b0 cA D L sq sw y (Cond.code y cc maxL (some .int)) rm av σ o := by
  intro z hz
  refine Met.ofW (cc := cc) (maxL := maxL) (ret := some .int) hy rfl ?_
  intro p e s m args below meth c s₁ B hml hv
  obtain ⟨rfl, ⟨hP, hT, hK⟩, hG⟩ := hv
  rw [lg_entry_eq]
  exact body p e s m below meth c _ hG ⟨⟨B.exec, B.bytes, hml, findClass_of_methodNamed B.named, atoms_spec (ws := Cond.code y cc maxL (some .int) :: zBig) B.pre⟩, hK, B.returns, B.notSynchronized⟩ (lv_entry av hlen) z hz s.heap [] hP hT va_S.rf
def zNz (l : Launch) (b0 : Nat) (cA : Nat → ClassId) (D : va_G) (L : List (Nat × Nat)) (sq sw : Nat) (y : MethodName) (w0 : Cond) (rm : Room) (av : List Value) (σ : zS) (o : Option (Int32 × zS)) : Prop :=
  ∀ z, o = some z → Met l y (w0 :: zBig) rm (va_Pc av (fun U => zB b0 cA D L σ U ∧ zGq (zA b0 L) sq sw U U.heap)) (va_Qi (fun (r : Int32) (u : zS) => (r, u) = z ∧ nB r) (zB b0 cA D L) (zA b0 L)) 0 0 (zA b0 L)
theorem zNz_of {l : Launch} {b0 : Nat} {cA : Nat → ClassId} {D : va_G} {L : List (Nat × Nat)} {sq sw : Nat} {y : MethodName} {cc : ByteArray} {maxL : Nat} {rm : Room} {av : List Value} {σ : zS} {o : Option (Int32 × zS)} (hy : plainName y.cls = true) (hlen : (lg_sl av).length ≤ maxL)
    (body : ∀ (p : Program) (e : Env) (s : State) (m : MethodId) (below : List Frame) (meth : Method) (c : Code) (ls : Array Slot), zGq (zA b0 L) sq sw s s.heap → zC p c s m av.toArray meth cc maxL (some .boolean) (Cond.code y cc maxL (some .boolean)) y.cls cA D → lv_has ls maxL (lv_args 0 av) → zJ p l e rm s m av.toArray below meth c b0 cA D L (fun z => MQ below (va_Qi (fun (r : Int32) (u : zS) => (r, u) = z ∧ nB r) (zB b0 cA D L) (zA b0 L)) av.toArray s 0 0 (zA b0 L)) o σ 0 ls []) :
    zNz l b0 cA D L sq sw y (Cond.code y cc maxL (some .boolean)) rm av σ o := by
  intro z hz
  refine Met.ofW (cc := cc) (maxL := maxL) (ret := some .boolean) hy rfl ?_
  intro p e s m args below meth c s₁ B hml hv
  obtain ⟨rfl, ⟨hP, hT, hK⟩, hG⟩ := hv
  rw [lg_entry_eq]
  exact body p e s m below meth c _ hG ⟨⟨B.exec, B.bytes, hml, findClass_of_methodNamed B.named, atoms_spec (ws := Cond.code y cc maxL (some .boolean) :: zBig) B.pre⟩, hK, B.returns, B.notSynchronized⟩ (lv_entry av hlen) z hz s.heap [] hP hT va_S.rf
def zNy (l : Launch) (b0 : Nat) (cA : Nat → ClassId) (D : va_G) (L : List (Nat × Nat)) (sq sw : Nat) (y : MethodName) (w0 : Cond) (rm : Room) (av : List Value) (σ : zS) (o : Option (Int32 × zS)) : Prop :=
  ∀ z, o = some z → Met l y (w0 :: zBig) rm (va_Pc av (fun U => zB b0 cA D L σ U ∧ zGq (zA b0 L) sq sw U U.heap)) (va_Qi (fun (r : Int32) (u : zS) => (r, u) = z) (zB b0 cA D L) (zA b0 L)) 0 0 (zA b0 L)
theorem zNy_of {l : Launch} {b0 : Nat} {cA : Nat → ClassId} {D : va_G} {L : List (Nat × Nat)} {sq sw : Nat} {y : MethodName} {cc : ByteArray} {maxL : Nat} {rm : Room} {av : List Value} {σ : zS} {o : Option (Int32 × zS)} (hy : plainName y.cls = true) (hlen : (lg_sl av).length ≤ maxL)
    (body : ∀ (p : Program) (e : Env) (s : State) (m : MethodId) (below : List Frame) (meth : Method) (c : Code) (ls : Array Slot), zGq (zA b0 L) sq sw s s.heap → zC p c s m av.toArray meth cc maxL (some .byte) (Cond.code y cc maxL (some .byte)) y.cls cA D → lv_has ls maxL (lv_args 0 av) → zJ p l e rm s m av.toArray below meth c b0 cA D L (fun z => MQ below (va_Qi (fun (r : Int32) (u : zS) => (r, u) = z) (zB b0 cA D L) (zA b0 L)) av.toArray s 0 0 (zA b0 L)) o σ 0 ls []) :
    zNy l b0 cA D L sq sw y (Cond.code y cc maxL (some .byte)) rm av σ o := by
  intro z hz
  refine Met.ofW (cc := cc) (maxL := maxL) (ret := some .byte) hy rfl ?_
  intro p e s m args below meth c s₁ B hml hv
  obtain ⟨rfl, ⟨hP, hT, hK⟩, hG⟩ := hv
  rw [lg_entry_eq]
  exact body p e s m below meth c _ hG ⟨⟨B.exec, B.bytes, hml, findClass_of_methodNamed B.named, atoms_spec (ws := Cond.code y cc maxL (some .byte) :: zBig) B.pre⟩, hK, B.returns, B.notSynchronized⟩ (lv_entry av hlen) z hz s.heap [] hP hT va_S.rf
theorem z_blindN {b0 : Nat} {cA : Nat → ClassId} {D : va_G} {L : List (Nat × Nat)} {sq sw : Nat} {σ : zS} {av : List Value} : FrameBlind (va_Pc av (fun U => zB b0 cA D L σ U ∧ zGq (zA b0 L) sq sw U U.heap)) := fun a U g mk q => by
  obtain ⟨q0, ⟨qP, qT, qK⟩, qG⟩ := q
  exact ⟨q0, ⟨qP, qT, va_K.moved (u := U) (U := U.calling g mk a) (Vm.Alike.refl U.vm) qK⟩, qG.blind⟩
section ZC
variable {p : Program} {l : Launch} {e : Env} {R : Room} {s : State} {m : MethodId} {args : Array Value} {below : List Frame} {meth : Method} {c : Code} {b0 : Nat} {cA : Nat → ClassId} {D : va_G} {L : List (Nat × Nat)} {ρ : Type} {Q : ρ → State → Prop} {σ : zS} {pc pc' : Nat} {ls : Array Slot} {st rest : List Value} {cc : ByteArray} {nL : Nat} {ret : Option FieldType} {w0 : Cond} {own : String} {sq sw : Nat} {o : Option ρ}
theorem zn_calliV {y : MethodName} {bytes : ByteArray} {maxL index j ci : Nat} {rt : Option FieldType} {C : String} {T : u_T} {N : Nat} {rm : Room} {As : List Value} {nA : Nat} {o1 : Option (Int32 × zS)} {g : Int32 → zS → Option ρ} (hG : zGq (zA b0 L) sq sw s s.heap) (hC : zC p c s m args meth cc nL ret w0 own cA D) (hM : zNi l b0 cA D L sq sw y (Cond.code y bytes maxL rt) rm (.ref (b0 + j) :: As) σ o1) (hj : L[j]? = some (0, ci)) (hci : vwCl[ci]? = some (C, T, N)) (hcy : Cond.code y bytes maxL rt ∈ zBig) (hl : Cond.methodLink own index y ∈ zBig) (hin : Cond.instanceMethod y ∈ zBig) (hse : Cond.selects C y y ∈ zBig) (hini : Cond.initialized y.cls ∈ zBig) (hdd : y.cls ≠ "java/lang/invoke/MethodHandle" ∧ y.cls ≠ "java/lang/invoke/VarHandle" ∧ (parseMethodDescriptor y.desc).map (fun d => d.parameters.length) = some nA) (hnA : As.length = nA) (hrm : rm.cells = 0 ∧ rm.slots = 0) (hroom : rm.frames + 1 ≤ R.frames ∧ 8 + (maxL + 11) + rm.locals ≤ R.locals) (hls : ls.size = nL) (hrest : (rest.map fun v => v.category).sum ≤ 8) (hst : st = As.reverse ++ .ref (b0 + j) :: rest) (hd : decode cc pc = .ok (.invokevirtual index, 3)) (hp : pc + 3 = pc')
    (k : ∀ (r : Int32) (σ' : zS), zJ p l e R s m args below meth c b0 cA D L Q (g r σ') σ' pc' ls (.int r :: rest)) : zJ p l e R s m args below meth c b0 cA D L Q (zb o1 g) σ pc ls st := by
  subst hp; subst hst
  intro z hz H locs hP hT hS
  obtain ⟨w, hw, hg⟩ := Option.bind_eq_some_iff.mp hz
  refine va_calli (va_runV (As := As) (rest := rest) (C := C) (bytes := bytes) (maxL := maxL) (ret := rt) hC.1 (hM w hw) ⟨callB_of nA hC.1.2.2.2.2 (z_goodIn hcy) rfl hrm.1 hrm.2 (zC_hts (hh := ()) hC hini) (zC_hts (hh := ()) hC hl) hdd hroom, zC_hts (hh := ()) hC hin, zC_hts (hh := ()) hC hse⟩ ⟨z_blindN, va_recv hC.2.1 hP hci (zW_at hj), fun U hU hW => ⟨rfl, ⟨by rw [hU]; exact hP, hT, va_K.moved hW.alike hC.2.1⟩, hG.go hS.2.1 hU hW⟩⟩ rfl hnA hls rfl (lv_room hrest) hd ⟨Nat.zero_le _, Nat.zero_le _⟩) hS (fun q _ h => h) (fun q h => h) (fun r u t H1 locs1 ht hvm hw hB hz1 hk1 hS1 => ?_)
  cases hw
  exact k r u z hg H1 locs1 (by rw [← ht]; exact hB.1) hB.2.1 hS1
theorem zn_calliQ {y : MethodName} {bytes : ByteArray} {maxL index : Nat} {rt : Option FieldType} {rm : Room} {As : List Value} {nA : Nat} {o1 : Option (Int32 × zS)} {g : Int32 → zS → Option ρ} (hG : zGq (zA b0 L) sq sw s s.heap) (hC : zC p c s m args meth cc nL ret w0 own cA D) (hM : zNi l b0 cA D L sq sw y (Cond.code y bytes maxL rt) rm (.ref sq :: As) σ o1) (hcy : Cond.code y bytes maxL rt ∈ zBig) (hl : Cond.methodLink own index y ∈ zBig) (hin : Cond.instanceMethod y ∈ zBig) (hse : Cond.selects "java/lang/String" y y ∈ zBig) (hini : Cond.initialized y.cls ∈ zBig) (hdd : y.cls ≠ "java/lang/invoke/MethodHandle" ∧ y.cls ≠ "java/lang/invoke/VarHandle" ∧ (parseMethodDescriptor y.desc).map (fun d => d.parameters.length) = some nA) (hnA : As.length = nA) (hrm : rm.cells = 0 ∧ rm.slots = 0) (hroom : rm.frames + 1 ≤ R.frames ∧ 8 + (maxL + 11) + rm.locals ≤ R.locals) (hls : ls.size = nL) (hrest : (rest.map fun v => v.category).sum ≤ 8) (hst : st = As.reverse ++ .ref sq :: rest) (hd : decode cc pc = .ok (.invokevirtual index, 3)) (hp : pc + 3 = pc')
    (k : ∀ (r : Int32) (σ' : zS), zJ p l e R s m args below meth c b0 cA D L Q (g r σ') σ' pc' ls (.int r :: rest)) : zJ p l e R s m args below meth c b0 cA D L Q (zb o1 g) σ pc ls st := by
  subst hp; subst hst
  intro z hz H locs hP hT hS
  obtain ⟨w, hw, hg⟩ := Option.bind_eq_some_iff.mp hz
  refine va_calli (va_runV (As := As) (rest := rest) (C := "java/lang/String") (bytes := bytes) (maxL := maxL) (ret := rt) hC.1 (hM w hw) ⟨callB_of nA hC.1.2.2.2.2 (z_goodIn hcy) rfl hrm.1 hrm.2 (zC_hts (hh := ()) hC hini) (zC_hts (hh := ()) hC hl) hdd hroom, zC_hts (hh := ()) hC hin, zC_hts (hh := ()) hC hse⟩ ⟨z_blindN, (by obtain ⟨cell, h1, h2, h3, -⟩ := hG.1.kept hS.2.1; exact ⟨cell, h1, h2, h3⟩), fun U hU hW => ⟨rfl, ⟨by rw [hU]; exact hP, hT, va_K.moved hW.alike hC.2.1⟩, hG.go hS.2.1 hU hW⟩⟩ rfl hnA hls rfl (lv_room hrest) hd ⟨Nat.zero_le _, Nat.zero_le _⟩) hS (fun q _ h => h) (fun q h => h) (fun r u t H1 locs1 ht hvm hw hB hz1 hk1 hS1 => ?_)
  cases hw
  exact k r u z hg H1 locs1 (by rw [← ht]; exact hB.1) hB.2.1 hS1
theorem zn_calliS {y : MethodName} {bytes : ByteArray} {maxL index : Nat} {rt : Option FieldType} {rm : Room} {As : List Value} {nA : Nat} {o1 : Option (Int32 × zS)} {g : Int32 → zS → Option ρ} (hG : zGq (zA b0 L) sq sw s s.heap) (hC : zC p c s m args meth cc nL ret w0 own cA D) (hM : zNi l b0 cA D L sq sw y (Cond.code y bytes maxL rt) rm As σ o1) (hcy : Cond.code y bytes maxL rt ∈ zBig) (hl : Cond.methodLink own index y ∈ zBig) (hsta : Cond.static y ∈ zBig) (hini : Cond.initialized y.cls ∈ zBig) (hdd : y.cls ≠ "java/lang/invoke/MethodHandle" ∧ y.cls ≠ "java/lang/invoke/VarHandle" ∧ (parseMethodDescriptor y.desc).map (fun d => d.parameters.length) = some nA) (hnA : As.length = nA) (hrm : rm.cells = 0 ∧ rm.slots = 0) (hroom : rm.frames + 1 ≤ R.frames ∧ 8 + (maxL + 11) + rm.locals ≤ R.locals) (hls : ls.size = nL) (hrest : (rest.map fun v => v.category).sum ≤ 8) (hst : st = As.reverse ++ rest) (hd : decode cc pc = .ok (.invokestatic index, 3)) (hp : pc + 3 = pc')
    (k : ∀ (r : Int32) (σ' : zS), zJ p l e R s m args below meth c b0 cA D L Q (g r σ') σ' pc' ls (.int r :: rest)) : zJ p l e R s m args below meth c b0 cA D L Q (zb o1 g) σ pc ls st := by
  subst hp; subst hst
  intro z hz H locs hP hT hS
  obtain ⟨w, hw, hg⟩ := Option.bind_eq_some_iff.mp hz
  refine va_calli (va_runS (As := As) (rest := rest) (bytes := bytes) (maxL := maxL) (ret := rt) hC.1 (hM w hw) ⟨callB_of nA hC.1.2.2.2.2 (z_goodIn hcy) rfl hrm.1 hrm.2 (zC_hts (hh := ()) hC hini) (zC_hts (hh := ()) hC hl) hdd hroom, zC_hts (hh := ()) hC hsta⟩ ⟨z_blindN, fun U hU hW => ⟨rfl, ⟨by rw [hU]; exact hP, hT, va_K.moved hW.alike hC.2.1⟩, hG.go hS.2.1 hU hW⟩⟩ rfl hnA hls rfl (lv_room hrest) hd ⟨Nat.zero_le _, Nat.zero_le _⟩) hS (fun q _ h => h) (fun q h => h) (fun r u t H1 locs1 ht hvm hw hB hz1 hk1 hS1 => ?_)
  cases hw
  exact k r u z hg H1 locs1 (by rw [← ht]; exact hB.1) hB.2.1 hS1
theorem zn_callzV {y : MethodName} {bytes : ByteArray} {maxL index j ci : Nat} {rt : Option FieldType} {C : String} {T : u_T} {N : Nat} {rm : Room} {As : List Value} {nA : Nat} {o1 : Option (Int32 × zS)} {g : Int32 → zS → Option ρ} (hG : zGq (zA b0 L) sq sw s s.heap) (hC : zC p c s m args meth cc nL ret w0 own cA D) (hM : zNz l b0 cA D L sq sw y (Cond.code y bytes maxL rt) rm (.ref (b0 + j) :: As) σ o1) (hj : L[j]? = some (0, ci)) (hci : vwCl[ci]? = some (C, T, N)) (hcy : Cond.code y bytes maxL rt ∈ zBig) (hl : Cond.methodLink own index y ∈ zBig) (hin : Cond.instanceMethod y ∈ zBig) (hse : Cond.selects C y y ∈ zBig) (hini : Cond.initialized y.cls ∈ zBig) (hdd : y.cls ≠ "java/lang/invoke/MethodHandle" ∧ y.cls ≠ "java/lang/invoke/VarHandle" ∧ (parseMethodDescriptor y.desc).map (fun d => d.parameters.length) = some nA) (hnA : As.length = nA) (hrm : rm.cells = 0 ∧ rm.slots = 0) (hroom : rm.frames + 1 ≤ R.frames ∧ 8 + (maxL + 11) + rm.locals ≤ R.locals) (hls : ls.size = nL) (hrest : (rest.map fun v => v.category).sum ≤ 8) (hst : st = As.reverse ++ .ref (b0 + j) :: rest) (hd : decode cc pc = .ok (.invokevirtual index, 3)) (hp : pc + 3 = pc')
    (k : ∀ (r : Int32) (σ' : zS), nB r → zJ p l e R s m args below meth c b0 cA D L Q (g r σ') σ' pc' ls (.int r :: rest)) : zJ p l e R s m args below meth c b0 cA D L Q (zb o1 g) σ pc ls st := by
  subst hp; subst hst
  intro z hz H locs hP hT hS
  obtain ⟨w, hw, hg⟩ := Option.bind_eq_some_iff.mp hz
  refine va_calli (va_runV (As := As) (rest := rest) (C := C) (bytes := bytes) (maxL := maxL) (ret := rt) hC.1 (hM w hw) ⟨callB_of nA hC.1.2.2.2.2 (z_goodIn hcy) rfl hrm.1 hrm.2 (zC_hts (hh := ()) hC hini) (zC_hts (hh := ()) hC hl) hdd hroom, zC_hts (hh := ()) hC hin, zC_hts (hh := ()) hC hse⟩ ⟨z_blindN, va_recv hC.2.1 hP hci (zW_at hj), fun U hU hW => ⟨rfl, ⟨by rw [hU]; exact hP, hT, va_K.moved hW.alike hC.2.1⟩, hG.go hS.2.1 hU hW⟩⟩ rfl hnA hls rfl (lv_room hrest) hd ⟨Nat.zero_le _, Nat.zero_le _⟩) hS (fun q _ h => h) (fun q h => h) (fun r u t H1 locs1 ht hvm hw hB hz1 hk1 hS1 => ?_)
  obtain ⟨hw, hb⟩ := hw
  cases hw
  exact k r u hb z hg H1 locs1 (by rw [← ht]; exact hB.1) hB.2.1 hS1
theorem zn_callzQ {y : MethodName} {bytes : ByteArray} {maxL index : Nat} {rt : Option FieldType} {rm : Room} {As : List Value} {nA : Nat} {o1 : Option (Int32 × zS)} {g : Int32 → zS → Option ρ} (hG : zGq (zA b0 L) sq sw s s.heap) (hC : zC p c s m args meth cc nL ret w0 own cA D) (hM : zNz l b0 cA D L sq sw y (Cond.code y bytes maxL rt) rm (.ref sq :: As) σ o1) (hcy : Cond.code y bytes maxL rt ∈ zBig) (hl : Cond.methodLink own index y ∈ zBig) (hin : Cond.instanceMethod y ∈ zBig) (hse : Cond.selects "java/lang/String" y y ∈ zBig) (hini : Cond.initialized y.cls ∈ zBig) (hdd : y.cls ≠ "java/lang/invoke/MethodHandle" ∧ y.cls ≠ "java/lang/invoke/VarHandle" ∧ (parseMethodDescriptor y.desc).map (fun d => d.parameters.length) = some nA) (hnA : As.length = nA) (hrm : rm.cells = 0 ∧ rm.slots = 0) (hroom : rm.frames + 1 ≤ R.frames ∧ 8 + (maxL + 11) + rm.locals ≤ R.locals) (hls : ls.size = nL) (hrest : (rest.map fun v => v.category).sum ≤ 8) (hst : st = As.reverse ++ .ref sq :: rest) (hd : decode cc pc = .ok (.invokevirtual index, 3)) (hp : pc + 3 = pc')
    (k : ∀ (r : Int32) (σ' : zS), nB r → zJ p l e R s m args below meth c b0 cA D L Q (g r σ') σ' pc' ls (.int r :: rest)) : zJ p l e R s m args below meth c b0 cA D L Q (zb o1 g) σ pc ls st := by
  subst hp; subst hst
  intro z hz H locs hP hT hS
  obtain ⟨w, hw, hg⟩ := Option.bind_eq_some_iff.mp hz
  refine va_calli (va_runV (As := As) (rest := rest) (C := "java/lang/String") (bytes := bytes) (maxL := maxL) (ret := rt) hC.1 (hM w hw) ⟨callB_of nA hC.1.2.2.2.2 (z_goodIn hcy) rfl hrm.1 hrm.2 (zC_hts (hh := ()) hC hini) (zC_hts (hh := ()) hC hl) hdd hroom, zC_hts (hh := ()) hC hin, zC_hts (hh := ()) hC hse⟩ ⟨z_blindN, (by obtain ⟨cell, h1, h2, h3, -⟩ := hG.1.kept hS.2.1; exact ⟨cell, h1, h2, h3⟩), fun U hU hW => ⟨rfl, ⟨by rw [hU]; exact hP, hT, va_K.moved hW.alike hC.2.1⟩, hG.go hS.2.1 hU hW⟩⟩ rfl hnA hls rfl (lv_room hrest) hd ⟨Nat.zero_le _, Nat.zero_le _⟩) hS (fun q _ h => h) (fun q h => h) (fun r u t H1 locs1 ht hvm hw hB hz1 hk1 hS1 => ?_)
  obtain ⟨hw, hb⟩ := hw
  cases hw
  exact k r u hb z hg H1 locs1 (by rw [← ht]; exact hB.1) hB.2.1 hS1
theorem zn_callzS {y : MethodName} {bytes : ByteArray} {maxL index : Nat} {rt : Option FieldType} {rm : Room} {As : List Value} {nA : Nat} {o1 : Option (Int32 × zS)} {g : Int32 → zS → Option ρ} (hG : zGq (zA b0 L) sq sw s s.heap) (hC : zC p c s m args meth cc nL ret w0 own cA D) (hM : zNz l b0 cA D L sq sw y (Cond.code y bytes maxL rt) rm As σ o1) (hcy : Cond.code y bytes maxL rt ∈ zBig) (hl : Cond.methodLink own index y ∈ zBig) (hsta : Cond.static y ∈ zBig) (hini : Cond.initialized y.cls ∈ zBig) (hdd : y.cls ≠ "java/lang/invoke/MethodHandle" ∧ y.cls ≠ "java/lang/invoke/VarHandle" ∧ (parseMethodDescriptor y.desc).map (fun d => d.parameters.length) = some nA) (hnA : As.length = nA) (hrm : rm.cells = 0 ∧ rm.slots = 0) (hroom : rm.frames + 1 ≤ R.frames ∧ 8 + (maxL + 11) + rm.locals ≤ R.locals) (hls : ls.size = nL) (hrest : (rest.map fun v => v.category).sum ≤ 8) (hst : st = As.reverse ++ rest) (hd : decode cc pc = .ok (.invokestatic index, 3)) (hp : pc + 3 = pc')
    (k : ∀ (r : Int32) (σ' : zS), nB r → zJ p l e R s m args below meth c b0 cA D L Q (g r σ') σ' pc' ls (.int r :: rest)) : zJ p l e R s m args below meth c b0 cA D L Q (zb o1 g) σ pc ls st := by
  subst hp; subst hst
  intro z hz H locs hP hT hS
  obtain ⟨w, hw, hg⟩ := Option.bind_eq_some_iff.mp hz
  refine va_calli (va_runS (As := As) (rest := rest) (bytes := bytes) (maxL := maxL) (ret := rt) hC.1 (hM w hw) ⟨callB_of nA hC.1.2.2.2.2 (z_goodIn hcy) rfl hrm.1 hrm.2 (zC_hts (hh := ()) hC hini) (zC_hts (hh := ()) hC hl) hdd hroom, zC_hts (hh := ()) hC hsta⟩ ⟨z_blindN, fun U hU hW => ⟨rfl, ⟨by rw [hU]; exact hP, hT, va_K.moved hW.alike hC.2.1⟩, hG.go hS.2.1 hU hW⟩⟩ rfl hnA hls rfl (lv_room hrest) hd ⟨Nat.zero_le _, Nat.zero_le _⟩) hS (fun q _ h => h) (fun q h => h) (fun r u t H1 locs1 ht hvm hw hB hz1 hk1 hS1 => ?_)
  obtain ⟨hw, hb⟩ := hw
  cases hw
  exact k r u hb z hg H1 locs1 (by rw [← ht]; exact hB.1) hB.2.1 hS1
theorem zn_callyV {y : MethodName} {bytes : ByteArray} {maxL index j ci : Nat} {rt : Option FieldType} {C : String} {T : u_T} {N : Nat} {rm : Room} {As : List Value} {nA : Nat} {o1 : Option (Int32 × zS)} {g : Int32 → zS → Option ρ} (hG : zGq (zA b0 L) sq sw s s.heap) (hC : zC p c s m args meth cc nL ret w0 own cA D) (hM : zNy l b0 cA D L sq sw y (Cond.code y bytes maxL rt) rm (.ref (b0 + j) :: As) σ o1) (hj : L[j]? = some (0, ci)) (hci : vwCl[ci]? = some (C, T, N)) (hcy : Cond.code y bytes maxL rt ∈ zBig) (hl : Cond.methodLink own index y ∈ zBig) (hin : Cond.instanceMethod y ∈ zBig) (hse : Cond.selects C y y ∈ zBig) (hini : Cond.initialized y.cls ∈ zBig) (hdd : y.cls ≠ "java/lang/invoke/MethodHandle" ∧ y.cls ≠ "java/lang/invoke/VarHandle" ∧ (parseMethodDescriptor y.desc).map (fun d => d.parameters.length) = some nA) (hnA : As.length = nA) (hrm : rm.cells = 0 ∧ rm.slots = 0) (hroom : rm.frames + 1 ≤ R.frames ∧ 8 + (maxL + 11) + rm.locals ≤ R.locals) (hls : ls.size = nL) (hrest : (rest.map fun v => v.category).sum ≤ 8) (hst : st = As.reverse ++ .ref (b0 + j) :: rest) (hd : decode cc pc = .ok (.invokevirtual index, 3)) (hp : pc + 3 = pc')
    (k : ∀ (r : Int32) (σ' : zS), zJ p l e R s m args below meth c b0 cA D L Q (g r σ') σ' pc' ls (.int r :: rest)) : zJ p l e R s m args below meth c b0 cA D L Q (zb o1 g) σ pc ls st := by
  subst hp; subst hst
  intro z hz H locs hP hT hS
  obtain ⟨w, hw, hg⟩ := Option.bind_eq_some_iff.mp hz
  refine va_calli (va_runV (As := As) (rest := rest) (C := C) (bytes := bytes) (maxL := maxL) (ret := rt) hC.1 (hM w hw) ⟨callB_of nA hC.1.2.2.2.2 (z_goodIn hcy) rfl hrm.1 hrm.2 (zC_hts (hh := ()) hC hini) (zC_hts (hh := ()) hC hl) hdd hroom, zC_hts (hh := ()) hC hin, zC_hts (hh := ()) hC hse⟩ ⟨z_blindN, va_recv hC.2.1 hP hci (zW_at hj), fun U hU hW => ⟨rfl, ⟨by rw [hU]; exact hP, hT, va_K.moved hW.alike hC.2.1⟩, hG.go hS.2.1 hU hW⟩⟩ rfl hnA hls rfl (lv_room hrest) hd ⟨Nat.zero_le _, Nat.zero_le _⟩) hS (fun q _ h => h) (fun q h => h) (fun r u t H1 locs1 ht hvm hw hB hz1 hk1 hS1 => ?_)
  cases hw
  exact k r u z hg H1 locs1 (by rw [← ht]; exact hB.1) hB.2.1 hS1
theorem zn_callyQ {y : MethodName} {bytes : ByteArray} {maxL index : Nat} {rt : Option FieldType} {rm : Room} {As : List Value} {nA : Nat} {o1 : Option (Int32 × zS)} {g : Int32 → zS → Option ρ} (hG : zGq (zA b0 L) sq sw s s.heap) (hC : zC p c s m args meth cc nL ret w0 own cA D) (hM : zNy l b0 cA D L sq sw y (Cond.code y bytes maxL rt) rm (.ref sq :: As) σ o1) (hcy : Cond.code y bytes maxL rt ∈ zBig) (hl : Cond.methodLink own index y ∈ zBig) (hin : Cond.instanceMethod y ∈ zBig) (hse : Cond.selects "java/lang/String" y y ∈ zBig) (hini : Cond.initialized y.cls ∈ zBig) (hdd : y.cls ≠ "java/lang/invoke/MethodHandle" ∧ y.cls ≠ "java/lang/invoke/VarHandle" ∧ (parseMethodDescriptor y.desc).map (fun d => d.parameters.length) = some nA) (hnA : As.length = nA) (hrm : rm.cells = 0 ∧ rm.slots = 0) (hroom : rm.frames + 1 ≤ R.frames ∧ 8 + (maxL + 11) + rm.locals ≤ R.locals) (hls : ls.size = nL) (hrest : (rest.map fun v => v.category).sum ≤ 8) (hst : st = As.reverse ++ .ref sq :: rest) (hd : decode cc pc = .ok (.invokevirtual index, 3)) (hp : pc + 3 = pc')
    (k : ∀ (r : Int32) (σ' : zS), zJ p l e R s m args below meth c b0 cA D L Q (g r σ') σ' pc' ls (.int r :: rest)) : zJ p l e R s m args below meth c b0 cA D L Q (zb o1 g) σ pc ls st := by
  subst hp; subst hst
  intro z hz H locs hP hT hS
  obtain ⟨w, hw, hg⟩ := Option.bind_eq_some_iff.mp hz
  refine va_calli (va_runV (As := As) (rest := rest) (C := "java/lang/String") (bytes := bytes) (maxL := maxL) (ret := rt) hC.1 (hM w hw) ⟨callB_of nA hC.1.2.2.2.2 (z_goodIn hcy) rfl hrm.1 hrm.2 (zC_hts (hh := ()) hC hini) (zC_hts (hh := ()) hC hl) hdd hroom, zC_hts (hh := ()) hC hin, zC_hts (hh := ()) hC hse⟩ ⟨z_blindN, (by obtain ⟨cell, h1, h2, h3, -⟩ := hG.1.kept hS.2.1; exact ⟨cell, h1, h2, h3⟩), fun U hU hW => ⟨rfl, ⟨by rw [hU]; exact hP, hT, va_K.moved hW.alike hC.2.1⟩, hG.go hS.2.1 hU hW⟩⟩ rfl hnA hls rfl (lv_room hrest) hd ⟨Nat.zero_le _, Nat.zero_le _⟩) hS (fun q _ h => h) (fun q h => h) (fun r u t H1 locs1 ht hvm hw hB hz1 hk1 hS1 => ?_)
  cases hw
  exact k r u z hg H1 locs1 (by rw [← ht]; exact hB.1) hB.2.1 hS1
theorem zn_callyS {y : MethodName} {bytes : ByteArray} {maxL index : Nat} {rt : Option FieldType} {rm : Room} {As : List Value} {nA : Nat} {o1 : Option (Int32 × zS)} {g : Int32 → zS → Option ρ} (hG : zGq (zA b0 L) sq sw s s.heap) (hC : zC p c s m args meth cc nL ret w0 own cA D) (hM : zNy l b0 cA D L sq sw y (Cond.code y bytes maxL rt) rm As σ o1) (hcy : Cond.code y bytes maxL rt ∈ zBig) (hl : Cond.methodLink own index y ∈ zBig) (hsta : Cond.static y ∈ zBig) (hini : Cond.initialized y.cls ∈ zBig) (hdd : y.cls ≠ "java/lang/invoke/MethodHandle" ∧ y.cls ≠ "java/lang/invoke/VarHandle" ∧ (parseMethodDescriptor y.desc).map (fun d => d.parameters.length) = some nA) (hnA : As.length = nA) (hrm : rm.cells = 0 ∧ rm.slots = 0) (hroom : rm.frames + 1 ≤ R.frames ∧ 8 + (maxL + 11) + rm.locals ≤ R.locals) (hls : ls.size = nL) (hrest : (rest.map fun v => v.category).sum ≤ 8) (hst : st = As.reverse ++ rest) (hd : decode cc pc = .ok (.invokestatic index, 3)) (hp : pc + 3 = pc')
    (k : ∀ (r : Int32) (σ' : zS), zJ p l e R s m args below meth c b0 cA D L Q (g r σ') σ' pc' ls (.int r :: rest)) : zJ p l e R s m args below meth c b0 cA D L Q (zb o1 g) σ pc ls st := by
  subst hp; subst hst
  intro z hz H locs hP hT hS
  obtain ⟨w, hw, hg⟩ := Option.bind_eq_some_iff.mp hz
  refine va_calli (va_runS (As := As) (rest := rest) (bytes := bytes) (maxL := maxL) (ret := rt) hC.1 (hM w hw) ⟨callB_of nA hC.1.2.2.2.2 (z_goodIn hcy) rfl hrm.1 hrm.2 (zC_hts (hh := ()) hC hini) (zC_hts (hh := ()) hC hl) hdd hroom, zC_hts (hh := ()) hC hsta⟩ ⟨z_blindN, fun U hU hW => ⟨rfl, ⟨by rw [hU]; exact hP, hT, va_K.moved hW.alike hC.2.1⟩, hG.go hS.2.1 hU hW⟩⟩ rfl hnA hls rfl (lv_room hrest) hd ⟨Nat.zero_le _, Nat.zero_le _⟩) hS (fun q _ h => h) (fun q h => h) (fun r u t H1 locs1 ht hvm hw hB hz1 hk1 hS1 => ?_)
  cases hw
  exact k r u z hg H1 locs1 (by rw [← ht]; exact hB.1) hB.2.1 hS1
theorem zn_ldcS (hG : zGq (zA b0 L) sq sw s s.heap) (hC : zC p c s m args meth cc nL ret w0 "PaidHouse$Reader" cA D) (hd : decode cc pc = .ok (.ldc 109, 2)) (hp : pc + 2 = pc') (k : zJ p l e R s m args below meth c b0 cA D L Q o σ pc' ls (.ref sq :: rest)) : zJ p l e R s m args below meth c b0 cA D L Q o σ pc ls rest := by
  subst hp
  exact fun z hz H locs hP hT hS => va_ldcS hC.1.1 hC.1.2.1 hC.1.2.2.2.1 hG.2.2.2.2.2 hd (k z hz H locs hP hT hS)
theorem zn_coder {index : Nat} (hG : zGq (zA b0 L) sq sw s s.heap) (hC : zC p c s m args meth cc nL ret w0 own cA D) (hw : Cond.fieldLink own index "java/lang/String" "coder" "B" ∈ zBig) (hd : decode cc pc = .ok (.getfield index, 3)) (hp : pc + 3 = pc') (k : zJ p l e R s m args below meth c b0 cA D L Q o σ pc' ls (.int (0 : Int32) :: rest)) : zJ p l e R s m args below meth c b0 cA D L Q o σ pc ls (.ref sq :: rest) := by
  subst hp
  exact fun z hz H locs hP hT hS => vk_getf hC.1.1 hC.1.2.1 hG.2.1 hS hC.1.2.2.2.1 (zC_hts (hh := ()) hC hw) (fun _ h => h) hd (k z hz H locs hP hT hS)
theorem zn_value {index : Nat} (hG : zGq (zA b0 L) sq sw s s.heap) (hC : zC p c s m args meth cc nL ret w0 own cA D) (hw : Cond.fieldLink own index "java/lang/String" "value" "[B" ∈ zBig) (hd : decode cc pc = .ok (.getfield index, 3)) (hp : pc + 3 = pc') (k : zJ p l e R s m args below meth c b0 cA D L Q o σ pc' ls (.ref sw :: rest)) : zJ p l e R s m args below meth c b0 cA D L Q o σ pc ls (.ref sq :: rest) := by
  subst hp
  exact fun z hz H locs hP hT hS => vk_getf hC.1.1 hC.1.2.1 hG.2.2.1 hS hC.1.2.2.2.1 (zC_hts (hh := ()) hC hw) (fun _ h => h) hd (k z hz H locs hP hT hS)
theorem zn_gets {index : Nat} (hG : zGq (zA b0 L) sq sw s s.heap) (hC : zC p c s m args meth cc nL ret w0 own cA D) (hw : Cond.fieldLink own index "java/lang/String" "COMPACT_STRINGS" "Z" ∈ zBig) (hd : decode cc pc = .ok (.getstatic index, 3)) (hp : pc + 3 = pc') (k : zJ p l e R s m args below meth c b0 cA D L Q o σ pc' ls (.int (1 : Int32) :: rest)) : zJ p l e R s m args below meth c b0 cA D L Q o σ pc ls rest := by
  subst hp
  exact fun z hz H locs hP hT hS => va_gets hC.1.1 hC.1.2.1 hG.2.2.2.2.1 hS hC.1.2.2.2.1 (zC_hts (hh := ()) hC hw) (fun _ h => h) hd (k z hz H locs hP hT hS)
theorem zn_alen (hG : zGq (zA b0 L) sq sw s s.heap) (hC : zC p c s m args meth cc nL ret w0 own cA D) (hd : decode cc pc = .ok (.arraylength, 1)) (hp : pc + 1 = pc') (k : zJ p l e R s m args below meth c b0 cA D L Q o σ pc' ls (.int (12 : Int32) :: rest)) : zJ p l e R s m args below meth c b0 cA D L Q o σ pc ls (.ref sw :: rest) := by
  subst hp
  exact fun z hz H locs hP hT hS => va_tlen hC.1.1 hC.1.2.1 hG.2.2.2.1 hS rfl hd (k z hz H locs hP hT hS)
theorem zn_bald {i : Int32} (hG : zGq (zA b0 L) sq sw s s.heap) (hC : zC p c s m args meth cc nL ret w0 own cA D) (hd : decode cc pc = .ok (.baload, 1)) (hp : pc + 1 = pc') (k : vp_in i 12 → zJ p l e R s m args below meth c b0 cA D L Q o σ pc' ls (.int (zBy.getD i.toNatClampNeg 0) :: rest)) : zJ p l e R s m args below meth c b0 cA D L Q (zX i 12 o) σ pc ls (.int i :: .ref sw :: rest) := by
  subst hp
  intro z hz H locs hP hT hS
  obtain ⟨h1, h2⟩ := zX_some hz
  exact va_tb hC.1.1 hC.1.2.1 hG.2.2.2.1 hS h1 rfl hd (k h1 z h2 H locs hP hT hS)
theorem zj_yret {v : Int32} (hC : zC p c s m args meth cc nL (some .byte) w0 own cA D) (hv : narrow .byte (.int v) = .int v) (hd : decode cc pc = .ok (.ireturn, 1)) : zJ p l e R s m args below meth c b0 cA D L (fun z => MQ below (va_Qi (fun (r : Int32) (u : zS) => (r, u) = z) (zB b0 cA D L) (zA b0 L)) args s 0 0 (zA b0 L)) (some (v, σ)) σ pc ls [.int v] := by
  intro z hz H locs hP hT hS
  cases hz
  exact W.zret hC.1.1 hC.1.2.1 hC.2.2.1 hv (fun t ht hW => ⟨⟨v, σ, rfl, rfl, by rw [ht]; exact hP, hT, va_K.moved hW.alike hC.2.1⟩, hS.F ht⟩) hS.2.2 hd hC.2.2.2

theorem zj_mmax {index : Nat} {x y : Int32} (hC : zC p c s m args meth cc nL ret w0 own cA D) (hl : Cond.methodLink own index Lib.Math.max.name ∈ zBig) (hsta : Cond.static Lib.Math.max.name ∈ zBig) (hini : Cond.initialized "java/lang/Math" ∈ zBig) (hcy : Cond.code Lib.Math.max.name Lib.Math.max.code 2 (some .int) ∈ zBig) (hfr : 1 ≤ R.frames) (hlo : (rest.map fun v => v.category).sum + 13 ≤ R.locals) (hls : ls.size = nL) (hd : decode cc pc = .ok (.invokestatic index, 3)) (hp : pc + 3 = pc') (k : zJ p l e R s m args below meth c b0 cA D L Q o σ pc' ls (.int (if x < y then y else x) :: rest)) : zJ p l e R s m args below meth c b0 cA D L Q o σ pc ls (.int y :: .int x :: rest) := by
  subst hp
  exact fun z hz H locs hP hT hS => va_mmax hC.1.1 hC.1.2.1 (by rw [hls]; exact hC.1.2.2.1) hC.1.2.2.2.1 (zC_hts (hh := ()) hC hl) (zC_hts (hh := ()) hC hsta) (zC_hts (hh := ()) hC hini) (zC_hts (hh := ()) hC hcy) hfr hlo (Nat.zero_le _) (Nat.zero_le _) hd (k z hz H locs hP hT hS)
theorem zj_mmin {index : Nat} {x y : Int32} (hC : zC p c s m args meth cc nL ret w0 own cA D) (hl : Cond.methodLink own index Lib.Math.min.name ∈ zBig) (hsta : Cond.static Lib.Math.min.name ∈ zBig) (hini : Cond.initialized "java/lang/Math" ∈ zBig) (hcy : Cond.code Lib.Math.min.name Lib.Math.min.code 2 (some .int) ∈ zBig) (hfr : 1 ≤ R.frames) (hlo : (rest.map fun v => v.category).sum + 13 ≤ R.locals) (hls : ls.size = nL) (hd : decode cc pc = .ok (.invokestatic index, 3)) (hp : pc + 3 = pc') (k : zJ p l e R s m args below meth c b0 cA D L Q o σ pc' ls (.int (if y < x then y else x) :: rest)) : zJ p l e R s m args below meth c b0 cA D L Q o σ pc ls (.int y :: .int x :: rest) := by
  subst hp
  exact fun z hz H locs hP hT hS => va_mmin hC.1.1 hC.1.2.1 (by rw [hls]; exact hC.1.2.2.1) hC.1.2.2.2.1 (zC_hts (hh := ()) hC hl) (zC_hts (hh := ()) hC hsta) (zC_hts (hh := ()) hC hini) (zC_hts (hh := ()) hC hcy) hfr hlo (Nat.zero_le _) (Nat.zero_le _) hd (k z hz H locs hP hT hS)
end ZC
