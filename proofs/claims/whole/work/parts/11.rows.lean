def zB (b0 : Nat) (cA : Nat → ClassId) (D : va_G) (L : List (Nat × Nat)) (u : zS) (t : State) : Prop := va_P D vwCl (zW b0 cA L u) t.heap ∧ zT L u ∧ va_K D vwCl (zTy cA) t
/-- what stays the same over a method's body -/
def zC (p : Program) (c : Code) (s : State) (m : MethodId) (args : Array Value) (meth : Method) (cc : ByteArray) (nL : Nat) (ret : Option FieldType) (w0 : Cond) (own : String) (cA : Nat → ClassId) (D : va_G) : Prop :=
  CallFix p m c cc nL s args (w0 :: zBig) own ∧ va_K D vwCl (zTy cA) s ∧ meth.sig.returnType = ret ∧ meth.locks = false
/-- at this pc, with this store: if the reckoning o comes to something, the machine comes to it -/
def zJ {ρ : Type} (p : Program) (l : Launch) (e : Env) (R : Room) (s : State) (m : MethodId) (args : Array Value) (below : List Frame) (meth : Method) (c : Code) (b0 : Nat) (cA : Nat → ClassId) (D : va_G) (L : List (Nat × Nat)) (Q : ρ → State → Prop) (o : Option ρ) (σ : zS) (pc : Nat) (ls : Array Slot) (st : List Value) : Prop :=
  ∀ z, o = some z → ∀ (H : Heap) (locs : List Loc), va_P D vwCl (zW b0 cA L σ) H → zT L σ → va_S (zA b0 L) s.heap H locs → W p l e R s m args below meth c H locs 0 0 (Q z) (F0 m pc ls st)
def zX {α : Type} (i : Int32) (n : Nat) (a : Option α) : Option α := if i < 0 ∨ n ≤ i.toNatClampNeg then none else a
def zb {α β : Type} (o : Option (α × zS)) (g : α → zS → Option β) : Option β := o.bind (fun q => g q.1 q.2)
def zV {α : Type} (y : Int32) (a : Option α) : Option α := if y = 0 then none else a
def zVL {α : Type} (y : Int64) (a : Option α) : Option α := if y = 0 then none else a
theorem zX_some {α : Type} {i : Int32} {n : Nat} {a : Option α} {z : α} (h : zX i n a = some z) : vp_in i n ∧ a = some z := by
  unfold zX at h
  split at h
  · cases h
  · rename_i q
    exact ⟨q, h⟩
theorem zX_in {α : Type} {i : Int32} {n : Nat} {a : Option α} (h : vp_in i n) : zX i n a = a := if_neg h
theorem zV_some {α : Type} {y : Int32} {a : Option α} {z : α} (h : zV y a = some z) : ¬ y = 0 ∧ a = some z := by
  unfold zV at h
  split at h
  · cases h
  · rename_i q
    exact ⟨q, h⟩
theorem zV_in {α : Type} {y : Int32} {a : Option α} (h : ¬ y = 0) : zV y a = a := if_neg h
theorem zVL_some {α : Type} {y : Int64} {a : Option α} {z : α} (h : zVL y a = some z) : ¬ y = 0 ∧ a = some z := by
  unfold zVL at h
  split at h
  · cases h
  · rename_i q
    exact ⟨q, h⟩
theorem zVL_in {α : Type} {y : Int64} {a : Option α} (h : ¬ y = 0) : zVL y a = a := if_neg h
/-- a field's facts -/
def zFd (ci k : Nat) (C : String) (T : u_T) (N : Nat) (ty : Nat → FieldType) : Prop := vwCl[ci]? = some (C, T, N) ∧ (∀ w ∈ u_ws C T N, w ∈ zBig) ∧ k < N ∧ zN ci = N ∧ (T k).1 = C ∧ (∀ k, k < N → parseFieldDescriptor (T k).2.2.1 = some (ty k)) ∧ (∀ a, a < N → ∀ b, b < N → a ≠ b → (T a).2.1 ≠ (T b).2.1)
section ZJ
variable {p : Program} {l : Launch} {e : Env} {R : Room} {s : State} {m : MethodId} {args : Array Value} {below : List Frame} {meth : Method} {c : Code} {b0 : Nat} {cA : Nat → ClassId} {D : va_G} {L : List (Nat × Nat)} {ρ : Type} {Q : ρ → State → Prop} {o a b : Option ρ} {σ : zS} {pc pc' tgt : Nat} {ls : Array Slot} {st rest : List Value} {cc : ByteArray} {nL : Nat} {ret : Option FieldType} {w0 : Cond} {own : String}
theorem zj_none : zJ p l e R s m args below meth c b0 cA D L Q none σ pc ls st := fun z hz => by cases hz
theorem zC_hts {hh : Unit} (hC : zC p c s m args meth cc nL ret w0 own cA D) {w : Cond} (h : w ∈ zBig) : w.before args s = true := hC.1.2.2.2.2 w (List.mem_cons_of_mem _ h)
theorem zj_iconst {n : Int} {v : Int32} (hC : zC p c s m args meth cc nL ret w0 own cA D) (hd : decode cc pc = .ok (.iconst n, 1)) (hp : pc + 1 = pc') (hv : Int32.ofInt n = v) (k : zJ p l e R s m args below meth c b0 cA D L Q o σ pc' ls (.int v :: rest)) : zJ p l e R s m args below meth c b0 cA D L Q o σ pc ls (rest) := by
  subst hp
  exact fun z hz H locs hP hT hS => lv_iconst hC.1.1 hC.1.2.1 hd hv (k z hz H locs hP hT hS)
theorem zj_bipush {n : Int} {v : Int32} (hC : zC p c s m args meth cc nL ret w0 own cA D) (hd : decode cc pc = .ok (.bipush n, 2)) (hp : pc + 2 = pc') (hv : (Int8.ofInt n).toInt32 = v) (k : zJ p l e R s m args below meth c b0 cA D L Q o σ pc' ls (.int v :: rest)) : zJ p l e R s m args below meth c b0 cA D L Q o σ pc ls (rest) := by
  subst hp
  exact fun z hz H locs hP hT hS => lv_bipush hC.1.1 hC.1.2.1 hd hv (k z hz H locs hP hT hS)
theorem zj_sipush {n : Int} {v : Int32} (hC : zC p c s m args meth cc nL ret w0 own cA D) (hd : decode cc pc = .ok (.sipush n, 3)) (hp : pc + 3 = pc') (hv : (Int16.ofInt n).toInt32 = v) (k : zJ p l e R s m args below meth c b0 cA D L Q o σ pc' ls (.int v :: rest)) : zJ p l e R s m args below meth c b0 cA D L Q o σ pc ls (rest) := by
  subst hp
  exact fun z hz H locs hP hT hS => lv_sipush hC.1.1 hC.1.2.1 hd hv (k z hz H locs hP hT hS)
theorem zj_lconst {n : Fin 2} {v : Int64} (hC : zC p c s m args meth cc nL ret w0 own cA D) (hd : decode cc pc = .ok (.lconst n, 1)) (hp : pc + 1 = pc') (hv : Int64.ofNat (n : Nat) = v) (k : zJ p l e R s m args below meth c b0 cA D L Q o σ pc' ls (.long v :: rest)) : zJ p l e R s m args below meth c b0 cA D L Q o σ pc ls (rest) := by
  subst hp
  exact fun z hz H locs hP hT hS => lv_lconst hC.1.1 hC.1.2.1 hd hv (k z hz H locs hP hT hS)
theorem zj_iload_n {k0 : Fin 4} {i : Nat} {x : Int32} (hC : zC p c s m args meth cc nL ret w0 own cA D) (hd : decode cc pc = .ok (.iload_n k0, 1)) (hp : pc + 1 = pc') (hi : (k0 : Nat) = i) (hl : ls[i]? = some (.val (.int x))) (k : zJ p l e R s m args below meth c b0 cA D L Q o σ pc' ls (.int x :: rest)) : zJ p l e R s m args below meth c b0 cA D L Q o σ pc ls (rest) := by
  subst hp
  exact fun z hz H locs hP hT hS => lv_iload_n hC.1.1 hC.1.2.1 hd hi hl (k z hz H locs hP hT hS)
theorem zj_iload {i : Nat} {x : Int32} (hC : zC p c s m args meth cc nL ret w0 own cA D) (hd : decode cc pc = .ok (.iload i, 2)) (hp : pc + 2 = pc') (hl : ls[i]? = some (.val (.int x))) (k : zJ p l e R s m args below meth c b0 cA D L Q o σ pc' ls (.int x :: rest)) : zJ p l e R s m args below meth c b0 cA D L Q o σ pc ls (rest) := by
  subst hp
  exact fun z hz H locs hP hT hS => lv_iload hC.1.1 hC.1.2.1 hd hl (k z hz H locs hP hT hS)
theorem zj_istore_n {k0 : Fin 4} {i : Nat} {x : Int32} {lv lv' : List (Nat × Value)} (hC : zC p c s m args meth cc nL ret w0 own cA D) (hd : decode cc pc = .ok (.istore_n k0, 1)) (hp : pc + 1 = pc') (hi : (k0 : Nat) = i) (h : lv_has ls nL lv) (hn : i < nL) (hl : (i, Value.int x) :: lv.filter (fun q => !(q.1 == i) && !(q.1 + 1 == i && q.2.category == 2)) = lv') (k : ∀ ls' : Array Slot, lv_has ls' nL lv' → zJ p l e R s m args below meth c b0 cA D L Q o σ pc' ls' rest) : zJ p l e R s m args below meth c b0 cA D L Q o σ pc ls (.int x :: rest) := by
  subst hp
  exact fun z hz H locs hP hT hS => lv_istore_n hC.1.1 hC.1.2.1 hd hi h hn hl (fun ls' hl' => k ls' hl' z hz H locs hP hT hS)
theorem zj_istore {i : Nat} {x : Int32} {lv lv' : List (Nat × Value)} (hC : zC p c s m args meth cc nL ret w0 own cA D) (hd : decode cc pc = .ok (.istore i, 2)) (hp : pc + 2 = pc') (h : lv_has ls nL lv) (hn : i < nL) (hl : (i, Value.int x) :: lv.filter (fun q => !(q.1 == i) && !(q.1 + 1 == i && q.2.category == 2)) = lv') (k : ∀ ls' : Array Slot, lv_has ls' nL lv' → zJ p l e R s m args below meth c b0 cA D L Q o σ pc' ls' rest) : zJ p l e R s m args below meth c b0 cA D L Q o σ pc ls (.int x :: rest) := by
  subst hp
  exact fun z hz H locs hP hT hS => lv_istore hC.1.1 hC.1.2.1 hd h hn hl (fun ls' hl' => k ls' hl' z hz H locs hP hT hS)
theorem zj_lload_n {k0 : Fin 4} {i : Nat} {x : Int64} (hC : zC p c s m args meth cc nL ret w0 own cA D) (hd : decode cc pc = .ok (.lload_n k0, 1)) (hp : pc + 1 = pc') (hi : (k0 : Nat) = i) (hl : ls[i]? = some (.val (.long x))) (k : zJ p l e R s m args below meth c b0 cA D L Q o σ pc' ls (.long x :: rest)) : zJ p l e R s m args below meth c b0 cA D L Q o σ pc ls (rest) := by
  subst hp
  exact fun z hz H locs hP hT hS => lv_lload_n hC.1.1 hC.1.2.1 hd hi hl (k z hz H locs hP hT hS)
theorem zj_lload {i : Nat} {x : Int64} (hC : zC p c s m args meth cc nL ret w0 own cA D) (hd : decode cc pc = .ok (.lload i, 2)) (hp : pc + 2 = pc') (hl : ls[i]? = some (.val (.long x))) (k : zJ p l e R s m args below meth c b0 cA D L Q o σ pc' ls (.long x :: rest)) : zJ p l e R s m args below meth c b0 cA D L Q o σ pc ls (rest) := by
  subst hp
  exact fun z hz H locs hP hT hS => lv_lload hC.1.1 hC.1.2.1 hd hl (k z hz H locs hP hT hS)
theorem zj_lstore_n {k0 : Fin 4} {i : Nat} {x : Int64} {lv lv' : List (Nat × Value)} (hC : zC p c s m args meth cc nL ret w0 own cA D) (hd : decode cc pc = .ok (.lstore_n k0, 1)) (hp : pc + 1 = pc') (hi : (k0 : Nat) = i) (h : lv_has ls nL lv) (hn : i + 1 < nL) (hl : (i, Value.long x) :: lv.filter (fun q => !(q.1 == i) && (!(q.1 == i + 1) && !(q.1 + 1 == i && q.2.category == 2))) = lv') (k : ∀ ls' : Array Slot, lv_has ls' nL lv' → zJ p l e R s m args below meth c b0 cA D L Q o σ pc' ls' rest) : zJ p l e R s m args below meth c b0 cA D L Q o σ pc ls (.long x :: rest) := by
  subst hp
  exact fun z hz H locs hP hT hS => lv_lstore_n hC.1.1 hC.1.2.1 hd hi h hn hl (fun ls' hl' => k ls' hl' z hz H locs hP hT hS)
theorem zj_lstore {i : Nat} {x : Int64} {lv lv' : List (Nat × Value)} (hC : zC p c s m args meth cc nL ret w0 own cA D) (hd : decode cc pc = .ok (.lstore i, 2)) (hp : pc + 2 = pc') (h : lv_has ls nL lv) (hn : i + 1 < nL) (hl : (i, Value.long x) :: lv.filter (fun q => !(q.1 == i) && (!(q.1 == i + 1) && !(q.1 + 1 == i && q.2.category == 2))) = lv') (k : ∀ ls' : Array Slot, lv_has ls' nL lv' → zJ p l e R s m args below meth c b0 cA D L Q o σ pc' ls' rest) : zJ p l e R s m args below meth c b0 cA D L Q o σ pc ls (.long x :: rest) := by
  subst hp
  exact fun z hz H locs hP hT hS => lv_lstore hC.1.1 hC.1.2.1 hd h hn hl (fun ls' hl' => k ls' hl' z hz H locs hP hT hS)
theorem zj_aload_n {k0 : Fin 4} {i : Nat} {x : Nat} (hC : zC p c s m args meth cc nL ret w0 own cA D) (hd : decode cc pc = .ok (.aload_n k0, 1)) (hp : pc + 1 = pc') (hi : (k0 : Nat) = i) (hl : ls[i]? = some (.val (.ref x))) (k : zJ p l e R s m args below meth c b0 cA D L Q o σ pc' ls (.ref x :: rest)) : zJ p l e R s m args below meth c b0 cA D L Q o σ pc ls (rest) := by
  subst hp
  exact fun z hz H locs hP hT hS => lv_aload_n hC.1.1 hC.1.2.1 hd hi hl (k z hz H locs hP hT hS)
theorem zj_aload {i : Nat} {x : Nat} (hC : zC p c s m args meth cc nL ret w0 own cA D) (hd : decode cc pc = .ok (.aload i, 2)) (hp : pc + 2 = pc') (hl : ls[i]? = some (.val (.ref x))) (k : zJ p l e R s m args below meth c b0 cA D L Q o σ pc' ls (.ref x :: rest)) : zJ p l e R s m args below meth c b0 cA D L Q o σ pc ls (rest) := by
  subst hp
  exact fun z hz H locs hP hT hS => lv_aload hC.1.1 hC.1.2.1 hd hl (k z hz H locs hP hT hS)
theorem zj_astore_n {k0 : Fin 4} {i : Nat} {x : Nat} {lv lv' : List (Nat × Value)} (hC : zC p c s m args meth cc nL ret w0 own cA D) (hd : decode cc pc = .ok (.astore_n k0, 1)) (hp : pc + 1 = pc') (hi : (k0 : Nat) = i) (h : lv_has ls nL lv) (hn : i < nL) (hl : (i, Value.ref x) :: lv.filter (fun q => !(q.1 == i) && !(q.1 + 1 == i && q.2.category == 2)) = lv') (k : ∀ ls' : Array Slot, lv_has ls' nL lv' → zJ p l e R s m args below meth c b0 cA D L Q o σ pc' ls' rest) : zJ p l e R s m args below meth c b0 cA D L Q o σ pc ls (.ref x :: rest) := by
  subst hp
  exact fun z hz H locs hP hT hS => lv_astore_n hC.1.1 hC.1.2.1 hd hi h hn hl (fun ls' hl' => k ls' hl' z hz H locs hP hT hS)
theorem zj_astore {i : Nat} {x : Nat} {lv lv' : List (Nat × Value)} (hC : zC p c s m args meth cc nL ret w0 own cA D) (hd : decode cc pc = .ok (.astore i, 2)) (hp : pc + 2 = pc') (h : lv_has ls nL lv) (hn : i < nL) (hl : (i, Value.ref x) :: lv.filter (fun q => !(q.1 == i) && !(q.1 + 1 == i && q.2.category == 2)) = lv') (k : ∀ ls' : Array Slot, lv_has ls' nL lv' → zJ p l e R s m args below meth c b0 cA D L Q o σ pc' ls' rest) : zJ p l e R s m args below meth c b0 cA D L Q o σ pc ls (.ref x :: rest) := by
  subst hp
  exact fun z hz H locs hP hT hS => lv_astore hC.1.1 hC.1.2.1 hd h hn hl (fun ls' hl' => k ls' hl' z hz H locs hP hT hS)
theorem zj_iinc {i k0 : Nat} {n : Int} {x v : Int32} {lv lv' : List (Nat × Value)} (hC : zC p c s m args meth cc nL ret w0 own cA D) (hd : decode cc pc = .ok (.iinc i n, 3)) (hp : pc + 3 = pc') (h : lv_has ls nL lv) (hk : lv[k0]? = some (i, .int x)) (hv : x + Int32.ofInt n = v) (hn : i < nL) (hl : (i, Value.int v) :: lv.filter (fun q => !(q.1 == i) && !(q.1 + 1 == i && q.2.category == 2)) = lv') (k : ∀ ls' : Array Slot, lv_has ls' nL lv' → zJ p l e R s m args below meth c b0 cA D L Q o σ pc' ls' rest) : zJ p l e R s m args below meth c b0 cA D L Q o σ pc ls rest := by
  subst hp
  exact fun z hz H locs hP hT hS => lv_iinc hC.1.1 hC.1.2.1 hd h hk hv hn hl (fun ls' hl' => k ls' hl' z hz H locs hP hT hS)
theorem zj_iadd {x y : Int32} (hC : zC p c s m args meth cc nL ret w0 own cA D) (hd : decode cc pc = .ok (.iadd, 1)) (hp : pc + 1 = pc') (k : zJ p l e R s m args below meth c b0 cA D L Q o σ pc' ls (.int (x + y) :: rest)) : zJ p l e R s m args below meth c b0 cA D L Q o σ pc ls (.int y :: .int x :: rest) := by
  subst hp
  exact fun z hz H locs hP hT hS => lv_iadd hC.1.1 hC.1.2.1 hd (k z hz H locs hP hT hS)
theorem zj_isub {x y : Int32} (hC : zC p c s m args meth cc nL ret w0 own cA D) (hd : decode cc pc = .ok (.isub, 1)) (hp : pc + 1 = pc') (k : zJ p l e R s m args below meth c b0 cA D L Q o σ pc' ls (.int (x - y) :: rest)) : zJ p l e R s m args below meth c b0 cA D L Q o σ pc ls (.int y :: .int x :: rest) := by
  subst hp
  exact fun z hz H locs hP hT hS => lv_isub hC.1.1 hC.1.2.1 hd (k z hz H locs hP hT hS)
theorem zj_imul {x y : Int32} (hC : zC p c s m args meth cc nL ret w0 own cA D) (hd : decode cc pc = .ok (.imul, 1)) (hp : pc + 1 = pc') (k : zJ p l e R s m args below meth c b0 cA D L Q o σ pc' ls (.int (x * y) :: rest)) : zJ p l e R s m args below meth c b0 cA D L Q o σ pc ls (.int y :: .int x :: rest) := by
  subst hp
  exact fun z hz H locs hP hT hS => lv_imul hC.1.1 hC.1.2.1 hd (k z hz H locs hP hT hS)
theorem zj_iand {x y : Int32} (hC : zC p c s m args meth cc nL ret w0 own cA D) (hd : decode cc pc = .ok (.iand, 1)) (hp : pc + 1 = pc') (k : zJ p l e R s m args below meth c b0 cA D L Q o σ pc' ls (.int (x &&& y) :: rest)) : zJ p l e R s m args below meth c b0 cA D L Q o σ pc ls (.int y :: .int x :: rest) := by
  subst hp
  exact fun z hz H locs hP hT hS => lv_iand hC.1.1 hC.1.2.1 hd (k z hz H locs hP hT hS)
theorem zj_ior {x y : Int32} (hC : zC p c s m args meth cc nL ret w0 own cA D) (hd : decode cc pc = .ok (.ior, 1)) (hp : pc + 1 = pc') (k : zJ p l e R s m args below meth c b0 cA D L Q o σ pc' ls (.int (x ||| y) :: rest)) : zJ p l e R s m args below meth c b0 cA D L Q o σ pc ls (.int y :: .int x :: rest) := by
  subst hp
  exact fun z hz H locs hP hT hS => lv_ior hC.1.1 hC.1.2.1 hd (k z hz H locs hP hT hS)
theorem zj_ixor {x y : Int32} (hC : zC p c s m args meth cc nL ret w0 own cA D) (hd : decode cc pc = .ok (.ixor, 1)) (hp : pc + 1 = pc') (k : zJ p l e R s m args below meth c b0 cA D L Q o σ pc' ls (.int (x ^^^ y) :: rest)) : zJ p l e R s m args below meth c b0 cA D L Q o σ pc ls (.int y :: .int x :: rest) := by
  subst hp
  exact fun z hz H locs hP hT hS => lv_ixor hC.1.1 hC.1.2.1 hd (k z hz H locs hP hT hS)
theorem zj_ishl {x y : Int32} (hC : zC p c s m args meth cc nL ret w0 own cA D) (hd : decode cc pc = .ok (.ishl, 1)) (hp : pc + 1 = pc') (k : zJ p l e R s m args below meth c b0 cA D L Q o σ pc' ls (.int (x <<< (y &&& 31)) :: rest)) : zJ p l e R s m args below meth c b0 cA D L Q o σ pc ls (.int y :: .int x :: rest) := by
  subst hp
  exact fun z hz H locs hP hT hS => lv_ishl hC.1.1 hC.1.2.1 hd (k z hz H locs hP hT hS)
theorem zj_ishr {x y : Int32} (hC : zC p c s m args meth cc nL ret w0 own cA D) (hd : decode cc pc = .ok (.ishr, 1)) (hp : pc + 1 = pc') (k : zJ p l e R s m args below meth c b0 cA D L Q o σ pc' ls (.int (x >>> (y &&& 31)) :: rest)) : zJ p l e R s m args below meth c b0 cA D L Q o σ pc ls (.int y :: .int x :: rest) := by
  subst hp
  exact fun z hz H locs hP hT hS => lv_ishr hC.1.1 hC.1.2.1 hd (k z hz H locs hP hT hS)
theorem zj_iushr {x y : Int32} (hC : zC p c s m args meth cc nL ret w0 own cA D) (hd : decode cc pc = .ok (.iushr, 1)) (hp : pc + 1 = pc') (k : zJ p l e R s m args below meth c b0 cA D L Q o σ pc' ls (.int ((x.toUInt32 >>> (y.toUInt32 &&& Int32.toUInt32 31)).toInt32) :: rest)) : zJ p l e R s m args below meth c b0 cA D L Q o σ pc ls (.int y :: .int x :: rest) := by
  subst hp
  exact fun z hz H locs hP hT hS => lv_iushr hC.1.1 hC.1.2.1 hd rfl (k z hz H locs hP hT hS)
theorem zj_ladd {x y : Int64} (hC : zC p c s m args meth cc nL ret w0 own cA D) (hd : decode cc pc = .ok (.ladd, 1)) (hp : pc + 1 = pc') (k : zJ p l e R s m args below meth c b0 cA D L Q o σ pc' ls (.long (x + y) :: rest)) : zJ p l e R s m args below meth c b0 cA D L Q o σ pc ls (.long y :: .long x :: rest) := by
  subst hp
  exact fun z hz H locs hP hT hS => lv_ladd hC.1.1 hC.1.2.1 hd (k z hz H locs hP hT hS)
theorem zj_lmul {x y : Int64} (hC : zC p c s m args meth cc nL ret w0 own cA D) (hd : decode cc pc = .ok (.lmul, 1)) (hp : pc + 1 = pc') (k : zJ p l e R s m args below meth c b0 cA D L Q o σ pc' ls (.long (x * y) :: rest)) : zJ p l e R s m args below meth c b0 cA D L Q o σ pc ls (.long y :: .long x :: rest) := by
  subst hp
  exact fun z hz H locs hP hT hS => lv_lmul hC.1.1 hC.1.2.1 hd (k z hz H locs hP hT hS)
theorem zj_lsub {x y : Int64} (hC : zC p c s m args meth cc nL ret w0 own cA D) (hd : decode cc pc = .ok (.lsub, 1)) (hp : pc + 1 = pc') (k : zJ p l e R s m args below meth c b0 cA D L Q o σ pc' ls (.long (x - y) :: rest)) : zJ p l e R s m args below meth c b0 cA D L Q o σ pc ls (.long y :: .long x :: rest) := by
  subst hp
  exact fun z hz H locs hP hT hS => lv_lsub hC.1.1 hC.1.2.1 hd (k z hz H locs hP hT hS)
theorem zj_lcmp {x y : Int64} (hC : zC p c s m args meth cc nL ret w0 own cA D) (hd : decode cc pc = .ok (.lcmp, 1)) (hp : pc + 1 = pc') (k : zJ p l e R s m args below meth c b0 cA D L Q o σ pc' ls (.int (lg_cmp x y) :: rest)) : zJ p l e R s m args below meth c b0 cA D L Q o σ pc ls (.long y :: .long x :: rest) := by
  subst hp
  exact fun z hz H locs hP hT hS => W.lcmp hC.1.1 hC.1.2.1 hd (k z hz H locs hP hT hS)
theorem zj_ineg {x : Int32} (hC : zC p c s m args meth cc nL ret w0 own cA D) (hd : decode cc pc = .ok (.ineg, 1)) (hp : pc + 1 = pc') (k : zJ p l e R s m args below meth c b0 cA D L Q o σ pc' ls (.int (-x) :: rest)) : zJ p l e R s m args below meth c b0 cA D L Q o σ pc ls (.int x :: rest) := by
  subst hp
  exact fun z hz H locs hP hT hS => lv_ineg hC.1.1 hC.1.2.1 hd (k z hz H locs hP hT hS)
theorem zj_i2l {x : Int32} (hC : zC p c s m args meth cc nL ret w0 own cA D) (hd : decode cc pc = .ok (.i2l, 1)) (hp : pc + 1 = pc') (k : zJ p l e R s m args below meth c b0 cA D L Q o σ pc' ls (.long (x.toInt64) :: rest)) : zJ p l e R s m args below meth c b0 cA D L Q o σ pc ls (.int x :: rest) := by
  subst hp
  exact fun z hz H locs hP hT hS => lv_i2l hC.1.1 hC.1.2.1 hd rfl (k z hz H locs hP hT hS)
theorem zj_i2b {x : Int32} (hC : zC p c s m args meth cc nL ret w0 own cA D) (hd : decode cc pc = .ok (.i2b, 1)) (hp : pc + 1 = pc') (k : zJ p l e R s m args below meth c b0 cA D L Q o σ pc' ls (.int (x.toInt8.toInt32) :: rest)) : zJ p l e R s m args below meth c b0 cA D L Q o σ pc ls (.int x :: rest) := by
  subst hp
  exact fun z hz H locs hP hT hS => lv_i2b hC.1.1 hC.1.2.1 hd rfl (k z hz H locs hP hT hS)
theorem zj_i2c {x : Int32} (hC : zC p c s m args meth cc nL ret w0 own cA D) (hd : decode cc pc = .ok (.i2c, 1)) (hp : pc + 1 = pc') (k : zJ p l e R s m args below meth c b0 cA D L Q o σ pc' ls (.int ((x.toUInt32 % 65536).toInt32) :: rest)) : zJ p l e R s m args below meth c b0 cA D L Q o σ pc ls (.int x :: rest) := by
  subst hp
  exact fun z hz H locs hP hT hS => lv_i2c hC.1.1 hC.1.2.1 hd rfl (k z hz H locs hP hT hS)
theorem zj_dup {va : Value} (hC : zC p c s m args meth cc nL ret w0 own cA D) (hd : decode cc pc = .ok (.dup, 1)) (hp : pc + 1 = pc') (hva : va.category = 1) (k : zJ p l e R s m args below meth c b0 cA D L Q o σ pc' ls (va :: va :: rest)) : zJ p l e R s m args below meth c b0 cA D L Q o σ pc ls (va :: rest) := by
  subst hp
  exact fun z hz H locs hP hT hS => lv_dup hC.1.1 hC.1.2.1 hd hva (k z hz H locs hP hT hS)
theorem zj_pop {va : Value} (hC : zC p c s m args meth cc nL ret w0 own cA D) (hd : decode cc pc = .ok (.pop, 1)) (hp : pc + 1 = pc') (hva : va.category = 1) (k : zJ p l e R s m args below meth c b0 cA D L Q o σ pc' ls (rest)) : zJ p l e R s m args below meth c b0 cA D L Q o σ pc ls (va :: rest) := by
  subst hp
  exact fun z hz H locs hP hT hS => lv_pop hC.1.1 hC.1.2.1 hd hva (k z hz H locs hP hT hS)
theorem zj_idiv {x y : Int32} (hC : zC p c s m args meth cc nL ret w0 own cA D) (hd : decode cc pc = .ok (.idiv, 1)) (hp : pc + 1 = pc') (k : ¬ y = 0 → zJ p l e R s m args below meth c b0 cA D L Q o σ pc' ls (.int (x / y) :: rest)) : zJ p l e R s m args below meth c b0 cA D L Q (zV y o) σ pc ls (.int y :: .int x :: rest) := by
  subst hp
  intro z hz H locs hP hT hS
  obtain ⟨h1, h2⟩ := zV_some hz
  exact lv_idiv hC.1.1 hC.1.2.1 hd h1 (k h1 z h2 H locs hP hT hS)
theorem zj_idivK {x y : Int32} (hC : zC p c s m args meth cc nL ret w0 own cA D) (hd : decode cc pc = .ok (.idiv, 1)) (hp : pc + 1 = pc') (hy : ¬ y = 0) (k : zJ p l e R s m args below meth c b0 cA D L Q o σ pc' ls (.int (x / y) :: rest)) : zJ p l e R s m args below meth c b0 cA D L Q o σ pc ls (.int y :: .int x :: rest) := by
  subst hp
  exact fun z hz H locs hP hT hS => lv_idiv hC.1.1 hC.1.2.1 hd hy (k z hz H locs hP hT hS)
theorem zj_irem {x y : Int32} (hC : zC p c s m args meth cc nL ret w0 own cA D) (hd : decode cc pc = .ok (.irem, 1)) (hp : pc + 1 = pc') (k : ¬ y = 0 → zJ p l e R s m args below meth c b0 cA D L Q o σ pc' ls (.int (x - x / y * y) :: rest)) : zJ p l e R s m args below meth c b0 cA D L Q (zV y o) σ pc ls (.int y :: .int x :: rest) := by
  subst hp
  intro z hz H locs hP hT hS
  obtain ⟨h1, h2⟩ := zV_some hz
  exact lv_irem hC.1.1 hC.1.2.1 hd h1 (k h1 z h2 H locs hP hT hS)
theorem zj_iremK {x y : Int32} (hC : zC p c s m args meth cc nL ret w0 own cA D) (hd : decode cc pc = .ok (.irem, 1)) (hp : pc + 1 = pc') (hy : ¬ y = 0) (k : zJ p l e R s m args below meth c b0 cA D L Q o σ pc' ls (.int (x - x / y * y) :: rest)) : zJ p l e R s m args below meth c b0 cA D L Q o σ pc ls (.int y :: .int x :: rest) := by
  subst hp
  exact fun z hz H locs hP hT hS => lv_irem hC.1.1 hC.1.2.1 hd hy (k z hz H locs hP hT hS)
theorem zj_ldiv {x y : Int64} (hC : zC p c s m args meth cc nL ret w0 own cA D) (hd : decode cc pc = .ok (.ldiv, 1)) (hp : pc + 1 = pc') (k : ¬ y = 0 → zJ p l e R s m args below meth c b0 cA D L Q o σ pc' ls (.long (x / y) :: rest)) : zJ p l e R s m args below meth c b0 cA D L Q (zVL y o) σ pc ls (.long y :: .long x :: rest) := by
  subst hp
  intro z hz H locs hP hT hS
  obtain ⟨h1, h2⟩ := zVL_some hz
  exact lv_ldiv hC.1.1 hC.1.2.1 hd h1 (k h1 z h2 H locs hP hT hS)
theorem zj_ldivK {x y : Int64} (hC : zC p c s m args meth cc nL ret w0 own cA D) (hd : decode cc pc = .ok (.ldiv, 1)) (hp : pc + 1 = pc') (hy : ¬ y = 0) (k : zJ p l e R s m args below meth c b0 cA D L Q o σ pc' ls (.long (x / y) :: rest)) : zJ p l e R s m args below meth c b0 cA D L Q o σ pc ls (.long y :: .long x :: rest) := by
  subst hp
  exact fun z hz H locs hP hT hS => lv_ldiv hC.1.1 hC.1.2.1 hd hy (k z hz H locs hP hT hS)
theorem zj_lrem {x y : Int64} (hC : zC p c s m args meth cc nL ret w0 own cA D) (hd : decode cc pc = .ok (.lrem, 1)) (hp : pc + 1 = pc') (k : ¬ y = 0 → zJ p l e R s m args below meth c b0 cA D L Q o σ pc' ls (.long (x - x / y * y) :: rest)) : zJ p l e R s m args below meth c b0 cA D L Q (zVL y o) σ pc ls (.long y :: .long x :: rest) := by
  subst hp
  intro z hz H locs hP hT hS
  obtain ⟨h1, h2⟩ := zVL_some hz
  exact lv_lrem hC.1.1 hC.1.2.1 hd h1 (k h1 z h2 H locs hP hT hS)
theorem zj_lremK {x y : Int64} (hC : zC p c s m args meth cc nL ret w0 own cA D) (hd : decode cc pc = .ok (.lrem, 1)) (hp : pc + 1 = pc') (hy : ¬ y = 0) (k : zJ p l e R s m args below meth c b0 cA D L Q o σ pc' ls (.long (x - x / y * y) :: rest)) : zJ p l e R s m args below meth c b0 cA D L Q o σ pc ls (.long y :: .long x :: rest) := by
  subst hp
  exact fun z hz H locs hP hT hS => lv_lrem hC.1.1 hC.1.2.1 hd hy (k z hz H locs hP hT hS)
theorem zj_if_eq {x : Int32} {off : Int} (hC : zC p c s m args meth cc nL ret w0 own cA D) (hd : decode cc pc = .ok (.ifCond .eq off, 3)) (ht : (pc : Int) + off = (tgt : Int)) (hp : pc + 3 = pc') (kt : x = 0 → zJ p l e R s m args below meth c b0 cA D L Q a σ tgt ls rest) (kf : ¬ x = 0 → zJ p l e R s m args below meth c b0 cA D L Q b σ pc' ls rest) : zJ p l e R s m args below meth c b0 cA D L Q (if x = 0 then a else b) σ pc ls (.int x :: rest) := by
  subst hp
  intro z hz H locs hP hT hS
  exact lv_if_eq hC.1.1 hC.1.2.1 hd ht (fun q => kt q z (by rw [if_pos q] at hz; exact hz) H locs hP hT hS) (fun q => kf q z (by rw [if_neg q] at hz; exact hz) H locs hP hT hS)
theorem zj_icmp_eq {x y : Int32} {off : Int} (hC : zC p c s m args meth cc nL ret w0 own cA D) (hd : decode cc pc = .ok (.if_icmp .eq off, 3)) (ht : (pc : Int) + off = (tgt : Int)) (hp : pc + 3 = pc') (kt : x = y → zJ p l e R s m args below meth c b0 cA D L Q a σ tgt ls rest) (kf : ¬ x = y → zJ p l e R s m args below meth c b0 cA D L Q b σ pc' ls rest) : zJ p l e R s m args below meth c b0 cA D L Q (if x = y then a else b) σ pc ls (.int y :: .int x :: rest) := by
  subst hp
  intro z hz H locs hP hT hS
  exact lv_icmp_eq hC.1.1 hC.1.2.1 hd ht (fun q => kt q z (by rw [if_pos q] at hz; exact hz) H locs hP hT hS) (fun q => kf q z (by rw [if_neg q] at hz; exact hz) H locs hP hT hS)
theorem zj_if_ne {x : Int32} {off : Int} (hC : zC p c s m args meth cc nL ret w0 own cA D) (hd : decode cc pc = .ok (.ifCond .ne off, 3)) (ht : (pc : Int) + off = (tgt : Int)) (hp : pc + 3 = pc') (kt : ¬ x = 0 → zJ p l e R s m args below meth c b0 cA D L Q a σ tgt ls rest) (kf : x = 0 → zJ p l e R s m args below meth c b0 cA D L Q b σ pc' ls rest) : zJ p l e R s m args below meth c b0 cA D L Q (if x = 0 then b else a) σ pc ls (.int x :: rest) := by
  subst hp
  intro z hz H locs hP hT hS
  exact lv_if_ne hC.1.1 hC.1.2.1 hd ht (fun q => kt q z (by rw [if_neg q] at hz; exact hz) H locs hP hT hS) (fun q => kf q z (by rw [if_pos q] at hz; exact hz) H locs hP hT hS)
theorem zj_icmp_ne {x y : Int32} {off : Int} (hC : zC p c s m args meth cc nL ret w0 own cA D) (hd : decode cc pc = .ok (.if_icmp .ne off, 3)) (ht : (pc : Int) + off = (tgt : Int)) (hp : pc + 3 = pc') (kt : ¬ x = y → zJ p l e R s m args below meth c b0 cA D L Q a σ tgt ls rest) (kf : x = y → zJ p l e R s m args below meth c b0 cA D L Q b σ pc' ls rest) : zJ p l e R s m args below meth c b0 cA D L Q (if x = y then b else a) σ pc ls (.int y :: .int x :: rest) := by
  subst hp
  intro z hz H locs hP hT hS
  exact lv_icmp_ne hC.1.1 hC.1.2.1 hd ht (fun q => kt q z (by rw [if_neg q] at hz; exact hz) H locs hP hT hS) (fun q => kf q z (by rw [if_pos q] at hz; exact hz) H locs hP hT hS)
theorem zj_if_lt {x : Int32} {off : Int} (hC : zC p c s m args meth cc nL ret w0 own cA D) (hd : decode cc pc = .ok (.ifCond .lt off, 3)) (ht : (pc : Int) + off = (tgt : Int)) (hp : pc + 3 = pc') (kt : x < 0 → zJ p l e R s m args below meth c b0 cA D L Q a σ tgt ls rest) (kf : ¬ x < 0 → zJ p l e R s m args below meth c b0 cA D L Q b σ pc' ls rest) : zJ p l e R s m args below meth c b0 cA D L Q (if x < 0 then a else b) σ pc ls (.int x :: rest) := by
  subst hp
  intro z hz H locs hP hT hS
  exact lv_if_lt hC.1.1 hC.1.2.1 hd ht (fun q => kt q z (by rw [if_pos q] at hz; exact hz) H locs hP hT hS) (fun q => kf q z (by rw [if_neg q] at hz; exact hz) H locs hP hT hS)
theorem zj_icmp_lt {x y : Int32} {off : Int} (hC : zC p c s m args meth cc nL ret w0 own cA D) (hd : decode cc pc = .ok (.if_icmp .lt off, 3)) (ht : (pc : Int) + off = (tgt : Int)) (hp : pc + 3 = pc') (kt : x < y → zJ p l e R s m args below meth c b0 cA D L Q a σ tgt ls rest) (kf : ¬ x < y → zJ p l e R s m args below meth c b0 cA D L Q b σ pc' ls rest) : zJ p l e R s m args below meth c b0 cA D L Q (if x < y then a else b) σ pc ls (.int y :: .int x :: rest) := by
  subst hp
  intro z hz H locs hP hT hS
  exact lv_icmp_lt hC.1.1 hC.1.2.1 hd ht (fun q => kt q z (by rw [if_pos q] at hz; exact hz) H locs hP hT hS) (fun q => kf q z (by rw [if_neg q] at hz; exact hz) H locs hP hT hS)
theorem zj_if_ge {x : Int32} {off : Int} (hC : zC p c s m args meth cc nL ret w0 own cA D) (hd : decode cc pc = .ok (.ifCond .ge off, 3)) (ht : (pc : Int) + off = (tgt : Int)) (hp : pc + 3 = pc') (kt : 0 ≤ x → zJ p l e R s m args below meth c b0 cA D L Q a σ tgt ls rest) (kf : ¬ 0 ≤ x → zJ p l e R s m args below meth c b0 cA D L Q b σ pc' ls rest) : zJ p l e R s m args below meth c b0 cA D L Q (if 0 ≤ x then a else b) σ pc ls (.int x :: rest) := by
  subst hp
  intro z hz H locs hP hT hS
  exact lv_if_ge hC.1.1 hC.1.2.1 hd ht (fun q => kt q z (by rw [if_pos q] at hz; exact hz) H locs hP hT hS) (fun q => kf q z (by rw [if_neg q] at hz; exact hz) H locs hP hT hS)
theorem zj_icmp_ge {x y : Int32} {off : Int} (hC : zC p c s m args meth cc nL ret w0 own cA D) (hd : decode cc pc = .ok (.if_icmp .ge off, 3)) (ht : (pc : Int) + off = (tgt : Int)) (hp : pc + 3 = pc') (kt : y ≤ x → zJ p l e R s m args below meth c b0 cA D L Q a σ tgt ls rest) (kf : ¬ y ≤ x → zJ p l e R s m args below meth c b0 cA D L Q b σ pc' ls rest) : zJ p l e R s m args below meth c b0 cA D L Q (if y ≤ x then a else b) σ pc ls (.int y :: .int x :: rest) := by
  subst hp
  intro z hz H locs hP hT hS
  exact lv_icmp_ge hC.1.1 hC.1.2.1 hd ht (fun q => kt q z (by rw [if_pos q] at hz; exact hz) H locs hP hT hS) (fun q => kf q z (by rw [if_neg q] at hz; exact hz) H locs hP hT hS)
theorem zj_if_gt {x : Int32} {off : Int} (hC : zC p c s m args meth cc nL ret w0 own cA D) (hd : decode cc pc = .ok (.ifCond .gt off, 3)) (ht : (pc : Int) + off = (tgt : Int)) (hp : pc + 3 = pc') (kt : 0 < x → zJ p l e R s m args below meth c b0 cA D L Q a σ tgt ls rest) (kf : ¬ 0 < x → zJ p l e R s m args below meth c b0 cA D L Q b σ pc' ls rest) : zJ p l e R s m args below meth c b0 cA D L Q (if 0 < x then a else b) σ pc ls (.int x :: rest) := by
  subst hp
  intro z hz H locs hP hT hS
  exact lv_if_gt hC.1.1 hC.1.2.1 hd ht (fun q => kt q z (by rw [if_pos q] at hz; exact hz) H locs hP hT hS) (fun q => kf q z (by rw [if_neg q] at hz; exact hz) H locs hP hT hS)
theorem zj_icmp_gt {x y : Int32} {off : Int} (hC : zC p c s m args meth cc nL ret w0 own cA D) (hd : decode cc pc = .ok (.if_icmp .gt off, 3)) (ht : (pc : Int) + off = (tgt : Int)) (hp : pc + 3 = pc') (kt : y < x → zJ p l e R s m args below meth c b0 cA D L Q a σ tgt ls rest) (kf : ¬ y < x → zJ p l e R s m args below meth c b0 cA D L Q b σ pc' ls rest) : zJ p l e R s m args below meth c b0 cA D L Q (if y < x then a else b) σ pc ls (.int y :: .int x :: rest) := by
  subst hp
  intro z hz H locs hP hT hS
  exact lv_icmp_gt hC.1.1 hC.1.2.1 hd ht (fun q => kt q z (by rw [if_pos q] at hz; exact hz) H locs hP hT hS) (fun q => kf q z (by rw [if_neg q] at hz; exact hz) H locs hP hT hS)
theorem zj_if_le {x : Int32} {off : Int} (hC : zC p c s m args meth cc nL ret w0 own cA D) (hd : decode cc pc = .ok (.ifCond .le off, 3)) (ht : (pc : Int) + off = (tgt : Int)) (hp : pc + 3 = pc') (kt : x ≤ 0 → zJ p l e R s m args below meth c b0 cA D L Q a σ tgt ls rest) (kf : ¬ x ≤ 0 → zJ p l e R s m args below meth c b0 cA D L Q b σ pc' ls rest) : zJ p l e R s m args below meth c b0 cA D L Q (if x ≤ 0 then a else b) σ pc ls (.int x :: rest) := by
  subst hp
  intro z hz H locs hP hT hS
  exact lv_if_le hC.1.1 hC.1.2.1 hd ht (fun q => kt q z (by rw [if_pos q] at hz; exact hz) H locs hP hT hS) (fun q => kf q z (by rw [if_neg q] at hz; exact hz) H locs hP hT hS)
theorem zj_icmp_le {x y : Int32} {off : Int} (hC : zC p c s m args meth cc nL ret w0 own cA D) (hd : decode cc pc = .ok (.if_icmp .le off, 3)) (ht : (pc : Int) + off = (tgt : Int)) (hp : pc + 3 = pc') (kt : x ≤ y → zJ p l e R s m args below meth c b0 cA D L Q a σ tgt ls rest) (kf : ¬ x ≤ y → zJ p l e R s m args below meth c b0 cA D L Q b σ pc' ls rest) : zJ p l e R s m args below meth c b0 cA D L Q (if x ≤ y then a else b) σ pc ls (.int y :: .int x :: rest) := by
  subst hp
  intro z hz H locs hP hT hS
  exact lv_icmp_le hC.1.1 hC.1.2.1 hd ht (fun q => kt q z (by rw [if_pos q] at hz; exact hz) H locs hP hT hS) (fun q => kf q z (by rw [if_neg q] at hz; exact hz) H locs hP hT hS)
theorem zj_goto {off : Int} (hC : zC p c s m args meth cc nL ret w0 own cA D) (hd : decode cc pc = .ok (.goto off, 3)) (ht : (pc : Int) + off = (tgt : Int)) (k : zJ p l e R s m args below meth c b0 cA D L Q o σ tgt ls rest) : zJ p l e R s m args below meth c b0 cA D L Q o σ pc ls rest := fun z hz H locs hP hT hS => lv_goto hC.1.1 hC.1.2.1 hd ht (k z hz H locs hP hT hS)
theorem zj_nmi {x : Int32} {f : Int32 → Option ρ} (k : ∀ y : Int32, zJ p l e R s m args below meth c b0 cA D L Q (f y) σ pc ls (.int y :: rest)) : zJ p l e R s m args below meth c b0 cA D L Q (bnd x f) σ pc ls (.int x :: rest) := k x
theorem zj_nml {x : Int64} {f : Int64 → Option ρ} (k : ∀ y : Int64, zJ p l e R s m args below meth c b0 cA D L Q (f y) σ pc ls (.long y :: rest)) : zJ p l e R s m args below meth c b0 cA D L Q (bnd x f) σ pc ls (.long x :: rest) := k x
theorem zj_ldc {index : Nat} {v : Int32} (hC : zC p c s m args meth cc nL ret w0 own cA D) (hw : Cond.constant own index v ∈ zBig) (hd : decode cc pc = .ok (.ldc index, 2)) (hp : pc + 2 = pc') (k : zJ p l e R s m args below meth c b0 cA D L Q o σ pc' ls (.int v :: rest)) : zJ p l e R s m args below meth c b0 cA D L Q o σ pc ls rest := by
  subst hp
  exact fun z hz H locs hP hT hS => lv_ldc hC.1.1 hC.1.2.1 hC.1.2.2.2.1 (zC_hts (hh := ()) hC hw) hd (k z hz H locs hP hT hS)
theorem zj_ldcw {index : Nat} {v : Int32} (hC : zC p c s m args meth cc nL ret w0 own cA D) (hw : Cond.constant own index v ∈ zBig) (hd : decode cc pc = .ok (.ldc_w index, 3)) (hp : pc + 3 = pc') (k : zJ p l e R s m args below meth c b0 cA D L Q o σ pc' ls (.int v :: rest)) : zJ p l e R s m args below meth c b0 cA D L Q o σ pc ls rest := by
  subst hp
  exact fun z hz H locs hP hT hS => lv_ldcw hC.1.1 hC.1.2.1 hC.1.2.2.2.1 (zC_hts (hh := ()) hC hw) hd (k z hz H locs hP hT hS)
theorem zj_ldc2 {index : Nat} {v : Int64} (hC : zC p c s m args meth cc nL ret w0 own cA D) (hw : Cond.constantLong own index v ∈ zBig) (hd : decode cc pc = .ok (.ldc2_w index, 3)) (hp : pc + 3 = pc') (k : zJ p l e R s m args below meth c b0 cA D L Q o σ pc' ls (.long v :: rest)) : zJ p l e R s m args below meth c b0 cA D L Q o σ pc ls rest := by
  subst hp
  exact fun z hz H locs hP hT hS => lv_ldc2 hC.1.1 hC.1.2.1 hC.1.2.2.2.1 (zC_hts (hh := ()) hC hw) hd (k z hz H locs hP hT hS)
theorem zj_getI {j ci k index : Nat} {C : String} {T : u_T} {N : Nat} {ty : Nat → FieldType} (hC : zC p c s m args meth cc nL ret w0 own cA D) (hj : L[j]? = some (0, ci)) (hf : zFd ci k C T N ty) (hz : zK ci k = none) (hw : Cond.fieldLink own index C (T k).2.1 (T k).2.2.1 ∈ zBig) (hd : decode cc pc = .ok (.getfield index, 3)) (hp : pc + 3 = pc') (kk : zJ p l e R s m args below meth c b0 cA D L Q o σ pc' ls (.int (σ.1 j k) :: rest)) : zJ p l e R s m args below meth c b0 cA D L Q o σ pc ls (.ref (b0 + j) :: rest) := by
  subst hp
  intro z hz0 H locs hP hT hS
  obtain ⟨f1, f2, f3, f4, f5, f6, f7⟩ := hf
  exact va_get hC.1.1 hC.1.2.1 (Ts := zBig) (fun w h => zC_hts (hh := ()) hC h) f2 hC.1.2.2.2.1 hC.2.1 hP j (zW_at hj) f1 k f3 (zC_hts (hh := ()) hC hw) (fun x h => by rw [f5] at h; exact h) (v := .int (σ.1 j k)) (by rw [zL_at (by rw [f4]; exact f3)]; simp [zF, hz]) hd (kk z hz0 H locs hP hT hS)
theorem zj_getR {j ci k index : Nat} {kd : Nat × Nat} {C : String} {T : u_T} {N : Nat} {ty : Nat → FieldType} {f : Nat → Option ρ} (hC : zC p c s m args meth cc nL ret w0 own cA D) (hj : L[j]? = some (0, ci)) (hf : zFd ci k C T N ty) (hz : zK ci k = some kd) (hw : Cond.fieldLink own index C (T k).2.1 (T k).2.2.1 ∈ zBig) (hd : decode cc pc = .ok (.getfield index, 3)) (hp : pc + 3 = pc') (kk : ∀ x : Nat, L[x]? = some kd → zJ p l e R s m args below meth c b0 cA D L Q (f x) σ pc' ls (.ref (b0 + x) :: rest)) : zJ p l e R s m args below meth c b0 cA D L Q (bnd (σ.2 j k) f) σ pc ls (.ref (b0 + j) :: rest) := by
  subst hp
  intro z hz0 H locs hP hT hS
  obtain ⟨f1, f2, f3, f4, f5, f6, f7⟩ := hf
  exact va_get hC.1.1 hC.1.2.1 (Ts := zBig) (fun w h => zC_hts (hh := ()) hC h) f2 hC.1.2.2.2.1 hC.2.1 hP j (zW_at hj) f1 k f3 (zC_hts (hh := ()) hC hw) (fun x h => by rw [f5] at h; exact h) (v := .ref (b0 + σ.2 j k)) (by rw [zL_at (by rw [f4]; exact f3)]; simp [zF, hz, zO_in hT.1 (hT.2.1 j ci hj k kd hz), va_rf]) hd (kk (σ.2 j k) (hT.2.1 j ci hj k kd hz) z hz0 H locs hP hT hS)
theorem zj_putI {j ci k index : Nat} {v : Int32} {C : String} {T : u_T} {N : Nat} {ty : Nat → FieldType} {f : zS → Option ρ} (hC : zC p c s m args meth cc nL ret w0 own cA D) (hj : L[j]? = some (0, ci)) (hf : zFd ci k C T N ty) (hz : zK ci k = none) (hw : Cond.fieldLink own index C (T k).2.1 (T k).2.2.1 ∈ zBig) (hfin : (T k).2.2.2 = false) (hn : narrow (ty k) (.int v) = .int v) (hfit : fits (ty k) (.int v) = true) (hd : decode cc pc = .ok (.putfield index, 3)) (hp : pc + 3 = pc') (kk : ∀ σ' : zS, zJ p l e R s m args below meth c b0 cA D L Q (f σ') σ' pc' ls rest) : zJ p l e R s m args below meth c b0 cA D L Q (bnd (zI σ j k v) f) σ pc ls (.int v :: .ref (b0 + j) :: rest) := by
  subst hp
  intro z hz0 H locs hP hT hS
  obtain ⟨f1, f2, f3, f4, f5, f6, f7⟩ := hf
  refine va_put hC.1.1 hC.1.2.1 (Ts := zBig) (fun w h => zC_hts (hh := ()) hC h) f2 ty f6 f7 hC.1.2.2.2.1 hC.2.1 hP zD hS j (zW_at hj) f1 k f3 (zC_hts (hh := ()) hC hw) (fun x h => by rw [f5] at h; exact h) hfin (f6 k f3) hn hfit (by rw [zL_len, f4]; exact f3) hd (fun H1 locs1 hP1 _ hS1 => ?_)
  refine kk (zI σ j k v) z hz0 H1 locs1 ?_ (zT_I hT (fun n h => by rw [hj] at h; cases h)) hS1
  rw [zL_setI hz] at hP1
  rw [← zW_set (σ := σ) hj (fun i ki hi _ => zE_ne (zI_ne hi) rfl)]
  exact hP1
theorem zj_putR {j ci k index v : Nat} {kd : Nat × Nat} {C : String} {T : u_T} {N : Nat} {ty : Nat → FieldType} {f : zS → Option ρ} (hC : zC p c s m args meth cc nL ret w0 own cA D) (hj : L[j]? = some (0, ci)) (hf : zFd ci k C T N ty) (hz : zK ci k = some kd) (hv : L[v]? = some kd) (hw : Cond.fieldLink own index C (T k).2.1 (T k).2.2.1 ∈ zBig) (hfin : (T k).2.2.2 = false) (hn : ∀ a, narrow (ty k) (.ref a) = .ref a) (hfit : ∀ a, fits (ty k) (.ref a) = true) (hd : decode cc pc = .ok (.putfield index, 3)) (hp : pc + 3 = pc') (kk : ∀ σ' : zS, zJ p l e R s m args below meth c b0 cA D L Q (f σ') σ' pc' ls rest) : zJ p l e R s m args below meth c b0 cA D L Q (bnd (zR σ j k v) f) σ pc ls (.ref (b0 + v) :: .ref (b0 + j) :: rest) := by
  subst hp
  intro z hz0 H locs hP hT hS
  obtain ⟨f1, f2, f3, f4, f5, f6, f7⟩ := hf
  refine va_put hC.1.1 hC.1.2.1 (Ts := zBig) (fun w h => zC_hts (hh := ()) hC h) f2 ty f6 f7 hC.1.2.2.2.1 hC.2.1 hP zD hS j (zW_at hj) f1 k f3 (zC_hts (hh := ()) hC hw) (fun x h => by rw [f5] at h; exact h) hfin (f6 k f3) (hn _) (hfit _) (by rw [zL_len, f4]; exact f3) hd (fun H1 locs1 hP1 _ hS1 => ?_)
  refine kk (zR σ j k v) z hz0 H1 locs1 ?_ (zT_R hT (fun ci' kd' h h' => by rw [hj] at h; cases h; rw [hz] at h'; cases h'; exact hv) (fun t n h => by rw [hj] at h; cases h)) hS1
  rw [zL_setR hz (zO_in hT.1 hv)] at hP1
  rw [← zW_set (σ := σ) (σ' := zR σ j k v) hj (fun i ki hi _ => zE_ne rfl (zR_ne hi))]
  exact hP1
theorem zj_iald {j n : Nat} {i : Int32} (hC : zC p c s m args meth cc nL ret w0 own cA D) (hj : L[j]? = some (1, n)) (hd : decode cc pc = .ok (.iaload, 1)) (hp : pc + 1 = pc') (k : vp_in i n → zJ p l e R s m args below meth c b0 cA D L Q o σ pc' ls (.int (σ.1 j i.toNatClampNeg) :: rest)) : zJ p l e R s m args below meth c b0 cA D L Q (zX i n o) σ pc ls (.int i :: .ref (b0 + j) :: rest) := by
  subst hp
  intro z hz H locs hP hT hS
  obtain ⟨h1, h2⟩ := zX_some hz
  exact va_iald hC.1.1 hC.1.2.1 hC.2.1 hP j 0 (zW_at hj) rfl h1 hd (k h1 z h2 H locs hP hT hS)
theorem zj_bald {j n : Nat} {i : Int32} (hC : zC p c s m args meth cc nL ret w0 own cA D) (hj : L[j]? = some (2, n)) (hd : decode cc pc = .ok (.baload, 1)) (hp : pc + 1 = pc') (k : vp_in i n → zJ p l e R s m args below meth c b0 cA D L Q o σ pc' ls (.int (σ.1 j i.toNatClampNeg) :: rest)) : zJ p l e R s m args below meth c b0 cA D L Q (zX i n o) σ pc ls (.int i :: .ref (b0 + j) :: rest) := by
  subst hp
  intro z hz H locs hP hT hS
  obtain ⟨h1, h2⟩ := zX_some hz
  exact va_bald hC.1.1 hC.1.2.1 hC.2.1 hP j 1 (zW_at hj) rfl h1 hd (k h1 z h2 H locs hP hT hS)
theorem zj_iast {j n : Nat} {i v : Int32} {f : zS → Option ρ} (hC : zC p c s m args meth cc nL ret w0 own cA D) (hj : L[j]? = some (1, n)) (hd : decode cc pc = .ok (.iastore, 1)) (hp : pc + 1 = pc') (k : vp_in i n → ∀ σ' : zS, zJ p l e R s m args below meth c b0 cA D L Q (f σ') σ' pc' ls rest) : zJ p l e R s m args below meth c b0 cA D L Q (zX i n (bnd (zI σ j i.toNatClampNeg v) f)) σ pc ls (.int v :: .int i :: .ref (b0 + j) :: rest) := by
  subst hp
  intro z hz H locs hP hT hS
  obtain ⟨h1, h2⟩ := zX_some hz
  refine va_iast hC.1.1 hC.1.2.1 hC.2.1 hP zD hS j 0 (zW_at hj) rfl h1 hd (fun H1 locs1 hP1 _ hS1 => ?_)
  refine k h1 (zI σ j i.toNatClampNeg v) z h2 H1 locs1 ?_ (zT_I hT (fun n h => by rw [hj] at h; cases h)) hS1
  rw [← zW_set (σ := σ) hj (fun i ki hi _ => zE_ne (zI_ne hi) rfl)]
  have he : upd (σ.1 j) i.toNatClampNeg v = (zI σ j i.toNatClampNeg v).1 j := by
    funext q
    simp [upd, zI]
  rw [he] at hP1
  exact hP1
theorem zj_bast {j n : Nat} {i v : Int32} {f : zS → Option ρ} (hC : zC p c s m args meth cc nL ret w0 own cA D) (hj : L[j]? = some (2, n)) (hd : decode cc pc = .ok (.bastore, 1)) (hp : pc + 1 = pc') (k : vp_in i n → ∀ σ' : zS, zJ p l e R s m args below meth c b0 cA D L Q (f σ') σ' pc' ls rest) : zJ p l e R s m args below meth c b0 cA D L Q (zX i n (bnd (zI σ j i.toNatClampNeg (v.toInt8.toInt32)) f)) σ pc ls (.int v :: .int i :: .ref (b0 + j) :: rest) := by
  subst hp
  intro z hz H locs hP hT hS
  obtain ⟨h1, h2⟩ := zX_some hz
  refine va_bast hC.1.1 hC.1.2.1 hC.2.1 hP zD hS j 1 (zW_at hj) rfl h1 hd (fun H1 locs1 hP1 _ hS1 => ?_)
  refine k h1 (zI σ j i.toNatClampNeg (v.toInt8.toInt32)) z h2 H1 locs1 ?_ (zT_I hT (fun n h => pk_fb v)) hS1
  rw [← zW_set (σ := σ) hj (fun i ki hi _ => zE_ne (zI_ne hi) rfl)]
  have he : upd (σ.1 j) i.toNatClampNeg (vp_nar .byte v) = (zI σ j i.toNatClampNeg (v.toInt8.toInt32)).1 j := by
    funext q
    simp [upd, zI, vp_nar_byte]
  rw [he] at hP1
  exact hP1
theorem zj_alen {j n t : Nat} {v : Int32} (hC : zC p c s m args meth cc nL ret w0 own cA D) (hj : L[j]? = some (t, n)) (ht : t = 1 ∨ t = 2 ∨ t = 3 ∨ t = 4) (hv : Int32.ofNat n = v) (hd : decode cc pc = .ok (.arraylength, 1)) (hp : pc + 1 = pc') (k : zJ p l e R s m args below meth c b0 cA D L Q o σ pc' ls (.int v :: rest)) : zJ p l e R s m args below meth c b0 cA D L Q o σ pc ls (.ref (b0 + j) :: rest) := by
  subst hp
  intro z hz H locs hP hT hS
  rcases ht with rfl | rfl | rfl | rfl
  · exact va_alen hC.1.1 hC.1.2.1 hC.2.1 hP j 0 (zW_at hj) rfl hv hd (k z hz H locs hP hT hS)
  · exact va_alen hC.1.1 hC.1.2.1 hC.2.1 hP j 1 (zW_at hj) rfl hv hd (k z hz H locs hP hT hS)
  · exact va_alen hC.1.1 hC.1.2.1 hC.2.1 hP j 2 (zW_at hj) rfl hv hd (k z hz H locs hP hT hS)
  · exact va_alen hC.1.1 hC.1.2.1 hC.2.1 hP j 3 (zW_at hj) rfl hv hd (k z hz H locs hP hT hS)
theorem zj_aald {j n t : Nat} {i : Int32} {f : Nat → Option ρ} (hC : zC p c s m args meth cc nL ret w0 own cA D) (hj : L[j]? = some (t + 3, n)) (ht : t = 0 ∨ t = 1) (hd : decode cc pc = .ok (.aaload, 1)) (hp : pc + 1 = pc') (k : vp_in i n → ∀ x : Nat, L[x]? = some (0, t + 3) → zJ p l e R s m args below meth c b0 cA D L Q (f x) σ pc' ls (.ref (b0 + x) :: rest)) : zJ p l e R s m args below meth c b0 cA D L Q (zX i n (bnd (σ.2 j i.toNatClampNeg) f)) σ pc ls (.int i :: .ref (b0 + j) :: rest) := by
  subst hp
  intro z hz H locs hP hT hS
  obtain ⟨h1, h2⟩ := zX_some hz
  have hx : L[σ.2 j i.toNatClampNeg]? = some (0, t + 3) := hT.2.2.1 j t n hj _ (Nat.not_le.mp fun q => h1 (Or.inr q))
  have hr : va_rf (zO b0 (σ.2 j i.toNatClampNeg)) = .ref (b0 + σ.2 j i.toNatClampNeg) := by rw [zO_in hT.1 hx]; rfl
  rcases ht with rfl | rfl
  · exact va_aldq hC.1.1 hC.1.2.1 hC.2.1 hP j 2 (zW_at hj) rfl h1 hd (by rw [hr]; exact k h1 _ hx z h2 H locs hP hT hS)
  · exact va_aldq hC.1.1 hC.1.2.1 hC.2.1 hP j 3 (zW_at hj) rfl h1 hd (by rw [hr]; exact k h1 _ hx z h2 H locs hP hT hS)
theorem zj_aast {j n t v : Nat} {i : Int32} {f : zS → Option ρ} (hC : zC p c s m args meth cc nL ret w0 own cA D) (hj : L[j]? = some (t + 3, n)) (ht : t = 0 ∨ t = 1) (hv : L[v]? = some (0, t + 3)) (hd : decode cc pc = .ok (.aastore, 1)) (hp : pc + 1 = pc') (k : vp_in i n → ∀ σ' : zS, zJ p l e R s m args below meth c b0 cA D L Q (f σ') σ' pc' ls rest) : zJ p l e R s m args below meth c b0 cA D L Q (zX i n (bnd (zR σ j i.toNatClampNeg v) f)) σ pc ls (.ref (b0 + v) :: .int i :: .ref (b0 + j) :: rest) := by
  subst hp
  intro z hz H locs hP hT hS
  obtain ⟨h1, h2⟩ := zX_some hz
  have he : (fun q => va_up (fun x => zO b0 (σ.2 j x)) i.toNatClampNeg (some (b0 + v)) q) = fun x => zO b0 ((zR σ j i.toNatClampNeg v).2 j x) := by
    funext q
    by_cases hq : q = i.toNatClampNeg <;> simp [va_up, zR, hq, zO_in hT.1 hv]
  have kk : ∀ (H1 : Heap) (locs1 : List Loc), va_P D vwCl ((zW b0 cA L σ).set j (b0 + j, .inl (cA (t + 3), n, .inr (.inr (.inr (.inr (va_up (fun x => zO b0 (σ.2 j x)) i.toNatClampNeg (some (b0 + v))))))))) H1 → va_S (zA b0 L) s.heap H1 locs1 → W p l e R s m args below meth c H1 locs1 0 0 (Q z) (F0 m (pc + 1) ls rest) := by
    intro H1 locs1 hP1 hS1
    refine k h1 (zR σ j i.toNatClampNeg v) z h2 H1 locs1 ?_ (zT_R hT (fun ci kd h _ => by rw [hj] at h; cases h) (fun t' n' h => by rw [hj] at h; cases h; exact hv)) hS1
    rw [← zW_set (σ := σ) (σ' := zR σ j i.toNatClampNeg v) hj (fun i ki hi _ => zE_ne rfl (zR_ne hi)), zE_r, ← he]
    exact hP1
  rcases ht with rfl | rfl
  · exact va_astq hC.1.1 hC.1.2.1 hC.2.1 hP zD hS j 2 v 3 (zW_at hj) (r := (RX3, TX3, 5)) rfl (zW_at hv) rfl h1 hd (fun H1 locs1 hP1 _ hS1 => kk H1 locs1 hP1 hS1)
  · exact va_astq hC.1.1 hC.1.2.1 hC.2.1 hP zD hS j 3 v 4 (zW_at hj) (r := (RX4, TX4, 3)) rfl (zW_at hv) rfl h1 hd (fun H1 locs1 hP1 _ hS1 => kk H1 locs1 hP1 hS1)
theorem zj_copy {j0 j1 n0 n1 index : Nat} {sp dp n : Int32} {f : zS → Option ρ} (hC : zC p c s m args meth cc nL ret w0 own cA D) (h0 : L[j0]? = some (1, n0)) (hj : L[j1]? = some (1, n1)) (hw : Cond.methodLink own index arraycopyName ∈ zBig) (hw2 : Cond.native arraycopyName ∈ zBig) (hw3 : Cond.static arraycopyName ∈ zBig) (hw4 : Cond.initialized "java/lang/System" ∈ zBig) (hls : ls.size = nL)
    (g1 : ¬ sp < 0) (g2 : ¬ dp < 0) (g3 : ¬ n < 0) (g4 : sp.toNatClampNeg + n.toNatClampNeg ≤ n0) (g5 : dp.toNatClampNeg + n.toNatClampNeg ≤ n1) (hfr : 1 ≤ R.frames) (hlo : (rest.map fun v => v.category).sum + (nativeFrameWords "java/lang/System" "arraycopy" 5 + 11) ≤ R.locals)
    (hd : decode cc pc = .ok (.invokestatic index, 3)) (hp : pc + 3 = pc') (k : ∀ σ' : zS, zJ p l e R s m args below meth c b0 cA D L Q (f σ') σ' pc' ls rest) : zJ p l e R s m args below meth c b0 cA D L Q (bnd (zY σ j0 j1 sp.toNatClampNeg dp.toNatClampNeg n.toNatClampNeg) f) σ pc ls (.int n :: .int dp :: .ref (b0 + j1) :: .int sp :: .ref (b0 + j0) :: rest) := by
  subst hp
  intro z hz H locs hP hT hS
  refine va_copyi hC.1.1 hC.1.2.1 (by rw [hls]; exact hC.1.2.2.1) hC.1.2.2.2.1 (zC_hts (hh := ()) hC hw) (zC_hts (hh := ()) hC hw2) (zC_hts (hh := ()) hC hw3) (zC_hts (hh := ()) hC hw4) hC.2.1 hP zD hS j0 j1 0 0 (zW_at h0) (zW_at hj) rfl rfl rfl g1 g2 g3 g4 g5 (fun _ _ => rfl) hfr hlo hd (fun H1 locs1 hP1 _ hS1 => ?_)
  refine k (zY σ j0 j1 sp.toNatClampNeg dp.toNatClampNeg n.toNatClampNeg) z hz H1 locs1 ?_ ⟨hT.1, hT.2.1, hT.2.2.1, fun i n hi b => ?_⟩ hS1
  · rw [← zW_set (σ := σ) hj (fun i ki hi _ => zE_ne (zY_ne hi) rfl)]
    have he : va_cpy (σ.1 j0) (σ.1 j1) sp.toNatClampNeg dp.toNatClampNeg n.toNatClampNeg = (zY σ j0 j1 sp.toNatClampNeg dp.toNatClampNeg n.toNatClampNeg).1 j1 := by
      funext q
      simp [zY]
    rw [he] at hP1
    exact hP1
  · by_cases hq : i = j1
    · rw [hq, hj] at hi
      cases hi
    · rw [show (zY σ j0 j1 _ _ _).1 i b = σ.1 i b from congrFun (zY_ne hq) b]
      exact hT.2.2.2 i n hi b
theorem zj_split {q : Prop} {hq : Decidable q} (kt : q → zJ p l e R s m args below meth c b0 cA D L Q a σ pc ls st) (kf : ¬ q → zJ p l e R s m args below meth c b0 cA D L Q b σ pc ls st) : zJ p l e R s m args below meth c b0 cA D L Q (@ite (Option ρ) q hq a b) σ pc ls st := by
  intro z hz
  by_cases h : q
  · rw [if_pos h] at hz
    exact kt h z hz
  · rw [if_neg h] at hz
    exact kf h z hz
theorem zj_tabOut {dflt lo hi : Int} {offs : Array Int} {len : Nat} {x : Int32} (hC : zC p c s m args meth cc nL ret w0 own cA D) (hd : decode cc pc = .ok (.tableswitch dflt lo hi offs, len)) (h : x.toInt < lo ∨ hi < x.toInt) (ht : (pc : Int) + dflt = (tgt : Int)) (k : zJ p l e R s m args below meth c b0 cA D L Q o σ tgt ls rest) : zJ p l e R s m args below meth c b0 cA D L Q o σ pc ls (.int x :: rest) := fun z hz H locs hP hT hS => lv_tableOut hC.1.1 hC.1.2.1 hd h ht (k z hz H locs hP hT hS)
theorem zj_tabIn {dflt lo hi : Int} {offs : Array Int} {len : Nat} {x : Int32} {off : Int} (v : Int) (hC : zC p c s m args meth cc nL ret w0 own cA D) (hd : decode cc pc = .ok (.tableswitch dflt lo hi offs, len)) (hv : x.toInt = v) (h1 : ¬ v < lo) (h2 : ¬ hi < v) (ho : offs[(v - lo).toNat]? = some off) (ht : (pc : Int) + off = (tgt : Int)) (k : zJ p l e R s m args below meth c b0 cA D L Q o σ tgt ls rest) : zJ p l e R s m args below meth c b0 cA D L Q o σ pc ls (.int x :: rest) := by
  subst hv
  exact fun z hz H locs hP hT hS => lv_tableIn hC.1.1 hC.1.2.1 hd h1 h2 ho ht (k z hz H locs hP hT hS)
theorem zj_tabD {dflt lo hi : Int} {offs : Array Int} {len : Nat} {x : Int32} (ks : List Nat) (n : Nat) (hC : zC p c s m args meth cc nL ret w0 own cA D) (hd : decode cc pc = .ok (.tableswitch dflt lo hi offs, len)) (hn : lo + (n : Int) = hi + 1) (hk : ∀ j, j < n → j ∉ ks → offs[j]? = some dflt) (hx : ∀ j ∈ ks, ¬ x.toInt = lo + (j : Int)) (ht : (pc : Int) + dflt = (tgt : Int)) (k : zJ p l e R s m args below meth c b0 cA D L Q o σ tgt ls rest) : zJ p l e R s m args below meth c b0 cA D L Q o σ pc ls (.int x :: rest) := by
  by_cases h : x.toInt < lo ∨ hi < x.toInt
  · exact zj_tabOut hC hd h ht k
  · have h1 : ¬ x.toInt < lo := fun q => h (Or.inl q)
    have h2 : ¬ hi < x.toInt := fun q => h (Or.inr q)
    refine zj_tabIn x.toInt hC hd rfl h1 h2 (hk _ (by omega) (fun q => hx _ q (by omega))) ht k
theorem zj_look {dflt : Int} {ps : Array (Int × Int)} {len : Nat} {x : Int32} {off : Int} (hC : zC p c s m args meth cc nL ret w0 own cA D) (hd : decode cc pc = .ok (.lookupswitch dflt ps, len)) (hs : (ps.toList.zip (ps.toList.drop 1)).all (fun (a, next) => a.1 < next.1) = true) (ho : Op.lookupswitch.offset ps.toList dflt x.toInt = off) (ht : (pc : Int) + off = (tgt : Int)) (k : zJ p l e R s m args below meth c b0 cA D L Q o σ tgt ls rest) : zJ p l e R s m args below meth c b0 cA D L Q o σ pc ls (.int x :: rest) := fun z hz H locs hP hT hS => lv_lookup hC.1.1 hC.1.2.1 hd hs ho ht (k z hz H locs hP hT hS)
theorem zj_iret {v : Int32} (hC : zC p c s m args meth cc nL (some .int) w0 own cA D) (hd : decode cc pc = .ok (.ireturn, 1)) : zJ p l e R s m args below meth c b0 cA D L (fun z => MQ below (va_Qi (fun (r : Int32) (u : zS) => (r, u) = z) (zB b0 cA D L) (zA b0 L)) args s 0 0 (zA b0 L)) (some (v, σ)) σ pc ls [.int v] := by
  intro z hz H locs hP hT hS
  cases hz
  exact W.iret hC.1.1 hC.1.2.1 hC.2.2.1 (fun t ht hW => ⟨⟨v, σ, rfl, rfl, by rw [ht]; exact hP, hT, va_K.moved hW.alike hC.2.1⟩, hS.F ht⟩) hS.2.2 hd hC.2.2.2
theorem zj_zret {v : Int32} (hC : zC p c s m args meth cc nL (some .boolean) w0 own cA D) (hv : nB v) (hd : decode cc pc = .ok (.ireturn, 1)) : zJ p l e R s m args below meth c b0 cA D L (fun z => MQ below (va_Qi (fun (r : Int32) (u : zS) => (r, u) = z ∧ nB r) (zB b0 cA D L) (zA b0 L)) args s 0 0 (zA b0 L)) (some (v, σ)) σ pc ls [.int v] := by
  intro z hz H locs hP hT hS
  cases hz
  exact W.zret hC.1.1 hC.1.2.1 hC.2.2.1 hv (fun t ht hW => ⟨⟨v, σ, rfl, ⟨rfl, hv⟩, by rw [ht]; exact hP, hT, va_K.moved hW.alike hC.2.1⟩, hS.F ht⟩) hS.2.2 hd hC.2.2.2
theorem zj_lret {v : Int64} (hC : zC p c s m args meth cc nL (some .long) w0 own cA D) (hd : decode cc pc = .ok (.lreturn, 1)) : zJ p l e R s m args below meth c b0 cA D L (fun z => MQ below (va_Ql (fun (r : Int64) (u : zS) => (r, u) = z) (zB b0 cA D L) (zA b0 L)) args s 0 0 (zA b0 L)) (some (v, σ)) σ pc ls [.long v] := by
  intro z hz H locs hP hT hS
  cases hz
  exact W.lret hC.1.1 hC.1.2.1 hC.2.2.1 (fun t ht hW => ⟨⟨v, σ, rfl, rfl, by rw [ht]; exact hP, hT, va_K.moved hW.alike hC.2.1⟩, hS.F ht⟩) hS.2.2 hd hC.2.2.2
theorem zj_vret (hC : zC p c s m args meth cc nL none w0 own cA D) (hd : decode cc pc = .ok (.return_, 1)) : zJ p l e R s m args below meth c b0 cA D L (fun z => MQ below (va_Qv (fun (u : zS) => ((), u) = z) (zB b0 cA D L) (zA b0 L)) args s 0 0 (zA b0 L)) (some ((), σ)) σ pc ls [] := by
  intro z hz H locs hP hT hS
  cases hz
  exact W.vret hC.1.1 hC.1.2.1 hC.2.2.1 (fun t ht hW => ⟨⟨σ, rfl, rfl, by rw [ht]; exact hP, hT, va_K.moved hW.alike hC.2.1⟩, hS.F ht⟩) hS.2.2 hd hC.2.2.2
theorem zj_aret {v : Nat} {kd : Nat × Nat} {rt : FieldType} (hrt : (∃ n, rt = .object n) ∨ ∃ t, rt = .array t) (hC : zC p c s m args meth cc nL (some rt) w0 own cA D) (hv : L[v]? = some kd) (hd : decode cc pc = .ok (.areturn, 1)) : zJ p l e R s m args below meth c b0 cA D L (fun z => MQ below (va_Qr (fun (u : Nat × zS) => u = z) (fun u a t => a = b0 + u.1 ∧ L[u.1]? = some kd ∧ zB b0 cA D L u.2 t) (zA b0 L)) args s 0 0 (zA b0 L)) (some (v, σ)) σ pc ls [.ref (b0 + v)] := by
  intro z hz H locs hP hT hS
  cases hz
  exact W.aret hC.1.1 hC.1.2.1 hC.2.2.1 hrt (Or.inr ⟨_, rfl⟩) (fun t ht hW => ⟨⟨(v, σ), b0 + v, rfl, rfl, rfl, hv, by rw [ht]; exact hP, hT, va_K.moved hW.alike hC.2.1⟩, hS.F ht⟩) hS.2.2 hd hC.2.2.2
end ZJ
/-- a method's contract: if its reckoning o comes to z, the method does -/
def zMi (l : Launch) (b0 : Nat) (cA : Nat → ClassId) (D : va_G) (L : List (Nat × Nat)) (y : MethodName) (w0 : Cond) (rm : Room) (av : List Value) (σ : zS) (o : Option (Int32 × zS)) : Prop :=
  ∀ z, o = some z → Met l y (w0 :: zBig) rm (va_Pc av (zB b0 cA D L σ)) (va_Qi (fun (r : Int32) (u : zS) => (r, u) = z) (zB b0 cA D L) (zA b0 L)) 0 0 (zA b0 L)
theorem zMi_of {l : Launch} {b0 : Nat} {cA : Nat → ClassId} {D : va_G} {L : List (Nat × Nat)} {y : MethodName} {cc : ByteArray} {maxL : Nat} {rm : Room} {av : List Value} {σ : zS} {o : Option (Int32 × zS)} (hy : plainName y.cls = true) (hlen : (lg_sl av).length ≤ maxL)
    (body : ∀ (p : Program) (e : Env) (s : State) (m : MethodId) (below : List Frame) (meth : Method) (c : Code) (ls : Array Slot), zC p c s m av.toArray meth cc maxL (some .int) (Cond.code y cc maxL (some .int)) y.cls cA D → lv_has ls maxL (lv_args 0 av) → zJ p l e rm s m av.toArray below meth c b0 cA D L (fun z => MQ below (va_Qi (fun (r : Int32) (u : zS) => (r, u) = z) (zB b0 cA D L) (zA b0 L)) av.toArray s 0 0 (zA b0 L)) o σ 0 ls []) :
    zMi l b0 cA D L y (Cond.code y cc maxL (some .int)) rm av σ o := by
  intro z hz
  refine Met.ofW (cc := cc) (maxL := maxL) (ret := some .int) hy rfl ?_
  intro p e s m args below meth c s₁ B hml hv
  obtain ⟨rfl, hP, hT, hK⟩ := hv
  rw [lg_entry_eq]
  exact body p e s m below meth c _ ⟨⟨B.exec, B.bytes, hml, findClass_of_methodNamed B.named, atoms_spec (ws := Cond.code y cc maxL (some .int) :: zBig) B.pre⟩, hK, B.returns, B.notSynchronized⟩ (lv_entry av hlen) z hz s.heap [] hP hT va_S.rf
/-- a method's contract: if its reckoning o comes to z, the method does -/
def zMz (l : Launch) (b0 : Nat) (cA : Nat → ClassId) (D : va_G) (L : List (Nat × Nat)) (y : MethodName) (w0 : Cond) (rm : Room) (av : List Value) (σ : zS) (o : Option (Int32 × zS)) : Prop :=
  ∀ z, o = some z → Met l y (w0 :: zBig) rm (va_Pc av (zB b0 cA D L σ)) (va_Qi (fun (r : Int32) (u : zS) => (r, u) = z ∧ nB r) (zB b0 cA D L) (zA b0 L)) 0 0 (zA b0 L)
theorem zMz_of {l : Launch} {b0 : Nat} {cA : Nat → ClassId} {D : va_G} {L : List (Nat × Nat)} {y : MethodName} {cc : ByteArray} {maxL : Nat} {rm : Room} {av : List Value} {σ : zS} {o : Option (Int32 × zS)} (hy : plainName y.cls = true) (hlen : (lg_sl av).length ≤ maxL)
    (body : ∀ (p : Program) (e : Env) (s : State) (m : MethodId) (below : List Frame) (meth : Method) (c : Code) (ls : Array Slot), zC p c s m av.toArray meth cc maxL (some .boolean) (Cond.code y cc maxL (some .boolean)) y.cls cA D → lv_has ls maxL (lv_args 0 av) → zJ p l e rm s m av.toArray below meth c b0 cA D L (fun z => MQ below (va_Qi (fun (r : Int32) (u : zS) => (r, u) = z ∧ nB r) (zB b0 cA D L) (zA b0 L)) av.toArray s 0 0 (zA b0 L)) o σ 0 ls []) :
    zMz l b0 cA D L y (Cond.code y cc maxL (some .boolean)) rm av σ o := by
  intro z hz
  refine Met.ofW (cc := cc) (maxL := maxL) (ret := some .boolean) hy rfl ?_
  intro p e s m args below meth c s₁ B hml hv
  obtain ⟨rfl, hP, hT, hK⟩ := hv
  rw [lg_entry_eq]
  exact body p e s m below meth c _ ⟨⟨B.exec, B.bytes, hml, findClass_of_methodNamed B.named, atoms_spec (ws := Cond.code y cc maxL (some .boolean) :: zBig) B.pre⟩, hK, B.returns, B.notSynchronized⟩ (lv_entry av hlen) z hz s.heap [] hP hT va_S.rf
/-- a method's contract: if its reckoning o comes to z, the method does -/
def zMl (l : Launch) (b0 : Nat) (cA : Nat → ClassId) (D : va_G) (L : List (Nat × Nat)) (y : MethodName) (w0 : Cond) (rm : Room) (av : List Value) (σ : zS) (o : Option (Int64 × zS)) : Prop :=
  ∀ z, o = some z → Met l y (w0 :: zBig) rm (va_Pc av (zB b0 cA D L σ)) (va_Ql (fun (r : Int64) (u : zS) => (r, u) = z) (zB b0 cA D L) (zA b0 L)) 0 0 (zA b0 L)
theorem zMl_of {l : Launch} {b0 : Nat} {cA : Nat → ClassId} {D : va_G} {L : List (Nat × Nat)} {y : MethodName} {cc : ByteArray} {maxL : Nat} {rm : Room} {av : List Value} {σ : zS} {o : Option (Int64 × zS)} (hy : plainName y.cls = true) (hlen : (lg_sl av).length ≤ maxL)
    (body : ∀ (p : Program) (e : Env) (s : State) (m : MethodId) (below : List Frame) (meth : Method) (c : Code) (ls : Array Slot), zC p c s m av.toArray meth cc maxL (some .long) (Cond.code y cc maxL (some .long)) y.cls cA D → lv_has ls maxL (lv_args 0 av) → zJ p l e rm s m av.toArray below meth c b0 cA D L (fun z => MQ below (va_Ql (fun (r : Int64) (u : zS) => (r, u) = z) (zB b0 cA D L) (zA b0 L)) av.toArray s 0 0 (zA b0 L)) o σ 0 ls []) :
    zMl l b0 cA D L y (Cond.code y cc maxL (some .long)) rm av σ o := by
  intro z hz
  refine Met.ofW (cc := cc) (maxL := maxL) (ret := some .long) hy rfl ?_
  intro p e s m args below meth c s₁ B hml hv
  obtain ⟨rfl, hP, hT, hK⟩ := hv
  rw [lg_entry_eq]
  exact body p e s m below meth c _ ⟨⟨B.exec, B.bytes, hml, findClass_of_methodNamed B.named, atoms_spec (ws := Cond.code y cc maxL (some .long) :: zBig) B.pre⟩, hK, B.returns, B.notSynchronized⟩ (lv_entry av hlen) z hz s.heap [] hP hT va_S.rf
/-- a method's contract: if its reckoning o comes to z, the method does -/
def zMv (l : Launch) (b0 : Nat) (cA : Nat → ClassId) (D : va_G) (L : List (Nat × Nat)) (y : MethodName) (w0 : Cond) (rm : Room) (av : List Value) (σ : zS) (o : Option (Unit × zS)) : Prop :=
  ∀ z, o = some z → Met l y (w0 :: zBig) rm (va_Pc av (zB b0 cA D L σ)) (va_Qv (fun (u : zS) => ((), u) = z) (zB b0 cA D L) (zA b0 L)) 0 0 (zA b0 L)
theorem zMv_of {l : Launch} {b0 : Nat} {cA : Nat → ClassId} {D : va_G} {L : List (Nat × Nat)} {y : MethodName} {cc : ByteArray} {maxL : Nat} {rm : Room} {av : List Value} {σ : zS} {o : Option (Unit × zS)} (hy : plainName y.cls = true) (hlen : (lg_sl av).length ≤ maxL)
    (body : ∀ (p : Program) (e : Env) (s : State) (m : MethodId) (below : List Frame) (meth : Method) (c : Code) (ls : Array Slot), zC p c s m av.toArray meth cc maxL (none) (Cond.code y cc maxL (none)) y.cls cA D → lv_has ls maxL (lv_args 0 av) → zJ p l e rm s m av.toArray below meth c b0 cA D L (fun z => MQ below (va_Qv (fun (u : zS) => ((), u) = z) (zB b0 cA D L) (zA b0 L)) av.toArray s 0 0 (zA b0 L)) o σ 0 ls []) :
    zMv l b0 cA D L y (Cond.code y cc maxL (none)) rm av σ o := by
  intro z hz
  refine Met.ofW (cc := cc) (maxL := maxL) (ret := none) hy rfl ?_
  intro p e s m args below meth c s₁ B hml hv
  obtain ⟨rfl, hP, hT, hK⟩ := hv
  rw [lg_entry_eq]
  exact body p e s m below meth c _ ⟨⟨B.exec, B.bytes, hml, findClass_of_methodNamed B.named, atoms_spec (ws := Cond.code y cc maxL (none) :: zBig) B.pre⟩, hK, B.returns, B.notSynchronized⟩ (lv_entry av hlen) z hz s.heap [] hP hT va_S.rf
/-- a method's contract: if its reckoning o comes to z, the method does -/
def zMr (l : Launch) (b0 : Nat) (cA : Nat → ClassId) (D : va_G) (L : List (Nat × Nat)) (kd : Nat × Nat) (y : MethodName) (w0 : Cond) (rm : Room) (av : List Value) (σ : zS) (o : Option (Nat × zS)) : Prop :=
  ∀ z, o = some z → Met l y (w0 :: zBig) rm (va_Pc av (zB b0 cA D L σ)) (va_Qr (fun (u : Nat × zS) => u = z) (fun u a t => a = b0 + u.1 ∧ L[u.1]? = some kd ∧ zB b0 cA D L u.2 t) (zA b0 L)) 0 0 (zA b0 L)
theorem zMr_of {l : Launch} {b0 : Nat} {cA : Nat → ClassId} {D : va_G} {L : List (Nat × Nat)} {kd : Nat × Nat} {y : MethodName} {cc : ByteArray} {maxL : Nat} {rt : FieldType} {rm : Room} {av : List Value} {σ : zS} {o : Option (Nat × zS)} (hy : plainName y.cls = true) (hlen : (lg_sl av).length ≤ maxL)
    (body : ∀ (p : Program) (e : Env) (s : State) (m : MethodId) (below : List Frame) (meth : Method) (c : Code) (ls : Array Slot), zC p c s m av.toArray meth cc maxL (some rt) (Cond.code y cc maxL (some rt)) y.cls cA D → lv_has ls maxL (lv_args 0 av) → zJ p l e rm s m av.toArray below meth c b0 cA D L (fun z => MQ below (va_Qr (fun (u : Nat × zS) => u = z) (fun u a t => a = b0 + u.1 ∧ L[u.1]? = some kd ∧ zB b0 cA D L u.2 t) (zA b0 L)) av.toArray s 0 0 (zA b0 L)) o σ 0 ls []) :
    zMr l b0 cA D L kd y (Cond.code y cc maxL (some rt)) rm av σ o := by
  intro z hz
  refine Met.ofW (cc := cc) (maxL := maxL) (ret := some rt) hy rfl ?_
  intro p e s m args below meth c s₁ B hml hv
  obtain ⟨rfl, hP, hT, hK⟩ := hv
  rw [lg_entry_eq]
  exact body p e s m below meth c _ ⟨⟨B.exec, B.bytes, hml, findClass_of_methodNamed B.named, atoms_spec (ws := Cond.code y cc maxL (some rt) :: zBig) B.pre⟩, hK, B.returns, B.notSynchronized⟩ (lv_entry av hlen) z hz s.heap [] hP hT va_S.rf
theorem z_goodIn {w0 w1 : Cond} (h : w1 ∈ zBig) : GoodIn (w0 :: zBig) (w1 :: zBig) := by
  intro w hw
  rcases List.mem_cons.mp hw with rfl | hw
  · exact ⟨List.mem_cons_of_mem _ h, zBig_good h⟩
  · exact ⟨List.mem_cons_of_mem _ hw, zBig_good hw⟩
theorem z_blind {b0 : Nat} {cA : Nat → ClassId} {D : va_G} {L : List (Nat × Nat)} {σ : zS} {av : List Value} : FrameBlind (va_Pc av (zB b0 cA D L σ)) := fun a U g mk q => by
  obtain ⟨q0, qP, qT, qK⟩ := q
  exact ⟨q0, qP, qT, va_K.moved (u := U) (U := U.calling g mk a) (Vm.Alike.refl U.vm) qK⟩
section ZC
variable {p : Program} {l : Launch} {e : Env} {R : Room} {s : State} {m : MethodId} {args : Array Value} {below : List Frame} {meth : Method} {c : Code} {b0 : Nat} {cA : Nat → ClassId} {D : va_G} {L : List (Nat × Nat)} {ρ : Type} {Q : ρ → State → Prop} {σ : zS} {pc pc' : Nat} {ls : Array Slot} {st rest : List Value} {cc : ByteArray} {nL : Nat} {ret : Option FieldType} {w0 : Cond} {own : String}
theorem zj_calliV {y : MethodName} {bytes : ByteArray} {maxL index j ci : Nat} {rt : Option FieldType} {C : String} {T : u_T} {N : Nat} {rm : Room} {As : List Value} {nA : Nat} {o1 : Option (Int32 × zS)} {g : Int32 → zS → Option ρ} (hC : zC p c s m args meth cc nL ret w0 own cA D) (hM : zMi l b0 cA D L y (Cond.code y bytes maxL rt) rm (.ref (b0 + j) :: As) σ o1) (hj : L[j]? = some (0, ci)) (hci : vwCl[ci]? = some (C, T, N)) (hcy : Cond.code y bytes maxL rt ∈ zBig) (hl : Cond.methodLink own index y ∈ zBig) (hin : Cond.instanceMethod y ∈ zBig) (hse : Cond.selects C y y ∈ zBig) (hini : Cond.initialized y.cls ∈ zBig) (hdd : y.cls ≠ "java/lang/invoke/MethodHandle" ∧ y.cls ≠ "java/lang/invoke/VarHandle" ∧ (parseMethodDescriptor y.desc).map (fun d => d.parameters.length) = some nA) (hnA : As.length = nA) (hrm : rm.cells = 0 ∧ rm.slots = 0) (hroom : rm.frames + 1 ≤ R.frames ∧ 8 + (maxL + 11) + rm.locals ≤ R.locals) (hls : ls.size = nL) (hrest : (rest.map fun v => v.category).sum ≤ 8) (hst : st = As.reverse ++ .ref (b0 + j) :: rest) (hd : decode cc pc = .ok (.invokevirtual index, 3)) (hp : pc + 3 = pc')
    (k : ∀ (r : Int32) (σ' : zS), zJ p l e R s m args below meth c b0 cA D L Q (g r σ') σ' pc' ls (.int r :: rest)) : zJ p l e R s m args below meth c b0 cA D L Q (zb o1 g) σ pc ls st := by
  subst hp; subst hst
  intro z hz H locs hP hT hS
  obtain ⟨w, hw, hg⟩ := Option.bind_eq_some_iff.mp hz
  refine va_calli (va_runV (As := As) (rest := rest) (C := C) (bytes := bytes) (maxL := maxL) (ret := rt) hC.1 (hM w hw) ⟨callB_of nA hC.1.2.2.2.2 (z_goodIn hcy) rfl hrm.1 hrm.2 (zC_hts (hh := ()) hC hini) (zC_hts (hh := ()) hC hl) hdd hroom, zC_hts (hh := ()) hC hin, zC_hts (hh := ()) hC hse⟩ ⟨z_blind, va_recv hC.2.1 hP hci (zW_at hj), fun U hU hW => ⟨rfl, by rw [hU]; exact hP, hT, va_K.moved hW.alike hC.2.1⟩⟩ rfl hnA hls rfl (lv_room hrest) hd ⟨Nat.zero_le _, Nat.zero_le _⟩) hS (fun q _ h => h) (fun q h => h) (fun r u t H1 locs1 ht hvm hw hB hz1 hk1 hS1 => ?_)
  cases hw
  exact k r u z hg H1 locs1 (by rw [← ht]; exact hB.1) hB.2.1 hS1
theorem zj_calliS {y : MethodName} {bytes : ByteArray} {maxL index : Nat} {rt : Option FieldType} {rm : Room} {As : List Value} {nA : Nat} {o1 : Option (Int32 × zS)} {g : Int32 → zS → Option ρ} (hC : zC p c s m args meth cc nL ret w0 own cA D) (hM : zMi l b0 cA D L y (Cond.code y bytes maxL rt) rm As σ o1) (hcy : Cond.code y bytes maxL rt ∈ zBig) (hl : Cond.methodLink own index y ∈ zBig) (hsta : Cond.static y ∈ zBig) (hini : Cond.initialized y.cls ∈ zBig) (hdd : y.cls ≠ "java/lang/invoke/MethodHandle" ∧ y.cls ≠ "java/lang/invoke/VarHandle" ∧ (parseMethodDescriptor y.desc).map (fun d => d.parameters.length) = some nA) (hnA : As.length = nA) (hrm : rm.cells = 0 ∧ rm.slots = 0) (hroom : rm.frames + 1 ≤ R.frames ∧ 8 + (maxL + 11) + rm.locals ≤ R.locals) (hls : ls.size = nL) (hrest : (rest.map fun v => v.category).sum ≤ 8) (hst : st = As.reverse ++ rest) (hd : decode cc pc = .ok (.invokestatic index, 3)) (hp : pc + 3 = pc')
    (k : ∀ (r : Int32) (σ' : zS), zJ p l e R s m args below meth c b0 cA D L Q (g r σ') σ' pc' ls (.int r :: rest)) : zJ p l e R s m args below meth c b0 cA D L Q (zb o1 g) σ pc ls st := by
  subst hp; subst hst
  intro z hz H locs hP hT hS
  obtain ⟨w, hw, hg⟩ := Option.bind_eq_some_iff.mp hz
  refine va_calli (va_runS (As := As) (rest := rest) (bytes := bytes) (maxL := maxL) (ret := rt) hC.1 (hM w hw) ⟨callB_of nA hC.1.2.2.2.2 (z_goodIn hcy) rfl hrm.1 hrm.2 (zC_hts (hh := ()) hC hini) (zC_hts (hh := ()) hC hl) hdd hroom, zC_hts (hh := ()) hC hsta⟩ ⟨z_blind, fun U hU hW => ⟨rfl, by rw [hU]; exact hP, hT, va_K.moved hW.alike hC.2.1⟩⟩ rfl hnA hls rfl (lv_room hrest) hd ⟨Nat.zero_le _, Nat.zero_le _⟩) hS (fun q _ h => h) (fun q h => h) (fun r u t H1 locs1 ht hvm hw hB hz1 hk1 hS1 => ?_)
  cases hw
  exact k r u z hg H1 locs1 (by rw [← ht]; exact hB.1) hB.2.1 hS1
theorem zj_callzV {y : MethodName} {bytes : ByteArray} {maxL index j ci : Nat} {rt : Option FieldType} {C : String} {T : u_T} {N : Nat} {rm : Room} {As : List Value} {nA : Nat} {o1 : Option (Int32 × zS)} {g : Int32 → zS → Option ρ} (hC : zC p c s m args meth cc nL ret w0 own cA D) (hM : zMz l b0 cA D L y (Cond.code y bytes maxL rt) rm (.ref (b0 + j) :: As) σ o1) (hj : L[j]? = some (0, ci)) (hci : vwCl[ci]? = some (C, T, N)) (hcy : Cond.code y bytes maxL rt ∈ zBig) (hl : Cond.methodLink own index y ∈ zBig) (hin : Cond.instanceMethod y ∈ zBig) (hse : Cond.selects C y y ∈ zBig) (hini : Cond.initialized y.cls ∈ zBig) (hdd : y.cls ≠ "java/lang/invoke/MethodHandle" ∧ y.cls ≠ "java/lang/invoke/VarHandle" ∧ (parseMethodDescriptor y.desc).map (fun d => d.parameters.length) = some nA) (hnA : As.length = nA) (hrm : rm.cells = 0 ∧ rm.slots = 0) (hroom : rm.frames + 1 ≤ R.frames ∧ 8 + (maxL + 11) + rm.locals ≤ R.locals) (hls : ls.size = nL) (hrest : (rest.map fun v => v.category).sum ≤ 8) (hst : st = As.reverse ++ .ref (b0 + j) :: rest) (hd : decode cc pc = .ok (.invokevirtual index, 3)) (hp : pc + 3 = pc')
    (k : ∀ (r : Int32) (σ' : zS), nB r → zJ p l e R s m args below meth c b0 cA D L Q (g r σ') σ' pc' ls (.int r :: rest)) : zJ p l e R s m args below meth c b0 cA D L Q (zb o1 g) σ pc ls st := by
  subst hp; subst hst
  intro z hz H locs hP hT hS
  obtain ⟨w, hw, hg⟩ := Option.bind_eq_some_iff.mp hz
  refine va_calli (va_runV (As := As) (rest := rest) (C := C) (bytes := bytes) (maxL := maxL) (ret := rt) hC.1 (hM w hw) ⟨callB_of nA hC.1.2.2.2.2 (z_goodIn hcy) rfl hrm.1 hrm.2 (zC_hts (hh := ()) hC hini) (zC_hts (hh := ()) hC hl) hdd hroom, zC_hts (hh := ()) hC hin, zC_hts (hh := ()) hC hse⟩ ⟨z_blind, va_recv hC.2.1 hP hci (zW_at hj), fun U hU hW => ⟨rfl, by rw [hU]; exact hP, hT, va_K.moved hW.alike hC.2.1⟩⟩ rfl hnA hls rfl (lv_room hrest) hd ⟨Nat.zero_le _, Nat.zero_le _⟩) hS (fun q _ h => h) (fun q h => h) (fun r u t H1 locs1 ht hvm hw hB hz1 hk1 hS1 => ?_)
  obtain ⟨hw, hb⟩ := hw
  cases hw
  exact k r u hb z hg H1 locs1 (by rw [← ht]; exact hB.1) hB.2.1 hS1
theorem zj_callzS {y : MethodName} {bytes : ByteArray} {maxL index : Nat} {rt : Option FieldType} {rm : Room} {As : List Value} {nA : Nat} {o1 : Option (Int32 × zS)} {g : Int32 → zS → Option ρ} (hC : zC p c s m args meth cc nL ret w0 own cA D) (hM : zMz l b0 cA D L y (Cond.code y bytes maxL rt) rm As σ o1) (hcy : Cond.code y bytes maxL rt ∈ zBig) (hl : Cond.methodLink own index y ∈ zBig) (hsta : Cond.static y ∈ zBig) (hini : Cond.initialized y.cls ∈ zBig) (hdd : y.cls ≠ "java/lang/invoke/MethodHandle" ∧ y.cls ≠ "java/lang/invoke/VarHandle" ∧ (parseMethodDescriptor y.desc).map (fun d => d.parameters.length) = some nA) (hnA : As.length = nA) (hrm : rm.cells = 0 ∧ rm.slots = 0) (hroom : rm.frames + 1 ≤ R.frames ∧ 8 + (maxL + 11) + rm.locals ≤ R.locals) (hls : ls.size = nL) (hrest : (rest.map fun v => v.category).sum ≤ 8) (hst : st = As.reverse ++ rest) (hd : decode cc pc = .ok (.invokestatic index, 3)) (hp : pc + 3 = pc')
    (k : ∀ (r : Int32) (σ' : zS), nB r → zJ p l e R s m args below meth c b0 cA D L Q (g r σ') σ' pc' ls (.int r :: rest)) : zJ p l e R s m args below meth c b0 cA D L Q (zb o1 g) σ pc ls st := by
  subst hp; subst hst
  intro z hz H locs hP hT hS
  obtain ⟨w, hw, hg⟩ := Option.bind_eq_some_iff.mp hz
  refine va_calli (va_runS (As := As) (rest := rest) (bytes := bytes) (maxL := maxL) (ret := rt) hC.1 (hM w hw) ⟨callB_of nA hC.1.2.2.2.2 (z_goodIn hcy) rfl hrm.1 hrm.2 (zC_hts (hh := ()) hC hini) (zC_hts (hh := ()) hC hl) hdd hroom, zC_hts (hh := ()) hC hsta⟩ ⟨z_blind, fun U hU hW => ⟨rfl, by rw [hU]; exact hP, hT, va_K.moved hW.alike hC.2.1⟩⟩ rfl hnA hls rfl (lv_room hrest) hd ⟨Nat.zero_le _, Nat.zero_le _⟩) hS (fun q _ h => h) (fun q h => h) (fun r u t H1 locs1 ht hvm hw hB hz1 hk1 hS1 => ?_)
  obtain ⟨hw, hb⟩ := hw
  cases hw
  exact k r u hb z hg H1 locs1 (by rw [← ht]; exact hB.1) hB.2.1 hS1
theorem zj_calllV {y : MethodName} {bytes : ByteArray} {maxL index j ci : Nat} {rt : Option FieldType} {C : String} {T : u_T} {N : Nat} {rm : Room} {As : List Value} {nA : Nat} {o1 : Option (Int64 × zS)} {g : Int64 → zS → Option ρ} (hC : zC p c s m args meth cc nL ret w0 own cA D) (hM : zMl l b0 cA D L y (Cond.code y bytes maxL rt) rm (.ref (b0 + j) :: As) σ o1) (hj : L[j]? = some (0, ci)) (hci : vwCl[ci]? = some (C, T, N)) (hcy : Cond.code y bytes maxL rt ∈ zBig) (hl : Cond.methodLink own index y ∈ zBig) (hin : Cond.instanceMethod y ∈ zBig) (hse : Cond.selects C y y ∈ zBig) (hini : Cond.initialized y.cls ∈ zBig) (hdd : y.cls ≠ "java/lang/invoke/MethodHandle" ∧ y.cls ≠ "java/lang/invoke/VarHandle" ∧ (parseMethodDescriptor y.desc).map (fun d => d.parameters.length) = some nA) (hnA : As.length = nA) (hrm : rm.cells = 0 ∧ rm.slots = 0) (hroom : rm.frames + 1 ≤ R.frames ∧ 8 + (maxL + 11) + rm.locals ≤ R.locals) (hls : ls.size = nL) (hrest : (rest.map fun v => v.category).sum ≤ 8) (hst : st = As.reverse ++ .ref (b0 + j) :: rest) (hd : decode cc pc = .ok (.invokevirtual index, 3)) (hp : pc + 3 = pc')
    (k : ∀ (r : Int64) (σ' : zS), zJ p l e R s m args below meth c b0 cA D L Q (g r σ') σ' pc' ls (.long r :: rest)) : zJ p l e R s m args below meth c b0 cA D L Q (zb o1 g) σ pc ls st := by
  subst hp; subst hst
  intro z hz H locs hP hT hS
  obtain ⟨w, hw, hg⟩ := Option.bind_eq_some_iff.mp hz
  refine va_calll (va_runV (As := As) (rest := rest) (C := C) (bytes := bytes) (maxL := maxL) (ret := rt) hC.1 (hM w hw) ⟨callB_of nA hC.1.2.2.2.2 (z_goodIn hcy) rfl hrm.1 hrm.2 (zC_hts (hh := ()) hC hini) (zC_hts (hh := ()) hC hl) hdd hroom, zC_hts (hh := ()) hC hin, zC_hts (hh := ()) hC hse⟩ ⟨z_blind, va_recv hC.2.1 hP hci (zW_at hj), fun U hU hW => ⟨rfl, by rw [hU]; exact hP, hT, va_K.moved hW.alike hC.2.1⟩⟩ rfl hnA hls rfl (lv_room hrest) hd ⟨Nat.zero_le _, Nat.zero_le _⟩) hS (fun q _ h => h) (fun q h => h) (fun r u t H1 locs1 ht hvm hw hB hz1 hk1 hS1 => ?_)
  cases hw
  exact k r u z hg H1 locs1 (by rw [← ht]; exact hB.1) hB.2.1 hS1
theorem zj_calllS {y : MethodName} {bytes : ByteArray} {maxL index : Nat} {rt : Option FieldType} {rm : Room} {As : List Value} {nA : Nat} {o1 : Option (Int64 × zS)} {g : Int64 → zS → Option ρ} (hC : zC p c s m args meth cc nL ret w0 own cA D) (hM : zMl l b0 cA D L y (Cond.code y bytes maxL rt) rm As σ o1) (hcy : Cond.code y bytes maxL rt ∈ zBig) (hl : Cond.methodLink own index y ∈ zBig) (hsta : Cond.static y ∈ zBig) (hini : Cond.initialized y.cls ∈ zBig) (hdd : y.cls ≠ "java/lang/invoke/MethodHandle" ∧ y.cls ≠ "java/lang/invoke/VarHandle" ∧ (parseMethodDescriptor y.desc).map (fun d => d.parameters.length) = some nA) (hnA : As.length = nA) (hrm : rm.cells = 0 ∧ rm.slots = 0) (hroom : rm.frames + 1 ≤ R.frames ∧ 8 + (maxL + 11) + rm.locals ≤ R.locals) (hls : ls.size = nL) (hrest : (rest.map fun v => v.category).sum ≤ 8) (hst : st = As.reverse ++ rest) (hd : decode cc pc = .ok (.invokestatic index, 3)) (hp : pc + 3 = pc')
    (k : ∀ (r : Int64) (σ' : zS), zJ p l e R s m args below meth c b0 cA D L Q (g r σ') σ' pc' ls (.long r :: rest)) : zJ p l e R s m args below meth c b0 cA D L Q (zb o1 g) σ pc ls st := by
  subst hp; subst hst
  intro z hz H locs hP hT hS
  obtain ⟨w, hw, hg⟩ := Option.bind_eq_some_iff.mp hz
  refine va_calll (va_runS (As := As) (rest := rest) (bytes := bytes) (maxL := maxL) (ret := rt) hC.1 (hM w hw) ⟨callB_of nA hC.1.2.2.2.2 (z_goodIn hcy) rfl hrm.1 hrm.2 (zC_hts (hh := ()) hC hini) (zC_hts (hh := ()) hC hl) hdd hroom, zC_hts (hh := ()) hC hsta⟩ ⟨z_blind, fun U hU hW => ⟨rfl, by rw [hU]; exact hP, hT, va_K.moved hW.alike hC.2.1⟩⟩ rfl hnA hls rfl (lv_room hrest) hd ⟨Nat.zero_le _, Nat.zero_le _⟩) hS (fun q _ h => h) (fun q h => h) (fun r u t H1 locs1 ht hvm hw hB hz1 hk1 hS1 => ?_)
  cases hw
  exact k r u z hg H1 locs1 (by rw [← ht]; exact hB.1) hB.2.1 hS1
theorem zj_callvV {y : MethodName} {bytes : ByteArray} {maxL index j ci : Nat} {rt : Option FieldType} {C : String} {T : u_T} {N : Nat} {rm : Room} {As : List Value} {nA : Nat} {o1 : Option (Unit × zS)} {g : Unit → zS → Option ρ} (hC : zC p c s m args meth cc nL ret w0 own cA D) (hM : zMv l b0 cA D L y (Cond.code y bytes maxL rt) rm (.ref (b0 + j) :: As) σ o1) (hj : L[j]? = some (0, ci)) (hci : vwCl[ci]? = some (C, T, N)) (hcy : Cond.code y bytes maxL rt ∈ zBig) (hl : Cond.methodLink own index y ∈ zBig) (hin : Cond.instanceMethod y ∈ zBig) (hse : Cond.selects C y y ∈ zBig) (hini : Cond.initialized y.cls ∈ zBig) (hdd : y.cls ≠ "java/lang/invoke/MethodHandle" ∧ y.cls ≠ "java/lang/invoke/VarHandle" ∧ (parseMethodDescriptor y.desc).map (fun d => d.parameters.length) = some nA) (hnA : As.length = nA) (hrm : rm.cells = 0 ∧ rm.slots = 0) (hroom : rm.frames + 1 ≤ R.frames ∧ 8 + (maxL + 11) + rm.locals ≤ R.locals) (hls : ls.size = nL) (hrest : (rest.map fun v => v.category).sum ≤ 8) (hst : st = As.reverse ++ .ref (b0 + j) :: rest) (hd : decode cc pc = .ok (.invokevirtual index, 3)) (hp : pc + 3 = pc')
    (k : ∀ (σ' : zS), zJ p l e R s m args below meth c b0 cA D L Q (g () σ') σ' pc' ls rest) : zJ p l e R s m args below meth c b0 cA D L Q (zb o1 g) σ pc ls st := by
  subst hp; subst hst
  intro z hz H locs hP hT hS
  obtain ⟨w, hw, hg⟩ := Option.bind_eq_some_iff.mp hz
  refine va_callv (va_runV (As := As) (rest := rest) (C := C) (bytes := bytes) (maxL := maxL) (ret := rt) hC.1 (hM w hw) ⟨callB_of nA hC.1.2.2.2.2 (z_goodIn hcy) rfl hrm.1 hrm.2 (zC_hts (hh := ()) hC hini) (zC_hts (hh := ()) hC hl) hdd hroom, zC_hts (hh := ()) hC hin, zC_hts (hh := ()) hC hse⟩ ⟨z_blind, va_recv hC.2.1 hP hci (zW_at hj), fun U hU hW => ⟨rfl, by rw [hU]; exact hP, hT, va_K.moved hW.alike hC.2.1⟩⟩ rfl hnA hls rfl (lv_room hrest) hd ⟨Nat.zero_le _, Nat.zero_le _⟩) hS (fun q _ h => h) (fun q h => h) (fun u t H1 locs1 ht hvm hw hB hz1 hk1 hS1 => ?_)
  cases hw
  exact k u z hg H1 locs1 (by rw [← ht]; exact hB.1) hB.2.1 hS1
theorem zj_callvS {y : MethodName} {bytes : ByteArray} {maxL index : Nat} {rt : Option FieldType} {rm : Room} {As : List Value} {nA : Nat} {o1 : Option (Unit × zS)} {g : Unit → zS → Option ρ} (hC : zC p c s m args meth cc nL ret w0 own cA D) (hM : zMv l b0 cA D L y (Cond.code y bytes maxL rt) rm As σ o1) (hcy : Cond.code y bytes maxL rt ∈ zBig) (hl : Cond.methodLink own index y ∈ zBig) (hsta : Cond.static y ∈ zBig) (hini : Cond.initialized y.cls ∈ zBig) (hdd : y.cls ≠ "java/lang/invoke/MethodHandle" ∧ y.cls ≠ "java/lang/invoke/VarHandle" ∧ (parseMethodDescriptor y.desc).map (fun d => d.parameters.length) = some nA) (hnA : As.length = nA) (hrm : rm.cells = 0 ∧ rm.slots = 0) (hroom : rm.frames + 1 ≤ R.frames ∧ 8 + (maxL + 11) + rm.locals ≤ R.locals) (hls : ls.size = nL) (hrest : (rest.map fun v => v.category).sum ≤ 8) (hst : st = As.reverse ++ rest) (hd : decode cc pc = .ok (.invokestatic index, 3)) (hp : pc + 3 = pc')
    (k : ∀ (σ' : zS), zJ p l e R s m args below meth c b0 cA D L Q (g () σ') σ' pc' ls rest) : zJ p l e R s m args below meth c b0 cA D L Q (zb o1 g) σ pc ls st := by
  subst hp; subst hst
  intro z hz H locs hP hT hS
  obtain ⟨w, hw, hg⟩ := Option.bind_eq_some_iff.mp hz
  refine va_callv (va_runS (As := As) (rest := rest) (bytes := bytes) (maxL := maxL) (ret := rt) hC.1 (hM w hw) ⟨callB_of nA hC.1.2.2.2.2 (z_goodIn hcy) rfl hrm.1 hrm.2 (zC_hts (hh := ()) hC hini) (zC_hts (hh := ()) hC hl) hdd hroom, zC_hts (hh := ()) hC hsta⟩ ⟨z_blind, fun U hU hW => ⟨rfl, by rw [hU]; exact hP, hT, va_K.moved hW.alike hC.2.1⟩⟩ rfl hnA hls rfl (lv_room hrest) hd ⟨Nat.zero_le _, Nat.zero_le _⟩) hS (fun q _ h => h) (fun q h => h) (fun u t H1 locs1 ht hvm hw hB hz1 hk1 hS1 => ?_)
  cases hw
  exact k u z hg H1 locs1 (by rw [← ht]; exact hB.1) hB.2.1 hS1
theorem zj_callrV {y : MethodName} {bytes : ByteArray} {maxL index j ci : Nat} {rt : Option FieldType} {C : String} {T : u_T} {N : Nat} {rm : Room} {As : List Value} {nA : Nat} {kd : Nat × Nat} {o1 : Option (Nat × zS)} {g : Nat → zS → Option ρ} (hC : zC p c s m args meth cc nL ret w0 own cA D) (hM : zMr l b0 cA D L kd y (Cond.code y bytes maxL rt) rm (.ref (b0 + j) :: As) σ o1) (hj : L[j]? = some (0, ci)) (hci : vwCl[ci]? = some (C, T, N)) (hcy : Cond.code y bytes maxL rt ∈ zBig) (hl : Cond.methodLink own index y ∈ zBig) (hin : Cond.instanceMethod y ∈ zBig) (hse : Cond.selects C y y ∈ zBig) (hini : Cond.initialized y.cls ∈ zBig) (hdd : y.cls ≠ "java/lang/invoke/MethodHandle" ∧ y.cls ≠ "java/lang/invoke/VarHandle" ∧ (parseMethodDescriptor y.desc).map (fun d => d.parameters.length) = some nA) (hnA : As.length = nA) (hrm : rm.cells = 0 ∧ rm.slots = 0) (hroom : rm.frames + 1 ≤ R.frames ∧ 8 + (maxL + 11) + rm.locals ≤ R.locals) (hls : ls.size = nL) (hrest : (rest.map fun v => v.category).sum ≤ 8) (hst : st = As.reverse ++ .ref (b0 + j) :: rest) (hd : decode cc pc = .ok (.invokevirtual index, 3)) (hp : pc + 3 = pc')
    (k : ∀ (r : Nat) (σ' : zS), L[r]? = some kd → zJ p l e R s m args below meth c b0 cA D L Q (g r σ') σ' pc' ls (.ref (b0 + r) :: rest)) : zJ p l e R s m args below meth c b0 cA D L Q (zb o1 g) σ pc ls st := by
  subst hp; subst hst
  intro z hz H locs hP hT hS
  obtain ⟨w, hw, hg⟩ := Option.bind_eq_some_iff.mp hz
  refine va_callr (va_runV (As := As) (rest := rest) (C := C) (bytes := bytes) (maxL := maxL) (ret := rt) hC.1 (hM w hw) ⟨callB_of nA hC.1.2.2.2.2 (z_goodIn hcy) rfl hrm.1 hrm.2 (zC_hts (hh := ()) hC hini) (zC_hts (hh := ()) hC hl) hdd hroom, zC_hts (hh := ()) hC hin, zC_hts (hh := ()) hC hse⟩ ⟨z_blind, va_recv hC.2.1 hP hci (zW_at hj), fun U hU hW => ⟨rfl, by rw [hU]; exact hP, hT, va_K.moved hW.alike hC.2.1⟩⟩ rfl hnA hls rfl (lv_room hrest) hd ⟨Nat.zero_le _, Nat.zero_le _⟩) hS (fun q _ h => h) (fun q h => h) (fun u ra t H1 locs1 ht hvm hw hB hz1 hk1 hS1 => ?_)
  obtain ⟨rfl, hkd, hB⟩ := hB
  cases hw
  exact k w.1 w.2 hkd z hg H1 locs1 (by rw [← ht]; exact hB.1) hB.2.1 hS1
theorem zj_callrS {y : MethodName} {bytes : ByteArray} {maxL index : Nat} {rt : Option FieldType} {rm : Room} {As : List Value} {nA : Nat} {kd : Nat × Nat} {o1 : Option (Nat × zS)} {g : Nat → zS → Option ρ} (hC : zC p c s m args meth cc nL ret w0 own cA D) (hM : zMr l b0 cA D L kd y (Cond.code y bytes maxL rt) rm As σ o1) (hcy : Cond.code y bytes maxL rt ∈ zBig) (hl : Cond.methodLink own index y ∈ zBig) (hsta : Cond.static y ∈ zBig) (hini : Cond.initialized y.cls ∈ zBig) (hdd : y.cls ≠ "java/lang/invoke/MethodHandle" ∧ y.cls ≠ "java/lang/invoke/VarHandle" ∧ (parseMethodDescriptor y.desc).map (fun d => d.parameters.length) = some nA) (hnA : As.length = nA) (hrm : rm.cells = 0 ∧ rm.slots = 0) (hroom : rm.frames + 1 ≤ R.frames ∧ 8 + (maxL + 11) + rm.locals ≤ R.locals) (hls : ls.size = nL) (hrest : (rest.map fun v => v.category).sum ≤ 8) (hst : st = As.reverse ++ rest) (hd : decode cc pc = .ok (.invokestatic index, 3)) (hp : pc + 3 = pc')
    (k : ∀ (r : Nat) (σ' : zS), L[r]? = some kd → zJ p l e R s m args below meth c b0 cA D L Q (g r σ') σ' pc' ls (.ref (b0 + r) :: rest)) : zJ p l e R s m args below meth c b0 cA D L Q (zb o1 g) σ pc ls st := by
  subst hp; subst hst
  intro z hz H locs hP hT hS
  obtain ⟨w, hw, hg⟩ := Option.bind_eq_some_iff.mp hz
  refine va_callr (va_runS (As := As) (rest := rest) (bytes := bytes) (maxL := maxL) (ret := rt) hC.1 (hM w hw) ⟨callB_of nA hC.1.2.2.2.2 (z_goodIn hcy) rfl hrm.1 hrm.2 (zC_hts (hh := ()) hC hini) (zC_hts (hh := ()) hC hl) hdd hroom, zC_hts (hh := ()) hC hsta⟩ ⟨z_blind, fun U hU hW => ⟨rfl, by rw [hU]; exact hP, hT, va_K.moved hW.alike hC.2.1⟩⟩ rfl hnA hls rfl (lv_room hrest) hd ⟨Nat.zero_le _, Nat.zero_le _⟩) hS (fun q _ h => h) (fun q h => h) (fun u ra t H1 locs1 ht hvm hw hB hz1 hk1 hS1 => ?_)
  obtain ⟨rfl, hkd, hB⟩ := hB
  cases hw
  exact k w.1 w.2 hkd z hg H1 locs1 (by rw [← ht]; exact hB.1) hB.2.1 hS1
end ZC
