/-- a new cell's contents: numbers 0, references to nothing -/
def zNw (σ : zS) (n : Nat) : zS := (fun a b => if a = n then 0 else σ.1 a b, fun a b => if a = n then zNUL else σ.2 a b)
abbrev zLS : Type := List (Nat × Nat) × zS
def zQ {α : Type} (L : List (Nat × Nat)) (x : Nat) (kd : Nat × Nat) (o : Option α) : Option α := if L[x]? = some kd ∧ x ≠ zNUL then o else none
def znw {α : Type} (L : List (Nat × Nat)) (σ : zS) (kd : Nat × Nat) (f : Nat → List (Nat × Nat) → zS → Option α) : Option α := f L.length (L ++ [kd]) (zNw σ L.length)
theorem zQ_some {α : Type} {L : List (Nat × Nat)} {x : Nat} {kd : Nat × Nat} {o : Option α} {z : α} (h : zQ L x kd o = some z) : L[x]? = some kd ∧ x ≠ zNUL ∧ o = some z := by
  unfold zQ at h
  split at h
  · rename_i q
    exact ⟨q.1, q.2, h⟩
  · cases h
def zNX (U : State) : Prop := va_AO "PaidHouse$Evening" U ∧ va_AO "PaidHouse$Law" U ∧ va_Nw (.methodLinkNest "PaidHouse" 11 yX1_init "PaidHouse") U ∧ va_Nw (.methodLinkNest "PaidHouse$Evening" 11 yX2_init "PaidHouse") U ∧ va_Nw (.methodLinkNest "PaidHouse" 55 yX4_init "PaidHouse") U
theorem zNX.warm {s U : State} (hW : s.WarmedH U.vm) (h : zNX s) : zNX U := ⟨va_AO.moved hW.alike h.1, va_AO.moved hW.alike h.2.1, va_Nw.warmM hW h.2.2.1, va_Nw.warmM hW h.2.2.2.1, va_Nw.warmM hW h.2.2.2.2⟩
theorem zNX.same {u U : State} (hv : u.vm = U.vm) (h : zNX u) : zNX U := ⟨va_AO.moved (by rw [hv]; exact Vm.Alike.refl _) h.1, va_AO.moved (by rw [hv]; exact Vm.Alike.refl _) h.2.1, va_Nw.same rfl hv h.2.2.1, va_Nw.same rfl hv h.2.2.2.1, va_Nw.same rfl hv h.2.2.2.2⟩
def zAc (b0 : Nat) : Nat → Prop := fun q => b0 ≤ q
def zBd (b0 : Nat) (cA : Nat → ClassId) (D : va_G) (u : zLS) (t : State) : Prop := va_P D vwCl (zW b0 cA u.1 u.2) t.heap ∧ t.heap.size = b0 + u.1.length
def zBc (b0 : Nat) (cA : Nat → ClassId) (D : va_G) (L : List (Nat × Nat)) (σ : zS) (t : State) : Prop := zBd b0 cA D (L, σ) t ∧ va_K D vwCl (zTy cA) t ∧ zNX t
/-- as zJ, with a layout that grows; ce cells of sl slots have been made -/
def zK1 (p : Program) (l : Launch) (e : Env) (R : Room) (s : State) (m : MethodId) (args : Array Value) (below : List Frame) (meth : Method) (c : Code) (b0 : Nat) (cA : Nat → ClassId) (D : va_G) (Q : zLS → State → Prop) (o : Option zLS) (L : List (Nat × Nat)) (σ : zS) (ce sl : Nat) (pc : Nat) (ls : Array Slot) (st : List Value) : Prop :=
  ∀ z, o = some z → ∀ (H : Heap) (locs : List Loc), va_P D vwCl (zW b0 cA L σ) H → H.size = b0 + L.length → va_S (zAc b0) s.heap H locs → W p l e R s m args below meth c H locs ce sl (Q z) (F0 m pc ls st)
theorem zDc {b0 : Nat} {cA : Nat → ClassId} {L : List (Nat × Nat)} {σ : zS} : va_D (zAc b0) (zW b0 cA L σ) := zD.weaken (fun _ _ _ h => h.1)
theorem zO_nn {b0 x : Nat} (h : x ≠ zNUL) : zO b0 x = some (b0 + x) := if_neg h
theorem zNw_ne {σ : zS} {n i : Nat} (h : i ≠ n) : (zNw σ n).1 i = σ.1 i ∧ (zNw σ n).2 i = σ.2 i := ⟨by funext b; simp [zNw, h], by funext b; simp [zNw, h]⟩
theorem zW_app {b0 : Nat} {cA : Nat → ClassId} {L : List (Nat × Nat)} {σ : zS} {kd : Nat × Nat} : zW b0 cA (L ++ [kd]) (zNw σ L.length) = zW b0 cA L σ ++ [(b0 + L.length, zE b0 cA kd (zNw σ L.length) L.length)] := by
  apply List.ext_getElem?
  intro i
  rcases Nat.lt_trichotomy i L.length with h | h | h
  · rw [List.getElem?_append_left (by rw [zW_len]; exact h)]
    have hk : L[i]? = some L[i] := List.getElem?_eq_getElem h
    have hk2 : (L ++ [kd])[i]? = some L[i] := by rw [List.getElem?_append_left h]; exact hk
    rw [zW_at hk, zW_at hk2, zE_ne (zNw_ne (Nat.ne_of_lt h)).1 (zNw_ne (Nat.ne_of_lt h)).2]
  · subst h
    rw [List.getElem?_append_right (by rw [zW_len]; exact Nat.le_refl _), zW_len, Nat.sub_self]
    rw [zW_at (kd := kd) (by simp)]
    rfl
  · rw [List.getElem?_eq_none_iff.mpr (by rw [zW_len, List.length_append, List.length_singleton]; omega), List.getElem?_eq_none_iff.mpr (by rw [List.length_append, zW_len, List.length_singleton]; omega)]
/-- new objects hold what the machine puts there -/
def zNewOK (ci N : Nat) (ty : Nat → FieldType) : Prop := ∀ j, j < N → defaultValue (ty j) = (if zK ci j = none then Value.int 0 else Value.null)
theorem nw0 : zNewOK 0 9 tyX0 := by unfold zNewOK; decide +kernel
theorem nw1 : zNewOK 1 3 tyX1 := by unfold zNewOK; decide +kernel
theorem nw2 : zNewOK 2 7 tyX2 := by unfold zNewOK; decide +kernel
theorem nw3 : zNewOK 3 5 tyX3 := by unfold zNewOK; decide +kernel
theorem nw4 : zNewOK 4 3 tyX4 := by unfold zNewOK; decide +kernel
theorem nw5 : zNewOK 5 6 tyX5 := by unfold zNewOK; decide +kernel
theorem nw6 : zNewOK 6 17 tyX6 := by unfold zNewOK; decide +kernel
theorem nw7 : zNewOK 7 53 tyX7 := by unfold zNewOK; decide +kernel
theorem zF_new {b0 : Nat} {σ : zS} {ci n k : Nat} : zF b0 (zNw σ n) ci n k = (if zK ci k = none then Value.int 0 else Value.null) := by
  unfold zF
  cases h : zK ci k with
  | none => simp [zNw]
  | some q => simp [zNw, zO, va_rf]
section ZC
variable {p : Program} {l : Launch} {e : Env} {R : Room} {s : State} {m : MethodId} {args : Array Value} {below : List Frame} {meth : Method} {c : Code} {b0 : Nat} {cA : Nat → ClassId} {D : va_G} {L : List (Nat × Nat)} {Q : zLS → State → Prop} {o : Option zLS} {σ : zS} {ce sl pc pc' tgt : Nat} {ls : Array Slot} {st rest : List Value} {cc : ByteArray} {nL : Nat} {ret : Option FieldType} {w0 : Cond} {own : String}
theorem zc_iconst {n : Int} {v : Int32} (hC : zC p c s m args meth cc nL ret w0 own cA D) (hd : decode cc pc = .ok (.iconst n, 1)) (hp : pc + 1 = pc') (hv : Int32.ofInt n = v) (k : zK1 p l e R s m args below meth c b0 cA D Q o L σ ce sl pc' ls (.int v :: rest)) : zK1 p l e R s m args below meth c b0 cA D Q o L σ ce sl pc ls (rest) := by
  subst hp
  exact fun z hz H locs hP hZ hS => lv_iconst hC.1.1 hC.1.2.1 hd hv (k z hz H locs hP hZ hS)
theorem zc_bipush {n : Int} {v : Int32} (hC : zC p c s m args meth cc nL ret w0 own cA D) (hd : decode cc pc = .ok (.bipush n, 2)) (hp : pc + 2 = pc') (hv : (Int8.ofInt n).toInt32 = v) (k : zK1 p l e R s m args below meth c b0 cA D Q o L σ ce sl pc' ls (.int v :: rest)) : zK1 p l e R s m args below meth c b0 cA D Q o L σ ce sl pc ls (rest) := by
  subst hp
  exact fun z hz H locs hP hZ hS => lv_bipush hC.1.1 hC.1.2.1 hd hv (k z hz H locs hP hZ hS)
theorem zc_sipush {n : Int} {v : Int32} (hC : zC p c s m args meth cc nL ret w0 own cA D) (hd : decode cc pc = .ok (.sipush n, 3)) (hp : pc + 3 = pc') (hv : (Int16.ofInt n).toInt32 = v) (k : zK1 p l e R s m args below meth c b0 cA D Q o L σ ce sl pc' ls (.int v :: rest)) : zK1 p l e R s m args below meth c b0 cA D Q o L σ ce sl pc ls (rest) := by
  subst hp
  exact fun z hz H locs hP hZ hS => lv_sipush hC.1.1 hC.1.2.1 hd hv (k z hz H locs hP hZ hS)
theorem zc_iload_n {k0 : Fin 4} {i : Nat} {x : Int32} (hC : zC p c s m args meth cc nL ret w0 own cA D) (hd : decode cc pc = .ok (.iload_n k0, 1)) (hp : pc + 1 = pc') (hi : (k0 : Nat) = i) (hl : ls[i]? = some (.val (.int x))) (k : zK1 p l e R s m args below meth c b0 cA D Q o L σ ce sl pc' ls (.int x :: rest)) : zK1 p l e R s m args below meth c b0 cA D Q o L σ ce sl pc ls (rest) := by
  subst hp
  exact fun z hz H locs hP hZ hS => lv_iload_n hC.1.1 hC.1.2.1 hd hi hl (k z hz H locs hP hZ hS)
theorem zc_aload_n {k0 : Fin 4} {i : Nat} {x : Nat} (hC : zC p c s m args meth cc nL ret w0 own cA D) (hd : decode cc pc = .ok (.aload_n k0, 1)) (hp : pc + 1 = pc') (hi : (k0 : Nat) = i) (hl : ls[i]? = some (.val (.ref x))) (k : zK1 p l e R s m args below meth c b0 cA D Q o L σ ce sl pc' ls (.ref x :: rest)) : zK1 p l e R s m args below meth c b0 cA D Q o L σ ce sl pc ls (rest) := by
  subst hp
  exact fun z hz H locs hP hZ hS => lv_aload_n hC.1.1 hC.1.2.1 hd hi hl (k z hz H locs hP hZ hS)
theorem zc_dup {va : Value} (hC : zC p c s m args meth cc nL ret w0 own cA D) (hd : decode cc pc = .ok (.dup, 1)) (hp : pc + 1 = pc') (hva : va.category = 1) (k : zK1 p l e R s m args below meth c b0 cA D Q o L σ ce sl pc' ls (va :: va :: rest)) : zK1 p l e R s m args below meth c b0 cA D Q o L σ ce sl pc ls (va :: rest) := by
  subst hp
  exact fun z hz H locs hP hZ hS => lv_dup hC.1.1 hC.1.2.1 hd hva (k z hz H locs hP hZ hS)
theorem zc_istore_n {k0 : Fin 4} {i : Nat} {x : Int32} {lv lv' : List (Nat × Value)} (hC : zC p c s m args meth cc nL ret w0 own cA D) (hd : decode cc pc = .ok (.istore_n k0, 1)) (hp : pc + 1 = pc') (hi : (k0 : Nat) = i) (h : lv_has ls nL lv) (hn : i < nL) (hl : (i, Value.int x) :: lv.filter (fun q => !(q.1 == i) && !(q.1 + 1 == i && q.2.category == 2)) = lv') (k : ∀ ls' : Array Slot, lv_has ls' nL lv' → zK1 p l e R s m args below meth c b0 cA D Q o L σ ce sl pc' ls' rest) : zK1 p l e R s m args below meth c b0 cA D Q o L σ ce sl pc ls (.int x :: rest) := by
  subst hp
  exact fun z hz H locs hP hZ hS => lv_istore_n hC.1.1 hC.1.2.1 hd hi h hn hl (fun ls' hl' => k ls' hl' z hz H locs hP hZ hS)
theorem zc_iinc {i k0 : Nat} {n : Int} {x v : Int32} {lv lv' : List (Nat × Value)} (hC : zC p c s m args meth cc nL ret w0 own cA D) (hd : decode cc pc = .ok (.iinc i n, 3)) (hp : pc + 3 = pc') (h : lv_has ls nL lv) (hk : lv[k0]? = some (i, .int x)) (hv : x + Int32.ofInt n = v) (hn : i < nL) (hl : (i, Value.int v) :: lv.filter (fun q => !(q.1 == i) && !(q.1 + 1 == i && q.2.category == 2)) = lv') (k : ∀ ls' : Array Slot, lv_has ls' nL lv' → zK1 p l e R s m args below meth c b0 cA D Q o L σ ce sl pc' ls' rest) : zK1 p l e R s m args below meth c b0 cA D Q o L σ ce sl pc ls rest := by
  subst hp
  exact fun z hz H locs hP hZ hS => lv_iinc hC.1.1 hC.1.2.1 hd h hk hv hn hl (fun ls' hl' => k ls' hl' z hz H locs hP hZ hS)
theorem zc_goto {off : Int} (hC : zC p c s m args meth cc nL ret w0 own cA D) (hd : decode cc pc = .ok (.goto off, 3)) (ht : (pc : Int) + off = (tgt : Int)) (k : zK1 p l e R s m args below meth c b0 cA D Q o L σ ce sl tgt ls rest) : zK1 p l e R s m args below meth c b0 cA D Q o L σ ce sl pc ls rest := fun z hz H locs hP hZ hS => lv_goto hC.1.1 hC.1.2.1 hd ht (k z hz H locs hP hZ hS)
theorem zc_geT {x y : Int32} {off : Int} (hC : zC p c s m args meth cc nL ret w0 own cA D) (hd : decode cc pc = .ok (.if_icmp .ge off, 3)) (ht : (pc : Int) + off = (tgt : Int)) (h : y ≤ x) (k : zK1 p l e R s m args below meth c b0 cA D Q o L σ ce sl tgt ls rest) : zK1 p l e R s m args below meth c b0 cA D Q o L σ ce sl pc ls (.int y :: .int x :: rest) := fun z hz H locs hP hZ hS => lv_icmp_ge hC.1.1 hC.1.2.1 hd ht (fun _ => k z hz H locs hP hZ hS) (fun q => absurd h q)
theorem zc_geF {x y : Int32} {off : Int} (hC : zC p c s m args meth cc nL ret w0 own cA D) (hd : decode cc pc = .ok (.if_icmp .ge off, 3)) (ht : (pc : Int) + off = (tgt : Int)) (hp : pc + 3 = pc') (h : ¬ y ≤ x) (k : zK1 p l e R s m args below meth c b0 cA D Q o L σ ce sl pc' ls rest) : zK1 p l e R s m args below meth c b0 cA D Q o L σ ce sl pc ls (.int y :: .int x :: rest) := by
  subst hp
  exact fun z hz H locs hP hZ hS => lv_icmp_ge hC.1.1 hC.1.2.1 hd ht (fun q => absurd q h) (fun _ => k z hz H locs hP hZ hS)
theorem zc_objInit {idx j : Nat} (hC : zC p c s m args meth cc nL ret w0 own cA D) (h1 : Cond.methodLink own idx objectInit ∈ zBig) (h2 : Cond.instanceMethod objectInit ∈ zBig) (h3 : Cond.code objectInit ⟨#[0xb1]⟩ 1 none ∈ zBig) (hls : ls.size = nL) (hd : decode cc pc = .ok (.invokespecial idx, 3)) (hp : pc + 3 = pc') (hfr : 1 ≤ R.frames) (hlo : (rest.map fun v => v.category).sum + 12 ≤ R.locals) (k : zK1 p l e R s m args below meth c b0 cA D Q o L σ ce sl pc' ls rest) : zK1 p l e R s m args below meth c b0 cA D Q o L σ ce sl pc ls (.ref (b0 + j) :: rest) := by
  subst hp
  exact fun z hz H locs hP hZ hS => W.objInit hC.1.1 hC.1.2.1 hC.1.2.2.2.1 (zC_hts (hh := ()) hC h1) (zC_hts (hh := ()) hC h2) (zC_hts (hh := ()) hC h3) rfl (by rw [hC.1.2.2.1]; exact hls) rfl hd hfr (by show 2 * 0 + _ + 12 ≤ _; omega) (k z hz H locs hP hZ hS)
theorem zc_getR {j ci k index : Nat} {kd : Nat × Nat} {C : String} {T : u_T} {N : Nat} {ty : Nat → FieldType} {f : Nat → Option zLS} (hC : zC p c s m args meth cc nL ret w0 own cA D) (hf : zFd ci k C T N ty) (hz : zK ci k = some kd) (hw : Cond.fieldLink own index C (T k).2.1 (T k).2.2.1 ∈ zBig) (hd : decode cc pc = .ok (.getfield index, 3)) (hp : pc + 3 = pc') (kk : ∀ x : Nat, zK1 p l e R s m args below meth c b0 cA D Q (f x) L σ ce sl pc' ls (.ref (b0 + x) :: rest)) : zK1 p l e R s m args below meth c b0 cA D Q (zQ L j (0, ci) (zQ L (σ.2 j k) kd (bnd (σ.2 j k) f))) L σ ce sl pc ls (.ref (b0 + j) :: rest) := by
  subst hp
  intro z hz0 H locs hP hZ hS
  obtain ⟨hj, -, hz0⟩ := zQ_some hz0
  obtain ⟨-, hx, hz0⟩ := zQ_some hz0
  obtain ⟨f1, f2, f3, f4, f5, f6, f7⟩ := hf
  exact va_get hC.1.1 hC.1.2.1 (Ts := zBig) (fun w h => zC_hts (hh := ()) hC h) f2 hC.1.2.2.2.1 hC.2.1 hP j (zW_at hj) f1 k f3 (zC_hts (hh := ()) hC hw) (fun x h => by rw [f5] at h; exact h) (v := .ref (b0 + σ.2 j k)) (by rw [zL_at (by rw [f4]; exact f3)]; simp [zF, hz, zO_nn hx, va_rf]) hd (kk (σ.2 j k) z hz0 H locs hP hZ hS)
theorem zc_put {j ci k index : Nat} {v : Value} {C : String} {T : u_T} {N : Nat} {ty : Nat → FieldType} {σ' : zS} {H : Heap} {locs : List Loc} {QQ : State → Prop} (hC : zC p c s m args meth cc nL ret w0 own cA D) (hj : L[j]? = some (0, ci)) (hf : zFd ci k C T N ty) (hw : Cond.fieldLink own index C (T k).2.1 (T k).2.2.1 ∈ zBig) (hfin : (T k).2.2.2 = false) (hn : narrow (ty k) v = v) (hfit : fits (ty k) v = true) (hd : decode cc pc = .ok (.putfield index, 3)) (hP : va_P D vwCl (zW b0 cA L σ) H) (hS : va_S (zAc b0) s.heap H locs) (hσ : (zL b0 σ ci j).set k v = zL b0 σ' ci j) (hne : ∀ i ki, i ≠ j → zE b0 cA ki σ' i = zE b0 cA ki σ i)
    (kk : ∀ (H1 : Heap) (locs1 : List Loc), va_P D vwCl (zW b0 cA L σ') H1 → H1.size = H.size → va_S (zAc b0) s.heap H1 locs1 → W p l e R s m args below meth c H1 locs1 ce sl QQ (F0 m (pc + 3) ls rest)) : W p l e R s m args below meth c H locs ce sl QQ (F0 m pc ls (v :: .ref (b0 + j) :: rest)) := by
  obtain ⟨f1, f2, f3, f4, f5, f6, f7⟩ := hf
  have hts : ∀ w ∈ zBig, w.before args s = true := fun w h => zC_hts (hh := ()) hC h
  have hown := hC.1.2.2.2.1
  have hsame : ∀ x, s.fieldFound? (T k).1 (T k).2.1 (T k).2.2.1 = some x → s.fieldFound? C (T k).2.1 (T k).2.2.1 = some x := fun x h => by rw [f5] at h; exact h
  have hap := va_apart (own := own) hts f2 ty f6 f7 hC.2.1 f1
  obtain ⟨r, h1, cell, q1, q2, q3, q4⟩ := hP j _ (zW_at hj)
  have hr : r = (C, T, N) := Option.some.inj (h1.symm.trans f1)
  subst hr
  obtain ⟨hSl, hfc, kC, hkC, hkind⟩ := hC.2.1.1 ci _ f1
  obtain ⟨cf, kf, fi, f, hi, hsl⟩ := hSl k f3
  have hlay := hts _ (f2 _ (u_in_lay f3))
  unfold u_lay at hlay
  rw [if_neg (by rw [hfin]; decide)] at hlay
  have hst := (u_facts hfc hkC (u_lays hts f2 f3) hi).1
  have h6 := u_store hfc hkC hkind hlay hi (f6 k f3) hn hfit
  refine W.putK hC.1.1 hC.1.2.1 (f := f) ⟨hown, zC_hts (hh := ()) hC hw, ⟨_, _, _, hsame _ hi⟩, hst⟩ (by rw [q2]; exact h6) q1 q3 (by rw [hsl]; exact k2_hasslot (q4 k f3)) rfl rfl hd fun H' e1 e2 e3 => ?_
  rw [hsl] at e1 ⊢
  have hl : k < (zL b0 σ ci j).length := by rw [zL_len, f4]; exact f3
  refine kk H' _ ?_ e2 (hS.put e2 e3 (Nat.le_add_right b0 j))
  rw [← zW_set (σ := σ) (σ' := σ') hj (fun i ki hi _ => hne i ki hi), zE_o, ← hσ]
  exact hP.set zDc (zW_at hj) ⟨_, f1, t_OB.to (V := updV (vp_V (zL b0 σ ci j)) k v) ⟨_, e1, q2, q3, t_set q4 hap f3 v⟩ (fun j _ => vp_updV_set hl v j)⟩ e3
theorem zc_putF {j ci k index : Nat} {v : Value} {C : String} {T : u_T} {N : Nat} {ty : Nat → FieldType} {σ' : zS} {H : Heap} {locs : List Loc} {QQ : State → Prop} (hC : zC p c s m args meth cc nL ret w0 own cA D) (hj : L[j]? = some (0, ci)) (hf : zFd ci k C T N ty) (hw : Cond.fieldLink own index C (T k).2.1 (T k).2.2.1 ∈ zBig) (hfin : (T k).2.2.2 = true) (hin2 : meth.name = "<init>") (hdecl : (T k).1 = own) (hn : narrow (ty k) v = v) (hfit : fits (ty k) v = true) (hd : decode cc pc = .ok (.putfield index, 3)) (hP : va_P D vwCl (zW b0 cA L σ) H) (hS : va_S (zAc b0) s.heap H locs) (hσ : (zL b0 σ ci j).set k v = zL b0 σ' ci j) (hne : ∀ i ki, i ≠ j → zE b0 cA ki σ' i = zE b0 cA ki σ i)
    (kk : ∀ (H1 : Heap) (locs1 : List Loc), va_P D vwCl (zW b0 cA L σ') H1 → H1.size = H.size → va_S (zAc b0) s.heap H1 locs1 → W p l e R s m args below meth c H1 locs1 ce sl QQ (F0 m (pc + 3) ls rest)) : W p l e R s m args below meth c H locs ce sl QQ (F0 m pc ls (v :: .ref (b0 + j) :: rest)) := by
  obtain ⟨f1, f2, f3, f4, f5, f6, f7⟩ := hf
  have hts : ∀ w ∈ zBig, w.before args s = true := fun w h => zC_hts (hh := ()) hC h
  have hown := hC.1.2.2.2.1
  have hsame : ∀ x, s.fieldFound? (T k).1 (T k).2.1 (T k).2.2.1 = some x → s.fieldFound? C (T k).2.1 (T k).2.2.1 = some x := fun x h => by rw [f5] at h; exact h
  have hap := va_apart (own := own) hts f2 ty f6 f7 hC.2.1 f1
  obtain ⟨r, h1, cell, q1, q2, q3, q4⟩ := hP j _ (zW_at hj)
  have hr : r = (C, T, N) := Option.some.inj (h1.symm.trans f1)
  subst hr
  obtain ⟨hSl, hfc, kC, hkC, hkind⟩ := hC.2.1.1 ci _ f1
  obtain ⟨cf, kf, fi, f, hi, hsl⟩ := hSl k f3
  have hlay := hts _ (f2 _ (u_in_lay f3))
  unfold u_lay at hlay
  rw [if_pos hfin] at hlay
  have hst := (u_facts hfc hkC (u_lays hts f2 f3) hi).1
  have hcf : m.cls = cf := by
    obtain ⟨_, _, c', _, _, _, -, -, hf', -, -, -, hown2, -⟩ := Cond.laysFinal_spec hlay
    have e1 : c' = cf := by have := hi.symm.trans hf'; simp at this; exact this.1.symm
    rw [hdecl] at hown2
    rw [← e1]; exact Option.some.inj (hown.symm.trans hown2)
  have h6 := u_fits hfc hkC hkind (Or.inr hlay) hi (f6 k f3) hn hfit
  refine W.putFinK hC.1.1 hC.1.2.1 hown (zC_hts (hh := ()) hC hw) (hsame _ hi) hst hcf hin2 (by rw [q2]; exact h6) q1 q3 (by rw [hsl]; exact k2_hasslot (q4 k f3)) rfl rfl hd fun H' e1 e2 e3 => ?_
  rw [hsl] at e1 ⊢
  have hl : k < (zL b0 σ ci j).length := by rw [zL_len, f4]; exact f3
  refine kk H' _ ?_ e2 (hS.put e2 e3 (Nat.le_add_right b0 j))
  rw [← zW_set (σ := σ) (σ' := σ') hj (fun i ki hi _ => hne i ki hi), zE_o, ← hσ]
  exact hP.set zDc (zW_at hj) ⟨_, f1, t_OB.to (V := updV (vp_V (zL b0 σ ci j)) k v) ⟨_, e1, q2, q3, t_set q4 hap f3 v⟩ (fun j _ => vp_updV_set hl v j)⟩ e3
theorem zc_putI {j ci k index : Nat} {v : Int32} {C : String} {T : u_T} {N : Nat} {ty : Nat → FieldType} {f : zS → Option zLS} (hC : zC p c s m args meth cc nL ret w0 own cA D) (hf : zFd ci k C T N ty) (hz : zK ci k = none) (hw : Cond.fieldLink own index C (T k).2.1 (T k).2.2.1 ∈ zBig) (hfin : (T k).2.2.2 = false) (hn : narrow (ty k) (.int v) = .int v) (hfit : fits (ty k) (.int v) = true) (hd : decode cc pc = .ok (.putfield index, 3)) (hp : pc + 3 = pc') (kk : ∀ σ' : zS, zK1 p l e R s m args below meth c b0 cA D Q (f σ') L σ' ce sl pc' ls rest) : zK1 p l e R s m args below meth c b0 cA D Q (zQ L j (0, ci) (bnd (zI σ j k v) f)) L σ ce sl pc ls (.int v :: .ref (b0 + j) :: rest) := by
  subst hp
  intro z hz0 H locs hP hZ hS
  obtain ⟨hj, -, hz0⟩ := zQ_some hz0
  exact zc_put hC hj hf hw hfin hn hfit hd hP hS (zL_setI hz) (fun i ki hi => zE_ne (zI_ne hi) rfl) (fun H1 locs1 h1 h2 h3 => kk _ z hz0 H1 locs1 h1 (h2.trans hZ) h3)
theorem zc_putR {j ci k index v : Nat} {kd : Nat × Nat} {C : String} {T : u_T} {N : Nat} {ty : Nat → FieldType} {f : zS → Option zLS} (hC : zC p c s m args meth cc nL ret w0 own cA D) (hf : zFd ci k C T N ty) (hz : zK ci k = some kd) (hw : Cond.fieldLink own index C (T k).2.1 (T k).2.2.1 ∈ zBig) (hfin : (T k).2.2.2 = false) (hn : ∀ a, narrow (ty k) (.ref a) = .ref a) (hfit : ∀ a, fits (ty k) (.ref a) = true) (hd : decode cc pc = .ok (.putfield index, 3)) (hp : pc + 3 = pc') (kk : ∀ σ' : zS, zK1 p l e R s m args below meth c b0 cA D Q (f σ') L σ' ce sl pc' ls rest) : zK1 p l e R s m args below meth c b0 cA D Q (zQ L j (0, ci) (zQ L v kd (bnd (zR σ j k v) f))) L σ ce sl pc ls (.ref (b0 + v) :: .ref (b0 + j) :: rest) := by
  subst hp
  intro z hz0 H locs hP hZ hS
  obtain ⟨hj, -, hz0⟩ := zQ_some hz0
  obtain ⟨-, hv, hz0⟩ := zQ_some hz0
  exact zc_put hC hj hf hw hfin (hn _) (hfit _) hd hP hS (zL_setR hz (zO_nn hv)) (fun i ki hi => zE_ne rfl (zR_ne hi)) (fun H1 locs1 h1 h2 h3 => kk _ z hz0 H1 locs1 h1 (h2.trans hZ) h3)
theorem zc_putRF {j ci k index v : Nat} {kd : Nat × Nat} {C : String} {T : u_T} {N : Nat} {ty : Nat → FieldType} {f : zS → Option zLS} (hin2 : meth.name = "<init>") (hC : zC p c s m args meth cc nL ret w0 own cA D) (hf : zFd ci k C T N ty) (hz : zK ci k = some kd) (hw : Cond.fieldLink own index C (T k).2.1 (T k).2.2.1 ∈ zBig) (hfin : (T k).2.2.2 = true) (hdecl : (T k).1 = own) (hn : ∀ a, narrow (ty k) (.ref a) = .ref a) (hfit : ∀ a, fits (ty k) (.ref a) = true) (hd : decode cc pc = .ok (.putfield index, 3)) (hp : pc + 3 = pc') (kk : ∀ σ' : zS, zK1 p l e R s m args below meth c b0 cA D Q (f σ') L σ' ce sl pc' ls rest) : zK1 p l e R s m args below meth c b0 cA D Q (zQ L j (0, ci) (zQ L v kd (bnd (zR σ j k v) f))) L σ ce sl pc ls (.ref (b0 + v) :: .ref (b0 + j) :: rest) := by
  subst hp
  intro z hz0 H locs hP hZ hS
  obtain ⟨hj, -, hz0⟩ := zQ_some hz0
  obtain ⟨-, hv, hz0⟩ := zQ_some hz0
  exact zc_putF hC hj hf hw hfin hin2 hdecl (hn _) (hfit _) hd hP hS (zL_setR hz (zO_nn hv)) (fun i ki hi => zE_ne rfl (zR_ne hi)) (fun H1 locs1 h1 h2 h3 => kk _ z hz0 H1 locs1 h1 (h2.trans hZ) h3)
theorem zc_new {ci index : Nat} {C : String} {T : u_T} {N : Nat} {ty : Nat → FieldType} {f : Nat → List (Nat × Nat) → zS → Option zLS} (hC : zC p c s m args meth cc nL ret w0 own cA D) (hf : zFd ci 0 C T N ty) (hnw : zNewOK ci N ty) (h1 : Cond.classLink own index C ∈ zBig) (h2 : Cond.instantiable C N ∈ zBig) (h3 : Cond.initialized C ∈ zBig) (hce : ce + 1 ≤ R.cells) (hsl : sl + N ≤ R.slots) (hd : decode cc pc = .ok (.new index, 3)) (hp : pc + 3 = pc') (kk : ∀ (x : Nat) (L' : List (Nat × Nat)) (σ' : zS), zK1 p l e R s m args below meth c b0 cA D Q (f x L' σ') L' σ' (ce + 1) (sl + N) pc' ls (.ref (b0 + x) :: rest)) : zK1 p l e R s m args below meth c b0 cA D Q (znw L σ (0, ci) f) L σ ce sl pc ls rest := by
  subst hp
  intro z hz0 H locs hP hZ hS
  obtain ⟨f1, f2, f3, f4, f5, f6, f7⟩ := hf
  have hts : ∀ w ∈ zBig, w.before args s = true := fun w h => zC_hts (hh := ()) hC h
  have hKn := hC.2.1.1 ci _ f1
  refine W.newcK hC.1.1 hC.1.2.1 hC.1.2.2.2.1 (hts _ h1) (hts _ h2) (hts _ h3) rfl hd hce hsl hKn.2.1 hZ fun H1 kC hkC e1 z1 o1 => ?_
  have hk : ∀ (k : Nat) (x : Nat × va_E), (zW b0 cA L σ)[k]? = some x → H1[x.1]? = H[x.1]? := fun k x hx => o1 x.1 (by rw [← hZ]; exact (hP k x hx).lt)
  refine kk L.length (L ++ [(0, ci)]) (zNw σ L.length) z hz0 H1 locs ?_ (by rw [z1, List.length_append, List.length_singleton]; omega) ⟨Nat.le_trans hS.1 (by omega), fun x g1 g2 => (o1 x (by rw [← hZ]; exact Nat.lt_of_lt_of_le g1 hS.1)).trans (hS.2.1 x g1 g2), hS.2.2⟩
  rw [zW_app]
  refine (hP.kept hk).app (fun k x hx => ?_)
  have hz : k < 1 := (List.getElem?_eq_some_iff.mp hx).1
  rw [show k = 0 by omega] at hx
  cases hx
  refine ⟨_, f1, (u_born ty hts f2 hKn hkC e1 f6).to (fun k hk => ?_)⟩
  show defaultValue (ty k) = (zL b0 (zNw σ L.length) ci L.length).getD k .null
  rw [List.getD_eq_getElem?_getD, zL_at (by rw [f4]; exact hk), hnw k hk, zF_new]
  rfl
theorem zc_newa {t n : Nat} {n' : Int32} {atype : ArrayType} {f : Nat → List (Nat × Nat) → zS → Option zLS} (hC : zC p c s m args meth cc nL ret w0 own cA D) (h1 : Cond.arrayClass (newarray.typeOf atype) ∈ zBig) (ht : (t = 1 ∧ newarray.typeOf atype = .int) ∨ (t = 2 ∧ newarray.typeOf atype = .byte)) (hn : ¬ n' < 0) (hN : n'.toNatClampNeg = n) (hb : n * 4 ≤ 536870912) (hce : ce + 1 ≤ R.cells) (hsl : sl + n ≤ R.slots) (hd : decode cc pc = .ok (.newarray atype, 2)) (hp : pc + 2 = pc') (kk : ∀ (x : Nat) (L' : List (Nat × Nat)) (σ' : zS), zK1 p l e R s m args below meth c b0 cA D Q (f x L' σ') L' σ' (ce + 1) (sl + n) pc' ls (.ref (b0 + x) :: rest)) : zK1 p l e R s m args below meth c b0 cA D Q (znw L σ (t, n) f) L σ ce sl pc ls (.int n' :: rest) := by
  subst hp
  intro z hz0 H locs hP hZ hS
  have hbb : n * componentBytes (newarray.typeOf atype) ≤ 536870912 := by
    rcases ht with ⟨-, h⟩ | ⟨-, h⟩
    · rw [h]; exact hb
    · rw [h]; show n * 1 ≤ _; omega
  refine va_newaK hC.1.1 hC.1.2.1 (zC_hts (hh := ()) hC h1) rfl hd rfl hn hN hbb hce hsl hZ fun H1 cB e1 z1 o1 hAr hNm => ?_
  have hk : ∀ (k : Nat) (x : Nat × va_E), (zW b0 cA L σ)[k]? = some x → H1[x.1]? = H[x.1]? := fun k x hx => o1 x.1 (by rw [← hZ]; exact (hP k x hx).lt)
  refine kk L.length (L ++ [(t, n)]) (zNw σ L.length) z hz0 H1 locs ?_ (by rw [z1, List.length_append, List.length_singleton]; omega) ⟨Nat.le_trans hS.1 (by omega), fun x g1 g2 => (o1 x (by rw [← hZ]; exact Nat.lt_of_lt_of_le g1 hS.1)).trans (hS.2.1 x g1 g2), hS.2.2⟩
  rw [zW_app]
  refine (hP.kept hk).app (fun k x hx => ?_)
  have hz : k < 1 := (List.getElem?_eq_some_iff.mp hx).1
  rw [show k = 0 by omega] at hx
  cases hx
  have h0 : (zNw σ L.length).1 L.length = fun _ => 0 := by funext b; simp [zNw]
  rcases ht with ⟨rfl, h⟩ | ⟨rfl, h⟩
  · have hc : cB = cA 1 := by
      rw [h] at hNm
      have h2 : s.vm.findClass ("[" ++ FieldType.int.toString) = some (cA 1) := (hC.2.1.2 0 (cA 1, .int) rfl).2
      exact Option.some.inj (hNm.symm.trans h2)
    show H1[b0 + L.length]? = some (vp_cell (cA 1) (n, .inl ((zNw σ L.length).1 L.length)))
    rw [h0, e1, hc, h]
    rfl
  · have hc : cB = cA 2 := by
      rw [h] at hNm
      have h2 : s.vm.findClass ("[" ++ FieldType.byte.toString) = some (cA 2) := (hC.2.1.2 1 (cA 2, .byte) rfl).2
      exact Option.some.inj (hNm.symm.trans h2)
    show H1[b0 + L.length]? = some (vp_cell (cA 2) (n, .inl ((zNw σ L.length).1 L.length)))
    rw [h0, e1, hc, h]
    rfl
theorem zc_anew {t n index : Nat} {n' : Int32} {C : String} {f : Nat → List (Nat × Nat) → zS → Option zLS} (hC : zC p c s m args meth cc nL ret w0 own cA D) (h1 : Cond.classLink own index C ∈ zBig) (hAO : va_AO C s) (ht : (t = 3 ∧ C = RX3) ∨ (t = 4 ∧ C = RX4)) (hn : ¬ n' < 0) (hN : n'.toNatClampNeg = n) (hb : n * 4 ≤ 536870912) (hce : ce + 1 ≤ R.cells) (hsl : sl + n ≤ R.slots) (hd : decode cc pc = .ok (.anewarray index, 3)) (hp : pc + 3 = pc') (kk : ∀ (x : Nat) (L' : List (Nat × Nat)) (σ' : zS), zK1 p l e R s m args below meth c b0 cA D Q (f x L' σ') L' σ' (ce + 1) (sl + n) pc' ls (.ref (b0 + x) :: rest)) : zK1 p l e R s m args below meth c b0 cA D Q (znw L σ (t, n) f) L σ ce sl pc ls (.int n' :: rest) := by
  subst hp
  subst hN
  intro z hz0 H locs hP hZ hS
  refine W.anew hC.1.1 hC.1.2.1 hC.1.2.2.2.1 (zC_hts (hh := ()) hC h1) (va_AO.use hAO) rfl hd rfl hn hb hce hsl fun cB kA comp g1 g2 g3 g4 => ?_
  generalize hH1 : H.push ({ cls := cB, slots := Array.replicate n'.toNatClampNeg .null, vm := .none } : Cell) = H1
  have z1 : H1.size = H.size + 1 := by rw [← hH1, Array.size_push]
  have e1 : H1[H.size]? = some (arrV cB n'.toNatClampNeg (fun _ => .null)) := by rw [← hH1, Array.getElem?_push_size, ← arrV_new]
  have o1 : ∀ q : Nat, q < H.size → H1[q]? = H[q]? := fun q hq => by rw [← hH1, Array.getElem?_push, if_neg (Nat.ne_of_lt hq)]
  have hk : ∀ (k : Nat) (x : Nat × va_E), (zW b0 cA L σ)[k]? = some x → H1[x.1]? = H[x.1]? := fun k x hx => o1 x.1 (hP k x hx).lt
  refine W.eq (g2 := F0 m (pc + 3) ls (.ref (b0 + L.length) :: rest)) (by rw [hZ]) ?_
  refine kk L.length (L ++ [(t, n'.toNatClampNeg)]) (zNw σ L.length) z hz0 H1 locs ?_ (by rw [z1, List.length_append, List.length_singleton]; omega) ⟨Nat.le_trans hS.1 (by omega), fun x g1 g2 => (o1 x (Nat.lt_of_lt_of_le g1 hS.1)).trans (hS.2.1 x g1 g2), hS.2.2⟩
  rw [zW_app]
  refine (hP.kept hk).app (fun k x hx => ?_)
  have hz : k < 1 := (List.getElem?_eq_some_iff.mp hx).1
  rw [show k = 0 by omega] at hx
  cases hx
  have h0 : (fun i => zO b0 ((zNw σ L.length).2 L.length i)) = fun _ => none := by funext b; simp [zNw, zO]
  rw [hZ] at e1
  rcases ht with ⟨rfl, rfl⟩ | ⟨rfl, rfl⟩
  · have hc : cB = cA 3 := by
      obtain ⟨_, _, -, -, -, h2⟩ := (hC.2.1.2 2 (cA 3, .object RX3) rfl).2
      exact Option.some.inj (g1.symm.trans h2)
    show H1[b0 + L.length]? = some (vp_cell (cA 3) (n'.toNatClampNeg, .inr (.inr (.inr (.inr (fun i => zO b0 ((zNw σ L.length).2 L.length i)))))))
    rw [h0, e1, hc]
    rfl
  · have hc : cB = cA 4 := by
      obtain ⟨_, _, -, -, -, h2⟩ := (hC.2.1.2 3 (cA 4, .object RX4) rfl).2
      exact Option.some.inj (g1.symm.trans h2)
    show H1[b0 + L.length]? = some (vp_cell (cA 4) (n'.toNatClampNeg, .inr (.inr (.inr (.inr (fun i => zO b0 ((zNw σ L.length).2 L.length i)))))))
    rw [h0, e1, hc]
    rfl
theorem zc_iast {j n : Nat} {i v : Int32} {f : zS → Option zLS} (hC : zC p c s m args meth cc nL ret w0 own cA D) (hd : decode cc pc = .ok (.iastore, 1)) (hp : pc + 1 = pc') (k : ∀ σ' : zS, zK1 p l e R s m args below meth c b0 cA D Q (f σ') L σ' ce sl pc' ls rest) : zK1 p l e R s m args below meth c b0 cA D Q (zQ L j (1, n) (zX i n (bnd (zI σ j i.toNatClampNeg v) f))) L σ ce sl pc ls (.int v :: .int i :: .ref (b0 + j) :: rest) := by
  subst hp
  intro z hz H locs hP hZ hS
  obtain ⟨hj, -, hz⟩ := zQ_some hz
  obtain ⟨h1, h2⟩ := zX_some hz
  refine W.iast hC.1.1 hC.1.2.1 (hP j _ (zW_at hj)) ((hC.2.1.2 0 (cA 1, .int) rfl).1 n (fun q => .int (σ.1 j q))) (fun q => by cases q) (by show ¬ (i < 0 ∨ (arrV _ _ _).slots.size ≤ _); rw [arrV_size]; exact h1) rfl rfl hd fun H1 e1 z1 oq => ?_
  refine k (zI σ j i.toNatClampNeg v) z h2 H1 _ ?_ (z1.trans hZ) (hS.put z1 oq (Nat.le_add_right b0 j))
  rw [← zW_set (σ := σ) (σ' := zI σ j i.toNatClampNeg v) hj (fun i ki hi _ => zE_ne (zI_ne hi) rfl)]
  refine hP.set zDc (zW_at hj) ?_ oq
  show H1[b0 + j]? = some (vp_cell (cA 1) (n, .inl ((zI σ j i.toNatClampNeg v).1 j)))
  rw [e1]
  show some ((arrV (cA 1) n fun q => .int (σ.1 j q)).setSlot i.toNatClampNeg (.int v)) = _
  rw [vp_cell_i, arrV_store]
  congr 2
  funext q
  by_cases hq : q = i.toNatClampNeg
  · subst hq
    simp [updV, zI]
  · simp [updV, zI, hq]
theorem zc_aast {j n t v : Nat} {i : Int32} {f : zS → Option zLS} (hC : zC p c s m args meth cc nL ret w0 own cA D) (ht : t = 0 ∨ t = 1) (hd : decode cc pc = .ok (.aastore, 1)) (hp : pc + 1 = pc') (k : ∀ σ' : zS, zK1 p l e R s m args below meth c b0 cA D Q (f σ') L σ' ce sl pc' ls rest) : zK1 p l e R s m args below meth c b0 cA D Q (zQ L j (t + 3, n) (zQ L v (0, t + 3) (zX i n (bnd (zR σ j i.toNatClampNeg v) f)))) L σ ce sl pc ls (.ref (b0 + v) :: .int i :: .ref (b0 + j) :: rest) := by
  subst hp
  intro z hz H locs hP hZ hS
  obtain ⟨hj, -, hz⟩ := zQ_some hz
  obtain ⟨hv, hvn, hz⟩ := zQ_some hz
  obtain ⟨h1, h2⟩ := zX_some hz
  have hlt : i.toNatClampNeg < n := Nat.not_le.mp fun q => h1 (Or.inr q)
  have h0 : ¬ i < 0 := fun q => h1 (Or.inl q)
  obtain ⟨r', hr', cellV, g1, g2, g3, -⟩ := hP v _ (zW_at hv)
  have key : ∃ (r : vw_C), vwCl[t + 3]? = some r ∧ (zTy cA)[t + 2]? = some (cA (t + 3), .object r.1) := by
    rcases ht with rfl | rfl
    · exact ⟨(RX3, TX3, 5), rfl, rfl⟩
    · exact ⟨(RX4, TX4, 3), rfl, rfl⟩
  obtain ⟨r, hc, htt⟩ := key
  have hcls := (hC.2.1.1 (t + 3) r hc).2
  obtain ⟨kA, comp, k1, k2, k3, -⟩ := (hC.2.1.2 (t + 2) _ htt).2
  have hcomp : comp = D.1 (t + 3) := Option.some.inj (k3.symm.trans hcls.1)
  subst hcomp
  obtain ⟨kC, hkC, -⟩ := id hcls.2
  refine W.aast hC.1.1 hC.1.2.1 (hP j _ (zW_at hj)) (fun q h => by cases h) (fun h => by cases h) k1 k2 rfl hkC ⟨h0, by show _ < (arrV _ _ _).slots.size; rw [arrV_size]; exact hlt⟩ g1 (fun q h => by rw [g3] at h; cases h) (by rw [g2]; exact hkC) (by rw [g2]; exact va_assign hcls) rfl rfl hd fun H1 e1 z1 oq => ?_
  refine k (zR σ j i.toNatClampNeg v) z h2 H1 _ ?_ (z1.trans hZ) (hS.put z1 oq (Nat.le_add_right b0 j))
  rw [← zW_set (σ := σ) (σ' := zR σ j i.toNatClampNeg v) hj (fun i ki hi _ => zE_ne rfl (zR_ne hi))]
  refine hP.set zDc (zW_at hj) ?_ oq
  show H1[b0 + j]? = some (vp_cell (cA (t + 3)) (n, .inr (.inr (.inr (.inr (fun i_1 => zO b0 ((zR σ j i.toNatClampNeg v).2 j i_1)))))))
  rw [e1]
  show some ((arrV (cA (t + 3)) n fun q => va_rf (zO b0 (σ.2 j q))).setSlot i.toNatClampNeg (.ref (b0 + v))) = _
  rw [vp_cell_q, arrV_store]
  congr 2
  funext q
  by_cases hq : q = i.toNatClampNeg
  · subst hq
    simp [updV, zR, zO_nn hvn, va_rf]
  · simp [updV, zR, hq]
theorem zc_ret {mc ms : Nat} (hC : zC p c s m args meth cc nL none w0 own cA D) (hce : ce = mc) (hsl : sl = ms) (hd : decode cc pc = .ok (.return_, 1)) : zK1 p l e R s m args below meth c b0 cA D (fun z => MQ below (va_Qv (fun (u : zLS) => u = z) (zBd b0 cA D) (zAc b0)) args s mc ms (zAc b0)) (some (L, σ)) L σ ce sl pc ls [] := by
  subst hce; subst hsl
  intro z hz H locs hP hZ hS
  cases hz
  exact W.vret hC.1.1 hC.1.2.1 hC.2.2.1 (fun t ht hW => ⟨⟨(L, σ), rfl, rfl, by rw [ht]; exact hP, by rw [ht]; exact hZ⟩, hS.F ht⟩) hS.2.2 hd hC.2.2.2
end ZC
def zMc (l : Launch) (b0 : Nat) (cA : Nat → ClassId) (D : va_G) (y : MethodName) (w0 : Cond) (rm : Room) (av : List Value) (L : List (Nat × Nat)) (σ : zS) (o : Option zLS) : Prop :=
  ∀ z, o = some z → Met l y (w0 :: zBig) rm (va_Pc av (zBc b0 cA D L σ)) (va_Qv (fun (u : zLS) => u = z) (zBd b0 cA D) (zAc b0)) rm.cells rm.slots (zAc b0)
theorem zMc_of {l : Launch} {b0 : Nat} {cA : Nat → ClassId} {D : va_G} {L : List (Nat × Nat)} {y : MethodName} {cc : ByteArray} {maxL : Nat} {rm : Room} {av : List Value} {σ : zS} {o : Option zLS} (hy : plainName y.cls = true) (hyi : y.name = "<init>") (hlen : (lg_sl av).length ≤ maxL)
    (body : ∀ (p : Program) (e : Env) (s : State) (m : MethodId) (below : List Frame) (meth : Method) (c : Code) (ls : Array Slot), zNX s → meth.name = "<init>" → zC p c s m av.toArray meth cc maxL none (Cond.code y cc maxL none) y.cls cA D → lv_has ls maxL (lv_args 0 av) → zK1 p l e rm s m av.toArray below meth c b0 cA D (fun z => MQ below (va_Qv (fun (u : zLS) => u = z) (zBd b0 cA D) (zAc b0)) av.toArray s rm.cells rm.slots (zAc b0)) o L σ 0 0 0 ls []) :
    zMc l b0 cA D y (Cond.code y cc maxL none) rm av L σ o := by
  intro z hz
  refine Met.ofW (cc := cc) (maxL := maxL) (ret := none) hy rfl ?_
  intro p e s m args below meth c s₁ B hml hv
  obtain ⟨rfl, ⟨hP, hZ⟩, hK, hN⟩ := hv
  have hmn : meth.name = "<init>" := by rw [← hyi]; exact (name_of_methodNamed B.named B.method).1
  rw [lg_entry_eq]
  exact body p e s m below meth c _ hN hmn ⟨⟨B.exec, B.bytes, hml, findClass_of_methodNamed B.named, atoms_spec (ws := Cond.code y cc maxL none :: zBig) B.pre⟩, hK, B.returns, B.notSynchronized⟩ (lv_entry av hlen) z hz s.heap [] hP hZ va_S.rf
theorem z_blindc {b0 : Nat} {cA : Nat → ClassId} {D : va_G} {L : List (Nat × Nat)} {σ : zS} {av : List Value} : FrameBlind (va_Pc av (zBc b0 cA D L σ)) := fun a U g mk q => by
  obtain ⟨q0, ⟨qP, qZ⟩, qK, qN⟩ := q
  exact ⟨q0, ⟨qP, qZ⟩, va_K.moved (u := U) (U := U.calling g mk a) (Vm.Alike.refl U.vm) qK, zNX.same (u := U) rfl qN⟩
section ZCC
variable {p : Program} {l : Launch} {e : Env} {R : Room} {s : State} {m : MethodId} {args : Array Value} {below : List Frame} {meth : Method} {c : Code} {b0 : Nat} {cA : Nat → ClassId} {D : va_G} {L : List (Nat × Nat)} {Q : zLS → State → Prop} {σ : zS} {ce sl pc pc' : Nat} {ls : Array Slot} {st rest : List Value} {cc : ByteArray} {nL : Nat} {ret : Option FieldType} {w0 : Cond} {own : String}
theorem zc_callI {y : MethodName} {bytes : ByteArray} {maxL index j : Nat} {rm : Room} {As : List Value} {nA : Nat} {o1 : Option zLS} {g : List (Nat × Nat) → zS → Option zLS} (hNX : zNX s) (hC : zC p c s m args meth cc nL ret w0 own cA D) (hM : zMc l b0 cA D y (Cond.code y bytes maxL none) rm (.ref (b0 + j) :: As) L σ o1) (hcy : Cond.code y bytes maxL none ∈ zBig) (hl : Cond.methodLink own index y ∈ zBig) (hin : Cond.instanceMethod y ∈ zBig) (hini : Cond.initialized y.cls ∈ zBig) (hyi : y.name = "<init>") (hdd : y.cls ≠ "java/lang/invoke/MethodHandle" ∧ y.cls ≠ "java/lang/invoke/VarHandle" ∧ (parseMethodDescriptor y.desc).map (fun d => d.parameters.length) = some nA) (hnA : As.length = nA) (hroom : rm.frames + 1 ≤ R.frames ∧ 8 + (maxL + 11) + rm.locals ≤ R.locals) (hcs : ce + rm.cells ≤ R.cells ∧ sl + rm.slots ≤ R.slots) (hls : ls.size = nL) (hrest : (rest.map fun v => v.category).sum ≤ 8) (hst : st = As.reverse ++ .ref (b0 + j) :: rest) (hd : decode cc pc = .ok (.invokespecial index, 3)) (hp : pc + 3 = pc')
    (k : ∀ (L' : List (Nat × Nat)) (σ' : zS), zK1 p l e R s m args below meth c b0 cA D Q (g L' σ') L' σ' (ce + rm.cells) (sl + rm.slots) pc' ls rest) : zK1 p l e R s m args below meth c b0 cA D Q (zb o1 g) L σ ce sl pc ls st := by
  subst hp; subst hst
  intro z hz H locs hP hZ hS
  obtain ⟨w, hw, hg⟩ := Option.bind_eq_some_iff.mp hz
  refine va_callv (va_runI (As := As) (rest := rest) (bytes := bytes) (maxL := maxL) hC.1 (hM w hw) ⟨callB_of nA hC.1.2.2.2.2 (z_goodIn hcy) rfl rfl rfl (zC_hts (hh := ()) hC hini) (zC_hts (hh := ()) hC hl) hdd hroom, hyi, zC_hts (hh := ()) hC hin⟩ ⟨z_blindc, fun U hU hW => ⟨rfl, ⟨by rw [hU]; exact hP, by rw [hU]; exact hZ⟩, va_K.moved hW.alike hC.2.1, zNX.warm hW hNX⟩⟩ rfl hnA hls rfl (lv_room hrest) hd hcs) hS (fun q _ h => h) (fun q h => h) (fun u t H1 locs1 ht hvm hw2 hB hz1 hk1 hS1 => ?_)
  subst hw2
  exact k u.1 u.2 z hg H1 locs1 (by rw [← ht]; exact hB.1) (by rw [← ht]; exact hB.2) hS1
theorem zc_callIN {y : MethodName} {bytes : ByteArray} {maxL index j : Nat} {host : String} {rm : Room} {As : List Value} {nA : Nat} {o1 : Option zLS} {g : List (Nat × Nat) → zS → Option zLS} (hNX : zNX s) (hC : zC p c s m args meth cc nL ret w0 own cA D) (hM : zMc l b0 cA D y (Cond.code y bytes maxL none) rm (.ref (b0 + j) :: As) L σ o1) (hcy : Cond.code y bytes maxL none ∈ zBig) (hl : va_Nw (.methodLinkNest own index y host) s) (hin : Cond.instanceMethod y ∈ zBig) (hini : Cond.initialized y.cls ∈ zBig) (hyi : y.name = "<init>") (hdd : y.cls ≠ "java/lang/invoke/MethodHandle" ∧ y.cls ≠ "java/lang/invoke/VarHandle" ∧ (parseMethodDescriptor y.desc).map (fun d => d.parameters.length) = some nA) (hnA : As.length = nA) (hroom : rm.frames + 1 ≤ R.frames ∧ 8 + (maxL + 11) + rm.locals ≤ R.locals) (hcs : ce + rm.cells ≤ R.cells ∧ sl + rm.slots ≤ R.slots) (hls : ls.size = nL) (hrest : (rest.map fun v => v.category).sum ≤ 8) (hst : st = As.reverse ++ .ref (b0 + j) :: rest) (hd : decode cc pc = .ok (.invokespecial index, 3)) (hp : pc + 3 = pc')
    (k : ∀ (L' : List (Nat × Nat)) (σ' : zS), zK1 p l e R s m args below meth c b0 cA D Q (g L' σ') L' σ' (ce + rm.cells) (sl + rm.slots) pc' ls rest) : zK1 p l e R s m args below meth c b0 cA D Q (zb o1 g) L σ ce sl pc ls st := by
  subst hp; subst hst
  intro z hz H locs hP hZ hS
  obtain ⟨w, hw, hg⟩ := Option.bind_eq_some_iff.mp hz
  refine va_callv (va_runIN (As := As) (rest := rest) (bytes := bytes) (maxL := maxL) hC.1 (hM w hw) ⟨va_cnB nA hC.1.2.2.2.2 (z_goodIn hcy) rfl rfl rfl hl (zC_hts (hh := ()) hC hini) hdd hroom, hyi, zC_hts (hh := ()) hC hin⟩ ⟨z_blindc, fun U hU hW => ⟨rfl, ⟨by rw [hU]; exact hP, by rw [hU]; exact hZ⟩, va_K.moved hW.alike hC.2.1, zNX.warm hW hNX⟩⟩ rfl hnA hls rfl (lv_room hrest) hd hcs) hS (fun q _ h => h) (fun q h => h) (fun u t H1 locs1 ht hvm hw2 hB hz1 hk1 hS1 => ?_)
  subst hw2
  exact k u.1 u.2 z hg H1 locs1 (by rw [← ht]; exact hB.1) (by rw [← ht]; exact hB.2) hS1
end ZCC
