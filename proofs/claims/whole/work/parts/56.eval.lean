/-! ===== conditions as code: op and vl by place ===== -/
def rk (o : Nat) (x y : Int32) : Int32 := if o = 2 then x + y else if o = 3 then x - y else if o = 4 then x * y else if o = 5 then x / y else if o = 6 then x - x / y * y else if o = 7 then (if y ≤ x then 0 else 1) else if o = 8 then (if x ≤ y then 0 else 1) else (if x = y then 1 else 0)
/-- the code asked: 0 number, 1 letter, 2 .. 9 reckoned, 10 not, 11 12 jumps; what is divided by 0 is refused -/
def aRun (op vl : Nat → Nat) (φ : Nat → Int32) (T : Nat) : Nat → Nat → List Int32 → Option Int32
  | 0, _, _ => none
  | n + 1, i, st => if T ≤ i then st.head? else
    if op i = 0 then aRun op vl φ T n (i + 1) (nI (vl i) :: st)
    else if op i = 1 then aRun op vl φ T n (i + 1) (φ (vl i) :: st)
    else match st with
      | [] => none
      | y :: st =>
        if op i = 10 then aRun op vl φ T n (i + 1) ((1 - y) :: st)
        else if op i = 11 then (if y = 0 then aRun op vl φ T n (vl i) (y :: st) else aRun op vl φ T n (i + 1) st)
        else if op i = 12 then (if y = 1 then aRun op vl φ T n (vl i) (y :: st) else aRun op vl φ T n (i + 1) st)
        else match st with
          | [] => none
          | x :: st => if (op i = 5 ∨ op i = 6) ∧ y = 0 then some 0 else aRun op vl φ T n (i + 1) (rk (op i) x y :: st)
/-- a certificate: how high the stack is, whether a truth lies on top -/
def wfI (op vl : Nat → Nat) (T : Nat) (dep : Nat → Nat) (bo : Nat → Bool) (i : Nat) : Prop :=
  dep i ≤ 30 ∧ vl i < 1048576 ∧ ((op i = 0 ∧ dep (i + 1) = dep i + 1 ∧ bo (i + 1) = false) ∨ (op i = 1 ∧ vl i < 12 ∧ dep (i + 1) = dep i + 1 ∧ bo (i + 1) = false) ∨ (op i = 10 ∧ 1 ≤ dep i ∧ bo i = true ∧ dep (i + 1) = dep i) ∨ ((op i = 11 ∨ op i = 12) ∧ 1 ≤ dep i ∧ bo i = true ∧ dep (i + 1) + 1 = dep i ∧ bo (i + 1) = false ∧ i < vl i ∧ vl i ≤ T ∧ dep (vl i) = dep i) ∨ (2 ≤ op i ∧ op i ≤ 9 ∧ 2 ≤ dep i ∧ dep (i + 1) + 1 = dep i ∧ (bo (i + 1) = true → 7 ≤ op i)))
def wf (op vl : Nat → Nat) (F T : Nat) (dep : Nat → Nat) (bo : Nat → Bool) : Prop := dep F = 0 ∧ bo F = false ∧ dep T = 1 ∧ bo T = true ∧ F < T ∧ T ≤ 124 ∧ ∀ i, F ≤ i → i < T → wfI op vl T dep bo i
def topB (b : Bool) (st : List Int32) : Prop := b = true → ∃ x l, st = x :: l ∧ (x = 0 ∨ x = 1)
def stk (A : Nat → Int32) : List Int32 → Prop
  | [] => True
  | x :: l => A l.length = x ∧ stk A l
theorem stk_upd {A : Nat → Int32} {k : Nat} {v : Int32} : ∀ {l : List Int32}, stk A l → l.length ≤ k → stk (upd A k v) l
  | [], _, _ => trivial
  | x :: l, h, hk => by
    have hk : l.length + 1 ≤ k := hk
    exact ⟨by rw [pk_un (by omega)]; exact h.1, stk_upd h.2 (by omega)⟩
theorem rk_B {o : Nat} (h : 7 ≤ o) (x y : Int32) : rk o x y = 0 ∨ rk o x y = 1 := by
  unfold rk
  rw [if_neg (by omega), if_neg (by omega), if_neg (by omega), if_neg (by omega), if_neg (by omega)]
  repeat' split
  all_goals simp
theorem zA1_18 {σ : zS} {A : Nat → Int32} {a : Nat} (h : ¬ a = 18) : (zA1 σ 18 A).1 a = σ.1 a := zA1_o h
theorem m_reckon (o : Nat) (h1 : 2 ≤ o) (h2 : o ≤ 9) (x y : Int32) (hy : ¬ ((o = 5 ∨ o = 6) ∧ y = 0)) (σ : zS) : fX7_reckon (nI o) x y σ = some (rk o x y, σ) := by
  have : o = 2 ∨ o = 3 ∨ o = 4 ∨ o = 5 ∨ o = 6 ∨ o = 7 ∨ o = 8 ∨ o = 9 := by omega
  unfold fX7_reckon
  rcases this with rfl | rfl | rfl | rfl | rfl | rfl | rfl | rfl
  · rfl
  · rfl
  · rfl
  · have hy : ¬ y = 0 := fun q => hy ⟨Or.inl rfl, q⟩
    show zV y _ = _
    rw [zV_in hy]; rfl
  · have hy : ¬ y = 0 := fun q => hy ⟨Or.inr rfl, q⟩
    show zV y _ = _
    rw [zV_in hy]; rfl
  · show (if y ≤ x then _ else _) = some (if y ≤ x then 0 else 1, σ)
    split <;> rfl
  · show (if x ≤ y then _ else _) = some (if x ≤ y then 0 else 1, σ)
    split <;> rfl
  · show (if x = y then _ else _) = some (if x = y then 1 else 0, σ)
    split <;> rfl
/-- the twelve letters alone -/
def msk (φ : Nat → Int32) : Nat → Int32 := fun k => if k < 12 then φ k else 0
theorem msk_eq {φ ψ : Nat → Int32} (h : ∀ k, k < 12 → φ k = ψ k) : msk φ = msk ψ := by
  funext k
  unfold msk
  split
  · exact h k (by assumption)
  · rfl
/-- the reference asks a condition -/
theorem m_true {op vl : Nat → Nat} {F T : Nat} {dep : Nat → Nat} {bo : Nat → Bool} (hw : wf op vl F T dep bo) {σ : zS} (hm : mR σ.2) {x base : Nat} (hx : x < 48) (hb : base ≤ 420) (hto : σ.1 17 x = nI (base + T)) (hco : ∀ i, F ≤ i → i < T → σ.1 13 (base + i) = nI (1048576 * op i + vl i)) :
    ∀ (n i : Nat) (st : List Int32) (A : Nat → Int32), F ≤ i → i ≤ T → T < i + n → st.length = dep i → topB (bo i) st → stk A st → ∃ (r : Int32) (A' : Nat → Int32), (r = 0 ∨ r = 1) ∧ aRun op vl (msk (σ.1 19)) T n i st = some r ∧ fX7_isTrue_19 n 0 (nI x) (nI st.length) (nI base) (nI (base + i)) (zA1 σ 18 A) = some (r, zA1 σ 18 A') := by
  obtain ⟨d0, b0, dT, bT, hFT, hT, hI⟩ := hw
  intro n
  induction n with
  | zero => intro i st A h1 h2 h3; exact absurd h3 (by omega)
  | succ n ih =>
    intro i st A h1 h2 h3 hlen htop hst
    show ∃ (r : Int32) (A' : Nat → Int32), (r = 0 ∨ r = 1) ∧ aRun op vl (msk (σ.1 19)) T (n + 1) i st = some r ∧ bX7_isTrue_19 (fX7_isTrue_19 n) 0 (nI x) (nI st.length) (nI base) (nI (base + i)) (zA1 σ 18 A) = some (r, zA1 σ 18 A')
    unfold bX7_isTrue_19 aRun
    simp only [bnd_e, zA1_2, mm29 hm, mm25 hm]
    rw [zX_n hx (by omega), cl_n (by omega), zA1_18 (by decide), hto]
    by_cases hiT : i = T
    · subst hiT
      rw [if_pos (Nat.le_refl _), if_pos (nI_le (by omega) (by omega))]
      obtain ⟨y, l, rfl, hy⟩ := htop bT
      have hl : l = [] := by
        rw [dT] at hlen
        exact List.length_eq_zero_iff.mp (by simpa using hlen)
      subst hl
      refine ⟨y, A, hy, rfl, ?_⟩
      unfold bX7_isTrue_240
      have hA : A 0 = y := hst.1
      simp only [bnd_e, zA1_2, mm30 hm, cl_lit.1, zA1_s, hA]
      rw [zX_l rfl]
      rcases hy with rfl | rfl <;> rfl
    · have hi : i < T := by omega
      obtain ⟨hd, hv, hcase⟩ := hI i h1 hi
      rw [if_neg (by omega), if_neg (nI_ge (by omega) (by omega))]
      rw [zX_n (n := 560) (by omega) (by omega), zX_n (n := 560) (by omega) (by omega), cl_n (by omega), zA1_18 (by decide), hco i h1 hi]
      have hop : op i ≤ 12 := by omega
      have e1 : nI (1048576 * op i + vl i) / (1048576 : Int32) = nI (op i) := by
        show _ / nI 1048576 = _
        rw [pk_div (by omega) (by omega) (by omega)]
        congr 1
        omega
      have e2 : nI (1048576 * op i + vl i) - nI (1048576 * op i + vl i) / (1048576 : Int32) * (1048576 : Int32) = nI (vl i) := by
        show _ - _ / nI 1048576 * nI 1048576 = _
        rw [pk_rem (by omega) (by omega) (by omega)]
        congr 1
        omega
      have e3 : nI (base + i) + 1 = nI (base + (i + 1)) := nI_1 _
      rw [e2, e1, e3]
      simp only [bX7_isTrue_71, bX7_isTrue_93, bX7_isTrue_237, bX7_isTrue_143, bX7_isTrue_163, bX7_isTrue_199, bX7_isTrue_210, bnd_e, zA1_2, mm30 hm, mm31 hm]
      rcases hcase with ⟨ho, hd1, hb1⟩ | ⟨ho, hv12, hd1, hb1⟩ | ⟨ho, hd0, hb0, hd1⟩ | ⟨ho, hd0, hb0, hd1, hb1, hj1, hj2, hj3⟩ | ⟨ho1, ho2, hd0, hd1, hb1⟩
      · rw [ho, if_pos rfl, if_pos nI_0, if_pos nI_0, zX_n (n := 140) (by omega) (by omega), cl_n (by omega), zI_zA1, nI_1]
        exact ih (i + 1) (nI (vl i) :: st) _ (by omega) (by omega) (by omega) (by rw [List.length_cons, hlen, hd1]) (by intro h; rw [hb1] at h; cases h) ⟨pk_us, stk_upd hst (Nat.le_refl _)⟩
      · rw [ho, if_neg (by decide), if_pos rfl, if_neg (by decide), if_pos (by decide), if_neg (by decide), zX_n hv12 (by omega), zX_n (n := 140) (by omega) (by omega), cl_n (by omega), cl_n (by omega), zI_zA1, nI_1, zA1_18 (by decide), show σ.1 19 (vl i) = msk (σ.1 19) (vl i) from (if_pos hv12).symm]
        exact ih (i + 1) (msk (σ.1 19) (vl i) :: st) _ (by omega) (by omega) (by omega) (by rw [List.length_cons, hlen, hd1]) (by intro h; rw [hb1] at h; cases h) ⟨pk_us, stk_upd hst (Nat.le_refl _)⟩
      · obtain ⟨y, l, rfl, hy⟩ := htop hb0
        have hl : l.length + 1 = dep i := hlen
        have e4 : nI (y :: l).length - 1 = nI l.length := nI_pred _
        rw [ho, if_neg (by decide), if_neg (by decide), if_neg (by decide), if_neg (by decide), if_pos (by decide), e4, zX_n (n := 140) (by omega) (by omega), zX_n (n := 140) (by omega) (by omega), cl_n (by omega), zI_zA1, zA1_s, hst.1]
        exact ih (i + 1) ((1 - y) :: l) _ (by omega) (by omega) (by omega) (by rw [List.length_cons, hd1]; exact hl) (fun _ => ⟨1 - y, l, rfl, by rcases hy with rfl | rfl <;> decide⟩) ⟨pk_us, stk_upd hst.2 (Nat.le_refl _)⟩
      · obtain ⟨y, l, rfl, hy⟩ := htop hb0
        have hl : l.length + 1 = dep i := hlen
        have e4 : nI (y :: l).length - 1 = nI l.length := nI_pred _
        have e5 : nI base + nI (vl i) = nI (base + vl i) := nI_add _ _
        have J : ∃ (r : Int32) (A' : Nat → Int32), (r = 0 ∨ r = 1) ∧ aRun op vl (msk (σ.1 19)) T n (vl i) (y :: l) = some r ∧ fX7_isTrue_19 n 0 (nI x) (nI (y :: l).length) (nI base) (nI (base + vl i)) (zA1 σ 18 A) = some (r, zA1 σ 18 A') := ih (vl i) (y :: l) A (by omega) hj2 (by omega) (by rw [hj3]; exact hlen) (fun _ => ⟨y, l, rfl, hy⟩) hst
        have N : ∃ (r : Int32) (A' : Nat → Int32), (r = 0 ∨ r = 1) ∧ aRun op vl (msk (σ.1 19)) T n (i + 1) l = some r ∧ fX7_isTrue_19 n 0 (nI x) (nI l.length) (nI base) (nI (base + (i + 1))) (zA1 σ 18 A) = some (r, zA1 σ 18 A') := ih (i + 1) l A (by omega) (by omega) (by omega) (by omega) (by intro h; rw [hb1] at h; cases h) hst.2
        rcases ho with ho | ho
        · rw [ho, if_neg (by decide), if_neg (by decide), if_neg (by decide), if_neg (by decide), if_neg (by decide), if_pos (by decide), if_neg (by decide), e4, e5, zX_n (n := 140) (by omega) (by omega), cl_n (by omega), zA1_s, hst.1]
          simp only [show ¬ (11 : Nat) = 10 by decide, if_false, if_true]
          by_cases y0 : y = 0
          · rw [if_pos y0, if_pos y0]; exact J
          · rw [if_neg y0, if_neg y0]; exact N
        · rw [ho, if_neg (by decide), if_neg (by decide), if_neg (by decide), if_neg (by decide), if_neg (by decide), if_neg (by decide), if_pos (by decide), if_pos (by decide), e4, e5, zX_n (n := 140) (by omega) (by omega), cl_n (by omega), zA1_s, hst.1]
          simp only [show ¬ (12 : Nat) = 10 by decide, show ¬ (12 : Nat) = 11 by decide, if_false, if_true]
          by_cases y0 : y = 1
          · rw [if_pos y0, if_pos y0]; exact J
          · rw [if_neg y0, if_neg y0]; exact N
      · obtain ⟨y, l, rfl⟩ : ∃ y l, st = y :: l := by
          cases st with
          | nil => rw [← hlen] at hd0; exact absurd hd0 (by simp)
          | cons y l => exact ⟨y, l, rfl⟩
        obtain ⟨z, k, rfl⟩ : ∃ z k, l = z :: k := by
          cases l with
          | nil => rw [← hlen] at hd0; exact absurd hd0 (by simp)
          | cons y l => exact ⟨y, l, rfl⟩
        have hl : k.length + 1 + 1 = dep i := hlen
        have e4 : nI (y :: z :: k).length - 1 = nI (z :: k).length := nI_pred _
        have e6 : nI (z :: k).length - 1 = nI k.length := nI_pred _
        have hlk : (z :: k).length = k.length + 1 := rfl
        have n0 : ∀ (c : Nat) (v : Int32), v = nI c → c < 2 ^ 31 → ¬ op i = c → ¬ nI (op i) = v := fun c v hv hc h q => h ((nI_eq (by omega) hc).mp (q.trans hv))
        have m0 : ¬ op i = 0 := by omega
        have m1 : ¬ op i = 1 := by omega
        have m10 : ¬ op i = 10 := by omega
        have m11 : ¬ op i = 11 := by omega
        have m12 : ¬ op i = 12 := by omega
        rw [if_neg m0, if_neg m1, if_neg (n0 0 (0 : Int32) rfl (by omega) m0), if_neg (n0 1 (1 : Int32) rfl (by omega) m1), if_neg (n0 10 (10 : Int32) rfl (by omega) m10), if_neg (n0 11 (11 : Int32) rfl (by omega) m11), if_neg (n0 12 (12 : Int32) rfl (by omega) m12)]
        simp only [if_neg m10, if_neg m11, if_neg m12]
        rw [e4, e6]
        have hy1 : A (z :: k).length = y := hst.1
        have hz1 : A k.length = z := hst.2.1
        have go : ¬ ((op i = 5 ∨ op i = 6) ∧ y = 0) → ∃ (r : Int32) (A' : Nat → Int32), (r = 0 ∨ r = 1) ∧ aRun op vl (msk (σ.1 19)) T n (i + 1) (rk (op i) z y :: k) = some r ∧ (zX (nI k.length) 140 (zX (nI (z :: k).length) 140 (zb (fX7_reckon (nI (op i)) ((zA1 σ 18 A).1 18 (nI k.length).toNatClampNeg) ((zA1 σ 18 A).1 18 (nI (z :: k).length).toNatClampNeg) (zA1 σ 18 A)) fun r10 σ9 => zX (nI k.length) 140 (fX7_isTrue_19 n 0 (nI x) (nI (z :: k).length) (nI base) (nI (base + (i + 1))) (zI σ9 18 (nI k.length).toNatClampNeg r10))))) = some (r, zA1 σ 18 A') := by
          intro hne
          rw [zX_n (n := 140) (by omega) (by omega), zX_n (n := 140) (i := (z :: k).length) (by omega) (by omega), cl_n (by omega), cl_n (i := (z :: k).length) (by omega), zA1_s, hy1, hz1, m_reckon (op i) ho1 ho2 z y hne, zb_s, zX_n (n := 140) (by omega) (by omega), zI_zA1]
          have q := ih (i + 1) (rk (op i) z y :: k) (upd A k.length (rk (op i) z y)) (by omega) (by omega) (by omega) (by rw [List.length_cons]; omega) (fun h => ⟨_, _, rfl, rk_B (hb1 h) _ _⟩) ⟨pk_us, stk_upd hst.2.2 (Nat.le_refl _)⟩
          exact q
        by_cases h56 : op i = 5 ∨ op i = 6
        · have hz2 : (zX (nI (z :: k).length) 140 : Option (Int32 × zS) → Option (Int32 × zS)) = fun a => a := by funext a; exact zX_n (by omega) (by omega)
          have hred : ∀ (X Y : Option (Int32 × zS)), (if nI (op i) = 5 then X else if nI (op i) = 6 then X else Y) = X := by
            intro X Y
            rcases h56 with h | h
            · rw [h]; rfl
            · rw [h]; rfl
          rw [hred, hz2]
          rw [cl_n (i := (z :: k).length) (by omega), zA1_s, hy1]
          by_cases y0 : y = 0
          · rw [if_pos y0, if_pos ⟨h56, y0⟩]
            exact ⟨0, A, Or.inl rfl, rfl, rfl⟩
          · rw [if_neg y0, if_neg (fun q => y0 q.2)]
            have g := go (fun q => y0 q.2)
            rw [cl_n (i := (z :: k).length) (by omega), zA1_s, hy1, hz2] at g
            exact g
        · have m5 : ¬ op i = 5 := fun q => h56 (Or.inl q)
          have m6 : ¬ op i = 6 := fun q => h56 (Or.inr q)
          rw [if_neg (n0 5 (5 : Int32) rfl (by omega) m5), if_neg (n0 6 (6 : Int32) rfl (by omega) m6), if_neg (fun q => h56 q.1)]
          exact go (fun q => h56 q.1)
