section
/-! ===== the reference reads: its store against the telling ===== -/
def mkM (τ0 : zS) (P F O K L V : Int32) (A B : Nat → Int32) : zS := (fun a b => if a = 0 then (if b = 12 then P else if b = 14 then F else if b = 15 then O else if b = 16 then K else if b = 17 then L else if b = 19 then V else τ0.1 0 b) else if a = 8 then A b else if a = 9 then B b else τ0.1 a b, τ0.2)
section
variable {τ0 : zS} {P F O K L V x : Int32} {A B : Nat → Int32} {i : Nat}
theorem mk12 : zI (mkM τ0 P F O K L V A B) 0 12 x = mkM τ0 x F O K L V A B := by
  show (_, _) = (_, _); congr 1; funext a b; by_cases ha : a = 0
  · subst ha; by_cases hb : b = 12 <;> simp [mkM, hb]
  · simp [mkM, ha]
theorem mk14 : zI (mkM τ0 P F O K L V A B) 0 14 x = mkM τ0 P x O K L V A B := by
  show (_, _) = (_, _); congr 1; funext a b; by_cases ha : a = 0
  · subst ha; by_cases hb : b = 14 <;> simp [mkM, hb]
  · simp [mkM, ha]
theorem mk15 : zI (mkM τ0 P F O K L V A B) 0 15 x = mkM τ0 P F x K L V A B := by
  show (_, _) = (_, _); congr 1; funext a b; by_cases ha : a = 0
  · subst ha; by_cases hb : b = 15 <;> simp [mkM, hb]
  · simp [mkM, ha]
theorem mk16 : zI (mkM τ0 P F O K L V A B) 0 16 x = mkM τ0 P F O x L V A B := by
  show (_, _) = (_, _); congr 1; funext a b; by_cases ha : a = 0
  · subst ha; by_cases hb : b = 16 <;> simp [mkM, hb]
  · simp [mkM, ha]
theorem mk17 : zI (mkM τ0 P F O K L V A B) 0 17 x = mkM τ0 P F O K x V A B := by
  show (_, _) = (_, _); congr 1; funext a b; by_cases ha : a = 0
  · subst ha; by_cases hb : b = 17 <;> simp [mkM, hb]
  · simp [mkM, ha]
theorem mk19 : zI (mkM τ0 P F O K L V A B) 0 19 x = mkM τ0 P F O K L x A B := by
  show (_, _) = (_, _); congr 1; funext a b; by_cases ha : a = 0
  · subst ha; by_cases hb : b = 19 <;> simp [mkM, hb]
  · simp [mkM, ha]
theorem mk8 : zI (mkM τ0 P F O K L V A B) 8 i x = mkM τ0 P F O K L V (upd A i x) B := by
  show (_, _) = (_, _); congr 1; funext a b; by_cases ha : a = 8
  · subst ha; by_cases hb : b = i <;> simp [mkM, upd, hb]
  · simp [mkM, ha]
theorem mk9 : zI (mkM τ0 P F O K L V A B) 9 i x = mkM τ0 P F O K L V A (upd B i x) := by
  show (_, _) = (_, _); congr 1; funext a b; by_cases ha : a = 9
  · subst ha; by_cases hb : b = i <;> simp [mkM, upd, hb]
  · simp [mkM, ha]
theorem rk12 : (mkM τ0 P F O K L V A B).1 0 12 = P := rfl
theorem rk13 : (mkM τ0 P F O K L V A B).1 0 13 = τ0.1 0 13 := rfl
theorem rk14 : (mkM τ0 P F O K L V A B).1 0 14 = F := rfl
theorem rk15 : (mkM τ0 P F O K L V A B).1 0 15 = O := rfl
theorem rk16 : (mkM τ0 P F O K L V A B).1 0 16 = K := rfl
theorem rk17 : (mkM τ0 P F O K L V A B).1 0 17 = L := rfl
theorem rk19 : (mkM τ0 P F O K L V A B).1 0 19 = V := rfl
theorem rk8 : (mkM τ0 P F O K L V A B).1 8 = A := rfl
theorem rk9 : (mkM τ0 P F O K L V A B).1 9 = B := rfl
theorem rk7 : (mkM τ0 P F O K L V A B).1 7 = τ0.1 7 := rfl
theorem rkR : (mkM τ0 P F O K L V A B).2 = τ0.2 := rfl
end
def sgn (T : Nat → Int32) (n p : Nat) : Int32 := if p < n then T p &&& 255 else -1
def stw (A : Nat → Int32) : List Nat → Prop
  | [] => True
  | x :: l => A l.length = nI x ∧ stw A l
theorem stw_upd {A : Nat → Int32} {k : Nat} {v : Int32} : ∀ {l : List Nat}, stw A l → l.length ≤ k → stw (upd A k v) l
  | [], _, _ => trivial
  | x :: l, h, hk => by
    have hk : l.length + 1 ≤ k := hk
    exact ⟨by rw [pk_un (by omega)]; exact h.1, stw_upd h.2 (by omega)⟩
theorem stw_at {A : Nat → Int32} {w : Nat} {Y : List Nat} : ∀ {X : List Nat}, stw A (X ++ w :: Y) → A Y.length = nI w
  | [], h => h.1
  | _ :: _, h => stw_at h.2
def opn : List Nat → Nat
  | [] => 0
  | w :: W => (if w / 1048576 = 10 ∨ w / 1048576 = 13 ∨ w / 1048576 = 14 then 1 else 0) + opn W
def wtN : List Nat → Nat
  | [] => 0
  | w :: W => (if w / 1048576 ≤ 10 then 1 else 0) + wtN W
def eOK (k w : Nat) : Prop := w < 15728640 ∧ (11 ≤ w / 1048576 → w / 1048576 ≤ 12 → w % 1048576 < k)
def aOK (k : Nat) : List Nat → Prop
  | [] => True
  | w :: W => eOK k w ∧ aOK k W
theorem aOK_up {k k' : Nat} (h : k ≤ k') : ∀ {W : List Nat}, aOK k W → aOK k' W
  | [], _ => trivial
  | _ :: _, q => ⟨⟨q.1.1, fun a b => by have := q.1.2 a b; omega⟩, aOK_up h q.2⟩
def tpv : List Nat → Int32
  | [] => -1
  | w :: _ => nI (w / 1048576)
def er (e : Nat) : Int32 := (-1000 : Int32) * nI (e / 1000) - nI (e % 1000)
def MS (τ0 : zS) (n s : Nat) (τ : zS) (p o : Nat) (W : List Nat) (cd : Nat → Nat) (k : Nat) : Prop := ∃ F V A B, τ = mkM τ0 (nI p) F (nI o) (nI k) (nI W.length) V A B ∧ stw B W ∧ (∀ i, i < k → A i = nI (cd i) ∧ cd i < 15728640) ∧ k + wtN W + s ≤ p ∧ W.length ≤ p ∧ p ≤ n ∧ o = opn W ∧ aOK k W
def MFl (τ0 τ : zS) (e : Nat) : Prop := ∃ P O K L V A B, τ = mkM τ0 P (er e) O K L V A B
/-- what the reading's start has -/
def M0 (τ0 : zS) (n : Nat) : Prop := mR τ0.2 ∧ n ≤ 120 ∧ τ0.1 0 13 = nI n
section
variable {τ0 τ : zS} {n s p o k : Nat} {W Wb : List Nat} {cd : Nat → Nat}
theorem MS_n (h : MS τ0 n s τ p o W cd k) : p ≤ n := by obtain ⟨_, _, _, _, -, -, -, -, -, h, -⟩ := h; exact h
theorem m_here (h0 : M0 τ0 n) (h : MS τ0 n s τ p o W cd k) : fX7_here 0 τ = some (sgn (τ0.1 7) n p, τ) := by
  obtain ⟨F, V, A, B, rfl, -, -, -, -, hp, -⟩ := h
  obtain ⟨hm, hn, h13⟩ := h0
  unfold fX7_here sgn
  rw [rk12, rk13, h13, rkR, mm10 hm]
  by_cases e : p < n
  · rw [if_pos e, if_neg (nI_ge e (by omega)), bnd_e, zX_n (by omega) (by omega), cl_n (by omega), rk7]
  · rw [if_neg e, if_pos (nI_le (by omega) (by omega))]
theorem sgn_in {T : Nat → Int32} {v : Int32} (h : sgn T n p = v) (hv : ¬ v = -1) : p < n := by
  unfold sgn at h
  by_cases e : p < n
  · exact e
  · rw [if_neg e] at h; exact absurd h.symm hv
theorem dgt_in {T : Nat → Int32} (h : dgt (sgn T n p) = true) : p < n := by
  unfold sgn at h
  by_cases e : p < n
  · exact e
  · rw [if_neg e] at h; exact absurd h (by decide)
theorem m_dig (h0 : M0 τ0 n) (h : MS τ0 n s τ p o W cd k) : fX7_isDigit 0 τ = some (if dgt (sgn (τ0.1 7) n p) = true then 1 else 0, τ) := by
  unfold fX7_isDigit
  rw [m_here h0 h, zb_s]
  unfold dgt
  by_cases e : sgn (τ0.1 7) n p < 48
  · rw [if_pos e, if_neg]
    intro q
    exact (of_decide_eq_true q).1 e
  · rw [if_neg e, m_here h0 h, zb_s]
    by_cases e2 : 57 < sgn (τ0.1 7) n p
    · rw [if_pos e2, if_neg]
      intro q
      exact (of_decide_eq_true q).2 e2
    · rw [if_neg e2, if_pos (decide_eq_true ⟨e, e2⟩)]
theorem m_wrong (f : Nat) (hf : f ≤ 5) (hp : p < 1000) (h : MS τ0 n s τ p o W cd k) : ∃ τ', fX7_wrong 0 (nI f) (τ.1 0 12) τ = some (0, τ') ∧ MFl τ0 τ' (1000 * f + p) := by
  obtain ⟨F, V, A, B, rfl, -⟩ := h
  unfold fX7_wrong
  rw [rk12, bnd_e, mk14]
  refine ⟨_, rfl, nI p, nI o, nI k, nI W.length, V, A, B, ?_⟩
  unfold er
  rw [show (1000 * f + p) / 1000 = f by omega, show (1000 * f + p) % 1000 = p by omega]
theorem m_says (h0 : M0 τ0 n) (op v : Nat) {P F O L V : Int32} {A B : Nat → Int32} (hk : k < 140) : fX7_says 0 (nI op) (nI v) (mkM τ0 P F O (nI k) L V A B) = some ((), mkM τ0 P F O (nI (k + 1)) L V (upd A k (nI (1048576 * op + v))) B) := by
  unfold fX7_says
  rw [rkR, mm20 h0.1, bnd_e, rk16, zX_n hk (by omega), bnd_e, cl_n (by omega), mk8, bnd_e, rk16, mk16, nI_1, show (1048576 : Int32) = nI 1048576 from rfl, pk_mul, nI_add]
theorem m_top (h0 : M0 τ0 n) {P F O K V : Int32} {A B : Nat → Int32} (hs : stw B W) (hl : W.length ≤ 130) (ha : aOK k W) : fX7_top 0 (mkM τ0 P F O K (nI W.length) V A B) = some (tpv W, mkM τ0 P F O K (nI W.length) V A B) := by
  unfold fX7_top
  rw [rk17]
  match W, hs, hl, ha with
  | [], _, _, _ => rfl
  | w :: W, hs, hl, ha =>
    have hl : W.length + 1 ≤ 130 := hl
    have e : nI (w :: W).length - 1 = nI W.length := nI_pred _
    rw [if_neg (nI_ne0 (by show 0 < W.length + 1; omega) (by show W.length + 1 < _; omega)), rkR, mm21 h0.1, bnd_e, e, zX_n (by omega) (by omega), cl_n (by omega), rk9, hs.1, bnd_e]
    have := ha.1.1
    rw [show (1048576 : Int32) = nI 1048576 from rfl, pk_div (by omega) (by omega) (by omega)]
    rfl
theorem code_up {A : Nat → Int32} (h : ∀ i, i < k → A i = nI (cd i) ∧ cd i < 15728640) {v : Nat} (hv : v < 15728640) : ∀ i, i < k + 1 → upd A k (nI v) i = nI (uN cd k v i) ∧ uN cd k v i < 15728640 := by
  intro i hi
  by_cases e : i = k
  · subst e; rw [pk_us, uN_s]; exact ⟨rfl, hv⟩
  · rw [pk_un e, uN_o e]; exact h i (by omega)
def nAr : List Nat → Prop
  | [] => True
  | w :: _ => ¬ (2 ≤ w / 1048576 ∧ w / 1048576 ≤ 6)
theorem m_cl (h0 : M0 τ0 n) (al : Bool) (hb : nAr Wb) : ∀ (N : Nat) (W : List Nat) (τ : zS) (cd : Nat → Nat) (k : Nat), W.length < N → MS τ0 n s τ p o (W ++ Wb) cd k → ∃ τ', fX7_closesSums_0 N 0 (if al = true then 1 else 0) τ = some ((), τ') ∧ MS τ0 n s τ' p o ((yC al W cd k).1 ++ Wb) (yC al W cd k).2.1 (yC al W cd k).2.2 := by
  intro N
  induction N with
  | zero => intro W τ cd k h; exact absurd h (by omega)
  | succ N ih =>
    intro W τ cd k hN h
    obtain ⟨F, V, A, B, rfl, hs, hc, i1, i2, i3, i4, i5⟩ := id h
    have hn := h0.2.1
    have ht := m_top h0 (P := nI p) (F := F) (O := nI o) (K := nI k) (V := V) (A := A) hs (by omega) i5
    show ∃ τ', bX7_closesSums_0 (fX7_closesSums_0 N) 0 _ _ = _ ∧ _
    unfold bX7_closesSums_0 bX7_closesSums_17
    -- the way out, where the top is no sign that closes
    have out : ∀ t : Int32, (∀ m, 2 ≤ m → m ≤ 6 → t = nI m → m < 4 ∧ al = false) → fX7_top 0 (mkM τ0 (nI p) F (nI o) (nI k) (nI (W ++ Wb).length) V A B) = some (t, mkM τ0 (nI p) F (nI o) (nI k) (nI (W ++ Wb).length) V A B) → (t = -1 ∨ ∃ m, m < 15 ∧ t = nI m) →
        (zb (fX7_top 0 (mkM τ0 (nI p) F (nI o) (nI k) (nI (W ++ Wb).length) V A B)) fun r14 σ13 => if r14 < (4 : Int32) then (if (if al = true then (1 : Int32) else 0) = 0 then (some ((), σ13)) else (zb (fX7_top 0 σ13) (fun (r8 : Int32) (σ7 : zS) => if r8 = (2 : Int32) then (bX7_closesSums_37 (fX7_closesSums_0 N) 0 (if al = true then 1 else 0) σ7) else (zb (fX7_top 0 σ7) (fun (r11 : Int32) (σ10 : zS) => if r11 = (3 : Int32) then (bX7_closesSums_37 (fX7_closesSums_0 N) 0 (if al = true then 1 else 0) σ10) else (some ((), σ10))))))) else (zb (fX7_top 0 σ13) (fun (r17 : Int32) (σ16 : zS) => if r17 ≤ (6 : Int32) then (bX7_closesSums_37 (fX7_closesSums_0 N) 0 (if al = true then 1 else 0) σ16) else (if (if al = true then (1 : Int32) else 0) = 0 then (some ((), σ16)) else (zb (fX7_top 0 σ16) (fun (r8 : Int32) (σ7 : zS) => if r8 = (2 : Int32) then (bX7_closesSums_37 (fX7_closesSums_0 N) 0 (if al = true then 1 else 0) σ7) else (zb (fX7_top 0 σ7) (fun (r11 : Int32) (σ10 : zS) => if r11 = (3 : Int32) then (bX7_closesSums_37 (fX7_closesSums_0 N) 0 (if al = true then 1 else 0) σ10) else (some ((), σ10)))))))))) = some ((), mkM τ0 (nI p) F (nI o) (nI k) (nI (W ++ Wb).length) V A B) := by
      intro t hno ht hv
      simp only [ht, zb_s]
      have h2 : al = true → ¬ t = 2 := fun ha q => by have := (hno 2 (by omega) (by omega) q).2; rw [ha] at this; cases this
      have h3 : al = true → ¬ t = 3 := fun ha q => by have := (hno 3 (by omega) (by omega) q).2; rw [ha] at this; cases this
      have h46 : ¬ t < 4 → ¬ t ≤ 6 := by
        intro a b
        rcases hv with rfl | ⟨m, hm, rfl⟩
        · exact a (by decide)
        · have c1 : ¬ m < 4 := fun q => a (ltL 4 (4 : Int32) rfl q (by omega))
          have c2 : m ≤ 6 := (nI_leI (by omega) (by omega)).mp b
          have := (hno m (by omega) c2 rfl).1
          omega
      cases al with
      | false =>
        by_cases e : t < 4
        · rw [if_pos e]; rfl
        · rw [if_neg e, if_neg (h46 e)]; rfl
      | true =>
        have g2 := h2 rfl
        have g3 := h3 rfl
        by_cases e : t < 4
        · rw [if_pos e, if_neg g2, if_neg g3]; rfl
        · rw [if_neg e, if_neg (h46 e), if_neg g2, if_neg g3]; rfl
    match W, h, hs, hN, i1, i2, i4, i5, ht, out with
    | [], h, hs, hN, i1, i2, i4, i5, ht, out =>
      refine ⟨_, out _ ?_ ht ?_, h⟩
      · match Wb, hb with
        | [], _ => intro m a b e; exact absurd e.symm (by have key : ∀ m, m < 7 → ¬ nI m = -1 := by decide +kernel
                                                          exact key m (by omega))
        | w :: l, hb =>
          intro m a b e
          have e2 : w / 1048576 = m := (nI_eq (by have := i5.1.1; omega) (by omega)).mp e
          exact absurd ⟨by omega, by omega⟩ hb
      · match Wb, i5 with
        | [], _ => exact Or.inl rfl
        | w :: l, i5 => exact Or.inr ⟨_, by have := i5.1.1; omega, rfl⟩
    | w :: W, h, hs, hN, i1, i2, i4, i5, ht, out =>
      have hw : w < 15728640 := i5.1.1
      have hN : W.length + 1 < N + 1 := hN
      have i2 : (W ++ Wb).length + 1 ≤ p := i2
      have ht : fX7_top 0 (mkM τ0 (nI p) F (nI o) (nI k) (nI (w :: W ++ Wb).length) V A B) = some (nI (w / 1048576), mkM τ0 (nI p) F (nI o) (nI k) (nI (w :: W ++ Wb).length) V A B) := ht
      by_cases cnd : (4 ≤ w / 1048576 ∧ w / 1048576 ≤ 6) ∨ (al = true ∧ (w / 1048576 = 2 ∨ w / 1048576 = 3))
      · rw [yC, if_pos cnd]
        have hwt : wtN (w :: W ++ Wb) = 1 + wtN (W ++ Wb) := by
          show (if w / 1048576 ≤ 10 then 1 else 0) + wtN (W ++ Wb) = _
          rw [if_pos (by omega)]
        have hop : opn (w :: W ++ Wb) = opn (W ++ Wb) := by
          show (if w / 1048576 = 10 ∨ w / 1048576 = 13 ∨ w / 1048576 = 14 then 1 else 0) + opn (W ++ Wb) = _
          rw [if_neg (by omega), Nat.zero_add]
        have go : ∃ τ', bX7_closesSums_37 (fX7_closesSums_0 N) 0 (if al = true then 1 else 0) (mkM τ0 (nI p) F (nI o) (nI k) (nI (w :: W ++ Wb).length) V A B) = some ((), τ') ∧ MS τ0 n s τ' p o ((yC al W (uN cd k (1048576 * (w / 1048576))) (k + 1)).1 ++ Wb) (yC al W (uN cd k (1048576 * (w / 1048576))) (k + 1)).2.1 (yC al W (uN cd k (1048576 * (w / 1048576))) (k + 1)).2.2 := by
          unfold bX7_closesSums_37
          rw [ht, zb_s, show (0 : Int32) = nI 0 from rfl, m_says h0 _ 0 (by omega), zb_s, bnd_e, rk17, mk17, show nI (w :: W ++ Wb).length - 1 = nI (W ++ Wb).length from nI_pred _]
          exact ih W _ _ _ (by omega) ⟨F, V, _, B, rfl, hs.2, code_up hc (by omega), by omega, by omega, i3, by rw [← hop]; exact i4, aOK_up (by omega) i5.2⟩
        simp only [ht, zb_s]
        rcases cnd with c | c
        · rw [if_neg (nltL 4 (4 : Int32) rfl c.1 (by omega)), if_pos (show nI (w / 1048576) ≤ (6 : Int32) from nI_le (b := 6) c.2 (by omega))]
          exact go
        · obtain ⟨rfl, c⟩ := c
          rw [if_pos (ltL 4 (4 : Int32) rfl (by omega) (by omega)), if_neg (by decide)]
          rcases c with c | c
          · rw [c, if_pos rfl]; rw [c] at go; exact go
          · rw [c, if_neg (by decide), if_pos rfl]; rw [c] at go; exact go
      · rw [yC, if_neg cnd]
        refine ⟨_, out _ ?_ ht (Or.inr ⟨_, by omega, rfl⟩), h⟩
        intro m a b e
        have e2 : w / 1048576 = m := (nI_eq (by omega) (by omega)).mp e
        cases al with
        | false => exact ⟨by omega, rfl⟩
        | true => exact absurd (by simp only [true_and]; omega) cnd
end
end
