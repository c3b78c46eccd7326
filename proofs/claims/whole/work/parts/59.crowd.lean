/-! ===== sets of seats as bits ===== -/
def bs (x : Int32) (p : Nat → Bool) : Prop := ∀ i, bt x i = (decide (i < 24) && p i)
theorem bs_cn {x : Int32} {p : Nat → Bool} (h : bs x p) : cn (bt x) 32 = cn p 24 := by
  rw [cn_24 (fun k hk => by rw [h k, decide_eq_false (by omega), Bool.false_and])]
  exact cn_cong (fun k hk => by rw [h k, decide_eq_true hk, Bool.true_and])
theorem bs_and {x y : Int32} {p q : Nat → Bool} (h : bs x p) (g : bs y q) : bs (x &&& y) (fun i => p i && q i) := by
  intro i
  rw [b_and, h i, g i]
  show _ = (_ && (p i && q i))
  cases decide (i < 24) <;> cases p i <;> cases q i <;> rfl
theorem bs_or {x y : Int32} {p q : Nat → Bool} (h : bs x p) (g : bs y q) : bs (x ||| y) (fun i => p i || q i) := by
  intro i
  rw [b_or, h i, g i]
  show _ = (_ && (p i || q i))
  cases decide (i < 24) <;> cases p i <;> cases q i <;> rfl
theorem bs_0 : bs 0 (fun _ => false) := by
  intro i
  rw [b_0, Bool.and_false]
theorem bs_c {x : Int32} {p q : Nat → Bool} (h : bs x p) (e : ∀ i, i < 24 → p i = q i) : bs x q := by
  intro i
  rw [h i]
  by_cases hi : i < 24
  · rw [e i hi]
  · rw [decide_eq_false hi]; rfl
theorem bs_e {x y : Int32} {p q : Nat → Bool} (h : bs x p) (g : bs y q) (e : ∀ i, i < 24 → p i = q i) : x = y := by
  apply b_ext
  intro i _
  rw [bs_c h e i, g i]
theorem bt_m1 {i : Nat} (h : i < 32) : bt (-1) i = true := b_m1 i h
/-- all but: y ^^^ -1 -/
theorem bs_but {x y : Int32} {p q : Nat → Bool} (h : bs x p) (g : bs y q) : bs (x &&& (y ^^^ (-1 : Int32))) (fun i => p i && !q i) := by
  intro i
  rw [b_and, b_xor, h i]
  by_cases hi : i < 24
  · rw [g i, b_m1 i (by omega), decide_eq_true hi]
    show _ = (_ && (p i && !q i))
    cases p i <;> cases q i <;> rfl
  · rw [decide_eq_false hi]; rfl
theorem bs_1 {s : Nat} (hs : s < 24) : bs ((1 : Int32) <<< (nI s &&& 31)) (fun i => decide (i = s)) := by
  intro i
  by_cases hi : i < 32
  · rw [b_shl s (by omega) _ hi]
    have h1 : ∀ i, i < 32 → bt 1 i = decide (i = 0) := by decide +kernel
    rw [h1 (i - s) (by omega)]
    by_cases e : i = s
    · subst e; simp [hs]
    · by_cases h : s ≤ i
      · simp [h, e, show ¬ i - s = 0 by omega]
      · simp [h, e]
  · rw [b_big (by omega), decide_eq_false (by omega)]; rfl
theorem bitB {x : Int32} {p : Nat → Bool} (h : bs x p) {s : Nat} (hs : s < 24) : (x >>> (nI s &&& 31)) &&& 1 = if p s = true then 1 else 0 := by
  rw [bitT x (by omega), h s, decide_eq_true hs, Bool.true_and]
theorem f_bc {x : Int32} {p : Nat → Bool} (h : bs x p) (σ : zS) : fJ6_bitCount_0f7a4 x σ = some (nI (cn p 24), σ) := by rw [f_bitCount, bs_cn h]
/-! ===== a crowd ===== -/
theorem cr_p {c : Nat → Int32} {row : Int32} {so kn pa : Nat → Int32} (h : pCrowd c row so kn pa) : bs (c 1) (fun s => decide (¬ so s = -1)) := by
  intro i
  by_cases hi : i < 24
  · rw [decide_eq_true hi, Bool.true_and]
    show _ = decide (¬ so i = -1)
    rcases h.2.2 i hi with ⟨h1, -, -, h2, -⟩ | ⟨k, hk, h1, h2, -⟩
    · rw [h2, h1]; rfl
    · rw [h2, h1]
      have : ∀ k, k < 4 → ¬ nI k = -1 := by decide +kernel
      exact (decide_eq_true (this k hk)).symm
  · rw [decide_eq_false hi, (h.2.1 i (by omega)).1]; rfl
theorem cr_1 {c : Nat → Int32} {row : Int32} {so kn pa : Nat → Int32} (h : pCrowd c row so kn pa) : bs (c 5) (fun s => decide (pa s = 1)) := by
  intro i
  by_cases hi : i < 24
  · rw [decide_eq_true hi, Bool.true_and]
    show _ = decide (pa i = 1)
    rcases h.2.2 i hi with ⟨-, -, h1, -, h2, -⟩ | ⟨k, hk, -, -, -, -, -, ⟨h1, h2, -⟩ | ⟨h1, h2, -⟩ | ⟨h1, h2, -⟩⟩ <;> rw [h2, h1] <;> rfl
  · rw [decide_eq_false hi, (h.2.1 i (by omega)).2.1]; rfl
theorem cr_2 {c : Nat → Int32} {row : Int32} {so kn pa : Nat → Int32} (h : pCrowd c row so kn pa) : bs (c 6) (fun s => decide (pa s = 2)) := by
  intro i
  by_cases hi : i < 24
  · rw [decide_eq_true hi, Bool.true_and]
    show _ = decide (pa i = 2)
    rcases h.2.2 i hi with ⟨-, -, h1, -, -, h2⟩ | ⟨k, hk, -, -, -, -, -, ⟨h1, -, h2⟩ | ⟨h1, -, h2⟩ | ⟨h1, -, h2⟩⟩ <;> rw [h2, h1] <;> rfl
  · rw [decide_eq_false hi, (h.2.1 i (by omega)).2.2]; rfl
theorem cr_so {c : Nat → Int32} {row : Int32} {so kn pa : Nat → Int32} (h : pCrowd c row so kn pa) {s : Nat} (hs : s < 24) : so s = -1 ∨ ∃ k, k < 4 ∧ so s = nI k := by
  rcases h.2.2 s hs with ⟨h1, -⟩ | ⟨k, hk, h1, -⟩
  · exact Or.inl h1
  · exact Or.inr ⟨k, hk, h1⟩
theorem cr_pa {c : Nat → Int32} {row : Int32} {so kn pa : Nat → Int32} (h : pCrowd c row so kn pa) {s : Nat} (hs : s < 24) : (pa s = 0 ∨ pa s = 1 ∨ pa s = 2) ∧ (so s = -1 → pa s = 0) := by
  rcases h.2.2 s hs with ⟨h1, -, h2, -⟩ | ⟨k, hk, h1, -, -, -, -, ⟨h2, -⟩ | ⟨h2, -⟩ | ⟨h2, -⟩⟩
  · exact ⟨Or.inl h2, fun _ => h2⟩
  all_goals
    have : ∀ k, k < 4 → ¬ nI k = -1 := by decide +kernel
    refine ⟨by simp [h2], fun q => absurd (h1.symm.trans q) (this k hk)⟩
theorem cr_un {c : Nat → Int32} {row : Int32} {so kn pa : Nat → Int32} (h : pCrowd c row so kn pa) : bs (c 1 &&& ((c 5 ||| c 6) ^^^ (-1 : Int32))) (fun s => decide (¬ so s = -1) && decide (pa s = 0)) := by
  refine bs_c (bs_but (cr_p h) (bs_or (cr_1 h) (cr_2 h))) (fun i hi => ?_)
  show (_ && !(decide (pa i = 1) || decide (pa i = 2))) = (_ && decide (pa i = 0))
  rcases (cr_pa h hi).1 with e | e | e <;> rw [e] <;> rfl
theorem cr_kn {c : Nat → Int32} {row : Int32} {so kn pa : Nat → Int32} (h : pCrowd c row so kn pa) {s : Nat} (hs : s < 24) (ht : ¬ so s = -1) : (kn s = 0 ∧ bt (c 2) s = false) ∨ (kn s = 1 ∧ bt (c 2) s = true) := by
  rcases h.2.2 s hs with ⟨h1, -⟩ | ⟨k, hk, h1, -, -, -, h2, -⟩
  · exact absurd h1 ht
  · exact h2
theorem c_has {σ : zS} {Cr : Nat} {row : Int32} {so kn pa : Nat → Int32} (h : pCrowd (σ.1 Cr) row so kn pa) {s : Nat} (hs : s < 24) : fX2_has Cr (nI s) σ = some (if so s = -1 then 0 else 1, σ) := by
  unfold fX2_has
  rw [bitB (cr_p h) hs]
  by_cases e : so s = -1
  · simp [e]
  · simp [e]
theorem c_sortOf {σ : zS} {Cr : Nat} {row : Int32} {so kn pa : Nat → Int32} (h : pCrowd (σ.1 Cr) row so kn pa) {s : Nat} (hs : s < 24) : fX2_sortOf Cr (nI s) σ = some (so s, σ) := by
  unfold fX2_sortOf
  rw [c_has h hs, zb_s]
  rcases h.2.2 s hs with ⟨h1, -⟩ | ⟨k, hk, h1, -, h3, h4, -⟩
  · rw [if_pos h1, if_pos rfl, h1]
  · have q : ∀ k, k < 4 → ¬ nI k = -1 := by decide +kernel
    rw [h1, if_neg (q k hk), if_neg n10, bnd_e, bitT _ (by omega), bitT _ (by omega), h3, h4]
    rcases (show k = 0 ∨ k = 1 ∨ k = 2 ∨ k = 3 by omega) with rfl | rfl | rfl | rfl <;> rfl
theorem c_payerOf {σ : zS} {Cr : Nat} {row : Int32} {so kn pa : Nat → Int32} (h : pCrowd (σ.1 Cr) row so kn pa) {s : Nat} (hs : s < 24) : fX2_payerOf Cr (nI s) σ = some (if so s = -1 then -1 else pa s, σ) := by
  unfold fX2_payerOf
  rw [c_has h hs, zb_s]
  by_cases e : so s = -1
  · rw [if_pos e, if_pos rfl, if_pos e]
  · rw [if_neg e, if_neg n10, if_neg e, bnd_e, bitB (cr_1 h) hs, bitB (cr_2 h) hs]
    rcases (cr_pa h hs).1 with q | q | q <;> rw [q] <;> rfl
theorem c_unpaid {σ : zS} {Cr : Nat} : fX2_unpaid Cr σ = some (σ.1 Cr 1 &&& ((σ.1 Cr 5 ||| σ.1 Cr 6) ^^^ (-1 : Int32)), σ) := rfl
/-! ===== the neighbours, found once for a width ===== -/
def nbr (w s : Nat) : Int32 :=
  ((((1 : Int32) <<< (nI s &&& 31)) <<< (nI w &&& 31) ||| ((1 : Int32) <<< (nI s &&& 31)) >>> (nI w &&& 31)) ||| (if s % w = 0 then 0 else ((1 : Int32) <<< (nI s &&& 31)) >>> ((1 : Int32) &&& 31)) ||| (if w - 1 ≤ s % w then 0 else ((1 : Int32) <<< (nI s &&& 31)) <<< ((1 : Int32) &&& 31))) &&& (16777215 : Int32)
theorem nbr_all : ∀ w, w < 9 → 4 ≤ w → ∀ s, s < 24 → ∀ i, i < 32 → bt (nbr w s) i = (decide (i < 24) && near w s i) := by decide +kernel
theorem nbr_bs {w s : Nat} (h1 : 4 ≤ w) (h2 : w ≤ 8) (hs : s < 24) : bs (nbr w s) (fun q => near w s q) := by
  intro i
  by_cases hi : i < 32
  · exact nbr_all w (by omega) h1 s hs i hi
  · rw [b_big (by omega), decide_eq_false (by omega)]; rfl
theorem c_find {w : Nat} (h1 : 4 ≤ w) (h2 : w ≤ 8) {σ : zS} (hr : σ.2 153 1 = 155) (hw : σ.1 153 3 = nI w) : ∀ (n s : Nat) (F : Nat → Int32), s ≤ 24 → 24 < s + n → (∀ q, q < s → F q = nbr w q) → ∃ G : Nat → Int32, (∀ q, q < 24 → G q = nbr w q) ∧ fX0_findNeighbours_2 n 153 (nI s) (zA1 σ 155 F) = some ((), zA1 σ 155 G) := by
  intro n
  induction n with
  | zero => intro s F a b; exact absurd b (by omega)
  | succ n ih =>
    intro s F a b hF
    show ∃ G : Nat → Int32, _ ∧ bX0_findNeighbours_2 (fX0_findNeighbours_2 n) 153 (nI s) (zA1 σ 155 F) = _
    unfold bX0_findNeighbours_2
    by_cases hs : s = 24
    · subst hs
      rw [if_pos (by decide)]
      exact ⟨F, hF, rfl⟩
    · have hs : s < 24 := by omega
      have e3 : (zA1 σ 155 F).1 153 3 = nI w := by rw [zA1_o (by decide)]; exact hw
      rw [if_neg (geL 24 (24 : Int32) rfl hs (by omega)), bnd_e, e3, if_neg (nI_nle (by omega) (by omega)), zV_in (wne h1 h2), pk_rem (by omega) (by omega) (by omega)]
      have hm : s % w < w := Nat.mod_lt _ (by omega)
      have fin : ∀ v, v = nbr w s → ∃ G : Nat → Int32, (∀ q, q < 24 → G q = nbr w q) ∧ (zX (nI s) 24 (fX0_findNeighbours_2 n 153 (nI s + 1) (zI (zA1 σ 155 F) 155 (nI s).toNatClampNeg v))) = some ((), zA1 σ 155 G) := by
        intro v hv
        rw [zX_n hs (by omega), cl_n (by omega), zI_zA1, nI_1]
        refine ih (s + 1) _ (by omega) (by omega) (fun q hq => ?_)
        by_cases e : q = s
        · subst e; rw [pk_us]; exact hv
        · rw [pk_un e]; exact hF q (by omega)
      have c80 : ∀ x y : Int32, bX0_findNeighbours_80 (fX0_findNeighbours_2 n) 153 (nI s) x y (zA1 σ 155 F) = zX (nI s) 24 (fX0_findNeighbours_2 n 153 (nI s + 1) (zI (zA1 σ 155 F) 155 (nI s).toNatClampNeg ((x ||| y) &&& 16777215))) := by
        intro x y
        unfold bX0_findNeighbours_80
        simp only [bnd_e, zA1_2, hr]
      have c58 : ∀ x y : Int32, bX0_findNeighbours_58 (fX0_findNeighbours_2 n) 153 (nI s) ((1 : Int32) <<< (nI s &&& 31)) (nI (s % w)) x y (zA1 σ 155 F) = zX (nI s) 24 (fX0_findNeighbours_2 n 153 (nI s + 1) (zI (zA1 σ 155 F) 155 (nI s).toNatClampNeg (((x ||| y) ||| (if w - 1 ≤ s % w then 0 else ((1 : Int32) <<< (nI s &&& 31)) <<< ((1 : Int32) &&& 31))) &&& 16777215))) := by
        intro x y
        unfold bX0_findNeighbours_58
        rw [bnd_e, e3, show nI w - 1 = nI (w - 1) by rw [show w = (w - 1) + 1 by omega]; exact nI_pred _]
        by_cases q : w - 1 ≤ s % w
        · rw [if_pos (nI_le q (by omega)), c80, if_pos q]
        · rw [if_neg (nI_ge (by omega) (by omega)), c80, if_neg q]
      unfold bX0_findNeighbours_29
      rw [bnd_e, e3]
      by_cases q : s % w = 0
      · rw [q, if_pos (by decide), ← q, c58]
        exact fin _ (by unfold nbr; rw [if_pos q])
      · rw [if_neg (nI_nle (by omega) (by omega)), c58]
        exact fin _ (by unfold nbr; rw [if_neg q])
