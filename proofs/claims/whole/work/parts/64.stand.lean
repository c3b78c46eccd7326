/-! ===== the class: its references ===== -/
def cT (j k : Nat) : Nat :=
  if j = 0 then (match k with | 0 => 1 | 1 => 8 | 3 => 12 | 5 => 153 | 6 => 156 | 8 => 168 | 9 => 167 | 11 => 169 | 12 => 170 | 15 => 171 | 16 => 172 | _ => 0)
  else if j = 1 then (match k with | 0 => 5 | 1 => 2 | 2 => 6 | 3 => 7 | _ => 0)
  else if j = 2 then (match k with | 1 => 3 | 2 => 4 | _ => 0)
  else if j = 8 then (match k with | 0 => 9 | 1 => 2 | 2 => 10 | 3 => 11 | _ => 0)
  else if j = 12 then (if k < 20 then 13 + 7 * k else 0)
  else if 13 ≤ j ∧ j < 153 ∧ (j - 13) % 7 = 0 then (match k with | 0 => j + 4 | 1 => j + 1 | 2 => j + 5 | 3 => j + 6 | _ => 0)
  else if 13 ≤ j ∧ j < 153 ∧ (j - 13) % 7 = 1 then (match k with | 1 => j + 1 | 2 => j + 2 | _ => 0)
  else if j = 153 then (match k with | 0 => 154 | 1 => 155 | _ => 0)
  else if 157 ≤ j ∧ j < 167 ∧ j % 2 = 1 then (if k = 0 then j + 1 else 0)
  else if j = 168 then (if k = 0 then 167 else 0)
  else 0
def cR (r : Nat → Nat → Nat) : Prop := ∀ j k, ¬ cT j k = 0 → r j k = cT j k
theorem cr_ {r : Nat → Nat → Nat} (h : cR r) (j k v : Nat) (e : cT j k = v) (hv : ¬ v = 0) : r j k = v := by rw [← e]; exact h j k (by rw [e]; exact hv)
theorem zR_s {σ : zS} {j k v : Nat} : (zR σ j k v).2 j k = v := by simp [zR]
theorem zR_o {σ : zS} {j k v a b : Nat} (h : ¬ (a = j ∧ b = k)) : (zR σ j k v).2 a b = σ.2 a b := if_neg h
/-- all the same but the names of X -/
def cSm (X : Nat → Bool) (σ σ' : zS) : Prop := (∀ a, X a = false → σ'.1 a = σ.1 a) ∧ ∀ a b, ¬ (a = 153 ∧ b = 2) → σ'.2 a b = σ.2 a b
theorem cSm.rf (X : Nat → Bool) (σ : zS) : cSm X σ σ := ⟨fun _ _ => rfl, fun _ _ _ => rfl⟩
theorem cSm.tr {X : Nat → Bool} {a b c : zS} (h1 : cSm X a b) (h2 : cSm X b c) : cSm X a c := ⟨fun k q => (h2.1 k q).trans (h1.1 k q), fun k l q => (h2.2 k l q).trans (h1.2 k l q)⟩
theorem cSm.up {X Y : Nat → Bool} {a b : zS} (h : cSm X a b) (hX : ∀ k, Y k = false → X k = false) : cSm Y a b := ⟨fun k q => h.1 k (hX k q), h.2⟩
theorem cSm.i {X : Nat → Bool} {a b : zS} (h : cSm X a b) {N k : Nat} {v : Int32} (hN : X N = true) : cSm X a (zI b N k v) := ⟨fun m q => by rw [zI_ne (fun e => by rw [e, hN] at q; cases q)]; exact h.1 m q, h.2⟩
theorem cSm.a {X : Nat → Bool} {a b : zS} (h : cSm X a b) {N : Nat} {F : Nat → Int32} (hN : X N = true) : cSm X a (zA1 b N F) := ⟨fun m q => by rw [zA1_o (fun e => by rw [e, hN] at q; cases q)]; exact h.1 m q, h.2⟩
theorem cSm.R {X : Nat → Bool} {a b : zS} (h : cSm X a b) (hR : cR a.2) : cR b.2 := by
  intro j k hjk
  rw [h.2 j k (fun q => hjk (by rw [q.1, q.2]; rfl))]
  exact hR j k hjk
/-- the neighbours found last -/
def cCa (σ : zS) : Prop := σ.1 153 3 = 0 ∨ ∃ w, 4 ≤ w ∧ w ≤ 8 ∧ σ.1 153 3 = nI w ∧ ∀ s, s < 24 → σ.1 155 s = nbr w s
theorem std_Ca {σ : zS} {Cr w : Nat} {so kn hi : Nat → Int32} {gk go : Int32} {prev : Nat → Int32} {t : Nat} (h : std σ Cr w so kn hi gk go prev t) : cCa σ := Or.inr ⟨w, h.2.2.1.1, h.2.2.1.2, h.2.2.2.1, h.2.2.2.2.1⟩
def X3 : Nat → Bool := fun a => a == 153 || a == 155
theorem c_stand_49 {σ : zS} {Cr w : Nat} {so kn hi : Nat → Int32} {prev : Nat → Int32} {t : Nat} {gk go : Int32} (x y : Int32) (r0 : σ.2 153 0 = 154) (r1 : σ.2 153 1 = 155) (r2 : σ.2 153 2 = Cr) (hc : pCrowd (σ.1 Cr) (nI w) so kn hi) (hw1 : 4 ≤ w) (hw2 : w ≤ 8) (hCr : ¬ Cr = 153 ∧ ¬ Cr = 155) (hca : cCa σ) (h4 : σ.1 153 4 = nI t) (h5 : σ.1 153 5 = gk) (h6 : σ.1 153 6 = go) (hx : bs x (fun q => decide (prev q = 1))) (hy : bs y (fun q => decide (prev q = 2))) (hp : pOK so prev) :
    ∃ σ', bX0_stand_49 153 x y σ = some ((), σ') ∧ cSm X3 σ σ' ∧ std σ' Cr w so kn hi gk go prev t := by
  have hw0 : σ.1 Cr 0 = nI w := by
    obtain ⟨⟨w', h1, h2, h3, h4⟩, -⟩ := hc
    have : w = w' := (nI_eq (by omega) (by omega)).mp h3
    rw [this]; exact h4
  unfold bX0_stand_49
  rw [bnd_e, bnd_e]
  generalize hg : zI (zI σ 153 7 x) 153 8 y = σ2
  have g2 : σ2.2 = σ.2 := by rw [← hg]; rfl
  have g1 : ∀ a, ¬ a = 153 → σ2.1 a = σ.1 a := fun a ha => by rw [← hg, zI_ne ha, zI_ne ha]
  have g3 : σ2.1 153 3 = σ.1 153 3 := by rw [← hg, zI_o (by decide), zI_o (by decide)]
  have g4 : σ2.1 153 4 = σ.1 153 4 := by rw [← hg, zI_o (by decide), zI_o (by decide)]
  have g5 : σ2.1 153 5 = σ.1 153 5 := by rw [← hg, zI_o (by decide), zI_o (by decide)]
  have g6 : σ2.1 153 6 = σ.1 153 6 := by rw [← hg, zI_o (by decide), zI_o (by decide)]
  have g7 : σ2.1 153 7 = x := by rw [← hg, zI_o (by decide), zI_s]
  have g8 : σ2.1 153 8 = y := by rw [← hg, zI_s]
  have gs : cSm X3 σ σ2 := by rw [← hg]; exact ((cSm.rf X3 σ).i rfl).i rfl
  rw [bnd_e, g2, r2, g1 Cr hCr.1, hw0]
  by_cases e : σ2.1 153 3 = nI w
  · rw [if_pos e]
    refine ⟨σ2, rfl, gs, ⟨by rw [g2]; exact ⟨r2, r1, r0⟩, by rw [g1 Cr hCr.1]; exact hc, ⟨hw1, hw2⟩, e, ?_, by rw [g4]; exact h4, by rw [g5]; exact h5, by rw [g6]; exact h6, by rw [g7]; exact hx, by rw [g8]; exact hy, hp⟩⟩
    rw [g3] at e
    rcases hca with q | ⟨w', q1, q2, q3, q4⟩
    · rw [q] at e
      exact absurd e.symm (wne hw1 hw2)
    · have : w' = w := (nI_eq (by omega) (by omega)).mp (q3.symm.trans e)
      subst this
      rw [g1 155 (by decide)]
      exact q4
  · rw [if_neg e, bnd_e, g1 Cr hCr.1, hw0, if_neg (nI_nle (by omega) (by omega)), bnd_e, g1 Cr hCr.1, hw0, bnd_e]
    unfold fX0_findNeighbours
    generalize hh : zI σ2 153 3 (nI w) = σ3
    have k2 : σ3.2 = σ.2 := by rw [← hh, zI_2, g2]
    have k1 : ∀ a, ¬ a = 153 → σ3.1 a = σ.1 a := fun a ha => by rw [← hh, zI_ne ha, g1 a ha]
    have k3 : σ3.1 153 3 = nI w := by rw [← hh, zI_s]
    have ko : ∀ b, ¬ b = 3 → σ3.1 153 b = σ2.1 153 b := fun b hb => by rw [← hh, zI_o (fun q => hb q.2)]
    have ks : cSm X3 σ σ3 := by rw [← hh]; exact gs.i rfl
    obtain ⟨G, hG, hf⟩ := c_find hw1 hw2 (σ := σ3) (by rw [k2]; exact r1) k3 zFU 0 (σ3.1 155) (by omega) (by unfold zFU; omega) (fun q hq => absurd hq (by omega))
    rw [zA1_self] at hf
    rw [show (0 : Int32) = nI 0 from rfl, hf, zb_s]
    refine ⟨zA1 σ3 155 G, rfl, ks.a rfl, ⟨by rw [zA1_2, k2]; exact ⟨r2, r1, r0⟩, by rw [zA1_o hCr.2, k1 Cr hCr.1]; exact hc, ⟨hw1, hw2⟩, by rw [zA1_o (by decide)]; exact k3, by rw [zA1_s]; exact hG, ?_, ?_, ?_, ?_, ?_, hp⟩⟩
    · rw [zA1_o (by decide), ko 4 (by decide), g4]; exact h4
    · rw [zA1_o (by decide), ko 5 (by decide), g5]; exact h5
    · rw [zA1_o (by decide), ko 6 (by decide), g6]; exact h6
    · rw [zA1_o (by decide), ko 7 (by decide), g7]; exact hx
    · rw [zA1_o (by decide), ko 8 (by decide), g8]; exact hy
theorem c_stand {σ : zS} {E Cr Bi Fk Fo w : Nat} {so kn hi : Nat → Int32} {prev : Nat → Int32} {t : Nat} (x y : Int32) (ht : t < 40) (e0 : σ.2 E 0 = Cr) (e1 : σ.2 E 1 = Bi) (b1 : σ.2 Bi 1 = Fk) (b2 : σ.2 Bi 2 = Fo) (hE : ¬ E = 153) (hB : ¬ Bi = 153) (hFk : ¬ Fk = 153) (hFo : ¬ Fo = 153) (r0 : σ.2 153 0 = 154) (r1 : σ.2 153 1 = 155) (hc : pCrowd (σ.1 Cr) (nI w) so kn hi) (hw1 : 4 ≤ w) (hw2 : w ≤ 8) (hCr : ¬ Cr = 153 ∧ ¬ Cr = 155) (hca : cCa σ) (hx : bs x (fun q => decide (prev q = 1))) (hy : bs y (fun q => decide (prev q = 2))) (hp : pOK so prev) :
    ∃ σ', fX0_stand 153 E (nI t) x y σ = some ((), σ') ∧ cSm X3 σ σ' ∧ std σ' Cr w so kn hi (σ.1 Fk t) (σ.1 Fo t) prev t := by
  unfold fX0_stand
  rw [bnd_e, e0, bnd_e, bnd_e, if_neg (nI_pos (by omega)), if_neg (geL 40 (40 : Int32) rfl ht (by omega)), bnd_e, zI_2, zR_o (fun q => hE q.1), e1, bnd_e, zR_o (fun q => hB q.1), b1, zX_n ht (by omega), bnd_e, bnd_e, zI_2, zI_2, zR_o (fun q => hE q.1), e1, bnd_e, zR_o (fun q => hB q.1), b2, zX_n ht (by omega), bnd_e, cl_n (by omega), zI_ne hFo, zI_ne hFo, zI_ne hFk, zR_1]
  generalize hg : zI (zI (zI (zR σ 153 2 Cr) 153 4 (nI t)) 153 5 (σ.1 Fk t)) 153 6 (σ.1 Fo t) = σ2
  have g2 : σ2.2 = (zR σ 153 2 Cr).2 := by rw [← hg]; rfl
  have g1 : ∀ a, ¬ a = 153 → σ2.1 a = σ.1 a := fun a ha => by rw [← hg, zI_ne ha, zI_ne ha, zI_ne ha, zR_1]
  have g3 : σ2.1 153 3 = σ.1 153 3 := by rw [← hg, zI_o (by decide), zI_o (by decide), zI_o (by decide), zR_1]
  have gs : cSm X3 σ σ2 := by
    refine ⟨fun a ha => g1 a (fun q => by rw [q] at ha; cases ha), fun a b hab => ?_⟩
    rw [g2, zR_o hab]
  obtain ⟨σ', h1, h2, h3⟩ := c_stand_49 (σ := σ2) (Cr := Cr) (w := w) (so := so) (kn := kn) (hi := hi) (prev := prev) (t := t) (gk := σ.1 Fk t) (go := σ.1 Fo t) x y (by rw [g2, zR_o (by decide)]; exact r0) (by rw [g2, zR_o (by decide)]; exact r1) (by rw [g2, zR_s]) (by rw [g1 Cr hCr.1]; exact hc) hw1 hw2 hCr (by unfold cCa; rw [g3, g1 155 (by decide)]; exact hca) (by rw [← hg, zI_o (by decide), zI_o (by decide), zI_s]) (by rw [← hg, zI_o (by decide), zI_s]) (by rw [← hg, zI_s]) hx hy hp
  exact ⟨σ', h1, gs.tr h2, h3⟩
