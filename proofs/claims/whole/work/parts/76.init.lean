section
def sI : zS := match fLAW with
  | some (_, σ) => σ
  | none => zσ0
set_option maxRecDepth 100000 in
theorem sI_L : fLAW.map Prod.fst = some (zLC ++ zLM) := by decide +kernel
theorem sI_e : fLAW = some (zLC ++ zLM, sI) := by
  have h := sI_L
  unfold sI
  generalize fLAW = o at h ⊢
  match o, h with
  | some (L, σ), h =>
    have : L = zLC ++ zLM := Option.some.inj h
    rw [this]
end
