/-! star height: the class's answer -/
theorem fc_congr {f g : Nat → Bool} : ∀ c, (∀ j, j < c → f j = g j) → fa_cnt f c = fa_cnt g c
  | 0, _ => rfl
  | c + 1, h => by
    have ih := fc_congr c (fun j hj => h j (by omega))
    simp only [fa_cnt, ih, h c (by omega)]
theorem dSF_congr {kd ed kd' ed' : Nat → Nat} {n : Nat} (h : ∀ j, j < n → kd j = kd' j ∧ ed j = ed' j) : ∀ k, k ≤ n → dSF kd ed k = dSF kd' ed' k
  | 0, _ => rfl
  | k + 1, hk => by
    have ih := dSF_congr h k (by omega)
    have hs : sAr kd ed k = sAr kd' ed' k := fc_congr _ (fun j hj => by rw [(h j (by omega)).1, (h j (by omega)).2])
    show (if dSF kd ed k < sAr kd ed k then sAr kd ed k else dSF kd ed k) = _
    rw [ih, hs]; rfl
theorem dSF_RD {v nn : Nat} {kd ed cd : Nat → Nat} (h : RD v kd ed cd nn) : dSF kd ed nn = dSF (dg v) (en v) (dc v) := by
  rw [← h.1]; exact dSF_congr (fun j hj => ⟨(h.2 j hj).1, (h.2 j hj).2.1⟩) nn (Nat.le_refl nn)
def aSH (x : Int64) : Int32 := if okVb (xv x) = true then nI (dSF (dg (xv x)) (en (xv x)) (dc (xv x))) else -1
