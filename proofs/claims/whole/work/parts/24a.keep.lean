/-! the reference's expanding: what is kept -/
theorem oV_get2 {v r p : Nat} (h : okVb v = true) (ho : (oV v r p).isSome = true) : D8 ((oV v r p).getD []) ∧ ((oV v r p).getD []).length ≤ 36 ∧ oV v r p ≠ none := by
  have h18 := (dc_lt (okVb_iff.mp h).2.1).2
  cases hq : oV v r p with
  | none => rw [hq] at ho; cases ho
  | some L =>
    obtain ⟨h1, h2, h3⟩ := oV_ok h hq
    have hqq := (TV_v (okVb_iff.mp h)).q h1
    exact ⟨h2.d8, by show L.length ≤ 36; omega, fun q => by cases q⟩
theorem mtD_keep {m ds : Nat → Nat} {c v d i : Nat} (hi : i < c) : mtD m ds c v d i = ds i := by
  unfold mtD
  split
  · rfl
  · exact up_n _ (by omega)
theorem mtC_le {m : Nat → Nat} {c v : Nat} : c ≤ mtC m c v := by
  unfold mtC
  split <;> omega
