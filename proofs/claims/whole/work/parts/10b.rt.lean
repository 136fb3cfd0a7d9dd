/-! what is written so far: the first mad places of rt are L -/
def RT (rt : Nat → Nat) (mad : Nat) (L : List Nat) : Prop := mad = L.length ∧ ∀ i, i < mad → L[i]? = some (rt i)
theorem RT_nil (rt : Nat → Nat) : RT rt 0 [] := ⟨rfl, fun i hi => absurd hi (Nat.not_lt_zero i)⟩
theorem RT_snoc {rt : Nat → Nat} {mad : Nat} {L : List Nat} (h : RT rt mad L) (v : Nat) : RT (up rt mad v) (mad + 1) (L ++ [v]) := by
  obtain ⟨h1, h2⟩ := h
  refine ⟨by rw [List.length_append, h1]; rfl, fun i hi => ?_⟩
  rcases Nat.lt_or_ge i mad with c | c
  · rw [List.getElem?_append_left (by omega), up_n _ (by omega)]; exact h2 i c
  · have e : i = mad := by omega
    subst e
    rw [List.getElem?_append_right (by omega), up_s, ← h1, Nat.sub_self]; rfl
theorem sub_snoc (d : Nat → Nat) {a k : Nat} (h : a ≤ k) : sub d a (k + 1) = sub d a k ++ [d k] := by
  rw [← sub_app d h (Nat.le_succ k), sub_one]
theorem take_snoc {L : List Nat} {k x : Nat} (h : L[k]? = some x) : L.take (k + 1) = L.take k ++ [x] := by
  rw [List.take_succ, h]; rfl
theorem TV.two {d E : Nat → Nat} {n : Nat} (tv : TV d E n) {o : Nat} (ho : o < n) (hk : d o = 6 ∨ d o = 7) : o + 1 < n ∧ E (o + 1) < n ∧ o + 1 < E (o + 1) ∧ E o = E (E (o + 1)) ∧ E (o + 1) < E o ∧ E o ≤ n := by
  obtain ⟨h1, h2, h3⟩ := (tv.2.2.2 o ho).2.2.2.2.2.2 hk
  have h4 := (tv.q h1).2.2.1
  have h5 := (tv.q h2).2.2.1
  have h6 := (tv.q ho).2.2.2
  exact ⟨h1, h2, h4, h3, by omega, h6⟩
theorem TV.one {d E : Nat → Nat} {n : Nat} (tv : TV d E n) {o : Nat} (ho : o < n) (hk : d o = 8) : o + 1 < n ∧ E o = E (o + 1) ∧ o + 1 < E (o + 1) ∧ E (o + 1) ≤ n := by
  obtain ⟨h1, h2⟩ := (tv.2.2.2 o ho).2.2.2.2.2.1 hk
  have h4 := (tv.q h1).2.2
  exact ⟨h1, h2, h4⟩
