theorem TC.unRRl {d E c : Nat → Nat} {n : Nat} (h : TC d E c n) {l r : Nat} (hr : r = E l) (h1 : kA d n l = 7) (h2 : kA d n r = 7) : E (rA E n l) - rA E n l + (E (rA E n r) - rA E n r) + 1 ≤ 18 ∧ E (l + 1) - (l + 1) + (E (r + 1) - (r + 1)) + 1 ≤ 18 := by
  obtain ⟨t1, t2, t3, t4, t5, t6, t7, t8⟩ := h.two (Or.inr h1)
  obtain ⟨u1, u2, u3, u4, u5, u6, u7, u8⟩ := h.two (Or.inr h2)
  have hn := h.n18
  rw [t3, u3]
  omega
theorem rootK_le (r : Nat) : rootK r ≤ 8 := by
  unfold rootK
  rcases Nat.lt_or_ge r 16 with h | h
  · have : ∀ q, q < 16 → [6, 7, 7, 8, 6, 8, 8, 7, 6, 6, 6, 6, 6, 8, 8, 6].getD q 0 ≤ 8 := by decide
    exact this r h
  · rw [List.getD_eq_getElem?_getD, List.getElem?_eq_none (by simpa using h)]; exact Nat.zero_le _
theorem lt16 {r : Nat} (h : r < 16) : r = 0 ∨ r = 1 ∨ r = 2 ∨ r = 3 ∨ r = 4 ∨ r = 5 ∨ r = 6 ∨ r = 7 ∨ r = 8 ∨ r = 9 ∨ r = 10 ∨ r = 11 ∨ r = 12 ∨ r = 13 ∨ r = 14 ∨ r = 15 := by omega
