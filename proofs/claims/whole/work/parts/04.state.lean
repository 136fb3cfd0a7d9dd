/-! the objects' fields, in the order of the slots -/
abbrev oE (a : Nat → Nat) (nn : Nat) : List Value := [.ref (a 0), .ref (a 1), .ref (a 2), .int (nI nn)]
abbrev oA (a : Nat → Nat) (acc sts : Nat) : List Value := [.ref (a 0), .ref (a 1), .ref (a 2), .ref (a 3), .ref (a 4), .int (nI acc), .int (nI sts)]
abbrev oC (a : Nat → Nat) (prs : Nat) (tel : Int32) : List Value := [.ref (a 0), .ref (a 1), .ref (a 2), .ref (a 3), .ref (a 4), .int (nI prs), .int tel]
abbrev oS (a : Nat → Nat) (cnt : Nat) : List Value := [.ref (a 0), .ref (a 1), .ref (a 2), .int (nI cnt)]
abbrev oT (a : Nat → Nat) (cnt : Nat) : List Value := [.ref (a 0), .ref (a 1), .ref (a 2), .int (nI cnt)]
abbrev oR (a : Nat → Nat) (cur : Nat) : List Value := [.ref (a 0), .ref (a 1), .ref (a 2), .ref (a 3), .ref (a 4), .ref (a 5), .long (lN cur)]
abbrev oM (a : Nat → Nat) (n pos cmp que dsz mad cur stp met bst : Nat) : List Value := [.int (nI n), .ref (a 1), .ref (a 2), .ref (a 3), .ref (a 4), .ref (a 5), .ref (a 6), .ref (a 7), .ref (a 8), .ref (a 9), .ref (a 10), .int (nI pos), .ref (a 12), .int (nI cmp), .ref (a 14), .ref (a 15), .int (nI que), .ref (a 17), .int (nI dsz), .int (nI mad), .ref (a 20), .long (lN cur), .int (nI stp), .ref (a 23), .ref (a 24), .ref (a 25), .int (nI met), .ref (a 27), .ref (a 28), .int (nI bst)]
/-! numbers below 0 beside naturals -/
theorem nI_nneg {a : Nat} (h : a < 2 ^ 31) {z : Int32} (hz : z < 0) : ¬ nI a = z := fun q => by
  have h1 := nI_pos h
  rw [q] at h1
  exact h1 hz
theorem nI_nltn {a : Nat} (h : a < 2 ^ 31) {z : Int32} (hz : z < 0) : ¬ nI a < z := fun q => by
  have h1 := nI_toInt h
  have h2 := (fa_lt _ _).mp q
  have h3 := (fa_lt _ _).mp hz
  rw [h1] at h2
  have h4 : (0 : Int32).toInt = 0 := by decide
  rw [h4] at h3
  omega
/-! the digits of a number -/
def dcF : Nat → Nat → Nat → Nat
  | 0, _, c => c
  | f + 1, v, c => if 10 ^ c ≤ v then dcF f v (c + 1) else c
def dc (v : Nat) : Nat := dcF 18 v 1
def da (v : Nat) : Nat := dcF 17 v 1
theorem dcF_ge : ∀ (f v c : Nat), c ≤ dcF f v c
  | 0, _, c => Nat.le_refl c
  | f + 1, v, c => by
    unfold dcF
    split
    · exact Nat.le_trans (Nat.le_succ c) (dcF_ge f v (c + 1))
    · exact Nat.le_refl c
theorem dcF_le : ∀ (f v c : Nat), dcF f v c ≤ c + f
  | 0, _, c => Nat.le_refl c
  | f + 1, v, c => by
    unfold dcF
    split
    · have := dcF_le f v (c + 1); omega
    · omega
theorem dcF_lt : ∀ (f v c : Nat), v < 10 ^ (c + f) → v < 10 ^ (dcF f v c)
  | 0, _, c, h => h
  | f + 1, v, c, h => by
    unfold dcF
    split
    · exact dcF_lt f v (c + 1) (by rwa [Nat.add_assoc, Nat.add_comm 1 f])
    · omega
theorem dcF_lo : ∀ (f v c : Nat), dcF f v c = c ∨ 10 ^ (dcF f v c - 1) ≤ v
  | 0, _, _ => Or.inl rfl
  | f + 1, v, c => by
    unfold dcF
    split
    · rename_i h
      rcases dcF_lo f v (c + 1) with q | q
      · exact Or.inr (by rw [q]; exact h)
      · exact Or.inr q
    · exact Or.inl rfl
theorem dc_in (v : Nat) : 1 ≤ dc v ∧ dc v ≤ 19 := ⟨dcF_ge 18 v 1, dcF_le 18 v 1⟩
theorem pow18 : (10 : Nat) ^ 18 < 2 ^ 63 := by decide
theorem pow_le18 {k : Nat} (h : k ≤ 18) : 10 ^ k < 2 ^ 63 := Nat.lt_of_le_of_lt (Nat.pow_le_pow_right (by decide) h) pow18
