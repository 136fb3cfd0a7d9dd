/-! the search: the list of what was met -/
def fnd (m : Nat → Nat) (c v : Nat) : Bool := decide (fa_first (fun i => decide (m i = v)) c < c)
theorem fnd_yes {m : Nat → Nat} {c v i : Nat} (hi : i < c) (h : m i = v) : fnd m c v = true := by
  unfold fnd
  rw [decide_eq_true_iff]
  rcases Nat.lt_or_ge (fa_first (fun i => decide (m i = v)) c) c with q | q
  · exact q
  · have := fa_first_no (fun i => decide (m i = v)) c i (by omega)
    exact absurd h (of_decide_eq_false this)
theorem fnd_no {m : Nat → Nat} {c v : Nat} (h : ∀ i, i < c → m i ≠ v) : ¬ fnd m c v = true := by
  unfold fnd
  rw [decide_eq_true_iff]
  intro q
  have := fa_first_yes (fun i => decide (m i = v)) c q
  exact h _ q (of_decide_eq_true this)
/-- is there room for v, or was it met; what the list is then -/
def mtO (m : Nat → Nat) (c v : Nat) : Bool := fnd m c v || decide (c < 60)
def mtM (m : Nat → Nat) (c v : Nat) : Nat → Nat := if fnd m c v = true ∨ 60 ≤ c then m else up m c v
def mtD (m ds : Nat → Nat) (c v d : Nat) : Nat → Nat := if fnd m c v = true ∨ 60 ≤ c then ds else up ds c d
def mtC (m : Nat → Nat) (c v : Nat) : Nat := if fnd m c v = true ∨ 60 ≤ c then c else c + 1
theorem mt_old {m ds : Nat → Nat} {c v d : Nat} (h : fnd m c v = true ∨ 60 ≤ c) : m = mtM m c v ∧ ds = mtD m ds c v d ∧ c = mtC m c v := ⟨(if_pos h).symm, (if_pos h).symm, (if_pos h).symm⟩
theorem mt_new {m ds : Nat → Nat} {c v d : Nat} (h1 : ¬ fnd m c v = true) (h2 : c < 60) : up m c v = mtM m c v ∧ up ds c d = mtD m ds c v d ∧ c + 1 = mtC m c v := by
  have h : ¬ (fnd m c v = true ∨ 60 ≤ c) := fun q => q.elim h1 (fun z => by omega)
  exact ⟨(if_neg h).symm, (if_neg h).symm, (if_neg h).symm⟩
theorem mtO_t {m : Nat → Nat} {c v : Nat} (h : fnd m c v = true ∨ c < 60) : mtO m c v = true := by
  unfold mtO; rw [Bool.or_eq_true, decide_eq_true_iff]; exact h
theorem mtO_f {m : Nat → Nat} {c v : Nat} (h1 : ¬ fnd m c v = true) (h2 : ¬ c < 60) : ¬ mtO m c v = true := by
  unfold mtO; rw [Bool.or_eq_true, decide_eq_true_iff]; exact fun q => q.elim h1 h2
