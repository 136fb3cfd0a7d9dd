/-! the search: running over the list -/
def rnS (st : (Nat → Nat) × (Nat → Nat) × Nat) : Nat → (Nat → Nat) × (Nat → Nat) × Nat
  | 0 => st
  | k + 1 => if k < (rnS st k).2.2 then exS ((rnS st k).1 k) ((rnS st k).2.1 k + 1) (rnS st k) (16 * dc ((rnS st k).1 k)) else rnS st k
def rnO (st : (Nat → Nat) × (Nat → Nat) × Nat) : Nat → Bool
  | 0 => true
  | k + 1 => rnO st k && (if k < (rnS st k).2.2 then exO ((rnS st k).1 k) ((rnS st k).2.1 k + 1) (rnS st k) (16 * dc ((rnS st k).1 k)) else true)
theorem rnO_mono {st : (Nat → Nat) × (Nat → Nat) × Nat} {j : Nat} (h : rnO st j = false) : ∀ k, rnO st (j + k) = false
  | 0 => h
  | k + 1 => by
    show (rnO st (j + k) && _) = false
    rw [rnO_mono h k]; rfl
theorem rn_step {st : (Nat → Nat) × (Nat → Nat) × Nat} {k c : Nat} {a b : Nat → Nat} (h : (a, b, c) = rnS st k) (ho : rnO st k = true) (hk : k < c) : rnS st (k + 1) = exS (a k) (b k + 1) (a, b, c) (16 * dc (a k)) ∧ rnO st (k + 1) = exO (a k) (b k + 1) (a, b, c) (16 * dc (a k)) := by
  constructor
  · show (if _ then _ else _) = _
    rw [← h, if_pos hk]
  · show (rnO st k && _) = _
    rw [ho, ← h, if_pos hk]; rfl
theorem rn_end {st : (Nat → Nat) × (Nat → Nat) × Nat} {k : Nat} (h : (rnS st k).2.2 ≤ k) : ∀ j, rnS st (k + j) = rnS st k ∧ rnO st (k + j) = rnO st k
  | 0 => ⟨rfl, rfl⟩
  | j + 1 => by
    obtain ⟨e1, e2⟩ := rn_end h j
    have hn : ¬ k + j < (rnS st (k + j)).2.2 := by rw [e1]; omega
    constructor
    · exact (if_neg hn).trans e1
    · show (rnO st (k + j) && _) = _
      rw [e2]
      exact (congrArg (rnO st k && ·) (if_neg hn)).trans (Bool.and_true _)
theorem rn_60 {st : (Nat → Nat) × (Nat → Nat) × Nat} {k c : Nat} {a b : Nat → Nat} (h : (a, b, c) = rnS st k) (hk : k ≤ 60) (hc : c ≤ k) : rnS st 60 = (a, b, c) ∧ rnO st 60 = rnO st k := by
  have h1 : (rnS st k).2.2 ≤ k := by rw [← h]; exact hc
  have := rn_end h1 (60 - k)
  rw [show k + (60 - k) = 60 from by omega] at this
  exact ⟨this.1.trans h.symm, this.2⟩
theorem okM_1 {m : Nat → Nat} {v : Nat} (hv : okVb v = true) : okM (up m 0 v) 1 := by
  refine ⟨by omega, by omega, fun i hi => ?_⟩
  rw [show i = 0 from by omega, up_s]; exact hv
