/-- the first of the least sizes among the first k, from k = 1 on -/
def bsI (mt : Nat → Nat) : Nat → Nat
  | 0 => 0
  | k + 1 => if k = 0 then 0 else if dc (mt k) < dc (mt (bsI mt k)) then k else bsI mt k
theorem bsI_lt (mt : Nat → Nat) : ∀ k, 0 < k → bsI mt k < k
  | 0, h => absurd h (by omega)
  | k + 1, _ => by
    unfold bsI
    split
    · omega
    · have := bsI_lt mt k (by omega)
      split <;> omega
theorem bsI_step {mt : Nat → Nat} {k : Nat} (h : 0 < k) : bsI mt (k + 1) = if dc (mt k) < dc (mt (bsI mt k)) then k else bsI mt k := by
  show (if k = 0 then 0 else _) = _
  rw [if_neg (by omega)]
