theorem nI_max {a b : Nat} (ha : a ≤ 18) (hb : b ≤ 18) : (if nI a < nI b then nI b else nI a) = nI (if a < b then b else a) := by
  by_cases h : a < b
  · rw [if_pos h, if_pos ((nI_ltI (by omega) (by omega)).mpr h)]
  · rw [if_neg h, if_neg (fun q => h ((nI_ltI (by omega) (by omega)).mp q))]
theorem rootK_ge {r : Nat} (h : r < 16) : 6 ≤ rootK r := by
  have : ∀ q, q < 16 → 6 ≤ rootK q := by decide
  exact this r h
/-- what stands at a place of a list of steps -/
def stA (f : Nat → Nat) (c : Nat) (x : Int32) : Int32 := if rok x c = true then nI (f (rn x)) else -5
theorem stA_neg {f : Nat → Nat} {c : Nat} {x : Int32} (h : x < 0) : stA f c x = -5 := if_neg (rok_neg h)
theorem stA_in {f : Nat → Nat} {c k : Nat} (hk : k < 2 ^ 31) (h : k < c) : stA f c (nI k) = nI (f k) := by
  unfold stA; rw [if_pos ((rok_nI hk).mpr h), rn_nI hk]
theorem stA_out {f : Nat → Nat} {c k : Nat} (hk : k < 2 ^ 31) (h : c ≤ k) : stA f c (nI k) = -5 := by
  unfold stA; rw [if_neg (fun q => by have := (rok_nI hk).mp q; omega)]
