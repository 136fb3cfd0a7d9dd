/-! counting words -/
def sm (g : Nat → Nat) : Nat → Nat
  | 0 => 0
  | c + 1 => sm g c + g c
def wF (v : Nat) : Nat → Option Nat → Nat
  | 0, z => if acp v z = true then 1 else 0
  | k + 1, z => sm (fun c => wF v k (some (aft v z c))) 3
theorem oF_0 (f : Nat → Nat) : ∀ k, oF f 0 k = 0
  | 0 => rfl
  | k + 1 => by
    show (if 0 / 2 ^ k % 2 = 1 then _ else oF f 0 k) = 0
    rw [Nat.zero_div, if_neg (by decide)]; exact oF_0 f k
theorem wF_0 (v : Nat) : ∀ k, wF v k (some 0) = 0
  | 0 => by
    show (if decide (0 &&& auL v ≠ 0) = true then 1 else 0) = 0
    rw [Nat.zero_and]; rfl
  | k + 1 => by
    have e : ∀ c, aft v (some 0) c = 0 := fun c => by
      show oF (auT v) 0 9 &&& _ = 0
      rw [oF_0, Nat.zero_and]
    show sm (fun c => wF v k (some (aft v (some 0) c))) 3 = 0
    have e2 : (fun c => wF v k (some (aft v (some 0) c))) = fun _ => 0 := funext (fun c => by rw [e, wF_0 v k])
    rw [e2]; rfl
theorem cs_0 {z : Option Nat} (h : cs z = 0) : z = some 0 := by
  cases z with
  | none => exact absurd h (by decide)
  | some m => have h : 2 * m = 0 := h; rw [show m = 0 from by omega]
theorem zok_s {m : Nat} (h : m < 512) : zok (some m) := fun q hq => by cases hq; exact h
theorem zok_n : zok none := fun q hq => by cases hq
theorem AC_st {v : Nat} {fo re : Nat → Nat} {ac st : Nat} (hv : okVb v = true) (h : AC v fo re ac st) : st ≤ 10 := by
  have := nS_9 (TV_v (okVb_iff.mp hv)) 0
  have := h.2.2.2
  omega
/-- the answers -/
def aEm (x : Int64) : Int32 := if okVb (xv x) = true then nI (pN (auN (xv x) = true)) else -1
def aCw (x : Int64) (n : Int32) : Int32 := if okVb (xv x) = true then (if n < 0 ∨ 6 < n then -5 else nI (wF (xv x) n.toInt.toNat none)) else -1
