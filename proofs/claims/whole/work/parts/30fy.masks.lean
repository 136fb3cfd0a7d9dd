/-! how many sets lie in a set -/
def sbW (W k : Nat) : Bool := Nat.beq (k &&& W) k
def pcm (m : Nat) : Nat := fa_cnt (fun i => Nat.testBit m i) 9
def chkW : Nat → Bool
  | 0 => true
  | W + 1 => chkW W && Nat.beq (fa_cnt (sbW W) 512) (2 ^ pcm W)
set_option maxRecDepth 100000 in
theorem chkW_ok : chkW 512 = true := by decide +kernel
theorem chkW_at : ∀ (n W : Nat), W < n → chkW n = true → fa_cnt (sbW W) 512 = 2 ^ pcm W
  | 0, W, h, _ => absurd h (by omega)
  | n + 1, W, h, hc => by
    have hc : (chkW n && Nat.beq (fa_cnt (sbW n) 512) (2 ^ pcm n)) = true := hc
    rw [Bool.and_eq_true] at hc
    rcases Nat.eq_or_lt_of_le (Nat.le_of_lt_succ h) with c | c
    · rw [c]; exact Nat.eq_of_beq_eq_true hc.2
    · exact chkW_at n W c hc.1
theorem sub_cnt {W : Nat} (h : W < 512) : fa_cnt (sbW W) 512 = 2 ^ pcm W := chkW_at 512 W h chkW_ok
theorem sbW_and (a W : Nat) : sbW W (a &&& W) = true := by
  unfold sbW
  rw [Nat.and_assoc, Nat.and_self]; exact Nat.beq_refl _
