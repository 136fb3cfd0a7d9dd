theorem lnk_y2 {fol g : Nat → Nat} {a b k w : Nat} (i2 : ∀ p, (fun q => g (9 * w + q)) p = if p < k then lnk (fun q => fol (9 * w + q)) a b p else (fun q => fol (9 * w + q)) p) (h : a / 2 ^ k % 2 = 1) : ∀ p, (fun q => up g (9 * w + k) (g (9 * w + k) ||| b) (9 * w + q)) p = if p < k + 1 then lnk (fun q => fol (9 * w + q)) a b p else (fun q => fol (9 * w + q)) p := fun p => by
  have e : (fun q => up g (9 * w + k) (g (9 * w + k) ||| b) (9 * w + q)) p = up (fun q => g (9 * w + q)) k ((fun q => g (9 * w + q)) k ||| b) p := by
    show (if 9 * w + p = 9 * w + k then _ else _) = (if p = k then _ else _)
    by_cases c : p = k
    · rw [if_pos c, if_pos (by omega)]
    · rw [if_neg c, if_neg (by omega)]
  rw [e]; exact lnk_y i2 h p
theorem lnk_n2 {fol g : Nat → Nat} {a b k w : Nat} (i2 : ∀ p, (fun q => g (9 * w + q)) p = if p < k then lnk (fun q => fol (9 * w + q)) a b p else (fun q => fol (9 * w + q)) p) (h : ¬ a / 2 ^ k % 2 = 1) : ∀ p, (fun q => up g (9 * w + k) (g (9 * w + k) ||| 0) (9 * w + q)) p = if p < k + 1 then lnk (fun q => fol (9 * w + q)) a b p else (fun q => fol (9 * w + q)) p := fun p => by
  have e : (fun q => up g (9 * w + k) (g (9 * w + k) ||| 0) (9 * w + q)) p = (fun q => g (9 * w + q)) p := by
    show (if 9 * w + p = 9 * w + k then _ else _) = g (9 * w + p)
    by_cases c : p = k
    · rw [if_pos (by omega), Nat.or_zero, c]
    · rw [if_neg (by omega)]
  rw [e]; exact lnk_n i2 (by omega) p
