/-! truth values as numbers; the reference's sets -/
theorem pN_or {A B : Prop} [Decidable A] [Decidable B] : pN A ||| pN B = pN (A ∨ B) := by
  by_cases a : A
  · rw [pN_t (P := A ∨ B) (Or.inl a), pN_t (P := A) a]
    by_cases b : B
    · rw [pN_t b]; rfl
    · rw [pN_f b]; rfl
  · rw [pN_f (P := A) a]
    by_cases b : B
    · rw [pN_t (P := A ∨ B) (Or.inr b), pN_t b]; rfl
    · rw [pN_f (P := A ∨ B) (fun h => h.elim a b), pN_f b]; rfl
theorem pN_and {A B : Prop} [Decidable A] [Decidable B] : pN A &&& pN B = pN (A ∧ B) := by
  by_cases a : A
  · rw [pN_t (P := A) a]
    by_cases b : B
    · rw [pN_t (P := A ∧ B) ⟨a, b⟩, pN_t b]; rfl
    · rw [pN_f (P := A ∧ B) (fun h => b h.2), pN_f b]; rfl
  · rw [pN_f (P := A) a, pN_f (P := A ∧ B) (fun h => a h.1), Nat.zero_and]
theorem dec_or (a b : Bool) : decide (a = true ∨ b = true) = (a || b) := by cases a <;> cases b <;> rfl
theorem dec_and (a b : Bool) : decide (a = true ∧ b = true) = (a && b) := by cases a <;> cases b <;> rfl
def sI (z : Option Nat) : Int32 := match z with | none => -9 | some m => nI m
theorem nI_n9 {m : Nat} (h : m < 2 ^ 31) : ¬ nI m = -9 := fun q => by
  have h1 := congrArg Int32.toInt q
  have h9 : (-9 : Int32).toInt = -9 := by decide
  rw [nI_toInt h, h9] at h1; omega
theorem AR_of2 {v w o : Nat} {nus : Nat → Bool} {fis las fol wsy : Nat → Nat} {isN : Nat → Bool} {fiO laO : Nat → Nat} {pos : Nat} (hv : okVb v = true) (h : AJ v w 0 o nus fis las fol wsy pos) : AR v w fol wsy (upz isN w (decide (nus 0 = true))) (up fiO w (fis 0)) (up laO w (las 0)) := by
  have e : decide (nus 0 = true) = nus 0 := by cases nus 0 <;> rfl
  rw [e]; exact AR_of hv h
/-! counting words: the reference takes the words by their numbers -/
def rW (v : Nat) : Nat → Nat → Option Nat → Option Nat
  | 0, _, z => z
  | k + 1, w, z => rW v k (w / 3) (some (aft v z (w % 3)))
theorem cnt3 (p : Nat → Bool) : ∀ m, fa_cnt p (3 * m) = fa_cnt (fun w => p (3 * w)) m + fa_cnt (fun w => p (3 * w + 1)) m + fa_cnt (fun w => p (3 * w + 2)) m
  | 0 => rfl
  | m + 1 => by
    have ih := cnt3 p m
    rw [show 3 * (m + 1) = 3 * m + 1 + 1 + 1 from by omega]
    show ((fa_cnt p (3 * m) + _) + _) + _ = _
    rw [ih]
    show _ = (_ + _) + (_ + _) + (_ + _)
    dsimp only
    omega
theorem wF_cnt (v : Nat) : ∀ (k : Nat) (z : Option Nat), fa_cnt (fun w => acp v (rW v k w z)) (3 ^ k) = wF v k z
  | 0, z => by
    show 0 + (if acp v (rW v 0 0 z) = true then 1 else 0) = (if acp v z = true then 1 else 0)
    rw [Nat.zero_add]; rfl
  | k + 1, z => by
    have e : ∀ c, c < 3 → (fun w => acp v (rW v (k + 1) (3 * w + c) z)) = (fun w => acp v (rW v k w (some (aft v z c)))) := fun c hc => by
      funext w
      show acp v (rW v k ((3 * w + c) / 3) (some (aft v z ((3 * w + c) % 3)))) = _
      rw [show (3 * w + c) / 3 = w from by omega, show (3 * w + c) % 3 = c from by omega]
    rw [Nat.pow_succ, Nat.mul_comm, cnt3]
    have e0 := e 0 (by decide)
    have e1 := e 1 (by decide)
    have e2 := e 2 (by decide)
    show fa_cnt (fun w => acp v (rW v (k + 1) (3 * w + 0) z)) _ + fa_cnt (fun w => acp v (rW v (k + 1) (3 * w + 1) z)) _ + fa_cnt (fun w => acp v (rW v (k + 1) (3 * w + 2) z)) _ = _
    rw [e0, e1, e2, wF_cnt v k, wF_cnt v k, wF_cnt v k]
    show _ = 0 + wF v k (some (aft v z 0)) + wF v k (some (aft v z 1)) + wF v k (some (aft v z 2))
    omega
theorem rW_s (v : Nat) : ∀ (k w : Nat) (z : Option Nat), rW v (k + 1) w z = some (aft v (rW v k w z) (w / 3 ^ k % 3))
  | 0, w, z => by
    show some (aft v z (w % 3)) = some (aft v z (w / 3 ^ 0 % 3))
    rw [Nat.pow_zero, Nat.div_one]
  | k + 1, w, z => by
    have ih := rW_s v k (w / 3) (some (aft v z (w % 3)))
    show rW v (k + 1) (w / 3) (some (aft v z (w % 3))) = _
    rw [ih, Nat.div_div_eq_div_mul, Nat.pow_succ, Nat.mul_comm 3]; rfl
theorem rW_ok {v : Nat} (hv : okVb v = true) {w : Nat} : ∀ k, zok (rW v k w none)
  | 0 => zok_n
  | k + 1 => by rw [rW_s]; exact zok_s (aft_lt hv _ _)
theorem p3_le {a b : Nat} (h : a ≤ b) : 3 ^ a ≤ 3 ^ b := Nat.pow_le_pow_right (by decide) h
theorem within_6 (n : Int32) : (nI 0 ≤ n ∧ n ≤ nI 6) ↔ ¬ (n < 0 ∨ 6 < n) := by
  have h0 : (0 : Int32).toInt = 0 := by decide
  have h6 : (6 : Int32).toInt = 6 := by decide
  rw [fa_le, fa_le, fa_lt, fa_lt, nI_toInt (by omega), nI_toInt (by omega), h0, h6]
  omega
