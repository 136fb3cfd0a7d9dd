/-! first places, counts; ints as places -/
theorem ff_eq {g : Nat → Bool} {n k : Nat} (hk : k < n) (hg : g k = true) (hb : ∀ j, j < k → g j = false) : fa_first g n = k := by
  rcases Nat.lt_or_ge (fa_first g n) k with c | c
  · have h1 := fa_first_yes g n (by omega)
    rw [hb _ c] at h1; cases h1
  · rcases Nat.lt_or_ge k (fa_first g n) with c2 | c2
    · have := fa_first_no g n k c2
      rw [hg] at this; cases this
    · omega
theorem ff_none {g : Nat → Bool} {n : Nat} (hb : ∀ j, j < n → g j = false) : fa_first g n = n := by
  rcases Nat.lt_or_ge (fa_first g n) n with c | c
  · have h1 := fa_first_yes g n c
    rw [hb _ c] at h1; cases h1
  · have := fa_first_le g n; omega
/-- the natural behind an int -/
def rn (x : Int32) : Nat := x.toInt.toNat
theorem rn_nI {k : Nat} (h : k < 2 ^ 31) : rn (nI k) = k := by unfold rn; rw [nI_toInt h]; rfl
def rok (x : Int32) (m : Nat) : Bool := decide (0 ≤ x.toInt ∧ x.toInt < m)
theorem rok_nI {k m : Nat} (h : k < 2 ^ 31) : rok (nI k) m = true ↔ k < m := by
  unfold rok; rw [decide_eq_true_iff, nI_toInt h]; omega
theorem rok_neg {x : Int32} {m : Nat} (h : x < 0) : ¬ rok x m = true := by
  unfold rok; rw [decide_eq_true_iff]; have := neg_toInt h; omega
theorem rok_ok {x : Int32} {m : Nat} (h : rok x m = true) (hm : m ≤ 2 ^ 31) : ∃ k, k < m ∧ x = nI k := by
  unfold rok at h; rw [decide_eq_true_iff] at h
  have hx : ¬ x < 0 := fun q => by have := neg_toInt q; omega
  obtain ⟨k, hk, rfl⟩ := nI_of hx
  rw [nI_toInt hk] at h
  exact ⟨k, by omega, rfl⟩
/-- a code put in the place of a part -/
def wR (ed cd : Nat → Nat) (nn p rep : Nat) : Nat := (cd 0 / 10 ^ (nn - p) * 10 ^ da rep + rep) * 10 ^ (nn - ed p) + cd 0 % 10 ^ (nn - ed p)
/-- how many stars stand over a place, and the most of them -/
def sAr (kd ed : Nat → Nat) (p : Nat) : Nat := fa_cnt (fun j => decide (kd j = 8 ∧ p < ed j)) (p + 1)
def dSF (kd ed : Nat → Nat) : Nat → Nat
  | 0 => 0
  | k + 1 => if dSF kd ed k < sAr kd ed k then sAr kd ed k else dSF kd ed k
/-- the first rule at a place, the first place; -9 if there is none -/
def fRn (g : Nat → Nat → Nat) (p : Nat) : Nat := fa_first (fun r => decide (g r p ≠ 0)) 16
def fRI (g : Nat → Nat → Nat) (p : Nat) : Int32 := if fRn g p < 16 then nI (fRn g p) else -9
def fPn (g : Nat → Nat → Nat) (n : Nat) : Nat := fa_first (fun p => decide (fRn g p < 16)) n
def fPI (g : Nat → Nat → Nat) (n : Nat) : Int32 := if fPn g n < n then nI (fPn g n) else -9
theorem fRn_le (g : Nat → Nat → Nat) (p : Nat) : fRn g p ≤ 16 := fa_first_le _ 16
theorem fRI_none {g : Nat → Nat → Nat} {p : Nat} : fRI g p = -9 ↔ ¬ fRn g p < 16 := by
  unfold fRI
  by_cases h : fRn g p < 16
  · rw [if_pos h]; exact ⟨fun q => absurd q (nI_nneg (by omega) (by decide)), fun q => absurd h q⟩
  · rw [if_neg h]; exact ⟨fun _ => h, fun _ => rfl⟩
/-- a place's error, a step's result -/
def aErr (nn : Nat) (rl ps : Int32) : Int32 := if rok rl 16 = true then (if rok ps nn = true then 0 else -3) else -2
def sRes (g : Nat → Nat → Nat) (w : Nat → Nat → Nat) (nn : Nat) (rl ps : Int32) : Int64 := if rok rl 16 = true then (if rok ps nn = true then (if g (rn rl) (rn ps) = 0 then -4 else lN (w (rn ps) (g (rn rl) (rn ps)))) else -3) else -2
