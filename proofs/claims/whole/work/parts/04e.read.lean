/-! what reading a number leaves -/
theorem stE_cong {d d' E E' : Nat → Nat} {n p : Nat} (h1 : d' p = d p) (h2 : p + 1 < n → E' (p + 1) = E (p + 1)) (h3 : p + 1 < n → E (p + 1) < n → E' (E (p + 1)) = E (E (p + 1))) : stE d' n E' p = stE d n E p := by
  unfold stE
  rw [h1]
  by_cases ha : n ≤ p + 1 ∨ d p < 6 ∨ 8 < d p
  · rw [if_pos ha, if_pos ha]
  · rw [if_neg ha, if_neg ha, h2 (by omega)]
    by_cases hb : E (p + 1) < n
    · rw [h3 (by omega) hb]
    · rw [if_neg hb, if_neg hb]
theorem stE_le {d E : Nat → Nat} {n p : Nat} (hp : p < n) (h : ∀ q, p < q → q < n → E q ≤ n ∧ q < E q) : stE d n E p ≤ n + 1 := by
  unfold stE
  split
  · omega
  · split
    · omega
    · rename_i h1 h2
      have h3 := h (p + 1) (by omega) (by omega)
      split
      · omega
      · split
        · rename_i h4 h5
          have := h _ (by omega) h5
          omega
        · omega
theorem en_step {v p : Nat} (hp : p < dc v) (hg : ∀ q, p < q → q < dc v → q < en v q) : en v p = stE (dg v) (dc v) (en v) p := fE_step (dg v) hp hg
/-- the arrays hold the tree of v -/
def RD (v : Nat) (kd ed cd : Nat → Nat) (nn : Nat) : Prop := nn = dc v ∧ ∀ j, j < nn → kd j = dg v j ∧ ed j = en v j ∧ cd j = cdv v j
theorem okVb_en {v q : Nat} (hq : q < dc v) (h : dc v < en v q) : ¬ okVb v = true := fun z => by
  have := (okVb_iff.mp z).2.2.1 q hq
  have h2 : en v q ≤ dc v := this
  omega
theorem okVb_en0 {v : Nat} (h : en v 0 ≠ dc v) : ¬ okVb v = true := fun z => h (okVb_iff.mp z).2.2.2
theorem okVb_of {v : Nat} (h0 : 0 < v) (h18 : v < 10 ^ 18) (h : ∀ q, q < dc v → en v q ≤ dc v) (he : en v 0 = dc v) : okVb v = true := okVb_iff.mpr ⟨h0, h18, h, he⟩
theorem dg_lt (v k : Nat) : dg v k < 10 := Nat.mod_lt _ (by decide)
theorem TV_RD {v : Nat} {kd ed cd : Nat → Nat} {nn : Nat} (h : okVb v = true) (r : RD v kd ed cd nn) : TV kd ed nn := by
  obtain ⟨rfl, hj⟩ := r
  exact TV_cong (TV_v (okVb_iff.mp h)) (fun j q => (hj j q).1) (fun j q => (hj j q).2.1)
theorem cdv_sz {v : Nat} (h : okVb v = true) {j : Nat} (hj : j < dc v) : sz (cdv v j) (en v j - j) := by
  have tv := TV_v (okVb_iff.mp h)
  have hq := tv.q hj
  have hd := dg_alt hj
  have hp : 0 < 10 ^ (dc v - j - 1) := Nat.pow_pos (by decide)
  have hlo : 10 ^ (dc v - j - 1) ≤ v % 10 ^ (dc v - j) := by
    rcases Nat.lt_or_ge (v % 10 ^ (dc v - j)) (10 ^ (dc v - j - 1)) with c | c
    · rw [Nat.div_eq_of_lt c] at hd; omega
    · exact c
  have hhi : v % 10 ^ (dc v - j) < 10 ^ (dc v - j) := Nat.mod_lt _ (Nat.pow_pos (by decide))
  have hp2 : 0 < 10 ^ (dc v - en v j) := Nat.pow_pos (by decide)
  refine ⟨by omega, ?_, ?_⟩
  · unfold cdv
    rw [Nat.le_div_iff_mul_le hp2, ← Nat.pow_add, show en v j - j - 1 + (dc v - en v j) = dc v - j - 1 from by omega]
    exact hlo
  · unfold cdv
    rw [Nat.div_lt_iff_lt_mul hp2, ← Nat.pow_add, show en v j - j + (dc v - en v j) = dc v - j from by omega]
    exact hhi
theorem TC_RD {v : Nat} {kd ed cd : Nat → Nat} {nn : Nat} (h : okVb v = true) (r : RD v kd ed cd nn) : TC kd ed cd nn := by
  refine ⟨TV_RD h r, fun j hj => ?_⟩
  obtain ⟨rfl, hr⟩ := r
  rw [(hr j hj).2.1, (hr j hj).2.2]
  exact cdv_sz h hj
theorem stE_gt {d E : Nat → Nat} {n p : Nat} (h : stE d n E p ≤ n) (hg : ∀ q, p < q → q < n → q < E q) : p < stE d n E p := by
  unfold stE at h ⊢
  split
  · omega
  · rename_i h1
    rw [if_neg h1] at h
    split
    · rename_i h2
      rw [if_pos h2] at h; omega
    · rename_i h2
      rw [if_neg h2] at h
      have h3 := hg (p + 1) (by omega) (by omega)
      split
      · omega
      · rename_i h4
        rw [if_neg h4] at h
        split
        · rename_i h5
          have := hg _ (by omega) h5
          omega
        · rename_i h5
          rw [if_neg h5] at h; omega
theorem rd_next {v k : Nat} {g e1 c1 : Nat → Nat} (i2 : ∀ j, k ≤ j → j < dc v → g j = dg v j ∧ e1 j = en v j ∧ en v j ≤ dc v ∧ j < en v j ∧ c1 j = cdv v j) (hk : 0 < k) (hk2 : k - 1 < dc v) (hle : en v (k - 1) ≤ dc v) (hgt : k - 1 < en v (k - 1)) : ∀ j, k - 1 ≤ j → j < dc v → up g (k - 1) (dg v (k - 1)) j = dg v j ∧ up e1 (k - 1) (en v (k - 1)) j = en v j ∧ en v j ≤ dc v ∧ j < en v j ∧ up c1 (k - 1) (v % 10 ^ (dc v - (k - 1)) / 10 ^ (dc v - en v (k - 1))) j = cdv v j := by
  intro j h1 h2
  by_cases hj : j = k - 1
  · subst hj
    rw [up_s, up_s, up_s]
    exact ⟨rfl, rfl, hle, hgt, rfl⟩
  · rw [up_n _ hj, up_n _ hj, up_n _ hj]
    exact i2 j (by omega) h2
