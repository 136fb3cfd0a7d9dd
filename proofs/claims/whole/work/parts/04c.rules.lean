/-! codes put together, and how many digits they have -/
def un (a b : Nat) : Nat := (6 * 10 ^ da a + a) * 10 ^ da b + b
def ct (a b : Nat) : Nat := (7 * 10 ^ da a + a) * 10 ^ da b + b
def stc (a : Nat) : Nat := 8 * 10 ^ da a + a
/-- a has x digits -/
def sz (a x : Nat) : Prop := 1 ≤ x ∧ 10 ^ (x - 1) ≤ a ∧ a < 10 ^ x
theorem sz_lt {a x : Nat} (h : sz a x) (hx : x ≤ 18) : a < 10 ^ 18 := Nat.lt_of_lt_of_le h.2.2 (Nat.pow_le_pow_right (by decide) hx)
theorem sz_63 {a x : Nat} (h : sz a x) (hx : x ≤ 18) : a < 2 ^ 63 := Nat.lt_trans (sz_lt h hx) pow18
theorem sz_pos {a x : Nat} (h : sz a x) : 0 < a := Nat.lt_of_lt_of_le (Nat.pow_pos (by decide)) h.2.1
theorem da_sz {a x : Nat} (h : sz a x) (hx : x ≤ 18) : da a = x := by
  have h1 : a < 10 ^ da a := dcF_lt 17 a 1 (Nat.lt_of_lt_of_le (sz_lt h hx) (Nat.le_refl _))
  have h2 : x - 1 < da a := pow_inj_lt h.2.1 h1
  rcases dcF_lo 17 a 1 with q | q
  · have q : da a = 1 := q
    have := h.1
    omega
  · have h3 : da a - 1 < x := pow_inj_lt q h.2.2
    have := h.1
    omega
theorem dc_sz {a x : Nat} (h : sz a x) (hx : x ≤ 18) : dc a = x := by
  have h1 : a < 10 ^ dc a := (dc_lt (sz_lt h hx)).1
  have h2 : x - 1 < dc a := pow_inj_lt h.2.1 h1
  rcases dcF_lo 18 a 1 with q | q
  · have q : dc a = 1 := q
    have := h.1
    omega
  · have h3 : dc a - 1 < x := pow_inj_lt q h.2.2
    have := h.1
    omega
theorem sz_app {k a x b y : Nat} (ha : 10 ^ x ≤ a) (hk : k < 10) (ha2 : a < (k + 1) * 10 ^ x) (hb : b < 10 ^ y) : sz (a * 10 ^ y + b) (x + y + 1) := by
  refine ⟨by omega, ?_, ?_⟩
  · rw [show x + y + 1 - 1 = x + y from by omega, Nat.pow_add]
    exact Nat.le_trans (Nat.mul_le_mul_right _ ha) (Nat.le_add_right _ _)
  · have h1 : a + 1 ≤ (k + 1) * 10 ^ x := ha2
    have h2 : (a + 1) * 10 ^ y ≤ (k + 1) * 10 ^ x * 10 ^ y := Nat.mul_le_mul_right _ h1
    rw [Nat.add_mul, Nat.one_mul] at h2
    have h3 : (k + 1) * 10 ^ x * 10 ^ y ≤ 10 ^ (x + y + 1) := by
      rw [Nat.mul_assoc, ← Nat.pow_add, Nat.pow_succ, Nat.mul_comm (10 ^ (x + y)) 10]
      exact Nat.mul_le_mul_right _ (by omega)
    omega
theorem op_sz {k a x b y : Nat} (hk : 1 ≤ k) (hk9 : k < 10) (ha : sz a x) (hb : sz b y) (hl : x + y + 1 ≤ 18) : sz ((k * 10 ^ da a + a) * 10 ^ da b + b) (x + y + 1) := by
  rw [da_sz ha (by omega), da_sz hb (by omega)]
  have h1 : 10 ^ x ≤ k * 10 ^ x := Nat.le_mul_of_pos_left _ hk
  exact sz_app (k := k) (by omega) hk9 (by have h2 := ha.2.2; rw [Nat.add_mul, Nat.one_mul]; omega) hb.2.2
theorem un_sz {a x b y : Nat} (ha : sz a x) (hb : sz b y) (hl : x + y + 1 ≤ 18) : sz (un a b) (x + y + 1) := op_sz (by decide) (by decide) ha hb hl
theorem ct_sz {a x b y : Nat} (ha : sz a x) (hb : sz b y) (hl : x + y + 1 ≤ 18) : sz (ct a b) (x + y + 1) := op_sz (by decide) (by decide) ha hb hl
theorem stc_sz {a x : Nat} (ha : sz a x) (hl : x + 1 ≤ 18) : sz (stc a) (x + 1) := by
  unfold stc
  rw [da_sz ha (by omega)]
  have := ha.2.2
  refine ⟨by omega, ?_, ?_⟩
  · rw [show x + 1 - 1 = x from rfl]; omega
  · rw [Nat.pow_succ]; omega
/-! the rules, as the class has them: K the kinds, C the codes, RR the right operands, S what is starred -/
def mBU (C : Nat → Nat) (u l r : Nat) : Nat := if C l = u then C r else if C r = u then C l else 0
def mCE (C : Nat → Nat) (l r : Nat) : Nat := if C l = 1 ∨ C r = 1 then 1 else 0
def mSN (C : Nat → Nat) (o : Nat) : Nat := if C o = 1 ∨ C o = 2 then 2 else 0
def mUS (C : Nat → Nat) (l r : Nat) : Nat := if C l = C r then C l else 0
def mSS (K C : Nat → Nat) (o : Nat) : Nat := if K o = 8 then C o else 0
def mSO (K C RR : Nat → Nat) (o : Nat) : Nat := if K o = 6 then (if mBU C 2 (o + 1) (RR o) = 0 then 0 else stc (mBU C 2 (o + 1) (RR o))) else 0
def mST (K C : Nat → Nat) (l r : Nat) : Nat := if C l = C r ∧ K l = 8 then C l else 0
def mSE (K C : Nat → Nat) (l r : Nat) : Nat := if C l = 2 ∧ K r = 8 then C r else if K l = 8 ∧ C r = 2 then C l else 0
def mBS (C S : Nat → Nat) (l r : Nat) : Nat := if S r = C l then C r else if S l = C r then C l else 0
def mSF (K C RR : Nat → Nat) (l r : Nat) : Nat := if (K l = 7 ∧ K r = 7) ∧ C (l + 1) = C (r + 1) then ct (C (l + 1)) (un (C (RR l)) (C (RR r))) else 0
def mSB (K C RR : Nat → Nat) (l r : Nat) : Nat := if (K l = 7 ∧ K r = 7) ∧ C (RR l) = C (RR r) then ct (un (C (l + 1)) (C (r + 1))) (C (RR l)) else 0
def mOR (K C RR S : Nat → Nat) (l r : Nat) : Nat := if C l = 2 then (if K r = 7 then mBS C S (r + 1) (RR r) else 0) else if C r = 2 ∧ K l = 7 then mBS C S (l + 1) (RR l) else 0
def mSU (K C RR S : Nat → Nat) (o : Nat) : Nat := if K o = 6 then (if K (o + 1) = 8 then stc (un (S (o + 1)) (C (RR o))) else if K (RR o) = 8 then stc (un (C (o + 1)) (S (RR o))) else 0) else 0
def mTS (K RR S : Nat → Nat) (o : Nat) : Nat := if K o = 7 ∧ S (o + 1) ≠ 0 ∧ S (RR o) ≠ 0 then stc (un (S (o + 1)) (S (RR o))) else 0
def mRI (K C RR : Nat → Nat) (l r : Nat) : Nat := if K r = 6 then (if C l = C (r + 1) then un (C l) (C (RR r)) else if C l = C (RR r) then un (C l) (C (r + 1)) else 0) else 0
def mRB (K C RR S : Nat → Nat) (rule l r : Nat) : Nat :=
  match rule with
  | 0 => mBU C 1 l r
  | 1 => mCE C l r
  | 2 => mBU C 2 l r
  | 3 => mSN C l
  | 4 => mUS C l r
  | 5 => mSS K C l
  | 6 => mSO K C RR l
  | 7 => mST K C l r
  | 8 => mSE K C l r
  | 9 => mBS C S l r
  | 10 => mSF K C RR l r
  | 11 => mSB K C RR l r
  | 12 => mOR K C RR S l r
  | 13 => mSU K C RR S l
  | 14 => mTS K RR S l
  | 15 => mRI K C RR l r
  | _ => 0
/-- what rule makes of the node at p, 0 if it isn't applicable -/
def mR (K C RR S : Nat → Nat) (rule p : Nat) : Nat := if rule < 16 ∧ K p = rootK rule then mRB K C RR S rule (p + 1) (RR p) else 0
/-! a tree with the codes of its parts -/
def TC (d E c : Nat → Nat) (n : Nat) : Prop := TV d E n ∧ ∀ j, j < n → sz (c j) (E j - j)
def kA (kd : Nat → Nat) (nn p : Nat) : Nat := if p < nn then kd p else 0
def rA (ed : Nat → Nat) (nn p : Nat) : Nat := if p + 1 < nn then ed (p + 1) else nn
def sA (kd cd : Nat → Nat) (nn p : Nat) : Nat := if p + 1 < nn ∧ kd p = 8 then cd (p + 1) else 0
section TCs
variable {d E c : Nat → Nat} {n : Nat}
theorem TC.n18 (h : TC d E c n) : n ≤ 18 := h.1.1
theorem TC.n0 (h : TC d E c n) : 0 < n := h.1.2.1
theorem TC.kd (h : TC d E c n) {j : Nat} (hj : j < n) : d j < 2 ^ 31 := by have := (h.1.q hj).2.1; omega
theorem TC.k (h : TC d E c n) (j : Nat) : kA d n j ≤ 8 := by
  unfold kA; split
  · rename_i hj; exact (h.1.q hj).2.1
  · omega
theorem TC.len (h : TC d E c n) {j : Nat} (hj : j < n) : E j - j ≤ 18 := by have := (h.1.q hj).2.2.2; have := h.n18; omega
theorem TC.c18 (h : TC d E c n) (j : Nat) : kA c n j < 10 ^ 18 := by
  unfold kA; split
  · rename_i hj; exact sz_lt (h.2 j hj) (h.len hj)
  · decide
theorem TC.c63 (h : TC d E c n) (j : Nat) : kA c n j < 2 ^ 63 := Nat.lt_trans (h.c18 j) pow18
theorem TC.r (h : TC d E c n) (j : Nat) : rA E n j ≤ 18 := by
  have := h.n18
  unfold rA; split
  · rename_i hj; have := (h.1.q hj).2.2.2; omega
  · omega
theorem TC.s63 (h : TC d E c n) (j : Nat) : sA d c n j < 2 ^ 63 := by
  unfold sA; split
  · rename_i hj; exact sz_63 (h.2 _ hj.1) (h.len hj.1)
  · decide
theorem TC.szc (h : TC d E c n) {j : Nat} (hj : j < n) : sz (kA c n j) (E j - j) := by unfold kA; rw [if_pos hj]; exact h.2 j hj
/-- a node of two operands: where they are -/
theorem TC.two (h : TC d E c n) {o : Nat} (hk : kA d n o = 6 ∨ kA d n o = 7) : o < n ∧ o + 1 < n ∧ rA E n o = E (o + 1) ∧ E (o + 1) < n ∧ o + 1 < E (o + 1) ∧ E o = E (E (o + 1)) ∧ E (o + 1) < E o ∧ E o ≤ n := by
  unfold kA at hk
  by_cases ho : o < n
  · rw [if_pos ho] at hk
    obtain ⟨h1, h2, h3⟩ := (h.1.2.2.2 o ho).2.2.2.2.2.2 hk
    have h4 := (h.1.q h1).2.2.1
    have h5 := (h.1.q h2).2.2.1
    have h6 := (h.1.q ho).2.2.2
    unfold rA
    rw [if_pos h1]
    exact ⟨ho, h1, rfl, h2, h4, h3, by omega, h6⟩
  · rw [if_neg ho] at hk; omega
/-- a star: where its operand is -/
theorem TC.one (h : TC d E c n) {o : Nat} (hk : kA d n o = 8) : o < n ∧ o + 1 < n ∧ E o = E (o + 1) ∧ sA d c n o = kA c n (o + 1) ∧ o + 1 < E (o + 1) ∧ E (o + 1) ≤ n := by
  unfold kA at hk
  by_cases ho : o < n
  · rw [if_pos ho] at hk
    obtain ⟨h1, h2⟩ := (h.1.2.2.2 o ho).2.2.2.2.2.1 hk
    have h4 := (h.1.q h1).2.2
    refine ⟨ho, h1, h2, ?_, h4.1, h4.2⟩
    unfold sA kA
    rw [if_pos ⟨h1, hk⟩, if_pos h1]
  · rw [if_neg ho] at hk; omega
theorem TC.sne (h : TC d E c n) {o : Nat} (hs : sA d c n o ≠ 0) : kA d n o = 8 := by
  unfold sA at hs
  by_cases hc : o + 1 < n ∧ d o = 8
  · unfold kA; rw [if_pos (by omega)]; exact hc.2
  · rw [if_neg hc] at hs; exact absurd rfl hs
/-- a union of what two stars star fits -/
theorem TC.unSS (h : TC d E c n) {o : Nat} (hk : kA d n o = 6 ∨ kA d n o = 7) (h1 : kA d n (o + 1) = 8) (h2 : kA d n (rA E n o) = 8) : sz (un (sA d c n (o + 1)) (sA d c n (rA E n o))) (E o - o - 2) := by
  obtain ⟨t1, t2, t3, t4, t5, t6, t7, t8⟩ := h.two hk
  have hn := h.n18
  rw [t3] at h2 ⊢
  obtain ⟨a1, a2, a3, a4, a5, a6⟩ := h.one h1
  obtain ⟨b1, b2, b3, b4, b5, b6⟩ := h.one h2
  rw [a4, b4]
  have hz := un_sz (h.szc a2) (h.szc b2) (by omega)
  rw [show E o - o - 2 = E (o + 1 + 1) - (o + 1 + 1) + (E (E (o + 1) + 1) - (E (o + 1) + 1)) + 1 from by omega]
  exact hz
theorem TC.unSC (h : TC d E c n) {o : Nat} (hk : kA d n o = 6 ∨ kA d n o = 7) (h1 : kA d n (o + 1) = 8) : sz (un (sA d c n (o + 1)) (kA c n (rA E n o))) (E o - o - 1) := by
  obtain ⟨t1, t2, t3, t4, t5, t6, t7, t8⟩ := h.two hk
  have hn := h.n18
  rw [t3]
  obtain ⟨a1, a2, a3, a4, a5, a6⟩ := h.one h1
  rw [a4]
  have hz := un_sz (h.szc a2) (h.szc t4) (by omega)
  rw [show E o - o - 1 = E (o + 1 + 1) - (o + 1 + 1) + (E (E (o + 1)) - E (o + 1)) + 1 from by omega]
  exact hz
theorem TC.unCS (h : TC d E c n) {o : Nat} (hk : kA d n o = 6 ∨ kA d n o = 7) (h2 : kA d n (rA E n o) = 8) : sz (un (kA c n (o + 1)) (sA d c n (rA E n o))) (E o - o - 1) := by
  obtain ⟨t1, t2, t3, t4, t5, t6, t7, t8⟩ := h.two hk
  have hn := h.n18
  rw [t3] at h2 ⊢
  obtain ⟨b1, b2, b3, b4, b5, b6⟩ := h.one h2
  rw [b4]
  have hz := un_sz (h.szc t2) (h.szc b2) (by omega)
  rw [show E o - o - 1 = E (o + 1) - (o + 1) + (E (E (o + 1) + 1) - (E (o + 1) + 1)) + 1 from by omega]
  exact hz
/-- two concatenations side by side: the unions of their backs and of their fronts -/
theorem TC.unRR (h : TC d E c n) {l r : Nat} (hr : r = E l) (h1 : kA d n l = 7) (h2 : kA d n r = 7) : sz (un (kA c n (rA E n l)) (kA c n (rA E n r))) (E (rA E n l) - rA E n l + (E (rA E n r) - rA E n r) + 1) ∧ sz (un (kA c n (l + 1)) (kA c n (r + 1))) (E (l + 1) - (l + 1) + (E (r + 1) - (r + 1)) + 1) := by
  obtain ⟨t1, t2, t3, t4, t5, t6, t7, t8⟩ := h.two (Or.inr h1)
  obtain ⟨u1, u2, u3, u4, u5, u6, u7, u8⟩ := h.two (Or.inr h2)
  have hn := h.n18
  rw [t3, u3]
  exact ⟨un_sz (h.szc t4) (h.szc u4) (by omega), un_sz (h.szc t2) (h.szc u2) (by omega)⟩
end TCs
