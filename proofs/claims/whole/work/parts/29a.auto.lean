/-! automata of positions: places of the symbols, counted from the right -/
def sL (d : Nat → Nat) (k : Nat) : Bool := decide (3 ≤ d k ∧ d k ≤ 5)
def nS (d : Nat → Nat) (n k : Nat) : Nat := fa_cnt (sL d) n - fa_cnt (sL d) k
theorem cnt_mono (p : Nat → Bool) {a : Nat} : ∀ {b : Nat}, a ≤ b → fa_cnt p a ≤ fa_cnt p b
  | 0, h => by rw [Nat.le_zero.mp h]; exact Nat.le_refl _
  | b + 1, h => by
    rcases Nat.eq_or_lt_of_le h with c | c
    · rw [c]; exact Nat.le_refl _
    · have ih := cnt_mono p (Nat.le_of_lt_succ c)
      show _ ≤ fa_cnt p b + _
      omega
theorem nS_end (d : Nat → Nat) (n : Nat) : nS d n n = 0 := Nat.sub_self _
theorem nS_yes {d : Nat → Nat} {n k : Nat} (hk : k < n) (h : sL d k = true) : nS d n k = nS d n (k + 1) + 1 := by
  have h1 := cnt_mono (sL d) (show k + 1 ≤ n from hk)
  unfold nS
  rw [fa_cnt_yes h] at h1 ⊢
  omega
theorem nS_no {d : Nat → Nat} {n k : Nat} (h : sL d k = false) : nS d n k = nS d n (k + 1) := by
  unfold nS
  rw [fa_cnt_no h]
theorem nS_mono {d : Nat → Nat} {n a b : Nat} (h : a ≤ b) : nS d n b ≤ nS d n a := by
  have h1 := cnt_mono (sL d) h
  unfold nS
  omega
theorem lv_cnt {d E : Nat → Nat} {n : Nat} (tv : TV d E n) : ∀ k, k ≤ n → opS d k + fa_cnt (fun j => decide (d j < 6)) k = 1 + fa_cnt (fun j => decide (¬ d j < 6 ∧ ¬ d j = 8)) k ∧ fa_cnt (fun j => decide (d j < 6)) k + fa_cnt (fun j => decide (¬ d j < 6 ∧ ¬ d j = 8)) k ≤ k ∧ fa_cnt (sL d) k ≤ fa_cnt (fun j => decide (d j < 6)) k
  | 0, _ => ⟨rfl, Nat.le_refl 0, Nat.le_refl 0⟩
  | k + 1, h => by
    obtain ⟨h1, h2, h3⟩ := lv_cnt tv k (by omega)
    have ho := (okR_of_TV tv).1 k (by omega)
    have e : opS d (k + 1) = if d k < 6 then opS d k - 1 else if d k = 8 then opS d k else opS d k + 1 := rfl
    have es : fa_cnt (sL d) (k + 1) = fa_cnt (sL d) k + if sL d k = true then 1 else 0 := rfl
    have e1 : fa_cnt (fun j => decide (d j < 6)) (k + 1) = fa_cnt (fun j => decide (d j < 6)) k + if decide (d k < 6) = true then 1 else 0 := rfl
    have e2 : fa_cnt (fun j => decide (¬ d j < 6 ∧ ¬ d j = 8)) (k + 1) = fa_cnt (fun j => decide (¬ d j < 6 ∧ ¬ d j = 8)) k + if decide (¬ d k < 6 ∧ ¬ d k = 8) = true then 1 else 0 := rfl
    have hs : sL d k = true → d k < 6 := fun q => by have := of_decide_eq_true q; omega
    rw [e, es, e1, e2]
    simp only [decide_eq_true_eq]
    by_cases c1 : d k < 6
    · rw [if_pos c1, if_pos c1, if_neg (fun q => q.1 c1)]
      split <;> omega
    · rw [if_neg c1, if_neg c1, if_neg (fun q => c1 (hs q))]
      by_cases c2 : d k = 8
      · rw [if_pos c2, if_neg (fun q => q.2 c2)]; omega
      · rw [if_neg c2, if_pos ⟨c1, c2⟩]; omega
theorem nS_9 {d E : Nat → Nat} {n : Nat} (tv : TV d E n) (k : Nat) : nS d n k ≤ 9 := by
  obtain ⟨h1, h2, h3⟩ := lv_cnt tv n (Nat.le_refl n)
  have h0 := (okR_of_TV tv).2
  have := tv.1
  unfold nS
  omega
/-! whether the empty word is matched, the first places, the last places -/
def aL (d : Nat → Nat) (n k : Nat) : Nat := if sL d k = true then 2 ^ nS d n (k + 1) else 0
def aLf (d : Nat → Nat) (n k : Nat) : Bool × Nat × Nat := (decide (d k = 2), aL d n k, aL d n k)
def aSr (a : Bool × Nat × Nat) : Bool × Nat × Nat := (true, a.2.1, a.2.2)
def aBi (i : Nat) (a b : Bool × Nat × Nat) : Bool × Nat × Nat :=
  if i = 6 then (a.1 || b.1, a.2.1 ||| b.2.1, a.2.2 ||| b.2.2)
  else (a.1 && b.1, if a.1 = true then a.2.1 ||| b.2.1 else a.2.1, if b.1 = true then a.2.2 ||| b.2.2 else b.2.2)
def au (d E : Nat → Nat) (n : Nat) : Nat → Bool × Nat × Nat := fd d E n (false, 0, 0) (aLf d n) aSr aBi
def nu (d E : Nat → Nat) (n k : Nat) : Bool := (au d E n k).1
def fi (d E : Nat → Nat) (n k : Nat) : Nat := (au d E n k).2.1
def la (d E : Nat → Nat) (n k : Nat) : Nat := (au d E n k).2.2
theorem au_l {d E : Nat → Nat} {n k : Nat} (tv : TV d E n) (hk : k < n) (h : d k < 6) : nu d E n k = decide (d k = 2) ∧ fi d E n k = aL d n k ∧ la d E n k = aL d n k := by
  have e : au d E n k = aLf d n k := fd_leaf tv hk h
  unfold nu fi la; rw [e]; exact ⟨rfl, rfl, rfl⟩
theorem au_s {d E : Nat → Nat} {n k : Nat} (tv : TV d E n) (hk : k < n) (h : d k = 8) : nu d E n k = true ∧ fi d E n k = fi d E n (k + 1) ∧ la d E n k = la d E n (k + 1) := by
  have e : au d E n k = aSr (au d E n (k + 1)) := fd_star tv hk h
  unfold nu fi la; rw [e]; exact ⟨rfl, rfl, rfl⟩
theorem au_u {d E : Nat → Nat} {n k : Nat} (tv : TV d E n) (hk : k < n) (h : d k = 6) : nu d E n k = (nu d E n (k + 1) || nu d E n (E (k + 1))) ∧ fi d E n k = fi d E n (k + 1) ||| fi d E n (E (k + 1)) ∧ la d E n k = la d E n (k + 1) ||| la d E n (E (k + 1)) := by
  have e : au d E n k = aBi (d k) (au d E n (k + 1)) (au d E n (E (k + 1))) := fd_two tv hk (by omega) (by omega)
  have e2 : aBi (d k) (au d E n (k + 1)) (au d E n (E (k + 1))) = ((au d E n (k + 1)).1 || (au d E n (E (k + 1))).1, (au d E n (k + 1)).2.1 ||| (au d E n (E (k + 1))).2.1, (au d E n (k + 1)).2.2 ||| (au d E n (E (k + 1))).2.2) := if_pos h
  unfold nu fi la; rw [e, e2]; exact ⟨rfl, rfl, rfl⟩
theorem au_c {d E : Nat → Nat} {n k : Nat} (tv : TV d E n) (hk : k < n) (h : d k = 7) : nu d E n k = (nu d E n (k + 1) && nu d E n (E (k + 1))) ∧ fi d E n k = (if nu d E n (k + 1) = true then fi d E n (k + 1) ||| fi d E n (E (k + 1)) else fi d E n (k + 1)) ∧ la d E n k = (if nu d E n (E (k + 1)) = true then la d E n (k + 1) ||| la d E n (E (k + 1)) else la d E n (E (k + 1))) := by
  have e : au d E n k = aBi (d k) (au d E n (k + 1)) (au d E n (E (k + 1))) := fd_two tv hk (by omega) (by omega)
  have e2 : aBi (d k) (au d E n (k + 1)) (au d E n (E (k + 1))) = ((au d E n (k + 1)).1 && (au d E n (E (k + 1))).1, if (au d E n (k + 1)).1 = true then (au d E n (k + 1)).2.1 ||| (au d E n (E (k + 1))).2.1 else (au d E n (k + 1)).2.1, if (au d E n (E (k + 1))).1 = true then (au d E n (k + 1)).2.2 ||| (au d E n (E (k + 1))).2.2 else (au d E n (E (k + 1))).2.2) := if_neg (by omega)
  unfold nu fi la; rw [e, e2]; exact ⟨rfl, rfl, rfl⟩
theorem p2_le {a b : Nat} (h : a ≤ b) : 2 ^ a ≤ 2 ^ b := Nat.pow_le_pow_right (by decide) h
theorem au_lt {d E : Nat → Nat} {n : Nat} (tv : TV d E n) : ∀ (m k : Nat), n ≤ k + m → k < n → fi d E n k < 2 ^ nS d n k ∧ la d E n k < 2 ^ nS d n k
  | 0, k, h, hk => absurd h (by omega)
  | m + 1, k, h, hk => by
    have h0 := tv.2.2.2 k hk
    have hp : 0 < 2 ^ nS d n k := Nat.pow_pos (by decide)
    have hm1 : nS d n (k + 1) ≤ nS d n k := nS_mono (by omega)
    by_cases c1 : d k < 6
    · obtain ⟨_, e2, e3⟩ := au_l tv hk c1
      have : aL d n k < 2 ^ nS d n k := by
        unfold aL
        split
        · rename_i q
          rw [nS_yes hk q, Nat.pow_succ]; have : 0 < 2 ^ nS d n (k + 1) := Nat.pow_pos (by decide)
          omega
        · exact hp
      rw [e2, e3]; exact ⟨this, this⟩
    · by_cases c2 : d k = 8
      · have h1 := h0.2.2.2.2.2.1 c2
        obtain ⟨_, e2, e3⟩ := au_s tv hk c2
        have ih := au_lt tv m (k + 1) (by omega) h1.1
        have := p2_le hm1
        rw [e2, e3]; omega
      · have h1 := h0.2.2.2.2.2.2 (by omega)
        have q1 := tv.q h1.1
        have ih := au_lt tv m (k + 1) (by omega) h1.1
        have ih2 := au_lt tv m (E (k + 1)) (by omega) h1.2.1
        have g1 := p2_le hm1
        have g2 := p2_le (nS_mono (d := d) (n := n) (show k ≤ E (k + 1) by omega))
        have hf1 : fi d E n (k + 1) < 2 ^ nS d n k := by omega
        have hf2 : fi d E n (E (k + 1)) < 2 ^ nS d n k := by omega
        have hl1 : la d E n (k + 1) < 2 ^ nS d n k := by omega
        have hl2 : la d E n (E (k + 1)) < 2 ^ nS d n k := by omega
        by_cases c3 : d k = 6
        · obtain ⟨_, e2, e3⟩ := au_u tv hk c3
          rw [e2, e3]; exact ⟨Nat.or_lt_two_pow hf1 hf2, Nat.or_lt_two_pow hl1 hl2⟩
        · obtain ⟨_, e2, e3⟩ := au_c tv hk (by omega)
          rw [e2, e3]
          constructor
          · split
            · exact Nat.or_lt_two_pow hf1 hf2
            · exact hf1
          · split
            · exact Nat.or_lt_two_pow hl1 hl2
            · exact hl2
theorem au_b {d E : Nat → Nat} {n k : Nat} (tv : TV d E n) (hk : k < n) : fi d E n k < 2 ^ nS d n k ∧ la d E n k < 2 ^ nS d n k ∧ fi d E n k < 512 ∧ la d E n k < 512 := by
  have h1 := au_lt tv n k (by omega) hk
  have h2 := p2_le (nS_9 tv k)
  have : (2 : Nat) ^ 9 = 512 := rfl
  omega
/-! who follows whom; which places bear a symbol -/
def lnk (f : Nat → Nat) (a b : Nat) : Nat → Nat := fun p => if a / 2 ^ p % 2 = 1 then f p ||| b else f p
def fT (d E : Nat → Nat) (n : Nat) : Nat → Nat → Nat
  | 0 => fun _ => 0
  | j + 1 => if d (n - 1 - j) = 8 then lnk (fT d E n j) (la d E n (n - 1 - j + 1)) (fi d E n (n - 1 - j + 1)) else if d (n - 1 - j) = 7 then lnk (fT d E n j) (la d E n (n - 1 - j + 1)) (fi d E n (E (n - 1 - j + 1))) else fT d E n j
def FT (d E : Nat → Nat) (n k : Nat) : Nat → Nat := fT d E n (n - k)
def wT (d : Nat → Nat) (n : Nat) : Nat → Nat → Nat
  | 0 => fun _ => 0
  | j + 1 => if sL d (n - 1 - j) = true then up (wT d n j) (d (n - 1 - j) - 3) (wT d n j (d (n - 1 - j) - 3) ||| 2 ^ nS d n (n - 1 - j + 1)) else wT d n j
def WT (d : Nat → Nat) (n k : Nat) : Nat → Nat := wT d n (n - k)
theorem FT_end (d E : Nat → Nat) (n : Nat) : FT d E n n = fun _ => 0 := by unfold FT; rw [Nat.sub_self]; rfl
theorem WT_end (d : Nat → Nat) (n : Nat) : WT d n n = fun _ => 0 := by unfold WT; rw [Nat.sub_self]; rfl
theorem FT_eq (d E : Nat → Nat) {n k : Nat} (hk : k < n) : FT d E n k = if d k = 8 then lnk (FT d E n (k + 1)) (la d E n (k + 1)) (fi d E n (k + 1)) else if d k = 7 then lnk (FT d E n (k + 1)) (la d E n (k + 1)) (fi d E n (E (k + 1))) else FT d E n (k + 1) := by
  unfold FT
  rw [show n - k = (n - (k + 1)) + 1 from by omega]
  show (if d (n - 1 - (n - (k + 1))) = 8 then _ else _) = _
  rw [show n - 1 - (n - (k + 1)) = k from by omega]
theorem WT_eq (d : Nat → Nat) {n k : Nat} (hk : k < n) : WT d n k = if sL d k = true then up (WT d n (k + 1)) (d k - 3) (WT d n (k + 1) (d k - 3) ||| 2 ^ nS d n (k + 1)) else WT d n (k + 1) := by
  unfold WT
  rw [show n - k = (n - (k + 1)) + 1 from by omega]
  show (if sL d (n - 1 - (n - (k + 1))) = true then _ else _) = _
  rw [show n - 1 - (n - (k + 1)) = k from by omega]
theorem FT_l {d E : Nat → Nat} {n k : Nat} (hk : k < n) (h8 : ¬ d k = 8) (h7 : ¬ d k = 7) : FT d E n k = FT d E n (k + 1) := (FT_eq d E hk).trans ((if_neg h8).trans (if_neg h7))
theorem FT_s {d E : Nat → Nat} {n k : Nat} (hk : k < n) (h8 : d k = 8) : FT d E n k = lnk (FT d E n (k + 1)) (la d E n (k + 1)) (fi d E n (k + 1)) := (FT_eq d E hk).trans (if_pos h8)
theorem FT_c {d E : Nat → Nat} {n k : Nat} (hk : k < n) (h7 : d k = 7) : FT d E n k = lnk (FT d E n (k + 1)) (la d E n (k + 1)) (fi d E n (E (k + 1))) := (FT_eq d E hk).trans ((if_neg (by omega)).trans (if_pos h7))
theorem WT_y {d : Nat → Nat} {n k : Nat} (hk : k < n) (h : sL d k = true) : WT d n k = up (WT d n (k + 1)) (d k - 3) (WT d n (k + 1) (d k - 3) ||| 2 ^ nS d n (k + 1)) := (WT_eq d hk).trans (if_pos h)
theorem WT_n {d : Nat → Nat} {n k : Nat} (hk : k < n) (h : sL d k = false) : WT d n k = WT d n (k + 1) := (WT_eq d hk).trans (if_neg (by rw [h]; decide))
theorem lnk_out {f : Nat → Nat} {a b p m : Nat} (ha : a < 2 ^ m) (hp : m ≤ p) : lnk f a b p = f p := by
  unfold lnk
  have := p2_le hp
  rw [Nat.div_eq_of_lt (by omega)]
  rfl
theorem lnk_lt {f : Nat → Nat} {a b p m : Nat} (hf : f p < 2 ^ m) (hb : b < 2 ^ m) : lnk f a b p < 2 ^ m := by
  unfold lnk
  split
  · exact Nat.or_lt_two_pow hf hb
  · exact hf
theorem FT_ok {d E : Nat → Nat} {n : Nat} (tv : TV d E n) : ∀ (m k : Nat), n ≤ k + m → k ≤ n → (∀ p, nS d n k ≤ p → FT d E n k p = 0) ∧ (∀ p, FT d E n k p < 2 ^ 9)
  | 0, k, h, hk => by rw [show k = n from by omega, FT_end]; exact ⟨fun _ _ => rfl, fun _ => Nat.pow_pos (by decide)⟩
  | m + 1, k, h, hk => by
    rcases Nat.eq_or_lt_of_le hk with c | c
    · rw [c, FT_end]; exact ⟨fun _ _ => rfl, fun _ => Nat.pow_pos (by decide)⟩
    · obtain ⟨i1, i2⟩ := FT_ok tv m (k + 1) (by omega) c
      have hm1 : nS d n (k + 1) ≤ nS d n k := nS_mono (by omega)
      have h0 := tv.2.2.2 k c
      have h9 := p2_le (nS_9 tv (k + 1))
      by_cases c8 : d k = 8
      · have h1 := h0.2.2.2.2.2.1 c8
        have hb := au_b tv h1.1
        rw [FT_s c c8]
        exact ⟨fun p hp => by rw [lnk_out hb.2.1 (by omega)]; exact i1 p (by omega), fun p => lnk_lt (i2 p) (by omega)⟩
      · by_cases c7 : d k = 7
        · have h1 := h0.2.2.2.2.2.2 (by omega)
          have hb := au_b tv h1.1
          have hb2 := au_b tv h1.2.1
          rw [FT_c c c7]
          exact ⟨fun p hp => by rw [lnk_out hb.2.1 (by omega)]; exact i1 p (by omega), fun p => lnk_lt (i2 p) hb2.2.2.1⟩
        · rw [FT_l c c8 c7]
          exact ⟨fun p hp => i1 p (by omega), i2⟩
theorem WT_ok {d E : Nat → Nat} {n : Nat} (tv : TV d E n) : ∀ (m k : Nat), n ≤ k + m → k ≤ n → ∀ c, WT d n k c < 2 ^ 9
  | 0, k, h, hk => by rw [show k = n from by omega, WT_end]; exact fun _ => Nat.pow_pos (by decide)
  | m + 1, k, h, hk => by
    rcases Nat.eq_or_lt_of_le hk with c | c
    · rw [c, WT_end]; exact fun _ => Nat.pow_pos (by decide)
    · have ih := WT_ok tv m (k + 1) (by omega) c
      by_cases cs : sL d k = true
      · rw [WT_y c cs]
        have e := nS_yes c cs
        have h9 := nS_9 tv k
        have hp : 2 ^ nS d n (k + 1) < 2 ^ 9 := Nat.pow_lt_pow_right (by decide) (by omega)
        intro q
        by_cases hq : q = d k - 3
        · rw [hq, up_s]; exact Nat.or_lt_two_pow (ih _) hp
        · rw [up_n _ hq]; exact ih q
      · rw [WT_n c (by simpa using cs)]; exact ih
/-! the class's masks: the start is bit 0 -/
theorem or2 (a b : Nat) : 2 * a ||| 2 * b = 2 * (a ||| b) := by
  apply Nat.eq_of_testBit_eq
  intro i
  have e : ∀ x : Nat, (2 * x).testBit i = (decide (i ≥ 1) && x.testBit (i - 1)) := fun x => Nat.testBit_two_pow_mul (i := 1)
  rw [Nat.testBit_or, e, e, e, Nat.testBit_or]
  cases decide (i ≥ 1) <;> simp
theorem and2 (a b : Nat) : 2 * a &&& 2 * b = 2 * (a &&& b) := by
  apply Nat.eq_of_testBit_eq
  intro i
  have e : ∀ x : Nat, (2 * x).testBit i = (decide (i ≥ 1) && x.testBit (i - 1)) := fun x => Nat.testBit_two_pow_mul (i := 1)
  rw [Nat.testBit_and, e, e, e, Nat.testBit_and]
  cases decide (i ≥ 1) <;> simp
def cl (f : Nat → Nat) : Nat → Nat := fun p => if p = 0 then 0 else 2 * f (p - 1)
theorem bit2 (a p : Nat) : 2 * a / 2 ^ (p + 1) = a / 2 ^ p := by
  rw [Nat.pow_succ, Nat.mul_comm (2 ^ p) 2, ← Nat.div_div_eq_div_mul, Nat.mul_div_cancel_left _ (by decide)]
theorem lnk_cl (f : Nat → Nat) (a b : Nat) : lnk (cl f) (2 * a) (2 * b) = cl (lnk f a b) := by
  funext p
  cases p with
  | zero =>
    show (if 2 * a / 2 ^ 0 % 2 = 1 then _ else _) = _
    rw [if_neg (by rw [Nat.pow_zero, Nat.div_one]; omega)]; rfl
  | succ p =>
    show (if 2 * a / 2 ^ (p + 1) % 2 = 1 then 2 * f p ||| 2 * b else 2 * f p) = 2 * (if a / 2 ^ p % 2 = 1 then f p ||| b else f p)
    rw [bit2]
    split
    · rw [or2]
    · rfl
theorem lnk_cong {f g : Nat → Nat} {a b p : Nat} (h : f p = g p) : lnk f a b p = lnk g a b p := by unfold lnk; rw [h]
