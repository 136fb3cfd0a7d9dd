/-! how many sets an automaton reaches -/
theorem WT_lt {d E : Nat → Nat} {n : Nat} (tv : TV d E n) : ∀ (m k : Nat), n ≤ k + m → k ≤ n → ∀ c, WT d n k c < 2 ^ nS d n k
  | 0, k, h, hk => by rw [show k = n from by omega, WT_end]; exact fun _ => Nat.pow_pos (by decide)
  | m + 1, k, h, hk => by
    rcases Nat.eq_or_lt_of_le hk with c | c
    · rw [c, WT_end]; exact fun _ => Nat.pow_pos (by decide)
    · have ih := WT_lt tv m (k + 1) (by omega) c
      by_cases cs : sL d k = true
      · rw [WT_y c cs, nS_yes c cs]
        have hp : 2 ^ nS d n (k + 1) < 2 ^ (nS d n (k + 1) + 1) := Nat.pow_lt_pow_right (by decide) (by omega)
        intro q
        by_cases hq : q = d k - 3
        · rw [hq, up_s]; exact Nat.or_lt_two_pow (Nat.lt_trans (ih _) hp) hp
        · rw [up_n _ hq]; exact Nat.lt_trans (ih q) hp
      · rw [WT_n c (by simpa using cs), nS_no (by simpa using cs)]; exact ih
theorem pcm_up {W b : Nat} (hW : W < 2 ^ b) (hb : b < 9) : pcm (W ||| 2 ^ b) = pcm W + 1 :=
  cnt_up (p := fun i => Nat.testBit W i) (q := fun i => Nat.testBit (W ||| 2 ^ b) i) (a := b) (by rw [Nat.testBit_or, Nat.testBit_two_pow_self, Bool.or_true]) (Nat.testBit_lt_two_pow hW) (fun k hk => by rw [Nat.testBit_or, Nat.testBit_two_pow, decide_eq_false (fun e => hk e.symm), Bool.or_false]) 9 hb
theorem pcm_0 : pcm 0 = 0 := by decide
theorem WT_pcm {d E : Nat → Nat} {n : Nat} (tv : TV d E n) : ∀ (m k : Nat), n ≤ k + m → k ≤ n → pcm (WT d n k 0) + pcm (WT d n k 1) + pcm (WT d n k 2) = nS d n k
  | 0, k, h, hk => by rw [show k = n from by omega, WT_end, nS_end]; exact rfl
  | m + 1, k, h, hk => by
    rcases Nat.eq_or_lt_of_le hk with c | c
    · rw [c, WT_end, nS_end]; exact rfl
    · have ih := WT_pcm tv m (k + 1) (by omega) c
      have hl := WT_lt tv n (k + 1) (by omega) c
      by_cases cs : sL d k = true
      · have hs : 3 ≤ d k ∧ d k ≤ 5 := of_decide_eq_true cs
        have h9 := nS_9 tv k
        have e := nS_yes c cs
        have hu := fun q => pcm_up (hl q) (show nS d n (k + 1) < 9 by omega)
        rw [WT_y c cs, e]
        rcases (show d k = 3 ∨ d k = 4 ∨ d k = 5 by omega) with g | g | g
        · rw [g, show 3 - 3 = 0 from rfl, up_s, up_n _ (by decide), up_n _ (by decide), hu]; omega
        · rw [g, show 4 - 3 = 1 from rfl, up_s, up_n _ (by decide), up_n _ (by decide), hu]; omega
        · rw [g, show 5 - 3 = 2 from rfl, up_s, up_n _ (by decide), up_n _ (by decide), hu]; omega
      · rw [WT_n c (by simpa using cs), nS_no (by simpa using cs)]; exact ih
/-- each reached set lies in the places of one symbol -/
theorem rSe_W {v k : Nat} (h : rSe v k = true) : k = 0 ∨ ∃ c, c < 3 ∧ ∃ a, k = a &&& auW v c := by
  rcases rSe_of h with g | ⟨N, h0, hN⟩
  · exact Or.inl g
  · right
    rw [show N = 3 * ((N - 1) / 3) + 1 + (N - 1) % 3 from by omega, rnw_s _ _ (by omega)] at hN
    exact ⟨(N - 1) % 3, by omega, aF v (rnw v ((N - 1) / 3)), (Option.some.inj hN).symm⟩
theorem cnt_small {p : Nat → Bool} (h : ∀ k, k < 512 → p k = true → k < 256) : fa_cnt p 512 ≤ 256 := by
  have e := cnt_add p 256 256
  have h1 := fa_cnt_le p 256
  have h2 : fa_cnt (fun k => p (256 + k)) 256 = 0 := cnt_false 256 (fun k hk => by
    cases e : p (256 + k) with
    | false => rfl
    | true => have := h (256 + k) (by omega) e; omega)
  have e' : fa_cnt p 512 = fa_cnt p (256 + 256) := rfl
  omega
theorem cnt_non0 {p : Nat → Bool} (h : p 0 = true) : fa_cnt p 512 = fa_cnt (fun k => p k && decide (k ≠ 0)) 512 + 1 :=
  cnt_up (p := fun k => p k && decide (k ≠ 0)) (q := p) (a := 0) h (by rw [decide_eq_false (fun q => q rfl), Bool.and_false]) (fun k hk => by rw [decide_eq_true hk, Bool.and_true]) 512 (by omega)
theorem pow9 : ∀ a, a < 9 → ∀ b, b < 9 → ∀ c, c < 9 → a + b + c = 9 → 2 ^ a + 2 ^ b + 2 ^ c ≤ 259 := by decide
theorem sbW_0 (W : Nat) : sbW W 0 = true := by unfold sbW; rw [Nat.zero_and]; rfl
theorem cnt_mixed {v : Nat} (hv : okVb v = true) (hs : pcm (auW v 0) + pcm (auW v 1) + pcm (auW v 2) = 9) (h8 : ∀ c, c < 3 → pcm (auW v c) < 9) : fa_cnt (rSe v) 512 ≤ 257 := by
  have e := cnt_non0 (rSe_0 v)
  have e0 := cnt_non0 (sbW_0 (auW v 0))
  have e1 := cnt_non0 (sbW_0 (auW v 1))
  have e2 := cnt_non0 (sbW_0 (auW v 2))
  rw [sub_cnt (au_W hv _)] at e0 e1 e2
  have hp := pow9 _ (h8 0 (by decide)) _ (h8 1 (by decide)) _ (h8 2 (by decide)) hs
  have hk : ∀ k, k < 512 → (rSe v k && decide (k ≠ 0)) = true → ∃ c, c < 3 ∧ (sbW (auW v c) k && decide (k ≠ 0)) = true := fun k hk hh => by
    rw [Bool.and_eq_true] at hh
    rcases rSe_W hh.1 with g | ⟨c, hc, a, ha⟩
    · exact absurd g (of_decide_eq_true hh.2)
    · exact ⟨c, hc, by rw [Bool.and_eq_true]; exact ⟨by rw [ha]; exact sbW_and _ _, hh.2⟩⟩
  have c1 := cnt_or (fun k => rSe v k && decide (k ≠ 0)) (fun k => sbW (auW v 0) k && decide (k ≠ 0)) (fun k => (sbW (auW v 1) k && decide (k ≠ 0)) || (sbW (auW v 2) k && decide (k ≠ 0))) 512 (fun k hk1 hh => by
    obtain ⟨c, hc, hq⟩ := hk k hk1 hh
    rcases (show c = 0 ∨ c = 1 ∨ c = 2 by omega) with g | g | g
    · subst g; exact Or.inl hq
    · subst g; right; show (_ || _) = true; rw [hq, Bool.true_or]
    · subst g; right; show (_ || _) = true; rw [hq, Bool.or_true])
  have c2 := cnt_or (fun k => (sbW (auW v 1) k && decide (k ≠ 0)) || (sbW (auW v 2) k && decide (k ≠ 0))) (fun k => sbW (auW v 1) k && decide (k ≠ 0)) (fun k => sbW (auW v 2) k && decide (k ≠ 0)) 512 (fun k hk1 hh => by
    have hh : ((sbW (auW v 1) k && decide (k ≠ 0)) || (sbW (auW v 2) k && decide (k ≠ 0))) = true := hh
    rw [Bool.or_eq_true] at hh; exact hh)
  omega
/-! one symbol at nine places: at most one star -/
theorem kinds {d E : Nat → Nat} {n : Nat} (tv : TV d E n) : ∀ k, k ≤ n → fa_cnt (fun j => decide (d j < 6)) k + fa_cnt (fun j => decide (¬ d j < 6 ∧ ¬ d j = 8)) k + fa_cnt (fun j => decide (d j = 8)) k = k
  | 0, _ => rfl
  | k + 1, h => by
    have ih := kinds tv k (by omega)
    show (_ + (if decide (d k < 6) = true then 1 else 0)) + (_ + (if decide (¬ d k < 6 ∧ ¬ d k = 8) = true then 1 else 0)) + (_ + (if decide (d k = 8) = true then 1 else 0)) = k + 1
    simp only [decide_eq_true_eq]
    by_cases c1 : d k < 6
    · rw [if_pos c1, if_neg (fun q => q.1 c1), if_neg (by omega)]; omega
    · by_cases c2 : d k = 8
      · rw [if_neg c1, if_neg (fun q => q.2 c2), if_pos c2]; omega
      · rw [if_neg c1, if_pos ⟨c1, c2⟩, if_neg c2]; omega
theorem one_star {d E : Nat → Nat} {n : Nat} (tv : TV d E n) (h9 : nS d n 0 = 9) : fa_cnt (fun j => decide (d j = 8)) n ≤ 1 := by
  obtain ⟨h1, h2, h3⟩ := lv_cnt tv n (Nat.le_refl n)
  have h0 := (okR_of_TV tv).2
  have h4 := kinds tv n (Nat.le_refl n)
  have h5 := tv.1
  have h6 : fa_cnt (sL d) n - fa_cnt (sL d) 0 = 9 := h9
  have h7 : fa_cnt (sL d) 0 = 0 := rfl
  omega
theorem no_bit {q : Nat} (g : (0 : Nat).testBit q = true) : False := by
  rw [Nat.zero_testBit] at g
  cases g
theorem bit_lt {a q m : Nat} (ha : a < 2 ^ m) (h : a.testBit q = true) : q < m := by
  rcases Nat.lt_or_ge q m with c | c
  · exact c
  · have := Nat.testBit_lt_two_pow (i := q) (Nat.lt_of_lt_of_le ha (p2_le c))
    rw [this] at h; cases h
theorem bit_iff (a p : Nat) : a / 2 ^ p % 2 = 1 ↔ a.testBit p = true := by
  rw [Nat.testBit_eq_decide_div_mod_eq, decide_eq_true_iff]
theorem lnk_bit {f : Nat → Nat} {a b p q : Nat} : (lnk f a b p).testBit q = true ↔ (f p).testBit q = true ∨ (a.testBit p = true ∧ b.testBit q = true) := by
  unfold lnk
  by_cases c : a / 2 ^ p % 2 = 1
  · rw [if_pos c, Nat.testBit_or, Bool.or_eq_true]
    have := (bit_iff a p).mp c
    constructor
    · rintro (g | g)
      · exact Or.inl g
      · exact Or.inr ⟨this, g⟩
    · rintro (g | g)
      · exact Or.inl g
      · exact Or.inr g.2
  · rw [if_neg c]
    constructor
    · exact Or.inl
    · rintro (g | g)
      · exact g
      · exact absurd ((bit_iff a p).mpr g.1) c
theorem au_lo {d E : Nat → Nat} {n : Nat} (tv : TV d E n) : ∀ (m k : Nat), n ≤ k + m → k < n → ∀ q, ((fi d E n k).testBit q = true → nS d n (E k) ≤ q) ∧ ((la d E n k).testBit q = true → nS d n (E k) ≤ q)
  | 0, k, h, hk => absurd h (by omega)
  | m + 1, k, h, hk => fun q => by
    have h0 := tv.2.2.2 k hk
    by_cases c1 : d k < 6
    · obtain ⟨_, e2, e3⟩ := au_l tv hk c1
      have e4 := h0.2.2.2.2.1 (by omega)
      have key : (aL d n k).testBit q = true → nS d n (k + 1) ≤ q := fun g => by
        unfold aL at g
        split at g
        · rw [Nat.testBit_two_pow] at g
          have := of_decide_eq_true g
          omega
        · rw [Nat.zero_testBit] at g; cases g
      rw [e2, e3, e4]; exact ⟨key, key⟩
    · by_cases c2 : d k = 8
      · have h1 := h0.2.2.2.2.2.1 c2
        obtain ⟨_, e2, e3⟩ := au_s tv hk c2
        rw [e2, e3, h1.2]; exact au_lo tv m (k + 1) (by omega) h1.1 q
      · have h1 := h0.2.2.2.2.2.2 (by omega)
        have q1 := tv.q h1.1
        have q2 := tv.q h1.2.1
        have i1 := au_lo tv m (k + 1) (by omega) h1.1 q
        have i2 := au_lo tv m (E (k + 1)) (by omega) h1.2.1 q
        rw [← h1.2.2] at i2
        have hm : nS d n (E k) ≤ nS d n (E (k + 1)) := nS_mono (by rw [h1.2.2]; omega)
        have a1 : (fi d E n (k + 1)).testBit q = true → nS d n (E k) ≤ q := fun g => Nat.le_trans hm (i1.1 g)
        have a2 : (la d E n (k + 1)).testBit q = true → nS d n (E k) ≤ q := fun g => Nat.le_trans hm (i1.2 g)
        have o1 : (fi d E n (k + 1) ||| fi d E n (E (k + 1))).testBit q = true → nS d n (E k) ≤ q := fun g => by
          rw [Nat.testBit_or, Bool.or_eq_true] at g
          exact g.elim a1 i2.1
        have o2 : (la d E n (k + 1) ||| la d E n (E (k + 1))).testBit q = true → nS d n (E k) ≤ q := fun g => by
          rw [Nat.testBit_or, Bool.or_eq_true] at g
          exact g.elim a2 i2.2
        by_cases c3 : d k = 6
        · obtain ⟨_, e2, e3⟩ := au_u tv hk c3
          rw [e2, e3]; exact ⟨o1, o2⟩
        · obtain ⟨_, e2, e3⟩ := au_c tv hk (by omega)
          rw [e2, e3]
          constructor
          · split
            · exact o1
            · exact a1
          · split
            · exact o2
            · exact i2.2
/-- who follows goes down, but for the star's own pairs -/
theorem FT_str {d E : Nat → Nat} {n : Nat} (tv : TV d E n) : ∀ (m k : Nat), n ≤ k + m → k ≤ n →
    (fa_cnt (fun j => decide (d j = 8)) n ≤ fa_cnt (fun j => decide (d j = 8)) k → ∀ p q, (FT d E n k p).testBit q = true → q < p) ∧
    (fa_cnt (fun j => decide (d j = 8)) n ≤ fa_cnt (fun j => decide (d j = 8)) k + 1 → ∃ A B : Nat, ∀ p q, ((FT d E n k p).testBit q = true → q < p ∨ (A.testBit p = true ∧ B.testBit q = true)) ∧ (A.testBit p = true → B.testBit q = true → (FT d E n k p).testBit q = true))
  | 0, k, h, hk => by
    rw [show k = n from by omega, FT_end]
    exact ⟨fun _ p q g => (no_bit g).elim, fun _ => ⟨0, 0, fun p q => ⟨fun g => (no_bit g).elim, fun g => (no_bit g).elim⟩⟩⟩
  | m + 1, k, h, hk => by
    rcases Nat.eq_or_lt_of_le hk with c | c
    · rw [c, FT_end]
      exact ⟨fun _ p q g => (no_bit g).elim, fun _ => ⟨0, 0, fun p q => ⟨fun g => (no_bit g).elim, fun g => (no_bit g).elim⟩⟩⟩
    · obtain ⟨i1, i2⟩ := FT_str tv m (k + 1) (by omega) c
      have h0 := tv.2.2.2 k c
      have hmo := cnt_mono (fun j => decide (d j = 8)) (show k + 1 ≤ n from c)
      by_cases c8 : d k = 8
      · have hc := fa_cnt_yes (p := fun j => decide (d j = 8)) (n := k) (decide_eq_true c8)
        refine ⟨fun g => by omega, fun g => ⟨la d E n (k + 1), fi d E n (k + 1), fun p q => ?_⟩⟩
        rw [FT_s c c8, lnk_bit]
        refine ⟨fun g2 => g2.elim (fun g3 => Or.inl (i1 (by omega) p q g3)) Or.inr, fun g2 g3 => Or.inr ⟨g2, g3⟩⟩
      · have hc := fa_cnt_no (p := fun j => decide (d j = 8)) (n := k) (decide_eq_false c8)
        rw [hc] at i1 i2
        by_cases c7 : d k = 7
        · have h1 := h0.2.2.2.2.2.2 (by omega)
          have hnew : ∀ p q, (la d E n (k + 1)).testBit p = true ∧ (fi d E n (E (k + 1))).testBit q = true → q < p := fun p q g => by
            have g1 := (au_lo tv n (k + 1) (by omega) h1.1 p).2 g.1
            have g2 := bit_lt (au_b tv h1.2.1).1 g.2
            omega
          rw [FT_c c c7]
          refine ⟨fun g p q g2 => ?_, fun g => ?_⟩
          · rw [lnk_bit] at g2
            exact g2.elim (i1 g p q) (hnew p q)
          · obtain ⟨A, B, hAB⟩ := i2 g
            refine ⟨A, B, fun p q => ?_⟩
            rw [lnk_bit]
            exact ⟨fun g2 => g2.elim (hAB p q).1 (fun g3 => Or.inl (hnew p q g3)), fun g2 g3 => Or.inl ((hAB p q).2 g2 g3)⟩
        · rw [FT_l c c8 c7]; exact ⟨i1, i2⟩
/-! walks -/
def rc (T : Nat → Nat) : Nat → Nat → Nat → Prop
  | 0, p, q => p = q
  | n + 1, p, q => ∃ r, (T p).testBit r = true ∧ rc T n r q
theorem rc_tr {T : Nat → Nat} : ∀ {n m p q r : Nat}, rc T n p q → rc T m q r → rc T (n + m) p r
  | 0, m, p, q, r, h1, h2 => by have h1 : p = q := h1; rw [Nat.zero_add, h1]; exact h2
  | n + 1, m, p, q, r, h1, h2 => by
    obtain ⟨s, h3, h4⟩ := h1
    rw [show n + 1 + m = (n + m) + 1 from by omega]
    exact ⟨s, h3, rc_tr h4 h2⟩
theorem rc_1 {T : Nat → Nat} {p q : Nat} (h : (T p).testBit q = true) : rc T 1 p q := ⟨q, h, rfl⟩
theorem rc_last {T : Nat → Nat} : ∀ {n p q : Nat}, rc T (n + 1) p q → ∃ r, rc T n p r ∧ (T r).testBit q = true
  | 0, p, q, h => by
    obtain ⟨s, h1, h2⟩ := h
    have h2 : s = q := h2
    exact ⟨p, rfl, by rw [← h2]; exact h1⟩
  | n + 1, p, q, h => by
    obtain ⟨s, h1, h2⟩ := h
    obtain ⟨r, h3, h4⟩ := rc_last h2
    exact ⟨r, ⟨s, h1, h3⟩, h4⟩
theorem rc_dec {T : Nat → Nat} {A B : Nat} (hT : ∀ p q, (T p).testBit q = true → q < p ∨ (A.testBit p = true ∧ B.testBit q = true)) : ∀ (n p q : Nat), rc T n p q → q + n ≤ p ∨ ∃ i, i ≤ p ∧ i < n ∧ ∃ a b, rc T i p a ∧ A.testBit a = true ∧ B.testBit b = true ∧ rc T (n - 1 - i) b q
  | 0, p, q, h => Or.inl (by have h : p = q := h; omega)
  | n + 1, p, q, h => by
    obtain ⟨r, h1, h2⟩ := h
    rcases hT p r h1 with g | g
    · rcases rc_dec hT n r q h2 with e | ⟨i, e1, e2, a, b, e3, e4, e5, e6⟩
      · exact Or.inl (by omega)
      · exact Or.inr ⟨i + 1, by omega, by omega, a, b, ⟨r, h1, e3⟩, e4, e5, by rw [show n + 1 - 1 - (i + 1) = n - 1 - i from by omega]; exact e6⟩
    · exact Or.inr ⟨0, by omega, by omega, p, r, rfl, g.1, g.2, by rw [show n + 1 - 1 - 0 = n from by omega]; exact h2⟩
theorem oF_bit {f : Nat → Nat} {m q : Nat} : ∀ k, (oF f m k).testBit q = true ↔ ∃ p, p < k ∧ m.testBit p = true ∧ (f p).testBit q = true
  | 0 => ⟨fun g => (no_bit g).elim, fun ⟨p, h, _⟩ => absurd h (by omega)⟩
  | k + 1 => by
    have ih := oF_bit (f := f) (m := m) (q := q) k
    show (if m / 2 ^ k % 2 = 1 then oF f m k ||| f k else oF f m k).testBit q = true ↔ _
    by_cases c : m / 2 ^ k % 2 = 1
    · rw [if_pos c, Nat.testBit_or, Bool.or_eq_true, ih]
      constructor
      · rintro (⟨p, h1, h2⟩ | g)
        · exact ⟨p, by omega, h2⟩
        · exact ⟨k, by omega, (bit_iff m k).mp c, g⟩
      · rintro ⟨p, h1, h2, h3⟩
        rcases Nat.eq_or_lt_of_le (Nat.le_of_lt_succ h1) with e | e
        · subst e; exact Or.inr h3
        · exact Or.inl ⟨p, e, h2, h3⟩
    · rw [if_neg c, ih]
      constructor
      · rintro ⟨p, h1, h2⟩; exact ⟨p, by omega, h2⟩
      · rintro ⟨p, h1, h2, h3⟩
        rcases Nat.eq_or_lt_of_le (Nat.le_of_lt_succ h1) with e | e
        · subst e; exact absurd ((bit_iff m p).mpr h2) c
        · exact ⟨p, e, h2, h3⟩
/-- the sets behind one symbol, again and again -/
def uS (v : Nat) : Nat → Nat
  | 0 => auF v
  | t + 1 => oF (auT v) (uS v t) 9
theorem uS_lt {v : Nat} (hv : okVb v = true) : ∀ t, uS v t < 512
  | 0 => (au_FL hv).1
  | t + 1 => oF_lt (au_T hv).2 9
theorem uS_bit {v : Nat} (hv : okVb v = true) : ∀ t q, (uS v t).testBit q = true ↔ ∃ p, (auF v).testBit p = true ∧ rc (auT v) t p q
  | 0, q => ⟨fun h => ⟨q, h, rfl⟩, fun ⟨p, h, e⟩ => by have e : p = q := e; rw [← e]; exact h⟩
  | t + 1, q => by
    show (oF (auT v) (uS v t) 9).testBit q = true ↔ _
    rw [oF_bit]
    constructor
    · rintro ⟨r, _, h2, h3⟩
      obtain ⟨p, h4, h5⟩ := (uS_bit hv t r).mp h2
      exact ⟨p, h4, rc_tr h5 (rc_1 h3)⟩
    · rintro ⟨p, h1, h2⟩
      obtain ⟨r, h3, h4⟩ := rc_last h2
      have h5 := (uS_bit hv t r).mpr ⟨p, h1, h3⟩
      exact ⟨r, bit_lt (m := 9) (uS_lt hv t) h5, h5, h4⟩
theorem uS_pump {v : Nat} (hv : okVb v = true) (h9 : nS (dg v) (dc v) 0 = 9) : ∃ l, 1 ≤ l ∧ l ≤ 9 ∧ ∀ t, 18 ≤ t → ∀ q, (uS v t).testBit q = true → (uS v (t + l)).testBit q = true := by
  have tv := TV_v (okVb_iff.mp hv)
  obtain ⟨A, B, hAB⟩ := (FT_str tv (dc v) 0 (by omega) (by omega)).2 (by have := one_star tv h9; exact Nat.le_trans this (by omega))
  have hT : ∀ p q, (auT v p).testBit q = true → q < p ∨ (A.testBit p = true ∧ B.testBit q = true) := fun p q => (hAB p q).1
  have hU : ∀ p q, A.testBit p = true → B.testBit q = true → (auT v p).testBit q = true := fun p q => (hAB p q).2
  have h5 : auF v < 2 ^ 9 := (au_FL hv).1
  by_cases c : ∃ n a b, n ≤ 8 ∧ B.testBit b = true ∧ A.testBit a = true ∧ rc (auT v) n b a
  · obtain ⟨n0, a0, b0, hn0, hb0, ha0, hr0⟩ := c
    refine ⟨n0 + 1, by omega, by omega, fun t ht q hq => ?_⟩
    obtain ⟨p, hp, hr⟩ := (uS_bit hv t q).mp hq
    have hp9 := bit_lt h5 hp
    rcases rc_dec hT t p q hr with e | ⟨i, e1, e2, a, b, e3, e4, e5, e6⟩
    · omega
    · refine (uS_bit hv _ q).mpr ⟨p, hp, ?_⟩
      have w := rc_tr (rc_tr (rc_tr (rc_tr e3 (rc_1 (hU a b0 e4 hb0))) hr0) (rc_1 (hU a0 b ha0 e5))) e6
      rw [show i + 1 + n0 + 1 + (t - 1 - i) = t + (n0 + 1) from by omega] at w
      exact w
  · refine ⟨1, by omega, by omega, fun t ht q hq => ?_⟩
    exfalso
    obtain ⟨p, hp, hr⟩ := (uS_bit hv t q).mp hq
    have hp9 := bit_lt h5 hp
    rcases rc_dec hT t p q hr with e | ⟨i, e1, e2, a, b, e3, e4, e5, e6⟩
    · omega
    · have hb9 : b < 9 := bit_lt ((au_T hv).2 a) (hU a b e4 e5)
      rcases rc_dec hT _ b q e6 with f | ⟨j, f1, f2, a', b', f3, f4, f5, f6⟩
      · omega
      · exact c ⟨j, a', b, by omega, e5, f4, f3⟩
theorem pcm_le (m : Nat) : pcm m ≤ 9 := fa_cnt_le _ 9
theorem sub_eq {a b : Nat} (ha : a < 512) (hb : b < 512) (hs : ∀ q, a.testBit q = true → b.testBit q = true) (hp : pcm a = pcm b) : a = b := by
  have h := cnt_eq 9 (fun i _ hi => hs i hi) hp
  apply Nat.eq_of_testBit_eq
  intro i
  rcases Nat.lt_or_ge i 9 with c | c
  · exact h i c
  · rw [Nat.testBit_lt_two_pow (i := i) (Nat.lt_of_lt_of_le (show a < 2 ^ 9 from ha) (p2_le c)), Nat.testBit_lt_two_pow (i := i) (Nat.lt_of_lt_of_le (show b < 2 ^ 9 from hb) (p2_le c))]
theorem uS_chain {v l : Nat} (h : ∀ t, 18 ≤ t → ∀ q, (uS v t).testBit q = true → (uS v (t + l)).testBit q = true) (t : Nat) (ht : 18 ≤ t) : ∀ u q, (uS v t).testBit q = true → (uS v (t + l * u)).testBit q = true
  | 0, q, hq => hq
  | u + 1, q, hq => by
    have ih := uS_chain h t ht u q hq
    rw [Nat.mul_succ, ← Nat.add_assoc]
    exact h _ (by omega) q ih
theorem uS_cnt {v : Nat} (hv : okVb v = true) (h9 : nS (dg v) (dc v) 0 = 9) {p : Nat → Bool} (hp : ∀ k, p k = true → ∃ t, uS v t = k) : fa_cnt p 512 ≤ 108 := by
  obtain ⟨l, l1, l2, hl⟩ := uS_pump hv h9
  refine cnt_cover 108 (q := fun j k => (j < 18 ∧ uS v j = k) ∨ (18 ≤ j ∧ pcm k = (j - 18) % 10 ∧ ∃ u, uS v (18 + (j - 18) / 10 + l * u) = k)) (fun k hk hpk => ?_) (fun j k k' h1 h2 => ?_)
  · obtain ⟨t, ht⟩ := hp k hpk
    rcases Nat.lt_or_ge t 18 with c | c
    · exact ⟨t, by omega, Or.inl ⟨c, ht⟩⟩
    · have hm := Nat.mod_lt (t - 18) (show 0 < l by omega)
      have hd := Nat.div_add_mod (t - 18) l
      have hpc := pcm_le k
      refine ⟨18 + 10 * ((t - 18) % l) + pcm k, by omega, Or.inr ⟨by omega, by omega, (t - 18) / l, ?_⟩⟩
      rw [show (18 + 10 * ((t - 18) % l) + pcm k - 18) / 10 = (t - 18) % l from by omega, ← ht]
      congr 1
      omega
  · rcases h1 with ⟨a1, a2⟩ | ⟨a1, a2, u, a3⟩
    · rcases h2 with ⟨b1, b2⟩ | ⟨b1, b2⟩
      · rw [← a2, ← b2]
      · omega
    · rcases h2 with ⟨b1, b2⟩ | ⟨b1, b2, u', b3⟩
      · omega
      · have key : ∀ u u', u ≤ u' → ∀ q, (uS v (18 + (j - 18) / 10 + l * u)).testBit q = true → (uS v (18 + (j - 18) / 10 + l * u')).testBit q = true := fun u u' hu q hq => by
          have g := uS_chain hl (18 + (j - 18) / 10 + l * u) (by omega) (u' - u) q hq
          rw [Nat.add_assoc, ← Nat.mul_add, show u + (u' - u) = u' from by omega] at g
          exact g
        have ka : k < 512 := by rw [← a3]; exact uS_lt hv _
        have kb : k' < 512 := by rw [← b3]; exact uS_lt hv _
        rcases Nat.le_total u u' with g | g
        · exact sub_eq ka kb (by rw [← a3, ← b3]; exact key u u' g) (by omega)
        · exact (sub_eq kb ka (by rw [← a3, ← b3]; exact key u' u g) (by omega)).symm
theorem pcm_9 {W : Nat} (h : pcm W = 9) {a : Nat} (ha : a < 512) : a &&& W = a := by
  have e : ∀ i, i < 9 → Nat.testBit W i = true := cnt_eq (p := fun i => Nat.testBit W i) (q := fun _ => true) 9 (fun _ _ _ => rfl) (by rw [show fa_cnt (fun i => Nat.testBit W i) 9 = 9 from h]; rfl)
  apply Nat.eq_of_testBit_eq
  intro i
  rw [Nat.testBit_and]
  rcases Nat.lt_or_ge i 9 with c | c
  · rw [e i c, Bool.and_true]
  · rw [Nat.testBit_lt_two_pow (i := i) (Nat.lt_of_lt_of_le (show a < 2 ^ 9 from ha) (p2_le c)), Bool.false_and]
theorem pcm_00 {W : Nat} (hW : W < 512) (h : pcm W = 0) : W = 0 := by
  have e : ∀ i, i < 9 → false = Nat.testBit W i := cnt_eq (p := fun _ => false) (q := fun i => Nat.testBit W i) 9 (fun _ _ q => by cases q) (by rw [show fa_cnt (fun i => Nat.testBit W i) 9 = 0 from h]; rfl)
  apply Nat.eq_of_testBit_eq
  intro i
  rw [Nat.zero_testBit]
  rcases Nat.lt_or_ge i 9 with c | c
  · exact (e i c).symm
  · exact Nat.testBit_lt_two_pow (i := i) (Nat.lt_of_lt_of_le (show W < 2 ^ 9 from hW) (p2_le c))
theorem uS_all {v c : Nat} (hv : okVb v = true) (hc : pcm (auW v c) = 9) (ho : ∀ d, d < 3 → d ≠ c → auW v d = 0) : ∀ (f N : Nat), N ≤ f → 0 < N → rnw v N = some 0 ∨ ∃ t, rnw v N = some (uS v t)
  | 0, N, h, h0 => absurd h0 (by omega)
  | f + 1, N, h, h0 => by
    have e : N = 3 * ((N - 1) / 3) + 1 + (N - 1) % 3 := by omega
    have e2 : rnw v N = some (aft v (rnw v ((N - 1) / 3)) ((N - 1) % 3)) := by
      have := rnw_s v ((N - 1) / 3) (show (N - 1) % 3 < 3 by omega)
      rw [← e] at this; exact this
    rw [e2]
    by_cases g : (N - 1) % 3 = c
    · have e3 : ∀ z, aft v z ((N - 1) % 3) = aF v z := fun z => by
        show aF v z &&& auW v ((N - 1) % 3) = aF v z
        rw [g]; exact pcm_9 hc (aF_lt hv z)
      rw [e3]
      rcases Nat.eq_zero_or_pos ((N - 1) / 3) with k | k
      · rw [k, rnw_0]; exact Or.inr ⟨0, rfl⟩
      · rcases uS_all hv hc ho f ((N - 1) / 3) (by omega) k with q | ⟨t, q⟩
        · rw [q]; left; show some (oF (auT v) 0 9) = some 0; rw [oF_0]
        · rw [q]; exact Or.inr ⟨t + 1, rfl⟩
    · left
      show some (aF v _ &&& auW v ((N - 1) % 3)) = some 0
      rw [ho _ (by omega) g, Nat.and_zero]
theorem rSe_cnt {v : Nat} (hv : okVb v = true) : fa_cnt (rSe v) 512 ≤ 257 := by
  have tv := TV_v (okVb_iff.mp hv)
  have h9 := nS_9 tv 0
  have hs : pcm (auW v 0) + pcm (auW v 1) + pcm (auW v 2) = nS (dg v) (dc v) 0 := WT_pcm tv (dc v) 0 (by omega) (by omega)
  rcases Nat.lt_or_ge (nS (dg v) (dc v) 0) 9 with c | c
  · refine Nat.le_trans (cnt_small (fun k hk hh => ?_)) (by omega)
    rcases rSe_W hh with g | ⟨q, _, a, ha⟩
    · omega
    · rw [ha]
      have hw : auW v q < 2 ^ 8 := Nat.lt_of_lt_of_le (WT_lt tv (dc v) 0 (by omega) (by omega) q) (p2_le (by omega))
      exact Nat.and_lt_two_pow (n := 8) _ hw
  · have e9 : nS (dg v) (dc v) 0 = 9 := by omega
    by_cases g : ∃ q, q < 3 ∧ ¬ pcm (auW v q) < 9
    · obtain ⟨q, hq, hn⟩ := g
      have hle := pcm_le (auW v q)
      have hq9 : pcm (auW v q) = 9 := by omega
      have ho : ∀ d, d < 3 → d ≠ q → auW v d = 0 := fun d hd hne => by
        refine pcm_00 (au_W hv d) ?_
        rcases (show q = 0 ∨ q = 1 ∨ q = 2 by omega) with k | k | k
        · subst k; rcases (show d = 1 ∨ d = 2 by omega) with m | m
          · subst m; omega
          · subst m; omega
        · subst k; rcases (show d = 0 ∨ d = 2 by omega) with m | m
          · subst m; omega
          · subst m; omega
        · subst k; rcases (show d = 0 ∨ d = 1 by omega) with m | m
          · subst m; omega
          · subst m; omega
      have e := cnt_non0 (rSe_0 v)
      have h108 := uS_cnt hv e9 (p := fun k => rSe v k && decide (k ≠ 0)) (fun k hh => by
        have hh : (rSe v k && decide (k ≠ 0)) = true := hh
        rw [Bool.and_eq_true] at hh
        rcases rSe_of hh.1 with m | ⟨N, h0, hN⟩
        · exact absurd m (of_decide_eq_true hh.2)
        · rcases uS_all hv hq9 ho N N (Nat.le_refl N) h0 with z | ⟨t, z⟩
          · rw [hN] at z; exact absurd (Option.some.inj z) (of_decide_eq_true hh.2)
          · rw [hN] at z; exact ⟨t, (Option.some.inj z).symm⟩)
      omega
    · exact cnt_mixed hv (by omega) (fun q hq => Decidable.of_not_not (fun z => g ⟨q, hq, z⟩))
theorem LB_512 {v1 v2 M : Nat} (h1 : okVb v1 = true) (h2 : okVb v2 = true) (h : LB v1 v2 M) : wl M ≤ 512 := LB_cnt h1 h2 h (rSe_cnt h1) (rSe_cnt h2)
