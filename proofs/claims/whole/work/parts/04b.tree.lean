/-! expressions in prefix notation: digits d, the ends E of the nodes, n digits -/
/-- the end of the node at p, by the ends behind it; n + 1 if no expression begins there -/
def stE (d : Nat → Nat) (n : Nat) (E : Nat → Nat) (p : Nat) : Nat :=
  if 1 ≤ d p ∧ d p ≤ 5 then p + 1
  else if n ≤ p + 1 ∨ d p < 6 ∨ 8 < d p then n + 1
  else if d p = 8 then E (p + 1)
  else if E (p + 1) < n then E (E (p + 1)) else n + 1
/-- the table of ends, from the right: j of the n digits are done -/
def fE (d : Nat → Nat) (n : Nat) : Nat → Nat → Nat
  | 0 => fun _ => 0
  | j + 1 => up (fE d n j) (n - 1 - j) (stE d n (fE d n j) (n - 1 - j))
/-- a good expression: what the tree's digits and ends are -/
def TV (d E : Nat → Nat) (n : Nat) : Prop :=
  n ≤ 18 ∧ 0 < n ∧ E 0 = n ∧ ∀ q, q < n → 1 ≤ d q ∧ d q ≤ 8 ∧ q < E q ∧ E q ≤ n ∧ (d q ≤ 5 → E q = q + 1) ∧ (d q = 8 → q + 1 < n ∧ E q = E (q + 1)) ∧ (d q = 6 ∨ d q = 7 → q + 1 < n ∧ E (q + 1) < n ∧ E q = E (E (q + 1)))
theorem fE_keep (d : Nat → Nat) (n : Nat) {q : Nat} : ∀ (i j : Nat), i ≤ j → j ≤ n → n - i ≤ q → fE d n j q = fE d n i q
  | i, 0, h, _, _ => by rw [Nat.le_zero.mp h]
  | i, j + 1, h, hj, hq => by
    rcases Nat.lt_or_ge i (j + 1) with h1 | h1
    · show up _ _ _ q = _
      rw [up_n _ (show q ≠ n - 1 - j by omega)]
      exact fE_keep d n i j (by omega) (by omega) hq
    · rw [show i = j + 1 from by omega]
/-- the table is a fixed point, where what is behind is good -/
theorem fE_step (d : Nat → Nat) {n p : Nat} (hp : p < n) (hg : ∀ q, p < q → q < n → q < fE d n n q) : fE d n n p = stE d n (fE d n n) p := by
  have h1 : fE d n n p = fE d n (n - p) p := fE_keep d n (n - p) n (by omega) (Nat.le_refl n) (by omega)
  have h2 : fE d n (n - p) p = stE d n (fE d n (n - 1 - p)) p := by
    rw [show n - p = (n - 1 - p) + 1 from by omega]
    show up _ _ _ p = _
    rw [show n - 1 - (n - 1 - p) = p from by omega, up_s]
  have h3 : ∀ q, p < q → fE d n (n - 1 - p) q = fE d n n q := fun q hq => (fE_keep d n (n - 1 - p) n (by omega) (Nat.le_refl n) (by omega)).symm
  rw [h1, h2]
  unfold stE
  rw [h3 (p + 1) (by omega)]
  by_cases ha : n ≤ p + 1 ∨ d p < 6 ∨ 8 < d p
  · rw [if_pos ha, if_pos ha]
  · rw [if_neg ha, if_neg ha]
    rw [h3 (fE d n n (p + 1)) (by have := hg (p + 1) (by omega) (by omega); omega)]
/-- good at every place -/
def okE (d : Nat → Nat) (n : Nat) : Prop := (∀ q, q < n → fE d n n q ≤ n) ∧ fE d n n 0 = n
theorem stE_in {d : Nat → Nat} {n : Nat} {E : Nat → Nat} {p : Nat} (h : stE d n E p ≤ n) : 1 ≤ d p ∧ d p ≤ 8 := by
  unfold stE at h
  split at h
  · omega
  · split at h
    · omega
    · omega
/-- each end is behind its node -/
theorem fE_gt (d : Nat → Nat) {n : Nat} (h : ∀ q, q < n → fE d n n q ≤ n) : ∀ (j p : Nat), n ≤ p + j → p < n → p < fE d n n p
  | 0, p, hj, hp => absurd hj (by omega)
  | j + 1, p, hj, hp => by
    have hg : ∀ q, p < q → q < n → q < fE d n n q := fun q h1 h2 => fE_gt d h j q (by omega) h2
    have hs := fE_step d hp hg
    have hle := h p hp
    rw [hs] at hle ⊢
    unfold stE at hle ⊢
    split
    · omega
    · rename_i h1
      rw [if_neg h1] at hle
      split
      · omega
      · rename_i h2
        rw [if_neg h2] at hle
        have h3 := hg (p + 1) (by omega) (by omega)
        split
        · omega
        · rename_i h4
          rw [if_neg h4] at hle
          split
          · rename_i h5
            have h6 := hg _ (by omega) h5
            omega
          · omega
theorem TV_of {d : Nat → Nat} {n : Nat} (hn : n ≤ 18) (h0 : 0 < n) (h : okE d n) : TV d (fE d n n) n := by
  refine ⟨hn, h0, h.2, fun q hq => ?_⟩
  have hgt : ∀ q, q < n → q < fE d n n q := fun q hq => fE_gt d h.1 n q (by omega) hq
  have hs := fE_step d hq (fun q' _ h2 => hgt q' h2)
  have hle := h.1 q hq
  have h1 := hgt q hq
  have hd := stE_in (show stE d n (fE d n n) q ≤ n by rw [← hs]; exact hle)
  refine ⟨hd.1, hd.2, h1, hle, fun h5 => ?_, fun h8 => ?_, fun h67 => ?_⟩
  · rw [hs]; unfold stE; rw [if_pos ⟨hd.1, h5⟩]
  · rw [hs] at hle
    unfold stE at hle hs
    rw [if_neg (by omega)] at hle hs
    by_cases ha : n ≤ q + 1 ∨ d q < 6 ∨ 8 < d q
    · rw [if_pos ha] at hle; omega
    · rw [if_neg ha, if_pos h8] at hs
      exact ⟨by omega, hs⟩
  · rw [hs] at hle
    unfold stE at hle hs
    rw [if_neg (by omega)] at hle hs
    by_cases ha : n ≤ q + 1 ∨ d q < 6 ∨ 8 < d q
    · rw [if_pos ha] at hle; omega
    · rw [if_neg ha, if_neg (by omega)] at hs hle
      by_cases hb : fE d n n (q + 1) < n
      · rw [if_pos hb] at hs
        exact ⟨by omega, hb, hs⟩
      · rw [if_neg hb] at hle; omega
/-- the count of open expressions, from the left -/
def opS (d : Nat → Nat) : Nat → Nat
  | 0 => 1
  | k + 1 => if d k < 6 then opS d k - 1 else if d k = 8 then opS d k else opS d k + 1
def okR (d : Nat → Nat) (n : Nat) : Prop := (∀ k, k < n → opS d k ≠ 0 ∧ 1 ≤ d k ∧ d k ≤ 8) ∧ opS d n = 0
/-- o expressions stand from k to T, one behind another -/
def gc (E : Nat → Nat) (n T : Nat) : Nat → Nat → Prop
  | 0, k => k = T
  | o + 1, k => k < n ∧ gc E n T o (E k)
theorem gc_leaf {E : Nat → Nat} {n T o k : Nat} (h : gc E n T (o + 1) k) (he : E k = k + 1) : gc E n T o (k + 1) := by rw [← he]; exact h.2
theorem gc_star {E : Nat → Nat} {n T o k : Nat} (h : gc E n T (o + 1) k) (h1 : k + 1 < n) (he : E k = E (k + 1)) : gc E n T (o + 1) (k + 1) := ⟨h1, by rw [← he]; exact h.2⟩
theorem gc_two {E : Nat → Nat} {n T o k : Nat} (h : gc E n T (o + 1) k) (h1 : k + 1 < n) (h2 : E (k + 1) < n) (he : E k = E (E (k + 1))) : gc E n T (o + 2) (k + 1) := ⟨h1, h2, by rw [← he]; exact h.2⟩
theorem gc_step {d E : Nat → Nat} {n T o k : Nat} (tv : TV d E n) (h : gc E n T o k) (ho : 0 < o) : gc E n T (if d k < 6 then o - 1 else if d k = 8 then o else o + 1) (k + 1) := by
  obtain ⟨o, rfl⟩ : ∃ q, o = q + 1 := ⟨o - 1, by omega⟩
  have hk : k < n := h.1
  obtain ⟨h1, h8, -, -, hl, hs, hb⟩ := tv.2.2.2 k hk
  by_cases c1 : d k < 6
  · rw [if_pos c1]; exact gc_leaf h (hl (by omega))
  · rw [if_neg c1]
    by_cases c2 : d k = 8
    · rw [if_pos c2]; exact gc_star h (hs c2).1 (hs c2).2
    · rw [if_neg c2]; exact gc_two h (hb (by omega)).1 (hb (by omega)).2.1 (hb (by omega)).2.2
theorem gc_op {d E : Nat → Nat} {n : Nat} (tv : TV d E n) : ∀ k, k ≤ n → gc E n n (opS d k) k
  | 0, _ => ⟨tv.2.1, tv.2.2.1⟩
  | k + 1, h => by
    have ih := gc_op tv k (by omega)
    have h0 : 0 < opS d k := by
      rcases Nat.eq_zero_or_pos (opS d k) with q | q
      · rw [q] at ih; have : k = n := ih; omega
      · exact q
    exact gc_step tv ih h0
theorem okR_of_TV {d E : Nat → Nat} {n : Nat} (tv : TV d E n) : okR d n := by
  refine ⟨fun k hk => ⟨fun q => ?_, (tv.2.2.2 k hk).1, (tv.2.2.2 k hk).2.1⟩, ?_⟩
  · have h := gc_op tv k (by omega)
    rw [q] at h
    have : k = n := h
    omega
  · have h := gc_op tv n (Nat.le_refl n)
    cases ho : opS d n with
    | zero => rfl
    | succ o => rw [ho] at h; exact absurd h.1 (Nat.lt_irrefl n)
theorem okE_of_okR {d : Nat → Nat} {n : Nat} (h0 : 0 < n) (h : okR d n) : okE d n := by
  have key : ∀ j q, n ≤ q + j → q ≤ n → (q < n → q < fE d n n q ∧ fE d n n q ≤ n) ∧ gc (fE d n n) n n (opS d q) q := by
    intro j
    induction j with
    | zero =>
      intro q hq hqn
      have e : q = n := by omega
      subst e
      exact ⟨fun z => absurd z (Nat.lt_irrefl _), by rw [h.2]; rfl⟩
    | succ j ih =>
      intro q hq hqn
      rcases Nat.lt_or_ge q n with hlt | hge
      · have hg : ∀ q', q < q' → q' < n → q' < fE d n n q' := fun q' h1 h2 => ((ih q' (by omega) (by omega)).1 h2).1
        have hs := fE_step d hlt hg
        obtain ⟨ho, hd1, hd8⟩ := h.1 q hlt
        have hn := (ih (q + 1) (by omega) (by omega)).2
        have hop : opS d (q + 1) = if d q < 6 then opS d q - 1 else if d q = 8 then opS d q else opS d q + 1 := rfl
        obtain ⟨o, hoe⟩ : ∃ o, opS d q = o + 1 := ⟨opS d q - 1, by omega⟩
        rw [hop, hoe] at hn
        rw [hoe]
        unfold stE at hs
        by_cases c1 : d q < 6
        · rw [if_pos c1] at hn
          rw [if_pos (by omega)] at hs
          refine ⟨fun _ => by omega, hlt, ?_⟩
          rw [hs]; exact hn
        · rw [if_neg c1] at hn
          rw [if_neg (by omega)] at hs
          by_cases c2 : d q = 8
          · rw [if_pos c2] at hn
            have h1 : q + 1 < n := hn.1
            rw [if_neg (by omega), if_pos c2] at hs
            have h2 := (ih (q + 1) (by omega) (by omega)).1 h1
            refine ⟨fun _ => by omega, hlt, ?_⟩
            rw [hs]; exact hn.2
          · rw [if_neg c2] at hn
            have h1 : q + 1 < n := hn.1
            have h2 : fE d n n (q + 1) < n := hn.2.1
            have h3 := (ih (q + 1) (by omega) (by omega)).1 h1
            have h4 := (ih (fE d n n (q + 1)) (by omega) (by omega)).1 h2
            rw [if_neg (by omega), if_neg c2, if_pos h2] at hs
            refine ⟨fun _ => by omega, hlt, ?_⟩
            rw [hs]; exact hn.2.2
      · have e : q = n := by omega
        subst e
        exact ⟨fun z => absurd z (Nat.lt_irrefl _), by rw [h.2]; rfl⟩
  refine ⟨fun q hq => ((key n q (by omega) (by omega)).1 hq).2, ?_⟩
  have h1 := (key n 0 (by omega) (by omega)).2
  exact h1.2
theorem ok_iff {d : Nat → Nat} {n : Nat} (hn : n ≤ 18) (h0 : 0 < n) : okE d n ↔ okR d n :=
  ⟨fun h => okR_of_TV (TV_of hn h0 h), okE_of_okR h0⟩
/-! digits of a code -/
/-- the digit of v at place k -/
def dg (v k : Nat) : Nat := v / 10 ^ (dc v - 1 - k) % 10
/-- a code of an expression -/
def okV (v : Nat) : Prop := 0 < v ∧ v < 10 ^ 18 ∧ okE (dg v) (dc v)
/-- the ends of its nodes, and the codes of its parts -/
def en (v : Nat) : Nat → Nat := fE (dg v) (dc v) (dc v)
def cdv (v p : Nat) : Nat := v % 10 ^ (dc v - p) / 10 ^ (dc v - en v p)
theorem dc_lt {v : Nat} (h : v < 10 ^ 18) : v < 10 ^ dc v ∧ dc v ≤ 18 := by
  have h1 : v < 10 ^ dc v := dcF_lt 18 v 1 (Nat.lt_of_lt_of_le h (by decide))
  refine ⟨h1, ?_⟩
  rcases dcF_lo 18 v 1 with q | q
  · show dcF 18 v 1 ≤ 18
    omega
  · rcases Nat.lt_or_ge 18 (dc v) with c | c
    · have : 10 ^ 18 ≤ 10 ^ (dc v - 1) := Nat.pow_le_pow_right (by decide) (by omega)
      have q' : 10 ^ (dc v - 1) ≤ v := q
      omega
    · exact c
theorem TV_v {v : Nat} (h : okV v) : TV (dg v) (en v) (dc v) := TV_of (dc_lt h.2.1).2 (dc_in v).1 h.2.2
theorem TV_cong {d d' E E' : Nat → Nat} {n : Nat} (tv : TV d E n) (hd : ∀ j, j < n → d' j = d j) (hE : ∀ j, j < n → E' j = E j) : TV d' E' n := by
  refine ⟨tv.1, tv.2.1, by rw [hE 0 tv.2.1]; exact tv.2.2.1, fun q hq => ?_⟩
  obtain ⟨h1, h8, h3, h4, hl, hs, hb⟩ := tv.2.2.2 q hq
  rw [hd q hq, hE q hq]
  refine ⟨h1, h8, h3, h4, hl, fun c => ?_, fun c => ?_⟩
  · obtain ⟨a, b⟩ := hs c
    exact ⟨a, by rw [hE _ a]; exact b⟩
  · obtain ⟨a, b, e⟩ := hb c
    rw [hE _ a, hE _ b]
    exact ⟨a, b, e⟩
theorem dg_alt {v k : Nat} (hk : k < dc v) : v % 10 ^ (dc v - k) / 10 ^ (dc v - k - 1) = dg v k := by
  unfold dg
  rw [show dc v - 1 - k = dc v - k - 1 from by omega]
  generalize hm : dc v - k - 1 = m
  rw [show dc v - k = m + 1 from by omega, Nat.pow_succ, Nat.mod_mul_right_div_self]
/-! deciding -/
def okVb (v : Nat) : Bool := decide (0 < v ∧ v < 10 ^ 18 ∧ (∀ q, q < dc v → fE (dg v) (dc v) (dc v) q ≤ dc v) ∧ fE (dg v) (dc v) (dc v) 0 = dc v)
theorem okVb_iff {v : Nat} : okVb v = true ↔ okV v := by unfold okVb okV okE; exact decide_eq_true_iff
theorem okVb_small {v : Nat} (h : v = 0 ∨ 10 ^ 18 ≤ v) : ¬ okVb v = true := fun q => by
  have h1 := okVb_iff.mp q
  have h2 := h1.1
  have h3 := h1.2.1
  omega
/-- the natural behind a long, 0 below 0 -/
def xv (x : Int64) : Nat := x.toInt.toNat
theorem xv_lN {v : Nat} (h : v < 2 ^ 63) : xv (lN v) = v := by unfold xv; rw [pk_lT h]; rfl
theorem xv_neg {x : Int64} (h : ¬ 0 < x) : xv x = 0 := by
  have h1 : ¬ (0 : Int64).toInt < x.toInt := fun q => h ((fa_lt64 _ _).mpr q)
  have h2 : (0 : Int64).toInt = 0 := by decide
  unfold xv; omega
theorem lN_split (x : Int64) : ¬ 0 < x ∨ ∃ v, 0 < v ∧ v < 2 ^ 63 ∧ x = lN v := by
  by_cases h : 0 < x
  · right
    have h1 := (fa_lt64 _ _).mp h
    have h0 : (0 : Int64).toInt = 0 := by decide
    rw [h0] at h1
    have h2 : ¬ x < 0 := fun q => by
      have h3 := (fa_lt64 _ _).mp q
      rw [h0] at h3; omega
    obtain ⟨v, hv, rfl⟩ := pk_lOf h2
    rw [pk_lT hv] at h1
    exact ⟨v, by omega, hv, rfl⟩
  · exact Or.inl h
theorem pow19 : (2 : Nat) ^ 63 < 10 ^ 19 := by decide
theorem pow_inj_lt {v i j : Nat} (h1 : 10 ^ i ≤ v) (h2 : v < 10 ^ j) : i < j := by
  rcases Nat.lt_or_ge i j with c | c
  · exact c
  · have := Nat.pow_le_pow_right (show 10 > 0 by decide) c; omega
/-- the number of digits is told by the powers around -/
theorem dc_uniq {v i : Nat} (h0 : 0 < v) (hv : v < 2 ^ 63) (h1 : v / 10 ^ i ≤ 0) (h2 : i = 0 ∨ 10 ^ (i - 1) ≤ v) : i = dc v := by
  have hp : 0 < 10 ^ i := Nat.pow_pos (by decide)
  have hlt : v < 10 ^ i := by
    rcases Nat.lt_or_ge v (10 ^ i) with c | c
    · exact c
    · have := Nat.div_pos c hp; omega
  have hd : v < 10 ^ dc v := dcF_lt 18 v 1 (Nat.lt_trans hv pow19)
  have hi : 0 < i := by
    rcases Nat.eq_zero_or_pos i with c | c
    · subst c; simp at hlt; omega
    · exact c
  have h3 : 10 ^ (i - 1) ≤ v := by omega
  have h4 := pow_inj_lt h3 hd
  rcases dcF_lo 18 v 1 with q | q
  · have q : dc v = 1 := q
    omega
  · have h5 : dc v - 1 < i := pow_inj_lt q hlt
    have := (dc_in v).1
    omega
theorem dc_big {v : Nat} (h0 : 0 < v) (hv : v < 2 ^ 63) : 18 < dc v ↔ 10 ^ 18 ≤ v := by
  constructor
  · intro h
    rcases Nat.lt_or_ge v (10 ^ 18) with c | c
    · have := (dc_lt c).2; omega
    · exact c
  · intro h
    have hd : v < 10 ^ dc v := dcF_lt 18 v 1 (Nat.lt_trans hv pow19)
    exact pow_inj_lt h hd
theorem gc_le {E : Nat → Nat} {n T : Nat} (hE : ∀ q, q < n → q < E q) : ∀ (o k : Nat), gc E n T o k → k + o ≤ T
  | 0, k, h => by have : k = T := h; omega
  | o + 1, k, h => by
    have h1 := gc_le hE o (E k) h.2
    have h2 := hE k h.1
    omega
theorem gc_lt {E : Nat → Nat} {n T o k : Nat} (h : gc E n T o k) (ho : 0 < o) : k < n := by
  obtain ⟨o, rfl⟩ : ∃ q, o = q + 1 := ⟨o - 1, by omega⟩
  exact h.1
/-- the same digits in two parts -/
def smD (d E : Nat → Nat) (a b : Nat) : Bool := decide (E a - a = E b - b ∧ ∀ k, k < E a - a → d (a + k) = d (b + k))
theorem smD_iff {d E : Nat → Nat} {a b : Nat} : smD d E a b = true ↔ (E a - a = E b - b ∧ ∀ k, k < E a - a → d (a + k) = d (b + k)) := by unfold smD; exact decide_eq_true_iff
theorem TV.q {d E : Nat → Nat} {n q : Nat} (tv : TV d E n) (h : q < n) : 1 ≤ d q ∧ d q ≤ 8 ∧ q < E q ∧ E q ≤ n := ⟨(tv.2.2.2 q h).1, (tv.2.2.2 q h).2.1, (tv.2.2.2 q h).2.2.1, (tv.2.2.2 q h).2.2.2.1⟩
theorem TV.n18 {d E : Nat → Nat} {n : Nat} (tv : TV d E n) : n ≤ 18 := tv.1
theorem TV.n0 {d E : Nat → Nat} {n : Nat} (tv : TV d E n) : 0 < n := tv.2.1
/-- the ends of what the class and the reference read agree with the table -/
theorem okR_v {v : Nat} (h0 : 0 < v) (hv : v < 10 ^ 18) : okVb v = true ↔ okR (dg v) (dc v) := by
  rw [okVb_iff]
  exact ⟨fun h => (ok_iff (dc_lt hv).2 (dc_in v).1).mp h.2.2, fun h => ⟨h0, hv, (ok_iff (dc_lt hv).2 (dc_in v).1).mpr h⟩⟩
