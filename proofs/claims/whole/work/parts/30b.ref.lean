/-! the reference's queue of pairs -/
def qA (qu : Nat → Nat) (p : Nat) : Option Nat := if p = 0 then none else some (qu p / 512)
def qB (qu : Nat → Nat) (p : Nat) : Option Nat := if p = 0 then none else some (qu p % 512)
/-- the pairs met, when the words behind the places before pl are looked at, and behind pl those with the first sy symbols -/
def RQ (v1 v2 : Nat) (sn qu cf : Nat → Nat) (cmp que pl sy : Nat) (nm : Nat → Nat) : Prop :=
  0 < que ∧ que ≤ 262145 ∧ chn (fun p => cf p / 3) (fun p => cf p % 3) nm que ∧
  (∀ p, p < que → qu p < 262144 ∨ p = 0) ∧ (∀ p, p < que → rnw v1 (nm p) = qA qu p ∧ rnw v2 (nm p) = qB qu p) ∧
  (∀ p q, p < q → q < que → nm p < nm q) ∧
  (∀ m, m < 262144 → sn m = cmp → ∃ p, 0 < p ∧ p < que ∧ qu p = m) ∧
  (∀ i c, i < que → c < 3 → (i < pl ∨ (i = pl ∧ c < sy)) → ∃ j, j < que ∧ rnw v1 (nm j) = rnw v1 (3 * nm i + 1 + c) ∧ rnw v2 (nm j) = rnw v2 (3 * nm i + 1 + c) ∧ nm j ≤ 3 * nm i + 1 + c) ∧
  (pl < que → ∀ p, p < que → nm p ≤ 3 * nm pl + sy) ∧
  fa_cnt (fun m => decide (sn m = cmp)) 262144 + 1 = que ∧ (∀ m, m < 262144 → sn m ≤ cmp) ∧ (∀ p, p < que → cf p < 2 ^ 30 ∨ p = 0)
theorem cnt_up {p q : Nat → Bool} {a : Nat} (hq : q a = true) (hp : p a = false) (he : ∀ k, k ≠ a → q k = p k) : ∀ n, a < n → fa_cnt q n = fa_cnt p n + 1
  | 0, h => absurd h (by omega)
  | n + 1, h => by
    rcases Nat.lt_or_ge a n with c | c
    · have ih := cnt_up hq hp he n c
      show fa_cnt q n + _ = fa_cnt p n + _ + 1
      rw [ih, he n (by omega)]; omega
    · have e : n = a := by omega
      subst e
      rw [fa_cnt_yes hq, fa_cnt_no hp, fa_cnt_cong (fun k hk => he k (by omega))]
theorem cnt_imp {p q : Nat → Bool} : ∀ n, (∀ k, k < n → p k = true → q k = true) → fa_cnt p n ≤ fa_cnt q n
  | 0, _ => Nat.le_refl 0
  | n + 1, h => by
    have ih := cnt_imp n (fun k hk => h k (by omega))
    have h1 := h n (by omega)
    show fa_cnt p n + (if p n = true then 1 else 0) ≤ fa_cnt q n + (if q n = true then 1 else 0)
    by_cases c : p n = true
    · rw [if_pos c, if_pos (h1 c)]; omega
    · rw [if_neg c]; omega
theorem cnt_false {p : Nat → Bool} : ∀ n, (∀ k, k < n → p k = false) → fa_cnt p n = 0
  | 0, _ => rfl
  | n + 1, h => by rw [fa_cnt_no (h n (by omega))]; exact cnt_false n (fun k hk => h k (by omega))
theorem cnt_lt {p : Nat → Bool} {a n : Nat} (ha : a < n) (hp : p a = false) : fa_cnt p n < n := by
  have h := cnt_up (p := p) (q := fun k => if k = a then true else p k) (a := a) (if_pos rfl) hp (fun k hk => if_neg hk) n ha
  have h2 := fa_cnt_le (fun k => if k = a then true else p k) n
  omega
theorem RQ_0 {v1 v2 : Nat} {sn qu cf : Nat → Nat} {cmp : Nat} (h : ∀ m, m < 262144 → sn m < cmp) : RQ v1 v2 sn qu cf cmp 1 0 0 (fun _ => 0) := by
  refine ⟨by omega, by omega, ⟨rfl, fun p h0 h1 => absurd h1 (by omega)⟩, fun p hp => Or.inr (by omega), fun p hp => ?_, fun p q h1 h2 => absurd h2 (by omega), fun m hm he => absurd (h m hm) (by omega), fun i c hi hc hh => absurd hh (by omega), fun _ p hp => Nat.zero_le _, ?_, fun m hm => Nat.le_of_lt (h m hm), fun p hp => Or.inr (by omega)⟩
  · rw [show p = 0 from by omega]; exact ⟨rfl, rfl⟩
  · rw [cnt_false _ (fun k hk => decide_eq_false (by have := h k hk; omega))]
theorem RQ_next {v1 v2 : Nat} {sn qu cf : Nat → Nat} {cmp que pl : Nat} {nm : Nat → Nat} (h : RQ v1 v2 sn qu cf cmp que pl 3 nm) (hp : pl < que) : RQ v1 v2 sn qu cf cmp que (pl + 1) 0 nm := by
  obtain ⟨h1, h2, h3, h4, h5, h6, h7, h8, h9, h10⟩ := h
  refine ⟨h1, h2, h3, h4, h5, h6, h7, fun i c hi hc hh => h8 i c hi hc (by omega), fun hq p hp2 => ?_, h10⟩
  have := h9 hp p hp2
  have := h6 pl (pl + 1) (by omega) hq
  omega
/-- the pair was met before -/
theorem RQ_old {v1 v2 : Nat} {sn qu cf : Nat → Nat} {cmp que pl sy a b : Nat} {nm : Nat → Nat} (h : RQ v1 v2 sn qu cf cmp que pl sy nm) (hp : pl < que) (hs : sy < 3) (ha : a = aft v1 (qA qu pl) sy) (hb : b = aft v2 (qB qu pl) sy) (ha5 : a < 512) (hb5 : b < 512) (hsn : sn (512 * a + b) = cmp) : RQ v1 v2 sn qu cf cmp que pl (sy + 1) nm := by
  obtain ⟨h1, h2, h3, h4, h5, h6, h7, h8, h9, h10⟩ := h
  refine ⟨h1, h2, h3, h4, h5, h6, h7, fun i c hi hc hh => ?_, fun hq p hp2 => by have := h9 hq p hp2; omega, h10⟩
  by_cases e : i < pl ∨ (i = pl ∧ c < sy)
  · exact h8 i c hi hc e
  · have e1 : i = pl := by omega
    have e2 : c = sy := by omega
    subst e1; subst e2
    obtain ⟨p, p0, p1, p2⟩ := h7 _ (by omega) hsn
    refine ⟨p, p1, ?_, ?_, ?_⟩
    · rw [rnw_s _ _ hs, (h5 p p1).1, (h5 i hp).1, ← ha]; unfold qA; rw [if_neg (by omega), p2, show (512 * a + b) / 512 = a from by omega]
    · rw [rnw_s _ _ hs, (h5 p p1).2, (h5 i hp).2, ← hb]; unfold qB; rw [if_neg (by omega), p2, show (512 * a + b) % 512 = b from by omega]
    · have := h9 hp p p1; omega
/-- a new pair -/
theorem RQ_new {v1 v2 : Nat} {sn qu cf : Nat → Nat} {cmp que pl sy a b : Nat} {nm : Nat → Nat} (h : RQ v1 v2 sn qu cf cmp que pl sy nm) (hp : pl < que) (hs : sy < 3) (ha : a = aft v1 (qA qu pl) sy) (hb : b = aft v2 (qB qu pl) sy) (ha5 : a < 512) (hb5 : b < 512) (hsn : sn (512 * a + b) ≠ cmp) :
    RQ v1 v2 (up sn (512 * a + b) cmp) (up qu que (512 * a + b)) (up cf que (3 * pl + sy)) cmp (que + 1) pl (sy + 1) (up nm que (3 * nm pl + 1 + sy)) := by
  obtain ⟨h1, h2, h3, h4, h5, h6, h7, h8, h9, h10, h11, h12⟩ := h
  have hlt := cnt_lt (p := fun m => decide (sn m = cmp)) (a := 512 * a + b) (n := 262144) (by omega) (decide_eq_false hsn)
  have hz : ∀ p, p < que → qA (up qu que (512 * a + b)) p = qA qu p ∧ qB (up qu que (512 * a + b)) p = qB qu p := fun p hq => by
    unfold qA qB; rw [up_n _ (by omega)]; exact ⟨rfl, rfl⟩
  have hle := h9 hp
  have hpl : up nm que (3 * nm pl + 1 + sy) pl = nm pl := up_n _ (by omega)
  refine ⟨by omega, by omega, ⟨by rw [up_n _ (by omega)]; exact h3.1, fun p p0 p1 => ?_⟩, fun p hq => ?_, fun p hq => ?_, fun p q g1 g2 => ?_, fun m hm he => ?_, fun i c hi hc hh => ?_, fun hq p hp2 => ?_, ?_, fun m hm => ?_, fun p hq => ?_⟩
  · by_cases e : p = que
    · subst e
      dsimp only
      rw [up_s, up_s, show (3 * pl + sy) / 3 = pl from by omega, show (3 * pl + sy) % 3 = sy from by omega, hpl]
      exact ⟨hp, hs, rfl⟩
    · have := h3.2 p p0 (by omega)
      dsimp only at this ⊢
      rw [up_n _ e, up_n _ e, up_n _ (by omega)]
      exact this
  · by_cases e : p = que
    · rw [e, up_s]; exact Or.inl (by omega)
    · rw [up_n _ e]; exact h4 p (by omega)
  · by_cases e : p = que
    · subst e
      rw [up_s, rnw_s _ _ hs, rnw_s _ _ hs, (h5 pl hp).1, (h5 pl hp).2, ← ha, ← hb]
      unfold qA qB
      rw [if_neg (by omega), if_neg (by omega), up_s, show (512 * a + b) / 512 = a from by omega, show (512 * a + b) % 512 = b from by omega]
      exact ⟨rfl, rfl⟩
    · rw [up_n _ e, (hz p (by omega)).1, (hz p (by omega)).2]; exact h5 p (by omega)
  · rw [up_n nm (by omega)]
    by_cases e : q = que
    · rw [e, up_s]; have := hle p (by omega); omega
    · rw [up_n _ e]; exact h6 p q g1 (by omega)
  · by_cases e : m = 512 * a + b
    · exact ⟨que, by omega, by omega, by rw [up_s, e]⟩
    · rw [up_n _ e] at he
      obtain ⟨p, p0, p1, p2⟩ := h7 m hm he
      exact ⟨p, p0, by omega, by rw [up_n _ (by omega)]; exact p2⟩
  · have hi2 : i < que := by omega
    rw [up_n nm (show i ≠ que by omega)]
    by_cases e : i < pl ∨ (i = pl ∧ c < sy)
    · obtain ⟨j, j1, j2⟩ := h8 i c hi2 hc e
      exact ⟨j, by omega, by rw [up_n _ (by omega)]; exact j2⟩
    · have e1 : i = pl := by omega
      have e2 : c = sy := by omega
      subst e1; subst e2
      exact ⟨que, by omega, by rw [up_s]; exact ⟨rfl, rfl, Nat.le_refl _⟩⟩
  · rw [hpl]
    by_cases e : p = que
    · rw [e, up_s]; omega
    · rw [up_n _ e]; have := hle p (by omega); omega
  · rw [cnt_up (p := fun m => decide (sn m = cmp)) (q := fun m => decide (up sn (512 * a + b) cmp m = cmp)) (a := 512 * a + b) (decide_eq_true (up_s _ _ _)) (decide_eq_false hsn) (fun k hk => by rw [up_n _ hk]) 262144 (by omega)]
    omega
  · by_cases e : m = 512 * a + b
    · rw [e, up_s]; exact Nat.le_refl _
    · rw [up_n _ e]; exact h11 m hm
  · by_cases e : p = que
    · rw [e, up_s]; exact Or.inl (by omega)
    · rw [up_n _ e]; exact h12 p (by omega)
theorem RQ_lt {v1 v2 : Nat} {sn qu cf : Nat → Nat} {cmp que pl sy a b : Nat} {nm : Nat → Nat} (h : RQ v1 v2 sn qu cf cmp que pl sy nm) (ha5 : a < 512) (hb5 : b < 512) (hsn : sn (512 * a + b) ≠ cmp) : que < 262145 := by
  have hlt := cnt_lt (p := fun m => decide (sn m = cmp)) (a := 512 * a + b) (n := 262144) (by omega) (decide_eq_false hsn)
  have := h.2.2.2.2.2.2.2.2.2.1
  omega
theorem RQ_inv {v1 v2 : Nat} {sn qu cf : Nat → Nat} {cmp que pl sy : Nat} {nm : Nat → Nat} (h : RQ v1 v2 sn qu cf cmp que pl sy nm) {i j : Nat} (hi : i < que) (hj : j < que) (hn : nm i < nm j) : i < j := by
  have h6 := h.2.2.2.2.2.1
  rcases Nat.lt_trichotomy i j with c | c | c
  · exact c
  · subst c; omega
  · have := h6 j i c hi; omega
/-- the first place that tells apart has the first word -/
theorem RQ_LB {v1 v2 : Nat} {sn qu cf : Nat → Nat} {cmp que pl : Nat} {nm : Nat → Nat} (h : RQ v1 v2 sn qu cf cmp que pl 0 nm) (hp : pl < que) (hg : ∀ j, j < pl → ¬ bd v1 v2 (nm j)) (hb : bd v1 v2 (nm pl)) : LB v1 v2 (nm pl) := by
  have hr := h
  obtain ⟨h1, h2, h3, h4, h5, h6, h7, h8, h9, h10⟩ := h
  refine ⟨hb, fun W hW => bf_none (P := que) (B := nm pl) h1 h3.1 (fun i c hi hc hlt => ?_) (fun j hj hlt => hg j (RQ_inv hr hj hp hlt)) W W (Nat.le_refl W) hW⟩
  have hi2 := RQ_inv hr hi hp (by omega)
  obtain ⟨j, j1, j2, j3, j4⟩ := h8 i c hi hc (Or.inl hi2)
  rcases Nat.eq_or_lt_of_le j4 with e | e
  · exact Or.inl ⟨j, j1, e⟩
  · exact Or.inr (fun s hs hne => ⟨j, j1, e, by rw [j2, j3]; exact hne⟩)
theorem RQ_none {v1 v2 : Nat} {sn qu cf : Nat → Nat} {cmp que pl : Nat} {nm : Nat → Nat} (h : RQ v1 v2 sn qu cf cmp que pl 0 nm) (hp : que ≤ pl) (hg : ∀ j, j < pl → ¬ bd v1 v2 (nm j)) : ∀ W, ¬ bd v1 v2 W := by
  obtain ⟨h1, h2, h3, h4, h5, h6, h7, h8, h9, h10⟩ := h
  refine fun W => bf_none (P := que) (B := W + 1) h1 h3.1 (fun i c hi hc hlt => ?_) (fun j hj hlt => hg j (by omega)) W W (Nat.le_refl W) (by omega)
  obtain ⟨j, j1, j2, j3, j4⟩ := h8 i c hi hc (Or.inl (by omega))
  rcases Nat.eq_or_lt_of_le j4 with e | e
  · exact Or.inl ⟨j, j1, e⟩
  · exact Or.inr (fun s hs hne => ⟨j, j1, e, by rw [j2, j3]; exact hne⟩)
theorem RQ_bd {v1 v2 : Nat} {sn qu cf : Nat → Nat} {cmp que pl sy : Nat} {nm : Nat → Nat} (h : RQ v1 v2 sn qu cf cmp que pl sy nm) {p : Nat} (hp : p < que) : bd v1 v2 (nm p) ↔ acp v1 (qA qu p) ≠ acp v2 (qB qu p) := by
  unfold bd; rw [(h.2.2.2.2.1 p hp).1, (h.2.2.2.2.1 p hp).2]
theorem RQ_qu {v1 v2 : Nat} {sn qu cf : Nat → Nat} {cmp que pl sy : Nat} {nm : Nat → Nat} (h : RQ v1 v2 sn qu cf cmp que pl sy nm) {p : Nat} (hp : p < que) (h0 : p ≠ 0) : qu p < 262144 := (h.2.2.2.1 p hp).resolve_right h0
theorem qA_ok {qu : Nat → Nat} {p : Nat} (h : p ≠ 0 → qu p < 262144) : zok (qA qu p) ∧ zok (qB qu p) := by
  unfold qA qB
  by_cases c : p = 0
  · rw [if_pos c, if_pos c]; exact ⟨zok_n, zok_n⟩
  · have := h c
    rw [if_neg c, if_neg c]; exact ⟨zok_s (by omega), zok_s (by omega)⟩
theorem qA_0 (qu : Nat → Nat) : qA qu 0 = none ∧ qB qu 0 = none := ⟨rfl, rfl⟩
theorem qA_s {qu : Nat → Nat} {p : Nat} (h : p ≠ 0) : sI (qA qu p) = nI (qu p / 512) ∧ sI (qB qu p) = nI (qu p % 512) := by
  unfold qA qB; rw [if_neg h, if_neg h]; exact ⟨rfl, rfl⟩
theorem qA_up {qu : Nat → Nat} {p q m : Nat} (h : p ≠ q) : qA (up qu q m) p = qA qu p := by unfold qA; rw [up_n _ h]
theorem qB_up {qu : Nat → Nat} {p q m : Nat} (h : p ≠ q) : qB (up qu q m) p = qB qu p := by unfold qB; rw [up_n _ h]
