/-! folds over a tree, from the right -/
def tb {α : Type} (z : α) (stp : (Nat → α) → Nat → α) (n : Nat) : Nat → Nat → α
  | 0 => fun _ => z
  | j + 1 => fun q => if q = n - 1 - j then stp (tb z stp n j) (n - 1 - j) else tb z stp n j q
theorem tb_keep {α : Type} (z : α) (stp : (Nat → α) → Nat → α) (n : Nat) {q : Nat} : ∀ (i j : Nat), i ≤ j → j ≤ n → n - i ≤ q → tb z stp n j q = tb z stp n i q
  | i, 0, h, _, _ => by rw [Nat.le_zero.mp h]
  | i, j + 1, h, hj, hq => by
    rcases Nat.lt_or_ge i (j + 1) with h1 | h1
    · show (if q = n - 1 - j then _ else _) = _
      rw [if_neg (show q ≠ n - 1 - j by omega)]
      exact tb_keep z stp n i j (by omega) (by omega) hq
    · rw [show i = j + 1 from by omega]
/-- one node of a fold: a leaf's value, a star's, that of a node with two parts -/
def fSt {α : Type} (d E : Nat → Nat) (lf : Nat → α) (sr : α → α) (bi : Nat → α → α → α) (g : Nat → α) (k : Nat) : α :=
  if d k < 6 then lf k else if d k = 8 then sr (g (k + 1)) else bi (d k) (g (k + 1)) (g (E (k + 1)))
def fd {α : Type} (d E : Nat → Nat) (n : Nat) (z : α) (lf : Nat → α) (sr : α → α) (bi : Nat → α → α → α) : Nat → α := tb z (fSt d E lf sr bi) n n
theorem fd_eq {α : Type} {d E : Nat → Nat} {n : Nat} (tv : TV d E n) {z : α} {lf : Nat → α} {sr : α → α} {bi : Nat → α → α → α} {k : Nat} (hk : k < n) : fd d E n z lf sr bi k = fSt d E lf sr bi (fd d E n z lf sr bi) k := by
  have h1 : fd d E n z lf sr bi k = tb z (fSt d E lf sr bi) n (n - k) k := tb_keep z _ n (n - k) n (by omega) (Nat.le_refl n) (by omega)
  have h2 : tb z (fSt d E lf sr bi) n (n - k) k = fSt d E lf sr bi (tb z (fSt d E lf sr bi) n (n - 1 - k)) k := by
    rw [show n - k = (n - 1 - k) + 1 from by omega]
    show (if k = n - 1 - (n - 1 - k) then _ else _) = _
    rw [if_pos (show k = n - 1 - (n - 1 - k) by omega), show n - 1 - (n - 1 - k) = k from by omega]
  have h3 : ∀ q, k < q → tb z (fSt d E lf sr bi) n (n - 1 - k) q = fd d E n z lf sr bi q := fun q hq => (tb_keep z _ n (n - 1 - k) n (by omega) (Nat.le_refl n) (by omega)).symm
  rw [h1, h2]
  unfold fSt
  by_cases c1 : d k < 6
  · rw [if_pos c1, if_pos c1]
  · rw [if_neg c1, if_neg c1]
    have c0 := tv.2.2.2 k hk
    by_cases c2 : d k = 8
    · rw [if_pos c2, if_pos c2]
      show sr (tb z (fSt d E lf sr bi) n (n - 1 - k) (k + 1)) = _
      rw [h3 (k + 1) (by omega)]
    · rw [if_neg c2, if_neg c2]
      have c3 := c0.2.2.2.2.2.2 (by omega)
      have c4 := tv.q c3.1
      show bi (d k) (tb z (fSt d E lf sr bi) n (n - 1 - k) (k + 1)) (tb z (fSt d E lf sr bi) n (n - 1 - k) (E (k + 1))) = _
      rw [h3 (k + 1) (by omega), h3 (E (k + 1)) (by omega)]
theorem fd_leaf {α : Type} {d E : Nat → Nat} {n : Nat} (tv : TV d E n) {z : α} {lf : Nat → α} {sr : α → α} {bi : Nat → α → α → α} {k : Nat} (hk : k < n) (h : d k < 6) : fd d E n z lf sr bi k = lf k := (fd_eq tv hk).trans (if_pos h)
theorem fd_star {α : Type} {d E : Nat → Nat} {n : Nat} (tv : TV d E n) {z : α} {lf : Nat → α} {sr : α → α} {bi : Nat → α → α → α} {k : Nat} (hk : k < n) (h : d k = 8) : fd d E n z lf sr bi k = sr (fd d E n z lf sr bi (k + 1)) := (fd_eq tv hk).trans ((if_neg (by omega)).trans (if_pos h))
theorem fd_two {α : Type} {d E : Nat → Nat} {n : Nat} (tv : TV d E n) {z : α} {lf : Nat → α} {sr : α → α} {bi : Nat → α → α → α} {k : Nat} (hk : k < n) (h6 : ¬ d k < 6) (h8 : ¬ d k = 8) : fd d E n z lf sr bi k = bi (d k) (fd d E n z lf sr bi (k + 1)) (fd d E n z lf sr bi (E (k + 1))) := (fd_eq tv hk).trans ((if_neg h6).trans (if_neg h8))
/-! the stack of what is done from the right: o values, that of the node at k on top, then those behind it -/
def sk {α : Type} (E : Nat → Nat) (h f : Nat → α) : Nat → Nat → Prop
  | 0, _ => True
  | o + 1, k => f o = h k ∧ sk E h f o (E k)
theorem sk_cong {α : Type} {E : Nat → Nat} {h f f' : Nat → α} : ∀ {o k : Nat}, (∀ j, j < o → f' j = f j) → sk E h f o k → sk E h f' o k
  | 0, _, _, _ => trivial
  | o + 1, k, hc, hs => ⟨(hc o (by omega)).trans hs.1, sk_cong (fun j hj => hc j (by omega)) hs.2⟩
theorem sk_push {α : Type} {E : Nat → Nat} {h f f' : Nat → α} {o k : Nat} (hf : ∀ j, j < o → f' j = f j) (hv : f' o = h k) (hs : sk E h f o (E k)) : sk E h f' (o + 1) k := ⟨hv, sk_cong hf hs⟩
theorem sk_set {α : Type} {E : Nat → Nat} {h f f' : Nat → α} {o k : Nat} (h1 : 1 ≤ o) (hf : ∀ j, j < o - 1 → f' j = f j) (hv : f' (o - 1) = h k) (hs : sk E h f (o - 1) (E k)) : sk E h f' o k := by
  obtain ⟨o, rfl⟩ : ∃ q, o = q + 1 := ⟨o - 1, by omega⟩
  exact sk_push hf hv hs
theorem gc_0 {E : Nat → Nat} {n o k : Nat} (h : gc E n n o k) (hk : k < n) : 1 ≤ o := by
  cases o with
  | zero => have : k = n := h; omega
  | succ o => omega
theorem sk_top {α : Type} {E : Nat → Nat} {h f : Nat → α} {o k : Nat} (h1 : 1 ≤ o) (hs : sk E h f o k) : f (o - 1) = h k ∧ sk E h f (o - 1) (E k) := by
  obtain ⟨o, rfl⟩ : ∃ q, o = q + 1 := ⟨o - 1, by omega⟩
  exact hs
theorem gs_leaf {d E : Nat → Nat} {n o k : Nat} (tv : TV d E n) (hk : k < n) (hd : d k < 6) (hg : gc E n n o (k + 1)) : E k = k + 1 ∧ gc E n n (o + 1) k := by
  have h1 := (tv.2.2.2 k hk).2.2.2.2.1 (by omega)
  exact ⟨h1, hk, by rw [h1]; exact hg⟩
theorem gs_star {d E : Nat → Nat} {n o k : Nat} (tv : TV d E n) (hk : k < n) (hd : d k = 8) (hg : gc E n n o (k + 1)) : 1 ≤ o ∧ E k = E (k + 1) ∧ gc E n n o k := by
  have h1 := (tv.2.2.2 k hk).2.2.2.2.2.1 hd
  have h2 := gc_0 hg h1.1
  refine ⟨h2, h1.2, ?_⟩
  obtain ⟨o, rfl⟩ : ∃ q, o = q + 1 := ⟨o - 1, by omega⟩
  exact ⟨hk, by rw [h1.2]; exact hg.2⟩
theorem gs_two {d E : Nat → Nat} {n o k : Nat} (tv : TV d E n) (hk : k < n) (h6 : ¬ d k < 6) (h8 : ¬ d k = 8) (hg : gc E n n o (k + 1)) : 2 ≤ o ∧ E k = E (E (k + 1)) ∧ gc E n n (o - 1) k := by
  have h0 := tv.2.2.2 k hk
  have h1 := h0.2.2.2.2.2.2 (by omega)
  have h2 := gc_0 hg h1.1
  obtain ⟨o, rfl⟩ : ∃ q, o = q + 1 := ⟨o - 1, by omega⟩
  have h3 := gc_0 hg.2 h1.2.1
  obtain ⟨o, rfl⟩ : ∃ q, o = q + 1 := ⟨o - 1, by omega⟩
  exact ⟨by omega, h1.2.2, hk, by rw [h1.2.2]; exact hg.2.2⟩
theorem gc_end {d E : Nat → Nat} {n o : Nat} (tv : TV d E n) (hg : gc E n n o 0) : o = 1 := by
  have h1 := gc_0 hg tv.2.1
  obtain ⟨o, rfl⟩ : ∃ q, o = q + 1 := ⟨o - 1, by omega⟩
  have h2 := hg.2
  rw [tv.2.2.1] at h2
  cases o with
  | zero => rfl
  | succ o => exact absurd h2.1 (Nat.lt_irrefl n)
theorem TV.nest {d E : Nat → Nat} {n : Nat} (tv : TV d E n) : ∀ (m k : Nat), n ≤ k + m → k < n → ∀ j, k ≤ j → j < E k → E j ≤ E k
  | 0, k, h, hk => absurd h (by omega)
  | m + 1, k, h, hk => fun j h1 h2 => by
    rcases Nat.eq_or_lt_of_le h1 with c | c
    · rw [← c]; exact Nat.le_refl _
    · have h0 := tv.2.2.2 k hk
      by_cases c1 : d k < 6
      · have := h0.2.2.2.2.1 (by omega); omega
      · by_cases c2 : d k = 8
        · have h3 := h0.2.2.2.2.2.1 c2
          rw [h3.2] at h2 ⊢
          exact tv.nest m (k + 1) (by omega) h3.1 j (by omega) h2
        · have h3 := h0.2.2.2.2.2.2 (by omega)
          have h4 := tv.q h3.1
          have h5 := tv.q h3.2.1
          rw [h3.2.2] at h2 ⊢
          rcases Nat.lt_or_ge j (E (k + 1)) with c3 | c3
          · have := tv.nest m (k + 1) (by omega) h3.1 j (by omega) c3
            omega
          · exact tv.nest m (E (k + 1)) (by omega) h3.2.1 j c3 h2
/-! the height of a node is the most stars around one place in it -/
def hT (d E : Nat → Nat) (n : Nat) : Nat → Nat := fd d E n 0 (fun _ => 0) (fun a => a + 1) (fun _ a b => if a < b then b else a)
def sK (d E : Nat → Nat) (p : Nat) : Nat → Nat → Nat
  | _, 0 => 0
  | k, m + 1 => (if d k = 8 ∧ p < E k then 1 else 0) + sK d E p (k + 1) m
theorem sK_skip {d E : Nat → Nat} {p : Nat} (b : Nat) : ∀ (a k : Nat), (∀ j, k ≤ j → j < k + a → E j ≤ p) → sK d E p k (a + b) = sK d E p (k + a) b
  | 0, k, _ => by rw [Nat.zero_add, Nat.add_zero]
  | a + 1, k, h => by
    rw [show a + 1 + b = (a + b) + 1 from by omega, show k + (a + 1) = (k + 1) + a from by omega]
    show (if d k = 8 ∧ p < E k then 1 else 0) + sK d E p (k + 1) (a + b) = _
    have := h k (by omega) (by omega)
    rw [if_neg (by omega), Nat.zero_add]
    exact sK_skip b a (k + 1) (fun j h1 h2 => h j (by omega) (by omega))
theorem sK_cnt {d E : Nat → Nat} {p : Nat} : ∀ (m k : Nat), fa_cnt (fun j => decide (d j = 8 ∧ p < E j)) k + sK d E p k m = fa_cnt (fun j => decide (d j = 8 ∧ p < E j)) (k + m)
  | 0, k => rfl
  | m + 1, k => by
    have ih := sK_cnt (d := d) (E := E) (p := p) m (k + 1)
    rw [show k + (m + 1) = k + 1 + m from by omega, ← ih]
    show _ + ((if d k = 8 ∧ p < E k then 1 else 0) + sK d E p (k + 1) m) = (_ + if decide (d k = 8 ∧ p < E k) = true then 1 else 0) + _
    simp only [decide_eq_true_eq]
    omega
theorem hT_ok {d E : Nat → Nat} {n : Nat} (tv : TV d E n) : ∀ (m k : Nat), n ≤ k + m → k < n → (∀ p, k ≤ p → p < E k → sK d E p k (p + 1 - k) ≤ hT d E n k) ∧ ∃ p, k ≤ p ∧ p < E k ∧ sK d E p k (p + 1 - k) = hT d E n k
  | 0, k, h, hk => absurd h (by omega)
  | m + 1, k, h, hk => by
    have h0 := tv.2.2.2 k hk
    have hs : ∀ p, k ≤ p → sK d E p k (p + 1 - k) = (if d k = 8 ∧ p < E k then 1 else 0) + sK d E p (k + 1) (p + 1 - (k + 1)) := fun p hp => by
      rw [show p + 1 - k = (p + 1 - (k + 1)) + 1 from by omega]; rfl
    by_cases c1 : d k < 6
    · have h1 := h0.2.2.2.2.1 (by omega)
      have e : hT d E n k = 0 := fd_leaf tv hk c1
      have e2 : sK d E k k (k + 1 - k) = 0 := by
        rw [hs k (Nat.le_refl k), if_neg (by omega), show k + 1 - (k + 1) = 0 from by omega]; rfl
      refine ⟨fun p h2 h3 => ?_, k, Nat.le_refl k, by omega, by rw [e2, e]⟩
      rw [show p = k from by omega, e2]; exact Nat.zero_le _
    · by_cases c2 : d k = 8
      · have h1 := h0.2.2.2.2.2.1 c2
        have e : hT d E n k = hT d E n (k + 1) + 1 := fd_star tv hk c2
        obtain ⟨ha, p, p1, p2, p3⟩ := hT_ok tv m (k + 1) (by omega) h1.1
        refine ⟨fun q h2 h3 => ?_, p, by omega, by omega, by rw [hs p (by omega), if_pos ⟨c2, by omega⟩, p3, e]; omega⟩
        rw [hs q h2, e, if_pos ⟨c2, h3⟩]
        rcases Nat.eq_or_lt_of_le h2 with c | c
        · subst c; rw [show k + 1 - (k + 1) = 0 from by omega]; show 1 + 0 ≤ _; omega
        · have := ha q (by omega) (by omega); omega
      · have h1 := h0.2.2.2.2.2.2 (by omega)
        have e : hT d E n k = if hT d E n (k + 1) < hT d E n (E (k + 1)) then hT d E n (E (k + 1)) else hT d E n (k + 1) := fd_two tv hk c1 c2
        have q1 := tv.q h1.1
        have q2 := tv.q h1.2.1
        obtain ⟨ha, p, p1, p2, p3⟩ := hT_ok tv m (k + 1) (by omega) h1.1
        obtain ⟨hb, r, r1, r2, r3⟩ := hT_ok tv m (E (k + 1)) (by omega) h1.2.1
        have hk2 : ∀ q, E (k + 1) ≤ q → sK d E q (k + 1) (q + 1 - (k + 1)) = sK d E q (E (k + 1)) (q + 1 - E (k + 1)) := fun q hq => by
          rw [show q + 1 - (k + 1) = (E (k + 1) - (k + 1)) + (q + 1 - E (k + 1)) from by omega, sK_skip (q + 1 - E (k + 1)) (E (k + 1) - (k + 1)) (k + 1) (fun j g1 g2 => Nat.le_trans (tv.nest n (k + 1) (by omega) h1.1 j g1 (by omega)) hq), show k + 1 + (E (k + 1) - (k + 1)) = E (k + 1) from by omega]
        refine ⟨fun q h2 h3 => ?_, ?_⟩
        · rw [hs q h2, if_neg (fun z => c2 z.1)]
          rcases Nat.eq_or_lt_of_le h2 with c | c
          · subst c; rw [show k + 1 - (k + 1) = 0 from by omega]; show 0 + 0 ≤ _; omega
          · rcases Nat.lt_or_ge q (E (k + 1)) with g | g
            · have := ha q (by omega) g
              rw [e]; split <;> omega
            · have := hb q g (by omega)
              rw [hk2 q g, e]; split <;> omega
        · rw [e]
          split
          · exact ⟨r, by omega, by omega, by rw [hs r (by omega), if_neg (fun z => c2 z.1), hk2 r r1, r3, Nat.zero_add]⟩
          · exact ⟨p, by omega, by omega, by rw [hs p (by omega), if_neg (fun z => c2 z.1), p3, Nat.zero_add]⟩
theorem dSF_le {kd ed : Nat → Nat} {M : Nat} : ∀ k, (∀ p, p < k → sAr kd ed p ≤ M) → dSF kd ed k ≤ M
  | 0, _ => Nat.zero_le _
  | k + 1, h => by
    have ih := dSF_le k (fun p hp => h p (by omega))
    have := h k (by omega)
    show (if _ then _ else _) ≤ M
    split <;> omega
theorem dSF_ge {kd ed : Nat → Nat} : ∀ k p, p < k → sAr kd ed p ≤ dSF kd ed k
  | 0, p, h => absurd h (by omega)
  | k + 1, p, h => by
    show _ ≤ (if dSF kd ed k < sAr kd ed k then sAr kd ed k else dSF kd ed k)
    rcases Nat.eq_or_lt_of_le (Nat.le_of_lt_succ h) with c | c
    · subst c; split <;> omega
    · have := dSF_ge (kd := kd) (ed := ed) k p c
      split <;> omega
theorem hT_dSF {d E : Nat → Nat} {n : Nat} (tv : TV d E n) : hT d E n 0 = dSF d E n := by
  obtain ⟨h1, p, p1, p2, p3⟩ := hT_ok tv n 0 (by omega) tv.2.1
  have hc : ∀ q, sAr d E q = sK d E q 0 (q + 1 - 0) := fun q => by
    have := sK_cnt (d := d) (E := E) (p := q) (q + 1) 0
    rw [Nat.zero_add] at this
    show fa_cnt _ (q + 1) = sK d E q 0 (q + 1)
    rw [← this]; show 0 + _ = _ ; rw [Nat.zero_add]
  have e0 := tv.2.2.1
  apply Nat.le_antisymm
  · rw [← p3, ← hc]; exact dSF_ge n p (by omega)
  · exact dSF_le n (fun q hq => by rw [hc]; exact h1 q (by omega) (by omega))
theorem sK_le {d E : Nat → Nat} {p : Nat} : ∀ (m k : Nat), sK d E p k m ≤ m
  | 0, _ => Nat.le_refl 0
  | m + 1, k => by
    have := sK_le (d := d) (E := E) (p := p) m (k + 1)
    show (if _ then 1 else 0) + _ ≤ m + 1
    split <;> omega
theorem hT_le {d E : Nat → Nat} {n : Nat} (tv : TV d E n) {k : Nat} (hk : k < n) : hT d E n k ≤ n := by
  obtain ⟨_, p, p1, p2, p3⟩ := hT_ok tv n k (by omega) hk
  have := sK_le (d := d) (E := E) (p := p) (p + 1 - k) k
  have := tv.q hk
  omega
theorem hT_two {d E : Nat → Nat} {n k a b : Nat} (tv : TV d E n) (hk : k < n) (h6 : ¬ d k < 6) (h8 : ¬ d k = 8) (ha : a = hT d E n (k + 1)) (hb : b = hT d E n (E (k + 1))) : (b ≤ a → a = hT d E n k) ∧ (¬ b ≤ a → b = hT d E n k) := by
  have e : hT d E n k = if hT d E n (k + 1) < hT d E n (E (k + 1)) then hT d E n (E (k + 1)) else hT d E n (k + 1) := fd_two tv hk h6 h8
  rw [e, ← ha, ← hb]
  exact ⟨fun h => (if_neg (by omega)).symm, fun h => (if_pos (by omega)).symm⟩
theorem hT_root {x : Int64} {n o : Nat} {d f : Nat → Nat} (h : okVb (xv x) = true) (m : MD (xv x) n d) (hs : sk (en (xv x)) (hT d (en (xv x)) (dc (xv x))) f o 0) (ho : o = 1) : nI (f 0) = aSH x := by
  subst ho
  have tv := TV_M h m
  unfold aSH
  rw [if_pos h, show f 0 = hT d (en (xv x)) (dc (xv x)) 0 from hs.1, hT_dSF tv]
  exact congrArg nI (dSF_congr (fun j hj => ⟨m.2 j (by rw [m.1]; exact hj), rfl⟩) _ (Nat.le_refl _))
theorem hT_leaf {d E : Nat → Nat} {n k : Nat} (tv : TV d E n) (hk : k < n) (h : d k < 6) : 0 = hT d E n k := by
  have e : hT d E n k = 0 := fd_leaf tv hk h
  exact e.symm
theorem hT_star {d E : Nat → Nat} {n k a : Nat} (tv : TV d E n) (hk : k < n) (h : d k = 8) (ha : a = hT d E n (k + 1)) : a + 1 = hT d E n k := by
  have e : hT d E n k = hT d E n (k + 1) + 1 := fd_star tv hk h
  rw [e, ha]
