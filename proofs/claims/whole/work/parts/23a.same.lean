/-! the search: what lies beyond the count does not count -/
theorem fnd_congr {m m' : Nat → Nat} {c v : Nat} (h : ∀ i, i < c → m i = m' i) : fnd m c v = fnd m' c v := by
  by_cases e : ∃ i, i < c ∧ m i = v
  · obtain ⟨i, hi, hv⟩ := e
    rw [fnd_yes hi hv, fnd_yes hi ((h i hi).symm.trans hv)]
  · have h1 : ¬ fnd m c v = true := fnd_no (fun i hi q => e ⟨i, hi, q⟩)
    have h2 : ¬ fnd m' c v = true := fnd_no (fun i hi q => e ⟨i, hi, (h i hi).trans q⟩)
    rw [Bool.not_eq_true] at h1 h2
    rw [h1, h2]
def eqB (s t : (Nat → Nat) × (Nat → Nat) × Nat) : Prop := s.2.2 = t.2.2 ∧ ∀ i, i < s.2.2 → s.1 i = t.1 i ∧ s.2.1 i = t.2.1 i
theorem eqB_mt {s t : (Nat → Nat) × (Nat → Nat) × Nat} (h : eqB s t) (v d : Nat) : eqB (mtS s v d) (mtS t v d) ∧ mtO s.1 s.2.2 v = mtO t.1 t.2.2 v := by
  obtain ⟨a, b, c⟩ := s
  obtain ⟨a', b', c'⟩ := t
  obtain ⟨h1, h2⟩ := h
  change c = c' at h1
  subst h1
  change ∀ i, i < c → a i = a' i ∧ b i = b' i at h2
  have hf : fnd a c v = fnd a' c v := fnd_congr (fun i hi => (h2 i hi).1)
  refine ⟨?_, ?_⟩
  · show eqB (mtM a c v, mtD a b c v d, mtC a c v) (mtM a' c v, mtD a' b' c v d, mtC a' c v)
    unfold mtM mtD mtC
    rw [← hf]
    by_cases q : fnd a c v = true ∨ 60 ≤ c
    · rw [if_pos q, if_pos q, if_pos q, if_pos q, if_pos q]; exact ⟨rfl, h2⟩
    · rw [if_neg q, if_neg q, if_neg q, if_neg q, if_neg q]
      refine ⟨rfl, fun i hi => ?_⟩
      change i < c + 1 at hi
      show up a c v i = up a' c v i ∧ up b c d i = up b' c d i
      by_cases e : i = c
      · rw [e, up_s, up_s, up_s, up_s]; exact ⟨rfl, rfl⟩
      · rw [up_n _ e, up_n _ e, up_n _ e, up_n _ e]; exact h2 i (by omega)
  · show mtO a c v = mtO a' c v
    unfold mtO; rw [hf]
theorem eqB_ex {s t : (Nat → Nat) × (Nat → Nat) × Nat} (h : eqB s t) (v d : Nat) : ∀ k, eqB (exS v d s k) (exS v d t k) ∧ exO v d s k = exO v d t k
  | 0 => ⟨h, rfl⟩
  | k + 1 => by
    obtain ⟨h1, h2⟩ := eqB_ex h v d k
    have hm := eqB_mt h1 (nx v (k % 16) (k / 16)) d
    by_cases c : (oV v (k % 16) (k / 16)).isSome = true
    · have a1 : exS v d s (k + 1) = mtS (exS v d s k) (nx v (k % 16) (k / 16)) d := if_pos c
      have a2 : exS v d t (k + 1) = mtS (exS v d t k) (nx v (k % 16) (k / 16)) d := if_pos c
      refine ⟨by rw [a1, a2]; exact hm.1, ?_⟩
      show (exO v d s k && _) = (exO v d t k && _)
      rw [h2, if_pos c, if_pos c, hm.2]
    · have a1 : exS v d s (k + 1) = exS v d s k := if_neg c
      have a2 : exS v d t (k + 1) = exS v d t k := if_neg c
      refine ⟨by rw [a1, a2]; exact h1, ?_⟩
      show (exO v d s k && _) = (exO v d t k && _)
      rw [h2, if_neg c, if_neg c]
theorem eqB_rn {s t : (Nat → Nat) × (Nat → Nat) × Nat} (h : eqB s t) : ∀ k, eqB (rnS s k) (rnS t k) ∧ rnO s k = rnO t k
  | 0 => ⟨h, rfl⟩
  | k + 1 => by
    obtain ⟨h1, h2⟩ := eqB_rn h k
    by_cases c : k < (rnS s k).2.2
    · have c' : k < (rnS t k).2.2 := h1.1 ▸ c
      obtain ⟨e1, e2⟩ := h1.2 k c
      have hx := eqB_ex h1 ((rnS s k).1 k) ((rnS s k).2.1 k + 1) (16 * dc ((rnS s k).1 k))
      have a1 : rnS s (k + 1) = exS ((rnS s k).1 k) ((rnS s k).2.1 k + 1) (rnS s k) (16 * dc ((rnS s k).1 k)) := if_pos c
      have a2 : rnS t (k + 1) = exS ((rnS s k).1 k) ((rnS s k).2.1 k + 1) (rnS t k) (16 * dc ((rnS s k).1 k)) := by rw [e1, e2]; exact if_pos c'
      have b1 : rnO s (k + 1) = (rnO s k && exO ((rnS s k).1 k) ((rnS s k).2.1 k + 1) (rnS s k) (16 * dc ((rnS s k).1 k))) := congrArg (rnO s k && ·) (if_pos c)
      have b2 : rnO t (k + 1) = (rnO t k && exO ((rnS s k).1 k) ((rnS s k).2.1 k + 1) (rnS t k) (16 * dc ((rnS s k).1 k))) := by rw [e1, e2]; exact congrArg (rnO t k && ·) (if_pos c')
      rw [a1, a2, b1, b2]
      exact ⟨hx.1, by rw [h2, hx.2]⟩
    · have c' : ¬ k < (rnS t k).2.2 := h1.1 ▸ c
      have a1 : rnS s (k + 1) = rnS s k := if_neg c
      have a2 : rnS t (k + 1) = rnS t k := if_neg c'
      have b1 : rnO s (k + 1) = (rnO s k && true) := congrArg (rnO s k && ·) (if_neg c)
      have b2 : rnO t (k + 1) = (rnO t k && true) := congrArg (rnO t k && ·) (if_neg c')
      rw [a1, a2, b1, b2]
      exact ⟨h1, by rw [h2]⟩
theorem bsI_congr {m m' : Nat → Nat} {c : Nat} (h : ∀ i, i < c → m i = m' i) : ∀ k, k ≤ c → bsI m k = bsI m' k
  | 0, _ => rfl
  | k + 1, hk => by
    have ih := bsI_congr h k (by omega)
    rcases Nat.eq_zero_or_pos k with e | e
    · subst e; rfl
    · have := bsI_lt m' k e
      rw [bsI_step e, bsI_step e, ih, h k (by omega), h (bsI m' k) (by omega)]
/-- the search from v, by itself -/
def sr0 (v : Nat) : (Nat → Nat) × (Nat → Nat) × Nat := (up (fun _ => 0) 0 v, up (fun _ => 0) 0 0, 1)
def srO (v : Nat) : Bool := rnO (sr0 v) 60
def srC (v : Nat) : Nat := (rnS (sr0 v) 60).2.2
def srI (v : Nat) : Nat := bsI (rnS (sr0 v) 60).1 (srC v)
def srM (v : Nat) : Nat := (rnS (sr0 v) 60).1 (srI v)
def srD (v : Nat) : Nat := (rnS (sr0 v) 60).2.1 (srI v)
theorem sr_eqB (mt ds : Nat → Nat) (v : Nat) : eqB (up mt 0 v, up ds 0 0, 1) (sr0 v) := by
  refine ⟨rfl, fun i hi => ?_⟩
  change i < 1 at hi
  have e : i = 0 := by omega
  subst e
  show up mt 0 v 0 = up (fun _ => 0) 0 v 0 ∧ up ds 0 0 0 = up (fun _ => 0) 0 0 0
  rw [up_s, up_s, up_s, up_s]; exact ⟨rfl, rfl⟩
theorem sr_O (mt ds : Nat → Nat) (v : Nat) : rnO (up mt 0 v, up ds 0 0, 1) 60 = srO v := (eqB_rn (sr_eqB mt ds v) 60).2
theorem sr_all {mt ds a b : Nat → Nat} {v c : Nat} (h : (a, b, c) = rnS (up mt 0 v, up ds 0 0, 1) 60) (h0 : 0 < c) : c = srC v ∧ a (bsI a c) = srM v ∧ b (bsI a c) = srD v := by
  have q := (eqB_rn (sr_eqB mt ds v) 60).1
  rw [← h] at q
  obtain ⟨q1, q2⟩ := q
  change c = srC v at q1
  change ∀ i, i < c → a i = (rnS (sr0 v) 60).1 i ∧ b i = (rnS (sr0 v) 60).2.1 i at q2
  have hb : bsI a c = srI v := by
    unfold srI; rw [← q1]; exact bsI_congr (fun i hi => (q2 i hi).1) c (Nat.le_refl c)
  have hl := bsI_lt a c h0
  have := q2 _ hl
  refine ⟨q1, this.1.trans ?_, this.2.trans ?_⟩
  · rw [hb]; rfl
  · rw [hb]; rfl
