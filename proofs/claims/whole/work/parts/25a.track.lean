/-! the reference's search: tracking the best -/
theorem mt_0 (m ds : Nat → Nat) (v d : Nat) : mtM m 0 v = up m 0 v ∧ mtD m ds 0 v d = up ds 0 d ∧ mtC m 0 v = 1 := by
  have h := mt_new (m := m) (ds := ds) (c := 0) (v := v) (d := d) (fnd_no (fun i hi => absurd hi (by omega))) (by omega)
  exact ⟨h.1.symm, h.2.1.symm, h.2.2.symm⟩
theorem mtM_keep {m : Nat → Nat} {c v i : Nat} (hi : i < c) : mtM m c v i = m i := by
  unfold mtM
  split
  · rfl
  · exact up_n _ (by omega)
theorem ex_keep {v d : Nat} {st : (Nat → Nat) × (Nat → Nat) × Nat} : ∀ k, (∀ i, i < st.2.2 → (exS v d st k).1 i = st.1 i) ∧ st.2.2 ≤ (exS v d st k).2.2
  | 0 => ⟨fun _ _ => rfl, Nat.le_refl _⟩
  | k + 1 => by
    obtain ⟨h1, h2⟩ := ex_keep (v := v) (d := d) (st := st) k
    by_cases c : (oV v (k % 16) (k / 16)).isSome = true
    · have a1 : exS v d st (k + 1) = mtS (exS v d st k) (nx v (k % 16) (k / 16)) d := if_pos c
      rw [a1]
      exact ⟨fun i hi => (mtM_keep (Nat.lt_of_lt_of_le hi h2)).trans (h1 i hi), Nat.le_trans h2 mtC_le⟩
    · have a1 : exS v d st (k + 1) = exS v d st k := if_neg c
      rw [a1]; exact ⟨h1, h2⟩
theorem ex_keep2 {v d K c c2 : Nat} {a b a2 b2 : Nat → Nat} (h : (a2, b2, c2) = exS v d (a, b, c) K) : (∀ i, i < c → a2 i = a i) ∧ c ≤ c2 := by
  have q := ex_keep (v := v) (d := d) (st := (a, b, c)) K
  rw [← h] at q; exact q
theorem bs_next (m : Nat → Nat) (k : Nat) : bsI m (k + 1) = if dc (m k) < dc (m (bsI m k)) then k else bsI m k := by
  rcases Nat.eq_zero_or_pos k with e | e
  · subst e
    show 0 = if dc (m 0) < dc (m 0) then 0 else 0
    rw [if_neg (Nat.lt_irrefl _)]
  · exact bsI_step e
theorem bs_yes {m m2 : Nat → Nat} {c k b L : Nat} (hk : k < c) (kp : ∀ i, i < c → m2 i = m i) (hb : b = bsI m k) (hL : L = dc (m b)) (h : dc (m k) < L) : k = bsI m2 (k + 1) ∧ dc (m k) = dc (m2 k) := by
  rw [bsI_congr kp (k + 1) hk, bs_next, ← hb, ← hL, if_pos h, kp k hk]; exact ⟨rfl, rfl⟩
theorem bs_no {m m2 : Nat → Nat} {c k b L : Nat} (hk : k < c) (kp : ∀ i, i < c → m2 i = m i) (hb : b = bsI m k) (hL : L = dc (m b)) (hc : b < c) (h : ¬ dc (m k) < L) : b = bsI m2 (k + 1) ∧ L = dc (m2 b) := by
  rw [bsI_congr kp (k + 1) hk, bs_next, ← hb, ← hL, if_neg h, kp b hc]; exact ⟨rfl, hL⟩
