/-! the search: expanding one expression -/
def mtS (st : (Nat → Nat) × (Nat → Nat) × Nat) (v d : Nat) : (Nat → Nat) × (Nat → Nat) × Nat := (mtM st.1 st.2.2 v, mtD st.1 st.2.1 st.2.2 v d, mtC st.1 st.2.2 v)
def exS (v d : Nat) (st : (Nat → Nat) × (Nat → Nat) × Nat) : Nat → (Nat → Nat) × (Nat → Nat) × Nat
  | 0 => st
  | k + 1 => if (oV v (k % 16) (k / 16)).isSome = true then mtS (exS v d st k) (nx v (k % 16) (k / 16)) d else exS v d st k
def exO (v d : Nat) (st : (Nat → Nat) × (Nat → Nat) × Nat) : Nat → Bool
  | 0 => true
  | k + 1 => exO v d st k && (if (oV v (k % 16) (k / 16)).isSome = true then mtO (exS v d st k).1 (exS v d st k).2.2 (nx v (k % 16) (k / 16)) else true)
theorem exO_mono {v d : Nat} {st : (Nat → Nat) × (Nat → Nat) × Nat} {j : Nat} (h : exO v d st j = false) : ∀ k, exO v d st (j + k) = false
  | 0 => h
  | k + 1 => by
    show (exO v d st (j + k) && _) = false
    rw [exO_mono h k]; rfl
/-- what holds of the list -/
def okM (mt : Nat → Nat) (cn : Nat) : Prop := 0 < cn ∧ cn ≤ 60 ∧ ∀ i, i < cn → okVb (mt i) = true
theorem okM.lt {mt : Nat → Nat} {cn : Nat} (h : okM mt cn) : ∀ i, i < cn → mt i < 2 ^ 63 := fun i hi => Nat.lt_trans (okVb_iff.mp (h.2.2 i hi)).2.1 pow18
theorem okM_mt {mt : Nat → Nat} {cn v : Nat} (h : okM mt cn) (hv : okVb v = true) : okM (mtM mt cn v) (mtC mt cn v) := by
  unfold mtM mtC
  by_cases c : fnd mt cn v = true ∨ 60 ≤ cn
  · rw [if_pos c, if_pos c]; exact h
  · rw [if_neg c, if_neg c]
    have hc : cn < 60 := Nat.lt_of_not_le (fun q => c (Or.inr q))
    refine ⟨by omega, by omega, fun i hi => ?_⟩
    by_cases e : i = cn
    · subst e; rw [up_s]; exact hv
    · rw [up_n _ e]; exact h.2.2 i (by omega)
theorem ex_yes {v d k : Nat} {st : (Nat → Nat) × (Nat → Nat) × Nat} {a b a2 b2 : Nat → Nat} {c c2 w : Nat} (h : (a, b, c) = exS v d st k) (hs : (oV v (k % 16) (k / 16)).isSome = true) (hw : nx v (k % 16) (k / 16) = w) (h1 : a2 = mtM a c w ∧ b2 = mtD a b c w d ∧ c2 = mtC a c w) : (a2, b2, c2) = exS v d st (k + 1) := by
  show _ = if _ then _ else _
  rw [if_pos hs, ← h, hw, h1.1, h1.2.1, h1.2.2]; rfl
theorem ex_no {v d k : Nat} {st : (Nat → Nat) × (Nat → Nat) × Nat} {a b : Nat → Nat} {c : Nat} (h : (a, b, c) = exS v d st k) (hs : ¬ (oV v (k % 16) (k / 16)).isSome = true) : (a, b, c) = exS v d st (k + 1) := by
  show _ = if _ then _ else _
  rw [if_neg hs]; exact h
theorem exO_yes {v d k : Nat} {st : (Nat → Nat) × (Nat → Nat) × Nat} {a b : Nat → Nat} {c w : Nat} (h : (a, b, c) = exS v d st k) (ho : exO v d st k = true) (hs : (oV v (k % 16) (k / 16)).isSome = true) (hw : nx v (k % 16) (k / 16) = w) : exO v d st (k + 1) = mtO a c w := by
  show (exO v d st k && _) = _
  rw [ho, if_pos hs, ← h, hw]; rfl
theorem exO_no {v d k : Nat} {st : (Nat → Nat) × (Nat → Nat) × Nat} (ho : exO v d st k = true) (hs : ¬ (oV v (k % 16) (k / 16)).isSome = true) : exO v d st (k + 1) = true := by
  show (exO v d st k && _) = _
  rw [ho, if_neg hs]; rfl
theorem nx_ix {v r p : Nat} (hr : r < 16) : nx v ((16 * p + r) % 16) ((16 * p + r) / 16) = nx v r p := by
  rw [show (16 * p + r) % 16 = r from by omega, show (16 * p + r) / 16 = p from by omega]
