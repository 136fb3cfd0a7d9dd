/-! the first applicable step, as the reference looks for it -/
def fsn (v : Nat) : Nat := fa_first (fun k => (oV v (k % 16) (k / 16)).isSome) (16 * dc v)
def fS (v : Nat) : Int32 := if fsn v < 16 * dc v then nI (fsn v) else -9
theorem gV_some {v : Nat} (h : okVb v = true) (r p : Nat) : gV v r p ≠ 0 ↔ (oV v r p).isSome = true := by
  rw [Ne, gV_0 h]
  cases oV v r p with
  | none => simp
  | some L => simp
theorem fRn_no {g : Nat → Nat → Nat} {p r : Nat} (h : r < fRn g p) : g r p = 0 := by
  have := fa_first_no _ 16 r h
  exact Decidable.of_not_not (of_decide_eq_false this)
theorem fPn_no {g : Nat → Nat → Nat} {n p : Nat} (h : p < fPn g n) : ¬ fRn g p < 16 := of_decide_eq_false (fa_first_no _ n p h)
theorem fsn_yes {v : Nat} (h : okVb v = true) (hf : fPn (gV v) (dc v) < dc v) : fsn v = 16 * fPn (gV v) (dc v) + fRn (gV v) (fPn (gV v) (dc v)) := by
  obtain ⟨h1, h2⟩ := fst_ok h hf
  refine ff_eq (by omega) ?_ (fun j hj => ?_)
  · show (oV v ((16 * fPn (gV v) (dc v) + fRn (gV v) (fPn (gV v) (dc v))) % 16) ((16 * fPn (gV v) (dc v) + fRn (gV v) (fPn (gV v) (dc v))) / 16)).isSome = true
    rw [show (16 * fPn (gV v) (dc v) + fRn (gV v) (fPn (gV v) (dc v))) % 16 = fRn (gV v) (fPn (gV v) (dc v)) from by omega, show (16 * fPn (gV v) (dc v) + fRn (gV v) (fPn (gV v) (dc v))) / 16 = fPn (gV v) (dc v) from by omega]
    exact (gV_some h _ _).mp h2
  · show (oV v (j % 16) (j / 16)).isSome = false
    have hz : gV v (j % 16) (j / 16) = 0 := by
      rcases Nat.lt_or_ge (j / 16) (fPn (gV v) (dc v)) with c | c
      · have hn := fPn_no c
        have hl := fRn_le (gV v) (j / 16)
        exact fRn_no (by omega)
      · have e : j / 16 = fPn (gV v) (dc v) := by omega
        rw [e]
        exact fRn_no (by omega)
    cases hq : (oV v (j % 16) (j / 16)).isSome with
    | false => rfl
    | true => exact absurd hz ((gV_some h _ _).mpr hq)
theorem fsn_no {v : Nat} (h : okVb v = true) (hf : ¬ fPn (gV v) (dc v) < dc v) : fsn v = 16 * dc v := by
  refine ff_none (fun j hj => ?_)
  have hle := fa_first_le (fun p => decide (fRn (gV v) p < 16)) (dc v)
  have hfe : fPn (gV v) (dc v) = dc v := by
    have : fPn (gV v) (dc v) ≤ dc v := hle
    omega
  have hn : ¬ fRn (gV v) (j / 16) < 16 := fPn_no (n := dc v) (by rw [hfe]; omega)
  have hl := fRn_le (gV v) (j / 16)
  have hz : gV v (j % 16) (j / 16) = 0 := fRn_no (by omega)
  cases hq : (oV v (j % 16) (j / 16)).isSome with
  | false => rfl
  | true => exact absurd hz ((gV_some h _ _).mpr hq)
theorem fS_none {v : Nat} (h : okVb v = true) : fS v = -9 ↔ ¬ fPn (gV v) (dc v) < dc v := by
  have h18 := (dc_lt (okVb_iff.mp h).2.1).2
  unfold fS
  by_cases hf : fPn (gV v) (dc v) < dc v
  · obtain ⟨h1, h2⟩ := fst_ok h hf
    rw [fsn_yes h hf, if_pos (by omega)]
    exact ⟨fun q => absurd q (nI_nneg (by omega) (by decide)), fun q => absurd hf q⟩
  · rw [fsn_no h hf, if_neg (Nat.lt_irrefl _)]
    exact ⟨fun _ => hf, fun _ => rfl⟩
theorem rok_le1 {x : Int32} {m : Nat} (hm : m ≤ 1000) : (nI 0 ≤ x ∧ x ≤ nI m - nI 1) ↔ rok x m = true := by
  rcases Nat.eq_zero_or_pos m with q | q
  · subst q
    have e : nI 0 - nI 1 = -1 := by decide
    rw [e]
    unfold rok
    rw [decide_eq_true_iff, fa_le, fa_le, nI_toInt (by omega), show (-1 : Int32).toInt = -1 from by decide]
    omega
  · rw [pk_sub (by omega)]
    exact rok_le q hm
/-- the number of applicable pairs -/
def apn (v : Nat) : Nat := fa_cnt (fun k => (oV v (k % 16) (k / 16)).isSome) (16 * dc v)
theorem aFP_yes {x : Int64} (h : okVb (xv x) = true) (hf : fPn (gV (xv x)) (dc (xv x)) < dc (xv x)) : nI (fsn (xv x) / 16) = aFP x := by
  have h1 := (fst_ok h hf).1
  have e : fsn (xv x) / 16 = fPn (gV (xv x)) (dc (xv x)) := by rw [fsn_yes h hf]; omega
  have e2 : aFP x = nI (fPn (gV (xv x)) (dc (xv x))) := (if_pos h).trans (if_pos hf)
  rw [e2, e]
theorem aFR_yes {x : Int64} (h : okVb (xv x) = true) (hf : fPn (gV (xv x)) (dc (xv x)) < dc (xv x)) : nI (fsn (xv x) % 16) = aFR x := by
  have h1 := (fst_ok h hf).1
  have e : fsn (xv x) % 16 = fRn (gV (xv x)) (fPn (gV (xv x)) (dc (xv x))) := by rw [fsn_yes h hf]; omega
  have e2 : aFR x = nI (fRn (gV (xv x)) (fPn (gV (xv x)) (dc (xv x)))) := (if_pos h).trans ((if_pos hf).trans (if_pos h1))
  rw [e2, e]
theorem aFP_no {x : Int64} (h : okVb (xv x) = true) (hf : ¬ fPn (gV (xv x)) (dc (xv x)) < dc (xv x)) : (-9 : Int32) = aFP x := ((if_pos h).trans (if_neg hf)).symm
theorem aFR_no {x : Int64} (h : okVb (xv x) = true) (hf : ¬ fPn (gV (xv x)) (dc (xv x)) < dc (xv x)) : (-9 : Int32) = aFR x := ((if_pos h).trans (if_neg hf)).symm
theorem fS_yes {v : Nat} (h : okVb v = true) (hf : fPn (gV v) (dc v) < dc v) : fS v = nI (fsn v) := by
  have h1 := (fst_ok h hf).1
  exact if_pos (by rw [fsn_yes h hf]; omega)
