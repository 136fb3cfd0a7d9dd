/-! simplifying: the first step again and again -/
def f1 (v : Nat) : Nat := fPn (gV v) (dc v)
def f2 (v : Nat) : Nat := fRn (gV v) (f1 v)
def hs (v : Nat) : Prop := f1 v < dc v
def siC : Nat → Nat → Nat
  | 0, v => v
  | k + 1, v => nx (siC k v) (f2 (siC k v)) (f1 (siC k v))
def siB (f : Nat → Nat) (b : Nat → Nat) (c v : Nat) : Nat → Nat → Nat
  | 0 => b
  | k + 1 => up (siB f b c v k) (c + k) (f (siC k v))
def siN (v : Nat) : Nat := fa_first (fun k => decide (¬ f1 (siC k v) < dc (siC k v))) 18
theorem hs_ok {v : Nat} (h : okVb v = true) (hf : f1 v < dc v) : f2 v < 16 ∧ oI v (nI (f2 v)) (nI (f1 v)) = true ∧ oV v (f2 v) (f1 v) ≠ none := by
  have h18 := (dc_lt (okVb_iff.mp h).2.1).2
  obtain ⟨h1, h2⟩ := fst_ok h hf
  have h1 : f2 v < 16 := h1
  have h2 : gV v (f2 v) (f1 v) ≠ 0 := h2
  exact ⟨h1, (gV_oI h (by omega) (by omega)).mp h2, fun q => h2 ((gV_0 h _ _).mpr q)⟩
theorem siC_ok {v : Nat} (h : okVb v = true) : ∀ k, (∀ j, j < k → f1 (siC j v) < dc (siC j v)) → okVb (siC k v) = true ∧ dc (siC k v) + k ≤ dc v
  | 0, _ => ⟨h, Nat.le_refl _⟩
  | k + 1, hk => by
    obtain ⟨h1, h2⟩ := siC_ok h k (fun j hj => hk j (by omega))
    have h3 := nx_ok h1 (hs_ok h1 (hk k (by omega))).2.2
    exact ⟨h3.1, by show dc (nx (siC k v) _ _) + (k + 1) ≤ dc v; omega⟩
theorem siN_eq {v k : Nat} (h : okVb v = true) (hk : ∀ j, j < k → f1 (siC j v) < dc (siC j v)) (hn : ¬ f1 (siC k v) < dc (siC k v)) : siN v = k := by
  have h1 := siC_ok h k hk
  have h18 := (dc_lt (okVb_iff.mp h).2.1).2
  have h0 := (dc_in (siC k v)).1
  exact ff_eq (by omega) (decide_eq_true hn) (fun j hj => decide_eq_false (fun q => q (hk j hj)))
theorem si_end {v : Nat} (h : okVb v = true) (hd : dc v ≤ 1) : ¬ f1 v < dc v := fun q => by
  have h3 := nx_ok h (hs_ok h q).2.2
  have := (dc_in (nx v (f2 v) (f1 v))).1
  omega
theorem fPI_yes {v : Nat} (hf : f1 v < dc v) : fPI (gV v) (dc v) = nI (f1 v) := if_pos hf
theorem fPI_no {v : Nat} (hf : ¬ f1 v < dc v) : fPI (gV v) (dc v) = -9 := if_neg hf
theorem fRI_yes {v : Nat} (h : f2 v < 16) : fRI (gV v) (f1 v) = nI (f2 v) := if_pos h
