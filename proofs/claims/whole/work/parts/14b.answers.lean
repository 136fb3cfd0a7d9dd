/-! the answers, as both sides give them -/
def aSize (x : Int64) : Int32 := if okVb (xv x) = true then nI (dc (xv x)) else -1
def oI (v : Nat) (rl ps : Int32) : Bool := (oV v (rn rl) (rn ps)).isSome
def aIs (x : Int64) (rl ps : Int32) : Int32 := if okVb (xv x) = true then (if rok rl 16 = true then (if rok ps (dc (xv x)) = true then nI (pN (oI (xv x) rl ps = true)) else -3) else -2) else -1
def sR (v : Nat) (rl ps : Int32) : Int64 := if rok rl 16 = true then (if rok ps (dc v) = true then (if oI v rl ps = true then lN (nx v (rn rl) (rn ps)) else -4) else -3) else -2
def aRw (x : Int64) (rl ps : Int32) : Int64 := if okVb (xv x) = true then sR (xv x) rl ps else -1
def aFP (x : Int64) : Int32 := if okVb (xv x) = true then fPI (gV (xv x)) (dc (xv x)) else -1
def fR2 (v : Nat) : Int32 := if fPn (gV v) (dc v) < dc v then fRI (gV v) (fPn (gV v) (dc v)) else -9
def aFR (x : Int64) : Int32 := if okVb (xv x) = true then fR2 (xv x) else -1
def aAp (v : Nat) (rl ps : Int32) : Int32 := if rok rl 16 = true then (if rok ps (dc v) = true then (if oI v rl ps = true then nI (dc (nx v (rn rl) (rn ps))) else -4) else -3) else -2
/-- a step is taken: rule and place are good, and the rule is applicable -/
def tkB (v : Nat) (rl ps : Int32) : Bool := rok rl 16 && rok ps (dc v) && oI v rl ps
theorem ok_x {x : Int64} (h : okVb (xv x) = true) : ∃ v, v < 10 ^ 18 ∧ x = lN v ∧ okVb v = true := by
  rcases lN_split x with q | ⟨v, h0, hv, rfl⟩
  · rw [xv_neg q] at h; exact absurd h (okVb_small (Or.inl rfl))
  · rw [xv_lN hv] at h; exact ⟨v, (okVb_iff.mp h).2.1, rfl, h⟩
theorem oI_nI {v r p : Nat} (hr : r < 2 ^ 31) (hp : p < 2 ^ 31) : oI v (nI r) (nI p) = (oV v r p).isSome := by unfold oI; rw [rn_nI hr, rn_nI hp]
theorem gV_oI {v : Nat} (h : okVb v = true) {r p : Nat} (hr : r < 2 ^ 31) (hp : p < 2 ^ 31) : gV v r p ≠ 0 ↔ oI v (nI r) (nI p) = true := by
  rw [oI_nI hr hp, Ne, gV_0 h]
  cases oV v r p with
  | none => simp
  | some L => simp
theorem sR_rule {v : Nat} {rl ps : Int32} (h : ¬ rok rl 16 = true) : sR v rl ps = -2 := if_neg h
theorem sR_pos {v : Nat} {rl ps : Int32} (h : rok rl 16 = true) (h2 : ¬ rok ps (dc v) = true) : sR v rl ps = -3 := by unfold sR; rw [if_pos h, if_neg h2]
theorem sR_nI {v r p : Nat} (hr : r < 16) (hp : p < dc v) (h18 : dc v ≤ 18) : sR v (nI r) (nI p) = if oI v (nI r) (nI p) = true then lN (nx v r p) else -4 := by
  unfold sR
  rw [if_pos ((rok_nI (by omega)).mpr hr), if_pos ((rok_nI (by omega)).mpr hp), rn_nI (by omega), rn_nI (by omega)]
theorem aErr_0 {nn : Nat} {rl ps : Int32} (hn : nn ≤ 18) (h : aErr nn rl ps = 0) : (∃ r, r < 16 ∧ rl = nI r) ∧ ∃ p, p < nn ∧ ps = nI p := by
  unfold aErr at h
  by_cases c1 : rok rl 16 = true
  · rw [if_pos c1] at h
    by_cases c2 : rok ps nn = true
    · exact ⟨rok_ok c1 (by omega), rok_ok c2 (by omega)⟩
    · rw [if_neg c2] at h; exact absurd h (by decide)
  · rw [if_neg c1] at h; exact absurd h (by decide)
theorem aErr_sR {v : Nat} {rl ps : Int32} (h : aErr (dc v) rl ps ≠ 0) : (aErr (dc v) rl ps).toInt64 = sR v rl ps := by
  unfold aErr at h ⊢
  by_cases c1 : rok rl 16 = true
  · rw [if_pos c1] at h ⊢
    by_cases c2 : rok ps (dc v) = true
    · rw [if_pos c2] at h; exact absurd rfl h
    · rw [if_neg c2, sR_pos c1 c2]; decide
  · rw [if_neg c1, sR_rule c1]; decide
theorem wR_nx {v : Nat} {kd ed cd : Nat → Nat} {nn r p : Nat} (h : okVb v = true) (rd : RD v kd ed cd nn) (hg : gV v r p ≠ 0) : wR ed cd nn p (gV v r p) = nx v r p := by
  cases ho : oV v r p with
  | none => exact absurd ((gV_0 h r p).mpr ho) hg
  | some L =>
    obtain ⟨h1, h2, h3⟩ := oV_ok h ho
    have hq := (TV_v (okVb_iff.mp h)).q h1
    have h18 := (dc_lt (okVb_iff.mp h).2.1).2
    have e : gV v r p = num L := by unfold gV; rw [ho]; rfl
    rw [e]
    unfold nx
    rw [ho]
    exact wR_RD h rd (by rw [rd.1]; exact h1) h2 (by omega)
theorem aIs_err {x : Int64} {rl ps : Int32} (h : okVb (xv x) = true) (he : aErr (dc (xv x)) rl ps ≠ 0) : aErr (dc (xv x)) rl ps = aIs x rl ps := by
  unfold aIs
  rw [if_pos h]
  unfold aErr at he ⊢
  by_cases c1 : rok rl 16 = true
  · rw [if_pos c1] at he ⊢
    by_cases c2 : rok ps (dc (xv x)) = true
    · rw [if_pos c2] at he; exact absurd rfl he
    · rw [if_neg c2, if_pos c1, if_neg c2]
  · rw [if_neg c1, if_neg c1]
theorem aIs_nI {x : Int64} {r p : Nat} (h : okVb (xv x) = true) (hr : r < 16) (hp : p < dc (xv x)) (h18 : dc (xv x) ≤ 18) : aIs x (nI r) (nI p) = nI (pN (gV (xv x) r p ≠ 0)) := by
  unfold aIs
  rw [if_pos h, if_pos ((rok_nI (by omega)).mpr hr), if_pos ((rok_nI (by omega)).mpr hp), pN_iff (gV_oI h (r := r) (p := p) (by omega) (by omega))]
theorem fPI_none {g : Nat → Nat → Nat} {n : Nat} (hn : n < 2 ^ 31) : fPI g n = -9 ↔ ¬ fPn g n < n := by
  unfold fPI
  by_cases h : fPn g n < n
  · rw [if_pos h]; exact ⟨fun q => absurd q (nI_nneg (by omega) (by decide)), fun q => absurd h q⟩
  · rw [if_neg h]; exact ⟨fun _ => h, fun _ => rfl⟩
/-- the first applicable step -/
theorem fst_ok {v : Nat} (h : okVb v = true) (hf : fPn (gV v) (dc v) < dc v) : fRn (gV v) (fPn (gV v) (dc v)) < 16 ∧ gV v (fRn (gV v) (fPn (gV v) (dc v))) (fPn (gV v) (dc v)) ≠ 0 := by
  have h1 := of_decide_eq_true (fa_first_yes _ _ hf)
  exact ⟨h1, of_decide_eq_true (fa_first_yes (fun r => decide (gV v r (fPn (gV v) (dc v)) ≠ 0)) 16 h1)⟩
def aUn (c : Nat) (x : Int32) : Int32 := if rok x (c + 1) = true then nI (c - rn x) else -5
theorem oI_some {v r p : Nat} (h : oI v (nI r) (nI p) = true) (hr : r < 16) (hp : p < dc v) (h18 : dc v ≤ 18) : oV v r p ≠ none := by
  rw [oI_nI (by omega) (by omega)] at h
  intro q
  rw [q] at h
  cases h
theorem sR_ge {v : Nat} {rl ps : Int32} (h : ¬ sR v rl ps < lN 0) : ∃ r, r < 16 ∧ rl = nI r ∧ ∃ p, p < dc v ∧ ps = nI p ∧ oI v (nI r) (nI p) = true := by
  unfold sR at h
  by_cases c1 : rok rl 16 = true
  · rw [if_pos c1] at h
    by_cases c2 : rok ps (dc v) = true
    · rw [if_pos c2] at h
      by_cases c3 : oI v rl ps = true
      · have hd := (dc_in v).2
        obtain ⟨r, hr, rfl⟩ := rok_ok c1 (by omega)
        obtain ⟨p, hp, rfl⟩ := rok_ok c2 (by omega)
        exact ⟨r, hr, rfl, p, hp, rfl, c3⟩
      · rw [if_neg c3] at h; exact absurd (by decide) h
    · rw [if_neg c2] at h; exact absurd (by decide) h
  · rw [if_neg c1] at h; exact absurd (by decide) h
theorem tkB_nI {v r p : Nat} (hr : r < 16) (hp : p < dc v) (h18 : dc v ≤ 18) (h : oI v (nI r) (nI p) = true) : tkB v (nI r) (nI p) = true := by
  unfold tkB
  rw [(rok_nI (by omega)).mpr hr, (rok_nI (by omega)).mpr hp, h]; rfl
theorem sR_lt {v : Nat} {rl ps : Int32} (h : sR v rl ps < lN 0) (hv : okVb v = true := by assumption) : (sR v rl ps).toInt32 = aAp v rl ps ∧ ¬ tkB v rl ps = true := by
  unfold sR at h ⊢
  unfold aAp tkB
  by_cases c1 : rok rl 16 = true
  · rw [if_pos c1] at h ⊢
    by_cases c2 : rok ps (dc v) = true
    · rw [if_pos c2] at h ⊢
      by_cases c3 : oI v rl ps = true
      · exfalso
        rw [if_pos c3] at h
        have hd := (dc_in v).2
        obtain ⟨r, hr, rfl⟩ := rok_ok c1 (by omega)
        obtain ⟨p, hp, rfl⟩ := rok_ok c2 (by omega)
        have h18 := (dc_lt (okVb_iff.mp hv).2.1).2
        rw [rn_nI (by omega), rn_nI (by omega)] at h
        have hx := (okVb_iff.mp (nx_ok hv (oI_some c3 hr hp h18)).1).2.1
        have := (pk_lLT (Nat.lt_trans hx pow18) (by decide)).mp h
        omega
      · rw [if_neg c3, if_pos c1, if_pos c2, if_neg c3]; exact ⟨by decide, by simp [c3]⟩
    · rw [if_neg c2, if_pos c1, if_neg c2]; exact ⟨by decide, by simp [c2]⟩
  · rw [if_neg c1, if_neg c1]; exact ⟨by decide, by simp [c1]⟩
