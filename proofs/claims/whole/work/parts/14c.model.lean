/-! the reference's digits of v -/
def MD (v n : Nat) (d : Nat → Nat) : Prop := n = dc v ∧ ∀ j, j < n → d j = dg v j
theorem TV_M {v n : Nat} {d : Nat → Nat} (h : okVb v = true) (m : MD v n d) : TV d (en v) (dc v) := by
  obtain ⟨rfl, hj⟩ := m
  exact TV_cong (TV_v (okVb_iff.mp h)) hj (fun _ _ => rfl)
theorem sb_M {v n : Nat} {d : Nat → Nat} (h : okVb v = true) (m : MD v n d) {j : Nat} (hj : j < dc v) : sb d (en v) j = sb (dg v) (en v) j := by
  obtain ⟨rfl, hd⟩ := m
  have hq := (TV_v (okVb_iff.mp h)).q hj
  exact sub_cong (fun q h1 h2 => hd q (by omega))
theorem opt_num {a b : Option (List Nat)} (ha : ∀ L, a = some L → VL L) (hb : ∀ L, b = some L → VL L) (h : cdO a = cdO b) : a = b := by
  cases a with
  | none =>
    cases b with
    | none => rfl
    | some L => have := sz_pos (num_sz (hb L rfl).d8 (hb L rfl).ne); have h : 0 = num L := h; omega
  | some K =>
    cases b with
    | none => have := sz_pos (num_sz (ha K rfl).d8 (ha K rfl).ne); have h : num K = 0 := h; omega
    | some L => rw [num_inj (ha K rfl).d8 (hb L rfl).d8 h]
/-- what is behind the digits of v doesn't matter -/
theorem rR_M {v n : Nat} {d : Nat → Nat} (h : okVb v = true) (m : MD v n d) {r p : Nat} (hr : r < 16) (hp : p < dc v) : rR d (en v) r p = oV v r p := by
  have tv := TV_M h m
  have tv0 := TV_v (okVb_iff.mp h)
  have e : oV v r p = rR (dg v) (en v) r p := if_pos ⟨hr, hp⟩
  rw [e]
  refine opt_num (fun L hL => (rR_ok tv hp hL).1) (fun L hL => (rR_ok tv0 hp hL).1) ?_
  have t1 : TN d (en v) (fun j => num (sb d (en v) j)) (dc v) := ⟨tv, fun _ _ => rfl⟩
  have t2 := TN_v h
  rw [← mR_rR t1 hr hp, ← mR_rR t2 hr hp]
  obtain ⟨rfl, hd⟩ := id m
  have e1 : kA d (dc v) = kA (dg v) (dc v) := by
    funext j; unfold kA; split
    · rename_i hj; exact hd j hj
    · rfl
  have e2 : kA (fun j => num (sb d (en v) j)) (dc v) = kA (cdv v) (dc v) := by
    funext j; unfold kA; split
    · rename_i hj; show num (sb d (en v) j) = _; rw [sb_M h m hj, t2.2 j hj]
    · rfl
  have e4 : sA d (fun j => num (sb d (en v) j)) (dc v) = sA (dg v) (cdv v) (dc v) := by
    funext j; unfold sA
    by_cases hj : j + 1 < dc v
    · dsimp only; rw [hd j (by omega), sb_M h m hj, t2.2 _ hj]
    · rw [if_neg (fun q => hj q.1), if_neg (fun q => hj q.1)]
  rw [e1, e2, e4]
theorem nx_M {v n p : Nat} {d : Nat → Nat} (h : okVb v = true) (m : MD v n d) (hp : p < dc v) (L : List Nat) : sub d 0 p ++ L ++ sub d (en v p) (dc v) = wL v p L := by
  obtain ⟨rfl, hd⟩ := m
  have hq := (TV_v (okVb_iff.mp h)).q hp
  unfold wL
  rw [sub_cong (fun j _ h2 => hd j (by omega)), sub_cong (d := d) (a := en v p) (fun j _ h2 => hd j h2)]
theorem rok_le {x : Int32} {m : Nat} (h0 : 0 < m) (hm : m ≤ 1000) : (nI 0 ≤ x ∧ x ≤ nI (m - 1)) ↔ rok x m = true := by
  unfold rok
  rw [decide_eq_true_iff, fa_le, fa_le, nI_toInt (by omega), nI_toInt (by omega)]
  omega
theorem aIs_cases (x : Int64) (rl px : Int32) : (aIs x rl px = -1 ∧ aRw x rl px = -1) ∨ (aIs x rl px = -2 ∧ aRw x rl px = -2) ∨ (aIs x rl px = -3 ∧ aRw x rl px = -3) ∨ (okVb (xv x) = true ∧ ∃ r, r < 16 ∧ rl = nI r ∧ ∃ p, p < dc (xv x) ∧ px = nI p) := by
  unfold aIs aRw sR
  by_cases c0 : okVb (xv x) = true
  · rw [if_pos c0, if_pos c0]
    by_cases c1 : rok rl 16 = true
    · rw [if_pos c1, if_pos c1]
      by_cases c2 : rok px (dc (xv x)) = true
      · have hd := (dc_in (xv x)).2
        obtain ⟨r, hr, rfl⟩ := rok_ok c1 (by omega)
        obtain ⟨p, hp, rfl⟩ := rok_ok c2 (by omega)
        exact Or.inr (Or.inr (Or.inr ⟨c0, r, hr, rfl, p, hp, rfl⟩))
      · rw [if_neg c2, if_neg c2]; exact Or.inr (Or.inr (Or.inl ⟨rfl, rfl⟩))
    · rw [if_neg c1, if_neg c1]; exact Or.inr (Or.inl ⟨rfl, rfl⟩)
  · rw [if_neg c0, if_neg c0]; exact Or.inl ⟨rfl, rfl⟩
theorem aIs_v {x : Int64} {r p : Nat} (h : okVb (xv x) = true) (hr : r < 16) (hp : p < dc (xv x)) : aIs x (nI r) (nI p) = nI (pN (oI (xv x) (nI r) (nI p) = true)) := by
  have h18 := (dc_lt (okVb_iff.mp h).2.1).2
  unfold aIs
  rw [if_pos h, if_pos ((rok_nI (by omega)).mpr hr), if_pos ((rok_nI (by omega)).mpr hp)]
theorem aRw_v {x : Int64} {r p : Nat} (h : okVb (xv x) = true) (hr : r < 16) (hp : p < dc (xv x)) : aRw x (nI r) (nI p) = if oI (xv x) (nI r) (nI p) = true then lN (nx (xv x) r p) else -4 := by
  unfold aRw
  rw [if_pos h, sR_nI hr hp (dc_lt (okVb_iff.mp h).2.1).2]
theorem oV_get {v r p : Nat} (h : okVb v = true) (hr : r < 16) (hp : p < dc v) (ho : oI v (nI r) (nI p) = true) : D8 ((oV v r p).getD []) ∧ ((oV v r p).getD []).length ≤ 36 := by
  have h18 := (dc_lt (okVb_iff.mp h).2.1).2
  cases hq : oV v r p with
  | none => exact absurd hq (oI_some ho hr hp h18)
  | some L =>
    obtain ⟨h1, h2, h3⟩ := oV_ok h hq
    have hqq := (TV_v (okVb_iff.mp h)).q h1
    exact ⟨h2.d8, by show L.length ≤ 36; omega⟩
