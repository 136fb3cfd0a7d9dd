/-! steps of a code: what a rule makes of it -/
theorem num_sub {v : Nat} {a : Nat} : ∀ {b : Nat}, a ≤ b → b ≤ dc v → num (sub (dg v) a b) = v % 10 ^ (dc v - a) / 10 ^ (dc v - b) := by
  intro b
  induction b with
  | zero =>
    intro h1 h2
    have e : a = 0 := by omega
    subst e
    rw [sub_nil _ (Nat.le_refl _), num_nil, Nat.div_eq_of_lt (Nat.mod_lt _ (Nat.pow_pos (by decide)))]
  | succ b ih =>
    intro h1 h2
    rcases Nat.lt_or_ge b a with c | c
    · have e : a = b + 1 := by omega
      subst e
      rw [sub_nil _ (Nat.le_refl _), num_nil, Nat.div_eq_of_lt (Nat.mod_lt _ (Nat.pow_pos (by decide)))]
    · rw [sub_snoc _ c, num_snoc, ih c (by omega)]
      unfold dg
      rw [show dc v - 1 - b = dc v - (b + 1) from by omega]
      generalize hm : dc v - (b + 1) = m
      rw [show dc v - b = m + 1 from by omega, Nat.pow_succ, ← Nat.div_div_eq_div_mul]
      have e2 : v / 10 ^ m % 10 = v % 10 ^ (dc v - a) / 10 ^ m % 10 := by
        obtain ⟨t, ht⟩ : ∃ t, dc v - a = m + (t + 1) := ⟨dc v - a - m - 1, by omega⟩
        rw [ht, Nat.pow_add, Nat.mod_mul_right_div_self, Nat.mod_mod_of_dvd]
        exact ⟨10 ^ t, by rw [Nat.pow_succ, Nat.mul_comm]⟩
      rw [e2]
      omega
theorem TN_v {v : Nat} (h : okVb v = true) : TN (dg v) (en v) (cdv v) (dc v) := by
  have tv := TV_v (okVb_iff.mp h)
  refine ⟨tv, fun j hj => ?_⟩
  have hq := tv.q hj
  unfold sb cdv
  rw [num_sub (by omega) hq.2.2.2]
theorem sb_len (d E : Nat → Nat) (a : Nat) : (sb d E a).length = E a - a := sub_len d a (E a)
/-- what is written is an expression, and smaller -/
theorem rR_ok {d E : Nat → Nat} {n rule p : Nat} {L : List Nat} (tv : TV d E n) (hp : p < n) (h : rR d E rule p = some L) : VL L ∧ L.length < E p - p := by
  have V : ∀ {a}, a < n → VL (sb d E a) := fun ha => tv.VL ha
  have hqp := tv.q hp
  unfold rR at h
  by_cases c1 : d p < 6
  · rw [if_pos c1] at h; cases h
  · rw [if_neg c1] at h
    by_cases c8 : d p = 8
    · rw [if_pos c8] at h
      have o := tv.one hp c8
      have hqo := tv.q o.1
      have T : ∀ {x}, d (p + 1) = x → (x = 6 ∨ x = 7) → p + 1 + 1 < n ∧ E (p + 1 + 1) < n ∧ p + 1 + 1 < E (p + 1 + 1) ∧ E (p + 1) = E (E (p + 1 + 1)) ∧ E (p + 1 + 1) < E (p + 1) ∧ E (p + 1) ≤ n := fun hx h67 => tv.two o.1 (by omega)
      unfold rS at h
      split at h
      · split at h
        · cases h; exact ⟨VL_leaf (by decide) (by decide), by simp; omega⟩
        · cases h
      · split at h
        · cases h; exact ⟨V o.1, by rw [sb_len]; omega⟩
        · cases h
      · split at h
        · rename_i hx
          have t := T hx (by omega)
          split at h
          · cases h; exact ⟨VL_star (V t.2.1), by rw [List.length_cons, sb_len]; omega⟩
          · split at h
            · cases h; exact ⟨VL_star (V t.1), by rw [List.length_cons, sb_len]; omega⟩
            · cases h
        · cases h
      · split at h
        · rename_i hx
          have t := T hx (by omega)
          split at h
          · rename_i hy
            have u := tv.one t.1 hy
            cases h; exact ⟨VL_star (VL_two (Or.inl rfl) (V u.1) (V t.2.1)), by rw [List.length_cons, List.length_cons, List.length_append, sb_len, sb_len]; omega⟩
          · split at h
            · rename_i hy
              have u := tv.one t.2.1 hy
              cases h; exact ⟨VL_star (VL_two (Or.inl rfl) (V t.1) (V u.1)), by rw [List.length_cons, List.length_cons, List.length_append, sb_len, sb_len]; omega⟩
            · cases h
        · cases h
      · split at h
        · rename_i hx
          have t := T hx.1.1 (by omega)
          have u := tv.one t.1 hx.1.2
          have w := tv.one t.2.1 hx.2
          cases h; exact ⟨VL_star (VL_two (Or.inl rfl) (V u.1) (V w.1)), by rw [List.length_cons, List.length_cons, List.length_append, sb_len, sb_len]; omega⟩
        · cases h
      · cases h
    · rw [if_neg c8] at h
      have t := tv.two hp (by omega)
      have hq1 := tv.q t.1
      have hq2 := tv.q t.2.1
      by_cases c6 : d p = 6
      · rw [if_pos c6] at h
        unfold rU at h
        split at h
        · split at h
          · cases h; exact ⟨V t.2.1, by rw [sb_len]; omega⟩
          · split at h
            · cases h; exact ⟨V t.1, by rw [sb_len]; omega⟩
            · cases h
        · split at h
          · cases h; exact ⟨V t.1, by rw [sb_len]; omega⟩
          · cases h
        · split at h
          · cases h; exact ⟨V t.2.1, by rw [sb_len]; omega⟩
          · split at h
            · cases h; exact ⟨V t.1, by rw [sb_len]; omega⟩
            · cases h
        · split at h
          · cases h; exact ⟨V t.2.1, by rw [sb_len]; omega⟩
          · split at h
            · cases h; exact ⟨V t.1, by rw [sb_len]; omega⟩
            · cases h
        · split at h
          · rename_i hx
            have u := tv.two t.1 (Or.inr hx.1.1)
            have w := tv.two t.2.1 (Or.inr hx.1.2)
            have hu := tv.q u.1
            have hw := tv.q w.1
            have e := (smD_iff.mp hx.2).1
            cases h; exact ⟨VL_two (Or.inr rfl) (V u.1) (VL_two (Or.inl rfl) (V u.2.1) (V w.2.1)), by rw [List.length_cons, List.length_append, List.length_cons, List.length_append, sb_len, sb_len, sb_len]; omega⟩
          · cases h
        · split at h
          · rename_i hx
            have u := tv.two t.1 (Or.inr hx.1.1)
            have w := tv.two t.2.1 (Or.inr hx.1.2)
            have hu := tv.q u.1
            have hw := tv.q w.1
            have e := (smD_iff.mp hx.2).1
            cases h; exact ⟨VL_two (Or.inr rfl) (VL_two (Or.inl rfl) (V u.1) (V w.1)) (V u.2.1), by rw [List.length_cons, List.length_append, List.length_cons, List.length_append, sb_len, sb_len, sb_len]; omega⟩
          · cases h
        · unfold rEP at h
          have P1 : ∀ {a f}, a < n → isP d E a f = true → plO E a f < n ∧ E (plO E a f) - plO E a f + 2 < E a - a := by
            intro a f ha hi
            have h7 := isP_7 hi
            have u := tv.two ha (Or.inr h7)
            have hu := tv.q u.1
            unfold plO
            have hv := tv.q u.2.1
            cases f
            · have e : isP d E a false = true → _ := fun q => q
              refine ⟨u.1, ?_⟩
              show E (a + 1) - (a + 1) + 2 < E a - a
              unfold isP at hi
              rw [if_pos h7] at hi
              simp at hi
              have s := tv.one u.2.1 hi.1
              omega
            · refine ⟨u.2.1, ?_⟩
              show E (E (a + 1)) - E (a + 1) + 2 < E a - a
              unfold isP at hi
              rw [if_pos h7] at hi
              simp at hi
              have s := tv.one u.1 hi.1
              omega
          split at h
          · rename_i hx
            have q := P1 t.2.1 hx.2
            cases h; exact ⟨VL_star (V q.1), by rw [List.length_cons, sb_len]; omega⟩
          · split at h
            · rename_i hx
              have q := P1 t.2.1 hx.2
              cases h; exact ⟨VL_star (V q.1), by rw [List.length_cons, sb_len]; omega⟩
            · split at h
              · rename_i hx
                have q := P1 t.1 hx.2
                cases h; exact ⟨VL_star (V q.1), by rw [List.length_cons, sb_len]; omega⟩
              · split at h
                · rename_i hx
                  have q := P1 t.1 hx.2
                  cases h; exact ⟨VL_star (V q.1), by rw [List.length_cons, sb_len]; omega⟩
                · cases h
        · unfold rAb at h
          split at h
          · cases h
          · rename_i hx
            have w := tv.two t.2.1 (by omega)
            have hw := tv.q w.1
            split at h
            · cases h; exact ⟨V t.2.1, by rw [sb_len]; omega⟩
            · split at h
              · rename_i hy
                have e := (smD_iff.mp hy).1
                cases h; exact ⟨VL_two (Or.inl rfl) (V t.1) (V w.1), by rw [List.length_cons, List.length_append, sb_len, sb_len]; omega⟩
              · cases h
        · cases h
      · rw [if_neg c6] at h
        unfold rCt at h
        split at h
        · split at h
          · cases h; exact ⟨VL_leaf (by decide) (by decide), by simp; omega⟩
          · cases h
        · split at h
          · cases h; exact ⟨V t.2.1, by rw [sb_len]; omega⟩
          · split at h
            · cases h; exact ⟨V t.1, by rw [sb_len]; omega⟩
            · cases h
        · split at h
          · cases h; exact ⟨V t.1, by rw [sb_len]; omega⟩
          · cases h
        · cases h
/-- what rule r makes of the node at p of v: its digits; the code of the whole behind the step -/
def oV (v r p : Nat) : Option (List Nat) := if r < 16 ∧ p < dc v then rR (dg v) (en v) r p else none
def gV (v r p : Nat) : Nat := cdO (oV v r p)
def wL (v p : Nat) (L : List Nat) : List Nat := sub (dg v) 0 p ++ L ++ sub (dg v) (en v p) (dc v)
def nx (v r p : Nat) : Nat := num (wL v p ((oV v r p).getD []))
theorem oV_ok {v r p : Nat} {L : List Nat} (h : okVb v = true) (ho : oV v r p = some L) : p < dc v ∧ VL L ∧ L.length < en v p - p := by
  unfold oV at ho
  by_cases c : r < 16 ∧ p < dc v
  · rw [if_pos c] at ho
    exact ⟨c.2, rR_ok (TV_v (okVb_iff.mp h)) c.2 ho⟩
  · rw [if_neg c] at ho; cases ho
theorem wL_ok {v p : Nat} {L : List Nat} (h : okVb v = true) (hp : p < dc v) (hL : VL L) (hl : L.length < en v p - p) : VL (wL v p L) ∧ (wL v p L).length < dc v := by
  have tv := TV_v (okVb_iff.mp h)
  have hq := tv.q hp
  have hv := (okVb_iff.mp h)
  have hV : VL (sub (dg v) 0 (dc v)) := VL_of_okR ((okR_v hv.1 hv.2.1).mp h)
  rw [← sub_app (dg v) (Nat.zero_le (en v p)) hq.2.2.2, ← sub_app (dg v) (Nat.zero_le p) (Nat.le_of_lt hq.2.2.1)] at hV
  refine ⟨VL_swap hV (tv.VL hp) hL, ?_⟩
  unfold wL
  rw [List.length_append, List.length_append, sub_len, sub_len]
  omega
theorem nx_ok {v r p : Nat} (h : okVb v = true) (hg : oV v r p ≠ none) : okVb (nx v r p) = true ∧ dc (nx v r p) < dc v := by
  cases ho : oV v r p with
  | none => exact absurd ho hg
  | some L =>
    obtain ⟨h1, h2, h3⟩ := oV_ok h ho
    have hw := wL_ok h h1 h2 h3
    have h18 := (dc_lt (okVb_iff.mp h).2.1).2
    unfold nx
    rw [ho]
    exact ⟨okVb_num hw.1 (by show (wL v p L).length ≤ 18; omega), by show dc (num (wL v p L)) < dc v; rw [dc_num hw.1.d8 hw.1.ne (by omega)]; exact hw.2⟩
theorem gV_lt {v : Nat} (h : okVb v = true) (r p : Nat) : gV v r p < 10 ^ 18 := by
  unfold gV
  cases ho : oV v r p with
  | none => decide
  | some L =>
    obtain ⟨h1, h2, h3⟩ := oV_ok h ho
    have hq := (TV_v (okVb_iff.mp h)).q h1
    have h18 := (dc_lt (okVb_iff.mp h).2.1).2
    exact sz_lt (num_sz h2.d8 h2.ne) (by omega)
theorem gV_0 {v : Nat} (h : okVb v = true) (r p : Nat) : gV v r p = 0 ↔ oV v r p = none := by
  unfold gV
  cases ho : oV v r p with
  | none => exact ⟨fun _ => rfl, fun _ => rfl⟩
  | some L =>
    have := sz_pos (num_sz (oV_ok h ho).2.1.d8 (oV_ok h ho).2.1.ne)
    exact ⟨fun q => by have q : num L = 0 := q; omega, fun q => by cases q⟩
theorem mR_RD {v : Nat} {kd ed cd : Nat → Nat} {nn : Nat} (h : okVb v = true) (rd : RD v kd ed cd nn) : mR (kA kd nn) (kA cd nn) (rA ed nn) (sA kd cd nn) = gV v := by
  have tn := TN_v h
  obtain ⟨rfl, hr⟩ := rd
  have e1 : kA kd (dc v) = kA (dg v) (dc v) := by
    funext j; unfold kA; split
    · rename_i hj; exact (hr j hj).1
    · rfl
  have e2 : kA cd (dc v) = kA (cdv v) (dc v) := by
    funext j; unfold kA; split
    · rename_i hj; exact (hr j hj).2.2
    · rfl
  have e3 : rA ed (dc v) = rA (en v) (dc v) := by
    funext j; unfold rA; split
    · rename_i hj; exact (hr _ hj).2.1
    · rfl
  have e4 : sA kd cd (dc v) = sA (dg v) (cdv v) (dc v) := by
    funext j; unfold sA
    by_cases hj : j + 1 < dc v
    · rw [(hr j (by omega)).1, (hr _ hj).2.2]
    · rw [if_neg (fun q => hj q.1), if_neg (fun q => hj q.1)]
  rw [e1, e2, e3, e4]
  funext r p
  unfold gV oV
  by_cases c : r < 16 ∧ p < dc v
  · rw [if_pos c]; exact mR_rR tn c.1 c.2
  · rw [if_neg c]
    unfold mR
    rw [if_neg]
    · rfl
    · rintro ⟨q1, q2⟩
      have hp : ¬ p < dc v := fun z => c ⟨q1, z⟩
      unfold kA at q2
      rw [if_neg hp] at q2
      have := rootK_ge q1
      omega
theorem wR_RD {v : Nat} {kd ed cd : Nat → Nat} {nn p : Nat} {L : List Nat} (h : okVb v = true) (rd : RD v kd ed cd nn) (hp : p < nn) (hL : VL L) (hl : L.length ≤ 18) : wR ed cd nn p (num L) = num (wL v p L) := by
  have tv := TV_v (okVb_iff.mp h)
  obtain ⟨rfl, hr⟩ := rd
  have hq := tv.q hp
  have h0 := tv.n0
  have hv := (dc_lt (okVb_iff.mp h).2.1).1
  have e0 : cd 0 = v := by
    rw [(hr 0 h0).2.2]
    unfold cdv
    rw [Nat.sub_zero, tv.2.2.1, Nat.sub_self, Nat.pow_zero, Nat.div_one, Nat.mod_eq_of_lt hv]
  have e1 : v / 10 ^ (dc v - p) = num (sub (dg v) 0 p) := by
    rw [num_sub (Nat.zero_le p) (by omega), Nat.sub_zero, Nat.mod_eq_of_lt hv]
  have e2 : v % 10 ^ (dc v - en v p) = num (sub (dg v) (en v p) (dc v)) := by
    rw [num_sub hq.2.2.2 (Nat.le_refl _), Nat.sub_self, Nat.pow_zero, Nat.div_one]
  unfold wR
  rw [e0, (hr p hp).2.1, e1, e2, da_num hL.d8 hL.ne hl, ← num_app]
  unfold wL
  rw [num_app _ (sub (dg v) (en v p) (dc v)), sub_len]
