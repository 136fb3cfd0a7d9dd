/-! the class's rules are the reference's -/
section BR2
variable {d E c : Nat → Nat} {n : Nat}
theorem sb_two (h : TN d E c n) {o : Nat} (ho : o < n) (hk : d o = 6 ∨ d o = 7) : sb d E o = d o :: (sb d E (o + 1) ++ sb d E (E (o + 1))) := by
  obtain ⟨h1, h2, h3, h4, h5, h6, h7⟩ := h.two ho hk
  unfold sb
  rw [sub_cons d (by omega), ← h5, sub_app d (by omega) (by omega)]
theorem sb_one (h : TN d E c n) {o : Nat} (ho : o < n) (hk : d o = 8) : sb d E o = 8 :: sb d E (o + 1) := by
  obtain ⟨h1, h2, h3, h4⟩ := h.one ho hk
  unfold sb
  rw [sub_cons d (by omega), hk, ← h2]
theorem br_bu (h : TN d E c n) {u l r : Nat} (hu : u = 1 ∨ u = 2) (hl : l < n) (hr : r < n) : mBU (kA c n) u l r = cdO (if d l = u then some (sb d E r) else if d r = u then some (sb d E l) else none) := by
  unfold mBU
  by_cases c1 : d l = u
  · rw [if_pos ((h.leaf hl hu).mpr c1), if_pos c1, h.C hr]; rfl
  · rw [if_neg (fun q => c1 ((h.leaf hl hu).mp q)), if_neg c1]
    by_cases c2 : d r = u
    · rw [if_pos ((h.leaf hr hu).mpr c2), if_pos c2, h.C hl]; rfl
    · rw [if_neg (fun q => c2 ((h.leaf hr hu).mp q)), if_neg c2]; rfl
theorem br_ce (h : TN d E c n) {l r : Nat} (hl : l < n) (hr : r < n) : mCE (kA c n) l r = cdO (if d l = 1 ∨ d r = 1 then some [1] else none) := by
  unfold mCE
  by_cases c1 : d l = 1 ∨ d r = 1
  · rw [if_pos (c1.imp (h.leaf hl (Or.inl rfl)).mpr (h.leaf hr (Or.inl rfl)).mpr), if_pos c1]; rfl
  · rw [if_neg (fun q => c1 (q.imp (h.leaf hl (Or.inl rfl)).mp (h.leaf hr (Or.inl rfl)).mp)), if_neg c1]; rfl
theorem br_sn (h : TN d E c n) {o : Nat} (ho : o < n) : mSN (kA c n) o = cdO (if d o ≤ 2 then some [2] else none) := by
  unfold mSN
  have h1 := (h.1.q ho).1
  by_cases c1 : d o ≤ 2
  · rw [if_pos c1]
    rcases (show d o = 1 ∨ d o = 2 by omega) with q | q
    · rw [if_pos (Or.inl ((h.leaf ho (Or.inl rfl)).mpr q))]; rfl
    · rw [if_pos (Or.inr ((h.leaf ho (Or.inr rfl)).mpr q))]; rfl
  · rw [if_neg c1, if_neg]
    · rfl
    · rintro (q | q)
      · have := (h.leaf ho (Or.inl rfl)).mp q; omega
      · have := (h.leaf ho (Or.inr rfl)).mp q; omega
theorem br_us (h : TN d E c n) {l r : Nat} (hl : l < n) (hr : r < n) : mUS (kA c n) l r = cdO (if smD d E l r = true then some (sb d E l) else none) := by
  unfold mUS
  by_cases c1 : smD d E l r = true
  · rw [if_pos ((h.same hl hr).mpr c1), if_pos c1, h.C hl]; rfl
  · rw [if_neg (fun q => c1 ((h.same hl hr).mp q)), if_neg c1]; rfl
theorem br_ss (h : TN d E c n) {o : Nat} (ho : o < n) : mSS (kA d n) (kA c n) o = cdO (if d o = 8 then some (sb d E o) else none) := by
  unfold mSS
  rw [h.K ho, h.C ho]
  by_cases c1 : d o = 8
  · rw [if_pos c1, if_pos c1]; rfl
  · rw [if_neg c1, if_neg c1]; rfl
theorem br_so (h : TN d E c n) {o : Nat} (ho : o < n) : mSO (kA d n) (kA c n) (rA E n) o = cdO (if d o = 6 then (if d (o + 1) = 2 then some (8 :: sb d E (E (o + 1))) else if d (E (o + 1)) = 2 then some (8 :: sb d E (o + 1)) else none) else none) := by
  unfold mSO
  rw [h.K ho]
  by_cases c1 : d o = 6
  · rw [if_pos c1, if_pos c1]
    obtain ⟨h1, h2, h3, h4, h5, h6, h7⟩ := h.two ho (Or.inl c1)
    have hn := h.1.n18
    rw [h2, br_bu h (Or.inr rfl) h1 h3]
    have l1 := h.len h1
    have l2 := h.len h3
    by_cases c2 : d (o + 1) = 2
    · rw [if_pos c2, if_pos c2]
      show (if num (sb d E (E (o + 1))) = 0 then 0 else stc (num (sb d E (E (o + 1))))) = num (8 :: sb d E (E (o + 1)))
      have := sz_pos (num_sz (h.VL h3).d8 (h.VL h3).ne)
      rw [if_neg (by omega), num_st (h.VL h3) (by omega)]
    · rw [if_neg c2, if_neg c2]
      by_cases c3 : d (E (o + 1)) = 2
      · rw [if_pos c3, if_pos c3]
        show (if num (sb d E (o + 1)) = 0 then 0 else stc (num (sb d E (o + 1)))) = num (8 :: sb d E (o + 1))
        have := sz_pos (num_sz (h.VL h1).d8 (h.VL h1).ne)
        rw [if_neg (by omega), num_st (h.VL h1) (by omega)]
      · rw [if_neg c3, if_neg c3]; rfl
  · rw [if_neg c1, if_neg c1]; rfl
theorem br_st (h : TN d E c n) {l r : Nat} (hl : l < n) (hr : r < n) : mST (kA d n) (kA c n) l r = cdO (if d l = 8 ∧ smD d E l r = true then some (sb d E l) else none) := by
  unfold mST
  rw [h.K hl]
  by_cases c1 : d l = 8 ∧ smD d E l r = true
  · rw [if_pos ⟨(h.same hl hr).mpr c1.2, c1.1⟩, if_pos c1, h.C hl]; rfl
  · rw [if_neg (fun q => c1 ⟨q.2, (h.same hl hr).mp q.1⟩), if_neg c1]; rfl
theorem br_se (h : TN d E c n) {l r : Nat} (hl : l < n) (hr : r < n) : mSE (kA d n) (kA c n) l r = cdO (if d l = 2 ∧ d r = 8 then some (sb d E r) else if d l = 8 ∧ d r = 2 then some (sb d E l) else none) := by
  unfold mSE
  rw [h.K hl, h.K hr]
  by_cases c1 : d l = 2 ∧ d r = 8
  · rw [if_pos ⟨(h.leaf hl (Or.inr rfl)).mpr c1.1, c1.2⟩, if_pos c1, h.C hr]; rfl
  · rw [if_neg (fun q => c1 ⟨(h.leaf hl (Or.inr rfl)).mp q.1, q.2⟩), if_neg c1]
    by_cases c2 : d l = 8 ∧ d r = 2
    · rw [if_pos ⟨c2.1, (h.leaf hr (Or.inr rfl)).mpr c2.2⟩, if_pos c2, h.C hl]; rfl
    · rw [if_neg (fun q => c2 ⟨q.1, (h.leaf hr (Or.inr rfl)).mp q.2⟩), if_neg c2]; rfl
theorem br_sf (h : TN d E c n) {l r : Nat} (hl : l < n) (hr : r < n) (he : r = E l) : mSF (kA d n) (kA c n) (rA E n) l r = cdO (if (d l = 7 ∧ d r = 7) ∧ smD d E (l + 1) (r + 1) = true then some (7 :: (sb d E (l + 1) ++ (6 :: (sb d E (E (l + 1)) ++ sb d E (E (r + 1)))))) else none) := by
  unfold mSF
  rw [h.K hl, h.K hr]
  by_cases c1 : d l = 7 ∧ d r = 7
  · obtain ⟨h1, h2, h3, h4, h5, h6, h7⟩ := h.two hl (Or.inr c1.1)
    obtain ⟨g1, g2, g3, g4, g5, g6, g7⟩ := h.two hr (Or.inr c1.2)
    have hn := h.1.n18
    by_cases c2 : smD d E (l + 1) (r + 1) = true
    · rw [if_pos ⟨c1, (h.same h1 g1).mpr c2⟩, if_pos ⟨c1, c2⟩, h2, g2, h.C h1, h.C h3, h.C g3]
      have e1 := h.len h1
      have e2 := h.len h3
      have e3 := h.len g3
      rw [num_un (h.VL h3) (h.VL g3) (by omega)]
      exact num_ct (h.VL h1) (VL_two (Or.inl rfl) (h.VL h3) (h.VL g3)) (by rw [List.length_cons, List.length_append]; omega)
    · rw [if_neg (fun q => c2 ((h.same h1 g1).mp q.2)), if_neg (fun q => c2 q.2)]; rfl
  · rw [if_neg (fun q => c1 q.1), if_neg (fun q => c1 q.1)]; rfl
theorem br_sb (h : TN d E c n) {l r : Nat} (hl : l < n) (hr : r < n) (he : r = E l) : mSB (kA d n) (kA c n) (rA E n) l r = cdO (if (d l = 7 ∧ d r = 7) ∧ smD d E (E (l + 1)) (E (r + 1)) = true then some (7 :: ((6 :: (sb d E (l + 1) ++ sb d E (r + 1))) ++ sb d E (E (l + 1)))) else none) := by
  unfold mSB
  rw [h.K hl, h.K hr]
  by_cases c1 : d l = 7 ∧ d r = 7
  · obtain ⟨h1, h2, h3, h4, h5, h6, h7⟩ := h.two hl (Or.inr c1.1)
    obtain ⟨g1, g2, g3, g4, g5, g6, g7⟩ := h.two hr (Or.inr c1.2)
    have hn := h.1.n18
    rw [h2, g2]
    by_cases c2 : smD d E (E (l + 1)) (E (r + 1)) = true
    · rw [if_pos ⟨c1, (h.same h3 g3).mpr c2⟩, if_pos ⟨c1, c2⟩, h.C h1, h.C h3, h.C g1]
      have e1 := h.len h1
      have e2 := h.len h3
      have e3 := h.len g1
      rw [num_un (h.VL h1) (h.VL g1) (by omega)]
      exact num_ct (VL_two (Or.inl rfl) (h.VL h1) (h.VL g1)) (h.VL h3) (by rw [List.length_cons, List.length_append]; omega)
    · rw [if_neg (fun q => c2 ((h.same h3 g3).mp q.2)), if_neg (fun q => c2 q.2)]; rfl
  · rw [if_neg (fun q => c1 q.1), if_neg (fun q => c1 q.1)]; rfl
/-- x and its star side by side, in a concatenation at a -/
theorem br_pl (h : TN d E c n) {a : Nat} (ha : a < n) (h7 : d a = 7) : mBS (kA c n) (sA d c n) (a + 1) (rA E n a) = cdO (if isP d E a false = true then some (8 :: sb d E (plO E a false)) else if isP d E a true = true then some (8 :: sb d E (plO E a true)) else none) := by
  obtain ⟨h1, h2, h3, h4, h5, h6, h8⟩ := h.two ha (Or.inr h7)
  rw [h2, h.bs h1 h3]
  unfold isP plO
  rw [if_pos h7, if_pos h7]
  simp only [Bool.false_eq_true, if_false, if_true, Bool.and_eq_true, decide_eq_true_eq]
  by_cases c1 : d (E (a + 1)) = 8 ∧ smD d E (E (a + 1) + 1) (a + 1) = true
  · rw [if_pos c1, if_pos c1, sb_one h h3 c1.1, smD_sb.mp c1.2]
  · rw [if_neg c1, if_neg c1]
    by_cases c2 : d (a + 1) = 8 ∧ smD d E (a + 1 + 1) (E (a + 1)) = true
    · rw [if_pos c2, if_pos c2, sb_one h h1 c2.1, smD_sb.mp c2.2]
    · rw [if_neg c2, if_neg c2]
theorem isP_7 {a : Nat} {f : Bool} (h : isP d E a f = true) : d a = 7 := by
  unfold isP at h
  by_cases c : d a = 7
  · exact c
  · rw [if_neg c] at h; cases h
theorem isP_no {a : Nat} (h : d a ≠ 7) (f : Bool) : isP d E a f = false := by
  cases hh : isP d E a f with
  | false => rfl
  | true => exact absurd (isP_7 hh) h
theorem br_or (h : TN d E c n) {l r : Nat} (hl : l < n) (hr : r < n) : mOR (kA d n) (kA c n) (rA E n) (sA d c n) l r = cdO (rEP d E l r) := by
  unfold mOR rEP
  rw [h.K hl, h.K hr]
  by_cases c1 : d l = 2
  · have e1 : kA c n l = 2 := (h.leaf hl (Or.inr rfl)).mpr c1
    have nl := fun f => isP_no (d := d) (E := E) (a := l) (by omega) f
    by_cases c7 : d r = 7
    · rw [if_pos e1, if_pos c7, br_pl h hr c7]
      simp [c1, nl]
    · have nr := fun f => isP_no (d := d) (E := E) (a := r) c7 f
      simp [e1, c7, nl, nr, cdO]
  · have e1 : ¬ kA c n l = 2 := fun q => c1 ((h.leaf hl (Or.inr rfl)).mp q)
    by_cases c2 : d r = 2
    · have e2 : kA c n r = 2 := (h.leaf hr (Or.inr rfl)).mpr c2
      by_cases c7 : d l = 7
      · rw [if_neg e1, if_pos ⟨e2, c7⟩, br_pl h hl c7]
        simp [c1, c2]
      · have nl := fun f => isP_no (d := d) (E := E) (a := l) c7 f
        simp [e1, c7, c1, nl, cdO]
    · have e2 : ¬ kA c n r = 2 := fun q => c2 ((h.leaf hr (Or.inr rfl)).mp q)
      simp [e1, e2, c1, c2, cdO]
theorem br_su (h : TN d E c n) {o : Nat} (ho : o < n) : mSU (kA d n) (kA c n) (rA E n) (sA d c n) o = cdO (if d o = 6 then (if d (o + 1) = 8 then some (8 :: 6 :: (sb d E (o + 1 + 1) ++ sb d E (E (o + 1)))) else if d (E (o + 1)) = 8 then some (8 :: 6 :: (sb d E (o + 1) ++ sb d E (E (o + 1) + 1))) else none) else none) := by
  unfold mSU
  rw [h.K ho]
  by_cases c1 : d o = 6
  · rw [if_pos c1, if_pos c1]
    obtain ⟨h1, h2, h3, h4, h5, h6, h7⟩ := h.two ho (Or.inl c1)
    have hn := h.1.n18
    rw [h2, h.K h1, h.K h3, h.S h1, h.S h3]
    have l1 := h.len h1
    have l2 := h.len h3
    by_cases c2 : d (o + 1) = 8
    · rw [if_pos c2, if_pos c2, if_pos c2]
      obtain ⟨k1, k2, k3, k4⟩ := h.one h1 c2
      have l3 := h.len k1
      rw [h.C k1, h.C h3, num_un (h.VL k1) (h.VL h3) (by omega)]
      exact num_st (VL_two (Or.inl rfl) (h.VL k1) (h.VL h3)) (by rw [List.length_cons, List.length_append]; omega)
    · rw [if_neg c2, if_neg c2]
      by_cases c3 : d (E (o + 1)) = 8
      · rw [if_pos c3, if_pos c3, if_pos c3]
        obtain ⟨k1, k2, k3, k4⟩ := h.one h3 c3
        have l3 := h.len k1
        rw [h.C k1, h.C h1, num_un (h.VL h1) (h.VL k1) (by omega)]
        exact num_st (VL_two (Or.inl rfl) (h.VL h1) (h.VL k1)) (by rw [List.length_cons, List.length_append]; omega)
      · rw [if_neg c3, if_neg c3]; rfl
  · rw [if_neg c1, if_neg c1]; rfl
theorem br_ts (h : TN d E c n) {o : Nat} (ho : o < n) : mTS (kA d n) (rA E n) (sA d c n) o = cdO (if (d o = 7 ∧ d (o + 1) = 8) ∧ d (E (o + 1)) = 8 then some (8 :: 6 :: (sb d E (o + 1 + 1) ++ sb d E (E (o + 1) + 1))) else none) := by
  unfold mTS
  rw [h.K ho]
  by_cases c1 : d o = 7
  · obtain ⟨h1, h2, h3, h4, h5, h6, h7⟩ := h.two ho (Or.inr c1)
    have hn := h.1.n18
    rw [h2, h.S h1, h.S h3]
    have l1 := h.len h1
    have l2 := h.len h3
    by_cases c2 : d (o + 1) = 8
    · rw [if_pos c2]
      by_cases c3 : d (E (o + 1)) = 8
      · rw [if_pos c3]
        obtain ⟨k1, k2, k3, k4⟩ := h.one h1 c2
        obtain ⟨m1, m2, m3, m4⟩ := h.one h3 c3
        have l3 := h.len k1
        have l4 := h.len m1
        have z1 := sz_pos (h.tc.szc k1)
        have z2 := sz_pos (h.tc.szc m1)
        rw [if_pos ⟨c1, by omega, by omega⟩, if_pos ⟨⟨c1, c2⟩, c3⟩, h.C k1, h.C m1, num_un (h.VL k1) (h.VL m1) (by omega)]
        exact num_st (VL_two (Or.inl rfl) (h.VL k1) (h.VL m1)) (by rw [List.length_cons, List.length_append]; omega)
      · rw [if_neg c3, if_neg (fun q => q.2.2 rfl), if_neg (fun q => c3 q.2)]; rfl
    · rw [if_neg c2, if_neg (fun q => q.2.1 rfl), if_neg (fun q => c2 q.1.2)]; rfl
  · rw [if_neg (fun q => c1 q.1), if_neg (fun q => c1 q.1.1)]; rfl
theorem br_ri (h : TN d E c n) {l r : Nat} (hl : l < n) (hr : r < n) (he : r = E l) : mRI (kA d n) (kA c n) (rA E n) l r = cdO (rAb d E l r) := by
  unfold mRI rAb
  rw [h.K hr]
  by_cases c1 : d r = 6
  · rw [if_pos c1, if_neg (show ¬ (d r ≠ 6) from fun q => q c1)]
    obtain ⟨h1, h2, h3, h4, h5, h6, h7⟩ := h.two hr (Or.inl c1)
    have hn := h.1.n18
    have l0 := h.len hl
    have l1 := h.len h1
    have l2 := h.len h3
    have q0 := (h.1.q hl).2.2
    rw [h2]
    by_cases c2 : smD d E l (r + 1) = true
    · rw [if_pos ((h.same hl h1).mpr c2), if_pos c2, h.C hl, h.C h3, sb_two h hr (Or.inl c1), c1, ← smD_sb.mp c2]
      exact num_un (h.VL hl) (h.VL h3) (by omega)
    · rw [if_neg (show ¬ kA c n l = kA c n (r + 1) from fun q => c2 ((h.same hl h1).mp q)), if_neg c2]
      by_cases c3 : smD d E l (E (r + 1)) = true
      · rw [if_pos ((h.same hl h3).mpr c3), if_pos c3, h.C hl, h.C h1]
        exact num_un (h.VL hl) (h.VL h1) (by omega)
      · rw [if_neg (show ¬ kA c n l = kA c n (E (r + 1)) from fun q => c3 ((h.same hl h3).mp q)), if_neg c3]; rfl
  · rw [if_neg c1, if_pos (show d r ≠ 6 from c1)]; rfl
theorem br_9 (h : TN d E c n) {l r : Nat} (hl : l < n) (hr : r < n) : mBS (kA c n) (sA d c n) l r = cdO (if d r = 8 ∧ smD d E l (r + 1) = true then some (sb d E r) else if d l = 8 ∧ smD d E (l + 1) r = true then some (sb d E l) else none) := by
  rw [h.bs hl hr]
  by_cases c1 : d r = 8 ∧ smD d E (r + 1) l = true
  · rw [if_pos c1, if_pos ⟨c1.1, smD_comm.mp c1.2⟩]
  · rw [if_neg c1, if_neg (show ¬ (d r = 8 ∧ smD d E l (r + 1) = true) from fun q => c1 ⟨q.1, smD_comm.mp q.2⟩)]
/-- THE RULES AGREE: the class's code is the number of what the reference writes -/
theorem mR_rR (h : TN d E c n) {rule p : Nat} (hr : rule < 16) (hp : p < n) : mR (kA d n) (kA c n) (rA E n) (sA d c n) rule p = cdO (rR d E rule p) := by
  unfold mR rR
  rw [h.K hp]
  have hq := h.1.q hp
  by_cases c1 : d p < 6
  · rw [if_pos c1, if_neg]
    · rfl
    · rintro ⟨-, q⟩
      have : ∀ r, r < 16 → 6 ≤ rootK r := by decide
      have := this rule hr
      omega
  · rw [if_neg c1]
    by_cases c8 : d p = 8
    · rw [if_pos c8]
      obtain ⟨h1, h2, h3, h4⟩ := h.one hp c8
      rw [c8]
      rcases lt16 hr with rfl | rfl | rfl | rfl | rfl | rfl | rfl | rfl | rfl | rfl | rfl | rfl | rfl | rfl | rfl | rfl
      · rfl
      · rfl
      · rfl
      · exact (if_pos ⟨by decide, rfl⟩).trans (br_sn h h1)
      · rfl
      · exact (if_pos ⟨by decide, rfl⟩).trans (br_ss h h1)
      · exact (if_pos ⟨by decide, rfl⟩).trans (br_so h h1)
      · rfl
      · rfl
      · rfl
      · rfl
      · rfl
      · rfl
      · exact (if_pos ⟨by decide, rfl⟩).trans (br_su h h1)
      · exact (if_pos ⟨by decide, rfl⟩).trans (br_ts h h1)
      · rfl
    · rw [if_neg c8]
      obtain ⟨h1, h2, h3, h4, h5, h6, h7⟩ := h.two hp (by omega)
      rw [h2]
      by_cases c6 : d p = 6
      · rw [if_pos c6, c6]
        rcases lt16 hr with rfl | rfl | rfl | rfl | rfl | rfl | rfl | rfl | rfl | rfl | rfl | rfl | rfl | rfl | rfl | rfl
        · exact (if_pos ⟨by decide, rfl⟩).trans (br_bu h (Or.inl rfl) h1 h3)
        · rfl
        · rfl
        · rfl
        · exact (if_pos ⟨by decide, rfl⟩).trans (br_us h h1 h3)
        · rfl
        · rfl
        · rfl
        · exact (if_pos ⟨by decide, rfl⟩).trans (br_se h h1 h3)
        · exact (if_pos ⟨by decide, rfl⟩).trans (br_9 h h1 h3)
        · exact (if_pos ⟨by decide, rfl⟩).trans (br_sf h h1 h3 rfl)
        · exact (if_pos ⟨by decide, rfl⟩).trans (br_sb h h1 h3 rfl)
        · exact (if_pos ⟨by decide, rfl⟩).trans (br_or h h1 h3)
        · rfl
        · rfl
        · exact (if_pos ⟨by decide, rfl⟩).trans (br_ri h h1 h3 rfl)
      · rw [if_neg c6, show d p = 7 from by omega]
        rcases lt16 hr with rfl | rfl | rfl | rfl | rfl | rfl | rfl | rfl | rfl | rfl | rfl | rfl | rfl | rfl | rfl | rfl
        · rfl
        · exact (if_pos ⟨by decide, rfl⟩).trans (br_ce h h1 h3)
        · exact (if_pos ⟨by decide, rfl⟩).trans (br_bu h (Or.inr rfl) h1 h3)
        · rfl
        · rfl
        · rfl
        · rfl
        · exact (if_pos ⟨by decide, rfl⟩).trans (br_st h h1 h3)
        · rfl
        · rfl
        · rfl
        · rfl
        · rfl
        · rfl
        · rfl
        · rfl
end BR2
