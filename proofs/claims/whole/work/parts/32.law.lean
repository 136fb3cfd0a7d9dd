/-! the law's invariant: the same expression, the same steps -/
def LI (cur ct : Nat) (bf ru ps bfr rul psn : Nat → Nat) : Prop :=
  okVb cur = true ∧ ct + dc cur ≤ 18 ∧ (∀ j, j < ct → bf j = bfr j ∧ ru j = rul j ∧ ps j = psn j) ∧ (∀ j, j < ct → okVb (bf j) = true ∧ j + dc (bf j) ≤ 18)
theorem LI_0 : LI 1 0 (fun _ => 0) (fun _ => 0) (fun _ => 0) (fun _ => 0) (fun _ => 0) (fun _ => 0) := ⟨by decide, by decide, fun j hj => absurd hj (by omega), fun j hj => absurd hj (by omega)⟩
theorem LI_ct {cur ct : Nat} {bf ru ps bfr rul psn : Nat → Nat} (h : LI cur ct bf ru ps bfr rul psn) : ct ≤ 17 := by
  have := (dc_in cur).1
  have := h.2.1
  omega
theorem LI_load {x : Int64} {cur ct cur2 ct2 : Nat} {bf ru ps bfr rul psn : Nat → Nat} (h : LI cur ct bf ru ps bfr rul psn) (w : (okVb (xv x) = true → cur2 = xv x ∧ ct2 = 0) ∧ (¬ okVb (xv x) = true → cur2 = cur ∧ ct2 = ct)) : LI cur2 ct2 bf ru ps bfr rul psn := by
  by_cases c : okVb (xv x) = true
  · obtain ⟨rfl, rfl⟩ := w.1 c
    have := (dc_lt (okVb_iff.mp c).2.1).2
    exact ⟨c, by omega, fun j hj => absurd hj (by omega), fun j hj => absurd hj (by omega)⟩
  · obtain ⟨rfl, rfl⟩ := w.2 c
    exact h
theorem two_load {x : Int64} {cur ct cur2 ct2 cur3 ct3 : Nat} (w : (okVb (xv x) = true → cur2 = xv x ∧ ct2 = 0) ∧ (¬ okVb (xv x) = true → cur2 = cur ∧ ct2 = ct)) (w' : (okVb (xv x) = true → cur3 = xv x ∧ ct3 = 0) ∧ (¬ okVb (xv x) = true → cur3 = cur ∧ ct3 = ct)) : cur3 = cur2 ∧ ct3 = ct2 := by
  by_cases c : okVb (xv x) = true
  · rw [(w.1 c).1, (w.1 c).2, (w'.1 c).1, (w'.1 c).2]; exact ⟨rfl, rfl⟩
  · rw [(w.2 c).1, (w.2 c).2, (w'.2 c).1, (w'.2 c).2]; exact ⟨rfl, rfl⟩
theorem LI_push {cur ct r p v : Nat} {bf ru ps bfr rul psn : Nat → Nat} (h : LI cur ct bf ru ps bfr rul psn) (hv : okVb v = true) (hd : dc v < dc cur) : LI v (ct + 1) (up bf ct cur) (up ru ct r) (up ps ct p) (up bfr ct cur) (up rul ct r) (up psn ct p) := by
  obtain ⟨h1, h2, h3, h4⟩ := h
  refine ⟨hv, by omega, fun j hj => ?_, fun j hj => ?_⟩
  · by_cases e : j = ct
    · subst e; rw [up_s, up_s, up_s, up_s, up_s, up_s]; exact ⟨rfl, rfl, rfl⟩
    · rw [up_n _ e, up_n _ e, up_n _ e, up_n _ e, up_n _ e, up_n _ e]; exact h3 j (by omega)
  · by_cases e : j = ct
    · subst e; rw [up_s]; exact ⟨h1, h2⟩
    · rw [up_n _ e]; exact h4 j (by omega)
theorem tkB_some {v : Nat} {rl px : Int32} (h : tkB v rl px = true) : oV v (rn rl) (rn px) ≠ none := by
  unfold tkB at h
  rw [Bool.and_eq_true] at h
  have h2 : (oV v (rn rl) (rn px)).isSome = true := h.2
  intro q
  rw [q] at h2
  cases h2
theorem LI_apply {cur ct cur2 ct2 cur3 ct3 : Nat} {rl px : Int32} {bf ru ps bfr rul psn bf2 ru2 ps2 bfr2 rul2 psn2 : Nat → Nat} (h : LI cur ct bf ru ps bfr rul psn)
    (w : (tkB cur rl px = true → cur2 = nx cur (rn rl) (rn px) ∧ bf2 = up bf ct cur ∧ ru2 = up ru ct (rn rl) ∧ ps2 = up ps ct (rn px) ∧ ct2 = ct + 1) ∧ (¬ tkB cur rl px = true → cur2 = cur ∧ bf2 = bf ∧ ru2 = ru ∧ ps2 = ps ∧ ct2 = ct))
    (w' : (tkB cur rl px = true → cur3 = nx cur (rn rl) (rn px) ∧ bfr2 = up bfr ct cur ∧ rul2 = up rul ct (rn rl) ∧ psn2 = up psn ct (rn px) ∧ ct3 = ct + 1) ∧ (¬ tkB cur rl px = true → cur3 = cur ∧ bfr2 = bfr ∧ rul2 = rul ∧ psn2 = psn ∧ ct3 = ct)) :
    cur3 = cur2 ∧ ct3 = ct2 ∧ LI cur2 ct2 bf2 ru2 ps2 bfr2 rul2 psn2 := by
  by_cases c : tkB cur rl px = true
  · obtain ⟨rfl, rfl, rfl, rfl, rfl⟩ := w.1 c
    obtain ⟨rfl, rfl, rfl, rfl, rfl⟩ := w'.1 c
    have hn := nx_ok h.1 (tkB_some c)
    exact ⟨rfl, rfl, LI_push h hn.1 hn.2⟩
  · obtain ⟨rfl, rfl, rfl, rfl, rfl⟩ := w.2 c
    obtain ⟨rfl, rfl, rfl, rfl, rfl⟩ := w'.2 c
    exact ⟨rfl, rfl, h⟩
theorem LI_si {cur ct : Nat} {bf ru ps bfr rul psn : Nat → Nat} (h : LI cur ct bf ru ps bfr rul psn) : ∀ k, (∀ j, j < k → f1 (siC j cur) < dc (siC j cur)) →
    LI (siC k cur) (ct + k) (siB (fun z => z) bf ct cur k) (siB f2 ru ct cur k) (siB f1 ps ct cur k) (siB (fun z => z) bfr ct cur k) (siB f2 rul ct cur k) (siB f1 psn ct cur k)
  | 0, _ => h
  | k + 1, hk => by
    have ih := LI_si h k (fun j hj => hk j (by omega))
    have hn := nx_ok ih.1 (hs_ok ih.1 (hk k (by omega))).2.2
    exact LI_push ih hn.1 hn.2
theorem LI_simplify {cur ct : Nat} {bf ru ps bfr rul psn : Nat → Nat} (h : LI cur ct bf ru ps bfr rul psn) :
    LI (siC (siN cur) cur) (ct + siN cur) (siB (fun z => z) bf ct cur (siN cur)) (siB f2 ru ct cur (siN cur)) (siB f1 ps ct cur (siN cur)) (siB (fun z => z) bfr ct cur (siN cur)) (siB f2 rul ct cur (siN cur)) (siB f1 psn ct cur (siN cur)) :=
  LI_si h (siN cur) (fun j hj => by
    have := fa_first_no (fun k => decide (¬ f1 (siC k cur) < dc (siC k cur))) 18 j hj
    have h2 := of_decide_eq_false this
    exact Decidable.of_not_not h2)
theorem LI_undo {cur ct cur2 ct2 cur3 ct3 : Nat} {x : Int32} {bf ru ps bfr rul psn : Nat → Nat} (h : LI cur ct bf ru ps bfr rul psn)
    (w : (rok x (ct + 1) = true → ct2 = ct - rn x ∧ cur2 = (if rn x = 0 then cur else bf (ct - rn x))) ∧ (¬ rok x (ct + 1) = true → cur2 = cur ∧ ct2 = ct))
    (w' : (rok x (ct + 1) = true → ct3 = ct - rn x ∧ cur3 = (if rn x = 0 then cur else bfr (ct - rn x))) ∧ (¬ rok x (ct + 1) = true → cur3 = cur ∧ ct3 = ct)) :
    cur3 = cur2 ∧ ct3 = ct2 ∧ LI cur2 ct2 bf ru ps bfr rul psn := by
  have h18 := LI_ct h
  by_cases c : rok x (ct + 1) = true
  · obtain ⟨k, hk, rfl⟩ := rok_ok c (by omega)
    have hw := w.1 c
    have hw' := w'.1 c
    rw [rn_nI (by omega)] at hw hw'
    obtain ⟨rfl, rfl⟩ := hw
    obtain ⟨rfl, rfl⟩ := hw'
    obtain ⟨h1, h2, h3, h4⟩ := h
    by_cases e : k = 0
    · subst e
      rw [if_pos rfl, if_pos rfl]
      exact ⟨rfl, rfl, h1, h2, h3, h4⟩
    · rw [if_neg e, if_neg e]
      have g3 := h3 (ct - k) (by omega)
      have g4 := h4 (ct - k) (by omega)
      exact ⟨g3.1.symm, rfl, g4.1, g4.2, fun j hj => h3 j (by omega), fun j hj => h4 j (by omega)⟩
  · obtain ⟨rfl, rfl⟩ := w.2 c
    obtain ⟨rfl, rfl⟩ := w'.2 c
    exact ⟨rfl, rfl, h⟩
theorem stA_eq {f g : Nat → Nat} {ct : Nat} {x : Int32} (h : ∀ j, j < ct → f j = g j) : stA f ct x = stA g ct x := by
  unfold stA
  by_cases c : rok x ct = true
  · rw [if_pos c, if_pos c]
    have h2 : 0 ≤ x.toInt ∧ x.toInt < ct := of_decide_eq_true c
    rw [h (rn x) (by unfold rn; omega)]
  · rw [if_neg c, if_neg c]
