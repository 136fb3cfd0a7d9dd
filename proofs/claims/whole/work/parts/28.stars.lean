/-! star height: the class -/
set_option maxHeartbeats 4000000 in
set_option maxRecDepth 100000 in
theorem c_X7_starHeight (l : Launch) (D : va_G) (cI cL cZ : ClassId) (tp tr : Nat) (sz : Nat) (hq : Nat) (ar : Nat → Nat) (cur : Nat) (ag : Nat → Nat) (kd : Nat → Nat) (ed : Nat → Nat) (cd : Nat → Nat) (nn : Nat) (x : Int64)  : Met l yX7_starHeight wsX7_starHeight { frames := 2, cells := 0, slots := 0, locals := 62 } (mPS D (tyL cI cL cZ) tp tr [(hq, .inr (5, oR ar cur)), (ar 0, .inr (2, oE ag nn)), (ag 0, .inl (cI, 18, .inl (nA kd))), (ag 1, .inl (cI, 18, .inl (nA ed))), (ag 2, .inl (cL, 18, .inr (.inl (lA cd))))] sz [.ref hq, .long x]) (va_Qi (fun (r : Int32) (u : (Nat → Nat) × (Nat → Nat) × (Nat → Nat) × Nat) => r = (aSH x) ∧ (True)) (fun (u : (Nat → Nat) × (Nat → Nat) × (Nat → Nat) × Nat) (t : State) => mB D (tyL cI cL cZ) (va_A [(hq, .inr (5, oR ar cur)), (ar 0, .inr (2, oE ag nn)), (ag 0, .inl (cI, 18, .inl (nA kd))), (ag 1, .inl (cI, 18, .inl (nA ed))), (ag 2, .inl (cL, 18, .inr (.inl (lA cd))))] sz) [(hq, .inr (5, oR ar cur)), (ar 0, .inr (2, oE ag (u.2.2.2))), (ag 0, .inl (cI, 18, .inl (nA (u.1)))), (ag 1, .inl (cI, 18, .inl (nA (u.2.1)))), (ag 2, .inl (cL, 18, .inr (.inl (lA (u.2.2.1)))))] t) (va_A [(hq, .inr (5, oR ar cur)), (ar 0, .inr (2, oE ag nn)), (ag 0, .inl (cI, 18, .inl (nA kd))), (ag 1, .inl (cI, 18, .inl (nA ed))), (ag 2, .inl (cL, 18, .inr (.inl (lA cd))))] sz)) 0 0 (va_A [(hq, .inr (5, oR ar cur)), (ar 0, .inr (2, oE ag nn)), (ag 0, .inl (cI, 18, .inl (nA kd))), (ag 1, .inl (cI, 18, .inl (nA ed))), (ag 2, .inl (cL, 18, .inr (.inl (lA cd))))] sz) := by
  refine Met.ofW (cc := cX7_starHeight) (maxL := 3) (ret := (some .int)) (by decide) rfl ?_
  intro pG eG s mG args below meth cG s₁ B hml hpre9
  obtain ⟨rfl, hsz, hP, hK, hD0, hZ⟩ := hpre9
  have hx := B.exec
  have hb := B.bytes
  have hr := B.returns
  have hts := atoms_spec (ws := wsX7_starHeight) B.pre
  have hown : s.vm.findClass RX7 = some mG.cls := findClass_of_methodNamed B.named
  have hlocks := B.notSynchronized
  subst hsz
  have hD := hD0.self (sz := s.heap.size)
  have hA : ∀ q : Nat, s.heap.size ≤ q → va_A [(hq, .inr (5, oR ar cur)), (ar 0, .inr (2, oE ag nn)), (ag 0, .inl (cI, 18, .inl (nA kd))), (ag 1, .inl (cI, 18, .inl (nA ed))), (ag 2, .inl (cL, 18, .inr (.inl (lA cd))))] s.heap.size q := fun q h => Or.inr h
  have hS : va_S (va_A [(hq, .inr (5, oR ar cur)), (ar 0, .inr (2, oE ag nn)), (ag 0, .inl (cI, 18, .inl (nA kd))), (ag 1, .inl (cI, 18, .inl (nA ed))), (ag 2, .inl (cL, 18, .inr (.inl (lA cd))))] s.heap.size) s.heap s.heap [] := va_S.rf
  have hinX7 : ∀ w ∈ wsX70, w ∈ wsX7_starHeight := fun w HH => (List.mem_cons_of_mem _ (List.mem_append_left _ (List.mem_append_right _ HH)))
  have lk0 : (Cond.fieldLink RX7 12 "RegexSimplifier" "given" "LRegexSimplifier$Expression;").before _ s = true := hts _ (List.mem_cons_of_mem _ (List.mem_append_left _ (List.mem_append_left _ (List.mem_append_left _ (List.mem_of_getElem? (i := 0) rfl)))))
  have hl := lv_entry ([.ref hq, .long x]) (n := 3) (Nat.le_of_ble_eq_true rfl)
  rw [lg_entry_eq]
  generalize (lg_sl ([.ref hq, .long x]) ++ List.replicate (3 - (lg_sl ([.ref hq, .long x])).length) Slot.unset).toArray = ls at hl ⊢
  have hl : lv_has ls 3 [(0, .ref hq), (1, .long x)] := hl
  refine lv_aload_n (pc := 0) hx hb dX7_starHeight_0 rfl (lv_at hl 0 rfl) ?_
  refine va_get (pc := 1) (D := D) (ci := 5) (v := .ref (ar 0)) (C := RX7) (T := TX7) (N := 7) hx hb hts hinX7 hown hK hP 0 rfl rfl 0 (by decide) lk0 (fun _ h9 => h9) rfl dX7_starHeight_1 ?_
  refine lv_lload_n (pc := 4) hx hb dX7_starHeight_4 rfl (lv_at hl 1 rfl) ?_
  refine xm_calli (pc := 5) (wc := [(ar 0, .inr (2, oE ag nn)), (ag 0, .inl (cI, 18, .inl (nA kd))), (ag 1, .inl (cI, 18, .inl (nA ed))), (ag 2, .inl (cL, 18, .inr (.inl (lA cd))))]) (wr := [(hq, .inr (5, oR ar cur))]) (va_runV (As := [.long x]) (rest := []) ⟨hx, hb, hml, hown, hts⟩ (c_X3_read l D cI cL cZ tp tr s.heap.size (ar 0) ag kd ed cd nn x) (cwV 1 hts gX7_starHeight_X3_read rfl rfl rfl (by decide +kernel) ⟨Nat.le_of_ble_eq_true rfl, Nat.le_of_ble_eq_true rfl⟩) (mPS_V (wc := [(ar 0, .inr (2, oE ag nn)), (ag 0, .inl (cI, 18, .inl (nA kd))), (ag 1, .inl (cI, 18, .inl (nA ed))), (ag 2, .inl (cL, 18, .inr (.inl (lA cd))))]) (ci := 2) (q0 := 0) hK hP hD hZ hS hA [1, 2, 3, 4] (by decide) rfl rfl rfl) rfl rfl hl.1 rfl (lv_room (Nat.le_of_ble_eq_true rfl)) dX7_starHeight_5 ⟨Nat.zero_le _, Nat.zero_le _⟩) hP hD hS hA [1, 2, 3, 4] [0] rfl rfl (by decide) (by decide) (fun r9 u H locs hw hP hD hS => ?_)
  obtain ⟨kd2_5, ed2_5, cd2_5, nn2_5⟩ := u
  have hP : va_P D vwCl [(hq, .inr (5, oR ar cur)), (ar 0, .inr (2, oE ag nn2_5)), (ag 0, .inl (cI, 18, .inl (nA kd2_5))), (ag 1, .inl (cI, 18, .inl (nA ed2_5))), (ag 2, .inl (cL, 18, .inr (.inl (lA cd2_5))))] H := hP
  have hD : va_D _ [(hq, .inr (5, oR ar cur)), (ar 0, .inr (2, oE ag nn2_5)), (ag 0, .inl (cI, 18, .inl (nA kd2_5))), (ag 1, .inl (cI, 18, .inl (nA ed2_5))), (ag 2, .inl (cL, 18, .inr (.inl (lA cd2_5))))] := hD
  try dsimp only at hw
  obtain ⟨hrr, ⟨hrd, hnrd⟩⟩ := hw
  rw [hrr]
  refine xp_if_eq (pc := 8) (tgt := 21) hx hb dX7_starHeight_8 (by decide) (fun c8 => ?_) (fun c8 => ?_)
  · refine lv_iconst (pc := 21) (v := ((-1))) hx hb dX7_starHeight_21 (by decide) ?_
    have hP9 : va_P D vwCl [(hq, .inr (5, oR ar cur)), (ar 0, .inr (2, oE ag nn2_5)), (ag 0, .inl (cI, 18, .inl (nA kd2_5))), (ag 1, .inl (cI, 18, .inl (nA ed2_5))), (ag 2, .inl (cL, 18, .inr (.inl (lA cd2_5))))] H := hP.sub [0, 1, 2, 3, 4] rfl
    have hD9 : va_D _ [(hq, .inr (5, oR ar cur)), (ar 0, .inr (2, oE ag nn2_5)), (ag 0, .inl (cI, 18, .inl (nA kd2_5))), (ag 1, .inl (cI, 18, .inl (nA ed2_5))), (ag 2, .inl (cL, 18, .inr (.inl (lA cd2_5))))] := hD.sub [0, 1, 2, 3, 4] (by decide) rfl
    exact W.iret (pc := 22) (v := ((-1))) hx hb hr (fun t ht hW => ⟨⟨_, (kd2_5, ed2_5, cd2_5, nn2_5), rfl, ⟨(if_neg c8).symm, trivial⟩, by rw [ht]; exact hP9, va_K.moved hW.alike hK, hD9⟩, hS.F ht⟩) hS.2.2 dX7_starHeight_22
  · refine lv_aload_n (pc := 11) hx hb dX7_starHeight_11 rfl (lv_at hl 0 rfl) ?_
    refine va_get (pc := 12) (D := D) (ci := 5) (v := .ref (ar 0)) (C := RX7) (T := TX7) (N := 7) hx hb hts hinX7 hown hK hP 0 rfl rfl 0 (by decide) lk0 (fun _ h9 => h9) rfl dX7_starHeight_12 ?_
    refine vp_callSi (pc := 15) (W.runV (As := []) (rest := []) ⟨hx, hb, hml, hown, hts⟩ (c_X3_deepestStars l D cI cL cZ (ar 0) ag kd2_5 ed2_5 cd2_5 nn2_5 (TC_RD c8 (hrd c8))) (cwV 0 hts gX7_starHeight_X3_deepestStars rfl rfl rfl (by decide +kernel) ⟨Nat.le_of_ble_eq_true rfl, Nat.le_of_ble_eq_true rfl⟩) (rP_V (wc := [(ar 0, .inr (2, oE ag nn2_5)), (ag 0, .inl (cI, 18, .inl (nA kd2_5))), (ag 1, .inl (cI, 18, .inl (nA ed2_5))), (ag 2, .inl (cL, 18, .inr (.inl (lA cd2_5))))]) (ci := 2) (q0 := 0) hK hP [1, 2, 3, 4] rfl rfl rfl) rfl rfl hl.1 rfl (lv_room (Nat.le_of_ble_eq_true rfl)) dX7_starHeight_15 ⟨Nat.zero_le _, Nat.zero_le _⟩) (fun r9 hrr => ?_)
    rw [hrr]
    refine lv_goto (pc := 18) (tgt := 22) hx hb dX7_starHeight_18 (by decide) ?_
    have hP9 : va_P D vwCl [(hq, .inr (5, oR ar cur)), (ar 0, .inr (2, oE ag nn2_5)), (ag 0, .inl (cI, 18, .inl (nA kd2_5))), (ag 1, .inl (cI, 18, .inl (nA ed2_5))), (ag 2, .inl (cL, 18, .inr (.inl (lA cd2_5))))] H := hP.sub [0, 1, 2, 3, 4] rfl
    have hD9 : va_D _ [(hq, .inr (5, oR ar cur)), (ar 0, .inr (2, oE ag nn2_5)), (ag 0, .inl (cI, 18, .inl (nA kd2_5))), (ag 1, .inl (cI, 18, .inl (nA ed2_5))), (ag 2, .inl (cL, 18, .inr (.inl (lA cd2_5))))] := hD.sub [0, 1, 2, 3, 4] (by decide) rfl
    exact W.iret (pc := 22) (v := (nI (dSF kd2_5 ed2_5 nn2_5))) hx hb hr (fun t ht hW => ⟨⟨_, (kd2_5, ed2_5, cd2_5, nn2_5), rfl, ⟨(by unfold aSH; rw [if_pos c8, dSF_RD (hrd c8)]), trivial⟩, by rw [ht]; exact hP9, va_K.moved hW.alike hK, hD9⟩, hS.F ht⟩) hS.2.2 dX7_starHeight_22
