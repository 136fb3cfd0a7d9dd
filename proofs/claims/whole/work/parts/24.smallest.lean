/-! the class: the answers of the search -/
set_option maxHeartbeats 4000000 in
set_option maxRecDepth 100000 in
theorem c_X7_smallest (l : Launch) (D : va_G) (cI cL cZ : ClassId) (tp tr : Nat) (sz : Nat) (hq : Nat) (ar : Nat → Nat) (cur : Nat) (as1 : Nat → Nat) (mt : Nat → Nat) (ds : Nat → Nat) (cn : Nat) (ax : Nat → Nat) (kd : Nat → Nat) (ed : Nat → Nat) (cd : Nat → Nat) (nn : Nat) (hcur : okVb cur = true) : Met l yX7_smallest wsX7_smallest { frames := 6, cells := 0, slots := 0, locals := 152 } (mPS D (tyL cI cL cZ) tp tr [(hq, .inr (5, oR ar cur)), (ar 4, .inr (3, oS as1 cn)), (as1 1, .inl (cL, 60, .inr (.inl (lA mt)))), (as1 2, .inl (cI, 60, .inl (nA ds))), (as1 0, .inr (2, oE ax nn)), (ax 0, .inl (cI, 18, .inl (nA kd))), (ax 1, .inl (cI, 18, .inl (nA ed))), (ax 2, .inl (cL, 18, .inr (.inl (lA cd))))] sz [.ref hq]) (va_Ql (fun (r : Int64) (u : (Nat → Nat) × (Nat → Nat) × Nat × (Nat → Nat) × (Nat → Nat) × (Nat → Nat) × Nat) => r = (aSm cur) ∧ (True)) (fun (u : (Nat → Nat) × (Nat → Nat) × Nat × (Nat → Nat) × (Nat → Nat) × (Nat → Nat) × Nat) (t : State) => mB D (tyL cI cL cZ) (va_A [(hq, .inr (5, oR ar cur)), (ar 4, .inr (3, oS as1 cn)), (as1 1, .inl (cL, 60, .inr (.inl (lA mt)))), (as1 2, .inl (cI, 60, .inl (nA ds))), (as1 0, .inr (2, oE ax nn)), (ax 0, .inl (cI, 18, .inl (nA kd))), (ax 1, .inl (cI, 18, .inl (nA ed))), (ax 2, .inl (cL, 18, .inr (.inl (lA cd))))] sz) [(hq, .inr (5, oR ar cur)), (ar 4, .inr (3, oS as1 (u.2.2.1))), (as1 1, .inl (cL, 60, .inr (.inl (lA (u.1))))), (as1 2, .inl (cI, 60, .inl (nA (u.2.1)))), (as1 0, .inr (2, oE ax (u.2.2.2.2.2.2))), (ax 0, .inl (cI, 18, .inl (nA (u.2.2.2.1)))), (ax 1, .inl (cI, 18, .inl (nA (u.2.2.2.2.1)))), (ax 2, .inl (cL, 18, .inr (.inl (lA (u.2.2.2.2.2.1)))))] t) (va_A [(hq, .inr (5, oR ar cur)), (ar 4, .inr (3, oS as1 cn)), (as1 1, .inl (cL, 60, .inr (.inl (lA mt)))), (as1 2, .inl (cI, 60, .inl (nA ds))), (as1 0, .inr (2, oE ax nn)), (ax 0, .inl (cI, 18, .inl (nA kd))), (ax 1, .inl (cI, 18, .inl (nA ed))), (ax 2, .inl (cL, 18, .inr (.inl (lA cd))))] sz)) 0 0 (va_A [(hq, .inr (5, oR ar cur)), (ar 4, .inr (3, oS as1 cn)), (as1 1, .inl (cL, 60, .inr (.inl (lA mt)))), (as1 2, .inl (cI, 60, .inl (nA ds))), (as1 0, .inr (2, oE ax nn)), (ax 0, .inl (cI, 18, .inl (nA kd))), (ax 1, .inl (cI, 18, .inl (nA ed))), (ax 2, .inl (cL, 18, .inr (.inl (lA cd))))] sz) := by
  refine Met.ofW (cc := cX7_smallest) (maxL := 1) (ret := (some .long)) (by decide) rfl ?_
  intro pG eG s mG args below meth cG s₁ B hml hpre9
  obtain ⟨rfl, hsz, hP, hK, hD0, hZ⟩ := hpre9
  have hx := B.exec
  have hb := B.bytes
  have hr := B.returns
  have hts := atoms_spec (ws := wsX7_smallest) B.pre
  have hown : s.vm.findClass RX7 = some mG.cls := findClass_of_methodNamed B.named
  have hlocks := B.notSynchronized
  subst hsz
  have hD := hD0.self (sz := s.heap.size)
  have hA : ∀ q : Nat, s.heap.size ≤ q → va_A [(hq, .inr (5, oR ar cur)), (ar 4, .inr (3, oS as1 cn)), (as1 1, .inl (cL, 60, .inr (.inl (lA mt)))), (as1 2, .inl (cI, 60, .inl (nA ds))), (as1 0, .inr (2, oE ax nn)), (ax 0, .inl (cI, 18, .inl (nA kd))), (ax 1, .inl (cI, 18, .inl (nA ed))), (ax 2, .inl (cL, 18, .inr (.inl (lA cd))))] s.heap.size q := fun q h => Or.inr h
  have hS : va_S (va_A [(hq, .inr (5, oR ar cur)), (ar 4, .inr (3, oS as1 cn)), (as1 1, .inl (cL, 60, .inr (.inl (lA mt)))), (as1 2, .inl (cI, 60, .inl (nA ds))), (as1 0, .inr (2, oE ax nn)), (ax 0, .inl (cI, 18, .inl (nA kd))), (ax 1, .inl (cI, 18, .inl (nA ed))), (ax 2, .inl (cL, 18, .inr (.inl (lA cd))))] s.heap.size) s.heap s.heap [] := va_S.rf
  have hinX7 : ∀ w ∈ wsX70, w ∈ wsX7_smallest := fun w HH => (List.mem_cons_of_mem _ (List.mem_append_left _ (List.mem_append_left _ (List.mem_append_right _ HH))))
  have lk0 : (Cond.fieldLink RX7 36 "RegexSimplifier" "search" "LRegexSimplifier$Search;").before _ s = true := hts _ (List.mem_cons_of_mem _ (List.mem_append_left _ (List.mem_append_left _ (List.mem_append_left _ (List.mem_append_left _ (List.mem_of_getElem? (i := 0) rfl))))))
  have lk1 : (Cond.fieldLink RX7 47 "RegexSimplifier" "currentCode" "J").before _ s = true := hts _ (List.mem_cons_of_mem _ (List.mem_append_left _ (List.mem_append_left _ (List.mem_append_left _ (List.mem_append_left _ (List.mem_of_getElem? (i := 1) rfl))))))
  have lk2 : (Cond.constantLong RX7 145 (-6)).before _ s = true := hts _ (List.mem_cons_of_mem _ (List.mem_append_left _ (List.mem_append_left _ (List.mem_append_left _ (List.mem_append_left _ (List.mem_of_getElem? (i := 2) rfl))))))
  have hl := lv_entry ([.ref hq]) (n := 1) (Nat.le_of_ble_eq_true rfl)
  rw [lg_entry_eq]
  generalize (lg_sl ([.ref hq]) ++ List.replicate (1 - (lg_sl ([.ref hq])).length) Slot.unset).toArray = ls at hl ⊢
  have hl : lv_has ls 1 [(0, .ref hq)] := hl
  refine lv_aload_n (pc := 0) hx hb dX7_smallest_0 rfl (lv_at hl 0 rfl) ?_
  refine va_get (pc := 1) (D := D) (ci := 5) (v := .ref (ar 4)) (C := RX7) (T := TX7) (N := 7) hx hb hts hinX7 hown hK hP 0 rfl rfl 4 (by decide) lk0 (fun _ h9 => h9) rfl dX7_smallest_1 ?_
  refine lv_aload_n (pc := 4) hx hb dX7_smallest_4 rfl (lv_at hl 0 rfl) ?_
  refine va_get (pc := 5) (D := D) (ci := 5) (v := .long (lN cur)) (C := RX7) (T := TX7) (N := 7) hx hb hts hinX7 hown hK hP 0 rfl rfl 6 (by decide) lk1 (fun _ h9 => h9) rfl dX7_smallest_5 ?_
  refine xm_calli (pc := 8) (wc := [(ar 4, .inr (3, oS as1 cn)), (as1 1, .inl (cL, 60, .inr (.inl (lA mt)))), (as1 2, .inl (cI, 60, .inl (nA ds))), (as1 0, .inr (2, oE ax nn)), (ax 0, .inl (cI, 18, .inl (nA kd))), (ax 1, .inl (cI, 18, .inl (nA ed))), (ax 2, .inl (cL, 18, .inr (.inl (lA cd))))]) (wr := [(hq, .inr (5, oR ar cur))]) (va_runV (As := [.long (lN cur)]) (rest := []) ⟨hx, hb, hml, hown, hts⟩ (c_X5_run l D cI cL cZ tp tr s.heap.size (ar 4) as1 mt ds cn ax kd ed cd nn cur (by omega)) (cwV 1 hts gX7_smallest_X5_run rfl rfl rfl (by decide +kernel) ⟨Nat.le_of_ble_eq_true rfl, Nat.le_of_ble_eq_true rfl⟩) (mPS_V (wc := [(ar 4, .inr (3, oS as1 cn)), (as1 1, .inl (cL, 60, .inr (.inl (lA mt)))), (as1 2, .inl (cI, 60, .inl (nA ds))), (as1 0, .inr (2, oE ax nn)), (ax 0, .inl (cI, 18, .inl (nA kd))), (ax 1, .inl (cI, 18, .inl (nA ed))), (ax 2, .inl (cL, 18, .inr (.inl (lA cd))))]) (ci := 3) (q0 := 0) hK hP hD hZ hS hA [1, 2, 3, 4, 5, 6, 7] (by decide) rfl rfl rfl) rfl rfl hl.1 rfl (lv_room (Nat.le_of_ble_eq_true rfl)) dX7_smallest_8 ⟨Nat.zero_le _, Nat.zero_le _⟩) hP hD hS hA [1, 2, 3, 4, 5, 6, 7] [0] rfl rfl (by decide) (by decide) (fun r9 u H locs hw hP hD hS => ?_)
  obtain ⟨mt2_8, ds2_8, cn2_8, kd2_8, ed2_8, cd2_8, nn2_8⟩ := u
  have hP : va_P D vwCl [(hq, .inr (5, oR ar cur)), (ar 4, .inr (3, oS as1 cn2_8)), (as1 1, .inl (cL, 60, .inr (.inl (lA mt2_8)))), (as1 2, .inl (cI, 60, .inl (nA ds2_8))), (as1 0, .inr (2, oE ax nn2_8)), (ax 0, .inl (cI, 18, .inl (nA kd2_8))), (ax 1, .inl (cI, 18, .inl (nA ed2_8))), (ax 2, .inl (cL, 18, .inr (.inl (lA cd2_8))))] H := hP
  have hD : va_D _ [(hq, .inr (5, oR ar cur)), (ar 4, .inr (3, oS as1 cn2_8)), (as1 1, .inl (cL, 60, .inr (.inl (lA mt2_8)))), (as1 2, .inl (cI, 60, .inl (nA ds2_8))), (as1 0, .inr (2, oE ax nn2_8)), (ax 0, .inl (cI, 18, .inl (nA kd2_8))), (ax 1, .inl (cI, 18, .inl (nA ed2_8))), (ax 2, .inl (cL, 18, .inr (.inl (lA cd2_8))))] := hD
  try dsimp only at hw
  obtain ⟨hrr, hw8⟩ := hw
  rw [hrr]
  rw [sr_O] at hw8
  refine xp_if_eq (pc := 11) (tgt := 24) hx hb dX7_smallest_11 (by decide) (fun c11 => ?_) (fun c11 => ?_)
  · rw [sr_O] at c11
    refine lv_ldc2 (pc := 24) (v := ((-6))) hx hb hown lk2 dX7_smallest_24 ?_
    have hP9 : va_P D vwCl [(hq, .inr (5, oR ar cur)), (ar 4, .inr (3, oS as1 cn2_8)), (as1 1, .inl (cL, 60, .inr (.inl (lA mt2_8)))), (as1 2, .inl (cI, 60, .inl (nA ds2_8))), (as1 0, .inr (2, oE ax nn2_8)), (ax 0, .inl (cI, 18, .inl (nA kd2_8))), (ax 1, .inl (cI, 18, .inl (nA ed2_8))), (ax 2, .inl (cL, 18, .inr (.inl (lA cd2_8))))] H := hP.sub [0, 1, 2, 3, 4, 5, 6, 7] rfl
    have hD9 : va_D _ [(hq, .inr (5, oR ar cur)), (ar 4, .inr (3, oS as1 cn2_8)), (as1 1, .inl (cL, 60, .inr (.inl (lA mt2_8)))), (as1 2, .inl (cI, 60, .inl (nA ds2_8))), (as1 0, .inr (2, oE ax nn2_8)), (ax 0, .inl (cI, 18, .inl (nA kd2_8))), (ax 1, .inl (cI, 18, .inl (nA ed2_8))), (ax 2, .inl (cL, 18, .inr (.inl (lA cd2_8))))] := hD.sub [0, 1, 2, 3, 4, 5, 6, 7] (by decide) rfl
    exact W.lret (pc := 27) (v := ((-6))) hx hb hr (fun t ht hW => ⟨⟨_, (mt2_8, ds2_8, cn2_8, kd2_8, ed2_8, cd2_8, nn2_8), rfl, ⟨(if_neg c11).symm, trivial⟩, by rw [ht]; exact hP9, va_K.moved hW.alike hK, hD9⟩, hS.F ht⟩) hS.2.2 dX7_smallest_27
  · rw [sr_O] at c11
    have hq8 := hw8 c11
    have hsr := sr_all hq8.1 hq8.2.1
    refine lv_aload_n (pc := 14) hx hb dX7_smallest_14 rfl (lv_at hl 0 rfl) ?_
    refine va_get (pc := 15) (D := D) (ci := 5) (v := .ref (ar 4)) (C := RX7) (T := TX7) (N := 7) hx hb hts hinX7 hown hK hP 0 rfl rfl 4 (by decide) lk0 (fun _ h9 => h9) rfl dX7_smallest_15 ?_
    refine vp_callSl (pc := 18) (W.runV (As := []) (rest := []) ⟨hx, hb, hml, hown, hts⟩ (c_X5_answer l D cI cL cZ tp tr (ar 4) as1 mt2_8 ds2_8 cn2_8 hq8.2.2.1 hq8.2.lt hq8.2.1) (cwV 0 hts gX7_smallest_X5_answer rfl rfl rfl (by decide +kernel) ⟨Nat.le_of_ble_eq_true rfl, Nat.le_of_ble_eq_true rfl⟩) (rPS_V (wc := [(ar 4, .inr (3, oS as1 cn2_8)), (as1 1, .inl (cL, 60, .inr (.inl (lA mt2_8)))), (as1 2, .inl (cI, 60, .inl (nA ds2_8)))]) (ci := 3) (q0 := 0) hK hP hZ hS [1, 2, 3] rfl rfl rfl) rfl rfl hl.1 rfl (lv_room (Nat.le_of_ble_eq_true rfl)) dX7_smallest_18 ⟨Nat.zero_le _, Nat.zero_le _⟩) (fun r9 hrr => ?_)
    rw [hrr]
    refine lv_goto (pc := 21) (tgt := 27) hx hb dX7_smallest_21 (by decide) ?_
    have hP9 : va_P D vwCl [(hq, .inr (5, oR ar cur)), (ar 4, .inr (3, oS as1 cn2_8)), (as1 1, .inl (cL, 60, .inr (.inl (lA mt2_8)))), (as1 2, .inl (cI, 60, .inl (nA ds2_8))), (as1 0, .inr (2, oE ax nn2_8)), (ax 0, .inl (cI, 18, .inl (nA kd2_8))), (ax 1, .inl (cI, 18, .inl (nA ed2_8))), (ax 2, .inl (cL, 18, .inr (.inl (lA cd2_8))))] H := hP.sub [0, 1, 2, 3, 4, 5, 6, 7] rfl
    have hD9 : va_D _ [(hq, .inr (5, oR ar cur)), (ar 4, .inr (3, oS as1 cn2_8)), (as1 1, .inl (cL, 60, .inr (.inl (lA mt2_8)))), (as1 2, .inl (cI, 60, .inl (nA ds2_8))), (as1 0, .inr (2, oE ax nn2_8)), (ax 0, .inl (cI, 18, .inl (nA kd2_8))), (ax 1, .inl (cI, 18, .inl (nA ed2_8))), (ax 2, .inl (cL, 18, .inr (.inl (lA cd2_8))))] := hD.sub [0, 1, 2, 3, 4, 5, 6, 7] (by decide) rfl
    exact W.lret (pc := 27) (v := (lN (mt2_8 (bsI mt2_8 cn2_8)))) hx hb hr (fun t ht hW => ⟨⟨_, (mt2_8, ds2_8, cn2_8, kd2_8, ed2_8, cd2_8, nn2_8), rfl, ⟨(by unfold aSm; rw [if_pos c11, hsr.2.1]), trivial⟩, by rw [ht]; exact hP9, va_K.moved hW.alike hK, hD9⟩, hS.F ht⟩) hS.2.2 dX7_smallest_27
set_option maxHeartbeats 4000000 in
set_option maxRecDepth 100000 in
theorem c_X7_smallestDistance (l : Launch) (D : va_G) (cI cL cZ : ClassId) (tp tr : Nat) (sz : Nat) (hq : Nat) (ar : Nat → Nat) (cur : Nat) (as1 : Nat → Nat) (mt : Nat → Nat) (ds : Nat → Nat) (cn : Nat) (ax : Nat → Nat) (kd : Nat → Nat) (ed : Nat → Nat) (cd : Nat → Nat) (nn : Nat) (hcur : okVb cur = true) : Met l yX7_smallestDistance wsX7_smallestDistance { frames := 6, cells := 0, slots := 0, locals := 152 } (mPS D (tyL cI cL cZ) tp tr [(hq, .inr (5, oR ar cur)), (ar 4, .inr (3, oS as1 cn)), (as1 1, .inl (cL, 60, .inr (.inl (lA mt)))), (as1 2, .inl (cI, 60, .inl (nA ds))), (as1 0, .inr (2, oE ax nn)), (ax 0, .inl (cI, 18, .inl (nA kd))), (ax 1, .inl (cI, 18, .inl (nA ed))), (ax 2, .inl (cL, 18, .inr (.inl (lA cd))))] sz [.ref hq]) (va_Qi (fun (r : Int32) (u : (Nat → Nat) × (Nat → Nat) × Nat × (Nat → Nat) × (Nat → Nat) × (Nat → Nat) × Nat) => r = (aSd cur) ∧ (True)) (fun (u : (Nat → Nat) × (Nat → Nat) × Nat × (Nat → Nat) × (Nat → Nat) × (Nat → Nat) × Nat) (t : State) => mB D (tyL cI cL cZ) (va_A [(hq, .inr (5, oR ar cur)), (ar 4, .inr (3, oS as1 cn)), (as1 1, .inl (cL, 60, .inr (.inl (lA mt)))), (as1 2, .inl (cI, 60, .inl (nA ds))), (as1 0, .inr (2, oE ax nn)), (ax 0, .inl (cI, 18, .inl (nA kd))), (ax 1, .inl (cI, 18, .inl (nA ed))), (ax 2, .inl (cL, 18, .inr (.inl (lA cd))))] sz) [(hq, .inr (5, oR ar cur)), (ar 4, .inr (3, oS as1 (u.2.2.1))), (as1 1, .inl (cL, 60, .inr (.inl (lA (u.1))))), (as1 2, .inl (cI, 60, .inl (nA (u.2.1)))), (as1 0, .inr (2, oE ax (u.2.2.2.2.2.2))), (ax 0, .inl (cI, 18, .inl (nA (u.2.2.2.1)))), (ax 1, .inl (cI, 18, .inl (nA (u.2.2.2.2.1)))), (ax 2, .inl (cL, 18, .inr (.inl (lA (u.2.2.2.2.2.1)))))] t) (va_A [(hq, .inr (5, oR ar cur)), (ar 4, .inr (3, oS as1 cn)), (as1 1, .inl (cL, 60, .inr (.inl (lA mt)))), (as1 2, .inl (cI, 60, .inl (nA ds))), (as1 0, .inr (2, oE ax nn)), (ax 0, .inl (cI, 18, .inl (nA kd))), (ax 1, .inl (cI, 18, .inl (nA ed))), (ax 2, .inl (cL, 18, .inr (.inl (lA cd))))] sz)) 0 0 (va_A [(hq, .inr (5, oR ar cur)), (ar 4, .inr (3, oS as1 cn)), (as1 1, .inl (cL, 60, .inr (.inl (lA mt)))), (as1 2, .inl (cI, 60, .inl (nA ds))), (as1 0, .inr (2, oE ax nn)), (ax 0, .inl (cI, 18, .inl (nA kd))), (ax 1, .inl (cI, 18, .inl (nA ed))), (ax 2, .inl (cL, 18, .inr (.inl (lA cd))))] sz) := by
  refine Met.ofW (cc := cX7_smallestDistance) (maxL := 1) (ret := (some .int)) (by decide) rfl ?_
  intro pG eG s mG args below meth cG s₁ B hml hpre9
  obtain ⟨rfl, hsz, hP, hK, hD0, hZ⟩ := hpre9
  have hx := B.exec
  have hb := B.bytes
  have hr := B.returns
  have hts := atoms_spec (ws := wsX7_smallestDistance) B.pre
  have hown : s.vm.findClass RX7 = some mG.cls := findClass_of_methodNamed B.named
  have hlocks := B.notSynchronized
  subst hsz
  have hD := hD0.self (sz := s.heap.size)
  have hA : ∀ q : Nat, s.heap.size ≤ q → va_A [(hq, .inr (5, oR ar cur)), (ar 4, .inr (3, oS as1 cn)), (as1 1, .inl (cL, 60, .inr (.inl (lA mt)))), (as1 2, .inl (cI, 60, .inl (nA ds))), (as1 0, .inr (2, oE ax nn)), (ax 0, .inl (cI, 18, .inl (nA kd))), (ax 1, .inl (cI, 18, .inl (nA ed))), (ax 2, .inl (cL, 18, .inr (.inl (lA cd))))] s.heap.size q := fun q h => Or.inr h
  have hS : va_S (va_A [(hq, .inr (5, oR ar cur)), (ar 4, .inr (3, oS as1 cn)), (as1 1, .inl (cL, 60, .inr (.inl (lA mt)))), (as1 2, .inl (cI, 60, .inl (nA ds))), (as1 0, .inr (2, oE ax nn)), (ax 0, .inl (cI, 18, .inl (nA kd))), (ax 1, .inl (cI, 18, .inl (nA ed))), (ax 2, .inl (cL, 18, .inr (.inl (lA cd))))] s.heap.size) s.heap s.heap [] := va_S.rf
  have hinX7 : ∀ w ∈ wsX70, w ∈ wsX7_smallestDistance := fun w HH => (List.mem_cons_of_mem _ (List.mem_append_left _ (List.mem_append_left _ (List.mem_append_right _ HH))))
  have lk0 : (Cond.fieldLink RX7 36 "RegexSimplifier" "search" "LRegexSimplifier$Search;").before _ s = true := hts _ (List.mem_cons_of_mem _ (List.mem_append_left _ (List.mem_append_left _ (List.mem_append_left _ (List.mem_append_left _ (List.mem_of_getElem? (i := 0) rfl))))))
  have lk1 : (Cond.fieldLink RX7 47 "RegexSimplifier" "currentCode" "J").before _ s = true := hts _ (List.mem_cons_of_mem _ (List.mem_append_left _ (List.mem_append_left _ (List.mem_append_left _ (List.mem_append_left _ (List.mem_of_getElem? (i := 1) rfl))))))
  have hl := lv_entry ([.ref hq]) (n := 1) (Nat.le_of_ble_eq_true rfl)
  rw [lg_entry_eq]
  generalize (lg_sl ([.ref hq]) ++ List.replicate (1 - (lg_sl ([.ref hq])).length) Slot.unset).toArray = ls at hl ⊢
  have hl : lv_has ls 1 [(0, .ref hq)] := hl
  refine lv_aload_n (pc := 0) hx hb dX7_smallestDistance_0 rfl (lv_at hl 0 rfl) ?_
  refine va_get (pc := 1) (D := D) (ci := 5) (v := .ref (ar 4)) (C := RX7) (T := TX7) (N := 7) hx hb hts hinX7 hown hK hP 0 rfl rfl 4 (by decide) lk0 (fun _ h9 => h9) rfl dX7_smallestDistance_1 ?_
  refine lv_aload_n (pc := 4) hx hb dX7_smallestDistance_4 rfl (lv_at hl 0 rfl) ?_
  refine va_get (pc := 5) (D := D) (ci := 5) (v := .long (lN cur)) (C := RX7) (T := TX7) (N := 7) hx hb hts hinX7 hown hK hP 0 rfl rfl 6 (by decide) lk1 (fun _ h9 => h9) rfl dX7_smallestDistance_5 ?_
  refine xm_calli (pc := 8) (wc := [(ar 4, .inr (3, oS as1 cn)), (as1 1, .inl (cL, 60, .inr (.inl (lA mt)))), (as1 2, .inl (cI, 60, .inl (nA ds))), (as1 0, .inr (2, oE ax nn)), (ax 0, .inl (cI, 18, .inl (nA kd))), (ax 1, .inl (cI, 18, .inl (nA ed))), (ax 2, .inl (cL, 18, .inr (.inl (lA cd))))]) (wr := [(hq, .inr (5, oR ar cur))]) (va_runV (As := [.long (lN cur)]) (rest := []) ⟨hx, hb, hml, hown, hts⟩ (c_X5_run l D cI cL cZ tp tr s.heap.size (ar 4) as1 mt ds cn ax kd ed cd nn cur (by omega)) (cwV 1 hts gX7_smallestDistance_X5_run rfl rfl rfl (by decide +kernel) ⟨Nat.le_of_ble_eq_true rfl, Nat.le_of_ble_eq_true rfl⟩) (mPS_V (wc := [(ar 4, .inr (3, oS as1 cn)), (as1 1, .inl (cL, 60, .inr (.inl (lA mt)))), (as1 2, .inl (cI, 60, .inl (nA ds))), (as1 0, .inr (2, oE ax nn)), (ax 0, .inl (cI, 18, .inl (nA kd))), (ax 1, .inl (cI, 18, .inl (nA ed))), (ax 2, .inl (cL, 18, .inr (.inl (lA cd))))]) (ci := 3) (q0 := 0) hK hP hD hZ hS hA [1, 2, 3, 4, 5, 6, 7] (by decide) rfl rfl rfl) rfl rfl hl.1 rfl (lv_room (Nat.le_of_ble_eq_true rfl)) dX7_smallestDistance_8 ⟨Nat.zero_le _, Nat.zero_le _⟩) hP hD hS hA [1, 2, 3, 4, 5, 6, 7] [0] rfl rfl (by decide) (by decide) (fun r9 u H locs hw hP hD hS => ?_)
  obtain ⟨mt2_8, ds2_8, cn2_8, kd2_8, ed2_8, cd2_8, nn2_8⟩ := u
  have hP : va_P D vwCl [(hq, .inr (5, oR ar cur)), (ar 4, .inr (3, oS as1 cn2_8)), (as1 1, .inl (cL, 60, .inr (.inl (lA mt2_8)))), (as1 2, .inl (cI, 60, .inl (nA ds2_8))), (as1 0, .inr (2, oE ax nn2_8)), (ax 0, .inl (cI, 18, .inl (nA kd2_8))), (ax 1, .inl (cI, 18, .inl (nA ed2_8))), (ax 2, .inl (cL, 18, .inr (.inl (lA cd2_8))))] H := hP
  have hD : va_D _ [(hq, .inr (5, oR ar cur)), (ar 4, .inr (3, oS as1 cn2_8)), (as1 1, .inl (cL, 60, .inr (.inl (lA mt2_8)))), (as1 2, .inl (cI, 60, .inl (nA ds2_8))), (as1 0, .inr (2, oE ax nn2_8)), (ax 0, .inl (cI, 18, .inl (nA kd2_8))), (ax 1, .inl (cI, 18, .inl (nA ed2_8))), (ax 2, .inl (cL, 18, .inr (.inl (lA cd2_8))))] := hD
  try dsimp only at hw
  obtain ⟨hrr, hw8⟩ := hw
  rw [hrr]
  rw [sr_O] at hw8
  refine xp_if_eq (pc := 11) (tgt := 24) hx hb dX7_smallestDistance_11 (by decide) (fun c11 => ?_) (fun c11 => ?_)
  · rw [sr_O] at c11
    refine lv_bipush (pc := 24) (v := ((-6))) hx hb dX7_smallestDistance_24 (by decide) ?_
    have hP9 : va_P D vwCl [(hq, .inr (5, oR ar cur)), (ar 4, .inr (3, oS as1 cn2_8)), (as1 1, .inl (cL, 60, .inr (.inl (lA mt2_8)))), (as1 2, .inl (cI, 60, .inl (nA ds2_8))), (as1 0, .inr (2, oE ax nn2_8)), (ax 0, .inl (cI, 18, .inl (nA kd2_8))), (ax 1, .inl (cI, 18, .inl (nA ed2_8))), (ax 2, .inl (cL, 18, .inr (.inl (lA cd2_8))))] H := hP.sub [0, 1, 2, 3, 4, 5, 6, 7] rfl
    have hD9 : va_D _ [(hq, .inr (5, oR ar cur)), (ar 4, .inr (3, oS as1 cn2_8)), (as1 1, .inl (cL, 60, .inr (.inl (lA mt2_8)))), (as1 2, .inl (cI, 60, .inl (nA ds2_8))), (as1 0, .inr (2, oE ax nn2_8)), (ax 0, .inl (cI, 18, .inl (nA kd2_8))), (ax 1, .inl (cI, 18, .inl (nA ed2_8))), (ax 2, .inl (cL, 18, .inr (.inl (lA cd2_8))))] := hD.sub [0, 1, 2, 3, 4, 5, 6, 7] (by decide) rfl
    exact W.iret (pc := 26) (v := ((-6))) hx hb hr (fun t ht hW => ⟨⟨_, (mt2_8, ds2_8, cn2_8, kd2_8, ed2_8, cd2_8, nn2_8), rfl, ⟨(if_neg c11).symm, trivial⟩, by rw [ht]; exact hP9, va_K.moved hW.alike hK, hD9⟩, hS.F ht⟩) hS.2.2 dX7_smallestDistance_26
  · rw [sr_O] at c11
    have hq8 := hw8 c11
    have hsr := sr_all hq8.1 hq8.2.1
    refine lv_aload_n (pc := 14) hx hb dX7_smallestDistance_14 rfl (lv_at hl 0 rfl) ?_
    refine va_get (pc := 15) (D := D) (ci := 5) (v := .ref (ar 4)) (C := RX7) (T := TX7) (N := 7) hx hb hts hinX7 hown hK hP 0 rfl rfl 4 (by decide) lk0 (fun _ h9 => h9) rfl dX7_smallestDistance_15 ?_
    refine vp_callSi (pc := 18) (W.runV (As := []) (rest := []) ⟨hx, hb, hml, hown, hts⟩ (c_X5_answerDistance l D cI cL cZ tp tr (ar 4) as1 mt2_8 ds2_8 cn2_8 hq8.2.2.1 hq8.2.lt hq8.2.1) (cwV 0 hts gX7_smallestDistance_X5_answerDistance rfl rfl rfl (by decide +kernel) ⟨Nat.le_of_ble_eq_true rfl, Nat.le_of_ble_eq_true rfl⟩) (rPS_V (wc := [(ar 4, .inr (3, oS as1 cn2_8)), (as1 1, .inl (cL, 60, .inr (.inl (lA mt2_8)))), (as1 2, .inl (cI, 60, .inl (nA ds2_8)))]) (ci := 3) (q0 := 0) hK hP hZ hS [1, 2, 3] rfl rfl rfl) rfl rfl hl.1 rfl (lv_room (Nat.le_of_ble_eq_true rfl)) dX7_smallestDistance_18 ⟨Nat.zero_le _, Nat.zero_le _⟩) (fun r9 hrr => ?_)
    rw [hrr]
    refine lv_goto (pc := 21) (tgt := 26) hx hb dX7_smallestDistance_21 (by decide) ?_
    have hP9 : va_P D vwCl [(hq, .inr (5, oR ar cur)), (ar 4, .inr (3, oS as1 cn2_8)), (as1 1, .inl (cL, 60, .inr (.inl (lA mt2_8)))), (as1 2, .inl (cI, 60, .inl (nA ds2_8))), (as1 0, .inr (2, oE ax nn2_8)), (ax 0, .inl (cI, 18, .inl (nA kd2_8))), (ax 1, .inl (cI, 18, .inl (nA ed2_8))), (ax 2, .inl (cL, 18, .inr (.inl (lA cd2_8))))] H := hP.sub [0, 1, 2, 3, 4, 5, 6, 7] rfl
    have hD9 : va_D _ [(hq, .inr (5, oR ar cur)), (ar 4, .inr (3, oS as1 cn2_8)), (as1 1, .inl (cL, 60, .inr (.inl (lA mt2_8)))), (as1 2, .inl (cI, 60, .inl (nA ds2_8))), (as1 0, .inr (2, oE ax nn2_8)), (ax 0, .inl (cI, 18, .inl (nA kd2_8))), (ax 1, .inl (cI, 18, .inl (nA ed2_8))), (ax 2, .inl (cL, 18, .inr (.inl (lA cd2_8))))] := hD.sub [0, 1, 2, 3, 4, 5, 6, 7] (by decide) rfl
    exact W.iret (pc := 26) (v := (nI (ds2_8 (bsI mt2_8 cn2_8)))) hx hb hr (fun t ht hW => ⟨⟨_, (mt2_8, ds2_8, cn2_8, kd2_8, ed2_8, cd2_8, nn2_8), rfl, ⟨(by unfold aSd; rw [if_pos c11, hsr.2.2]), trivial⟩, by rw [ht]; exact hP9, va_K.moved hW.alike hK, hD9⟩, hS.F ht⟩) hS.2.2 dX7_smallestDistance_26
set_option maxHeartbeats 4000000 in
set_option maxRecDepth 100000 in
theorem c_X7_reachableCount (l : Launch) (D : va_G) (cI cL cZ : ClassId) (tp tr : Nat) (sz : Nat) (hq : Nat) (ar : Nat → Nat) (cur : Nat) (as1 : Nat → Nat) (mt : Nat → Nat) (ds : Nat → Nat) (cn : Nat) (ax : Nat → Nat) (kd : Nat → Nat) (ed : Nat → Nat) (cd : Nat → Nat) (nn : Nat) (hcur : okVb cur = true) : Met l yX7_reachableCount wsX7_reachableCount { frames := 6, cells := 0, slots := 0, locals := 152 } (mPS D (tyL cI cL cZ) tp tr [(hq, .inr (5, oR ar cur)), (ar 4, .inr (3, oS as1 cn)), (as1 1, .inl (cL, 60, .inr (.inl (lA mt)))), (as1 2, .inl (cI, 60, .inl (nA ds))), (as1 0, .inr (2, oE ax nn)), (ax 0, .inl (cI, 18, .inl (nA kd))), (ax 1, .inl (cI, 18, .inl (nA ed))), (ax 2, .inl (cL, 18, .inr (.inl (lA cd))))] sz [.ref hq]) (va_Qi (fun (r : Int32) (u : (Nat → Nat) × (Nat → Nat) × Nat × (Nat → Nat) × (Nat → Nat) × (Nat → Nat) × Nat) => r = (aSc cur) ∧ (True)) (fun (u : (Nat → Nat) × (Nat → Nat) × Nat × (Nat → Nat) × (Nat → Nat) × (Nat → Nat) × Nat) (t : State) => mB D (tyL cI cL cZ) (va_A [(hq, .inr (5, oR ar cur)), (ar 4, .inr (3, oS as1 cn)), (as1 1, .inl (cL, 60, .inr (.inl (lA mt)))), (as1 2, .inl (cI, 60, .inl (nA ds))), (as1 0, .inr (2, oE ax nn)), (ax 0, .inl (cI, 18, .inl (nA kd))), (ax 1, .inl (cI, 18, .inl (nA ed))), (ax 2, .inl (cL, 18, .inr (.inl (lA cd))))] sz) [(hq, .inr (5, oR ar cur)), (ar 4, .inr (3, oS as1 (u.2.2.1))), (as1 1, .inl (cL, 60, .inr (.inl (lA (u.1))))), (as1 2, .inl (cI, 60, .inl (nA (u.2.1)))), (as1 0, .inr (2, oE ax (u.2.2.2.2.2.2))), (ax 0, .inl (cI, 18, .inl (nA (u.2.2.2.1)))), (ax 1, .inl (cI, 18, .inl (nA (u.2.2.2.2.1)))), (ax 2, .inl (cL, 18, .inr (.inl (lA (u.2.2.2.2.2.1)))))] t) (va_A [(hq, .inr (5, oR ar cur)), (ar 4, .inr (3, oS as1 cn)), (as1 1, .inl (cL, 60, .inr (.inl (lA mt)))), (as1 2, .inl (cI, 60, .inl (nA ds))), (as1 0, .inr (2, oE ax nn)), (ax 0, .inl (cI, 18, .inl (nA kd))), (ax 1, .inl (cI, 18, .inl (nA ed))), (ax 2, .inl (cL, 18, .inr (.inl (lA cd))))] sz)) 0 0 (va_A [(hq, .inr (5, oR ar cur)), (ar 4, .inr (3, oS as1 cn)), (as1 1, .inl (cL, 60, .inr (.inl (lA mt)))), (as1 2, .inl (cI, 60, .inl (nA ds))), (as1 0, .inr (2, oE ax nn)), (ax 0, .inl (cI, 18, .inl (nA kd))), (ax 1, .inl (cI, 18, .inl (nA ed))), (ax 2, .inl (cL, 18, .inr (.inl (lA cd))))] sz) := by
  refine Met.ofW (cc := cX7_reachableCount) (maxL := 1) (ret := (some .int)) (by decide) rfl ?_
  intro pG eG s mG args below meth cG s₁ B hml hpre9
  obtain ⟨rfl, hsz, hP, hK, hD0, hZ⟩ := hpre9
  have hx := B.exec
  have hb := B.bytes
  have hr := B.returns
  have hts := atoms_spec (ws := wsX7_reachableCount) B.pre
  have hown : s.vm.findClass RX7 = some mG.cls := findClass_of_methodNamed B.named
  have hlocks := B.notSynchronized
  subst hsz
  have hD := hD0.self (sz := s.heap.size)
  have hA : ∀ q : Nat, s.heap.size ≤ q → va_A [(hq, .inr (5, oR ar cur)), (ar 4, .inr (3, oS as1 cn)), (as1 1, .inl (cL, 60, .inr (.inl (lA mt)))), (as1 2, .inl (cI, 60, .inl (nA ds))), (as1 0, .inr (2, oE ax nn)), (ax 0, .inl (cI, 18, .inl (nA kd))), (ax 1, .inl (cI, 18, .inl (nA ed))), (ax 2, .inl (cL, 18, .inr (.inl (lA cd))))] s.heap.size q := fun q h => Or.inr h
  have hS : va_S (va_A [(hq, .inr (5, oR ar cur)), (ar 4, .inr (3, oS as1 cn)), (as1 1, .inl (cL, 60, .inr (.inl (lA mt)))), (as1 2, .inl (cI, 60, .inl (nA ds))), (as1 0, .inr (2, oE ax nn)), (ax 0, .inl (cI, 18, .inl (nA kd))), (ax 1, .inl (cI, 18, .inl (nA ed))), (ax 2, .inl (cL, 18, .inr (.inl (lA cd))))] s.heap.size) s.heap s.heap [] := va_S.rf
  have hinX7 : ∀ w ∈ wsX70, w ∈ wsX7_reachableCount := fun w HH => (List.mem_cons_of_mem _ (List.mem_append_left _ (List.mem_append_left _ (List.mem_append_right _ HH))))
  have lk0 : (Cond.fieldLink RX7 36 "RegexSimplifier" "search" "LRegexSimplifier$Search;").before _ s = true := hts _ (List.mem_cons_of_mem _ (List.mem_append_left _ (List.mem_append_left _ (List.mem_append_left _ (List.mem_append_left _ (List.mem_of_getElem? (i := 0) rfl))))))
  have lk1 : (Cond.fieldLink RX7 47 "RegexSimplifier" "currentCode" "J").before _ s = true := hts _ (List.mem_cons_of_mem _ (List.mem_append_left _ (List.mem_append_left _ (List.mem_append_left _ (List.mem_append_left _ (List.mem_of_getElem? (i := 1) rfl))))))
  have hl := lv_entry ([.ref hq]) (n := 1) (Nat.le_of_ble_eq_true rfl)
  rw [lg_entry_eq]
  generalize (lg_sl ([.ref hq]) ++ List.replicate (1 - (lg_sl ([.ref hq])).length) Slot.unset).toArray = ls at hl ⊢
  have hl : lv_has ls 1 [(0, .ref hq)] := hl
  refine lv_aload_n (pc := 0) hx hb dX7_reachableCount_0 rfl (lv_at hl 0 rfl) ?_
  refine va_get (pc := 1) (D := D) (ci := 5) (v := .ref (ar 4)) (C := RX7) (T := TX7) (N := 7) hx hb hts hinX7 hown hK hP 0 rfl rfl 4 (by decide) lk0 (fun _ h9 => h9) rfl dX7_reachableCount_1 ?_
  refine lv_aload_n (pc := 4) hx hb dX7_reachableCount_4 rfl (lv_at hl 0 rfl) ?_
  refine va_get (pc := 5) (D := D) (ci := 5) (v := .long (lN cur)) (C := RX7) (T := TX7) (N := 7) hx hb hts hinX7 hown hK hP 0 rfl rfl 6 (by decide) lk1 (fun _ h9 => h9) rfl dX7_reachableCount_5 ?_
  refine xm_calli (pc := 8) (wc := [(ar 4, .inr (3, oS as1 cn)), (as1 1, .inl (cL, 60, .inr (.inl (lA mt)))), (as1 2, .inl (cI, 60, .inl (nA ds))), (as1 0, .inr (2, oE ax nn)), (ax 0, .inl (cI, 18, .inl (nA kd))), (ax 1, .inl (cI, 18, .inl (nA ed))), (ax 2, .inl (cL, 18, .inr (.inl (lA cd))))]) (wr := [(hq, .inr (5, oR ar cur))]) (va_runV (As := [.long (lN cur)]) (rest := []) ⟨hx, hb, hml, hown, hts⟩ (c_X5_run l D cI cL cZ tp tr s.heap.size (ar 4) as1 mt ds cn ax kd ed cd nn cur (by omega)) (cwV 1 hts gX7_reachableCount_X5_run rfl rfl rfl (by decide +kernel) ⟨Nat.le_of_ble_eq_true rfl, Nat.le_of_ble_eq_true rfl⟩) (mPS_V (wc := [(ar 4, .inr (3, oS as1 cn)), (as1 1, .inl (cL, 60, .inr (.inl (lA mt)))), (as1 2, .inl (cI, 60, .inl (nA ds))), (as1 0, .inr (2, oE ax nn)), (ax 0, .inl (cI, 18, .inl (nA kd))), (ax 1, .inl (cI, 18, .inl (nA ed))), (ax 2, .inl (cL, 18, .inr (.inl (lA cd))))]) (ci := 3) (q0 := 0) hK hP hD hZ hS hA [1, 2, 3, 4, 5, 6, 7] (by decide) rfl rfl rfl) rfl rfl hl.1 rfl (lv_room (Nat.le_of_ble_eq_true rfl)) dX7_reachableCount_8 ⟨Nat.zero_le _, Nat.zero_le _⟩) hP hD hS hA [1, 2, 3, 4, 5, 6, 7] [0] rfl rfl (by decide) (by decide) (fun r9 u H locs hw hP hD hS => ?_)
  obtain ⟨mt2_8, ds2_8, cn2_8, kd2_8, ed2_8, cd2_8, nn2_8⟩ := u
  have hP : va_P D vwCl [(hq, .inr (5, oR ar cur)), (ar 4, .inr (3, oS as1 cn2_8)), (as1 1, .inl (cL, 60, .inr (.inl (lA mt2_8)))), (as1 2, .inl (cI, 60, .inl (nA ds2_8))), (as1 0, .inr (2, oE ax nn2_8)), (ax 0, .inl (cI, 18, .inl (nA kd2_8))), (ax 1, .inl (cI, 18, .inl (nA ed2_8))), (ax 2, .inl (cL, 18, .inr (.inl (lA cd2_8))))] H := hP
  have hD : va_D _ [(hq, .inr (5, oR ar cur)), (ar 4, .inr (3, oS as1 cn2_8)), (as1 1, .inl (cL, 60, .inr (.inl (lA mt2_8)))), (as1 2, .inl (cI, 60, .inl (nA ds2_8))), (as1 0, .inr (2, oE ax nn2_8)), (ax 0, .inl (cI, 18, .inl (nA kd2_8))), (ax 1, .inl (cI, 18, .inl (nA ed2_8))), (ax 2, .inl (cL, 18, .inr (.inl (lA cd2_8))))] := hD
  try dsimp only at hw
  obtain ⟨hrr, hw8⟩ := hw
  rw [hrr]
  rw [sr_O] at hw8
  refine xp_if_eq (pc := 11) (tgt := 24) hx hb dX7_reachableCount_11 (by decide) (fun c11 => ?_) (fun c11 => ?_)
  · rw [sr_O] at c11
    refine lv_bipush (pc := 24) (v := ((-6))) hx hb dX7_reachableCount_24 (by decide) ?_
    have hP9 : va_P D vwCl [(hq, .inr (5, oR ar cur)), (ar 4, .inr (3, oS as1 cn2_8)), (as1 1, .inl (cL, 60, .inr (.inl (lA mt2_8)))), (as1 2, .inl (cI, 60, .inl (nA ds2_8))), (as1 0, .inr (2, oE ax nn2_8)), (ax 0, .inl (cI, 18, .inl (nA kd2_8))), (ax 1, .inl (cI, 18, .inl (nA ed2_8))), (ax 2, .inl (cL, 18, .inr (.inl (lA cd2_8))))] H := hP.sub [0, 1, 2, 3, 4, 5, 6, 7] rfl
    have hD9 : va_D _ [(hq, .inr (5, oR ar cur)), (ar 4, .inr (3, oS as1 cn2_8)), (as1 1, .inl (cL, 60, .inr (.inl (lA mt2_8)))), (as1 2, .inl (cI, 60, .inl (nA ds2_8))), (as1 0, .inr (2, oE ax nn2_8)), (ax 0, .inl (cI, 18, .inl (nA kd2_8))), (ax 1, .inl (cI, 18, .inl (nA ed2_8))), (ax 2, .inl (cL, 18, .inr (.inl (lA cd2_8))))] := hD.sub [0, 1, 2, 3, 4, 5, 6, 7] (by decide) rfl
    exact W.iret (pc := 26) (v := ((-6))) hx hb hr (fun t ht hW => ⟨⟨_, (mt2_8, ds2_8, cn2_8, kd2_8, ed2_8, cd2_8, nn2_8), rfl, ⟨(if_neg c11).symm, trivial⟩, by rw [ht]; exact hP9, va_K.moved hW.alike hK, hD9⟩, hS.F ht⟩) hS.2.2 dX7_reachableCount_26
  · rw [sr_O] at c11
    have hq8 := hw8 c11
    have hsr := sr_all hq8.1 hq8.2.1
    refine lv_aload_n (pc := 14) hx hb dX7_reachableCount_14 rfl (lv_at hl 0 rfl) ?_
    refine va_get (pc := 15) (D := D) (ci := 5) (v := .ref (ar 4)) (C := RX7) (T := TX7) (N := 7) hx hb hts hinX7 hown hK hP 0 rfl rfl 4 (by decide) lk0 (fun _ h9 => h9) rfl dX7_reachableCount_15 ?_
    refine vp_callSi (pc := 18) (W.runV (As := []) (rest := []) ⟨hx, hb, hml, hown, hts⟩ (c_X5_metCount l D cI cL cZ (ar 4) as1 mt2_8 ds2_8 cn2_8) (cwV 0 hts gX7_reachableCount_X5_metCount rfl rfl rfl (by decide +kernel) ⟨Nat.le_of_ble_eq_true rfl, Nat.le_of_ble_eq_true rfl⟩) (rP_V (wc := [(ar 4, .inr (3, oS as1 cn2_8)), (as1 1, .inl (cL, 60, .inr (.inl (lA mt2_8)))), (as1 2, .inl (cI, 60, .inl (nA ds2_8)))]) (ci := 3) (q0 := 0) hK hP [1, 2, 3] rfl rfl rfl) rfl rfl hl.1 rfl (lv_room (Nat.le_of_ble_eq_true rfl)) dX7_reachableCount_18 ⟨Nat.zero_le _, Nat.zero_le _⟩) (fun r9 hrr => ?_)
    rw [hrr]
    refine lv_goto (pc := 21) (tgt := 26) hx hb dX7_reachableCount_21 (by decide) ?_
    have hP9 : va_P D vwCl [(hq, .inr (5, oR ar cur)), (ar 4, .inr (3, oS as1 cn2_8)), (as1 1, .inl (cL, 60, .inr (.inl (lA mt2_8)))), (as1 2, .inl (cI, 60, .inl (nA ds2_8))), (as1 0, .inr (2, oE ax nn2_8)), (ax 0, .inl (cI, 18, .inl (nA kd2_8))), (ax 1, .inl (cI, 18, .inl (nA ed2_8))), (ax 2, .inl (cL, 18, .inr (.inl (lA cd2_8))))] H := hP.sub [0, 1, 2, 3, 4, 5, 6, 7] rfl
    have hD9 : va_D _ [(hq, .inr (5, oR ar cur)), (ar 4, .inr (3, oS as1 cn2_8)), (as1 1, .inl (cL, 60, .inr (.inl (lA mt2_8)))), (as1 2, .inl (cI, 60, .inl (nA ds2_8))), (as1 0, .inr (2, oE ax nn2_8)), (ax 0, .inl (cI, 18, .inl (nA kd2_8))), (ax 1, .inl (cI, 18, .inl (nA ed2_8))), (ax 2, .inl (cL, 18, .inr (.inl (lA cd2_8))))] := hD.sub [0, 1, 2, 3, 4, 5, 6, 7] (by decide) rfl
    exact W.iret (pc := 26) (v := (nI (cn2_8))) hx hb hr (fun t ht hW => ⟨⟨_, (mt2_8, ds2_8, cn2_8, kd2_8, ed2_8, cd2_8, nn2_8), rfl, ⟨(by unfold aSc; rw [if_pos c11, hsr.1]), trivial⟩, by rw [ht]; exact hP9, va_K.moved hW.alike hK, hD9⟩, hS.F ht⟩) hS.2.2 dX7_reachableCount_26
