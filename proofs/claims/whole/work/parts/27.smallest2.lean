/-! the reference: the answers of the search -/
set_option maxHeartbeats 4000000 in
set_option maxRecDepth 100000 in
theorem c_X8_smallest (l : Launch) (D : va_G) (cI cL cZ : ClassId) (sz : Nat) (hm : Nat) (am : Nat → Nat) (n : Nat) (pos : Nat) (cmp : Nat) (que : Nat) (dsz : Nat) (mad : Nat) (cur : Nat) (stp : Nat) (cn : Nat) (bst : Nat) (dgt : Nat → Nat) (rt : Nat → Nat) (mt : Nat → Nat) (ds : Nat → Nat) (hcur : okVb cur = true) : Met l yX8_smallest wsX8_smallest { frames := 8, cells := 0, slots := 0, locals := 190 } (mP D (tyL cI cL cZ) [(hm, .inr (6, oM am n pos cmp que dsz mad cur stp cn bst)), (am 1, .inl (cI, 18, .inl (nA dgt))), (am 20, .inl (cI, 36, .inl (nA rt))), (am 27, .inl (cL, 60, .inr (.inl (lA mt)))), (am 28, .inl (cI, 60, .inl (nA ds)))] sz [.ref hm]) (va_Ql (fun (r : Int64) (u : Nat × (Nat → Nat) × Nat × (Nat → Nat) × (Nat → Nat) × (Nat → Nat) × Nat × Nat) => r = (aSm cur) ∧ (True)) (fun (u : Nat × (Nat → Nat) × Nat × (Nat → Nat) × (Nat → Nat) × (Nat → Nat) × Nat × Nat) (t : State) => mB D (tyL cI cL cZ) (va_A [(hm, .inr (6, oM am n pos cmp que dsz mad cur stp cn bst)), (am 1, .inl (cI, 18, .inl (nA dgt))), (am 20, .inl (cI, 36, .inl (nA rt))), (am 27, .inl (cL, 60, .inr (.inl (lA mt)))), (am 28, .inl (cI, 60, .inl (nA ds)))] sz) [(hm, .inr (6, oM am (u.1) pos cmp que dsz (u.2.2.1) cur stp (u.2.2.2.2.2.2.1) (u.2.2.2.2.2.2.2))), (am 1, .inl (cI, 18, .inl (nA (u.2.1)))), (am 20, .inl (cI, 36, .inl (nA (u.2.2.2.1)))), (am 27, .inl (cL, 60, .inr (.inl (lA (u.2.2.2.2.1))))), (am 28, .inl (cI, 60, .inl (nA (u.2.2.2.2.2.1))))] t) (va_A [(hm, .inr (6, oM am n pos cmp que dsz mad cur stp cn bst)), (am 1, .inl (cI, 18, .inl (nA dgt))), (am 20, .inl (cI, 36, .inl (nA rt))), (am 27, .inl (cL, 60, .inr (.inl (lA mt)))), (am 28, .inl (cI, 60, .inl (nA ds)))] sz)) 0 0 (va_A [(hm, .inr (6, oM am n pos cmp que dsz mad cur stp cn bst)), (am 1, .inl (cI, 18, .inl (nA dgt))), (am 20, .inl (cI, 36, .inl (nA rt))), (am 27, .inl (cL, 60, .inr (.inl (lA mt)))), (am 28, .inl (cI, 60, .inl (nA ds)))] sz) := by
  refine Met.ofW (cc := cX8_smallest) (maxL := 1) (ret := (some .long)) (by decide) rfl ?_
  intro pG eG s mG args below meth cG s₁ B hml hpre9
  obtain ⟨rfl, hsz, hP, hK, hD0⟩ := hpre9
  have hx := B.exec
  have hb := B.bytes
  have hr := B.returns
  have hts := atoms_spec (ws := wsX8_smallest) B.pre
  have hown : s.vm.findClass RX8 = some mG.cls := findClass_of_methodNamed B.named
  have hlocks := B.notSynchronized
  subst hsz
  have hD := hD0.self (sz := s.heap.size)
  have hA : ∀ q : Nat, s.heap.size ≤ q → va_A [(hm, .inr (6, oM am n pos cmp que dsz mad cur stp cn bst)), (am 1, .inl (cI, 18, .inl (nA dgt))), (am 20, .inl (cI, 36, .inl (nA rt))), (am 27, .inl (cL, 60, .inr (.inl (lA mt)))), (am 28, .inl (cI, 60, .inl (nA ds)))] s.heap.size q := fun q h => Or.inr h
  have hS : va_S (va_A [(hm, .inr (6, oM am n pos cmp que dsz mad cur stp cn bst)), (am 1, .inl (cI, 18, .inl (nA dgt))), (am 20, .inl (cI, 36, .inl (nA rt))), (am 27, .inl (cL, 60, .inr (.inl (lA mt)))), (am 28, .inl (cI, 60, .inl (nA ds)))] s.heap.size) s.heap s.heap [] := va_S.rf
  have hinX8 : ∀ w ∈ wsX80, w ∈ wsX8_smallest := fun w HH => (List.mem_cons_of_mem _ (List.mem_append_right _ HH))
  have lk0 : (Cond.constantLong RX8 251 (-6)).before _ s = true := hts _ (List.mem_cons_of_mem _ (List.mem_append_left _ (List.mem_append_left _ (List.mem_of_getElem? (i := 2) rfl))))
  have lk1 : (Cond.fieldLink RX8 68 "RegexSimplifierModel" "metRegex" "[J").before _ s = true := hts _ (List.mem_cons_of_mem _ (List.mem_append_left _ (List.mem_append_left _ (List.mem_of_getElem? (i := 0) rfl))))
  have lk2 : (Cond.fieldLink RX8 241 "RegexSimplifierModel" "best" "I").before _ s = true := hts _ (List.mem_cons_of_mem _ (List.mem_append_left _ (List.mem_append_left _ (List.mem_of_getElem? (i := 1) rfl))))
  have hl := lv_entry ([.ref hm]) (n := 1) (Nat.le_of_ble_eq_true rfl)
  rw [lg_entry_eq]
  generalize (lg_sl ([.ref hm]) ++ List.replicate (1 - (lg_sl ([.ref hm])).length) Slot.unset).toArray = ls at hl ⊢
  have hl : lv_has ls 1 [(0, .ref hm)] := hl
  refine lv_aload_n (pc := 0) hx hb dX8_smallest_0 rfl (lv_at hl 0 rfl) ?_
  refine xm_calli (pc := 1) (wc := [(hm, .inr (6, oM am n pos cmp que dsz mad cur stp cn bst)), (am 1, .inl (cI, 18, .inl (nA dgt))), (am 20, .inl (cI, 36, .inl (nA rt))), (am 27, .inl (cL, 60, .inr (.inl (lA mt)))), (am 28, .inl (cI, 60, .inl (nA ds)))]) (wr := []) (va_runV (As := []) (rest := []) ⟨hx, hb, hml, hown, hts⟩ (c_X8_searches l D cI cL cZ s.heap.size hm am n pos cmp que dsz mad cur stp cn bst dgt rt mt ds (by omega)) (cwV 0 hts gX8_smallest_X8_searches rfl rfl rfl (by decide +kernel) ⟨Nat.le_of_ble_eq_true rfl, Nat.le_of_ble_eq_true rfl⟩) (mP_V (wc := [(hm, .inr (6, oM am n pos cmp que dsz mad cur stp cn bst)), (am 1, .inl (cI, 18, .inl (nA dgt))), (am 20, .inl (cI, 36, .inl (nA rt))), (am 27, .inl (cL, 60, .inr (.inl (lA mt)))), (am 28, .inl (cI, 60, .inl (nA ds)))]) (ci := 6) (q0 := 0) hK hP hD [0, 1, 2, 3, 4] (by decide) rfl rfl rfl) rfl rfl hl.1 rfl (lv_room (Nat.le_of_ble_eq_true rfl)) dX8_smallest_1 ⟨Nat.zero_le _, Nat.zero_le _⟩) hP hD hS hA [0, 1, 2, 3, 4] [] rfl rfl (by decide) (by decide) (fun r9 u H locs hw hP hD hS => ?_)
  obtain ⟨n2_1, dgt2_1, mad2_1, rt2_1, mt2_1, ds2_1, cn2_1, bst2_1⟩ := u
  have hP : va_P D vwCl [(hm, .inr (6, oM am n2_1 pos cmp que dsz mad2_1 cur stp cn2_1 bst2_1)), (am 1, .inl (cI, 18, .inl (nA dgt2_1))), (am 20, .inl (cI, 36, .inl (nA rt2_1))), (am 27, .inl (cL, 60, .inr (.inl (lA mt2_1)))), (am 28, .inl (cI, 60, .inl (nA ds2_1)))] H := hP
  have hD : va_D _ [(hm, .inr (6, oM am n2_1 pos cmp que dsz mad2_1 cur stp cn2_1 bst2_1)), (am 1, .inl (cI, 18, .inl (nA dgt2_1))), (am 20, .inl (cI, 36, .inl (nA rt2_1))), (am 27, .inl (cL, 60, .inr (.inl (lA mt2_1)))), (am 28, .inl (cI, 60, .inl (nA ds2_1)))] := hD
  try dsimp only at hw
  obtain ⟨hrr, hw1⟩ := hw
  rw [hrr]
  rw [sr_O] at hw1
  refine xp_if_eq (pc := 4) (tgt := 19) hx hb dX8_smallest_4 (by decide) (fun c4 => ?_) (fun c4 => ?_)
  · rw [sr_O] at c4
    refine lv_ldc2 (pc := 19) (v := ((-6))) hx hb hown lk0 dX8_smallest_19 ?_
    have hP9 : va_P D vwCl [(hm, .inr (6, oM am n2_1 pos cmp que dsz mad2_1 cur stp cn2_1 bst2_1)), (am 1, .inl (cI, 18, .inl (nA dgt2_1))), (am 20, .inl (cI, 36, .inl (nA rt2_1))), (am 27, .inl (cL, 60, .inr (.inl (lA mt2_1)))), (am 28, .inl (cI, 60, .inl (nA ds2_1)))] H := hP.sub [0, 1, 2, 3, 4] rfl
    have hD9 : va_D _ [(hm, .inr (6, oM am n2_1 pos cmp que dsz mad2_1 cur stp cn2_1 bst2_1)), (am 1, .inl (cI, 18, .inl (nA dgt2_1))), (am 20, .inl (cI, 36, .inl (nA rt2_1))), (am 27, .inl (cL, 60, .inr (.inl (lA mt2_1)))), (am 28, .inl (cI, 60, .inl (nA ds2_1)))] := hD.sub [0, 1, 2, 3, 4] (by decide) rfl
    exact W.lret (pc := 22) (v := ((-6))) hx hb hr (fun t ht hW => ⟨⟨_, (n2_1, dgt2_1, mad2_1, rt2_1, mt2_1, ds2_1, cn2_1, bst2_1), rfl, ⟨(if_neg c4).symm, trivial⟩, by rw [ht]; exact hP9, va_K.moved hW.alike hK, hD9⟩, hS.F ht⟩) hS.2.2 dX8_smallest_22
  · rw [sr_O] at c4
    have hq1 := hw1 c4
    have hsr := sr_all hq1.1 hq1.2.1.1
    have hb60 := hq1.2.1.2.1
    have hbl := bsI_lt mt2_1 cn2_1 hq1.2.1.1
    have hbe := hq1.2.2
    refine lv_aload_n (pc := 7) hx hb dX8_smallest_7 rfl (lv_at hl 0 rfl) ?_
    refine va_get (pc := 8) (D := D) (ci := 6) (v := .ref (am 27)) (C := RX8) (T := TX8) (N := 30) hx hb hts hinX8 hown hK hP 0 rfl rfl 27 (by decide) lk1 (fun _ h9 => h9) rfl dX8_smallest_8 ?_
    refine lv_aload_n (pc := 11) hx hb dX8_smallest_11 rfl (lv_at hl 0 rfl) ?_
    refine va_get (pc := 12) (D := D) (ci := 6) (v := .int (nI bst2_1)) (C := RX8) (T := TX8) (N := 30) hx hb hts hinX8 hown hK hP 0 rfl rfl 29 (by decide) lk2 (fun _ h9 => h9) rfl dX8_smallest_12 ?_
    refine xa_lald (pc := 15) hx hb hK hP 3 1 rfl rfl (by omega) (by omega) dX8_smallest_15 ?_
    refine lv_goto (pc := 16) (tgt := 22) hx hb dX8_smallest_16 (by decide) ?_
    have hP9 : va_P D vwCl [(hm, .inr (6, oM am n2_1 pos cmp que dsz mad2_1 cur stp cn2_1 bst2_1)), (am 1, .inl (cI, 18, .inl (nA dgt2_1))), (am 20, .inl (cI, 36, .inl (nA rt2_1))), (am 27, .inl (cL, 60, .inr (.inl (lA mt2_1)))), (am 28, .inl (cI, 60, .inl (nA ds2_1)))] H := hP.sub [0, 1, 2, 3, 4] rfl
    have hD9 : va_D _ [(hm, .inr (6, oM am n2_1 pos cmp que dsz mad2_1 cur stp cn2_1 bst2_1)), (am 1, .inl (cI, 18, .inl (nA dgt2_1))), (am 20, .inl (cI, 36, .inl (nA rt2_1))), (am 27, .inl (cL, 60, .inr (.inl (lA mt2_1)))), (am 28, .inl (cI, 60, .inl (nA ds2_1)))] := hD.sub [0, 1, 2, 3, 4] (by decide) rfl
    exact W.lret (pc := 22) (v := (lN (mt2_1 bst2_1))) hx hb hr (fun t ht hW => ⟨⟨_, (n2_1, dgt2_1, mad2_1, rt2_1, mt2_1, ds2_1, cn2_1, bst2_1), rfl, ⟨(by unfold aSm; rw [if_pos c4, ← hsr.2.1, hbe]), trivial⟩, by rw [ht]; exact hP9, va_K.moved hW.alike hK, hD9⟩, hS.F ht⟩) hS.2.2 dX8_smallest_22
set_option maxHeartbeats 4000000 in
set_option maxRecDepth 100000 in
theorem c_X8_smallestDistance (l : Launch) (D : va_G) (cI cL cZ : ClassId) (sz : Nat) (hm : Nat) (am : Nat → Nat) (n : Nat) (pos : Nat) (cmp : Nat) (que : Nat) (dsz : Nat) (mad : Nat) (cur : Nat) (stp : Nat) (cn : Nat) (bst : Nat) (dgt : Nat → Nat) (rt : Nat → Nat) (mt : Nat → Nat) (ds : Nat → Nat) (hcur : okVb cur = true) : Met l yX8_smallestDistance wsX8_smallestDistance { frames := 8, cells := 0, slots := 0, locals := 190 } (mP D (tyL cI cL cZ) [(hm, .inr (6, oM am n pos cmp que dsz mad cur stp cn bst)), (am 1, .inl (cI, 18, .inl (nA dgt))), (am 20, .inl (cI, 36, .inl (nA rt))), (am 27, .inl (cL, 60, .inr (.inl (lA mt)))), (am 28, .inl (cI, 60, .inl (nA ds)))] sz [.ref hm]) (va_Qi (fun (r : Int32) (u : Nat × (Nat → Nat) × Nat × (Nat → Nat) × (Nat → Nat) × (Nat → Nat) × Nat × Nat) => r = (aSd cur) ∧ (True)) (fun (u : Nat × (Nat → Nat) × Nat × (Nat → Nat) × (Nat → Nat) × (Nat → Nat) × Nat × Nat) (t : State) => mB D (tyL cI cL cZ) (va_A [(hm, .inr (6, oM am n pos cmp que dsz mad cur stp cn bst)), (am 1, .inl (cI, 18, .inl (nA dgt))), (am 20, .inl (cI, 36, .inl (nA rt))), (am 27, .inl (cL, 60, .inr (.inl (lA mt)))), (am 28, .inl (cI, 60, .inl (nA ds)))] sz) [(hm, .inr (6, oM am (u.1) pos cmp que dsz (u.2.2.1) cur stp (u.2.2.2.2.2.2.1) (u.2.2.2.2.2.2.2))), (am 1, .inl (cI, 18, .inl (nA (u.2.1)))), (am 20, .inl (cI, 36, .inl (nA (u.2.2.2.1)))), (am 27, .inl (cL, 60, .inr (.inl (lA (u.2.2.2.2.1))))), (am 28, .inl (cI, 60, .inl (nA (u.2.2.2.2.2.1))))] t) (va_A [(hm, .inr (6, oM am n pos cmp que dsz mad cur stp cn bst)), (am 1, .inl (cI, 18, .inl (nA dgt))), (am 20, .inl (cI, 36, .inl (nA rt))), (am 27, .inl (cL, 60, .inr (.inl (lA mt)))), (am 28, .inl (cI, 60, .inl (nA ds)))] sz)) 0 0 (va_A [(hm, .inr (6, oM am n pos cmp que dsz mad cur stp cn bst)), (am 1, .inl (cI, 18, .inl (nA dgt))), (am 20, .inl (cI, 36, .inl (nA rt))), (am 27, .inl (cL, 60, .inr (.inl (lA mt)))), (am 28, .inl (cI, 60, .inl (nA ds)))] sz) := by
  refine Met.ofW (cc := cX8_smallestDistance) (maxL := 1) (ret := (some .int)) (by decide) rfl ?_
  intro pG eG s mG args below meth cG s₁ B hml hpre9
  obtain ⟨rfl, hsz, hP, hK, hD0⟩ := hpre9
  have hx := B.exec
  have hb := B.bytes
  have hr := B.returns
  have hts := atoms_spec (ws := wsX8_smallestDistance) B.pre
  have hown : s.vm.findClass RX8 = some mG.cls := findClass_of_methodNamed B.named
  have hlocks := B.notSynchronized
  subst hsz
  have hD := hD0.self (sz := s.heap.size)
  have hA : ∀ q : Nat, s.heap.size ≤ q → va_A [(hm, .inr (6, oM am n pos cmp que dsz mad cur stp cn bst)), (am 1, .inl (cI, 18, .inl (nA dgt))), (am 20, .inl (cI, 36, .inl (nA rt))), (am 27, .inl (cL, 60, .inr (.inl (lA mt)))), (am 28, .inl (cI, 60, .inl (nA ds)))] s.heap.size q := fun q h => Or.inr h
  have hS : va_S (va_A [(hm, .inr (6, oM am n pos cmp que dsz mad cur stp cn bst)), (am 1, .inl (cI, 18, .inl (nA dgt))), (am 20, .inl (cI, 36, .inl (nA rt))), (am 27, .inl (cL, 60, .inr (.inl (lA mt)))), (am 28, .inl (cI, 60, .inl (nA ds)))] s.heap.size) s.heap s.heap [] := va_S.rf
  have hinX8 : ∀ w ∈ wsX80, w ∈ wsX8_smallestDistance := fun w HH => (List.mem_cons_of_mem _ (List.mem_append_right _ HH))
  have lk0 : (Cond.fieldLink RX8 71 "RegexSimplifierModel" "metDistance" "[I").before _ s = true := hts _ (List.mem_cons_of_mem _ (List.mem_append_left _ (List.mem_append_left _ (List.mem_of_getElem? (i := 0) rfl))))
  have lk1 : (Cond.fieldLink RX8 241 "RegexSimplifierModel" "best" "I").before _ s = true := hts _ (List.mem_cons_of_mem _ (List.mem_append_left _ (List.mem_append_left _ (List.mem_of_getElem? (i := 1) rfl))))
  have hl := lv_entry ([.ref hm]) (n := 1) (Nat.le_of_ble_eq_true rfl)
  rw [lg_entry_eq]
  generalize (lg_sl ([.ref hm]) ++ List.replicate (1 - (lg_sl ([.ref hm])).length) Slot.unset).toArray = ls at hl ⊢
  have hl : lv_has ls 1 [(0, .ref hm)] := hl
  refine lv_aload_n (pc := 0) hx hb dX8_smallestDistance_0 rfl (lv_at hl 0 rfl) ?_
  refine xm_calli (pc := 1) (wc := [(hm, .inr (6, oM am n pos cmp que dsz mad cur stp cn bst)), (am 1, .inl (cI, 18, .inl (nA dgt))), (am 20, .inl (cI, 36, .inl (nA rt))), (am 27, .inl (cL, 60, .inr (.inl (lA mt)))), (am 28, .inl (cI, 60, .inl (nA ds)))]) (wr := []) (va_runV (As := []) (rest := []) ⟨hx, hb, hml, hown, hts⟩ (c_X8_searches l D cI cL cZ s.heap.size hm am n pos cmp que dsz mad cur stp cn bst dgt rt mt ds (by omega)) (cwV 0 hts gX8_smallestDistance_X8_searches rfl rfl rfl (by decide +kernel) ⟨Nat.le_of_ble_eq_true rfl, Nat.le_of_ble_eq_true rfl⟩) (mP_V (wc := [(hm, .inr (6, oM am n pos cmp que dsz mad cur stp cn bst)), (am 1, .inl (cI, 18, .inl (nA dgt))), (am 20, .inl (cI, 36, .inl (nA rt))), (am 27, .inl (cL, 60, .inr (.inl (lA mt)))), (am 28, .inl (cI, 60, .inl (nA ds)))]) (ci := 6) (q0 := 0) hK hP hD [0, 1, 2, 3, 4] (by decide) rfl rfl rfl) rfl rfl hl.1 rfl (lv_room (Nat.le_of_ble_eq_true rfl)) dX8_smallestDistance_1 ⟨Nat.zero_le _, Nat.zero_le _⟩) hP hD hS hA [0, 1, 2, 3, 4] [] rfl rfl (by decide) (by decide) (fun r9 u H locs hw hP hD hS => ?_)
  obtain ⟨n2_1, dgt2_1, mad2_1, rt2_1, mt2_1, ds2_1, cn2_1, bst2_1⟩ := u
  have hP : va_P D vwCl [(hm, .inr (6, oM am n2_1 pos cmp que dsz mad2_1 cur stp cn2_1 bst2_1)), (am 1, .inl (cI, 18, .inl (nA dgt2_1))), (am 20, .inl (cI, 36, .inl (nA rt2_1))), (am 27, .inl (cL, 60, .inr (.inl (lA mt2_1)))), (am 28, .inl (cI, 60, .inl (nA ds2_1)))] H := hP
  have hD : va_D _ [(hm, .inr (6, oM am n2_1 pos cmp que dsz mad2_1 cur stp cn2_1 bst2_1)), (am 1, .inl (cI, 18, .inl (nA dgt2_1))), (am 20, .inl (cI, 36, .inl (nA rt2_1))), (am 27, .inl (cL, 60, .inr (.inl (lA mt2_1)))), (am 28, .inl (cI, 60, .inl (nA ds2_1)))] := hD
  try dsimp only at hw
  obtain ⟨hrr, hw1⟩ := hw
  rw [hrr]
  rw [sr_O] at hw1
  refine xp_if_eq (pc := 4) (tgt := 19) hx hb dX8_smallestDistance_4 (by decide) (fun c4 => ?_) (fun c4 => ?_)
  · rw [sr_O] at c4
    refine lv_bipush (pc := 19) (v := ((-6))) hx hb dX8_smallestDistance_19 (by decide) ?_
    have hP9 : va_P D vwCl [(hm, .inr (6, oM am n2_1 pos cmp que dsz mad2_1 cur stp cn2_1 bst2_1)), (am 1, .inl (cI, 18, .inl (nA dgt2_1))), (am 20, .inl (cI, 36, .inl (nA rt2_1))), (am 27, .inl (cL, 60, .inr (.inl (lA mt2_1)))), (am 28, .inl (cI, 60, .inl (nA ds2_1)))] H := hP.sub [0, 1, 2, 3, 4] rfl
    have hD9 : va_D _ [(hm, .inr (6, oM am n2_1 pos cmp que dsz mad2_1 cur stp cn2_1 bst2_1)), (am 1, .inl (cI, 18, .inl (nA dgt2_1))), (am 20, .inl (cI, 36, .inl (nA rt2_1))), (am 27, .inl (cL, 60, .inr (.inl (lA mt2_1)))), (am 28, .inl (cI, 60, .inl (nA ds2_1)))] := hD.sub [0, 1, 2, 3, 4] (by decide) rfl
    exact W.iret (pc := 21) (v := ((-6))) hx hb hr (fun t ht hW => ⟨⟨_, (n2_1, dgt2_1, mad2_1, rt2_1, mt2_1, ds2_1, cn2_1, bst2_1), rfl, ⟨(if_neg c4).symm, trivial⟩, by rw [ht]; exact hP9, va_K.moved hW.alike hK, hD9⟩, hS.F ht⟩) hS.2.2 dX8_smallestDistance_21
  · rw [sr_O] at c4
    have hq1 := hw1 c4
    have hsr := sr_all hq1.1 hq1.2.1.1
    have hb60 := hq1.2.1.2.1
    have hbl := bsI_lt mt2_1 cn2_1 hq1.2.1.1
    have hbe := hq1.2.2
    refine lv_aload_n (pc := 7) hx hb dX8_smallestDistance_7 rfl (lv_at hl 0 rfl) ?_
    refine va_get (pc := 8) (D := D) (ci := 6) (v := .ref (am 28)) (C := RX8) (T := TX8) (N := 30) hx hb hts hinX8 hown hK hP 0 rfl rfl 28 (by decide) lk0 (fun _ h9 => h9) rfl dX8_smallestDistance_8 ?_
    refine lv_aload_n (pc := 11) hx hb dX8_smallestDistance_11 rfl (lv_at hl 0 rfl) ?_
    refine va_get (pc := 12) (D := D) (ci := 6) (v := .int (nI bst2_1)) (C := RX8) (T := TX8) (N := 30) hx hb hts hinX8 hown hK hP 0 rfl rfl 29 (by decide) lk1 (fun _ h9 => h9) rfl dX8_smallestDistance_12 ?_
    refine xa_iald (pc := 15) hx hb hK hP 4 0 rfl rfl (by omega) (by omega) dX8_smallestDistance_15 ?_
    refine lv_goto (pc := 16) (tgt := 21) hx hb dX8_smallestDistance_16 (by decide) ?_
    have hP9 : va_P D vwCl [(hm, .inr (6, oM am n2_1 pos cmp que dsz mad2_1 cur stp cn2_1 bst2_1)), (am 1, .inl (cI, 18, .inl (nA dgt2_1))), (am 20, .inl (cI, 36, .inl (nA rt2_1))), (am 27, .inl (cL, 60, .inr (.inl (lA mt2_1)))), (am 28, .inl (cI, 60, .inl (nA ds2_1)))] H := hP.sub [0, 1, 2, 3, 4] rfl
    have hD9 : va_D _ [(hm, .inr (6, oM am n2_1 pos cmp que dsz mad2_1 cur stp cn2_1 bst2_1)), (am 1, .inl (cI, 18, .inl (nA dgt2_1))), (am 20, .inl (cI, 36, .inl (nA rt2_1))), (am 27, .inl (cL, 60, .inr (.inl (lA mt2_1)))), (am 28, .inl (cI, 60, .inl (nA ds2_1)))] := hD.sub [0, 1, 2, 3, 4] (by decide) rfl
    exact W.iret (pc := 21) (v := (nI (ds2_1 bst2_1))) hx hb hr (fun t ht hW => ⟨⟨_, (n2_1, dgt2_1, mad2_1, rt2_1, mt2_1, ds2_1, cn2_1, bst2_1), rfl, ⟨(by unfold aSd; rw [if_pos c4, ← hsr.2.2, hbe]), trivial⟩, by rw [ht]; exact hP9, va_K.moved hW.alike hK, hD9⟩, hS.F ht⟩) hS.2.2 dX8_smallestDistance_21
set_option maxHeartbeats 4000000 in
set_option maxRecDepth 100000 in
theorem c_X8_reachableCount (l : Launch) (D : va_G) (cI cL cZ : ClassId) (sz : Nat) (hm : Nat) (am : Nat → Nat) (n : Nat) (pos : Nat) (cmp : Nat) (que : Nat) (dsz : Nat) (mad : Nat) (cur : Nat) (stp : Nat) (cn : Nat) (bst : Nat) (dgt : Nat → Nat) (rt : Nat → Nat) (mt : Nat → Nat) (ds : Nat → Nat) (hcur : okVb cur = true) : Met l yX8_reachableCount wsX8_reachableCount { frames := 8, cells := 0, slots := 0, locals := 190 } (mP D (tyL cI cL cZ) [(hm, .inr (6, oM am n pos cmp que dsz mad cur stp cn bst)), (am 1, .inl (cI, 18, .inl (nA dgt))), (am 20, .inl (cI, 36, .inl (nA rt))), (am 27, .inl (cL, 60, .inr (.inl (lA mt)))), (am 28, .inl (cI, 60, .inl (nA ds)))] sz [.ref hm]) (va_Qi (fun (r : Int32) (u : Nat × (Nat → Nat) × Nat × (Nat → Nat) × (Nat → Nat) × (Nat → Nat) × Nat × Nat) => r = (aSc cur) ∧ (True)) (fun (u : Nat × (Nat → Nat) × Nat × (Nat → Nat) × (Nat → Nat) × (Nat → Nat) × Nat × Nat) (t : State) => mB D (tyL cI cL cZ) (va_A [(hm, .inr (6, oM am n pos cmp que dsz mad cur stp cn bst)), (am 1, .inl (cI, 18, .inl (nA dgt))), (am 20, .inl (cI, 36, .inl (nA rt))), (am 27, .inl (cL, 60, .inr (.inl (lA mt)))), (am 28, .inl (cI, 60, .inl (nA ds)))] sz) [(hm, .inr (6, oM am (u.1) pos cmp que dsz (u.2.2.1) cur stp (u.2.2.2.2.2.2.1) (u.2.2.2.2.2.2.2))), (am 1, .inl (cI, 18, .inl (nA (u.2.1)))), (am 20, .inl (cI, 36, .inl (nA (u.2.2.2.1)))), (am 27, .inl (cL, 60, .inr (.inl (lA (u.2.2.2.2.1))))), (am 28, .inl (cI, 60, .inl (nA (u.2.2.2.2.2.1))))] t) (va_A [(hm, .inr (6, oM am n pos cmp que dsz mad cur stp cn bst)), (am 1, .inl (cI, 18, .inl (nA dgt))), (am 20, .inl (cI, 36, .inl (nA rt))), (am 27, .inl (cL, 60, .inr (.inl (lA mt)))), (am 28, .inl (cI, 60, .inl (nA ds)))] sz)) 0 0 (va_A [(hm, .inr (6, oM am n pos cmp que dsz mad cur stp cn bst)), (am 1, .inl (cI, 18, .inl (nA dgt))), (am 20, .inl (cI, 36, .inl (nA rt))), (am 27, .inl (cL, 60, .inr (.inl (lA mt)))), (am 28, .inl (cI, 60, .inl (nA ds)))] sz) := by
  refine Met.ofW (cc := cX8_reachableCount) (maxL := 1) (ret := (some .int)) (by decide) rfl ?_
  intro pG eG s mG args below meth cG s₁ B hml hpre9
  obtain ⟨rfl, hsz, hP, hK, hD0⟩ := hpre9
  have hx := B.exec
  have hb := B.bytes
  have hr := B.returns
  have hts := atoms_spec (ws := wsX8_reachableCount) B.pre
  have hown : s.vm.findClass RX8 = some mG.cls := findClass_of_methodNamed B.named
  have hlocks := B.notSynchronized
  subst hsz
  have hD := hD0.self (sz := s.heap.size)
  have hA : ∀ q : Nat, s.heap.size ≤ q → va_A [(hm, .inr (6, oM am n pos cmp que dsz mad cur stp cn bst)), (am 1, .inl (cI, 18, .inl (nA dgt))), (am 20, .inl (cI, 36, .inl (nA rt))), (am 27, .inl (cL, 60, .inr (.inl (lA mt)))), (am 28, .inl (cI, 60, .inl (nA ds)))] s.heap.size q := fun q h => Or.inr h
  have hS : va_S (va_A [(hm, .inr (6, oM am n pos cmp que dsz mad cur stp cn bst)), (am 1, .inl (cI, 18, .inl (nA dgt))), (am 20, .inl (cI, 36, .inl (nA rt))), (am 27, .inl (cL, 60, .inr (.inl (lA mt)))), (am 28, .inl (cI, 60, .inl (nA ds)))] s.heap.size) s.heap s.heap [] := va_S.rf
  have hinX8 : ∀ w ∈ wsX80, w ∈ wsX8_reachableCount := fun w HH => (List.mem_cons_of_mem _ (List.mem_append_right _ HH))
  have lk0 : (Cond.fieldLink RX8 234 "RegexSimplifierModel" "met" "I").before _ s = true := hts _ (List.mem_cons_of_mem _ (List.mem_append_left _ (List.mem_append_left _ (List.mem_of_getElem? (i := 0) rfl))))
  have hl := lv_entry ([.ref hm]) (n := 1) (Nat.le_of_ble_eq_true rfl)
  rw [lg_entry_eq]
  generalize (lg_sl ([.ref hm]) ++ List.replicate (1 - (lg_sl ([.ref hm])).length) Slot.unset).toArray = ls at hl ⊢
  have hl : lv_has ls 1 [(0, .ref hm)] := hl
  refine lv_aload_n (pc := 0) hx hb dX8_reachableCount_0 rfl (lv_at hl 0 rfl) ?_
  refine xm_calli (pc := 1) (wc := [(hm, .inr (6, oM am n pos cmp que dsz mad cur stp cn bst)), (am 1, .inl (cI, 18, .inl (nA dgt))), (am 20, .inl (cI, 36, .inl (nA rt))), (am 27, .inl (cL, 60, .inr (.inl (lA mt)))), (am 28, .inl (cI, 60, .inl (nA ds)))]) (wr := []) (va_runV (As := []) (rest := []) ⟨hx, hb, hml, hown, hts⟩ (c_X8_searches l D cI cL cZ s.heap.size hm am n pos cmp que dsz mad cur stp cn bst dgt rt mt ds (by omega)) (cwV 0 hts gX8_reachableCount_X8_searches rfl rfl rfl (by decide +kernel) ⟨Nat.le_of_ble_eq_true rfl, Nat.le_of_ble_eq_true rfl⟩) (mP_V (wc := [(hm, .inr (6, oM am n pos cmp que dsz mad cur stp cn bst)), (am 1, .inl (cI, 18, .inl (nA dgt))), (am 20, .inl (cI, 36, .inl (nA rt))), (am 27, .inl (cL, 60, .inr (.inl (lA mt)))), (am 28, .inl (cI, 60, .inl (nA ds)))]) (ci := 6) (q0 := 0) hK hP hD [0, 1, 2, 3, 4] (by decide) rfl rfl rfl) rfl rfl hl.1 rfl (lv_room (Nat.le_of_ble_eq_true rfl)) dX8_reachableCount_1 ⟨Nat.zero_le _, Nat.zero_le _⟩) hP hD hS hA [0, 1, 2, 3, 4] [] rfl rfl (by decide) (by decide) (fun r9 u H locs hw hP hD hS => ?_)
  obtain ⟨n2_1, dgt2_1, mad2_1, rt2_1, mt2_1, ds2_1, cn2_1, bst2_1⟩ := u
  have hP : va_P D vwCl [(hm, .inr (6, oM am n2_1 pos cmp que dsz mad2_1 cur stp cn2_1 bst2_1)), (am 1, .inl (cI, 18, .inl (nA dgt2_1))), (am 20, .inl (cI, 36, .inl (nA rt2_1))), (am 27, .inl (cL, 60, .inr (.inl (lA mt2_1)))), (am 28, .inl (cI, 60, .inl (nA ds2_1)))] H := hP
  have hD : va_D _ [(hm, .inr (6, oM am n2_1 pos cmp que dsz mad2_1 cur stp cn2_1 bst2_1)), (am 1, .inl (cI, 18, .inl (nA dgt2_1))), (am 20, .inl (cI, 36, .inl (nA rt2_1))), (am 27, .inl (cL, 60, .inr (.inl (lA mt2_1)))), (am 28, .inl (cI, 60, .inl (nA ds2_1)))] := hD
  try dsimp only at hw
  obtain ⟨hrr, hw1⟩ := hw
  rw [hrr]
  rw [sr_O] at hw1
  refine xp_if_eq (pc := 4) (tgt := 14) hx hb dX8_reachableCount_4 (by decide) (fun c4 => ?_) (fun c4 => ?_)
  · rw [sr_O] at c4
    refine lv_bipush (pc := 14) (v := ((-6))) hx hb dX8_reachableCount_14 (by decide) ?_
    have hP9 : va_P D vwCl [(hm, .inr (6, oM am n2_1 pos cmp que dsz mad2_1 cur stp cn2_1 bst2_1)), (am 1, .inl (cI, 18, .inl (nA dgt2_1))), (am 20, .inl (cI, 36, .inl (nA rt2_1))), (am 27, .inl (cL, 60, .inr (.inl (lA mt2_1)))), (am 28, .inl (cI, 60, .inl (nA ds2_1)))] H := hP.sub [0, 1, 2, 3, 4] rfl
    have hD9 : va_D _ [(hm, .inr (6, oM am n2_1 pos cmp que dsz mad2_1 cur stp cn2_1 bst2_1)), (am 1, .inl (cI, 18, .inl (nA dgt2_1))), (am 20, .inl (cI, 36, .inl (nA rt2_1))), (am 27, .inl (cL, 60, .inr (.inl (lA mt2_1)))), (am 28, .inl (cI, 60, .inl (nA ds2_1)))] := hD.sub [0, 1, 2, 3, 4] (by decide) rfl
    exact W.iret (pc := 16) (v := ((-6))) hx hb hr (fun t ht hW => ⟨⟨_, (n2_1, dgt2_1, mad2_1, rt2_1, mt2_1, ds2_1, cn2_1, bst2_1), rfl, ⟨(if_neg c4).symm, trivial⟩, by rw [ht]; exact hP9, va_K.moved hW.alike hK, hD9⟩, hS.F ht⟩) hS.2.2 dX8_reachableCount_16
  · rw [sr_O] at c4
    have hq1 := hw1 c4
    have hsr := sr_all hq1.1 hq1.2.1.1
    have hb60 := hq1.2.1.2.1
    have hbl := bsI_lt mt2_1 cn2_1 hq1.2.1.1
    have hbe := hq1.2.2
    refine lv_aload_n (pc := 7) hx hb dX8_reachableCount_7 rfl (lv_at hl 0 rfl) ?_
    refine va_get (pc := 8) (D := D) (ci := 6) (v := .int (nI cn2_1)) (C := RX8) (T := TX8) (N := 30) hx hb hts hinX8 hown hK hP 0 rfl rfl 26 (by decide) lk0 (fun _ h9 => h9) rfl dX8_reachableCount_8 ?_
    refine lv_goto (pc := 11) (tgt := 16) hx hb dX8_reachableCount_11 (by decide) ?_
    have hP9 : va_P D vwCl [(hm, .inr (6, oM am n2_1 pos cmp que dsz mad2_1 cur stp cn2_1 bst2_1)), (am 1, .inl (cI, 18, .inl (nA dgt2_1))), (am 20, .inl (cI, 36, .inl (nA rt2_1))), (am 27, .inl (cL, 60, .inr (.inl (lA mt2_1)))), (am 28, .inl (cI, 60, .inl (nA ds2_1)))] H := hP.sub [0, 1, 2, 3, 4] rfl
    have hD9 : va_D _ [(hm, .inr (6, oM am n2_1 pos cmp que dsz mad2_1 cur stp cn2_1 bst2_1)), (am 1, .inl (cI, 18, .inl (nA dgt2_1))), (am 20, .inl (cI, 36, .inl (nA rt2_1))), (am 27, .inl (cL, 60, .inr (.inl (lA mt2_1)))), (am 28, .inl (cI, 60, .inl (nA ds2_1)))] := hD.sub [0, 1, 2, 3, 4] (by decide) rfl
    exact W.iret (pc := 16) (v := (nI (cn2_1))) hx hb hr (fun t ht hW => ⟨⟨_, (n2_1, dgt2_1, mad2_1, rt2_1, mt2_1, ds2_1, cn2_1, bst2_1), rfl, ⟨(by unfold aSc; rw [if_pos c4, ← hsr.1]), trivial⟩, by rw [ht]; exact hP9, va_K.moved hW.alike hK, hD9⟩, hS.F ht⟩) hS.2.2 dX8_reachableCount_16
