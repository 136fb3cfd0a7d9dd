/-! Rules: what each method answers, by the accessors of a tree -/
set_option maxHeartbeats 4000000 in
set_option maxRecDepth 100000 in
theorem c_X4_besideUnit (l : Launch) (D : va_G) (cI cL cZ : ClassId) (he : Nat) (ae : Nat → Nat) (kd : Nat → Nat) (ed : Nat → Nat) (cd : Nat → Nat) (nn : Nat) (u : Nat) (l1 : Nat) (r1 : Nat) (tc : TC kd ed cd nn) (hl1 : l1 < 4000) (hr1 : r1 < 4000) (hu : u < 2 ^ 20) : Met l yX4_besideUnit wsX4_besideUnit { frames := 1, cells := 0, slots := 0, locals := 21 } (rP D (tyL cI cL cZ) [(he, .inr (2, oE ae nn)), (ae 0, .inl (cI, 18, .inl (nA kd))), (ae 1, .inl (cI, 18, .inl (nA ed))), (ae 2, .inl (cL, 18, .inr (.inl (lA cd))))] [.ref he, .int (nI u), .int (nI l1), .int (nI r1)]) (vp_Sl (fun r => r = (lN (mBU (kA cd nn) u l1 r1)))) 0 0 (fun _ => False) := by
  refine Met.ofW (cc := cX4_besideUnit) (maxL := 4) (ret := (some .long)) (by decide) rfl ?_
  intro pG eG s mG args below meth cG s₁ B hml hpre9
  obtain ⟨rfl, hP, hK⟩ := hpre9
  have hx := B.exec
  have hb := B.bytes
  have hr := B.returns
  have hts := atoms_spec (ws := wsX4_besideUnit) B.pre
  have hown : s.vm.findClass RX4 = some mG.cls := findClass_of_methodNamed B.named
  have hlocks := B.notSynchronized
  have hS : va_S (fun _ => False) s.heap s.heap [] := va_S.rf
  have hl := lv_entry ([.ref he, .int (nI u), .int (nI l1), .int (nI r1)]) (n := 4) (Nat.le_of_ble_eq_true rfl)
  rw [lg_entry_eq]
  generalize (lg_sl ([.ref he, .int (nI u), .int (nI l1), .int (nI r1)]) ++ List.replicate (4 - (lg_sl ([.ref he, .int (nI u), .int (nI l1), .int (nI r1)])).length) Slot.unset).toArray = ls at hl ⊢
  have hl : lv_has ls 4 [(0, .ref he), (1, .int (nI u)), (2, .int (nI l1)), (3, .int (nI r1))] := hl
  have hn18 := tc.n18
  have hn0 := tc.n0
  refine lv_aload_n (pc := 0) hx hb dX4_besideUnit_0 rfl (lv_at hl 0 rfl) ?_
  refine lv_iload_n (pc := 1) hx hb dX4_besideUnit_1 rfl (lv_at hl 2 rfl) ?_
  refine vp_callSl (pc := 2) (W.runV (As := [.int (nI l1)]) (rest := []) ⟨hx, hb, hml, hown, hts⟩ (c_X3_codeAt l D cI cL cZ he ae kd ed cd nn l1 (by omega) (by omega)) (cwV 1 hts gX4_besideUnit_X3_codeAt rfl rfl rfl (by decide +kernel) ⟨Nat.le_of_ble_eq_true rfl, Nat.le_of_ble_eq_true rfl⟩) (rP_V (wc := [(he, .inr (2, oE ae nn)), (ae 0, .inl (cI, 18, .inl (nA kd))), (ae 1, .inl (cI, 18, .inl (nA ed))), (ae 2, .inl (cL, 18, .inr (.inl (lA cd))))]) (ci := 2) (q0 := 0) hK hP [0, 1, 2, 3] rfl rfl rfl) rfl rfl hl.1 rfl (lv_room (Nat.le_of_ble_eq_true rfl)) dX4_besideUnit_2 ⟨Nat.zero_le _, Nat.zero_le _⟩) (fun r hrr => ?_)
  rw [hrr]
  refine lv_iload_n (pc := 5) hx hb dX4_besideUnit_5 rfl (lv_at hl 1 rfl) ?_
  refine xn_i2l (pc := 6) hx hb (by omega) dX4_besideUnit_6 ?_
  refine xnl_ne (pc := 7) (tgt := 17) hx hb (tc.c63 _) (by omega) dX4_besideUnit_7 dX4_besideUnit_8 (by decide) (fun c7 => ?_) (fun c7 => ?_)
  · refine lv_aload_n (pc := 17) hx hb dX4_besideUnit_17 rfl (lv_at hl 0 rfl) ?_
    refine lv_iload_n (pc := 18) hx hb dX4_besideUnit_18 rfl (lv_at hl 3 rfl) ?_
    refine vp_callSl (pc := 19) (W.runV (As := [.int (nI r1)]) (rest := []) ⟨hx, hb, hml, hown, hts⟩ (c_X3_codeAt l D cI cL cZ he ae kd ed cd nn r1 (by omega) (by omega)) (cwV 1 hts gX4_besideUnit_X3_codeAt rfl rfl rfl (by decide +kernel) ⟨Nat.le_of_ble_eq_true rfl, Nat.le_of_ble_eq_true rfl⟩) (rP_V (wc := [(he, .inr (2, oE ae nn)), (ae 0, .inl (cI, 18, .inl (nA kd))), (ae 1, .inl (cI, 18, .inl (nA ed))), (ae 2, .inl (cL, 18, .inr (.inl (lA cd))))]) (ci := 2) (q0 := 0) hK hP [0, 1, 2, 3] rfl rfl rfl) rfl rfl hl.1 rfl (lv_room (Nat.le_of_ble_eq_true rfl)) dX4_besideUnit_19 ⟨Nat.zero_le _, Nat.zero_le _⟩) (fun r hrr => ?_)
    rw [hrr]
    refine lv_iload_n (pc := 22) hx hb dX4_besideUnit_22 rfl (lv_at hl 1 rfl) ?_
    refine xn_i2l (pc := 23) hx hb (by omega) dX4_besideUnit_23 ?_
    refine xnl_ne (pc := 24) (tgt := 36) hx hb (tc.c63 _) (by omega) dX4_besideUnit_24 dX4_besideUnit_25 (by decide) (fun c24 => ?_) (fun c24 => ?_)
    · refine lv_lconst (pc := 36) (v := (lN (0))) hx hb dX4_besideUnit_36 (by decide) ?_
      exact W.lret (pc := 37) (v := (lN (0))) hx hb hr (fun t ht _ => ⟨_, rfl, (by unfold mBU; (repeat' split) <;> first | rfl | omega), ht⟩) (fun _ h => absurd h List.not_mem_nil) dX4_besideUnit_37
    · refine lv_aload_n (pc := 28) hx hb dX4_besideUnit_28 rfl (lv_at hl 0 rfl) ?_
      refine lv_iload_n (pc := 29) hx hb dX4_besideUnit_29 rfl (lv_at hl 2 rfl) ?_
      refine vp_callSl (pc := 30) (W.runV (As := [.int (nI l1)]) (rest := []) ⟨hx, hb, hml, hown, hts⟩ (c_X3_codeAt l D cI cL cZ he ae kd ed cd nn l1 (by omega) (by omega)) (cwV 1 hts gX4_besideUnit_X3_codeAt rfl rfl rfl (by decide +kernel) ⟨Nat.le_of_ble_eq_true rfl, Nat.le_of_ble_eq_true rfl⟩) (rP_V (wc := [(he, .inr (2, oE ae nn)), (ae 0, .inl (cI, 18, .inl (nA kd))), (ae 1, .inl (cI, 18, .inl (nA ed))), (ae 2, .inl (cL, 18, .inr (.inl (lA cd))))]) (ci := 2) (q0 := 0) hK hP [0, 1, 2, 3] rfl rfl rfl) rfl rfl hl.1 rfl (lv_room (Nat.le_of_ble_eq_true rfl)) dX4_besideUnit_30 ⟨Nat.zero_le _, Nat.zero_le _⟩) (fun r hrr => ?_)
      rw [hrr]
      refine lv_goto (pc := 33) (tgt := 37) hx hb dX4_besideUnit_33 (by decide) ?_
      exact W.lret (pc := 37) (v := (lN (kA cd nn l1))) hx hb hr (fun t ht _ => ⟨_, rfl, (by unfold mBU; (repeat' split) <;> first | rfl | omega), ht⟩) (fun _ h => absurd h List.not_mem_nil) dX4_besideUnit_37
  · refine lv_aload_n (pc := 11) hx hb dX4_besideUnit_11 rfl (lv_at hl 0 rfl) ?_
    refine lv_iload_n (pc := 12) hx hb dX4_besideUnit_12 rfl (lv_at hl 3 rfl) ?_
    refine vp_callSl (pc := 13) (W.runV (As := [.int (nI r1)]) (rest := []) ⟨hx, hb, hml, hown, hts⟩ (c_X3_codeAt l D cI cL cZ he ae kd ed cd nn r1 (by omega) (by omega)) (cwV 1 hts gX4_besideUnit_X3_codeAt rfl rfl rfl (by decide +kernel) ⟨Nat.le_of_ble_eq_true rfl, Nat.le_of_ble_eq_true rfl⟩) (rP_V (wc := [(he, .inr (2, oE ae nn)), (ae 0, .inl (cI, 18, .inl (nA kd))), (ae 1, .inl (cI, 18, .inl (nA ed))), (ae 2, .inl (cL, 18, .inr (.inl (lA cd))))]) (ci := 2) (q0 := 0) hK hP [0, 1, 2, 3] rfl rfl rfl) rfl rfl hl.1 rfl (lv_room (Nat.le_of_ble_eq_true rfl)) dX4_besideUnit_13 ⟨Nat.zero_le _, Nat.zero_le _⟩) (fun r hrr => ?_)
    rw [hrr]
    exact W.lret (pc := 16) (v := (lN (kA cd nn r1))) hx hb hr (fun t ht _ => ⟨_, rfl, (by unfold mBU; (repeat' split) <;> first | rfl | omega), ht⟩) (fun _ h => absurd h List.not_mem_nil) dX4_besideUnit_16
set_option maxHeartbeats 4000000 in
set_option maxRecDepth 100000 in
theorem c_X4_concatenatedEmptySet (l : Launch) (D : va_G) (cI cL cZ : ClassId) (he : Nat) (ae : Nat → Nat) (kd : Nat → Nat) (ed : Nat → Nat) (cd : Nat → Nat) (nn : Nat) (l1 : Nat) (r1 : Nat) (tc : TC kd ed cd nn) (hl1 : l1 < 2000) (hr1 : r1 < 2000) : Met l yX4_concatenatedEmptySet wsX4_concatenatedEmptySet { frames := 1, cells := 0, slots := 0, locals := 21 } (rP D (tyL cI cL cZ) [(he, .inr (2, oE ae nn)), (ae 0, .inl (cI, 18, .inl (nA kd))), (ae 1, .inl (cI, 18, .inl (nA ed))), (ae 2, .inl (cL, 18, .inr (.inl (lA cd))))] [.ref he, .int (nI l1), .int (nI r1)]) (vp_Sl (fun r => r = (lN (mCE (kA cd nn) l1 r1)))) 0 0 (fun _ => False) := by
  refine Met.ofW (cc := cX4_concatenatedEmptySet) (maxL := 4) (ret := (some .long)) (by decide) rfl ?_
  intro pG eG s mG args below meth cG s₁ B hml hpre9
  obtain ⟨rfl, hP, hK⟩ := hpre9
  have hx := B.exec
  have hb := B.bytes
  have hr := B.returns
  have hts := atoms_spec (ws := wsX4_concatenatedEmptySet) B.pre
  have hown : s.vm.findClass RX4 = some mG.cls := findClass_of_methodNamed B.named
  have hlocks := B.notSynchronized
  have hS : va_S (fun _ => False) s.heap s.heap [] := va_S.rf
  have hl := lv_entry ([.ref he, .int (nI l1), .int (nI r1)]) (n := 4) (Nat.le_of_ble_eq_true rfl)
  rw [lg_entry_eq]
  generalize (lg_sl ([.ref he, .int (nI l1), .int (nI r1)]) ++ List.replicate (4 - (lg_sl ([.ref he, .int (nI l1), .int (nI r1)])).length) Slot.unset).toArray = ls at hl ⊢
  have hl : lv_has ls 4 [(0, .ref he), (1, .int (nI l1)), (2, .int (nI r1))] := hl
  have hn18 := tc.n18
  have hn0 := tc.n0
  refine lv_aload_n (pc := 0) hx hb dX4_concatenatedEmptySet_0 rfl (lv_at hl 0 rfl) ?_
  refine lv_iload_n (pc := 1) hx hb dX4_concatenatedEmptySet_1 rfl (lv_at hl 1 rfl) ?_
  refine vp_callSl (pc := 2) (W.runV (As := [.int (nI l1)]) (rest := []) ⟨hx, hb, hml, hown, hts⟩ (c_X3_codeAt l D cI cL cZ he ae kd ed cd nn l1 (by omega) (by omega)) (cwV 1 hts gX4_concatenatedEmptySet_X3_codeAt rfl rfl rfl (by decide +kernel) ⟨Nat.le_of_ble_eq_true rfl, Nat.le_of_ble_eq_true rfl⟩) (rP_V (wc := [(he, .inr (2, oE ae nn)), (ae 0, .inl (cI, 18, .inl (nA kd))), (ae 1, .inl (cI, 18, .inl (nA ed))), (ae 2, .inl (cL, 18, .inr (.inl (lA cd))))]) (ci := 2) (q0 := 0) hK hP [0, 1, 2, 3] rfl rfl rfl) rfl rfl hl.1 rfl (lv_room (Nat.le_of_ble_eq_true rfl)) dX4_concatenatedEmptySet_2 ⟨Nat.zero_le _, Nat.zero_le _⟩) (fun r hrr => ?_)
  rw [hrr]
  refine lv_lconst (pc := 5) (v := (lN (1))) hx hb dX4_concatenatedEmptySet_5 (by decide) ?_
  refine xnl_eq (pc := 6) (tgt := 20) hx hb (tc.c63 _) (by omega) dX4_concatenatedEmptySet_6 dX4_concatenatedEmptySet_7 (by decide) (fun c6 => ?_) (fun c6 => ?_)
  · refine lv_iconst (pc := 20) (v := (nI (1))) hx hb dX4_concatenatedEmptySet_20 (by decide) ?_
    refine lv_goto (pc := 21) (tgt := 25) hx hb dX4_concatenatedEmptySet_21 (by decide) ?_
    refine lv_istore_n (pc := 25) (lv' := [(3, .int (nI 1)), (0, .ref he), (1, .int (nI l1)), (2, .int (nI r1))]) hx hb dX4_concatenatedEmptySet_25 rfl hl (by decide) rfl (fun ls hl => ?_)
    refine lv_iload_n (pc := 26) hx hb dX4_concatenatedEmptySet_26 rfl (lv_at hl 0 rfl) ?_
    refine lv_if_eq (pc := 27) (tgt := 34) hx hb dX4_concatenatedEmptySet_27 (by decide) (fun h => absurd h (by decide)) (fun _ => ?_)
    refine lv_lconst (pc := 30) (v := (lN (1))) hx hb dX4_concatenatedEmptySet_30 (by decide) ?_
    refine lv_goto (pc := 31) (tgt := 35) hx hb dX4_concatenatedEmptySet_31 (by decide) ?_
    exact W.lret (pc := 35) (v := (lN (1))) hx hb hr (fun t ht _ => ⟨_, rfl, (by unfold mCE; (repeat' split) <;> first | rfl | omega), ht⟩) (fun _ h => absurd h List.not_mem_nil) dX4_concatenatedEmptySet_35
  · refine lv_aload_n (pc := 10) hx hb dX4_concatenatedEmptySet_10 rfl (lv_at hl 0 rfl) ?_
    refine lv_iload_n (pc := 11) hx hb dX4_concatenatedEmptySet_11 rfl (lv_at hl 2 rfl) ?_
    refine vp_callSl (pc := 12) (W.runV (As := [.int (nI r1)]) (rest := []) ⟨hx, hb, hml, hown, hts⟩ (c_X3_codeAt l D cI cL cZ he ae kd ed cd nn r1 (by omega) (by omega)) (cwV 1 hts gX4_concatenatedEmptySet_X3_codeAt rfl rfl rfl (by decide +kernel) ⟨Nat.le_of_ble_eq_true rfl, Nat.le_of_ble_eq_true rfl⟩) (rP_V (wc := [(he, .inr (2, oE ae nn)), (ae 0, .inl (cI, 18, .inl (nA kd))), (ae 1, .inl (cI, 18, .inl (nA ed))), (ae 2, .inl (cL, 18, .inr (.inl (lA cd))))]) (ci := 2) (q0 := 0) hK hP [0, 1, 2, 3] rfl rfl rfl) rfl rfl hl.1 rfl (lv_room (Nat.le_of_ble_eq_true rfl)) dX4_concatenatedEmptySet_12 ⟨Nat.zero_le _, Nat.zero_le _⟩) (fun r hrr => ?_)
    rw [hrr]
    refine lv_lconst (pc := 15) (v := (lN (1))) hx hb dX4_concatenatedEmptySet_15 (by decide) ?_
    refine xnl_ne (pc := 16) (tgt := 24) hx hb (tc.c63 _) (by omega) dX4_concatenatedEmptySet_16 dX4_concatenatedEmptySet_17 (by decide) (fun c16 => ?_) (fun c16 => ?_)
    · refine lv_iconst (pc := 24) (v := (nI (0))) hx hb dX4_concatenatedEmptySet_24 (by decide) ?_
      refine lv_istore_n (pc := 25) (lv' := [(3, .int (nI 0)), (0, .ref he), (1, .int (nI l1)), (2, .int (nI r1))]) hx hb dX4_concatenatedEmptySet_25 rfl hl (by decide) rfl (fun ls hl => ?_)
      refine lv_iload_n (pc := 26) hx hb dX4_concatenatedEmptySet_26 rfl (lv_at hl 0 rfl) ?_
      refine lv_if_eq (pc := 27) (tgt := 34) hx hb dX4_concatenatedEmptySet_27 (by decide) (fun _ => ?_) (fun h => absurd h (by decide))
      refine lv_lconst (pc := 34) (v := (lN (0))) hx hb dX4_concatenatedEmptySet_34 (by decide) ?_
      exact W.lret (pc := 35) (v := (lN (0))) hx hb hr (fun t ht _ => ⟨_, rfl, (by unfold mCE; (repeat' split) <;> first | rfl | omega), ht⟩) (fun _ h => absurd h List.not_mem_nil) dX4_concatenatedEmptySet_35
    · refine lv_iconst (pc := 20) (v := (nI (1))) hx hb dX4_concatenatedEmptySet_20 (by decide) ?_
      refine lv_goto (pc := 21) (tgt := 25) hx hb dX4_concatenatedEmptySet_21 (by decide) ?_
      refine lv_istore_n (pc := 25) (lv' := [(3, .int (nI 1)), (0, .ref he), (1, .int (nI l1)), (2, .int (nI r1))]) hx hb dX4_concatenatedEmptySet_25 rfl hl (by decide) rfl (fun ls hl => ?_)
      refine lv_iload_n (pc := 26) hx hb dX4_concatenatedEmptySet_26 rfl (lv_at hl 0 rfl) ?_
      refine lv_if_eq (pc := 27) (tgt := 34) hx hb dX4_concatenatedEmptySet_27 (by decide) (fun h => absurd h (by decide)) (fun _ => ?_)
      refine lv_lconst (pc := 30) (v := (lN (1))) hx hb dX4_concatenatedEmptySet_30 (by decide) ?_
      refine lv_goto (pc := 31) (tgt := 35) hx hb dX4_concatenatedEmptySet_31 (by decide) ?_
      exact W.lret (pc := 35) (v := (lN (1))) hx hb hr (fun t ht _ => ⟨_, rfl, (by unfold mCE; (repeat' split) <;> first | rfl | omega), ht⟩) (fun _ h => absurd h List.not_mem_nil) dX4_concatenatedEmptySet_35
set_option maxHeartbeats 4000000 in
set_option maxRecDepth 100000 in
theorem c_X4_starOfNothing (l : Launch) (D : va_G) (cI cL cZ : ClassId) (he : Nat) (ae : Nat → Nat) (kd : Nat → Nat) (ed : Nat → Nat) (cd : Nat → Nat) (nn : Nat) (o : Nat) (tc : TC kd ed cd nn) (ho : o < 2000) : Met l yX4_starOfNothing wsX4_starOfNothing { frames := 1, cells := 0, slots := 0, locals := 21 } (rP D (tyL cI cL cZ) [(he, .inr (2, oE ae nn)), (ae 0, .inl (cI, 18, .inl (nA kd))), (ae 1, .inl (cI, 18, .inl (nA ed))), (ae 2, .inl (cL, 18, .inr (.inl (lA cd))))] [.ref he, .int (nI o)]) (vp_Sl (fun r => r = (lN (mSN (kA cd nn) o)))) 0 0 (fun _ => False) := by
  refine Met.ofW (cc := cX4_starOfNothing) (maxL := 4) (ret := (some .long)) (by decide) rfl ?_
  intro pG eG s mG args below meth cG s₁ B hml hpre9
  obtain ⟨rfl, hP, hK⟩ := hpre9
  have hx := B.exec
  have hb := B.bytes
  have hr := B.returns
  have hts := atoms_spec (ws := wsX4_starOfNothing) B.pre
  have hown : s.vm.findClass RX4 = some mG.cls := findClass_of_methodNamed B.named
  have hlocks := B.notSynchronized
  have hS : va_S (fun _ => False) s.heap s.heap [] := va_S.rf
  have lk0 : (Cond.constantLong RX4 90 (2)).before _ s = true := hts _ (List.mem_cons_of_mem _ (List.mem_append_left _ (List.mem_of_getElem? (i := 0) rfl)))
  have hl := lv_entry ([.ref he, .int (nI o)]) (n := 4) (Nat.le_of_ble_eq_true rfl)
  rw [lg_entry_eq]
  generalize (lg_sl ([.ref he, .int (nI o)]) ++ List.replicate (4 - (lg_sl ([.ref he, .int (nI o)])).length) Slot.unset).toArray = ls at hl ⊢
  have hl : lv_has ls 4 [(0, .ref he), (1, .int (nI o))] := hl
  have hn18 := tc.n18
  have hn0 := tc.n0
  refine lv_aload_n (pc := 0) hx hb dX4_starOfNothing_0 rfl (lv_at hl 0 rfl) ?_
  refine lv_iload_n (pc := 1) hx hb dX4_starOfNothing_1 rfl (lv_at hl 1 rfl) ?_
  refine vp_callSl (pc := 2) (W.runV (As := [.int (nI o)]) (rest := []) ⟨hx, hb, hml, hown, hts⟩ (c_X3_codeAt l D cI cL cZ he ae kd ed cd nn o (by omega) (by omega)) (cwV 1 hts gX4_starOfNothing_X3_codeAt rfl rfl rfl (by decide +kernel) ⟨Nat.le_of_ble_eq_true rfl, Nat.le_of_ble_eq_true rfl⟩) (rP_V (wc := [(he, .inr (2, oE ae nn)), (ae 0, .inl (cI, 18, .inl (nA kd))), (ae 1, .inl (cI, 18, .inl (nA ed))), (ae 2, .inl (cL, 18, .inr (.inl (lA cd))))]) (ci := 2) (q0 := 0) hK hP [0, 1, 2, 3] rfl rfl rfl) rfl rfl hl.1 rfl (lv_room (Nat.le_of_ble_eq_true rfl)) dX4_starOfNothing_2 ⟨Nat.zero_le _, Nat.zero_le _⟩) (fun r hrr => ?_)
  rw [hrr]
  refine lv_lstore_n (pc := 5) (lv' := [(2, .long (lN (kA cd nn o))), (0, .ref he), (1, .int (nI o))]) hx hb dX4_starOfNothing_5 rfl hl (by decide) rfl (fun ls hl => ?_)
  refine lv_lload_n (pc := 6) hx hb dX4_starOfNothing_6 rfl (lv_at hl 0 rfl) ?_
  refine lv_lconst (pc := 7) (v := (lN (1))) hx hb dX4_starOfNothing_7 (by decide) ?_
  refine xnl_eq (pc := 8) (tgt := 20) hx hb (tc.c63 _) (by omega) dX4_starOfNothing_8 dX4_starOfNothing_9 (by decide) (fun c8 => ?_) (fun c8 => ?_)
  · refine lv_ldc2 (pc := 20) (v := (lN (2))) hx hb hown lk0 dX4_starOfNothing_20 ?_
    refine lv_goto (pc := 23) (tgt := 27) hx hb dX4_starOfNothing_23 (by decide) ?_
    exact W.lret (pc := 27) (v := (lN (2))) hx hb hr (fun t ht _ => ⟨_, rfl, (by unfold mSN; (repeat' split) <;> first | rfl | omega), ht⟩) (fun _ h => absurd h List.not_mem_nil) dX4_starOfNothing_27
  · refine lv_lload_n (pc := 12) hx hb dX4_starOfNothing_12 rfl (lv_at hl 0 rfl) ?_
    refine lv_ldc2 (pc := 13) (v := (lN (2))) hx hb hown lk0 dX4_starOfNothing_13 ?_
    refine xnl_ne (pc := 16) (tgt := 26) hx hb (tc.c63 _) (by omega) dX4_starOfNothing_16 dX4_starOfNothing_17 (by decide) (fun c16 => ?_) (fun c16 => ?_)
    · refine lv_lconst (pc := 26) (v := (lN (0))) hx hb dX4_starOfNothing_26 (by decide) ?_
      exact W.lret (pc := 27) (v := (lN (0))) hx hb hr (fun t ht _ => ⟨_, rfl, (by unfold mSN; (repeat' split) <;> first | rfl | omega), ht⟩) (fun _ h => absurd h List.not_mem_nil) dX4_starOfNothing_27
    · refine lv_ldc2 (pc := 20) (v := (lN (2))) hx hb hown lk0 dX4_starOfNothing_20 ?_
      refine lv_goto (pc := 23) (tgt := 27) hx hb dX4_starOfNothing_23 (by decide) ?_
      exact W.lret (pc := 27) (v := (lN (2))) hx hb hr (fun t ht _ => ⟨_, rfl, (by unfold mSN; (repeat' split) <;> first | rfl | omega), ht⟩) (fun _ h => absurd h List.not_mem_nil) dX4_starOfNothing_27
set_option maxHeartbeats 4000000 in
set_option maxRecDepth 100000 in
theorem c_X4_unionOfSame (l : Launch) (D : va_G) (cI cL cZ : ClassId) (he : Nat) (ae : Nat → Nat) (kd : Nat → Nat) (ed : Nat → Nat) (cd : Nat → Nat) (nn : Nat) (l1 : Nat) (r1 : Nat) (tc : TC kd ed cd nn) (hl1 : l1 < 2000) (hr1 : r1 < 2000) : Met l yX4_unionOfSame wsX4_unionOfSame { frames := 1, cells := 0, slots := 0, locals := 21 } (rP D (tyL cI cL cZ) [(he, .inr (2, oE ae nn)), (ae 0, .inl (cI, 18, .inl (nA kd))), (ae 1, .inl (cI, 18, .inl (nA ed))), (ae 2, .inl (cL, 18, .inr (.inl (lA cd))))] [.ref he, .int (nI l1), .int (nI r1)]) (vp_Sl (fun r => r = (lN (mUS (kA cd nn) l1 r1)))) 0 0 (fun _ => False) := by
  refine Met.ofW (cc := cX4_unionOfSame) (maxL := 3) (ret := (some .long)) (by decide) rfl ?_
  intro pG eG s mG args below meth cG s₁ B hml hpre9
  obtain ⟨rfl, hP, hK⟩ := hpre9
  have hx := B.exec
  have hb := B.bytes
  have hr := B.returns
  have hts := atoms_spec (ws := wsX4_unionOfSame) B.pre
  have hown : s.vm.findClass RX4 = some mG.cls := findClass_of_methodNamed B.named
  have hlocks := B.notSynchronized
  have hS : va_S (fun _ => False) s.heap s.heap [] := va_S.rf
  have hl := lv_entry ([.ref he, .int (nI l1), .int (nI r1)]) (n := 3) (Nat.le_of_ble_eq_true rfl)
  rw [lg_entry_eq]
  generalize (lg_sl ([.ref he, .int (nI l1), .int (nI r1)]) ++ List.replicate (3 - (lg_sl ([.ref he, .int (nI l1), .int (nI r1)])).length) Slot.unset).toArray = ls at hl ⊢
  have hl : lv_has ls 3 [(0, .ref he), (1, .int (nI l1)), (2, .int (nI r1))] := hl
  have hn18 := tc.n18
  have hn0 := tc.n0
  refine lv_aload_n (pc := 0) hx hb dX4_unionOfSame_0 rfl (lv_at hl 0 rfl) ?_
  refine lv_iload_n (pc := 1) hx hb dX4_unionOfSame_1 rfl (lv_at hl 1 rfl) ?_
  refine vp_callSl (pc := 2) (W.runV (As := [.int (nI l1)]) (rest := []) ⟨hx, hb, hml, hown, hts⟩ (c_X3_codeAt l D cI cL cZ he ae kd ed cd nn l1 (by omega) (by omega)) (cwV 1 hts gX4_unionOfSame_X3_codeAt rfl rfl rfl (by decide +kernel) ⟨Nat.le_of_ble_eq_true rfl, Nat.le_of_ble_eq_true rfl⟩) (rP_V (wc := [(he, .inr (2, oE ae nn)), (ae 0, .inl (cI, 18, .inl (nA kd))), (ae 1, .inl (cI, 18, .inl (nA ed))), (ae 2, .inl (cL, 18, .inr (.inl (lA cd))))]) (ci := 2) (q0 := 0) hK hP [0, 1, 2, 3] rfl rfl rfl) rfl rfl hl.1 rfl (lv_room (Nat.le_of_ble_eq_true rfl)) dX4_unionOfSame_2 ⟨Nat.zero_le _, Nat.zero_le _⟩) (fun r hrr => ?_)
  rw [hrr]
  refine lv_aload_n (pc := 5) hx hb dX4_unionOfSame_5 rfl (lv_at hl 0 rfl) ?_
  refine lv_iload_n (pc := 6) hx hb dX4_unionOfSame_6 rfl (lv_at hl 2 rfl) ?_
  refine vp_callSl (pc := 7) (W.runV (As := [.int (nI r1)]) (rest := [.long (lN (kA cd nn l1))]) ⟨hx, hb, hml, hown, hts⟩ (c_X3_codeAt l D cI cL cZ he ae kd ed cd nn r1 (by omega) (by omega)) (cwV 1 hts gX4_unionOfSame_X3_codeAt rfl rfl rfl (by decide +kernel) ⟨Nat.le_of_ble_eq_true rfl, Nat.le_of_ble_eq_true rfl⟩) (rP_V (wc := [(he, .inr (2, oE ae nn)), (ae 0, .inl (cI, 18, .inl (nA kd))), (ae 1, .inl (cI, 18, .inl (nA ed))), (ae 2, .inl (cL, 18, .inr (.inl (lA cd))))]) (ci := 2) (q0 := 0) hK hP [0, 1, 2, 3] rfl rfl rfl) rfl rfl hl.1 rfl (lv_room (Nat.le_of_ble_eq_true rfl)) dX4_unionOfSame_7 ⟨Nat.zero_le _, Nat.zero_le _⟩) (fun r hrr => ?_)
  rw [hrr]
  refine xnl_ne (pc := 10) (tgt := 22) hx hb (tc.c63 _) (tc.c63 _) dX4_unionOfSame_10 dX4_unionOfSame_11 (by decide) (fun c10 => ?_) (fun c10 => ?_)
  · refine lv_lconst (pc := 22) (v := (lN (0))) hx hb dX4_unionOfSame_22 (by decide) ?_
    exact W.lret (pc := 23) (v := (lN (0))) hx hb hr (fun t ht _ => ⟨_, rfl, (by unfold mUS; (repeat' split) <;> first | rfl | omega), ht⟩) (fun _ h => absurd h List.not_mem_nil) dX4_unionOfSame_23
  · refine lv_aload_n (pc := 14) hx hb dX4_unionOfSame_14 rfl (lv_at hl 0 rfl) ?_
    refine lv_iload_n (pc := 15) hx hb dX4_unionOfSame_15 rfl (lv_at hl 1 rfl) ?_
    refine vp_callSl (pc := 16) (W.runV (As := [.int (nI l1)]) (rest := []) ⟨hx, hb, hml, hown, hts⟩ (c_X3_codeAt l D cI cL cZ he ae kd ed cd nn l1 (by omega) (by omega)) (cwV 1 hts gX4_unionOfSame_X3_codeAt rfl rfl rfl (by decide +kernel) ⟨Nat.le_of_ble_eq_true rfl, Nat.le_of_ble_eq_true rfl⟩) (rP_V (wc := [(he, .inr (2, oE ae nn)), (ae 0, .inl (cI, 18, .inl (nA kd))), (ae 1, .inl (cI, 18, .inl (nA ed))), (ae 2, .inl (cL, 18, .inr (.inl (lA cd))))]) (ci := 2) (q0 := 0) hK hP [0, 1, 2, 3] rfl rfl rfl) rfl rfl hl.1 rfl (lv_room (Nat.le_of_ble_eq_true rfl)) dX4_unionOfSame_16 ⟨Nat.zero_le _, Nat.zero_le _⟩) (fun r hrr => ?_)
    rw [hrr]
    refine lv_goto (pc := 19) (tgt := 23) hx hb dX4_unionOfSame_19 (by decide) ?_
    exact W.lret (pc := 23) (v := (lN (kA cd nn l1))) hx hb hr (fun t ht _ => ⟨_, rfl, (by unfold mUS; (repeat' split) <;> first | rfl | omega), ht⟩) (fun _ h => absurd h List.not_mem_nil) dX4_unionOfSame_23
set_option maxHeartbeats 4000000 in
set_option maxRecDepth 100000 in
theorem c_X4_starOfStar (l : Launch) (D : va_G) (cI cL cZ : ClassId) (he : Nat) (ae : Nat → Nat) (kd : Nat → Nat) (ed : Nat → Nat) (cd : Nat → Nat) (nn : Nat) (o : Nat) (tc : TC kd ed cd nn) (ho : o < 2000) : Met l yX4_starOfStar wsX4_starOfStar { frames := 1, cells := 0, slots := 0, locals := 21 } (rP D (tyL cI cL cZ) [(he, .inr (2, oE ae nn)), (ae 0, .inl (cI, 18, .inl (nA kd))), (ae 1, .inl (cI, 18, .inl (nA ed))), (ae 2, .inl (cL, 18, .inr (.inl (lA cd))))] [.ref he, .int (nI o)]) (vp_Sl (fun r => r = (lN (mSS (kA kd nn) (kA cd nn) o)))) 0 0 (fun _ => False) := by
  refine Met.ofW (cc := cX4_starOfStar) (maxL := 2) (ret := (some .long)) (by decide) rfl ?_
  intro pG eG s mG args below meth cG s₁ B hml hpre9
  obtain ⟨rfl, hP, hK⟩ := hpre9
  have hx := B.exec
  have hb := B.bytes
  have hr := B.returns
  have hts := atoms_spec (ws := wsX4_starOfStar) B.pre
  have hown : s.vm.findClass RX4 = some mG.cls := findClass_of_methodNamed B.named
  have hlocks := B.notSynchronized
  have hS : va_S (fun _ => False) s.heap s.heap [] := va_S.rf
  have hl := lv_entry ([.ref he, .int (nI o)]) (n := 2) (Nat.le_of_ble_eq_true rfl)
  rw [lg_entry_eq]
  generalize (lg_sl ([.ref he, .int (nI o)]) ++ List.replicate (2 - (lg_sl ([.ref he, .int (nI o)])).length) Slot.unset).toArray = ls at hl ⊢
  have hl : lv_has ls 2 [(0, .ref he), (1, .int (nI o))] := hl
  have hn18 := tc.n18
  have hn0 := tc.n0
  refine lv_aload_n (pc := 0) hx hb dX4_starOfStar_0 rfl (lv_at hl 0 rfl) ?_
  refine lv_iload_n (pc := 1) hx hb dX4_starOfStar_1 rfl (lv_at hl 1 rfl) ?_
  refine vp_callSi (pc := 2) (W.runV (As := [.int (nI o)]) (rest := []) ⟨hx, hb, hml, hown, hts⟩ (c_X3_kindAt l D cI cL cZ he ae kd ed cd nn o (by omega) (by omega)) (cwV 1 hts gX4_starOfStar_X3_kindAt rfl rfl rfl (by decide +kernel) ⟨Nat.le_of_ble_eq_true rfl, Nat.le_of_ble_eq_true rfl⟩) (rP_V (wc := [(he, .inr (2, oE ae nn)), (ae 0, .inl (cI, 18, .inl (nA kd))), (ae 1, .inl (cI, 18, .inl (nA ed))), (ae 2, .inl (cL, 18, .inr (.inl (lA cd))))]) (ci := 2) (q0 := 0) hK hP [0, 1, 2, 3] rfl rfl rfl) rfl rfl hl.1 rfl (lv_room (Nat.le_of_ble_eq_true rfl)) dX4_starOfStar_2 ⟨Nat.zero_le _, Nat.zero_le _⟩) (fun r hrr => ?_)
  rw [hrr]
  refine lv_bipush (pc := 5) (v := (nI (8))) hx hb dX4_starOfStar_5 (by decide) ?_
  refine xn_icmp_ne (pc := 7) (tgt := 18) hx hb (Nat.lt_of_le_of_lt (tc.k _) (by decide)) (by omega) dX4_starOfStar_7 (by decide) (fun c7 => ?_) (fun c7 => ?_)
  · refine lv_lconst (pc := 18) (v := (lN (0))) hx hb dX4_starOfStar_18 (by decide) ?_
    exact W.lret (pc := 19) (v := (lN (0))) hx hb hr (fun t ht _ => ⟨_, rfl, (by unfold mSS; (repeat' split) <;> first | rfl | omega), ht⟩) (fun _ h => absurd h List.not_mem_nil) dX4_starOfStar_19
  · refine lv_aload_n (pc := 10) hx hb dX4_starOfStar_10 rfl (lv_at hl 0 rfl) ?_
    refine lv_iload_n (pc := 11) hx hb dX4_starOfStar_11 rfl (lv_at hl 1 rfl) ?_
    refine vp_callSl (pc := 12) (W.runV (As := [.int (nI o)]) (rest := []) ⟨hx, hb, hml, hown, hts⟩ (c_X3_codeAt l D cI cL cZ he ae kd ed cd nn o (by omega) (by omega)) (cwV 1 hts gX4_starOfStar_X3_codeAt rfl rfl rfl (by decide +kernel) ⟨Nat.le_of_ble_eq_true rfl, Nat.le_of_ble_eq_true rfl⟩) (rP_V (wc := [(he, .inr (2, oE ae nn)), (ae 0, .inl (cI, 18, .inl (nA kd))), (ae 1, .inl (cI, 18, .inl (nA ed))), (ae 2, .inl (cL, 18, .inr (.inl (lA cd))))]) (ci := 2) (q0 := 0) hK hP [0, 1, 2, 3] rfl rfl rfl) rfl rfl hl.1 rfl (lv_room (Nat.le_of_ble_eq_true rfl)) dX4_starOfStar_12 ⟨Nat.zero_le _, Nat.zero_le _⟩) (fun r hrr => ?_)
    rw [hrr]
    refine lv_goto (pc := 15) (tgt := 19) hx hb dX4_starOfStar_15 (by decide) ?_
    exact W.lret (pc := 19) (v := (lN (kA cd nn o))) hx hb hr (fun t ht _ => ⟨_, rfl, (by unfold mSS; (repeat' split) <;> first | rfl | omega), ht⟩) (fun _ h => absurd h List.not_mem_nil) dX4_starOfStar_19
theorem mBU_63 {d E c : Nat → Nat} {n : Nat} (tc : TC d E c n) (u l r : Nat) : mBU (kA c n) u l r < 2 ^ 63 := by
  unfold mBU; split
  · exact tc.c63 _
  · split
    · exact tc.c63 _
    · decide
set_option maxHeartbeats 4000000 in
set_option maxRecDepth 100000 in
theorem c_X4_starOfOptional (l : Launch) (D : va_G) (cI cL cZ : ClassId) (he : Nat) (ae : Nat → Nat) (kd : Nat → Nat) (ed : Nat → Nat) (cd : Nat → Nat) (nn : Nat) (o : Nat) (tc : TC kd ed cd nn) (ho : o < 2000) : Met l yX4_starOfOptional wsX4_starOfOptional { frames := 2, cells := 0, slots := 0, locals := 47 } (rP D (tyL cI cL cZ) [(he, .inr (2, oE ae nn)), (ae 0, .inl (cI, 18, .inl (nA kd))), (ae 1, .inl (cI, 18, .inl (nA ed))), (ae 2, .inl (cL, 18, .inr (.inl (lA cd))))] [.ref he, .int (nI o)]) (vp_Sl (fun r => r = (lN (mSO (kA kd nn) (kA cd nn) (rA ed nn) o)))) 0 0 (fun _ => False) := by
  refine Met.ofW (cc := cX4_starOfOptional) (maxL := 4) (ret := (some .long)) (by decide) rfl ?_
  intro pG eG s mG args below meth cG s₁ B hml hpre9
  obtain ⟨rfl, hP, hK⟩ := hpre9
  have hx := B.exec
  have hb := B.bytes
  have hr := B.returns
  have hts := atoms_spec (ws := wsX4_starOfOptional) B.pre
  have hown : s.vm.findClass RX4 = some mG.cls := findClass_of_methodNamed B.named
  have hlocks := B.notSynchronized
  have hS : va_S (fun _ => False) s.heap s.heap [] := va_S.rf
  have hl := lv_entry ([.ref he, .int (nI o)]) (n := 4) (Nat.le_of_ble_eq_true rfl)
  rw [lg_entry_eq]
  generalize (lg_sl ([.ref he, .int (nI o)]) ++ List.replicate (4 - (lg_sl ([.ref he, .int (nI o)])).length) Slot.unset).toArray = ls at hl ⊢
  have hl : lv_has ls 4 [(0, .ref he), (1, .int (nI o))] := hl
  have hn18 := tc.n18
  have hn0 := tc.n0
  refine lv_aload_n (pc := 0) hx hb dX4_starOfOptional_0 rfl (lv_at hl 0 rfl) ?_
  refine lv_iload_n (pc := 1) hx hb dX4_starOfOptional_1 rfl (lv_at hl 1 rfl) ?_
  refine vp_callSi (pc := 2) (W.runV (As := [.int (nI o)]) (rest := []) ⟨hx, hb, hml, hown, hts⟩ (c_X3_kindAt l D cI cL cZ he ae kd ed cd nn o (by omega) (by omega)) (cwV 1 hts gX4_starOfOptional_X3_kindAt rfl rfl rfl (by decide +kernel) ⟨Nat.le_of_ble_eq_true rfl, Nat.le_of_ble_eq_true rfl⟩) (rP_V (wc := [(he, .inr (2, oE ae nn)), (ae 0, .inl (cI, 18, .inl (nA kd))), (ae 1, .inl (cI, 18, .inl (nA ed))), (ae 2, .inl (cL, 18, .inr (.inl (lA cd))))]) (ci := 2) (q0 := 0) hK hP [0, 1, 2, 3] rfl rfl rfl) rfl rfl hl.1 rfl (lv_room (Nat.le_of_ble_eq_true rfl)) dX4_starOfOptional_2 ⟨Nat.zero_le _, Nat.zero_le _⟩) (fun r hrr => ?_)
  rw [hrr]
  refine lv_bipush (pc := 5) (v := (nI (6))) hx hb dX4_starOfOptional_5 (by decide) ?_
  refine xn_icmp_eq (pc := 7) (tgt := 12) hx hb (Nat.lt_of_le_of_lt (tc.k _) (by decide)) (by omega) dX4_starOfOptional_7 (by decide) (fun c7 => ?_) (fun c7 => ?_)
  · refine lv_aload_n (pc := 12) hx hb dX4_starOfOptional_12 rfl (lv_at hl 0 rfl) ?_
    refine lv_iconst (pc := 13) (v := (nI (2))) hx hb dX4_starOfOptional_13 (by decide) ?_
    refine lv_aload_n (pc := 14) hx hb dX4_starOfOptional_14 rfl (lv_at hl 0 rfl) ?_
    refine lv_iload_n (pc := 15) hx hb dX4_starOfOptional_15 rfl (lv_at hl 1 rfl) ?_
    refine vp_callSi (pc := 16) (W.runV (As := [.int (nI o)]) (rest := [.int (nI 2), .ref he]) ⟨hx, hb, hml, hown, hts⟩ (c_X3_leftOf l D cI cL cZ he ae kd ed cd nn o) (cwV 1 hts gX4_starOfOptional_X3_leftOf rfl rfl rfl (by decide +kernel) ⟨Nat.le_of_ble_eq_true rfl, Nat.le_of_ble_eq_true rfl⟩) (rP_V (wc := [(he, .inr (2, oE ae nn)), (ae 0, .inl (cI, 18, .inl (nA kd))), (ae 1, .inl (cI, 18, .inl (nA ed))), (ae 2, .inl (cL, 18, .inr (.inl (lA cd))))]) (ci := 2) (q0 := 0) hK hP [0, 1, 2, 3] rfl rfl rfl) rfl rfl hl.1 rfl (lv_room (Nat.le_of_ble_eq_true rfl)) dX4_starOfOptional_16 ⟨Nat.zero_le _, Nat.zero_le _⟩) (fun r hrr => ?_)
    rw [hrr]
    refine lv_aload_n (pc := 19) hx hb dX4_starOfOptional_19 rfl (lv_at hl 0 rfl) ?_
    refine lv_iload_n (pc := 20) hx hb dX4_starOfOptional_20 rfl (lv_at hl 1 rfl) ?_
    refine vp_callSi (pc := 21) (W.runV (As := [.int (nI o)]) (rest := [.int (nI (o + 1)), .int (nI 2), .ref he]) ⟨hx, hb, hml, hown, hts⟩ (c_X3_rightOf l D cI cL cZ he ae kd ed cd nn o (by omega) (by omega) (by omega)) (cwV 1 hts gX4_starOfOptional_X3_rightOf rfl rfl rfl (by decide +kernel) ⟨Nat.le_of_ble_eq_true rfl, Nat.le_of_ble_eq_true rfl⟩) (rP_V (wc := [(he, .inr (2, oE ae nn)), (ae 0, .inl (cI, 18, .inl (nA kd))), (ae 1, .inl (cI, 18, .inl (nA ed))), (ae 2, .inl (cL, 18, .inr (.inl (lA cd))))]) (ci := 2) (q0 := 0) hK hP [0, 1, 2, 3] rfl rfl rfl) rfl rfl hl.1 rfl (lv_room (Nat.le_of_ble_eq_true rfl)) dX4_starOfOptional_21 ⟨Nat.zero_le _, Nat.zero_le _⟩) (fun r hrr => ?_)
    rw [hrr]
    refine vp_callSl (pc := 24) (W.runS (As := [.ref he, .int (nI 2), .int (nI (o + 1)), .int (nI (rA ed nn o))]) (rest := []) ⟨hx, hb, hml, hown, hts⟩ (c_X4_besideUnit l D cI cL cZ he ae kd ed cd nn 2 (o + 1) (rA ed nn o) tc (by omega) (Nat.lt_of_le_of_lt (tc.r _) (by decide)) (by omega)) (va_cwS 4 hts gX4_starOfOptional_X4_besideUnit rfl rfl rfl (by decide +kernel) ⟨Nat.le_of_ble_eq_true rfl, Nat.le_of_ble_eq_true rfl⟩) (rP_S (wc := [(he, .inr (2, oE ae nn)), (ae 0, .inl (cI, 18, .inl (nA kd))), (ae 1, .inl (cI, 18, .inl (nA ed))), (ae 2, .inl (cL, 18, .inr (.inl (lA cd))))]) hK hP [0, 1, 2, 3] rfl) rfl rfl hl.1 rfl (lv_room (Nat.le_of_ble_eq_true rfl)) dX4_starOfOptional_24 ⟨Nat.zero_le _, Nat.zero_le _⟩) (fun r hrr => ?_)
    rw [hrr]
    refine lv_lstore_n (pc := 27) (lv' := [(2, .long (lN (mBU (kA cd nn) 2 (o + 1) (rA ed nn o)))), (0, .ref he), (1, .int (nI o))]) hx hb dX4_starOfOptional_27 rfl hl (by decide) rfl (fun ls hl => ?_)
    refine lv_lload_n (pc := 28) hx hb dX4_starOfOptional_28 rfl (lv_at hl 0 rfl) ?_
    refine lv_lconst (pc := 29) (v := (lN (0))) hx hb dX4_starOfOptional_29 (by decide) ?_
    refine xnl_ne (pc := 30) (tgt := 38) hx hb (mBU_63 tc _ _ _) (by omega) dX4_starOfOptional_30 dX4_starOfOptional_31 (by decide) (fun c30 => ?_) (fun c30 => ?_)
    · refine lv_lload_n (pc := 38) hx hb dX4_starOfOptional_38 rfl (lv_at hl 0 rfl) ?_
      refine vp_callSl (pc := 39) (W.runS (As := [.long (lN (mBU (kA cd nn) 2 (o + 1) (rA ed nn o)))]) (rest := []) ⟨hx, hb, hml, hown, hts⟩ (c_X1_star l D cI cL cZ (mBU (kA cd nn) 2 (o + 1) (rA ed nn o)) (mBU_63 tc _ _ _)) (va_cwS 1 hts gX4_starOfOptional_X1_star rfl rfl rfl (by decide +kernel) ⟨Nat.le_of_ble_eq_true rfl, Nat.le_of_ble_eq_true rfl⟩) (rP_S (wc := []) hK hP [] rfl) rfl rfl hl.1 rfl (lv_room (Nat.le_of_ble_eq_true rfl)) dX4_starOfOptional_39 ⟨Nat.zero_le _, Nat.zero_le _⟩) (fun r hrr => ?_)
      rw [hrr]
      exact W.lret (pc := 42) (v := (lN (stc (mBU (kA cd nn) 2 (o + 1) (rA ed nn o))))) hx hb hr (fun t ht _ => ⟨_, rfl, (by unfold mSO; (repeat' split) <;> first | rfl | omega), ht⟩) (fun _ h => absurd h List.not_mem_nil) dX4_starOfOptional_42
    · refine lv_lconst (pc := 34) (v := (lN (0))) hx hb dX4_starOfOptional_34 (by decide) ?_
      refine lv_goto (pc := 35) (tgt := 42) hx hb dX4_starOfOptional_35 (by decide) ?_
      exact W.lret (pc := 42) (v := (lN (0))) hx hb hr (fun t ht _ => ⟨_, rfl, (by unfold mSO; (repeat' split) <;> first | rfl | omega), ht⟩) (fun _ h => absurd h List.not_mem_nil) dX4_starOfOptional_42
  · refine lv_lconst (pc := 10) (v := (lN (0))) hx hb dX4_starOfOptional_10 (by decide) ?_
    exact W.lret (pc := 11) (v := (lN (0))) hx hb hr (fun t ht _ => ⟨_, rfl, (by unfold mSO; (repeat' split) <;> first | rfl | omega), ht⟩) (fun _ h => absurd h List.not_mem_nil) dX4_starOfOptional_11
set_option maxHeartbeats 4000000 in
set_option maxRecDepth 100000 in
theorem c_X4_sameStarTwice (l : Launch) (D : va_G) (cI cL cZ : ClassId) (he : Nat) (ae : Nat → Nat) (kd : Nat → Nat) (ed : Nat → Nat) (cd : Nat → Nat) (nn : Nat) (l1 : Nat) (r1 : Nat) (tc : TC kd ed cd nn) (hl1 : l1 < 2000) (hr1 : r1 < 2000) : Met l yX4_sameStarTwice wsX4_sameStarTwice { frames := 1, cells := 0, slots := 0, locals := 21 } (rP D (tyL cI cL cZ) [(he, .inr (2, oE ae nn)), (ae 0, .inl (cI, 18, .inl (nA kd))), (ae 1, .inl (cI, 18, .inl (nA ed))), (ae 2, .inl (cL, 18, .inr (.inl (lA cd))))] [.ref he, .int (nI l1), .int (nI r1)]) (vp_Sl (fun r => r = (lN (mST (kA kd nn) (kA cd nn) l1 r1)))) 0 0 (fun _ => False) := by
  refine Met.ofW (cc := cX4_sameStarTwice) (maxL := 4) (ret := (some .long)) (by decide) rfl ?_
  intro pG eG s mG args below meth cG s₁ B hml hpre9
  obtain ⟨rfl, hP, hK⟩ := hpre9
  have hx := B.exec
  have hb := B.bytes
  have hr := B.returns
  have hts := atoms_spec (ws := wsX4_sameStarTwice) B.pre
  have hown : s.vm.findClass RX4 = some mG.cls := findClass_of_methodNamed B.named
  have hlocks := B.notSynchronized
  have hS : va_S (fun _ => False) s.heap s.heap [] := va_S.rf
  have hl := lv_entry ([.ref he, .int (nI l1), .int (nI r1)]) (n := 4) (Nat.le_of_ble_eq_true rfl)
  rw [lg_entry_eq]
  generalize (lg_sl ([.ref he, .int (nI l1), .int (nI r1)]) ++ List.replicate (4 - (lg_sl ([.ref he, .int (nI l1), .int (nI r1)])).length) Slot.unset).toArray = ls at hl ⊢
  have hl : lv_has ls 4 [(0, .ref he), (1, .int (nI l1)), (2, .int (nI r1))] := hl
  have hn18 := tc.n18
  have hn0 := tc.n0
  refine lv_aload_n (pc := 0) hx hb dX4_sameStarTwice_0 rfl (lv_at hl 0 rfl) ?_
  refine lv_iload_n (pc := 1) hx hb dX4_sameStarTwice_1 rfl (lv_at hl 1 rfl) ?_
  refine vp_callSl (pc := 2) (W.runV (As := [.int (nI l1)]) (rest := []) ⟨hx, hb, hml, hown, hts⟩ (c_X3_codeAt l D cI cL cZ he ae kd ed cd nn l1 (by omega) (by omega)) (cwV 1 hts gX4_sameStarTwice_X3_codeAt rfl rfl rfl (by decide +kernel) ⟨Nat.le_of_ble_eq_true rfl, Nat.le_of_ble_eq_true rfl⟩) (rP_V (wc := [(he, .inr (2, oE ae nn)), (ae 0, .inl (cI, 18, .inl (nA kd))), (ae 1, .inl (cI, 18, .inl (nA ed))), (ae 2, .inl (cL, 18, .inr (.inl (lA cd))))]) (ci := 2) (q0 := 0) hK hP [0, 1, 2, 3] rfl rfl rfl) rfl rfl hl.1 rfl (lv_room (Nat.le_of_ble_eq_true rfl)) dX4_sameStarTwice_2 ⟨Nat.zero_le _, Nat.zero_le _⟩) (fun r hrr => ?_)
  rw [hrr]
  refine lv_aload_n (pc := 5) hx hb dX4_sameStarTwice_5 rfl (lv_at hl 0 rfl) ?_
  refine lv_iload_n (pc := 6) hx hb dX4_sameStarTwice_6 rfl (lv_at hl 2 rfl) ?_
  refine vp_callSl (pc := 7) (W.runV (As := [.int (nI r1)]) (rest := [.long (lN (kA cd nn l1))]) ⟨hx, hb, hml, hown, hts⟩ (c_X3_codeAt l D cI cL cZ he ae kd ed cd nn r1 (by omega) (by omega)) (cwV 1 hts gX4_sameStarTwice_X3_codeAt rfl rfl rfl (by decide +kernel) ⟨Nat.le_of_ble_eq_true rfl, Nat.le_of_ble_eq_true rfl⟩) (rP_V (wc := [(he, .inr (2, oE ae nn)), (ae 0, .inl (cI, 18, .inl (nA kd))), (ae 1, .inl (cI, 18, .inl (nA ed))), (ae 2, .inl (cL, 18, .inr (.inl (lA cd))))]) (ci := 2) (q0 := 0) hK hP [0, 1, 2, 3] rfl rfl rfl) rfl rfl hl.1 rfl (lv_room (Nat.le_of_ble_eq_true rfl)) dX4_sameStarTwice_7 ⟨Nat.zero_le _, Nat.zero_le _⟩) (fun r hrr => ?_)
  rw [hrr]
  refine xnl_ne (pc := 10) (tgt := 18) hx hb (tc.c63 _) (tc.c63 _) dX4_sameStarTwice_10 dX4_sameStarTwice_11 (by decide) (fun c10 => ?_) (fun c10 => ?_)
  · refine lv_iconst (pc := 18) (v := (nI (0))) hx hb dX4_sameStarTwice_18 (by decide) ?_
    refine lv_istore_n (pc := 19) (lv' := [(3, .int (nI 0)), (0, .ref he), (1, .int (nI l1)), (2, .int (nI r1))]) hx hb dX4_sameStarTwice_19 rfl hl (by decide) rfl (fun ls hl => ?_)
    refine lv_iload_n (pc := 20) hx hb dX4_sameStarTwice_20 rfl (lv_at hl 0 rfl) ?_
    refine lv_if_eq (pc := 21) (tgt := 42) hx hb dX4_sameStarTwice_21 (by decide) (fun _ => ?_) (fun h => absurd h (by decide))
    refine lv_lconst (pc := 42) (v := (lN (0))) hx hb dX4_sameStarTwice_42 (by decide) ?_
    exact W.lret (pc := 43) (v := (lN (0))) hx hb hr (fun t ht _ => ⟨_, rfl, (by unfold mST; (repeat' split) <;> first | rfl | omega), ht⟩) (fun _ h => absurd h List.not_mem_nil) dX4_sameStarTwice_43
  · refine lv_iconst (pc := 14) (v := (nI (1))) hx hb dX4_sameStarTwice_14 (by decide) ?_
    refine lv_goto (pc := 15) (tgt := 19) hx hb dX4_sameStarTwice_15 (by decide) ?_
    refine lv_istore_n (pc := 19) (lv' := [(3, .int (nI 1)), (0, .ref he), (1, .int (nI l1)), (2, .int (nI r1))]) hx hb dX4_sameStarTwice_19 rfl hl (by decide) rfl (fun ls hl => ?_)
    refine lv_iload_n (pc := 20) hx hb dX4_sameStarTwice_20 rfl (lv_at hl 0 rfl) ?_
    refine lv_if_eq (pc := 21) (tgt := 42) hx hb dX4_sameStarTwice_21 (by decide) (fun h => absurd h (by decide)) (fun _ => ?_)
    refine lv_aload_n (pc := 24) hx hb dX4_sameStarTwice_24 rfl (lv_at hl 1 rfl) ?_
    refine lv_iload_n (pc := 25) hx hb dX4_sameStarTwice_25 rfl (lv_at hl 2 rfl) ?_
    refine vp_callSi (pc := 26) (W.runV (As := [.int (nI l1)]) (rest := []) ⟨hx, hb, hml, hown, hts⟩ (c_X3_kindAt l D cI cL cZ he ae kd ed cd nn l1 (by omega) (by omega)) (cwV 1 hts gX4_sameStarTwice_X3_kindAt rfl rfl rfl (by decide +kernel) ⟨Nat.le_of_ble_eq_true rfl, Nat.le_of_ble_eq_true rfl⟩) (rP_V (wc := [(he, .inr (2, oE ae nn)), (ae 0, .inl (cI, 18, .inl (nA kd))), (ae 1, .inl (cI, 18, .inl (nA ed))), (ae 2, .inl (cL, 18, .inr (.inl (lA cd))))]) (ci := 2) (q0 := 0) hK hP [0, 1, 2, 3] rfl rfl rfl) rfl rfl hl.1 rfl (lv_room (Nat.le_of_ble_eq_true rfl)) dX4_sameStarTwice_26 ⟨Nat.zero_le _, Nat.zero_le _⟩) (fun r hrr => ?_)
    rw [hrr]
    refine lv_bipush (pc := 29) (v := (nI (8))) hx hb dX4_sameStarTwice_29 (by decide) ?_
    refine xn_icmp_ne (pc := 31) (tgt := 42) hx hb (Nat.lt_of_le_of_lt (tc.k _) (by decide)) (by omega) dX4_sameStarTwice_31 (by decide) (fun c31 => ?_) (fun c31 => ?_)
    · refine lv_lconst (pc := 42) (v := (lN (0))) hx hb dX4_sameStarTwice_42 (by decide) ?_
      exact W.lret (pc := 43) (v := (lN (0))) hx hb hr (fun t ht _ => ⟨_, rfl, (by unfold mST; (repeat' split) <;> first | rfl | omega), ht⟩) (fun _ h => absurd h List.not_mem_nil) dX4_sameStarTwice_43
    · refine lv_aload_n (pc := 34) hx hb dX4_sameStarTwice_34 rfl (lv_at hl 1 rfl) ?_
      refine lv_iload_n (pc := 35) hx hb dX4_sameStarTwice_35 rfl (lv_at hl 2 rfl) ?_
      refine vp_callSl (pc := 36) (W.runV (As := [.int (nI l1)]) (rest := []) ⟨hx, hb, hml, hown, hts⟩ (c_X3_codeAt l D cI cL cZ he ae kd ed cd nn l1 (by omega) (by omega)) (cwV 1 hts gX4_sameStarTwice_X3_codeAt rfl rfl rfl (by decide +kernel) ⟨Nat.le_of_ble_eq_true rfl, Nat.le_of_ble_eq_true rfl⟩) (rP_V (wc := [(he, .inr (2, oE ae nn)), (ae 0, .inl (cI, 18, .inl (nA kd))), (ae 1, .inl (cI, 18, .inl (nA ed))), (ae 2, .inl (cL, 18, .inr (.inl (lA cd))))]) (ci := 2) (q0 := 0) hK hP [0, 1, 2, 3] rfl rfl rfl) rfl rfl hl.1 rfl (lv_room (Nat.le_of_ble_eq_true rfl)) dX4_sameStarTwice_36 ⟨Nat.zero_le _, Nat.zero_le _⟩) (fun r hrr => ?_)
      rw [hrr]
      refine lv_goto (pc := 39) (tgt := 43) hx hb dX4_sameStarTwice_39 (by decide) ?_
      exact W.lret (pc := 43) (v := (lN (kA cd nn l1))) hx hb hr (fun t ht _ => ⟨_, rfl, (by unfold mST; (repeat' split) <;> first | rfl | omega), ht⟩) (fun _ h => absurd h List.not_mem_nil) dX4_sameStarTwice_43
set_option maxHeartbeats 4000000 in
set_option maxRecDepth 100000 in
theorem c_X4_starOrEmptyWord (l : Launch) (D : va_G) (cI cL cZ : ClassId) (he : Nat) (ae : Nat → Nat) (kd : Nat → Nat) (ed : Nat → Nat) (cd : Nat → Nat) (nn : Nat) (l1 : Nat) (r1 : Nat) (tc : TC kd ed cd nn) (hl1 : l1 < 2000) (hr1 : r1 < 2000) : Met l yX4_starOrEmptyWord wsX4_starOrEmptyWord { frames := 1, cells := 0, slots := 0, locals := 21 } (rP D (tyL cI cL cZ) [(he, .inr (2, oE ae nn)), (ae 0, .inl (cI, 18, .inl (nA kd))), (ae 1, .inl (cI, 18, .inl (nA ed))), (ae 2, .inl (cL, 18, .inr (.inl (lA cd))))] [.ref he, .int (nI l1), .int (nI r1)]) (vp_Sl (fun r => r = (lN (mSE (kA kd nn) (kA cd nn) l1 r1)))) 0 0 (fun _ => False) := by
  refine Met.ofW (cc := cX4_starOrEmptyWord) (maxL := 4) (ret := (some .long)) (by decide) rfl ?_
  intro pG eG s mG args below meth cG s₁ B hml hpre9
  obtain ⟨rfl, hP, hK⟩ := hpre9
  have hx := B.exec
  have hb := B.bytes
  have hr := B.returns
  have hts := atoms_spec (ws := wsX4_starOrEmptyWord) B.pre
  have hown : s.vm.findClass RX4 = some mG.cls := findClass_of_methodNamed B.named
  have hlocks := B.notSynchronized
  have hS : va_S (fun _ => False) s.heap s.heap [] := va_S.rf
  have lk0 : (Cond.constantLong RX4 90 (2)).before _ s = true := hts _ (List.mem_cons_of_mem _ (List.mem_append_left _ (List.mem_of_getElem? (i := 0) rfl)))
  have hl := lv_entry ([.ref he, .int (nI l1), .int (nI r1)]) (n := 4) (Nat.le_of_ble_eq_true rfl)
  rw [lg_entry_eq]
  generalize (lg_sl ([.ref he, .int (nI l1), .int (nI r1)]) ++ List.replicate (4 - (lg_sl ([.ref he, .int (nI l1), .int (nI r1)])).length) Slot.unset).toArray = ls at hl ⊢
  have hl : lv_has ls 4 [(0, .ref he), (1, .int (nI l1)), (2, .int (nI r1))] := hl
  have hn18 := tc.n18
  have hn0 := tc.n0
  refine lv_aload_n (pc := 0) hx hb dX4_starOrEmptyWord_0 rfl (lv_at hl 0 rfl) ?_
  refine lv_iload_n (pc := 1) hx hb dX4_starOrEmptyWord_1 rfl (lv_at hl 1 rfl) ?_
  refine vp_callSl (pc := 2) (W.runV (As := [.int (nI l1)]) (rest := []) ⟨hx, hb, hml, hown, hts⟩ (c_X3_codeAt l D cI cL cZ he ae kd ed cd nn l1 (by omega) (by omega)) (cwV 1 hts gX4_starOrEmptyWord_X3_codeAt rfl rfl rfl (by decide +kernel) ⟨Nat.le_of_ble_eq_true rfl, Nat.le_of_ble_eq_true rfl⟩) (rP_V (wc := [(he, .inr (2, oE ae nn)), (ae 0, .inl (cI, 18, .inl (nA kd))), (ae 1, .inl (cI, 18, .inl (nA ed))), (ae 2, .inl (cL, 18, .inr (.inl (lA cd))))]) (ci := 2) (q0 := 0) hK hP [0, 1, 2, 3] rfl rfl rfl) rfl rfl hl.1 rfl (lv_room (Nat.le_of_ble_eq_true rfl)) dX4_starOrEmptyWord_2 ⟨Nat.zero_le _, Nat.zero_le _⟩) (fun r hrr => ?_)
  rw [hrr]
  refine lv_ldc2 (pc := 5) (v := (lN (2))) hx hb hown lk0 dX4_starOrEmptyWord_5 ?_
  refine xnl_ne (pc := 8) (tgt := 28) hx hb (tc.c63 _) (by omega) dX4_starOrEmptyWord_8 dX4_starOrEmptyWord_9 (by decide) (fun c8 => ?_) (fun c8 => ?_)
  · refine lv_aload_n (pc := 28) hx hb dX4_starOrEmptyWord_28 rfl (lv_at hl 0 rfl) ?_
    refine lv_iload_n (pc := 29) hx hb dX4_starOrEmptyWord_29 rfl (lv_at hl 1 rfl) ?_
    refine vp_callSi (pc := 30) (W.runV (As := [.int (nI l1)]) (rest := []) ⟨hx, hb, hml, hown, hts⟩ (c_X3_kindAt l D cI cL cZ he ae kd ed cd nn l1 (by omega) (by omega)) (cwV 1 hts gX4_starOrEmptyWord_X3_kindAt rfl rfl rfl (by decide +kernel) ⟨Nat.le_of_ble_eq_true rfl, Nat.le_of_ble_eq_true rfl⟩) (rP_V (wc := [(he, .inr (2, oE ae nn)), (ae 0, .inl (cI, 18, .inl (nA kd))), (ae 1, .inl (cI, 18, .inl (nA ed))), (ae 2, .inl (cL, 18, .inr (.inl (lA cd))))]) (ci := 2) (q0 := 0) hK hP [0, 1, 2, 3] rfl rfl rfl) rfl rfl hl.1 rfl (lv_room (Nat.le_of_ble_eq_true rfl)) dX4_starOrEmptyWord_30 ⟨Nat.zero_le _, Nat.zero_le _⟩) (fun r hrr => ?_)
    rw [hrr]
    refine lv_bipush (pc := 33) (v := (nI (8))) hx hb dX4_starOrEmptyWord_33 (by decide) ?_
    refine xn_icmp_ne (pc := 35) (tgt := 54) hx hb (Nat.lt_of_le_of_lt (tc.k _) (by decide)) (by omega) dX4_starOrEmptyWord_35 (by decide) (fun c35 => ?_) (fun c35 => ?_)
    · refine lv_iconst (pc := 54) (v := (nI (0))) hx hb dX4_starOrEmptyWord_54 (by decide) ?_
      refine lv_istore_n (pc := 55) (lv' := [(3, .int (nI 0)), (0, .ref he), (1, .int (nI l1)), (2, .int (nI r1))]) hx hb dX4_starOrEmptyWord_55 rfl hl (by decide) rfl (fun ls hl => ?_)
      refine lv_iload_n (pc := 56) hx hb dX4_starOrEmptyWord_56 rfl (lv_at hl 0 rfl) ?_
      refine lv_if_eq (pc := 57) (tgt := 68) hx hb dX4_starOrEmptyWord_57 (by decide) (fun _ => ?_) (fun h => absurd h (by decide))
      refine lv_lconst (pc := 68) (v := (lN (0))) hx hb dX4_starOrEmptyWord_68 (by decide) ?_
      exact W.lret (pc := 69) (v := (lN (0))) hx hb hr (fun t ht _ => ⟨_, rfl, (by unfold mSE; (repeat' split) <;> first | rfl | omega), ht⟩) (fun _ h => absurd h List.not_mem_nil) dX4_starOrEmptyWord_69
    · refine lv_aload_n (pc := 38) hx hb dX4_starOrEmptyWord_38 rfl (lv_at hl 0 rfl) ?_
      refine lv_iload_n (pc := 39) hx hb dX4_starOrEmptyWord_39 rfl (lv_at hl 2 rfl) ?_
      refine vp_callSl (pc := 40) (W.runV (As := [.int (nI r1)]) (rest := []) ⟨hx, hb, hml, hown, hts⟩ (c_X3_codeAt l D cI cL cZ he ae kd ed cd nn r1 (by omega) (by omega)) (cwV 1 hts gX4_starOrEmptyWord_X3_codeAt rfl rfl rfl (by decide +kernel) ⟨Nat.le_of_ble_eq_true rfl, Nat.le_of_ble_eq_true rfl⟩) (rP_V (wc := [(he, .inr (2, oE ae nn)), (ae 0, .inl (cI, 18, .inl (nA kd))), (ae 1, .inl (cI, 18, .inl (nA ed))), (ae 2, .inl (cL, 18, .inr (.inl (lA cd))))]) (ci := 2) (q0 := 0) hK hP [0, 1, 2, 3] rfl rfl rfl) rfl rfl hl.1 rfl (lv_room (Nat.le_of_ble_eq_true rfl)) dX4_starOrEmptyWord_40 ⟨Nat.zero_le _, Nat.zero_le _⟩) (fun r hrr => ?_)
      rw [hrr]
      refine lv_ldc2 (pc := 43) (v := (lN (2))) hx hb hown lk0 dX4_starOrEmptyWord_43 ?_
      refine xnl_ne (pc := 46) (tgt := 54) hx hb (tc.c63 _) (by omega) dX4_starOrEmptyWord_46 dX4_starOrEmptyWord_47 (by decide) (fun c46 => ?_) (fun c46 => ?_)
      · refine lv_iconst (pc := 54) (v := (nI (0))) hx hb dX4_starOrEmptyWord_54 (by decide) ?_
        refine lv_istore_n (pc := 55) (lv' := [(3, .int (nI 0)), (0, .ref he), (1, .int (nI l1)), (2, .int (nI r1))]) hx hb dX4_starOrEmptyWord_55 rfl hl (by decide) rfl (fun ls hl => ?_)
        refine lv_iload_n (pc := 56) hx hb dX4_starOrEmptyWord_56 rfl (lv_at hl 0 rfl) ?_
        refine lv_if_eq (pc := 57) (tgt := 68) hx hb dX4_starOrEmptyWord_57 (by decide) (fun _ => ?_) (fun h => absurd h (by decide))
        refine lv_lconst (pc := 68) (v := (lN (0))) hx hb dX4_starOrEmptyWord_68 (by decide) ?_
        exact W.lret (pc := 69) (v := (lN (0))) hx hb hr (fun t ht _ => ⟨_, rfl, (by unfold mSE; (repeat' split) <;> first | rfl | omega), ht⟩) (fun _ h => absurd h List.not_mem_nil) dX4_starOrEmptyWord_69
      · refine lv_iconst (pc := 50) (v := (nI (1))) hx hb dX4_starOrEmptyWord_50 (by decide) ?_
        refine lv_goto (pc := 51) (tgt := 55) hx hb dX4_starOrEmptyWord_51 (by decide) ?_
        refine lv_istore_n (pc := 55) (lv' := [(3, .int (nI 1)), (0, .ref he), (1, .int (nI l1)), (2, .int (nI r1))]) hx hb dX4_starOrEmptyWord_55 rfl hl (by decide) rfl (fun ls hl => ?_)
        refine lv_iload_n (pc := 56) hx hb dX4_starOrEmptyWord_56 rfl (lv_at hl 0 rfl) ?_
        refine lv_if_eq (pc := 57) (tgt := 68) hx hb dX4_starOrEmptyWord_57 (by decide) (fun h => absurd h (by decide)) (fun _ => ?_)
        refine lv_aload_n (pc := 60) hx hb dX4_starOrEmptyWord_60 rfl (lv_at hl 1 rfl) ?_
        refine lv_iload_n (pc := 61) hx hb dX4_starOrEmptyWord_61 rfl (lv_at hl 2 rfl) ?_
        refine vp_callSl (pc := 62) (W.runV (As := [.int (nI l1)]) (rest := []) ⟨hx, hb, hml, hown, hts⟩ (c_X3_codeAt l D cI cL cZ he ae kd ed cd nn l1 (by omega) (by omega)) (cwV 1 hts gX4_starOrEmptyWord_X3_codeAt rfl rfl rfl (by decide +kernel) ⟨Nat.le_of_ble_eq_true rfl, Nat.le_of_ble_eq_true rfl⟩) (rP_V (wc := [(he, .inr (2, oE ae nn)), (ae 0, .inl (cI, 18, .inl (nA kd))), (ae 1, .inl (cI, 18, .inl (nA ed))), (ae 2, .inl (cL, 18, .inr (.inl (lA cd))))]) (ci := 2) (q0 := 0) hK hP [0, 1, 2, 3] rfl rfl rfl) rfl rfl hl.1 rfl (lv_room (Nat.le_of_ble_eq_true rfl)) dX4_starOrEmptyWord_62 ⟨Nat.zero_le _, Nat.zero_le _⟩) (fun r hrr => ?_)
        rw [hrr]
        refine lv_goto (pc := 65) (tgt := 69) hx hb dX4_starOrEmptyWord_65 (by decide) ?_
        exact W.lret (pc := 69) (v := (lN (kA cd nn l1))) hx hb hr (fun t ht _ => ⟨_, rfl, (by unfold mSE; (repeat' split) <;> first | rfl | omega), ht⟩) (fun _ h => absurd h List.not_mem_nil) dX4_starOrEmptyWord_69
  · refine lv_aload_n (pc := 12) hx hb dX4_starOrEmptyWord_12 rfl (lv_at hl 0 rfl) ?_
    refine lv_iload_n (pc := 13) hx hb dX4_starOrEmptyWord_13 rfl (lv_at hl 2 rfl) ?_
    refine vp_callSi (pc := 14) (W.runV (As := [.int (nI r1)]) (rest := []) ⟨hx, hb, hml, hown, hts⟩ (c_X3_kindAt l D cI cL cZ he ae kd ed cd nn r1 (by omega) (by omega)) (cwV 1 hts gX4_starOrEmptyWord_X3_kindAt rfl rfl rfl (by decide +kernel) ⟨Nat.le_of_ble_eq_true rfl, Nat.le_of_ble_eq_true rfl⟩) (rP_V (wc := [(he, .inr (2, oE ae nn)), (ae 0, .inl (cI, 18, .inl (nA kd))), (ae 1, .inl (cI, 18, .inl (nA ed))), (ae 2, .inl (cL, 18, .inr (.inl (lA cd))))]) (ci := 2) (q0 := 0) hK hP [0, 1, 2, 3] rfl rfl rfl) rfl rfl hl.1 rfl (lv_room (Nat.le_of_ble_eq_true rfl)) dX4_starOrEmptyWord_14 ⟨Nat.zero_le _, Nat.zero_le _⟩) (fun r hrr => ?_)
    rw [hrr]
    refine lv_bipush (pc := 17) (v := (nI (8))) hx hb dX4_starOrEmptyWord_17 (by decide) ?_
    refine xn_icmp_ne (pc := 19) (tgt := 28) hx hb (Nat.lt_of_le_of_lt (tc.k _) (by decide)) (by omega) dX4_starOrEmptyWord_19 (by decide) (fun c19 => ?_) (fun c19 => ?_)
    · refine lv_aload_n (pc := 28) hx hb dX4_starOrEmptyWord_28 rfl (lv_at hl 0 rfl) ?_
      refine lv_iload_n (pc := 29) hx hb dX4_starOrEmptyWord_29 rfl (lv_at hl 1 rfl) ?_
      refine vp_callSi (pc := 30) (W.runV (As := [.int (nI l1)]) (rest := []) ⟨hx, hb, hml, hown, hts⟩ (c_X3_kindAt l D cI cL cZ he ae kd ed cd nn l1 (by omega) (by omega)) (cwV 1 hts gX4_starOrEmptyWord_X3_kindAt rfl rfl rfl (by decide +kernel) ⟨Nat.le_of_ble_eq_true rfl, Nat.le_of_ble_eq_true rfl⟩) (rP_V (wc := [(he, .inr (2, oE ae nn)), (ae 0, .inl (cI, 18, .inl (nA kd))), (ae 1, .inl (cI, 18, .inl (nA ed))), (ae 2, .inl (cL, 18, .inr (.inl (lA cd))))]) (ci := 2) (q0 := 0) hK hP [0, 1, 2, 3] rfl rfl rfl) rfl rfl hl.1 rfl (lv_room (Nat.le_of_ble_eq_true rfl)) dX4_starOrEmptyWord_30 ⟨Nat.zero_le _, Nat.zero_le _⟩) (fun r hrr => ?_)
      rw [hrr]
      refine lv_bipush (pc := 33) (v := (nI (8))) hx hb dX4_starOrEmptyWord_33 (by decide) ?_
      refine xn_icmp_ne (pc := 35) (tgt := 54) hx hb (Nat.lt_of_le_of_lt (tc.k _) (by decide)) (by omega) dX4_starOrEmptyWord_35 (by decide) (fun c35 => ?_) (fun c35 => ?_)
      · refine lv_iconst (pc := 54) (v := (nI (0))) hx hb dX4_starOrEmptyWord_54 (by decide) ?_
        refine lv_istore_n (pc := 55) (lv' := [(3, .int (nI 0)), (0, .ref he), (1, .int (nI l1)), (2, .int (nI r1))]) hx hb dX4_starOrEmptyWord_55 rfl hl (by decide) rfl (fun ls hl => ?_)
        refine lv_iload_n (pc := 56) hx hb dX4_starOrEmptyWord_56 rfl (lv_at hl 0 rfl) ?_
        refine lv_if_eq (pc := 57) (tgt := 68) hx hb dX4_starOrEmptyWord_57 (by decide) (fun _ => ?_) (fun h => absurd h (by decide))
        refine lv_lconst (pc := 68) (v := (lN (0))) hx hb dX4_starOrEmptyWord_68 (by decide) ?_
        exact W.lret (pc := 69) (v := (lN (0))) hx hb hr (fun t ht _ => ⟨_, rfl, (by unfold mSE; (repeat' split) <;> first | rfl | omega), ht⟩) (fun _ h => absurd h List.not_mem_nil) dX4_starOrEmptyWord_69
      · refine lv_aload_n (pc := 38) hx hb dX4_starOrEmptyWord_38 rfl (lv_at hl 0 rfl) ?_
        refine lv_iload_n (pc := 39) hx hb dX4_starOrEmptyWord_39 rfl (lv_at hl 2 rfl) ?_
        refine vp_callSl (pc := 40) (W.runV (As := [.int (nI r1)]) (rest := []) ⟨hx, hb, hml, hown, hts⟩ (c_X3_codeAt l D cI cL cZ he ae kd ed cd nn r1 (by omega) (by omega)) (cwV 1 hts gX4_starOrEmptyWord_X3_codeAt rfl rfl rfl (by decide +kernel) ⟨Nat.le_of_ble_eq_true rfl, Nat.le_of_ble_eq_true rfl⟩) (rP_V (wc := [(he, .inr (2, oE ae nn)), (ae 0, .inl (cI, 18, .inl (nA kd))), (ae 1, .inl (cI, 18, .inl (nA ed))), (ae 2, .inl (cL, 18, .inr (.inl (lA cd))))]) (ci := 2) (q0 := 0) hK hP [0, 1, 2, 3] rfl rfl rfl) rfl rfl hl.1 rfl (lv_room (Nat.le_of_ble_eq_true rfl)) dX4_starOrEmptyWord_40 ⟨Nat.zero_le _, Nat.zero_le _⟩) (fun r hrr => ?_)
        rw [hrr]
        refine lv_ldc2 (pc := 43) (v := (lN (2))) hx hb hown lk0 dX4_starOrEmptyWord_43 ?_
        refine xnl_ne (pc := 46) (tgt := 54) hx hb (tc.c63 _) (by omega) dX4_starOrEmptyWord_46 dX4_starOrEmptyWord_47 (by decide) (fun c46 => ?_) (fun c46 => ?_)
        · refine lv_iconst (pc := 54) (v := (nI (0))) hx hb dX4_starOrEmptyWord_54 (by decide) ?_
          refine lv_istore_n (pc := 55) (lv' := [(3, .int (nI 0)), (0, .ref he), (1, .int (nI l1)), (2, .int (nI r1))]) hx hb dX4_starOrEmptyWord_55 rfl hl (by decide) rfl (fun ls hl => ?_)
          refine lv_iload_n (pc := 56) hx hb dX4_starOrEmptyWord_56 rfl (lv_at hl 0 rfl) ?_
          refine lv_if_eq (pc := 57) (tgt := 68) hx hb dX4_starOrEmptyWord_57 (by decide) (fun _ => ?_) (fun h => absurd h (by decide))
          refine lv_lconst (pc := 68) (v := (lN (0))) hx hb dX4_starOrEmptyWord_68 (by decide) ?_
          exact W.lret (pc := 69) (v := (lN (0))) hx hb hr (fun t ht _ => ⟨_, rfl, (by unfold mSE; (repeat' split) <;> first | rfl | omega), ht⟩) (fun _ h => absurd h List.not_mem_nil) dX4_starOrEmptyWord_69
        · refine lv_iconst (pc := 50) (v := (nI (1))) hx hb dX4_starOrEmptyWord_50 (by decide) ?_
          refine lv_goto (pc := 51) (tgt := 55) hx hb dX4_starOrEmptyWord_51 (by decide) ?_
          refine lv_istore_n (pc := 55) (lv' := [(3, .int (nI 1)), (0, .ref he), (1, .int (nI l1)), (2, .int (nI r1))]) hx hb dX4_starOrEmptyWord_55 rfl hl (by decide) rfl (fun ls hl => ?_)
          refine lv_iload_n (pc := 56) hx hb dX4_starOrEmptyWord_56 rfl (lv_at hl 0 rfl) ?_
          refine lv_if_eq (pc := 57) (tgt := 68) hx hb dX4_starOrEmptyWord_57 (by decide) (fun h => absurd h (by decide)) (fun _ => ?_)
          refine lv_aload_n (pc := 60) hx hb dX4_starOrEmptyWord_60 rfl (lv_at hl 1 rfl) ?_
          refine lv_iload_n (pc := 61) hx hb dX4_starOrEmptyWord_61 rfl (lv_at hl 2 rfl) ?_
          refine vp_callSl (pc := 62) (W.runV (As := [.int (nI l1)]) (rest := []) ⟨hx, hb, hml, hown, hts⟩ (c_X3_codeAt l D cI cL cZ he ae kd ed cd nn l1 (by omega) (by omega)) (cwV 1 hts gX4_starOrEmptyWord_X3_codeAt rfl rfl rfl (by decide +kernel) ⟨Nat.le_of_ble_eq_true rfl, Nat.le_of_ble_eq_true rfl⟩) (rP_V (wc := [(he, .inr (2, oE ae nn)), (ae 0, .inl (cI, 18, .inl (nA kd))), (ae 1, .inl (cI, 18, .inl (nA ed))), (ae 2, .inl (cL, 18, .inr (.inl (lA cd))))]) (ci := 2) (q0 := 0) hK hP [0, 1, 2, 3] rfl rfl rfl) rfl rfl hl.1 rfl (lv_room (Nat.le_of_ble_eq_true rfl)) dX4_starOrEmptyWord_62 ⟨Nat.zero_le _, Nat.zero_le _⟩) (fun r hrr => ?_)
          rw [hrr]
          refine lv_goto (pc := 65) (tgt := 69) hx hb dX4_starOrEmptyWord_65 (by decide) ?_
          exact W.lret (pc := 69) (v := (lN (kA cd nn l1))) hx hb hr (fun t ht _ => ⟨_, rfl, (by unfold mSE; (repeat' split) <;> first | rfl | omega), ht⟩) (fun _ h => absurd h List.not_mem_nil) dX4_starOrEmptyWord_69
    · refine lv_aload_n (pc := 22) hx hb dX4_starOrEmptyWord_22 rfl (lv_at hl 0 rfl) ?_
      refine lv_iload_n (pc := 23) hx hb dX4_starOrEmptyWord_23 rfl (lv_at hl 2 rfl) ?_
      refine vp_callSl (pc := 24) (W.runV (As := [.int (nI r1)]) (rest := []) ⟨hx, hb, hml, hown, hts⟩ (c_X3_codeAt l D cI cL cZ he ae kd ed cd nn r1 (by omega) (by omega)) (cwV 1 hts gX4_starOrEmptyWord_X3_codeAt rfl rfl rfl (by decide +kernel) ⟨Nat.le_of_ble_eq_true rfl, Nat.le_of_ble_eq_true rfl⟩) (rP_V (wc := [(he, .inr (2, oE ae nn)), (ae 0, .inl (cI, 18, .inl (nA kd))), (ae 1, .inl (cI, 18, .inl (nA ed))), (ae 2, .inl (cL, 18, .inr (.inl (lA cd))))]) (ci := 2) (q0 := 0) hK hP [0, 1, 2, 3] rfl rfl rfl) rfl rfl hl.1 rfl (lv_room (Nat.le_of_ble_eq_true rfl)) dX4_starOrEmptyWord_24 ⟨Nat.zero_le _, Nat.zero_le _⟩) (fun r hrr => ?_)
      rw [hrr]
      exact W.lret (pc := 27) (v := (lN (kA cd nn r1))) hx hb hr (fun t ht _ => ⟨_, rfl, (by unfold mSE; (repeat' split) <;> first | rfl | omega), ht⟩) (fun _ h => absurd h List.not_mem_nil) dX4_starOrEmptyWord_27
set_option maxHeartbeats 4000000 in
set_option maxRecDepth 100000 in
theorem c_X4_besideItsStar (l : Launch) (D : va_G) (cI cL cZ : ClassId) (he : Nat) (ae : Nat → Nat) (kd : Nat → Nat) (ed : Nat → Nat) (cd : Nat → Nat) (nn : Nat) (l1 : Nat) (r1 : Nat) (tc : TC kd ed cd nn) (hl1 : l1 < 4000) (hr1 : r1 < 4000) : Met l yX4_besideItsStar wsX4_besideItsStar { frames := 1, cells := 0, slots := 0, locals := 22 } (rP D (tyL cI cL cZ) [(he, .inr (2, oE ae nn)), (ae 0, .inl (cI, 18, .inl (nA kd))), (ae 1, .inl (cI, 18, .inl (nA ed))), (ae 2, .inl (cL, 18, .inr (.inl (lA cd))))] [.ref he, .int (nI l1), .int (nI r1)]) (vp_Sl (fun r => r = (lN (mBS (kA cd nn) (sA kd cd nn) l1 r1)))) 0 0 (fun _ => False) := by
  refine Met.ofW (cc := cX4_besideItsStar) (maxL := 3) (ret := (some .long)) (by decide) rfl ?_
  intro pG eG s mG args below meth cG s₁ B hml hpre9
  obtain ⟨rfl, hP, hK⟩ := hpre9
  have hx := B.exec
  have hb := B.bytes
  have hr := B.returns
  have hts := atoms_spec (ws := wsX4_besideItsStar) B.pre
  have hown : s.vm.findClass RX4 = some mG.cls := findClass_of_methodNamed B.named
  have hlocks := B.notSynchronized
  have hS : va_S (fun _ => False) s.heap s.heap [] := va_S.rf
  have hl := lv_entry ([.ref he, .int (nI l1), .int (nI r1)]) (n := 3) (Nat.le_of_ble_eq_true rfl)
  rw [lg_entry_eq]
  generalize (lg_sl ([.ref he, .int (nI l1), .int (nI r1)]) ++ List.replicate (3 - (lg_sl ([.ref he, .int (nI l1), .int (nI r1)])).length) Slot.unset).toArray = ls at hl ⊢
  have hl : lv_has ls 3 [(0, .ref he), (1, .int (nI l1)), (2, .int (nI r1))] := hl
  have hn18 := tc.n18
  have hn0 := tc.n0
  refine lv_aload_n (pc := 0) hx hb dX4_besideItsStar_0 rfl (lv_at hl 0 rfl) ?_
  refine lv_iload_n (pc := 1) hx hb dX4_besideItsStar_1 rfl (lv_at hl 2 rfl) ?_
  refine vp_callSl (pc := 2) (W.runV (As := [.int (nI r1)]) (rest := []) ⟨hx, hb, hml, hown, hts⟩ (c_X3_starredAt l D cI cL cZ he ae kd ed cd nn r1 (by omega) (by omega) (by omega) (fun j hj => tc.kd hj)) (cwV 1 hts gX4_besideItsStar_X3_starredAt rfl rfl rfl (by decide +kernel) ⟨Nat.le_of_ble_eq_true rfl, Nat.le_of_ble_eq_true rfl⟩) (rP_V (wc := [(he, .inr (2, oE ae nn)), (ae 0, .inl (cI, 18, .inl (nA kd))), (ae 1, .inl (cI, 18, .inl (nA ed))), (ae 2, .inl (cL, 18, .inr (.inl (lA cd))))]) (ci := 2) (q0 := 0) hK hP [0, 1, 2, 3] rfl rfl rfl) rfl rfl hl.1 rfl (lv_room (Nat.le_of_ble_eq_true rfl)) dX4_besideItsStar_2 ⟨Nat.zero_le _, Nat.zero_le _⟩) (fun r hrr => ?_)
  rw [hrr]
  refine lv_aload_n (pc := 5) hx hb dX4_besideItsStar_5 rfl (lv_at hl 0 rfl) ?_
  refine lv_iload_n (pc := 6) hx hb dX4_besideItsStar_6 rfl (lv_at hl 1 rfl) ?_
  refine vp_callSl (pc := 7) (W.runV (As := [.int (nI l1)]) (rest := [.long (lN (sA kd cd nn r1))]) ⟨hx, hb, hml, hown, hts⟩ (c_X3_codeAt l D cI cL cZ he ae kd ed cd nn l1 (by omega) (by omega)) (cwV 1 hts gX4_besideItsStar_X3_codeAt rfl rfl rfl (by decide +kernel) ⟨Nat.le_of_ble_eq_true rfl, Nat.le_of_ble_eq_true rfl⟩) (rP_V (wc := [(he, .inr (2, oE ae nn)), (ae 0, .inl (cI, 18, .inl (nA kd))), (ae 1, .inl (cI, 18, .inl (nA ed))), (ae 2, .inl (cL, 18, .inr (.inl (lA cd))))]) (ci := 2) (q0 := 0) hK hP [0, 1, 2, 3] rfl rfl rfl) rfl rfl hl.1 rfl (lv_room (Nat.le_of_ble_eq_true rfl)) dX4_besideItsStar_7 ⟨Nat.zero_le _, Nat.zero_le _⟩) (fun r hrr => ?_)
  rw [hrr]
  refine xnl_ne (pc := 10) (tgt := 20) hx hb (tc.s63 _) (tc.c63 _) dX4_besideItsStar_10 dX4_besideItsStar_11 (by decide) (fun c10 => ?_) (fun c10 => ?_)
  · refine lv_aload_n (pc := 20) hx hb dX4_besideItsStar_20 rfl (lv_at hl 0 rfl) ?_
    refine lv_iload_n (pc := 21) hx hb dX4_besideItsStar_21 rfl (lv_at hl 1 rfl) ?_
    refine vp_callSl (pc := 22) (W.runV (As := [.int (nI l1)]) (rest := []) ⟨hx, hb, hml, hown, hts⟩ (c_X3_starredAt l D cI cL cZ he ae kd ed cd nn l1 (by omega) (by omega) (by omega) (fun j hj => tc.kd hj)) (cwV 1 hts gX4_besideItsStar_X3_starredAt rfl rfl rfl (by decide +kernel) ⟨Nat.le_of_ble_eq_true rfl, Nat.le_of_ble_eq_true rfl⟩) (rP_V (wc := [(he, .inr (2, oE ae nn)), (ae 0, .inl (cI, 18, .inl (nA kd))), (ae 1, .inl (cI, 18, .inl (nA ed))), (ae 2, .inl (cL, 18, .inr (.inl (lA cd))))]) (ci := 2) (q0 := 0) hK hP [0, 1, 2, 3] rfl rfl rfl) rfl rfl hl.1 rfl (lv_room (Nat.le_of_ble_eq_true rfl)) dX4_besideItsStar_22 ⟨Nat.zero_le _, Nat.zero_le _⟩) (fun r hrr => ?_)
    rw [hrr]
    refine lv_aload_n (pc := 25) hx hb dX4_besideItsStar_25 rfl (lv_at hl 0 rfl) ?_
    refine lv_iload_n (pc := 26) hx hb dX4_besideItsStar_26 rfl (lv_at hl 2 rfl) ?_
    refine vp_callSl (pc := 27) (W.runV (As := [.int (nI r1)]) (rest := [.long (lN (sA kd cd nn l1))]) ⟨hx, hb, hml, hown, hts⟩ (c_X3_codeAt l D cI cL cZ he ae kd ed cd nn r1 (by omega) (by omega)) (cwV 1 hts gX4_besideItsStar_X3_codeAt rfl rfl rfl (by decide +kernel) ⟨Nat.le_of_ble_eq_true rfl, Nat.le_of_ble_eq_true rfl⟩) (rP_V (wc := [(he, .inr (2, oE ae nn)), (ae 0, .inl (cI, 18, .inl (nA kd))), (ae 1, .inl (cI, 18, .inl (nA ed))), (ae 2, .inl (cL, 18, .inr (.inl (lA cd))))]) (ci := 2) (q0 := 0) hK hP [0, 1, 2, 3] rfl rfl rfl) rfl rfl hl.1 rfl (lv_room (Nat.le_of_ble_eq_true rfl)) dX4_besideItsStar_27 ⟨Nat.zero_le _, Nat.zero_le _⟩) (fun r hrr => ?_)
    rw [hrr]
    refine xnl_ne (pc := 30) (tgt := 42) hx hb (tc.s63 _) (tc.c63 _) dX4_besideItsStar_30 dX4_besideItsStar_31 (by decide) (fun c30 => ?_) (fun c30 => ?_)
    · refine lv_lconst (pc := 42) (v := (lN (0))) hx hb dX4_besideItsStar_42 (by decide) ?_
      exact W.lret (pc := 43) (v := (lN (0))) hx hb hr (fun t ht _ => ⟨_, rfl, (by unfold mBS; (repeat' split) <;> first | rfl | omega), ht⟩) (fun _ h => absurd h List.not_mem_nil) dX4_besideItsStar_43
    · refine lv_aload_n (pc := 34) hx hb dX4_besideItsStar_34 rfl (lv_at hl 0 rfl) ?_
      refine lv_iload_n (pc := 35) hx hb dX4_besideItsStar_35 rfl (lv_at hl 1 rfl) ?_
      refine vp_callSl (pc := 36) (W.runV (As := [.int (nI l1)]) (rest := []) ⟨hx, hb, hml, hown, hts⟩ (c_X3_codeAt l D cI cL cZ he ae kd ed cd nn l1 (by omega) (by omega)) (cwV 1 hts gX4_besideItsStar_X3_codeAt rfl rfl rfl (by decide +kernel) ⟨Nat.le_of_ble_eq_true rfl, Nat.le_of_ble_eq_true rfl⟩) (rP_V (wc := [(he, .inr (2, oE ae nn)), (ae 0, .inl (cI, 18, .inl (nA kd))), (ae 1, .inl (cI, 18, .inl (nA ed))), (ae 2, .inl (cL, 18, .inr (.inl (lA cd))))]) (ci := 2) (q0 := 0) hK hP [0, 1, 2, 3] rfl rfl rfl) rfl rfl hl.1 rfl (lv_room (Nat.le_of_ble_eq_true rfl)) dX4_besideItsStar_36 ⟨Nat.zero_le _, Nat.zero_le _⟩) (fun r hrr => ?_)
      rw [hrr]
      refine lv_goto (pc := 39) (tgt := 43) hx hb dX4_besideItsStar_39 (by decide) ?_
      exact W.lret (pc := 43) (v := (lN (kA cd nn l1))) hx hb hr (fun t ht _ => ⟨_, rfl, (by unfold mBS; (repeat' split) <;> first | rfl | omega), ht⟩) (fun _ h => absurd h List.not_mem_nil) dX4_besideItsStar_43
  · refine lv_aload_n (pc := 14) hx hb dX4_besideItsStar_14 rfl (lv_at hl 0 rfl) ?_
    refine lv_iload_n (pc := 15) hx hb dX4_besideItsStar_15 rfl (lv_at hl 2 rfl) ?_
    refine vp_callSl (pc := 16) (W.runV (As := [.int (nI r1)]) (rest := []) ⟨hx, hb, hml, hown, hts⟩ (c_X3_codeAt l D cI cL cZ he ae kd ed cd nn r1 (by omega) (by omega)) (cwV 1 hts gX4_besideItsStar_X3_codeAt rfl rfl rfl (by decide +kernel) ⟨Nat.le_of_ble_eq_true rfl, Nat.le_of_ble_eq_true rfl⟩) (rP_V (wc := [(he, .inr (2, oE ae nn)), (ae 0, .inl (cI, 18, .inl (nA kd))), (ae 1, .inl (cI, 18, .inl (nA ed))), (ae 2, .inl (cL, 18, .inr (.inl (lA cd))))]) (ci := 2) (q0 := 0) hK hP [0, 1, 2, 3] rfl rfl rfl) rfl rfl hl.1 rfl (lv_room (Nat.le_of_ble_eq_true rfl)) dX4_besideItsStar_16 ⟨Nat.zero_le _, Nat.zero_le _⟩) (fun r hrr => ?_)
    rw [hrr]
    exact W.lret (pc := 19) (v := (lN (kA cd nn r1))) hx hb hr (fun t ht _ => ⟨_, rfl, (by unfold mBS; (repeat' split) <;> first | rfl | omega), ht⟩) (fun _ h => absurd h List.not_mem_nil) dX4_besideItsStar_19
set_option maxHeartbeats 4000000 in
set_option maxRecDepth 100000 in
theorem c_X4_bothConcatenations (l : Launch) (D : va_G) (cI cL cZ : ClassId) (he : Nat) (ae : Nat → Nat) (kd : Nat → Nat) (ed : Nat → Nat) (cd : Nat → Nat) (nn : Nat) (l1 : Nat) (r1 : Nat) (tc : TC kd ed cd nn) (hl1 : l1 < 4000) (hr1 : r1 < 4000) : Met l yX4_bothConcatenations wsX4_bothConcatenations { frames := 1, cells := 0, slots := 0, locals := 21 } (rP D (tyL cI cL cZ) [(he, .inr (2, oE ae nn)), (ae 0, .inl (cI, 18, .inl (nA kd))), (ae 1, .inl (cI, 18, .inl (nA ed))), (ae 2, .inl (cL, 18, .inr (.inl (lA cd))))] [.ref he, .int (nI l1), .int (nI r1)]) (vp_Si (fun r => r = (nI (pN (kA kd nn l1 = 7 ∧ kA kd nn r1 = 7))))) 0 0 (fun _ => False) := by
  refine Met.ofW (cc := cX4_bothConcatenations) (maxL := 3) (ret := (some .boolean)) (by decide) rfl ?_
  intro pG eG s mG args below meth cG s₁ B hml hpre9
  obtain ⟨rfl, hP, hK⟩ := hpre9
  have hx := B.exec
  have hb := B.bytes
  have hr := B.returns
  have hts := atoms_spec (ws := wsX4_bothConcatenations) B.pre
  have hown : s.vm.findClass RX4 = some mG.cls := findClass_of_methodNamed B.named
  have hlocks := B.notSynchronized
  have hS : va_S (fun _ => False) s.heap s.heap [] := va_S.rf
  have hl := lv_entry ([.ref he, .int (nI l1), .int (nI r1)]) (n := 3) (Nat.le_of_ble_eq_true rfl)
  rw [lg_entry_eq]
  generalize (lg_sl ([.ref he, .int (nI l1), .int (nI r1)]) ++ List.replicate (3 - (lg_sl ([.ref he, .int (nI l1), .int (nI r1)])).length) Slot.unset).toArray = ls at hl ⊢
  have hl : lv_has ls 3 [(0, .ref he), (1, .int (nI l1)), (2, .int (nI r1))] := hl
  have hn18 := tc.n18
  have hn0 := tc.n0
  refine lv_aload_n (pc := 0) hx hb dX4_bothConcatenations_0 rfl (lv_at hl 0 rfl) ?_
  refine lv_iload_n (pc := 1) hx hb dX4_bothConcatenations_1 rfl (lv_at hl 1 rfl) ?_
  refine vp_callSi (pc := 2) (W.runV (As := [.int (nI l1)]) (rest := []) ⟨hx, hb, hml, hown, hts⟩ (c_X3_kindAt l D cI cL cZ he ae kd ed cd nn l1 (by omega) (by omega)) (cwV 1 hts gX4_bothConcatenations_X3_kindAt rfl rfl rfl (by decide +kernel) ⟨Nat.le_of_ble_eq_true rfl, Nat.le_of_ble_eq_true rfl⟩) (rP_V (wc := [(he, .inr (2, oE ae nn)), (ae 0, .inl (cI, 18, .inl (nA kd))), (ae 1, .inl (cI, 18, .inl (nA ed))), (ae 2, .inl (cL, 18, .inr (.inl (lA cd))))]) (ci := 2) (q0 := 0) hK hP [0, 1, 2, 3] rfl rfl rfl) rfl rfl hl.1 rfl (lv_room (Nat.le_of_ble_eq_true rfl)) dX4_bothConcatenations_2 ⟨Nat.zero_le _, Nat.zero_le _⟩) (fun r hrr => ?_)
  rw [hrr]
  refine lv_bipush (pc := 5) (v := (nI (7))) hx hb dX4_bothConcatenations_5 (by decide) ?_
  refine xn_icmp_ne (pc := 7) (tgt := 24) hx hb (Nat.lt_of_le_of_lt (tc.k _) (by decide)) (by omega) dX4_bothConcatenations_7 (by decide) (fun c7 => ?_) (fun c7 => ?_)
  · refine lv_iconst (pc := 24) (v := (nI (0))) hx hb dX4_bothConcatenations_24 (by decide) ?_
    exact W.zret (pc := 25) (v := (nI (0))) (ty := .boolean) hx hb hr (by decide) (fun t ht _ => ⟨_, rfl, (by first | exact congrArg nI (pN_t ⟨by omega, by omega⟩).symm | exact congrArg nI (pN_f (fun h => by omega)).symm), ht⟩) (fun _ h => absurd h List.not_mem_nil) dX4_bothConcatenations_25
  · refine lv_aload_n (pc := 10) hx hb dX4_bothConcatenations_10 rfl (lv_at hl 0 rfl) ?_
    refine lv_iload_n (pc := 11) hx hb dX4_bothConcatenations_11 rfl (lv_at hl 2 rfl) ?_
    refine vp_callSi (pc := 12) (W.runV (As := [.int (nI r1)]) (rest := []) ⟨hx, hb, hml, hown, hts⟩ (c_X3_kindAt l D cI cL cZ he ae kd ed cd nn r1 (by omega) (by omega)) (cwV 1 hts gX4_bothConcatenations_X3_kindAt rfl rfl rfl (by decide +kernel) ⟨Nat.le_of_ble_eq_true rfl, Nat.le_of_ble_eq_true rfl⟩) (rP_V (wc := [(he, .inr (2, oE ae nn)), (ae 0, .inl (cI, 18, .inl (nA kd))), (ae 1, .inl (cI, 18, .inl (nA ed))), (ae 2, .inl (cL, 18, .inr (.inl (lA cd))))]) (ci := 2) (q0 := 0) hK hP [0, 1, 2, 3] rfl rfl rfl) rfl rfl hl.1 rfl (lv_room (Nat.le_of_ble_eq_true rfl)) dX4_bothConcatenations_12 ⟨Nat.zero_le _, Nat.zero_le _⟩) (fun r hrr => ?_)
    rw [hrr]
    refine lv_bipush (pc := 15) (v := (nI (7))) hx hb dX4_bothConcatenations_15 (by decide) ?_
    refine xn_icmp_ne (pc := 17) (tgt := 24) hx hb (Nat.lt_of_le_of_lt (tc.k _) (by decide)) (by omega) dX4_bothConcatenations_17 (by decide) (fun c17 => ?_) (fun c17 => ?_)
    · refine lv_iconst (pc := 24) (v := (nI (0))) hx hb dX4_bothConcatenations_24 (by decide) ?_
      exact W.zret (pc := 25) (v := (nI (0))) (ty := .boolean) hx hb hr (by decide) (fun t ht _ => ⟨_, rfl, (by first | exact congrArg nI (pN_t ⟨by omega, by omega⟩).symm | exact congrArg nI (pN_f (fun h => by omega)).symm), ht⟩) (fun _ h => absurd h List.not_mem_nil) dX4_bothConcatenations_25
    · refine lv_iconst (pc := 20) (v := (nI (1))) hx hb dX4_bothConcatenations_20 (by decide) ?_
      refine lv_goto (pc := 21) (tgt := 25) hx hb dX4_bothConcatenations_21 (by decide) ?_
      exact W.zret (pc := 25) (v := (nI (1))) (ty := .boolean) hx hb hr (by decide) (fun t ht _ => ⟨_, rfl, (by first | exact congrArg nI (pN_t ⟨by omega, by omega⟩).symm | exact congrArg nI (pN_f (fun h => by omega)).symm), ht⟩) (fun _ h => absurd h List.not_mem_nil) dX4_bothConcatenations_25
set_option maxHeartbeats 4000000 in
set_option maxRecDepth 100000 in
theorem c_X4_sharedFront (l : Launch) (D : va_G) (cI cL cZ : ClassId) (he : Nat) (ae : Nat → Nat) (kd : Nat → Nat) (ed : Nat → Nat) (cd : Nat → Nat) (nn : Nat) (l1 : Nat) (r1 : Nat) (tc : TC kd ed cd nn) (hl1 : l1 < 2000) (hr1 : r1 < 2000) (hlr : r1 = ed l1) : Met l yX4_sharedFront wsX4_sharedFront { frames := 2, cells := 0, slots := 0, locals := 49 } (rP D (tyL cI cL cZ) [(he, .inr (2, oE ae nn)), (ae 0, .inl (cI, 18, .inl (nA kd))), (ae 1, .inl (cI, 18, .inl (nA ed))), (ae 2, .inl (cL, 18, .inr (.inl (lA cd))))] [.ref he, .int (nI l1), .int (nI r1)]) (vp_Sl (fun r => r = (lN (mSF (kA kd nn) (kA cd nn) (rA ed nn) l1 r1)))) 0 0 (fun _ => False) := by
  refine Met.ofW (cc := cX4_sharedFront) (maxL := 7) (ret := (some .long)) (by decide) rfl ?_
  intro pG eG s mG args below meth cG s₁ B hml hpre9
  obtain ⟨rfl, hP, hK⟩ := hpre9
  have hx := B.exec
  have hb := B.bytes
  have hr := B.returns
  have hts := atoms_spec (ws := wsX4_sharedFront) B.pre
  have hown : s.vm.findClass RX4 = some mG.cls := findClass_of_methodNamed B.named
  have hlocks := B.notSynchronized
  have hS : va_S (fun _ => False) s.heap s.heap [] := va_S.rf
  have hl := lv_entry ([.ref he, .int (nI l1), .int (nI r1)]) (n := 7) (Nat.le_of_ble_eq_true rfl)
  rw [lg_entry_eq]
  generalize (lg_sl ([.ref he, .int (nI l1), .int (nI r1)]) ++ List.replicate (7 - (lg_sl ([.ref he, .int (nI l1), .int (nI r1)])).length) Slot.unset).toArray = ls at hl ⊢
  have hl : lv_has ls 7 [(0, .ref he), (1, .int (nI l1)), (2, .int (nI r1))] := hl
  have hn18 := tc.n18
  have hn0 := tc.n0
  refine lv_aload_n (pc := 0) hx hb dX4_sharedFront_0 rfl (lv_at hl 0 rfl) ?_
  refine lv_aload_n (pc := 1) hx hb dX4_sharedFront_1 rfl (lv_at hl 0 rfl) ?_
  refine lv_iload_n (pc := 2) hx hb dX4_sharedFront_2 rfl (lv_at hl 1 rfl) ?_
  refine vp_callSi (pc := 3) (W.runV (As := [.int (nI l1)]) (rest := [.ref he]) ⟨hx, hb, hml, hown, hts⟩ (c_X3_leftOf l D cI cL cZ he ae kd ed cd nn l1) (cwV 1 hts gX4_sharedFront_X3_leftOf rfl rfl rfl (by decide +kernel) ⟨Nat.le_of_ble_eq_true rfl, Nat.le_of_ble_eq_true rfl⟩) (rP_V (wc := [(he, .inr (2, oE ae nn)), (ae 0, .inl (cI, 18, .inl (nA kd))), (ae 1, .inl (cI, 18, .inl (nA ed))), (ae 2, .inl (cL, 18, .inr (.inl (lA cd))))]) (ci := 2) (q0 := 0) hK hP [0, 1, 2, 3] rfl rfl rfl) rfl rfl hl.1 rfl (lv_room (Nat.le_of_ble_eq_true rfl)) dX4_sharedFront_3 ⟨Nat.zero_le _, Nat.zero_le _⟩) (fun r hrr => ?_)
  rw [hrr]
  refine vp_callSl (pc := 6) (W.runV (As := [.int (nI (l1 + 1))]) (rest := []) ⟨hx, hb, hml, hown, hts⟩ (c_X3_codeAt l D cI cL cZ he ae kd ed cd nn (l1 + 1) (by omega) (by omega)) (cwV 1 hts gX4_sharedFront_X3_codeAt rfl rfl rfl (by decide +kernel) ⟨Nat.le_of_ble_eq_true rfl, Nat.le_of_ble_eq_true rfl⟩) (rP_V (wc := [(he, .inr (2, oE ae nn)), (ae 0, .inl (cI, 18, .inl (nA kd))), (ae 1, .inl (cI, 18, .inl (nA ed))), (ae 2, .inl (cL, 18, .inr (.inl (lA cd))))]) (ci := 2) (q0 := 0) hK hP [0, 1, 2, 3] rfl rfl rfl) rfl rfl hl.1 rfl (lv_room (Nat.le_of_ble_eq_true rfl)) dX4_sharedFront_6 ⟨Nat.zero_le _, Nat.zero_le _⟩) (fun r hrr => ?_)
  rw [hrr]
  refine lv_lstore_n (pc := 9) (lv' := [(3, .long (lN (kA cd nn (l1 + 1)))), (0, .ref he), (1, .int (nI l1)), (2, .int (nI r1))]) hx hb dX4_sharedFront_9 rfl hl (by decide) rfl (fun ls hl => ?_)
  refine lv_aload_n (pc := 10) hx hb dX4_sharedFront_10 rfl (lv_at hl 1 rfl) ?_
  refine lv_iload_n (pc := 11) hx hb dX4_sharedFront_11 rfl (lv_at hl 2 rfl) ?_
  refine lv_iload_n (pc := 12) hx hb dX4_sharedFront_12 rfl (lv_at hl 3 rfl) ?_
  refine vp_callSi (pc := 13) (W.runS (As := [.ref he, .int (nI l1), .int (nI r1)]) (rest := []) ⟨hx, hb, hml, hown, hts⟩ (c_X4_bothConcatenations l D cI cL cZ he ae kd ed cd nn l1 r1 tc (by omega) (by omega)) (va_cwS 3 hts gX4_sharedFront_X4_bothConcatenations rfl rfl rfl (by decide +kernel) ⟨Nat.le_of_ble_eq_true rfl, Nat.le_of_ble_eq_true rfl⟩) (rP_S (wc := [(he, .inr (2, oE ae nn)), (ae 0, .inl (cI, 18, .inl (nA kd))), (ae 1, .inl (cI, 18, .inl (nA ed))), (ae 2, .inl (cL, 18, .inr (.inl (lA cd))))]) hK hP [0, 1, 2, 3] rfl) rfl rfl hl.1 rfl (lv_room (Nat.le_of_ble_eq_true rfl)) dX4_sharedFront_13 ⟨Nat.zero_le _, Nat.zero_le _⟩) (fun r hrr => ?_)
  rw [hrr]
  refine xp_if_eq (pc := 16) (tgt := 33) hx hb dX4_sharedFront_16 (by decide) (fun c16 => ?_) (fun c16 => ?_)
  · refine lv_lconst (pc := 33) (v := (lN (0))) hx hb dX4_sharedFront_33 (by decide) ?_
    exact W.lret (pc := 34) (v := (lN (0))) hx hb hr (fun t ht _ => ⟨_, rfl, (by simp [mSF, c16]), ht⟩) (fun _ h => absurd h List.not_mem_nil) dX4_sharedFront_34
  · refine lv_lload_n (pc := 19) hx hb dX4_sharedFront_19 rfl (lv_at hl 0 rfl) ?_
    refine lv_aload_n (pc := 20) hx hb dX4_sharedFront_20 rfl (lv_at hl 1 rfl) ?_
    refine lv_aload_n (pc := 21) hx hb dX4_sharedFront_21 rfl (lv_at hl 1 rfl) ?_
    refine lv_iload_n (pc := 22) hx hb dX4_sharedFront_22 rfl (lv_at hl 3 rfl) ?_
    refine vp_callSi (pc := 23) (W.runV (As := [.int (nI r1)]) (rest := [.ref he, .long (lN (kA cd nn (l1 + 1)))]) ⟨hx, hb, hml, hown, hts⟩ (c_X3_leftOf l D cI cL cZ he ae kd ed cd nn r1) (cwV 1 hts gX4_sharedFront_X3_leftOf rfl rfl rfl (by decide +kernel) ⟨Nat.le_of_ble_eq_true rfl, Nat.le_of_ble_eq_true rfl⟩) (rP_V (wc := [(he, .inr (2, oE ae nn)), (ae 0, .inl (cI, 18, .inl (nA kd))), (ae 1, .inl (cI, 18, .inl (nA ed))), (ae 2, .inl (cL, 18, .inr (.inl (lA cd))))]) (ci := 2) (q0 := 0) hK hP [0, 1, 2, 3] rfl rfl rfl) rfl rfl hl.1 rfl (lv_room (Nat.le_of_ble_eq_true rfl)) dX4_sharedFront_23 ⟨Nat.zero_le _, Nat.zero_le _⟩) (fun r hrr => ?_)
    rw [hrr]
    refine vp_callSl (pc := 26) (W.runV (As := [.int (nI (r1 + 1))]) (rest := [.long (lN (kA cd nn (l1 + 1)))]) ⟨hx, hb, hml, hown, hts⟩ (c_X3_codeAt l D cI cL cZ he ae kd ed cd nn (r1 + 1) (by omega) (by omega)) (cwV 1 hts gX4_sharedFront_X3_codeAt rfl rfl rfl (by decide +kernel) ⟨Nat.le_of_ble_eq_true rfl, Nat.le_of_ble_eq_true rfl⟩) (rP_V (wc := [(he, .inr (2, oE ae nn)), (ae 0, .inl (cI, 18, .inl (nA kd))), (ae 1, .inl (cI, 18, .inl (nA ed))), (ae 2, .inl (cL, 18, .inr (.inl (lA cd))))]) (ci := 2) (q0 := 0) hK hP [0, 1, 2, 3] rfl rfl rfl) rfl rfl hl.1 rfl (lv_room (Nat.le_of_ble_eq_true rfl)) dX4_sharedFront_26 ⟨Nat.zero_le _, Nat.zero_le _⟩) (fun r hrr => ?_)
    rw [hrr]
    refine xnl_eq (pc := 29) (tgt := 35) hx hb (tc.c63 _) (tc.c63 _) dX4_sharedFront_29 dX4_sharedFront_30 (by decide) (fun c29 => ?_) (fun c29 => ?_)
    · have hsz := tc.unRRl hlr c16.1 c16.2
      refine lv_aload_n (pc := 35) hx hb dX4_sharedFront_35 rfl (lv_at hl 1 rfl) ?_
      refine lv_aload_n (pc := 36) hx hb dX4_sharedFront_36 rfl (lv_at hl 1 rfl) ?_
      refine lv_iload_n (pc := 37) hx hb dX4_sharedFront_37 rfl (lv_at hl 2 rfl) ?_
      refine vp_callSi (pc := 38) (W.runV (As := [.int (nI l1)]) (rest := [.ref he]) ⟨hx, hb, hml, hown, hts⟩ (c_X3_rightOf l D cI cL cZ he ae kd ed cd nn l1 (by omega) (by omega) (by omega)) (cwV 1 hts gX4_sharedFront_X3_rightOf rfl rfl rfl (by decide +kernel) ⟨Nat.le_of_ble_eq_true rfl, Nat.le_of_ble_eq_true rfl⟩) (rP_V (wc := [(he, .inr (2, oE ae nn)), (ae 0, .inl (cI, 18, .inl (nA kd))), (ae 1, .inl (cI, 18, .inl (nA ed))), (ae 2, .inl (cL, 18, .inr (.inl (lA cd))))]) (ci := 2) (q0 := 0) hK hP [0, 1, 2, 3] rfl rfl rfl) rfl rfl hl.1 rfl (lv_room (Nat.le_of_ble_eq_true rfl)) dX4_sharedFront_38 ⟨Nat.zero_le _, Nat.zero_le _⟩) (fun r hrr => ?_)
      rw [hrr]
      refine vp_callSl (pc := 41) (W.runV (As := [.int (nI (rA ed nn l1))]) (rest := []) ⟨hx, hb, hml, hown, hts⟩ (c_X3_codeAt l D cI cL cZ he ae kd ed cd nn (rA ed nn l1) (by omega) (Nat.lt_of_le_of_lt (tc.r _) (by decide))) (cwV 1 hts gX4_sharedFront_X3_codeAt rfl rfl rfl (by decide +kernel) ⟨Nat.le_of_ble_eq_true rfl, Nat.le_of_ble_eq_true rfl⟩) (rP_V (wc := [(he, .inr (2, oE ae nn)), (ae 0, .inl (cI, 18, .inl (nA kd))), (ae 1, .inl (cI, 18, .inl (nA ed))), (ae 2, .inl (cL, 18, .inr (.inl (lA cd))))]) (ci := 2) (q0 := 0) hK hP [0, 1, 2, 3] rfl rfl rfl) rfl rfl hl.1 rfl (lv_room (Nat.le_of_ble_eq_true rfl)) dX4_sharedFront_41 ⟨Nat.zero_le _, Nat.zero_le _⟩) (fun r hrr => ?_)
      rw [hrr]
      refine lv_aload_n (pc := 44) hx hb dX4_sharedFront_44 rfl (lv_at hl 1 rfl) ?_
      refine lv_aload_n (pc := 45) hx hb dX4_sharedFront_45 rfl (lv_at hl 1 rfl) ?_
      refine lv_iload_n (pc := 46) hx hb dX4_sharedFront_46 rfl (lv_at hl 3 rfl) ?_
      refine vp_callSi (pc := 47) (W.runV (As := [.int (nI r1)]) (rest := [.ref he, .long (lN (kA cd nn (rA ed nn l1)))]) ⟨hx, hb, hml, hown, hts⟩ (c_X3_rightOf l D cI cL cZ he ae kd ed cd nn r1 (by omega) (by omega) (by omega)) (cwV 1 hts gX4_sharedFront_X3_rightOf rfl rfl rfl (by decide +kernel) ⟨Nat.le_of_ble_eq_true rfl, Nat.le_of_ble_eq_true rfl⟩) (rP_V (wc := [(he, .inr (2, oE ae nn)), (ae 0, .inl (cI, 18, .inl (nA kd))), (ae 1, .inl (cI, 18, .inl (nA ed))), (ae 2, .inl (cL, 18, .inr (.inl (lA cd))))]) (ci := 2) (q0 := 0) hK hP [0, 1, 2, 3] rfl rfl rfl) rfl rfl hl.1 rfl (lv_room (Nat.le_of_ble_eq_true rfl)) dX4_sharedFront_47 ⟨Nat.zero_le _, Nat.zero_le _⟩) (fun r hrr => ?_)
      rw [hrr]
      refine vp_callSl (pc := 50) (W.runV (As := [.int (nI (rA ed nn r1))]) (rest := [.long (lN (kA cd nn (rA ed nn l1)))]) ⟨hx, hb, hml, hown, hts⟩ (c_X3_codeAt l D cI cL cZ he ae kd ed cd nn (rA ed nn r1) (by omega) (Nat.lt_of_le_of_lt (tc.r _) (by decide))) (cwV 1 hts gX4_sharedFront_X3_codeAt rfl rfl rfl (by decide +kernel) ⟨Nat.le_of_ble_eq_true rfl, Nat.le_of_ble_eq_true rfl⟩) (rP_V (wc := [(he, .inr (2, oE ae nn)), (ae 0, .inl (cI, 18, .inl (nA kd))), (ae 1, .inl (cI, 18, .inl (nA ed))), (ae 2, .inl (cL, 18, .inr (.inl (lA cd))))]) (ci := 2) (q0 := 0) hK hP [0, 1, 2, 3] rfl rfl rfl) rfl rfl hl.1 rfl (lv_room (Nat.le_of_ble_eq_true rfl)) dX4_sharedFront_50 ⟨Nat.zero_le _, Nat.zero_le _⟩) (fun r hrr => ?_)
      rw [hrr]
      refine vp_callSl (pc := 53) (W.runS (As := [.long (lN (kA cd nn (rA ed nn l1))), .long (lN (kA cd nn (rA ed nn r1)))]) (rest := []) ⟨hx, hb, hml, hown, hts⟩ (c_X1_union l D cI cL cZ (kA cd nn (rA ed nn l1)) (kA cd nn (rA ed nn r1)) (tc.c63 _) (tc.c63 _)) (va_cwS 2 hts gX4_sharedFront_X1_union rfl rfl rfl (by decide +kernel) ⟨Nat.le_of_ble_eq_true rfl, Nat.le_of_ble_eq_true rfl⟩) (rP_S (wc := []) hK hP [] rfl) rfl rfl hl.1 rfl (lv_room (Nat.le_of_ble_eq_true rfl)) dX4_sharedFront_53 ⟨Nat.zero_le _, Nat.zero_le _⟩) (fun r hrr => ?_)
      rw [hrr]
      refine lv_lstore (pc := 56) (lv' := [(5, .long (lN (un (kA cd nn (rA ed nn l1)) (kA cd nn (rA ed nn r1))))), (3, .long (lN (kA cd nn (l1 + 1)))), (0, .ref he), (1, .int (nI l1)), (2, .int (nI r1))]) hx hb dX4_sharedFront_56 hl (by decide) rfl (fun ls hl => ?_)
      refine lv_lload_n (pc := 58) hx hb dX4_sharedFront_58 rfl (lv_at hl 1 rfl) ?_
      refine lv_lload (pc := 59) hx hb dX4_sharedFront_59 (lv_at hl 0 rfl) ?_
      refine vp_callSl (pc := 61) (W.runS (As := [.long (lN (kA cd nn (l1 + 1))), .long (lN (un (kA cd nn (rA ed nn l1)) (kA cd nn (rA ed nn r1))))]) (rest := []) ⟨hx, hb, hml, hown, hts⟩ (c_X1_concatenation l D cI cL cZ (kA cd nn (l1 + 1)) (un (kA cd nn (rA ed nn l1)) (kA cd nn (rA ed nn r1))) (tc.c63 _) (sz_63 (tc.unRR hlr c16.1 c16.2).1 hsz.1)) (va_cwS 2 hts gX4_sharedFront_X1_concatenation rfl rfl rfl (by decide +kernel) ⟨Nat.le_of_ble_eq_true rfl, Nat.le_of_ble_eq_true rfl⟩) (rP_S (wc := []) hK hP [] rfl) rfl rfl hl.1 rfl (lv_room (Nat.le_of_ble_eq_true rfl)) dX4_sharedFront_61 ⟨Nat.zero_le _, Nat.zero_le _⟩) (fun r hrr => ?_)
      rw [hrr]
      exact W.lret (pc := 64) (v := (lN (ct (kA cd nn (l1 + 1)) (un (kA cd nn (rA ed nn l1)) (kA cd nn (rA ed nn r1)))))) hx hb hr (fun t ht _ => ⟨_, rfl, (by simp [mSF, c16, c29]), ht⟩) (fun _ h => absurd h List.not_mem_nil) dX4_sharedFront_64
    · refine lv_lconst (pc := 33) (v := (lN (0))) hx hb dX4_sharedFront_33 (by decide) ?_
      exact W.lret (pc := 34) (v := (lN (0))) hx hb hr (fun t ht _ => ⟨_, rfl, (by simp [mSF, c16, c29]), ht⟩) (fun _ h => absurd h List.not_mem_nil) dX4_sharedFront_34
set_option maxHeartbeats 4000000 in
set_option maxRecDepth 100000 in
theorem c_X4_sharedBack (l : Launch) (D : va_G) (cI cL cZ : ClassId) (he : Nat) (ae : Nat → Nat) (kd : Nat → Nat) (ed : Nat → Nat) (cd : Nat → Nat) (nn : Nat) (l1 : Nat) (r1 : Nat) (tc : TC kd ed cd nn) (hl1 : l1 < 2000) (hr1 : r1 < 2000) (hlr : r1 = ed l1) : Met l yX4_sharedBack wsX4_sharedBack { frames := 2, cells := 0, slots := 0, locals := 49 } (rP D (tyL cI cL cZ) [(he, .inr (2, oE ae nn)), (ae 0, .inl (cI, 18, .inl (nA kd))), (ae 1, .inl (cI, 18, .inl (nA ed))), (ae 2, .inl (cL, 18, .inr (.inl (lA cd))))] [.ref he, .int (nI l1), .int (nI r1)]) (vp_Sl (fun r => r = (lN (mSB (kA kd nn) (kA cd nn) (rA ed nn) l1 r1)))) 0 0 (fun _ => False) := by
  refine Met.ofW (cc := cX4_sharedBack) (maxL := 7) (ret := (some .long)) (by decide) rfl ?_
  intro pG eG s mG args below meth cG s₁ B hml hpre9
  obtain ⟨rfl, hP, hK⟩ := hpre9
  have hx := B.exec
  have hb := B.bytes
  have hr := B.returns
  have hts := atoms_spec (ws := wsX4_sharedBack) B.pre
  have hown : s.vm.findClass RX4 = some mG.cls := findClass_of_methodNamed B.named
  have hlocks := B.notSynchronized
  have hS : va_S (fun _ => False) s.heap s.heap [] := va_S.rf
  have hl := lv_entry ([.ref he, .int (nI l1), .int (nI r1)]) (n := 7) (Nat.le_of_ble_eq_true rfl)
  rw [lg_entry_eq]
  generalize (lg_sl ([.ref he, .int (nI l1), .int (nI r1)]) ++ List.replicate (7 - (lg_sl ([.ref he, .int (nI l1), .int (nI r1)])).length) Slot.unset).toArray = ls at hl ⊢
  have hl : lv_has ls 7 [(0, .ref he), (1, .int (nI l1)), (2, .int (nI r1))] := hl
  have hn18 := tc.n18
  have hn0 := tc.n0
  refine lv_aload_n (pc := 0) hx hb dX4_sharedBack_0 rfl (lv_at hl 0 rfl) ?_
  refine lv_aload_n (pc := 1) hx hb dX4_sharedBack_1 rfl (lv_at hl 0 rfl) ?_
  refine lv_iload_n (pc := 2) hx hb dX4_sharedBack_2 rfl (lv_at hl 1 rfl) ?_
  refine vp_callSi (pc := 3) (W.runV (As := [.int (nI l1)]) (rest := [.ref he]) ⟨hx, hb, hml, hown, hts⟩ (c_X3_rightOf l D cI cL cZ he ae kd ed cd nn l1 (by omega) (by omega) (by omega)) (cwV 1 hts gX4_sharedBack_X3_rightOf rfl rfl rfl (by decide +kernel) ⟨Nat.le_of_ble_eq_true rfl, Nat.le_of_ble_eq_true rfl⟩) (rP_V (wc := [(he, .inr (2, oE ae nn)), (ae 0, .inl (cI, 18, .inl (nA kd))), (ae 1, .inl (cI, 18, .inl (nA ed))), (ae 2, .inl (cL, 18, .inr (.inl (lA cd))))]) (ci := 2) (q0 := 0) hK hP [0, 1, 2, 3] rfl rfl rfl) rfl rfl hl.1 rfl (lv_room (Nat.le_of_ble_eq_true rfl)) dX4_sharedBack_3 ⟨Nat.zero_le _, Nat.zero_le _⟩) (fun r hrr => ?_)
  rw [hrr]
  refine vp_callSl (pc := 6) (W.runV (As := [.int (nI (rA ed nn l1))]) (rest := []) ⟨hx, hb, hml, hown, hts⟩ (c_X3_codeAt l D cI cL cZ he ae kd ed cd nn (rA ed nn l1) (by omega) (Nat.lt_of_le_of_lt (tc.r _) (by decide))) (cwV 1 hts gX4_sharedBack_X3_codeAt rfl rfl rfl (by decide +kernel) ⟨Nat.le_of_ble_eq_true rfl, Nat.le_of_ble_eq_true rfl⟩) (rP_V (wc := [(he, .inr (2, oE ae nn)), (ae 0, .inl (cI, 18, .inl (nA kd))), (ae 1, .inl (cI, 18, .inl (nA ed))), (ae 2, .inl (cL, 18, .inr (.inl (lA cd))))]) (ci := 2) (q0 := 0) hK hP [0, 1, 2, 3] rfl rfl rfl) rfl rfl hl.1 rfl (lv_room (Nat.le_of_ble_eq_true rfl)) dX4_sharedBack_6 ⟨Nat.zero_le _, Nat.zero_le _⟩) (fun r hrr => ?_)
  rw [hrr]
  refine lv_lstore_n (pc := 9) (lv' := [(3, .long (lN (kA cd nn (rA ed nn l1)))), (0, .ref he), (1, .int (nI l1)), (2, .int (nI r1))]) hx hb dX4_sharedBack_9 rfl hl (by decide) rfl (fun ls hl => ?_)
  refine lv_aload_n (pc := 10) hx hb dX4_sharedBack_10 rfl (lv_at hl 1 rfl) ?_
  refine lv_iload_n (pc := 11) hx hb dX4_sharedBack_11 rfl (lv_at hl 2 rfl) ?_
  refine lv_iload_n (pc := 12) hx hb dX4_sharedBack_12 rfl (lv_at hl 3 rfl) ?_
  refine vp_callSi (pc := 13) (W.runS (As := [.ref he, .int (nI l1), .int (nI r1)]) (rest := []) ⟨hx, hb, hml, hown, hts⟩ (c_X4_bothConcatenations l D cI cL cZ he ae kd ed cd nn l1 r1 tc (by omega) (by omega)) (va_cwS 3 hts gX4_sharedBack_X4_bothConcatenations rfl rfl rfl (by decide +kernel) ⟨Nat.le_of_ble_eq_true rfl, Nat.le_of_ble_eq_true rfl⟩) (rP_S (wc := [(he, .inr (2, oE ae nn)), (ae 0, .inl (cI, 18, .inl (nA kd))), (ae 1, .inl (cI, 18, .inl (nA ed))), (ae 2, .inl (cL, 18, .inr (.inl (lA cd))))]) hK hP [0, 1, 2, 3] rfl) rfl rfl hl.1 rfl (lv_room (Nat.le_of_ble_eq_true rfl)) dX4_sharedBack_13 ⟨Nat.zero_le _, Nat.zero_le _⟩) (fun r hrr => ?_)
  rw [hrr]
  refine xp_if_eq (pc := 16) (tgt := 33) hx hb dX4_sharedBack_16 (by decide) (fun c16 => ?_) (fun c16 => ?_)
  · refine lv_lconst (pc := 33) (v := (lN (0))) hx hb dX4_sharedBack_33 (by decide) ?_
    exact W.lret (pc := 34) (v := (lN (0))) hx hb hr (fun t ht _ => ⟨_, rfl, (by simp [mSB, c16]), ht⟩) (fun _ h => absurd h List.not_mem_nil) dX4_sharedBack_34
  · refine lv_lload_n (pc := 19) hx hb dX4_sharedBack_19 rfl (lv_at hl 0 rfl) ?_
    refine lv_aload_n (pc := 20) hx hb dX4_sharedBack_20 rfl (lv_at hl 1 rfl) ?_
    refine lv_aload_n (pc := 21) hx hb dX4_sharedBack_21 rfl (lv_at hl 1 rfl) ?_
    refine lv_iload_n (pc := 22) hx hb dX4_sharedBack_22 rfl (lv_at hl 3 rfl) ?_
    refine vp_callSi (pc := 23) (W.runV (As := [.int (nI r1)]) (rest := [.ref he, .long (lN (kA cd nn (rA ed nn l1)))]) ⟨hx, hb, hml, hown, hts⟩ (c_X3_rightOf l D cI cL cZ he ae kd ed cd nn r1 (by omega) (by omega) (by omega)) (cwV 1 hts gX4_sharedBack_X3_rightOf rfl rfl rfl (by decide +kernel) ⟨Nat.le_of_ble_eq_true rfl, Nat.le_of_ble_eq_true rfl⟩) (rP_V (wc := [(he, .inr (2, oE ae nn)), (ae 0, .inl (cI, 18, .inl (nA kd))), (ae 1, .inl (cI, 18, .inl (nA ed))), (ae 2, .inl (cL, 18, .inr (.inl (lA cd))))]) (ci := 2) (q0 := 0) hK hP [0, 1, 2, 3] rfl rfl rfl) rfl rfl hl.1 rfl (lv_room (Nat.le_of_ble_eq_true rfl)) dX4_sharedBack_23 ⟨Nat.zero_le _, Nat.zero_le _⟩) (fun r hrr => ?_)
    rw [hrr]
    refine vp_callSl (pc := 26) (W.runV (As := [.int (nI (rA ed nn r1))]) (rest := [.long (lN (kA cd nn (rA ed nn l1)))]) ⟨hx, hb, hml, hown, hts⟩ (c_X3_codeAt l D cI cL cZ he ae kd ed cd nn (rA ed nn r1) (by omega) (Nat.lt_of_le_of_lt (tc.r _) (by decide))) (cwV 1 hts gX4_sharedBack_X3_codeAt rfl rfl rfl (by decide +kernel) ⟨Nat.le_of_ble_eq_true rfl, Nat.le_of_ble_eq_true rfl⟩) (rP_V (wc := [(he, .inr (2, oE ae nn)), (ae 0, .inl (cI, 18, .inl (nA kd))), (ae 1, .inl (cI, 18, .inl (nA ed))), (ae 2, .inl (cL, 18, .inr (.inl (lA cd))))]) (ci := 2) (q0 := 0) hK hP [0, 1, 2, 3] rfl rfl rfl) rfl rfl hl.1 rfl (lv_room (Nat.le_of_ble_eq_true rfl)) dX4_sharedBack_26 ⟨Nat.zero_le _, Nat.zero_le _⟩) (fun r hrr => ?_)
    rw [hrr]
    refine xnl_eq (pc := 29) (tgt := 35) hx hb (tc.c63 _) (tc.c63 _) dX4_sharedBack_29 dX4_sharedBack_30 (by decide) (fun c29 => ?_) (fun c29 => ?_)
    · have hsz := tc.unRRl hlr c16.1 c16.2
      refine lv_aload_n (pc := 35) hx hb dX4_sharedBack_35 rfl (lv_at hl 1 rfl) ?_
      refine lv_aload_n (pc := 36) hx hb dX4_sharedBack_36 rfl (lv_at hl 1 rfl) ?_
      refine lv_iload_n (pc := 37) hx hb dX4_sharedBack_37 rfl (lv_at hl 2 rfl) ?_
      refine vp_callSi (pc := 38) (W.runV (As := [.int (nI l1)]) (rest := [.ref he]) ⟨hx, hb, hml, hown, hts⟩ (c_X3_leftOf l D cI cL cZ he ae kd ed cd nn l1) (cwV 1 hts gX4_sharedBack_X3_leftOf rfl rfl rfl (by decide +kernel) ⟨Nat.le_of_ble_eq_true rfl, Nat.le_of_ble_eq_true rfl⟩) (rP_V (wc := [(he, .inr (2, oE ae nn)), (ae 0, .inl (cI, 18, .inl (nA kd))), (ae 1, .inl (cI, 18, .inl (nA ed))), (ae 2, .inl (cL, 18, .inr (.inl (lA cd))))]) (ci := 2) (q0 := 0) hK hP [0, 1, 2, 3] rfl rfl rfl) rfl rfl hl.1 rfl (lv_room (Nat.le_of_ble_eq_true rfl)) dX4_sharedBack_38 ⟨Nat.zero_le _, Nat.zero_le _⟩) (fun r hrr => ?_)
      rw [hrr]
      refine vp_callSl (pc := 41) (W.runV (As := [.int (nI (l1 + 1))]) (rest := []) ⟨hx, hb, hml, hown, hts⟩ (c_X3_codeAt l D cI cL cZ he ae kd ed cd nn (l1 + 1) (by omega) (by omega)) (cwV 1 hts gX4_sharedBack_X3_codeAt rfl rfl rfl (by decide +kernel) ⟨Nat.le_of_ble_eq_true rfl, Nat.le_of_ble_eq_true rfl⟩) (rP_V (wc := [(he, .inr (2, oE ae nn)), (ae 0, .inl (cI, 18, .inl (nA kd))), (ae 1, .inl (cI, 18, .inl (nA ed))), (ae 2, .inl (cL, 18, .inr (.inl (lA cd))))]) (ci := 2) (q0 := 0) hK hP [0, 1, 2, 3] rfl rfl rfl) rfl rfl hl.1 rfl (lv_room (Nat.le_of_ble_eq_true rfl)) dX4_sharedBack_41 ⟨Nat.zero_le _, Nat.zero_le _⟩) (fun r hrr => ?_)
      rw [hrr]
      refine lv_aload_n (pc := 44) hx hb dX4_sharedBack_44 rfl (lv_at hl 1 rfl) ?_
      refine lv_aload_n (pc := 45) hx hb dX4_sharedBack_45 rfl (lv_at hl 1 rfl) ?_
      refine lv_iload_n (pc := 46) hx hb dX4_sharedBack_46 rfl (lv_at hl 3 rfl) ?_
      refine vp_callSi (pc := 47) (W.runV (As := [.int (nI r1)]) (rest := [.ref he, .long (lN (kA cd nn (l1 + 1)))]) ⟨hx, hb, hml, hown, hts⟩ (c_X3_leftOf l D cI cL cZ he ae kd ed cd nn r1) (cwV 1 hts gX4_sharedBack_X3_leftOf rfl rfl rfl (by decide +kernel) ⟨Nat.le_of_ble_eq_true rfl, Nat.le_of_ble_eq_true rfl⟩) (rP_V (wc := [(he, .inr (2, oE ae nn)), (ae 0, .inl (cI, 18, .inl (nA kd))), (ae 1, .inl (cI, 18, .inl (nA ed))), (ae 2, .inl (cL, 18, .inr (.inl (lA cd))))]) (ci := 2) (q0 := 0) hK hP [0, 1, 2, 3] rfl rfl rfl) rfl rfl hl.1 rfl (lv_room (Nat.le_of_ble_eq_true rfl)) dX4_sharedBack_47 ⟨Nat.zero_le _, Nat.zero_le _⟩) (fun r hrr => ?_)
      rw [hrr]
      refine vp_callSl (pc := 50) (W.runV (As := [.int (nI (r1 + 1))]) (rest := [.long (lN (kA cd nn (l1 + 1)))]) ⟨hx, hb, hml, hown, hts⟩ (c_X3_codeAt l D cI cL cZ he ae kd ed cd nn (r1 + 1) (by omega) (by omega)) (cwV 1 hts gX4_sharedBack_X3_codeAt rfl rfl rfl (by decide +kernel) ⟨Nat.le_of_ble_eq_true rfl, Nat.le_of_ble_eq_true rfl⟩) (rP_V (wc := [(he, .inr (2, oE ae nn)), (ae 0, .inl (cI, 18, .inl (nA kd))), (ae 1, .inl (cI, 18, .inl (nA ed))), (ae 2, .inl (cL, 18, .inr (.inl (lA cd))))]) (ci := 2) (q0 := 0) hK hP [0, 1, 2, 3] rfl rfl rfl) rfl rfl hl.1 rfl (lv_room (Nat.le_of_ble_eq_true rfl)) dX4_sharedBack_50 ⟨Nat.zero_le _, Nat.zero_le _⟩) (fun r hrr => ?_)
      rw [hrr]
      refine vp_callSl (pc := 53) (W.runS (As := [.long (lN (kA cd nn (l1 + 1))), .long (lN (kA cd nn (r1 + 1)))]) (rest := []) ⟨hx, hb, hml, hown, hts⟩ (c_X1_union l D cI cL cZ (kA cd nn (l1 + 1)) (kA cd nn (r1 + 1)) (tc.c63 _) (tc.c63 _)) (va_cwS 2 hts gX4_sharedBack_X1_union rfl rfl rfl (by decide +kernel) ⟨Nat.le_of_ble_eq_true rfl, Nat.le_of_ble_eq_true rfl⟩) (rP_S (wc := []) hK hP [] rfl) rfl rfl hl.1 rfl (lv_room (Nat.le_of_ble_eq_true rfl)) dX4_sharedBack_53 ⟨Nat.zero_le _, Nat.zero_le _⟩) (fun r hrr => ?_)
      rw [hrr]
      refine lv_lstore (pc := 56) (lv' := [(5, .long (lN (un (kA cd nn (l1 + 1)) (kA cd nn (r1 + 1))))), (3, .long (lN (kA cd nn (rA ed nn l1)))), (0, .ref he), (1, .int (nI l1)), (2, .int (nI r1))]) hx hb dX4_sharedBack_56 hl (by decide) rfl (fun ls hl => ?_)
      refine lv_lload (pc := 58) hx hb dX4_sharedBack_58 (lv_at hl 0 rfl) ?_
      refine lv_lload_n (pc := 60) hx hb dX4_sharedBack_60 rfl (lv_at hl 1 rfl) ?_
      refine vp_callSl (pc := 61) (W.runS (As := [.long (lN (un (kA cd nn (l1 + 1)) (kA cd nn (r1 + 1)))), .long (lN (kA cd nn (rA ed nn l1)))]) (rest := []) ⟨hx, hb, hml, hown, hts⟩ (c_X1_concatenation l D cI cL cZ (un (kA cd nn (l1 + 1)) (kA cd nn (r1 + 1))) (kA cd nn (rA ed nn l1)) (sz_63 (tc.unRR hlr c16.1 c16.2).2 hsz.2) (tc.c63 _)) (va_cwS 2 hts gX4_sharedBack_X1_concatenation rfl rfl rfl (by decide +kernel) ⟨Nat.le_of_ble_eq_true rfl, Nat.le_of_ble_eq_true rfl⟩) (rP_S (wc := []) hK hP [] rfl) rfl rfl hl.1 rfl (lv_room (Nat.le_of_ble_eq_true rfl)) dX4_sharedBack_61 ⟨Nat.zero_le _, Nat.zero_le _⟩) (fun r hrr => ?_)
      rw [hrr]
      exact W.lret (pc := 64) (v := (lN (ct (un (kA cd nn (l1 + 1)) (kA cd nn (r1 + 1))) (kA cd nn (rA ed nn l1))))) hx hb hr (fun t ht _ => ⟨_, rfl, (by simp [mSB, c16, c29]), ht⟩) (fun _ h => absurd h List.not_mem_nil) dX4_sharedBack_64
    · refine lv_lconst (pc := 33) (v := (lN (0))) hx hb dX4_sharedBack_33 (by decide) ?_
      exact W.lret (pc := 34) (v := (lN (0))) hx hb hr (fun t ht _ => ⟨_, rfl, (by simp [mSB, c16, c29]), ht⟩) (fun _ h => absurd h List.not_mem_nil) dX4_sharedBack_34
set_option maxHeartbeats 4000000 in
set_option maxRecDepth 100000 in
theorem c_X4_optionalRepetition (l : Launch) (D : va_G) (cI cL cZ : ClassId) (he : Nat) (ae : Nat → Nat) (kd : Nat → Nat) (ed : Nat → Nat) (cd : Nat → Nat) (nn : Nat) (l1 : Nat) (r1 : Nat) (tc : TC kd ed cd nn) (hl1 : l1 < 2000) (hr1 : r1 < 2000) : Met l yX4_optionalRepetition wsX4_optionalRepetition { frames := 2, cells := 0, slots := 0, locals := 44 } (rP D (tyL cI cL cZ) [(he, .inr (2, oE ae nn)), (ae 0, .inl (cI, 18, .inl (nA kd))), (ae 1, .inl (cI, 18, .inl (nA ed))), (ae 2, .inl (cL, 18, .inr (.inl (lA cd))))] [.ref he, .int (nI l1), .int (nI r1)]) (vp_Sl (fun r => r = (lN (mOR (kA kd nn) (kA cd nn) (rA ed nn) (sA kd cd nn) l1 r1)))) 0 0 (fun _ => False) := by
  refine Met.ofW (cc := cX4_optionalRepetition) (maxL := 6) (ret := (some .long)) (by decide) rfl ?_
  intro pG eG s mG args below meth cG s₁ B hml hpre9
  obtain ⟨rfl, hP, hK⟩ := hpre9
  have hx := B.exec
  have hb := B.bytes
  have hr := B.returns
  have hts := atoms_spec (ws := wsX4_optionalRepetition) B.pre
  have hown : s.vm.findClass RX4 = some mG.cls := findClass_of_methodNamed B.named
  have hlocks := B.notSynchronized
  have hS : va_S (fun _ => False) s.heap s.heap [] := va_S.rf
  have lk0 : (Cond.constantLong RX4 90 (2)).before _ s = true := hts _ (List.mem_cons_of_mem _ (List.mem_append_left _ (List.mem_append_left _ (List.mem_of_getElem? (i := 0) rfl))))
  have hl := lv_entry ([.ref he, .int (nI l1), .int (nI r1)]) (n := 6) (Nat.le_of_ble_eq_true rfl)
  rw [lg_entry_eq]
  generalize (lg_sl ([.ref he, .int (nI l1), .int (nI r1)]) ++ List.replicate (6 - (lg_sl ([.ref he, .int (nI l1), .int (nI r1)])).length) Slot.unset).toArray = ls at hl ⊢
  have hl : lv_has ls 6 [(0, .ref he), (1, .int (nI l1)), (2, .int (nI r1))] := hl
  have hn18 := tc.n18
  have hn0 := tc.n0
  refine lv_aload_n (pc := 0) hx hb dX4_optionalRepetition_0 rfl (lv_at hl 0 rfl) ?_
  refine lv_iload_n (pc := 1) hx hb dX4_optionalRepetition_1 rfl (lv_at hl 1 rfl) ?_
  refine vp_callSl (pc := 2) (W.runV (As := [.int (nI l1)]) (rest := []) ⟨hx, hb, hml, hown, hts⟩ (c_X3_codeAt l D cI cL cZ he ae kd ed cd nn l1 (by omega) (by omega)) (cwV 1 hts gX4_optionalRepetition_X3_codeAt rfl rfl rfl (by decide +kernel) ⟨Nat.le_of_ble_eq_true rfl, Nat.le_of_ble_eq_true rfl⟩) (rP_V (wc := [(he, .inr (2, oE ae nn)), (ae 0, .inl (cI, 18, .inl (nA kd))), (ae 1, .inl (cI, 18, .inl (nA ed))), (ae 2, .inl (cL, 18, .inr (.inl (lA cd))))]) (ci := 2) (q0 := 0) hK hP [0, 1, 2, 3] rfl rfl rfl) rfl rfl hl.1 rfl (lv_room (Nat.le_of_ble_eq_true rfl)) dX4_optionalRepetition_2 ⟨Nat.zero_le _, Nat.zero_le _⟩) (fun r hrr => ?_)
  rw [hrr]
  refine lv_ldc2 (pc := 5) (v := (lN (2))) hx hb hown lk0 dX4_optionalRepetition_5 ?_
  refine xnl_ne (pc := 8) (tgt := 16) hx hb (tc.c63 _) (by omega) dX4_optionalRepetition_8 dX4_optionalRepetition_9 (by decide) (fun c8 => ?_) (fun c8 => ?_)
  · refine lv_iconst (pc := 16) (v := (nI (0))) hx hb dX4_optionalRepetition_16 (by decide) ?_
    refine lv_istore_n (pc := 17) (lv' := [(3, .int (nI 0)), (0, .ref he), (1, .int (nI l1)), (2, .int (nI r1))]) hx hb dX4_optionalRepetition_17 rfl hl (by decide) rfl (fun ls hl => ?_)
    refine lv_aload_n (pc := 18) hx hb dX4_optionalRepetition_18 rfl (lv_at hl 1 rfl) ?_
    refine lv_iload_n (pc := 19) hx hb dX4_optionalRepetition_19 rfl (lv_at hl 3 rfl) ?_
    refine vp_callSl (pc := 20) (W.runV (As := [.int (nI r1)]) (rest := []) ⟨hx, hb, hml, hown, hts⟩ (c_X3_codeAt l D cI cL cZ he ae kd ed cd nn r1 (by omega) (by omega)) (cwV 1 hts gX4_optionalRepetition_X3_codeAt rfl rfl rfl (by decide +kernel) ⟨Nat.le_of_ble_eq_true rfl, Nat.le_of_ble_eq_true rfl⟩) (rP_V (wc := [(he, .inr (2, oE ae nn)), (ae 0, .inl (cI, 18, .inl (nA kd))), (ae 1, .inl (cI, 18, .inl (nA ed))), (ae 2, .inl (cL, 18, .inr (.inl (lA cd))))]) (ci := 2) (q0 := 0) hK hP [0, 1, 2, 3] rfl rfl rfl) rfl rfl hl.1 rfl (lv_room (Nat.le_of_ble_eq_true rfl)) dX4_optionalRepetition_20 ⟨Nat.zero_le _, Nat.zero_le _⟩) (fun r hrr => ?_)
    rw [hrr]
    refine lv_ldc2 (pc := 23) (v := (lN (2))) hx hb hown lk0 dX4_optionalRepetition_23 ?_
    refine xnl_ne (pc := 26) (tgt := 34) hx hb (tc.c63 _) (by omega) dX4_optionalRepetition_26 dX4_optionalRepetition_27 (by decide) (fun c26 => ?_) (fun c26 => ?_)
    · refine lv_iconst (pc := 34) (v := (nI (0))) hx hb dX4_optionalRepetition_34 (by decide) ?_
      refine lv_istore (pc := 35) (lv' := [(4, .int (nI 0)), (3, .int (nI 0)), (0, .ref he), (1, .int (nI l1)), (2, .int (nI r1))]) hx hb dX4_optionalRepetition_35 hl (by decide) rfl (fun ls hl => ?_)
      refine lv_iload_n (pc := 37) hx hb dX4_optionalRepetition_37 rfl (lv_at hl 1 rfl) ?_
      refine lv_if_eq (pc := 38) (tgt := 45) hx hb dX4_optionalRepetition_38 (by decide) (fun _ => ?_) (fun h => absurd h (by decide))
      refine lv_iload_n (pc := 45) hx hb dX4_optionalRepetition_45 rfl (lv_at hl 3 rfl) ?_
      refine lv_istore (pc := 46) (lv' := [(5, .int (nI l1)), (4, .int (nI 0)), (3, .int (nI 0)), (0, .ref he), (1, .int (nI l1)), (2, .int (nI r1))]) hx hb dX4_optionalRepetition_46 hl (by decide) rfl (fun ls hl => ?_)
      refine lv_iload_n (pc := 48) hx hb dX4_optionalRepetition_48 rfl (lv_at hl 2 rfl) ?_
      refine lv_if_ne (pc := 49) (tgt := 57) hx hb dX4_optionalRepetition_49 (by decide) (fun h => absurd h (by decide)) (fun _ => ?_)
      refine lv_iload (pc := 52) hx hb dX4_optionalRepetition_52 (lv_at hl 1 rfl) ?_
      refine lv_if_eq (pc := 54) (tgt := 68) hx hb dX4_optionalRepetition_54 (by decide) (fun _ => ?_) (fun h => absurd h (by decide))
      refine lv_lconst (pc := 68) (v := (lN (0))) hx hb dX4_optionalRepetition_68 (by decide) ?_
      exact W.lret (pc := 69) (v := (lN (0))) hx hb hr (fun t ht _ => ⟨_, rfl, (by unfold mOR; (repeat' split) <;> first | rfl | omega), ht⟩) (fun _ h => absurd h List.not_mem_nil) dX4_optionalRepetition_69
    · refine lv_iconst (pc := 30) (v := (nI (1))) hx hb dX4_optionalRepetition_30 (by decide) ?_
      refine lv_goto (pc := 31) (tgt := 35) hx hb dX4_optionalRepetition_31 (by decide) ?_
      refine lv_istore (pc := 35) (lv' := [(4, .int (nI 1)), (3, .int (nI 0)), (0, .ref he), (1, .int (nI l1)), (2, .int (nI r1))]) hx hb dX4_optionalRepetition_35 hl (by decide) rfl (fun ls hl => ?_)
      refine lv_iload_n (pc := 37) hx hb dX4_optionalRepetition_37 rfl (lv_at hl 1 rfl) ?_
      refine lv_if_eq (pc := 38) (tgt := 45) hx hb dX4_optionalRepetition_38 (by decide) (fun _ => ?_) (fun h => absurd h (by decide))
      refine lv_iload_n (pc := 45) hx hb dX4_optionalRepetition_45 rfl (lv_at hl 3 rfl) ?_
      refine lv_istore (pc := 46) (lv' := [(5, .int (nI l1)), (4, .int (nI 1)), (3, .int (nI 0)), (0, .ref he), (1, .int (nI l1)), (2, .int (nI r1))]) hx hb dX4_optionalRepetition_46 hl (by decide) rfl (fun ls hl => ?_)
      refine lv_iload_n (pc := 48) hx hb dX4_optionalRepetition_48 rfl (lv_at hl 2 rfl) ?_
      refine lv_if_ne (pc := 49) (tgt := 57) hx hb dX4_optionalRepetition_49 (by decide) (fun h => absurd h (by decide)) (fun _ => ?_)
      refine lv_iload (pc := 52) hx hb dX4_optionalRepetition_52 (lv_at hl 1 rfl) ?_
      refine lv_if_eq (pc := 54) (tgt := 68) hx hb dX4_optionalRepetition_54 (by decide) (fun h => absurd h (by decide)) (fun _ => ?_)
      refine lv_aload_n (pc := 57) hx hb dX4_optionalRepetition_57 rfl (lv_at hl 3 rfl) ?_
      refine lv_iload (pc := 58) hx hb dX4_optionalRepetition_58 (lv_at hl 0 rfl) ?_
      refine vp_callSi (pc := 60) (W.runV (As := [.int (nI l1)]) (rest := []) ⟨hx, hb, hml, hown, hts⟩ (c_X3_kindAt l D cI cL cZ he ae kd ed cd nn l1 (by omega) (by omega)) (cwV 1 hts gX4_optionalRepetition_X3_kindAt rfl rfl rfl (by decide +kernel) ⟨Nat.le_of_ble_eq_true rfl, Nat.le_of_ble_eq_true rfl⟩) (rP_V (wc := [(he, .inr (2, oE ae nn)), (ae 0, .inl (cI, 18, .inl (nA kd))), (ae 1, .inl (cI, 18, .inl (nA ed))), (ae 2, .inl (cL, 18, .inr (.inl (lA cd))))]) (ci := 2) (q0 := 0) hK hP [0, 1, 2, 3] rfl rfl rfl) rfl rfl hl.1 rfl (lv_room (Nat.le_of_ble_eq_true rfl)) dX4_optionalRepetition_60 ⟨Nat.zero_le _, Nat.zero_le _⟩) (fun r hrr => ?_)
      rw [hrr]
      refine lv_bipush (pc := 63) (v := (nI (7))) hx hb dX4_optionalRepetition_63 (by decide) ?_
      refine xn_icmp_eq (pc := 65) (tgt := 70) hx hb (Nat.lt_of_le_of_lt (tc.k _) (by decide)) (by omega) dX4_optionalRepetition_65 (by decide) (fun c65 => ?_) (fun c65 => ?_)
      · refine lv_aload_n (pc := 70) hx hb dX4_optionalRepetition_70 rfl (lv_at hl 3 rfl) ?_
        refine lv_aload_n (pc := 71) hx hb dX4_optionalRepetition_71 rfl (lv_at hl 3 rfl) ?_
        refine lv_iload (pc := 72) hx hb dX4_optionalRepetition_72 (lv_at hl 0 rfl) ?_
        refine vp_callSi (pc := 74) (W.runV (As := [.int (nI l1)]) (rest := [.ref he]) ⟨hx, hb, hml, hown, hts⟩ (c_X3_leftOf l D cI cL cZ he ae kd ed cd nn l1) (cwV 1 hts gX4_optionalRepetition_X3_leftOf rfl rfl rfl (by decide +kernel) ⟨Nat.le_of_ble_eq_true rfl, Nat.le_of_ble_eq_true rfl⟩) (rP_V (wc := [(he, .inr (2, oE ae nn)), (ae 0, .inl (cI, 18, .inl (nA kd))), (ae 1, .inl (cI, 18, .inl (nA ed))), (ae 2, .inl (cL, 18, .inr (.inl (lA cd))))]) (ci := 2) (q0 := 0) hK hP [0, 1, 2, 3] rfl rfl rfl) rfl rfl hl.1 rfl (lv_room (Nat.le_of_ble_eq_true rfl)) dX4_optionalRepetition_74 ⟨Nat.zero_le _, Nat.zero_le _⟩) (fun r hrr => ?_)
        rw [hrr]
        refine lv_aload_n (pc := 77) hx hb dX4_optionalRepetition_77 rfl (lv_at hl 3 rfl) ?_
        refine lv_iload (pc := 78) hx hb dX4_optionalRepetition_78 (lv_at hl 0 rfl) ?_
        refine vp_callSi (pc := 80) (W.runV (As := [.int (nI l1)]) (rest := [.int (nI (l1 + 1)), .ref he]) ⟨hx, hb, hml, hown, hts⟩ (c_X3_rightOf l D cI cL cZ he ae kd ed cd nn l1 (by omega) (by omega) (by omega)) (cwV 1 hts gX4_optionalRepetition_X3_rightOf rfl rfl rfl (by decide +kernel) ⟨Nat.le_of_ble_eq_true rfl, Nat.le_of_ble_eq_true rfl⟩) (rP_V (wc := [(he, .inr (2, oE ae nn)), (ae 0, .inl (cI, 18, .inl (nA kd))), (ae 1, .inl (cI, 18, .inl (nA ed))), (ae 2, .inl (cL, 18, .inr (.inl (lA cd))))]) (ci := 2) (q0 := 0) hK hP [0, 1, 2, 3] rfl rfl rfl) rfl rfl hl.1 rfl (lv_room (Nat.le_of_ble_eq_true rfl)) dX4_optionalRepetition_80 ⟨Nat.zero_le _, Nat.zero_le _⟩) (fun r hrr => ?_)
        rw [hrr]
        refine vp_callSl (pc := 83) (W.runS (As := [.ref he, .int (nI (l1 + 1)), .int (nI (rA ed nn l1))]) (rest := []) ⟨hx, hb, hml, hown, hts⟩ (c_X4_besideItsStar l D cI cL cZ he ae kd ed cd nn (l1 + 1) (rA ed nn l1) tc (by omega) (Nat.lt_of_le_of_lt (tc.r _) (by decide))) (va_cwS 3 hts gX4_optionalRepetition_X4_besideItsStar rfl rfl rfl (by decide +kernel) ⟨Nat.le_of_ble_eq_true rfl, Nat.le_of_ble_eq_true rfl⟩) (rP_S (wc := [(he, .inr (2, oE ae nn)), (ae 0, .inl (cI, 18, .inl (nA kd))), (ae 1, .inl (cI, 18, .inl (nA ed))), (ae 2, .inl (cL, 18, .inr (.inl (lA cd))))]) hK hP [0, 1, 2, 3] rfl) rfl rfl hl.1 rfl (lv_room (Nat.le_of_ble_eq_true rfl)) dX4_optionalRepetition_83 ⟨Nat.zero_le _, Nat.zero_le _⟩) (fun r hrr => ?_)
        rw [hrr]
        exact W.lret (pc := 86) (v := (lN (mBS (kA cd nn) (sA kd cd nn) (l1 + 1) (rA ed nn l1)))) hx hb hr (fun t ht _ => ⟨_, rfl, (by unfold mOR; (repeat' split) <;> first | rfl | omega), ht⟩) (fun _ h => absurd h List.not_mem_nil) dX4_optionalRepetition_86
      · refine lv_lconst (pc := 68) (v := (lN (0))) hx hb dX4_optionalRepetition_68 (by decide) ?_
        exact W.lret (pc := 69) (v := (lN (0))) hx hb hr (fun t ht _ => ⟨_, rfl, (by unfold mOR; (repeat' split) <;> first | rfl | omega), ht⟩) (fun _ h => absurd h List.not_mem_nil) dX4_optionalRepetition_69
  · refine lv_iconst (pc := 12) (v := (nI (1))) hx hb dX4_optionalRepetition_12 (by decide) ?_
    refine lv_goto (pc := 13) (tgt := 17) hx hb dX4_optionalRepetition_13 (by decide) ?_
    refine lv_istore_n (pc := 17) (lv' := [(3, .int (nI 1)), (0, .ref he), (1, .int (nI l1)), (2, .int (nI r1))]) hx hb dX4_optionalRepetition_17 rfl hl (by decide) rfl (fun ls hl => ?_)
    refine lv_aload_n (pc := 18) hx hb dX4_optionalRepetition_18 rfl (lv_at hl 1 rfl) ?_
    refine lv_iload_n (pc := 19) hx hb dX4_optionalRepetition_19 rfl (lv_at hl 3 rfl) ?_
    refine vp_callSl (pc := 20) (W.runV (As := [.int (nI r1)]) (rest := []) ⟨hx, hb, hml, hown, hts⟩ (c_X3_codeAt l D cI cL cZ he ae kd ed cd nn r1 (by omega) (by omega)) (cwV 1 hts gX4_optionalRepetition_X3_codeAt rfl rfl rfl (by decide +kernel) ⟨Nat.le_of_ble_eq_true rfl, Nat.le_of_ble_eq_true rfl⟩) (rP_V (wc := [(he, .inr (2, oE ae nn)), (ae 0, .inl (cI, 18, .inl (nA kd))), (ae 1, .inl (cI, 18, .inl (nA ed))), (ae 2, .inl (cL, 18, .inr (.inl (lA cd))))]) (ci := 2) (q0 := 0) hK hP [0, 1, 2, 3] rfl rfl rfl) rfl rfl hl.1 rfl (lv_room (Nat.le_of_ble_eq_true rfl)) dX4_optionalRepetition_20 ⟨Nat.zero_le _, Nat.zero_le _⟩) (fun r hrr => ?_)
    rw [hrr]
    refine lv_ldc2 (pc := 23) (v := (lN (2))) hx hb hown lk0 dX4_optionalRepetition_23 ?_
    refine xnl_ne (pc := 26) (tgt := 34) hx hb (tc.c63 _) (by omega) dX4_optionalRepetition_26 dX4_optionalRepetition_27 (by decide) (fun c26 => ?_) (fun c26 => ?_)
    · refine lv_iconst (pc := 34) (v := (nI (0))) hx hb dX4_optionalRepetition_34 (by decide) ?_
      refine lv_istore (pc := 35) (lv' := [(4, .int (nI 0)), (3, .int (nI 1)), (0, .ref he), (1, .int (nI l1)), (2, .int (nI r1))]) hx hb dX4_optionalRepetition_35 hl (by decide) rfl (fun ls hl => ?_)
      refine lv_iload_n (pc := 37) hx hb dX4_optionalRepetition_37 rfl (lv_at hl 1 rfl) ?_
      refine lv_if_eq (pc := 38) (tgt := 45) hx hb dX4_optionalRepetition_38 (by decide) (fun h => absurd h (by decide)) (fun _ => ?_)
      refine lv_iload_n (pc := 41) hx hb dX4_optionalRepetition_41 rfl (lv_at hl 4 rfl) ?_
      refine lv_goto (pc := 42) (tgt := 46) hx hb dX4_optionalRepetition_42 (by decide) ?_
      refine lv_istore (pc := 46) (lv' := [(5, .int (nI r1)), (4, .int (nI 0)), (3, .int (nI 1)), (0, .ref he), (1, .int (nI l1)), (2, .int (nI r1))]) hx hb dX4_optionalRepetition_46 hl (by decide) rfl (fun ls hl => ?_)
      refine lv_iload_n (pc := 48) hx hb dX4_optionalRepetition_48 rfl (lv_at hl 2 rfl) ?_
      refine lv_if_ne (pc := 49) (tgt := 57) hx hb dX4_optionalRepetition_49 (by decide) (fun _ => ?_) (fun h => absurd h (by decide))
      refine lv_aload_n (pc := 57) hx hb dX4_optionalRepetition_57 rfl (lv_at hl 3 rfl) ?_
      refine lv_iload (pc := 58) hx hb dX4_optionalRepetition_58 (lv_at hl 0 rfl) ?_
      refine vp_callSi (pc := 60) (W.runV (As := [.int (nI r1)]) (rest := []) ⟨hx, hb, hml, hown, hts⟩ (c_X3_kindAt l D cI cL cZ he ae kd ed cd nn r1 (by omega) (by omega)) (cwV 1 hts gX4_optionalRepetition_X3_kindAt rfl rfl rfl (by decide +kernel) ⟨Nat.le_of_ble_eq_true rfl, Nat.le_of_ble_eq_true rfl⟩) (rP_V (wc := [(he, .inr (2, oE ae nn)), (ae 0, .inl (cI, 18, .inl (nA kd))), (ae 1, .inl (cI, 18, .inl (nA ed))), (ae 2, .inl (cL, 18, .inr (.inl (lA cd))))]) (ci := 2) (q0 := 0) hK hP [0, 1, 2, 3] rfl rfl rfl) rfl rfl hl.1 rfl (lv_room (Nat.le_of_ble_eq_true rfl)) dX4_optionalRepetition_60 ⟨Nat.zero_le _, Nat.zero_le _⟩) (fun r hrr => ?_)
      rw [hrr]
      refine lv_bipush (pc := 63) (v := (nI (7))) hx hb dX4_optionalRepetition_63 (by decide) ?_
      refine xn_icmp_eq (pc := 65) (tgt := 70) hx hb (Nat.lt_of_le_of_lt (tc.k _) (by decide)) (by omega) dX4_optionalRepetition_65 (by decide) (fun c65 => ?_) (fun c65 => ?_)
      · refine lv_aload_n (pc := 70) hx hb dX4_optionalRepetition_70 rfl (lv_at hl 3 rfl) ?_
        refine lv_aload_n (pc := 71) hx hb dX4_optionalRepetition_71 rfl (lv_at hl 3 rfl) ?_
        refine lv_iload (pc := 72) hx hb dX4_optionalRepetition_72 (lv_at hl 0 rfl) ?_
        refine vp_callSi (pc := 74) (W.runV (As := [.int (nI r1)]) (rest := [.ref he]) ⟨hx, hb, hml, hown, hts⟩ (c_X3_leftOf l D cI cL cZ he ae kd ed cd nn r1) (cwV 1 hts gX4_optionalRepetition_X3_leftOf rfl rfl rfl (by decide +kernel) ⟨Nat.le_of_ble_eq_true rfl, Nat.le_of_ble_eq_true rfl⟩) (rP_V (wc := [(he, .inr (2, oE ae nn)), (ae 0, .inl (cI, 18, .inl (nA kd))), (ae 1, .inl (cI, 18, .inl (nA ed))), (ae 2, .inl (cL, 18, .inr (.inl (lA cd))))]) (ci := 2) (q0 := 0) hK hP [0, 1, 2, 3] rfl rfl rfl) rfl rfl hl.1 rfl (lv_room (Nat.le_of_ble_eq_true rfl)) dX4_optionalRepetition_74 ⟨Nat.zero_le _, Nat.zero_le _⟩) (fun r hrr => ?_)
        rw [hrr]
        refine lv_aload_n (pc := 77) hx hb dX4_optionalRepetition_77 rfl (lv_at hl 3 rfl) ?_
        refine lv_iload (pc := 78) hx hb dX4_optionalRepetition_78 (lv_at hl 0 rfl) ?_
        refine vp_callSi (pc := 80) (W.runV (As := [.int (nI r1)]) (rest := [.int (nI (r1 + 1)), .ref he]) ⟨hx, hb, hml, hown, hts⟩ (c_X3_rightOf l D cI cL cZ he ae kd ed cd nn r1 (by omega) (by omega) (by omega)) (cwV 1 hts gX4_optionalRepetition_X3_rightOf rfl rfl rfl (by decide +kernel) ⟨Nat.le_of_ble_eq_true rfl, Nat.le_of_ble_eq_true rfl⟩) (rP_V (wc := [(he, .inr (2, oE ae nn)), (ae 0, .inl (cI, 18, .inl (nA kd))), (ae 1, .inl (cI, 18, .inl (nA ed))), (ae 2, .inl (cL, 18, .inr (.inl (lA cd))))]) (ci := 2) (q0 := 0) hK hP [0, 1, 2, 3] rfl rfl rfl) rfl rfl hl.1 rfl (lv_room (Nat.le_of_ble_eq_true rfl)) dX4_optionalRepetition_80 ⟨Nat.zero_le _, Nat.zero_le _⟩) (fun r hrr => ?_)
        rw [hrr]
        refine vp_callSl (pc := 83) (W.runS (As := [.ref he, .int (nI (r1 + 1)), .int (nI (rA ed nn r1))]) (rest := []) ⟨hx, hb, hml, hown, hts⟩ (c_X4_besideItsStar l D cI cL cZ he ae kd ed cd nn (r1 + 1) (rA ed nn r1) tc (by omega) (Nat.lt_of_le_of_lt (tc.r _) (by decide))) (va_cwS 3 hts gX4_optionalRepetition_X4_besideItsStar rfl rfl rfl (by decide +kernel) ⟨Nat.le_of_ble_eq_true rfl, Nat.le_of_ble_eq_true rfl⟩) (rP_S (wc := [(he, .inr (2, oE ae nn)), (ae 0, .inl (cI, 18, .inl (nA kd))), (ae 1, .inl (cI, 18, .inl (nA ed))), (ae 2, .inl (cL, 18, .inr (.inl (lA cd))))]) hK hP [0, 1, 2, 3] rfl) rfl rfl hl.1 rfl (lv_room (Nat.le_of_ble_eq_true rfl)) dX4_optionalRepetition_83 ⟨Nat.zero_le _, Nat.zero_le _⟩) (fun r hrr => ?_)
        rw [hrr]
        exact W.lret (pc := 86) (v := (lN (mBS (kA cd nn) (sA kd cd nn) (r1 + 1) (rA ed nn r1)))) hx hb hr (fun t ht _ => ⟨_, rfl, (by unfold mOR; (repeat' split) <;> first | rfl | omega), ht⟩) (fun _ h => absurd h List.not_mem_nil) dX4_optionalRepetition_86
      · refine lv_lconst (pc := 68) (v := (lN (0))) hx hb dX4_optionalRepetition_68 (by decide) ?_
        exact W.lret (pc := 69) (v := (lN (0))) hx hb hr (fun t ht _ => ⟨_, rfl, (by unfold mOR; (repeat' split) <;> first | rfl | omega), ht⟩) (fun _ h => absurd h List.not_mem_nil) dX4_optionalRepetition_69
    · refine lv_iconst (pc := 30) (v := (nI (1))) hx hb dX4_optionalRepetition_30 (by decide) ?_
      refine lv_goto (pc := 31) (tgt := 35) hx hb dX4_optionalRepetition_31 (by decide) ?_
      refine lv_istore (pc := 35) (lv' := [(4, .int (nI 1)), (3, .int (nI 1)), (0, .ref he), (1, .int (nI l1)), (2, .int (nI r1))]) hx hb dX4_optionalRepetition_35 hl (by decide) rfl (fun ls hl => ?_)
      refine lv_iload_n (pc := 37) hx hb dX4_optionalRepetition_37 rfl (lv_at hl 1 rfl) ?_
      refine lv_if_eq (pc := 38) (tgt := 45) hx hb dX4_optionalRepetition_38 (by decide) (fun h => absurd h (by decide)) (fun _ => ?_)
      refine lv_iload_n (pc := 41) hx hb dX4_optionalRepetition_41 rfl (lv_at hl 4 rfl) ?_
      refine lv_goto (pc := 42) (tgt := 46) hx hb dX4_optionalRepetition_42 (by decide) ?_
      refine lv_istore (pc := 46) (lv' := [(5, .int (nI r1)), (4, .int (nI 1)), (3, .int (nI 1)), (0, .ref he), (1, .int (nI l1)), (2, .int (nI r1))]) hx hb dX4_optionalRepetition_46 hl (by decide) rfl (fun ls hl => ?_)
      refine lv_iload_n (pc := 48) hx hb dX4_optionalRepetition_48 rfl (lv_at hl 2 rfl) ?_
      refine lv_if_ne (pc := 49) (tgt := 57) hx hb dX4_optionalRepetition_49 (by decide) (fun _ => ?_) (fun h => absurd h (by decide))
      refine lv_aload_n (pc := 57) hx hb dX4_optionalRepetition_57 rfl (lv_at hl 3 rfl) ?_
      refine lv_iload (pc := 58) hx hb dX4_optionalRepetition_58 (lv_at hl 0 rfl) ?_
      refine vp_callSi (pc := 60) (W.runV (As := [.int (nI r1)]) (rest := []) ⟨hx, hb, hml, hown, hts⟩ (c_X3_kindAt l D cI cL cZ he ae kd ed cd nn r1 (by omega) (by omega)) (cwV 1 hts gX4_optionalRepetition_X3_kindAt rfl rfl rfl (by decide +kernel) ⟨Nat.le_of_ble_eq_true rfl, Nat.le_of_ble_eq_true rfl⟩) (rP_V (wc := [(he, .inr (2, oE ae nn)), (ae 0, .inl (cI, 18, .inl (nA kd))), (ae 1, .inl (cI, 18, .inl (nA ed))), (ae 2, .inl (cL, 18, .inr (.inl (lA cd))))]) (ci := 2) (q0 := 0) hK hP [0, 1, 2, 3] rfl rfl rfl) rfl rfl hl.1 rfl (lv_room (Nat.le_of_ble_eq_true rfl)) dX4_optionalRepetition_60 ⟨Nat.zero_le _, Nat.zero_le _⟩) (fun r hrr => ?_)
      rw [hrr]
      refine lv_bipush (pc := 63) (v := (nI (7))) hx hb dX4_optionalRepetition_63 (by decide) ?_
      refine xn_icmp_eq (pc := 65) (tgt := 70) hx hb (Nat.lt_of_le_of_lt (tc.k _) (by decide)) (by omega) dX4_optionalRepetition_65 (by decide) (fun c65 => ?_) (fun c65 => ?_)
      · refine lv_aload_n (pc := 70) hx hb dX4_optionalRepetition_70 rfl (lv_at hl 3 rfl) ?_
        refine lv_aload_n (pc := 71) hx hb dX4_optionalRepetition_71 rfl (lv_at hl 3 rfl) ?_
        refine lv_iload (pc := 72) hx hb dX4_optionalRepetition_72 (lv_at hl 0 rfl) ?_
        refine vp_callSi (pc := 74) (W.runV (As := [.int (nI r1)]) (rest := [.ref he]) ⟨hx, hb, hml, hown, hts⟩ (c_X3_leftOf l D cI cL cZ he ae kd ed cd nn r1) (cwV 1 hts gX4_optionalRepetition_X3_leftOf rfl rfl rfl (by decide +kernel) ⟨Nat.le_of_ble_eq_true rfl, Nat.le_of_ble_eq_true rfl⟩) (rP_V (wc := [(he, .inr (2, oE ae nn)), (ae 0, .inl (cI, 18, .inl (nA kd))), (ae 1, .inl (cI, 18, .inl (nA ed))), (ae 2, .inl (cL, 18, .inr (.inl (lA cd))))]) (ci := 2) (q0 := 0) hK hP [0, 1, 2, 3] rfl rfl rfl) rfl rfl hl.1 rfl (lv_room (Nat.le_of_ble_eq_true rfl)) dX4_optionalRepetition_74 ⟨Nat.zero_le _, Nat.zero_le _⟩) (fun r hrr => ?_)
        rw [hrr]
        refine lv_aload_n (pc := 77) hx hb dX4_optionalRepetition_77 rfl (lv_at hl 3 rfl) ?_
        refine lv_iload (pc := 78) hx hb dX4_optionalRepetition_78 (lv_at hl 0 rfl) ?_
        refine vp_callSi (pc := 80) (W.runV (As := [.int (nI r1)]) (rest := [.int (nI (r1 + 1)), .ref he]) ⟨hx, hb, hml, hown, hts⟩ (c_X3_rightOf l D cI cL cZ he ae kd ed cd nn r1 (by omega) (by omega) (by omega)) (cwV 1 hts gX4_optionalRepetition_X3_rightOf rfl rfl rfl (by decide +kernel) ⟨Nat.le_of_ble_eq_true rfl, Nat.le_of_ble_eq_true rfl⟩) (rP_V (wc := [(he, .inr (2, oE ae nn)), (ae 0, .inl (cI, 18, .inl (nA kd))), (ae 1, .inl (cI, 18, .inl (nA ed))), (ae 2, .inl (cL, 18, .inr (.inl (lA cd))))]) (ci := 2) (q0 := 0) hK hP [0, 1, 2, 3] rfl rfl rfl) rfl rfl hl.1 rfl (lv_room (Nat.le_of_ble_eq_true rfl)) dX4_optionalRepetition_80 ⟨Nat.zero_le _, Nat.zero_le _⟩) (fun r hrr => ?_)
        rw [hrr]
        refine vp_callSl (pc := 83) (W.runS (As := [.ref he, .int (nI (r1 + 1)), .int (nI (rA ed nn r1))]) (rest := []) ⟨hx, hb, hml, hown, hts⟩ (c_X4_besideItsStar l D cI cL cZ he ae kd ed cd nn (r1 + 1) (rA ed nn r1) tc (by omega) (Nat.lt_of_le_of_lt (tc.r _) (by decide))) (va_cwS 3 hts gX4_optionalRepetition_X4_besideItsStar rfl rfl rfl (by decide +kernel) ⟨Nat.le_of_ble_eq_true rfl, Nat.le_of_ble_eq_true rfl⟩) (rP_S (wc := [(he, .inr (2, oE ae nn)), (ae 0, .inl (cI, 18, .inl (nA kd))), (ae 1, .inl (cI, 18, .inl (nA ed))), (ae 2, .inl (cL, 18, .inr (.inl (lA cd))))]) hK hP [0, 1, 2, 3] rfl) rfl rfl hl.1 rfl (lv_room (Nat.le_of_ble_eq_true rfl)) dX4_optionalRepetition_83 ⟨Nat.zero_le _, Nat.zero_le _⟩) (fun r hrr => ?_)
        rw [hrr]
        exact W.lret (pc := 86) (v := (lN (mBS (kA cd nn) (sA kd cd nn) (r1 + 1) (rA ed nn r1)))) hx hb hr (fun t ht _ => ⟨_, rfl, (by unfold mOR; (repeat' split) <;> first | rfl | omega), ht⟩) (fun _ h => absurd h List.not_mem_nil) dX4_optionalRepetition_86
      · refine lv_lconst (pc := 68) (v := (lN (0))) hx hb dX4_optionalRepetition_68 (by decide) ?_
        exact W.lret (pc := 69) (v := (lN (0))) hx hb hr (fun t ht _ => ⟨_, rfl, (by unfold mOR; (repeat' split) <;> first | rfl | omega), ht⟩) (fun _ h => absurd h List.not_mem_nil) dX4_optionalRepetition_69
set_option maxHeartbeats 4000000 in
set_option maxRecDepth 100000 in
theorem c_X4_starOfUnionWithStar (l : Launch) (D : va_G) (cI cL cZ : ClassId) (he : Nat) (ae : Nat → Nat) (kd : Nat → Nat) (ed : Nat → Nat) (cd : Nat → Nat) (nn : Nat) (o : Nat) (tc : TC kd ed cd nn) (ho : o < 2000) : Met l yX4_starOfUnionWithStar wsX4_starOfUnionWithStar { frames := 2, cells := 0, slots := 0, locals := 49 } (rP D (tyL cI cL cZ) [(he, .inr (2, oE ae nn)), (ae 0, .inl (cI, 18, .inl (nA kd))), (ae 1, .inl (cI, 18, .inl (nA ed))), (ae 2, .inl (cL, 18, .inr (.inl (lA cd))))] [.ref he, .int (nI o)]) (vp_Sl (fun r => r = (lN (mSU (kA kd nn) (kA cd nn) (rA ed nn) (sA kd cd nn) o)))) 0 0 (fun _ => False) := by
  refine Met.ofW (cc := cX4_starOfUnionWithStar) (maxL := 4) (ret := (some .long)) (by decide) rfl ?_
  intro pG eG s mG args below meth cG s₁ B hml hpre9
  obtain ⟨rfl, hP, hK⟩ := hpre9
  have hx := B.exec
  have hb := B.bytes
  have hr := B.returns
  have hts := atoms_spec (ws := wsX4_starOfUnionWithStar) B.pre
  have hown : s.vm.findClass RX4 = some mG.cls := findClass_of_methodNamed B.named
  have hlocks := B.notSynchronized
  have hS : va_S (fun _ => False) s.heap s.heap [] := va_S.rf
  have hl := lv_entry ([.ref he, .int (nI o)]) (n := 4) (Nat.le_of_ble_eq_true rfl)
  rw [lg_entry_eq]
  generalize (lg_sl ([.ref he, .int (nI o)]) ++ List.replicate (4 - (lg_sl ([.ref he, .int (nI o)])).length) Slot.unset).toArray = ls at hl ⊢
  have hl : lv_has ls 4 [(0, .ref he), (1, .int (nI o))] := hl
  have hn18 := tc.n18
  have hn0 := tc.n0
  refine lv_aload_n (pc := 0) hx hb dX4_starOfUnionWithStar_0 rfl (lv_at hl 0 rfl) ?_
  refine lv_iload_n (pc := 1) hx hb dX4_starOfUnionWithStar_1 rfl (lv_at hl 1 rfl) ?_
  refine vp_callSi (pc := 2) (W.runV (As := [.int (nI o)]) (rest := []) ⟨hx, hb, hml, hown, hts⟩ (c_X3_kindAt l D cI cL cZ he ae kd ed cd nn o (by omega) (by omega)) (cwV 1 hts gX4_starOfUnionWithStar_X3_kindAt rfl rfl rfl (by decide +kernel) ⟨Nat.le_of_ble_eq_true rfl, Nat.le_of_ble_eq_true rfl⟩) (rP_V (wc := [(he, .inr (2, oE ae nn)), (ae 0, .inl (cI, 18, .inl (nA kd))), (ae 1, .inl (cI, 18, .inl (nA ed))), (ae 2, .inl (cL, 18, .inr (.inl (lA cd))))]) (ci := 2) (q0 := 0) hK hP [0, 1, 2, 3] rfl rfl rfl) rfl rfl hl.1 rfl (lv_room (Nat.le_of_ble_eq_true rfl)) dX4_starOfUnionWithStar_2 ⟨Nat.zero_le _, Nat.zero_le _⟩) (fun r hrr => ?_)
  rw [hrr]
  refine lv_bipush (pc := 5) (v := (nI (6))) hx hb dX4_starOfUnionWithStar_5 (by decide) ?_
  refine xn_icmp_eq (pc := 7) (tgt := 12) hx hb (Nat.lt_of_le_of_lt (tc.k _) (by decide)) (by omega) dX4_starOfUnionWithStar_7 (by decide) (fun c7 => ?_) (fun c7 => ?_)
  · refine lv_aload_n (pc := 12) hx hb dX4_starOfUnionWithStar_12 rfl (lv_at hl 0 rfl) ?_
    refine lv_iload_n (pc := 13) hx hb dX4_starOfUnionWithStar_13 rfl (lv_at hl 1 rfl) ?_
    refine vp_callSi (pc := 14) (W.runV (As := [.int (nI o)]) (rest := []) ⟨hx, hb, hml, hown, hts⟩ (c_X3_leftOf l D cI cL cZ he ae kd ed cd nn o) (cwV 1 hts gX4_starOfUnionWithStar_X3_leftOf rfl rfl rfl (by decide +kernel) ⟨Nat.le_of_ble_eq_true rfl, Nat.le_of_ble_eq_true rfl⟩) (rP_V (wc := [(he, .inr (2, oE ae nn)), (ae 0, .inl (cI, 18, .inl (nA kd))), (ae 1, .inl (cI, 18, .inl (nA ed))), (ae 2, .inl (cL, 18, .inr (.inl (lA cd))))]) (ci := 2) (q0 := 0) hK hP [0, 1, 2, 3] rfl rfl rfl) rfl rfl hl.1 rfl (lv_room (Nat.le_of_ble_eq_true rfl)) dX4_starOfUnionWithStar_14 ⟨Nat.zero_le _, Nat.zero_le _⟩) (fun r hrr => ?_)
    rw [hrr]
    refine lv_istore_n (pc := 17) (lv' := [(2, .int (nI (o + 1))), (0, .ref he), (1, .int (nI o))]) hx hb dX4_starOfUnionWithStar_17 rfl hl (by decide) rfl (fun ls hl => ?_)
    refine lv_aload_n (pc := 18) hx hb dX4_starOfUnionWithStar_18 rfl (lv_at hl 1 rfl) ?_
    refine lv_iload_n (pc := 19) hx hb dX4_starOfUnionWithStar_19 rfl (lv_at hl 2 rfl) ?_
    refine vp_callSi (pc := 20) (W.runV (As := [.int (nI o)]) (rest := []) ⟨hx, hb, hml, hown, hts⟩ (c_X3_rightOf l D cI cL cZ he ae kd ed cd nn o (by omega) (by omega) (by omega)) (cwV 1 hts gX4_starOfUnionWithStar_X3_rightOf rfl rfl rfl (by decide +kernel) ⟨Nat.le_of_ble_eq_true rfl, Nat.le_of_ble_eq_true rfl⟩) (rP_V (wc := [(he, .inr (2, oE ae nn)), (ae 0, .inl (cI, 18, .inl (nA kd))), (ae 1, .inl (cI, 18, .inl (nA ed))), (ae 2, .inl (cL, 18, .inr (.inl (lA cd))))]) (ci := 2) (q0 := 0) hK hP [0, 1, 2, 3] rfl rfl rfl) rfl rfl hl.1 rfl (lv_room (Nat.le_of_ble_eq_true rfl)) dX4_starOfUnionWithStar_20 ⟨Nat.zero_le _, Nat.zero_le _⟩) (fun r hrr => ?_)
    rw [hrr]
    refine lv_istore_n (pc := 23) (lv' := [(3, .int (nI (rA ed nn o))), (2, .int (nI (o + 1))), (0, .ref he), (1, .int (nI o))]) hx hb dX4_starOfUnionWithStar_23 rfl hl (by decide) rfl (fun ls hl => ?_)
    refine lv_aload_n (pc := 24) hx hb dX4_starOfUnionWithStar_24 rfl (lv_at hl 2 rfl) ?_
    refine lv_iload_n (pc := 25) hx hb dX4_starOfUnionWithStar_25 rfl (lv_at hl 1 rfl) ?_
    refine vp_callSi (pc := 26) (W.runV (As := [.int (nI (o + 1))]) (rest := []) ⟨hx, hb, hml, hown, hts⟩ (c_X3_kindAt l D cI cL cZ he ae kd ed cd nn (o + 1) (by omega) (by omega)) (cwV 1 hts gX4_starOfUnionWithStar_X3_kindAt rfl rfl rfl (by decide +kernel) ⟨Nat.le_of_ble_eq_true rfl, Nat.le_of_ble_eq_true rfl⟩) (rP_V (wc := [(he, .inr (2, oE ae nn)), (ae 0, .inl (cI, 18, .inl (nA kd))), (ae 1, .inl (cI, 18, .inl (nA ed))), (ae 2, .inl (cL, 18, .inr (.inl (lA cd))))]) (ci := 2) (q0 := 0) hK hP [0, 1, 2, 3] rfl rfl rfl) rfl rfl hl.1 rfl (lv_room (Nat.le_of_ble_eq_true rfl)) dX4_starOfUnionWithStar_26 ⟨Nat.zero_le _, Nat.zero_le _⟩) (fun r hrr => ?_)
    rw [hrr]
    refine lv_bipush (pc := 29) (v := (nI (8))) hx hb dX4_starOfUnionWithStar_29 (by decide) ?_
    refine xn_icmp_ne (pc := 31) (tgt := 51) hx hb (Nat.lt_of_le_of_lt (tc.k _) (by decide)) (by omega) dX4_starOfUnionWithStar_31 (by decide) (fun c31 => ?_) (fun c31 => ?_)
    · refine lv_aload_n (pc := 51) hx hb dX4_starOfUnionWithStar_51 rfl (lv_at hl 2 rfl) ?_
      refine lv_iload_n (pc := 52) hx hb dX4_starOfUnionWithStar_52 rfl (lv_at hl 0 rfl) ?_
      refine vp_callSi (pc := 53) (W.runV (As := [.int (nI (rA ed nn o))]) (rest := []) ⟨hx, hb, hml, hown, hts⟩ (c_X3_kindAt l D cI cL cZ he ae kd ed cd nn (rA ed nn o) (by omega) (Nat.lt_of_le_of_lt (tc.r _) (by decide))) (cwV 1 hts gX4_starOfUnionWithStar_X3_kindAt rfl rfl rfl (by decide +kernel) ⟨Nat.le_of_ble_eq_true rfl, Nat.le_of_ble_eq_true rfl⟩) (rP_V (wc := [(he, .inr (2, oE ae nn)), (ae 0, .inl (cI, 18, .inl (nA kd))), (ae 1, .inl (cI, 18, .inl (nA ed))), (ae 2, .inl (cL, 18, .inr (.inl (lA cd))))]) (ci := 2) (q0 := 0) hK hP [0, 1, 2, 3] rfl rfl rfl) rfl rfl hl.1 rfl (lv_room (Nat.le_of_ble_eq_true rfl)) dX4_starOfUnionWithStar_53 ⟨Nat.zero_le _, Nat.zero_le _⟩) (fun r hrr => ?_)
      rw [hrr]
      refine lv_bipush (pc := 56) (v := (nI (8))) hx hb dX4_starOfUnionWithStar_56 (by decide) ?_
      refine xn_icmp_ne (pc := 58) (tgt := 78) hx hb (Nat.lt_of_le_of_lt (tc.k _) (by decide)) (by omega) dX4_starOfUnionWithStar_58 (by decide) (fun c58 => ?_) (fun c58 => ?_)
      · refine lv_lconst (pc := 78) (v := (lN (0))) hx hb dX4_starOfUnionWithStar_78 (by decide) ?_
        exact W.lret (pc := 79) (v := (lN (0))) hx hb hr (fun t ht _ => ⟨_, rfl, (by unfold mSU; (repeat' split) <;> first | rfl | omega), ht⟩) (fun _ h => absurd h List.not_mem_nil) dX4_starOfUnionWithStar_79
      · refine lv_aload_n (pc := 61) hx hb dX4_starOfUnionWithStar_61 rfl (lv_at hl 2 rfl) ?_
        refine lv_iload_n (pc := 62) hx hb dX4_starOfUnionWithStar_62 rfl (lv_at hl 1 rfl) ?_
        refine vp_callSl (pc := 63) (W.runV (As := [.int (nI (o + 1))]) (rest := []) ⟨hx, hb, hml, hown, hts⟩ (c_X3_codeAt l D cI cL cZ he ae kd ed cd nn (o + 1) (by omega) (by omega)) (cwV 1 hts gX4_starOfUnionWithStar_X3_codeAt rfl rfl rfl (by decide +kernel) ⟨Nat.le_of_ble_eq_true rfl, Nat.le_of_ble_eq_true rfl⟩) (rP_V (wc := [(he, .inr (2, oE ae nn)), (ae 0, .inl (cI, 18, .inl (nA kd))), (ae 1, .inl (cI, 18, .inl (nA ed))), (ae 2, .inl (cL, 18, .inr (.inl (lA cd))))]) (ci := 2) (q0 := 0) hK hP [0, 1, 2, 3] rfl rfl rfl) rfl rfl hl.1 rfl (lv_room (Nat.le_of_ble_eq_true rfl)) dX4_starOfUnionWithStar_63 ⟨Nat.zero_le _, Nat.zero_le _⟩) (fun r hrr => ?_)
        rw [hrr]
        refine lv_aload_n (pc := 66) hx hb dX4_starOfUnionWithStar_66 rfl (lv_at hl 2 rfl) ?_
        refine lv_iload_n (pc := 67) hx hb dX4_starOfUnionWithStar_67 rfl (lv_at hl 0 rfl) ?_
        refine vp_callSl (pc := 68) (W.runV (As := [.int (nI (rA ed nn o))]) (rest := [.long (lN (kA cd nn (o + 1)))]) ⟨hx, hb, hml, hown, hts⟩ (c_X3_starredAt l D cI cL cZ he ae kd ed cd nn (rA ed nn o) (by omega) (by omega) (Nat.lt_of_le_of_lt (tc.r _) (by decide)) (fun j hj => tc.kd hj)) (cwV 1 hts gX4_starOfUnionWithStar_X3_starredAt rfl rfl rfl (by decide +kernel) ⟨Nat.le_of_ble_eq_true rfl, Nat.le_of_ble_eq_true rfl⟩) (rP_V (wc := [(he, .inr (2, oE ae nn)), (ae 0, .inl (cI, 18, .inl (nA kd))), (ae 1, .inl (cI, 18, .inl (nA ed))), (ae 2, .inl (cL, 18, .inr (.inl (lA cd))))]) (ci := 2) (q0 := 0) hK hP [0, 1, 2, 3] rfl rfl rfl) rfl rfl hl.1 rfl (lv_room (Nat.le_of_ble_eq_true rfl)) dX4_starOfUnionWithStar_68 ⟨Nat.zero_le _, Nat.zero_le _⟩) (fun r hrr => ?_)
        rw [hrr]
        refine vp_callSl (pc := 71) (W.runS (As := [.long (lN (kA cd nn (o + 1))), .long (lN (sA kd cd nn (rA ed nn o)))]) (rest := []) ⟨hx, hb, hml, hown, hts⟩ (c_X1_union l D cI cL cZ (kA cd nn (o + 1)) (sA kd cd nn (rA ed nn o)) (tc.c63 _) (tc.s63 _)) (va_cwS 2 hts gX4_starOfUnionWithStar_X1_union rfl rfl rfl (by decide +kernel) ⟨Nat.le_of_ble_eq_true rfl, Nat.le_of_ble_eq_true rfl⟩) (rP_S (wc := []) hK hP [] rfl) rfl rfl hl.1 rfl (lv_room (Nat.le_of_ble_eq_true rfl)) dX4_starOfUnionWithStar_71 ⟨Nat.zero_le _, Nat.zero_le _⟩) (fun r hrr => ?_)
        rw [hrr]
        refine vp_callSl (pc := 74) (W.runS (As := [.long (lN (un (kA cd nn (o + 1)) (sA kd cd nn (rA ed nn o))))]) (rest := []) ⟨hx, hb, hml, hown, hts⟩ (c_X1_star l D cI cL cZ (un (kA cd nn (o + 1)) (sA kd cd nn (rA ed nn o))) (sz_63 (tc.unCS (Or.inl c7) c58) (by have := tc.two (Or.inl c7); omega))) (va_cwS 1 hts gX4_starOfUnionWithStar_X1_star rfl rfl rfl (by decide +kernel) ⟨Nat.le_of_ble_eq_true rfl, Nat.le_of_ble_eq_true rfl⟩) (rP_S (wc := []) hK hP [] rfl) rfl rfl hl.1 rfl (lv_room (Nat.le_of_ble_eq_true rfl)) dX4_starOfUnionWithStar_74 ⟨Nat.zero_le _, Nat.zero_le _⟩) (fun r hrr => ?_)
        rw [hrr]
        exact W.lret (pc := 77) (v := (lN (stc (un (kA cd nn (o + 1)) (sA kd cd nn (rA ed nn o)))))) hx hb hr (fun t ht _ => ⟨_, rfl, (by unfold mSU; (repeat' split) <;> first | rfl | omega), ht⟩) (fun _ h => absurd h List.not_mem_nil) dX4_starOfUnionWithStar_77
    · refine lv_aload_n (pc := 34) hx hb dX4_starOfUnionWithStar_34 rfl (lv_at hl 2 rfl) ?_
      refine lv_iload_n (pc := 35) hx hb dX4_starOfUnionWithStar_35 rfl (lv_at hl 1 rfl) ?_
      refine vp_callSl (pc := 36) (W.runV (As := [.int (nI (o + 1))]) (rest := []) ⟨hx, hb, hml, hown, hts⟩ (c_X3_starredAt l D cI cL cZ he ae kd ed cd nn (o + 1) (by omega) (by omega) (by omega) (fun j hj => tc.kd hj)) (cwV 1 hts gX4_starOfUnionWithStar_X3_starredAt rfl rfl rfl (by decide +kernel) ⟨Nat.le_of_ble_eq_true rfl, Nat.le_of_ble_eq_true rfl⟩) (rP_V (wc := [(he, .inr (2, oE ae nn)), (ae 0, .inl (cI, 18, .inl (nA kd))), (ae 1, .inl (cI, 18, .inl (nA ed))), (ae 2, .inl (cL, 18, .inr (.inl (lA cd))))]) (ci := 2) (q0 := 0) hK hP [0, 1, 2, 3] rfl rfl rfl) rfl rfl hl.1 rfl (lv_room (Nat.le_of_ble_eq_true rfl)) dX4_starOfUnionWithStar_36 ⟨Nat.zero_le _, Nat.zero_le _⟩) (fun r hrr => ?_)
      rw [hrr]
      refine lv_aload_n (pc := 39) hx hb dX4_starOfUnionWithStar_39 rfl (lv_at hl 2 rfl) ?_
      refine lv_iload_n (pc := 40) hx hb dX4_starOfUnionWithStar_40 rfl (lv_at hl 0 rfl) ?_
      refine vp_callSl (pc := 41) (W.runV (As := [.int (nI (rA ed nn o))]) (rest := [.long (lN (sA kd cd nn (o + 1)))]) ⟨hx, hb, hml, hown, hts⟩ (c_X3_codeAt l D cI cL cZ he ae kd ed cd nn (rA ed nn o) (by omega) (Nat.lt_of_le_of_lt (tc.r _) (by decide))) (cwV 1 hts gX4_starOfUnionWithStar_X3_codeAt rfl rfl rfl (by decide +kernel) ⟨Nat.le_of_ble_eq_true rfl, Nat.le_of_ble_eq_true rfl⟩) (rP_V (wc := [(he, .inr (2, oE ae nn)), (ae 0, .inl (cI, 18, .inl (nA kd))), (ae 1, .inl (cI, 18, .inl (nA ed))), (ae 2, .inl (cL, 18, .inr (.inl (lA cd))))]) (ci := 2) (q0 := 0) hK hP [0, 1, 2, 3] rfl rfl rfl) rfl rfl hl.1 rfl (lv_room (Nat.le_of_ble_eq_true rfl)) dX4_starOfUnionWithStar_41 ⟨Nat.zero_le _, Nat.zero_le _⟩) (fun r hrr => ?_)
      rw [hrr]
      refine vp_callSl (pc := 44) (W.runS (As := [.long (lN (sA kd cd nn (o + 1))), .long (lN (kA cd nn (rA ed nn o)))]) (rest := []) ⟨hx, hb, hml, hown, hts⟩ (c_X1_union l D cI cL cZ (sA kd cd nn (o + 1)) (kA cd nn (rA ed nn o)) (tc.s63 _) (tc.c63 _)) (va_cwS 2 hts gX4_starOfUnionWithStar_X1_union rfl rfl rfl (by decide +kernel) ⟨Nat.le_of_ble_eq_true rfl, Nat.le_of_ble_eq_true rfl⟩) (rP_S (wc := []) hK hP [] rfl) rfl rfl hl.1 rfl (lv_room (Nat.le_of_ble_eq_true rfl)) dX4_starOfUnionWithStar_44 ⟨Nat.zero_le _, Nat.zero_le _⟩) (fun r hrr => ?_)
      rw [hrr]
      refine vp_callSl (pc := 47) (W.runS (As := [.long (lN (un (sA kd cd nn (o + 1)) (kA cd nn (rA ed nn o))))]) (rest := []) ⟨hx, hb, hml, hown, hts⟩ (c_X1_star l D cI cL cZ (un (sA kd cd nn (o + 1)) (kA cd nn (rA ed nn o))) (sz_63 (tc.unSC (Or.inl c7) c31) (by have := tc.two (Or.inl c7); omega))) (va_cwS 1 hts gX4_starOfUnionWithStar_X1_star rfl rfl rfl (by decide +kernel) ⟨Nat.le_of_ble_eq_true rfl, Nat.le_of_ble_eq_true rfl⟩) (rP_S (wc := []) hK hP [] rfl) rfl rfl hl.1 rfl (lv_room (Nat.le_of_ble_eq_true rfl)) dX4_starOfUnionWithStar_47 ⟨Nat.zero_le _, Nat.zero_le _⟩) (fun r hrr => ?_)
      rw [hrr]
      exact W.lret (pc := 50) (v := (lN (stc (un (sA kd cd nn (o + 1)) (kA cd nn (rA ed nn o)))))) hx hb hr (fun t ht _ => ⟨_, rfl, (by unfold mSU; (repeat' split) <;> first | rfl | omega), ht⟩) (fun _ h => absurd h List.not_mem_nil) dX4_starOfUnionWithStar_50
  · refine lv_lconst (pc := 10) (v := (lN (0))) hx hb dX4_starOfUnionWithStar_10 (by decide) ?_
    exact W.lret (pc := 11) (v := (lN (0))) hx hb hr (fun t ht _ => ⟨_, rfl, (by unfold mSU; (repeat' split) <;> first | rfl | omega), ht⟩) (fun _ h => absurd h List.not_mem_nil) dX4_starOfUnionWithStar_11
set_option maxHeartbeats 4000000 in
set_option maxRecDepth 100000 in
theorem c_X4_starOfTwoStars (l : Launch) (D : va_G) (cI cL cZ : ClassId) (he : Nat) (ae : Nat → Nat) (kd : Nat → Nat) (ed : Nat → Nat) (cd : Nat → Nat) (nn : Nat) (o : Nat) (tc : TC kd ed cd nn) (ho : o < 2000) : Met l yX4_starOfTwoStars wsX4_starOfTwoStars { frames := 2, cells := 0, slots := 0, locals := 49 } (rP D (tyL cI cL cZ) [(he, .inr (2, oE ae nn)), (ae 0, .inl (cI, 18, .inl (nA kd))), (ae 1, .inl (cI, 18, .inl (nA ed))), (ae 2, .inl (cL, 18, .inr (.inl (lA cd))))] [.ref he, .int (nI o)]) (vp_Sl (fun r => r = (lN (mTS (kA kd nn) (rA ed nn) (sA kd cd nn) o)))) 0 0 (fun _ => False) := by
  refine Met.ofW (cc := cX4_starOfTwoStars) (maxL := 7) (ret := (some .long)) (by decide) rfl ?_
  intro pG eG s mG args below meth cG s₁ B hml hpre9
  obtain ⟨rfl, hP, hK⟩ := hpre9
  have hx := B.exec
  have hb := B.bytes
  have hr := B.returns
  have hts := atoms_spec (ws := wsX4_starOfTwoStars) B.pre
  have hown : s.vm.findClass RX4 = some mG.cls := findClass_of_methodNamed B.named
  have hlocks := B.notSynchronized
  have hS : va_S (fun _ => False) s.heap s.heap [] := va_S.rf
  have hl := lv_entry ([.ref he, .int (nI o)]) (n := 7) (Nat.le_of_ble_eq_true rfl)
  rw [lg_entry_eq]
  generalize (lg_sl ([.ref he, .int (nI o)]) ++ List.replicate (7 - (lg_sl ([.ref he, .int (nI o)])).length) Slot.unset).toArray = ls at hl ⊢
  have hl : lv_has ls 7 [(0, .ref he), (1, .int (nI o))] := hl
  have hn18 := tc.n18
  have hn0 := tc.n0
  refine lv_aload_n (pc := 0) hx hb dX4_starOfTwoStars_0 rfl (lv_at hl 0 rfl) ?_
  refine lv_iload_n (pc := 1) hx hb dX4_starOfTwoStars_1 rfl (lv_at hl 1 rfl) ?_
  refine vp_callSi (pc := 2) (W.runV (As := [.int (nI o)]) (rest := []) ⟨hx, hb, hml, hown, hts⟩ (c_X3_kindAt l D cI cL cZ he ae kd ed cd nn o (by omega) (by omega)) (cwV 1 hts gX4_starOfTwoStars_X3_kindAt rfl rfl rfl (by decide +kernel) ⟨Nat.le_of_ble_eq_true rfl, Nat.le_of_ble_eq_true rfl⟩) (rP_V (wc := [(he, .inr (2, oE ae nn)), (ae 0, .inl (cI, 18, .inl (nA kd))), (ae 1, .inl (cI, 18, .inl (nA ed))), (ae 2, .inl (cL, 18, .inr (.inl (lA cd))))]) (ci := 2) (q0 := 0) hK hP [0, 1, 2, 3] rfl rfl rfl) rfl rfl hl.1 rfl (lv_room (Nat.le_of_ble_eq_true rfl)) dX4_starOfTwoStars_2 ⟨Nat.zero_le _, Nat.zero_le _⟩) (fun r hrr => ?_)
  rw [hrr]
  refine lv_bipush (pc := 5) (v := (nI (7))) hx hb dX4_starOfTwoStars_5 (by decide) ?_
  refine xn_icmp_eq (pc := 7) (tgt := 12) hx hb (Nat.lt_of_le_of_lt (tc.k _) (by decide)) (by omega) dX4_starOfTwoStars_7 (by decide) (fun c7 => ?_) (fun c7 => ?_)
  · refine lv_aload_n (pc := 12) hx hb dX4_starOfTwoStars_12 rfl (lv_at hl 0 rfl) ?_
    refine lv_aload_n (pc := 13) hx hb dX4_starOfTwoStars_13 rfl (lv_at hl 0 rfl) ?_
    refine lv_iload_n (pc := 14) hx hb dX4_starOfTwoStars_14 rfl (lv_at hl 1 rfl) ?_
    refine vp_callSi (pc := 15) (W.runV (As := [.int (nI o)]) (rest := [.ref he]) ⟨hx, hb, hml, hown, hts⟩ (c_X3_leftOf l D cI cL cZ he ae kd ed cd nn o) (cwV 1 hts gX4_starOfTwoStars_X3_leftOf rfl rfl rfl (by decide +kernel) ⟨Nat.le_of_ble_eq_true rfl, Nat.le_of_ble_eq_true rfl⟩) (rP_V (wc := [(he, .inr (2, oE ae nn)), (ae 0, .inl (cI, 18, .inl (nA kd))), (ae 1, .inl (cI, 18, .inl (nA ed))), (ae 2, .inl (cL, 18, .inr (.inl (lA cd))))]) (ci := 2) (q0 := 0) hK hP [0, 1, 2, 3] rfl rfl rfl) rfl rfl hl.1 rfl (lv_room (Nat.le_of_ble_eq_true rfl)) dX4_starOfTwoStars_15 ⟨Nat.zero_le _, Nat.zero_le _⟩) (fun r hrr => ?_)
    rw [hrr]
    refine vp_callSl (pc := 18) (W.runV (As := [.int (nI (o + 1))]) (rest := []) ⟨hx, hb, hml, hown, hts⟩ (c_X3_starredAt l D cI cL cZ he ae kd ed cd nn (o + 1) (by omega) (by omega) (by omega) (fun j hj => tc.kd hj)) (cwV 1 hts gX4_starOfTwoStars_X3_starredAt rfl rfl rfl (by decide +kernel) ⟨Nat.le_of_ble_eq_true rfl, Nat.le_of_ble_eq_true rfl⟩) (rP_V (wc := [(he, .inr (2, oE ae nn)), (ae 0, .inl (cI, 18, .inl (nA kd))), (ae 1, .inl (cI, 18, .inl (nA ed))), (ae 2, .inl (cL, 18, .inr (.inl (lA cd))))]) (ci := 2) (q0 := 0) hK hP [0, 1, 2, 3] rfl rfl rfl) rfl rfl hl.1 rfl (lv_room (Nat.le_of_ble_eq_true rfl)) dX4_starOfTwoStars_18 ⟨Nat.zero_le _, Nat.zero_le _⟩) (fun r hrr => ?_)
    rw [hrr]
    refine lv_lstore_n (pc := 21) (lv' := [(2, .long (lN (sA kd cd nn (o + 1)))), (0, .ref he), (1, .int (nI o))]) hx hb dX4_starOfTwoStars_21 rfl hl (by decide) rfl (fun ls hl => ?_)
    refine lv_aload_n (pc := 22) hx hb dX4_starOfTwoStars_22 rfl (lv_at hl 1 rfl) ?_
    refine lv_aload_n (pc := 23) hx hb dX4_starOfTwoStars_23 rfl (lv_at hl 1 rfl) ?_
    refine lv_iload_n (pc := 24) hx hb dX4_starOfTwoStars_24 rfl (lv_at hl 2 rfl) ?_
    refine vp_callSi (pc := 25) (W.runV (As := [.int (nI o)]) (rest := [.ref he]) ⟨hx, hb, hml, hown, hts⟩ (c_X3_rightOf l D cI cL cZ he ae kd ed cd nn o (by omega) (by omega) (by omega)) (cwV 1 hts gX4_starOfTwoStars_X3_rightOf rfl rfl rfl (by decide +kernel) ⟨Nat.le_of_ble_eq_true rfl, Nat.le_of_ble_eq_true rfl⟩) (rP_V (wc := [(he, .inr (2, oE ae nn)), (ae 0, .inl (cI, 18, .inl (nA kd))), (ae 1, .inl (cI, 18, .inl (nA ed))), (ae 2, .inl (cL, 18, .inr (.inl (lA cd))))]) (ci := 2) (q0 := 0) hK hP [0, 1, 2, 3] rfl rfl rfl) rfl rfl hl.1 rfl (lv_room (Nat.le_of_ble_eq_true rfl)) dX4_starOfTwoStars_25 ⟨Nat.zero_le _, Nat.zero_le _⟩) (fun r hrr => ?_)
    rw [hrr]
    refine vp_callSl (pc := 28) (W.runV (As := [.int (nI (rA ed nn o))]) (rest := []) ⟨hx, hb, hml, hown, hts⟩ (c_X3_starredAt l D cI cL cZ he ae kd ed cd nn (rA ed nn o) (by omega) (by omega) (Nat.lt_of_le_of_lt (tc.r _) (by decide)) (fun j hj => tc.kd hj)) (cwV 1 hts gX4_starOfTwoStars_X3_starredAt rfl rfl rfl (by decide +kernel) ⟨Nat.le_of_ble_eq_true rfl, Nat.le_of_ble_eq_true rfl⟩) (rP_V (wc := [(he, .inr (2, oE ae nn)), (ae 0, .inl (cI, 18, .inl (nA kd))), (ae 1, .inl (cI, 18, .inl (nA ed))), (ae 2, .inl (cL, 18, .inr (.inl (lA cd))))]) (ci := 2) (q0 := 0) hK hP [0, 1, 2, 3] rfl rfl rfl) rfl rfl hl.1 rfl (lv_room (Nat.le_of_ble_eq_true rfl)) dX4_starOfTwoStars_28 ⟨Nat.zero_le _, Nat.zero_le _⟩) (fun r hrr => ?_)
    rw [hrr]
    refine lv_lstore (pc := 31) (lv' := [(4, .long (lN (sA kd cd nn (rA ed nn o)))), (2, .long (lN (sA kd cd nn (o + 1)))), (0, .ref he), (1, .int (nI o))]) hx hb dX4_starOfTwoStars_31 hl (by decide) rfl (fun ls hl => ?_)
    refine lv_lload_n (pc := 33) hx hb dX4_starOfTwoStars_33 rfl (lv_at hl 1 rfl) ?_
    refine lv_lconst (pc := 34) (v := (lN (0))) hx hb dX4_starOfTwoStars_34 (by decide) ?_
    refine xnl_eq (pc := 35) (tgt := 50) hx hb (tc.s63 _) (by omega) dX4_starOfTwoStars_35 dX4_starOfTwoStars_36 (by decide) (fun c35 => ?_) (fun c35 => ?_)
    · refine lv_iconst (pc := 50) (v := (nI (0))) hx hb dX4_starOfTwoStars_50 (by decide) ?_
      refine lv_istore (pc := 51) (lv' := [(6, .int (nI 0)), (4, .long (lN (sA kd cd nn (rA ed nn o)))), (2, .long (lN (sA kd cd nn (o + 1)))), (0, .ref he), (1, .int (nI o))]) hx hb dX4_starOfTwoStars_51 hl (by decide) rfl (fun ls hl => ?_)
      refine lv_iload (pc := 53) hx hb dX4_starOfTwoStars_53 (lv_at hl 0 rfl) ?_
      refine lv_if_eq (pc := 55) (tgt := 70) hx hb dX4_starOfTwoStars_55 (by decide) (fun _ => ?_) (fun h => absurd h (by decide))
      refine lv_lconst (pc := 70) (v := (lN (0))) hx hb dX4_starOfTwoStars_70 (by decide) ?_
      exact W.lret (pc := 71) (v := (lN (0))) hx hb hr (fun t ht _ => ⟨_, rfl, (by unfold mTS; (repeat' split) <;> first | rfl | omega), ht⟩) (fun _ h => absurd h List.not_mem_nil) dX4_starOfTwoStars_71
    · refine lv_lload (pc := 39) hx hb dX4_starOfTwoStars_39 (lv_at hl 0 rfl) ?_
      refine lv_lconst (pc := 41) (v := (lN (0))) hx hb dX4_starOfTwoStars_41 (by decide) ?_
      refine xnl_eq (pc := 42) (tgt := 50) hx hb (tc.s63 _) (by omega) dX4_starOfTwoStars_42 dX4_starOfTwoStars_43 (by decide) (fun c42 => ?_) (fun c42 => ?_)
      · refine lv_iconst (pc := 50) (v := (nI (0))) hx hb dX4_starOfTwoStars_50 (by decide) ?_
        refine lv_istore (pc := 51) (lv' := [(6, .int (nI 0)), (4, .long (lN (sA kd cd nn (rA ed nn o)))), (2, .long (lN (sA kd cd nn (o + 1)))), (0, .ref he), (1, .int (nI o))]) hx hb dX4_starOfTwoStars_51 hl (by decide) rfl (fun ls hl => ?_)
        refine lv_iload (pc := 53) hx hb dX4_starOfTwoStars_53 (lv_at hl 0 rfl) ?_
        refine lv_if_eq (pc := 55) (tgt := 70) hx hb dX4_starOfTwoStars_55 (by decide) (fun _ => ?_) (fun h => absurd h (by decide))
        refine lv_lconst (pc := 70) (v := (lN (0))) hx hb dX4_starOfTwoStars_70 (by decide) ?_
        exact W.lret (pc := 71) (v := (lN (0))) hx hb hr (fun t ht _ => ⟨_, rfl, (by unfold mTS; (repeat' split) <;> first | rfl | omega), ht⟩) (fun _ h => absurd h List.not_mem_nil) dX4_starOfTwoStars_71
      · refine lv_iconst (pc := 46) (v := (nI (1))) hx hb dX4_starOfTwoStars_46 (by decide) ?_
        refine lv_goto (pc := 47) (tgt := 51) hx hb dX4_starOfTwoStars_47 (by decide) ?_
        refine lv_istore (pc := 51) (lv' := [(6, .int (nI 1)), (4, .long (lN (sA kd cd nn (rA ed nn o)))), (2, .long (lN (sA kd cd nn (o + 1)))), (0, .ref he), (1, .int (nI o))]) hx hb dX4_starOfTwoStars_51 hl (by decide) rfl (fun ls hl => ?_)
        refine lv_iload (pc := 53) hx hb dX4_starOfTwoStars_53 (lv_at hl 0 rfl) ?_
        refine lv_if_eq (pc := 55) (tgt := 70) hx hb dX4_starOfTwoStars_55 (by decide) (fun h => absurd h (by decide)) (fun _ => ?_)
        refine lv_lload_n (pc := 58) hx hb dX4_starOfTwoStars_58 rfl (lv_at hl 2 rfl) ?_
        refine lv_lload (pc := 59) hx hb dX4_starOfTwoStars_59 (lv_at hl 1 rfl) ?_
        refine vp_callSl (pc := 61) (W.runS (As := [.long (lN (sA kd cd nn (o + 1))), .long (lN (sA kd cd nn (rA ed nn o)))]) (rest := []) ⟨hx, hb, hml, hown, hts⟩ (c_X1_union l D cI cL cZ (sA kd cd nn (o + 1)) (sA kd cd nn (rA ed nn o)) (tc.s63 _) (tc.s63 _)) (va_cwS 2 hts gX4_starOfTwoStars_X1_union rfl rfl rfl (by decide +kernel) ⟨Nat.le_of_ble_eq_true rfl, Nat.le_of_ble_eq_true rfl⟩) (rP_S (wc := []) hK hP [] rfl) rfl rfl hl.1 rfl (lv_room (Nat.le_of_ble_eq_true rfl)) dX4_starOfTwoStars_61 ⟨Nat.zero_le _, Nat.zero_le _⟩) (fun r hrr => ?_)
        rw [hrr]
        refine vp_callSl (pc := 64) (W.runS (As := [.long (lN (un (sA kd cd nn (o + 1)) (sA kd cd nn (rA ed nn o))))]) (rest := []) ⟨hx, hb, hml, hown, hts⟩ (c_X1_star l D cI cL cZ (un (sA kd cd nn (o + 1)) (sA kd cd nn (rA ed nn o))) (sz_63 (tc.unSS (Or.inr c7) (tc.sne c35) (tc.sne c42)) (by have := tc.two (Or.inr c7); omega))) (va_cwS 1 hts gX4_starOfTwoStars_X1_star rfl rfl rfl (by decide +kernel) ⟨Nat.le_of_ble_eq_true rfl, Nat.le_of_ble_eq_true rfl⟩) (rP_S (wc := []) hK hP [] rfl) rfl rfl hl.1 rfl (lv_room (Nat.le_of_ble_eq_true rfl)) dX4_starOfTwoStars_64 ⟨Nat.zero_le _, Nat.zero_le _⟩) (fun r hrr => ?_)
        rw [hrr]
        refine lv_goto (pc := 67) (tgt := 71) hx hb dX4_starOfTwoStars_67 (by decide) ?_
        exact W.lret (pc := 71) (v := (lN (stc (un (sA kd cd nn (o + 1)) (sA kd cd nn (rA ed nn o)))))) hx hb hr (fun t ht _ => ⟨_, rfl, (by unfold mTS; (repeat' split) <;> first | rfl | omega), ht⟩) (fun _ h => absurd h List.not_mem_nil) dX4_starOfTwoStars_71
  · refine lv_lconst (pc := 10) (v := (lN (0))) hx hb dX4_starOfTwoStars_10 (by decide) ?_
    exact W.lret (pc := 11) (v := (lN (0))) hx hb hr (fun t ht _ => ⟨_, rfl, (by unfold mTS; (repeat' split) <;> first | rfl | omega), ht⟩) (fun _ h => absurd h List.not_mem_nil) dX4_starOfTwoStars_11
set_option maxHeartbeats 4000000 in
set_option maxRecDepth 100000 in
theorem c_X4_repeatedInInnerUnion (l : Launch) (D : va_G) (cI cL cZ : ClassId) (he : Nat) (ae : Nat → Nat) (kd : Nat → Nat) (ed : Nat → Nat) (cd : Nat → Nat) (nn : Nat) (l1 : Nat) (r1 : Nat) (tc : TC kd ed cd nn) (hl1 : l1 < 2000) (hr1 : r1 < 2000) : Met l yX4_repeatedInInnerUnion wsX4_repeatedInInnerUnion { frames := 2, cells := 0, slots := 0, locals := 49 } (rP D (tyL cI cL cZ) [(he, .inr (2, oE ae nn)), (ae 0, .inl (cI, 18, .inl (nA kd))), (ae 1, .inl (cI, 18, .inl (nA ed))), (ae 2, .inl (cL, 18, .inr (.inl (lA cd))))] [.ref he, .int (nI l1), .int (nI r1)]) (vp_Sl (fun r => r = (lN (mRI (kA kd nn) (kA cd nn) (rA ed nn) l1 r1)))) 0 0 (fun _ => False) := by
  refine Met.ofW (cc := cX4_repeatedInInnerUnion) (maxL := 9) (ret := (some .long)) (by decide) rfl ?_
  intro pG eG s mG args below meth cG s₁ B hml hpre9
  obtain ⟨rfl, hP, hK⟩ := hpre9
  have hx := B.exec
  have hb := B.bytes
  have hr := B.returns
  have hts := atoms_spec (ws := wsX4_repeatedInInnerUnion) B.pre
  have hown : s.vm.findClass RX4 = some mG.cls := findClass_of_methodNamed B.named
  have hlocks := B.notSynchronized
  have hS : va_S (fun _ => False) s.heap s.heap [] := va_S.rf
  have hl := lv_entry ([.ref he, .int (nI l1), .int (nI r1)]) (n := 9) (Nat.le_of_ble_eq_true rfl)
  rw [lg_entry_eq]
  generalize (lg_sl ([.ref he, .int (nI l1), .int (nI r1)]) ++ List.replicate (9 - (lg_sl ([.ref he, .int (nI l1), .int (nI r1)])).length) Slot.unset).toArray = ls at hl ⊢
  have hl : lv_has ls 9 [(0, .ref he), (1, .int (nI l1)), (2, .int (nI r1))] := hl
  have hn18 := tc.n18
  have hn0 := tc.n0
  refine lv_aload_n (pc := 0) hx hb dX4_repeatedInInnerUnion_0 rfl (lv_at hl 0 rfl) ?_
  refine lv_iload_n (pc := 1) hx hb dX4_repeatedInInnerUnion_1 rfl (lv_at hl 2 rfl) ?_
  refine vp_callSi (pc := 2) (W.runV (As := [.int (nI r1)]) (rest := []) ⟨hx, hb, hml, hown, hts⟩ (c_X3_kindAt l D cI cL cZ he ae kd ed cd nn r1 (by omega) (by omega)) (cwV 1 hts gX4_repeatedInInnerUnion_X3_kindAt rfl rfl rfl (by decide +kernel) ⟨Nat.le_of_ble_eq_true rfl, Nat.le_of_ble_eq_true rfl⟩) (rP_V (wc := [(he, .inr (2, oE ae nn)), (ae 0, .inl (cI, 18, .inl (nA kd))), (ae 1, .inl (cI, 18, .inl (nA ed))), (ae 2, .inl (cL, 18, .inr (.inl (lA cd))))]) (ci := 2) (q0 := 0) hK hP [0, 1, 2, 3] rfl rfl rfl) rfl rfl hl.1 rfl (lv_room (Nat.le_of_ble_eq_true rfl)) dX4_repeatedInInnerUnion_2 ⟨Nat.zero_le _, Nat.zero_le _⟩) (fun r hrr => ?_)
  rw [hrr]
  refine lv_bipush (pc := 5) (v := (nI (6))) hx hb dX4_repeatedInInnerUnion_5 (by decide) ?_
  refine xn_icmp_eq (pc := 7) (tgt := 12) hx hb (Nat.lt_of_le_of_lt (tc.k _) (by decide)) (by omega) dX4_repeatedInInnerUnion_7 (by decide) (fun c7 => ?_) (fun c7 => ?_)
  · refine lv_aload_n (pc := 12) hx hb dX4_repeatedInInnerUnion_12 rfl (lv_at hl 0 rfl) ?_
    refine lv_iload_n (pc := 13) hx hb dX4_repeatedInInnerUnion_13 rfl (lv_at hl 1 rfl) ?_
    refine vp_callSl (pc := 14) (W.runV (As := [.int (nI l1)]) (rest := []) ⟨hx, hb, hml, hown, hts⟩ (c_X3_codeAt l D cI cL cZ he ae kd ed cd nn l1 (by omega) (by omega)) (cwV 1 hts gX4_repeatedInInnerUnion_X3_codeAt rfl rfl rfl (by decide +kernel) ⟨Nat.le_of_ble_eq_true rfl, Nat.le_of_ble_eq_true rfl⟩) (rP_V (wc := [(he, .inr (2, oE ae nn)), (ae 0, .inl (cI, 18, .inl (nA kd))), (ae 1, .inl (cI, 18, .inl (nA ed))), (ae 2, .inl (cL, 18, .inr (.inl (lA cd))))]) (ci := 2) (q0 := 0) hK hP [0, 1, 2, 3] rfl rfl rfl) rfl rfl hl.1 rfl (lv_room (Nat.le_of_ble_eq_true rfl)) dX4_repeatedInInnerUnion_14 ⟨Nat.zero_le _, Nat.zero_le _⟩) (fun r hrr => ?_)
    rw [hrr]
    refine lv_lstore_n (pc := 17) (lv' := [(3, .long (lN (kA cd nn l1))), (0, .ref he), (1, .int (nI l1)), (2, .int (nI r1))]) hx hb dX4_repeatedInInnerUnion_17 rfl hl (by decide) rfl (fun ls hl => ?_)
    refine lv_aload_n (pc := 18) hx hb dX4_repeatedInInnerUnion_18 rfl (lv_at hl 1 rfl) ?_
    refine lv_aload_n (pc := 19) hx hb dX4_repeatedInInnerUnion_19 rfl (lv_at hl 1 rfl) ?_
    refine lv_iload_n (pc := 20) hx hb dX4_repeatedInInnerUnion_20 rfl (lv_at hl 3 rfl) ?_
    refine vp_callSi (pc := 21) (W.runV (As := [.int (nI r1)]) (rest := [.ref he]) ⟨hx, hb, hml, hown, hts⟩ (c_X3_leftOf l D cI cL cZ he ae kd ed cd nn r1) (cwV 1 hts gX4_repeatedInInnerUnion_X3_leftOf rfl rfl rfl (by decide +kernel) ⟨Nat.le_of_ble_eq_true rfl, Nat.le_of_ble_eq_true rfl⟩) (rP_V (wc := [(he, .inr (2, oE ae nn)), (ae 0, .inl (cI, 18, .inl (nA kd))), (ae 1, .inl (cI, 18, .inl (nA ed))), (ae 2, .inl (cL, 18, .inr (.inl (lA cd))))]) (ci := 2) (q0 := 0) hK hP [0, 1, 2, 3] rfl rfl rfl) rfl rfl hl.1 rfl (lv_room (Nat.le_of_ble_eq_true rfl)) dX4_repeatedInInnerUnion_21 ⟨Nat.zero_le _, Nat.zero_le _⟩) (fun r hrr => ?_)
    rw [hrr]
    refine vp_callSl (pc := 24) (W.runV (As := [.int (nI (r1 + 1))]) (rest := []) ⟨hx, hb, hml, hown, hts⟩ (c_X3_codeAt l D cI cL cZ he ae kd ed cd nn (r1 + 1) (by omega) (by omega)) (cwV 1 hts gX4_repeatedInInnerUnion_X3_codeAt rfl rfl rfl (by decide +kernel) ⟨Nat.le_of_ble_eq_true rfl, Nat.le_of_ble_eq_true rfl⟩) (rP_V (wc := [(he, .inr (2, oE ae nn)), (ae 0, .inl (cI, 18, .inl (nA kd))), (ae 1, .inl (cI, 18, .inl (nA ed))), (ae 2, .inl (cL, 18, .inr (.inl (lA cd))))]) (ci := 2) (q0 := 0) hK hP [0, 1, 2, 3] rfl rfl rfl) rfl rfl hl.1 rfl (lv_room (Nat.le_of_ble_eq_true rfl)) dX4_repeatedInInnerUnion_24 ⟨Nat.zero_le _, Nat.zero_le _⟩) (fun r hrr => ?_)
    rw [hrr]
    refine lv_lstore (pc := 27) (lv' := [(5, .long (lN (kA cd nn (r1 + 1)))), (3, .long (lN (kA cd nn l1))), (0, .ref he), (1, .int (nI l1)), (2, .int (nI r1))]) hx hb dX4_repeatedInInnerUnion_27 hl (by decide) rfl (fun ls hl => ?_)
    refine lv_aload_n (pc := 29) hx hb dX4_repeatedInInnerUnion_29 rfl (lv_at hl 2 rfl) ?_
    refine lv_aload_n (pc := 30) hx hb dX4_repeatedInInnerUnion_30 rfl (lv_at hl 2 rfl) ?_
    refine lv_iload_n (pc := 31) hx hb dX4_repeatedInInnerUnion_31 rfl (lv_at hl 4 rfl) ?_
    refine vp_callSi (pc := 32) (W.runV (As := [.int (nI r1)]) (rest := [.ref he]) ⟨hx, hb, hml, hown, hts⟩ (c_X3_rightOf l D cI cL cZ he ae kd ed cd nn r1 (by omega) (by omega) (by omega)) (cwV 1 hts gX4_repeatedInInnerUnion_X3_rightOf rfl rfl rfl (by decide +kernel) ⟨Nat.le_of_ble_eq_true rfl, Nat.le_of_ble_eq_true rfl⟩) (rP_V (wc := [(he, .inr (2, oE ae nn)), (ae 0, .inl (cI, 18, .inl (nA kd))), (ae 1, .inl (cI, 18, .inl (nA ed))), (ae 2, .inl (cL, 18, .inr (.inl (lA cd))))]) (ci := 2) (q0 := 0) hK hP [0, 1, 2, 3] rfl rfl rfl) rfl rfl hl.1 rfl (lv_room (Nat.le_of_ble_eq_true rfl)) dX4_repeatedInInnerUnion_32 ⟨Nat.zero_le _, Nat.zero_le _⟩) (fun r hrr => ?_)
    rw [hrr]
    refine vp_callSl (pc := 35) (W.runV (As := [.int (nI (rA ed nn r1))]) (rest := []) ⟨hx, hb, hml, hown, hts⟩ (c_X3_codeAt l D cI cL cZ he ae kd ed cd nn (rA ed nn r1) (by omega) (Nat.lt_of_le_of_lt (tc.r _) (by decide))) (cwV 1 hts gX4_repeatedInInnerUnion_X3_codeAt rfl rfl rfl (by decide +kernel) ⟨Nat.le_of_ble_eq_true rfl, Nat.le_of_ble_eq_true rfl⟩) (rP_V (wc := [(he, .inr (2, oE ae nn)), (ae 0, .inl (cI, 18, .inl (nA kd))), (ae 1, .inl (cI, 18, .inl (nA ed))), (ae 2, .inl (cL, 18, .inr (.inl (lA cd))))]) (ci := 2) (q0 := 0) hK hP [0, 1, 2, 3] rfl rfl rfl) rfl rfl hl.1 rfl (lv_room (Nat.le_of_ble_eq_true rfl)) dX4_repeatedInInnerUnion_35 ⟨Nat.zero_le _, Nat.zero_le _⟩) (fun r hrr => ?_)
    rw [hrr]
    refine lv_lstore (pc := 38) (lv' := [(7, .long (lN (kA cd nn (rA ed nn r1)))), (5, .long (lN (kA cd nn (r1 + 1)))), (3, .long (lN (kA cd nn l1))), (0, .ref he), (1, .int (nI l1)), (2, .int (nI r1))]) hx hb dX4_repeatedInInnerUnion_38 hl (by decide) rfl (fun ls hl => ?_)
    refine lv_lload_n (pc := 40) hx hb dX4_repeatedInInnerUnion_40 rfl (lv_at hl 2 rfl) ?_
    refine lv_lload (pc := 41) hx hb dX4_repeatedInInnerUnion_41 (lv_at hl 1 rfl) ?_
    refine xnl_ne (pc := 43) (tgt := 54) hx hb (tc.c63 _) (tc.c63 _) dX4_repeatedInInnerUnion_43 dX4_repeatedInInnerUnion_44 (by decide) (fun c43 => ?_) (fun c43 => ?_)
    · refine lv_lload_n (pc := 54) hx hb dX4_repeatedInInnerUnion_54 rfl (lv_at hl 2 rfl) ?_
      refine lv_lload (pc := 55) hx hb dX4_repeatedInInnerUnion_55 (lv_at hl 0 rfl) ?_
      refine xnl_ne (pc := 57) (tgt := 70) hx hb (tc.c63 _) (tc.c63 _) dX4_repeatedInInnerUnion_57 dX4_repeatedInInnerUnion_58 (by decide) (fun c57 => ?_) (fun c57 => ?_)
      · refine lv_lconst (pc := 70) (v := (lN (0))) hx hb dX4_repeatedInInnerUnion_70 (by decide) ?_
        exact W.lret (pc := 71) (v := (lN (0))) hx hb hr (fun t ht _ => ⟨_, rfl, (by unfold mRI; (repeat' split) <;> first | rfl | omega), ht⟩) (fun _ h => absurd h List.not_mem_nil) dX4_repeatedInInnerUnion_71
      · refine lv_lload_n (pc := 61) hx hb dX4_repeatedInInnerUnion_61 rfl (lv_at hl 2 rfl) ?_
        refine lv_lload (pc := 62) hx hb dX4_repeatedInInnerUnion_62 (lv_at hl 1 rfl) ?_
        refine vp_callSl (pc := 64) (W.runS (As := [.long (lN (kA cd nn l1)), .long (lN (kA cd nn (r1 + 1)))]) (rest := []) ⟨hx, hb, hml, hown, hts⟩ (c_X1_union l D cI cL cZ (kA cd nn l1) (kA cd nn (r1 + 1)) (tc.c63 _) (tc.c63 _)) (va_cwS 2 hts gX4_repeatedInInnerUnion_X1_union rfl rfl rfl (by decide +kernel) ⟨Nat.le_of_ble_eq_true rfl, Nat.le_of_ble_eq_true rfl⟩) (rP_S (wc := []) hK hP [] rfl) rfl rfl hl.1 rfl (lv_room (Nat.le_of_ble_eq_true rfl)) dX4_repeatedInInnerUnion_64 ⟨Nat.zero_le _, Nat.zero_le _⟩) (fun r hrr => ?_)
        rw [hrr]
        refine lv_goto (pc := 67) (tgt := 71) hx hb dX4_repeatedInInnerUnion_67 (by decide) ?_
        exact W.lret (pc := 71) (v := (lN (un (kA cd nn l1) (kA cd nn (r1 + 1))))) hx hb hr (fun t ht _ => ⟨_, rfl, (by unfold mRI; (repeat' split) <;> first | rfl | omega), ht⟩) (fun _ h => absurd h List.not_mem_nil) dX4_repeatedInInnerUnion_71
    · refine lv_lload_n (pc := 47) hx hb dX4_repeatedInInnerUnion_47 rfl (lv_at hl 2 rfl) ?_
      refine lv_lload (pc := 48) hx hb dX4_repeatedInInnerUnion_48 (lv_at hl 0 rfl) ?_
      refine vp_callSl (pc := 50) (W.runS (As := [.long (lN (kA cd nn l1)), .long (lN (kA cd nn (rA ed nn r1)))]) (rest := []) ⟨hx, hb, hml, hown, hts⟩ (c_X1_union l D cI cL cZ (kA cd nn l1) (kA cd nn (rA ed nn r1)) (tc.c63 _) (tc.c63 _)) (va_cwS 2 hts gX4_repeatedInInnerUnion_X1_union rfl rfl rfl (by decide +kernel) ⟨Nat.le_of_ble_eq_true rfl, Nat.le_of_ble_eq_true rfl⟩) (rP_S (wc := []) hK hP [] rfl) rfl rfl hl.1 rfl (lv_room (Nat.le_of_ble_eq_true rfl)) dX4_repeatedInInnerUnion_50 ⟨Nat.zero_le _, Nat.zero_le _⟩) (fun r hrr => ?_)
      rw [hrr]
      exact W.lret (pc := 53) (v := (lN (un (kA cd nn l1) (kA cd nn (rA ed nn r1))))) hx hb hr (fun t ht _ => ⟨_, rfl, (by unfold mRI; (repeat' split) <;> first | rfl | omega), ht⟩) (fun _ h => absurd h List.not_mem_nil) dX4_repeatedInInnerUnion_53
  · refine lv_lconst (pc := 10) (v := (lN (0))) hx hb dX4_repeatedInInnerUnion_10 (by decide) ?_
    exact W.lret (pc := 11) (v := (lN (0))) hx hb hr (fun t ht _ => ⟨_, rfl, (by unfold mRI; (repeat' split) <;> first | rfl | omega), ht⟩) (fun _ h => absurd h List.not_mem_nil) dX4_repeatedInInnerUnion_11
set_option maxHeartbeats 4000000 in
set_option maxRecDepth 100000 in
theorem c_X4_replacement (l : Launch) (D : va_G) (cI cL cZ : ClassId) (tp tr : Nat) (he : Nat) (ae : Nat → Nat) (kd : Nat → Nat) (ed : Nat → Nat) (cd : Nat → Nat) (nn : Nat) (rl : Nat) (p1 : Nat) (tc : TC kd ed cd nn) (hrl : rl < 1000) (hp1 : p1 < 1000) : Met l yX4_replacement wsX4_replacement { frames := 3, cells := 0, slots := 0, locals := 77 } (rPS D (tyL cI cL cZ) tp tr [(he, .inr (2, oE ae nn)), (ae 0, .inl (cI, 18, .inl (nA kd))), (ae 1, .inl (cI, 18, .inl (nA ed))), (ae 2, .inl (cL, 18, .inr (.inl (lA cd))))] [.ref he, .int (nI rl), .int (nI p1)]) (vp_Sl (fun r => r = (lN (mR (kA kd nn) (kA cd nn) (rA ed nn) (sA kd cd nn) rl p1)))) 0 0 (fun _ => False) := by
  refine Met.ofW (cc := cX4_replacement) (maxL := 6) (ret := (some .long)) (by decide) rfl ?_
  intro pG eG s mG args below meth cG s₁ B hml hpre9
  obtain ⟨rfl, hP, hK, hZ⟩ := hpre9
  have hx := B.exec
  have hb := B.bytes
  have hr := B.returns
  have hts := atoms_spec (ws := wsX4_replacement) B.pre
  have hown : s.vm.findClass RX4 = some mG.cls := findClass_of_methodNamed B.named
  have hlocks := B.notSynchronized
  have hS : va_S (fun _ => False) s.heap s.heap [] := va_S.rf
  have lk0 : (Cond.fieldLink RX4 25 "RegexSimplifier$Rules" "ROOT_KINDS" "[I").before _ s = true := hts _ (List.mem_cons_of_mem _ (List.mem_append_left _ (List.mem_append_left _ (List.mem_of_getElem? (i := 0) rfl))))
  have hl := lv_entry ([.ref he, .int (nI rl), .int (nI p1)]) (n := 6) (Nat.le_of_ble_eq_true rfl)
  rw [lg_entry_eq]
  generalize (lg_sl ([.ref he, .int (nI rl), .int (nI p1)]) ++ List.replicate (6 - (lg_sl ([.ref he, .int (nI rl), .int (nI p1)])).length) Slot.unset).toArray = ls at hl ⊢
  have hl : lv_has ls 6 [(0, .ref he), (1, .int (nI rl)), (2, .int (nI p1))] := hl
  have hn18 := tc.n18
  have hn0 := tc.n0
  refine lv_iload_n (pc := 0) hx hb dX4_replacement_0 rfl (lv_at hl 1 rfl) ?_
  refine xn_if_lt (pc := 1) (tgt := 16) hx hb (by omega) dX4_replacement_1 (by decide) ?_
  refine lv_iload_n (pc := 4) hx hb dX4_replacement_4 rfl (lv_at hl 1 rfl) ?_
  refine va_gets (pc := 5) hx hb hZ.2.2.1 hS hown lk0 (fun _ h9 => h9) dX4_replacement_5 ?_
  refine va_tlen (pc := 8) (v := nI 16) hx hb hZ.2.2.2 hS rfl dX4_replacement_8 ?_
  refine xn_icmp_ge (pc := 9) (tgt := 16) hx hb (by omega) (by omega) dX4_replacement_9 (by decide) (fun c9 => ?_) (fun c9 => ?_)
  · refine lv_iconst (pc := 16) (v := (nI (0))) hx hb dX4_replacement_16 (by decide) ?_
    refine lv_istore_n (pc := 17) (lv' := [(3, .int (nI 0)), (0, .ref he), (1, .int (nI rl)), (2, .int (nI p1))]) hx hb dX4_replacement_17 rfl hl (by decide) rfl (fun ls hl => ?_)
    refine lv_iload_n (pc := 18) hx hb dX4_replacement_18 rfl (lv_at hl 0 rfl) ?_
    refine lv_if_eq (pc := 19) (tgt := 35) hx hb dX4_replacement_19 (by decide) (fun _ => ?_) (fun h => absurd h (by decide))
    refine lv_lconst (pc := 35) (v := (lN (0))) hx hb dX4_replacement_35 (by decide) ?_
    exact W.lret (pc := 36) (v := (lN (0))) hx hb hr (fun t ht _ => ⟨_, rfl, (congrArg lN (if_neg (fun h => by omega)).symm), ht⟩) (fun _ h => absurd h List.not_mem_nil) dX4_replacement_36
  · refine lv_iconst (pc := 12) (v := (nI (1))) hx hb dX4_replacement_12 (by decide) ?_
    refine lv_goto (pc := 13) (tgt := 17) hx hb dX4_replacement_13 (by decide) ?_
    refine lv_istore_n (pc := 17) (lv' := [(3, .int (nI 1)), (0, .ref he), (1, .int (nI rl)), (2, .int (nI p1))]) hx hb dX4_replacement_17 rfl hl (by decide) rfl (fun ls hl => ?_)
    refine lv_iload_n (pc := 18) hx hb dX4_replacement_18 rfl (lv_at hl 0 rfl) ?_
    refine lv_if_eq (pc := 19) (tgt := 35) hx hb dX4_replacement_19 (by decide) (fun h => absurd h (by decide)) (fun _ => ?_)
    refine lv_aload_n (pc := 22) hx hb dX4_replacement_22 rfl (lv_at hl 1 rfl) ?_
    refine lv_iload_n (pc := 23) hx hb dX4_replacement_23 rfl (lv_at hl 3 rfl) ?_
    refine vp_callSi (pc := 24) (W.runV (As := [.int (nI p1)]) (rest := []) ⟨hx, hb, hml, hown, hts⟩ (c_X3_kindAt l D cI cL cZ he ae kd ed cd nn p1 (by omega) (by omega)) (cwV 1 hts gX4_replacement_X3_kindAt rfl rfl rfl (by decide +kernel) ⟨Nat.le_of_ble_eq_true rfl, Nat.le_of_ble_eq_true rfl⟩) (rP_V (wc := [(he, .inr (2, oE ae nn)), (ae 0, .inl (cI, 18, .inl (nA kd))), (ae 1, .inl (cI, 18, .inl (nA ed))), (ae 2, .inl (cL, 18, .inr (.inl (lA cd))))]) (ci := 2) (q0 := 0) hK hP [0, 1, 2, 3] rfl rfl rfl) rfl rfl hl.1 rfl (lv_room (Nat.le_of_ble_eq_true rfl)) dX4_replacement_24 ⟨Nat.zero_le _, Nat.zero_le _⟩) (fun r hrr => ?_)
    rw [hrr]
    refine va_gets (pc := 27) hx hb hZ.2.2.1 hS hown lk0 (fun _ h9 => h9) dX4_replacement_27 ?_
    refine lv_iload_n (pc := 30) hx hb dX4_replacement_30 rfl (lv_at hl 2 rfl) ?_
    refine va_ti (pc := 31) (v := .int (nI (rootK rl))) hx hb hZ.2.2.2 hS (vp_in_nI (n := rl) (N := 16) (by omega) (by omega)) (by rw [nI_clamp (by omega)]; rfl) dX4_replacement_31 ?_
    refine xn_icmp_eq (pc := 32) (tgt := 37) hx hb (Nat.lt_of_le_of_lt (tc.k _) (by decide)) (Nat.lt_of_le_of_lt (rootK_le _) (by decide)) dX4_replacement_32 (by decide) (fun c32 => ?_) (fun c32 => ?_)
    · refine lv_aload_n (pc := 37) hx hb dX4_replacement_37 rfl (lv_at hl 1 rfl) ?_
      refine lv_iload_n (pc := 38) hx hb dX4_replacement_38 rfl (lv_at hl 3 rfl) ?_
      refine vp_callSi (pc := 39) (W.runV (As := [.int (nI p1)]) (rest := []) ⟨hx, hb, hml, hown, hts⟩ (c_X3_leftOf l D cI cL cZ he ae kd ed cd nn p1) (cwV 1 hts gX4_replacement_X3_leftOf rfl rfl rfl (by decide +kernel) ⟨Nat.le_of_ble_eq_true rfl, Nat.le_of_ble_eq_true rfl⟩) (rP_V (wc := [(he, .inr (2, oE ae nn)), (ae 0, .inl (cI, 18, .inl (nA kd))), (ae 1, .inl (cI, 18, .inl (nA ed))), (ae 2, .inl (cL, 18, .inr (.inl (lA cd))))]) (ci := 2) (q0 := 0) hK hP [0, 1, 2, 3] rfl rfl rfl) rfl rfl hl.1 rfl (lv_room (Nat.le_of_ble_eq_true rfl)) dX4_replacement_39 ⟨Nat.zero_le _, Nat.zero_le _⟩) (fun r hrr => ?_)
      rw [hrr]
      refine lv_istore (pc := 42) (lv' := [(4, .int (nI (p1 + 1))), (3, .int (nI 1)), (0, .ref he), (1, .int (nI rl)), (2, .int (nI p1))]) hx hb dX4_replacement_42 hl (by decide) rfl (fun ls hl => ?_)
      refine lv_aload_n (pc := 44) hx hb dX4_replacement_44 rfl (lv_at hl 2 rfl) ?_
      refine lv_iload_n (pc := 45) hx hb dX4_replacement_45 rfl (lv_at hl 4 rfl) ?_
      refine vp_callSi (pc := 46) (W.runV (As := [.int (nI p1)]) (rest := []) ⟨hx, hb, hml, hown, hts⟩ (c_X3_rightOf l D cI cL cZ he ae kd ed cd nn p1 (by omega) (by omega) (by omega)) (cwV 1 hts gX4_replacement_X3_rightOf rfl rfl rfl (by decide +kernel) ⟨Nat.le_of_ble_eq_true rfl, Nat.le_of_ble_eq_true rfl⟩) (rP_V (wc := [(he, .inr (2, oE ae nn)), (ae 0, .inl (cI, 18, .inl (nA kd))), (ae 1, .inl (cI, 18, .inl (nA ed))), (ae 2, .inl (cL, 18, .inr (.inl (lA cd))))]) (ci := 2) (q0 := 0) hK hP [0, 1, 2, 3] rfl rfl rfl) rfl rfl hl.1 rfl (lv_room (Nat.le_of_ble_eq_true rfl)) dX4_replacement_46 ⟨Nat.zero_le _, Nat.zero_le _⟩) (fun r hrr => ?_)
      rw [hrr]
      refine lv_istore (pc := 49) (lv' := [(5, .int (nI (rA ed nn p1))), (4, .int (nI (p1 + 1))), (3, .int (nI 1)), (0, .ref he), (1, .int (nI rl)), (2, .int (nI p1))]) hx hb dX4_replacement_49 hl (by decide) rfl (fun ls hl => ?_)
      refine lv_iload_n (pc := 51) hx hb dX4_replacement_51 rfl (lv_at hl 4 rfl) ?_
      rcases lt16 c9 with rfl | rfl | rfl | rfl | rfl | rfl | rfl | rfl | rfl | rfl | rfl | rfl | rfl | rfl | rfl | rfl
      · have hkr : kA kd nn p1 = 6 := c32
        refine lv_tableIn (pc := 52) (tgt := 132) (off := 80) hx hb dX4_replacement_52 (by decide) (by decide) (by decide) (by decide) ?_
        refine lv_aload_n (pc := 132) hx hb dX4_replacement_132 rfl (lv_at hl 3 rfl) ?_
        refine lv_iconst (pc := 133) (v := (nI (1))) hx hb dX4_replacement_133 (by decide) ?_
        refine lv_iload (pc := 134) hx hb dX4_replacement_134 (lv_at hl 1 rfl) ?_
        refine lv_iload (pc := 136) hx hb dX4_replacement_136 (lv_at hl 0 rfl) ?_
        refine vp_callSl (pc := 138) (W.runS (As := [.ref he, .int (nI 1), .int (nI (p1 + 1)), .int (nI (rA ed nn p1))]) (rest := []) ⟨hx, hb, hml, hown, hts⟩ (c_X4_besideUnit l D cI cL cZ he ae kd ed cd nn 1 (p1 + 1) (rA ed nn p1) tc (by omega) (Nat.lt_of_le_of_lt (tc.r _) (by decide)) (by omega)) (va_cwS 4 hts gX4_replacement_X4_besideUnit rfl rfl rfl (by decide +kernel) ⟨Nat.le_of_ble_eq_true rfl, Nat.le_of_ble_eq_true rfl⟩) (rP_S (wc := [(he, .inr (2, oE ae nn)), (ae 0, .inl (cI, 18, .inl (nA kd))), (ae 1, .inl (cI, 18, .inl (nA ed))), (ae 2, .inl (cL, 18, .inr (.inl (lA cd))))]) hK hP [0, 1, 2, 3] rfl) rfl rfl hl.1 rfl (lv_room (Nat.le_of_ble_eq_true rfl)) dX4_replacement_138 ⟨Nat.zero_le _, Nat.zero_le _⟩) (fun r hrr => ?_)
        rw [hrr]
        exact W.lret (pc := 141) (v := (lN (mBU (kA cd nn) 1 (p1 + 1) (rA ed nn p1)))) hx hb hr (fun t ht _ => ⟨_, rfl, (by unfold mR; rw [if_pos ⟨by decide, hkr⟩]; rfl), ht⟩) (fun _ h => absurd h List.not_mem_nil) dX4_replacement_141
      · have hkr : kA kd nn p1 = 7 := c32
        refine lv_tableIn (pc := 52) (tgt := 142) (off := 90) hx hb dX4_replacement_52 (by decide) (by decide) (by decide) (by decide) ?_
        refine lv_aload_n (pc := 142) hx hb dX4_replacement_142 rfl (lv_at hl 3 rfl) ?_
        refine lv_iload (pc := 143) hx hb dX4_replacement_143 (lv_at hl 1 rfl) ?_
        refine lv_iload (pc := 145) hx hb dX4_replacement_145 (lv_at hl 0 rfl) ?_
        refine vp_callSl (pc := 147) (W.runS (As := [.ref he, .int (nI (p1 + 1)), .int (nI (rA ed nn p1))]) (rest := []) ⟨hx, hb, hml, hown, hts⟩ (c_X4_concatenatedEmptySet l D cI cL cZ he ae kd ed cd nn (p1 + 1) (rA ed nn p1) tc (by omega) (Nat.lt_of_le_of_lt (tc.r _) (by decide))) (va_cwS 3 hts gX4_replacement_X4_concatenatedEmptySet rfl rfl rfl (by decide +kernel) ⟨Nat.le_of_ble_eq_true rfl, Nat.le_of_ble_eq_true rfl⟩) (rP_S (wc := [(he, .inr (2, oE ae nn)), (ae 0, .inl (cI, 18, .inl (nA kd))), (ae 1, .inl (cI, 18, .inl (nA ed))), (ae 2, .inl (cL, 18, .inr (.inl (lA cd))))]) hK hP [0, 1, 2, 3] rfl) rfl rfl hl.1 rfl (lv_room (Nat.le_of_ble_eq_true rfl)) dX4_replacement_147 ⟨Nat.zero_le _, Nat.zero_le _⟩) (fun r hrr => ?_)
        rw [hrr]
        exact W.lret (pc := 150) (v := (lN (mCE (kA cd nn) (p1 + 1) (rA ed nn p1)))) hx hb hr (fun t ht _ => ⟨_, rfl, (by unfold mR; rw [if_pos ⟨by decide, hkr⟩]; rfl), ht⟩) (fun _ h => absurd h List.not_mem_nil) dX4_replacement_150
      · have hkr : kA kd nn p1 = 7 := c32
        refine lv_tableIn (pc := 52) (tgt := 151) (off := 99) hx hb dX4_replacement_52 (by decide) (by decide) (by decide) (by decide) ?_
        refine lv_aload_n (pc := 151) hx hb dX4_replacement_151 rfl (lv_at hl 3 rfl) ?_
        refine lv_iconst (pc := 152) (v := (nI (2))) hx hb dX4_replacement_152 (by decide) ?_
        refine lv_iload (pc := 153) hx hb dX4_replacement_153 (lv_at hl 1 rfl) ?_
        refine lv_iload (pc := 155) hx hb dX4_replacement_155 (lv_at hl 0 rfl) ?_
        refine vp_callSl (pc := 157) (W.runS (As := [.ref he, .int (nI 2), .int (nI (p1 + 1)), .int (nI (rA ed nn p1))]) (rest := []) ⟨hx, hb, hml, hown, hts⟩ (c_X4_besideUnit l D cI cL cZ he ae kd ed cd nn 2 (p1 + 1) (rA ed nn p1) tc (by omega) (Nat.lt_of_le_of_lt (tc.r _) (by decide)) (by omega)) (va_cwS 4 hts gX4_replacement_X4_besideUnit rfl rfl rfl (by decide +kernel) ⟨Nat.le_of_ble_eq_true rfl, Nat.le_of_ble_eq_true rfl⟩) (rP_S (wc := [(he, .inr (2, oE ae nn)), (ae 0, .inl (cI, 18, .inl (nA kd))), (ae 1, .inl (cI, 18, .inl (nA ed))), (ae 2, .inl (cL, 18, .inr (.inl (lA cd))))]) hK hP [0, 1, 2, 3] rfl) rfl rfl hl.1 rfl (lv_room (Nat.le_of_ble_eq_true rfl)) dX4_replacement_157 ⟨Nat.zero_le _, Nat.zero_le _⟩) (fun r hrr => ?_)
        rw [hrr]
        exact W.lret (pc := 160) (v := (lN (mBU (kA cd nn) 2 (p1 + 1) (rA ed nn p1)))) hx hb hr (fun t ht _ => ⟨_, rfl, (by unfold mR; rw [if_pos ⟨by decide, hkr⟩]; rfl), ht⟩) (fun _ h => absurd h List.not_mem_nil) dX4_replacement_160
      · have hkr : kA kd nn p1 = 8 := c32
        refine lv_tableIn (pc := 52) (tgt := 161) (off := 109) hx hb dX4_replacement_52 (by decide) (by decide) (by decide) (by decide) ?_
        refine lv_aload_n (pc := 161) hx hb dX4_replacement_161 rfl (lv_at hl 3 rfl) ?_
        refine lv_iload (pc := 162) hx hb dX4_replacement_162 (lv_at hl 1 rfl) ?_
        refine vp_callSl (pc := 164) (W.runS (As := [.ref he, .int (nI (p1 + 1))]) (rest := []) ⟨hx, hb, hml, hown, hts⟩ (c_X4_starOfNothing l D cI cL cZ he ae kd ed cd nn (p1 + 1) tc (by omega)) (va_cwS 2 hts gX4_replacement_X4_starOfNothing rfl rfl rfl (by decide +kernel) ⟨Nat.le_of_ble_eq_true rfl, Nat.le_of_ble_eq_true rfl⟩) (rP_S (wc := [(he, .inr (2, oE ae nn)), (ae 0, .inl (cI, 18, .inl (nA kd))), (ae 1, .inl (cI, 18, .inl (nA ed))), (ae 2, .inl (cL, 18, .inr (.inl (lA cd))))]) hK hP [0, 1, 2, 3] rfl) rfl rfl hl.1 rfl (lv_room (Nat.le_of_ble_eq_true rfl)) dX4_replacement_164 ⟨Nat.zero_le _, Nat.zero_le _⟩) (fun r hrr => ?_)
        rw [hrr]
        exact W.lret (pc := 167) (v := (lN (mSN (kA cd nn) (p1 + 1)))) hx hb hr (fun t ht _ => ⟨_, rfl, (by unfold mR; rw [if_pos ⟨by decide, hkr⟩]; rfl), ht⟩) (fun _ h => absurd h List.not_mem_nil) dX4_replacement_167
      · have hkr : kA kd nn p1 = 6 := c32
        refine lv_tableIn (pc := 52) (tgt := 168) (off := 116) hx hb dX4_replacement_52 (by decide) (by decide) (by decide) (by decide) ?_
        refine lv_aload_n (pc := 168) hx hb dX4_replacement_168 rfl (lv_at hl 3 rfl) ?_
        refine lv_iload (pc := 169) hx hb dX4_replacement_169 (lv_at hl 1 rfl) ?_
        refine lv_iload (pc := 171) hx hb dX4_replacement_171 (lv_at hl 0 rfl) ?_
        refine vp_callSl (pc := 173) (W.runS (As := [.ref he, .int (nI (p1 + 1)), .int (nI (rA ed nn p1))]) (rest := []) ⟨hx, hb, hml, hown, hts⟩ (c_X4_unionOfSame l D cI cL cZ he ae kd ed cd nn (p1 + 1) (rA ed nn p1) tc (by omega) (Nat.lt_of_le_of_lt (tc.r _) (by decide))) (va_cwS 3 hts gX4_replacement_X4_unionOfSame rfl rfl rfl (by decide +kernel) ⟨Nat.le_of_ble_eq_true rfl, Nat.le_of_ble_eq_true rfl⟩) (rP_S (wc := [(he, .inr (2, oE ae nn)), (ae 0, .inl (cI, 18, .inl (nA kd))), (ae 1, .inl (cI, 18, .inl (nA ed))), (ae 2, .inl (cL, 18, .inr (.inl (lA cd))))]) hK hP [0, 1, 2, 3] rfl) rfl rfl hl.1 rfl (lv_room (Nat.le_of_ble_eq_true rfl)) dX4_replacement_173 ⟨Nat.zero_le _, Nat.zero_le _⟩) (fun r hrr => ?_)
        rw [hrr]
        exact W.lret (pc := 176) (v := (lN (mUS (kA cd nn) (p1 + 1) (rA ed nn p1)))) hx hb hr (fun t ht _ => ⟨_, rfl, (by unfold mR; rw [if_pos ⟨by decide, hkr⟩]; rfl), ht⟩) (fun _ h => absurd h List.not_mem_nil) dX4_replacement_176
      · have hkr : kA kd nn p1 = 8 := c32
        refine lv_tableIn (pc := 52) (tgt := 177) (off := 125) hx hb dX4_replacement_52 (by decide) (by decide) (by decide) (by decide) ?_
        refine lv_aload_n (pc := 177) hx hb dX4_replacement_177 rfl (lv_at hl 3 rfl) ?_
        refine lv_iload (pc := 178) hx hb dX4_replacement_178 (lv_at hl 1 rfl) ?_
        refine vp_callSl (pc := 180) (W.runS (As := [.ref he, .int (nI (p1 + 1))]) (rest := []) ⟨hx, hb, hml, hown, hts⟩ (c_X4_starOfStar l D cI cL cZ he ae kd ed cd nn (p1 + 1) tc (by omega)) (va_cwS 2 hts gX4_replacement_X4_starOfStar rfl rfl rfl (by decide +kernel) ⟨Nat.le_of_ble_eq_true rfl, Nat.le_of_ble_eq_true rfl⟩) (rP_S (wc := [(he, .inr (2, oE ae nn)), (ae 0, .inl (cI, 18, .inl (nA kd))), (ae 1, .inl (cI, 18, .inl (nA ed))), (ae 2, .inl (cL, 18, .inr (.inl (lA cd))))]) hK hP [0, 1, 2, 3] rfl) rfl rfl hl.1 rfl (lv_room (Nat.le_of_ble_eq_true rfl)) dX4_replacement_180 ⟨Nat.zero_le _, Nat.zero_le _⟩) (fun r hrr => ?_)
        rw [hrr]
        exact W.lret (pc := 183) (v := (lN (mSS (kA kd nn) (kA cd nn) (p1 + 1)))) hx hb hr (fun t ht _ => ⟨_, rfl, (by unfold mR; rw [if_pos ⟨by decide, hkr⟩]; rfl), ht⟩) (fun _ h => absurd h List.not_mem_nil) dX4_replacement_183
      · have hkr : kA kd nn p1 = 8 := c32
        refine lv_tableIn (pc := 52) (tgt := 184) (off := 132) hx hb dX4_replacement_52 (by decide) (by decide) (by decide) (by decide) ?_
        refine lv_aload_n (pc := 184) hx hb dX4_replacement_184 rfl (lv_at hl 3 rfl) ?_
        refine lv_iload (pc := 185) hx hb dX4_replacement_185 (lv_at hl 1 rfl) ?_
        refine vp_callSl (pc := 187) (W.runS (As := [.ref he, .int (nI (p1 + 1))]) (rest := []) ⟨hx, hb, hml, hown, hts⟩ (c_X4_starOfOptional l D cI cL cZ he ae kd ed cd nn (p1 + 1) tc (by omega)) (va_cwS 2 hts gX4_replacement_X4_starOfOptional rfl rfl rfl (by decide +kernel) ⟨Nat.le_of_ble_eq_true rfl, Nat.le_of_ble_eq_true rfl⟩) (rP_S (wc := [(he, .inr (2, oE ae nn)), (ae 0, .inl (cI, 18, .inl (nA kd))), (ae 1, .inl (cI, 18, .inl (nA ed))), (ae 2, .inl (cL, 18, .inr (.inl (lA cd))))]) hK hP [0, 1, 2, 3] rfl) rfl rfl hl.1 rfl (lv_room (Nat.le_of_ble_eq_true rfl)) dX4_replacement_187 ⟨Nat.zero_le _, Nat.zero_le _⟩) (fun r hrr => ?_)
        rw [hrr]
        exact W.lret (pc := 190) (v := (lN (mSO (kA kd nn) (kA cd nn) (rA ed nn) (p1 + 1)))) hx hb hr (fun t ht _ => ⟨_, rfl, (by unfold mR; rw [if_pos ⟨by decide, hkr⟩]; rfl), ht⟩) (fun _ h => absurd h List.not_mem_nil) dX4_replacement_190
      · have hkr : kA kd nn p1 = 7 := c32
        refine lv_tableIn (pc := 52) (tgt := 191) (off := 139) hx hb dX4_replacement_52 (by decide) (by decide) (by decide) (by decide) ?_
        refine lv_aload_n (pc := 191) hx hb dX4_replacement_191 rfl (lv_at hl 3 rfl) ?_
        refine lv_iload (pc := 192) hx hb dX4_replacement_192 (lv_at hl 1 rfl) ?_
        refine lv_iload (pc := 194) hx hb dX4_replacement_194 (lv_at hl 0 rfl) ?_
        refine vp_callSl (pc := 196) (W.runS (As := [.ref he, .int (nI (p1 + 1)), .int (nI (rA ed nn p1))]) (rest := []) ⟨hx, hb, hml, hown, hts⟩ (c_X4_sameStarTwice l D cI cL cZ he ae kd ed cd nn (p1 + 1) (rA ed nn p1) tc (by omega) (Nat.lt_of_le_of_lt (tc.r _) (by decide))) (va_cwS 3 hts gX4_replacement_X4_sameStarTwice rfl rfl rfl (by decide +kernel) ⟨Nat.le_of_ble_eq_true rfl, Nat.le_of_ble_eq_true rfl⟩) (rP_S (wc := [(he, .inr (2, oE ae nn)), (ae 0, .inl (cI, 18, .inl (nA kd))), (ae 1, .inl (cI, 18, .inl (nA ed))), (ae 2, .inl (cL, 18, .inr (.inl (lA cd))))]) hK hP [0, 1, 2, 3] rfl) rfl rfl hl.1 rfl (lv_room (Nat.le_of_ble_eq_true rfl)) dX4_replacement_196 ⟨Nat.zero_le _, Nat.zero_le _⟩) (fun r hrr => ?_)
        rw [hrr]
        exact W.lret (pc := 199) (v := (lN (mST (kA kd nn) (kA cd nn) (p1 + 1) (rA ed nn p1)))) hx hb hr (fun t ht _ => ⟨_, rfl, (by unfold mR; rw [if_pos ⟨by decide, hkr⟩]; rfl), ht⟩) (fun _ h => absurd h List.not_mem_nil) dX4_replacement_199
      · have hkr : kA kd nn p1 = 6 := c32
        refine lv_tableIn (pc := 52) (tgt := 200) (off := 148) hx hb dX4_replacement_52 (by decide) (by decide) (by decide) (by decide) ?_
        refine lv_aload_n (pc := 200) hx hb dX4_replacement_200 rfl (lv_at hl 3 rfl) ?_
        refine lv_iload (pc := 201) hx hb dX4_replacement_201 (lv_at hl 1 rfl) ?_
        refine lv_iload (pc := 203) hx hb dX4_replacement_203 (lv_at hl 0 rfl) ?_
        refine vp_callSl (pc := 205) (W.runS (As := [.ref he, .int (nI (p1 + 1)), .int (nI (rA ed nn p1))]) (rest := []) ⟨hx, hb, hml, hown, hts⟩ (c_X4_starOrEmptyWord l D cI cL cZ he ae kd ed cd nn (p1 + 1) (rA ed nn p1) tc (by omega) (Nat.lt_of_le_of_lt (tc.r _) (by decide))) (va_cwS 3 hts gX4_replacement_X4_starOrEmptyWord rfl rfl rfl (by decide +kernel) ⟨Nat.le_of_ble_eq_true rfl, Nat.le_of_ble_eq_true rfl⟩) (rP_S (wc := [(he, .inr (2, oE ae nn)), (ae 0, .inl (cI, 18, .inl (nA kd))), (ae 1, .inl (cI, 18, .inl (nA ed))), (ae 2, .inl (cL, 18, .inr (.inl (lA cd))))]) hK hP [0, 1, 2, 3] rfl) rfl rfl hl.1 rfl (lv_room (Nat.le_of_ble_eq_true rfl)) dX4_replacement_205 ⟨Nat.zero_le _, Nat.zero_le _⟩) (fun r hrr => ?_)
        rw [hrr]
        exact W.lret (pc := 208) (v := (lN (mSE (kA kd nn) (kA cd nn) (p1 + 1) (rA ed nn p1)))) hx hb hr (fun t ht _ => ⟨_, rfl, (by unfold mR; rw [if_pos ⟨by decide, hkr⟩]; rfl), ht⟩) (fun _ h => absurd h List.not_mem_nil) dX4_replacement_208
      · have hkr : kA kd nn p1 = 6 := c32
        refine lv_tableIn (pc := 52) (tgt := 209) (off := 157) hx hb dX4_replacement_52 (by decide) (by decide) (by decide) (by decide) ?_
        refine lv_aload_n (pc := 209) hx hb dX4_replacement_209 rfl (lv_at hl 3 rfl) ?_
        refine lv_iload (pc := 210) hx hb dX4_replacement_210 (lv_at hl 1 rfl) ?_
        refine lv_iload (pc := 212) hx hb dX4_replacement_212 (lv_at hl 0 rfl) ?_
        refine vp_callSl (pc := 214) (W.runS (As := [.ref he, .int (nI (p1 + 1)), .int (nI (rA ed nn p1))]) (rest := []) ⟨hx, hb, hml, hown, hts⟩ (c_X4_besideItsStar l D cI cL cZ he ae kd ed cd nn (p1 + 1) (rA ed nn p1) tc (by omega) (Nat.lt_of_le_of_lt (tc.r _) (by decide))) (va_cwS 3 hts gX4_replacement_X4_besideItsStar rfl rfl rfl (by decide +kernel) ⟨Nat.le_of_ble_eq_true rfl, Nat.le_of_ble_eq_true rfl⟩) (rP_S (wc := [(he, .inr (2, oE ae nn)), (ae 0, .inl (cI, 18, .inl (nA kd))), (ae 1, .inl (cI, 18, .inl (nA ed))), (ae 2, .inl (cL, 18, .inr (.inl (lA cd))))]) hK hP [0, 1, 2, 3] rfl) rfl rfl hl.1 rfl (lv_room (Nat.le_of_ble_eq_true rfl)) dX4_replacement_214 ⟨Nat.zero_le _, Nat.zero_le _⟩) (fun r hrr => ?_)
        rw [hrr]
        exact W.lret (pc := 217) (v := (lN (mBS (kA cd nn) (sA kd cd nn) (p1 + 1) (rA ed nn p1)))) hx hb hr (fun t ht _ => ⟨_, rfl, (by unfold mR; rw [if_pos ⟨by decide, hkr⟩]; rfl), ht⟩) (fun _ h => absurd h List.not_mem_nil) dX4_replacement_217
      · have hkr : kA kd nn p1 = 6 := c32
        refine lv_tableIn (pc := 52) (tgt := 218) (off := 166) hx hb dX4_replacement_52 (by decide) (by decide) (by decide) (by decide) ?_
        refine lv_aload_n (pc := 218) hx hb dX4_replacement_218 rfl (lv_at hl 3 rfl) ?_
        refine lv_iload (pc := 219) hx hb dX4_replacement_219 (lv_at hl 1 rfl) ?_
        refine lv_iload (pc := 221) hx hb dX4_replacement_221 (lv_at hl 0 rfl) ?_
        refine vp_callSl (pc := 223) (W.runS (As := [.ref he, .int (nI (p1 + 1)), .int (nI (rA ed nn p1))]) (rest := []) ⟨hx, hb, hml, hown, hts⟩ (c_X4_sharedFront l D cI cL cZ he ae kd ed cd nn (p1 + 1) (rA ed nn p1) tc (by omega) (Nat.lt_of_le_of_lt (tc.r _) (by decide)) (tc.two (Or.inl hkr)).2.2.1) (va_cwS 3 hts gX4_replacement_X4_sharedFront rfl rfl rfl (by decide +kernel) ⟨Nat.le_of_ble_eq_true rfl, Nat.le_of_ble_eq_true rfl⟩) (rP_S (wc := [(he, .inr (2, oE ae nn)), (ae 0, .inl (cI, 18, .inl (nA kd))), (ae 1, .inl (cI, 18, .inl (nA ed))), (ae 2, .inl (cL, 18, .inr (.inl (lA cd))))]) hK hP [0, 1, 2, 3] rfl) rfl rfl hl.1 rfl (lv_room (Nat.le_of_ble_eq_true rfl)) dX4_replacement_223 ⟨Nat.zero_le _, Nat.zero_le _⟩) (fun r hrr => ?_)
        rw [hrr]
        exact W.lret (pc := 226) (v := (lN (mSF (kA kd nn) (kA cd nn) (rA ed nn) (p1 + 1) (rA ed nn p1)))) hx hb hr (fun t ht _ => ⟨_, rfl, (by unfold mR; rw [if_pos ⟨by decide, hkr⟩]; rfl), ht⟩) (fun _ h => absurd h List.not_mem_nil) dX4_replacement_226
      · have hkr : kA kd nn p1 = 6 := c32
        refine lv_tableIn (pc := 52) (tgt := 227) (off := 175) hx hb dX4_replacement_52 (by decide) (by decide) (by decide) (by decide) ?_
        refine lv_aload_n (pc := 227) hx hb dX4_replacement_227 rfl (lv_at hl 3 rfl) ?_
        refine lv_iload (pc := 228) hx hb dX4_replacement_228 (lv_at hl 1 rfl) ?_
        refine lv_iload (pc := 230) hx hb dX4_replacement_230 (lv_at hl 0 rfl) ?_
        refine vp_callSl (pc := 232) (W.runS (As := [.ref he, .int (nI (p1 + 1)), .int (nI (rA ed nn p1))]) (rest := []) ⟨hx, hb, hml, hown, hts⟩ (c_X4_sharedBack l D cI cL cZ he ae kd ed cd nn (p1 + 1) (rA ed nn p1) tc (by omega) (Nat.lt_of_le_of_lt (tc.r _) (by decide)) (tc.two (Or.inl hkr)).2.2.1) (va_cwS 3 hts gX4_replacement_X4_sharedBack rfl rfl rfl (by decide +kernel) ⟨Nat.le_of_ble_eq_true rfl, Nat.le_of_ble_eq_true rfl⟩) (rP_S (wc := [(he, .inr (2, oE ae nn)), (ae 0, .inl (cI, 18, .inl (nA kd))), (ae 1, .inl (cI, 18, .inl (nA ed))), (ae 2, .inl (cL, 18, .inr (.inl (lA cd))))]) hK hP [0, 1, 2, 3] rfl) rfl rfl hl.1 rfl (lv_room (Nat.le_of_ble_eq_true rfl)) dX4_replacement_232 ⟨Nat.zero_le _, Nat.zero_le _⟩) (fun r hrr => ?_)
        rw [hrr]
        exact W.lret (pc := 235) (v := (lN (mSB (kA kd nn) (kA cd nn) (rA ed nn) (p1 + 1) (rA ed nn p1)))) hx hb hr (fun t ht _ => ⟨_, rfl, (by unfold mR; rw [if_pos ⟨by decide, hkr⟩]; rfl), ht⟩) (fun _ h => absurd h List.not_mem_nil) dX4_replacement_235
      · have hkr : kA kd nn p1 = 6 := c32
        refine lv_tableIn (pc := 52) (tgt := 236) (off := 184) hx hb dX4_replacement_52 (by decide) (by decide) (by decide) (by decide) ?_
        refine lv_aload_n (pc := 236) hx hb dX4_replacement_236 rfl (lv_at hl 3 rfl) ?_
        refine lv_iload (pc := 237) hx hb dX4_replacement_237 (lv_at hl 1 rfl) ?_
        refine lv_iload (pc := 239) hx hb dX4_replacement_239 (lv_at hl 0 rfl) ?_
        refine vp_callSl (pc := 241) (W.runS (As := [.ref he, .int (nI (p1 + 1)), .int (nI (rA ed nn p1))]) (rest := []) ⟨hx, hb, hml, hown, hts⟩ (c_X4_optionalRepetition l D cI cL cZ he ae kd ed cd nn (p1 + 1) (rA ed nn p1) tc (by omega) (Nat.lt_of_le_of_lt (tc.r _) (by decide))) (va_cwS 3 hts gX4_replacement_X4_optionalRepetition rfl rfl rfl (by decide +kernel) ⟨Nat.le_of_ble_eq_true rfl, Nat.le_of_ble_eq_true rfl⟩) (rP_S (wc := [(he, .inr (2, oE ae nn)), (ae 0, .inl (cI, 18, .inl (nA kd))), (ae 1, .inl (cI, 18, .inl (nA ed))), (ae 2, .inl (cL, 18, .inr (.inl (lA cd))))]) hK hP [0, 1, 2, 3] rfl) rfl rfl hl.1 rfl (lv_room (Nat.le_of_ble_eq_true rfl)) dX4_replacement_241 ⟨Nat.zero_le _, Nat.zero_le _⟩) (fun r hrr => ?_)
        rw [hrr]
        exact W.lret (pc := 244) (v := (lN (mOR (kA kd nn) (kA cd nn) (rA ed nn) (sA kd cd nn) (p1 + 1) (rA ed nn p1)))) hx hb hr (fun t ht _ => ⟨_, rfl, (by unfold mR; rw [if_pos ⟨by decide, hkr⟩]; rfl), ht⟩) (fun _ h => absurd h List.not_mem_nil) dX4_replacement_244
      · have hkr : kA kd nn p1 = 8 := c32
        refine lv_tableIn (pc := 52) (tgt := 245) (off := 193) hx hb dX4_replacement_52 (by decide) (by decide) (by decide) (by decide) ?_
        refine lv_aload_n (pc := 245) hx hb dX4_replacement_245 rfl (lv_at hl 3 rfl) ?_
        refine lv_iload (pc := 246) hx hb dX4_replacement_246 (lv_at hl 1 rfl) ?_
        refine vp_callSl (pc := 248) (W.runS (As := [.ref he, .int (nI (p1 + 1))]) (rest := []) ⟨hx, hb, hml, hown, hts⟩ (c_X4_starOfUnionWithStar l D cI cL cZ he ae kd ed cd nn (p1 + 1) tc (by omega)) (va_cwS 2 hts gX4_replacement_X4_starOfUnionWithStar rfl rfl rfl (by decide +kernel) ⟨Nat.le_of_ble_eq_true rfl, Nat.le_of_ble_eq_true rfl⟩) (rP_S (wc := [(he, .inr (2, oE ae nn)), (ae 0, .inl (cI, 18, .inl (nA kd))), (ae 1, .inl (cI, 18, .inl (nA ed))), (ae 2, .inl (cL, 18, .inr (.inl (lA cd))))]) hK hP [0, 1, 2, 3] rfl) rfl rfl hl.1 rfl (lv_room (Nat.le_of_ble_eq_true rfl)) dX4_replacement_248 ⟨Nat.zero_le _, Nat.zero_le _⟩) (fun r hrr => ?_)
        rw [hrr]
        exact W.lret (pc := 251) (v := (lN (mSU (kA kd nn) (kA cd nn) (rA ed nn) (sA kd cd nn) (p1 + 1)))) hx hb hr (fun t ht _ => ⟨_, rfl, (by unfold mR; rw [if_pos ⟨by decide, hkr⟩]; rfl), ht⟩) (fun _ h => absurd h List.not_mem_nil) dX4_replacement_251
      · have hkr : kA kd nn p1 = 8 := c32
        refine lv_tableIn (pc := 52) (tgt := 252) (off := 200) hx hb dX4_replacement_52 (by decide) (by decide) (by decide) (by decide) ?_
        refine lv_aload_n (pc := 252) hx hb dX4_replacement_252 rfl (lv_at hl 3 rfl) ?_
        refine lv_iload (pc := 253) hx hb dX4_replacement_253 (lv_at hl 1 rfl) ?_
        refine vp_callSl (pc := 255) (W.runS (As := [.ref he, .int (nI (p1 + 1))]) (rest := []) ⟨hx, hb, hml, hown, hts⟩ (c_X4_starOfTwoStars l D cI cL cZ he ae kd ed cd nn (p1 + 1) tc (by omega)) (va_cwS 2 hts gX4_replacement_X4_starOfTwoStars rfl rfl rfl (by decide +kernel) ⟨Nat.le_of_ble_eq_true rfl, Nat.le_of_ble_eq_true rfl⟩) (rP_S (wc := [(he, .inr (2, oE ae nn)), (ae 0, .inl (cI, 18, .inl (nA kd))), (ae 1, .inl (cI, 18, .inl (nA ed))), (ae 2, .inl (cL, 18, .inr (.inl (lA cd))))]) hK hP [0, 1, 2, 3] rfl) rfl rfl hl.1 rfl (lv_room (Nat.le_of_ble_eq_true rfl)) dX4_replacement_255 ⟨Nat.zero_le _, Nat.zero_le _⟩) (fun r hrr => ?_)
        rw [hrr]
        exact W.lret (pc := 258) (v := (lN (mTS (kA kd nn) (rA ed nn) (sA kd cd nn) (p1 + 1)))) hx hb hr (fun t ht _ => ⟨_, rfl, (by unfold mR; rw [if_pos ⟨by decide, hkr⟩]; rfl), ht⟩) (fun _ h => absurd h List.not_mem_nil) dX4_replacement_258
      · have hkr : kA kd nn p1 = 6 := c32
        refine lv_tableIn (pc := 52) (tgt := 259) (off := 207) hx hb dX4_replacement_52 (by decide) (by decide) (by decide) (by decide) ?_
        refine lv_aload_n (pc := 259) hx hb dX4_replacement_259 rfl (lv_at hl 3 rfl) ?_
        refine lv_iload (pc := 260) hx hb dX4_replacement_260 (lv_at hl 1 rfl) ?_
        refine lv_iload (pc := 262) hx hb dX4_replacement_262 (lv_at hl 0 rfl) ?_
        refine vp_callSl (pc := 264) (W.runS (As := [.ref he, .int (nI (p1 + 1)), .int (nI (rA ed nn p1))]) (rest := []) ⟨hx, hb, hml, hown, hts⟩ (c_X4_repeatedInInnerUnion l D cI cL cZ he ae kd ed cd nn (p1 + 1) (rA ed nn p1) tc (by omega) (Nat.lt_of_le_of_lt (tc.r _) (by decide))) (va_cwS 3 hts gX4_replacement_X4_repeatedInInnerUnion rfl rfl rfl (by decide +kernel) ⟨Nat.le_of_ble_eq_true rfl, Nat.le_of_ble_eq_true rfl⟩) (rP_S (wc := [(he, .inr (2, oE ae nn)), (ae 0, .inl (cI, 18, .inl (nA kd))), (ae 1, .inl (cI, 18, .inl (nA ed))), (ae 2, .inl (cL, 18, .inr (.inl (lA cd))))]) hK hP [0, 1, 2, 3] rfl) rfl rfl hl.1 rfl (lv_room (Nat.le_of_ble_eq_true rfl)) dX4_replacement_264 ⟨Nat.zero_le _, Nat.zero_le _⟩) (fun r hrr => ?_)
        rw [hrr]
        exact W.lret (pc := 267) (v := (lN (mRI (kA kd nn) (kA cd nn) (rA ed nn) (p1 + 1) (rA ed nn p1)))) hx hb hr (fun t ht _ => ⟨_, rfl, (by unfold mR; rw [if_pos ⟨by decide, hkr⟩]; rfl), ht⟩) (fun _ h => absurd h List.not_mem_nil) dX4_replacement_267
    · refine lv_lconst (pc := 35) (v := (lN (0))) hx hb dX4_replacement_35 (by decide) ?_
      exact W.lret (pc := 36) (v := (lN (0))) hx hb hr (fun t ht _ => ⟨_, rfl, (by simp [mR, c32]), ht⟩) (fun _ h => absurd h List.not_mem_nil) dX4_replacement_36
