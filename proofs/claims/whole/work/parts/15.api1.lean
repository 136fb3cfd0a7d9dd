/-! the class: its methods on expressions, rules and steps -/
set_option maxHeartbeats 4000000 in
set_option maxRecDepth 100000 in
theorem c_X7_stepResult (l : Launch) (D : va_G) (cI cL cZ : ClassId) (tp tr : Nat) (he : Nat) (ae : Nat → Nat) (kd : Nat → Nat) (ed : Nat → Nat) (cd : Nat → Nat) (nn : Nat) (v : Nat) (rl : Int32) (px : Int32) (hv : okVb v = true) (rd : RD v kd ed cd nn) : Met l yX7_stepResult wsX7_stepResult { frames := 4, cells := 0, slots := 0, locals := 102 } (rPS D (tyL cI cL cZ) tp tr [(he, .inr (2, oE ae nn)), (ae 0, .inl (cI, 18, .inl (nA kd))), (ae 1, .inl (cI, 18, .inl (nA ed))), (ae 2, .inl (cL, 18, .inr (.inl (lA cd))))] [.ref he, .int rl, .int px]) (vp_Sl (fun r => r = (sR v rl px))) 0 0 (fun _ => False) := by
  refine Met.ofW (cc := cX7_stepResult) (maxL := 6) (ret := (some .long)) (by decide) rfl ?_
  intro pG eG s mG args below meth cG s₁ B hml hpre9
  obtain ⟨rfl, hP, hK, hZ⟩ := hpre9
  have hx := B.exec
  have hb := B.bytes
  have hr := B.returns
  have hts := atoms_spec (ws := wsX7_stepResult) B.pre
  have hown : s.vm.findClass RX7 = some mG.cls := findClass_of_methodNamed B.named
  have hlocks := B.notSynchronized
  have hS : va_S (fun _ => False) s.heap s.heap [] := va_S.rf
  have lk0 : (Cond.constantLong RX7 165 (-4)).before _ s = true := hts _ (List.mem_cons_of_mem _ (List.mem_append_left _ (List.mem_append_left _ (List.mem_of_getElem? (i := 0) rfl))))
  have hl := lv_entry ([.ref he, .int rl, .int px]) (n := 6) (Nat.le_of_ble_eq_true rfl)
  rw [lg_entry_eq]
  generalize (lg_sl ([.ref he, .int rl, .int px]) ++ List.replicate (6 - (lg_sl ([.ref he, .int rl, .int px])).length) Slot.unset).toArray = ls at hl ⊢
  have hl : lv_has ls 6 [(0, .ref he), (1, .int rl), (2, .int px)] := hl
  have hnv := rd.1
  have h18 := (dc_lt (okVb_iff.mp hv).2.1).2
  refine lv_aload_n (pc := 0) hx hb dX7_stepResult_0 rfl (lv_at hl 0 rfl) ?_
  refine lv_iload_n (pc := 1) hx hb dX7_stepResult_1 rfl (lv_at hl 1 rfl) ?_
  refine lv_iload_n (pc := 2) hx hb dX7_stepResult_2 rfl (lv_at hl 2 rfl) ?_
  refine vp_callSi (pc := 3) (W.runS (As := [.ref he, .int rl, .int px]) (rest := []) ⟨hx, hb, hml, hown, hts⟩ (c_X7_addressError l D cI cL cZ he ae kd ed cd nn rl px (by omega)) (va_cwS 3 hts gX7_stepResult_X7_addressError rfl rfl rfl (by decide +kernel) ⟨Nat.le_of_ble_eq_true rfl, Nat.le_of_ble_eq_true rfl⟩) (rP_S (wc := [(he, .inr (2, oE ae nn)), (ae 0, .inl (cI, 18, .inl (nA kd))), (ae 1, .inl (cI, 18, .inl (nA ed))), (ae 2, .inl (cL, 18, .inr (.inl (lA cd))))]) hK hP [0, 1, 2, 3] rfl) rfl rfl hl.1 rfl (lv_room (Nat.le_of_ble_eq_true rfl)) dX7_stepResult_3 ⟨Nat.zero_le _, Nat.zero_le _⟩) (fun r9 hrr => ?_)
  rw [hrr]
  refine lv_istore_n (pc := 6) (lv' := [(3, .int (aErr nn rl px)), (0, .ref he), (1, .int rl), (2, .int px)]) hx hb dX7_stepResult_6 rfl hl (by decide) rfl (fun ls hl => ?_)
  refine lv_iload_n (pc := 7) hx hb dX7_stepResult_7 rfl (lv_at hl 0 rfl) ?_
  refine lv_if_eq (pc := 8) (tgt := 14) hx hb dX7_stepResult_8 (by decide) (fun c8 => ?_) (fun c8 => ?_)
  · obtain ⟨⟨r, hr16, rfl⟩, ⟨p, hp, rfl⟩⟩ := aErr_0 (by omega) c8
    refine lv_aload_n (pc := 14) hx hb dX7_stepResult_14 rfl (lv_at hl 1 rfl) ?_
    refine lv_iload_n (pc := 15) hx hb dX7_stepResult_15 rfl (lv_at hl 2 rfl) ?_
    refine lv_iload_n (pc := 16) hx hb dX7_stepResult_16 rfl (lv_at hl 3 rfl) ?_
    refine vp_callSl (pc := 17) (W.runS (As := [.ref he, .int (nI r), .int (nI p)]) (rest := []) ⟨hx, hb, hml, hown, hts⟩ (c_X4_replacement l D cI cL cZ tp tr he ae kd ed cd nn r p (TC_RD hv rd) (by omega) (by omega)) (va_cwS 3 hts gX7_stepResult_X4_replacement rfl rfl rfl (by decide +kernel) ⟨Nat.le_of_ble_eq_true rfl, Nat.le_of_ble_eq_true rfl⟩) (rPS_S (wc := [(he, .inr (2, oE ae nn)), (ae 0, .inl (cI, 18, .inl (nA kd))), (ae 1, .inl (cI, 18, .inl (nA ed))), (ae 2, .inl (cL, 18, .inr (.inl (lA cd))))]) hK hP hZ hS [0, 1, 2, 3] rfl) rfl rfl hl.1 rfl (lv_room (Nat.le_of_ble_eq_true rfl)) dX7_stepResult_17 ⟨Nat.zero_le _, Nat.zero_le _⟩) (fun r9 hrr => ?_)
    rw [hrr]
    refine W.eq (g2 := F0 mG 20 ls [.long (lN (gV v r p))]) (congrArg (fun zz => F0 mG 20 ls [.long (lN zz)]) (congrFun (congrFun (mR_RD hv rd) r) p)) ?_
    refine lv_lstore (pc := 20) (lv' := [(4, .long (lN (gV v r p))), (3, .int (aErr nn (nI (r)) (nI (p)))), (0, .ref he), (1, .int (nI r)), (2, .int (nI p))]) hx hb dX7_stepResult_20 hl (by decide) rfl (fun ls hl => ?_)
    refine lv_lload (pc := 22) hx hb dX7_stepResult_22 (lv_at hl 0 rfl) ?_
    refine lv_lconst (pc := 24) (v := (lN (0))) hx hb dX7_stepResult_24 (by decide) ?_
    refine xnl_ne (pc := 25) (tgt := 33) hx hb (Nat.lt_trans (gV_lt hv _ _) pow18) (by omega) dX7_stepResult_25 dX7_stepResult_26 (by decide) (fun c25 => ?_) (fun c25 => ?_)
    · refine lv_aload_n (pc := 33) hx hb dX7_stepResult_33 rfl (lv_at hl 2 rfl) ?_
      refine lv_iload_n (pc := 34) hx hb dX7_stepResult_34 rfl (lv_at hl 4 rfl) ?_
      refine lv_lload (pc := 35) hx hb dX7_stepResult_35 (lv_at hl 0 rfl) ?_
      refine vp_callSl (pc := 37) (W.runV (As := [.int (nI p), .long (lN (gV v r p))]) (rest := []) ⟨hx, hb, hml, hown, hts⟩ (c_X3_withReplaced l D cI cL cZ tp tr he ae kd ed cd nn p (gV v r p) (TC_RD hv rd) (by omega) (Nat.lt_trans (gV_lt hv _ _) pow18)) (cwV 2 hts gX7_stepResult_X3_withReplaced rfl rfl rfl (by decide +kernel) ⟨Nat.le_of_ble_eq_true rfl, Nat.le_of_ble_eq_true rfl⟩) (rPS_V (wc := [(he, .inr (2, oE ae nn)), (ae 0, .inl (cI, 18, .inl (nA kd))), (ae 1, .inl (cI, 18, .inl (nA ed))), (ae 2, .inl (cL, 18, .inr (.inl (lA cd))))]) (ci := 2) (q0 := 0) hK hP hZ hS [0, 1, 2, 3] rfl rfl rfl) rfl rfl hl.1 rfl (lv_room (Nat.le_of_ble_eq_true rfl)) dX7_stepResult_37 ⟨Nat.zero_le _, Nat.zero_le _⟩) (fun r9 hrr => ?_)
      rw [hrr]
      refine W.eq (g2 := F0 mG 40 ls [.long (lN (nx v r p))]) (congrArg (fun zz => F0 mG 40 ls [.long (lN zz)]) (wR_nx hv rd c25)) ?_
      exact W.lret (pc := 40) (v := (lN (nx v r p))) hx hb hr (fun t ht _ => ⟨_, rfl, (by rw [sR_nI hr16 (by omega) h18, if_pos ((gV_oI hv (by omega) (by omega)).mp c25)]), ht⟩) (fun _ h => absurd h List.not_mem_nil) dX7_stepResult_40
    · refine lv_ldc2 (pc := 29) (v := ((-4))) hx hb hown lk0 dX7_stepResult_29 ?_
      exact W.lret (pc := 32) (v := ((-4))) hx hb hr (fun t ht _ => ⟨_, rfl, (by rw [sR_nI hr16 (by omega) h18, if_neg (fun q => (gV_oI hv (by omega) (by omega)).mpr q c25)]), ht⟩) (fun _ h => absurd h List.not_mem_nil) dX7_stepResult_32
  · refine lv_iload_n (pc := 11) hx hb dX7_stepResult_11 rfl (lv_at hl 0 rfl) ?_
    refine lv_i2l (pc := 12) (v := ((aErr nn rl px) : Int32).toInt64) hx hb dX7_stepResult_12 rfl ?_
    exact W.lret (pc := 13) (v := (((aErr nn rl px) : Int32).toInt64)) hx hb hr (fun t ht _ => ⟨_, rfl, (by have e := aErr_sR (v := v) (rl := rl) (ps := px); rw [← hnv] at e; exact e c8), ht⟩) (fun _ h => absurd h List.not_mem_nil) dX7_stepResult_13
set_option maxHeartbeats 4000000 in
set_option maxRecDepth 100000 in
theorem c_X7_size (l : Launch) (D : va_G) (cI cL cZ : ClassId) (tp tr : Nat) (sz : Nat) (hq : Nat) (ar : Nat → Nat) (cur : Nat) (ag : Nat → Nat) (kd : Nat → Nat) (ed : Nat → Nat) (cd : Nat → Nat) (nn : Nat) (x : Int64)  : Met l yX7_size wsX7_size { frames := 2, cells := 0, slots := 0, locals := 51 } (mPS D (tyL cI cL cZ) tp tr [(hq, .inr (5, oR ar cur)), (ar 0, .inr (2, oE ag nn)), (ag 0, .inl (cI, 18, .inl (nA kd))), (ag 1, .inl (cI, 18, .inl (nA ed))), (ag 2, .inl (cL, 18, .inr (.inl (lA cd))))] sz [.ref hq, .long x]) (va_Qi (fun (r : Int32) (u : (Nat → Nat) × (Nat → Nat) × (Nat → Nat) × Nat) => r = (aSize x) ∧ (True)) (fun (u : (Nat → Nat) × (Nat → Nat) × (Nat → Nat) × Nat) (t : State) => mB D (tyL cI cL cZ) (va_A [(hq, .inr (5, oR ar cur)), (ar 0, .inr (2, oE ag nn)), (ag 0, .inl (cI, 18, .inl (nA kd))), (ag 1, .inl (cI, 18, .inl (nA ed))), (ag 2, .inl (cL, 18, .inr (.inl (lA cd))))] sz) [(hq, .inr (5, oR ar cur)), (ar 0, .inr (2, oE ag (u.2.2.2))), (ag 0, .inl (cI, 18, .inl (nA (u.1)))), (ag 1, .inl (cI, 18, .inl (nA (u.2.1)))), (ag 2, .inl (cL, 18, .inr (.inl (lA (u.2.2.1)))))] t) (va_A [(hq, .inr (5, oR ar cur)), (ar 0, .inr (2, oE ag nn)), (ag 0, .inl (cI, 18, .inl (nA kd))), (ag 1, .inl (cI, 18, .inl (nA ed))), (ag 2, .inl (cL, 18, .inr (.inl (lA cd))))] sz)) 0 0 (va_A [(hq, .inr (5, oR ar cur)), (ar 0, .inr (2, oE ag nn)), (ag 0, .inl (cI, 18, .inl (nA kd))), (ag 1, .inl (cI, 18, .inl (nA ed))), (ag 2, .inl (cL, 18, .inr (.inl (lA cd))))] sz) := by
  refine Met.ofW (cc := cX7_size) (maxL := 3) (ret := (some .int)) (by decide) rfl ?_
  intro pG eG s mG args below meth cG s₁ B hml hpre9
  obtain ⟨rfl, hsz, hP, hK, hD0, hZ⟩ := hpre9
  have hx := B.exec
  have hb := B.bytes
  have hr := B.returns
  have hts := atoms_spec (ws := wsX7_size) B.pre
  have hown : s.vm.findClass RX7 = some mG.cls := findClass_of_methodNamed B.named
  have hlocks := B.notSynchronized
  subst hsz
  have hD := hD0.self (sz := s.heap.size)
  have hA : ∀ q : Nat, s.heap.size ≤ q → va_A [(hq, .inr (5, oR ar cur)), (ar 0, .inr (2, oE ag nn)), (ag 0, .inl (cI, 18, .inl (nA kd))), (ag 1, .inl (cI, 18, .inl (nA ed))), (ag 2, .inl (cL, 18, .inr (.inl (lA cd))))] s.heap.size q := fun q h => Or.inr h
  have hS : va_S (va_A [(hq, .inr (5, oR ar cur)), (ar 0, .inr (2, oE ag nn)), (ag 0, .inl (cI, 18, .inl (nA kd))), (ag 1, .inl (cI, 18, .inl (nA ed))), (ag 2, .inl (cL, 18, .inr (.inl (lA cd))))] s.heap.size) s.heap s.heap [] := va_S.rf
  have hinX7 : ∀ w ∈ wsX70, w ∈ wsX7_size := fun w HH => (List.mem_cons_of_mem _ (List.mem_append_left _ (List.mem_append_right _ HH)))
  have lk0 : (Cond.fieldLink RX7 12 "RegexSimplifier" "given" "LRegexSimplifier$Expression;").before _ s = true := hts _ (List.mem_cons_of_mem _ (List.mem_append_left _ (List.mem_append_left _ (List.mem_append_left _ (List.mem_of_getElem? (i := 0) rfl)))))
  have hl := lv_entry ([.ref hq, .long x]) (n := 3) (Nat.le_of_ble_eq_true rfl)
  rw [lg_entry_eq]
  generalize (lg_sl ([.ref hq, .long x]) ++ List.replicate (3 - (lg_sl ([.ref hq, .long x])).length) Slot.unset).toArray = ls at hl ⊢
  have hl : lv_has ls 3 [(0, .ref hq), (1, .long x)] := hl
  refine lv_aload_n (pc := 0) hx hb dX7_size_0 rfl (lv_at hl 0 rfl) ?_
  refine va_get (pc := 1) (D := D) (ci := 5) (v := .ref (ar 0)) (C := RX7) (T := TX7) (N := 7) hx hb hts hinX7 hown hK hP 0 rfl rfl 0 (by decide) lk0 (fun _ h9 => h9) rfl dX7_size_1 ?_
  refine lv_lload_n (pc := 4) hx hb dX7_size_4 rfl (lv_at hl 1 rfl) ?_
  refine xm_calli (pc := 5) (wc := [(ar 0, .inr (2, oE ag nn)), (ag 0, .inl (cI, 18, .inl (nA kd))), (ag 1, .inl (cI, 18, .inl (nA ed))), (ag 2, .inl (cL, 18, .inr (.inl (lA cd))))]) (wr := [(hq, .inr (5, oR ar cur))]) (va_runV (As := [.long x]) (rest := []) ⟨hx, hb, hml, hown, hts⟩ (c_X3_read l D cI cL cZ tp tr s.heap.size (ar 0) ag kd ed cd nn x) (cwV 1 hts gX7_size_X3_read rfl rfl rfl (by decide +kernel) ⟨Nat.le_of_ble_eq_true rfl, Nat.le_of_ble_eq_true rfl⟩) (mPS_V (wc := [(ar 0, .inr (2, oE ag nn)), (ag 0, .inl (cI, 18, .inl (nA kd))), (ag 1, .inl (cI, 18, .inl (nA ed))), (ag 2, .inl (cL, 18, .inr (.inl (lA cd))))]) (ci := 2) (q0 := 0) hK hP hD hZ hS hA [1, 2, 3, 4] (by decide) rfl rfl rfl) rfl rfl hl.1 rfl (lv_room (Nat.le_of_ble_eq_true rfl)) dX7_size_5 ⟨Nat.zero_le _, Nat.zero_le _⟩) hP hD hS hA [1, 2, 3, 4] [0] rfl rfl (by decide) (by decide) (fun r9 u H locs hw hP hD hS => ?_)
  obtain ⟨kd2_5, ed2_5, cd2_5, nn2_5⟩ := u
  have hP : va_P D vwCl [(hq, .inr (5, oR ar cur)), (ar 0, .inr (2, oE ag nn2_5)), (ag 0, .inl (cI, 18, .inl (nA kd2_5))), (ag 1, .inl (cI, 18, .inl (nA ed2_5))), (ag 2, .inl (cL, 18, .inr (.inl (lA cd2_5))))] H := hP
  have hD : va_D _ [(hq, .inr (5, oR ar cur)), (ar 0, .inr (2, oE ag nn2_5)), (ag 0, .inl (cI, 18, .inl (nA kd2_5))), (ag 1, .inl (cI, 18, .inl (nA ed2_5))), (ag 2, .inl (cL, 18, .inr (.inl (lA cd2_5))))] := hD
  try dsimp only at hw
  obtain ⟨hrr, ⟨hrd, hnrd⟩⟩ := hw
  rw [hrr]
  refine xp_if_eq (pc := 8) (tgt := 21) hx hb dX7_size_8 (by decide) (fun c8 => ?_) (fun c8 => ?_)
  · refine lv_iconst (pc := 21) (v := ((-1))) hx hb dX7_size_21 (by decide) ?_
    have hP9 : va_P D vwCl [(hq, .inr (5, oR ar cur)), (ar 0, .inr (2, oE ag nn2_5)), (ag 0, .inl (cI, 18, .inl (nA kd2_5))), (ag 1, .inl (cI, 18, .inl (nA ed2_5))), (ag 2, .inl (cL, 18, .inr (.inl (lA cd2_5))))] H := hP.sub [0, 1, 2, 3, 4] rfl
    have hD9 : va_D _ [(hq, .inr (5, oR ar cur)), (ar 0, .inr (2, oE ag nn2_5)), (ag 0, .inl (cI, 18, .inl (nA kd2_5))), (ag 1, .inl (cI, 18, .inl (nA ed2_5))), (ag 2, .inl (cL, 18, .inr (.inl (lA cd2_5))))] := hD.sub [0, 1, 2, 3, 4] (by decide) rfl
    exact W.iret (pc := 22) (v := ((-1))) hx hb hr (fun t ht hW => ⟨⟨_, (kd2_5, ed2_5, cd2_5, nn2_5), rfl, ⟨(if_neg c8).symm, trivial⟩, by rw [ht]; exact hP9, va_K.moved hW.alike hK, hD9⟩, hS.F ht⟩) hS.2.2 dX7_size_22
  · refine lv_aload_n (pc := 11) hx hb dX7_size_11 rfl (lv_at hl 0 rfl) ?_
    refine va_get (pc := 12) (D := D) (ci := 5) (v := .ref (ar 0)) (C := RX7) (T := TX7) (N := 7) hx hb hts hinX7 hown hK hP 0 rfl rfl 0 (by decide) lk0 (fun _ h9 => h9) rfl dX7_size_12 ?_
    refine vp_callSi (pc := 15) (W.runV (As := []) (rest := []) ⟨hx, hb, hml, hown, hts⟩ (c_X3_nodeCount l D cI cL cZ (ar 0) ag kd2_5 ed2_5 cd2_5 nn2_5) (cwV 0 hts gX7_size_X3_nodeCount rfl rfl rfl (by decide +kernel) ⟨Nat.le_of_ble_eq_true rfl, Nat.le_of_ble_eq_true rfl⟩) (rP_V (wc := [(ar 0, .inr (2, oE ag nn2_5)), (ag 0, .inl (cI, 18, .inl (nA kd2_5))), (ag 1, .inl (cI, 18, .inl (nA ed2_5))), (ag 2, .inl (cL, 18, .inr (.inl (lA cd2_5))))]) (ci := 2) (q0 := 0) hK hP [1, 2, 3, 4] rfl rfl rfl) rfl rfl hl.1 rfl (lv_room (Nat.le_of_ble_eq_true rfl)) dX7_size_15 ⟨Nat.zero_le _, Nat.zero_le _⟩) (fun r9 hrr => ?_)
    rw [hrr]
    refine lv_goto (pc := 18) (tgt := 22) hx hb dX7_size_18 (by decide) ?_
    have hP9 : va_P D vwCl [(hq, .inr (5, oR ar cur)), (ar 0, .inr (2, oE ag nn2_5)), (ag 0, .inl (cI, 18, .inl (nA kd2_5))), (ag 1, .inl (cI, 18, .inl (nA ed2_5))), (ag 2, .inl (cL, 18, .inr (.inl (lA cd2_5))))] H := hP.sub [0, 1, 2, 3, 4] rfl
    have hD9 : va_D _ [(hq, .inr (5, oR ar cur)), (ar 0, .inr (2, oE ag nn2_5)), (ag 0, .inl (cI, 18, .inl (nA kd2_5))), (ag 1, .inl (cI, 18, .inl (nA ed2_5))), (ag 2, .inl (cL, 18, .inr (.inl (lA cd2_5))))] := hD.sub [0, 1, 2, 3, 4] (by decide) rfl
    exact W.iret (pc := 22) (v := (nI (nn2_5))) hx hb hr (fun t ht hW => ⟨⟨_, (kd2_5, ed2_5, cd2_5, nn2_5), rfl, ⟨(by unfold aSize; rw [if_pos c8, (hrd c8).1]), trivial⟩, by rw [ht]; exact hP9, va_K.moved hW.alike hK, hD9⟩, hS.F ht⟩) hS.2.2 dX7_size_22
set_option maxHeartbeats 4000000 in
set_option maxRecDepth 100000 in
theorem c_X7_isApplicable (l : Launch) (D : va_G) (cI cL cZ : ClassId) (tp tr : Nat) (sz : Nat) (hq : Nat) (ar : Nat → Nat) (cur : Nat) (ag : Nat → Nat) (kd : Nat → Nat) (ed : Nat → Nat) (cd : Nat → Nat) (nn : Nat) (x : Int64) (rl : Int32) (px : Int32)  : Met l yX7_isApplicable wsX7_isApplicable { frames := 5, cells := 0, slots := 0, locals := 124 } (mPS D (tyL cI cL cZ) tp tr [(hq, .inr (5, oR ar cur)), (ar 0, .inr (2, oE ag nn)), (ag 0, .inl (cI, 18, .inl (nA kd))), (ag 1, .inl (cI, 18, .inl (nA ed))), (ag 2, .inl (cL, 18, .inr (.inl (lA cd))))] sz [.ref hq, .long x, .int rl, .int px]) (va_Qi (fun (r : Int32) (u : (Nat → Nat) × (Nat → Nat) × (Nat → Nat) × Nat) => r = (aIs x rl px) ∧ (True)) (fun (u : (Nat → Nat) × (Nat → Nat) × (Nat → Nat) × Nat) (t : State) => mB D (tyL cI cL cZ) (va_A [(hq, .inr (5, oR ar cur)), (ar 0, .inr (2, oE ag nn)), (ag 0, .inl (cI, 18, .inl (nA kd))), (ag 1, .inl (cI, 18, .inl (nA ed))), (ag 2, .inl (cL, 18, .inr (.inl (lA cd))))] sz) [(hq, .inr (5, oR ar cur)), (ar 0, .inr (2, oE ag (u.2.2.2))), (ag 0, .inl (cI, 18, .inl (nA (u.1)))), (ag 1, .inl (cI, 18, .inl (nA (u.2.1)))), (ag 2, .inl (cL, 18, .inr (.inl (lA (u.2.2.1)))))] t) (va_A [(hq, .inr (5, oR ar cur)), (ar 0, .inr (2, oE ag nn)), (ag 0, .inl (cI, 18, .inl (nA kd))), (ag 1, .inl (cI, 18, .inl (nA ed))), (ag 2, .inl (cL, 18, .inr (.inl (lA cd))))] sz)) 0 0 (va_A [(hq, .inr (5, oR ar cur)), (ar 0, .inr (2, oE ag nn)), (ag 0, .inl (cI, 18, .inl (nA kd))), (ag 1, .inl (cI, 18, .inl (nA ed))), (ag 2, .inl (cL, 18, .inr (.inl (lA cd))))] sz) := by
  refine Met.ofW (cc := cX7_isApplicable) (maxL := 6) (ret := (some .int)) (by decide) rfl ?_
  intro pG eG s mG args below meth cG s₁ B hml hpre9
  obtain ⟨rfl, hsz, hP, hK, hD0, hZ⟩ := hpre9
  have hx := B.exec
  have hb := B.bytes
  have hr := B.returns
  have hts := atoms_spec (ws := wsX7_isApplicable) B.pre
  have hown : s.vm.findClass RX7 = some mG.cls := findClass_of_methodNamed B.named
  have hlocks := B.notSynchronized
  subst hsz
  have hD := hD0.self (sz := s.heap.size)
  have hA : ∀ q : Nat, s.heap.size ≤ q → va_A [(hq, .inr (5, oR ar cur)), (ar 0, .inr (2, oE ag nn)), (ag 0, .inl (cI, 18, .inl (nA kd))), (ag 1, .inl (cI, 18, .inl (nA ed))), (ag 2, .inl (cL, 18, .inr (.inl (lA cd))))] s.heap.size q := fun q h => Or.inr h
  have hS : va_S (va_A [(hq, .inr (5, oR ar cur)), (ar 0, .inr (2, oE ag nn)), (ag 0, .inl (cI, 18, .inl (nA kd))), (ag 1, .inl (cI, 18, .inl (nA ed))), (ag 2, .inl (cL, 18, .inr (.inl (lA cd))))] s.heap.size) s.heap s.heap [] := va_S.rf
  have hinX7 : ∀ w ∈ wsX70, w ∈ wsX7_isApplicable := fun w HH => (List.mem_cons_of_mem _ (List.mem_append_left _ (List.mem_append_right _ HH)))
  have lk0 : (Cond.fieldLink RX7 12 "RegexSimplifier" "given" "LRegexSimplifier$Expression;").before _ s = true := hts _ (List.mem_cons_of_mem _ (List.mem_append_left _ (List.mem_append_left _ (List.mem_append_left _ (List.mem_of_getElem? (i := 0) rfl)))))
  have hl := lv_entry ([.ref hq, .long x, .int rl, .int px]) (n := 6) (Nat.le_of_ble_eq_true rfl)
  rw [lg_entry_eq]
  generalize (lg_sl ([.ref hq, .long x, .int rl, .int px]) ++ List.replicate (6 - (lg_sl ([.ref hq, .long x, .int rl, .int px])).length) Slot.unset).toArray = ls at hl ⊢
  have hl : lv_has ls 6 [(0, .ref hq), (1, .long x), (3, .int rl), (4, .int px)] := hl
  refine lv_aload_n (pc := 0) hx hb dX7_isApplicable_0 rfl (lv_at hl 0 rfl) ?_
  refine va_get (pc := 1) (D := D) (ci := 5) (v := .ref (ar 0)) (C := RX7) (T := TX7) (N := 7) hx hb hts hinX7 hown hK hP 0 rfl rfl 0 (by decide) lk0 (fun _ h9 => h9) rfl dX7_isApplicable_1 ?_
  refine lv_lload_n (pc := 4) hx hb dX7_isApplicable_4 rfl (lv_at hl 1 rfl) ?_
  refine xm_calli (pc := 5) (wc := [(ar 0, .inr (2, oE ag nn)), (ag 0, .inl (cI, 18, .inl (nA kd))), (ag 1, .inl (cI, 18, .inl (nA ed))), (ag 2, .inl (cL, 18, .inr (.inl (lA cd))))]) (wr := [(hq, .inr (5, oR ar cur))]) (va_runV (As := [.long x]) (rest := []) ⟨hx, hb, hml, hown, hts⟩ (c_X3_read l D cI cL cZ tp tr s.heap.size (ar 0) ag kd ed cd nn x) (cwV 1 hts gX7_isApplicable_X3_read rfl rfl rfl (by decide +kernel) ⟨Nat.le_of_ble_eq_true rfl, Nat.le_of_ble_eq_true rfl⟩) (mPS_V (wc := [(ar 0, .inr (2, oE ag nn)), (ag 0, .inl (cI, 18, .inl (nA kd))), (ag 1, .inl (cI, 18, .inl (nA ed))), (ag 2, .inl (cL, 18, .inr (.inl (lA cd))))]) (ci := 2) (q0 := 0) hK hP hD hZ hS hA [1, 2, 3, 4] (by decide) rfl rfl rfl) rfl rfl hl.1 rfl (lv_room (Nat.le_of_ble_eq_true rfl)) dX7_isApplicable_5 ⟨Nat.zero_le _, Nat.zero_le _⟩) hP hD hS hA [1, 2, 3, 4] [0] rfl rfl (by decide) (by decide) (fun r9 u H locs hw hP hD hS => ?_)
  obtain ⟨kd2_5, ed2_5, cd2_5, nn2_5⟩ := u
  have hP : va_P D vwCl [(hq, .inr (5, oR ar cur)), (ar 0, .inr (2, oE ag nn2_5)), (ag 0, .inl (cI, 18, .inl (nA kd2_5))), (ag 1, .inl (cI, 18, .inl (nA ed2_5))), (ag 2, .inl (cL, 18, .inr (.inl (lA cd2_5))))] H := hP
  have hD : va_D _ [(hq, .inr (5, oR ar cur)), (ar 0, .inr (2, oE ag nn2_5)), (ag 0, .inl (cI, 18, .inl (nA kd2_5))), (ag 1, .inl (cI, 18, .inl (nA ed2_5))), (ag 2, .inl (cL, 18, .inr (.inl (lA cd2_5))))] := hD
  try dsimp only at hw
  obtain ⟨hrr, ⟨hrd, hnrd⟩⟩ := hw
  rw [hrr]
  refine xp_if_ne (pc := 8) (tgt := 13) hx hb dX7_isApplicable_8 (by decide) (fun c8 => ?_) (fun c8 => ?_)
  · refine lv_aload_n (pc := 13) hx hb dX7_isApplicable_13 rfl (lv_at hl 0 rfl) ?_
    refine va_get (pc := 14) (D := D) (ci := 5) (v := .ref (ar 0)) (C := RX7) (T := TX7) (N := 7) hx hb hts hinX7 hown hK hP 0 rfl rfl 0 (by decide) lk0 (fun _ h9 => h9) rfl dX7_isApplicable_14 ?_
    refine lv_iload_n (pc := 17) hx hb dX7_isApplicable_17 rfl (lv_at hl 2 rfl) ?_
    refine lv_iload (pc := 18) hx hb dX7_isApplicable_18 (lv_at hl 3 rfl) ?_
    refine vp_callSi (pc := 20) (W.runS (As := [.ref (ar 0), .int rl, .int px]) (rest := []) ⟨hx, hb, hml, hown, hts⟩ (c_X7_addressError l D cI cL cZ (ar 0) ag kd2_5 ed2_5 cd2_5 nn2_5 rl px (by rw [(hrd c8).1]; exact (dc_lt (okVb_iff.mp c8).2.1).2)) (va_cwS 3 hts gX7_isApplicable_X7_addressError rfl rfl rfl (by decide +kernel) ⟨Nat.le_of_ble_eq_true rfl, Nat.le_of_ble_eq_true rfl⟩) (rP_S (wc := [(ar 0, .inr (2, oE ag nn2_5)), (ag 0, .inl (cI, 18, .inl (nA kd2_5))), (ag 1, .inl (cI, 18, .inl (nA ed2_5))), (ag 2, .inl (cL, 18, .inr (.inl (lA cd2_5))))]) hK hP [1, 2, 3, 4] rfl) rfl rfl hl.1 rfl (lv_room (Nat.le_of_ble_eq_true rfl)) dX7_isApplicable_20 ⟨Nat.zero_le _, Nat.zero_le _⟩) (fun r9 hrr => ?_)
    rw [hrr]
    refine lv_istore (pc := 23) (lv' := [(5, .int (aErr nn2_5 rl px)), (0, .ref hq), (1, .long x), (3, .int rl), (4, .int px)]) hx hb dX7_isApplicable_23 hl (by decide) rfl (fun ls hl => ?_)
    refine lv_iload (pc := 25) hx hb dX7_isApplicable_25 (lv_at hl 0 rfl) ?_
    refine lv_if_eq (pc := 27) (tgt := 33) hx hb dX7_isApplicable_27 (by decide) (fun c27 => ?_) (fun c27 => ?_)
    · obtain ⟨⟨r, hr16, rfl⟩, ⟨p, hp, rfl⟩⟩ := aErr_0 (by rw [(hrd c8).1]; exact (dc_lt (okVb_iff.mp c8).2.1).2) c27
      have hnv := (hrd c8).1
      have h18 := (dc_lt (okVb_iff.mp c8).2.1).2
      have e43 := mR_RD c8 (hrd c8)
      refine lv_aload_n (pc := 33) hx hb dX7_isApplicable_33 rfl (lv_at hl 1 rfl) ?_
      refine va_get (pc := 34) (D := D) (ci := 5) (v := .ref (ar 0)) (C := RX7) (T := TX7) (N := 7) hx hb hts hinX7 hown hK hP 0 rfl rfl 0 (by decide) lk0 (fun _ h9 => h9) rfl dX7_isApplicable_34 ?_
      refine lv_iload_n (pc := 37) hx hb dX7_isApplicable_37 rfl (lv_at hl 3 rfl) ?_
      refine lv_iload (pc := 38) hx hb dX7_isApplicable_38 (lv_at hl 4 rfl) ?_
      refine vp_callSi (pc := 40) (W.runS (As := [.ref (ar 0), .int (nI r), .int (nI p)]) (rest := []) ⟨hx, hb, hml, hown, hts⟩ (c_X4_fits l D cI cL cZ tp tr (ar 0) ag kd2_5 ed2_5 cd2_5 nn2_5 r p (TC_RD c8 (hrd c8)) (by omega) (by omega) (fun r p => by rw [mR_RD c8 (hrd c8)]; exact Nat.lt_trans (gV_lt c8 r p) pow18)) (va_cwS 3 hts gX7_isApplicable_X4_fits rfl rfl rfl (by decide +kernel) ⟨Nat.le_of_ble_eq_true rfl, Nat.le_of_ble_eq_true rfl⟩) (rPS_S (wc := [(ar 0, .inr (2, oE ag nn2_5)), (ag 0, .inl (cI, 18, .inl (nA kd2_5))), (ag 1, .inl (cI, 18, .inl (nA ed2_5))), (ag 2, .inl (cL, 18, .inr (.inl (lA cd2_5))))]) hK hP hZ hS [1, 2, 3, 4] rfl) rfl rfl hl.1 rfl (lv_room (Nat.le_of_ble_eq_true rfl)) dX7_isApplicable_40 ⟨Nat.zero_le _, Nat.zero_le _⟩) (fun r9 hrr => ?_)
      rw [hrr]
      refine xp_if_eq (pc := 43) (tgt := 50) hx hb dX7_isApplicable_43 (by decide) (fun c43 => ?_) (fun c43 => ?_)
      · refine lv_iconst (pc := 50) (v := (nI (0))) hx hb dX7_isApplicable_50 (by decide) ?_
        have hP9 : va_P D vwCl [(hq, .inr (5, oR ar cur)), (ar 0, .inr (2, oE ag nn2_5)), (ag 0, .inl (cI, 18, .inl (nA kd2_5))), (ag 1, .inl (cI, 18, .inl (nA ed2_5))), (ag 2, .inl (cL, 18, .inr (.inl (lA cd2_5))))] H := hP.sub [0, 1, 2, 3, 4] rfl
        have hD9 : va_D _ [(hq, .inr (5, oR ar cur)), (ar 0, .inr (2, oE ag nn2_5)), (ag 0, .inl (cI, 18, .inl (nA kd2_5))), (ag 1, .inl (cI, 18, .inl (nA ed2_5))), (ag 2, .inl (cL, 18, .inr (.inl (lA cd2_5))))] := hD.sub [0, 1, 2, 3, 4] (by decide) rfl
        exact W.iret (pc := 51) (v := (nI (0))) hx hb hr (fun t ht hW => ⟨⟨_, (kd2_5, ed2_5, cd2_5, nn2_5), rfl, ⟨(by rw [e43] at c43; rw [aIs_nI c8 hr16 (by omega) h18, pN_f c43]), trivial⟩, by rw [ht]; exact hP9, va_K.moved hW.alike hK, hD9⟩, hS.F ht⟩) hS.2.2 dX7_isApplicable_51
      · refine lv_iconst (pc := 46) (v := (nI (1))) hx hb dX7_isApplicable_46 (by decide) ?_
        refine lv_goto (pc := 47) (tgt := 51) hx hb dX7_isApplicable_47 (by decide) ?_
        have hP9 : va_P D vwCl [(hq, .inr (5, oR ar cur)), (ar 0, .inr (2, oE ag nn2_5)), (ag 0, .inl (cI, 18, .inl (nA kd2_5))), (ag 1, .inl (cI, 18, .inl (nA ed2_5))), (ag 2, .inl (cL, 18, .inr (.inl (lA cd2_5))))] H := hP.sub [0, 1, 2, 3, 4] rfl
        have hD9 : va_D _ [(hq, .inr (5, oR ar cur)), (ar 0, .inr (2, oE ag nn2_5)), (ag 0, .inl (cI, 18, .inl (nA kd2_5))), (ag 1, .inl (cI, 18, .inl (nA ed2_5))), (ag 2, .inl (cL, 18, .inr (.inl (lA cd2_5))))] := hD.sub [0, 1, 2, 3, 4] (by decide) rfl
        exact W.iret (pc := 51) (v := (nI (1))) hx hb hr (fun t ht hW => ⟨⟨_, (kd2_5, ed2_5, cd2_5, nn2_5), rfl, ⟨(by rw [e43] at c43; rw [aIs_nI c8 hr16 (by omega) h18, pN_t c43]), trivial⟩, by rw [ht]; exact hP9, va_K.moved hW.alike hK, hD9⟩, hS.F ht⟩) hS.2.2 dX7_isApplicable_51
    · refine lv_iload (pc := 30) hx hb dX7_isApplicable_30 (lv_at hl 0 rfl) ?_
      have hP9 : va_P D vwCl [(hq, .inr (5, oR ar cur)), (ar 0, .inr (2, oE ag nn2_5)), (ag 0, .inl (cI, 18, .inl (nA kd2_5))), (ag 1, .inl (cI, 18, .inl (nA ed2_5))), (ag 2, .inl (cL, 18, .inr (.inl (lA cd2_5))))] H := hP.sub [0, 1, 2, 3, 4] rfl
      have hD9 : va_D _ [(hq, .inr (5, oR ar cur)), (ar 0, .inr (2, oE ag nn2_5)), (ag 0, .inl (cI, 18, .inl (nA kd2_5))), (ag 1, .inl (cI, 18, .inl (nA ed2_5))), (ag 2, .inl (cL, 18, .inr (.inl (lA cd2_5))))] := hD.sub [0, 1, 2, 3, 4] (by decide) rfl
      exact W.iret (pc := 32) (v := (aErr nn2_5 rl px)) hx hb hr (fun t ht hW => ⟨⟨_, (kd2_5, ed2_5, cd2_5, nn2_5), rfl, ⟨(by have e := aIs_err (rl := rl) (ps := px) c8; rw [← (hrd c8).1] at e; exact e c27), trivial⟩, by rw [ht]; exact hP9, va_K.moved hW.alike hK, hD9⟩, hS.F ht⟩) hS.2.2 dX7_isApplicable_32
  · refine lv_iconst (pc := 11) (v := ((-1))) hx hb dX7_isApplicable_11 (by decide) ?_
    have hP9 : va_P D vwCl [(hq, .inr (5, oR ar cur)), (ar 0, .inr (2, oE ag nn2_5)), (ag 0, .inl (cI, 18, .inl (nA kd2_5))), (ag 1, .inl (cI, 18, .inl (nA ed2_5))), (ag 2, .inl (cL, 18, .inr (.inl (lA cd2_5))))] H := hP.sub [0, 1, 2, 3, 4] rfl
    have hD9 : va_D _ [(hq, .inr (5, oR ar cur)), (ar 0, .inr (2, oE ag nn2_5)), (ag 0, .inl (cI, 18, .inl (nA kd2_5))), (ag 1, .inl (cI, 18, .inl (nA ed2_5))), (ag 2, .inl (cL, 18, .inr (.inl (lA cd2_5))))] := hD.sub [0, 1, 2, 3, 4] (by decide) rfl
    exact W.iret (pc := 12) (v := ((-1))) hx hb hr (fun t ht hW => ⟨⟨_, (kd2_5, ed2_5, cd2_5, nn2_5), rfl, ⟨(if_neg c8).symm, trivial⟩, by rw [ht]; exact hP9, va_K.moved hW.alike hK, hD9⟩, hS.F ht⟩) hS.2.2 dX7_isApplicable_12
set_option maxHeartbeats 4000000 in
set_option maxRecDepth 100000 in
theorem c_X7_rewrite (l : Launch) (D : va_G) (cI cL cZ : ClassId) (tp tr : Nat) (sz : Nat) (hq : Nat) (ar : Nat → Nat) (cur : Nat) (ag : Nat → Nat) (kd : Nat → Nat) (ed : Nat → Nat) (cd : Nat → Nat) (nn : Nat) (x : Int64) (rl : Int32) (px : Int32)  : Met l yX7_rewrite wsX7_rewrite { frames := 5, cells := 0, slots := 0, locals := 127 } (mPS D (tyL cI cL cZ) tp tr [(hq, .inr (5, oR ar cur)), (ar 0, .inr (2, oE ag nn)), (ag 0, .inl (cI, 18, .inl (nA kd))), (ag 1, .inl (cI, 18, .inl (nA ed))), (ag 2, .inl (cL, 18, .inr (.inl (lA cd))))] sz [.ref hq, .long x, .int rl, .int px]) (va_Ql (fun (r : Int64) (u : (Nat → Nat) × (Nat → Nat) × (Nat → Nat) × Nat) => r = (aRw x rl px) ∧ (True)) (fun (u : (Nat → Nat) × (Nat → Nat) × (Nat → Nat) × Nat) (t : State) => mB D (tyL cI cL cZ) (va_A [(hq, .inr (5, oR ar cur)), (ar 0, .inr (2, oE ag nn)), (ag 0, .inl (cI, 18, .inl (nA kd))), (ag 1, .inl (cI, 18, .inl (nA ed))), (ag 2, .inl (cL, 18, .inr (.inl (lA cd))))] sz) [(hq, .inr (5, oR ar cur)), (ar 0, .inr (2, oE ag (u.2.2.2))), (ag 0, .inl (cI, 18, .inl (nA (u.1)))), (ag 1, .inl (cI, 18, .inl (nA (u.2.1)))), (ag 2, .inl (cL, 18, .inr (.inl (lA (u.2.2.1)))))] t) (va_A [(hq, .inr (5, oR ar cur)), (ar 0, .inr (2, oE ag nn)), (ag 0, .inl (cI, 18, .inl (nA kd))), (ag 1, .inl (cI, 18, .inl (nA ed))), (ag 2, .inl (cL, 18, .inr (.inl (lA cd))))] sz)) 0 0 (va_A [(hq, .inr (5, oR ar cur)), (ar 0, .inr (2, oE ag nn)), (ag 0, .inl (cI, 18, .inl (nA kd))), (ag 1, .inl (cI, 18, .inl (nA ed))), (ag 2, .inl (cL, 18, .inr (.inl (lA cd))))] sz) := by
  refine Met.ofW (cc := cX7_rewrite) (maxL := 5) (ret := (some .long)) (by decide) rfl ?_
  intro pG eG s mG args below meth cG s₁ B hml hpre9
  obtain ⟨rfl, hsz, hP, hK, hD0, hZ⟩ := hpre9
  have hx := B.exec
  have hb := B.bytes
  have hr := B.returns
  have hts := atoms_spec (ws := wsX7_rewrite) B.pre
  have hown : s.vm.findClass RX7 = some mG.cls := findClass_of_methodNamed B.named
  have hlocks := B.notSynchronized
  subst hsz
  have hD := hD0.self (sz := s.heap.size)
  have hA : ∀ q : Nat, s.heap.size ≤ q → va_A [(hq, .inr (5, oR ar cur)), (ar 0, .inr (2, oE ag nn)), (ag 0, .inl (cI, 18, .inl (nA kd))), (ag 1, .inl (cI, 18, .inl (nA ed))), (ag 2, .inl (cL, 18, .inr (.inl (lA cd))))] s.heap.size q := fun q h => Or.inr h
  have hS : va_S (va_A [(hq, .inr (5, oR ar cur)), (ar 0, .inr (2, oE ag nn)), (ag 0, .inl (cI, 18, .inl (nA kd))), (ag 1, .inl (cI, 18, .inl (nA ed))), (ag 2, .inl (cL, 18, .inr (.inl (lA cd))))] s.heap.size) s.heap s.heap [] := va_S.rf
  have hinX7 : ∀ w ∈ wsX70, w ∈ wsX7_rewrite := fun w HH => (List.mem_cons_of_mem _ (List.mem_append_left _ (List.mem_append_right _ HH)))
  have lk0 : (Cond.fieldLink RX7 12 "RegexSimplifier" "given" "LRegexSimplifier$Expression;").before _ s = true := hts _ (List.mem_cons_of_mem _ (List.mem_append_left _ (List.mem_append_left _ (List.mem_append_left _ (List.mem_of_getElem? (i := 0) rfl)))))
  have lk1 : (Cond.constantLong RX7 102 (-1)).before _ s = true := hts _ (List.mem_cons_of_mem _ (List.mem_append_left _ (List.mem_append_left _ (List.mem_append_left _ (List.mem_of_getElem? (i := 1) rfl)))))
  have hl := lv_entry ([.ref hq, .long x, .int rl, .int px]) (n := 5) (Nat.le_of_ble_eq_true rfl)
  rw [lg_entry_eq]
  generalize (lg_sl ([.ref hq, .long x, .int rl, .int px]) ++ List.replicate (5 - (lg_sl ([.ref hq, .long x, .int rl, .int px])).length) Slot.unset).toArray = ls at hl ⊢
  have hl : lv_has ls 5 [(0, .ref hq), (1, .long x), (3, .int rl), (4, .int px)] := hl
  refine lv_aload_n (pc := 0) hx hb dX7_rewrite_0 rfl (lv_at hl 0 rfl) ?_
  refine va_get (pc := 1) (D := D) (ci := 5) (v := .ref (ar 0)) (C := RX7) (T := TX7) (N := 7) hx hb hts hinX7 hown hK hP 0 rfl rfl 0 (by decide) lk0 (fun _ h9 => h9) rfl dX7_rewrite_1 ?_
  refine lv_lload_n (pc := 4) hx hb dX7_rewrite_4 rfl (lv_at hl 1 rfl) ?_
  refine xm_calli (pc := 5) (wc := [(ar 0, .inr (2, oE ag nn)), (ag 0, .inl (cI, 18, .inl (nA kd))), (ag 1, .inl (cI, 18, .inl (nA ed))), (ag 2, .inl (cL, 18, .inr (.inl (lA cd))))]) (wr := [(hq, .inr (5, oR ar cur))]) (va_runV (As := [.long x]) (rest := []) ⟨hx, hb, hml, hown, hts⟩ (c_X3_read l D cI cL cZ tp tr s.heap.size (ar 0) ag kd ed cd nn x) (cwV 1 hts gX7_rewrite_X3_read rfl rfl rfl (by decide +kernel) ⟨Nat.le_of_ble_eq_true rfl, Nat.le_of_ble_eq_true rfl⟩) (mPS_V (wc := [(ar 0, .inr (2, oE ag nn)), (ag 0, .inl (cI, 18, .inl (nA kd))), (ag 1, .inl (cI, 18, .inl (nA ed))), (ag 2, .inl (cL, 18, .inr (.inl (lA cd))))]) (ci := 2) (q0 := 0) hK hP hD hZ hS hA [1, 2, 3, 4] (by decide) rfl rfl rfl) rfl rfl hl.1 rfl (lv_room (Nat.le_of_ble_eq_true rfl)) dX7_rewrite_5 ⟨Nat.zero_le _, Nat.zero_le _⟩) hP hD hS hA [1, 2, 3, 4] [0] rfl rfl (by decide) (by decide) (fun r9 u H locs hw hP hD hS => ?_)
  obtain ⟨kd2_5, ed2_5, cd2_5, nn2_5⟩ := u
  have hP : va_P D vwCl [(hq, .inr (5, oR ar cur)), (ar 0, .inr (2, oE ag nn2_5)), (ag 0, .inl (cI, 18, .inl (nA kd2_5))), (ag 1, .inl (cI, 18, .inl (nA ed2_5))), (ag 2, .inl (cL, 18, .inr (.inl (lA cd2_5))))] H := hP
  have hD : va_D _ [(hq, .inr (5, oR ar cur)), (ar 0, .inr (2, oE ag nn2_5)), (ag 0, .inl (cI, 18, .inl (nA kd2_5))), (ag 1, .inl (cI, 18, .inl (nA ed2_5))), (ag 2, .inl (cL, 18, .inr (.inl (lA cd2_5))))] := hD
  try dsimp only at hw
  obtain ⟨hrr, ⟨hrd, hnrd⟩⟩ := hw
  rw [hrr]
  refine xp_if_eq (pc := 8) (tgt := 24) hx hb dX7_rewrite_8 (by decide) (fun c8 => ?_) (fun c8 => ?_)
  · refine lv_ldc2 (pc := 24) (v := ((-1))) hx hb hown lk1 dX7_rewrite_24 ?_
    have hP9 : va_P D vwCl [(hq, .inr (5, oR ar cur)), (ar 0, .inr (2, oE ag nn2_5)), (ag 0, .inl (cI, 18, .inl (nA kd2_5))), (ag 1, .inl (cI, 18, .inl (nA ed2_5))), (ag 2, .inl (cL, 18, .inr (.inl (lA cd2_5))))] H := hP.sub [0, 1, 2, 3, 4] rfl
    have hD9 : va_D _ [(hq, .inr (5, oR ar cur)), (ar 0, .inr (2, oE ag nn2_5)), (ag 0, .inl (cI, 18, .inl (nA kd2_5))), (ag 1, .inl (cI, 18, .inl (nA ed2_5))), (ag 2, .inl (cL, 18, .inr (.inl (lA cd2_5))))] := hD.sub [0, 1, 2, 3, 4] (by decide) rfl
    exact W.lret (pc := 27) (v := ((-1))) hx hb hr (fun t ht hW => ⟨⟨_, (kd2_5, ed2_5, cd2_5, nn2_5), rfl, ⟨(if_neg c8).symm, trivial⟩, by rw [ht]; exact hP9, va_K.moved hW.alike hK, hD9⟩, hS.F ht⟩) hS.2.2 dX7_rewrite_27
  · refine lv_aload_n (pc := 11) hx hb dX7_rewrite_11 rfl (lv_at hl 0 rfl) ?_
    refine va_get (pc := 12) (D := D) (ci := 5) (v := .ref (ar 0)) (C := RX7) (T := TX7) (N := 7) hx hb hts hinX7 hown hK hP 0 rfl rfl 0 (by decide) lk0 (fun _ h9 => h9) rfl dX7_rewrite_12 ?_
    refine lv_iload_n (pc := 15) hx hb dX7_rewrite_15 rfl (lv_at hl 2 rfl) ?_
    refine lv_iload (pc := 16) hx hb dX7_rewrite_16 (lv_at hl 3 rfl) ?_
    refine vp_callSl (pc := 18) (W.runS (As := [.ref (ar 0), .int rl, .int px]) (rest := []) ⟨hx, hb, hml, hown, hts⟩ (c_X7_stepResult l D cI cL cZ tp tr (ar 0) ag kd2_5 ed2_5 cd2_5 nn2_5 (xv x) rl px c8 (hrd c8)) (va_cwS 3 hts gX7_rewrite_X7_stepResult rfl rfl rfl (by decide +kernel) ⟨Nat.le_of_ble_eq_true rfl, Nat.le_of_ble_eq_true rfl⟩) (rPS_S (wc := [(ar 0, .inr (2, oE ag nn2_5)), (ag 0, .inl (cI, 18, .inl (nA kd2_5))), (ag 1, .inl (cI, 18, .inl (nA ed2_5))), (ag 2, .inl (cL, 18, .inr (.inl (lA cd2_5))))]) hK hP hZ hS [1, 2, 3, 4] rfl) rfl rfl hl.1 rfl (lv_room (Nat.le_of_ble_eq_true rfl)) dX7_rewrite_18 ⟨Nat.zero_le _, Nat.zero_le _⟩) (fun r9 hrr => ?_)
    rw [hrr]
    refine lv_goto (pc := 21) (tgt := 27) hx hb dX7_rewrite_21 (by decide) ?_
    have hP9 : va_P D vwCl [(hq, .inr (5, oR ar cur)), (ar 0, .inr (2, oE ag nn2_5)), (ag 0, .inl (cI, 18, .inl (nA kd2_5))), (ag 1, .inl (cI, 18, .inl (nA ed2_5))), (ag 2, .inl (cL, 18, .inr (.inl (lA cd2_5))))] H := hP.sub [0, 1, 2, 3, 4] rfl
    have hD9 : va_D _ [(hq, .inr (5, oR ar cur)), (ar 0, .inr (2, oE ag nn2_5)), (ag 0, .inl (cI, 18, .inl (nA kd2_5))), (ag 1, .inl (cI, 18, .inl (nA ed2_5))), (ag 2, .inl (cL, 18, .inr (.inl (lA cd2_5))))] := hD.sub [0, 1, 2, 3, 4] (by decide) rfl
    exact W.lret (pc := 27) (v := (sR (xv x) rl px)) hx hb hr (fun t ht hW => ⟨⟨_, (kd2_5, ed2_5, cd2_5, nn2_5), rfl, ⟨(if_pos c8).symm, trivial⟩, by rw [ht]; exact hP9, va_K.moved hW.alike hK, hD9⟩, hS.F ht⟩) hS.2.2 dX7_rewrite_27
set_option maxHeartbeats 4000000 in
set_option maxRecDepth 100000 in
theorem c_X7_firstPosition (l : Launch) (D : va_G) (cI cL cZ : ClassId) (tp tr : Nat) (sz : Nat) (hq : Nat) (ar : Nat → Nat) (cur : Nat) (ag : Nat → Nat) (kd : Nat → Nat) (ed : Nat → Nat) (cd : Nat → Nat) (nn : Nat) (x : Int64)  : Met l yX7_firstPosition wsX7_firstPosition { frames := 6, cells := 0, slots := 0, locals := 145 } (mPS D (tyL cI cL cZ) tp tr [(hq, .inr (5, oR ar cur)), (ar 0, .inr (2, oE ag nn)), (ag 0, .inl (cI, 18, .inl (nA kd))), (ag 1, .inl (cI, 18, .inl (nA ed))), (ag 2, .inl (cL, 18, .inr (.inl (lA cd))))] sz [.ref hq, .long x]) (va_Qi (fun (r : Int32) (u : (Nat → Nat) × (Nat → Nat) × (Nat → Nat) × Nat) => r = (aFP x) ∧ (True)) (fun (u : (Nat → Nat) × (Nat → Nat) × (Nat → Nat) × Nat) (t : State) => mB D (tyL cI cL cZ) (va_A [(hq, .inr (5, oR ar cur)), (ar 0, .inr (2, oE ag nn)), (ag 0, .inl (cI, 18, .inl (nA kd))), (ag 1, .inl (cI, 18, .inl (nA ed))), (ag 2, .inl (cL, 18, .inr (.inl (lA cd))))] sz) [(hq, .inr (5, oR ar cur)), (ar 0, .inr (2, oE ag (u.2.2.2))), (ag 0, .inl (cI, 18, .inl (nA (u.1)))), (ag 1, .inl (cI, 18, .inl (nA (u.2.1)))), (ag 2, .inl (cL, 18, .inr (.inl (lA (u.2.2.1)))))] t) (va_A [(hq, .inr (5, oR ar cur)), (ar 0, .inr (2, oE ag nn)), (ag 0, .inl (cI, 18, .inl (nA kd))), (ag 1, .inl (cI, 18, .inl (nA ed))), (ag 2, .inl (cL, 18, .inr (.inl (lA cd))))] sz)) 0 0 (va_A [(hq, .inr (5, oR ar cur)), (ar 0, .inr (2, oE ag nn)), (ag 0, .inl (cI, 18, .inl (nA kd))), (ag 1, .inl (cI, 18, .inl (nA ed))), (ag 2, .inl (cL, 18, .inr (.inl (lA cd))))] sz) := by
  refine Met.ofW (cc := cX7_firstPosition) (maxL := 3) (ret := (some .int)) (by decide) rfl ?_
  intro pG eG s mG args below meth cG s₁ B hml hpre9
  obtain ⟨rfl, hsz, hP, hK, hD0, hZ⟩ := hpre9
  have hx := B.exec
  have hb := B.bytes
  have hr := B.returns
  have hts := atoms_spec (ws := wsX7_firstPosition) B.pre
  have hown : s.vm.findClass RX7 = some mG.cls := findClass_of_methodNamed B.named
  have hlocks := B.notSynchronized
  subst hsz
  have hD := hD0.self (sz := s.heap.size)
  have hA : ∀ q : Nat, s.heap.size ≤ q → va_A [(hq, .inr (5, oR ar cur)), (ar 0, .inr (2, oE ag nn)), (ag 0, .inl (cI, 18, .inl (nA kd))), (ag 1, .inl (cI, 18, .inl (nA ed))), (ag 2, .inl (cL, 18, .inr (.inl (lA cd))))] s.heap.size q := fun q h => Or.inr h
  have hS : va_S (va_A [(hq, .inr (5, oR ar cur)), (ar 0, .inr (2, oE ag nn)), (ag 0, .inl (cI, 18, .inl (nA kd))), (ag 1, .inl (cI, 18, .inl (nA ed))), (ag 2, .inl (cL, 18, .inr (.inl (lA cd))))] s.heap.size) s.heap s.heap [] := va_S.rf
  have hinX7 : ∀ w ∈ wsX70, w ∈ wsX7_firstPosition := fun w HH => (List.mem_cons_of_mem _ (List.mem_append_left _ (List.mem_append_right _ HH)))
  have lk0 : (Cond.fieldLink RX7 12 "RegexSimplifier" "given" "LRegexSimplifier$Expression;").before _ s = true := hts _ (List.mem_cons_of_mem _ (List.mem_append_left _ (List.mem_append_left _ (List.mem_append_left _ (List.mem_of_getElem? (i := 0) rfl)))))
  have hl := lv_entry ([.ref hq, .long x]) (n := 3) (Nat.le_of_ble_eq_true rfl)
  rw [lg_entry_eq]
  generalize (lg_sl ([.ref hq, .long x]) ++ List.replicate (3 - (lg_sl ([.ref hq, .long x])).length) Slot.unset).toArray = ls at hl ⊢
  have hl : lv_has ls 3 [(0, .ref hq), (1, .long x)] := hl
  refine lv_aload_n (pc := 0) hx hb dX7_firstPosition_0 rfl (lv_at hl 0 rfl) ?_
  refine va_get (pc := 1) (D := D) (ci := 5) (v := .ref (ar 0)) (C := RX7) (T := TX7) (N := 7) hx hb hts hinX7 hown hK hP 0 rfl rfl 0 (by decide) lk0 (fun _ h9 => h9) rfl dX7_firstPosition_1 ?_
  refine lv_lload_n (pc := 4) hx hb dX7_firstPosition_4 rfl (lv_at hl 1 rfl) ?_
  refine xm_calli (pc := 5) (wc := [(ar 0, .inr (2, oE ag nn)), (ag 0, .inl (cI, 18, .inl (nA kd))), (ag 1, .inl (cI, 18, .inl (nA ed))), (ag 2, .inl (cL, 18, .inr (.inl (lA cd))))]) (wr := [(hq, .inr (5, oR ar cur))]) (va_runV (As := [.long x]) (rest := []) ⟨hx, hb, hml, hown, hts⟩ (c_X3_read l D cI cL cZ tp tr s.heap.size (ar 0) ag kd ed cd nn x) (cwV 1 hts gX7_firstPosition_X3_read rfl rfl rfl (by decide +kernel) ⟨Nat.le_of_ble_eq_true rfl, Nat.le_of_ble_eq_true rfl⟩) (mPS_V (wc := [(ar 0, .inr (2, oE ag nn)), (ag 0, .inl (cI, 18, .inl (nA kd))), (ag 1, .inl (cI, 18, .inl (nA ed))), (ag 2, .inl (cL, 18, .inr (.inl (lA cd))))]) (ci := 2) (q0 := 0) hK hP hD hZ hS hA [1, 2, 3, 4] (by decide) rfl rfl rfl) rfl rfl hl.1 rfl (lv_room (Nat.le_of_ble_eq_true rfl)) dX7_firstPosition_5 ⟨Nat.zero_le _, Nat.zero_le _⟩) hP hD hS hA [1, 2, 3, 4] [0] rfl rfl (by decide) (by decide) (fun r9 u H locs hw hP hD hS => ?_)
  obtain ⟨kd2_5, ed2_5, cd2_5, nn2_5⟩ := u
  have hP : va_P D vwCl [(hq, .inr (5, oR ar cur)), (ar 0, .inr (2, oE ag nn2_5)), (ag 0, .inl (cI, 18, .inl (nA kd2_5))), (ag 1, .inl (cI, 18, .inl (nA ed2_5))), (ag 2, .inl (cL, 18, .inr (.inl (lA cd2_5))))] H := hP
  have hD : va_D _ [(hq, .inr (5, oR ar cur)), (ar 0, .inr (2, oE ag nn2_5)), (ag 0, .inl (cI, 18, .inl (nA kd2_5))), (ag 1, .inl (cI, 18, .inl (nA ed2_5))), (ag 2, .inl (cL, 18, .inr (.inl (lA cd2_5))))] := hD
  try dsimp only at hw
  obtain ⟨hrr, ⟨hrd, hnrd⟩⟩ := hw
  rw [hrr]
  refine xp_if_eq (pc := 8) (tgt := 21) hx hb dX7_firstPosition_8 (by decide) (fun c8 => ?_) (fun c8 => ?_)
  · refine lv_iconst (pc := 21) (v := ((-1))) hx hb dX7_firstPosition_21 (by decide) ?_
    have hP9 : va_P D vwCl [(hq, .inr (5, oR ar cur)), (ar 0, .inr (2, oE ag nn2_5)), (ag 0, .inl (cI, 18, .inl (nA kd2_5))), (ag 1, .inl (cI, 18, .inl (nA ed2_5))), (ag 2, .inl (cL, 18, .inr (.inl (lA cd2_5))))] H := hP.sub [0, 1, 2, 3, 4] rfl
    have hD9 : va_D _ [(hq, .inr (5, oR ar cur)), (ar 0, .inr (2, oE ag nn2_5)), (ag 0, .inl (cI, 18, .inl (nA kd2_5))), (ag 1, .inl (cI, 18, .inl (nA ed2_5))), (ag 2, .inl (cL, 18, .inr (.inl (lA cd2_5))))] := hD.sub [0, 1, 2, 3, 4] (by decide) rfl
    exact W.iret (pc := 22) (v := ((-1))) hx hb hr (fun t ht hW => ⟨⟨_, (kd2_5, ed2_5, cd2_5, nn2_5), rfl, ⟨(if_neg c8).symm, trivial⟩, by rw [ht]; exact hP9, va_K.moved hW.alike hK, hD9⟩, hS.F ht⟩) hS.2.2 dX7_firstPosition_22
  · refine lv_aload_n (pc := 11) hx hb dX7_firstPosition_11 rfl (lv_at hl 0 rfl) ?_
    refine va_get (pc := 12) (D := D) (ci := 5) (v := .ref (ar 0)) (C := RX7) (T := TX7) (N := 7) hx hb hts hinX7 hown hK hP 0 rfl rfl 0 (by decide) lk0 (fun _ h9 => h9) rfl dX7_firstPosition_12 ?_
    refine vp_callSi (pc := 15) (W.runS (As := [.ref (ar 0)]) (rest := []) ⟨hx, hb, hml, hown, hts⟩ (c_X4_firstFittingPosition l D cI cL cZ tp tr (ar 0) ag kd2_5 ed2_5 cd2_5 nn2_5 (TC_RD c8 (hrd c8)) (fun r p => by rw [mR_RD c8 (hrd c8)]; exact Nat.lt_trans (gV_lt c8 r p) pow18)) (va_cwS 1 hts gX7_firstPosition_X4_firstFittingPosition rfl rfl rfl (by decide +kernel) ⟨Nat.le_of_ble_eq_true rfl, Nat.le_of_ble_eq_true rfl⟩) (rPS_S (wc := [(ar 0, .inr (2, oE ag nn2_5)), (ag 0, .inl (cI, 18, .inl (nA kd2_5))), (ag 1, .inl (cI, 18, .inl (nA ed2_5))), (ag 2, .inl (cL, 18, .inr (.inl (lA cd2_5))))]) hK hP hZ hS [1, 2, 3, 4] rfl) rfl rfl hl.1 rfl (lv_room (Nat.le_of_ble_eq_true rfl)) dX7_firstPosition_15 ⟨Nat.zero_le _, Nat.zero_le _⟩) (fun r9 hrr => ?_)
    rw [hrr]
    refine lv_goto (pc := 18) (tgt := 22) hx hb dX7_firstPosition_18 (by decide) ?_
    have hP9 : va_P D vwCl [(hq, .inr (5, oR ar cur)), (ar 0, .inr (2, oE ag nn2_5)), (ag 0, .inl (cI, 18, .inl (nA kd2_5))), (ag 1, .inl (cI, 18, .inl (nA ed2_5))), (ag 2, .inl (cL, 18, .inr (.inl (lA cd2_5))))] H := hP.sub [0, 1, 2, 3, 4] rfl
    have hD9 : va_D _ [(hq, .inr (5, oR ar cur)), (ar 0, .inr (2, oE ag nn2_5)), (ag 0, .inl (cI, 18, .inl (nA kd2_5))), (ag 1, .inl (cI, 18, .inl (nA ed2_5))), (ag 2, .inl (cL, 18, .inr (.inl (lA cd2_5))))] := hD.sub [0, 1, 2, 3, 4] (by decide) rfl
    exact W.iret (pc := 22) (v := (fPI (mR (kA kd2_5 nn2_5) (kA cd2_5 nn2_5) (rA ed2_5 nn2_5) (sA kd2_5 cd2_5 nn2_5)) nn2_5)) hx hb hr (fun t ht hW => ⟨⟨_, (kd2_5, ed2_5, cd2_5, nn2_5), rfl, ⟨(by unfold aFP; rw [if_pos c8, mR_RD c8 (hrd c8), (hrd c8).1]), trivial⟩, by rw [ht]; exact hP9, va_K.moved hW.alike hK, hD9⟩, hS.F ht⟩) hS.2.2 dX7_firstPosition_22
set_option maxHeartbeats 4000000 in
set_option maxRecDepth 100000 in
theorem c_X7_firstRule (l : Launch) (D : va_G) (cI cL cZ : ClassId) (tp tr : Nat) (sz : Nat) (hq : Nat) (ar : Nat → Nat) (cur : Nat) (ag : Nat → Nat) (kd : Nat → Nat) (ed : Nat → Nat) (cd : Nat → Nat) (nn : Nat) (x : Int64)  : Met l yX7_firstRule wsX7_firstRule { frames := 6, cells := 0, slots := 0, locals := 145 } (mPS D (tyL cI cL cZ) tp tr [(hq, .inr (5, oR ar cur)), (ar 0, .inr (2, oE ag nn)), (ag 0, .inl (cI, 18, .inl (nA kd))), (ag 1, .inl (cI, 18, .inl (nA ed))), (ag 2, .inl (cL, 18, .inr (.inl (lA cd))))] sz [.ref hq, .long x]) (va_Qi (fun (r : Int32) (u : (Nat → Nat) × (Nat → Nat) × (Nat → Nat) × Nat) => r = (aFR x) ∧ (True)) (fun (u : (Nat → Nat) × (Nat → Nat) × (Nat → Nat) × Nat) (t : State) => mB D (tyL cI cL cZ) (va_A [(hq, .inr (5, oR ar cur)), (ar 0, .inr (2, oE ag nn)), (ag 0, .inl (cI, 18, .inl (nA kd))), (ag 1, .inl (cI, 18, .inl (nA ed))), (ag 2, .inl (cL, 18, .inr (.inl (lA cd))))] sz) [(hq, .inr (5, oR ar cur)), (ar 0, .inr (2, oE ag (u.2.2.2))), (ag 0, .inl (cI, 18, .inl (nA (u.1)))), (ag 1, .inl (cI, 18, .inl (nA (u.2.1)))), (ag 2, .inl (cL, 18, .inr (.inl (lA (u.2.2.1)))))] t) (va_A [(hq, .inr (5, oR ar cur)), (ar 0, .inr (2, oE ag nn)), (ag 0, .inl (cI, 18, .inl (nA kd))), (ag 1, .inl (cI, 18, .inl (nA ed))), (ag 2, .inl (cL, 18, .inr (.inl (lA cd))))] sz)) 0 0 (va_A [(hq, .inr (5, oR ar cur)), (ar 0, .inr (2, oE ag nn)), (ag 0, .inl (cI, 18, .inl (nA kd))), (ag 1, .inl (cI, 18, .inl (nA ed))), (ag 2, .inl (cL, 18, .inr (.inl (lA cd))))] sz) := by
  refine Met.ofW (cc := cX7_firstRule) (maxL := 3) (ret := (some .int)) (by decide) rfl ?_
  intro pG eG s mG args below meth cG s₁ B hml hpre9
  obtain ⟨rfl, hsz, hP, hK, hD0, hZ⟩ := hpre9
  have hx := B.exec
  have hb := B.bytes
  have hr := B.returns
  have hts := atoms_spec (ws := wsX7_firstRule) B.pre
  have hown : s.vm.findClass RX7 = some mG.cls := findClass_of_methodNamed B.named
  have hlocks := B.notSynchronized
  subst hsz
  have hD := hD0.self (sz := s.heap.size)
  have hA : ∀ q : Nat, s.heap.size ≤ q → va_A [(hq, .inr (5, oR ar cur)), (ar 0, .inr (2, oE ag nn)), (ag 0, .inl (cI, 18, .inl (nA kd))), (ag 1, .inl (cI, 18, .inl (nA ed))), (ag 2, .inl (cL, 18, .inr (.inl (lA cd))))] s.heap.size q := fun q h => Or.inr h
  have hS : va_S (va_A [(hq, .inr (5, oR ar cur)), (ar 0, .inr (2, oE ag nn)), (ag 0, .inl (cI, 18, .inl (nA kd))), (ag 1, .inl (cI, 18, .inl (nA ed))), (ag 2, .inl (cL, 18, .inr (.inl (lA cd))))] s.heap.size) s.heap s.heap [] := va_S.rf
  have hinX7 : ∀ w ∈ wsX70, w ∈ wsX7_firstRule := fun w HH => (List.mem_cons_of_mem _ (List.mem_append_left _ (List.mem_append_right _ HH)))
  have lk0 : (Cond.fieldLink RX7 12 "RegexSimplifier" "given" "LRegexSimplifier$Expression;").before _ s = true := hts _ (List.mem_cons_of_mem _ (List.mem_append_left _ (List.mem_append_left _ (List.mem_append_left _ (List.mem_of_getElem? (i := 0) rfl)))))
  have hl := lv_entry ([.ref hq, .long x]) (n := 3) (Nat.le_of_ble_eq_true rfl)
  rw [lg_entry_eq]
  generalize (lg_sl ([.ref hq, .long x]) ++ List.replicate (3 - (lg_sl ([.ref hq, .long x])).length) Slot.unset).toArray = ls at hl ⊢
  have hl : lv_has ls 3 [(0, .ref hq), (1, .long x)] := hl
  refine lv_aload_n (pc := 0) hx hb dX7_firstRule_0 rfl (lv_at hl 0 rfl) ?_
  refine va_get (pc := 1) (D := D) (ci := 5) (v := .ref (ar 0)) (C := RX7) (T := TX7) (N := 7) hx hb hts hinX7 hown hK hP 0 rfl rfl 0 (by decide) lk0 (fun _ h9 => h9) rfl dX7_firstRule_1 ?_
  refine lv_lload_n (pc := 4) hx hb dX7_firstRule_4 rfl (lv_at hl 1 rfl) ?_
  refine xm_calli (pc := 5) (wc := [(ar 0, .inr (2, oE ag nn)), (ag 0, .inl (cI, 18, .inl (nA kd))), (ag 1, .inl (cI, 18, .inl (nA ed))), (ag 2, .inl (cL, 18, .inr (.inl (lA cd))))]) (wr := [(hq, .inr (5, oR ar cur))]) (va_runV (As := [.long x]) (rest := []) ⟨hx, hb, hml, hown, hts⟩ (c_X3_read l D cI cL cZ tp tr s.heap.size (ar 0) ag kd ed cd nn x) (cwV 1 hts gX7_firstRule_X3_read rfl rfl rfl (by decide +kernel) ⟨Nat.le_of_ble_eq_true rfl, Nat.le_of_ble_eq_true rfl⟩) (mPS_V (wc := [(ar 0, .inr (2, oE ag nn)), (ag 0, .inl (cI, 18, .inl (nA kd))), (ag 1, .inl (cI, 18, .inl (nA ed))), (ag 2, .inl (cL, 18, .inr (.inl (lA cd))))]) (ci := 2) (q0 := 0) hK hP hD hZ hS hA [1, 2, 3, 4] (by decide) rfl rfl rfl) rfl rfl hl.1 rfl (lv_room (Nat.le_of_ble_eq_true rfl)) dX7_firstRule_5 ⟨Nat.zero_le _, Nat.zero_le _⟩) hP hD hS hA [1, 2, 3, 4] [0] rfl rfl (by decide) (by decide) (fun r9 u H locs hw hP hD hS => ?_)
  obtain ⟨kd2_5, ed2_5, cd2_5, nn2_5⟩ := u
  have hP : va_P D vwCl [(hq, .inr (5, oR ar cur)), (ar 0, .inr (2, oE ag nn2_5)), (ag 0, .inl (cI, 18, .inl (nA kd2_5))), (ag 1, .inl (cI, 18, .inl (nA ed2_5))), (ag 2, .inl (cL, 18, .inr (.inl (lA cd2_5))))] H := hP
  have hD : va_D _ [(hq, .inr (5, oR ar cur)), (ar 0, .inr (2, oE ag nn2_5)), (ag 0, .inl (cI, 18, .inl (nA kd2_5))), (ag 1, .inl (cI, 18, .inl (nA ed2_5))), (ag 2, .inl (cL, 18, .inr (.inl (lA cd2_5))))] := hD
  try dsimp only at hw
  obtain ⟨hrr, ⟨hrd, hnrd⟩⟩ := hw
  rw [hrr]
  refine xp_if_ne (pc := 8) (tgt := 13) hx hb dX7_firstRule_8 (by decide) (fun c8 => ?_) (fun c8 => ?_)
  · refine lv_aload_n (pc := 13) hx hb dX7_firstRule_13 rfl (lv_at hl 0 rfl) ?_
    refine va_get (pc := 14) (D := D) (ci := 5) (v := .ref (ar 0)) (C := RX7) (T := TX7) (N := 7) hx hb hts hinX7 hown hK hP 0 rfl rfl 0 (by decide) lk0 (fun _ h9 => h9) rfl dX7_firstRule_14 ?_
    refine lv_aload_n (pc := 17) hx hb dX7_firstRule_17 rfl (lv_at hl 0 rfl) ?_
    refine va_get (pc := 18) (D := D) (ci := 5) (v := .ref (ar 0)) (C := RX7) (T := TX7) (N := 7) hx hb hts hinX7 hown hK hP 0 rfl rfl 0 (by decide) lk0 (fun _ h9 => h9) rfl dX7_firstRule_18 ?_
    refine vp_callSi (pc := 21) (W.runS (As := [.ref (ar 0)]) (rest := [.ref (ar 0)]) ⟨hx, hb, hml, hown, hts⟩ (c_X4_firstFittingPosition l D cI cL cZ tp tr (ar 0) ag kd2_5 ed2_5 cd2_5 nn2_5 (TC_RD c8 (hrd c8)) (fun r p => by rw [mR_RD c8 (hrd c8)]; exact Nat.lt_trans (gV_lt c8 r p) pow18)) (va_cwS 1 hts gX7_firstRule_X4_firstFittingPosition rfl rfl rfl (by decide +kernel) ⟨Nat.le_of_ble_eq_true rfl, Nat.le_of_ble_eq_true rfl⟩) (rPS_S (wc := [(ar 0, .inr (2, oE ag nn2_5)), (ag 0, .inl (cI, 18, .inl (nA kd2_5))), (ag 1, .inl (cI, 18, .inl (nA ed2_5))), (ag 2, .inl (cL, 18, .inr (.inl (lA cd2_5))))]) hK hP hZ hS [1, 2, 3, 4] rfl) rfl rfl hl.1 rfl (lv_room (Nat.le_of_ble_eq_true rfl)) dX7_firstRule_21 ⟨Nat.zero_le _, Nat.zero_le _⟩) (fun r9 hrr => ?_)
    rw [hrr]
    have hnv := (hrd c8).1
    have h18 := (dc_lt (okVb_iff.mp c8).2.1).2
    have e21 := mR_RD c8 (hrd c8)
    refine W.eq (g2 := F0 mG 24 ls [.int (fPI (gV (xv x)) (dc (xv x))), .ref (ar 0)]) (congrArg (fun zz => F0 mG 24 ls [.int zz, .ref (ar 0)]) (by rw [e21, hnv])) ?_
    by_cases hfp : fPn (gV (xv x)) (dc (xv x)) < dc (xv x)
    · refine W.eq (g2 := F0 mG 24 ls [.int (nI (fPn (gV (xv x)) (dc (xv x)))), .ref (ar 0)]) (congrArg (fun zz => F0 mG 24 ls [.int zz, .ref (ar 0)]) (if_pos hfp)) ?_
      refine vp_callSi (pc := 24) (W.runS (As := [.ref (ar 0), .int (nI (fPn (gV (xv x)) (dc (xv x))))]) (rest := []) ⟨hx, hb, hml, hown, hts⟩ (c_X4_firstFittingRule l D cI cL cZ tp tr (ar 0) ag kd2_5 ed2_5 cd2_5 nn2_5 (fPn (gV (xv x)) (dc (xv x))) (TC_RD c8 (hrd c8)) (by omega) (fun r p => by rw [mR_RD c8 (hrd c8)]; exact Nat.lt_trans (gV_lt c8 r p) pow18)) (va_cwS 2 hts gX7_firstRule_X4_firstFittingRule rfl rfl rfl (by decide +kernel) ⟨Nat.le_of_ble_eq_true rfl, Nat.le_of_ble_eq_true rfl⟩) (rPS_S (wc := [(ar 0, .inr (2, oE ag nn2_5)), (ag 0, .inl (cI, 18, .inl (nA kd2_5))), (ag 1, .inl (cI, 18, .inl (nA ed2_5))), (ag 2, .inl (cL, 18, .inr (.inl (lA cd2_5))))]) hK hP hZ hS [1, 2, 3, 4] rfl) rfl rfl hl.1 rfl (lv_room (Nat.le_of_ble_eq_true rfl)) dX7_firstRule_24 ⟨Nat.zero_le _, Nat.zero_le _⟩) (fun r9 hrr => ?_)
      rw [hrr]
      have hP9 : va_P D vwCl [(hq, .inr (5, oR ar cur)), (ar 0, .inr (2, oE ag nn2_5)), (ag 0, .inl (cI, 18, .inl (nA kd2_5))), (ag 1, .inl (cI, 18, .inl (nA ed2_5))), (ag 2, .inl (cL, 18, .inr (.inl (lA cd2_5))))] H := hP.sub [0, 1, 2, 3, 4] rfl
      have hD9 : va_D _ [(hq, .inr (5, oR ar cur)), (ar 0, .inr (2, oE ag nn2_5)), (ag 0, .inl (cI, 18, .inl (nA kd2_5))), (ag 1, .inl (cI, 18, .inl (nA ed2_5))), (ag 2, .inl (cL, 18, .inr (.inl (lA cd2_5))))] := hD.sub [0, 1, 2, 3, 4] (by decide) rfl
      exact W.iret (pc := 27) (v := (fRI (mR (kA kd2_5 nn2_5) (kA cd2_5 nn2_5) (rA ed2_5 nn2_5) (sA kd2_5 cd2_5 nn2_5)) (fPn (gV (xv x)) (dc (xv x))))) hx hb hr (fun t ht hW => ⟨⟨_, (kd2_5, ed2_5, cd2_5, nn2_5), rfl, ⟨(by unfold aFR fR2; rw [if_pos c8, if_pos hfp, e21]), trivial⟩, by rw [ht]; exact hP9, va_K.moved hW.alike hK, hD9⟩, hS.F ht⟩) hS.2.2 dX7_firstRule_27
    · refine W.eq (g2 := F0 mG 24 ls [.int ((-9)), .ref (ar 0)]) (congrArg (fun zz => F0 mG 24 ls [.int zz, .ref (ar 0)]) (if_neg hfp)) ?_
      refine vp_callSi (pc := 24) (W.runS (As := [.ref (ar 0), .int ((-9))]) (rest := []) ⟨hx, hb, hml, hown, hts⟩ (c_X4_firstFittingRuleN l D cI cL cZ tp tr (ar 0) ag kd2_5 ed2_5 cd2_5 nn2_5 ((-9)) (by decide)) (va_cwS 2 hts gX7_firstRule_X4_firstFittingRule rfl rfl rfl (by decide +kernel) ⟨Nat.le_of_ble_eq_true rfl, Nat.le_of_ble_eq_true rfl⟩) (rPS_S (wc := [(ar 0, .inr (2, oE ag nn2_5)), (ag 0, .inl (cI, 18, .inl (nA kd2_5))), (ag 1, .inl (cI, 18, .inl (nA ed2_5))), (ag 2, .inl (cL, 18, .inr (.inl (lA cd2_5))))]) hK hP hZ hS [1, 2, 3, 4] rfl) rfl rfl hl.1 rfl (lv_room (Nat.le_of_ble_eq_true rfl)) dX7_firstRule_24 ⟨Nat.zero_le _, Nat.zero_le _⟩) (fun r9 hrr => ?_)
      rw [hrr]
      have hP9 : va_P D vwCl [(hq, .inr (5, oR ar cur)), (ar 0, .inr (2, oE ag nn2_5)), (ag 0, .inl (cI, 18, .inl (nA kd2_5))), (ag 1, .inl (cI, 18, .inl (nA ed2_5))), (ag 2, .inl (cL, 18, .inr (.inl (lA cd2_5))))] H := hP.sub [0, 1, 2, 3, 4] rfl
      have hD9 : va_D _ [(hq, .inr (5, oR ar cur)), (ar 0, .inr (2, oE ag nn2_5)), (ag 0, .inl (cI, 18, .inl (nA kd2_5))), (ag 1, .inl (cI, 18, .inl (nA ed2_5))), (ag 2, .inl (cL, 18, .inr (.inl (lA cd2_5))))] := hD.sub [0, 1, 2, 3, 4] (by decide) rfl
      exact W.iret (pc := 27) (v := ((-9))) hx hb hr (fun t ht hW => ⟨⟨_, (kd2_5, ed2_5, cd2_5, nn2_5), rfl, ⟨(by unfold aFR fR2; rw [if_pos c8, if_neg hfp]), trivial⟩, by rw [ht]; exact hP9, va_K.moved hW.alike hK, hD9⟩, hS.F ht⟩) hS.2.2 dX7_firstRule_27
  · refine lv_iconst (pc := 11) (v := ((-1))) hx hb dX7_firstRule_11 (by decide) ?_
    have hP9 : va_P D vwCl [(hq, .inr (5, oR ar cur)), (ar 0, .inr (2, oE ag nn2_5)), (ag 0, .inl (cI, 18, .inl (nA kd2_5))), (ag 1, .inl (cI, 18, .inl (nA ed2_5))), (ag 2, .inl (cL, 18, .inr (.inl (lA cd2_5))))] H := hP.sub [0, 1, 2, 3, 4] rfl
    have hD9 : va_D _ [(hq, .inr (5, oR ar cur)), (ar 0, .inr (2, oE ag nn2_5)), (ag 0, .inl (cI, 18, .inl (nA kd2_5))), (ag 1, .inl (cI, 18, .inl (nA ed2_5))), (ag 2, .inl (cL, 18, .inr (.inl (lA cd2_5))))] := hD.sub [0, 1, 2, 3, 4] (by decide) rfl
    exact W.iret (pc := 12) (v := ((-1))) hx hb hr (fun t ht hW => ⟨⟨_, (kd2_5, ed2_5, cd2_5, nn2_5), rfl, ⟨(if_neg c8).symm, trivial⟩, by rw [ht]; exact hP9, va_K.moved hW.alike hK, hD9⟩, hS.F ht⟩) hS.2.2 dX7_firstRule_12
set_option maxHeartbeats 4000000 in
set_option maxRecDepth 100000 in
theorem c_X7_load (l : Launch) (D : va_G) (cI cL cZ : ClassId) (tp tr : Nat) (sz : Nat) (hq : Nat) (ar : Nat → Nat) (cur : Nat) (ag : Nat → Nat) (kd : Nat → Nat) (ed : Nat → Nat) (cd : Nat → Nat) (nn : Nat) (x : Int64) (at1 : Nat → Nat) (bf : Nat → Nat) (ru : Nat → Nat) (ps : Nat → Nat) (ct1 : Nat)  : Met l yX7_load wsX7_load { frames := 2, cells := 0, slots := 0, locals := 51 } (mPS D (tyL cI cL cZ) tp tr [(hq, .inr (5, oR ar cur)), (ar 0, .inr (2, oE ag nn)), (ag 0, .inl (cI, 18, .inl (nA kd))), (ag 1, .inl (cI, 18, .inl (nA ed))), (ag 2, .inl (cL, 18, .inr (.inl (lA cd)))), (ar 5, .inr (4, oT at1 ct1)), (at1 0, .inl (cL, 17, .inr (.inl (lA bf)))), (at1 1, .inl (cI, 17, .inl (nA ru))), (at1 2, .inl (cI, 17, .inl (nA ps)))] sz [.ref hq, .long x]) (va_Qi (fun (r : Int32) (u : (Nat → Nat) × (Nat → Nat) × (Nat → Nat) × Nat × Nat × Nat) => r = (aSize x) ∧ ((okVb (xv x) = true → u.2.2.2.2.1 = xv x ∧ u.2.2.2.2.2 = 0) ∧ (¬ okVb (xv x) = true → u.2.2.2.2.1 = cur ∧ u.2.2.2.2.2 = ct1))) (fun (u : (Nat → Nat) × (Nat → Nat) × (Nat → Nat) × Nat × Nat × Nat) (t : State) => mB D (tyL cI cL cZ) (va_A [(hq, .inr (5, oR ar cur)), (ar 0, .inr (2, oE ag nn)), (ag 0, .inl (cI, 18, .inl (nA kd))), (ag 1, .inl (cI, 18, .inl (nA ed))), (ag 2, .inl (cL, 18, .inr (.inl (lA cd)))), (ar 5, .inr (4, oT at1 ct1)), (at1 0, .inl (cL, 17, .inr (.inl (lA bf)))), (at1 1, .inl (cI, 17, .inl (nA ru))), (at1 2, .inl (cI, 17, .inl (nA ps)))] sz) [(hq, .inr (5, oR ar (u.2.2.2.2.1))), (ar 0, .inr (2, oE ag (u.2.2.2.1))), (ag 0, .inl (cI, 18, .inl (nA (u.1)))), (ag 1, .inl (cI, 18, .inl (nA (u.2.1)))), (ag 2, .inl (cL, 18, .inr (.inl (lA (u.2.2.1))))), (ar 5, .inr (4, oT at1 (u.2.2.2.2.2))), (at1 0, .inl (cL, 17, .inr (.inl (lA bf)))), (at1 1, .inl (cI, 17, .inl (nA ru))), (at1 2, .inl (cI, 17, .inl (nA ps)))] t) (va_A [(hq, .inr (5, oR ar cur)), (ar 0, .inr (2, oE ag nn)), (ag 0, .inl (cI, 18, .inl (nA kd))), (ag 1, .inl (cI, 18, .inl (nA ed))), (ag 2, .inl (cL, 18, .inr (.inl (lA cd)))), (ar 5, .inr (4, oT at1 ct1)), (at1 0, .inl (cL, 17, .inr (.inl (lA bf)))), (at1 1, .inl (cI, 17, .inl (nA ru))), (at1 2, .inl (cI, 17, .inl (nA ps)))] sz)) 0 0 (va_A [(hq, .inr (5, oR ar cur)), (ar 0, .inr (2, oE ag nn)), (ag 0, .inl (cI, 18, .inl (nA kd))), (ag 1, .inl (cI, 18, .inl (nA ed))), (ag 2, .inl (cL, 18, .inr (.inl (lA cd)))), (ar 5, .inr (4, oT at1 ct1)), (at1 0, .inl (cL, 17, .inr (.inl (lA bf)))), (at1 1, .inl (cI, 17, .inl (nA ru))), (at1 2, .inl (cI, 17, .inl (nA ps)))] sz) := by
  refine Met.ofW (cc := cX7_load) (maxL := 3) (ret := (some .int)) (by decide) rfl ?_
  intro pG eG s mG args below meth cG s₁ B hml hpre9
  obtain ⟨rfl, hsz, hP, hK, hD0, hZ⟩ := hpre9
  have hx := B.exec
  have hb := B.bytes
  have hr := B.returns
  have hts := atoms_spec (ws := wsX7_load) B.pre
  have hown : s.vm.findClass RX7 = some mG.cls := findClass_of_methodNamed B.named
  have hlocks := B.notSynchronized
  subst hsz
  have hD := hD0.self (sz := s.heap.size)
  have hA : ∀ q : Nat, s.heap.size ≤ q → va_A [(hq, .inr (5, oR ar cur)), (ar 0, .inr (2, oE ag nn)), (ag 0, .inl (cI, 18, .inl (nA kd))), (ag 1, .inl (cI, 18, .inl (nA ed))), (ag 2, .inl (cL, 18, .inr (.inl (lA cd)))), (ar 5, .inr (4, oT at1 ct1)), (at1 0, .inl (cL, 17, .inr (.inl (lA bf)))), (at1 1, .inl (cI, 17, .inl (nA ru))), (at1 2, .inl (cI, 17, .inl (nA ps)))] s.heap.size q := fun q h => Or.inr h
  have hS : va_S (va_A [(hq, .inr (5, oR ar cur)), (ar 0, .inr (2, oE ag nn)), (ag 0, .inl (cI, 18, .inl (nA kd))), (ag 1, .inl (cI, 18, .inl (nA ed))), (ag 2, .inl (cL, 18, .inr (.inl (lA cd)))), (ar 5, .inr (4, oT at1 ct1)), (at1 0, .inl (cL, 17, .inr (.inl (lA bf)))), (at1 1, .inl (cI, 17, .inl (nA ru))), (at1 2, .inl (cI, 17, .inl (nA ps)))] s.heap.size) s.heap s.heap [] := va_S.rf
  have hinX7 : ∀ w ∈ wsX70, w ∈ wsX7_load := fun w HH => (List.mem_cons_of_mem _ (List.mem_append_left _ (List.mem_append_left _ (List.mem_append_right _ HH))))
  have lk0 : (Cond.fieldLink RX7 12 "RegexSimplifier" "given" "LRegexSimplifier$Expression;").before _ s = true := hts _ (List.mem_cons_of_mem _ (List.mem_append_left _ (List.mem_append_left _ (List.mem_append_left _ (List.mem_append_left _ (List.mem_of_getElem? (i := 0) rfl))))))
  have lk1 : (Cond.fieldLink RX7 47 "RegexSimplifier" "currentCode" "J").before _ s = true := hts _ (List.mem_cons_of_mem _ (List.mem_append_left _ (List.mem_append_left _ (List.mem_append_left _ (List.mem_append_left _ (List.mem_of_getElem? (i := 1) rfl))))))
  have lk2 : (Cond.fieldLink RX7 43 "RegexSimplifier" "steps" "LRegexSimplifier$Steps;").before _ s = true := hts _ (List.mem_cons_of_mem _ (List.mem_append_left _ (List.mem_append_left _ (List.mem_append_left _ (List.mem_append_left _ (List.mem_of_getElem? (i := 2) rfl))))))
  have hl := lv_entry ([.ref hq, .long x]) (n := 3) (Nat.le_of_ble_eq_true rfl)
  rw [lg_entry_eq]
  generalize (lg_sl ([.ref hq, .long x]) ++ List.replicate (3 - (lg_sl ([.ref hq, .long x])).length) Slot.unset).toArray = ls at hl ⊢
  have hl : lv_has ls 3 [(0, .ref hq), (1, .long x)] := hl
  refine lv_aload_n (pc := 0) hx hb dX7_load_0 rfl (lv_at hl 0 rfl) ?_
  refine va_get (pc := 1) (D := D) (ci := 5) (v := .ref (ar 0)) (C := RX7) (T := TX7) (N := 7) hx hb hts hinX7 hown hK hP 0 rfl rfl 0 (by decide) lk0 (fun _ h9 => h9) rfl dX7_load_1 ?_
  refine lv_lload_n (pc := 4) hx hb dX7_load_4 rfl (lv_at hl 1 rfl) ?_
  refine xm_calli (pc := 5) (wc := [(ar 0, .inr (2, oE ag nn)), (ag 0, .inl (cI, 18, .inl (nA kd))), (ag 1, .inl (cI, 18, .inl (nA ed))), (ag 2, .inl (cL, 18, .inr (.inl (lA cd))))]) (wr := [(hq, .inr (5, oR ar cur)), (ar 5, .inr (4, oT at1 ct1)), (at1 0, .inl (cL, 17, .inr (.inl (lA bf)))), (at1 1, .inl (cI, 17, .inl (nA ru))), (at1 2, .inl (cI, 17, .inl (nA ps)))]) (va_runV (As := [.long x]) (rest := []) ⟨hx, hb, hml, hown, hts⟩ (c_X3_read l D cI cL cZ tp tr s.heap.size (ar 0) ag kd ed cd nn x) (cwV 1 hts gX7_load_X3_read rfl rfl rfl (by decide +kernel) ⟨Nat.le_of_ble_eq_true rfl, Nat.le_of_ble_eq_true rfl⟩) (mPS_V (wc := [(ar 0, .inr (2, oE ag nn)), (ag 0, .inl (cI, 18, .inl (nA kd))), (ag 1, .inl (cI, 18, .inl (nA ed))), (ag 2, .inl (cL, 18, .inr (.inl (lA cd))))]) (ci := 2) (q0 := 0) hK hP hD hZ hS hA [1, 2, 3, 4] (by decide) rfl rfl rfl) rfl rfl hl.1 rfl (lv_room (Nat.le_of_ble_eq_true rfl)) dX7_load_5 ⟨Nat.zero_le _, Nat.zero_le _⟩) hP hD hS hA [1, 2, 3, 4] [0, 5, 6, 7, 8] rfl rfl (by decide) (by decide) (fun r9 u H locs hw hP hD hS => ?_)
  obtain ⟨kd2_5, ed2_5, cd2_5, nn2_5⟩ := u
  have hP : va_P D vwCl [(hq, .inr (5, oR ar cur)), (ar 5, .inr (4, oT at1 ct1)), (at1 0, .inl (cL, 17, .inr (.inl (lA bf)))), (at1 1, .inl (cI, 17, .inl (nA ru))), (at1 2, .inl (cI, 17, .inl (nA ps))), (ar 0, .inr (2, oE ag nn2_5)), (ag 0, .inl (cI, 18, .inl (nA kd2_5))), (ag 1, .inl (cI, 18, .inl (nA ed2_5))), (ag 2, .inl (cL, 18, .inr (.inl (lA cd2_5))))] H := hP
  have hD : va_D _ [(hq, .inr (5, oR ar cur)), (ar 5, .inr (4, oT at1 ct1)), (at1 0, .inl (cL, 17, .inr (.inl (lA bf)))), (at1 1, .inl (cI, 17, .inl (nA ru))), (at1 2, .inl (cI, 17, .inl (nA ps))), (ar 0, .inr (2, oE ag nn2_5)), (ag 0, .inl (cI, 18, .inl (nA kd2_5))), (ag 1, .inl (cI, 18, .inl (nA ed2_5))), (ag 2, .inl (cL, 18, .inr (.inl (lA cd2_5))))] := hD
  try dsimp only at hw
  obtain ⟨hrr, ⟨hrd, hnrd⟩⟩ := hw
  rw [hrr]
  refine xp_if_ne (pc := 8) (tgt := 13) hx hb dX7_load_8 (by decide) (fun c8 => ?_) (fun c8 => ?_)
  · obtain ⟨v, hv18, rfl, hv⟩ := ok_x c8
    have hxv : xv (lN v) = v := xv_lN (Nat.lt_trans hv18 pow18)
    refine lv_aload_n (pc := 13) hx hb dX7_load_13 rfl (lv_at hl 0 rfl) ?_
    refine lv_lload_n (pc := 14) hx hb dX7_load_14 rfl (lv_at hl 1 rfl) ?_
    refine va_put (pc := 15) (D := D) (ci := 5) (v := .long (lN v)) (ty := .long) (C := RX7) (T := TX7) (N := 7) hx hb hts hinX7 tyX7 tyX7_ok nmX7 hown hK hP hD hS 0 rfl rfl 6 (by decide) lk1 (fun _ h9 => h9) rfl (by decide +kernel) rfl rfl (Nat.le_of_ble_eq_true rfl) dX7_load_15 (fun H locs hP hD hS => ?_)
    have hP : va_P D vwCl [(hq, .inr (5, oR ar v)), (ar 5, .inr (4, oT at1 ct1)), (at1 0, .inl (cL, 17, .inr (.inl (lA bf)))), (at1 1, .inl (cI, 17, .inl (nA ru))), (at1 2, .inl (cI, 17, .inl (nA ps))), (ar 0, .inr (2, oE ag nn2_5)), (ag 0, .inl (cI, 18, .inl (nA kd2_5))), (ag 1, .inl (cI, 18, .inl (nA ed2_5))), (ag 2, .inl (cL, 18, .inr (.inl (lA cd2_5))))] H := hP
    have hD : va_D _ [(hq, .inr (5, oR ar v)), (ar 5, .inr (4, oT at1 ct1)), (at1 0, .inl (cL, 17, .inr (.inl (lA bf)))), (at1 1, .inl (cI, 17, .inl (nA ru))), (at1 2, .inl (cI, 17, .inl (nA ps))), (ar 0, .inr (2, oE ag nn2_5)), (ag 0, .inl (cI, 18, .inl (nA kd2_5))), (ag 1, .inl (cI, 18, .inl (nA ed2_5))), (ag 2, .inl (cL, 18, .inr (.inl (lA cd2_5))))] := hD
    refine lv_aload_n (pc := 18) hx hb dX7_load_18 rfl (lv_at hl 0 rfl) ?_
    refine va_get (pc := 19) (D := D) (ci := 5) (v := .ref (ar 5)) (C := RX7) (T := TX7) (N := 7) hx hb hts hinX7 hown hK hP 0 rfl rfl 5 (by decide) lk2 (fun _ h9 => h9) rfl dX7_load_19 ?_
    refine xm_callv (pc := 22) (wc := [(ar 5, .inr (4, oT at1 ct1)), (at1 0, .inl (cL, 17, .inr (.inl (lA bf)))), (at1 1, .inl (cI, 17, .inl (nA ru))), (at1 2, .inl (cI, 17, .inl (nA ps)))]) (wr := [(hq, .inr (5, oR ar v)), (ar 0, .inr (2, oE ag nn2_5)), (ag 0, .inl (cI, 18, .inl (nA kd2_5))), (ag 1, .inl (cI, 18, .inl (nA ed2_5))), (ag 2, .inl (cL, 18, .inr (.inl (lA cd2_5))))]) (va_runV (As := []) (rest := []) ⟨hx, hb, hml, hown, hts⟩ (c_X6_forgetAll l D cI cL cZ H.size (ar 5) at1 bf ru ps ct1) (cwV 0 hts gX7_load_X6_forgetAll rfl rfl rfl (by decide +kernel) ⟨Nat.le_of_ble_eq_true rfl, Nat.le_of_ble_eq_true rfl⟩) (mP_V (wc := [(ar 5, .inr (4, oT at1 ct1)), (at1 0, .inl (cL, 17, .inr (.inl (lA bf)))), (at1 1, .inl (cI, 17, .inl (nA ru))), (at1 2, .inl (cI, 17, .inl (nA ps)))]) (ci := 4) (q0 := 0) hK hP hD [1, 2, 3, 4] (by decide) rfl rfl rfl) rfl rfl hl.1 rfl (lv_room (Nat.le_of_ble_eq_true rfl)) dX7_load_22 ⟨Nat.zero_le _, Nat.zero_le _⟩) hP hD hS hA [1, 2, 3, 4] [0, 5, 6, 7, 8] rfl rfl (by decide) (by decide) (fun u H locs hw hP hD hS => ?_)
    have hP : va_P D vwCl [(hq, .inr (5, oR ar v)), (ar 0, .inr (2, oE ag nn2_5)), (ag 0, .inl (cI, 18, .inl (nA kd2_5))), (ag 1, .inl (cI, 18, .inl (nA ed2_5))), (ag 2, .inl (cL, 18, .inr (.inl (lA cd2_5)))), (ar 5, .inr (4, oT at1 0)), (at1 0, .inl (cL, 17, .inr (.inl (lA bf)))), (at1 1, .inl (cI, 17, .inl (nA ru))), (at1 2, .inl (cI, 17, .inl (nA ps)))] H := hP
    have hD : va_D _ [(hq, .inr (5, oR ar v)), (ar 0, .inr (2, oE ag nn2_5)), (ag 0, .inl (cI, 18, .inl (nA kd2_5))), (ag 1, .inl (cI, 18, .inl (nA ed2_5))), (ag 2, .inl (cL, 18, .inr (.inl (lA cd2_5)))), (ar 5, .inr (4, oT at1 0)), (at1 0, .inl (cL, 17, .inr (.inl (lA bf)))), (at1 1, .inl (cI, 17, .inl (nA ru))), (at1 2, .inl (cI, 17, .inl (nA ps)))] := hD
    try dsimp only at hw
    have hw22 := hw
    refine lv_aload_n (pc := 25) hx hb dX7_load_25 rfl (lv_at hl 0 rfl) ?_
    refine va_get (pc := 26) (D := D) (ci := 5) (v := .ref (ar 0)) (C := RX7) (T := TX7) (N := 7) hx hb hts hinX7 hown hK hP 0 rfl rfl 0 (by decide) lk0 (fun _ h9 => h9) rfl dX7_load_26 ?_
    refine vp_callSi (pc := 29) (W.runV (As := []) (rest := []) ⟨hx, hb, hml, hown, hts⟩ (c_X3_nodeCount l D cI cL cZ (ar 0) ag kd2_5 ed2_5 cd2_5 nn2_5) (cwV 0 hts gX7_load_X3_nodeCount rfl rfl rfl (by decide +kernel) ⟨Nat.le_of_ble_eq_true rfl, Nat.le_of_ble_eq_true rfl⟩) (rP_V (wc := [(ar 0, .inr (2, oE ag nn2_5)), (ag 0, .inl (cI, 18, .inl (nA kd2_5))), (ag 1, .inl (cI, 18, .inl (nA ed2_5))), (ag 2, .inl (cL, 18, .inr (.inl (lA cd2_5))))]) (ci := 2) (q0 := 0) hK hP [1, 2, 3, 4] rfl rfl rfl) rfl rfl hl.1 rfl (lv_room (Nat.le_of_ble_eq_true rfl)) dX7_load_29 ⟨Nat.zero_le _, Nat.zero_le _⟩) (fun r9 hrr => ?_)
    rw [hrr]
    have hP9 : va_P D vwCl [(hq, .inr (5, oR ar v)), (ar 0, .inr (2, oE ag nn2_5)), (ag 0, .inl (cI, 18, .inl (nA kd2_5))), (ag 1, .inl (cI, 18, .inl (nA ed2_5))), (ag 2, .inl (cL, 18, .inr (.inl (lA cd2_5)))), (ar 5, .inr (4, oT at1 0)), (at1 0, .inl (cL, 17, .inr (.inl (lA bf)))), (at1 1, .inl (cI, 17, .inl (nA ru))), (at1 2, .inl (cI, 17, .inl (nA ps)))] H := hP.sub [0, 1, 2, 3, 4, 5, 6, 7, 8] rfl
    have hD9 : va_D _ [(hq, .inr (5, oR ar v)), (ar 0, .inr (2, oE ag nn2_5)), (ag 0, .inl (cI, 18, .inl (nA kd2_5))), (ag 1, .inl (cI, 18, .inl (nA ed2_5))), (ag 2, .inl (cL, 18, .inr (.inl (lA cd2_5)))), (ar 5, .inr (4, oT at1 0)), (at1 0, .inl (cL, 17, .inr (.inl (lA bf)))), (at1 1, .inl (cI, 17, .inl (nA ru))), (at1 2, .inl (cI, 17, .inl (nA ps)))] := hD.sub [0, 1, 2, 3, 4, 5, 6, 7, 8] (by decide) rfl
    exact W.iret (pc := 32) (v := (nI (nn2_5))) hx hb hr (fun t ht hW => ⟨⟨_, (kd2_5, ed2_5, cd2_5, nn2_5, v, 0), rfl, ⟨(by unfold aSize; rw [if_pos c8, (hrd c8).1]), ⟨fun _ => ⟨hxv.symm, rfl⟩, fun h => absurd c8 h⟩⟩, by rw [ht]; exact hP9, va_K.moved hW.alike hK, hD9⟩, hS.F ht⟩) hS.2.2 dX7_load_32
  · refine lv_iconst (pc := 11) (v := ((-1))) hx hb dX7_load_11 (by decide) ?_
    have hP9 : va_P D vwCl [(hq, .inr (5, oR ar cur)), (ar 0, .inr (2, oE ag nn2_5)), (ag 0, .inl (cI, 18, .inl (nA kd2_5))), (ag 1, .inl (cI, 18, .inl (nA ed2_5))), (ag 2, .inl (cL, 18, .inr (.inl (lA cd2_5)))), (ar 5, .inr (4, oT at1 ct1)), (at1 0, .inl (cL, 17, .inr (.inl (lA bf)))), (at1 1, .inl (cI, 17, .inl (nA ru))), (at1 2, .inl (cI, 17, .inl (nA ps)))] H := hP.sub [0, 5, 6, 7, 8, 1, 2, 3, 4] rfl
    have hD9 : va_D _ [(hq, .inr (5, oR ar cur)), (ar 0, .inr (2, oE ag nn2_5)), (ag 0, .inl (cI, 18, .inl (nA kd2_5))), (ag 1, .inl (cI, 18, .inl (nA ed2_5))), (ag 2, .inl (cL, 18, .inr (.inl (lA cd2_5)))), (ar 5, .inr (4, oT at1 ct1)), (at1 0, .inl (cL, 17, .inr (.inl (lA bf)))), (at1 1, .inl (cI, 17, .inl (nA ru))), (at1 2, .inl (cI, 17, .inl (nA ps)))] := hD.sub [0, 5, 6, 7, 8, 1, 2, 3, 4] (by decide) rfl
    exact W.iret (pc := 12) (v := ((-1))) hx hb hr (fun t ht hW => ⟨⟨_, (kd2_5, ed2_5, cd2_5, nn2_5, cur, ct1), rfl, ⟨(if_neg c8).symm, ⟨fun h => absurd h c8, fun _ => ⟨rfl, rfl⟩⟩⟩, by rw [ht]; exact hP9, va_K.moved hW.alike hK, hD9⟩, hS.F ht⟩) hS.2.2 dX7_load_12
set_option maxHeartbeats 4000000 in
set_option maxRecDepth 100000 in
theorem c_X7_current (l : Launch) (D : va_G) (cI cL cZ : ClassId) (hq : Nat) (ar : Nat → Nat) (cur : Nat)  : Met l yX7_current wsX7_current { frames := 0, cells := 0, slots := 0, locals := 0 } (rP D (tyL cI cL cZ) [(hq, .inr (5, oR ar cur))] [.ref hq]) (vp_Sl (fun r => r = (lN (cur)))) 0 0 (fun _ => False) := by
  refine Met.ofW (cc := cX7_current) (maxL := 1) (ret := (some .long)) (by decide) rfl ?_
  intro pG eG s mG args below meth cG s₁ B hml hpre9
  obtain ⟨rfl, hP, hK⟩ := hpre9
  have hx := B.exec
  have hb := B.bytes
  have hr := B.returns
  have hts := atoms_spec (ws := wsX7_current) B.pre
  have hown : s.vm.findClass RX7 = some mG.cls := findClass_of_methodNamed B.named
  have hlocks := B.notSynchronized
  have hS : va_S (fun _ => False) s.heap s.heap [] := va_S.rf
  have hinX7 : ∀ w ∈ wsX70, w ∈ wsX7_current := fun w HH => (List.mem_cons_of_mem _ (List.mem_append_right _ HH))
  have lk0 : (Cond.fieldLink RX7 47 "RegexSimplifier" "currentCode" "J").before _ s = true := hts _ (List.mem_cons_of_mem _ (List.mem_append_left _ (List.mem_of_getElem? (i := 0) rfl)))
  have hl := lv_entry ([.ref hq]) (n := 1) (Nat.le_of_ble_eq_true rfl)
  rw [lg_entry_eq]
  generalize (lg_sl ([.ref hq]) ++ List.replicate (1 - (lg_sl ([.ref hq])).length) Slot.unset).toArray = ls at hl ⊢
  have hl : lv_has ls 1 [(0, .ref hq)] := hl
  refine lv_aload_n (pc := 0) hx hb dX7_current_0 rfl (lv_at hl 0 rfl) ?_
  refine va_get (pc := 1) (D := D) (ci := 5) (v := .long (lN cur)) (C := RX7) (T := TX7) (N := 7) hx hb hts hinX7 hown hK hP 0 rfl rfl 6 (by decide) lk0 (fun _ h9 => h9) rfl dX7_current_1 ?_
  exact W.lret (pc := 4) (v := (lN (cur))) hx hb hr (fun t ht _ => ⟨_, rfl, (by first | rfl | ((repeat' split) <;> first | rfl | omega)), ht⟩) (fun _ h => absurd h List.not_mem_nil) dX7_current_4
set_option maxHeartbeats 4000000 in
set_option maxRecDepth 100000 in
theorem c_X7_stepCount (l : Launch) (D : va_G) (cI cL cZ : ClassId) (hq : Nat) (ar : Nat → Nat) (cur : Nat) (at1 : Nat → Nat) (bf : Nat → Nat) (ru : Nat → Nat) (ps : Nat → Nat) (ct1 : Nat)  : Met l yX7_stepCount wsX7_stepCount { frames := 1, cells := 0, slots := 0, locals := 20 } (rP D (tyL cI cL cZ) [(hq, .inr (5, oR ar cur)), (ar 5, .inr (4, oT at1 ct1)), (at1 0, .inl (cL, 17, .inr (.inl (lA bf)))), (at1 1, .inl (cI, 17, .inl (nA ru))), (at1 2, .inl (cI, 17, .inl (nA ps)))] [.ref hq]) (vp_Si (fun r => r = (nI (ct1)))) 0 0 (fun _ => False) := by
  refine Met.ofW (cc := cX7_stepCount) (maxL := 1) (ret := (some .int)) (by decide) rfl ?_
  intro pG eG s mG args below meth cG s₁ B hml hpre9
  obtain ⟨rfl, hP, hK⟩ := hpre9
  have hx := B.exec
  have hb := B.bytes
  have hr := B.returns
  have hts := atoms_spec (ws := wsX7_stepCount) B.pre
  have hown : s.vm.findClass RX7 = some mG.cls := findClass_of_methodNamed B.named
  have hlocks := B.notSynchronized
  have hS : va_S (fun _ => False) s.heap s.heap [] := va_S.rf
  have hinX7 : ∀ w ∈ wsX70, w ∈ wsX7_stepCount := fun w HH => (List.mem_cons_of_mem _ (List.mem_append_left _ (List.mem_append_right _ HH)))
  have lk0 : (Cond.fieldLink RX7 43 "RegexSimplifier" "steps" "LRegexSimplifier$Steps;").before _ s = true := hts _ (List.mem_cons_of_mem _ (List.mem_append_left _ (List.mem_append_left _ (List.mem_of_getElem? (i := 0) rfl))))
  have hl := lv_entry ([.ref hq]) (n := 1) (Nat.le_of_ble_eq_true rfl)
  rw [lg_entry_eq]
  generalize (lg_sl ([.ref hq]) ++ List.replicate (1 - (lg_sl ([.ref hq])).length) Slot.unset).toArray = ls at hl ⊢
  have hl : lv_has ls 1 [(0, .ref hq)] := hl
  refine lv_aload_n (pc := 0) hx hb dX7_stepCount_0 rfl (lv_at hl 0 rfl) ?_
  refine va_get (pc := 1) (D := D) (ci := 5) (v := .ref (ar 5)) (C := RX7) (T := TX7) (N := 7) hx hb hts hinX7 hown hK hP 0 rfl rfl 5 (by decide) lk0 (fun _ h9 => h9) rfl dX7_stepCount_1 ?_
  refine vp_callSi (pc := 4) (W.runV (As := []) (rest := []) ⟨hx, hb, hml, hown, hts⟩ (c_X6_recorded l D cI cL cZ (ar 5) at1 bf ru ps ct1) (cwV 0 hts gX7_stepCount_X6_recorded rfl rfl rfl (by decide +kernel) ⟨Nat.le_of_ble_eq_true rfl, Nat.le_of_ble_eq_true rfl⟩) (rP_V (wc := [(ar 5, .inr (4, oT at1 ct1)), (at1 0, .inl (cL, 17, .inr (.inl (lA bf)))), (at1 1, .inl (cI, 17, .inl (nA ru))), (at1 2, .inl (cI, 17, .inl (nA ps)))]) (ci := 4) (q0 := 0) hK hP [1, 2, 3, 4] rfl rfl rfl) rfl rfl hl.1 rfl (lv_room (Nat.le_of_ble_eq_true rfl)) dX7_stepCount_4 ⟨Nat.zero_le _, Nat.zero_le _⟩) (fun r9 hrr => ?_)
  rw [hrr]
  exact W.iret (pc := 7) (v := (nI (ct1))) hx hb hr (fun t ht _ => ⟨_, rfl, (by first | rfl | ((repeat' split) <;> first | rfl | omega)), ht⟩) (fun _ h => absurd h List.not_mem_nil) dX7_stepCount_7
set_option maxHeartbeats 4000000 in
set_option maxRecDepth 100000 in
theorem c_X7_stepRule (l : Launch) (D : va_G) (cI cL cZ : ClassId) (hq : Nat) (ar : Nat → Nat) (cur : Nat) (at1 : Nat → Nat) (bf : Nat → Nat) (ru : Nat → Nat) (ps : Nat → Nat) (ct1 : Nat) (x : Int32) (hct : ct1 ≤ 17) : Met l yX7_stepRule wsX7_stepRule { frames := 1, cells := 0, slots := 0, locals := 21 } (rP D (tyL cI cL cZ) [(hq, .inr (5, oR ar cur)), (ar 5, .inr (4, oT at1 ct1)), (at1 0, .inl (cL, 17, .inr (.inl (lA bf)))), (at1 1, .inl (cI, 17, .inl (nA ru))), (at1 2, .inl (cI, 17, .inl (nA ps)))] [.ref hq, .int x]) (vp_Si (fun r => r = (stA ru ct1 x))) 0 0 (fun _ => False) := by
  refine Met.ofW (cc := cX7_stepRule) (maxL := 2) (ret := (some .int)) (by decide) rfl ?_
  intro pG eG s mG args below meth cG s₁ B hml hpre9
  obtain ⟨rfl, hP, hK⟩ := hpre9
  have hx := B.exec
  have hb := B.bytes
  have hr := B.returns
  have hts := atoms_spec (ws := wsX7_stepRule) B.pre
  have hown : s.vm.findClass RX7 = some mG.cls := findClass_of_methodNamed B.named
  have hlocks := B.notSynchronized
  have hS : va_S (fun _ => False) s.heap s.heap [] := va_S.rf
  have hinX7 : ∀ w ∈ wsX70, w ∈ wsX7_stepRule := fun w HH => (List.mem_cons_of_mem _ (List.mem_append_left _ (List.mem_append_right _ HH)))
  have lk0 : (Cond.fieldLink RX7 43 "RegexSimplifier" "steps" "LRegexSimplifier$Steps;").before _ s = true := hts _ (List.mem_cons_of_mem _ (List.mem_append_left _ (List.mem_append_left _ (List.mem_of_getElem? (i := 0) rfl))))
  have hl := lv_entry ([.ref hq, .int x]) (n := 2) (Nat.le_of_ble_eq_true rfl)
  rw [lg_entry_eq]
  generalize (lg_sl ([.ref hq, .int x]) ++ List.replicate (2 - (lg_sl ([.ref hq, .int x])).length) Slot.unset).toArray = ls at hl ⊢
  have hl : lv_has ls 2 [(0, .ref hq), (1, .int x)] := hl
  refine lv_aload_n (pc := 0) hx hb dX7_stepRule_0 rfl (lv_at hl 0 rfl) ?_
  refine va_get (pc := 1) (D := D) (ci := 5) (v := .ref (ar 5)) (C := RX7) (T := TX7) (N := 7) hx hb hts hinX7 hown hK hP 0 rfl rfl 5 (by decide) lk0 (fun _ h9 => h9) rfl dX7_stepRule_1 ?_
  refine lv_iload_n (pc := 4) hx hb dX7_stepRule_4 rfl (lv_at hl 1 rfl) ?_
  refine vp_callSi (pc := 5) (W.runV (As := [.int x]) (rest := []) ⟨hx, hb, hml, hown, hts⟩ (c_X6_ruleAt l D cI cL cZ (ar 5) at1 bf ru ps ct1 x (by omega)) (cwV 1 hts gX7_stepRule_X6_ruleAt rfl rfl rfl (by decide +kernel) ⟨Nat.le_of_ble_eq_true rfl, Nat.le_of_ble_eq_true rfl⟩) (rP_V (wc := [(ar 5, .inr (4, oT at1 ct1)), (at1 0, .inl (cL, 17, .inr (.inl (lA bf)))), (at1 1, .inl (cI, 17, .inl (nA ru))), (at1 2, .inl (cI, 17, .inl (nA ps)))]) (ci := 4) (q0 := 0) hK hP [1, 2, 3, 4] rfl rfl rfl) rfl rfl hl.1 rfl (lv_room (Nat.le_of_ble_eq_true rfl)) dX7_stepRule_5 ⟨Nat.zero_le _, Nat.zero_le _⟩) (fun r9 hrr => ?_)
  rw [hrr]
  exact W.iret (pc := 8) (v := (stA ru ct1 x)) hx hb hr (fun t ht _ => ⟨_, rfl, (by first | rfl | ((repeat' split) <;> first | rfl | omega)), ht⟩) (fun _ h => absurd h List.not_mem_nil) dX7_stepRule_8
set_option maxHeartbeats 4000000 in
set_option maxRecDepth 100000 in
theorem c_X7_stepPosition (l : Launch) (D : va_G) (cI cL cZ : ClassId) (hq : Nat) (ar : Nat → Nat) (cur : Nat) (at1 : Nat → Nat) (bf : Nat → Nat) (ru : Nat → Nat) (ps : Nat → Nat) (ct1 : Nat) (x : Int32) (hct : ct1 ≤ 17) : Met l yX7_stepPosition wsX7_stepPosition { frames := 1, cells := 0, slots := 0, locals := 21 } (rP D (tyL cI cL cZ) [(hq, .inr (5, oR ar cur)), (ar 5, .inr (4, oT at1 ct1)), (at1 0, .inl (cL, 17, .inr (.inl (lA bf)))), (at1 1, .inl (cI, 17, .inl (nA ru))), (at1 2, .inl (cI, 17, .inl (nA ps)))] [.ref hq, .int x]) (vp_Si (fun r => r = (stA ps ct1 x))) 0 0 (fun _ => False) := by
  refine Met.ofW (cc := cX7_stepPosition) (maxL := 2) (ret := (some .int)) (by decide) rfl ?_
  intro pG eG s mG args below meth cG s₁ B hml hpre9
  obtain ⟨rfl, hP, hK⟩ := hpre9
  have hx := B.exec
  have hb := B.bytes
  have hr := B.returns
  have hts := atoms_spec (ws := wsX7_stepPosition) B.pre
  have hown : s.vm.findClass RX7 = some mG.cls := findClass_of_methodNamed B.named
  have hlocks := B.notSynchronized
  have hS : va_S (fun _ => False) s.heap s.heap [] := va_S.rf
  have hinX7 : ∀ w ∈ wsX70, w ∈ wsX7_stepPosition := fun w HH => (List.mem_cons_of_mem _ (List.mem_append_left _ (List.mem_append_right _ HH)))
  have lk0 : (Cond.fieldLink RX7 43 "RegexSimplifier" "steps" "LRegexSimplifier$Steps;").before _ s = true := hts _ (List.mem_cons_of_mem _ (List.mem_append_left _ (List.mem_append_left _ (List.mem_of_getElem? (i := 0) rfl))))
  have hl := lv_entry ([.ref hq, .int x]) (n := 2) (Nat.le_of_ble_eq_true rfl)
  rw [lg_entry_eq]
  generalize (lg_sl ([.ref hq, .int x]) ++ List.replicate (2 - (lg_sl ([.ref hq, .int x])).length) Slot.unset).toArray = ls at hl ⊢
  have hl : lv_has ls 2 [(0, .ref hq), (1, .int x)] := hl
  refine lv_aload_n (pc := 0) hx hb dX7_stepPosition_0 rfl (lv_at hl 0 rfl) ?_
  refine va_get (pc := 1) (D := D) (ci := 5) (v := .ref (ar 5)) (C := RX7) (T := TX7) (N := 7) hx hb hts hinX7 hown hK hP 0 rfl rfl 5 (by decide) lk0 (fun _ h9 => h9) rfl dX7_stepPosition_1 ?_
  refine lv_iload_n (pc := 4) hx hb dX7_stepPosition_4 rfl (lv_at hl 1 rfl) ?_
  refine vp_callSi (pc := 5) (W.runV (As := [.int x]) (rest := []) ⟨hx, hb, hml, hown, hts⟩ (c_X6_positionAt l D cI cL cZ (ar 5) at1 bf ru ps ct1 x (by omega)) (cwV 1 hts gX7_stepPosition_X6_positionAt rfl rfl rfl (by decide +kernel) ⟨Nat.le_of_ble_eq_true rfl, Nat.le_of_ble_eq_true rfl⟩) (rP_V (wc := [(ar 5, .inr (4, oT at1 ct1)), (at1 0, .inl (cL, 17, .inr (.inl (lA bf)))), (at1 1, .inl (cI, 17, .inl (nA ru))), (at1 2, .inl (cI, 17, .inl (nA ps)))]) (ci := 4) (q0 := 0) hK hP [1, 2, 3, 4] rfl rfl rfl) rfl rfl hl.1 rfl (lv_room (Nat.le_of_ble_eq_true rfl)) dX7_stepPosition_5 ⟨Nat.zero_le _, Nat.zero_le _⟩) (fun r9 hrr => ?_)
  rw [hrr]
  exact W.iret (pc := 8) (v := (stA ps ct1 x)) hx hb hr (fun t ht _ => ⟨_, rfl, (by first | rfl | ((repeat' split) <;> first | rfl | omega)), ht⟩) (fun _ h => absurd h List.not_mem_nil) dX7_stepPosition_8
set_option maxHeartbeats 4000000 in
set_option maxRecDepth 100000 in
theorem c_X7_take (l : Launch) (D : va_G) (cI cL cZ : ClassId) (sz : Nat) (hq : Nat) (ar : Nat → Nat) (cur : Nat) (at1 : Nat → Nat) (bf : Nat → Nat) (ru : Nat → Nat) (ps : Nat → Nat) (ct1 : Nat) (v : Nat) (rl : Nat) (p1 : Nat) (hct : ct1 < 17) : Met l yX7_take wsX7_take { frames := 1, cells := 0, slots := 0, locals := 24 } (mP D (tyL cI cL cZ) [(hq, .inr (5, oR ar cur)), (ar 5, .inr (4, oT at1 ct1)), (at1 0, .inl (cL, 17, .inr (.inl (lA bf)))), (at1 1, .inl (cI, 17, .inl (nA ru))), (at1 2, .inl (cI, 17, .inl (nA ps)))] sz [.ref hq, .long (lN v), .int (nI rl), .int (nI p1)]) (va_Qv (fun (u : Unit) => True) (fun (u : Unit) (t : State) => mB D (tyL cI cL cZ) (va_A [(hq, .inr (5, oR ar cur)), (ar 5, .inr (4, oT at1 ct1)), (at1 0, .inl (cL, 17, .inr (.inl (lA bf)))), (at1 1, .inl (cI, 17, .inl (nA ru))), (at1 2, .inl (cI, 17, .inl (nA ps)))] sz) [(hq, .inr (5, oR ar v)), (ar 5, .inr (4, oT at1 (ct1 + 1))), (at1 0, .inl (cL, 17, .inr (.inl (lA (up bf ct1 cur))))), (at1 1, .inl (cI, 17, .inl (nA (up ru ct1 rl)))), (at1 2, .inl (cI, 17, .inl (nA (up ps ct1 p1))))] t) (va_A [(hq, .inr (5, oR ar cur)), (ar 5, .inr (4, oT at1 ct1)), (at1 0, .inl (cL, 17, .inr (.inl (lA bf)))), (at1 1, .inl (cI, 17, .inl (nA ru))), (at1 2, .inl (cI, 17, .inl (nA ps)))] sz)) 0 0 (va_A [(hq, .inr (5, oR ar cur)), (ar 5, .inr (4, oT at1 ct1)), (at1 0, .inl (cL, 17, .inr (.inl (lA bf)))), (at1 1, .inl (cI, 17, .inl (nA ru))), (at1 2, .inl (cI, 17, .inl (nA ps)))] sz) := by
  refine Met.ofW (cc := cX7_take) (maxL := 5) (ret := none) (by decide) rfl ?_
  intro pG eG s mG args below meth cG s₁ B hml hpre9
  obtain ⟨rfl, hsz, hP, hK, hD0⟩ := hpre9
  have hx := B.exec
  have hb := B.bytes
  have hr := B.returns
  have hts := atoms_spec (ws := wsX7_take) B.pre
  have hown : s.vm.findClass RX7 = some mG.cls := findClass_of_methodNamed B.named
  have hlocks := B.notSynchronized
  subst hsz
  have hD := hD0.self (sz := s.heap.size)
  have hA : ∀ q : Nat, s.heap.size ≤ q → va_A [(hq, .inr (5, oR ar cur)), (ar 5, .inr (4, oT at1 ct1)), (at1 0, .inl (cL, 17, .inr (.inl (lA bf)))), (at1 1, .inl (cI, 17, .inl (nA ru))), (at1 2, .inl (cI, 17, .inl (nA ps)))] s.heap.size q := fun q h => Or.inr h
  have hS : va_S (va_A [(hq, .inr (5, oR ar cur)), (ar 5, .inr (4, oT at1 ct1)), (at1 0, .inl (cL, 17, .inr (.inl (lA bf)))), (at1 1, .inl (cI, 17, .inl (nA ru))), (at1 2, .inl (cI, 17, .inl (nA ps)))] s.heap.size) s.heap s.heap [] := va_S.rf
  have hinX7 : ∀ w ∈ wsX70, w ∈ wsX7_take := fun w HH => (List.mem_cons_of_mem _ (List.mem_append_left _ (List.mem_append_right _ HH)))
  have lk0 : (Cond.fieldLink RX7 43 "RegexSimplifier" "steps" "LRegexSimplifier$Steps;").before _ s = true := hts _ (List.mem_cons_of_mem _ (List.mem_append_left _ (List.mem_append_left _ (List.mem_of_getElem? (i := 0) rfl))))
  have lk1 : (Cond.fieldLink RX7 47 "RegexSimplifier" "currentCode" "J").before _ s = true := hts _ (List.mem_cons_of_mem _ (List.mem_append_left _ (List.mem_append_left _ (List.mem_of_getElem? (i := 1) rfl))))
  have hl := lv_entry ([.ref hq, .long (lN v), .int (nI rl), .int (nI p1)]) (n := 5) (Nat.le_of_ble_eq_true rfl)
  rw [lg_entry_eq]
  generalize (lg_sl ([.ref hq, .long (lN v), .int (nI rl), .int (nI p1)]) ++ List.replicate (5 - (lg_sl ([.ref hq, .long (lN v), .int (nI rl), .int (nI p1)])).length) Slot.unset).toArray = ls at hl ⊢
  have hl : lv_has ls 5 [(0, .ref hq), (1, .long (lN v)), (3, .int (nI rl)), (4, .int (nI p1))] := hl
  refine lv_aload_n (pc := 0) hx hb dX7_take_0 rfl (lv_at hl 0 rfl) ?_
  refine va_get (pc := 1) (D := D) (ci := 5) (v := .ref (ar 5)) (C := RX7) (T := TX7) (N := 7) hx hb hts hinX7 hown hK hP 0 rfl rfl 5 (by decide) lk0 (fun _ h9 => h9) rfl dX7_take_1 ?_
  refine lv_aload_n (pc := 4) hx hb dX7_take_4 rfl (lv_at hl 0 rfl) ?_
  refine va_get (pc := 5) (D := D) (ci := 5) (v := .long (lN cur)) (C := RX7) (T := TX7) (N := 7) hx hb hts hinX7 hown hK hP 0 rfl rfl 6 (by decide) lk1 (fun _ h9 => h9) rfl dX7_take_5 ?_
  refine lv_iload_n (pc := 8) hx hb dX7_take_8 rfl (lv_at hl 2 rfl) ?_
  refine lv_iload (pc := 9) hx hb dX7_take_9 (lv_at hl 3 rfl) ?_
  refine xm_callv (pc := 11) (wc := [(ar 5, .inr (4, oT at1 ct1)), (at1 0, .inl (cL, 17, .inr (.inl (lA bf)))), (at1 1, .inl (cI, 17, .inl (nA ru))), (at1 2, .inl (cI, 17, .inl (nA ps)))]) (wr := [(hq, .inr (5, oR ar cur))]) (va_runV (As := [.long (lN cur), .int (nI rl), .int (nI p1)]) (rest := []) ⟨hx, hb, hml, hown, hts⟩ (c_X6_record l D cI cL cZ s.heap.size (ar 5) at1 bf ru ps ct1 cur rl p1 (by omega)) (cwV 3 hts gX7_take_X6_record rfl rfl rfl (by decide +kernel) ⟨Nat.le_of_ble_eq_true rfl, Nat.le_of_ble_eq_true rfl⟩) (mP_V (wc := [(ar 5, .inr (4, oT at1 ct1)), (at1 0, .inl (cL, 17, .inr (.inl (lA bf)))), (at1 1, .inl (cI, 17, .inl (nA ru))), (at1 2, .inl (cI, 17, .inl (nA ps)))]) (ci := 4) (q0 := 0) hK hP hD [1, 2, 3, 4] (by decide) rfl rfl rfl) rfl rfl hl.1 rfl (lv_room (Nat.le_of_ble_eq_true rfl)) dX7_take_11 ⟨Nat.zero_le _, Nat.zero_le _⟩) hP hD hS hA [1, 2, 3, 4] [0] rfl rfl (by decide) (by decide) (fun u H locs hw hP hD hS => ?_)
  have hP : va_P D vwCl [(hq, .inr (5, oR ar cur)), (ar 5, .inr (4, oT at1 (ct1 + 1))), (at1 0, .inl (cL, 17, .inr (.inl (lA (up bf ct1 cur))))), (at1 1, .inl (cI, 17, .inl (nA (up ru ct1 rl)))), (at1 2, .inl (cI, 17, .inl (nA (up ps ct1 p1))))] H := hP
  have hD : va_D _ [(hq, .inr (5, oR ar cur)), (ar 5, .inr (4, oT at1 (ct1 + 1))), (at1 0, .inl (cL, 17, .inr (.inl (lA (up bf ct1 cur))))), (at1 1, .inl (cI, 17, .inl (nA (up ru ct1 rl)))), (at1 2, .inl (cI, 17, .inl (nA (up ps ct1 p1))))] := hD
  try dsimp only at hw
  have hw11 := hw
  refine lv_aload_n (pc := 14) hx hb dX7_take_14 rfl (lv_at hl 0 rfl) ?_
  refine lv_lload_n (pc := 15) hx hb dX7_take_15 rfl (lv_at hl 1 rfl) ?_
  refine va_put (pc := 16) (D := D) (ci := 5) (v := .long (lN v)) (ty := .long) (C := RX7) (T := TX7) (N := 7) hx hb hts hinX7 tyX7 tyX7_ok nmX7 hown hK hP hD hS 0 rfl rfl 6 (by decide) lk1 (fun _ h9 => h9) rfl (by decide +kernel) rfl rfl (Nat.le_of_ble_eq_true rfl) dX7_take_16 (fun H locs hP hD hS => ?_)
  have hP : va_P D vwCl [(hq, .inr (5, oR ar v)), (ar 5, .inr (4, oT at1 (ct1 + 1))), (at1 0, .inl (cL, 17, .inr (.inl (lA (up bf ct1 cur))))), (at1 1, .inl (cI, 17, .inl (nA (up ru ct1 rl)))), (at1 2, .inl (cI, 17, .inl (nA (up ps ct1 p1))))] H := hP
  have hD : va_D _ [(hq, .inr (5, oR ar v)), (ar 5, .inr (4, oT at1 (ct1 + 1))), (at1 0, .inl (cL, 17, .inr (.inl (lA (up bf ct1 cur))))), (at1 1, .inl (cI, 17, .inl (nA (up ru ct1 rl)))), (at1 2, .inl (cI, 17, .inl (nA (up ps ct1 p1))))] := hD
  have hP9 : va_P D vwCl [(hq, .inr (5, oR ar v)), (ar 5, .inr (4, oT at1 (ct1 + 1))), (at1 0, .inl (cL, 17, .inr (.inl (lA (up bf ct1 cur))))), (at1 1, .inl (cI, 17, .inl (nA (up ru ct1 rl)))), (at1 2, .inl (cI, 17, .inl (nA (up ps ct1 p1))))] H := hP.sub [0, 1, 2, 3, 4] rfl
  have hD9 : va_D _ [(hq, .inr (5, oR ar v)), (ar 5, .inr (4, oT at1 (ct1 + 1))), (at1 0, .inl (cL, 17, .inr (.inl (lA (up bf ct1 cur))))), (at1 1, .inl (cI, 17, .inl (nA (up ru ct1 rl)))), (at1 2, .inl (cI, 17, .inl (nA (up ps ct1 p1))))] := hD.sub [0, 1, 2, 3, 4] (by decide) rfl
  exact W.vret (pc := 19) hx hb hr (fun t ht hW => ⟨⟨(), rfl, trivial, by rw [ht]; exact hP9, va_K.moved hW.alike hK, hD9⟩, hS.F ht⟩) hS.2.2 dX7_take_19
set_option maxHeartbeats 4000000 in
set_option maxRecDepth 100000 in
theorem c_X7_apply (l : Launch) (D : va_G) (cI cL cZ : ClassId) (tp tr : Nat) (sz : Nat) (hq : Nat) (ar : Nat → Nat) (cur : Nat) (ag : Nat → Nat) (kd : Nat → Nat) (ed : Nat → Nat) (cd : Nat → Nat) (nn : Nat) (rl : Int32) (px : Int32) (at1 : Nat → Nat) (bf : Nat → Nat) (ru : Nat → Nat) (ps : Nat → Nat) (ct1 : Nat) (hcur : okVb cur = true) (hct : ct1 + dc cur ≤ 18) : Met l yX7_apply wsX7_apply { frames := 5, cells := 0, slots := 0, locals := 127 } (mPS D (tyL cI cL cZ) tp tr [(hq, .inr (5, oR ar cur)), (ar 0, .inr (2, oE ag nn)), (ag 0, .inl (cI, 18, .inl (nA kd))), (ag 1, .inl (cI, 18, .inl (nA ed))), (ag 2, .inl (cL, 18, .inr (.inl (lA cd)))), (ar 5, .inr (4, oT at1 ct1)), (at1 0, .inl (cL, 17, .inr (.inl (lA bf)))), (at1 1, .inl (cI, 17, .inl (nA ru))), (at1 2, .inl (cI, 17, .inl (nA ps)))] sz [.ref hq, .int rl, .int px]) (va_Qi (fun (r : Int32) (u : (Nat → Nat) × (Nat → Nat) × (Nat → Nat) × Nat × Nat × (Nat → Nat) × (Nat → Nat) × (Nat → Nat) × Nat) => r = (aAp cur rl px) ∧ ((tkB cur rl px = true → u.2.2.2.2.1 = nx cur (rn rl) (rn px) ∧ u.2.2.2.2.2.1 = up bf ct1 cur ∧ u.2.2.2.2.2.2.1 = up ru ct1 (rn rl) ∧ u.2.2.2.2.2.2.2.1 = up ps ct1 (rn px) ∧ u.2.2.2.2.2.2.2.2 = ct1 + 1) ∧ (¬ tkB cur rl px = true → u.2.2.2.2.1 = cur ∧ u.2.2.2.2.2.1 = bf ∧ u.2.2.2.2.2.2.1 = ru ∧ u.2.2.2.2.2.2.2.1 = ps ∧ u.2.2.2.2.2.2.2.2 = ct1))) (fun (u : (Nat → Nat) × (Nat → Nat) × (Nat → Nat) × Nat × Nat × (Nat → Nat) × (Nat → Nat) × (Nat → Nat) × Nat) (t : State) => mB D (tyL cI cL cZ) (va_A [(hq, .inr (5, oR ar cur)), (ar 0, .inr (2, oE ag nn)), (ag 0, .inl (cI, 18, .inl (nA kd))), (ag 1, .inl (cI, 18, .inl (nA ed))), (ag 2, .inl (cL, 18, .inr (.inl (lA cd)))), (ar 5, .inr (4, oT at1 ct1)), (at1 0, .inl (cL, 17, .inr (.inl (lA bf)))), (at1 1, .inl (cI, 17, .inl (nA ru))), (at1 2, .inl (cI, 17, .inl (nA ps)))] sz) [(hq, .inr (5, oR ar (u.2.2.2.2.1))), (ar 0, .inr (2, oE ag (u.2.2.2.1))), (ag 0, .inl (cI, 18, .inl (nA (u.1)))), (ag 1, .inl (cI, 18, .inl (nA (u.2.1)))), (ag 2, .inl (cL, 18, .inr (.inl (lA (u.2.2.1))))), (ar 5, .inr (4, oT at1 (u.2.2.2.2.2.2.2.2))), (at1 0, .inl (cL, 17, .inr (.inl (lA (u.2.2.2.2.2.1))))), (at1 1, .inl (cI, 17, .inl (nA (u.2.2.2.2.2.2.1)))), (at1 2, .inl (cI, 17, .inl (nA (u.2.2.2.2.2.2.2.1))))] t) (va_A [(hq, .inr (5, oR ar cur)), (ar 0, .inr (2, oE ag nn)), (ag 0, .inl (cI, 18, .inl (nA kd))), (ag 1, .inl (cI, 18, .inl (nA ed))), (ag 2, .inl (cL, 18, .inr (.inl (lA cd)))), (ar 5, .inr (4, oT at1 ct1)), (at1 0, .inl (cL, 17, .inr (.inl (lA bf)))), (at1 1, .inl (cI, 17, .inl (nA ru))), (at1 2, .inl (cI, 17, .inl (nA ps)))] sz)) 0 0 (va_A [(hq, .inr (5, oR ar cur)), (ar 0, .inr (2, oE ag nn)), (ag 0, .inl (cI, 18, .inl (nA kd))), (ag 1, .inl (cI, 18, .inl (nA ed))), (ag 2, .inl (cL, 18, .inr (.inl (lA cd)))), (ar 5, .inr (4, oT at1 ct1)), (at1 0, .inl (cL, 17, .inr (.inl (lA bf)))), (at1 1, .inl (cI, 17, .inl (nA ru))), (at1 2, .inl (cI, 17, .inl (nA ps)))] sz) := by
  refine Met.ofW (cc := cX7_apply) (maxL := 5) (ret := (some .int)) (by decide) rfl ?_
  intro pG eG s mG args below meth cG s₁ B hml hpre9
  obtain ⟨rfl, hsz, hP, hK, hD0, hZ⟩ := hpre9
  have hx := B.exec
  have hb := B.bytes
  have hr := B.returns
  have hts := atoms_spec (ws := wsX7_apply) B.pre
  have hown : s.vm.findClass RX7 = some mG.cls := findClass_of_methodNamed B.named
  have hlocks := B.notSynchronized
  subst hsz
  have hD := hD0.self (sz := s.heap.size)
  have hA : ∀ q : Nat, s.heap.size ≤ q → va_A [(hq, .inr (5, oR ar cur)), (ar 0, .inr (2, oE ag nn)), (ag 0, .inl (cI, 18, .inl (nA kd))), (ag 1, .inl (cI, 18, .inl (nA ed))), (ag 2, .inl (cL, 18, .inr (.inl (lA cd)))), (ar 5, .inr (4, oT at1 ct1)), (at1 0, .inl (cL, 17, .inr (.inl (lA bf)))), (at1 1, .inl (cI, 17, .inl (nA ru))), (at1 2, .inl (cI, 17, .inl (nA ps)))] s.heap.size q := fun q h => Or.inr h
  have hS : va_S (va_A [(hq, .inr (5, oR ar cur)), (ar 0, .inr (2, oE ag nn)), (ag 0, .inl (cI, 18, .inl (nA kd))), (ag 1, .inl (cI, 18, .inl (nA ed))), (ag 2, .inl (cL, 18, .inr (.inl (lA cd)))), (ar 5, .inr (4, oT at1 ct1)), (at1 0, .inl (cL, 17, .inr (.inl (lA bf)))), (at1 1, .inl (cI, 17, .inl (nA ru))), (at1 2, .inl (cI, 17, .inl (nA ps)))] s.heap.size) s.heap s.heap [] := va_S.rf
  have hinX7 : ∀ w ∈ wsX70, w ∈ wsX7_apply := fun w HH => (List.mem_cons_of_mem _ (List.mem_append_left _ (List.mem_append_left _ (List.mem_append_right _ HH))))
  have lk0 : (Cond.fieldLink RX7 12 "RegexSimplifier" "given" "LRegexSimplifier$Expression;").before _ s = true := hts _ (List.mem_cons_of_mem _ (List.mem_append_left _ (List.mem_append_left _ (List.mem_append_left _ (List.mem_append_left _ (List.mem_of_getElem? (i := 0) rfl))))))
  have lk1 : (Cond.fieldLink RX7 47 "RegexSimplifier" "currentCode" "J").before _ s = true := hts _ (List.mem_cons_of_mem _ (List.mem_append_left _ (List.mem_append_left _ (List.mem_append_left _ (List.mem_append_left _ (List.mem_of_getElem? (i := 1) rfl))))))
  have hl := lv_entry ([.ref hq, .int rl, .int px]) (n := 5) (Nat.le_of_ble_eq_true rfl)
  rw [lg_entry_eq]
  generalize (lg_sl ([.ref hq, .int rl, .int px]) ++ List.replicate (5 - (lg_sl ([.ref hq, .int rl, .int px])).length) Slot.unset).toArray = ls at hl ⊢
  have hl : lv_has ls 5 [(0, .ref hq), (1, .int rl), (2, .int px)] := hl
  have hc18 := (okVb_iff.mp hcur).2.1
  have hcv : xv (lN cur) = cur := xv_lN (Nat.lt_trans hc18 pow18)
  refine lv_aload_n (pc := 0) hx hb dX7_apply_0 rfl (lv_at hl 0 rfl) ?_
  refine va_get (pc := 1) (D := D) (ci := 5) (v := .ref (ar 0)) (C := RX7) (T := TX7) (N := 7) hx hb hts hinX7 hown hK hP 0 rfl rfl 0 (by decide) lk0 (fun _ h9 => h9) rfl dX7_apply_1 ?_
  refine lv_aload_n (pc := 4) hx hb dX7_apply_4 rfl (lv_at hl 0 rfl) ?_
  refine va_get (pc := 5) (D := D) (ci := 5) (v := .long (lN cur)) (C := RX7) (T := TX7) (N := 7) hx hb hts hinX7 hown hK hP 0 rfl rfl 6 (by decide) lk1 (fun _ h9 => h9) rfl dX7_apply_5 ?_
  refine xm_calli (pc := 8) (wc := [(ar 0, .inr (2, oE ag nn)), (ag 0, .inl (cI, 18, .inl (nA kd))), (ag 1, .inl (cI, 18, .inl (nA ed))), (ag 2, .inl (cL, 18, .inr (.inl (lA cd))))]) (wr := [(hq, .inr (5, oR ar cur)), (ar 5, .inr (4, oT at1 ct1)), (at1 0, .inl (cL, 17, .inr (.inl (lA bf)))), (at1 1, .inl (cI, 17, .inl (nA ru))), (at1 2, .inl (cI, 17, .inl (nA ps)))]) (va_runV (As := [.long (lN cur)]) (rest := []) ⟨hx, hb, hml, hown, hts⟩ (c_X3_read l D cI cL cZ tp tr s.heap.size (ar 0) ag kd ed cd nn ((lN (cur)))) (cwV 1 hts gX7_apply_X3_read rfl rfl rfl (by decide +kernel) ⟨Nat.le_of_ble_eq_true rfl, Nat.le_of_ble_eq_true rfl⟩) (mPS_V (wc := [(ar 0, .inr (2, oE ag nn)), (ag 0, .inl (cI, 18, .inl (nA kd))), (ag 1, .inl (cI, 18, .inl (nA ed))), (ag 2, .inl (cL, 18, .inr (.inl (lA cd))))]) (ci := 2) (q0 := 0) hK hP hD hZ hS hA [1, 2, 3, 4] (by decide) rfl rfl rfl) rfl rfl hl.1 rfl (lv_room (Nat.le_of_ble_eq_true rfl)) dX7_apply_8 ⟨Nat.zero_le _, Nat.zero_le _⟩) hP hD hS hA [1, 2, 3, 4] [0, 5, 6, 7, 8] rfl rfl (by decide) (by decide) (fun r9 u H locs hw hP hD hS => ?_)
  obtain ⟨kd2_8, ed2_8, cd2_8, nn2_8⟩ := u
  have hP : va_P D vwCl [(hq, .inr (5, oR ar cur)), (ar 5, .inr (4, oT at1 ct1)), (at1 0, .inl (cL, 17, .inr (.inl (lA bf)))), (at1 1, .inl (cI, 17, .inl (nA ru))), (at1 2, .inl (cI, 17, .inl (nA ps))), (ar 0, .inr (2, oE ag nn2_8)), (ag 0, .inl (cI, 18, .inl (nA kd2_8))), (ag 1, .inl (cI, 18, .inl (nA ed2_8))), (ag 2, .inl (cL, 18, .inr (.inl (lA cd2_8))))] H := hP
  have hD : va_D _ [(hq, .inr (5, oR ar cur)), (ar 5, .inr (4, oT at1 ct1)), (at1 0, .inl (cL, 17, .inr (.inl (lA bf)))), (at1 1, .inl (cI, 17, .inl (nA ru))), (at1 2, .inl (cI, 17, .inl (nA ps))), (ar 0, .inr (2, oE ag nn2_8)), (ag 0, .inl (cI, 18, .inl (nA kd2_8))), (ag 1, .inl (cI, 18, .inl (nA ed2_8))), (ag 2, .inl (cL, 18, .inr (.inl (lA cd2_8))))] := hD
  try dsimp only at hw
  obtain ⟨hrr, ⟨hrd0, hnrd⟩⟩ := hw
  rw [hrr]
  rw [hcv] at hrd0
  have hrd := hrd0 hcur
  refine lv_pop (pc := 11) hx hb dX7_apply_11 rfl ?_
  refine lv_aload_n (pc := 12) hx hb dX7_apply_12 rfl (lv_at hl 0 rfl) ?_
  refine va_get (pc := 13) (D := D) (ci := 5) (v := .ref (ar 0)) (C := RX7) (T := TX7) (N := 7) hx hb hts hinX7 hown hK hP 0 rfl rfl 0 (by decide) lk0 (fun _ h9 => h9) rfl dX7_apply_13 ?_
  refine lv_iload_n (pc := 16) hx hb dX7_apply_16 rfl (lv_at hl 1 rfl) ?_
  refine lv_iload_n (pc := 17) hx hb dX7_apply_17 rfl (lv_at hl 2 rfl) ?_
  refine vp_callSl (pc := 18) (W.runS (As := [.ref (ar 0), .int rl, .int px]) (rest := []) ⟨hx, hb, hml, hown, hts⟩ (c_X7_stepResult l D cI cL cZ tp tr (ar 0) ag kd2_8 ed2_8 cd2_8 nn2_8 cur rl px hcur hrd) (va_cwS 3 hts gX7_apply_X7_stepResult rfl rfl rfl (by decide +kernel) ⟨Nat.le_of_ble_eq_true rfl, Nat.le_of_ble_eq_true rfl⟩) (rPS_S (wc := [(ar 0, .inr (2, oE ag nn2_8)), (ag 0, .inl (cI, 18, .inl (nA kd2_8))), (ag 1, .inl (cI, 18, .inl (nA ed2_8))), (ag 2, .inl (cL, 18, .inr (.inl (lA cd2_8))))]) hK hP hZ hS [5, 6, 7, 8] rfl) rfl rfl hl.1 rfl (lv_room (Nat.le_of_ble_eq_true rfl)) dX7_apply_18 ⟨Nat.zero_le _, Nat.zero_le _⟩) (fun r9 hrr => ?_)
  rw [hrr]
  refine lv_lstore_n (pc := 21) (lv' := [(3, .long (sR cur rl px)), (0, .ref hq), (1, .int rl), (2, .int px)]) hx hb dX7_apply_21 rfl hl (by decide) rfl (fun ls hl => ?_)
  refine lv_lload_n (pc := 22) hx hb dX7_apply_22 rfl (lv_at hl 0 rfl) ?_
  refine lv_lconst (pc := 23) (v := (lN (0))) hx hb dX7_apply_23 (by decide) ?_
  refine xl_ge (pc := 24) (tgt := 31) hx hb dX7_apply_24 dX7_apply_25 (by decide) (fun c24 => ?_) (fun c24 => ?_)
  · obtain ⟨r, hr16, rfl, p, hp, rfl, hoI⟩ := sR_ge c24
    have h18 := (dc_lt hc18).2
    have hnx := nx_ok hcur (oI_some hoI hr16 hp h18)
    have hl : lv_has ls 5 [(3, .long (lN (nx cur r p))), (0, .ref hq), (1, .int (nI r)), (2, .int (nI p))] := by have hq9 : (sR cur (nI (r)) (nI (p))) = (lN (nx cur r p)) := (by rw [sR_nI hr16 hp h18, if_pos hoI]); first | (rw [← hq9]; exact hl) | (rw [hq9] at hl; exact hl)
    refine lv_aload_n (pc := 31) hx hb dX7_apply_31 rfl (lv_at hl 1 rfl) ?_
    refine lv_lload_n (pc := 32) hx hb dX7_apply_32 rfl (lv_at hl 0 rfl) ?_
    refine lv_iload_n (pc := 33) hx hb dX7_apply_33 rfl (lv_at hl 2 rfl) ?_
    refine lv_iload_n (pc := 34) hx hb dX7_apply_34 rfl (lv_at hl 3 rfl) ?_
    refine xm_callv (pc := 35) (wc := [(hq, .inr (5, oR ar cur)), (ar 5, .inr (4, oT at1 ct1)), (at1 0, .inl (cL, 17, .inr (.inl (lA bf)))), (at1 1, .inl (cI, 17, .inl (nA ru))), (at1 2, .inl (cI, 17, .inl (nA ps)))]) (wr := [(ar 0, .inr (2, oE ag nn2_8)), (ag 0, .inl (cI, 18, .inl (nA kd2_8))), (ag 1, .inl (cI, 18, .inl (nA ed2_8))), (ag 2, .inl (cL, 18, .inr (.inl (lA cd2_8))))]) (va_runV (As := [.long (lN (nx cur r p)), .int (nI r), .int (nI p)]) (rest := []) ⟨hx, hb, hml, hown, hts⟩ (c_X7_take l D cI cL cZ H.size hq ar cur at1 bf ru ps ct1 (nx cur r p) r p (by have := (dc_in (nx cur r p)).1; omega)) (cwV 3 hts gX7_apply_X7_take rfl rfl rfl (by decide +kernel) ⟨Nat.le_of_ble_eq_true rfl, Nat.le_of_ble_eq_true rfl⟩) (mP_V (wc := [(hq, .inr (5, oR ar cur)), (ar 5, .inr (4, oT at1 ct1)), (at1 0, .inl (cL, 17, .inr (.inl (lA bf)))), (at1 1, .inl (cI, 17, .inl (nA ru))), (at1 2, .inl (cI, 17, .inl (nA ps)))]) (ci := 5) (q0 := 0) hK hP hD [0, 1, 2, 3, 4] (by decide) rfl rfl rfl) rfl rfl hl.1 rfl (lv_room (Nat.le_of_ble_eq_true rfl)) dX7_apply_35 ⟨Nat.zero_le _, Nat.zero_le _⟩) hP hD hS hA [0, 1, 2, 3, 4] [5, 6, 7, 8] rfl rfl (by decide) (by decide) (fun u H locs hw hP hD hS => ?_)
    have hP : va_P D vwCl [(ar 0, .inr (2, oE ag nn2_8)), (ag 0, .inl (cI, 18, .inl (nA kd2_8))), (ag 1, .inl (cI, 18, .inl (nA ed2_8))), (ag 2, .inl (cL, 18, .inr (.inl (lA cd2_8)))), (hq, .inr (5, oR ar ((nx cur r p)))), (ar 5, .inr (4, oT at1 (ct1 + 1))), (at1 0, .inl (cL, 17, .inr (.inl (lA (up bf ct1 cur))))), (at1 1, .inl (cI, 17, .inl (nA (up ru ct1 r)))), (at1 2, .inl (cI, 17, .inl (nA (up ps ct1 p))))] H := hP
    have hD : va_D _ [(ar 0, .inr (2, oE ag nn2_8)), (ag 0, .inl (cI, 18, .inl (nA kd2_8))), (ag 1, .inl (cI, 18, .inl (nA ed2_8))), (ag 2, .inl (cL, 18, .inr (.inl (lA cd2_8)))), (hq, .inr (5, oR ar ((nx cur r p)))), (ar 5, .inr (4, oT at1 (ct1 + 1))), (at1 0, .inl (cL, 17, .inr (.inl (lA (up bf ct1 cur))))), (at1 1, .inl (cI, 17, .inl (nA (up ru ct1 r)))), (at1 2, .inl (cI, 17, .inl (nA (up ps ct1 p))))] := hD
    try dsimp only at hw
    have hw35 := hw
    refine lv_lload_n (pc := 38) hx hb dX7_apply_38 rfl (lv_at hl 0 rfl) ?_
    refine vp_callSi (pc := 39) (W.runS (As := [.long (lN (nx cur r p))]) (rest := []) ⟨hx, hb, hml, hown, hts⟩ (c_X1_digitCount l D cI cL cZ tp tr (nx cur r p) (Nat.lt_trans (okVb_iff.mp hnx.1).2.1 pow18)) (va_cwS 1 hts gX7_apply_X1_digitCount rfl rfl rfl (by decide +kernel) ⟨Nat.le_of_ble_eq_true rfl, Nat.le_of_ble_eq_true rfl⟩) (rPS_S (wc := []) hK hP hZ hS [] rfl) rfl rfl hl.1 rfl (lv_room (Nat.le_of_ble_eq_true rfl)) dX7_apply_39 ⟨Nat.zero_le _, Nat.zero_le _⟩) (fun r9 hrr => ?_)
    rw [hrr]
    have hP9 : va_P D vwCl [(hq, .inr (5, oR ar (((nx cur r p))))), (ar 0, .inr (2, oE ag nn2_8)), (ag 0, .inl (cI, 18, .inl (nA kd2_8))), (ag 1, .inl (cI, 18, .inl (nA ed2_8))), (ag 2, .inl (cL, 18, .inr (.inl (lA cd2_8)))), (ar 5, .inr (4, oT at1 ((ct1 + 1)))), (at1 0, .inl (cL, 17, .inr (.inl (lA ((up bf ct1 cur)))))), (at1 1, .inl (cI, 17, .inl (nA ((up ru ct1 r))))), (at1 2, .inl (cI, 17, .inl (nA ((up ps ct1 p)))))] H := hP.sub [4, 0, 1, 2, 3, 5, 6, 7, 8] rfl
    have hD9 : va_D _ [(hq, .inr (5, oR ar (((nx cur r p))))), (ar 0, .inr (2, oE ag nn2_8)), (ag 0, .inl (cI, 18, .inl (nA kd2_8))), (ag 1, .inl (cI, 18, .inl (nA ed2_8))), (ag 2, .inl (cL, 18, .inr (.inl (lA cd2_8)))), (ar 5, .inr (4, oT at1 ((ct1 + 1)))), (at1 0, .inl (cL, 17, .inr (.inl (lA ((up bf ct1 cur)))))), (at1 1, .inl (cI, 17, .inl (nA ((up ru ct1 r))))), (at1 2, .inl (cI, 17, .inl (nA ((up ps ct1 p)))))] := hD.sub [4, 0, 1, 2, 3, 5, 6, 7, 8] (by decide) rfl
    exact W.iret (pc := 42) (v := (nI (dc (nx cur r p)))) hx hb hr (fun t ht hW => ⟨⟨_, (kd2_8, ed2_8, cd2_8, nn2_8, (nx cur r p), up bf ct1 cur, up ru ct1 r, up ps ct1 p, ct1 + 1), rfl, ⟨(by unfold aAp; rw [if_pos ((rok_nI (by omega)).mpr hr16), if_pos ((rok_nI (by omega)).mpr hp), if_pos hoI, rn_nI (by omega), rn_nI (by omega)]), ⟨fun _ => ⟨by rw [rn_nI (by omega), rn_nI (by omega)], rfl, by rw [rn_nI (by omega)], by rw [rn_nI (by omega)], rfl⟩, fun h => absurd (tkB_nI hr16 hp h18 hoI) h⟩⟩, by rw [ht]; exact hP9, va_K.moved hW.alike hK, hD9⟩, hS.F ht⟩) hS.2.2 dX7_apply_42
  · refine lv_lload_n (pc := 28) hx hb dX7_apply_28 rfl (lv_at hl 0 rfl) ?_
    refine lv_l2i (pc := 29) (v := (sR cur rl px).toInt32) hx hb dX7_apply_29 rfl ?_
    have hP9 : va_P D vwCl [(hq, .inr (5, oR ar cur)), (ar 0, .inr (2, oE ag nn2_8)), (ag 0, .inl (cI, 18, .inl (nA kd2_8))), (ag 1, .inl (cI, 18, .inl (nA ed2_8))), (ag 2, .inl (cL, 18, .inr (.inl (lA cd2_8)))), (ar 5, .inr (4, oT at1 ct1)), (at1 0, .inl (cL, 17, .inr (.inl (lA bf)))), (at1 1, .inl (cI, 17, .inl (nA ru))), (at1 2, .inl (cI, 17, .inl (nA ps)))] H := hP.sub [0, 5, 6, 7, 8, 1, 2, 3, 4] rfl
    have hD9 : va_D _ [(hq, .inr (5, oR ar cur)), (ar 0, .inr (2, oE ag nn2_8)), (ag 0, .inl (cI, 18, .inl (nA kd2_8))), (ag 1, .inl (cI, 18, .inl (nA ed2_8))), (ag 2, .inl (cL, 18, .inr (.inl (lA cd2_8)))), (ar 5, .inr (4, oT at1 ct1)), (at1 0, .inl (cL, 17, .inr (.inl (lA bf)))), (at1 1, .inl (cI, 17, .inl (nA ru))), (at1 2, .inl (cI, 17, .inl (nA ps)))] := hD.sub [0, 5, 6, 7, 8, 1, 2, 3, 4] (by decide) rfl
    exact W.iret (pc := 30) (v := ((sR cur rl px).toInt32)) hx hb hr (fun t ht hW => ⟨⟨_, (kd2_8, ed2_8, cd2_8, nn2_8, cur, bf, ru, ps, ct1), rfl, ⟨(sR_lt c24).1, ⟨fun h => absurd h (sR_lt c24).2, fun _ => ⟨rfl, rfl, rfl, rfl, rfl⟩⟩⟩, by rw [ht]; exact hP9, va_K.moved hW.alike hK, hD9⟩, hS.F ht⟩) hS.2.2 dX7_apply_30
set_option maxHeartbeats 4000000 in
set_option maxRecDepth 100000 in
theorem c_X7_undo (l : Launch) (D : va_G) (cI cL cZ : ClassId) (tp tr : Nat) (sz : Nat) (hq : Nat) (ar : Nat → Nat) (cur : Nat) (ag : Nat → Nat) (kd : Nat → Nat) (ed : Nat → Nat) (cd : Nat → Nat) (nn : Nat) (x : Int32) (at1 : Nat → Nat) (bf : Nat → Nat) (ru : Nat → Nat) (ps : Nat → Nat) (ct1 : Nat) (hct : ct1 ≤ 17) : Met l yX7_undo wsX7_undo { frames := 1, cells := 0, slots := 0, locals := 22 } (mPS D (tyL cI cL cZ) tp tr [(hq, .inr (5, oR ar cur)), (ar 5, .inr (4, oT at1 ct1)), (at1 0, .inl (cL, 17, .inr (.inl (lA bf)))), (at1 1, .inl (cI, 17, .inl (nA ru))), (at1 2, .inl (cI, 17, .inl (nA ps)))] sz [.ref hq, .int x]) (va_Qi (fun (r : Int32) (u : Nat × Nat) => r = (aUn ct1 x) ∧ ((rok x (ct1 + 1) = true → u.2 = ct1 - rn x ∧ u.1 = (if rn x = 0 then cur else bf (ct1 - rn x))) ∧ (¬ rok x (ct1 + 1) = true → u.1 = cur ∧ u.2 = ct1))) (fun (u : Nat × Nat) (t : State) => mB D (tyL cI cL cZ) (va_A [(hq, .inr (5, oR ar cur)), (ar 5, .inr (4, oT at1 ct1)), (at1 0, .inl (cL, 17, .inr (.inl (lA bf)))), (at1 1, .inl (cI, 17, .inl (nA ru))), (at1 2, .inl (cI, 17, .inl (nA ps)))] sz) [(hq, .inr (5, oR ar (u.1))), (ar 5, .inr (4, oT at1 (u.2))), (at1 0, .inl (cL, 17, .inr (.inl (lA bf)))), (at1 1, .inl (cI, 17, .inl (nA ru))), (at1 2, .inl (cI, 17, .inl (nA ps)))] t) (va_A [(hq, .inr (5, oR ar cur)), (ar 5, .inr (4, oT at1 ct1)), (at1 0, .inl (cL, 17, .inr (.inl (lA bf)))), (at1 1, .inl (cI, 17, .inl (nA ru))), (at1 2, .inl (cI, 17, .inl (nA ps)))] sz)) 0 0 (va_A [(hq, .inr (5, oR ar cur)), (ar 5, .inr (4, oT at1 ct1)), (at1 0, .inl (cL, 17, .inr (.inl (lA bf)))), (at1 1, .inl (cI, 17, .inl (nA ru))), (at1 2, .inl (cI, 17, .inl (nA ps)))] sz) := by
  refine Met.ofW (cc := cX7_undo) (maxL := 2) (ret := (some .int)) (by decide) rfl ?_
  intro pG eG s mG args below meth cG s₁ B hml hpre9
  obtain ⟨rfl, hsz, hP, hK, hD0, hZ⟩ := hpre9
  have hx := B.exec
  have hb := B.bytes
  have hr := B.returns
  have hts := atoms_spec (ws := wsX7_undo) B.pre
  have hown : s.vm.findClass RX7 = some mG.cls := findClass_of_methodNamed B.named
  have hlocks := B.notSynchronized
  subst hsz
  have hD := hD0.self (sz := s.heap.size)
  have hA : ∀ q : Nat, s.heap.size ≤ q → va_A [(hq, .inr (5, oR ar cur)), (ar 5, .inr (4, oT at1 ct1)), (at1 0, .inl (cL, 17, .inr (.inl (lA bf)))), (at1 1, .inl (cI, 17, .inl (nA ru))), (at1 2, .inl (cI, 17, .inl (nA ps)))] s.heap.size q := fun q h => Or.inr h
  have hS : va_S (va_A [(hq, .inr (5, oR ar cur)), (ar 5, .inr (4, oT at1 ct1)), (at1 0, .inl (cL, 17, .inr (.inl (lA bf)))), (at1 1, .inl (cI, 17, .inl (nA ru))), (at1 2, .inl (cI, 17, .inl (nA ps)))] s.heap.size) s.heap s.heap [] := va_S.rf
  have hinX7 : ∀ w ∈ wsX70, w ∈ wsX7_undo := fun w HH => (List.mem_cons_of_mem _ (List.mem_append_left _ (List.mem_append_right _ HH)))
  have lk0 : (Cond.fieldLink RX7 43 "RegexSimplifier" "steps" "LRegexSimplifier$Steps;").before _ s = true := hts _ (List.mem_cons_of_mem _ (List.mem_append_left _ (List.mem_append_left _ (List.mem_of_getElem? (i := 0) rfl))))
  have lk1 : (Cond.fieldLink RX7 47 "RegexSimplifier" "currentCode" "J").before _ s = true := hts _ (List.mem_cons_of_mem _ (List.mem_append_left _ (List.mem_append_left _ (List.mem_of_getElem? (i := 1) rfl))))
  have hl := lv_entry ([.ref hq, .int x]) (n := 2) (Nat.le_of_ble_eq_true rfl)
  rw [lg_entry_eq]
  generalize (lg_sl ([.ref hq, .int x]) ++ List.replicate (2 - (lg_sl ([.ref hq, .int x])).length) Slot.unset).toArray = ls at hl ⊢
  have hl : lv_has ls 2 [(0, .ref hq), (1, .int x)] := hl
  refine lv_iload_n (pc := 0) hx hb dX7_undo_0 rfl (lv_at hl 1 rfl) ?_
  refine lv_if_lt (pc := 1) (tgt := 15) hx hb dX7_undo_1 (by decide) (fun c1 => ?_) (fun c1 => ?_)
  · refine lv_bipush (pc := 15) (v := ((-5))) hx hb dX7_undo_15 (by decide) ?_
    have hP9 : va_P D vwCl [(hq, .inr (5, oR ar cur)), (ar 5, .inr (4, oT at1 ct1)), (at1 0, .inl (cL, 17, .inr (.inl (lA bf)))), (at1 1, .inl (cI, 17, .inl (nA ru))), (at1 2, .inl (cI, 17, .inl (nA ps)))] s.heap := hP.sub [0, 1, 2, 3, 4] rfl
    have hD9 : va_D _ [(hq, .inr (5, oR ar cur)), (ar 5, .inr (4, oT at1 ct1)), (at1 0, .inl (cL, 17, .inr (.inl (lA bf)))), (at1 1, .inl (cI, 17, .inl (nA ru))), (at1 2, .inl (cI, 17, .inl (nA ps)))] := hD.sub [0, 1, 2, 3, 4] (by decide) rfl
    exact W.iret (pc := 17) (v := ((-5))) hx hb hr (fun t ht hW => ⟨⟨_, (cur, ct1), rfl, ⟨(if_neg (rok_neg c1)).symm, ⟨fun h => absurd h (rok_neg c1), fun _ => ⟨rfl, rfl⟩⟩⟩, by rw [ht]; exact hP9, va_K.moved hW.alike hK, hD9⟩, hS.F ht⟩) hS.2.2 dX7_undo_17
  · obtain ⟨q, hq1, rfl⟩ := nI_of c1
    have hrk := rok_nI (k := q) (m := ct1 + 1) hq1
    have hrn := rn_nI hq1
    refine lv_iload_n (pc := 4) hx hb dX7_undo_4 rfl (lv_at hl 1 rfl) ?_
    refine lv_aload_n (pc := 5) hx hb dX7_undo_5 rfl (lv_at hl 0 rfl) ?_
    refine va_get (pc := 6) (D := D) (ci := 5) (v := .ref (ar 5)) (C := RX7) (T := TX7) (N := 7) hx hb hts hinX7 hown hK hP 0 rfl rfl 5 (by decide) lk0 (fun _ h9 => h9) rfl dX7_undo_6 ?_
    refine vp_callSi (pc := 9) (W.runV (As := []) (rest := [.int (nI q)]) ⟨hx, hb, hml, hown, hts⟩ (c_X6_recorded l D cI cL cZ (ar 5) at1 bf ru ps ct1) (cwV 0 hts gX7_undo_X6_recorded rfl rfl rfl (by decide +kernel) ⟨Nat.le_of_ble_eq_true rfl, Nat.le_of_ble_eq_true rfl⟩) (rP_V (wc := [(ar 5, .inr (4, oT at1 ct1)), (at1 0, .inl (cL, 17, .inr (.inl (lA bf)))), (at1 1, .inl (cI, 17, .inl (nA ru))), (at1 2, .inl (cI, 17, .inl (nA ps)))]) (ci := 4) (q0 := 0) hK hP [1, 2, 3, 4] rfl rfl rfl) rfl rfl hl.1 rfl (lv_room (Nat.le_of_ble_eq_true rfl)) dX7_undo_9 ⟨Nat.zero_le _, Nat.zero_le _⟩) (fun r9 hrr => ?_)
    rw [hrr]
    refine xn_icmp_le (pc := 12) (tgt := 18) hx hb (by omega) (by omega) dX7_undo_12 (by decide) (fun c12 => ?_) (fun c12 => ?_)
    · refine lv_iload_n (pc := 18) hx hb dX7_undo_18 rfl (lv_at hl 1 rfl) ?_
      refine xn_if_le (pc := 19) (tgt := 34) hx hb (by omega) dX7_undo_19 (by decide) (fun c19 => ?_) (fun c19 => ?_)
      · refine lv_aload_n (pc := 34) hx hb dX7_undo_34 rfl (lv_at hl 0 rfl) ?_
        refine va_get (pc := 35) (D := D) (ci := 5) (v := .ref (ar 5)) (C := RX7) (T := TX7) (N := 7) hx hb hts hinX7 hown hK hP 0 rfl rfl 5 (by decide) lk0 (fun _ h9 => h9) rfl dX7_undo_35 ?_
        refine vp_callSi (pc := 38) (W.runV (As := []) (rest := []) ⟨hx, hb, hml, hown, hts⟩ (c_X6_recorded l D cI cL cZ (ar 5) at1 bf ru ps ct1) (cwV 0 hts gX7_undo_X6_recorded rfl rfl rfl (by decide +kernel) ⟨Nat.le_of_ble_eq_true rfl, Nat.le_of_ble_eq_true rfl⟩) (rP_V (wc := [(ar 5, .inr (4, oT at1 ct1)), (at1 0, .inl (cL, 17, .inr (.inl (lA bf)))), (at1 1, .inl (cI, 17, .inl (nA ru))), (at1 2, .inl (cI, 17, .inl (nA ps)))]) (ci := 4) (q0 := 0) hK hP [1, 2, 3, 4] rfl rfl rfl) rfl rfl hl.1 rfl (lv_room (Nat.le_of_ble_eq_true rfl)) dX7_undo_38 ⟨Nat.zero_le _, Nat.zero_le _⟩) (fun r9 hrr => ?_)
        rw [hrr]
        have hP9 : va_P D vwCl [(hq, .inr (5, oR ar cur)), (ar 5, .inr (4, oT at1 ct1)), (at1 0, .inl (cL, 17, .inr (.inl (lA bf)))), (at1 1, .inl (cI, 17, .inl (nA ru))), (at1 2, .inl (cI, 17, .inl (nA ps)))] s.heap := hP.sub [0, 1, 2, 3, 4] rfl
        have hD9 : va_D _ [(hq, .inr (5, oR ar cur)), (ar 5, .inr (4, oT at1 ct1)), (at1 0, .inl (cL, 17, .inr (.inl (lA bf)))), (at1 1, .inl (cI, 17, .inl (nA ru))), (at1 2, .inl (cI, 17, .inl (nA ps)))] := hD.sub [0, 1, 2, 3, 4] (by decide) rfl
        exact W.iret (pc := 41) (v := (nI (ct1))) hx hb hr (fun t ht hW => ⟨⟨_, (cur, ct1), rfl, ⟨(by unfold aUn; rw [if_pos (hrk.mpr (by omega)), hrn, c19]; rfl), ⟨fun _ => by rw [hrn]; first | exact ⟨rfl, (if_neg (by omega)).symm⟩ | exact ⟨by omega, (if_pos c19).symm⟩, fun h => absurd (hrk.mpr (by omega)) h⟩⟩, by rw [ht]; exact hP9, va_K.moved hW.alike hK, hD9⟩, hS.F ht⟩) hS.2.2 dX7_undo_41
      · refine lv_aload_n (pc := 22) hx hb dX7_undo_22 rfl (lv_at hl 0 rfl) ?_
        refine lv_aload_n (pc := 23) hx hb dX7_undo_23 rfl (lv_at hl 0 rfl) ?_
        refine va_get (pc := 24) (D := D) (ci := 5) (v := .ref (ar 5)) (C := RX7) (T := TX7) (N := 7) hx hb hts hinX7 hown hK hP 0 rfl rfl 5 (by decide) lk0 (fun _ h9 => h9) rfl dX7_undo_24 ?_
        refine lv_iload_n (pc := 27) hx hb dX7_undo_27 rfl (lv_at hl 1 rfl) ?_
        refine xm_calll (pc := 28) (wc := [(ar 5, .inr (4, oT at1 ct1)), (at1 0, .inl (cL, 17, .inr (.inl (lA bf)))), (at1 1, .inl (cI, 17, .inl (nA ru))), (at1 2, .inl (cI, 17, .inl (nA ps)))]) (wr := [(hq, .inr (5, oR ar cur))]) (va_runV (As := [.int (nI q)]) (rest := [.ref hq]) ⟨hx, hb, hml, hown, hts⟩ (c_X6_takeBack l D cI cL cZ s.heap.size (ar 5) at1 bf ru ps ct1 q (by omega) (by omega) (by omega)) (cwV 1 hts gX7_undo_X6_takeBack rfl rfl rfl (by decide +kernel) ⟨Nat.le_of_ble_eq_true rfl, Nat.le_of_ble_eq_true rfl⟩) (mP_V (wc := [(ar 5, .inr (4, oT at1 ct1)), (at1 0, .inl (cL, 17, .inr (.inl (lA bf)))), (at1 1, .inl (cI, 17, .inl (nA ru))), (at1 2, .inl (cI, 17, .inl (nA ps)))]) (ci := 4) (q0 := 0) hK hP hD [1, 2, 3, 4] (by decide) rfl rfl rfl) rfl rfl hl.1 rfl (lv_room (Nat.le_of_ble_eq_true rfl)) dX7_undo_28 ⟨Nat.zero_le _, Nat.zero_le _⟩) hP hD hS hA [1, 2, 3, 4] [0] rfl rfl (by decide) (by decide) (fun r9 u H locs hw hP hD hS => ?_)
        have hP : va_P D vwCl [(hq, .inr (5, oR ar cur)), (ar 5, .inr (4, oT at1 (ct1 - q))), (at1 0, .inl (cL, 17, .inr (.inl (lA bf)))), (at1 1, .inl (cI, 17, .inl (nA ru))), (at1 2, .inl (cI, 17, .inl (nA ps)))] H := hP
        have hD : va_D _ [(hq, .inr (5, oR ar cur)), (ar 5, .inr (4, oT at1 (ct1 - q))), (at1 0, .inl (cL, 17, .inr (.inl (lA bf)))), (at1 1, .inl (cI, 17, .inl (nA ru))), (at1 2, .inl (cI, 17, .inl (nA ps)))] := hD
        try dsimp only at hw
        obtain ⟨hrr, hw28⟩ := hw
        rw [hrr]
        refine va_put (pc := 31) (D := D) (ci := 5) (v := .long (lN (bf (ct1 - q)))) (ty := .long) (C := RX7) (T := TX7) (N := 7) hx hb hts hinX7 tyX7 tyX7_ok nmX7 hown hK hP hD hS 0 rfl rfl 6 (by decide) lk1 (fun _ h9 => h9) rfl (by decide +kernel) rfl rfl (Nat.le_of_ble_eq_true rfl) dX7_undo_31 (fun H locs hP hD hS => ?_)
        have hP : va_P D vwCl [(hq, .inr (5, oR ar (bf (ct1 - q)))), (ar 5, .inr (4, oT at1 (ct1 - q))), (at1 0, .inl (cL, 17, .inr (.inl (lA bf)))), (at1 1, .inl (cI, 17, .inl (nA ru))), (at1 2, .inl (cI, 17, .inl (nA ps)))] H := hP
        have hD : va_D _ [(hq, .inr (5, oR ar (bf (ct1 - q)))), (ar 5, .inr (4, oT at1 (ct1 - q))), (at1 0, .inl (cL, 17, .inr (.inl (lA bf)))), (at1 1, .inl (cI, 17, .inl (nA ru))), (at1 2, .inl (cI, 17, .inl (nA ps)))] := hD
        refine lv_aload_n (pc := 34) hx hb dX7_undo_34 rfl (lv_at hl 0 rfl) ?_
        refine va_get (pc := 35) (D := D) (ci := 5) (v := .ref (ar 5)) (C := RX7) (T := TX7) (N := 7) hx hb hts hinX7 hown hK hP 0 rfl rfl 5 (by decide) lk0 (fun _ h9 => h9) rfl dX7_undo_35 ?_
        refine vp_callSi (pc := 38) (W.runV (As := []) (rest := []) ⟨hx, hb, hml, hown, hts⟩ (c_X6_recorded l D cI cL cZ (ar 5) at1 bf ru ps (ct1 - q)) (cwV 0 hts gX7_undo_X6_recorded rfl rfl rfl (by decide +kernel) ⟨Nat.le_of_ble_eq_true rfl, Nat.le_of_ble_eq_true rfl⟩) (rP_V (wc := [(ar 5, .inr (4, oT at1 ((ct1 - q)))), (at1 0, .inl (cL, 17, .inr (.inl (lA bf)))), (at1 1, .inl (cI, 17, .inl (nA ru))), (at1 2, .inl (cI, 17, .inl (nA ps)))]) (ci := 4) (q0 := 0) hK hP [1, 2, 3, 4] rfl rfl rfl) rfl rfl hl.1 rfl (lv_room (Nat.le_of_ble_eq_true rfl)) dX7_undo_38 ⟨Nat.zero_le _, Nat.zero_le _⟩) (fun r9 hrr => ?_)
        rw [hrr]
        have hP9 : va_P D vwCl [(hq, .inr (5, oR ar ((bf (ct1 - q))))), (ar 5, .inr (4, oT at1 ((ct1 - q)))), (at1 0, .inl (cL, 17, .inr (.inl (lA bf)))), (at1 1, .inl (cI, 17, .inl (nA ru))), (at1 2, .inl (cI, 17, .inl (nA ps)))] H := hP.sub [0, 1, 2, 3, 4] rfl
        have hD9 : va_D _ [(hq, .inr (5, oR ar ((bf (ct1 - q))))), (ar 5, .inr (4, oT at1 ((ct1 - q)))), (at1 0, .inl (cL, 17, .inr (.inl (lA bf)))), (at1 1, .inl (cI, 17, .inl (nA ru))), (at1 2, .inl (cI, 17, .inl (nA ps)))] := hD.sub [0, 1, 2, 3, 4] (by decide) rfl
        exact W.iret (pc := 41) (v := (nI ((ct1 - q)))) hx hb hr (fun t ht hW => ⟨⟨_, (bf (ct1 - q), ct1 - q), rfl, ⟨(by unfold aUn; rw [if_pos (hrk.mpr (by omega)), hrn]), ⟨fun _ => by rw [hrn]; first | exact ⟨rfl, (if_neg (by omega)).symm⟩ | exact ⟨by omega, (if_pos c19).symm⟩, fun h => absurd (hrk.mpr (by omega)) h⟩⟩, by rw [ht]; exact hP9, va_K.moved hW.alike hK, hD9⟩, hS.F ht⟩) hS.2.2 dX7_undo_41
    · refine lv_bipush (pc := 15) (v := ((-5))) hx hb dX7_undo_15 (by decide) ?_
      have hP9 : va_P D vwCl [(hq, .inr (5, oR ar cur)), (ar 5, .inr (4, oT at1 ct1)), (at1 0, .inl (cL, 17, .inr (.inl (lA bf)))), (at1 1, .inl (cI, 17, .inl (nA ru))), (at1 2, .inl (cI, 17, .inl (nA ps)))] s.heap := hP.sub [0, 1, 2, 3, 4] rfl
      have hD9 : va_D _ [(hq, .inr (5, oR ar cur)), (ar 5, .inr (4, oT at1 ct1)), (at1 0, .inl (cL, 17, .inr (.inl (lA bf)))), (at1 1, .inl (cI, 17, .inl (nA ru))), (at1 2, .inl (cI, 17, .inl (nA ps)))] := hD.sub [0, 1, 2, 3, 4] (by decide) rfl
      exact W.iret (pc := 17) (v := ((-5))) hx hb hr (fun t ht hW => ⟨⟨_, (cur, ct1), rfl, ⟨(if_neg (fun h => by have := hrk.mp h; omega)).symm, ⟨fun h => by have := hrk.mp h; omega, fun _ => ⟨rfl, rfl⟩⟩⟩, by rw [ht]; exact hP9, va_K.moved hW.alike hK, hD9⟩, hS.F ht⟩) hS.2.2 dX7_undo_17
