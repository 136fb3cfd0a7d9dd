/-! Expression: what its readers answer -/
theorem neg_toInt {x : Int32} (h : x < 0) : x.toInt < 0 := (fa_lt _ _).mp h
set_option maxHeartbeats 4000000 in
set_option maxRecDepth 100000 in
theorem c_X3_nodeCount (l : Launch) (D : va_G) (cI cL cZ : ClassId) (he : Nat) (ae : Nat → Nat) (kd : Nat → Nat) (ed : Nat → Nat) (cd : Nat → Nat) (nn : Nat)  : Met l yX3_nodeCount wsX3_nodeCount { frames := 0, cells := 0, slots := 0, locals := 0 } (rP D (tyL cI cL cZ) [(he, .inr (2, oE ae nn)), (ae 0, .inl (cI, 18, .inl (nA kd))), (ae 1, .inl (cI, 18, .inl (nA ed))), (ae 2, .inl (cL, 18, .inr (.inl (lA cd))))] [.ref he]) (vp_Si (fun r => r = (nI (nn)))) 0 0 (fun _ => False) := by
  refine Met.ofW (cc := cX3_nodeCount) (maxL := 1) (ret := (some .int)) (by decide) rfl ?_
  intro pG eG s mG args below meth cG s₁ B hml hpre9
  obtain ⟨rfl, hP, hK⟩ := hpre9
  have hx := B.exec
  have hb := B.bytes
  have hr := B.returns
  have hts := atoms_spec (ws := wsX3_nodeCount) B.pre
  have hown : s.vm.findClass RX3 = some mG.cls := findClass_of_methodNamed B.named
  have hlocks := B.notSynchronized
  have hS : va_S (fun _ => False) s.heap s.heap [] := va_S.rf
  have hinX3 : ∀ w ∈ wsX30, w ∈ wsX3_nodeCount := fun w HH => (List.mem_cons_of_mem _ (List.mem_append_right _ HH))
  have lk0 : (Cond.fieldLink RX3 22 "RegexSimplifier$Expression" "nodes" "I").before _ s = true := hts _ (List.mem_cons_of_mem _ (List.mem_append_left _ (List.mem_of_getElem? (i := 0) rfl)))
  have hl := lv_entry ([.ref he]) (n := 1) (Nat.le_of_ble_eq_true rfl)
  rw [lg_entry_eq]
  generalize (lg_sl ([.ref he]) ++ List.replicate (1 - (lg_sl ([.ref he])).length) Slot.unset).toArray = ls at hl ⊢
  have hl : lv_has ls 1 [(0, .ref he)] := hl
  refine lv_aload_n (pc := 0) hx hb dX3_nodeCount_0 rfl (lv_at hl 0 rfl) ?_
  refine va_get (pc := 1) (D := D) (ci := 2) (v := .int (nI nn)) (C := RX3) (T := TX3) (N := 4) hx hb hts hinX3 hown hK hP 0 rfl rfl 3 (by decide) lk0 (fun _ h9 => h9) rfl dX3_nodeCount_1 ?_
  exact W.iret (pc := 4) (v := (nI (nn))) hx hb hr (fun t ht _ => ⟨_, rfl, (by first | rfl | ((repeat' split) <;> first | rfl | omega)), ht⟩) (fun _ h => absurd h List.not_mem_nil) dX3_nodeCount_4
set_option maxHeartbeats 4000000 in
set_option maxRecDepth 100000 in
theorem c_X3_has (l : Launch) (D : va_G) (cI cL cZ : ClassId) (he : Nat) (ae : Nat → Nat) (kd : Nat → Nat) (ed : Nat → Nat) (cd : Nat → Nat) (nn : Nat) (x : Int32) (hn : nn ≤ 18) : Met l yX3_has wsX3_has { frames := 0, cells := 0, slots := 0, locals := 0 } (rP D (tyL cI cL cZ) [(he, .inr (2, oE ae nn)), (ae 0, .inl (cI, 18, .inl (nA kd))), (ae 1, .inl (cI, 18, .inl (nA ed))), (ae 2, .inl (cL, 18, .inr (.inl (lA cd))))] [.ref he, .int x]) (vp_Si (fun r => r = (nI (pN (0 ≤ x.toInt ∧ x.toInt < nn))))) 0 0 (fun _ => False) := by
  refine Met.ofW (cc := cX3_has) (maxL := 2) (ret := (some .boolean)) (by decide) rfl ?_
  intro pG eG s mG args below meth cG s₁ B hml hpre9
  obtain ⟨rfl, hP, hK⟩ := hpre9
  have hx := B.exec
  have hb := B.bytes
  have hr := B.returns
  have hts := atoms_spec (ws := wsX3_has) B.pre
  have hown : s.vm.findClass RX3 = some mG.cls := findClass_of_methodNamed B.named
  have hlocks := B.notSynchronized
  have hS : va_S (fun _ => False) s.heap s.heap [] := va_S.rf
  have hinX3 : ∀ w ∈ wsX30, w ∈ wsX3_has := fun w HH => (List.mem_cons_of_mem _ (List.mem_append_right _ HH))
  have lk0 : (Cond.fieldLink RX3 22 "RegexSimplifier$Expression" "nodes" "I").before _ s = true := hts _ (List.mem_cons_of_mem _ (List.mem_append_left _ (List.mem_of_getElem? (i := 0) rfl)))
  have hl := lv_entry ([.ref he, .int x]) (n := 2) (Nat.le_of_ble_eq_true rfl)
  rw [lg_entry_eq]
  generalize (lg_sl ([.ref he, .int x]) ++ List.replicate (2 - (lg_sl ([.ref he, .int x])).length) Slot.unset).toArray = ls at hl ⊢
  have hl : lv_has ls 2 [(0, .ref he), (1, .int x)] := hl
  refine lv_iload_n (pc := 0) hx hb dX3_has_0 rfl (lv_at hl 1 rfl) ?_
  refine lv_if_lt (pc := 1) (tgt := 16) hx hb dX3_has_1 (by decide) (fun c1 => ?_) (fun c1 => ?_)
  · refine lv_iconst (pc := 16) (v := (nI (0))) hx hb dX3_has_16 (by decide) ?_
    exact W.zret (pc := 17) (v := (nI (0))) (ty := .boolean) hx hb hr (by decide) (fun t ht _ => ⟨_, rfl, (by first | exact congrArg nI (pN_t ⟨by rw [nI_toInt hq]; omega, by rw [nI_toInt hq]; omega⟩).symm | exact congrArg nI (pN_f (fun h => by rw [nI_toInt hq] at h; omega)).symm | exact congrArg nI (pN_f (fun h => by have h5 := neg_toInt c1; omega)).symm), ht⟩) (fun _ h => absurd h List.not_mem_nil) dX3_has_17
  · obtain ⟨q, hq, rfl⟩ := nI_of c1
    refine lv_iload_n (pc := 4) hx hb dX3_has_4 rfl (lv_at hl 1 rfl) ?_
    refine lv_aload_n (pc := 5) hx hb dX3_has_5 rfl (lv_at hl 0 rfl) ?_
    refine va_get (pc := 6) (D := D) (ci := 2) (v := .int (nI nn)) (C := RX3) (T := TX3) (N := 4) hx hb hts hinX3 hown hK hP 0 rfl rfl 3 (by decide) lk0 (fun _ h9 => h9) rfl dX3_has_6 ?_
    refine xn_icmp_ge (pc := 9) (tgt := 16) hx hb (by omega) (by omega) dX3_has_9 (by decide) (fun c9 => ?_) (fun c9 => ?_)
    · refine lv_iconst (pc := 16) (v := (nI (0))) hx hb dX3_has_16 (by decide) ?_
      exact W.zret (pc := 17) (v := (nI (0))) (ty := .boolean) hx hb hr (by decide) (fun t ht _ => ⟨_, rfl, (by first | exact congrArg nI (pN_t ⟨by rw [nI_toInt hq]; omega, by rw [nI_toInt hq]; omega⟩).symm | exact congrArg nI (pN_f (fun h => by rw [nI_toInt hq] at h; omega)).symm | exact congrArg nI (pN_f (fun h => by have h5 := neg_toInt c1; omega)).symm), ht⟩) (fun _ h => absurd h List.not_mem_nil) dX3_has_17
    · refine lv_iconst (pc := 12) (v := (nI (1))) hx hb dX3_has_12 (by decide) ?_
      refine lv_goto (pc := 13) (tgt := 17) hx hb dX3_has_13 (by decide) ?_
      exact W.zret (pc := 17) (v := (nI (1))) (ty := .boolean) hx hb hr (by decide) (fun t ht _ => ⟨_, rfl, (by first | exact congrArg nI (pN_t ⟨by rw [nI_toInt hq]; omega, by rw [nI_toInt hq]; omega⟩).symm | exact congrArg nI (pN_f (fun h => by rw [nI_toInt hq] at h; omega)).symm | exact congrArg nI (pN_f (fun h => by have h5 := neg_toInt c1; omega)).symm), ht⟩) (fun _ h => absurd h List.not_mem_nil) dX3_has_17
set_option maxHeartbeats 4000000 in
set_option maxRecDepth 100000 in
theorem c_X3_kindAt (l : Launch) (D : va_G) (cI cL cZ : ClassId) (he : Nat) (ae : Nat → Nat) (kd : Nat → Nat) (ed : Nat → Nat) (cd : Nat → Nat) (nn : Nat) (p : Nat) (hn : nn ≤ 18) (hp : p < 2 ^ 30) : Met l yX3_kindAt wsX3_kindAt { frames := 0, cells := 0, slots := 0, locals := 0 } (rP D (tyL cI cL cZ) [(he, .inr (2, oE ae nn)), (ae 0, .inl (cI, 18, .inl (nA kd))), (ae 1, .inl (cI, 18, .inl (nA ed))), (ae 2, .inl (cL, 18, .inr (.inl (lA cd))))] [.ref he, .int (nI p)]) (vp_Si (fun r => r = (nI (kA kd nn p)))) 0 0 (fun _ => False) := by
  refine Met.ofW (cc := cX3_kindAt) (maxL := 2) (ret := (some .int)) (by decide) rfl ?_
  intro pG eG s mG args below meth cG s₁ B hml hpre9
  obtain ⟨rfl, hP, hK⟩ := hpre9
  have hx := B.exec
  have hb := B.bytes
  have hr := B.returns
  have hts := atoms_spec (ws := wsX3_kindAt) B.pre
  have hown : s.vm.findClass RX3 = some mG.cls := findClass_of_methodNamed B.named
  have hlocks := B.notSynchronized
  have hS : va_S (fun _ => False) s.heap s.heap [] := va_S.rf
  have hinX3 : ∀ w ∈ wsX30, w ∈ wsX3_kindAt := fun w HH => (List.mem_cons_of_mem _ (List.mem_append_right _ HH))
  have lk0 : (Cond.fieldLink RX3 22 "RegexSimplifier$Expression" "nodes" "I").before _ s = true := hts _ (List.mem_cons_of_mem _ (List.mem_append_left _ (List.mem_of_getElem? (i := 0) rfl)))
  have lk1 : (Cond.fieldLink RX3 9 "RegexSimplifier$Expression" "kinds" "[I").before _ s = true := hts _ (List.mem_cons_of_mem _ (List.mem_append_left _ (List.mem_of_getElem? (i := 1) rfl)))
  have hl := lv_entry ([.ref he, .int (nI p)]) (n := 2) (Nat.le_of_ble_eq_true rfl)
  rw [lg_entry_eq]
  generalize (lg_sl ([.ref he, .int (nI p)]) ++ List.replicate (2 - (lg_sl ([.ref he, .int (nI p)])).length) Slot.unset).toArray = ls at hl ⊢
  have hl : lv_has ls 2 [(0, .ref he), (1, .int (nI p))] := hl
  refine lv_iload_n (pc := 0) hx hb dX3_kindAt_0 rfl (lv_at hl 1 rfl) ?_
  refine xn_if_lt (pc := 1) (tgt := 21) hx hb (by omega) dX3_kindAt_1 (by decide) ?_
  refine lv_iload_n (pc := 4) hx hb dX3_kindAt_4 rfl (lv_at hl 1 rfl) ?_
  refine lv_aload_n (pc := 5) hx hb dX3_kindAt_5 rfl (lv_at hl 0 rfl) ?_
  refine va_get (pc := 6) (D := D) (ci := 2) (v := .int (nI nn)) (C := RX3) (T := TX3) (N := 4) hx hb hts hinX3 hown hK hP 0 rfl rfl 3 (by decide) lk0 (fun _ h9 => h9) rfl dX3_kindAt_6 ?_
  refine xn_icmp_ge (pc := 9) (tgt := 21) hx hb (by omega) (by omega) dX3_kindAt_9 (by decide) (fun c9 => ?_) (fun c9 => ?_)
  · refine lv_iconst (pc := 21) (v := (nI (0))) hx hb dX3_kindAt_21 (by decide) ?_
    exact W.iret (pc := 22) (v := (nI (0))) hx hb hr (fun t ht _ => ⟨_, rfl, (by unfold kA; first | (rw [if_pos (by omega)]) | (rw [if_neg (by omega)])), ht⟩) (fun _ h => absurd h List.not_mem_nil) dX3_kindAt_22
  · refine lv_aload_n (pc := 12) hx hb dX3_kindAt_12 rfl (lv_at hl 0 rfl) ?_
    refine va_get (pc := 13) (D := D) (ci := 2) (v := .ref (ae 0)) (C := RX3) (T := TX3) (N := 4) hx hb hts hinX3 hown hK hP 0 rfl rfl 0 (by decide) lk1 (fun _ h9 => h9) rfl dX3_kindAt_13 ?_
    refine lv_iload_n (pc := 16) hx hb dX3_kindAt_16 rfl (lv_at hl 1 rfl) ?_
    refine xa_iald (pc := 17) hx hb hK hP 1 0 rfl rfl (by omega) (by omega) dX3_kindAt_17 ?_
    refine lv_goto (pc := 18) (tgt := 22) hx hb dX3_kindAt_18 (by decide) ?_
    exact W.iret (pc := 22) (v := (nI (kd p))) hx hb hr (fun t ht _ => ⟨_, rfl, (by unfold kA; first | (rw [if_pos (by omega)]) | (rw [if_neg (by omega)])), ht⟩) (fun _ h => absurd h List.not_mem_nil) dX3_kindAt_22
set_option maxHeartbeats 4000000 in
set_option maxRecDepth 100000 in
theorem c_X3_codeAt (l : Launch) (D : va_G) (cI cL cZ : ClassId) (he : Nat) (ae : Nat → Nat) (kd : Nat → Nat) (ed : Nat → Nat) (cd : Nat → Nat) (nn : Nat) (p : Nat) (hn : nn ≤ 18) (hp : p < 2 ^ 30) : Met l yX3_codeAt wsX3_codeAt { frames := 0, cells := 0, slots := 0, locals := 0 } (rP D (tyL cI cL cZ) [(he, .inr (2, oE ae nn)), (ae 0, .inl (cI, 18, .inl (nA kd))), (ae 1, .inl (cI, 18, .inl (nA ed))), (ae 2, .inl (cL, 18, .inr (.inl (lA cd))))] [.ref he, .int (nI p)]) (vp_Sl (fun r => r = (lN (kA cd nn p)))) 0 0 (fun _ => False) := by
  refine Met.ofW (cc := cX3_codeAt) (maxL := 2) (ret := (some .long)) (by decide) rfl ?_
  intro pG eG s mG args below meth cG s₁ B hml hpre9
  obtain ⟨rfl, hP, hK⟩ := hpre9
  have hx := B.exec
  have hb := B.bytes
  have hr := B.returns
  have hts := atoms_spec (ws := wsX3_codeAt) B.pre
  have hown : s.vm.findClass RX3 = some mG.cls := findClass_of_methodNamed B.named
  have hlocks := B.notSynchronized
  have hS : va_S (fun _ => False) s.heap s.heap [] := va_S.rf
  have hinX3 : ∀ w ∈ wsX30, w ∈ wsX3_codeAt := fun w HH => (List.mem_cons_of_mem _ (List.mem_append_right _ HH))
  have lk0 : (Cond.fieldLink RX3 22 "RegexSimplifier$Expression" "nodes" "I").before _ s = true := hts _ (List.mem_cons_of_mem _ (List.mem_append_left _ (List.mem_of_getElem? (i := 0) rfl)))
  have lk1 : (Cond.fieldLink RX3 18 "RegexSimplifier$Expression" "codes" "[J").before _ s = true := hts _ (List.mem_cons_of_mem _ (List.mem_append_left _ (List.mem_of_getElem? (i := 1) rfl)))
  have hl := lv_entry ([.ref he, .int (nI p)]) (n := 2) (Nat.le_of_ble_eq_true rfl)
  rw [lg_entry_eq]
  generalize (lg_sl ([.ref he, .int (nI p)]) ++ List.replicate (2 - (lg_sl ([.ref he, .int (nI p)])).length) Slot.unset).toArray = ls at hl ⊢
  have hl : lv_has ls 2 [(0, .ref he), (1, .int (nI p))] := hl
  refine lv_iload_n (pc := 0) hx hb dX3_codeAt_0 rfl (lv_at hl 1 rfl) ?_
  refine xn_if_lt (pc := 1) (tgt := 21) hx hb (by omega) dX3_codeAt_1 (by decide) ?_
  refine lv_iload_n (pc := 4) hx hb dX3_codeAt_4 rfl (lv_at hl 1 rfl) ?_
  refine lv_aload_n (pc := 5) hx hb dX3_codeAt_5 rfl (lv_at hl 0 rfl) ?_
  refine va_get (pc := 6) (D := D) (ci := 2) (v := .int (nI nn)) (C := RX3) (T := TX3) (N := 4) hx hb hts hinX3 hown hK hP 0 rfl rfl 3 (by decide) lk0 (fun _ h9 => h9) rfl dX3_codeAt_6 ?_
  refine xn_icmp_ge (pc := 9) (tgt := 21) hx hb (by omega) (by omega) dX3_codeAt_9 (by decide) (fun c9 => ?_) (fun c9 => ?_)
  · refine lv_lconst (pc := 21) (v := (lN (0))) hx hb dX3_codeAt_21 (by decide) ?_
    exact W.lret (pc := 22) (v := (lN (0))) hx hb hr (fun t ht _ => ⟨_, rfl, (by unfold kA; first | (rw [if_pos (by omega)]) | (rw [if_neg (by omega)])), ht⟩) (fun _ h => absurd h List.not_mem_nil) dX3_codeAt_22
  · refine lv_aload_n (pc := 12) hx hb dX3_codeAt_12 rfl (lv_at hl 0 rfl) ?_
    refine va_get (pc := 13) (D := D) (ci := 2) (v := .ref (ae 2)) (C := RX3) (T := TX3) (N := 4) hx hb hts hinX3 hown hK hP 0 rfl rfl 2 (by decide) lk1 (fun _ h9 => h9) rfl dX3_codeAt_13 ?_
    refine lv_iload_n (pc := 16) hx hb dX3_codeAt_16 rfl (lv_at hl 1 rfl) ?_
    refine xa_lald (pc := 17) hx hb hK hP 3 1 rfl rfl (by omega) (by omega) dX3_codeAt_17 ?_
    refine lv_goto (pc := 18) (tgt := 22) hx hb dX3_codeAt_18 (by decide) ?_
    exact W.lret (pc := 22) (v := (lN (cd p))) hx hb hr (fun t ht _ => ⟨_, rfl, (by unfold kA; first | (rw [if_pos (by omega)]) | (rw [if_neg (by omega)])), ht⟩) (fun _ h => absurd h List.not_mem_nil) dX3_codeAt_22
set_option maxHeartbeats 4000000 in
set_option maxRecDepth 100000 in
theorem c_X3_leftOf (l : Launch) (D : va_G) (cI cL cZ : ClassId) (he : Nat) (ae : Nat → Nat) (kd : Nat → Nat) (ed : Nat → Nat) (cd : Nat → Nat) (nn : Nat) (p : Nat)  : Met l yX3_leftOf wsX3_leftOf { frames := 0, cells := 0, slots := 0, locals := 0 } (rP D (tyL cI cL cZ) [(he, .inr (2, oE ae nn)), (ae 0, .inl (cI, 18, .inl (nA kd))), (ae 1, .inl (cI, 18, .inl (nA ed))), (ae 2, .inl (cL, 18, .inr (.inl (lA cd))))] [.ref he, .int (nI p)]) (vp_Si (fun r => r = (nI (p + 1)))) 0 0 (fun _ => False) := by
  refine Met.ofW (cc := cX3_leftOf) (maxL := 2) (ret := (some .int)) (by decide) rfl ?_
  intro pG eG s mG args below meth cG s₁ B hml hpre9
  obtain ⟨rfl, hP, hK⟩ := hpre9
  have hx := B.exec
  have hb := B.bytes
  have hr := B.returns
  have hts := atoms_spec (ws := wsX3_leftOf) B.pre
  have hown : s.vm.findClass RX3 = some mG.cls := findClass_of_methodNamed B.named
  have hlocks := B.notSynchronized
  have hS : va_S (fun _ => False) s.heap s.heap [] := va_S.rf
  have hl := lv_entry ([.ref he, .int (nI p)]) (n := 2) (Nat.le_of_ble_eq_true rfl)
  rw [lg_entry_eq]
  generalize (lg_sl ([.ref he, .int (nI p)]) ++ List.replicate (2 - (lg_sl ([.ref he, .int (nI p)])).length) Slot.unset).toArray = ls at hl ⊢
  have hl : lv_has ls 2 [(0, .ref he), (1, .int (nI p))] := hl
  refine lv_iload_n (pc := 0) hx hb dX3_leftOf_0 rfl (lv_at hl 1 rfl) ?_
  refine lv_iconst (pc := 1) (v := (nI (1))) hx hb dX3_leftOf_1 (by decide) ?_
  refine xn_iadd (pc := 2) hx hb  dX3_leftOf_2 ?_
  exact W.iret (pc := 3) (v := (nI (p + 1))) hx hb hr (fun t ht _ => ⟨_, rfl, (by first | rfl | ((repeat' split) <;> first | rfl | omega)), ht⟩) (fun _ h => absurd h List.not_mem_nil) dX3_leftOf_3
set_option maxHeartbeats 4000000 in
set_option maxRecDepth 100000 in
theorem c_X3_rightOf (l : Launch) (D : va_G) (cI cL cZ : ClassId) (he : Nat) (ae : Nat → Nat) (kd : Nat → Nat) (ed : Nat → Nat) (cd : Nat → Nat) (nn : Nat) (p : Nat) (hn : nn ≤ 18) (h0 : 0 < nn) (hp : p < 2 ^ 30) : Met l yX3_rightOf wsX3_rightOf { frames := 0, cells := 0, slots := 0, locals := 0 } (rP D (tyL cI cL cZ) [(he, .inr (2, oE ae nn)), (ae 0, .inl (cI, 18, .inl (nA kd))), (ae 1, .inl (cI, 18, .inl (nA ed))), (ae 2, .inl (cL, 18, .inr (.inl (lA cd))))] [.ref he, .int (nI p)]) (vp_Si (fun r => r = (nI (rA ed nn p)))) 0 0 (fun _ => False) := by
  refine Met.ofW (cc := cX3_rightOf) (maxL := 2) (ret := (some .int)) (by decide) rfl ?_
  intro pG eG s mG args below meth cG s₁ B hml hpre9
  obtain ⟨rfl, hP, hK⟩ := hpre9
  have hx := B.exec
  have hb := B.bytes
  have hr := B.returns
  have hts := atoms_spec (ws := wsX3_rightOf) B.pre
  have hown : s.vm.findClass RX3 = some mG.cls := findClass_of_methodNamed B.named
  have hlocks := B.notSynchronized
  have hS : va_S (fun _ => False) s.heap s.heap [] := va_S.rf
  have hinX3 : ∀ w ∈ wsX30, w ∈ wsX3_rightOf := fun w HH => (List.mem_cons_of_mem _ (List.mem_append_right _ HH))
  have lk0 : (Cond.fieldLink RX3 22 "RegexSimplifier$Expression" "nodes" "I").before _ s = true := hts _ (List.mem_cons_of_mem _ (List.mem_append_left _ (List.mem_of_getElem? (i := 0) rfl)))
  have lk1 : (Cond.fieldLink RX3 15 "RegexSimplifier$Expression" "ends" "[I").before _ s = true := hts _ (List.mem_cons_of_mem _ (List.mem_append_left _ (List.mem_of_getElem? (i := 1) rfl)))
  have hl := lv_entry ([.ref he, .int (nI p)]) (n := 2) (Nat.le_of_ble_eq_true rfl)
  rw [lg_entry_eq]
  generalize (lg_sl ([.ref he, .int (nI p)]) ++ List.replicate (2 - (lg_sl ([.ref he, .int (nI p)])).length) Slot.unset).toArray = ls at hl ⊢
  have hl : lv_has ls 2 [(0, .ref he), (1, .int (nI p))] := hl
  refine lv_iload_n (pc := 0) hx hb dX3_rightOf_0 rfl (lv_at hl 1 rfl) ?_
  refine lv_iconst (pc := 1) (v := ((-1))) hx hb dX3_rightOf_1 (by decide) ?_
  refine lv_icmp_lt (pc := 2) (tgt := 26) hx hb dX3_rightOf_2 (by decide) (fun c2 => ?_) (fun c2 => ?_)
  · exact absurd c2 (nI_nltn (by omega) (by decide))
  · refine lv_iload_n (pc := 5) hx hb dX3_rightOf_5 rfl (lv_at hl 1 rfl) ?_
    refine lv_aload_n (pc := 6) hx hb dX3_rightOf_6 rfl (lv_at hl 0 rfl) ?_
    refine va_get (pc := 7) (D := D) (ci := 2) (v := .int (nI nn)) (C := RX3) (T := TX3) (N := 4) hx hb hts hinX3 hown hK hP 0 rfl rfl 3 (by decide) lk0 (fun _ h9 => h9) rfl dX3_rightOf_7 ?_
    refine lv_iconst (pc := 10) (v := (nI (1))) hx hb dX3_rightOf_10 (by decide) ?_
    refine xn_isub (pc := 11) hx hb (by omega) dX3_rightOf_11 ?_
    refine xn_icmp_ge (pc := 12) (tgt := 26) hx hb (by omega) (by omega) dX3_rightOf_12 (by decide) (fun c12 => ?_) (fun c12 => ?_)
    · refine lv_aload_n (pc := 26) hx hb dX3_rightOf_26 rfl (lv_at hl 0 rfl) ?_
      refine va_get (pc := 27) (D := D) (ci := 2) (v := .int (nI nn)) (C := RX3) (T := TX3) (N := 4) hx hb hts hinX3 hown hK hP 0 rfl rfl 3 (by decide) lk0 (fun _ h9 => h9) rfl dX3_rightOf_27 ?_
      exact W.iret (pc := 30) (v := (nI (nn))) hx hb hr (fun t ht _ => ⟨_, rfl, (by unfold rA; first | (rw [if_pos (by omega)]) | (rw [if_neg (by omega)])), ht⟩) (fun _ h => absurd h List.not_mem_nil) dX3_rightOf_30
    · refine lv_aload_n (pc := 15) hx hb dX3_rightOf_15 rfl (lv_at hl 0 rfl) ?_
      refine va_get (pc := 16) (D := D) (ci := 2) (v := .ref (ae 1)) (C := RX3) (T := TX3) (N := 4) hx hb hts hinX3 hown hK hP 0 rfl rfl 1 (by decide) lk1 (fun _ h9 => h9) rfl dX3_rightOf_16 ?_
      refine lv_iload_n (pc := 19) hx hb dX3_rightOf_19 rfl (lv_at hl 1 rfl) ?_
      refine lv_iconst (pc := 20) (v := (nI (1))) hx hb dX3_rightOf_20 (by decide) ?_
      refine xn_iadd (pc := 21) hx hb  dX3_rightOf_21 ?_
      refine xa_iald (pc := 22) hx hb hK hP 2 0 rfl rfl (by omega) (by omega) dX3_rightOf_22 ?_
      refine lv_goto (pc := 23) (tgt := 30) hx hb dX3_rightOf_23 (by decide) ?_
      exact W.iret (pc := 30) (v := (nI (ed (p + 1)))) hx hb hr (fun t ht _ => ⟨_, rfl, (by unfold rA; first | (rw [if_pos (by omega)]) | (rw [if_neg (by omega)])), ht⟩) (fun _ h => absurd h List.not_mem_nil) dX3_rightOf_30
set_option maxHeartbeats 4000000 in
set_option maxRecDepth 100000 in
theorem c_X3_starredAt (l : Launch) (D : va_G) (cI cL cZ : ClassId) (he : Nat) (ae : Nat → Nat) (kd : Nat → Nat) (ed : Nat → Nat) (cd : Nat → Nat) (nn : Nat) (p : Nat) (hn : nn ≤ 18) (h0 : 0 < nn) (hp : p < 2 ^ 30) (hkd : ∀ j, j < nn → kd j < 2 ^ 31) : Met l yX3_starredAt wsX3_starredAt { frames := 0, cells := 0, slots := 0, locals := 0 } (rP D (tyL cI cL cZ) [(he, .inr (2, oE ae nn)), (ae 0, .inl (cI, 18, .inl (nA kd))), (ae 1, .inl (cI, 18, .inl (nA ed))), (ae 2, .inl (cL, 18, .inr (.inl (lA cd))))] [.ref he, .int (nI p)]) (vp_Sl (fun r => r = (lN (sA kd cd nn p)))) 0 0 (fun _ => False) := by
  refine Met.ofW (cc := cX3_starredAt) (maxL := 3) (ret := (some .long)) (by decide) rfl ?_
  intro pG eG s mG args below meth cG s₁ B hml hpre9
  obtain ⟨rfl, hP, hK⟩ := hpre9
  have hx := B.exec
  have hb := B.bytes
  have hr := B.returns
  have hts := atoms_spec (ws := wsX3_starredAt) B.pre
  have hown : s.vm.findClass RX3 = some mG.cls := findClass_of_methodNamed B.named
  have hlocks := B.notSynchronized
  have hS : va_S (fun _ => False) s.heap s.heap [] := va_S.rf
  have hinX3 : ∀ w ∈ wsX30, w ∈ wsX3_starredAt := fun w HH => (List.mem_cons_of_mem _ (List.mem_append_right _ HH))
  have lk0 : (Cond.fieldLink RX3 22 "RegexSimplifier$Expression" "nodes" "I").before _ s = true := hts _ (List.mem_cons_of_mem _ (List.mem_append_left _ (List.mem_of_getElem? (i := 0) rfl)))
  have lk1 : (Cond.fieldLink RX3 9 "RegexSimplifier$Expression" "kinds" "[I").before _ s = true := hts _ (List.mem_cons_of_mem _ (List.mem_append_left _ (List.mem_of_getElem? (i := 1) rfl)))
  have lk2 : (Cond.fieldLink RX3 18 "RegexSimplifier$Expression" "codes" "[J").before _ s = true := hts _ (List.mem_cons_of_mem _ (List.mem_append_left _ (List.mem_of_getElem? (i := 2) rfl)))
  have hl := lv_entry ([.ref he, .int (nI p)]) (n := 3) (Nat.le_of_ble_eq_true rfl)
  rw [lg_entry_eq]
  generalize (lg_sl ([.ref he, .int (nI p)]) ++ List.replicate (3 - (lg_sl ([.ref he, .int (nI p)])).length) Slot.unset).toArray = ls at hl ⊢
  have hl : lv_has ls 3 [(0, .ref he), (1, .int (nI p))] := hl
  refine lv_iload_n (pc := 0) hx hb dX3_starredAt_0 rfl (lv_at hl 1 rfl) ?_
  refine xn_if_lt (pc := 1) (tgt := 29) hx hb (by omega) dX3_starredAt_1 (by decide) ?_
  refine lv_iload_n (pc := 4) hx hb dX3_starredAt_4 rfl (lv_at hl 1 rfl) ?_
  refine lv_aload_n (pc := 5) hx hb dX3_starredAt_5 rfl (lv_at hl 0 rfl) ?_
  refine va_get (pc := 6) (D := D) (ci := 2) (v := .int (nI nn)) (C := RX3) (T := TX3) (N := 4) hx hb hts hinX3 hown hK hP 0 rfl rfl 3 (by decide) lk0 (fun _ h9 => h9) rfl dX3_starredAt_6 ?_
  refine lv_iconst (pc := 9) (v := (nI (1))) hx hb dX3_starredAt_9 (by decide) ?_
  refine xn_isub (pc := 10) hx hb (by omega) dX3_starredAt_10 ?_
  refine xn_icmp_ge (pc := 11) (tgt := 29) hx hb (by omega) (by omega) dX3_starredAt_11 (by decide) (fun c11 => ?_) (fun c11 => ?_)
  · refine lv_iconst (pc := 29) (v := (nI (0))) hx hb dX3_starredAt_29 (by decide) ?_
    refine lv_istore_n (pc := 30) (lv' := [(2, .int (nI 0)), (0, .ref he), (1, .int (nI p))]) hx hb dX3_starredAt_30 rfl hl (by decide) rfl (fun ls hl => ?_)
    refine lv_iload_n (pc := 31) hx hb dX3_starredAt_31 rfl (lv_at hl 0 rfl) ?_
    refine lv_if_eq (pc := 32) (tgt := 46) hx hb dX3_starredAt_32 (by decide) (fun _ => ?_) (fun h => absurd h (by decide))
    refine lv_lconst (pc := 46) (v := (lN (0))) hx hb dX3_starredAt_46 (by decide) ?_
    exact W.lret (pc := 47) (v := (lN (0))) hx hb hr (fun t ht _ => ⟨_, rfl, (by unfold sA; first | (rw [if_pos ⟨by omega, by omega⟩]) | (rw [if_neg (fun h => by omega)])), ht⟩) (fun _ h => absurd h List.not_mem_nil) dX3_starredAt_47
  · refine lv_aload_n (pc := 14) hx hb dX3_starredAt_14 rfl (lv_at hl 0 rfl) ?_
    refine va_get (pc := 15) (D := D) (ci := 2) (v := .ref (ae 0)) (C := RX3) (T := TX3) (N := 4) hx hb hts hinX3 hown hK hP 0 rfl rfl 0 (by decide) lk1 (fun _ h9 => h9) rfl dX3_starredAt_15 ?_
    refine lv_iload_n (pc := 18) hx hb dX3_starredAt_18 rfl (lv_at hl 1 rfl) ?_
    refine xa_iald (pc := 19) hx hb hK hP 1 0 rfl rfl (by omega) (by omega) dX3_starredAt_19 ?_
    refine lv_bipush (pc := 20) (v := (nI (8))) hx hb dX3_starredAt_20 (by decide) ?_
    refine xn_icmp_ne (pc := 22) (tgt := 29) hx hb (hkd _ (by omega)) (by omega) dX3_starredAt_22 (by decide) (fun c22 => ?_) (fun c22 => ?_)
    · refine lv_iconst (pc := 29) (v := (nI (0))) hx hb dX3_starredAt_29 (by decide) ?_
      refine lv_istore_n (pc := 30) (lv' := [(2, .int (nI 0)), (0, .ref he), (1, .int (nI p))]) hx hb dX3_starredAt_30 rfl hl (by decide) rfl (fun ls hl => ?_)
      refine lv_iload_n (pc := 31) hx hb dX3_starredAt_31 rfl (lv_at hl 0 rfl) ?_
      refine lv_if_eq (pc := 32) (tgt := 46) hx hb dX3_starredAt_32 (by decide) (fun _ => ?_) (fun h => absurd h (by decide))
      refine lv_lconst (pc := 46) (v := (lN (0))) hx hb dX3_starredAt_46 (by decide) ?_
      exact W.lret (pc := 47) (v := (lN (0))) hx hb hr (fun t ht _ => ⟨_, rfl, (by unfold sA; first | (rw [if_pos ⟨by omega, by omega⟩]) | (rw [if_neg (fun h => by omega)])), ht⟩) (fun _ h => absurd h List.not_mem_nil) dX3_starredAt_47
    · refine lv_iconst (pc := 25) (v := (nI (1))) hx hb dX3_starredAt_25 (by decide) ?_
      refine lv_goto (pc := 26) (tgt := 30) hx hb dX3_starredAt_26 (by decide) ?_
      refine lv_istore_n (pc := 30) (lv' := [(2, .int (nI 1)), (0, .ref he), (1, .int (nI p))]) hx hb dX3_starredAt_30 rfl hl (by decide) rfl (fun ls hl => ?_)
      refine lv_iload_n (pc := 31) hx hb dX3_starredAt_31 rfl (lv_at hl 0 rfl) ?_
      refine lv_if_eq (pc := 32) (tgt := 46) hx hb dX3_starredAt_32 (by decide) (fun h => absurd h (by decide)) (fun _ => ?_)
      refine lv_aload_n (pc := 35) hx hb dX3_starredAt_35 rfl (lv_at hl 1 rfl) ?_
      refine va_get (pc := 36) (D := D) (ci := 2) (v := .ref (ae 2)) (C := RX3) (T := TX3) (N := 4) hx hb hts hinX3 hown hK hP 0 rfl rfl 2 (by decide) lk2 (fun _ h9 => h9) rfl dX3_starredAt_36 ?_
      refine lv_iload_n (pc := 39) hx hb dX3_starredAt_39 rfl (lv_at hl 2 rfl) ?_
      refine lv_iconst (pc := 40) (v := (nI (1))) hx hb dX3_starredAt_40 (by decide) ?_
      refine xn_iadd (pc := 41) hx hb  dX3_starredAt_41 ?_
      refine xa_lald (pc := 42) hx hb hK hP 3 1 rfl rfl (by omega) (by omega) dX3_starredAt_42 ?_
      refine lv_goto (pc := 43) (tgt := 47) hx hb dX3_starredAt_43 (by decide) ?_
      exact W.lret (pc := 47) (v := (lN (cd (p + 1)))) hx hb hr (fun t ht _ => ⟨_, rfl, (by unfold sA; first | (rw [if_pos ⟨by omega, by omega⟩]) | (rw [if_neg (fun h => by omega)])), ht⟩) (fun _ h => absurd h List.not_mem_nil) dX3_starredAt_47
