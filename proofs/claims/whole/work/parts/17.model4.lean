/-! the reference: steps of lists, the first step, counting and simplifying -/
set_option maxHeartbeats 4000000 in
set_option maxRecDepth 100000 in
theorem c_X8_stepRule (l : Launch) (D : va_G) (cI cL cZ : ClassId) (hm : Nat) (am : Nat → Nat) (n : Nat) (pos : Nat) (cmp : Nat) (que : Nat) (dsz : Nat) (mad : Nat) (cur : Nat) (stp : Nat) (met : Nat) (bst : Nat) (rul : Nat → Nat) (x : Int32) (hst : stp ≤ 18) : Met l yX8_stepRule wsX8_stepRule { frames := 1, cells := 0, slots := 0, locals := 22 } (rP D (tyL cI cL cZ) [(hm, .inr (6, oM am n pos cmp que dsz mad cur stp met bst)), (am 23, .inl (cI, 18, .inl (nA rul)))] [.ref hm, .int x]) (vp_Si (fun r => r = (stA rul stp x))) 0 0 (fun _ => False) := by
  refine Met.ofW (cc := cX8_stepRule) (maxL := 2) (ret := (some .int)) (by decide) rfl ?_
  intro pG eG s mG args below meth cG s₁ B hml hpre9
  obtain ⟨rfl, hP, hK⟩ := hpre9
  have hx := B.exec
  have hb := B.bytes
  have hr := B.returns
  have hts := atoms_spec (ws := wsX8_stepRule) B.pre
  have hown : s.vm.findClass RX8 = some mG.cls := findClass_of_methodNamed B.named
  have hlocks := B.notSynchronized
  have hS : va_S (fun _ => False) s.heap s.heap [] := va_S.rf
  have hinX8 : ∀ w ∈ wsX80, w ∈ wsX8_stepRule := fun w HH => (List.mem_cons_of_mem _ (List.mem_append_right _ HH))
  have lk0 : (Cond.fieldLink RX8 219 "RegexSimplifierModel" "steps" "I").before _ s = true := hts _ (List.mem_cons_of_mem _ (List.mem_append_left _ (List.mem_of_getElem? (i := 0) rfl)))
  have lk1 : (Cond.fieldLink RX8 58 "RegexSimplifierModel" "ruleOf" "[I").before _ s = true := hts _ (List.mem_cons_of_mem _ (List.mem_append_left _ (List.mem_of_getElem? (i := 1) rfl)))
  have hl := lv_entry ([.ref hm, .int x]) (n := 2) (Nat.le_of_ble_eq_true rfl)
  rw [lg_entry_eq]
  generalize (lg_sl ([.ref hm, .int x]) ++ List.replicate (2 - (lg_sl ([.ref hm, .int x])).length) Slot.unset).toArray = ls at hl ⊢
  have hl : lv_has ls 2 [(0, .ref hm), (1, .int x)] := hl
  have hrk := rok_le1 (x := x) (m := stp) (by omega)
  refine lv_iload_n (pc := 0) hx hb dX8_stepRule_0 rfl (lv_at hl 1 rfl) ?_
  refine lv_iconst (pc := 1) (v := (nI (0))) hx hb dX8_stepRule_1 (by decide) ?_
  refine lv_aload_n (pc := 2) hx hb dX8_stepRule_2 rfl (lv_at hl 0 rfl) ?_
  refine va_get (pc := 3) (D := D) (ci := 6) (v := .int (nI stp)) (C := RX8) (T := TX8) (N := 30) hx hb hts hinX8 hown hK hP 0 rfl rfl 22 (by decide) lk0 (fun _ h9 => h9) rfl dX8_stepRule_3 ?_
  refine lv_iconst (pc := 6) (v := (nI (1))) hx hb dX8_stepRule_6 (by decide) ?_
  refine lv_isub (pc := 7) hx hb dX8_stepRule_7 ?_
  refine vp_callSi (pc := 8) (W.runS (As := [.int x, .int (nI 0), .int ((nI (stp)) - (nI (1)))]) (rest := []) ⟨hx, hb, hml, hown, hts⟩ (c_X8_within l D cI cL cZ x ((nI (0))) ((nI (stp)) - (nI (1)))) (va_cwS 3 hts gX8_stepRule_X8_within rfl rfl rfl (by decide +kernel) ⟨Nat.le_of_ble_eq_true rfl, Nat.le_of_ble_eq_true rfl⟩) (rP_S (wc := []) hK hP [] rfl) rfl rfl hl.1 rfl (lv_room (Nat.le_of_ble_eq_true rfl)) dX8_stepRule_8 ⟨Nat.zero_le _, Nat.zero_le _⟩) (fun r9 hrr => ?_)
  rw [hrr]
  refine xp_if_eq (pc := 11) (tgt := 23) hx hb dX8_stepRule_11 (by decide) (fun c11 => ?_) (fun c11 => ?_)
  · refine lv_bipush (pc := 23) (v := ((-5))) hx hb dX8_stepRule_23 (by decide) ?_
    exact W.iret (pc := 25) (v := ((-5))) hx hb hr (fun t ht _ => ⟨_, rfl, (if_neg (fun z => c11 (hrk.mpr z))).symm, ht⟩) (fun _ h => absurd h List.not_mem_nil) dX8_stepRule_25
  · have c11b := hrk.mp c11
    obtain ⟨q, hq1, rfl⟩ := rok_ok c11b (by omega)
    refine lv_aload_n (pc := 14) hx hb dX8_stepRule_14 rfl (lv_at hl 0 rfl) ?_
    refine va_get (pc := 15) (D := D) (ci := 6) (v := .ref (am 23)) (C := RX8) (T := TX8) (N := 30) hx hb hts hinX8 hown hK hP 0 rfl rfl 23 (by decide) lk1 (fun _ h9 => h9) rfl dX8_stepRule_15 ?_
    refine lv_iload_n (pc := 18) hx hb dX8_stepRule_18 rfl (lv_at hl 1 rfl) ?_
    refine xa_iald (pc := 19) hx hb hK hP 1 0 rfl rfl (by omega) (by omega) dX8_stepRule_19 ?_
    refine lv_goto (pc := 20) (tgt := 25) hx hb dX8_stepRule_20 (by decide) ?_
    exact W.iret (pc := 25) (v := (nI (rul q))) hx hb hr (fun t ht _ => ⟨_, rfl, (stA_in (by omega) hq1).symm, ht⟩) (fun _ h => absurd h List.not_mem_nil) dX8_stepRule_25
set_option maxHeartbeats 4000000 in
set_option maxRecDepth 100000 in
theorem c_X8_stepPosition (l : Launch) (D : va_G) (cI cL cZ : ClassId) (hm : Nat) (am : Nat → Nat) (n : Nat) (pos : Nat) (cmp : Nat) (que : Nat) (dsz : Nat) (mad : Nat) (cur : Nat) (stp : Nat) (met : Nat) (bst : Nat) (psn : Nat → Nat) (x : Int32) (hst : stp ≤ 18) : Met l yX8_stepPosition wsX8_stepPosition { frames := 1, cells := 0, slots := 0, locals := 22 } (rP D (tyL cI cL cZ) [(hm, .inr (6, oM am n pos cmp que dsz mad cur stp met bst)), (am 24, .inl (cI, 18, .inl (nA psn)))] [.ref hm, .int x]) (vp_Si (fun r => r = (stA psn stp x))) 0 0 (fun _ => False) := by
  refine Met.ofW (cc := cX8_stepPosition) (maxL := 2) (ret := (some .int)) (by decide) rfl ?_
  intro pG eG s mG args below meth cG s₁ B hml hpre9
  obtain ⟨rfl, hP, hK⟩ := hpre9
  have hx := B.exec
  have hb := B.bytes
  have hr := B.returns
  have hts := atoms_spec (ws := wsX8_stepPosition) B.pre
  have hown : s.vm.findClass RX8 = some mG.cls := findClass_of_methodNamed B.named
  have hlocks := B.notSynchronized
  have hS : va_S (fun _ => False) s.heap s.heap [] := va_S.rf
  have hinX8 : ∀ w ∈ wsX80, w ∈ wsX8_stepPosition := fun w HH => (List.mem_cons_of_mem _ (List.mem_append_right _ HH))
  have lk0 : (Cond.fieldLink RX8 219 "RegexSimplifierModel" "steps" "I").before _ s = true := hts _ (List.mem_cons_of_mem _ (List.mem_append_left _ (List.mem_of_getElem? (i := 0) rfl)))
  have lk1 : (Cond.fieldLink RX8 61 "RegexSimplifierModel" "positionOf" "[I").before _ s = true := hts _ (List.mem_cons_of_mem _ (List.mem_append_left _ (List.mem_of_getElem? (i := 1) rfl)))
  have hl := lv_entry ([.ref hm, .int x]) (n := 2) (Nat.le_of_ble_eq_true rfl)
  rw [lg_entry_eq]
  generalize (lg_sl ([.ref hm, .int x]) ++ List.replicate (2 - (lg_sl ([.ref hm, .int x])).length) Slot.unset).toArray = ls at hl ⊢
  have hl : lv_has ls 2 [(0, .ref hm), (1, .int x)] := hl
  have hrk := rok_le1 (x := x) (m := stp) (by omega)
  refine lv_iload_n (pc := 0) hx hb dX8_stepPosition_0 rfl (lv_at hl 1 rfl) ?_
  refine lv_iconst (pc := 1) (v := (nI (0))) hx hb dX8_stepPosition_1 (by decide) ?_
  refine lv_aload_n (pc := 2) hx hb dX8_stepPosition_2 rfl (lv_at hl 0 rfl) ?_
  refine va_get (pc := 3) (D := D) (ci := 6) (v := .int (nI stp)) (C := RX8) (T := TX8) (N := 30) hx hb hts hinX8 hown hK hP 0 rfl rfl 22 (by decide) lk0 (fun _ h9 => h9) rfl dX8_stepPosition_3 ?_
  refine lv_iconst (pc := 6) (v := (nI (1))) hx hb dX8_stepPosition_6 (by decide) ?_
  refine lv_isub (pc := 7) hx hb dX8_stepPosition_7 ?_
  refine vp_callSi (pc := 8) (W.runS (As := [.int x, .int (nI 0), .int ((nI (stp)) - (nI (1)))]) (rest := []) ⟨hx, hb, hml, hown, hts⟩ (c_X8_within l D cI cL cZ x ((nI (0))) ((nI (stp)) - (nI (1)))) (va_cwS 3 hts gX8_stepPosition_X8_within rfl rfl rfl (by decide +kernel) ⟨Nat.le_of_ble_eq_true rfl, Nat.le_of_ble_eq_true rfl⟩) (rP_S (wc := []) hK hP [] rfl) rfl rfl hl.1 rfl (lv_room (Nat.le_of_ble_eq_true rfl)) dX8_stepPosition_8 ⟨Nat.zero_le _, Nat.zero_le _⟩) (fun r9 hrr => ?_)
  rw [hrr]
  refine xp_if_eq (pc := 11) (tgt := 23) hx hb dX8_stepPosition_11 (by decide) (fun c11 => ?_) (fun c11 => ?_)
  · refine lv_bipush (pc := 23) (v := ((-5))) hx hb dX8_stepPosition_23 (by decide) ?_
    exact W.iret (pc := 25) (v := ((-5))) hx hb hr (fun t ht _ => ⟨_, rfl, (if_neg (fun z => c11 (hrk.mpr z))).symm, ht⟩) (fun _ h => absurd h List.not_mem_nil) dX8_stepPosition_25
  · have c11b := hrk.mp c11
    obtain ⟨q, hq1, rfl⟩ := rok_ok c11b (by omega)
    refine lv_aload_n (pc := 14) hx hb dX8_stepPosition_14 rfl (lv_at hl 0 rfl) ?_
    refine va_get (pc := 15) (D := D) (ci := 6) (v := .ref (am 24)) (C := RX8) (T := TX8) (N := 30) hx hb hts hinX8 hown hK hP 0 rfl rfl 24 (by decide) lk1 (fun _ h9 => h9) rfl dX8_stepPosition_15 ?_
    refine lv_iload_n (pc := 18) hx hb dX8_stepPosition_18 rfl (lv_at hl 1 rfl) ?_
    refine xa_iald (pc := 19) hx hb hK hP 1 0 rfl rfl (by omega) (by omega) dX8_stepPosition_19 ?_
    refine lv_goto (pc := 20) (tgt := 25) hx hb dX8_stepPosition_20 (by decide) ?_
    exact W.iret (pc := 25) (v := (nI (psn q))) hx hb hr (fun t ht _ => ⟨_, rfl, (stA_in (by omega) hq1).symm, ht⟩) (fun _ h => absurd h List.not_mem_nil) dX8_stepPosition_25
set_option maxHeartbeats 4000000 in
set_option maxRecDepth 100000 in
theorem c_X8_firstStep (l : Launch) (D : va_G) (cI cL cZ : ClassId) (sz : Nat) (hm : Nat) (am : Nat → Nat) (n : Nat) (pos : Nat) (cmp : Nat) (que : Nat) (dsz : Nat) (mad : Nat) (cur : Nat) (stp : Nat) (met : Nat) (bst : Nat) (dgt : Nat → Nat) (rt : Nat → Nat) (v : Nat) (hv : okVb v = true) (hmd : MD v n dgt) : Met l yX8_firstStep wsX8_firstStep { frames := 6, cells := 0, slots := 0, locals := 146 } (mP D (tyL cI cL cZ) [(hm, .inr (6, oM am n pos cmp que dsz mad cur stp met bst)), (am 1, .inl (cI, 18, .inl (nA dgt))), (am 20, .inl (cI, 36, .inl (nA rt)))] sz [.ref hm]) (va_Qi (fun (r : Int32) (u : Nat × (Nat → Nat)) => r = (fS v) ∧ (fsn v < 16 * dc v → RT u.2 u.1 ((oV v (fsn v % 16) (fsn v / 16)).getD []))) (fun (u : Nat × (Nat → Nat)) (t : State) => mB D (tyL cI cL cZ) (va_A [(hm, .inr (6, oM am n pos cmp que dsz mad cur stp met bst)), (am 1, .inl (cI, 18, .inl (nA dgt))), (am 20, .inl (cI, 36, .inl (nA rt)))] sz) [(hm, .inr (6, oM am n pos cmp que dsz (u.1) cur stp met bst)), (am 1, .inl (cI, 18, .inl (nA dgt))), (am 20, .inl (cI, 36, .inl (nA (u.2))))] t) (va_A [(hm, .inr (6, oM am n pos cmp que dsz mad cur stp met bst)), (am 1, .inl (cI, 18, .inl (nA dgt))), (am 20, .inl (cI, 36, .inl (nA rt)))] sz)) 0 0 (va_A [(hm, .inr (6, oM am n pos cmp que dsz mad cur stp met bst)), (am 1, .inl (cI, 18, .inl (nA dgt))), (am 20, .inl (cI, 36, .inl (nA rt)))] sz) := by
  refine Met.ofW (cc := cX8_firstStep) (maxL := 2) (ret := (some .int)) (by decide) rfl ?_
  intro pG eG s mG args below meth cG s₁ B hml hpre9
  obtain ⟨rfl, hsz, hP, hK, hD0⟩ := hpre9
  have hx := B.exec
  have hb := B.bytes
  have hr := B.returns
  have hts := atoms_spec (ws := wsX8_firstStep) B.pre
  have hown : s.vm.findClass RX8 = some mG.cls := findClass_of_methodNamed B.named
  have hlocks := B.notSynchronized
  subst hsz
  have hD := hD0.self (sz := s.heap.size)
  have hA : ∀ q : Nat, s.heap.size ≤ q → va_A [(hm, .inr (6, oM am n pos cmp que dsz mad cur stp met bst)), (am 1, .inl (cI, 18, .inl (nA dgt))), (am 20, .inl (cI, 36, .inl (nA rt)))] s.heap.size q := fun q h => Or.inr h
  have hS : va_S (va_A [(hm, .inr (6, oM am n pos cmp que dsz mad cur stp met bst)), (am 1, .inl (cI, 18, .inl (nA dgt))), (am 20, .inl (cI, 36, .inl (nA rt)))] s.heap.size) s.heap s.heap [] := va_S.rf
  have hinX8 : ∀ w ∈ wsX80, w ∈ wsX8_firstStep := fun w HH => (List.mem_cons_of_mem _ (List.mem_append_right _ HH))
  have lk0 : (Cond.fieldLink RX8 78 "RegexSimplifierModel" "n" "I").before _ s = true := hts _ (List.mem_cons_of_mem _ (List.mem_append_left _ (List.mem_append_left _ (List.mem_of_getElem? (i := 0) rfl))))
  have hl := lv_entry ([.ref hm]) (n := 2) (Nat.le_of_ble_eq_true rfl)
  rw [lg_entry_eq]
  generalize (lg_sl ([.ref hm]) ++ List.replicate (2 - (lg_sl ([.ref hm])).length) Slot.unset).toArray = ls at hl ⊢
  have hl : lv_has ls 2 [(0, .ref hm)] := hl
  have hnv := hmd.1
  have h18 := (dc_lt (okVb_iff.mp hv).2.1).2
  refine lv_iconst (pc := 0) (v := (nI (0))) hx hb dX8_firstStep_0 (by decide) ?_
  refine lv_istore_n (pc := 1) (lv' := [(1, .int (nI 0)), (0, .ref hm)]) hx hb dX8_firstStep_1 rfl hl (by decide) rfl (fun ls hl => ?_)
  have loop2 : ∀ (fuel : Nat) (k : Nat) (mad1 : Nat) (rt1 : Nat → Nat) (ls : Array Slot) (H : Heap) (locs : List Loc), 16 * n - k < fuel → (k ≤ 16 * n) → (∀ j, j < k → (oV v (j % 16) (j / 16)).isSome = false) → lv_has ls 2 [(0, .ref hm), (1, .int (nI k))] → va_P D vwCl [(hm, .inr (6, oM am n pos cmp que dsz mad1 cur stp met bst)), (am 1, .inl (cI, 18, .inl (nA dgt))), (am 20, .inl (cI, 36, .inl (nA rt1)))] H → va_D (va_A [(hm, .inr (6, oM am n pos cmp que dsz mad cur stp met bst)), (am 1, .inl (cI, 18, .inl (nA dgt))), (am 20, .inl (cI, 36, .inl (nA rt)))] s.heap.size) [(hm, .inr (6, oM am n pos cmp que dsz mad1 cur stp met bst)), (am 1, .inl (cI, 18, .inl (nA dgt))), (am 20, .inl (cI, 36, .inl (nA rt1)))] → va_S (va_A [(hm, .inr (6, oM am n pos cmp que dsz mad cur stp met bst)), (am 1, .inl (cI, 18, .inl (nA dgt))), (am 20, .inl (cI, 36, .inl (nA rt)))] s.heap.size) s.heap H locs → W pG l eG (headSpec wsX8_firstStep { frames := 6, cells := 0, slots := 0, locals := 146 }).room s mG [.ref hm].toArray below meth cG H locs 0 0 (MQ below (va_Qi (fun (r : Int32) (u : Nat × (Nat → Nat)) => r = (fS v) ∧ (fsn v < 16 * dc v → RT u.2 u.1 ((oV v (fsn v % 16) (fsn v / 16)).getD []))) (fun (u : Nat × (Nat → Nat)) (t : State) => mB D (tyL cI cL cZ) (va_A [(hm, .inr (6, oM am n pos cmp que dsz mad cur stp met bst)), (am 1, .inl (cI, 18, .inl (nA dgt))), (am 20, .inl (cI, 36, .inl (nA rt)))] s.heap.size) [(hm, .inr (6, oM am n pos cmp que dsz (u.1) cur stp met bst)), (am 1, .inl (cI, 18, .inl (nA dgt))), (am 20, .inl (cI, 36, .inl (nA (u.2))))] t) (va_A [(hm, .inr (6, oM am n pos cmp que dsz mad cur stp met bst)), (am 1, .inl (cI, 18, .inl (nA dgt))), (am 20, .inl (cI, 36, .inl (nA rt)))] s.heap.size)) [.ref hm].toArray s 0 0 (va_A [(hm, .inr (6, oM am n pos cmp que dsz mad cur stp met bst)), (am 1, .inl (cI, 18, .inl (nA dgt))), (am 20, .inl (cI, 36, .inl (nA rt)))] s.heap.size)) (F0 mG 2 ls []) := by
    intro fuel
    induction fuel with
    | zero => intro k mad1 rt1 ls H locs hmeas i1 i2 hl hP hD hS; exact absurd hmeas (Nat.not_lt_zero _)
    | succ fuel ih2 =>
      intro k mad1 rt1 ls H locs hmeas i1 i2 hl hP hD hS
      refine lv_iload_n (pc := 2) hx hb dX8_firstStep_2 rfl (lv_at hl 1 rfl) ?_
      refine lv_bipush (pc := 3) (v := (nI (16))) hx hb dX8_firstStep_3 (by decide) ?_
      refine lv_aload_n (pc := 5) hx hb dX8_firstStep_5 rfl (lv_at hl 0 rfl) ?_
      refine va_get (pc := 6) (D := D) (ci := 6) (v := .int (nI n)) (C := RX8) (T := TX8) (N := 30) hx hb hts hinX8 hown hK hP 0 rfl rfl 0 (by decide) lk0 (fun _ h9 => h9) rfl dX8_firstStep_6 ?_
      refine xn_imul (pc := 9) hx hb  dX8_firstStep_9 ?_
      refine xn_icmp_ge (pc := 10) (tgt := 36) hx hb (by omega) (by omega) dX8_firstStep_10 (by decide) (fun c10 => ?_) (fun c10 => ?_)
      · refine lv_bipush (pc := 36) (v := ((-9))) hx hb dX8_firstStep_36 (by decide) ?_
        have hP9 : va_P D vwCl [(hm, .inr (6, oM am n pos cmp que dsz mad1 cur stp met bst)), (am 1, .inl (cI, 18, .inl (nA dgt))), (am 20, .inl (cI, 36, .inl (nA rt1)))] H := hP.sub [0, 1, 2] rfl
        have hD9 : va_D _ [(hm, .inr (6, oM am n pos cmp que dsz mad1 cur stp met bst)), (am 1, .inl (cI, 18, .inl (nA dgt))), (am 20, .inl (cI, 36, .inl (nA rt1)))] := hD.sub [0, 1, 2] (by decide) rfl
        exact W.iret (pc := 38) (v := ((-9))) hx hb hr (fun t ht hW => ⟨⟨_, (mad1, rt1), rfl, ⟨(by unfold fS; rw [show fsn v = 16 * dc v from ff_none (fun j hj => i2 j (by omega)), if_neg (Nat.lt_irrefl _)]), (fun h => absurd h (by rw [show fsn v = 16 * dc v from ff_none (fun j hj => i2 j (by omega))]; exact Nat.lt_irrefl _))⟩, by rw [ht]; exact hP9, va_K.moved hW.alike hK, hD9⟩, hS.F ht⟩) hS.2.2 dX8_firstStep_38
      · refine lv_aload_n (pc := 13) hx hb dX8_firstStep_13 rfl (lv_at hl 0 rfl) ?_
        refine lv_iload_n (pc := 14) hx hb dX8_firstStep_14 rfl (lv_at hl 1 rfl) ?_
        refine lv_bipush (pc := 15) (v := (nI (16))) hx hb dX8_firstStep_15 (by decide) ?_
        refine xn_irem (pc := 17) hx hb (by omega) (by omega) (by omega) dX8_firstStep_17 ?_
        refine lv_iload_n (pc := 18) hx hb dX8_firstStep_18 rfl (lv_at hl 1 rfl) ?_
        refine lv_bipush (pc := 19) (v := (nI (16))) hx hb dX8_firstStep_19 (by decide) ?_
        refine xn_idiv (pc := 21) hx hb (by omega) (by omega) (by omega) dX8_firstStep_21 ?_
        refine xm_calli (pc := 22) (wc := [(hm, .inr (6, oM am n pos cmp que dsz mad1 cur stp met bst)), (am 1, .inl (cI, 18, .inl (nA dgt))), (am 20, .inl (cI, 36, .inl (nA rt1)))]) (wr := []) (va_runV (As := [.int (nI (k % 16)), .int (nI (k / 16))]) (rest := []) ⟨hx, hb, hml, hown, hts⟩ (c_X8_applies l D cI cL cZ H.size hm am n pos cmp que dsz mad1 cur stp met bst dgt (en v) (dc v) rt1 (k % 16) (k / 16) (TV_M hv hmd) (by omega) (by omega)) (cwV 2 hts gX8_firstStep_X8_applies rfl rfl rfl (by decide +kernel) ⟨Nat.le_of_ble_eq_true rfl, Nat.le_of_ble_eq_true rfl⟩) (mP_V (wc := [(hm, .inr (6, oM am n pos cmp que dsz mad1 cur stp met bst)), (am 1, .inl (cI, 18, .inl (nA dgt))), (am 20, .inl (cI, 36, .inl (nA rt1)))]) (ci := 6) (q0 := 0) hK hP hD [0, 1, 2] (by decide) rfl rfl rfl) rfl rfl hl.1 rfl (lv_room (Nat.le_of_ble_eq_true rfl)) dX8_firstStep_22 ⟨Nat.zero_le _, Nat.zero_le _⟩) hP hD hS hA [0, 1, 2] [] rfl rfl (by decide) (by decide) (fun r9 u H locs hw hP hD hS => ?_)
        obtain ⟨mad2_22, rt2_22⟩ := u
        have hP : va_P D vwCl [(hm, .inr (6, oM am n pos cmp que dsz mad2_22 cur stp met bst)), (am 1, .inl (cI, 18, .inl (nA dgt))), (am 20, .inl (cI, 36, .inl (nA rt2_22)))] H := hP
        have hD : va_D _ [(hm, .inr (6, oM am n pos cmp que dsz mad2_22 cur stp met bst)), (am 1, .inl (cI, 18, .inl (nA dgt))), (am 20, .inl (cI, 36, .inl (nA rt2_22)))] := hD
        try dsimp only at hw
        obtain ⟨hrr, hw22⟩ := hw
        rw [hrr]
        refine xp_if_eq (pc := 25) (tgt := 30) hx hb dX8_firstStep_25 (by decide) (fun c25 => ?_) (fun c25 => ?_)
        · have eO := rR_M hv hmd (r := k % 16) (p := k / 16) (by omega) (by omega)
          refine lv_iinc (pc := 30) (v := (nI (k + 1))) (lv' := [(1, .int (nI (k + 1))), (0, .ref hm)]) hx hb dX8_firstStep_30 hl (k := 1) rfl (nI_incr _) (by decide) rfl (fun ls hl => ?_)
          refine lv_goto (pc := 33) (tgt := 2) hx hb dX8_firstStep_33 (by decide) ?_
          exact ih2 (k + 1) mad2_22 rt2_22 ls _ _ (by omega) (by omega) (lt_s i2 (by rw [← eO]; simpa using c25)) (lv_sub hl [1, 0] rfl) (hP.sub [0, 1, 2] rfl) (hD.sub [0, 1, 2] (by decide) rfl) hS
        · have eO := rR_M hv hmd (r := k % 16) (p := k / 16) (by omega) (by omega)
          have ek : fsn v = k := ff_eq (by omega) (by show (oV v (k % 16) (k / 16)).isSome = true; rw [← eO]; exact c25) i2
          refine lv_iload_n (pc := 28) hx hb dX8_firstStep_28 rfl (lv_at hl 1 rfl) ?_
          have hP9 : va_P D vwCl [(hm, .inr (6, oM am n pos cmp que dsz mad2_22 cur stp met bst)), (am 1, .inl (cI, 18, .inl (nA dgt))), (am 20, .inl (cI, 36, .inl (nA rt2_22)))] H := hP.sub [0, 1, 2] rfl
          have hD9 : va_D _ [(hm, .inr (6, oM am n pos cmp que dsz mad2_22 cur stp met bst)), (am 1, .inl (cI, 18, .inl (nA dgt))), (am 20, .inl (cI, 36, .inl (nA rt2_22)))] := hD.sub [0, 1, 2] (by decide) rfl
          exact W.iret (pc := 29) (v := (nI (k))) hx hb hr (fun t ht hW => ⟨⟨_, (mad2_22, rt2_22), rfl, ⟨(by unfold fS; rw [ek, if_pos (by omega)]), (fun _ => by rw [ek, ← eO]; exact hw22)⟩, by rw [ht]; exact hP9, va_K.moved hW.alike hK, hD9⟩, hS.F ht⟩) hS.2.2 dX8_firstStep_29
  exact loop2 (_ + 1) 0 mad rt ls _ _ (Nat.lt_succ_self _) (by omega) (fun j hj => absurd hj (by omega)) (lv_sub hl [1, 0] rfl) (hP.sub [0, 1, 2] rfl) (hD.sub [0, 1, 2] (by decide) rfl) hS
set_option maxHeartbeats 4000000 in
set_option maxRecDepth 100000 in
theorem c_X8_firstPosition (l : Launch) (D : va_G) (cI cL cZ : ClassId) (sz : Nat) (hm : Nat) (am : Nat → Nat) (n : Nat) (pos : Nat) (cmp : Nat) (que : Nat) (dsz : Nat) (mad : Nat) (cur : Nat) (stp : Nat) (met : Nat) (bst : Nat) (dgt : Nat → Nat) (rt : Nat → Nat) (x : Int64)  : Met l yX8_firstPosition wsX8_firstPosition { frames := 7, cells := 0, slots := 0, locals := 167 } (mP D (tyL cI cL cZ) [(hm, .inr (6, oM am n pos cmp que dsz mad cur stp met bst)), (am 1, .inl (cI, 18, .inl (nA dgt))), (am 20, .inl (cI, 36, .inl (nA rt)))] sz [.ref hm, .long x]) (va_Qi (fun (r : Int32) (u : Nat × (Nat → Nat) × Nat × (Nat → Nat)) => r = (aFP x) ∧ (True)) (fun (u : Nat × (Nat → Nat) × Nat × (Nat → Nat)) (t : State) => mB D (tyL cI cL cZ) (va_A [(hm, .inr (6, oM am n pos cmp que dsz mad cur stp met bst)), (am 1, .inl (cI, 18, .inl (nA dgt))), (am 20, .inl (cI, 36, .inl (nA rt)))] sz) [(hm, .inr (6, oM am (u.1) pos cmp que dsz (u.2.2.1) cur stp met bst)), (am 1, .inl (cI, 18, .inl (nA (u.2.1)))), (am 20, .inl (cI, 36, .inl (nA (u.2.2.2))))] t) (va_A [(hm, .inr (6, oM am n pos cmp que dsz mad cur stp met bst)), (am 1, .inl (cI, 18, .inl (nA dgt))), (am 20, .inl (cI, 36, .inl (nA rt)))] sz)) 0 0 (va_A [(hm, .inr (6, oM am n pos cmp que dsz mad cur stp met bst)), (am 1, .inl (cI, 18, .inl (nA dgt))), (am 20, .inl (cI, 36, .inl (nA rt)))] sz) := by
  refine Met.ofW (cc := cX8_firstPosition) (maxL := 4) (ret := (some .int)) (by decide) rfl ?_
  intro pG eG s mG args below meth cG s₁ B hml hpre9
  obtain ⟨rfl, hsz, hP, hK, hD0⟩ := hpre9
  have hx := B.exec
  have hb := B.bytes
  have hr := B.returns
  have hts := atoms_spec (ws := wsX8_firstPosition) B.pre
  have hown : s.vm.findClass RX8 = some mG.cls := findClass_of_methodNamed B.named
  have hlocks := B.notSynchronized
  subst hsz
  have hD := hD0.self (sz := s.heap.size)
  have hA : ∀ q : Nat, s.heap.size ≤ q → va_A [(hm, .inr (6, oM am n pos cmp que dsz mad cur stp met bst)), (am 1, .inl (cI, 18, .inl (nA dgt))), (am 20, .inl (cI, 36, .inl (nA rt)))] s.heap.size q := fun q h => Or.inr h
  have hS : va_S (va_A [(hm, .inr (6, oM am n pos cmp que dsz mad cur stp met bst)), (am 1, .inl (cI, 18, .inl (nA dgt))), (am 20, .inl (cI, 36, .inl (nA rt)))] s.heap.size) s.heap s.heap [] := va_S.rf
  have hl := lv_entry ([.ref hm, .long x]) (n := 4) (Nat.le_of_ble_eq_true rfl)
  rw [lg_entry_eq]
  generalize (lg_sl ([.ref hm, .long x]) ++ List.replicate (4 - (lg_sl ([.ref hm, .long x])).length) Slot.unset).toArray = ls at hl ⊢
  have hl : lv_has ls 4 [(0, .ref hm), (1, .long x)] := hl
  refine lv_aload_n (pc := 0) hx hb dX8_firstPosition_0 rfl (lv_at hl 0 rfl) ?_
  refine lv_lload_n (pc := 1) hx hb dX8_firstPosition_1 rfl (lv_at hl 1 rfl) ?_
  refine xm_calli (pc := 2) (wc := [(hm, .inr (6, oM am n pos cmp que dsz mad cur stp met bst)), (am 1, .inl (cI, 18, .inl (nA dgt)))]) (wr := [(am 20, .inl (cI, 36, .inl (nA rt)))]) (va_runV (As := [.long x]) (rest := []) ⟨hx, hb, hml, hown, hts⟩ (c_X8_parses l D cI cL cZ s.heap.size hm am n pos cmp que dsz mad cur stp met bst dgt x) (cwV 1 hts gX8_firstPosition_X8_parses rfl rfl rfl (by decide +kernel) ⟨Nat.le_of_ble_eq_true rfl, Nat.le_of_ble_eq_true rfl⟩) (mP_V (wc := [(hm, .inr (6, oM am n pos cmp que dsz mad cur stp met bst)), (am 1, .inl (cI, 18, .inl (nA dgt)))]) (ci := 6) (q0 := 0) hK hP hD [0, 1] (by decide) rfl rfl rfl) rfl rfl hl.1 rfl (lv_room (Nat.le_of_ble_eq_true rfl)) dX8_firstPosition_2 ⟨Nat.zero_le _, Nat.zero_le _⟩) hP hD hS hA [0, 1] [2] rfl rfl (by decide) (by decide) (fun r9 u H locs hw hP hD hS => ?_)
  obtain ⟨n2_2, dgt2_2⟩ := u
  have hP : va_P D vwCl [(am 20, .inl (cI, 36, .inl (nA rt))), (hm, .inr (6, oM am n2_2 pos cmp que dsz mad cur stp met bst)), (am 1, .inl (cI, 18, .inl (nA dgt2_2)))] H := hP
  have hD : va_D _ [(am 20, .inl (cI, 36, .inl (nA rt))), (hm, .inr (6, oM am n2_2 pos cmp que dsz mad cur stp met bst)), (am 1, .inl (cI, 18, .inl (nA dgt2_2)))] := hD
  try dsimp only at hw
  obtain ⟨hrr, ⟨hn19, hmd⟩⟩ := hw
  rw [hrr]
  refine xp_if_ne (pc := 5) (tgt := 10) hx hb dX8_firstPosition_5 (by decide) (fun c5 => ?_) (fun c5 => ?_)
  · refine lv_aload_n (pc := 10) hx hb dX8_firstPosition_10 rfl (lv_at hl 0 rfl) ?_
    refine xm_calli (pc := 11) (wc := [(hm, .inr (6, oM am n2_2 pos cmp que dsz mad cur stp met bst)), (am 1, .inl (cI, 18, .inl (nA dgt2_2))), (am 20, .inl (cI, 36, .inl (nA rt)))]) (wr := []) (va_runV (As := []) (rest := []) ⟨hx, hb, hml, hown, hts⟩ (c_X8_firstStep l D cI cL cZ H.size hm am n2_2 pos cmp que dsz mad cur stp met bst dgt2_2 rt (xv x) c5 (hmd c5)) (cwV 0 hts gX8_firstPosition_X8_firstStep rfl rfl rfl (by decide +kernel) ⟨Nat.le_of_ble_eq_true rfl, Nat.le_of_ble_eq_true rfl⟩) (mP_V (wc := [(hm, .inr (6, oM am n2_2 pos cmp que dsz mad cur stp met bst)), (am 1, .inl (cI, 18, .inl (nA dgt2_2))), (am 20, .inl (cI, 36, .inl (nA rt)))]) (ci := 6) (q0 := 0) hK hP hD [1, 2, 0] (by decide) rfl rfl rfl) rfl rfl hl.1 rfl (lv_room (Nat.le_of_ble_eq_true rfl)) dX8_firstPosition_11 ⟨Nat.zero_le _, Nat.zero_le _⟩) hP hD hS hA [1, 2, 0] [] rfl rfl (by decide) (by decide) (fun r9 u H locs hw hP hD hS => ?_)
    obtain ⟨mad2_11, rt2_11⟩ := u
    have hP : va_P D vwCl [(hm, .inr (6, oM am n2_2 pos cmp que dsz mad2_11 cur stp met bst)), (am 1, .inl (cI, 18, .inl (nA dgt2_2))), (am 20, .inl (cI, 36, .inl (nA rt2_11)))] H := hP
    have hD : va_D _ [(hm, .inr (6, oM am n2_2 pos cmp que dsz mad2_11 cur stp met bst)), (am 1, .inl (cI, 18, .inl (nA dgt2_2))), (am 20, .inl (cI, 36, .inl (nA rt2_11)))] := hD
    try dsimp only at hw
    obtain ⟨hrr, hw11⟩ := hw
    rw [hrr]
    have h18 := (dc_lt (okVb_iff.mp c5).2.1).2
    have hN := fS_none c5
    by_cases hf : fPn (gV (xv x)) (dc (xv x)) < dc (xv x)
    · have ey := fsn_yes c5 hf
      have hst1 := (fst_ok c5 hf).1
      refine W.eq (g2 := F0 mG 14 ls [.int (nI (fsn (xv x)))]) (congrArg (fun zz => F0 mG 14 ls [.int zz]) (fS_yes c5 hf)) ?_
      refine lv_istore_n (pc := 14) (lv' := [(3, .int (nI (fsn (xv x)))), (0, .ref hm), (1, .long x)]) hx hb dX8_firstPosition_14 rfl hl (by decide) rfl (fun ls hl => ?_)
      refine lv_iload_n (pc := 15) hx hb dX8_firstPosition_15 rfl (lv_at hl 0 rfl) ?_
      refine lv_bipush (pc := 16) (v := ((-9))) hx hb dX8_firstPosition_16 (by decide) ?_
      refine lv_icmp_ne (pc := 18) (tgt := 26) hx hb dX8_firstPosition_18 (by decide) (fun c18 => ?_) (fun c18 => ?_)
      · refine lv_iload_n (pc := 26) hx hb dX8_firstPosition_26 rfl (lv_at hl 0 rfl) ?_
        refine lv_bipush (pc := 27) (v := (nI (16))) hx hb dX8_firstPosition_27 (by decide) ?_
        refine xn_idiv (pc := 29) hx hb (by omega) (by omega) (by omega) dX8_firstPosition_29 ?_
        have hP9 : va_P D vwCl [(hm, .inr (6, oM am n2_2 pos cmp que dsz mad2_11 cur stp met bst)), (am 1, .inl (cI, 18, .inl (nA dgt2_2))), (am 20, .inl (cI, 36, .inl (nA rt2_11)))] H := hP.sub [0, 1, 2] rfl
        have hD9 : va_D _ [(hm, .inr (6, oM am n2_2 pos cmp que dsz mad2_11 cur stp met bst)), (am 1, .inl (cI, 18, .inl (nA dgt2_2))), (am 20, .inl (cI, 36, .inl (nA rt2_11)))] := hD.sub [0, 1, 2] (by decide) rfl
        exact W.iret (pc := 30) (v := (nI ((fsn (xv x)) / 16))) hx hb hr (fun t ht hW => ⟨⟨_, (n2_2, dgt2_2, mad2_11, rt2_11), rfl, ⟨(aFP_yes c5 hf), trivial⟩, by rw [ht]; exact hP9, va_K.moved hW.alike hK, hD9⟩, hS.F ht⟩) hS.2.2 dX8_firstPosition_30
      · exact absurd c18 (nI_nneg (by omega) (by decide))
    · refine W.eq (g2 := F0 mG 14 ls [.int ((-9))]) (congrArg (fun zz => F0 mG 14 ls [.int zz]) (hN.mpr hf)) ?_
      refine lv_istore_n (pc := 14) (lv' := [(3, .int ((-9))), (0, .ref hm), (1, .long x)]) hx hb dX8_firstPosition_14 rfl hl (by decide) rfl (fun ls hl => ?_)
      refine lv_iload_n (pc := 15) hx hb dX8_firstPosition_15 rfl (lv_at hl 0 rfl) ?_
      refine lv_bipush (pc := 16) (v := ((-9))) hx hb dX8_firstPosition_16 (by decide) ?_
      refine lv_icmp_ne (pc := 18) (tgt := 26) hx hb dX8_firstPosition_18 (by decide) (fun c18 => ?_) (fun c18 => ?_)
      · exact absurd rfl c18
      · refine lv_bipush (pc := 21) (v := ((-9))) hx hb dX8_firstPosition_21 (by decide) ?_
        refine lv_goto (pc := 23) (tgt := 30) hx hb dX8_firstPosition_23 (by decide) ?_
        have hP9 : va_P D vwCl [(hm, .inr (6, oM am n2_2 pos cmp que dsz mad2_11 cur stp met bst)), (am 1, .inl (cI, 18, .inl (nA dgt2_2))), (am 20, .inl (cI, 36, .inl (nA rt2_11)))] H := hP.sub [0, 1, 2] rfl
        have hD9 : va_D _ [(hm, .inr (6, oM am n2_2 pos cmp que dsz mad2_11 cur stp met bst)), (am 1, .inl (cI, 18, .inl (nA dgt2_2))), (am 20, .inl (cI, 36, .inl (nA rt2_11)))] := hD.sub [0, 1, 2] (by decide) rfl
        exact W.iret (pc := 30) (v := ((-9))) hx hb hr (fun t ht hW => ⟨⟨_, (n2_2, dgt2_2, mad2_11, rt2_11), rfl, ⟨(aFP_no c5 hf), trivial⟩, by rw [ht]; exact hP9, va_K.moved hW.alike hK, hD9⟩, hS.F ht⟩) hS.2.2 dX8_firstPosition_30
  · refine lv_iconst (pc := 8) (v := ((-1))) hx hb dX8_firstPosition_8 (by decide) ?_
    have hP9 : va_P D vwCl [(hm, .inr (6, oM am n2_2 pos cmp que dsz mad cur stp met bst)), (am 1, .inl (cI, 18, .inl (nA dgt2_2))), (am 20, .inl (cI, 36, .inl (nA rt)))] H := hP.sub [1, 2, 0] rfl
    have hD9 : va_D _ [(hm, .inr (6, oM am n2_2 pos cmp que dsz mad cur stp met bst)), (am 1, .inl (cI, 18, .inl (nA dgt2_2))), (am 20, .inl (cI, 36, .inl (nA rt)))] := hD.sub [1, 2, 0] (by decide) rfl
    exact W.iret (pc := 9) (v := ((-1))) hx hb hr (fun t ht hW => ⟨⟨_, (n2_2, dgt2_2, mad, rt), rfl, ⟨(if_neg c5).symm, trivial⟩, by rw [ht]; exact hP9, va_K.moved hW.alike hK, hD9⟩, hS.F ht⟩) hS.2.2 dX8_firstPosition_9
set_option maxHeartbeats 4000000 in
set_option maxRecDepth 100000 in
theorem c_X8_firstRule (l : Launch) (D : va_G) (cI cL cZ : ClassId) (sz : Nat) (hm : Nat) (am : Nat → Nat) (n : Nat) (pos : Nat) (cmp : Nat) (que : Nat) (dsz : Nat) (mad : Nat) (cur : Nat) (stp : Nat) (met : Nat) (bst : Nat) (dgt : Nat → Nat) (rt : Nat → Nat) (x : Int64)  : Met l yX8_firstRule wsX8_firstRule { frames := 7, cells := 0, slots := 0, locals := 167 } (mP D (tyL cI cL cZ) [(hm, .inr (6, oM am n pos cmp que dsz mad cur stp met bst)), (am 1, .inl (cI, 18, .inl (nA dgt))), (am 20, .inl (cI, 36, .inl (nA rt)))] sz [.ref hm, .long x]) (va_Qi (fun (r : Int32) (u : Nat × (Nat → Nat) × Nat × (Nat → Nat)) => r = (aFR x) ∧ (True)) (fun (u : Nat × (Nat → Nat) × Nat × (Nat → Nat)) (t : State) => mB D (tyL cI cL cZ) (va_A [(hm, .inr (6, oM am n pos cmp que dsz mad cur stp met bst)), (am 1, .inl (cI, 18, .inl (nA dgt))), (am 20, .inl (cI, 36, .inl (nA rt)))] sz) [(hm, .inr (6, oM am (u.1) pos cmp que dsz (u.2.2.1) cur stp met bst)), (am 1, .inl (cI, 18, .inl (nA (u.2.1)))), (am 20, .inl (cI, 36, .inl (nA (u.2.2.2))))] t) (va_A [(hm, .inr (6, oM am n pos cmp que dsz mad cur stp met bst)), (am 1, .inl (cI, 18, .inl (nA dgt))), (am 20, .inl (cI, 36, .inl (nA rt)))] sz)) 0 0 (va_A [(hm, .inr (6, oM am n pos cmp que dsz mad cur stp met bst)), (am 1, .inl (cI, 18, .inl (nA dgt))), (am 20, .inl (cI, 36, .inl (nA rt)))] sz) := by
  refine Met.ofW (cc := cX8_firstRule) (maxL := 4) (ret := (some .int)) (by decide) rfl ?_
  intro pG eG s mG args below meth cG s₁ B hml hpre9
  obtain ⟨rfl, hsz, hP, hK, hD0⟩ := hpre9
  have hx := B.exec
  have hb := B.bytes
  have hr := B.returns
  have hts := atoms_spec (ws := wsX8_firstRule) B.pre
  have hown : s.vm.findClass RX8 = some mG.cls := findClass_of_methodNamed B.named
  have hlocks := B.notSynchronized
  subst hsz
  have hD := hD0.self (sz := s.heap.size)
  have hA : ∀ q : Nat, s.heap.size ≤ q → va_A [(hm, .inr (6, oM am n pos cmp que dsz mad cur stp met bst)), (am 1, .inl (cI, 18, .inl (nA dgt))), (am 20, .inl (cI, 36, .inl (nA rt)))] s.heap.size q := fun q h => Or.inr h
  have hS : va_S (va_A [(hm, .inr (6, oM am n pos cmp que dsz mad cur stp met bst)), (am 1, .inl (cI, 18, .inl (nA dgt))), (am 20, .inl (cI, 36, .inl (nA rt)))] s.heap.size) s.heap s.heap [] := va_S.rf
  have hl := lv_entry ([.ref hm, .long x]) (n := 4) (Nat.le_of_ble_eq_true rfl)
  rw [lg_entry_eq]
  generalize (lg_sl ([.ref hm, .long x]) ++ List.replicate (4 - (lg_sl ([.ref hm, .long x])).length) Slot.unset).toArray = ls at hl ⊢
  have hl : lv_has ls 4 [(0, .ref hm), (1, .long x)] := hl
  refine lv_aload_n (pc := 0) hx hb dX8_firstRule_0 rfl (lv_at hl 0 rfl) ?_
  refine lv_lload_n (pc := 1) hx hb dX8_firstRule_1 rfl (lv_at hl 1 rfl) ?_
  refine xm_calli (pc := 2) (wc := [(hm, .inr (6, oM am n pos cmp que dsz mad cur stp met bst)), (am 1, .inl (cI, 18, .inl (nA dgt)))]) (wr := [(am 20, .inl (cI, 36, .inl (nA rt)))]) (va_runV (As := [.long x]) (rest := []) ⟨hx, hb, hml, hown, hts⟩ (c_X8_parses l D cI cL cZ s.heap.size hm am n pos cmp que dsz mad cur stp met bst dgt x) (cwV 1 hts gX8_firstRule_X8_parses rfl rfl rfl (by decide +kernel) ⟨Nat.le_of_ble_eq_true rfl, Nat.le_of_ble_eq_true rfl⟩) (mP_V (wc := [(hm, .inr (6, oM am n pos cmp que dsz mad cur stp met bst)), (am 1, .inl (cI, 18, .inl (nA dgt)))]) (ci := 6) (q0 := 0) hK hP hD [0, 1] (by decide) rfl rfl rfl) rfl rfl hl.1 rfl (lv_room (Nat.le_of_ble_eq_true rfl)) dX8_firstRule_2 ⟨Nat.zero_le _, Nat.zero_le _⟩) hP hD hS hA [0, 1] [2] rfl rfl (by decide) (by decide) (fun r9 u H locs hw hP hD hS => ?_)
  obtain ⟨n2_2, dgt2_2⟩ := u
  have hP : va_P D vwCl [(am 20, .inl (cI, 36, .inl (nA rt))), (hm, .inr (6, oM am n2_2 pos cmp que dsz mad cur stp met bst)), (am 1, .inl (cI, 18, .inl (nA dgt2_2)))] H := hP
  have hD : va_D _ [(am 20, .inl (cI, 36, .inl (nA rt))), (hm, .inr (6, oM am n2_2 pos cmp que dsz mad cur stp met bst)), (am 1, .inl (cI, 18, .inl (nA dgt2_2)))] := hD
  try dsimp only at hw
  obtain ⟨hrr, ⟨hn19, hmd⟩⟩ := hw
  rw [hrr]
  refine xp_if_ne (pc := 5) (tgt := 10) hx hb dX8_firstRule_5 (by decide) (fun c5 => ?_) (fun c5 => ?_)
  · refine lv_aload_n (pc := 10) hx hb dX8_firstRule_10 rfl (lv_at hl 0 rfl) ?_
    refine xm_calli (pc := 11) (wc := [(hm, .inr (6, oM am n2_2 pos cmp que dsz mad cur stp met bst)), (am 1, .inl (cI, 18, .inl (nA dgt2_2))), (am 20, .inl (cI, 36, .inl (nA rt)))]) (wr := []) (va_runV (As := []) (rest := []) ⟨hx, hb, hml, hown, hts⟩ (c_X8_firstStep l D cI cL cZ H.size hm am n2_2 pos cmp que dsz mad cur stp met bst dgt2_2 rt (xv x) c5 (hmd c5)) (cwV 0 hts gX8_firstRule_X8_firstStep rfl rfl rfl (by decide +kernel) ⟨Nat.le_of_ble_eq_true rfl, Nat.le_of_ble_eq_true rfl⟩) (mP_V (wc := [(hm, .inr (6, oM am n2_2 pos cmp que dsz mad cur stp met bst)), (am 1, .inl (cI, 18, .inl (nA dgt2_2))), (am 20, .inl (cI, 36, .inl (nA rt)))]) (ci := 6) (q0 := 0) hK hP hD [1, 2, 0] (by decide) rfl rfl rfl) rfl rfl hl.1 rfl (lv_room (Nat.le_of_ble_eq_true rfl)) dX8_firstRule_11 ⟨Nat.zero_le _, Nat.zero_le _⟩) hP hD hS hA [1, 2, 0] [] rfl rfl (by decide) (by decide) (fun r9 u H locs hw hP hD hS => ?_)
    obtain ⟨mad2_11, rt2_11⟩ := u
    have hP : va_P D vwCl [(hm, .inr (6, oM am n2_2 pos cmp que dsz mad2_11 cur stp met bst)), (am 1, .inl (cI, 18, .inl (nA dgt2_2))), (am 20, .inl (cI, 36, .inl (nA rt2_11)))] H := hP
    have hD : va_D _ [(hm, .inr (6, oM am n2_2 pos cmp que dsz mad2_11 cur stp met bst)), (am 1, .inl (cI, 18, .inl (nA dgt2_2))), (am 20, .inl (cI, 36, .inl (nA rt2_11)))] := hD
    try dsimp only at hw
    obtain ⟨hrr, hw11⟩ := hw
    rw [hrr]
    have h18 := (dc_lt (okVb_iff.mp c5).2.1).2
    have hN := fS_none c5
    by_cases hf : fPn (gV (xv x)) (dc (xv x)) < dc (xv x)
    · have ey := fsn_yes c5 hf
      have hst1 := (fst_ok c5 hf).1
      refine W.eq (g2 := F0 mG 14 ls [.int (nI (fsn (xv x)))]) (congrArg (fun zz => F0 mG 14 ls [.int zz]) (fS_yes c5 hf)) ?_
      refine lv_istore_n (pc := 14) (lv' := [(3, .int (nI (fsn (xv x)))), (0, .ref hm), (1, .long x)]) hx hb dX8_firstRule_14 rfl hl (by decide) rfl (fun ls hl => ?_)
      refine lv_iload_n (pc := 15) hx hb dX8_firstRule_15 rfl (lv_at hl 0 rfl) ?_
      refine lv_bipush (pc := 16) (v := ((-9))) hx hb dX8_firstRule_16 (by decide) ?_
      refine lv_icmp_ne (pc := 18) (tgt := 26) hx hb dX8_firstRule_18 (by decide) (fun c18 => ?_) (fun c18 => ?_)
      · refine lv_iload_n (pc := 26) hx hb dX8_firstRule_26 rfl (lv_at hl 0 rfl) ?_
        refine lv_bipush (pc := 27) (v := (nI (16))) hx hb dX8_firstRule_27 (by decide) ?_
        refine xn_irem (pc := 29) hx hb (by omega) (by omega) (by omega) dX8_firstRule_29 ?_
        have hP9 : va_P D vwCl [(hm, .inr (6, oM am n2_2 pos cmp que dsz mad2_11 cur stp met bst)), (am 1, .inl (cI, 18, .inl (nA dgt2_2))), (am 20, .inl (cI, 36, .inl (nA rt2_11)))] H := hP.sub [0, 1, 2] rfl
        have hD9 : va_D _ [(hm, .inr (6, oM am n2_2 pos cmp que dsz mad2_11 cur stp met bst)), (am 1, .inl (cI, 18, .inl (nA dgt2_2))), (am 20, .inl (cI, 36, .inl (nA rt2_11)))] := hD.sub [0, 1, 2] (by decide) rfl
        exact W.iret (pc := 30) (v := (nI ((fsn (xv x)) % 16))) hx hb hr (fun t ht hW => ⟨⟨_, (n2_2, dgt2_2, mad2_11, rt2_11), rfl, ⟨(aFR_yes c5 hf), trivial⟩, by rw [ht]; exact hP9, va_K.moved hW.alike hK, hD9⟩, hS.F ht⟩) hS.2.2 dX8_firstRule_30
      · exact absurd c18 (nI_nneg (by omega) (by decide))
    · refine W.eq (g2 := F0 mG 14 ls [.int ((-9))]) (congrArg (fun zz => F0 mG 14 ls [.int zz]) (hN.mpr hf)) ?_
      refine lv_istore_n (pc := 14) (lv' := [(3, .int ((-9))), (0, .ref hm), (1, .long x)]) hx hb dX8_firstRule_14 rfl hl (by decide) rfl (fun ls hl => ?_)
      refine lv_iload_n (pc := 15) hx hb dX8_firstRule_15 rfl (lv_at hl 0 rfl) ?_
      refine lv_bipush (pc := 16) (v := ((-9))) hx hb dX8_firstRule_16 (by decide) ?_
      refine lv_icmp_ne (pc := 18) (tgt := 26) hx hb dX8_firstRule_18 (by decide) (fun c18 => ?_) (fun c18 => ?_)
      · exact absurd rfl c18
      · refine lv_bipush (pc := 21) (v := ((-9))) hx hb dX8_firstRule_21 (by decide) ?_
        refine lv_goto (pc := 23) (tgt := 30) hx hb dX8_firstRule_23 (by decide) ?_
        have hP9 : va_P D vwCl [(hm, .inr (6, oM am n2_2 pos cmp que dsz mad2_11 cur stp met bst)), (am 1, .inl (cI, 18, .inl (nA dgt2_2))), (am 20, .inl (cI, 36, .inl (nA rt2_11)))] H := hP.sub [0, 1, 2] rfl
        have hD9 : va_D _ [(hm, .inr (6, oM am n2_2 pos cmp que dsz mad2_11 cur stp met bst)), (am 1, .inl (cI, 18, .inl (nA dgt2_2))), (am 20, .inl (cI, 36, .inl (nA rt2_11)))] := hD.sub [0, 1, 2] (by decide) rfl
        exact W.iret (pc := 30) (v := ((-9))) hx hb hr (fun t ht hW => ⟨⟨_, (n2_2, dgt2_2, mad2_11, rt2_11), rfl, ⟨(aFR_no c5 hf), trivial⟩, by rw [ht]; exact hP9, va_K.moved hW.alike hK, hD9⟩, hS.F ht⟩) hS.2.2 dX8_firstRule_30
  · refine lv_iconst (pc := 8) (v := ((-1))) hx hb dX8_firstRule_8 (by decide) ?_
    have hP9 : va_P D vwCl [(hm, .inr (6, oM am n2_2 pos cmp que dsz mad cur stp met bst)), (am 1, .inl (cI, 18, .inl (nA dgt2_2))), (am 20, .inl (cI, 36, .inl (nA rt)))] H := hP.sub [1, 2, 0] rfl
    have hD9 : va_D _ [(hm, .inr (6, oM am n2_2 pos cmp que dsz mad cur stp met bst)), (am 1, .inl (cI, 18, .inl (nA dgt2_2))), (am 20, .inl (cI, 36, .inl (nA rt)))] := hD.sub [1, 2, 0] (by decide) rfl
    exact W.iret (pc := 9) (v := ((-1))) hx hb hr (fun t ht hW => ⟨⟨_, (n2_2, dgt2_2, mad, rt), rfl, ⟨(if_neg c5).symm, trivial⟩, by rw [ht]; exact hP9, va_K.moved hW.alike hK, hD9⟩, hS.F ht⟩) hS.2.2 dX8_firstRule_9
