/-! the reference: its methods on expressions, rules and steps -/
set_option maxHeartbeats 4000000 in
set_option maxRecDepth 100000 in
theorem c_X8_isRule (l : Launch) (D : va_G) (cI cL cZ : ClassId) (x : Int32)  : Met l yX8_isRule wsX8_isRule { frames := 1, cells := 0, slots := 0, locals := 22 } (rP D (tyL cI cL cZ) [] [.int x]) (vp_Si (fun r => r = (nI (pN (rok x 16 = true))))) 0 0 (fun _ => False) := by
  refine Met.ofW (cc := cX8_isRule) (maxL := 1) (ret := (some .boolean)) (by decide) rfl ?_
  intro pG eG s mG args below meth cG s₁ B hml hpre9
  obtain ⟨rfl, hP, hK⟩ := hpre9
  have hx := B.exec
  have hb := B.bytes
  have hr := B.returns
  have hts := atoms_spec (ws := wsX8_isRule) B.pre
  have hown : s.vm.findClass RX8 = some mG.cls := findClass_of_methodNamed B.named
  have hlocks := B.notSynchronized
  have hS : va_S (fun _ => False) s.heap s.heap [] := va_S.rf
  have hl := lv_entry ([.int x]) (n := 1) (Nat.le_of_ble_eq_true rfl)
  rw [lg_entry_eq]
  generalize (lg_sl ([.int x]) ++ List.replicate (1 - (lg_sl ([.int x])).length) Slot.unset).toArray = ls at hl ⊢
  have hl : lv_has ls 1 [(0, .int x)] := hl
  refine lv_iload_n (pc := 0) hx hb dX8_isRule_0 rfl (lv_at hl 0 rfl) ?_
  refine lv_iconst (pc := 1) (v := (nI (0))) hx hb dX8_isRule_1 (by decide) ?_
  refine lv_bipush (pc := 2) (v := (nI (15))) hx hb dX8_isRule_2 (by decide) ?_
  refine vp_callSi (pc := 4) (W.runS (As := [.int x, .int (nI 0), .int (nI 15)]) (rest := []) ⟨hx, hb, hml, hown, hts⟩ (c_X8_within l D cI cL cZ x ((nI (0))) ((nI (15)))) (va_cwS 3 hts gX8_isRule_X8_within rfl rfl rfl (by decide +kernel) ⟨Nat.le_of_ble_eq_true rfl, Nat.le_of_ble_eq_true rfl⟩) (rP_S (wc := []) hK hP [] rfl) rfl rfl hl.1 rfl (lv_room (Nat.le_of_ble_eq_true rfl)) dX8_isRule_4 ⟨Nat.zero_le _, Nat.zero_le _⟩) (fun r9 hrr => ?_)
  rw [hrr]
  exact W.zret (pc := 7) (v := (nI (pN (((nI (0))) ≤ x ∧ x ≤ ((nI (15))))))) (ty := .boolean) hx hb hr pN_nar (fun t ht _ => ⟨_, rfl, (congrArg nI (pN_iff (rok_le (m := 16) (by decide) (by decide)))), ht⟩) (fun _ h => absurd h List.not_mem_nil) dX8_isRule_7
set_option maxHeartbeats 4000000 in
set_option maxRecDepth 100000 in
theorem c_X8_size (l : Launch) (D : va_G) (cI cL cZ : ClassId) (sz : Nat) (hm : Nat) (am : Nat → Nat) (n : Nat) (pos : Nat) (cmp : Nat) (que : Nat) (dsz : Nat) (mad : Nat) (cur : Nat) (stp : Nat) (met : Nat) (bst : Nat) (dgt : Nat → Nat) (x : Int64)  : Met l yX8_size wsX8_size { frames := 2, cells := 0, slots := 0, locals := 48 } (mP D (tyL cI cL cZ) [(hm, .inr (6, oM am n pos cmp que dsz mad cur stp met bst)), (am 1, .inl (cI, 18, .inl (nA dgt)))] sz [.ref hm, .long x]) (va_Qi (fun (r : Int32) (u : Nat × (Nat → Nat)) => r = (aSize x) ∧ (okVb (xv x) = true → MD (xv x) u.1 u.2)) (fun (u : Nat × (Nat → Nat)) (t : State) => mB D (tyL cI cL cZ) (va_A [(hm, .inr (6, oM am n pos cmp que dsz mad cur stp met bst)), (am 1, .inl (cI, 18, .inl (nA dgt)))] sz) [(hm, .inr (6, oM am (u.1) pos cmp que dsz mad cur stp met bst)), (am 1, .inl (cI, 18, .inl (nA (u.2))))] t) (va_A [(hm, .inr (6, oM am n pos cmp que dsz mad cur stp met bst)), (am 1, .inl (cI, 18, .inl (nA dgt)))] sz)) 0 0 (va_A [(hm, .inr (6, oM am n pos cmp que dsz mad cur stp met bst)), (am 1, .inl (cI, 18, .inl (nA dgt)))] sz) := by
  refine Met.ofW (cc := cX8_size) (maxL := 3) (ret := (some .int)) (by decide) rfl ?_
  intro pG eG s mG args below meth cG s₁ B hml hpre9
  obtain ⟨rfl, hsz, hP, hK, hD0⟩ := hpre9
  have hx := B.exec
  have hb := B.bytes
  have hr := B.returns
  have hts := atoms_spec (ws := wsX8_size) B.pre
  have hown : s.vm.findClass RX8 = some mG.cls := findClass_of_methodNamed B.named
  have hlocks := B.notSynchronized
  subst hsz
  have hD := hD0.self (sz := s.heap.size)
  have hA : ∀ q : Nat, s.heap.size ≤ q → va_A [(hm, .inr (6, oM am n pos cmp que dsz mad cur stp met bst)), (am 1, .inl (cI, 18, .inl (nA dgt)))] s.heap.size q := fun q h => Or.inr h
  have hS : va_S (va_A [(hm, .inr (6, oM am n pos cmp que dsz mad cur stp met bst)), (am 1, .inl (cI, 18, .inl (nA dgt)))] s.heap.size) s.heap s.heap [] := va_S.rf
  have hinX8 : ∀ w ∈ wsX80, w ∈ wsX8_size := fun w HH => (List.mem_cons_of_mem _ (List.mem_append_right _ HH))
  have lk0 : (Cond.fieldLink RX8 78 "RegexSimplifierModel" "n" "I").before _ s = true := hts _ (List.mem_cons_of_mem _ (List.mem_append_left _ (List.mem_of_getElem? (i := 0) rfl)))
  have hl := lv_entry ([.ref hm, .long x]) (n := 3) (Nat.le_of_ble_eq_true rfl)
  rw [lg_entry_eq]
  generalize (lg_sl ([.ref hm, .long x]) ++ List.replicate (3 - (lg_sl ([.ref hm, .long x])).length) Slot.unset).toArray = ls at hl ⊢
  have hl : lv_has ls 3 [(0, .ref hm), (1, .long x)] := hl
  refine lv_aload_n (pc := 0) hx hb dX8_size_0 rfl (lv_at hl 0 rfl) ?_
  refine lv_lload_n (pc := 1) hx hb dX8_size_1 rfl (lv_at hl 1 rfl) ?_
  refine xm_calli (pc := 2) (wc := [(hm, .inr (6, oM am n pos cmp que dsz mad cur stp met bst)), (am 1, .inl (cI, 18, .inl (nA dgt)))]) (wr := []) (va_runV (As := [.long x]) (rest := []) ⟨hx, hb, hml, hown, hts⟩ (c_X8_parses l D cI cL cZ s.heap.size hm am n pos cmp que dsz mad cur stp met bst dgt x) (cwV 1 hts gX8_size_X8_parses rfl rfl rfl (by decide +kernel) ⟨Nat.le_of_ble_eq_true rfl, Nat.le_of_ble_eq_true rfl⟩) (mP_V (wc := [(hm, .inr (6, oM am n pos cmp que dsz mad cur stp met bst)), (am 1, .inl (cI, 18, .inl (nA dgt)))]) (ci := 6) (q0 := 0) hK hP hD [0, 1] (by decide) rfl rfl rfl) rfl rfl hl.1 rfl (lv_room (Nat.le_of_ble_eq_true rfl)) dX8_size_2 ⟨Nat.zero_le _, Nat.zero_le _⟩) hP hD hS hA [0, 1] [] rfl rfl (by decide) (by decide) (fun r9 u H locs hw hP hD hS => ?_)
  obtain ⟨n2_2, dgt2_2⟩ := u
  have hP : va_P D vwCl [(hm, .inr (6, oM am n2_2 pos cmp que dsz mad cur stp met bst)), (am 1, .inl (cI, 18, .inl (nA dgt2_2)))] H := hP
  have hD : va_D _ [(hm, .inr (6, oM am n2_2 pos cmp que dsz mad cur stp met bst)), (am 1, .inl (cI, 18, .inl (nA dgt2_2)))] := hD
  try dsimp only at hw
  obtain ⟨hrr, ⟨hn19, hmd⟩⟩ := hw
  rw [hrr]
  refine xp_if_eq (pc := 5) (tgt := 15) hx hb dX8_size_5 (by decide) (fun c5 => ?_) (fun c5 => ?_)
  · refine lv_iconst (pc := 15) (v := ((-1))) hx hb dX8_size_15 (by decide) ?_
    have hP9 : va_P D vwCl [(hm, .inr (6, oM am n2_2 pos cmp que dsz mad cur stp met bst)), (am 1, .inl (cI, 18, .inl (nA dgt2_2)))] H := hP.sub [0, 1] rfl
    have hD9 : va_D _ [(hm, .inr (6, oM am n2_2 pos cmp que dsz mad cur stp met bst)), (am 1, .inl (cI, 18, .inl (nA dgt2_2)))] := hD.sub [0, 1] (by decide) rfl
    exact W.iret (pc := 16) (v := ((-1))) hx hb hr (fun t ht hW => ⟨⟨_, (n2_2, dgt2_2), rfl, ⟨(if_neg c5).symm, hmd⟩, by rw [ht]; exact hP9, va_K.moved hW.alike hK, hD9⟩, hS.F ht⟩) hS.2.2 dX8_size_16
  · refine lv_aload_n (pc := 8) hx hb dX8_size_8 rfl (lv_at hl 0 rfl) ?_
    refine va_get (pc := 9) (D := D) (ci := 6) (v := .int (nI n2_2)) (C := RX8) (T := TX8) (N := 30) hx hb hts hinX8 hown hK hP 0 rfl rfl 0 (by decide) lk0 (fun _ h9 => h9) rfl dX8_size_9 ?_
    refine lv_goto (pc := 12) (tgt := 16) hx hb dX8_size_12 (by decide) ?_
    have hP9 : va_P D vwCl [(hm, .inr (6, oM am n2_2 pos cmp que dsz mad cur stp met bst)), (am 1, .inl (cI, 18, .inl (nA dgt2_2)))] H := hP.sub [0, 1] rfl
    have hD9 : va_D _ [(hm, .inr (6, oM am n2_2 pos cmp que dsz mad cur stp met bst)), (am 1, .inl (cI, 18, .inl (nA dgt2_2)))] := hD.sub [0, 1] (by decide) rfl
    exact W.iret (pc := 16) (v := (nI (n2_2))) hx hb hr (fun t ht hW => ⟨⟨_, (n2_2, dgt2_2), rfl, ⟨(by unfold aSize; rw [if_pos c5, (hmd c5).1]), hmd⟩, by rw [ht]; exact hP9, va_K.moved hW.alike hK, hD9⟩, hS.F ht⟩) hS.2.2 dX8_size_16
set_option maxHeartbeats 4000000 in
set_option maxRecDepth 100000 in
theorem c_X8_load (l : Launch) (D : va_G) (cI cL cZ : ClassId) (sz : Nat) (hm : Nat) (am : Nat → Nat) (n : Nat) (pos : Nat) (cmp : Nat) (que : Nat) (dsz : Nat) (mad : Nat) (cur : Nat) (stp : Nat) (met : Nat) (bst : Nat) (dgt : Nat → Nat) (x : Int64)  : Met l yX8_load wsX8_load { frames := 2, cells := 0, slots := 0, locals := 48 } (mP D (tyL cI cL cZ) [(hm, .inr (6, oM am n pos cmp que dsz mad cur stp met bst)), (am 1, .inl (cI, 18, .inl (nA dgt)))] sz [.ref hm, .long x]) (va_Qi (fun (r : Int32) (u : Nat × (Nat → Nat) × Nat × Nat) => r = (aSize x) ∧ ((okVb (xv x) = true → u.2.2.1 = xv x ∧ u.2.2.2 = 0) ∧ (¬ okVb (xv x) = true → u.2.2.1 = cur ∧ u.2.2.2 = stp))) (fun (u : Nat × (Nat → Nat) × Nat × Nat) (t : State) => mB D (tyL cI cL cZ) (va_A [(hm, .inr (6, oM am n pos cmp que dsz mad cur stp met bst)), (am 1, .inl (cI, 18, .inl (nA dgt)))] sz) [(hm, .inr (6, oM am (u.1) pos cmp que dsz mad (u.2.2.1) (u.2.2.2) met bst)), (am 1, .inl (cI, 18, .inl (nA (u.2.1))))] t) (va_A [(hm, .inr (6, oM am n pos cmp que dsz mad cur stp met bst)), (am 1, .inl (cI, 18, .inl (nA dgt)))] sz)) 0 0 (va_A [(hm, .inr (6, oM am n pos cmp que dsz mad cur stp met bst)), (am 1, .inl (cI, 18, .inl (nA dgt)))] sz) := by
  refine Met.ofW (cc := cX8_load) (maxL := 3) (ret := (some .int)) (by decide) rfl ?_
  intro pG eG s mG args below meth cG s₁ B hml hpre9
  obtain ⟨rfl, hsz, hP, hK, hD0⟩ := hpre9
  have hx := B.exec
  have hb := B.bytes
  have hr := B.returns
  have hts := atoms_spec (ws := wsX8_load) B.pre
  have hown : s.vm.findClass RX8 = some mG.cls := findClass_of_methodNamed B.named
  have hlocks := B.notSynchronized
  subst hsz
  have hD := hD0.self (sz := s.heap.size)
  have hA : ∀ q : Nat, s.heap.size ≤ q → va_A [(hm, .inr (6, oM am n pos cmp que dsz mad cur stp met bst)), (am 1, .inl (cI, 18, .inl (nA dgt)))] s.heap.size q := fun q h => Or.inr h
  have hS : va_S (va_A [(hm, .inr (6, oM am n pos cmp que dsz mad cur stp met bst)), (am 1, .inl (cI, 18, .inl (nA dgt)))] s.heap.size) s.heap s.heap [] := va_S.rf
  have hinX8 : ∀ w ∈ wsX80, w ∈ wsX8_load := fun w HH => (List.mem_cons_of_mem _ (List.mem_append_right _ HH))
  have lk0 : (Cond.fieldLink RX8 74 "RegexSimplifierModel" "currentRegex" "J").before _ s = true := hts _ (List.mem_cons_of_mem _ (List.mem_append_left _ (List.mem_of_getElem? (i := 0) rfl)))
  have lk1 : (Cond.fieldLink RX8 219 "RegexSimplifierModel" "steps" "I").before _ s = true := hts _ (List.mem_cons_of_mem _ (List.mem_append_left _ (List.mem_of_getElem? (i := 1) rfl)))
  have lk2 : (Cond.fieldLink RX8 78 "RegexSimplifierModel" "n" "I").before _ s = true := hts _ (List.mem_cons_of_mem _ (List.mem_append_left _ (List.mem_of_getElem? (i := 2) rfl)))
  have hl := lv_entry ([.ref hm, .long x]) (n := 3) (Nat.le_of_ble_eq_true rfl)
  rw [lg_entry_eq]
  generalize (lg_sl ([.ref hm, .long x]) ++ List.replicate (3 - (lg_sl ([.ref hm, .long x])).length) Slot.unset).toArray = ls at hl ⊢
  have hl : lv_has ls 3 [(0, .ref hm), (1, .long x)] := hl
  refine lv_aload_n (pc := 0) hx hb dX8_load_0 rfl (lv_at hl 0 rfl) ?_
  refine lv_lload_n (pc := 1) hx hb dX8_load_1 rfl (lv_at hl 1 rfl) ?_
  refine xm_calli (pc := 2) (wc := [(hm, .inr (6, oM am n pos cmp que dsz mad cur stp met bst)), (am 1, .inl (cI, 18, .inl (nA dgt)))]) (wr := []) (va_runV (As := [.long x]) (rest := []) ⟨hx, hb, hml, hown, hts⟩ (c_X8_parses l D cI cL cZ s.heap.size hm am n pos cmp que dsz mad cur stp met bst dgt x) (cwV 1 hts gX8_load_X8_parses rfl rfl rfl (by decide +kernel) ⟨Nat.le_of_ble_eq_true rfl, Nat.le_of_ble_eq_true rfl⟩) (mP_V (wc := [(hm, .inr (6, oM am n pos cmp que dsz mad cur stp met bst)), (am 1, .inl (cI, 18, .inl (nA dgt)))]) (ci := 6) (q0 := 0) hK hP hD [0, 1] (by decide) rfl rfl rfl) rfl rfl hl.1 rfl (lv_room (Nat.le_of_ble_eq_true rfl)) dX8_load_2 ⟨Nat.zero_le _, Nat.zero_le _⟩) hP hD hS hA [0, 1] [] rfl rfl (by decide) (by decide) (fun r9 u H locs hw hP hD hS => ?_)
  obtain ⟨n2_2, dgt2_2⟩ := u
  have hP : va_P D vwCl [(hm, .inr (6, oM am n2_2 pos cmp que dsz mad cur stp met bst)), (am 1, .inl (cI, 18, .inl (nA dgt2_2)))] H := hP
  have hD : va_D _ [(hm, .inr (6, oM am n2_2 pos cmp que dsz mad cur stp met bst)), (am 1, .inl (cI, 18, .inl (nA dgt2_2)))] := hD
  try dsimp only at hw
  obtain ⟨hrr, ⟨hn19, hmd⟩⟩ := hw
  rw [hrr]
  refine xp_if_ne (pc := 5) (tgt := 10) hx hb dX8_load_5 (by decide) (fun c5 => ?_) (fun c5 => ?_)
  · obtain ⟨v, hv18, rfl, hv⟩ := ok_x c5
    have hxv : xv (lN v) = v := xv_lN (Nat.lt_trans hv18 pow18)
    refine lv_aload_n (pc := 10) hx hb dX8_load_10 rfl (lv_at hl 0 rfl) ?_
    refine lv_lload_n (pc := 11) hx hb dX8_load_11 rfl (lv_at hl 1 rfl) ?_
    refine va_put (pc := 12) (D := D) (ci := 6) (v := .long (lN v)) (ty := .long) (C := RX8) (T := TX8) (N := 30) hx hb hts hinX8 tyX8 tyX8_ok nmX8 hown hK hP hD hS 0 rfl rfl 21 (by decide) lk0 (fun _ h9 => h9) rfl (by decide +kernel) rfl rfl (Nat.le_of_ble_eq_true rfl) dX8_load_12 (fun H locs hP hD hS => ?_)
    have hP : va_P D vwCl [(hm, .inr (6, oM am n2_2 pos cmp que dsz mad v stp met bst)), (am 1, .inl (cI, 18, .inl (nA dgt2_2)))] H := hP
    have hD : va_D _ [(hm, .inr (6, oM am n2_2 pos cmp que dsz mad v stp met bst)), (am 1, .inl (cI, 18, .inl (nA dgt2_2)))] := hD
    refine lv_aload_n (pc := 15) hx hb dX8_load_15 rfl (lv_at hl 0 rfl) ?_
    refine lv_iconst (pc := 16) (v := (nI (0))) hx hb dX8_load_16 (by decide) ?_
    refine va_put (pc := 17) (D := D) (ci := 6) (v := .int (nI 0)) (ty := .int) (C := RX8) (T := TX8) (N := 30) hx hb hts hinX8 tyX8 tyX8_ok nmX8 hown hK hP hD hS 0 rfl rfl 22 (by decide) lk1 (fun _ h9 => h9) rfl (by decide +kernel) rfl rfl (Nat.le_of_ble_eq_true rfl) dX8_load_17 (fun H locs hP hD hS => ?_)
    have hP : va_P D vwCl [(hm, .inr (6, oM am n2_2 pos cmp que dsz mad v 0 met bst)), (am 1, .inl (cI, 18, .inl (nA dgt2_2)))] H := hP
    have hD : va_D _ [(hm, .inr (6, oM am n2_2 pos cmp que dsz mad v 0 met bst)), (am 1, .inl (cI, 18, .inl (nA dgt2_2)))] := hD
    refine lv_aload_n (pc := 20) hx hb dX8_load_20 rfl (lv_at hl 0 rfl) ?_
    refine va_get (pc := 21) (D := D) (ci := 6) (v := .int (nI n2_2)) (C := RX8) (T := TX8) (N := 30) hx hb hts hinX8 hown hK hP 0 rfl rfl 0 (by decide) lk2 (fun _ h9 => h9) rfl dX8_load_21 ?_
    have hP9 : va_P D vwCl [(hm, .inr (6, oM am n2_2 pos cmp que dsz mad v 0 met bst)), (am 1, .inl (cI, 18, .inl (nA dgt2_2)))] H := hP.sub [0, 1] rfl
    have hD9 : va_D _ [(hm, .inr (6, oM am n2_2 pos cmp que dsz mad v 0 met bst)), (am 1, .inl (cI, 18, .inl (nA dgt2_2)))] := hD.sub [0, 1] (by decide) rfl
    exact W.iret (pc := 24) (v := (nI (n2_2))) hx hb hr (fun t ht hW => ⟨⟨_, (n2_2, dgt2_2, v, 0), rfl, ⟨(by unfold aSize; rw [if_pos c5, (hmd c5).1]), ⟨fun _ => ⟨hxv.symm, rfl⟩, fun h => absurd c5 h⟩⟩, by rw [ht]; exact hP9, va_K.moved hW.alike hK, hD9⟩, hS.F ht⟩) hS.2.2 dX8_load_24
  · refine lv_iconst (pc := 8) (v := ((-1))) hx hb dX8_load_8 (by decide) ?_
    have hP9 : va_P D vwCl [(hm, .inr (6, oM am n2_2 pos cmp que dsz mad cur stp met bst)), (am 1, .inl (cI, 18, .inl (nA dgt2_2)))] H := hP.sub [0, 1] rfl
    have hD9 : va_D _ [(hm, .inr (6, oM am n2_2 pos cmp que dsz mad cur stp met bst)), (am 1, .inl (cI, 18, .inl (nA dgt2_2)))] := hD.sub [0, 1] (by decide) rfl
    exact W.iret (pc := 9) (v := ((-1))) hx hb hr (fun t ht hW => ⟨⟨_, (n2_2, dgt2_2, cur, stp), rfl, ⟨(if_neg c5).symm, ⟨fun h => absurd h c5, fun _ => ⟨rfl, rfl⟩⟩⟩, by rw [ht]; exact hP9, va_K.moved hW.alike hK, hD9⟩, hS.F ht⟩) hS.2.2 dX8_load_9
set_option maxHeartbeats 4000000 in
set_option maxRecDepth 100000 in
theorem c_X8_current (l : Launch) (D : va_G) (cI cL cZ : ClassId) (hm : Nat) (am : Nat → Nat) (n : Nat) (pos : Nat) (cmp : Nat) (que : Nat) (dsz : Nat) (mad : Nat) (cur : Nat) (stp : Nat) (met : Nat) (bst : Nat)  : Met l yX8_current wsX8_current { frames := 0, cells := 0, slots := 0, locals := 0 } (rP D (tyL cI cL cZ) [(hm, .inr (6, oM am n pos cmp que dsz mad cur stp met bst))] [.ref hm]) (vp_Sl (fun r => r = (lN (cur)))) 0 0 (fun _ => False) := by
  refine Met.ofW (cc := cX8_current) (maxL := 1) (ret := (some .long)) (by decide) rfl ?_
  intro pG eG s mG args below meth cG s₁ B hml hpre9
  obtain ⟨rfl, hP, hK⟩ := hpre9
  have hx := B.exec
  have hb := B.bytes
  have hr := B.returns
  have hts := atoms_spec (ws := wsX8_current) B.pre
  have hown : s.vm.findClass RX8 = some mG.cls := findClass_of_methodNamed B.named
  have hlocks := B.notSynchronized
  have hS : va_S (fun _ => False) s.heap s.heap [] := va_S.rf
  have hinX8 : ∀ w ∈ wsX80, w ∈ wsX8_current := fun w HH => (List.mem_cons_of_mem _ (List.mem_append_right _ HH))
  have lk0 : (Cond.fieldLink RX8 74 "RegexSimplifierModel" "currentRegex" "J").before _ s = true := hts _ (List.mem_cons_of_mem _ (List.mem_append_left _ (List.mem_of_getElem? (i := 0) rfl)))
  have hl := lv_entry ([.ref hm]) (n := 1) (Nat.le_of_ble_eq_true rfl)
  rw [lg_entry_eq]
  generalize (lg_sl ([.ref hm]) ++ List.replicate (1 - (lg_sl ([.ref hm])).length) Slot.unset).toArray = ls at hl ⊢
  have hl : lv_has ls 1 [(0, .ref hm)] := hl
  refine lv_aload_n (pc := 0) hx hb dX8_current_0 rfl (lv_at hl 0 rfl) ?_
  refine va_get (pc := 1) (D := D) (ci := 6) (v := .long (lN cur)) (C := RX8) (T := TX8) (N := 30) hx hb hts hinX8 hown hK hP 0 rfl rfl 21 (by decide) lk0 (fun _ h9 => h9) rfl dX8_current_1 ?_
  exact W.lret (pc := 4) (v := (lN (cur))) hx hb hr (fun t ht _ => ⟨_, rfl, (by first | rfl | ((repeat' split) <;> first | rfl | omega)), ht⟩) (fun _ h => absurd h List.not_mem_nil) dX8_current_4
set_option maxHeartbeats 4000000 in
set_option maxRecDepth 100000 in
theorem c_X8_stepCount (l : Launch) (D : va_G) (cI cL cZ : ClassId) (hm : Nat) (am : Nat → Nat) (n : Nat) (pos : Nat) (cmp : Nat) (que : Nat) (dsz : Nat) (mad : Nat) (cur : Nat) (stp : Nat) (met : Nat) (bst : Nat)  : Met l yX8_stepCount wsX8_stepCount { frames := 0, cells := 0, slots := 0, locals := 0 } (rP D (tyL cI cL cZ) [(hm, .inr (6, oM am n pos cmp que dsz mad cur stp met bst))] [.ref hm]) (vp_Si (fun r => r = (nI (stp)))) 0 0 (fun _ => False) := by
  refine Met.ofW (cc := cX8_stepCount) (maxL := 1) (ret := (some .int)) (by decide) rfl ?_
  intro pG eG s mG args below meth cG s₁ B hml hpre9
  obtain ⟨rfl, hP, hK⟩ := hpre9
  have hx := B.exec
  have hb := B.bytes
  have hr := B.returns
  have hts := atoms_spec (ws := wsX8_stepCount) B.pre
  have hown : s.vm.findClass RX8 = some mG.cls := findClass_of_methodNamed B.named
  have hlocks := B.notSynchronized
  have hS : va_S (fun _ => False) s.heap s.heap [] := va_S.rf
  have hinX8 : ∀ w ∈ wsX80, w ∈ wsX8_stepCount := fun w HH => (List.mem_cons_of_mem _ (List.mem_append_right _ HH))
  have lk0 : (Cond.fieldLink RX8 219 "RegexSimplifierModel" "steps" "I").before _ s = true := hts _ (List.mem_cons_of_mem _ (List.mem_append_left _ (List.mem_of_getElem? (i := 0) rfl)))
  have hl := lv_entry ([.ref hm]) (n := 1) (Nat.le_of_ble_eq_true rfl)
  rw [lg_entry_eq]
  generalize (lg_sl ([.ref hm]) ++ List.replicate (1 - (lg_sl ([.ref hm])).length) Slot.unset).toArray = ls at hl ⊢
  have hl : lv_has ls 1 [(0, .ref hm)] := hl
  refine lv_aload_n (pc := 0) hx hb dX8_stepCount_0 rfl (lv_at hl 0 rfl) ?_
  refine va_get (pc := 1) (D := D) (ci := 6) (v := .int (nI stp)) (C := RX8) (T := TX8) (N := 30) hx hb hts hinX8 hown hK hP 0 rfl rfl 22 (by decide) lk0 (fun _ h9 => h9) rfl dX8_stepCount_1 ?_
  exact W.iret (pc := 4) (v := (nI (stp))) hx hb hr (fun t ht _ => ⟨_, rfl, (by first | rfl | ((repeat' split) <;> first | rfl | omega)), ht⟩) (fun _ h => absurd h List.not_mem_nil) dX8_stepCount_4
set_option maxHeartbeats 4000000 in
set_option maxRecDepth 100000 in
theorem c_X8_records (l : Launch) (D : va_G) (cI cL cZ : ClassId) (sz : Nat) (hm : Nat) (am : Nat → Nat) (n : Nat) (pos : Nat) (cmp : Nat) (que : Nat) (dsz : Nat) (mad : Nat) (cur : Nat) (stp : Nat) (met : Nat) (bst : Nat) (rul : Nat → Nat) (psn : Nat → Nat) (bfr : Nat → Nat) (rl : Nat) (p1 : Nat) (v : Nat) (hst : stp < 18) : Met l yX8_records wsX8_records { frames := 0, cells := 0, slots := 0, locals := 0 } (mP D (tyL cI cL cZ) [(hm, .inr (6, oM am n pos cmp que dsz mad cur stp met bst)), (am 23, .inl (cI, 18, .inl (nA rul))), (am 24, .inl (cI, 18, .inl (nA psn))), (am 25, .inl (cL, 18, .inr (.inl (lA bfr))))] sz [.ref hm, .int (nI rl), .int (nI p1), .long (lN v)]) (va_Qv (fun (u : Unit) => True) (fun (u : Unit) (t : State) => mB D (tyL cI cL cZ) (va_A [(hm, .inr (6, oM am n pos cmp que dsz mad cur stp met bst)), (am 23, .inl (cI, 18, .inl (nA rul))), (am 24, .inl (cI, 18, .inl (nA psn))), (am 25, .inl (cL, 18, .inr (.inl (lA bfr))))] sz) [(hm, .inr (6, oM am n pos cmp que dsz mad v (stp + 1) met bst)), (am 23, .inl (cI, 18, .inl (nA (up rul stp rl)))), (am 24, .inl (cI, 18, .inl (nA (up psn stp p1)))), (am 25, .inl (cL, 18, .inr (.inl (lA (up bfr stp cur)))))] t) (va_A [(hm, .inr (6, oM am n pos cmp que dsz mad cur stp met bst)), (am 23, .inl (cI, 18, .inl (nA rul))), (am 24, .inl (cI, 18, .inl (nA psn))), (am 25, .inl (cL, 18, .inr (.inl (lA bfr))))] sz)) 0 0 (va_A [(hm, .inr (6, oM am n pos cmp que dsz mad cur stp met bst)), (am 23, .inl (cI, 18, .inl (nA rul))), (am 24, .inl (cI, 18, .inl (nA psn))), (am 25, .inl (cL, 18, .inr (.inl (lA bfr))))] sz) := by
  refine Met.ofW (cc := cX8_records) (maxL := 5) (ret := none) (by decide) rfl ?_
  intro pG eG s mG args below meth cG s₁ B hml hpre9
  obtain ⟨rfl, hsz, hP, hK, hD0⟩ := hpre9
  have hx := B.exec
  have hb := B.bytes
  have hr := B.returns
  have hts := atoms_spec (ws := wsX8_records) B.pre
  have hown : s.vm.findClass RX8 = some mG.cls := findClass_of_methodNamed B.named
  have hlocks := B.notSynchronized
  subst hsz
  have hD := hD0.self (sz := s.heap.size)
  have hA : ∀ q : Nat, s.heap.size ≤ q → va_A [(hm, .inr (6, oM am n pos cmp que dsz mad cur stp met bst)), (am 23, .inl (cI, 18, .inl (nA rul))), (am 24, .inl (cI, 18, .inl (nA psn))), (am 25, .inl (cL, 18, .inr (.inl (lA bfr))))] s.heap.size q := fun q h => Or.inr h
  have hS : va_S (va_A [(hm, .inr (6, oM am n pos cmp que dsz mad cur stp met bst)), (am 23, .inl (cI, 18, .inl (nA rul))), (am 24, .inl (cI, 18, .inl (nA psn))), (am 25, .inl (cL, 18, .inr (.inl (lA bfr))))] s.heap.size) s.heap s.heap [] := va_S.rf
  have hinX8 : ∀ w ∈ wsX80, w ∈ wsX8_records := fun w HH => (List.mem_cons_of_mem _ (List.mem_append_right _ HH))
  have lk0 : (Cond.fieldLink RX8 58 "RegexSimplifierModel" "ruleOf" "[I").before _ s = true := hts _ (List.mem_cons_of_mem _ (List.mem_append_left _ (List.mem_of_getElem? (i := 0) rfl)))
  have lk1 : (Cond.fieldLink RX8 219 "RegexSimplifierModel" "steps" "I").before _ s = true := hts _ (List.mem_cons_of_mem _ (List.mem_append_left _ (List.mem_of_getElem? (i := 1) rfl)))
  have lk2 : (Cond.fieldLink RX8 61 "RegexSimplifierModel" "positionOf" "[I").before _ s = true := hts _ (List.mem_cons_of_mem _ (List.mem_append_left _ (List.mem_of_getElem? (i := 2) rfl)))
  have lk3 : (Cond.fieldLink RX8 64 "RegexSimplifierModel" "before" "[J").before _ s = true := hts _ (List.mem_cons_of_mem _ (List.mem_append_left _ (List.mem_of_getElem? (i := 3) rfl)))
  have lk4 : (Cond.fieldLink RX8 74 "RegexSimplifierModel" "currentRegex" "J").before _ s = true := hts _ (List.mem_cons_of_mem _ (List.mem_append_left _ (List.mem_of_getElem? (i := 4) rfl)))
  have hl := lv_entry ([.ref hm, .int (nI rl), .int (nI p1), .long (lN v)]) (n := 5) (Nat.le_of_ble_eq_true rfl)
  rw [lg_entry_eq]
  generalize (lg_sl ([.ref hm, .int (nI rl), .int (nI p1), .long (lN v)]) ++ List.replicate (5 - (lg_sl ([.ref hm, .int (nI rl), .int (nI p1), .long (lN v)])).length) Slot.unset).toArray = ls at hl ⊢
  have hl : lv_has ls 5 [(0, .ref hm), (1, .int (nI rl)), (2, .int (nI p1)), (3, .long (lN v))] := hl
  refine lv_aload_n (pc := 0) hx hb dX8_records_0 rfl (lv_at hl 0 rfl) ?_
  refine va_get (pc := 1) (D := D) (ci := 6) (v := .ref (am 23)) (C := RX8) (T := TX8) (N := 30) hx hb hts hinX8 hown hK hP 0 rfl rfl 23 (by decide) lk0 (fun _ h9 => h9) rfl dX8_records_1 ?_
  refine lv_aload_n (pc := 4) hx hb dX8_records_4 rfl (lv_at hl 0 rfl) ?_
  refine va_get (pc := 5) (D := D) (ci := 6) (v := .int (nI stp)) (C := RX8) (T := TX8) (N := 30) hx hb hts hinX8 hown hK hP 0 rfl rfl 22 (by decide) lk1 (fun _ h9 => h9) rfl dX8_records_5 ?_
  refine lv_iload_n (pc := 8) hx hb dX8_records_8 rfl (lv_at hl 1 rfl) ?_
  refine xa_iast (pc := 9) hx hb hK hP hD hS 1 0 rfl rfl (by omega) (by omega) dX8_records_9 (fun H locs hP hD hS => ?_)
  have hP : va_P D vwCl [(hm, .inr (6, oM am n pos cmp que dsz mad cur stp met bst)), (am 23, .inl (cI, 18, .inl (nA (up rul stp rl)))), (am 24, .inl (cI, 18, .inl (nA psn))), (am 25, .inl (cL, 18, .inr (.inl (lA bfr))))] H := hP
  have hD : va_D _ [(hm, .inr (6, oM am n pos cmp que dsz mad cur stp met bst)), (am 23, .inl (cI, 18, .inl (nA (up rul stp rl)))), (am 24, .inl (cI, 18, .inl (nA psn))), (am 25, .inl (cL, 18, .inr (.inl (lA bfr))))] := hD
  refine lv_aload_n (pc := 10) hx hb dX8_records_10 rfl (lv_at hl 0 rfl) ?_
  refine va_get (pc := 11) (D := D) (ci := 6) (v := .ref (am 24)) (C := RX8) (T := TX8) (N := 30) hx hb hts hinX8 hown hK hP 0 rfl rfl 24 (by decide) lk2 (fun _ h9 => h9) rfl dX8_records_11 ?_
  refine lv_aload_n (pc := 14) hx hb dX8_records_14 rfl (lv_at hl 0 rfl) ?_
  refine va_get (pc := 15) (D := D) (ci := 6) (v := .int (nI stp)) (C := RX8) (T := TX8) (N := 30) hx hb hts hinX8 hown hK hP 0 rfl rfl 22 (by decide) lk1 (fun _ h9 => h9) rfl dX8_records_15 ?_
  refine lv_iload_n (pc := 18) hx hb dX8_records_18 rfl (lv_at hl 2 rfl) ?_
  refine xa_iast (pc := 19) hx hb hK hP hD hS 2 0 rfl rfl (by omega) (by omega) dX8_records_19 (fun H locs hP hD hS => ?_)
  have hP : va_P D vwCl [(hm, .inr (6, oM am n pos cmp que dsz mad cur stp met bst)), (am 23, .inl (cI, 18, .inl (nA (up rul stp rl)))), (am 24, .inl (cI, 18, .inl (nA (up psn stp p1)))), (am 25, .inl (cL, 18, .inr (.inl (lA bfr))))] H := hP
  have hD : va_D _ [(hm, .inr (6, oM am n pos cmp que dsz mad cur stp met bst)), (am 23, .inl (cI, 18, .inl (nA (up rul stp rl)))), (am 24, .inl (cI, 18, .inl (nA (up psn stp p1)))), (am 25, .inl (cL, 18, .inr (.inl (lA bfr))))] := hD
  refine lv_aload_n (pc := 20) hx hb dX8_records_20 rfl (lv_at hl 0 rfl) ?_
  refine va_get (pc := 21) (D := D) (ci := 6) (v := .ref (am 25)) (C := RX8) (T := TX8) (N := 30) hx hb hts hinX8 hown hK hP 0 rfl rfl 25 (by decide) lk3 (fun _ h9 => h9) rfl dX8_records_21 ?_
  refine lv_aload_n (pc := 24) hx hb dX8_records_24 rfl (lv_at hl 0 rfl) ?_
  refine va_get (pc := 25) (D := D) (ci := 6) (v := .int (nI stp)) (C := RX8) (T := TX8) (N := 30) hx hb hts hinX8 hown hK hP 0 rfl rfl 22 (by decide) lk1 (fun _ h9 => h9) rfl dX8_records_25 ?_
  refine lv_aload_n (pc := 28) hx hb dX8_records_28 rfl (lv_at hl 0 rfl) ?_
  refine va_get (pc := 29) (D := D) (ci := 6) (v := .long (lN cur)) (C := RX8) (T := TX8) (N := 30) hx hb hts hinX8 hown hK hP 0 rfl rfl 21 (by decide) lk4 (fun _ h9 => h9) rfl dX8_records_29 ?_
  refine xa_last (pc := 32) hx hb hK hP hD hS 3 1 rfl rfl (by omega) (by omega) dX8_records_32 (fun H locs hP hD hS => ?_)
  have hP : va_P D vwCl [(hm, .inr (6, oM am n pos cmp que dsz mad cur stp met bst)), (am 23, .inl (cI, 18, .inl (nA (up rul stp rl)))), (am 24, .inl (cI, 18, .inl (nA (up psn stp p1)))), (am 25, .inl (cL, 18, .inr (.inl (lA (up bfr stp cur)))))] H := hP
  have hD : va_D _ [(hm, .inr (6, oM am n pos cmp que dsz mad cur stp met bst)), (am 23, .inl (cI, 18, .inl (nA (up rul stp rl)))), (am 24, .inl (cI, 18, .inl (nA (up psn stp p1)))), (am 25, .inl (cL, 18, .inr (.inl (lA (up bfr stp cur)))))] := hD
  refine lv_aload_n (pc := 33) hx hb dX8_records_33 rfl (lv_at hl 0 rfl) ?_
  refine lv_dup (pc := 34) hx hb dX8_records_34 rfl ?_
  refine va_get (pc := 35) (D := D) (ci := 6) (v := .int (nI stp)) (C := RX8) (T := TX8) (N := 30) hx hb hts hinX8 hown hK hP 0 rfl rfl 22 (by decide) lk1 (fun _ h9 => h9) rfl dX8_records_35 ?_
  refine lv_iconst (pc := 38) (v := (nI (1))) hx hb dX8_records_38 (by decide) ?_
  refine xn_iadd (pc := 39) hx hb  dX8_records_39 ?_
  refine va_put (pc := 40) (D := D) (ci := 6) (v := .int (nI (stp + 1))) (ty := .int) (C := RX8) (T := TX8) (N := 30) hx hb hts hinX8 tyX8 tyX8_ok nmX8 hown hK hP hD hS 0 rfl rfl 22 (by decide) lk1 (fun _ h9 => h9) rfl (by decide +kernel) rfl rfl (Nat.le_of_ble_eq_true rfl) dX8_records_40 (fun H locs hP hD hS => ?_)
  have hP : va_P D vwCl [(hm, .inr (6, oM am n pos cmp que dsz mad cur (stp + 1) met bst)), (am 23, .inl (cI, 18, .inl (nA (up rul stp rl)))), (am 24, .inl (cI, 18, .inl (nA (up psn stp p1)))), (am 25, .inl (cL, 18, .inr (.inl (lA (up bfr stp cur)))))] H := hP
  have hD : va_D _ [(hm, .inr (6, oM am n pos cmp que dsz mad cur (stp + 1) met bst)), (am 23, .inl (cI, 18, .inl (nA (up rul stp rl)))), (am 24, .inl (cI, 18, .inl (nA (up psn stp p1)))), (am 25, .inl (cL, 18, .inr (.inl (lA (up bfr stp cur)))))] := hD
  refine lv_aload_n (pc := 43) hx hb dX8_records_43 rfl (lv_at hl 0 rfl) ?_
  refine lv_lload_n (pc := 44) hx hb dX8_records_44 rfl (lv_at hl 3 rfl) ?_
  refine va_put (pc := 45) (D := D) (ci := 6) (v := .long (lN v)) (ty := .long) (C := RX8) (T := TX8) (N := 30) hx hb hts hinX8 tyX8 tyX8_ok nmX8 hown hK hP hD hS 0 rfl rfl 21 (by decide) lk4 (fun _ h9 => h9) rfl (by decide +kernel) rfl rfl (Nat.le_of_ble_eq_true rfl) dX8_records_45 (fun H locs hP hD hS => ?_)
  have hP : va_P D vwCl [(hm, .inr (6, oM am n pos cmp que dsz mad v (stp + 1) met bst)), (am 23, .inl (cI, 18, .inl (nA (up rul stp rl)))), (am 24, .inl (cI, 18, .inl (nA (up psn stp p1)))), (am 25, .inl (cL, 18, .inr (.inl (lA (up bfr stp cur)))))] H := hP
  have hD : va_D _ [(hm, .inr (6, oM am n pos cmp que dsz mad v (stp + 1) met bst)), (am 23, .inl (cI, 18, .inl (nA (up rul stp rl)))), (am 24, .inl (cI, 18, .inl (nA (up psn stp p1)))), (am 25, .inl (cL, 18, .inr (.inl (lA (up bfr stp cur)))))] := hD
  have hP9 : va_P D vwCl [(hm, .inr (6, oM am n pos cmp que dsz mad v (stp + 1) met bst)), (am 23, .inl (cI, 18, .inl (nA (up rul stp rl)))), (am 24, .inl (cI, 18, .inl (nA (up psn stp p1)))), (am 25, .inl (cL, 18, .inr (.inl (lA (up bfr stp cur)))))] H := hP.sub [0, 1, 2, 3] rfl
  have hD9 : va_D _ [(hm, .inr (6, oM am n pos cmp que dsz mad v (stp + 1) met bst)), (am 23, .inl (cI, 18, .inl (nA (up rul stp rl)))), (am 24, .inl (cI, 18, .inl (nA (up psn stp p1)))), (am 25, .inl (cL, 18, .inr (.inl (lA (up bfr stp cur)))))] := hD.sub [0, 1, 2, 3] (by decide) rfl
  exact W.vret (pc := 48) hx hb hr (fun t ht hW => ⟨⟨(), rfl, trivial, by rw [ht]; exact hP9, va_K.moved hW.alike hK, hD9⟩, hS.F ht⟩) hS.2.2 dX8_records_48
set_option maxHeartbeats 4000000 in
set_option maxRecDepth 100000 in
theorem c_X8_isApplicable (l : Launch) (D : va_G) (cI cL cZ : ClassId) (sz : Nat) (hm : Nat) (am : Nat → Nat) (n : Nat) (pos : Nat) (cmp : Nat) (que : Nat) (dsz : Nat) (mad : Nat) (cur : Nat) (stp : Nat) (met : Nat) (bst : Nat) (dgt : Nat → Nat) (rt : Nat → Nat) (x : Int64) (rl : Int32) (px : Int32)  : Met l yX8_isApplicable wsX8_isApplicable { frames := 6, cells := 0, slots := 0, locals := 146 } (mP D (tyL cI cL cZ) [(hm, .inr (6, oM am n pos cmp que dsz mad cur stp met bst)), (am 1, .inl (cI, 18, .inl (nA dgt))), (am 20, .inl (cI, 36, .inl (nA rt)))] sz [.ref hm, .long x, .int rl, .int px]) (va_Qi (fun (r : Int32) (u : Nat × (Nat → Nat) × Nat × (Nat → Nat)) => r = (aIs x rl px) ∧ (okVb (xv x) = true → MD (xv x) u.1 u.2.1 ∧ (rok rl 16 = true → rok px (dc (xv x)) = true → RT u.2.2.2 u.2.2.1 ((oV (xv x) (rn rl) (rn px)).getD [])))) (fun (u : Nat × (Nat → Nat) × Nat × (Nat → Nat)) (t : State) => mB D (tyL cI cL cZ) (va_A [(hm, .inr (6, oM am n pos cmp que dsz mad cur stp met bst)), (am 1, .inl (cI, 18, .inl (nA dgt))), (am 20, .inl (cI, 36, .inl (nA rt)))] sz) [(hm, .inr (6, oM am (u.1) pos cmp que dsz (u.2.2.1) cur stp met bst)), (am 1, .inl (cI, 18, .inl (nA (u.2.1)))), (am 20, .inl (cI, 36, .inl (nA (u.2.2.2))))] t) (va_A [(hm, .inr (6, oM am n pos cmp que dsz mad cur stp met bst)), (am 1, .inl (cI, 18, .inl (nA dgt))), (am 20, .inl (cI, 36, .inl (nA rt)))] sz)) 0 0 (va_A [(hm, .inr (6, oM am n pos cmp que dsz mad cur stp met bst)), (am 1, .inl (cI, 18, .inl (nA dgt))), (am 20, .inl (cI, 36, .inl (nA rt)))] sz) := by
  refine Met.ofW (cc := cX8_isApplicable) (maxL := 5) (ret := (some .int)) (by decide) rfl ?_
  intro pG eG s mG args below meth cG s₁ B hml hpre9
  obtain ⟨rfl, hsz, hP, hK, hD0⟩ := hpre9
  have hx := B.exec
  have hb := B.bytes
  have hr := B.returns
  have hts := atoms_spec (ws := wsX8_isApplicable) B.pre
  have hown : s.vm.findClass RX8 = some mG.cls := findClass_of_methodNamed B.named
  have hlocks := B.notSynchronized
  subst hsz
  have hD := hD0.self (sz := s.heap.size)
  have hA : ∀ q : Nat, s.heap.size ≤ q → va_A [(hm, .inr (6, oM am n pos cmp que dsz mad cur stp met bst)), (am 1, .inl (cI, 18, .inl (nA dgt))), (am 20, .inl (cI, 36, .inl (nA rt)))] s.heap.size q := fun q h => Or.inr h
  have hS : va_S (va_A [(hm, .inr (6, oM am n pos cmp que dsz mad cur stp met bst)), (am 1, .inl (cI, 18, .inl (nA dgt))), (am 20, .inl (cI, 36, .inl (nA rt)))] s.heap.size) s.heap s.heap [] := va_S.rf
  have hinX8 : ∀ w ∈ wsX80, w ∈ wsX8_isApplicable := fun w HH => (List.mem_cons_of_mem _ (List.mem_append_right _ HH))
  have lk0 : (Cond.fieldLink RX8 78 "RegexSimplifierModel" "n" "I").before _ s = true := hts _ (List.mem_cons_of_mem _ (List.mem_append_left _ (List.mem_append_left _ (List.mem_of_getElem? (i := 0) rfl))))
  have hl := lv_entry ([.ref hm, .long x, .int rl, .int px]) (n := 5) (Nat.le_of_ble_eq_true rfl)
  rw [lg_entry_eq]
  generalize (lg_sl ([.ref hm, .long x, .int rl, .int px]) ++ List.replicate (5 - (lg_sl ([.ref hm, .long x, .int rl, .int px])).length) Slot.unset).toArray = ls at hl ⊢
  have hl : lv_has ls 5 [(0, .ref hm), (1, .long x), (3, .int rl), (4, .int px)] := hl
  refine lv_aload_n (pc := 0) hx hb dX8_isApplicable_0 rfl (lv_at hl 0 rfl) ?_
  refine lv_lload_n (pc := 1) hx hb dX8_isApplicable_1 rfl (lv_at hl 1 rfl) ?_
  refine xm_calli (pc := 2) (wc := [(hm, .inr (6, oM am n pos cmp que dsz mad cur stp met bst)), (am 1, .inl (cI, 18, .inl (nA dgt)))]) (wr := [(am 20, .inl (cI, 36, .inl (nA rt)))]) (va_runV (As := [.long x]) (rest := []) ⟨hx, hb, hml, hown, hts⟩ (c_X8_parses l D cI cL cZ s.heap.size hm am n pos cmp que dsz mad cur stp met bst dgt x) (cwV 1 hts gX8_isApplicable_X8_parses rfl rfl rfl (by decide +kernel) ⟨Nat.le_of_ble_eq_true rfl, Nat.le_of_ble_eq_true rfl⟩) (mP_V (wc := [(hm, .inr (6, oM am n pos cmp que dsz mad cur stp met bst)), (am 1, .inl (cI, 18, .inl (nA dgt)))]) (ci := 6) (q0 := 0) hK hP hD [0, 1] (by decide) rfl rfl rfl) rfl rfl hl.1 rfl (lv_room (Nat.le_of_ble_eq_true rfl)) dX8_isApplicable_2 ⟨Nat.zero_le _, Nat.zero_le _⟩) hP hD hS hA [0, 1] [2] rfl rfl (by decide) (by decide) (fun r9 u H locs hw hP hD hS => ?_)
  obtain ⟨n2_2, dgt2_2⟩ := u
  have hP : va_P D vwCl [(am 20, .inl (cI, 36, .inl (nA rt))), (hm, .inr (6, oM am n2_2 pos cmp que dsz mad cur stp met bst)), (am 1, .inl (cI, 18, .inl (nA dgt2_2)))] H := hP
  have hD : va_D _ [(am 20, .inl (cI, 36, .inl (nA rt))), (hm, .inr (6, oM am n2_2 pos cmp que dsz mad cur stp met bst)), (am 1, .inl (cI, 18, .inl (nA dgt2_2)))] := hD
  try dsimp only at hw
  obtain ⟨hrr, ⟨hn19, hmd⟩⟩ := hw
  rw [hrr]
  refine xp_if_ne (pc := 5) (tgt := 10) hx hb dX8_isApplicable_5 (by decide) (fun c5 => ?_) (fun c5 => ?_)
  · have hnv := (hmd c5).1
    have hdc := dc_in (xv x)
    have h18 := (dc_lt (okVb_iff.mp c5).2.1).2
    refine lv_iload_n (pc := 10) hx hb dX8_isApplicable_10 rfl (lv_at hl 2 rfl) ?_
    refine vp_callSi (pc := 11) (W.runS (As := [.int rl]) (rest := []) ⟨hx, hb, hml, hown, hts⟩ (c_X8_isRule l D cI cL cZ rl) (va_cwS 1 hts gX8_isApplicable_X8_isRule rfl rfl rfl (by decide +kernel) ⟨Nat.le_of_ble_eq_true rfl, Nat.le_of_ble_eq_true rfl⟩) (rP_S (wc := []) hK hP [] rfl) rfl rfl hl.1 rfl (lv_room (Nat.le_of_ble_eq_true rfl)) dX8_isApplicable_11 ⟨Nat.zero_le _, Nat.zero_le _⟩) (fun r9 hrr => ?_)
    rw [hrr]
    refine xp_if_ne (pc := 14) (tgt := 20) hx hb dX8_isApplicable_14 (by decide) (fun c14 => ?_) (fun c14 => ?_)
    · refine lv_iload (pc := 20) hx hb dX8_isApplicable_20 (lv_at hl 3 rfl) ?_
      refine lv_iconst (pc := 22) (v := (nI (0))) hx hb dX8_isApplicable_22 (by decide) ?_
      refine lv_aload_n (pc := 23) hx hb dX8_isApplicable_23 rfl (lv_at hl 0 rfl) ?_
      refine va_get (pc := 24) (D := D) (ci := 6) (v := .int (nI n2_2)) (C := RX8) (T := TX8) (N := 30) hx hb hts hinX8 hown hK hP 1 rfl rfl 0 (by decide) lk0 (fun _ h9 => h9) rfl dX8_isApplicable_24 ?_
      refine lv_iconst (pc := 27) (v := (nI (1))) hx hb dX8_isApplicable_27 (by decide) ?_
      refine xn_isub (pc := 28) hx hb (by omega) dX8_isApplicable_28 ?_
      refine vp_callSi (pc := 29) (W.runS (As := [.int px, .int (nI 0), .int (nI (n2_2 - 1))]) (rest := []) ⟨hx, hb, hml, hown, hts⟩ (c_X8_within l D cI cL cZ px ((nI (0))) ((nI (n2_2 - 1)))) (va_cwS 3 hts gX8_isApplicable_X8_within rfl rfl rfl (by decide +kernel) ⟨Nat.le_of_ble_eq_true rfl, Nat.le_of_ble_eq_true rfl⟩) (rP_S (wc := []) hK hP [] rfl) rfl rfl hl.1 rfl (lv_room (Nat.le_of_ble_eq_true rfl)) dX8_isApplicable_29 ⟨Nat.zero_le _, Nat.zero_le _⟩) (fun r9 hrr => ?_)
      rw [hrr]
      refine xp_if_ne (pc := 32) (tgt := 38) hx hb dX8_isApplicable_32 (by decide) (fun c32 => ?_) (fun c32 => ?_)
      · have c32b : rok px (dc (xv x)) = true := by rw [← hnv]; exact (rok_le (by omega) (by omega)).mp c32
        obtain ⟨r, hr16, rfl⟩ := rok_ok c14 (by omega); obtain ⟨p, hp, rfl⟩ := rok_ok c32b (by omega)
        have eO := rR_M c5 (hmd c5) hr16 hp
        refine lv_aload_n (pc := 38) hx hb dX8_isApplicable_38 rfl (lv_at hl 0 rfl) ?_
        refine lv_iload_n (pc := 39) hx hb dX8_isApplicable_39 rfl (lv_at hl 2 rfl) ?_
        refine lv_iload (pc := 40) hx hb dX8_isApplicable_40 (lv_at hl 3 rfl) ?_
        refine xm_calli (pc := 42) (wc := [(hm, .inr (6, oM am n2_2 pos cmp que dsz mad cur stp met bst)), (am 1, .inl (cI, 18, .inl (nA dgt2_2))), (am 20, .inl (cI, 36, .inl (nA rt)))]) (wr := []) (va_runV (As := [.int (nI r), .int (nI p)]) (rest := []) ⟨hx, hb, hml, hown, hts⟩ (c_X8_applies l D cI cL cZ H.size hm am n2_2 pos cmp que dsz mad cur stp met bst dgt2_2 (en (xv x)) (dc (xv x)) rt r p (TV_M c5 (hmd c5)) hr16 hp) (cwV 2 hts gX8_isApplicable_X8_applies rfl rfl rfl (by decide +kernel) ⟨Nat.le_of_ble_eq_true rfl, Nat.le_of_ble_eq_true rfl⟩) (mP_V (wc := [(hm, .inr (6, oM am n2_2 pos cmp que dsz mad cur stp met bst)), (am 1, .inl (cI, 18, .inl (nA dgt2_2))), (am 20, .inl (cI, 36, .inl (nA rt)))]) (ci := 6) (q0 := 0) hK hP hD [1, 2, 0] (by decide) rfl rfl rfl) rfl rfl hl.1 rfl (lv_room (Nat.le_of_ble_eq_true rfl)) dX8_isApplicable_42 ⟨Nat.zero_le _, Nat.zero_le _⟩) hP hD hS hA [1, 2, 0] [] rfl rfl (by decide) (by decide) (fun r9 u H locs hw hP hD hS => ?_)
        obtain ⟨mad2_42, rt2_42⟩ := u
        have hP : va_P D vwCl [(hm, .inr (6, oM am n2_2 pos cmp que dsz mad2_42 cur stp met bst)), (am 1, .inl (cI, 18, .inl (nA dgt2_2))), (am 20, .inl (cI, 36, .inl (nA rt2_42)))] H := hP
        have hD : va_D _ [(hm, .inr (6, oM am n2_2 pos cmp que dsz mad2_42 cur stp met bst)), (am 1, .inl (cI, 18, .inl (nA dgt2_2))), (am 20, .inl (cI, 36, .inl (nA rt2_42)))] := hD
        try dsimp only at hw
        obtain ⟨hrr, hw42⟩ := hw
        rw [hrr]
        refine xp_if_eq (pc := 45) (tgt := 52) hx hb dX8_isApplicable_45 (by decide) (fun c45 => ?_) (fun c45 => ?_)
        · refine lv_iconst (pc := 52) (v := (nI (0))) hx hb dX8_isApplicable_52 (by decide) ?_
          have hP9 : va_P D vwCl [(hm, .inr (6, oM am n2_2 pos cmp que dsz mad2_42 cur stp met bst)), (am 1, .inl (cI, 18, .inl (nA dgt2_2))), (am 20, .inl (cI, 36, .inl (nA rt2_42)))] H := hP.sub [0, 1, 2] rfl
          have hD9 : va_D _ [(hm, .inr (6, oM am n2_2 pos cmp que dsz mad2_42 cur stp met bst)), (am 1, .inl (cI, 18, .inl (nA dgt2_2))), (am 20, .inl (cI, 36, .inl (nA rt2_42)))] := hD.sub [0, 1, 2] (by decide) rfl
          exact W.iret (pc := 53) (v := (nI (0))) hx hb hr (fun t ht hW => ⟨⟨_, (n2_2, dgt2_2, mad2_42, rt2_42), rfl, ⟨(by unfold aIs; rw [if_pos c5, if_pos c14, if_pos c32b, oI_nI (by omega) (by omega), ← eO, pN_f c45]), (fun _ => ⟨hmd c5, fun _ _ => by rw [rn_nI (by omega), rn_nI (by omega), ← eO]; exact hw42⟩)⟩, by rw [ht]; exact hP9, va_K.moved hW.alike hK, hD9⟩, hS.F ht⟩) hS.2.2 dX8_isApplicable_53
        · refine lv_iconst (pc := 48) (v := (nI (1))) hx hb dX8_isApplicable_48 (by decide) ?_
          refine lv_goto (pc := 49) (tgt := 53) hx hb dX8_isApplicable_49 (by decide) ?_
          have hP9 : va_P D vwCl [(hm, .inr (6, oM am n2_2 pos cmp que dsz mad2_42 cur stp met bst)), (am 1, .inl (cI, 18, .inl (nA dgt2_2))), (am 20, .inl (cI, 36, .inl (nA rt2_42)))] H := hP.sub [0, 1, 2] rfl
          have hD9 : va_D _ [(hm, .inr (6, oM am n2_2 pos cmp que dsz mad2_42 cur stp met bst)), (am 1, .inl (cI, 18, .inl (nA dgt2_2))), (am 20, .inl (cI, 36, .inl (nA rt2_42)))] := hD.sub [0, 1, 2] (by decide) rfl
          exact W.iret (pc := 53) (v := (nI (1))) hx hb hr (fun t ht hW => ⟨⟨_, (n2_2, dgt2_2, mad2_42, rt2_42), rfl, ⟨(by unfold aIs; rw [if_pos c5, if_pos c14, if_pos c32b, oI_nI (by omega) (by omega), ← eO, pN_t c45]), (fun _ => ⟨hmd c5, fun _ _ => by rw [rn_nI (by omega), rn_nI (by omega), ← eO]; exact hw42⟩)⟩, by rw [ht]; exact hP9, va_K.moved hW.alike hK, hD9⟩, hS.F ht⟩) hS.2.2 dX8_isApplicable_53
      · have c32b : ¬ rok px (dc (xv x)) = true := by rw [← hnv]; exact fun q => c32 ((rok_le (by omega) (by omega)).mpr q)
        refine lv_bipush (pc := 35) (v := ((-3))) hx hb dX8_isApplicable_35 (by decide) ?_
        have hP9 : va_P D vwCl [(hm, .inr (6, oM am n2_2 pos cmp que dsz mad cur stp met bst)), (am 1, .inl (cI, 18, .inl (nA dgt2_2))), (am 20, .inl (cI, 36, .inl (nA rt)))] H := hP.sub [1, 2, 0] rfl
        have hD9 : va_D _ [(hm, .inr (6, oM am n2_2 pos cmp que dsz mad cur stp met bst)), (am 1, .inl (cI, 18, .inl (nA dgt2_2))), (am 20, .inl (cI, 36, .inl (nA rt)))] := hD.sub [1, 2, 0] (by decide) rfl
        exact W.iret (pc := 37) (v := ((-3))) hx hb hr (fun t ht hW => ⟨⟨_, (n2_2, dgt2_2, mad, rt), rfl, ⟨(by unfold aIs; rw [if_pos c5, if_pos c14, if_neg c32b]), (fun _ => ⟨hmd c5, fun _ h => absurd h c32b⟩)⟩, by rw [ht]; exact hP9, va_K.moved hW.alike hK, hD9⟩, hS.F ht⟩) hS.2.2 dX8_isApplicable_37
    · refine lv_bipush (pc := 17) (v := ((-2))) hx hb dX8_isApplicable_17 (by decide) ?_
      have hP9 : va_P D vwCl [(hm, .inr (6, oM am n2_2 pos cmp que dsz mad cur stp met bst)), (am 1, .inl (cI, 18, .inl (nA dgt2_2))), (am 20, .inl (cI, 36, .inl (nA rt)))] H := hP.sub [1, 2, 0] rfl
      have hD9 : va_D _ [(hm, .inr (6, oM am n2_2 pos cmp que dsz mad cur stp met bst)), (am 1, .inl (cI, 18, .inl (nA dgt2_2))), (am 20, .inl (cI, 36, .inl (nA rt)))] := hD.sub [1, 2, 0] (by decide) rfl
      exact W.iret (pc := 19) (v := ((-2))) hx hb hr (fun t ht hW => ⟨⟨_, (n2_2, dgt2_2, mad, rt), rfl, ⟨(by unfold aIs; rw [if_pos c5, if_neg c14]), (fun _ => ⟨hmd c5, fun h => absurd h c14⟩)⟩, by rw [ht]; exact hP9, va_K.moved hW.alike hK, hD9⟩, hS.F ht⟩) hS.2.2 dX8_isApplicable_19
  · refine lv_iconst (pc := 8) (v := ((-1))) hx hb dX8_isApplicable_8 (by decide) ?_
    have hP9 : va_P D vwCl [(hm, .inr (6, oM am n2_2 pos cmp que dsz mad cur stp met bst)), (am 1, .inl (cI, 18, .inl (nA dgt2_2))), (am 20, .inl (cI, 36, .inl (nA rt)))] H := hP.sub [1, 2, 0] rfl
    have hD9 : va_D _ [(hm, .inr (6, oM am n2_2 pos cmp que dsz mad cur stp met bst)), (am 1, .inl (cI, 18, .inl (nA dgt2_2))), (am 20, .inl (cI, 36, .inl (nA rt)))] := hD.sub [1, 2, 0] (by decide) rfl
    exact W.iret (pc := 9) (v := ((-1))) hx hb hr (fun t ht hW => ⟨⟨_, (n2_2, dgt2_2, mad, rt), rfl, ⟨(if_neg c5).symm, (fun h => absurd h c5)⟩, by rw [ht]; exact hP9, va_K.moved hW.alike hK, hD9⟩, hS.F ht⟩) hS.2.2 dX8_isApplicable_9
set_option maxHeartbeats 4000000 in
set_option maxRecDepth 100000 in
theorem c_X8_rewrite (l : Launch) (D : va_G) (cI cL cZ : ClassId) (sz : Nat) (hm : Nat) (am : Nat → Nat) (n : Nat) (pos : Nat) (cmp : Nat) (que : Nat) (dsz : Nat) (mad : Nat) (cur : Nat) (stp : Nat) (met : Nat) (bst : Nat) (dgt : Nat → Nat) (rt : Nat → Nat) (x : Int64) (rl : Int32) (px : Int32)  : Met l yX8_rewrite wsX8_rewrite { frames := 7, cells := 0, slots := 0, locals := 170 } (mP D (tyL cI cL cZ) [(hm, .inr (6, oM am n pos cmp que dsz mad cur stp met bst)), (am 1, .inl (cI, 18, .inl (nA dgt))), (am 20, .inl (cI, 36, .inl (nA rt)))] sz [.ref hm, .long x, .int rl, .int px]) (va_Ql (fun (r : Int64) (u : Nat × (Nat → Nat) × Nat × (Nat → Nat)) => r = (aRw x rl px) ∧ (True)) (fun (u : Nat × (Nat → Nat) × Nat × (Nat → Nat)) (t : State) => mB D (tyL cI cL cZ) (va_A [(hm, .inr (6, oM am n pos cmp que dsz mad cur stp met bst)), (am 1, .inl (cI, 18, .inl (nA dgt))), (am 20, .inl (cI, 36, .inl (nA rt)))] sz) [(hm, .inr (6, oM am (u.1) pos cmp que dsz (u.2.2.1) cur stp met bst)), (am 1, .inl (cI, 18, .inl (nA (u.2.1)))), (am 20, .inl (cI, 36, .inl (nA (u.2.2.2))))] t) (va_A [(hm, .inr (6, oM am n pos cmp que dsz mad cur stp met bst)), (am 1, .inl (cI, 18, .inl (nA dgt))), (am 20, .inl (cI, 36, .inl (nA rt)))] sz)) 0 0 (va_A [(hm, .inr (6, oM am n pos cmp que dsz mad cur stp met bst)), (am 1, .inl (cI, 18, .inl (nA dgt))), (am 20, .inl (cI, 36, .inl (nA rt)))] sz) := by
  refine Met.ofW (cc := cX8_rewrite) (maxL := 6) (ret := (some .long)) (by decide) rfl ?_
  intro pG eG s mG args below meth cG s₁ B hml hpre9
  obtain ⟨rfl, hsz, hP, hK, hD0⟩ := hpre9
  have hx := B.exec
  have hb := B.bytes
  have hr := B.returns
  have hts := atoms_spec (ws := wsX8_rewrite) B.pre
  have hown : s.vm.findClass RX8 = some mG.cls := findClass_of_methodNamed B.named
  have hlocks := B.notSynchronized
  subst hsz
  have hD := hD0.self (sz := s.heap.size)
  have hA : ∀ q : Nat, s.heap.size ≤ q → va_A [(hm, .inr (6, oM am n pos cmp que dsz mad cur stp met bst)), (am 1, .inl (cI, 18, .inl (nA dgt))), (am 20, .inl (cI, 36, .inl (nA rt)))] s.heap.size q := fun q h => Or.inr h
  have hS : va_S (va_A [(hm, .inr (6, oM am n pos cmp que dsz mad cur stp met bst)), (am 1, .inl (cI, 18, .inl (nA dgt))), (am 20, .inl (cI, 36, .inl (nA rt)))] s.heap.size) s.heap s.heap [] := va_S.rf
  have lk0 : (Cond.constantLong RX8 209 (-4)).before _ s = true := hts _ (List.mem_cons_of_mem _ (List.mem_append_left _ (List.mem_append_left _ (List.mem_of_getElem? (i := 0) rfl))))
  have hl := lv_entry ([.ref hm, .long x, .int rl, .int px]) (n := 6) (Nat.le_of_ble_eq_true rfl)
  rw [lg_entry_eq]
  generalize (lg_sl ([.ref hm, .long x, .int rl, .int px]) ++ List.replicate (6 - (lg_sl ([.ref hm, .long x, .int rl, .int px])).length) Slot.unset).toArray = ls at hl ⊢
  have hl : lv_has ls 6 [(0, .ref hm), (1, .long x), (3, .int rl), (4, .int px)] := hl
  refine lv_aload_n (pc := 0) hx hb dX8_rewrite_0 rfl (lv_at hl 0 rfl) ?_
  refine lv_lload_n (pc := 1) hx hb dX8_rewrite_1 rfl (lv_at hl 1 rfl) ?_
  refine lv_iload_n (pc := 2) hx hb dX8_rewrite_2 rfl (lv_at hl 2 rfl) ?_
  refine lv_iload (pc := 3) hx hb dX8_rewrite_3 (lv_at hl 3 rfl) ?_
  refine xm_calli (pc := 5) (wc := [(hm, .inr (6, oM am n pos cmp que dsz mad cur stp met bst)), (am 1, .inl (cI, 18, .inl (nA dgt))), (am 20, .inl (cI, 36, .inl (nA rt)))]) (wr := []) (va_runV (As := [.long x, .int rl, .int px]) (rest := []) ⟨hx, hb, hml, hown, hts⟩ (c_X8_isApplicable l D cI cL cZ s.heap.size hm am n pos cmp que dsz mad cur stp met bst dgt rt x rl px) (cwV 3 hts gX8_rewrite_X8_isApplicable rfl rfl rfl (by decide +kernel) ⟨Nat.le_of_ble_eq_true rfl, Nat.le_of_ble_eq_true rfl⟩) (mP_V (wc := [(hm, .inr (6, oM am n pos cmp que dsz mad cur stp met bst)), (am 1, .inl (cI, 18, .inl (nA dgt))), (am 20, .inl (cI, 36, .inl (nA rt)))]) (ci := 6) (q0 := 0) hK hP hD [0, 1, 2] (by decide) rfl rfl rfl) rfl rfl hl.1 rfl (lv_room (Nat.le_of_ble_eq_true rfl)) dX8_rewrite_5 ⟨Nat.zero_le _, Nat.zero_le _⟩) hP hD hS hA [0, 1, 2] [] rfl rfl (by decide) (by decide) (fun r9 u H locs hw hP hD hS => ?_)
  obtain ⟨n2_5, dgt2_5, mad2_5, rt2_5⟩ := u
  have hP : va_P D vwCl [(hm, .inr (6, oM am n2_5 pos cmp que dsz mad2_5 cur stp met bst)), (am 1, .inl (cI, 18, .inl (nA dgt2_5))), (am 20, .inl (cI, 36, .inl (nA rt2_5)))] H := hP
  have hD : va_D _ [(hm, .inr (6, oM am n2_5 pos cmp que dsz mad2_5 cur stp met bst)), (am 1, .inl (cI, 18, .inl (nA dgt2_5))), (am 20, .inl (cI, 36, .inl (nA rt2_5)))] := hD
  try dsimp only at hw
  obtain ⟨hrr, hpr⟩ := hw
  rw [hrr]
  rcases aIs_cases x rl px with h9 | h9 | h9 | ⟨hok, r, hr16, rfl, p, hp, rfl⟩
  · refine W.eq (g2 := F0 mG 8 ls [.int ((-1))]) (congrArg (fun zz => F0 mG 8 ls [.int zz]) (h9.1)) ?_
    refine lv_istore (pc := 8) (lv' := [(5, .int ((-1))), (0, .ref hm), (1, .long x), (3, .int rl), (4, .int px)]) hx hb dX8_rewrite_8 hl (by decide) rfl (fun ls hl => ?_)
    refine lv_iload (pc := 10) hx hb dX8_rewrite_10 (lv_at hl 0 rfl) ?_
    refine lv_if_ge (pc := 12) (tgt := 21) hx hb dX8_rewrite_12 (by decide) (fun h => absurd h (by decide)) (fun _ => ?_)
    refine lv_iload (pc := 15) hx hb dX8_rewrite_15 (lv_at hl 0 rfl) ?_
    refine lv_i2l (pc := 17) (v := (((-1)) : Int32).toInt64) hx hb dX8_rewrite_17 rfl ?_
    refine lv_goto (pc := 18) (tgt := 38) hx hb dX8_rewrite_18 (by decide) ?_
    have hP9 : va_P D vwCl [(hm, .inr (6, oM am n2_5 pos cmp que dsz mad2_5 cur stp met bst)), (am 1, .inl (cI, 18, .inl (nA dgt2_5))), (am 20, .inl (cI, 36, .inl (nA rt2_5)))] H := hP.sub [0, 1, 2] rfl
    have hD9 : va_D _ [(hm, .inr (6, oM am n2_5 pos cmp que dsz mad2_5 cur stp met bst)), (am 1, .inl (cI, 18, .inl (nA dgt2_5))), (am 20, .inl (cI, 36, .inl (nA rt2_5)))] := hD.sub [0, 1, 2] (by decide) rfl
    exact W.lret (pc := 38) (v := ((((-1)) : Int32).toInt64)) hx hb hr (fun t ht hW => ⟨⟨_, (n2_5, dgt2_5, mad2_5, rt2_5), rfl, ⟨(by rw [h9.2]; decide), trivial⟩, by rw [ht]; exact hP9, va_K.moved hW.alike hK, hD9⟩, hS.F ht⟩) hS.2.2 dX8_rewrite_38
  · refine W.eq (g2 := F0 mG 8 ls [.int ((-2))]) (congrArg (fun zz => F0 mG 8 ls [.int zz]) (h9.1)) ?_
    refine lv_istore (pc := 8) (lv' := [(5, .int ((-2))), (0, .ref hm), (1, .long x), (3, .int rl), (4, .int px)]) hx hb dX8_rewrite_8 hl (by decide) rfl (fun ls hl => ?_)
    refine lv_iload (pc := 10) hx hb dX8_rewrite_10 (lv_at hl 0 rfl) ?_
    refine lv_if_ge (pc := 12) (tgt := 21) hx hb dX8_rewrite_12 (by decide) (fun h => absurd h (by decide)) (fun _ => ?_)
    refine lv_iload (pc := 15) hx hb dX8_rewrite_15 (lv_at hl 0 rfl) ?_
    refine lv_i2l (pc := 17) (v := (((-2)) : Int32).toInt64) hx hb dX8_rewrite_17 rfl ?_
    refine lv_goto (pc := 18) (tgt := 38) hx hb dX8_rewrite_18 (by decide) ?_
    have hP9 : va_P D vwCl [(hm, .inr (6, oM am n2_5 pos cmp que dsz mad2_5 cur stp met bst)), (am 1, .inl (cI, 18, .inl (nA dgt2_5))), (am 20, .inl (cI, 36, .inl (nA rt2_5)))] H := hP.sub [0, 1, 2] rfl
    have hD9 : va_D _ [(hm, .inr (6, oM am n2_5 pos cmp que dsz mad2_5 cur stp met bst)), (am 1, .inl (cI, 18, .inl (nA dgt2_5))), (am 20, .inl (cI, 36, .inl (nA rt2_5)))] := hD.sub [0, 1, 2] (by decide) rfl
    exact W.lret (pc := 38) (v := ((((-2)) : Int32).toInt64)) hx hb hr (fun t ht hW => ⟨⟨_, (n2_5, dgt2_5, mad2_5, rt2_5), rfl, ⟨(by rw [h9.2]; decide), trivial⟩, by rw [ht]; exact hP9, va_K.moved hW.alike hK, hD9⟩, hS.F ht⟩) hS.2.2 dX8_rewrite_38
  · refine W.eq (g2 := F0 mG 8 ls [.int ((-3))]) (congrArg (fun zz => F0 mG 8 ls [.int zz]) (h9.1)) ?_
    refine lv_istore (pc := 8) (lv' := [(5, .int ((-3))), (0, .ref hm), (1, .long x), (3, .int rl), (4, .int px)]) hx hb dX8_rewrite_8 hl (by decide) rfl (fun ls hl => ?_)
    refine lv_iload (pc := 10) hx hb dX8_rewrite_10 (lv_at hl 0 rfl) ?_
    refine lv_if_ge (pc := 12) (tgt := 21) hx hb dX8_rewrite_12 (by decide) (fun h => absurd h (by decide)) (fun _ => ?_)
    refine lv_iload (pc := 15) hx hb dX8_rewrite_15 (lv_at hl 0 rfl) ?_
    refine lv_i2l (pc := 17) (v := (((-3)) : Int32).toInt64) hx hb dX8_rewrite_17 rfl ?_
    refine lv_goto (pc := 18) (tgt := 38) hx hb dX8_rewrite_18 (by decide) ?_
    have hP9 : va_P D vwCl [(hm, .inr (6, oM am n2_5 pos cmp que dsz mad2_5 cur stp met bst)), (am 1, .inl (cI, 18, .inl (nA dgt2_5))), (am 20, .inl (cI, 36, .inl (nA rt2_5)))] H := hP.sub [0, 1, 2] rfl
    have hD9 : va_D _ [(hm, .inr (6, oM am n2_5 pos cmp que dsz mad2_5 cur stp met bst)), (am 1, .inl (cI, 18, .inl (nA dgt2_5))), (am 20, .inl (cI, 36, .inl (nA rt2_5)))] := hD.sub [0, 1, 2] (by decide) rfl
    exact W.lret (pc := 38) (v := ((((-3)) : Int32).toInt64)) hx hb hr (fun t ht hW => ⟨⟨_, (n2_5, dgt2_5, mad2_5, rt2_5), rfl, ⟨(by rw [h9.2]; decide), trivial⟩, by rw [ht]; exact hP9, va_K.moved hW.alike hK, hD9⟩, hS.F ht⟩) hS.2.2 dX8_rewrite_38
  · have h18 := (dc_lt (okVb_iff.mp hok).2.1).2
    refine W.eq (g2 := F0 mG 8 ls [.int (nI (pN (oI (xv x) (nI r) (nI p) = true)))]) (congrArg (fun zz => F0 mG 8 ls [.int zz]) (aIs_v hok hr16 hp)) ?_
    have hRT := (hpr hok).2 ((rok_nI (by omega)).mpr hr16) ((rok_nI (by omega)).mpr hp)
    rw [rn_nI (by omega), rn_nI (by omega)] at hRT
    refine lv_istore (pc := 8) (lv' := [(5, .int (nI (pN (oI (xv x) (nI r) (nI p) = true)))), (0, .ref hm), (1, .long x), (3, .int (nI r)), (4, .int (nI p))]) hx hb dX8_rewrite_8 hl (by decide) rfl (fun ls hl => ?_)
    refine lv_iload (pc := 10) hx hb dX8_rewrite_10 (lv_at hl 0 rfl) ?_
    refine xn_if_ge (pc := 12) (tgt := 21) hx hb (Nat.lt_trans pN_lt (by decide)) dX8_rewrite_12 (by decide) ?_
    refine lv_iload (pc := 21) hx hb dX8_rewrite_21 (lv_at hl 0 rfl) ?_
    refine xp_if_ne (pc := 23) (tgt := 32) hx hb dX8_rewrite_23 (by decide) (fun c23 => ?_) (fun c23 => ?_)
    · refine lv_aload_n (pc := 32) hx hb dX8_rewrite_32 rfl (lv_at hl 1 rfl) ?_
      refine lv_iload (pc := 33) hx hb dX8_rewrite_33 (lv_at hl 4 rfl) ?_
      refine vp_callSl (pc := 35) (W.runV (As := [.int (nI p)]) (rest := []) ⟨hx, hb, hml, hown, hts⟩ (c_X8_replaced l D cI cL cZ hm am n2_5 pos cmp que dsz mad2_5 cur stp met bst dgt2_5 (en (xv x)) (dc (xv x)) rt2_5 ((oV (xv x) r p).getD []) p (TV_M hok (hpr hok).1) hp (hpr hok).1.1 hRT (oV_get hok hr16 hp c23).1 (oV_get hok hr16 hp c23).2) (cwV 1 hts gX8_rewrite_X8_replaced rfl rfl rfl (by decide +kernel) ⟨Nat.le_of_ble_eq_true rfl, Nat.le_of_ble_eq_true rfl⟩) (rP_V (wc := [(hm, .inr (6, oM am n2_5 pos cmp que dsz mad2_5 cur stp met bst)), (am 1, .inl (cI, 18, .inl (nA dgt2_5))), (am 20, .inl (cI, 36, .inl (nA rt2_5)))]) (ci := 6) (q0 := 0) hK hP [0, 1, 2] rfl rfl rfl) rfl rfl hl.1 rfl (lv_room (Nat.le_of_ble_eq_true rfl)) dX8_rewrite_35 ⟨Nat.zero_le _, Nat.zero_le _⟩) (fun r9 hrr => ?_)
      rw [hrr]
      refine W.eq (g2 := F0 mG 38 ls [.long (lN (nx (xv x) r p))]) (congrArg (fun zz => F0 mG 38 ls [.long (lN zz)]) (congrArg num (nx_M hok (hpr hok).1 hp _))) ?_
      have hP9 : va_P D vwCl [(hm, .inr (6, oM am n2_5 pos cmp que dsz mad2_5 cur stp met bst)), (am 1, .inl (cI, 18, .inl (nA dgt2_5))), (am 20, .inl (cI, 36, .inl (nA rt2_5)))] H := hP.sub [0, 1, 2] rfl
      have hD9 : va_D _ [(hm, .inr (6, oM am n2_5 pos cmp que dsz mad2_5 cur stp met bst)), (am 1, .inl (cI, 18, .inl (nA dgt2_5))), (am 20, .inl (cI, 36, .inl (nA rt2_5)))] := hD.sub [0, 1, 2] (by decide) rfl
      exact W.lret (pc := 38) (v := (lN (nx (xv x) r p))) hx hb hr (fun t ht hW => ⟨⟨_, (n2_5, dgt2_5, mad2_5, rt2_5), rfl, ⟨(by rw [aRw_v hok hr16 hp, if_pos c23]), trivial⟩, by rw [ht]; exact hP9, va_K.moved hW.alike hK, hD9⟩, hS.F ht⟩) hS.2.2 dX8_rewrite_38
    · refine lv_ldc2 (pc := 26) (v := ((-4))) hx hb hown lk0 dX8_rewrite_26 ?_
      refine lv_goto (pc := 29) (tgt := 38) hx hb dX8_rewrite_29 (by decide) ?_
      have hP9 : va_P D vwCl [(hm, .inr (6, oM am n2_5 pos cmp que dsz mad2_5 cur stp met bst)), (am 1, .inl (cI, 18, .inl (nA dgt2_5))), (am 20, .inl (cI, 36, .inl (nA rt2_5)))] H := hP.sub [0, 1, 2] rfl
      have hD9 : va_D _ [(hm, .inr (6, oM am n2_5 pos cmp que dsz mad2_5 cur stp met bst)), (am 1, .inl (cI, 18, .inl (nA dgt2_5))), (am 20, .inl (cI, 36, .inl (nA rt2_5)))] := hD.sub [0, 1, 2] (by decide) rfl
      exact W.lret (pc := 38) (v := ((-4))) hx hb hr (fun t ht hW => ⟨⟨_, (n2_5, dgt2_5, mad2_5, rt2_5), rfl, ⟨(by rw [aRw_v hok hr16 hp, if_neg c23]), trivial⟩, by rw [ht]; exact hP9, va_K.moved hW.alike hK, hD9⟩, hS.F ht⟩) hS.2.2 dX8_rewrite_38
set_option maxHeartbeats 4000000 in
set_option maxRecDepth 100000 in
theorem c_X8_apply (l : Launch) (D : va_G) (cI cL cZ : ClassId) (sz : Nat) (hm : Nat) (am : Nat → Nat) (n : Nat) (pos : Nat) (cmp : Nat) (que : Nat) (dsz : Nat) (mad : Nat) (cur : Nat) (stp : Nat) (met : Nat) (bst : Nat) (dgt : Nat → Nat) (rt : Nat → Nat) (rul : Nat → Nat) (psn : Nat → Nat) (bfr : Nat → Nat) (rl : Int32) (px : Int32) (hcur : okVb cur = true) (hst : stp + dc cur ≤ 18) : Met l yX8_apply wsX8_apply { frames := 8, cells := 0, slots := 0, locals := 195 } (mP D (tyL cI cL cZ) [(hm, .inr (6, oM am n pos cmp que dsz mad cur stp met bst)), (am 1, .inl (cI, 18, .inl (nA dgt))), (am 20, .inl (cI, 36, .inl (nA rt))), (am 23, .inl (cI, 18, .inl (nA rul))), (am 24, .inl (cI, 18, .inl (nA psn))), (am 25, .inl (cL, 18, .inr (.inl (lA bfr))))] sz [.ref hm, .int rl, .int px]) (va_Qi (fun (r : Int32) (u : Nat × (Nat → Nat) × Nat × (Nat → Nat) × Nat × Nat × (Nat → Nat) × (Nat → Nat) × (Nat → Nat)) => r = (aAp cur rl px) ∧ ((tkB cur rl px = true → u.2.2.2.2.1 = nx cur (rn rl) (rn px) ∧ u.2.2.2.2.2.2.2.2 = up bfr stp cur ∧ u.2.2.2.2.2.2.1 = up rul stp (rn rl) ∧ u.2.2.2.2.2.2.2.1 = up psn stp (rn px) ∧ u.2.2.2.2.2.1 = stp + 1) ∧ (¬ tkB cur rl px = true → u.2.2.2.2.1 = cur ∧ u.2.2.2.2.2.2.2.2 = bfr ∧ u.2.2.2.2.2.2.1 = rul ∧ u.2.2.2.2.2.2.2.1 = psn ∧ u.2.2.2.2.2.1 = stp))) (fun (u : Nat × (Nat → Nat) × Nat × (Nat → Nat) × Nat × Nat × (Nat → Nat) × (Nat → Nat) × (Nat → Nat)) (t : State) => mB D (tyL cI cL cZ) (va_A [(hm, .inr (6, oM am n pos cmp que dsz mad cur stp met bst)), (am 1, .inl (cI, 18, .inl (nA dgt))), (am 20, .inl (cI, 36, .inl (nA rt))), (am 23, .inl (cI, 18, .inl (nA rul))), (am 24, .inl (cI, 18, .inl (nA psn))), (am 25, .inl (cL, 18, .inr (.inl (lA bfr))))] sz) [(hm, .inr (6, oM am (u.1) pos cmp que dsz (u.2.2.1) (u.2.2.2.2.1) (u.2.2.2.2.2.1) met bst)), (am 1, .inl (cI, 18, .inl (nA (u.2.1)))), (am 20, .inl (cI, 36, .inl (nA (u.2.2.2.1)))), (am 23, .inl (cI, 18, .inl (nA (u.2.2.2.2.2.2.1)))), (am 24, .inl (cI, 18, .inl (nA (u.2.2.2.2.2.2.2.1)))), (am 25, .inl (cL, 18, .inr (.inl (lA (u.2.2.2.2.2.2.2.2)))))] t) (va_A [(hm, .inr (6, oM am n pos cmp que dsz mad cur stp met bst)), (am 1, .inl (cI, 18, .inl (nA dgt))), (am 20, .inl (cI, 36, .inl (nA rt))), (am 23, .inl (cI, 18, .inl (nA rul))), (am 24, .inl (cI, 18, .inl (nA psn))), (am 25, .inl (cL, 18, .inr (.inl (lA bfr))))] sz)) 0 0 (va_A [(hm, .inr (6, oM am n pos cmp que dsz mad cur stp met bst)), (am 1, .inl (cI, 18, .inl (nA dgt))), (am 20, .inl (cI, 36, .inl (nA rt))), (am 23, .inl (cI, 18, .inl (nA rul))), (am 24, .inl (cI, 18, .inl (nA psn))), (am 25, .inl (cL, 18, .inr (.inl (lA bfr))))] sz) := by
  refine Met.ofW (cc := cX8_apply) (maxL := 5) (ret := (some .int)) (by decide) rfl ?_
  intro pG eG s mG args below meth cG s₁ B hml hpre9
  obtain ⟨rfl, hsz, hP, hK, hD0⟩ := hpre9
  have hx := B.exec
  have hb := B.bytes
  have hr := B.returns
  have hts := atoms_spec (ws := wsX8_apply) B.pre
  have hown : s.vm.findClass RX8 = some mG.cls := findClass_of_methodNamed B.named
  have hlocks := B.notSynchronized
  subst hsz
  have hD := hD0.self (sz := s.heap.size)
  have hA : ∀ q : Nat, s.heap.size ≤ q → va_A [(hm, .inr (6, oM am n pos cmp que dsz mad cur stp met bst)), (am 1, .inl (cI, 18, .inl (nA dgt))), (am 20, .inl (cI, 36, .inl (nA rt))), (am 23, .inl (cI, 18, .inl (nA rul))), (am 24, .inl (cI, 18, .inl (nA psn))), (am 25, .inl (cL, 18, .inr (.inl (lA bfr))))] s.heap.size q := fun q h => Or.inr h
  have hS : va_S (va_A [(hm, .inr (6, oM am n pos cmp que dsz mad cur stp met bst)), (am 1, .inl (cI, 18, .inl (nA dgt))), (am 20, .inl (cI, 36, .inl (nA rt))), (am 23, .inl (cI, 18, .inl (nA rul))), (am 24, .inl (cI, 18, .inl (nA psn))), (am 25, .inl (cL, 18, .inr (.inl (lA bfr))))] s.heap.size) s.heap s.heap [] := va_S.rf
  have hinX8 : ∀ w ∈ wsX80, w ∈ wsX8_apply := fun w HH => (List.mem_cons_of_mem _ (List.mem_append_right _ HH))
  have lk0 : (Cond.fieldLink RX8 74 "RegexSimplifierModel" "currentRegex" "J").before _ s = true := hts _ (List.mem_cons_of_mem _ (List.mem_append_left _ (List.mem_append_left _ (List.mem_of_getElem? (i := 0) rfl))))
  have hl := lv_entry ([.ref hm, .int rl, .int px]) (n := 5) (Nat.le_of_ble_eq_true rfl)
  rw [lg_entry_eq]
  generalize (lg_sl ([.ref hm, .int rl, .int px]) ++ List.replicate (5 - (lg_sl ([.ref hm, .int rl, .int px])).length) Slot.unset).toArray = ls at hl ⊢
  have hl : lv_has ls 5 [(0, .ref hm), (1, .int rl), (2, .int px)] := hl
  have hc18 := (okVb_iff.mp hcur).2.1
  have hcv : xv (lN cur) = cur := xv_lN (Nat.lt_trans hc18 pow18)
  have hcc : okVb (xv (lN cur)) = true := by rw [hcv]; exact hcur
  refine lv_aload_n (pc := 0) hx hb dX8_apply_0 rfl (lv_at hl 0 rfl) ?_
  refine lv_aload_n (pc := 1) hx hb dX8_apply_1 rfl (lv_at hl 0 rfl) ?_
  refine va_get (pc := 2) (D := D) (ci := 6) (v := .long (lN cur)) (C := RX8) (T := TX8) (N := 30) hx hb hts hinX8 hown hK hP 0 rfl rfl 21 (by decide) lk0 (fun _ h9 => h9) rfl dX8_apply_2 ?_
  refine lv_iload_n (pc := 5) hx hb dX8_apply_5 rfl (lv_at hl 1 rfl) ?_
  refine lv_iload_n (pc := 6) hx hb dX8_apply_6 rfl (lv_at hl 2 rfl) ?_
  refine xm_calll (pc := 7) (wc := [(hm, .inr (6, oM am n pos cmp que dsz mad cur stp met bst)), (am 1, .inl (cI, 18, .inl (nA dgt))), (am 20, .inl (cI, 36, .inl (nA rt)))]) (wr := [(am 23, .inl (cI, 18, .inl (nA rul))), (am 24, .inl (cI, 18, .inl (nA psn))), (am 25, .inl (cL, 18, .inr (.inl (lA bfr))))]) (va_runV (As := [.long (lN cur), .int rl, .int px]) (rest := []) ⟨hx, hb, hml, hown, hts⟩ (c_X8_rewrite l D cI cL cZ s.heap.size hm am n pos cmp que dsz mad cur stp met bst dgt rt ((lN (cur))) rl px) (cwV 3 hts gX8_apply_X8_rewrite rfl rfl rfl (by decide +kernel) ⟨Nat.le_of_ble_eq_true rfl, Nat.le_of_ble_eq_true rfl⟩) (mP_V (wc := [(hm, .inr (6, oM am n pos cmp que dsz mad cur stp met bst)), (am 1, .inl (cI, 18, .inl (nA dgt))), (am 20, .inl (cI, 36, .inl (nA rt)))]) (ci := 6) (q0 := 0) hK hP hD [0, 1, 2] (by decide) rfl rfl rfl) rfl rfl hl.1 rfl (lv_room (Nat.le_of_ble_eq_true rfl)) dX8_apply_7 ⟨Nat.zero_le _, Nat.zero_le _⟩) hP hD hS hA [0, 1, 2] [3, 4, 5] rfl rfl (by decide) (by decide) (fun r9 u H locs hw hP hD hS => ?_)
  obtain ⟨n2_7, dgt2_7, mad2_7, rt2_7⟩ := u
  have hP : va_P D vwCl [(am 23, .inl (cI, 18, .inl (nA rul))), (am 24, .inl (cI, 18, .inl (nA psn))), (am 25, .inl (cL, 18, .inr (.inl (lA bfr)))), (hm, .inr (6, oM am n2_7 pos cmp que dsz mad2_7 cur stp met bst)), (am 1, .inl (cI, 18, .inl (nA dgt2_7))), (am 20, .inl (cI, 36, .inl (nA rt2_7)))] H := hP
  have hD : va_D _ [(am 23, .inl (cI, 18, .inl (nA rul))), (am 24, .inl (cI, 18, .inl (nA psn))), (am 25, .inl (cL, 18, .inr (.inl (lA bfr)))), (hm, .inr (6, oM am n2_7 pos cmp que dsz mad2_7 cur stp met bst)), (am 1, .inl (cI, 18, .inl (nA dgt2_7))), (am 20, .inl (cI, 36, .inl (nA rt2_7)))] := hD
  try dsimp only at hw
  obtain ⟨hrr, hw7⟩ := hw
  rw [hrr]
  refine W.eq (g2 := F0 mG 10 ls [.long (sR cur rl px)]) (congrArg (fun zz => F0 mG 10 ls [.long zz]) (by unfold aRw; rw [if_pos hcc, hcv])) ?_
  refine lv_lstore_n (pc := 10) (lv' := [(3, .long (sR cur rl px)), (0, .ref hm), (1, .int rl), (2, .int px)]) hx hb dX8_apply_10 rfl hl (by decide) rfl (fun ls hl => ?_)
  refine lv_lload_n (pc := 11) hx hb dX8_apply_11 rfl (lv_at hl 0 rfl) ?_
  refine lv_lconst (pc := 12) (v := (lN (0))) hx hb dX8_apply_12 (by decide) ?_
  refine xl_ge (pc := 13) (tgt := 20) hx hb dX8_apply_13 dX8_apply_14 (by decide) (fun c13 => ?_) (fun c13 => ?_)
  · obtain ⟨r, hr16, rfl, p, hp, rfl, hoI⟩ := sR_ge c13
    have h18 := (dc_lt hc18).2
    have hnx := nx_ok hcur (oI_some hoI hr16 hp h18)
    have hnv : xv (lN (nx cur r p)) = nx cur r p := xv_lN (Nat.lt_trans (okVb_iff.mp hnx.1).2.1 pow18)
    have hl : lv_has ls 5 [(3, .long (lN (nx cur r p))), (0, .ref hm), (1, .int (nI r)), (2, .int (nI p))] := by have hq9 : (sR cur (nI (r)) (nI (p))) = (lN (nx cur r p)) := (by rw [sR_nI hr16 hp h18, if_pos hoI]); first | (rw [← hq9]; exact hl) | (rw [hq9] at hl; exact hl)
    refine lv_aload_n (pc := 20) hx hb dX8_apply_20 rfl (lv_at hl 1 rfl) ?_
    refine lv_iload_n (pc := 21) hx hb dX8_apply_21 rfl (lv_at hl 2 rfl) ?_
    refine lv_iload_n (pc := 22) hx hb dX8_apply_22 rfl (lv_at hl 3 rfl) ?_
    refine lv_lload_n (pc := 23) hx hb dX8_apply_23 rfl (lv_at hl 0 rfl) ?_
    refine xm_callv (pc := 24) (wc := [(hm, .inr (6, oM am n2_7 pos cmp que dsz mad2_7 cur stp met bst)), (am 23, .inl (cI, 18, .inl (nA rul))), (am 24, .inl (cI, 18, .inl (nA psn))), (am 25, .inl (cL, 18, .inr (.inl (lA bfr))))]) (wr := [(am 1, .inl (cI, 18, .inl (nA dgt2_7))), (am 20, .inl (cI, 36, .inl (nA rt2_7)))]) (va_runV (As := [.int (nI r), .int (nI p), .long (lN (nx cur r p))]) (rest := []) ⟨hx, hb, hml, hown, hts⟩ (c_X8_records l D cI cL cZ H.size hm am n2_7 pos cmp que dsz mad2_7 cur stp met bst rul psn bfr r p (nx cur r p) (by have := (dc_in (nx cur r p)).1; omega)) (cwV 3 hts gX8_apply_X8_records rfl rfl rfl (by decide +kernel) ⟨Nat.le_of_ble_eq_true rfl, Nat.le_of_ble_eq_true rfl⟩) (mP_V (wc := [(hm, .inr (6, oM am n2_7 pos cmp que dsz mad2_7 cur stp met bst)), (am 23, .inl (cI, 18, .inl (nA rul))), (am 24, .inl (cI, 18, .inl (nA psn))), (am 25, .inl (cL, 18, .inr (.inl (lA bfr))))]) (ci := 6) (q0 := 0) hK hP hD [3, 0, 1, 2] (by decide) rfl rfl rfl) rfl rfl hl.1 rfl (lv_room (Nat.le_of_ble_eq_true rfl)) dX8_apply_24 ⟨Nat.zero_le _, Nat.zero_le _⟩) hP hD hS hA [3, 0, 1, 2] [4, 5] rfl rfl (by decide) (by decide) (fun u H locs hw hP hD hS => ?_)
    have hP : va_P D vwCl [(am 1, .inl (cI, 18, .inl (nA dgt2_7))), (am 20, .inl (cI, 36, .inl (nA rt2_7))), (hm, .inr (6, oM am n2_7 pos cmp que dsz mad2_7 ((nx cur r p)) (stp + 1) met bst)), (am 23, .inl (cI, 18, .inl (nA (up rul stp r)))), (am 24, .inl (cI, 18, .inl (nA (up psn stp p)))), (am 25, .inl (cL, 18, .inr (.inl (lA (up bfr stp cur)))))] H := hP
    have hD : va_D _ [(am 1, .inl (cI, 18, .inl (nA dgt2_7))), (am 20, .inl (cI, 36, .inl (nA rt2_7))), (hm, .inr (6, oM am n2_7 pos cmp que dsz mad2_7 ((nx cur r p)) (stp + 1) met bst)), (am 23, .inl (cI, 18, .inl (nA (up rul stp r)))), (am 24, .inl (cI, 18, .inl (nA (up psn stp p)))), (am 25, .inl (cL, 18, .inr (.inl (lA (up bfr stp cur)))))] := hD
    try dsimp only at hw
    have hw24 := hw
    refine lv_aload_n (pc := 27) hx hb dX8_apply_27 rfl (lv_at hl 1 rfl) ?_
    refine lv_aload_n (pc := 28) hx hb dX8_apply_28 rfl (lv_at hl 1 rfl) ?_
    refine va_get (pc := 29) (D := D) (ci := 6) (v := .long (lN ((nx cur r p)))) (C := RX8) (T := TX8) (N := 30) hx hb hts hinX8 hown hK hP 2 rfl rfl 21 (by decide) lk0 (fun _ h9 => h9) rfl dX8_apply_29 ?_
    refine xm_calli (pc := 32) (wc := [(hm, .inr (6, oM am n2_7 pos cmp que dsz mad2_7 (((nx cur r p))) ((stp + 1)) met bst)), (am 1, .inl (cI, 18, .inl (nA dgt2_7)))]) (wr := [(am 20, .inl (cI, 36, .inl (nA rt2_7))), (am 23, .inl (cI, 18, .inl (nA (up rul stp r)))), (am 24, .inl (cI, 18, .inl (nA (up psn stp p)))), (am 25, .inl (cL, 18, .inr (.inl (lA (up bfr stp cur)))))]) (va_runV (As := [.long (lN ((nx cur r p)))]) (rest := []) ⟨hx, hb, hml, hown, hts⟩ (c_X8_size l D cI cL cZ H.size hm am n2_7 pos cmp que dsz mad2_7 ((nx cur r p)) (stp + 1) met bst dgt2_7 ((lN ((nx cur r p))))) (cwV 1 hts gX8_apply_X8_size rfl rfl rfl (by decide +kernel) ⟨Nat.le_of_ble_eq_true rfl, Nat.le_of_ble_eq_true rfl⟩) (mP_V (wc := [(hm, .inr (6, oM am n2_7 pos cmp que dsz mad2_7 (((nx cur r p))) ((stp + 1)) met bst)), (am 1, .inl (cI, 18, .inl (nA dgt2_7)))]) (ci := 6) (q0 := 0) hK hP hD [2, 0] (by decide) rfl rfl rfl) rfl rfl hl.1 rfl (lv_room (Nat.le_of_ble_eq_true rfl)) dX8_apply_32 ⟨Nat.zero_le _, Nat.zero_le _⟩) hP hD hS hA [2, 0] [1, 3, 4, 5] rfl rfl (by decide) (by decide) (fun r9 u H locs hw hP hD hS => ?_)
    obtain ⟨n2_32, dgt2_32⟩ := u
    have hP : va_P D vwCl [(am 20, .inl (cI, 36, .inl (nA rt2_7))), (am 23, .inl (cI, 18, .inl (nA (up rul stp r)))), (am 24, .inl (cI, 18, .inl (nA (up psn stp p)))), (am 25, .inl (cL, 18, .inr (.inl (lA (up bfr stp cur))))), (hm, .inr (6, oM am n2_32 pos cmp que dsz mad2_7 (((nx cur r p))) ((stp + 1)) met bst)), (am 1, .inl (cI, 18, .inl (nA dgt2_32)))] H := hP
    have hD : va_D _ [(am 20, .inl (cI, 36, .inl (nA rt2_7))), (am 23, .inl (cI, 18, .inl (nA (up rul stp r)))), (am 24, .inl (cI, 18, .inl (nA (up psn stp p)))), (am 25, .inl (cL, 18, .inr (.inl (lA (up bfr stp cur))))), (hm, .inr (6, oM am n2_32 pos cmp que dsz mad2_7 (((nx cur r p))) ((stp + 1)) met bst)), (am 1, .inl (cI, 18, .inl (nA dgt2_32)))] := hD
    try dsimp only at hw
    obtain ⟨hrr, hw32⟩ := hw
    rw [hrr]
    have hP9 : va_P D vwCl [(hm, .inr (6, oM am n2_32 pos cmp que dsz mad2_7 ((((nx cur r p)))) (((stp + 1))) met bst)), (am 1, .inl (cI, 18, .inl (nA dgt2_32))), (am 20, .inl (cI, 36, .inl (nA rt2_7))), (am 23, .inl (cI, 18, .inl (nA ((up rul stp r))))), (am 24, .inl (cI, 18, .inl (nA ((up psn stp p))))), (am 25, .inl (cL, 18, .inr (.inl (lA ((up bfr stp cur))))))] H := hP.sub [4, 5, 0, 1, 2, 3] rfl
    have hD9 : va_D _ [(hm, .inr (6, oM am n2_32 pos cmp que dsz mad2_7 ((((nx cur r p)))) (((stp + 1))) met bst)), (am 1, .inl (cI, 18, .inl (nA dgt2_32))), (am 20, .inl (cI, 36, .inl (nA rt2_7))), (am 23, .inl (cI, 18, .inl (nA ((up rul stp r))))), (am 24, .inl (cI, 18, .inl (nA ((up psn stp p))))), (am 25, .inl (cL, 18, .inr (.inl (lA ((up bfr stp cur))))))] := hD.sub [4, 5, 0, 1, 2, 3] (by decide) rfl
    exact W.iret (pc := 35) (v := (aSize ((lN ((nx cur r p)))))) hx hb hr (fun t ht hW => ⟨⟨_, (n2_32, dgt2_32, mad2_7, rt2_7, ((nx cur r p)), (stp + 1), up rul stp r, up psn stp p, up bfr stp cur), rfl, ⟨(by unfold aAp aSize; rw [hnv, if_pos hnx.1, if_pos ((rok_nI (by omega)).mpr hr16), if_pos ((rok_nI (by omega)).mpr hp), if_pos hoI, rn_nI (by omega), rn_nI (by omega)]), ⟨fun _ => ⟨by rw [rn_nI (by omega), rn_nI (by omega)], rfl, by rw [rn_nI (by omega)], by rw [rn_nI (by omega)], rfl⟩, fun h => absurd (tkB_nI hr16 hp h18 hoI) h⟩⟩, by rw [ht]; exact hP9, va_K.moved hW.alike hK, hD9⟩, hS.F ht⟩) hS.2.2 dX8_apply_35
  · refine lv_lload_n (pc := 17) hx hb dX8_apply_17 rfl (lv_at hl 0 rfl) ?_
    refine lv_l2i (pc := 18) (v := (sR cur rl px).toInt32) hx hb dX8_apply_18 rfl ?_
    have hP9 : va_P D vwCl [(hm, .inr (6, oM am n2_7 pos cmp que dsz mad2_7 cur stp met bst)), (am 1, .inl (cI, 18, .inl (nA dgt2_7))), (am 20, .inl (cI, 36, .inl (nA rt2_7))), (am 23, .inl (cI, 18, .inl (nA rul))), (am 24, .inl (cI, 18, .inl (nA psn))), (am 25, .inl (cL, 18, .inr (.inl (lA bfr))))] H := hP.sub [3, 4, 5, 0, 1, 2] rfl
    have hD9 : va_D _ [(hm, .inr (6, oM am n2_7 pos cmp que dsz mad2_7 cur stp met bst)), (am 1, .inl (cI, 18, .inl (nA dgt2_7))), (am 20, .inl (cI, 36, .inl (nA rt2_7))), (am 23, .inl (cI, 18, .inl (nA rul))), (am 24, .inl (cI, 18, .inl (nA psn))), (am 25, .inl (cL, 18, .inr (.inl (lA bfr))))] := hD.sub [3, 4, 5, 0, 1, 2] (by decide) rfl
    exact W.iret (pc := 19) (v := ((sR cur rl px).toInt32)) hx hb hr (fun t ht hW => ⟨⟨_, (n2_7, dgt2_7, mad2_7, rt2_7, cur, stp, rul, psn, bfr), rfl, ⟨(sR_lt c13).1, ⟨fun h => absurd h (sR_lt c13).2, fun _ => ⟨rfl, rfl, rfl, rfl, rfl⟩⟩⟩, by rw [ht]; exact hP9, va_K.moved hW.alike hK, hD9⟩, hS.F ht⟩) hS.2.2 dX8_apply_19
set_option maxHeartbeats 4000000 in
set_option maxRecDepth 100000 in
theorem c_X8_undo (l : Launch) (D : va_G) (cI cL cZ : ClassId) (sz : Nat) (hm : Nat) (am : Nat → Nat) (n : Nat) (pos : Nat) (cmp : Nat) (que : Nat) (dsz : Nat) (mad : Nat) (cur : Nat) (stp : Nat) (met : Nat) (bst : Nat) (bfr : Nat → Nat) (x : Int32) (hst : stp ≤ 18) : Met l yX8_undo wsX8_undo { frames := 1, cells := 0, slots := 0, locals := 22 } (mP D (tyL cI cL cZ) [(hm, .inr (6, oM am n pos cmp que dsz mad cur stp met bst)), (am 25, .inl (cL, 18, .inr (.inl (lA bfr))))] sz [.ref hm, .int x]) (va_Qi (fun (r : Int32) (u : Nat × Nat) => r = (aUn stp x) ∧ ((rok x (stp + 1) = true → u.2 = stp - rn x ∧ u.1 = (if rn x = 0 then cur else bfr (stp - rn x))) ∧ (¬ rok x (stp + 1) = true → u.1 = cur ∧ u.2 = stp))) (fun (u : Nat × Nat) (t : State) => mB D (tyL cI cL cZ) (va_A [(hm, .inr (6, oM am n pos cmp que dsz mad cur stp met bst)), (am 25, .inl (cL, 18, .inr (.inl (lA bfr))))] sz) [(hm, .inr (6, oM am n pos cmp que dsz mad (u.1) (u.2) met bst)), (am 25, .inl (cL, 18, .inr (.inl (lA bfr))))] t) (va_A [(hm, .inr (6, oM am n pos cmp que dsz mad cur stp met bst)), (am 25, .inl (cL, 18, .inr (.inl (lA bfr))))] sz)) 0 0 (va_A [(hm, .inr (6, oM am n pos cmp que dsz mad cur stp met bst)), (am 25, .inl (cL, 18, .inr (.inl (lA bfr))))] sz) := by
  refine Met.ofW (cc := cX8_undo) (maxL := 2) (ret := (some .int)) (by decide) rfl ?_
  intro pG eG s mG args below meth cG s₁ B hml hpre9
  obtain ⟨rfl, hsz, hP, hK, hD0⟩ := hpre9
  have hx := B.exec
  have hb := B.bytes
  have hr := B.returns
  have hts := atoms_spec (ws := wsX8_undo) B.pre
  have hown : s.vm.findClass RX8 = some mG.cls := findClass_of_methodNamed B.named
  have hlocks := B.notSynchronized
  subst hsz
  have hD := hD0.self (sz := s.heap.size)
  have hA : ∀ q : Nat, s.heap.size ≤ q → va_A [(hm, .inr (6, oM am n pos cmp que dsz mad cur stp met bst)), (am 25, .inl (cL, 18, .inr (.inl (lA bfr))))] s.heap.size q := fun q h => Or.inr h
  have hS : va_S (va_A [(hm, .inr (6, oM am n pos cmp que dsz mad cur stp met bst)), (am 25, .inl (cL, 18, .inr (.inl (lA bfr))))] s.heap.size) s.heap s.heap [] := va_S.rf
  have hinX8 : ∀ w ∈ wsX80, w ∈ wsX8_undo := fun w HH => (List.mem_cons_of_mem _ (List.mem_append_right _ HH))
  have lk0 : (Cond.fieldLink RX8 219 "RegexSimplifierModel" "steps" "I").before _ s = true := hts _ (List.mem_cons_of_mem _ (List.mem_append_left _ (List.mem_of_getElem? (i := 0) rfl)))
  have lk1 : (Cond.fieldLink RX8 74 "RegexSimplifierModel" "currentRegex" "J").before _ s = true := hts _ (List.mem_cons_of_mem _ (List.mem_append_left _ (List.mem_of_getElem? (i := 2) rfl)))
  have lk2 : (Cond.fieldLink RX8 64 "RegexSimplifierModel" "before" "[J").before _ s = true := hts _ (List.mem_cons_of_mem _ (List.mem_append_left _ (List.mem_of_getElem? (i := 1) rfl)))
  have hl := lv_entry ([.ref hm, .int x]) (n := 2) (Nat.le_of_ble_eq_true rfl)
  rw [lg_entry_eq]
  generalize (lg_sl ([.ref hm, .int x]) ++ List.replicate (2 - (lg_sl ([.ref hm, .int x])).length) Slot.unset).toArray = ls at hl ⊢
  have hl : lv_has ls 2 [(0, .ref hm), (1, .int x)] := hl
  have hrl := rok_le (x := x) (m := stp + 1) (by omega) (by omega)
  rw [Nat.add_sub_cancel] at hrl
  refine lv_iload_n (pc := 0) hx hb dX8_undo_0 rfl (lv_at hl 1 rfl) ?_
  refine lv_iconst (pc := 1) (v := (nI (0))) hx hb dX8_undo_1 (by decide) ?_
  refine lv_aload_n (pc := 2) hx hb dX8_undo_2 rfl (lv_at hl 0 rfl) ?_
  refine va_get (pc := 3) (D := D) (ci := 6) (v := .int (nI stp)) (C := RX8) (T := TX8) (N := 30) hx hb hts hinX8 hown hK hP 0 rfl rfl 22 (by decide) lk0 (fun _ h9 => h9) rfl dX8_undo_3 ?_
  refine vp_callSi (pc := 6) (W.runS (As := [.int x, .int (nI 0), .int (nI stp)]) (rest := []) ⟨hx, hb, hml, hown, hts⟩ (c_X8_within l D cI cL cZ x ((nI (0))) ((nI (stp)))) (va_cwS 3 hts gX8_undo_X8_within rfl rfl rfl (by decide +kernel) ⟨Nat.le_of_ble_eq_true rfl, Nat.le_of_ble_eq_true rfl⟩) (rP_S (wc := []) hK hP [] rfl) rfl rfl hl.1 rfl (lv_room (Nat.le_of_ble_eq_true rfl)) dX8_undo_6 ⟨Nat.zero_le _, Nat.zero_le _⟩) (fun r9 hrr => ?_)
  rw [hrr]
  refine xp_if_ne (pc := 9) (tgt := 15) hx hb dX8_undo_9 (by decide) (fun c9 => ?_) (fun c9 => ?_)
  · have c9b := hrl.mp c9
    obtain ⟨q, hq1, rfl⟩ := rok_ok c9b (by omega)
    have hrn : rn (nI q) = q := rn_nI (by omega)
    refine lv_aload_n (pc := 15) hx hb dX8_undo_15 rfl (lv_at hl 0 rfl) ?_
    refine lv_dup (pc := 16) hx hb dX8_undo_16 rfl ?_
    refine va_get (pc := 17) (D := D) (ci := 6) (v := .int (nI stp)) (C := RX8) (T := TX8) (N := 30) hx hb hts hinX8 hown hK hP 0 rfl rfl 22 (by decide) lk0 (fun _ h9 => h9) rfl dX8_undo_17 ?_
    refine lv_iload_n (pc := 20) hx hb dX8_undo_20 rfl (lv_at hl 1 rfl) ?_
    refine xn_isub (pc := 21) hx hb (by omega) dX8_undo_21 ?_
    refine va_put (pc := 22) (D := D) (ci := 6) (v := .int (nI (stp - q))) (ty := .int) (C := RX8) (T := TX8) (N := 30) hx hb hts hinX8 tyX8 tyX8_ok nmX8 hown hK hP hD hS 0 rfl rfl 22 (by decide) lk0 (fun _ h9 => h9) rfl (by decide +kernel) rfl rfl (Nat.le_of_ble_eq_true rfl) dX8_undo_22 (fun H locs hP hD hS => ?_)
    have hP : va_P D vwCl [(hm, .inr (6, oM am n pos cmp que dsz mad cur (stp - q) met bst)), (am 25, .inl (cL, 18, .inr (.inl (lA bfr))))] H := hP
    have hD : va_D _ [(hm, .inr (6, oM am n pos cmp que dsz mad cur (stp - q) met bst)), (am 25, .inl (cL, 18, .inr (.inl (lA bfr))))] := hD
    refine lv_aload_n (pc := 25) hx hb dX8_undo_25 rfl (lv_at hl 0 rfl) ?_
    refine lv_iload_n (pc := 26) hx hb dX8_undo_26 rfl (lv_at hl 1 rfl) ?_
    refine xn_if_le (pc := 27) (tgt := 42) hx hb (by omega) dX8_undo_27 (by decide) (fun c27 => ?_) (fun c27 => ?_)
    · refine lv_aload_n (pc := 42) hx hb dX8_undo_42 rfl (lv_at hl 0 rfl) ?_
      refine va_get (pc := 43) (D := D) (ci := 6) (v := .long (lN cur)) (C := RX8) (T := TX8) (N := 30) hx hb hts hinX8 hown hK hP 0 rfl rfl 21 (by decide) lk1 (fun _ h9 => h9) rfl dX8_undo_43 ?_
      refine va_put (pc := 46) (D := D) (ci := 6) (v := .long (lN cur)) (ty := .long) (C := RX8) (T := TX8) (N := 30) hx hb hts hinX8 tyX8 tyX8_ok nmX8 hown hK hP hD hS 0 rfl rfl 21 (by decide) lk1 (fun _ h9 => h9) rfl (by decide +kernel) rfl rfl (Nat.le_of_ble_eq_true rfl) dX8_undo_46 (fun H locs hP hD hS => ?_)
      have hP : va_P D vwCl [(hm, .inr (6, oM am n pos cmp que dsz mad cur (stp - q) met bst)), (am 25, .inl (cL, 18, .inr (.inl (lA bfr))))] H := hP
      have hD : va_D _ [(hm, .inr (6, oM am n pos cmp que dsz mad cur (stp - q) met bst)), (am 25, .inl (cL, 18, .inr (.inl (lA bfr))))] := hD
      refine lv_aload_n (pc := 49) hx hb dX8_undo_49 rfl (lv_at hl 0 rfl) ?_
      refine va_get (pc := 50) (D := D) (ci := 6) (v := .int (nI (stp - q))) (C := RX8) (T := TX8) (N := 30) hx hb hts hinX8 hown hK hP 0 rfl rfl 22 (by decide) lk0 (fun _ h9 => h9) rfl dX8_undo_50 ?_
      have hP9 : va_P D vwCl [(hm, .inr (6, oM am n pos cmp que dsz mad cur ((stp - q)) met bst)), (am 25, .inl (cL, 18, .inr (.inl (lA bfr))))] H := hP.sub [0, 1] rfl
      have hD9 : va_D _ [(hm, .inr (6, oM am n pos cmp que dsz mad cur ((stp - q)) met bst)), (am 25, .inl (cL, 18, .inr (.inl (lA bfr))))] := hD.sub [0, 1] (by decide) rfl
      exact W.iret (pc := 53) (v := (nI (stp - q))) hx hb hr (fun t ht hW => ⟨⟨_, (cur, stp - q), rfl, ⟨(by unfold aUn; rw [if_pos c9b, hrn]), ⟨fun _ => by rw [hrn]; exact ⟨rfl, (if_pos c27).symm⟩, fun h => absurd c9b h⟩⟩, by rw [ht]; exact hP9, va_K.moved hW.alike hK, hD9⟩, hS.F ht⟩) hS.2.2 dX8_undo_53
    · refine lv_aload_n (pc := 30) hx hb dX8_undo_30 rfl (lv_at hl 0 rfl) ?_
      refine va_get (pc := 31) (D := D) (ci := 6) (v := .ref (am 25)) (C := RX8) (T := TX8) (N := 30) hx hb hts hinX8 hown hK hP 0 rfl rfl 25 (by decide) lk2 (fun _ h9 => h9) rfl dX8_undo_31 ?_
      refine lv_aload_n (pc := 34) hx hb dX8_undo_34 rfl (lv_at hl 0 rfl) ?_
      refine va_get (pc := 35) (D := D) (ci := 6) (v := .int (nI (stp - q))) (C := RX8) (T := TX8) (N := 30) hx hb hts hinX8 hown hK hP 0 rfl rfl 22 (by decide) lk0 (fun _ h9 => h9) rfl dX8_undo_35 ?_
      refine xa_lald (pc := 38) hx hb hK hP 1 1 rfl rfl (by omega) (by omega) dX8_undo_38 ?_
      refine lv_goto (pc := 39) (tgt := 46) hx hb dX8_undo_39 (by decide) ?_
      refine va_put (pc := 46) (D := D) (ci := 6) (v := .long (lN (bfr (stp - q)))) (ty := .long) (C := RX8) (T := TX8) (N := 30) hx hb hts hinX8 tyX8 tyX8_ok nmX8 hown hK hP hD hS 0 rfl rfl 21 (by decide) lk1 (fun _ h9 => h9) rfl (by decide +kernel) rfl rfl (Nat.le_of_ble_eq_true rfl) dX8_undo_46 (fun H locs hP hD hS => ?_)
      have hP : va_P D vwCl [(hm, .inr (6, oM am n pos cmp que dsz mad (bfr (stp - q)) (stp - q) met bst)), (am 25, .inl (cL, 18, .inr (.inl (lA bfr))))] H := hP
      have hD : va_D _ [(hm, .inr (6, oM am n pos cmp que dsz mad (bfr (stp - q)) (stp - q) met bst)), (am 25, .inl (cL, 18, .inr (.inl (lA bfr))))] := hD
      refine lv_aload_n (pc := 49) hx hb dX8_undo_49 rfl (lv_at hl 0 rfl) ?_
      refine va_get (pc := 50) (D := D) (ci := 6) (v := .int (nI (stp - q))) (C := RX8) (T := TX8) (N := 30) hx hb hts hinX8 hown hK hP 0 rfl rfl 22 (by decide) lk0 (fun _ h9 => h9) rfl dX8_undo_50 ?_
      have hP9 : va_P D vwCl [(hm, .inr (6, oM am n pos cmp que dsz mad ((bfr (stp - q))) ((stp - q)) met bst)), (am 25, .inl (cL, 18, .inr (.inl (lA bfr))))] H := hP.sub [0, 1] rfl
      have hD9 : va_D _ [(hm, .inr (6, oM am n pos cmp que dsz mad ((bfr (stp - q))) ((stp - q)) met bst)), (am 25, .inl (cL, 18, .inr (.inl (lA bfr))))] := hD.sub [0, 1] (by decide) rfl
      exact W.iret (pc := 53) (v := (nI (stp - q))) hx hb hr (fun t ht hW => ⟨⟨_, (bfr (stp - q), stp - q), rfl, ⟨(by unfold aUn; rw [if_pos c9b, hrn]), ⟨fun _ => by rw [hrn]; exact ⟨rfl, (if_neg (by omega)).symm⟩, fun h => absurd c9b h⟩⟩, by rw [ht]; exact hP9, va_K.moved hW.alike hK, hD9⟩, hS.F ht⟩) hS.2.2 dX8_undo_53
  · have c9b : ¬ rok x (stp + 1) = true := fun z => c9 (hrl.mpr z)
    refine lv_bipush (pc := 12) (v := ((-5))) hx hb dX8_undo_12 (by decide) ?_
    have hP9 : va_P D vwCl [(hm, .inr (6, oM am n pos cmp que dsz mad cur stp met bst)), (am 25, .inl (cL, 18, .inr (.inl (lA bfr))))] s.heap := hP.sub [0, 1] rfl
    have hD9 : va_D _ [(hm, .inr (6, oM am n pos cmp que dsz mad cur stp met bst)), (am 25, .inl (cL, 18, .inr (.inl (lA bfr))))] := hD.sub [0, 1] (by decide) rfl
    exact W.iret (pc := 14) (v := ((-5))) hx hb hr (fun t ht hW => ⟨⟨_, (cur, stp), rfl, ⟨(if_neg c9b).symm, ⟨fun h => absurd h c9b, fun _ => ⟨rfl, rfl⟩⟩⟩, by rw [ht]; exact hP9, va_K.moved hW.alike hK, hD9⟩, hS.F ht⟩) hS.2.2 dX8_undo_14
