/-! the reference: writing right sides, the rules -/
set_option maxHeartbeats 4000000 in
set_option maxRecDepth 100000 in
theorem c_X8_emits (l : Launch) (D : va_G) (cI cL cZ : ClassId) (sz : Nat) (hm : Nat) (am : Nat → Nat) (n : Nat) (pos : Nat) (cmp : Nat) (que : Nat) (dsz : Nat) (mad : Nat) (cur : Nat) (stp : Nat) (met : Nat) (bst : Nat) (rt : Nat → Nat) (L : List Nat) (v : Nat) (hcap : mad < 36) (hL : RT rt mad L) : Met l yX8_emits wsX8_emits { frames := 0, cells := 0, slots := 0, locals := 0 } (mP D (tyL cI cL cZ) [(hm, .inr (6, oM am n pos cmp que dsz mad cur stp met bst)), (am 20, .inl (cI, 36, .inl (nA rt)))] sz [.ref hm, .int (nI v)]) (va_Qi (fun (r : Int32) (u : Nat × (Nat → Nat)) => r = (nI (1)) ∧ (RT u.2 u.1 (L ++ [v]))) (fun (u : Nat × (Nat → Nat)) (t : State) => mB D (tyL cI cL cZ) (va_A [(hm, .inr (6, oM am n pos cmp que dsz mad cur stp met bst)), (am 20, .inl (cI, 36, .inl (nA rt)))] sz) [(hm, .inr (6, oM am n pos cmp que dsz (u.1) cur stp met bst)), (am 20, .inl (cI, 36, .inl (nA (u.2))))] t) (va_A [(hm, .inr (6, oM am n pos cmp que dsz mad cur stp met bst)), (am 20, .inl (cI, 36, .inl (nA rt)))] sz)) 0 0 (va_A [(hm, .inr (6, oM am n pos cmp que dsz mad cur stp met bst)), (am 20, .inl (cI, 36, .inl (nA rt)))] sz) := by
  refine Met.ofW (cc := cX8_emits) (maxL := 2) (ret := (some .boolean)) (by decide) rfl ?_
  intro pG eG s mG args below meth cG s₁ B hml hpre9
  obtain ⟨rfl, hsz, hP, hK, hD0⟩ := hpre9
  have hx := B.exec
  have hb := B.bytes
  have hr := B.returns
  have hts := atoms_spec (ws := wsX8_emits) B.pre
  have hown : s.vm.findClass RX8 = some mG.cls := findClass_of_methodNamed B.named
  have hlocks := B.notSynchronized
  subst hsz
  have hD := hD0.self (sz := s.heap.size)
  have hA : ∀ q : Nat, s.heap.size ≤ q → va_A [(hm, .inr (6, oM am n pos cmp que dsz mad cur stp met bst)), (am 20, .inl (cI, 36, .inl (nA rt)))] s.heap.size q := fun q h => Or.inr h
  have hS : va_S (va_A [(hm, .inr (6, oM am n pos cmp que dsz mad cur stp met bst)), (am 20, .inl (cI, 36, .inl (nA rt)))] s.heap.size) s.heap s.heap [] := va_S.rf
  have hinX8 : ∀ w ∈ wsX80, w ∈ wsX8_emits := fun w HH => (List.mem_cons_of_mem _ (List.mem_append_right _ HH))
  have lk0 : (Cond.fieldLink RX8 55 "RegexSimplifierModel" "right" "[I").before _ s = true := hts _ (List.mem_cons_of_mem _ (List.mem_append_left _ (List.mem_of_getElem? (i := 0) rfl)))
  have lk1 : (Cond.fieldLink RX8 146 "RegexSimplifierModel" "made" "I").before _ s = true := hts _ (List.mem_cons_of_mem _ (List.mem_append_left _ (List.mem_of_getElem? (i := 1) rfl)))
  have hl := lv_entry ([.ref hm, .int (nI v)]) (n := 2) (Nat.le_of_ble_eq_true rfl)
  rw [lg_entry_eq]
  generalize (lg_sl ([.ref hm, .int (nI v)]) ++ List.replicate (2 - (lg_sl ([.ref hm, .int (nI v)])).length) Slot.unset).toArray = ls at hl ⊢
  have hl : lv_has ls 2 [(0, .ref hm), (1, .int (nI v))] := hl
  have hmad := hL.1
  refine lv_aload_n (pc := 0) hx hb dX8_emits_0 rfl (lv_at hl 0 rfl) ?_
  refine va_get (pc := 1) (D := D) (ci := 6) (v := .ref (am 20)) (C := RX8) (T := TX8) (N := 30) hx hb hts hinX8 hown hK hP 0 rfl rfl 20 (by decide) lk0 (fun _ h9 => h9) rfl dX8_emits_1 ?_
  refine lv_aload_n (pc := 4) hx hb dX8_emits_4 rfl (lv_at hl 0 rfl) ?_
  refine va_get (pc := 5) (D := D) (ci := 6) (v := .int (nI mad)) (C := RX8) (T := TX8) (N := 30) hx hb hts hinX8 hown hK hP 0 rfl rfl 19 (by decide) lk1 (fun _ h9 => h9) rfl dX8_emits_5 ?_
  refine lv_iload_n (pc := 8) hx hb dX8_emits_8 rfl (lv_at hl 1 rfl) ?_
  refine xa_iast (pc := 9) hx hb hK hP hD hS 1 0 rfl rfl (by omega) (by omega) dX8_emits_9 (fun H locs hP hD hS => ?_)
  have hP : va_P D vwCl [(hm, .inr (6, oM am n pos cmp que dsz mad cur stp met bst)), (am 20, .inl (cI, 36, .inl (nA (up rt mad v))))] H := hP
  have hD : va_D _ [(hm, .inr (6, oM am n pos cmp que dsz mad cur stp met bst)), (am 20, .inl (cI, 36, .inl (nA (up rt mad v))))] := hD
  refine lv_aload_n (pc := 10) hx hb dX8_emits_10 rfl (lv_at hl 0 rfl) ?_
  refine lv_dup (pc := 11) hx hb dX8_emits_11 rfl ?_
  refine va_get (pc := 12) (D := D) (ci := 6) (v := .int (nI mad)) (C := RX8) (T := TX8) (N := 30) hx hb hts hinX8 hown hK hP 0 rfl rfl 19 (by decide) lk1 (fun _ h9 => h9) rfl dX8_emits_12 ?_
  refine lv_iconst (pc := 15) (v := (nI (1))) hx hb dX8_emits_15 (by decide) ?_
  refine xn_iadd (pc := 16) hx hb  dX8_emits_16 ?_
  refine va_put (pc := 17) (D := D) (ci := 6) (v := .int (nI (mad + 1))) (ty := .int) (C := RX8) (T := TX8) (N := 30) hx hb hts hinX8 tyX8 tyX8_ok nmX8 hown hK hP hD hS 0 rfl rfl 19 (by decide) lk1 (fun _ h9 => h9) rfl (by decide +kernel) rfl rfl (Nat.le_of_ble_eq_true rfl) dX8_emits_17 (fun H locs hP hD hS => ?_)
  have hP : va_P D vwCl [(hm, .inr (6, oM am n pos cmp que dsz (mad + 1) cur stp met bst)), (am 20, .inl (cI, 36, .inl (nA (up rt mad v))))] H := hP
  have hD : va_D _ [(hm, .inr (6, oM am n pos cmp que dsz (mad + 1) cur stp met bst)), (am 20, .inl (cI, 36, .inl (nA (up rt mad v))))] := hD
  refine lv_iconst (pc := 20) (v := (nI (1))) hx hb dX8_emits_20 (by decide) ?_
  have hP9 : va_P D vwCl [(hm, .inr (6, oM am n pos cmp que dsz ((mad + 1)) cur stp met bst)), (am 20, .inl (cI, 36, .inl (nA ((up rt mad v)))))] H := hP.sub [0, 1] rfl
  have hD9 : va_D _ [(hm, .inr (6, oM am n pos cmp que dsz ((mad + 1)) cur stp met bst)), (am 20, .inl (cI, 36, .inl (nA ((up rt mad v)))))] := hD.sub [0, 1] (by decide) rfl
  exact W.zret (pc := 21) (v := (nI (1))) (ty := .boolean) hx hb hr (by decide) (fun t ht hW => ⟨⟨_, (mad + 1, up rt mad v), rfl, ⟨rfl, (RT_snoc hL v)⟩, by rw [ht]; exact hP9, va_K.moved hW.alike hK, hD9⟩, hS.F ht⟩) hS.2.2 dX8_emits_21
set_option maxHeartbeats 4000000 in
set_option maxRecDepth 100000 in
theorem c_X8_copies (l : Launch) (D : va_G) (cI cL cZ : ClassId) (sz : Nat) (hm : Nat) (am : Nat → Nat) (n : Nat) (pos : Nat) (cmp : Nat) (que : Nat) (dsz : Nat) (mad : Nat) (cur : Nat) (stp : Nat) (met : Nat) (bst : Nat) (dgt : Nat → Nat) (E : Nat → Nat) (N : Nat) (rt : Nat → Nat) (L : List Nat) (f : Nat) (tv : TV dgt E N) (hf : f < N) (hcap : mad + (E f - f) ≤ 36) (hL : RT rt mad L) : Met l yX8_copies wsX8_copies { frames := 1, cells := 0, slots := 0, locals := 23 } (mP D (tyL cI cL cZ) [(hm, .inr (6, oM am n pos cmp que dsz mad cur stp met bst)), (am 1, .inl (cI, 18, .inl (nA dgt))), (am 20, .inl (cI, 36, .inl (nA rt)))] sz [.ref hm, .int (nI f)]) (va_Qi (fun (r : Int32) (u : Nat × (Nat → Nat)) => r = (nI (1)) ∧ (RT u.2 u.1 (L ++ sb dgt E f))) (fun (u : Nat × (Nat → Nat)) (t : State) => mB D (tyL cI cL cZ) (va_A [(hm, .inr (6, oM am n pos cmp que dsz mad cur stp met bst)), (am 1, .inl (cI, 18, .inl (nA dgt))), (am 20, .inl (cI, 36, .inl (nA rt)))] sz) [(hm, .inr (6, oM am n pos cmp que dsz (u.1) cur stp met bst)), (am 1, .inl (cI, 18, .inl (nA dgt))), (am 20, .inl (cI, 36, .inl (nA (u.2))))] t) (va_A [(hm, .inr (6, oM am n pos cmp que dsz mad cur stp met bst)), (am 1, .inl (cI, 18, .inl (nA dgt))), (am 20, .inl (cI, 36, .inl (nA rt)))] sz)) 0 0 (va_A [(hm, .inr (6, oM am n pos cmp que dsz mad cur stp met bst)), (am 1, .inl (cI, 18, .inl (nA dgt))), (am 20, .inl (cI, 36, .inl (nA rt)))] sz) := by
  refine Met.ofW (cc := cX8_copies) (maxL := 4) (ret := (some .boolean)) (by decide) rfl ?_
  intro pG eG s mG args below meth cG s₁ B hml hpre9
  obtain ⟨rfl, hsz, hP, hK, hD0⟩ := hpre9
  have hx := B.exec
  have hb := B.bytes
  have hr := B.returns
  have hts := atoms_spec (ws := wsX8_copies) B.pre
  have hown : s.vm.findClass RX8 = some mG.cls := findClass_of_methodNamed B.named
  have hlocks := B.notSynchronized
  subst hsz
  have hD := hD0.self (sz := s.heap.size)
  have hA : ∀ q : Nat, s.heap.size ≤ q → va_A [(hm, .inr (6, oM am n pos cmp que dsz mad cur stp met bst)), (am 1, .inl (cI, 18, .inl (nA dgt))), (am 20, .inl (cI, 36, .inl (nA rt)))] s.heap.size q := fun q h => Or.inr h
  have hS : va_S (va_A [(hm, .inr (6, oM am n pos cmp que dsz mad cur stp met bst)), (am 1, .inl (cI, 18, .inl (nA dgt))), (am 20, .inl (cI, 36, .inl (nA rt)))] s.heap.size) s.heap s.heap [] := va_S.rf
  have hinX8 : ∀ w ∈ wsX80, w ∈ wsX8_copies := fun w HH => (List.mem_cons_of_mem _ (List.mem_append_right _ HH))
  have lk0 : (Cond.fieldLink RX8 7 "RegexSimplifierModel" "digit" "[I").before _ s = true := hts _ (List.mem_cons_of_mem _ (List.mem_append_left _ (List.mem_of_getElem? (i := 0) rfl)))
  have hl := lv_entry ([.ref hm, .int (nI f)]) (n := 4) (Nat.le_of_ble_eq_true rfl)
  rw [lg_entry_eq]
  generalize (lg_sl ([.ref hm, .int (nI f)]) ++ List.replicate (4 - (lg_sl ([.ref hm, .int (nI f)])).length) Slot.unset).toArray = ls at hl ⊢
  have hl : lv_has ls 4 [(0, .ref hm), (1, .int (nI f))] := hl
  have hn18 := tv.n18
  have hmad := hL.1
  have hfe := tv.q hf
  refine lv_aload_n (pc := 0) hx hb dX8_copies_0 rfl (lv_at hl 0 rfl) ?_
  refine lv_iload_n (pc := 1) hx hb dX8_copies_1 rfl (lv_at hl 1 rfl) ?_
  refine vp_callSi (pc := 2) (W.runV (As := [.int (nI f)]) (rest := []) ⟨hx, hb, hml, hown, hts⟩ (c_X8_endOf l D cI cL cZ hm am n pos cmp que dsz mad cur stp met bst dgt E N f tv (by omega)) (cwV 1 hts gX8_copies_X8_endOf rfl rfl rfl (by decide +kernel) ⟨Nat.le_of_ble_eq_true rfl, Nat.le_of_ble_eq_true rfl⟩) (rP_V (wc := [(hm, .inr (6, oM am n pos cmp que dsz mad cur stp met bst)), (am 1, .inl (cI, 18, .inl (nA dgt)))]) (ci := 6) (q0 := 0) hK hP [0, 1] rfl rfl rfl) rfl rfl hl.1 rfl (lv_room (Nat.le_of_ble_eq_true rfl)) dX8_copies_2 ⟨Nat.zero_le _, Nat.zero_le _⟩) (fun r hrr => ?_)
  rw [hrr]
  refine lv_istore_n (pc := 5) (lv' := [(2, .int (nI (E f))), (0, .ref hm), (1, .int (nI f))]) hx hb dX8_copies_5 rfl hl (by decide) rfl (fun ls hl => ?_)
  refine lv_iload_n (pc := 6) hx hb dX8_copies_6 rfl (lv_at hl 2 rfl) ?_
  refine lv_istore_n (pc := 7) (lv' := [(3, .int (nI f)), (2, .int (nI (E f))), (0, .ref hm), (1, .int (nI f))]) hx hb dX8_copies_7 rfl hl (by decide) rfl (fun ls hl => ?_)
  have loop8 : ∀ (fuel : Nat) (k : Nat) (mad1 : Nat) (rt1 : Nat → Nat) (ls : Array Slot) (H : Heap) (locs : List Loc), E f - k < fuel → (RT rt1 mad1 (L ++ sub dgt f k)) → (f ≤ k) → (k ≤ E f) → (mad1 = mad + (k - f)) → lv_has ls 4 [(0, .ref hm), (1, .int (nI f)), (2, .int (nI (E f))), (3, .int (nI k))] → va_P D vwCl [(hm, .inr (6, oM am n pos cmp que dsz mad1 cur stp met bst)), (am 1, .inl (cI, 18, .inl (nA dgt))), (am 20, .inl (cI, 36, .inl (nA rt1)))] H → va_D (va_A [(hm, .inr (6, oM am n pos cmp que dsz mad cur stp met bst)), (am 1, .inl (cI, 18, .inl (nA dgt))), (am 20, .inl (cI, 36, .inl (nA rt)))] s.heap.size) [(hm, .inr (6, oM am n pos cmp que dsz mad1 cur stp met bst)), (am 1, .inl (cI, 18, .inl (nA dgt))), (am 20, .inl (cI, 36, .inl (nA rt1)))] → va_S (va_A [(hm, .inr (6, oM am n pos cmp que dsz mad cur stp met bst)), (am 1, .inl (cI, 18, .inl (nA dgt))), (am 20, .inl (cI, 36, .inl (nA rt)))] s.heap.size) s.heap H locs → W pG l eG (headSpec wsX8_copies { frames := 1, cells := 0, slots := 0, locals := 23 }).room s mG [.ref hm, .int (nI f)].toArray below meth cG H locs 0 0 (MQ below (va_Qi (fun (r : Int32) (u : Nat × (Nat → Nat)) => r = (nI (1)) ∧ (RT u.2 u.1 (L ++ sb dgt E f))) (fun (u : Nat × (Nat → Nat)) (t : State) => mB D (tyL cI cL cZ) (va_A [(hm, .inr (6, oM am n pos cmp que dsz mad cur stp met bst)), (am 1, .inl (cI, 18, .inl (nA dgt))), (am 20, .inl (cI, 36, .inl (nA rt)))] s.heap.size) [(hm, .inr (6, oM am n pos cmp que dsz (u.1) cur stp met bst)), (am 1, .inl (cI, 18, .inl (nA dgt))), (am 20, .inl (cI, 36, .inl (nA (u.2))))] t) (va_A [(hm, .inr (6, oM am n pos cmp que dsz mad cur stp met bst)), (am 1, .inl (cI, 18, .inl (nA dgt))), (am 20, .inl (cI, 36, .inl (nA rt)))] s.heap.size)) [.ref hm, .int (nI f)].toArray s 0 0 (va_A [(hm, .inr (6, oM am n pos cmp que dsz mad cur stp met bst)), (am 1, .inl (cI, 18, .inl (nA dgt))), (am 20, .inl (cI, 36, .inl (nA rt)))] s.heap.size)) (F0 mG 8 ls []) := by
    intro fuel
    induction fuel with
    | zero => intro k mad1 rt1 ls H locs hmeas i1 i2 i3 i4 hl hP hD hS; exact absurd hmeas (Nat.not_lt_zero _)
    | succ fuel ih8 =>
      intro k mad1 rt1 ls H locs hmeas i1 i2 i3 i4 hl hP hD hS
      refine lv_iload_n (pc := 8) hx hb dX8_copies_8 rfl (lv_at hl 3 rfl) ?_
      refine lv_iload_n (pc := 9) hx hb dX8_copies_9 rfl (lv_at hl 2 rfl) ?_
      refine xn_icmp_ge (pc := 10) (tgt := 30) hx hb (by omega) (by omega) dX8_copies_10 (by decide) (fun c10 => ?_) (fun c10 => ?_)
      · refine lv_iconst (pc := 30) (v := (nI (1))) hx hb dX8_copies_30 (by decide) ?_
        have hP9 : va_P D vwCl [(hm, .inr (6, oM am n pos cmp que dsz mad1 cur stp met bst)), (am 1, .inl (cI, 18, .inl (nA dgt))), (am 20, .inl (cI, 36, .inl (nA rt1)))] H := hP.sub [0, 1, 2] rfl
        have hD9 : va_D _ [(hm, .inr (6, oM am n pos cmp que dsz mad1 cur stp met bst)), (am 1, .inl (cI, 18, .inl (nA dgt))), (am 20, .inl (cI, 36, .inl (nA rt1)))] := hD.sub [0, 1, 2] (by decide) rfl
        exact W.zret (pc := 31) (v := (nI (1))) (ty := .boolean) hx hb hr (by decide) (fun t ht hW => ⟨⟨_, (mad1, rt1), rfl, ⟨rfl, (by rw [show sb dgt E f = sub dgt f k from by unfold sb; rw [show E f = k from by omega]]; exact i1)⟩, by rw [ht]; exact hP9, va_K.moved hW.alike hK, hD9⟩, hS.F ht⟩) hS.2.2 dX8_copies_31
      · refine lv_aload_n (pc := 13) hx hb dX8_copies_13 rfl (lv_at hl 0 rfl) ?_
        refine lv_aload_n (pc := 14) hx hb dX8_copies_14 rfl (lv_at hl 0 rfl) ?_
        refine va_get (pc := 15) (D := D) (ci := 6) (v := .ref (am 1)) (C := RX8) (T := TX8) (N := 30) hx hb hts hinX8 hown hK hP 0 rfl rfl 1 (by decide) lk0 (fun _ h9 => h9) rfl dX8_copies_15 ?_
        refine lv_iload_n (pc := 18) hx hb dX8_copies_18 rfl (lv_at hl 3 rfl) ?_
        refine xa_iald (pc := 19) hx hb hK hP 1 0 rfl rfl (by omega) (by omega) dX8_copies_19 ?_
        refine xm_calli (pc := 20) (wc := [(hm, .inr (6, oM am n pos cmp que dsz mad1 cur stp met bst)), (am 20, .inl (cI, 36, .inl (nA rt1)))]) (wr := [(am 1, .inl (cI, 18, .inl (nA dgt)))]) (va_runV (As := [.int (nI (dgt k))]) (rest := []) ⟨hx, hb, hml, hown, hts⟩ (c_X8_emits l D cI cL cZ H.size hm am n pos cmp que dsz mad1 cur stp met bst rt1 (L ++ sub dgt f k) (dgt k) (by omega) i1) (cwV 1 hts gX8_copies_X8_emits rfl rfl rfl (by decide +kernel) ⟨Nat.le_of_ble_eq_true rfl, Nat.le_of_ble_eq_true rfl⟩) (mP_V (wc := [(hm, .inr (6, oM am n pos cmp que dsz mad1 cur stp met bst)), (am 20, .inl (cI, 36, .inl (nA rt1)))]) (ci := 6) (q0 := 0) hK hP hD [0, 2] (by decide) rfl rfl rfl) rfl rfl hl.1 rfl (lv_room (Nat.le_of_ble_eq_true rfl)) dX8_copies_20 ⟨Nat.zero_le _, Nat.zero_le _⟩) hP hD hS hA [0, 2] [1] rfl rfl (by decide) (by decide) (fun r u H locs hw hP hD hS => ?_)
        obtain ⟨mad2_20, rt2_20⟩ := u
        have hP : va_P D vwCl [(am 1, .inl (cI, 18, .inl (nA dgt))), (hm, .inr (6, oM am n pos cmp que dsz mad2_20 cur stp met bst)), (am 20, .inl (cI, 36, .inl (nA rt2_20)))] H := hP
        have hD : va_D _ [(am 1, .inl (cI, 18, .inl (nA dgt))), (hm, .inr (6, oM am n pos cmp que dsz mad2_20 cur stp met bst)), (am 20, .inl (cI, 36, .inl (nA rt2_20)))] := hD
        try dsimp only at hw
        obtain ⟨hrr, hw20⟩ := hw
        rw [hrr]
        refine lv_pop (pc := 23) hx hb dX8_copies_23 rfl ?_
        refine lv_iinc (pc := 24) (v := (nI (k + 1))) (lv' := [(3, .int (nI (k + 1))), (0, .ref hm), (1, .int (nI f)), (2, .int (nI (E f)))]) hx hb dX8_copies_24 hl (k := 3) rfl (nI_incr _) (by decide) rfl (fun ls hl => ?_)
        refine lv_goto (pc := 27) (tgt := 8) hx hb dX8_copies_27 (by decide) ?_
        exact ih8 (k + 1) mad2_20 rt2_20 ls _ _ (by omega) (by rw [sub_snoc dgt i2, ← List.append_assoc]; exact hw20) (by omega) (by omega) (by have h1 := hw20.1; have h2 := i1.1; simp only [List.length_append, List.length_cons, List.length_nil, sub_len] at h1 h2; omega) (lv_sub hl [1, 2, 3, 0] rfl) (hP.sub [1, 0, 2] rfl) (hD.sub [1, 0, 2] (by decide) rfl) hS
  exact loop8 (_ + 1) f mad rt ls _ _ (Nat.lt_succ_self _) (by rw [sub_nil _ (Nat.le_refl _), List.append_nil]; exact hL) (by omega) (by omega) (by omega) (lv_sub hl [2, 3, 1, 0] rfl) (hP.sub [0, 1, 2] rfl) (hD.sub [0, 1, 2] (by decide) rfl) hS
set_option maxHeartbeats 4000000 in
set_option maxRecDepth 100000 in
theorem c_X8_writes (l : Launch) (D : va_G) (cI cL cZ : ClassId) (sz : Nat) (hm : Nat) (am : Nat → Nat) (n : Nat) (pos : Nat) (cmp : Nat) (que : Nat) (dsz : Nat) (mad : Nat) (cur : Nat) (stp : Nat) (met : Nat) (bst : Nat) (dgt : Nat → Nat) (E : Nat → Nat) (N : Nat) (rt : Nat → Nat) (L : List Nat) (v : Nat) (a : Nat) (b : Nat) (tv : TV dgt E N) (ha : a < N) (hb2 : b < N) (hcap : mad + 1 + (E a - a) + (E b - b) ≤ 36) (hL : RT rt mad L) : Met l yX8_writes wsX8_writes { frames := 2, cells := 0, slots := 0, locals := 46 } (mP D (tyL cI cL cZ) [(hm, .inr (6, oM am n pos cmp que dsz mad cur stp met bst)), (am 1, .inl (cI, 18, .inl (nA dgt))), (am 20, .inl (cI, 36, .inl (nA rt)))] sz [.ref hm, .int (nI v), .int (nI a), .int (nI b)]) (va_Qi (fun (r : Int32) (u : Nat × (Nat → Nat)) => r = (nI (1)) ∧ (RT u.2 u.1 (L ++ (v :: (sb dgt E a ++ sb dgt E b))))) (fun (u : Nat × (Nat → Nat)) (t : State) => mB D (tyL cI cL cZ) (va_A [(hm, .inr (6, oM am n pos cmp que dsz mad cur stp met bst)), (am 1, .inl (cI, 18, .inl (nA dgt))), (am 20, .inl (cI, 36, .inl (nA rt)))] sz) [(hm, .inr (6, oM am n pos cmp que dsz (u.1) cur stp met bst)), (am 1, .inl (cI, 18, .inl (nA dgt))), (am 20, .inl (cI, 36, .inl (nA (u.2))))] t) (va_A [(hm, .inr (6, oM am n pos cmp que dsz mad cur stp met bst)), (am 1, .inl (cI, 18, .inl (nA dgt))), (am 20, .inl (cI, 36, .inl (nA rt)))] sz)) 0 0 (va_A [(hm, .inr (6, oM am n pos cmp que dsz mad cur stp met bst)), (am 1, .inl (cI, 18, .inl (nA dgt))), (am 20, .inl (cI, 36, .inl (nA rt)))] sz) := by
  refine Met.ofW (cc := cX8_writes) (maxL := 4) (ret := (some .boolean)) (by decide) rfl ?_
  intro pG eG s mG args below meth cG s₁ B hml hpre9
  obtain ⟨rfl, hsz, hP, hK, hD0⟩ := hpre9
  have hx := B.exec
  have hb := B.bytes
  have hr := B.returns
  have hts := atoms_spec (ws := wsX8_writes) B.pre
  have hown : s.vm.findClass RX8 = some mG.cls := findClass_of_methodNamed B.named
  have hlocks := B.notSynchronized
  subst hsz
  have hD := hD0.self (sz := s.heap.size)
  have hA : ∀ q : Nat, s.heap.size ≤ q → va_A [(hm, .inr (6, oM am n pos cmp que dsz mad cur stp met bst)), (am 1, .inl (cI, 18, .inl (nA dgt))), (am 20, .inl (cI, 36, .inl (nA rt)))] s.heap.size q := fun q h => Or.inr h
  have hS : va_S (va_A [(hm, .inr (6, oM am n pos cmp que dsz mad cur stp met bst)), (am 1, .inl (cI, 18, .inl (nA dgt))), (am 20, .inl (cI, 36, .inl (nA rt)))] s.heap.size) s.heap s.heap [] := va_S.rf
  have hl := lv_entry ([.ref hm, .int (nI v), .int (nI a), .int (nI b)]) (n := 4) (Nat.le_of_ble_eq_true rfl)
  rw [lg_entry_eq]
  generalize (lg_sl ([.ref hm, .int (nI v), .int (nI a), .int (nI b)]) ++ List.replicate (4 - (lg_sl ([.ref hm, .int (nI v), .int (nI a), .int (nI b)])).length) Slot.unset).toArray = ls at hl ⊢
  have hl : lv_has ls 4 [(0, .ref hm), (1, .int (nI v)), (2, .int (nI a)), (3, .int (nI b))] := hl
  have hn18 := tv.n18
  have hmad := hL.1
  refine lv_aload_n (pc := 0) hx hb dX8_writes_0 rfl (lv_at hl 0 rfl) ?_
  refine lv_iload_n (pc := 1) hx hb dX8_writes_1 rfl (lv_at hl 1 rfl) ?_
  refine xm_calli (pc := 2) (wc := [(hm, .inr (6, oM am n pos cmp que dsz mad cur stp met bst)), (am 20, .inl (cI, 36, .inl (nA rt)))]) (wr := [(am 1, .inl (cI, 18, .inl (nA dgt)))]) (va_runV (As := [.int (nI v)]) (rest := []) ⟨hx, hb, hml, hown, hts⟩ (c_X8_emits l D cI cL cZ s.heap.size hm am n pos cmp que dsz mad cur stp met bst rt L v (by omega) hL) (cwV 1 hts gX8_writes_X8_emits rfl rfl rfl (by decide +kernel) ⟨Nat.le_of_ble_eq_true rfl, Nat.le_of_ble_eq_true rfl⟩) (mP_V (wc := [(hm, .inr (6, oM am n pos cmp que dsz mad cur stp met bst)), (am 20, .inl (cI, 36, .inl (nA rt)))]) (ci := 6) (q0 := 0) hK hP hD [0, 2] (by decide) rfl rfl rfl) rfl rfl hl.1 rfl (lv_room (Nat.le_of_ble_eq_true rfl)) dX8_writes_2 ⟨Nat.zero_le _, Nat.zero_le _⟩) hP hD hS hA [0, 2] [1] rfl rfl (by decide) (by decide) (fun r u H locs hw hP hD hS => ?_)
  obtain ⟨mad2_2, rt2_2⟩ := u
  have hP : va_P D vwCl [(am 1, .inl (cI, 18, .inl (nA dgt))), (hm, .inr (6, oM am n pos cmp que dsz mad2_2 cur stp met bst)), (am 20, .inl (cI, 36, .inl (nA rt2_2)))] H := hP
  have hD : va_D _ [(am 1, .inl (cI, 18, .inl (nA dgt))), (hm, .inr (6, oM am n pos cmp que dsz mad2_2 cur stp met bst)), (am 20, .inl (cI, 36, .inl (nA rt2_2)))] := hD
  try dsimp only at hw
  obtain ⟨hrr, hw2⟩ := hw
  rw [hrr]
  refine lv_pop (pc := 5) hx hb dX8_writes_5 rfl ?_
  refine lv_aload_n (pc := 6) hx hb dX8_writes_6 rfl (lv_at hl 0 rfl) ?_
  refine lv_iload_n (pc := 7) hx hb dX8_writes_7 rfl (lv_at hl 2 rfl) ?_
  refine xm_calli (pc := 8) (wc := [(hm, .inr (6, oM am n pos cmp que dsz mad2_2 cur stp met bst)), (am 1, .inl (cI, 18, .inl (nA dgt))), (am 20, .inl (cI, 36, .inl (nA rt2_2)))]) (wr := []) (va_runV (As := [.int (nI a)]) (rest := []) ⟨hx, hb, hml, hown, hts⟩ (c_X8_copies l D cI cL cZ H.size hm am n pos cmp que dsz mad2_2 cur stp met bst dgt E N rt2_2 (L ++ [v]) a tv ha (by have h1 := hw2.1; simp at h1; omega) hw2) (cwV 1 hts gX8_writes_X8_copies rfl rfl rfl (by decide +kernel) ⟨Nat.le_of_ble_eq_true rfl, Nat.le_of_ble_eq_true rfl⟩) (mP_V (wc := [(hm, .inr (6, oM am n pos cmp que dsz mad2_2 cur stp met bst)), (am 1, .inl (cI, 18, .inl (nA dgt))), (am 20, .inl (cI, 36, .inl (nA rt2_2)))]) (ci := 6) (q0 := 0) hK hP hD [1, 0, 2] (by decide) rfl rfl rfl) rfl rfl hl.1 rfl (lv_room (Nat.le_of_ble_eq_true rfl)) dX8_writes_8 ⟨Nat.zero_le _, Nat.zero_le _⟩) hP hD hS hA [1, 0, 2] [] rfl rfl (by decide) (by decide) (fun r u H locs hw hP hD hS => ?_)
  obtain ⟨mad2_8, rt2_8⟩ := u
  have hP : va_P D vwCl [(hm, .inr (6, oM am n pos cmp que dsz mad2_8 cur stp met bst)), (am 1, .inl (cI, 18, .inl (nA dgt))), (am 20, .inl (cI, 36, .inl (nA rt2_8)))] H := hP
  have hD : va_D _ [(hm, .inr (6, oM am n pos cmp que dsz mad2_8 cur stp met bst)), (am 1, .inl (cI, 18, .inl (nA dgt))), (am 20, .inl (cI, 36, .inl (nA rt2_8)))] := hD
  try dsimp only at hw
  obtain ⟨hrr, hw8⟩ := hw
  rw [hrr]
  refine lv_pop (pc := 11) hx hb dX8_writes_11 rfl ?_
  refine lv_aload_n (pc := 12) hx hb dX8_writes_12 rfl (lv_at hl 0 rfl) ?_
  refine lv_iload_n (pc := 13) hx hb dX8_writes_13 rfl (lv_at hl 3 rfl) ?_
  refine xm_calli (pc := 14) (wc := [(hm, .inr (6, oM am n pos cmp que dsz mad2_8 cur stp met bst)), (am 1, .inl (cI, 18, .inl (nA dgt))), (am 20, .inl (cI, 36, .inl (nA rt2_8)))]) (wr := []) (va_runV (As := [.int (nI b)]) (rest := []) ⟨hx, hb, hml, hown, hts⟩ (c_X8_copies l D cI cL cZ H.size hm am n pos cmp que dsz mad2_8 cur stp met bst dgt E N rt2_8 ((L ++ [v]) ++ sb dgt E a) b tv hb2 (by have h1 := hw8.1; simp [sb, sub_len] at h1; omega) hw8) (cwV 1 hts gX8_writes_X8_copies rfl rfl rfl (by decide +kernel) ⟨Nat.le_of_ble_eq_true rfl, Nat.le_of_ble_eq_true rfl⟩) (mP_V (wc := [(hm, .inr (6, oM am n pos cmp que dsz mad2_8 cur stp met bst)), (am 1, .inl (cI, 18, .inl (nA dgt))), (am 20, .inl (cI, 36, .inl (nA rt2_8)))]) (ci := 6) (q0 := 0) hK hP hD [0, 1, 2] (by decide) rfl rfl rfl) rfl rfl hl.1 rfl (lv_room (Nat.le_of_ble_eq_true rfl)) dX8_writes_14 ⟨Nat.zero_le _, Nat.zero_le _⟩) hP hD hS hA [0, 1, 2] [] rfl rfl (by decide) (by decide) (fun r u H locs hw hP hD hS => ?_)
  obtain ⟨mad2_14, rt2_14⟩ := u
  have hP : va_P D vwCl [(hm, .inr (6, oM am n pos cmp que dsz mad2_14 cur stp met bst)), (am 1, .inl (cI, 18, .inl (nA dgt))), (am 20, .inl (cI, 36, .inl (nA rt2_14)))] H := hP
  have hD : va_D _ [(hm, .inr (6, oM am n pos cmp que dsz mad2_14 cur stp met bst)), (am 1, .inl (cI, 18, .inl (nA dgt))), (am 20, .inl (cI, 36, .inl (nA rt2_14)))] := hD
  try dsimp only at hw
  obtain ⟨hrr, hw14⟩ := hw
  rw [hrr]
  have hP9 : va_P D vwCl [(hm, .inr (6, oM am n pos cmp que dsz mad2_14 cur stp met bst)), (am 1, .inl (cI, 18, .inl (nA dgt))), (am 20, .inl (cI, 36, .inl (nA rt2_14)))] H := hP.sub [0, 1, 2] rfl
  have hD9 : va_D _ [(hm, .inr (6, oM am n pos cmp que dsz mad2_14 cur stp met bst)), (am 1, .inl (cI, 18, .inl (nA dgt))), (am 20, .inl (cI, 36, .inl (nA rt2_14)))] := hD.sub [0, 1, 2] (by decide) rfl
  exact W.zret (pc := 17) (v := (nI (1))) (ty := .boolean) hx hb hr (by decide) (fun t ht hW => ⟨⟨_, (mad2_14, rt2_14), rfl, ⟨rfl, (by have h9 := hw14; simpa using h9)⟩, by rw [ht]; exact hP9, va_K.moved hW.alike hK, hD9⟩, hS.F ht⟩) hS.2.2 dX8_writes_17
set_option maxHeartbeats 4000000 in
set_option maxRecDepth 100000 in
theorem c_X8_starOf (l : Launch) (D : va_G) (cI cL cZ : ClassId) (sz : Nat) (hm : Nat) (am : Nat → Nat) (n : Nat) (pos : Nat) (cmp : Nat) (que : Nat) (dsz : Nat) (mad : Nat) (cur : Nat) (stp : Nat) (met : Nat) (bst : Nat) (dgt : Nat → Nat) (E : Nat → Nat) (N : Nat) (rt : Nat → Nat) (L : List Nat) (a : Nat) (tv : TV dgt E N) (ha : a < N) (hcap : mad + 1 + (E a - a) ≤ 36) (hL : RT rt mad L) : Met l yX8_starOf wsX8_starOf { frames := 2, cells := 0, slots := 0, locals := 46 } (mP D (tyL cI cL cZ) [(hm, .inr (6, oM am n pos cmp que dsz mad cur stp met bst)), (am 1, .inl (cI, 18, .inl (nA dgt))), (am 20, .inl (cI, 36, .inl (nA rt)))] sz [.ref hm, .int (nI a)]) (va_Qi (fun (r : Int32) (u : Nat × (Nat → Nat)) => r = (nI (1)) ∧ (RT u.2 u.1 (L ++ (8 :: sb dgt E a)))) (fun (u : Nat × (Nat → Nat)) (t : State) => mB D (tyL cI cL cZ) (va_A [(hm, .inr (6, oM am n pos cmp que dsz mad cur stp met bst)), (am 1, .inl (cI, 18, .inl (nA dgt))), (am 20, .inl (cI, 36, .inl (nA rt)))] sz) [(hm, .inr (6, oM am n pos cmp que dsz (u.1) cur stp met bst)), (am 1, .inl (cI, 18, .inl (nA dgt))), (am 20, .inl (cI, 36, .inl (nA (u.2))))] t) (va_A [(hm, .inr (6, oM am n pos cmp que dsz mad cur stp met bst)), (am 1, .inl (cI, 18, .inl (nA dgt))), (am 20, .inl (cI, 36, .inl (nA rt)))] sz)) 0 0 (va_A [(hm, .inr (6, oM am n pos cmp que dsz mad cur stp met bst)), (am 1, .inl (cI, 18, .inl (nA dgt))), (am 20, .inl (cI, 36, .inl (nA rt)))] sz) := by
  refine Met.ofW (cc := cX8_starOf) (maxL := 2) (ret := (some .boolean)) (by decide) rfl ?_
  intro pG eG s mG args below meth cG s₁ B hml hpre9
  obtain ⟨rfl, hsz, hP, hK, hD0⟩ := hpre9
  have hx := B.exec
  have hb := B.bytes
  have hr := B.returns
  have hts := atoms_spec (ws := wsX8_starOf) B.pre
  have hown : s.vm.findClass RX8 = some mG.cls := findClass_of_methodNamed B.named
  have hlocks := B.notSynchronized
  subst hsz
  have hD := hD0.self (sz := s.heap.size)
  have hA : ∀ q : Nat, s.heap.size ≤ q → va_A [(hm, .inr (6, oM am n pos cmp que dsz mad cur stp met bst)), (am 1, .inl (cI, 18, .inl (nA dgt))), (am 20, .inl (cI, 36, .inl (nA rt)))] s.heap.size q := fun q h => Or.inr h
  have hS : va_S (va_A [(hm, .inr (6, oM am n pos cmp que dsz mad cur stp met bst)), (am 1, .inl (cI, 18, .inl (nA dgt))), (am 20, .inl (cI, 36, .inl (nA rt)))] s.heap.size) s.heap s.heap [] := va_S.rf
  have hl := lv_entry ([.ref hm, .int (nI a)]) (n := 2) (Nat.le_of_ble_eq_true rfl)
  rw [lg_entry_eq]
  generalize (lg_sl ([.ref hm, .int (nI a)]) ++ List.replicate (2 - (lg_sl ([.ref hm, .int (nI a)])).length) Slot.unset).toArray = ls at hl ⊢
  have hl : lv_has ls 2 [(0, .ref hm), (1, .int (nI a))] := hl
  have hn18 := tv.n18
  have hmad := hL.1
  refine lv_aload_n (pc := 0) hx hb dX8_starOf_0 rfl (lv_at hl 0 rfl) ?_
  refine lv_bipush (pc := 1) (v := (nI (8))) hx hb dX8_starOf_1 (by decide) ?_
  refine xm_calli (pc := 3) (wc := [(hm, .inr (6, oM am n pos cmp que dsz mad cur stp met bst)), (am 20, .inl (cI, 36, .inl (nA rt)))]) (wr := [(am 1, .inl (cI, 18, .inl (nA dgt)))]) (va_runV (As := [.int (nI 8)]) (rest := []) ⟨hx, hb, hml, hown, hts⟩ (c_X8_emits l D cI cL cZ s.heap.size hm am n pos cmp que dsz mad cur stp met bst rt L 8 (by omega) hL) (cwV 1 hts gX8_starOf_X8_emits rfl rfl rfl (by decide +kernel) ⟨Nat.le_of_ble_eq_true rfl, Nat.le_of_ble_eq_true rfl⟩) (mP_V (wc := [(hm, .inr (6, oM am n pos cmp que dsz mad cur stp met bst)), (am 20, .inl (cI, 36, .inl (nA rt)))]) (ci := 6) (q0 := 0) hK hP hD [0, 2] (by decide) rfl rfl rfl) rfl rfl hl.1 rfl (lv_room (Nat.le_of_ble_eq_true rfl)) dX8_starOf_3 ⟨Nat.zero_le _, Nat.zero_le _⟩) hP hD hS hA [0, 2] [1] rfl rfl (by decide) (by decide) (fun r u H locs hw hP hD hS => ?_)
  obtain ⟨mad2_3, rt2_3⟩ := u
  have hP : va_P D vwCl [(am 1, .inl (cI, 18, .inl (nA dgt))), (hm, .inr (6, oM am n pos cmp que dsz mad2_3 cur stp met bst)), (am 20, .inl (cI, 36, .inl (nA rt2_3)))] H := hP
  have hD : va_D _ [(am 1, .inl (cI, 18, .inl (nA dgt))), (hm, .inr (6, oM am n pos cmp que dsz mad2_3 cur stp met bst)), (am 20, .inl (cI, 36, .inl (nA rt2_3)))] := hD
  try dsimp only at hw
  obtain ⟨hrr, hw3⟩ := hw
  rw [hrr]
  refine lv_pop (pc := 6) hx hb dX8_starOf_6 rfl ?_
  refine lv_aload_n (pc := 7) hx hb dX8_starOf_7 rfl (lv_at hl 0 rfl) ?_
  refine lv_iload_n (pc := 8) hx hb dX8_starOf_8 rfl (lv_at hl 1 rfl) ?_
  refine xm_calli (pc := 9) (wc := [(hm, .inr (6, oM am n pos cmp que dsz mad2_3 cur stp met bst)), (am 1, .inl (cI, 18, .inl (nA dgt))), (am 20, .inl (cI, 36, .inl (nA rt2_3)))]) (wr := []) (va_runV (As := [.int (nI a)]) (rest := []) ⟨hx, hb, hml, hown, hts⟩ (c_X8_copies l D cI cL cZ H.size hm am n pos cmp que dsz mad2_3 cur stp met bst dgt E N rt2_3 (L ++ [8]) a tv ha (by have h1 := hw3.1; simp at h1; omega) hw3) (cwV 1 hts gX8_starOf_X8_copies rfl rfl rfl (by decide +kernel) ⟨Nat.le_of_ble_eq_true rfl, Nat.le_of_ble_eq_true rfl⟩) (mP_V (wc := [(hm, .inr (6, oM am n pos cmp que dsz mad2_3 cur stp met bst)), (am 1, .inl (cI, 18, .inl (nA dgt))), (am 20, .inl (cI, 36, .inl (nA rt2_3)))]) (ci := 6) (q0 := 0) hK hP hD [1, 0, 2] (by decide) rfl rfl rfl) rfl rfl hl.1 rfl (lv_room (Nat.le_of_ble_eq_true rfl)) dX8_starOf_9 ⟨Nat.zero_le _, Nat.zero_le _⟩) hP hD hS hA [1, 0, 2] [] rfl rfl (by decide) (by decide) (fun r u H locs hw hP hD hS => ?_)
  obtain ⟨mad2_9, rt2_9⟩ := u
  have hP : va_P D vwCl [(hm, .inr (6, oM am n pos cmp que dsz mad2_9 cur stp met bst)), (am 1, .inl (cI, 18, .inl (nA dgt))), (am 20, .inl (cI, 36, .inl (nA rt2_9)))] H := hP
  have hD : va_D _ [(hm, .inr (6, oM am n pos cmp que dsz mad2_9 cur stp met bst)), (am 1, .inl (cI, 18, .inl (nA dgt))), (am 20, .inl (cI, 36, .inl (nA rt2_9)))] := hD
  try dsimp only at hw
  obtain ⟨hrr, hw9⟩ := hw
  rw [hrr]
  have hP9 : va_P D vwCl [(hm, .inr (6, oM am n pos cmp que dsz mad2_9 cur stp met bst)), (am 1, .inl (cI, 18, .inl (nA dgt))), (am 20, .inl (cI, 36, .inl (nA rt2_9)))] H := hP.sub [0, 1, 2] rfl
  have hD9 : va_D _ [(hm, .inr (6, oM am n pos cmp que dsz mad2_9 cur stp met bst)), (am 1, .inl (cI, 18, .inl (nA dgt))), (am 20, .inl (cI, 36, .inl (nA rt2_9)))] := hD.sub [0, 1, 2] (by decide) rfl
  exact W.zret (pc := 12) (v := (nI (1))) (ty := .boolean) hx hb hr (by decide) (fun t ht hW => ⟨⟨_, (mad2_9, rt2_9), rfl, ⟨rfl, (by have h9 := hw9; simpa using h9)⟩, by rw [ht]; exact hP9, va_K.moved hW.alike hK, hD9⟩, hS.F ht⟩) hS.2.2 dX8_starOf_12
set_option maxHeartbeats 4000000 in
set_option maxRecDepth 100000 in
theorem c_X8_starOfUnion (l : Launch) (D : va_G) (cI cL cZ : ClassId) (sz : Nat) (hm : Nat) (am : Nat → Nat) (n : Nat) (pos : Nat) (cmp : Nat) (que : Nat) (dsz : Nat) (mad : Nat) (cur : Nat) (stp : Nat) (met : Nat) (bst : Nat) (dgt : Nat → Nat) (E : Nat → Nat) (N : Nat) (rt : Nat → Nat) (L : List Nat) (a : Nat) (b : Nat) (tv : TV dgt E N) (ha : a < N) (hb2 : b < N) (hcap : mad + 2 + (E a - a) + (E b - b) ≤ 36) (hL : RT rt mad L) : Met l yX8_starOfUnion wsX8_starOfUnion { frames := 3, cells := 0, slots := 0, locals := 69 } (mP D (tyL cI cL cZ) [(hm, .inr (6, oM am n pos cmp que dsz mad cur stp met bst)), (am 1, .inl (cI, 18, .inl (nA dgt))), (am 20, .inl (cI, 36, .inl (nA rt)))] sz [.ref hm, .int (nI a), .int (nI b)]) (va_Qi (fun (r : Int32) (u : Nat × (Nat → Nat)) => r = (nI (1)) ∧ (RT u.2 u.1 (L ++ (8 :: 6 :: (sb dgt E a ++ sb dgt E b))))) (fun (u : Nat × (Nat → Nat)) (t : State) => mB D (tyL cI cL cZ) (va_A [(hm, .inr (6, oM am n pos cmp que dsz mad cur stp met bst)), (am 1, .inl (cI, 18, .inl (nA dgt))), (am 20, .inl (cI, 36, .inl (nA rt)))] sz) [(hm, .inr (6, oM am n pos cmp que dsz (u.1) cur stp met bst)), (am 1, .inl (cI, 18, .inl (nA dgt))), (am 20, .inl (cI, 36, .inl (nA (u.2))))] t) (va_A [(hm, .inr (6, oM am n pos cmp que dsz mad cur stp met bst)), (am 1, .inl (cI, 18, .inl (nA dgt))), (am 20, .inl (cI, 36, .inl (nA rt)))] sz)) 0 0 (va_A [(hm, .inr (6, oM am n pos cmp que dsz mad cur stp met bst)), (am 1, .inl (cI, 18, .inl (nA dgt))), (am 20, .inl (cI, 36, .inl (nA rt)))] sz) := by
  refine Met.ofW (cc := cX8_starOfUnion) (maxL := 3) (ret := (some .boolean)) (by decide) rfl ?_
  intro pG eG s mG args below meth cG s₁ B hml hpre9
  obtain ⟨rfl, hsz, hP, hK, hD0⟩ := hpre9
  have hx := B.exec
  have hb := B.bytes
  have hr := B.returns
  have hts := atoms_spec (ws := wsX8_starOfUnion) B.pre
  have hown : s.vm.findClass RX8 = some mG.cls := findClass_of_methodNamed B.named
  have hlocks := B.notSynchronized
  subst hsz
  have hD := hD0.self (sz := s.heap.size)
  have hA : ∀ q : Nat, s.heap.size ≤ q → va_A [(hm, .inr (6, oM am n pos cmp que dsz mad cur stp met bst)), (am 1, .inl (cI, 18, .inl (nA dgt))), (am 20, .inl (cI, 36, .inl (nA rt)))] s.heap.size q := fun q h => Or.inr h
  have hS : va_S (va_A [(hm, .inr (6, oM am n pos cmp que dsz mad cur stp met bst)), (am 1, .inl (cI, 18, .inl (nA dgt))), (am 20, .inl (cI, 36, .inl (nA rt)))] s.heap.size) s.heap s.heap [] := va_S.rf
  have hl := lv_entry ([.ref hm, .int (nI a), .int (nI b)]) (n := 3) (Nat.le_of_ble_eq_true rfl)
  rw [lg_entry_eq]
  generalize (lg_sl ([.ref hm, .int (nI a), .int (nI b)]) ++ List.replicate (3 - (lg_sl ([.ref hm, .int (nI a), .int (nI b)])).length) Slot.unset).toArray = ls at hl ⊢
  have hl : lv_has ls 3 [(0, .ref hm), (1, .int (nI a)), (2, .int (nI b))] := hl
  have hn18 := tv.n18
  have hmad := hL.1
  refine lv_aload_n (pc := 0) hx hb dX8_starOfUnion_0 rfl (lv_at hl 0 rfl) ?_
  refine lv_bipush (pc := 1) (v := (nI (8))) hx hb dX8_starOfUnion_1 (by decide) ?_
  refine xm_calli (pc := 3) (wc := [(hm, .inr (6, oM am n pos cmp que dsz mad cur stp met bst)), (am 20, .inl (cI, 36, .inl (nA rt)))]) (wr := [(am 1, .inl (cI, 18, .inl (nA dgt)))]) (va_runV (As := [.int (nI 8)]) (rest := []) ⟨hx, hb, hml, hown, hts⟩ (c_X8_emits l D cI cL cZ s.heap.size hm am n pos cmp que dsz mad cur stp met bst rt L 8 (by omega) hL) (cwV 1 hts gX8_starOfUnion_X8_emits rfl rfl rfl (by decide +kernel) ⟨Nat.le_of_ble_eq_true rfl, Nat.le_of_ble_eq_true rfl⟩) (mP_V (wc := [(hm, .inr (6, oM am n pos cmp que dsz mad cur stp met bst)), (am 20, .inl (cI, 36, .inl (nA rt)))]) (ci := 6) (q0 := 0) hK hP hD [0, 2] (by decide) rfl rfl rfl) rfl rfl hl.1 rfl (lv_room (Nat.le_of_ble_eq_true rfl)) dX8_starOfUnion_3 ⟨Nat.zero_le _, Nat.zero_le _⟩) hP hD hS hA [0, 2] [1] rfl rfl (by decide) (by decide) (fun r u H locs hw hP hD hS => ?_)
  obtain ⟨mad2_3, rt2_3⟩ := u
  have hP : va_P D vwCl [(am 1, .inl (cI, 18, .inl (nA dgt))), (hm, .inr (6, oM am n pos cmp que dsz mad2_3 cur stp met bst)), (am 20, .inl (cI, 36, .inl (nA rt2_3)))] H := hP
  have hD : va_D _ [(am 1, .inl (cI, 18, .inl (nA dgt))), (hm, .inr (6, oM am n pos cmp que dsz mad2_3 cur stp met bst)), (am 20, .inl (cI, 36, .inl (nA rt2_3)))] := hD
  try dsimp only at hw
  obtain ⟨hrr, hw3⟩ := hw
  rw [hrr]
  refine lv_pop (pc := 6) hx hb dX8_starOfUnion_6 rfl ?_
  refine lv_aload_n (pc := 7) hx hb dX8_starOfUnion_7 rfl (lv_at hl 0 rfl) ?_
  refine lv_bipush (pc := 8) (v := (nI (6))) hx hb dX8_starOfUnion_8 (by decide) ?_
  refine lv_iload_n (pc := 10) hx hb dX8_starOfUnion_10 rfl (lv_at hl 1 rfl) ?_
  refine lv_iload_n (pc := 11) hx hb dX8_starOfUnion_11 rfl (lv_at hl 2 rfl) ?_
  refine xm_calli (pc := 12) (wc := [(hm, .inr (6, oM am n pos cmp que dsz mad2_3 cur stp met bst)), (am 1, .inl (cI, 18, .inl (nA dgt))), (am 20, .inl (cI, 36, .inl (nA rt2_3)))]) (wr := []) (va_runV (As := [.int (nI 6), .int (nI a), .int (nI b)]) (rest := []) ⟨hx, hb, hml, hown, hts⟩ (c_X8_writes l D cI cL cZ H.size hm am n pos cmp que dsz mad2_3 cur stp met bst dgt E N rt2_3 (L ++ [8]) 6 a b tv ha hb2 (by have h1 := hw3.1; simp at h1; omega) hw3) (cwV 3 hts gX8_starOfUnion_X8_writes rfl rfl rfl (by decide +kernel) ⟨Nat.le_of_ble_eq_true rfl, Nat.le_of_ble_eq_true rfl⟩) (mP_V (wc := [(hm, .inr (6, oM am n pos cmp que dsz mad2_3 cur stp met bst)), (am 1, .inl (cI, 18, .inl (nA dgt))), (am 20, .inl (cI, 36, .inl (nA rt2_3)))]) (ci := 6) (q0 := 0) hK hP hD [1, 0, 2] (by decide) rfl rfl rfl) rfl rfl hl.1 rfl (lv_room (Nat.le_of_ble_eq_true rfl)) dX8_starOfUnion_12 ⟨Nat.zero_le _, Nat.zero_le _⟩) hP hD hS hA [1, 0, 2] [] rfl rfl (by decide) (by decide) (fun r u H locs hw hP hD hS => ?_)
  obtain ⟨mad2_12, rt2_12⟩ := u
  have hP : va_P D vwCl [(hm, .inr (6, oM am n pos cmp que dsz mad2_12 cur stp met bst)), (am 1, .inl (cI, 18, .inl (nA dgt))), (am 20, .inl (cI, 36, .inl (nA rt2_12)))] H := hP
  have hD : va_D _ [(hm, .inr (6, oM am n pos cmp que dsz mad2_12 cur stp met bst)), (am 1, .inl (cI, 18, .inl (nA dgt))), (am 20, .inl (cI, 36, .inl (nA rt2_12)))] := hD
  try dsimp only at hw
  obtain ⟨hrr, hw12⟩ := hw
  rw [hrr]
  have hP9 : va_P D vwCl [(hm, .inr (6, oM am n pos cmp que dsz mad2_12 cur stp met bst)), (am 1, .inl (cI, 18, .inl (nA dgt))), (am 20, .inl (cI, 36, .inl (nA rt2_12)))] H := hP.sub [0, 1, 2] rfl
  have hD9 : va_D _ [(hm, .inr (6, oM am n pos cmp que dsz mad2_12 cur stp met bst)), (am 1, .inl (cI, 18, .inl (nA dgt))), (am 20, .inl (cI, 36, .inl (nA rt2_12)))] := hD.sub [0, 1, 2] (by decide) rfl
  exact W.zret (pc := 15) (v := (nI (1))) (ty := .boolean) hx hb hr (by decide) (fun t ht hW => ⟨⟨_, (mad2_12, rt2_12), rfl, ⟨rfl, (by have h9 := hw12; simpa using h9)⟩, by rw [ht]; exact hP9, va_K.moved hW.alike hK, hD9⟩, hS.F ht⟩) hS.2.2 dX8_starOfUnion_15
set_option maxHeartbeats 4000000 in
set_option maxRecDepth 100000 in
theorem c_X8_bothConcatenations (l : Launch) (D : va_G) (cI cL cZ : ClassId) (hm : Nat) (am : Nat → Nat) (n : Nat) (pos : Nat) (cmp : Nat) (que : Nat) (dsz : Nat) (mad : Nat) (cur : Nat) (stp : Nat) (met : Nat) (bst : Nat) (dgt : Nat → Nat) (E : Nat → Nat) (N : Nat) (a : Nat) (b : Nat) (tv : TV dgt E N) (ha : a < N) (hb2 : b < N) : Met l yX8_bothConcatenations wsX8_bothConcatenations { frames := 0, cells := 0, slots := 0, locals := 0 } (rP D (tyL cI cL cZ) [(hm, .inr (6, oM am n pos cmp que dsz mad cur stp met bst)), (am 1, .inl (cI, 18, .inl (nA dgt)))] [.ref hm, .int (nI a), .int (nI b)]) (vp_Si (fun r => r = (nI (pN (dgt a = 7 ∧ dgt b = 7))))) 0 0 (fun _ => False) := by
  refine Met.ofW (cc := cX8_bothConcatenations) (maxL := 3) (ret := (some .boolean)) (by decide) rfl ?_
  intro pG eG s mG args below meth cG s₁ B hml hpre9
  obtain ⟨rfl, hP, hK⟩ := hpre9
  have hx := B.exec
  have hb := B.bytes
  have hr := B.returns
  have hts := atoms_spec (ws := wsX8_bothConcatenations) B.pre
  have hown : s.vm.findClass RX8 = some mG.cls := findClass_of_methodNamed B.named
  have hlocks := B.notSynchronized
  have hS : va_S (fun _ => False) s.heap s.heap [] := va_S.rf
  have hinX8 : ∀ w ∈ wsX80, w ∈ wsX8_bothConcatenations := fun w HH => (List.mem_cons_of_mem _ (List.mem_append_right _ HH))
  have lk0 : (Cond.fieldLink RX8 7 "RegexSimplifierModel" "digit" "[I").before _ s = true := hts _ (List.mem_cons_of_mem _ (List.mem_append_left _ (List.mem_of_getElem? (i := 0) rfl)))
  have hl := lv_entry ([.ref hm, .int (nI a), .int (nI b)]) (n := 3) (Nat.le_of_ble_eq_true rfl)
  rw [lg_entry_eq]
  generalize (lg_sl ([.ref hm, .int (nI a), .int (nI b)]) ++ List.replicate (3 - (lg_sl ([.ref hm, .int (nI a), .int (nI b)])).length) Slot.unset).toArray = ls at hl ⊢
  have hl : lv_has ls 3 [(0, .ref hm), (1, .int (nI a)), (2, .int (nI b))] := hl
  have hn18 := tv.n18
  have hqa := tv.q ha
  have hqb := tv.q hb2
  refine lv_aload_n (pc := 0) hx hb dX8_bothConcatenations_0 rfl (lv_at hl 0 rfl) ?_
  refine va_get (pc := 1) (D := D) (ci := 6) (v := .ref (am 1)) (C := RX8) (T := TX8) (N := 30) hx hb hts hinX8 hown hK hP 0 rfl rfl 1 (by decide) lk0 (fun _ h9 => h9) rfl dX8_bothConcatenations_1 ?_
  refine lv_iload_n (pc := 4) hx hb dX8_bothConcatenations_4 rfl (lv_at hl 1 rfl) ?_
  refine xa_iald (pc := 5) hx hb hK hP 1 0 rfl rfl (by omega) (by omega) dX8_bothConcatenations_5 ?_
  refine lv_bipush (pc := 6) (v := (nI (7))) hx hb dX8_bothConcatenations_6 (by decide) ?_
  refine xn_icmp_ne (pc := 8) (tgt := 26) hx hb (by omega) (by omega) dX8_bothConcatenations_8 (by decide) (fun c8 => ?_) (fun c8 => ?_)
  · refine lv_iconst (pc := 26) (v := (nI (0))) hx hb dX8_bothConcatenations_26 (by decide) ?_
    exact W.zret (pc := 27) (v := (nI (0))) (ty := .boolean) hx hb hr (by decide) (fun t ht _ => ⟨_, rfl, (by first | exact congrArg nI (pN_t ⟨by omega, by omega⟩).symm | exact congrArg nI (pN_f (fun h => by omega)).symm), ht⟩) (fun _ h => absurd h List.not_mem_nil) dX8_bothConcatenations_27
  · refine lv_aload_n (pc := 11) hx hb dX8_bothConcatenations_11 rfl (lv_at hl 0 rfl) ?_
    refine va_get (pc := 12) (D := D) (ci := 6) (v := .ref (am 1)) (C := RX8) (T := TX8) (N := 30) hx hb hts hinX8 hown hK hP 0 rfl rfl 1 (by decide) lk0 (fun _ h9 => h9) rfl dX8_bothConcatenations_12 ?_
    refine lv_iload_n (pc := 15) hx hb dX8_bothConcatenations_15 rfl (lv_at hl 2 rfl) ?_
    refine xa_iald (pc := 16) hx hb hK hP 1 0 rfl rfl (by omega) (by omega) dX8_bothConcatenations_16 ?_
    refine lv_bipush (pc := 17) (v := (nI (7))) hx hb dX8_bothConcatenations_17 (by decide) ?_
    refine xn_icmp_ne (pc := 19) (tgt := 26) hx hb (by omega) (by omega) dX8_bothConcatenations_19 (by decide) (fun c19 => ?_) (fun c19 => ?_)
    · refine lv_iconst (pc := 26) (v := (nI (0))) hx hb dX8_bothConcatenations_26 (by decide) ?_
      exact W.zret (pc := 27) (v := (nI (0))) (ty := .boolean) hx hb hr (by decide) (fun t ht _ => ⟨_, rfl, (by first | exact congrArg nI (pN_t ⟨by omega, by omega⟩).symm | exact congrArg nI (pN_f (fun h => by omega)).symm), ht⟩) (fun _ h => absurd h List.not_mem_nil) dX8_bothConcatenations_27
    · refine lv_iconst (pc := 22) (v := (nI (1))) hx hb dX8_bothConcatenations_22 (by decide) ?_
      refine lv_goto (pc := 23) (tgt := 27) hx hb dX8_bothConcatenations_23 (by decide) ?_
      exact W.zret (pc := 27) (v := (nI (1))) (ty := .boolean) hx hb hr (by decide) (fun t ht _ => ⟨_, rfl, (by first | exact congrArg nI (pN_t ⟨by omega, by omega⟩).symm | exact congrArg nI (pN_f (fun h => by omega)).symm), ht⟩) (fun _ h => absurd h List.not_mem_nil) dX8_bothConcatenations_27
set_option maxHeartbeats 4000000 in
set_option maxRecDepth 100000 in
theorem c_X8_isPlus (l : Launch) (D : va_G) (cI cL cZ : ClassId) (hm : Nat) (am : Nat → Nat) (n : Nat) (pos : Nat) (cmp : Nat) (que : Nat) (dsz : Nat) (mad : Nat) (cur : Nat) (stp : Nat) (met : Nat) (bst : Nat) (dgt : Nat → Nat) (E : Nat → Nat) (N : Nat) (a : Nat) (f : Bool) (tv : TV dgt E N) (ha : a < N) : Met l yX8_isPlus wsX8_isPlus { frames := 2, cells := 0, slots := 0, locals := 47 } (rP D (tyL cI cL cZ) [(hm, .inr (6, oM am n pos cmp que dsz mad cur stp met bst)), (am 1, .inl (cI, 18, .inl (nA dgt)))] [.ref hm, .int (nI a), .int (nI (pN (f = true)))]) (vp_Si (fun r => r = (nI (pN (isP dgt E a f = true))))) 0 0 (fun _ => False) := by
  refine Met.ofW (cc := cX8_isPlus) (maxL := 7) (ret := (some .boolean)) (by decide) rfl ?_
  intro pG eG s mG args below meth cG s₁ B hml hpre9
  obtain ⟨rfl, hP, hK⟩ := hpre9
  have hx := B.exec
  have hb := B.bytes
  have hr := B.returns
  have hts := atoms_spec (ws := wsX8_isPlus) B.pre
  have hown : s.vm.findClass RX8 = some mG.cls := findClass_of_methodNamed B.named
  have hlocks := B.notSynchronized
  have hS : va_S (fun _ => False) s.heap s.heap [] := va_S.rf
  have hinX8 : ∀ w ∈ wsX80, w ∈ wsX8_isPlus := fun w HH => (List.mem_cons_of_mem _ (List.mem_append_right _ HH))
  have lk0 : (Cond.fieldLink RX8 7 "RegexSimplifierModel" "digit" "[I").before _ s = true := hts _ (List.mem_cons_of_mem _ (List.mem_append_left _ (List.mem_of_getElem? (i := 0) rfl)))
  have hl := lv_entry ([.ref hm, .int (nI a), .int (nI (pN (f = true)))]) (n := 7) (Nat.le_of_ble_eq_true rfl)
  rw [lg_entry_eq]
  generalize (lg_sl ([.ref hm, .int (nI a), .int (nI (pN (f = true)))]) ++ List.replicate (7 - (lg_sl ([.ref hm, .int (nI a), .int (nI (pN (f = true)))])).length) Slot.unset).toArray = ls at hl ⊢
  have hl : lv_has ls 7 [(0, .ref hm), (1, .int (nI a)), (2, .int (nI (pN (f = true))))] := hl
  have hn18 := tv.n18
  have hqa := tv.q ha
  refine lv_aload_n (pc := 0) hx hb dX8_isPlus_0 rfl (lv_at hl 0 rfl) ?_
  refine va_get (pc := 1) (D := D) (ci := 6) (v := .ref (am 1)) (C := RX8) (T := TX8) (N := 30) hx hb hts hinX8 hown hK hP 0 rfl rfl 1 (by decide) lk0 (fun _ h9 => h9) rfl dX8_isPlus_1 ?_
  refine lv_iload_n (pc := 4) hx hb dX8_isPlus_4 rfl (lv_at hl 1 rfl) ?_
  refine xa_iald (pc := 5) hx hb hK hP 1 0 rfl rfl (by omega) (by omega) dX8_isPlus_5 ?_
  refine lv_bipush (pc := 6) (v := (nI (7))) hx hb dX8_isPlus_6 (by decide) ?_
  refine xn_icmp_eq (pc := 8) (tgt := 13) hx hb (by omega) (by omega) dX8_isPlus_8 (by decide) (fun c8 => ?_) (fun c8 => ?_)
  · have ht := tv.two ha (Or.inr c8)
    have hqb := tv.q ht.1
    have hqc := tv.q ht.2.1
    refine lv_iload_n (pc := 13) hx hb dX8_isPlus_13 rfl (lv_at hl 1 rfl) ?_
    refine lv_iconst (pc := 14) (v := (nI (1))) hx hb dX8_isPlus_14 (by decide) ?_
    refine xn_iadd (pc := 15) hx hb  dX8_isPlus_15 ?_
    refine lv_istore_n (pc := 16) (lv' := [(3, .int (nI (a + 1))), (0, .ref hm), (1, .int (nI a)), (2, .int (nI (pN (f = true))))]) hx hb dX8_isPlus_16 rfl hl (by decide) rfl (fun ls hl => ?_)
    refine lv_aload_n (pc := 17) hx hb dX8_isPlus_17 rfl (lv_at hl 1 rfl) ?_
    refine lv_iload_n (pc := 18) hx hb dX8_isPlus_18 rfl (lv_at hl 0 rfl) ?_
    refine vp_callSi (pc := 19) (W.runV (As := [.int (nI (a + 1))]) (rest := []) ⟨hx, hb, hml, hown, hts⟩ (c_X8_endOf l D cI cL cZ hm am n pos cmp que dsz mad cur stp met bst dgt E N (a + 1) tv (by omega)) (cwV 1 hts gX8_isPlus_X8_endOf rfl rfl rfl (by decide +kernel) ⟨Nat.le_of_ble_eq_true rfl, Nat.le_of_ble_eq_true rfl⟩) (rP_V (wc := [(hm, .inr (6, oM am n pos cmp que dsz mad cur stp met bst)), (am 1, .inl (cI, 18, .inl (nA dgt)))]) (ci := 6) (q0 := 0) hK hP [0, 1] rfl rfl rfl) rfl rfl hl.1 rfl (lv_room (Nat.le_of_ble_eq_true rfl)) dX8_isPlus_19 ⟨Nat.zero_le _, Nat.zero_le _⟩) (fun r hrr => ?_)
    rw [hrr]
    refine lv_istore (pc := 22) (lv' := [(4, .int (nI (E (a + 1)))), (3, .int (nI (a + 1))), (0, .ref hm), (1, .int (nI a)), (2, .int (nI (pN (f = true))))]) hx hb dX8_isPlus_22 hl (by decide) rfl (fun ls hl => ?_)
    refine lv_iload_n (pc := 24) hx hb dX8_isPlus_24 rfl (lv_at hl 4 rfl) ?_
    refine xp_if_eq (pc := 25) (tgt := 32) hx hb dX8_isPlus_25 (by decide) (fun c25 => ?_) (fun c25 => ?_)
    · refine lv_iload (pc := 32) hx hb dX8_isPlus_32 (lv_at hl 0 rfl) ?_
      refine lv_istore (pc := 34) (lv' := [(5, .int (nI (E (a + 1)))), (4, .int (nI (E (a + 1)))), (3, .int (nI (a + 1))), (0, .ref hm), (1, .int (nI a)), (2, .int (nI (pN (f = true))))]) hx hb dX8_isPlus_34 hl (by decide) rfl (fun ls hl => ?_)
      refine lv_iload_n (pc := 36) hx hb dX8_isPlus_36 rfl (lv_at hl 5 rfl) ?_
      refine xp_if_eq (pc := 37) (tgt := 45) hx hb dX8_isPlus_37 (by decide) (fun _ => ?_) (fun h => absurd h c25)
      refine lv_iload_n (pc := 45) hx hb dX8_isPlus_45 rfl (lv_at hl 2 rfl) ?_
      refine lv_istore (pc := 46) (lv' := [(6, .int (nI (a + 1))), (5, .int (nI (E (a + 1)))), (4, .int (nI (E (a + 1)))), (3, .int (nI (a + 1))), (0, .ref hm), (1, .int (nI a)), (2, .int (nI (pN (f = true))))]) hx hb dX8_isPlus_46 hl (by decide) rfl (fun ls hl => ?_)
      refine lv_aload_n (pc := 48) hx hb dX8_isPlus_48 rfl (lv_at hl 4 rfl) ?_
      refine va_get (pc := 49) (D := D) (ci := 6) (v := .ref (am 1)) (C := RX8) (T := TX8) (N := 30) hx hb hts hinX8 hown hK hP 0 rfl rfl 1 (by decide) lk0 (fun _ h9 => h9) rfl dX8_isPlus_49 ?_
      refine lv_iload (pc := 52) hx hb dX8_isPlus_52 (lv_at hl 1 rfl) ?_
      refine xa_iald (pc := 54) hx hb hK hP 1 0 rfl rfl (by omega) (by omega) dX8_isPlus_54 ?_
      refine lv_bipush (pc := 55) (v := (nI (8))) hx hb dX8_isPlus_55 (by decide) ?_
      refine xn_icmp_ne (pc := 57) (tgt := 77) hx hb (by omega) (by omega) dX8_isPlus_57 (by decide) (fun c57 => ?_) (fun c57 => ?_)
      · refine lv_iconst (pc := 77) (v := (nI (0))) hx hb dX8_isPlus_77 (by decide) ?_
        exact W.zret (pc := 78) (v := (nI (0))) (ty := .boolean) hx hb hr (by decide) (fun t ht _ => ⟨_, rfl, (by first | exact congrArg nI (pN_t (by simp [isP, c8, c25, c57])).symm | exact congrArg nI (pN_f (by simp [isP, c8, c25, c57])).symm), ht⟩) (fun _ h => absurd h List.not_mem_nil) dX8_isPlus_78
      · have ho := tv.one (by omega) c57
        refine lv_aload_n (pc := 60) hx hb dX8_isPlus_60 rfl (lv_at hl 4 rfl) ?_
        refine lv_iload (pc := 61) hx hb dX8_isPlus_61 (lv_at hl 1 rfl) ?_
        refine lv_iconst (pc := 63) (v := (nI (1))) hx hb dX8_isPlus_63 (by decide) ?_
        refine xn_iadd (pc := 64) hx hb  dX8_isPlus_64 ?_
        refine lv_iload (pc := 65) hx hb dX8_isPlus_65 (lv_at hl 0 rfl) ?_
        refine vp_callSi (pc := 67) (W.runV (As := [.int (nI ((E (a + 1)) + 1)), .int (nI (a + 1))]) (rest := []) ⟨hx, hb, hml, hown, hts⟩ (c_X8_areSame l D cI cL cZ hm am n pos cmp que dsz mad cur stp met bst dgt E N ((E (a + 1)) + 1) (a + 1) tv (by omega) (by omega)) (cwV 2 hts gX8_isPlus_X8_areSame rfl rfl rfl (by decide +kernel) ⟨Nat.le_of_ble_eq_true rfl, Nat.le_of_ble_eq_true rfl⟩) (rP_V (wc := [(hm, .inr (6, oM am n pos cmp que dsz mad cur stp met bst)), (am 1, .inl (cI, 18, .inl (nA dgt)))]) (ci := 6) (q0 := 0) hK hP [0, 1] rfl rfl rfl) rfl rfl hl.1 rfl (lv_room (Nat.le_of_ble_eq_true rfl)) dX8_isPlus_67 ⟨Nat.zero_le _, Nat.zero_le _⟩) (fun r hrr => ?_)
        rw [hrr]
        refine xp_if_eq (pc := 70) (tgt := 77) hx hb dX8_isPlus_70 (by decide) (fun c70 => ?_) (fun c70 => ?_)
        · refine lv_iconst (pc := 77) (v := (nI (0))) hx hb dX8_isPlus_77 (by decide) ?_
          exact W.zret (pc := 78) (v := (nI (0))) (ty := .boolean) hx hb hr (by decide) (fun t ht _ => ⟨_, rfl, (by first | exact congrArg nI (pN_t (by simp [isP, c8, c25, c57, c70])).symm | exact congrArg nI (pN_f (by simp [isP, c8, c25, c57, c70])).symm), ht⟩) (fun _ h => absurd h List.not_mem_nil) dX8_isPlus_78
        · refine lv_iconst (pc := 73) (v := (nI (1))) hx hb dX8_isPlus_73 (by decide) ?_
          refine lv_goto (pc := 74) (tgt := 78) hx hb dX8_isPlus_74 (by decide) ?_
          exact W.zret (pc := 78) (v := (nI (1))) (ty := .boolean) hx hb hr (by decide) (fun t ht _ => ⟨_, rfl, (by first | exact congrArg nI (pN_t (by simp [isP, c8, c25, c57, c70])).symm | exact congrArg nI (pN_f (by simp [isP, c8, c25, c57, c70])).symm), ht⟩) (fun _ h => absurd h List.not_mem_nil) dX8_isPlus_78
    · refine lv_iload_n (pc := 28) hx hb dX8_isPlus_28 rfl (lv_at hl 1 rfl) ?_
      refine lv_goto (pc := 29) (tgt := 34) hx hb dX8_isPlus_29 (by decide) ?_
      refine lv_istore (pc := 34) (lv' := [(5, .int (nI (a + 1))), (4, .int (nI (E (a + 1)))), (3, .int (nI (a + 1))), (0, .ref hm), (1, .int (nI a)), (2, .int (nI (pN (f = true))))]) hx hb dX8_isPlus_34 hl (by decide) rfl (fun ls hl => ?_)
      refine lv_iload_n (pc := 36) hx hb dX8_isPlus_36 rfl (lv_at hl 5 rfl) ?_
      refine xp_if_eq (pc := 37) (tgt := 45) hx hb dX8_isPlus_37 (by decide) (fun h => absurd c25 h) (fun _ => ?_)
      refine lv_iload (pc := 40) hx hb dX8_isPlus_40 (lv_at hl 1 rfl) ?_
      refine lv_goto (pc := 42) (tgt := 46) hx hb dX8_isPlus_42 (by decide) ?_
      refine lv_istore (pc := 46) (lv' := [(6, .int (nI (E (a + 1)))), (5, .int (nI (a + 1))), (4, .int (nI (E (a + 1)))), (3, .int (nI (a + 1))), (0, .ref hm), (1, .int (nI a)), (2, .int (nI (pN (f = true))))]) hx hb dX8_isPlus_46 hl (by decide) rfl (fun ls hl => ?_)
      refine lv_aload_n (pc := 48) hx hb dX8_isPlus_48 rfl (lv_at hl 4 rfl) ?_
      refine va_get (pc := 49) (D := D) (ci := 6) (v := .ref (am 1)) (C := RX8) (T := TX8) (N := 30) hx hb hts hinX8 hown hK hP 0 rfl rfl 1 (by decide) lk0 (fun _ h9 => h9) rfl dX8_isPlus_49 ?_
      refine lv_iload (pc := 52) hx hb dX8_isPlus_52 (lv_at hl 1 rfl) ?_
      refine xa_iald (pc := 54) hx hb hK hP 1 0 rfl rfl (by omega) (by omega) dX8_isPlus_54 ?_
      refine lv_bipush (pc := 55) (v := (nI (8))) hx hb dX8_isPlus_55 (by decide) ?_
      refine xn_icmp_ne (pc := 57) (tgt := 77) hx hb (by omega) (by omega) dX8_isPlus_57 (by decide) (fun c57 => ?_) (fun c57 => ?_)
      · refine lv_iconst (pc := 77) (v := (nI (0))) hx hb dX8_isPlus_77 (by decide) ?_
        exact W.zret (pc := 78) (v := (nI (0))) (ty := .boolean) hx hb hr (by decide) (fun t ht _ => ⟨_, rfl, (by first | exact congrArg nI (pN_t (by simp [isP, c8, c25, c57])).symm | exact congrArg nI (pN_f (by simp [isP, c8, c25, c57])).symm), ht⟩) (fun _ h => absurd h List.not_mem_nil) dX8_isPlus_78
      · have ho := tv.one (by omega) c57
        refine lv_aload_n (pc := 60) hx hb dX8_isPlus_60 rfl (lv_at hl 4 rfl) ?_
        refine lv_iload (pc := 61) hx hb dX8_isPlus_61 (lv_at hl 1 rfl) ?_
        refine lv_iconst (pc := 63) (v := (nI (1))) hx hb dX8_isPlus_63 (by decide) ?_
        refine xn_iadd (pc := 64) hx hb  dX8_isPlus_64 ?_
        refine lv_iload (pc := 65) hx hb dX8_isPlus_65 (lv_at hl 0 rfl) ?_
        refine vp_callSi (pc := 67) (W.runV (As := [.int (nI ((a + 1) + 1)), .int (nI (E (a + 1)))]) (rest := []) ⟨hx, hb, hml, hown, hts⟩ (c_X8_areSame l D cI cL cZ hm am n pos cmp que dsz mad cur stp met bst dgt E N ((a + 1) + 1) (E (a + 1)) tv (by omega) (by omega)) (cwV 2 hts gX8_isPlus_X8_areSame rfl rfl rfl (by decide +kernel) ⟨Nat.le_of_ble_eq_true rfl, Nat.le_of_ble_eq_true rfl⟩) (rP_V (wc := [(hm, .inr (6, oM am n pos cmp que dsz mad cur stp met bst)), (am 1, .inl (cI, 18, .inl (nA dgt)))]) (ci := 6) (q0 := 0) hK hP [0, 1] rfl rfl rfl) rfl rfl hl.1 rfl (lv_room (Nat.le_of_ble_eq_true rfl)) dX8_isPlus_67 ⟨Nat.zero_le _, Nat.zero_le _⟩) (fun r hrr => ?_)
        rw [hrr]
        refine xp_if_eq (pc := 70) (tgt := 77) hx hb dX8_isPlus_70 (by decide) (fun c70 => ?_) (fun c70 => ?_)
        · refine lv_iconst (pc := 77) (v := (nI (0))) hx hb dX8_isPlus_77 (by decide) ?_
          exact W.zret (pc := 78) (v := (nI (0))) (ty := .boolean) hx hb hr (by decide) (fun t ht _ => ⟨_, rfl, (by first | exact congrArg nI (pN_t (by simp [isP, c8, c25, c57, c70])).symm | exact congrArg nI (pN_f (by simp [isP, c8, c25, c57, c70])).symm), ht⟩) (fun _ h => absurd h List.not_mem_nil) dX8_isPlus_78
        · refine lv_iconst (pc := 73) (v := (nI (1))) hx hb dX8_isPlus_73 (by decide) ?_
          refine lv_goto (pc := 74) (tgt := 78) hx hb dX8_isPlus_74 (by decide) ?_
          exact W.zret (pc := 78) (v := (nI (1))) (ty := .boolean) hx hb hr (by decide) (fun t ht _ => ⟨_, rfl, (by first | exact congrArg nI (pN_t (by simp [isP, c8, c25, c57, c70])).symm | exact congrArg nI (pN_f (by simp [isP, c8, c25, c57, c70])).symm), ht⟩) (fun _ h => absurd h List.not_mem_nil) dX8_isPlus_78
  · refine lv_iconst (pc := 11) (v := (nI (0))) hx hb dX8_isPlus_11 (by decide) ?_
    exact W.zret (pc := 12) (v := (nI (0))) (ty := .boolean) hx hb hr (by decide) (fun t ht _ => ⟨_, rfl, (by first | exact congrArg nI (pN_t (by simp [isP, c8])).symm | exact congrArg nI (pN_f (by simp [isP, c8])).symm), ht⟩) (fun _ h => absurd h List.not_mem_nil) dX8_isPlus_12
set_option maxHeartbeats 4000000 in
set_option maxRecDepth 100000 in
theorem c_X8_plainOf (l : Launch) (D : va_G) (cI cL cZ : ClassId) (hm : Nat) (am : Nat → Nat) (n : Nat) (pos : Nat) (cmp : Nat) (que : Nat) (dsz : Nat) (mad : Nat) (cur : Nat) (stp : Nat) (met : Nat) (bst : Nat) (dgt : Nat → Nat) (E : Nat → Nat) (N : Nat) (a : Nat) (f : Bool) (tv : TV dgt E N) (ha : a < N) (h7 : dgt a = 7) : Met l yX8_plainOf wsX8_plainOf { frames := 1, cells := 0, slots := 0, locals := 23 } (rP D (tyL cI cL cZ) [(hm, .inr (6, oM am n pos cmp que dsz mad cur stp met bst)), (am 1, .inl (cI, 18, .inl (nA dgt)))] [.ref hm, .int (nI a), .int (nI (pN (f = true)))]) (vp_Si (fun r => r = (nI (plO E a f)))) 0 0 (fun _ => False) := by
  refine Met.ofW (cc := cX8_plainOf) (maxL := 3) (ret := (some .int)) (by decide) rfl ?_
  intro pG eG s mG args below meth cG s₁ B hml hpre9
  obtain ⟨rfl, hP, hK⟩ := hpre9
  have hx := B.exec
  have hb := B.bytes
  have hr := B.returns
  have hts := atoms_spec (ws := wsX8_plainOf) B.pre
  have hown : s.vm.findClass RX8 = some mG.cls := findClass_of_methodNamed B.named
  have hlocks := B.notSynchronized
  have hS : va_S (fun _ => False) s.heap s.heap [] := va_S.rf
  have hl := lv_entry ([.ref hm, .int (nI a), .int (nI (pN (f = true)))]) (n := 3) (Nat.le_of_ble_eq_true rfl)
  rw [lg_entry_eq]
  generalize (lg_sl ([.ref hm, .int (nI a), .int (nI (pN (f = true)))]) ++ List.replicate (3 - (lg_sl ([.ref hm, .int (nI a), .int (nI (pN (f = true)))])).length) Slot.unset).toArray = ls at hl ⊢
  have hl : lv_has ls 3 [(0, .ref hm), (1, .int (nI a)), (2, .int (nI (pN (f = true))))] := hl
  have hn18 := tv.n18
  have ht := tv.two ha (Or.inr h7)
  have hqb := tv.q ht.1
  refine lv_iload_n (pc := 0) hx hb dX8_plainOf_0 rfl (lv_at hl 2 rfl) ?_
  refine xp_if_eq (pc := 1) (tgt := 14) hx hb dX8_plainOf_1 (by decide) (fun c1 => ?_) (fun c1 => ?_)
  · refine lv_iload_n (pc := 14) hx hb dX8_plainOf_14 rfl (lv_at hl 1 rfl) ?_
    refine lv_iconst (pc := 15) (v := (nI (1))) hx hb dX8_plainOf_15 (by decide) ?_
    refine xn_iadd (pc := 16) hx hb  dX8_plainOf_16 ?_
    exact W.iret (pc := 17) (v := (nI (a + 1))) hx hb hr (fun t ht _ => ⟨_, rfl, (by unfold plO; simp [c1]), ht⟩) (fun _ h => absurd h List.not_mem_nil) dX8_plainOf_17
  · refine lv_aload_n (pc := 4) hx hb dX8_plainOf_4 rfl (lv_at hl 0 rfl) ?_
    refine lv_iload_n (pc := 5) hx hb dX8_plainOf_5 rfl (lv_at hl 1 rfl) ?_
    refine lv_iconst (pc := 6) (v := (nI (1))) hx hb dX8_plainOf_6 (by decide) ?_
    refine xn_iadd (pc := 7) hx hb  dX8_plainOf_7 ?_
    refine vp_callSi (pc := 8) (W.runV (As := [.int (nI (a + 1))]) (rest := []) ⟨hx, hb, hml, hown, hts⟩ (c_X8_endOf l D cI cL cZ hm am n pos cmp que dsz mad cur stp met bst dgt E N (a + 1) tv (by omega)) (cwV 1 hts gX8_plainOf_X8_endOf rfl rfl rfl (by decide +kernel) ⟨Nat.le_of_ble_eq_true rfl, Nat.le_of_ble_eq_true rfl⟩) (rP_V (wc := [(hm, .inr (6, oM am n pos cmp que dsz mad cur stp met bst)), (am 1, .inl (cI, 18, .inl (nA dgt)))]) (ci := 6) (q0 := 0) hK hP [0, 1] rfl rfl rfl) rfl rfl hl.1 rfl (lv_room (Nat.le_of_ble_eq_true rfl)) dX8_plainOf_8 ⟨Nat.zero_le _, Nat.zero_le _⟩) (fun r hrr => ?_)
    rw [hrr]
    refine lv_goto (pc := 11) (tgt := 17) hx hb dX8_plainOf_11 (by decide) ?_
    exact W.iret (pc := 17) (v := (nI (E (a + 1)))) hx hb hr (fun t ht _ => ⟨_, rfl, (by unfold plO; simp [c1]), ht⟩) (fun _ h => absurd h List.not_mem_nil) dX8_plainOf_17
set_option maxHeartbeats 4000000 in
set_option maxRecDepth 100000 in
theorem c_X8_factorsLeft (l : Launch) (D : va_G) (cI cL cZ : ClassId) (sz : Nat) (hm : Nat) (am : Nat → Nat) (n : Nat) (pos : Nat) (cmp : Nat) (que : Nat) (dsz : Nat) (mad : Nat) (cur : Nat) (stp : Nat) (met : Nat) (bst : Nat) (dgt : Nat → Nat) (E : Nat → Nat) (N : Nat) (rt : Nat → Nat) (L : List Nat) (a : Nat) (b : Nat) (tv : TV dgt E N) (ha : a < N) (hb2 : b < N) (h7a : dgt a = 7) (h7b : dgt b = 7) (hab : b = E a) (hcap : mad = 0) (hL : RT rt mad L) : Met l yX8_factorsLeft wsX8_factorsLeft { frames := 3, cells := 0, slots := 0, locals := 69 } (mP D (tyL cI cL cZ) [(hm, .inr (6, oM am n pos cmp que dsz mad cur stp met bst)), (am 1, .inl (cI, 18, .inl (nA dgt))), (am 20, .inl (cI, 36, .inl (nA rt)))] sz [.ref hm, .int (nI a), .int (nI b)]) (va_Qi (fun (r : Int32) (u : Nat × (Nat → Nat)) => r = (nI (1)) ∧ (RT u.2 u.1 (L ++ (7 :: (sb dgt E (a + 1) ++ (6 :: (sb dgt E (E (a + 1)) ++ sb dgt E (E (b + 1))))))))) (fun (u : Nat × (Nat → Nat)) (t : State) => mB D (tyL cI cL cZ) (va_A [(hm, .inr (6, oM am n pos cmp que dsz mad cur stp met bst)), (am 1, .inl (cI, 18, .inl (nA dgt))), (am 20, .inl (cI, 36, .inl (nA rt)))] sz) [(hm, .inr (6, oM am n pos cmp que dsz (u.1) cur stp met bst)), (am 1, .inl (cI, 18, .inl (nA dgt))), (am 20, .inl (cI, 36, .inl (nA (u.2))))] t) (va_A [(hm, .inr (6, oM am n pos cmp que dsz mad cur stp met bst)), (am 1, .inl (cI, 18, .inl (nA dgt))), (am 20, .inl (cI, 36, .inl (nA rt)))] sz)) 0 0 (va_A [(hm, .inr (6, oM am n pos cmp que dsz mad cur stp met bst)), (am 1, .inl (cI, 18, .inl (nA dgt))), (am 20, .inl (cI, 36, .inl (nA rt)))] sz) := by
  refine Met.ofW (cc := cX8_factorsLeft) (maxL := 3) (ret := (some .boolean)) (by decide) rfl ?_
  intro pG eG s mG args below meth cG s₁ B hml hpre9
  obtain ⟨rfl, hsz, hP, hK, hD0⟩ := hpre9
  have hx := B.exec
  have hb := B.bytes
  have hr := B.returns
  have hts := atoms_spec (ws := wsX8_factorsLeft) B.pre
  have hown : s.vm.findClass RX8 = some mG.cls := findClass_of_methodNamed B.named
  have hlocks := B.notSynchronized
  subst hsz
  have hD := hD0.self (sz := s.heap.size)
  have hA : ∀ q : Nat, s.heap.size ≤ q → va_A [(hm, .inr (6, oM am n pos cmp que dsz mad cur stp met bst)), (am 1, .inl (cI, 18, .inl (nA dgt))), (am 20, .inl (cI, 36, .inl (nA rt)))] s.heap.size q := fun q h => Or.inr h
  have hS : va_S (va_A [(hm, .inr (6, oM am n pos cmp que dsz mad cur stp met bst)), (am 1, .inl (cI, 18, .inl (nA dgt))), (am 20, .inl (cI, 36, .inl (nA rt)))] s.heap.size) s.heap s.heap [] := va_S.rf
  have hl := lv_entry ([.ref hm, .int (nI a), .int (nI b)]) (n := 3) (Nat.le_of_ble_eq_true rfl)
  rw [lg_entry_eq]
  generalize (lg_sl ([.ref hm, .int (nI a), .int (nI b)]) ++ List.replicate (3 - (lg_sl ([.ref hm, .int (nI a), .int (nI b)])).length) Slot.unset).toArray = ls at hl ⊢
  have hl : lv_has ls 3 [(0, .ref hm), (1, .int (nI a)), (2, .int (nI b))] := hl
  have hn18 := tv.n18
  have hmad := hL.1
  have hta := tv.two ha (Or.inr h7a)
  have htb := tv.two hb2 (Or.inr h7b)
  have hq1 := tv.q hta.1
  have hq2 := tv.q hta.2.1
  have hq3 := tv.q htb.1
  have hq4 := tv.q htb.2.1
  refine lv_aload_n (pc := 0) hx hb dX8_factorsLeft_0 rfl (lv_at hl 0 rfl) ?_
  refine lv_bipush (pc := 1) (v := (nI (7))) hx hb dX8_factorsLeft_1 (by decide) ?_
  refine xm_calli (pc := 3) (wc := [(hm, .inr (6, oM am n pos cmp que dsz mad cur stp met bst)), (am 20, .inl (cI, 36, .inl (nA rt)))]) (wr := [(am 1, .inl (cI, 18, .inl (nA dgt)))]) (va_runV (As := [.int (nI 7)]) (rest := []) ⟨hx, hb, hml, hown, hts⟩ (c_X8_emits l D cI cL cZ s.heap.size hm am n pos cmp que dsz mad cur stp met bst rt L 7 (by omega) hL) (cwV 1 hts gX8_factorsLeft_X8_emits rfl rfl rfl (by decide +kernel) ⟨Nat.le_of_ble_eq_true rfl, Nat.le_of_ble_eq_true rfl⟩) (mP_V (wc := [(hm, .inr (6, oM am n pos cmp que dsz mad cur stp met bst)), (am 20, .inl (cI, 36, .inl (nA rt)))]) (ci := 6) (q0 := 0) hK hP hD [0, 2] (by decide) rfl rfl rfl) rfl rfl hl.1 rfl (lv_room (Nat.le_of_ble_eq_true rfl)) dX8_factorsLeft_3 ⟨Nat.zero_le _, Nat.zero_le _⟩) hP hD hS hA [0, 2] [1] rfl rfl (by decide) (by decide) (fun r u H locs hw hP hD hS => ?_)
  obtain ⟨mad2_3, rt2_3⟩ := u
  have hP : va_P D vwCl [(am 1, .inl (cI, 18, .inl (nA dgt))), (hm, .inr (6, oM am n pos cmp que dsz mad2_3 cur stp met bst)), (am 20, .inl (cI, 36, .inl (nA rt2_3)))] H := hP
  have hD : va_D _ [(am 1, .inl (cI, 18, .inl (nA dgt))), (hm, .inr (6, oM am n pos cmp que dsz mad2_3 cur stp met bst)), (am 20, .inl (cI, 36, .inl (nA rt2_3)))] := hD
  try dsimp only at hw
  obtain ⟨hrr, hw3⟩ := hw
  rw [hrr]
  refine lv_pop (pc := 6) hx hb dX8_factorsLeft_6 rfl ?_
  refine lv_aload_n (pc := 7) hx hb dX8_factorsLeft_7 rfl (lv_at hl 0 rfl) ?_
  refine lv_iload_n (pc := 8) hx hb dX8_factorsLeft_8 rfl (lv_at hl 1 rfl) ?_
  refine lv_iconst (pc := 9) (v := (nI (1))) hx hb dX8_factorsLeft_9 (by decide) ?_
  refine xn_iadd (pc := 10) hx hb  dX8_factorsLeft_10 ?_
  refine xm_calli (pc := 11) (wc := [(hm, .inr (6, oM am n pos cmp que dsz mad2_3 cur stp met bst)), (am 1, .inl (cI, 18, .inl (nA dgt))), (am 20, .inl (cI, 36, .inl (nA rt2_3)))]) (wr := []) (va_runV (As := [.int (nI (a + 1))]) (rest := []) ⟨hx, hb, hml, hown, hts⟩ (c_X8_copies l D cI cL cZ H.size hm am n pos cmp que dsz mad2_3 cur stp met bst dgt E N rt2_3 (L ++ [7]) (a + 1) tv hta.1 (by have h1 := hw3.1; simp at h1; omega) hw3) (cwV 1 hts gX8_factorsLeft_X8_copies rfl rfl rfl (by decide +kernel) ⟨Nat.le_of_ble_eq_true rfl, Nat.le_of_ble_eq_true rfl⟩) (mP_V (wc := [(hm, .inr (6, oM am n pos cmp que dsz mad2_3 cur stp met bst)), (am 1, .inl (cI, 18, .inl (nA dgt))), (am 20, .inl (cI, 36, .inl (nA rt2_3)))]) (ci := 6) (q0 := 0) hK hP hD [1, 0, 2] (by decide) rfl rfl rfl) rfl rfl hl.1 rfl (lv_room (Nat.le_of_ble_eq_true rfl)) dX8_factorsLeft_11 ⟨Nat.zero_le _, Nat.zero_le _⟩) hP hD hS hA [1, 0, 2] [] rfl rfl (by decide) (by decide) (fun r u H locs hw hP hD hS => ?_)
  obtain ⟨mad2_11, rt2_11⟩ := u
  have hP : va_P D vwCl [(hm, .inr (6, oM am n pos cmp que dsz mad2_11 cur stp met bst)), (am 1, .inl (cI, 18, .inl (nA dgt))), (am 20, .inl (cI, 36, .inl (nA rt2_11)))] H := hP
  have hD : va_D _ [(hm, .inr (6, oM am n pos cmp que dsz mad2_11 cur stp met bst)), (am 1, .inl (cI, 18, .inl (nA dgt))), (am 20, .inl (cI, 36, .inl (nA rt2_11)))] := hD
  try dsimp only at hw
  obtain ⟨hrr, hw11⟩ := hw
  rw [hrr]
  refine lv_pop (pc := 14) hx hb dX8_factorsLeft_14 rfl ?_
  refine lv_aload_n (pc := 15) hx hb dX8_factorsLeft_15 rfl (lv_at hl 0 rfl) ?_
  refine lv_bipush (pc := 16) (v := (nI (6))) hx hb dX8_factorsLeft_16 (by decide) ?_
  refine lv_aload_n (pc := 18) hx hb dX8_factorsLeft_18 rfl (lv_at hl 0 rfl) ?_
  refine lv_iload_n (pc := 19) hx hb dX8_factorsLeft_19 rfl (lv_at hl 1 rfl) ?_
  refine lv_iconst (pc := 20) (v := (nI (1))) hx hb dX8_factorsLeft_20 (by decide) ?_
  refine xn_iadd (pc := 21) hx hb  dX8_factorsLeft_21 ?_
  refine vp_callSi (pc := 22) (W.runV (As := [.int (nI (a + 1))]) (rest := [.int (nI 6), .ref hm]) ⟨hx, hb, hml, hown, hts⟩ (c_X8_endOf l D cI cL cZ hm am n pos cmp que dsz mad2_11 cur stp met bst dgt E N (a + 1) tv hta.1) (cwV 1 hts gX8_factorsLeft_X8_endOf rfl rfl rfl (by decide +kernel) ⟨Nat.le_of_ble_eq_true rfl, Nat.le_of_ble_eq_true rfl⟩) (rP_V (wc := [(hm, .inr (6, oM am n pos cmp que dsz mad2_11 cur stp met bst)), (am 1, .inl (cI, 18, .inl (nA dgt)))]) (ci := 6) (q0 := 0) hK hP [0, 1] rfl rfl rfl) rfl rfl hl.1 rfl (lv_room (Nat.le_of_ble_eq_true rfl)) dX8_factorsLeft_22 ⟨Nat.zero_le _, Nat.zero_le _⟩) (fun r hrr => ?_)
  rw [hrr]
  refine lv_aload_n (pc := 25) hx hb dX8_factorsLeft_25 rfl (lv_at hl 0 rfl) ?_
  refine lv_iload_n (pc := 26) hx hb dX8_factorsLeft_26 rfl (lv_at hl 2 rfl) ?_
  refine lv_iconst (pc := 27) (v := (nI (1))) hx hb dX8_factorsLeft_27 (by decide) ?_
  refine xn_iadd (pc := 28) hx hb  dX8_factorsLeft_28 ?_
  refine vp_callSi (pc := 29) (W.runV (As := [.int (nI (b + 1))]) (rest := [.int (nI (E (a + 1))), .int (nI 6), .ref hm]) ⟨hx, hb, hml, hown, hts⟩ (c_X8_endOf l D cI cL cZ hm am n pos cmp que dsz mad2_11 cur stp met bst dgt E N (b + 1) tv htb.1) (cwV 1 hts gX8_factorsLeft_X8_endOf rfl rfl rfl (by decide +kernel) ⟨Nat.le_of_ble_eq_true rfl, Nat.le_of_ble_eq_true rfl⟩) (rP_V (wc := [(hm, .inr (6, oM am n pos cmp que dsz mad2_11 cur stp met bst)), (am 1, .inl (cI, 18, .inl (nA dgt)))]) (ci := 6) (q0 := 0) hK hP [0, 1] rfl rfl rfl) rfl rfl hl.1 rfl (lv_room (Nat.le_of_ble_eq_true rfl)) dX8_factorsLeft_29 ⟨Nat.zero_le _, Nat.zero_le _⟩) (fun r hrr => ?_)
  rw [hrr]
  refine xm_calli (pc := 32) (wc := [(hm, .inr (6, oM am n pos cmp que dsz mad2_11 cur stp met bst)), (am 1, .inl (cI, 18, .inl (nA dgt))), (am 20, .inl (cI, 36, .inl (nA rt2_11)))]) (wr := []) (va_runV (As := [.int (nI 6), .int (nI (E (a + 1))), .int (nI (E (b + 1)))]) (rest := []) ⟨hx, hb, hml, hown, hts⟩ (c_X8_writes l D cI cL cZ H.size hm am n pos cmp que dsz mad2_11 cur stp met bst dgt E N rt2_11 ((L ++ [7]) ++ sb dgt E (a + 1)) 6 (E (a + 1)) (E (b + 1)) tv hta.2.1 htb.2.1 (by have h1 := hw11.1; simp [sb, sub_len] at h1; omega) hw11) (cwV 3 hts gX8_factorsLeft_X8_writes rfl rfl rfl (by decide +kernel) ⟨Nat.le_of_ble_eq_true rfl, Nat.le_of_ble_eq_true rfl⟩) (mP_V (wc := [(hm, .inr (6, oM am n pos cmp que dsz mad2_11 cur stp met bst)), (am 1, .inl (cI, 18, .inl (nA dgt))), (am 20, .inl (cI, 36, .inl (nA rt2_11)))]) (ci := 6) (q0 := 0) hK hP hD [0, 1, 2] (by decide) rfl rfl rfl) rfl rfl hl.1 rfl (lv_room (Nat.le_of_ble_eq_true rfl)) dX8_factorsLeft_32 ⟨Nat.zero_le _, Nat.zero_le _⟩) hP hD hS hA [0, 1, 2] [] rfl rfl (by decide) (by decide) (fun r u H locs hw hP hD hS => ?_)
  obtain ⟨mad2_32, rt2_32⟩ := u
  have hP : va_P D vwCl [(hm, .inr (6, oM am n pos cmp que dsz mad2_32 cur stp met bst)), (am 1, .inl (cI, 18, .inl (nA dgt))), (am 20, .inl (cI, 36, .inl (nA rt2_32)))] H := hP
  have hD : va_D _ [(hm, .inr (6, oM am n pos cmp que dsz mad2_32 cur stp met bst)), (am 1, .inl (cI, 18, .inl (nA dgt))), (am 20, .inl (cI, 36, .inl (nA rt2_32)))] := hD
  try dsimp only at hw
  obtain ⟨hrr, hw32⟩ := hw
  rw [hrr]
  have hP9 : va_P D vwCl [(hm, .inr (6, oM am n pos cmp que dsz mad2_32 cur stp met bst)), (am 1, .inl (cI, 18, .inl (nA dgt))), (am 20, .inl (cI, 36, .inl (nA rt2_32)))] H := hP.sub [0, 1, 2] rfl
  have hD9 : va_D _ [(hm, .inr (6, oM am n pos cmp que dsz mad2_32 cur stp met bst)), (am 1, .inl (cI, 18, .inl (nA dgt))), (am 20, .inl (cI, 36, .inl (nA rt2_32)))] := hD.sub [0, 1, 2] (by decide) rfl
  exact W.zret (pc := 35) (v := (nI (1))) (ty := .boolean) hx hb hr (by decide) (fun t ht hW => ⟨⟨_, (mad2_32, rt2_32), rfl, ⟨rfl, (by have h9 := hw32; simpa using h9)⟩, by rw [ht]; exact hP9, va_K.moved hW.alike hK, hD9⟩, hS.F ht⟩) hS.2.2 dX8_factorsLeft_35
set_option maxHeartbeats 4000000 in
set_option maxRecDepth 100000 in
theorem c_X8_factorsRight (l : Launch) (D : va_G) (cI cL cZ : ClassId) (sz : Nat) (hm : Nat) (am : Nat → Nat) (n : Nat) (pos : Nat) (cmp : Nat) (que : Nat) (dsz : Nat) (mad : Nat) (cur : Nat) (stp : Nat) (met : Nat) (bst : Nat) (dgt : Nat → Nat) (E : Nat → Nat) (N : Nat) (rt : Nat → Nat) (L : List Nat) (a : Nat) (b : Nat) (tv : TV dgt E N) (ha : a < N) (hb2 : b < N) (h7a : dgt a = 7) (h7b : dgt b = 7) (hab : b = E a) (hcap : mad = 0) (hL : RT rt mad L) : Met l yX8_factorsRight wsX8_factorsRight { frames := 3, cells := 0, slots := 0, locals := 69 } (mP D (tyL cI cL cZ) [(hm, .inr (6, oM am n pos cmp que dsz mad cur stp met bst)), (am 1, .inl (cI, 18, .inl (nA dgt))), (am 20, .inl (cI, 36, .inl (nA rt)))] sz [.ref hm, .int (nI a), .int (nI b)]) (va_Qi (fun (r : Int32) (u : Nat × (Nat → Nat)) => r = (nI (1)) ∧ (RT u.2 u.1 (L ++ (7 :: ((6 :: (sb dgt E (a + 1) ++ sb dgt E (b + 1))) ++ sb dgt E (E (a + 1))))))) (fun (u : Nat × (Nat → Nat)) (t : State) => mB D (tyL cI cL cZ) (va_A [(hm, .inr (6, oM am n pos cmp que dsz mad cur stp met bst)), (am 1, .inl (cI, 18, .inl (nA dgt))), (am 20, .inl (cI, 36, .inl (nA rt)))] sz) [(hm, .inr (6, oM am n pos cmp que dsz (u.1) cur stp met bst)), (am 1, .inl (cI, 18, .inl (nA dgt))), (am 20, .inl (cI, 36, .inl (nA (u.2))))] t) (va_A [(hm, .inr (6, oM am n pos cmp que dsz mad cur stp met bst)), (am 1, .inl (cI, 18, .inl (nA dgt))), (am 20, .inl (cI, 36, .inl (nA rt)))] sz)) 0 0 (va_A [(hm, .inr (6, oM am n pos cmp que dsz mad cur stp met bst)), (am 1, .inl (cI, 18, .inl (nA dgt))), (am 20, .inl (cI, 36, .inl (nA rt)))] sz) := by
  refine Met.ofW (cc := cX8_factorsRight) (maxL := 3) (ret := (some .boolean)) (by decide) rfl ?_
  intro pG eG s mG args below meth cG s₁ B hml hpre9
  obtain ⟨rfl, hsz, hP, hK, hD0⟩ := hpre9
  have hx := B.exec
  have hb := B.bytes
  have hr := B.returns
  have hts := atoms_spec (ws := wsX8_factorsRight) B.pre
  have hown : s.vm.findClass RX8 = some mG.cls := findClass_of_methodNamed B.named
  have hlocks := B.notSynchronized
  subst hsz
  have hD := hD0.self (sz := s.heap.size)
  have hA : ∀ q : Nat, s.heap.size ≤ q → va_A [(hm, .inr (6, oM am n pos cmp que dsz mad cur stp met bst)), (am 1, .inl (cI, 18, .inl (nA dgt))), (am 20, .inl (cI, 36, .inl (nA rt)))] s.heap.size q := fun q h => Or.inr h
  have hS : va_S (va_A [(hm, .inr (6, oM am n pos cmp que dsz mad cur stp met bst)), (am 1, .inl (cI, 18, .inl (nA dgt))), (am 20, .inl (cI, 36, .inl (nA rt)))] s.heap.size) s.heap s.heap [] := va_S.rf
  have hl := lv_entry ([.ref hm, .int (nI a), .int (nI b)]) (n := 3) (Nat.le_of_ble_eq_true rfl)
  rw [lg_entry_eq]
  generalize (lg_sl ([.ref hm, .int (nI a), .int (nI b)]) ++ List.replicate (3 - (lg_sl ([.ref hm, .int (nI a), .int (nI b)])).length) Slot.unset).toArray = ls at hl ⊢
  have hl : lv_has ls 3 [(0, .ref hm), (1, .int (nI a)), (2, .int (nI b))] := hl
  have hn18 := tv.n18
  have hmad := hL.1
  have hta := tv.two ha (Or.inr h7a)
  have htb := tv.two hb2 (Or.inr h7b)
  have hq1 := tv.q hta.1
  have hq2 := tv.q hta.2.1
  have hq3 := tv.q htb.1
  have hq4 := tv.q htb.2.1
  refine lv_aload_n (pc := 0) hx hb dX8_factorsRight_0 rfl (lv_at hl 0 rfl) ?_
  refine lv_bipush (pc := 1) (v := (nI (7))) hx hb dX8_factorsRight_1 (by decide) ?_
  refine xm_calli (pc := 3) (wc := [(hm, .inr (6, oM am n pos cmp que dsz mad cur stp met bst)), (am 20, .inl (cI, 36, .inl (nA rt)))]) (wr := [(am 1, .inl (cI, 18, .inl (nA dgt)))]) (va_runV (As := [.int (nI 7)]) (rest := []) ⟨hx, hb, hml, hown, hts⟩ (c_X8_emits l D cI cL cZ s.heap.size hm am n pos cmp que dsz mad cur stp met bst rt L 7 (by omega) hL) (cwV 1 hts gX8_factorsRight_X8_emits rfl rfl rfl (by decide +kernel) ⟨Nat.le_of_ble_eq_true rfl, Nat.le_of_ble_eq_true rfl⟩) (mP_V (wc := [(hm, .inr (6, oM am n pos cmp que dsz mad cur stp met bst)), (am 20, .inl (cI, 36, .inl (nA rt)))]) (ci := 6) (q0 := 0) hK hP hD [0, 2] (by decide) rfl rfl rfl) rfl rfl hl.1 rfl (lv_room (Nat.le_of_ble_eq_true rfl)) dX8_factorsRight_3 ⟨Nat.zero_le _, Nat.zero_le _⟩) hP hD hS hA [0, 2] [1] rfl rfl (by decide) (by decide) (fun r u H locs hw hP hD hS => ?_)
  obtain ⟨mad2_3, rt2_3⟩ := u
  have hP : va_P D vwCl [(am 1, .inl (cI, 18, .inl (nA dgt))), (hm, .inr (6, oM am n pos cmp que dsz mad2_3 cur stp met bst)), (am 20, .inl (cI, 36, .inl (nA rt2_3)))] H := hP
  have hD : va_D _ [(am 1, .inl (cI, 18, .inl (nA dgt))), (hm, .inr (6, oM am n pos cmp que dsz mad2_3 cur stp met bst)), (am 20, .inl (cI, 36, .inl (nA rt2_3)))] := hD
  try dsimp only at hw
  obtain ⟨hrr, hw3⟩ := hw
  rw [hrr]
  refine lv_pop (pc := 6) hx hb dX8_factorsRight_6 rfl ?_
  refine lv_aload_n (pc := 7) hx hb dX8_factorsRight_7 rfl (lv_at hl 0 rfl) ?_
  refine lv_bipush (pc := 8) (v := (nI (6))) hx hb dX8_factorsRight_8 (by decide) ?_
  refine lv_iload_n (pc := 10) hx hb dX8_factorsRight_10 rfl (lv_at hl 1 rfl) ?_
  refine lv_iconst (pc := 11) (v := (nI (1))) hx hb dX8_factorsRight_11 (by decide) ?_
  refine xn_iadd (pc := 12) hx hb  dX8_factorsRight_12 ?_
  refine lv_iload_n (pc := 13) hx hb dX8_factorsRight_13 rfl (lv_at hl 2 rfl) ?_
  refine lv_iconst (pc := 14) (v := (nI (1))) hx hb dX8_factorsRight_14 (by decide) ?_
  refine xn_iadd (pc := 15) hx hb  dX8_factorsRight_15 ?_
  refine xm_calli (pc := 16) (wc := [(hm, .inr (6, oM am n pos cmp que dsz mad2_3 cur stp met bst)), (am 1, .inl (cI, 18, .inl (nA dgt))), (am 20, .inl (cI, 36, .inl (nA rt2_3)))]) (wr := []) (va_runV (As := [.int (nI 6), .int (nI (a + 1)), .int (nI (b + 1))]) (rest := []) ⟨hx, hb, hml, hown, hts⟩ (c_X8_writes l D cI cL cZ H.size hm am n pos cmp que dsz mad2_3 cur stp met bst dgt E N rt2_3 (L ++ [7]) 6 (a + 1) (b + 1) tv hta.1 htb.1 (by have h1 := hw3.1; simp at h1; omega) hw3) (cwV 3 hts gX8_factorsRight_X8_writes rfl rfl rfl (by decide +kernel) ⟨Nat.le_of_ble_eq_true rfl, Nat.le_of_ble_eq_true rfl⟩) (mP_V (wc := [(hm, .inr (6, oM am n pos cmp que dsz mad2_3 cur stp met bst)), (am 1, .inl (cI, 18, .inl (nA dgt))), (am 20, .inl (cI, 36, .inl (nA rt2_3)))]) (ci := 6) (q0 := 0) hK hP hD [1, 0, 2] (by decide) rfl rfl rfl) rfl rfl hl.1 rfl (lv_room (Nat.le_of_ble_eq_true rfl)) dX8_factorsRight_16 ⟨Nat.zero_le _, Nat.zero_le _⟩) hP hD hS hA [1, 0, 2] [] rfl rfl (by decide) (by decide) (fun r u H locs hw hP hD hS => ?_)
  obtain ⟨mad2_16, rt2_16⟩ := u
  have hP : va_P D vwCl [(hm, .inr (6, oM am n pos cmp que dsz mad2_16 cur stp met bst)), (am 1, .inl (cI, 18, .inl (nA dgt))), (am 20, .inl (cI, 36, .inl (nA rt2_16)))] H := hP
  have hD : va_D _ [(hm, .inr (6, oM am n pos cmp que dsz mad2_16 cur stp met bst)), (am 1, .inl (cI, 18, .inl (nA dgt))), (am 20, .inl (cI, 36, .inl (nA rt2_16)))] := hD
  try dsimp only at hw
  obtain ⟨hrr, hw16⟩ := hw
  rw [hrr]
  refine lv_pop (pc := 19) hx hb dX8_factorsRight_19 rfl ?_
  refine lv_aload_n (pc := 20) hx hb dX8_factorsRight_20 rfl (lv_at hl 0 rfl) ?_
  refine lv_aload_n (pc := 21) hx hb dX8_factorsRight_21 rfl (lv_at hl 0 rfl) ?_
  refine lv_iload_n (pc := 22) hx hb dX8_factorsRight_22 rfl (lv_at hl 1 rfl) ?_
  refine lv_iconst (pc := 23) (v := (nI (1))) hx hb dX8_factorsRight_23 (by decide) ?_
  refine xn_iadd (pc := 24) hx hb  dX8_factorsRight_24 ?_
  refine vp_callSi (pc := 25) (W.runV (As := [.int (nI (a + 1))]) (rest := [.ref hm]) ⟨hx, hb, hml, hown, hts⟩ (c_X8_endOf l D cI cL cZ hm am n pos cmp que dsz mad2_16 cur stp met bst dgt E N (a + 1) tv hta.1) (cwV 1 hts gX8_factorsRight_X8_endOf rfl rfl rfl (by decide +kernel) ⟨Nat.le_of_ble_eq_true rfl, Nat.le_of_ble_eq_true rfl⟩) (rP_V (wc := [(hm, .inr (6, oM am n pos cmp que dsz mad2_16 cur stp met bst)), (am 1, .inl (cI, 18, .inl (nA dgt)))]) (ci := 6) (q0 := 0) hK hP [0, 1] rfl rfl rfl) rfl rfl hl.1 rfl (lv_room (Nat.le_of_ble_eq_true rfl)) dX8_factorsRight_25 ⟨Nat.zero_le _, Nat.zero_le _⟩) (fun r hrr => ?_)
  rw [hrr]
  refine xm_calli (pc := 28) (wc := [(hm, .inr (6, oM am n pos cmp que dsz mad2_16 cur stp met bst)), (am 1, .inl (cI, 18, .inl (nA dgt))), (am 20, .inl (cI, 36, .inl (nA rt2_16)))]) (wr := []) (va_runV (As := [.int (nI (E (a + 1)))]) (rest := []) ⟨hx, hb, hml, hown, hts⟩ (c_X8_copies l D cI cL cZ H.size hm am n pos cmp que dsz mad2_16 cur stp met bst dgt E N rt2_16 ((L ++ [7]) ++ (6 :: (sb dgt E (a + 1) ++ sb dgt E (b + 1)))) (E (a + 1)) tv hta.2.1 (by have h1 := hw16.1; simp [sb, sub_len] at h1; omega) hw16) (cwV 1 hts gX8_factorsRight_X8_copies rfl rfl rfl (by decide +kernel) ⟨Nat.le_of_ble_eq_true rfl, Nat.le_of_ble_eq_true rfl⟩) (mP_V (wc := [(hm, .inr (6, oM am n pos cmp que dsz mad2_16 cur stp met bst)), (am 1, .inl (cI, 18, .inl (nA dgt))), (am 20, .inl (cI, 36, .inl (nA rt2_16)))]) (ci := 6) (q0 := 0) hK hP hD [0, 1, 2] (by decide) rfl rfl rfl) rfl rfl hl.1 rfl (lv_room (Nat.le_of_ble_eq_true rfl)) dX8_factorsRight_28 ⟨Nat.zero_le _, Nat.zero_le _⟩) hP hD hS hA [0, 1, 2] [] rfl rfl (by decide) (by decide) (fun r u H locs hw hP hD hS => ?_)
  obtain ⟨mad2_28, rt2_28⟩ := u
  have hP : va_P D vwCl [(hm, .inr (6, oM am n pos cmp que dsz mad2_28 cur stp met bst)), (am 1, .inl (cI, 18, .inl (nA dgt))), (am 20, .inl (cI, 36, .inl (nA rt2_28)))] H := hP
  have hD : va_D _ [(hm, .inr (6, oM am n pos cmp que dsz mad2_28 cur stp met bst)), (am 1, .inl (cI, 18, .inl (nA dgt))), (am 20, .inl (cI, 36, .inl (nA rt2_28)))] := hD
  try dsimp only at hw
  obtain ⟨hrr, hw28⟩ := hw
  rw [hrr]
  have hP9 : va_P D vwCl [(hm, .inr (6, oM am n pos cmp que dsz mad2_28 cur stp met bst)), (am 1, .inl (cI, 18, .inl (nA dgt))), (am 20, .inl (cI, 36, .inl (nA rt2_28)))] H := hP.sub [0, 1, 2] rfl
  have hD9 : va_D _ [(hm, .inr (6, oM am n pos cmp que dsz mad2_28 cur stp met bst)), (am 1, .inl (cI, 18, .inl (nA dgt))), (am 20, .inl (cI, 36, .inl (nA rt2_28)))] := hD.sub [0, 1, 2] (by decide) rfl
  exact W.zret (pc := 31) (v := (nI (1))) (ty := .boolean) hx hb hr (by decide) (fun t ht hW => ⟨⟨_, (mad2_28, rt2_28), rfl, ⟨rfl, (by have h9 := hw28; simpa using h9)⟩, by rw [ht]; exact hP9, va_K.moved hW.alike hK, hD9⟩, hS.F ht⟩) hS.2.2 dX8_factorsRight_31
set_option maxHeartbeats 4000000 in
set_option maxRecDepth 100000 in
theorem c_X8_emptyOrPlus (l : Launch) (D : va_G) (cI cL cZ : ClassId) (sz : Nat) (hm : Nat) (am : Nat → Nat) (n : Nat) (pos : Nat) (cmp : Nat) (que : Nat) (dsz : Nat) (mad : Nat) (cur : Nat) (stp : Nat) (met : Nat) (bst : Nat) (dgt : Nat → Nat) (E : Nat → Nat) (N : Nat) (rt : Nat → Nat) (l1 : Nat) (r1 : Nat) (tv : TV dgt E N) (hl1 : l1 < N) (hr1 : r1 < N) (hab : r1 = E l1) (hL : RT rt mad []) : Met l yX8_emptyOrPlus wsX8_emptyOrPlus { frames := 3, cells := 0, slots := 0, locals := 73 } (mP D (tyL cI cL cZ) [(hm, .inr (6, oM am n pos cmp que dsz mad cur stp met bst)), (am 1, .inl (cI, 18, .inl (nA dgt))), (am 20, .inl (cI, 36, .inl (nA rt)))] sz [.ref hm, .int (nI l1), .int (nI r1)]) (va_Qi (fun (r : Int32) (u : Nat × (Nat → Nat)) => r = (nI (pN ((rEP dgt E l1 r1).isSome = true))) ∧ (RT u.2 u.1 ((rEP dgt E l1 r1).getD []))) (fun (u : Nat × (Nat → Nat)) (t : State) => mB D (tyL cI cL cZ) (va_A [(hm, .inr (6, oM am n pos cmp que dsz mad cur stp met bst)), (am 1, .inl (cI, 18, .inl (nA dgt))), (am 20, .inl (cI, 36, .inl (nA rt)))] sz) [(hm, .inr (6, oM am n pos cmp que dsz (u.1) cur stp met bst)), (am 1, .inl (cI, 18, .inl (nA dgt))), (am 20, .inl (cI, 36, .inl (nA (u.2))))] t) (va_A [(hm, .inr (6, oM am n pos cmp que dsz mad cur stp met bst)), (am 1, .inl (cI, 18, .inl (nA dgt))), (am 20, .inl (cI, 36, .inl (nA rt)))] sz)) 0 0 (va_A [(hm, .inr (6, oM am n pos cmp que dsz mad cur stp met bst)), (am 1, .inl (cI, 18, .inl (nA dgt))), (am 20, .inl (cI, 36, .inl (nA rt)))] sz) := by
  refine Met.ofW (cc := cX8_emptyOrPlus) (maxL := 7) (ret := (some .boolean)) (by decide) rfl ?_
  intro pG eG s mG args below meth cG s₁ B hml hpre9
  obtain ⟨rfl, hsz, hP, hK, hD0⟩ := hpre9
  have hx := B.exec
  have hb := B.bytes
  have hr := B.returns
  have hts := atoms_spec (ws := wsX8_emptyOrPlus) B.pre
  have hown : s.vm.findClass RX8 = some mG.cls := findClass_of_methodNamed B.named
  have hlocks := B.notSynchronized
  subst hsz
  have hD := hD0.self (sz := s.heap.size)
  have hA : ∀ q : Nat, s.heap.size ≤ q → va_A [(hm, .inr (6, oM am n pos cmp que dsz mad cur stp met bst)), (am 1, .inl (cI, 18, .inl (nA dgt))), (am 20, .inl (cI, 36, .inl (nA rt)))] s.heap.size q := fun q h => Or.inr h
  have hS : va_S (va_A [(hm, .inr (6, oM am n pos cmp que dsz mad cur stp met bst)), (am 1, .inl (cI, 18, .inl (nA dgt))), (am 20, .inl (cI, 36, .inl (nA rt)))] s.heap.size) s.heap s.heap [] := va_S.rf
  have hinX8 : ∀ w ∈ wsX80, w ∈ wsX8_emptyOrPlus := fun w HH => (List.mem_cons_of_mem _ (List.mem_append_right _ HH))
  have lk0 : (Cond.fieldLink RX8 7 "RegexSimplifierModel" "digit" "[I").before _ s = true := hts _ (List.mem_cons_of_mem _ (List.mem_append_left _ (List.mem_append_left _ (List.mem_of_getElem? (i := 0) rfl))))
  have hl := lv_entry ([.ref hm, .int (nI l1), .int (nI r1)]) (n := 7) (Nat.le_of_ble_eq_true rfl)
  rw [lg_entry_eq]
  generalize (lg_sl ([.ref hm, .int (nI l1), .int (nI r1)]) ++ List.replicate (7 - (lg_sl ([.ref hm, .int (nI l1), .int (nI r1)])).length) Slot.unset).toArray = ls at hl ⊢
  have hl : lv_has ls 7 [(0, .ref hm), (1, .int (nI l1)), (2, .int (nI r1))] := hl
  have hn18 := tv.n18
  have hmad : mad = 0 := hL.1
  have hql := tv.q hl1
  have hqr := tv.q hr1
  refine lv_iconst (pc := 0) (v := (nI (0))) hx hb dX8_emptyOrPlus_0 (by decide) ?_
  refine lv_istore_n (pc := 1) (lv' := [(3, .int (nI 0)), (0, .ref hm), (1, .int (nI l1)), (2, .int (nI r1))]) hx hb dX8_emptyOrPlus_1 rfl hl (by decide) rfl (fun ls hl => ?_)
  refine lv_iload_n (pc := 2) hx hb dX8_emptyOrPlus_2 rfl (lv_at hl 0 rfl) ?_
  refine lv_iconst (pc := 3) (v := (nI (4))) hx hb dX8_emptyOrPlus_3 (by decide) ?_
  refine lv_icmp_ge (pc := 4) (tgt := 86) hx hb dX8_emptyOrPlus_4 (by decide) (fun h => absurd h (by decide)) (fun _ => ?_)
  refine lv_iload_n (pc := 7) hx hb dX8_emptyOrPlus_7 rfl (lv_at hl 0 rfl) ?_
  refine lv_iconst (pc := 8) (v := (nI (2))) hx hb dX8_emptyOrPlus_8 (by decide) ?_
  refine lv_icmp_ge (pc := 9) (tgt := 16) hx hb dX8_emptyOrPlus_9 (by decide) (fun h => absurd h (by decide)) (fun _ => ?_)
  refine lv_iload_n (pc := 12) hx hb dX8_emptyOrPlus_12 rfl (lv_at hl 2 rfl) ?_
  refine lv_goto (pc := 13) (tgt := 17) hx hb dX8_emptyOrPlus_13 (by decide) ?_
  refine lv_istore (pc := 17) (lv' := [(4, .int (nI l1)), (3, .int (nI 0)), (0, .ref hm), (1, .int (nI l1)), (2, .int (nI r1))]) hx hb dX8_emptyOrPlus_17 hl (by decide) rfl (fun ls hl => ?_)
  refine lv_iload_n (pc := 19) hx hb dX8_emptyOrPlus_19 rfl (lv_at hl 1 rfl) ?_
  refine lv_iconst (pc := 20) (v := (nI (2))) hx hb dX8_emptyOrPlus_20 (by decide) ?_
  refine lv_icmp_ge (pc := 21) (tgt := 28) hx hb dX8_emptyOrPlus_21 (by decide) (fun h => absurd h (by decide)) (fun _ => ?_)
  refine lv_iload_n (pc := 24) hx hb dX8_emptyOrPlus_24 rfl (lv_at hl 4 rfl) ?_
  refine lv_goto (pc := 25) (tgt := 29) hx hb dX8_emptyOrPlus_25 (by decide) ?_
  refine lv_istore (pc := 29) (lv' := [(5, .int (nI r1)), (4, .int (nI l1)), (3, .int (nI 0)), (0, .ref hm), (1, .int (nI l1)), (2, .int (nI r1))]) hx hb dX8_emptyOrPlus_29 hl (by decide) rfl (fun ls hl => ?_)
  refine lv_iload_n (pc := 31) hx hb dX8_emptyOrPlus_31 rfl (lv_at hl 2 rfl) ?_
  refine lv_iconst (pc := 32) (v := (nI (2))) hx hb dX8_emptyOrPlus_32 (by decide) ?_
  refine xn_irem (pc := 33) hx hb (by omega) (by omega) (by omega) dX8_emptyOrPlus_33 ?_
  refine W.eq (g2 := F0 mG 34 ls [.int (nI 0)]) rfl ?_
  refine lv_iconst (pc := 34) (v := (nI (1))) hx hb dX8_emptyOrPlus_34 (by decide) ?_
  refine lv_icmp_ne (pc := 35) (tgt := 42) hx hb dX8_emptyOrPlus_35 (by decide) (fun _ => ?_) (fun h => absurd h (by decide))
  refine lv_iconst (pc := 42) (v := (nI (0))) hx hb dX8_emptyOrPlus_42 (by decide) ?_
  refine lv_istore (pc := 43) (lv' := [(6, .int (nI 0)), (5, .int (nI r1)), (4, .int (nI l1)), (3, .int (nI 0)), (0, .ref hm), (1, .int (nI l1)), (2, .int (nI r1))]) hx hb dX8_emptyOrPlus_43 hl (by decide) rfl (fun ls hl => ?_)
  refine lv_aload_n (pc := 45) hx hb dX8_emptyOrPlus_45 rfl (lv_at hl 4 rfl) ?_
  refine va_get (pc := 46) (D := D) (ci := 6) (v := .ref (am 1)) (C := RX8) (T := TX8) (N := 30) hx hb hts hinX8 hown hK hP 0 rfl rfl 1 (by decide) lk0 (fun _ h9 => h9) rfl dX8_emptyOrPlus_46 ?_
  refine lv_iload (pc := 49) hx hb dX8_emptyOrPlus_49 (lv_at hl 2 rfl) ?_
  refine xa_iald (pc := 51) hx hb hK hP 1 0 rfl rfl (by omega) (by omega) dX8_emptyOrPlus_51 ?_
  refine lv_iconst (pc := 52) (v := (nI (2))) hx hb dX8_emptyOrPlus_52 (by decide) ?_
  refine xn_icmp_ne (pc := 53) (tgt := 80) hx hb (by have h5 := tv.q (show l1 < N by omega); omega) (by omega) dX8_emptyOrPlus_53 (by decide) (fun c53 => ?_) (fun c53 => ?_)
  · refine lv_iinc (pc := 80) (v := (nI (1))) (lv' := [(3, .int (nI 1)), (6, .int (nI 0)), (5, .int (nI r1)), (4, .int (nI l1)), (0, .ref hm), (1, .int (nI l1)), (2, .int (nI r1))]) hx hb dX8_emptyOrPlus_80 hl (k := 3) rfl (nI_incr _) (by decide) rfl (fun ls hl => ?_)
    refine lv_goto (pc := 83) (tgt := 2) hx hb dX8_emptyOrPlus_83 (by decide) ?_
    refine lv_iload_n (pc := 2) hx hb dX8_emptyOrPlus_2 rfl (lv_at hl 0 rfl) ?_
    refine lv_iconst (pc := 3) (v := (nI (4))) hx hb dX8_emptyOrPlus_3 (by decide) ?_
    refine lv_icmp_ge (pc := 4) (tgt := 86) hx hb dX8_emptyOrPlus_4 (by decide) (fun h => absurd h (by decide)) (fun _ => ?_)
    refine lv_iload_n (pc := 7) hx hb dX8_emptyOrPlus_7 rfl (lv_at hl 0 rfl) ?_
    refine lv_iconst (pc := 8) (v := (nI (2))) hx hb dX8_emptyOrPlus_8 (by decide) ?_
    refine lv_icmp_ge (pc := 9) (tgt := 16) hx hb dX8_emptyOrPlus_9 (by decide) (fun h => absurd h (by decide)) (fun _ => ?_)
    refine lv_iload_n (pc := 12) hx hb dX8_emptyOrPlus_12 rfl (lv_at hl 5 rfl) ?_
    refine lv_goto (pc := 13) (tgt := 17) hx hb dX8_emptyOrPlus_13 (by decide) ?_
    refine lv_istore (pc := 17) (lv' := [(4, .int (nI l1)), (3, .int (nI 1)), (6, .int (nI 0)), (5, .int (nI r1)), (0, .ref hm), (1, .int (nI l1)), (2, .int (nI r1))]) hx hb dX8_emptyOrPlus_17 hl (by decide) rfl (fun ls hl => ?_)
    refine lv_iload_n (pc := 19) hx hb dX8_emptyOrPlus_19 rfl (lv_at hl 1 rfl) ?_
    refine lv_iconst (pc := 20) (v := (nI (2))) hx hb dX8_emptyOrPlus_20 (by decide) ?_
    refine lv_icmp_ge (pc := 21) (tgt := 28) hx hb dX8_emptyOrPlus_21 (by decide) (fun h => absurd h (by decide)) (fun _ => ?_)
    refine lv_iload_n (pc := 24) hx hb dX8_emptyOrPlus_24 rfl (lv_at hl 6 rfl) ?_
    refine lv_goto (pc := 25) (tgt := 29) hx hb dX8_emptyOrPlus_25 (by decide) ?_
    refine lv_istore (pc := 29) (lv' := [(5, .int (nI r1)), (4, .int (nI l1)), (3, .int (nI 1)), (6, .int (nI 0)), (0, .ref hm), (1, .int (nI l1)), (2, .int (nI r1))]) hx hb dX8_emptyOrPlus_29 hl (by decide) rfl (fun ls hl => ?_)
    refine lv_iload_n (pc := 31) hx hb dX8_emptyOrPlus_31 rfl (lv_at hl 2 rfl) ?_
    refine lv_iconst (pc := 32) (v := (nI (2))) hx hb dX8_emptyOrPlus_32 (by decide) ?_
    refine xn_irem (pc := 33) hx hb (by omega) (by omega) (by omega) dX8_emptyOrPlus_33 ?_
    refine W.eq (g2 := F0 mG 34 ls [.int (nI 1)]) rfl ?_
    refine lv_iconst (pc := 34) (v := (nI (1))) hx hb dX8_emptyOrPlus_34 (by decide) ?_
    refine lv_icmp_ne (pc := 35) (tgt := 42) hx hb dX8_emptyOrPlus_35 (by decide) (fun h => absurd h (by decide)) (fun _ => ?_)
    refine lv_iconst (pc := 38) (v := (nI (1))) hx hb dX8_emptyOrPlus_38 (by decide) ?_
    refine lv_goto (pc := 39) (tgt := 43) hx hb dX8_emptyOrPlus_39 (by decide) ?_
    refine lv_istore (pc := 43) (lv' := [(6, .int (nI 1)), (5, .int (nI r1)), (4, .int (nI l1)), (3, .int (nI 1)), (0, .ref hm), (1, .int (nI l1)), (2, .int (nI r1))]) hx hb dX8_emptyOrPlus_43 hl (by decide) rfl (fun ls hl => ?_)
    refine lv_aload_n (pc := 45) hx hb dX8_emptyOrPlus_45 rfl (lv_at hl 4 rfl) ?_
    refine va_get (pc := 46) (D := D) (ci := 6) (v := .ref (am 1)) (C := RX8) (T := TX8) (N := 30) hx hb hts hinX8 hown hK hP 0 rfl rfl 1 (by decide) lk0 (fun _ h9 => h9) rfl dX8_emptyOrPlus_46 ?_
    refine lv_iload (pc := 49) hx hb dX8_emptyOrPlus_49 (lv_at hl 2 rfl) ?_
    refine xa_iald (pc := 51) hx hb hK hP 1 0 rfl rfl (by omega) (by omega) dX8_emptyOrPlus_51 ?_
    refine lv_iconst (pc := 52) (v := (nI (2))) hx hb dX8_emptyOrPlus_52 (by decide) ?_
    refine xn_icmp_ne (pc := 53) (tgt := 80) hx hb (by have h5 := tv.q (show l1 < N by omega); omega) (by omega) dX8_emptyOrPlus_53 (by decide) (fun _ => ?_) (fun h => absurd h c53)
    refine lv_iinc (pc := 80) (v := (nI (2))) (lv' := [(3, .int (nI 2)), (6, .int (nI 1)), (5, .int (nI r1)), (4, .int (nI l1)), (0, .ref hm), (1, .int (nI l1)), (2, .int (nI r1))]) hx hb dX8_emptyOrPlus_80 hl (k := 3) rfl (nI_incr _) (by decide) rfl (fun ls hl => ?_)
    refine lv_goto (pc := 83) (tgt := 2) hx hb dX8_emptyOrPlus_83 (by decide) ?_
    refine lv_iload_n (pc := 2) hx hb dX8_emptyOrPlus_2 rfl (lv_at hl 0 rfl) ?_
    refine lv_iconst (pc := 3) (v := (nI (4))) hx hb dX8_emptyOrPlus_3 (by decide) ?_
    refine lv_icmp_ge (pc := 4) (tgt := 86) hx hb dX8_emptyOrPlus_4 (by decide) (fun h => absurd h (by decide)) (fun _ => ?_)
    refine lv_iload_n (pc := 7) hx hb dX8_emptyOrPlus_7 rfl (lv_at hl 0 rfl) ?_
    refine lv_iconst (pc := 8) (v := (nI (2))) hx hb dX8_emptyOrPlus_8 (by decide) ?_
    refine lv_icmp_ge (pc := 9) (tgt := 16) hx hb dX8_emptyOrPlus_9 (by decide) (fun _ => ?_) (fun h => absurd h (by decide))
    refine lv_iload_n (pc := 16) hx hb dX8_emptyOrPlus_16 rfl (lv_at hl 6 rfl) ?_
    refine lv_istore (pc := 17) (lv' := [(4, .int (nI r1)), (3, .int (nI 2)), (6, .int (nI 1)), (5, .int (nI r1)), (0, .ref hm), (1, .int (nI l1)), (2, .int (nI r1))]) hx hb dX8_emptyOrPlus_17 hl (by decide) rfl (fun ls hl => ?_)
    refine lv_iload_n (pc := 19) hx hb dX8_emptyOrPlus_19 rfl (lv_at hl 1 rfl) ?_
    refine lv_iconst (pc := 20) (v := (nI (2))) hx hb dX8_emptyOrPlus_20 (by decide) ?_
    refine lv_icmp_ge (pc := 21) (tgt := 28) hx hb dX8_emptyOrPlus_21 (by decide) (fun _ => ?_) (fun h => absurd h (by decide))
    refine lv_iload_n (pc := 28) hx hb dX8_emptyOrPlus_28 rfl (lv_at hl 5 rfl) ?_
    refine lv_istore (pc := 29) (lv' := [(5, .int (nI l1)), (4, .int (nI r1)), (3, .int (nI 2)), (6, .int (nI 1)), (0, .ref hm), (1, .int (nI l1)), (2, .int (nI r1))]) hx hb dX8_emptyOrPlus_29 hl (by decide) rfl (fun ls hl => ?_)
    refine lv_iload_n (pc := 31) hx hb dX8_emptyOrPlus_31 rfl (lv_at hl 2 rfl) ?_
    refine lv_iconst (pc := 32) (v := (nI (2))) hx hb dX8_emptyOrPlus_32 (by decide) ?_
    refine xn_irem (pc := 33) hx hb (by omega) (by omega) (by omega) dX8_emptyOrPlus_33 ?_
    refine W.eq (g2 := F0 mG 34 ls [.int (nI 0)]) rfl ?_
    refine lv_iconst (pc := 34) (v := (nI (1))) hx hb dX8_emptyOrPlus_34 (by decide) ?_
    refine lv_icmp_ne (pc := 35) (tgt := 42) hx hb dX8_emptyOrPlus_35 (by decide) (fun _ => ?_) (fun h => absurd h (by decide))
    refine lv_iconst (pc := 42) (v := (nI (0))) hx hb dX8_emptyOrPlus_42 (by decide) ?_
    refine lv_istore (pc := 43) (lv' := [(6, .int (nI 0)), (5, .int (nI l1)), (4, .int (nI r1)), (3, .int (nI 2)), (0, .ref hm), (1, .int (nI l1)), (2, .int (nI r1))]) hx hb dX8_emptyOrPlus_43 hl (by decide) rfl (fun ls hl => ?_)
    refine lv_aload_n (pc := 45) hx hb dX8_emptyOrPlus_45 rfl (lv_at hl 4 rfl) ?_
    refine va_get (pc := 46) (D := D) (ci := 6) (v := .ref (am 1)) (C := RX8) (T := TX8) (N := 30) hx hb hts hinX8 hown hK hP 0 rfl rfl 1 (by decide) lk0 (fun _ h9 => h9) rfl dX8_emptyOrPlus_46 ?_
    refine lv_iload (pc := 49) hx hb dX8_emptyOrPlus_49 (lv_at hl 2 rfl) ?_
    refine xa_iald (pc := 51) hx hb hK hP 1 0 rfl rfl (by omega) (by omega) dX8_emptyOrPlus_51 ?_
    refine lv_iconst (pc := 52) (v := (nI (2))) hx hb dX8_emptyOrPlus_52 (by decide) ?_
    refine xn_icmp_ne (pc := 53) (tgt := 80) hx hb (by have h5 := tv.q (show r1 < N by omega); omega) (by omega) dX8_emptyOrPlus_53 (by decide) (fun c53_2 => ?_) (fun c53_2 => ?_)
    · refine lv_iinc (pc := 80) (v := (nI (3))) (lv' := [(3, .int (nI 3)), (6, .int (nI 0)), (5, .int (nI l1)), (4, .int (nI r1)), (0, .ref hm), (1, .int (nI l1)), (2, .int (nI r1))]) hx hb dX8_emptyOrPlus_80 hl (k := 3) rfl (nI_incr _) (by decide) rfl (fun ls hl => ?_)
      refine lv_goto (pc := 83) (tgt := 2) hx hb dX8_emptyOrPlus_83 (by decide) ?_
      refine lv_iload_n (pc := 2) hx hb dX8_emptyOrPlus_2 rfl (lv_at hl 0 rfl) ?_
      refine lv_iconst (pc := 3) (v := (nI (4))) hx hb dX8_emptyOrPlus_3 (by decide) ?_
      refine lv_icmp_ge (pc := 4) (tgt := 86) hx hb dX8_emptyOrPlus_4 (by decide) (fun h => absurd h (by decide)) (fun _ => ?_)
      refine lv_iload_n (pc := 7) hx hb dX8_emptyOrPlus_7 rfl (lv_at hl 0 rfl) ?_
      refine lv_iconst (pc := 8) (v := (nI (2))) hx hb dX8_emptyOrPlus_8 (by decide) ?_
      refine lv_icmp_ge (pc := 9) (tgt := 16) hx hb dX8_emptyOrPlus_9 (by decide) (fun _ => ?_) (fun h => absurd h (by decide))
      refine lv_iload_n (pc := 16) hx hb dX8_emptyOrPlus_16 rfl (lv_at hl 6 rfl) ?_
      refine lv_istore (pc := 17) (lv' := [(4, .int (nI r1)), (3, .int (nI 3)), (6, .int (nI 0)), (5, .int (nI l1)), (0, .ref hm), (1, .int (nI l1)), (2, .int (nI r1))]) hx hb dX8_emptyOrPlus_17 hl (by decide) rfl (fun ls hl => ?_)
      refine lv_iload_n (pc := 19) hx hb dX8_emptyOrPlus_19 rfl (lv_at hl 1 rfl) ?_
      refine lv_iconst (pc := 20) (v := (nI (2))) hx hb dX8_emptyOrPlus_20 (by decide) ?_
      refine lv_icmp_ge (pc := 21) (tgt := 28) hx hb dX8_emptyOrPlus_21 (by decide) (fun _ => ?_) (fun h => absurd h (by decide))
      refine lv_iload_n (pc := 28) hx hb dX8_emptyOrPlus_28 rfl (lv_at hl 5 rfl) ?_
      refine lv_istore (pc := 29) (lv' := [(5, .int (nI l1)), (4, .int (nI r1)), (3, .int (nI 3)), (6, .int (nI 0)), (0, .ref hm), (1, .int (nI l1)), (2, .int (nI r1))]) hx hb dX8_emptyOrPlus_29 hl (by decide) rfl (fun ls hl => ?_)
      refine lv_iload_n (pc := 31) hx hb dX8_emptyOrPlus_31 rfl (lv_at hl 2 rfl) ?_
      refine lv_iconst (pc := 32) (v := (nI (2))) hx hb dX8_emptyOrPlus_32 (by decide) ?_
      refine xn_irem (pc := 33) hx hb (by omega) (by omega) (by omega) dX8_emptyOrPlus_33 ?_
      refine W.eq (g2 := F0 mG 34 ls [.int (nI 1)]) rfl ?_
      refine lv_iconst (pc := 34) (v := (nI (1))) hx hb dX8_emptyOrPlus_34 (by decide) ?_
      refine lv_icmp_ne (pc := 35) (tgt := 42) hx hb dX8_emptyOrPlus_35 (by decide) (fun h => absurd h (by decide)) (fun _ => ?_)
      refine lv_iconst (pc := 38) (v := (nI (1))) hx hb dX8_emptyOrPlus_38 (by decide) ?_
      refine lv_goto (pc := 39) (tgt := 43) hx hb dX8_emptyOrPlus_39 (by decide) ?_
      refine lv_istore (pc := 43) (lv' := [(6, .int (nI 1)), (5, .int (nI l1)), (4, .int (nI r1)), (3, .int (nI 3)), (0, .ref hm), (1, .int (nI l1)), (2, .int (nI r1))]) hx hb dX8_emptyOrPlus_43 hl (by decide) rfl (fun ls hl => ?_)
      refine lv_aload_n (pc := 45) hx hb dX8_emptyOrPlus_45 rfl (lv_at hl 4 rfl) ?_
      refine va_get (pc := 46) (D := D) (ci := 6) (v := .ref (am 1)) (C := RX8) (T := TX8) (N := 30) hx hb hts hinX8 hown hK hP 0 rfl rfl 1 (by decide) lk0 (fun _ h9 => h9) rfl dX8_emptyOrPlus_46 ?_
      refine lv_iload (pc := 49) hx hb dX8_emptyOrPlus_49 (lv_at hl 2 rfl) ?_
      refine xa_iald (pc := 51) hx hb hK hP 1 0 rfl rfl (by omega) (by omega) dX8_emptyOrPlus_51 ?_
      refine lv_iconst (pc := 52) (v := (nI (2))) hx hb dX8_emptyOrPlus_52 (by decide) ?_
      refine xn_icmp_ne (pc := 53) (tgt := 80) hx hb (by have h5 := tv.q (show r1 < N by omega); omega) (by omega) dX8_emptyOrPlus_53 (by decide) (fun _ => ?_) (fun h => absurd h c53_2)
      refine lv_iinc (pc := 80) (v := (nI (4))) (lv' := [(3, .int (nI 4)), (6, .int (nI 1)), (5, .int (nI l1)), (4, .int (nI r1)), (0, .ref hm), (1, .int (nI l1)), (2, .int (nI r1))]) hx hb dX8_emptyOrPlus_80 hl (k := 3) rfl (nI_incr _) (by decide) rfl (fun ls hl => ?_)
      refine lv_goto (pc := 83) (tgt := 2) hx hb dX8_emptyOrPlus_83 (by decide) ?_
      refine lv_iload_n (pc := 2) hx hb dX8_emptyOrPlus_2 rfl (lv_at hl 0 rfl) ?_
      refine lv_iconst (pc := 3) (v := (nI (4))) hx hb dX8_emptyOrPlus_3 (by decide) ?_
      refine lv_icmp_ge (pc := 4) (tgt := 86) hx hb dX8_emptyOrPlus_4 (by decide) (fun _ => ?_) (fun h => absurd h (by decide))
      refine lv_iconst (pc := 86) (v := (nI (0))) hx hb dX8_emptyOrPlus_86 (by decide) ?_
      have hU : rEP dgt E l1 r1 = none := by first | (simp [rEP, c53, c53_2]; done) | (exfalso; omega)
      have hP9 : va_P D vwCl [(hm, .inr (6, oM am n pos cmp que dsz mad cur stp met bst)), (am 1, .inl (cI, 18, .inl (nA dgt))), (am 20, .inl (cI, 36, .inl (nA rt)))] s.heap := hP.sub [0, 1, 2] rfl
      have hD9 : va_D _ [(hm, .inr (6, oM am n pos cmp que dsz mad cur stp met bst)), (am 1, .inl (cI, 18, .inl (nA dgt))), (am 20, .inl (cI, 36, .inl (nA rt)))] := hD.sub [0, 1, 2] (by decide) rfl
      exact W.zret (pc := 87) (v := (nI (0))) (ty := .boolean) hx hb hr (by decide) (fun t ht hW => ⟨⟨_, (mad, rt), rfl, ⟨(by first | (rw [hU]; done) | (rw [hU]; rfl)), (by rw [hU]; exact hL)⟩, by rw [ht]; exact hP9, va_K.moved hW.alike hK, hD9⟩, hS.F ht⟩) hS.2.2 dX8_emptyOrPlus_87
    · refine lv_aload_n (pc := 56) hx hb dX8_emptyOrPlus_56 rfl (lv_at hl 4 rfl) ?_
      refine lv_iload (pc := 57) hx hb dX8_emptyOrPlus_57 (lv_at hl 1 rfl) ?_
      refine lv_iload (pc := 59) hx hb dX8_emptyOrPlus_59 (lv_at hl 0 rfl) ?_
      refine vp_callSi (pc := 61) (W.runV (As := [.int (nI l1), .int (nI 0)]) (rest := []) ⟨hx, hb, hml, hown, hts⟩ (c_X8_isPlus l D cI cL cZ hm am n pos cmp que dsz mad cur stp met bst dgt E N l1 false tv (by omega)) (cwV 2 hts gX8_emptyOrPlus_X8_isPlus rfl rfl rfl (by decide +kernel) ⟨Nat.le_of_ble_eq_true rfl, Nat.le_of_ble_eq_true rfl⟩) (rP_V (wc := [(hm, .inr (6, oM am n pos cmp que dsz mad cur stp met bst)), (am 1, .inl (cI, 18, .inl (nA dgt)))]) (ci := 6) (q0 := 0) hK hP [0, 1] rfl rfl rfl) rfl rfl hl.1 rfl (lv_room (Nat.le_of_ble_eq_true rfl)) dX8_emptyOrPlus_61 ⟨Nat.zero_le _, Nat.zero_le _⟩) (fun r hrr => ?_)
      rw [hrr]
      refine xp_if_eq (pc := 64) (tgt := 80) hx hb dX8_emptyOrPlus_64 (by decide) (fun c64 => ?_) (fun c64 => ?_)
      · refine lv_iinc (pc := 80) (v := (nI (3))) (lv' := [(3, .int (nI 3)), (6, .int (nI 0)), (5, .int (nI l1)), (4, .int (nI r1)), (0, .ref hm), (1, .int (nI l1)), (2, .int (nI r1))]) hx hb dX8_emptyOrPlus_80 hl (k := 3) rfl (nI_incr _) (by decide) rfl (fun ls hl => ?_)
        refine lv_goto (pc := 83) (tgt := 2) hx hb dX8_emptyOrPlus_83 (by decide) ?_
        refine lv_iload_n (pc := 2) hx hb dX8_emptyOrPlus_2 rfl (lv_at hl 0 rfl) ?_
        refine lv_iconst (pc := 3) (v := (nI (4))) hx hb dX8_emptyOrPlus_3 (by decide) ?_
        refine lv_icmp_ge (pc := 4) (tgt := 86) hx hb dX8_emptyOrPlus_4 (by decide) (fun h => absurd h (by decide)) (fun _ => ?_)
        refine lv_iload_n (pc := 7) hx hb dX8_emptyOrPlus_7 rfl (lv_at hl 0 rfl) ?_
        refine lv_iconst (pc := 8) (v := (nI (2))) hx hb dX8_emptyOrPlus_8 (by decide) ?_
        refine lv_icmp_ge (pc := 9) (tgt := 16) hx hb dX8_emptyOrPlus_9 (by decide) (fun _ => ?_) (fun h => absurd h (by decide))
        refine lv_iload_n (pc := 16) hx hb dX8_emptyOrPlus_16 rfl (lv_at hl 6 rfl) ?_
        refine lv_istore (pc := 17) (lv' := [(4, .int (nI r1)), (3, .int (nI 3)), (6, .int (nI 0)), (5, .int (nI l1)), (0, .ref hm), (1, .int (nI l1)), (2, .int (nI r1))]) hx hb dX8_emptyOrPlus_17 hl (by decide) rfl (fun ls hl => ?_)
        refine lv_iload_n (pc := 19) hx hb dX8_emptyOrPlus_19 rfl (lv_at hl 1 rfl) ?_
        refine lv_iconst (pc := 20) (v := (nI (2))) hx hb dX8_emptyOrPlus_20 (by decide) ?_
        refine lv_icmp_ge (pc := 21) (tgt := 28) hx hb dX8_emptyOrPlus_21 (by decide) (fun _ => ?_) (fun h => absurd h (by decide))
        refine lv_iload_n (pc := 28) hx hb dX8_emptyOrPlus_28 rfl (lv_at hl 5 rfl) ?_
        refine lv_istore (pc := 29) (lv' := [(5, .int (nI l1)), (4, .int (nI r1)), (3, .int (nI 3)), (6, .int (nI 0)), (0, .ref hm), (1, .int (nI l1)), (2, .int (nI r1))]) hx hb dX8_emptyOrPlus_29 hl (by decide) rfl (fun ls hl => ?_)
        refine lv_iload_n (pc := 31) hx hb dX8_emptyOrPlus_31 rfl (lv_at hl 2 rfl) ?_
        refine lv_iconst (pc := 32) (v := (nI (2))) hx hb dX8_emptyOrPlus_32 (by decide) ?_
        refine xn_irem (pc := 33) hx hb (by omega) (by omega) (by omega) dX8_emptyOrPlus_33 ?_
        refine W.eq (g2 := F0 mG 34 ls [.int (nI 1)]) rfl ?_
        refine lv_iconst (pc := 34) (v := (nI (1))) hx hb dX8_emptyOrPlus_34 (by decide) ?_
        refine lv_icmp_ne (pc := 35) (tgt := 42) hx hb dX8_emptyOrPlus_35 (by decide) (fun h => absurd h (by decide)) (fun _ => ?_)
        refine lv_iconst (pc := 38) (v := (nI (1))) hx hb dX8_emptyOrPlus_38 (by decide) ?_
        refine lv_goto (pc := 39) (tgt := 43) hx hb dX8_emptyOrPlus_39 (by decide) ?_
        refine lv_istore (pc := 43) (lv' := [(6, .int (nI 1)), (5, .int (nI l1)), (4, .int (nI r1)), (3, .int (nI 3)), (0, .ref hm), (1, .int (nI l1)), (2, .int (nI r1))]) hx hb dX8_emptyOrPlus_43 hl (by decide) rfl (fun ls hl => ?_)
        refine lv_aload_n (pc := 45) hx hb dX8_emptyOrPlus_45 rfl (lv_at hl 4 rfl) ?_
        refine va_get (pc := 46) (D := D) (ci := 6) (v := .ref (am 1)) (C := RX8) (T := TX8) (N := 30) hx hb hts hinX8 hown hK hP 0 rfl rfl 1 (by decide) lk0 (fun _ h9 => h9) rfl dX8_emptyOrPlus_46 ?_
        refine lv_iload (pc := 49) hx hb dX8_emptyOrPlus_49 (lv_at hl 2 rfl) ?_
        refine xa_iald (pc := 51) hx hb hK hP 1 0 rfl rfl (by omega) (by omega) dX8_emptyOrPlus_51 ?_
        refine lv_iconst (pc := 52) (v := (nI (2))) hx hb dX8_emptyOrPlus_52 (by decide) ?_
        refine xn_icmp_ne (pc := 53) (tgt := 80) hx hb (by have h5 := tv.q (show r1 < N by omega); omega) (by omega) dX8_emptyOrPlus_53 (by decide) (fun h => absurd c53_2 h) (fun _ => ?_)
        refine lv_aload_n (pc := 56) hx hb dX8_emptyOrPlus_56 rfl (lv_at hl 4 rfl) ?_
        refine lv_iload (pc := 57) hx hb dX8_emptyOrPlus_57 (lv_at hl 1 rfl) ?_
        refine lv_iload (pc := 59) hx hb dX8_emptyOrPlus_59 (lv_at hl 0 rfl) ?_
        refine vp_callSi (pc := 61) (W.runV (As := [.int (nI l1), .int (nI 1)]) (rest := []) ⟨hx, hb, hml, hown, hts⟩ (c_X8_isPlus l D cI cL cZ hm am n pos cmp que dsz mad cur stp met bst dgt E N l1 true tv (by omega)) (cwV 2 hts gX8_emptyOrPlus_X8_isPlus rfl rfl rfl (by decide +kernel) ⟨Nat.le_of_ble_eq_true rfl, Nat.le_of_ble_eq_true rfl⟩) (rP_V (wc := [(hm, .inr (6, oM am n pos cmp que dsz mad cur stp met bst)), (am 1, .inl (cI, 18, .inl (nA dgt)))]) (ci := 6) (q0 := 0) hK hP [0, 1] rfl rfl rfl) rfl rfl hl.1 rfl (lv_room (Nat.le_of_ble_eq_true rfl)) dX8_emptyOrPlus_61 ⟨Nat.zero_le _, Nat.zero_le _⟩) (fun r hrr => ?_)
        rw [hrr]
        refine xp_if_eq (pc := 64) (tgt := 80) hx hb dX8_emptyOrPlus_64 (by decide) (fun c64_2 => ?_) (fun c64_2 => ?_)
        · refine lv_iinc (pc := 80) (v := (nI (4))) (lv' := [(3, .int (nI 4)), (6, .int (nI 1)), (5, .int (nI l1)), (4, .int (nI r1)), (0, .ref hm), (1, .int (nI l1)), (2, .int (nI r1))]) hx hb dX8_emptyOrPlus_80 hl (k := 3) rfl (nI_incr _) (by decide) rfl (fun ls hl => ?_)
          refine lv_goto (pc := 83) (tgt := 2) hx hb dX8_emptyOrPlus_83 (by decide) ?_
          refine lv_iload_n (pc := 2) hx hb dX8_emptyOrPlus_2 rfl (lv_at hl 0 rfl) ?_
          refine lv_iconst (pc := 3) (v := (nI (4))) hx hb dX8_emptyOrPlus_3 (by decide) ?_
          refine lv_icmp_ge (pc := 4) (tgt := 86) hx hb dX8_emptyOrPlus_4 (by decide) (fun _ => ?_) (fun h => absurd h (by decide))
          refine lv_iconst (pc := 86) (v := (nI (0))) hx hb dX8_emptyOrPlus_86 (by decide) ?_
          have hU : rEP dgt E l1 r1 = none := by first | (simp [rEP, c53, c53_2, c64, c64_2]; done) | (exfalso; omega)
          have hP9 : va_P D vwCl [(hm, .inr (6, oM am n pos cmp que dsz mad cur stp met bst)), (am 1, .inl (cI, 18, .inl (nA dgt))), (am 20, .inl (cI, 36, .inl (nA rt)))] s.heap := hP.sub [0, 1, 2] rfl
          have hD9 : va_D _ [(hm, .inr (6, oM am n pos cmp que dsz mad cur stp met bst)), (am 1, .inl (cI, 18, .inl (nA dgt))), (am 20, .inl (cI, 36, .inl (nA rt)))] := hD.sub [0, 1, 2] (by decide) rfl
          exact W.zret (pc := 87) (v := (nI (0))) (ty := .boolean) hx hb hr (by decide) (fun t ht hW => ⟨⟨_, (mad, rt), rfl, ⟨(by first | (rw [hU]; done) | (rw [hU]; rfl)), (by rw [hU]; exact hL)⟩, by rw [ht]; exact hP9, va_K.moved hW.alike hK, hD9⟩, hS.F ht⟩) hS.2.2 dX8_emptyOrPlus_87
        · have h7 := isP_7 c64_2
          have ht := tv.two (show l1 < N by omega) (Or.inr h7)
          have hpl : plO E l1 true < N := by unfold plO; split <;> omega
          refine lv_aload_n (pc := 67) hx hb dX8_emptyOrPlus_67 rfl (lv_at hl 4 rfl) ?_
          refine lv_aload_n (pc := 68) hx hb dX8_emptyOrPlus_68 rfl (lv_at hl 4 rfl) ?_
          refine lv_iload (pc := 69) hx hb dX8_emptyOrPlus_69 (lv_at hl 1 rfl) ?_
          refine lv_iload (pc := 71) hx hb dX8_emptyOrPlus_71 (lv_at hl 0 rfl) ?_
          refine vp_callSi (pc := 73) (W.runV (As := [.int (nI l1), .int (nI 1)]) (rest := [.ref hm]) ⟨hx, hb, hml, hown, hts⟩ (c_X8_plainOf l D cI cL cZ hm am n pos cmp que dsz mad cur stp met bst dgt E N l1 true tv (by omega) h7) (cwV 2 hts gX8_emptyOrPlus_X8_plainOf rfl rfl rfl (by decide +kernel) ⟨Nat.le_of_ble_eq_true rfl, Nat.le_of_ble_eq_true rfl⟩) (rP_V (wc := [(hm, .inr (6, oM am n pos cmp que dsz mad cur stp met bst)), (am 1, .inl (cI, 18, .inl (nA dgt)))]) (ci := 6) (q0 := 0) hK hP [0, 1] rfl rfl rfl) rfl rfl hl.1 rfl (lv_room (Nat.le_of_ble_eq_true rfl)) dX8_emptyOrPlus_73 ⟨Nat.zero_le _, Nat.zero_le _⟩) (fun r hrr => ?_)
          rw [hrr]
          refine xm_calli (pc := 76) (wc := [(hm, .inr (6, oM am n pos cmp que dsz mad cur stp met bst)), (am 1, .inl (cI, 18, .inl (nA dgt))), (am 20, .inl (cI, 36, .inl (nA rt)))]) (wr := []) (va_runV (As := [.int (nI (plO E l1 true))]) (rest := []) ⟨hx, hb, hml, hown, hts⟩ (c_X8_starOf l D cI cL cZ s.heap.size hm am n pos cmp que dsz mad cur stp met bst dgt E N rt ([]) (plO E l1 true) tv (by omega) (by have h0 := tv.q (show plO E l1 true < N by omega); omega) hL) (cwV 1 hts gX8_emptyOrPlus_X8_starOf rfl rfl rfl (by decide +kernel) ⟨Nat.le_of_ble_eq_true rfl, Nat.le_of_ble_eq_true rfl⟩) (mP_V (wc := [(hm, .inr (6, oM am n pos cmp que dsz mad cur stp met bst)), (am 1, .inl (cI, 18, .inl (nA dgt))), (am 20, .inl (cI, 36, .inl (nA rt)))]) (ci := 6) (q0 := 0) hK hP hD [0, 1, 2] (by decide) rfl rfl rfl) rfl rfl hl.1 rfl (lv_room (Nat.le_of_ble_eq_true rfl)) dX8_emptyOrPlus_76 ⟨Nat.zero_le _, Nat.zero_le _⟩) hP hD hS hA [0, 1, 2] [] rfl rfl (by decide) (by decide) (fun r u H locs hw hP hD hS => ?_)
          obtain ⟨mad2_76, rt2_76⟩ := u
          have hP : va_P D vwCl [(hm, .inr (6, oM am n pos cmp que dsz mad2_76 cur stp met bst)), (am 1, .inl (cI, 18, .inl (nA dgt))), (am 20, .inl (cI, 36, .inl (nA rt2_76)))] H := hP
          have hD : va_D _ [(hm, .inr (6, oM am n pos cmp que dsz mad2_76 cur stp met bst)), (am 1, .inl (cI, 18, .inl (nA dgt))), (am 20, .inl (cI, 36, .inl (nA rt2_76)))] := hD
          try dsimp only at hw
          obtain ⟨hrr, hw76⟩ := hw
          rw [hrr]
          have hU : rEP dgt E l1 r1 = some (([]) ++ (8 :: sb dgt E (plO E l1 true))) := by first | (simp [rEP, c53, c53_2, c64, c64_2]; done) | (exfalso; omega)
          have hP9 : va_P D vwCl [(hm, .inr (6, oM am n pos cmp que dsz mad2_76 cur stp met bst)), (am 1, .inl (cI, 18, .inl (nA dgt))), (am 20, .inl (cI, 36, .inl (nA rt2_76)))] H := hP.sub [0, 1, 2] rfl
          have hD9 : va_D _ [(hm, .inr (6, oM am n pos cmp que dsz mad2_76 cur stp met bst)), (am 1, .inl (cI, 18, .inl (nA dgt))), (am 20, .inl (cI, 36, .inl (nA rt2_76)))] := hD.sub [0, 1, 2] (by decide) rfl
          exact W.zret (pc := 79) (v := (nI (1))) (ty := .boolean) hx hb hr (by decide) (fun t ht hW => ⟨⟨_, (mad2_76, rt2_76), rfl, ⟨(by first | (rw [hU]; done) | (rw [hU]; rfl)), (by rw [hU]; exact hw76)⟩, by rw [ht]; exact hP9, va_K.moved hW.alike hK, hD9⟩, hS.F ht⟩) hS.2.2 dX8_emptyOrPlus_79
      · have h7 := isP_7 c64
        have ht := tv.two (show l1 < N by omega) (Or.inr h7)
        have hpl : plO E l1 false < N := by unfold plO; split <;> omega
        refine lv_aload_n (pc := 67) hx hb dX8_emptyOrPlus_67 rfl (lv_at hl 4 rfl) ?_
        refine lv_aload_n (pc := 68) hx hb dX8_emptyOrPlus_68 rfl (lv_at hl 4 rfl) ?_
        refine lv_iload (pc := 69) hx hb dX8_emptyOrPlus_69 (lv_at hl 1 rfl) ?_
        refine lv_iload (pc := 71) hx hb dX8_emptyOrPlus_71 (lv_at hl 0 rfl) ?_
        refine vp_callSi (pc := 73) (W.runV (As := [.int (nI l1), .int (nI 0)]) (rest := [.ref hm]) ⟨hx, hb, hml, hown, hts⟩ (c_X8_plainOf l D cI cL cZ hm am n pos cmp que dsz mad cur stp met bst dgt E N l1 false tv (by omega) h7) (cwV 2 hts gX8_emptyOrPlus_X8_plainOf rfl rfl rfl (by decide +kernel) ⟨Nat.le_of_ble_eq_true rfl, Nat.le_of_ble_eq_true rfl⟩) (rP_V (wc := [(hm, .inr (6, oM am n pos cmp que dsz mad cur stp met bst)), (am 1, .inl (cI, 18, .inl (nA dgt)))]) (ci := 6) (q0 := 0) hK hP [0, 1] rfl rfl rfl) rfl rfl hl.1 rfl (lv_room (Nat.le_of_ble_eq_true rfl)) dX8_emptyOrPlus_73 ⟨Nat.zero_le _, Nat.zero_le _⟩) (fun r hrr => ?_)
        rw [hrr]
        refine xm_calli (pc := 76) (wc := [(hm, .inr (6, oM am n pos cmp que dsz mad cur stp met bst)), (am 1, .inl (cI, 18, .inl (nA dgt))), (am 20, .inl (cI, 36, .inl (nA rt)))]) (wr := []) (va_runV (As := [.int (nI (plO E l1 false))]) (rest := []) ⟨hx, hb, hml, hown, hts⟩ (c_X8_starOf l D cI cL cZ s.heap.size hm am n pos cmp que dsz mad cur stp met bst dgt E N rt ([]) (plO E l1 false) tv (by omega) (by have h0 := tv.q (show plO E l1 false < N by omega); omega) hL) (cwV 1 hts gX8_emptyOrPlus_X8_starOf rfl rfl rfl (by decide +kernel) ⟨Nat.le_of_ble_eq_true rfl, Nat.le_of_ble_eq_true rfl⟩) (mP_V (wc := [(hm, .inr (6, oM am n pos cmp que dsz mad cur stp met bst)), (am 1, .inl (cI, 18, .inl (nA dgt))), (am 20, .inl (cI, 36, .inl (nA rt)))]) (ci := 6) (q0 := 0) hK hP hD [0, 1, 2] (by decide) rfl rfl rfl) rfl rfl hl.1 rfl (lv_room (Nat.le_of_ble_eq_true rfl)) dX8_emptyOrPlus_76 ⟨Nat.zero_le _, Nat.zero_le _⟩) hP hD hS hA [0, 1, 2] [] rfl rfl (by decide) (by decide) (fun r u H locs hw hP hD hS => ?_)
        obtain ⟨mad2_76, rt2_76⟩ := u
        have hP : va_P D vwCl [(hm, .inr (6, oM am n pos cmp que dsz mad2_76 cur stp met bst)), (am 1, .inl (cI, 18, .inl (nA dgt))), (am 20, .inl (cI, 36, .inl (nA rt2_76)))] H := hP
        have hD : va_D _ [(hm, .inr (6, oM am n pos cmp que dsz mad2_76 cur stp met bst)), (am 1, .inl (cI, 18, .inl (nA dgt))), (am 20, .inl (cI, 36, .inl (nA rt2_76)))] := hD
        try dsimp only at hw
        obtain ⟨hrr, hw76⟩ := hw
        rw [hrr]
        have hU : rEP dgt E l1 r1 = some (([]) ++ (8 :: sb dgt E (plO E l1 false))) := by first | (simp [rEP, c53, c53_2, c64]; done) | (exfalso; omega)
        have hP9 : va_P D vwCl [(hm, .inr (6, oM am n pos cmp que dsz mad2_76 cur stp met bst)), (am 1, .inl (cI, 18, .inl (nA dgt))), (am 20, .inl (cI, 36, .inl (nA rt2_76)))] H := hP.sub [0, 1, 2] rfl
        have hD9 : va_D _ [(hm, .inr (6, oM am n pos cmp que dsz mad2_76 cur stp met bst)), (am 1, .inl (cI, 18, .inl (nA dgt))), (am 20, .inl (cI, 36, .inl (nA rt2_76)))] := hD.sub [0, 1, 2] (by decide) rfl
        exact W.zret (pc := 79) (v := (nI (1))) (ty := .boolean) hx hb hr (by decide) (fun t ht hW => ⟨⟨_, (mad2_76, rt2_76), rfl, ⟨(by first | (rw [hU]; done) | (rw [hU]; rfl)), (by rw [hU]; exact hw76)⟩, by rw [ht]; exact hP9, va_K.moved hW.alike hK, hD9⟩, hS.F ht⟩) hS.2.2 dX8_emptyOrPlus_79
  · refine lv_aload_n (pc := 56) hx hb dX8_emptyOrPlus_56 rfl (lv_at hl 4 rfl) ?_
    refine lv_iload (pc := 57) hx hb dX8_emptyOrPlus_57 (lv_at hl 1 rfl) ?_
    refine lv_iload (pc := 59) hx hb dX8_emptyOrPlus_59 (lv_at hl 0 rfl) ?_
    refine vp_callSi (pc := 61) (W.runV (As := [.int (nI r1), .int (nI 0)]) (rest := []) ⟨hx, hb, hml, hown, hts⟩ (c_X8_isPlus l D cI cL cZ hm am n pos cmp que dsz mad cur stp met bst dgt E N r1 false tv (by omega)) (cwV 2 hts gX8_emptyOrPlus_X8_isPlus rfl rfl rfl (by decide +kernel) ⟨Nat.le_of_ble_eq_true rfl, Nat.le_of_ble_eq_true rfl⟩) (rP_V (wc := [(hm, .inr (6, oM am n pos cmp que dsz mad cur stp met bst)), (am 1, .inl (cI, 18, .inl (nA dgt)))]) (ci := 6) (q0 := 0) hK hP [0, 1] rfl rfl rfl) rfl rfl hl.1 rfl (lv_room (Nat.le_of_ble_eq_true rfl)) dX8_emptyOrPlus_61 ⟨Nat.zero_le _, Nat.zero_le _⟩) (fun r hrr => ?_)
    rw [hrr]
    refine xp_if_eq (pc := 64) (tgt := 80) hx hb dX8_emptyOrPlus_64 (by decide) (fun c64 => ?_) (fun c64 => ?_)
    · refine lv_iinc (pc := 80) (v := (nI (1))) (lv' := [(3, .int (nI 1)), (6, .int (nI 0)), (5, .int (nI r1)), (4, .int (nI l1)), (0, .ref hm), (1, .int (nI l1)), (2, .int (nI r1))]) hx hb dX8_emptyOrPlus_80 hl (k := 3) rfl (nI_incr _) (by decide) rfl (fun ls hl => ?_)
      refine lv_goto (pc := 83) (tgt := 2) hx hb dX8_emptyOrPlus_83 (by decide) ?_
      refine lv_iload_n (pc := 2) hx hb dX8_emptyOrPlus_2 rfl (lv_at hl 0 rfl) ?_
      refine lv_iconst (pc := 3) (v := (nI (4))) hx hb dX8_emptyOrPlus_3 (by decide) ?_
      refine lv_icmp_ge (pc := 4) (tgt := 86) hx hb dX8_emptyOrPlus_4 (by decide) (fun h => absurd h (by decide)) (fun _ => ?_)
      refine lv_iload_n (pc := 7) hx hb dX8_emptyOrPlus_7 rfl (lv_at hl 0 rfl) ?_
      refine lv_iconst (pc := 8) (v := (nI (2))) hx hb dX8_emptyOrPlus_8 (by decide) ?_
      refine lv_icmp_ge (pc := 9) (tgt := 16) hx hb dX8_emptyOrPlus_9 (by decide) (fun h => absurd h (by decide)) (fun _ => ?_)
      refine lv_iload_n (pc := 12) hx hb dX8_emptyOrPlus_12 rfl (lv_at hl 5 rfl) ?_
      refine lv_goto (pc := 13) (tgt := 17) hx hb dX8_emptyOrPlus_13 (by decide) ?_
      refine lv_istore (pc := 17) (lv' := [(4, .int (nI l1)), (3, .int (nI 1)), (6, .int (nI 0)), (5, .int (nI r1)), (0, .ref hm), (1, .int (nI l1)), (2, .int (nI r1))]) hx hb dX8_emptyOrPlus_17 hl (by decide) rfl (fun ls hl => ?_)
      refine lv_iload_n (pc := 19) hx hb dX8_emptyOrPlus_19 rfl (lv_at hl 1 rfl) ?_
      refine lv_iconst (pc := 20) (v := (nI (2))) hx hb dX8_emptyOrPlus_20 (by decide) ?_
      refine lv_icmp_ge (pc := 21) (tgt := 28) hx hb dX8_emptyOrPlus_21 (by decide) (fun h => absurd h (by decide)) (fun _ => ?_)
      refine lv_iload_n (pc := 24) hx hb dX8_emptyOrPlus_24 rfl (lv_at hl 6 rfl) ?_
      refine lv_goto (pc := 25) (tgt := 29) hx hb dX8_emptyOrPlus_25 (by decide) ?_
      refine lv_istore (pc := 29) (lv' := [(5, .int (nI r1)), (4, .int (nI l1)), (3, .int (nI 1)), (6, .int (nI 0)), (0, .ref hm), (1, .int (nI l1)), (2, .int (nI r1))]) hx hb dX8_emptyOrPlus_29 hl (by decide) rfl (fun ls hl => ?_)
      refine lv_iload_n (pc := 31) hx hb dX8_emptyOrPlus_31 rfl (lv_at hl 2 rfl) ?_
      refine lv_iconst (pc := 32) (v := (nI (2))) hx hb dX8_emptyOrPlus_32 (by decide) ?_
      refine xn_irem (pc := 33) hx hb (by omega) (by omega) (by omega) dX8_emptyOrPlus_33 ?_
      refine W.eq (g2 := F0 mG 34 ls [.int (nI 1)]) rfl ?_
      refine lv_iconst (pc := 34) (v := (nI (1))) hx hb dX8_emptyOrPlus_34 (by decide) ?_
      refine lv_icmp_ne (pc := 35) (tgt := 42) hx hb dX8_emptyOrPlus_35 (by decide) (fun h => absurd h (by decide)) (fun _ => ?_)
      refine lv_iconst (pc := 38) (v := (nI (1))) hx hb dX8_emptyOrPlus_38 (by decide) ?_
      refine lv_goto (pc := 39) (tgt := 43) hx hb dX8_emptyOrPlus_39 (by decide) ?_
      refine lv_istore (pc := 43) (lv' := [(6, .int (nI 1)), (5, .int (nI r1)), (4, .int (nI l1)), (3, .int (nI 1)), (0, .ref hm), (1, .int (nI l1)), (2, .int (nI r1))]) hx hb dX8_emptyOrPlus_43 hl (by decide) rfl (fun ls hl => ?_)
      refine lv_aload_n (pc := 45) hx hb dX8_emptyOrPlus_45 rfl (lv_at hl 4 rfl) ?_
      refine va_get (pc := 46) (D := D) (ci := 6) (v := .ref (am 1)) (C := RX8) (T := TX8) (N := 30) hx hb hts hinX8 hown hK hP 0 rfl rfl 1 (by decide) lk0 (fun _ h9 => h9) rfl dX8_emptyOrPlus_46 ?_
      refine lv_iload (pc := 49) hx hb dX8_emptyOrPlus_49 (lv_at hl 2 rfl) ?_
      refine xa_iald (pc := 51) hx hb hK hP 1 0 rfl rfl (by omega) (by omega) dX8_emptyOrPlus_51 ?_
      refine lv_iconst (pc := 52) (v := (nI (2))) hx hb dX8_emptyOrPlus_52 (by decide) ?_
      refine xn_icmp_ne (pc := 53) (tgt := 80) hx hb (by have h5 := tv.q (show l1 < N by omega); omega) (by omega) dX8_emptyOrPlus_53 (by decide) (fun h => absurd c53 h) (fun _ => ?_)
      refine lv_aload_n (pc := 56) hx hb dX8_emptyOrPlus_56 rfl (lv_at hl 4 rfl) ?_
      refine lv_iload (pc := 57) hx hb dX8_emptyOrPlus_57 (lv_at hl 1 rfl) ?_
      refine lv_iload (pc := 59) hx hb dX8_emptyOrPlus_59 (lv_at hl 0 rfl) ?_
      refine vp_callSi (pc := 61) (W.runV (As := [.int (nI r1), .int (nI 1)]) (rest := []) ⟨hx, hb, hml, hown, hts⟩ (c_X8_isPlus l D cI cL cZ hm am n pos cmp que dsz mad cur stp met bst dgt E N r1 true tv (by omega)) (cwV 2 hts gX8_emptyOrPlus_X8_isPlus rfl rfl rfl (by decide +kernel) ⟨Nat.le_of_ble_eq_true rfl, Nat.le_of_ble_eq_true rfl⟩) (rP_V (wc := [(hm, .inr (6, oM am n pos cmp que dsz mad cur stp met bst)), (am 1, .inl (cI, 18, .inl (nA dgt)))]) (ci := 6) (q0 := 0) hK hP [0, 1] rfl rfl rfl) rfl rfl hl.1 rfl (lv_room (Nat.le_of_ble_eq_true rfl)) dX8_emptyOrPlus_61 ⟨Nat.zero_le _, Nat.zero_le _⟩) (fun r hrr => ?_)
      rw [hrr]
      refine xp_if_eq (pc := 64) (tgt := 80) hx hb dX8_emptyOrPlus_64 (by decide) (fun c64_2 => ?_) (fun c64_2 => ?_)
      · refine lv_iinc (pc := 80) (v := (nI (2))) (lv' := [(3, .int (nI 2)), (6, .int (nI 1)), (5, .int (nI r1)), (4, .int (nI l1)), (0, .ref hm), (1, .int (nI l1)), (2, .int (nI r1))]) hx hb dX8_emptyOrPlus_80 hl (k := 3) rfl (nI_incr _) (by decide) rfl (fun ls hl => ?_)
        refine lv_goto (pc := 83) (tgt := 2) hx hb dX8_emptyOrPlus_83 (by decide) ?_
        refine lv_iload_n (pc := 2) hx hb dX8_emptyOrPlus_2 rfl (lv_at hl 0 rfl) ?_
        refine lv_iconst (pc := 3) (v := (nI (4))) hx hb dX8_emptyOrPlus_3 (by decide) ?_
        refine lv_icmp_ge (pc := 4) (tgt := 86) hx hb dX8_emptyOrPlus_4 (by decide) (fun h => absurd h (by decide)) (fun _ => ?_)
        refine lv_iload_n (pc := 7) hx hb dX8_emptyOrPlus_7 rfl (lv_at hl 0 rfl) ?_
        refine lv_iconst (pc := 8) (v := (nI (2))) hx hb dX8_emptyOrPlus_8 (by decide) ?_
        refine lv_icmp_ge (pc := 9) (tgt := 16) hx hb dX8_emptyOrPlus_9 (by decide) (fun _ => ?_) (fun h => absurd h (by decide))
        refine lv_iload_n (pc := 16) hx hb dX8_emptyOrPlus_16 rfl (lv_at hl 6 rfl) ?_
        refine lv_istore (pc := 17) (lv' := [(4, .int (nI r1)), (3, .int (nI 2)), (6, .int (nI 1)), (5, .int (nI r1)), (0, .ref hm), (1, .int (nI l1)), (2, .int (nI r1))]) hx hb dX8_emptyOrPlus_17 hl (by decide) rfl (fun ls hl => ?_)
        refine lv_iload_n (pc := 19) hx hb dX8_emptyOrPlus_19 rfl (lv_at hl 1 rfl) ?_
        refine lv_iconst (pc := 20) (v := (nI (2))) hx hb dX8_emptyOrPlus_20 (by decide) ?_
        refine lv_icmp_ge (pc := 21) (tgt := 28) hx hb dX8_emptyOrPlus_21 (by decide) (fun _ => ?_) (fun h => absurd h (by decide))
        refine lv_iload_n (pc := 28) hx hb dX8_emptyOrPlus_28 rfl (lv_at hl 5 rfl) ?_
        refine lv_istore (pc := 29) (lv' := [(5, .int (nI l1)), (4, .int (nI r1)), (3, .int (nI 2)), (6, .int (nI 1)), (0, .ref hm), (1, .int (nI l1)), (2, .int (nI r1))]) hx hb dX8_emptyOrPlus_29 hl (by decide) rfl (fun ls hl => ?_)
        refine lv_iload_n (pc := 31) hx hb dX8_emptyOrPlus_31 rfl (lv_at hl 2 rfl) ?_
        refine lv_iconst (pc := 32) (v := (nI (2))) hx hb dX8_emptyOrPlus_32 (by decide) ?_
        refine xn_irem (pc := 33) hx hb (by omega) (by omega) (by omega) dX8_emptyOrPlus_33 ?_
        refine W.eq (g2 := F0 mG 34 ls [.int (nI 0)]) rfl ?_
        refine lv_iconst (pc := 34) (v := (nI (1))) hx hb dX8_emptyOrPlus_34 (by decide) ?_
        refine lv_icmp_ne (pc := 35) (tgt := 42) hx hb dX8_emptyOrPlus_35 (by decide) (fun _ => ?_) (fun h => absurd h (by decide))
        refine lv_iconst (pc := 42) (v := (nI (0))) hx hb dX8_emptyOrPlus_42 (by decide) ?_
        refine lv_istore (pc := 43) (lv' := [(6, .int (nI 0)), (5, .int (nI l1)), (4, .int (nI r1)), (3, .int (nI 2)), (0, .ref hm), (1, .int (nI l1)), (2, .int (nI r1))]) hx hb dX8_emptyOrPlus_43 hl (by decide) rfl (fun ls hl => ?_)
        refine lv_aload_n (pc := 45) hx hb dX8_emptyOrPlus_45 rfl (lv_at hl 4 rfl) ?_
        refine va_get (pc := 46) (D := D) (ci := 6) (v := .ref (am 1)) (C := RX8) (T := TX8) (N := 30) hx hb hts hinX8 hown hK hP 0 rfl rfl 1 (by decide) lk0 (fun _ h9 => h9) rfl dX8_emptyOrPlus_46 ?_
        refine lv_iload (pc := 49) hx hb dX8_emptyOrPlus_49 (lv_at hl 2 rfl) ?_
        refine xa_iald (pc := 51) hx hb hK hP 1 0 rfl rfl (by omega) (by omega) dX8_emptyOrPlus_51 ?_
        refine lv_iconst (pc := 52) (v := (nI (2))) hx hb dX8_emptyOrPlus_52 (by decide) ?_
        refine xn_icmp_ne (pc := 53) (tgt := 80) hx hb (by have h5 := tv.q (show r1 < N by omega); omega) (by omega) dX8_emptyOrPlus_53 (by decide) (fun c53_2 => ?_) (fun c53_2 => ?_)
        · refine lv_iinc (pc := 80) (v := (nI (3))) (lv' := [(3, .int (nI 3)), (6, .int (nI 0)), (5, .int (nI l1)), (4, .int (nI r1)), (0, .ref hm), (1, .int (nI l1)), (2, .int (nI r1))]) hx hb dX8_emptyOrPlus_80 hl (k := 3) rfl (nI_incr _) (by decide) rfl (fun ls hl => ?_)
          refine lv_goto (pc := 83) (tgt := 2) hx hb dX8_emptyOrPlus_83 (by decide) ?_
          refine lv_iload_n (pc := 2) hx hb dX8_emptyOrPlus_2 rfl (lv_at hl 0 rfl) ?_
          refine lv_iconst (pc := 3) (v := (nI (4))) hx hb dX8_emptyOrPlus_3 (by decide) ?_
          refine lv_icmp_ge (pc := 4) (tgt := 86) hx hb dX8_emptyOrPlus_4 (by decide) (fun h => absurd h (by decide)) (fun _ => ?_)
          refine lv_iload_n (pc := 7) hx hb dX8_emptyOrPlus_7 rfl (lv_at hl 0 rfl) ?_
          refine lv_iconst (pc := 8) (v := (nI (2))) hx hb dX8_emptyOrPlus_8 (by decide) ?_
          refine lv_icmp_ge (pc := 9) (tgt := 16) hx hb dX8_emptyOrPlus_9 (by decide) (fun _ => ?_) (fun h => absurd h (by decide))
          refine lv_iload_n (pc := 16) hx hb dX8_emptyOrPlus_16 rfl (lv_at hl 6 rfl) ?_
          refine lv_istore (pc := 17) (lv' := [(4, .int (nI r1)), (3, .int (nI 3)), (6, .int (nI 0)), (5, .int (nI l1)), (0, .ref hm), (1, .int (nI l1)), (2, .int (nI r1))]) hx hb dX8_emptyOrPlus_17 hl (by decide) rfl (fun ls hl => ?_)
          refine lv_iload_n (pc := 19) hx hb dX8_emptyOrPlus_19 rfl (lv_at hl 1 rfl) ?_
          refine lv_iconst (pc := 20) (v := (nI (2))) hx hb dX8_emptyOrPlus_20 (by decide) ?_
          refine lv_icmp_ge (pc := 21) (tgt := 28) hx hb dX8_emptyOrPlus_21 (by decide) (fun _ => ?_) (fun h => absurd h (by decide))
          refine lv_iload_n (pc := 28) hx hb dX8_emptyOrPlus_28 rfl (lv_at hl 5 rfl) ?_
          refine lv_istore (pc := 29) (lv' := [(5, .int (nI l1)), (4, .int (nI r1)), (3, .int (nI 3)), (6, .int (nI 0)), (0, .ref hm), (1, .int (nI l1)), (2, .int (nI r1))]) hx hb dX8_emptyOrPlus_29 hl (by decide) rfl (fun ls hl => ?_)
          refine lv_iload_n (pc := 31) hx hb dX8_emptyOrPlus_31 rfl (lv_at hl 2 rfl) ?_
          refine lv_iconst (pc := 32) (v := (nI (2))) hx hb dX8_emptyOrPlus_32 (by decide) ?_
          refine xn_irem (pc := 33) hx hb (by omega) (by omega) (by omega) dX8_emptyOrPlus_33 ?_
          refine W.eq (g2 := F0 mG 34 ls [.int (nI 1)]) rfl ?_
          refine lv_iconst (pc := 34) (v := (nI (1))) hx hb dX8_emptyOrPlus_34 (by decide) ?_
          refine lv_icmp_ne (pc := 35) (tgt := 42) hx hb dX8_emptyOrPlus_35 (by decide) (fun h => absurd h (by decide)) (fun _ => ?_)
          refine lv_iconst (pc := 38) (v := (nI (1))) hx hb dX8_emptyOrPlus_38 (by decide) ?_
          refine lv_goto (pc := 39) (tgt := 43) hx hb dX8_emptyOrPlus_39 (by decide) ?_
          refine lv_istore (pc := 43) (lv' := [(6, .int (nI 1)), (5, .int (nI l1)), (4, .int (nI r1)), (3, .int (nI 3)), (0, .ref hm), (1, .int (nI l1)), (2, .int (nI r1))]) hx hb dX8_emptyOrPlus_43 hl (by decide) rfl (fun ls hl => ?_)
          refine lv_aload_n (pc := 45) hx hb dX8_emptyOrPlus_45 rfl (lv_at hl 4 rfl) ?_
          refine va_get (pc := 46) (D := D) (ci := 6) (v := .ref (am 1)) (C := RX8) (T := TX8) (N := 30) hx hb hts hinX8 hown hK hP 0 rfl rfl 1 (by decide) lk0 (fun _ h9 => h9) rfl dX8_emptyOrPlus_46 ?_
          refine lv_iload (pc := 49) hx hb dX8_emptyOrPlus_49 (lv_at hl 2 rfl) ?_
          refine xa_iald (pc := 51) hx hb hK hP 1 0 rfl rfl (by omega) (by omega) dX8_emptyOrPlus_51 ?_
          refine lv_iconst (pc := 52) (v := (nI (2))) hx hb dX8_emptyOrPlus_52 (by decide) ?_
          refine xn_icmp_ne (pc := 53) (tgt := 80) hx hb (by have h5 := tv.q (show r1 < N by omega); omega) (by omega) dX8_emptyOrPlus_53 (by decide) (fun _ => ?_) (fun h => absurd h c53_2)
          refine lv_iinc (pc := 80) (v := (nI (4))) (lv' := [(3, .int (nI 4)), (6, .int (nI 1)), (5, .int (nI l1)), (4, .int (nI r1)), (0, .ref hm), (1, .int (nI l1)), (2, .int (nI r1))]) hx hb dX8_emptyOrPlus_80 hl (k := 3) rfl (nI_incr _) (by decide) rfl (fun ls hl => ?_)
          refine lv_goto (pc := 83) (tgt := 2) hx hb dX8_emptyOrPlus_83 (by decide) ?_
          refine lv_iload_n (pc := 2) hx hb dX8_emptyOrPlus_2 rfl (lv_at hl 0 rfl) ?_
          refine lv_iconst (pc := 3) (v := (nI (4))) hx hb dX8_emptyOrPlus_3 (by decide) ?_
          refine lv_icmp_ge (pc := 4) (tgt := 86) hx hb dX8_emptyOrPlus_4 (by decide) (fun _ => ?_) (fun h => absurd h (by decide))
          refine lv_iconst (pc := 86) (v := (nI (0))) hx hb dX8_emptyOrPlus_86 (by decide) ?_
          have hU : rEP dgt E l1 r1 = none := by first | (simp [rEP, c53, c64, c64_2, c53_2]; done) | (exfalso; omega)
          have hP9 : va_P D vwCl [(hm, .inr (6, oM am n pos cmp que dsz mad cur stp met bst)), (am 1, .inl (cI, 18, .inl (nA dgt))), (am 20, .inl (cI, 36, .inl (nA rt)))] s.heap := hP.sub [0, 1, 2] rfl
          have hD9 : va_D _ [(hm, .inr (6, oM am n pos cmp que dsz mad cur stp met bst)), (am 1, .inl (cI, 18, .inl (nA dgt))), (am 20, .inl (cI, 36, .inl (nA rt)))] := hD.sub [0, 1, 2] (by decide) rfl
          exact W.zret (pc := 87) (v := (nI (0))) (ty := .boolean) hx hb hr (by decide) (fun t ht hW => ⟨⟨_, (mad, rt), rfl, ⟨(by first | (rw [hU]; done) | (rw [hU]; rfl)), (by rw [hU]; exact hL)⟩, by rw [ht]; exact hP9, va_K.moved hW.alike hK, hD9⟩, hS.F ht⟩) hS.2.2 dX8_emptyOrPlus_87
        · refine lv_aload_n (pc := 56) hx hb dX8_emptyOrPlus_56 rfl (lv_at hl 4 rfl) ?_
          refine lv_iload (pc := 57) hx hb dX8_emptyOrPlus_57 (lv_at hl 1 rfl) ?_
          refine lv_iload (pc := 59) hx hb dX8_emptyOrPlus_59 (lv_at hl 0 rfl) ?_
          refine vp_callSi (pc := 61) (W.runV (As := [.int (nI l1), .int (nI 0)]) (rest := []) ⟨hx, hb, hml, hown, hts⟩ (c_X8_isPlus l D cI cL cZ hm am n pos cmp que dsz mad cur stp met bst dgt E N l1 false tv (by omega)) (cwV 2 hts gX8_emptyOrPlus_X8_isPlus rfl rfl rfl (by decide +kernel) ⟨Nat.le_of_ble_eq_true rfl, Nat.le_of_ble_eq_true rfl⟩) (rP_V (wc := [(hm, .inr (6, oM am n pos cmp que dsz mad cur stp met bst)), (am 1, .inl (cI, 18, .inl (nA dgt)))]) (ci := 6) (q0 := 0) hK hP [0, 1] rfl rfl rfl) rfl rfl hl.1 rfl (lv_room (Nat.le_of_ble_eq_true rfl)) dX8_emptyOrPlus_61 ⟨Nat.zero_le _, Nat.zero_le _⟩) (fun r hrr => ?_)
          rw [hrr]
          refine xp_if_eq (pc := 64) (tgt := 80) hx hb dX8_emptyOrPlus_64 (by decide) (fun c64_3 => ?_) (fun c64_3 => ?_)
          · refine lv_iinc (pc := 80) (v := (nI (3))) (lv' := [(3, .int (nI 3)), (6, .int (nI 0)), (5, .int (nI l1)), (4, .int (nI r1)), (0, .ref hm), (1, .int (nI l1)), (2, .int (nI r1))]) hx hb dX8_emptyOrPlus_80 hl (k := 3) rfl (nI_incr _) (by decide) rfl (fun ls hl => ?_)
            refine lv_goto (pc := 83) (tgt := 2) hx hb dX8_emptyOrPlus_83 (by decide) ?_
            refine lv_iload_n (pc := 2) hx hb dX8_emptyOrPlus_2 rfl (lv_at hl 0 rfl) ?_
            refine lv_iconst (pc := 3) (v := (nI (4))) hx hb dX8_emptyOrPlus_3 (by decide) ?_
            refine lv_icmp_ge (pc := 4) (tgt := 86) hx hb dX8_emptyOrPlus_4 (by decide) (fun h => absurd h (by decide)) (fun _ => ?_)
            refine lv_iload_n (pc := 7) hx hb dX8_emptyOrPlus_7 rfl (lv_at hl 0 rfl) ?_
            refine lv_iconst (pc := 8) (v := (nI (2))) hx hb dX8_emptyOrPlus_8 (by decide) ?_
            refine lv_icmp_ge (pc := 9) (tgt := 16) hx hb dX8_emptyOrPlus_9 (by decide) (fun _ => ?_) (fun h => absurd h (by decide))
            refine lv_iload_n (pc := 16) hx hb dX8_emptyOrPlus_16 rfl (lv_at hl 6 rfl) ?_
            refine lv_istore (pc := 17) (lv' := [(4, .int (nI r1)), (3, .int (nI 3)), (6, .int (nI 0)), (5, .int (nI l1)), (0, .ref hm), (1, .int (nI l1)), (2, .int (nI r1))]) hx hb dX8_emptyOrPlus_17 hl (by decide) rfl (fun ls hl => ?_)
            refine lv_iload_n (pc := 19) hx hb dX8_emptyOrPlus_19 rfl (lv_at hl 1 rfl) ?_
            refine lv_iconst (pc := 20) (v := (nI (2))) hx hb dX8_emptyOrPlus_20 (by decide) ?_
            refine lv_icmp_ge (pc := 21) (tgt := 28) hx hb dX8_emptyOrPlus_21 (by decide) (fun _ => ?_) (fun h => absurd h (by decide))
            refine lv_iload_n (pc := 28) hx hb dX8_emptyOrPlus_28 rfl (lv_at hl 5 rfl) ?_
            refine lv_istore (pc := 29) (lv' := [(5, .int (nI l1)), (4, .int (nI r1)), (3, .int (nI 3)), (6, .int (nI 0)), (0, .ref hm), (1, .int (nI l1)), (2, .int (nI r1))]) hx hb dX8_emptyOrPlus_29 hl (by decide) rfl (fun ls hl => ?_)
            refine lv_iload_n (pc := 31) hx hb dX8_emptyOrPlus_31 rfl (lv_at hl 2 rfl) ?_
            refine lv_iconst (pc := 32) (v := (nI (2))) hx hb dX8_emptyOrPlus_32 (by decide) ?_
            refine xn_irem (pc := 33) hx hb (by omega) (by omega) (by omega) dX8_emptyOrPlus_33 ?_
            refine W.eq (g2 := F0 mG 34 ls [.int (nI 1)]) rfl ?_
            refine lv_iconst (pc := 34) (v := (nI (1))) hx hb dX8_emptyOrPlus_34 (by decide) ?_
            refine lv_icmp_ne (pc := 35) (tgt := 42) hx hb dX8_emptyOrPlus_35 (by decide) (fun h => absurd h (by decide)) (fun _ => ?_)
            refine lv_iconst (pc := 38) (v := (nI (1))) hx hb dX8_emptyOrPlus_38 (by decide) ?_
            refine lv_goto (pc := 39) (tgt := 43) hx hb dX8_emptyOrPlus_39 (by decide) ?_
            refine lv_istore (pc := 43) (lv' := [(6, .int (nI 1)), (5, .int (nI l1)), (4, .int (nI r1)), (3, .int (nI 3)), (0, .ref hm), (1, .int (nI l1)), (2, .int (nI r1))]) hx hb dX8_emptyOrPlus_43 hl (by decide) rfl (fun ls hl => ?_)
            refine lv_aload_n (pc := 45) hx hb dX8_emptyOrPlus_45 rfl (lv_at hl 4 rfl) ?_
            refine va_get (pc := 46) (D := D) (ci := 6) (v := .ref (am 1)) (C := RX8) (T := TX8) (N := 30) hx hb hts hinX8 hown hK hP 0 rfl rfl 1 (by decide) lk0 (fun _ h9 => h9) rfl dX8_emptyOrPlus_46 ?_
            refine lv_iload (pc := 49) hx hb dX8_emptyOrPlus_49 (lv_at hl 2 rfl) ?_
            refine xa_iald (pc := 51) hx hb hK hP 1 0 rfl rfl (by omega) (by omega) dX8_emptyOrPlus_51 ?_
            refine lv_iconst (pc := 52) (v := (nI (2))) hx hb dX8_emptyOrPlus_52 (by decide) ?_
            refine xn_icmp_ne (pc := 53) (tgt := 80) hx hb (by have h5 := tv.q (show r1 < N by omega); omega) (by omega) dX8_emptyOrPlus_53 (by decide) (fun h => absurd c53_2 h) (fun _ => ?_)
            refine lv_aload_n (pc := 56) hx hb dX8_emptyOrPlus_56 rfl (lv_at hl 4 rfl) ?_
            refine lv_iload (pc := 57) hx hb dX8_emptyOrPlus_57 (lv_at hl 1 rfl) ?_
            refine lv_iload (pc := 59) hx hb dX8_emptyOrPlus_59 (lv_at hl 0 rfl) ?_
            refine vp_callSi (pc := 61) (W.runV (As := [.int (nI l1), .int (nI 1)]) (rest := []) ⟨hx, hb, hml, hown, hts⟩ (c_X8_isPlus l D cI cL cZ hm am n pos cmp que dsz mad cur stp met bst dgt E N l1 true tv (by omega)) (cwV 2 hts gX8_emptyOrPlus_X8_isPlus rfl rfl rfl (by decide +kernel) ⟨Nat.le_of_ble_eq_true rfl, Nat.le_of_ble_eq_true rfl⟩) (rP_V (wc := [(hm, .inr (6, oM am n pos cmp que dsz mad cur stp met bst)), (am 1, .inl (cI, 18, .inl (nA dgt)))]) (ci := 6) (q0 := 0) hK hP [0, 1] rfl rfl rfl) rfl rfl hl.1 rfl (lv_room (Nat.le_of_ble_eq_true rfl)) dX8_emptyOrPlus_61 ⟨Nat.zero_le _, Nat.zero_le _⟩) (fun r hrr => ?_)
            rw [hrr]
            refine xp_if_eq (pc := 64) (tgt := 80) hx hb dX8_emptyOrPlus_64 (by decide) (fun c64_4 => ?_) (fun c64_4 => ?_)
            · refine lv_iinc (pc := 80) (v := (nI (4))) (lv' := [(3, .int (nI 4)), (6, .int (nI 1)), (5, .int (nI l1)), (4, .int (nI r1)), (0, .ref hm), (1, .int (nI l1)), (2, .int (nI r1))]) hx hb dX8_emptyOrPlus_80 hl (k := 3) rfl (nI_incr _) (by decide) rfl (fun ls hl => ?_)
              refine lv_goto (pc := 83) (tgt := 2) hx hb dX8_emptyOrPlus_83 (by decide) ?_
              refine lv_iload_n (pc := 2) hx hb dX8_emptyOrPlus_2 rfl (lv_at hl 0 rfl) ?_
              refine lv_iconst (pc := 3) (v := (nI (4))) hx hb dX8_emptyOrPlus_3 (by decide) ?_
              refine lv_icmp_ge (pc := 4) (tgt := 86) hx hb dX8_emptyOrPlus_4 (by decide) (fun _ => ?_) (fun h => absurd h (by decide))
              refine lv_iconst (pc := 86) (v := (nI (0))) hx hb dX8_emptyOrPlus_86 (by decide) ?_
              have hU : rEP dgt E l1 r1 = none := by first | (simp [rEP, c53, c64, c64_2, c53_2, c64_3, c64_4]; done) | (exfalso; omega)
              have hP9 : va_P D vwCl [(hm, .inr (6, oM am n pos cmp que dsz mad cur stp met bst)), (am 1, .inl (cI, 18, .inl (nA dgt))), (am 20, .inl (cI, 36, .inl (nA rt)))] s.heap := hP.sub [0, 1, 2] rfl
              have hD9 : va_D _ [(hm, .inr (6, oM am n pos cmp que dsz mad cur stp met bst)), (am 1, .inl (cI, 18, .inl (nA dgt))), (am 20, .inl (cI, 36, .inl (nA rt)))] := hD.sub [0, 1, 2] (by decide) rfl
              exact W.zret (pc := 87) (v := (nI (0))) (ty := .boolean) hx hb hr (by decide) (fun t ht hW => ⟨⟨_, (mad, rt), rfl, ⟨(by first | (rw [hU]; done) | (rw [hU]; rfl)), (by rw [hU]; exact hL)⟩, by rw [ht]; exact hP9, va_K.moved hW.alike hK, hD9⟩, hS.F ht⟩) hS.2.2 dX8_emptyOrPlus_87
            · have h7 := isP_7 c64_4
              have ht := tv.two (show l1 < N by omega) (Or.inr h7)
              have hpl : plO E l1 true < N := by unfold plO; split <;> omega
              refine lv_aload_n (pc := 67) hx hb dX8_emptyOrPlus_67 rfl (lv_at hl 4 rfl) ?_
              refine lv_aload_n (pc := 68) hx hb dX8_emptyOrPlus_68 rfl (lv_at hl 4 rfl) ?_
              refine lv_iload (pc := 69) hx hb dX8_emptyOrPlus_69 (lv_at hl 1 rfl) ?_
              refine lv_iload (pc := 71) hx hb dX8_emptyOrPlus_71 (lv_at hl 0 rfl) ?_
              refine vp_callSi (pc := 73) (W.runV (As := [.int (nI l1), .int (nI 1)]) (rest := [.ref hm]) ⟨hx, hb, hml, hown, hts⟩ (c_X8_plainOf l D cI cL cZ hm am n pos cmp que dsz mad cur stp met bst dgt E N l1 true tv (by omega) h7) (cwV 2 hts gX8_emptyOrPlus_X8_plainOf rfl rfl rfl (by decide +kernel) ⟨Nat.le_of_ble_eq_true rfl, Nat.le_of_ble_eq_true rfl⟩) (rP_V (wc := [(hm, .inr (6, oM am n pos cmp que dsz mad cur stp met bst)), (am 1, .inl (cI, 18, .inl (nA dgt)))]) (ci := 6) (q0 := 0) hK hP [0, 1] rfl rfl rfl) rfl rfl hl.1 rfl (lv_room (Nat.le_of_ble_eq_true rfl)) dX8_emptyOrPlus_73 ⟨Nat.zero_le _, Nat.zero_le _⟩) (fun r hrr => ?_)
              rw [hrr]
              refine xm_calli (pc := 76) (wc := [(hm, .inr (6, oM am n pos cmp que dsz mad cur stp met bst)), (am 1, .inl (cI, 18, .inl (nA dgt))), (am 20, .inl (cI, 36, .inl (nA rt)))]) (wr := []) (va_runV (As := [.int (nI (plO E l1 true))]) (rest := []) ⟨hx, hb, hml, hown, hts⟩ (c_X8_starOf l D cI cL cZ s.heap.size hm am n pos cmp que dsz mad cur stp met bst dgt E N rt ([]) (plO E l1 true) tv (by omega) (by have h0 := tv.q (show plO E l1 true < N by omega); omega) hL) (cwV 1 hts gX8_emptyOrPlus_X8_starOf rfl rfl rfl (by decide +kernel) ⟨Nat.le_of_ble_eq_true rfl, Nat.le_of_ble_eq_true rfl⟩) (mP_V (wc := [(hm, .inr (6, oM am n pos cmp que dsz mad cur stp met bst)), (am 1, .inl (cI, 18, .inl (nA dgt))), (am 20, .inl (cI, 36, .inl (nA rt)))]) (ci := 6) (q0 := 0) hK hP hD [0, 1, 2] (by decide) rfl rfl rfl) rfl rfl hl.1 rfl (lv_room (Nat.le_of_ble_eq_true rfl)) dX8_emptyOrPlus_76 ⟨Nat.zero_le _, Nat.zero_le _⟩) hP hD hS hA [0, 1, 2] [] rfl rfl (by decide) (by decide) (fun r u H locs hw hP hD hS => ?_)
              obtain ⟨mad2_76, rt2_76⟩ := u
              have hP : va_P D vwCl [(hm, .inr (6, oM am n pos cmp que dsz mad2_76 cur stp met bst)), (am 1, .inl (cI, 18, .inl (nA dgt))), (am 20, .inl (cI, 36, .inl (nA rt2_76)))] H := hP
              have hD : va_D _ [(hm, .inr (6, oM am n pos cmp que dsz mad2_76 cur stp met bst)), (am 1, .inl (cI, 18, .inl (nA dgt))), (am 20, .inl (cI, 36, .inl (nA rt2_76)))] := hD
              try dsimp only at hw
              obtain ⟨hrr, hw76⟩ := hw
              rw [hrr]
              have hU : rEP dgt E l1 r1 = some (([]) ++ (8 :: sb dgt E (plO E l1 true))) := by first | (simp [rEP, c53, c64, c64_2, c53_2, c64_3, c64_4]; done) | (exfalso; omega)
              have hP9 : va_P D vwCl [(hm, .inr (6, oM am n pos cmp que dsz mad2_76 cur stp met bst)), (am 1, .inl (cI, 18, .inl (nA dgt))), (am 20, .inl (cI, 36, .inl (nA rt2_76)))] H := hP.sub [0, 1, 2] rfl
              have hD9 : va_D _ [(hm, .inr (6, oM am n pos cmp que dsz mad2_76 cur stp met bst)), (am 1, .inl (cI, 18, .inl (nA dgt))), (am 20, .inl (cI, 36, .inl (nA rt2_76)))] := hD.sub [0, 1, 2] (by decide) rfl
              exact W.zret (pc := 79) (v := (nI (1))) (ty := .boolean) hx hb hr (by decide) (fun t ht hW => ⟨⟨_, (mad2_76, rt2_76), rfl, ⟨(by first | (rw [hU]; done) | (rw [hU]; rfl)), (by rw [hU]; exact hw76)⟩, by rw [ht]; exact hP9, va_K.moved hW.alike hK, hD9⟩, hS.F ht⟩) hS.2.2 dX8_emptyOrPlus_79
          · have h7 := isP_7 c64_3
            have ht := tv.two (show l1 < N by omega) (Or.inr h7)
            have hpl : plO E l1 false < N := by unfold plO; split <;> omega
            refine lv_aload_n (pc := 67) hx hb dX8_emptyOrPlus_67 rfl (lv_at hl 4 rfl) ?_
            refine lv_aload_n (pc := 68) hx hb dX8_emptyOrPlus_68 rfl (lv_at hl 4 rfl) ?_
            refine lv_iload (pc := 69) hx hb dX8_emptyOrPlus_69 (lv_at hl 1 rfl) ?_
            refine lv_iload (pc := 71) hx hb dX8_emptyOrPlus_71 (lv_at hl 0 rfl) ?_
            refine vp_callSi (pc := 73) (W.runV (As := [.int (nI l1), .int (nI 0)]) (rest := [.ref hm]) ⟨hx, hb, hml, hown, hts⟩ (c_X8_plainOf l D cI cL cZ hm am n pos cmp que dsz mad cur stp met bst dgt E N l1 false tv (by omega) h7) (cwV 2 hts gX8_emptyOrPlus_X8_plainOf rfl rfl rfl (by decide +kernel) ⟨Nat.le_of_ble_eq_true rfl, Nat.le_of_ble_eq_true rfl⟩) (rP_V (wc := [(hm, .inr (6, oM am n pos cmp que dsz mad cur stp met bst)), (am 1, .inl (cI, 18, .inl (nA dgt)))]) (ci := 6) (q0 := 0) hK hP [0, 1] rfl rfl rfl) rfl rfl hl.1 rfl (lv_room (Nat.le_of_ble_eq_true rfl)) dX8_emptyOrPlus_73 ⟨Nat.zero_le _, Nat.zero_le _⟩) (fun r hrr => ?_)
            rw [hrr]
            refine xm_calli (pc := 76) (wc := [(hm, .inr (6, oM am n pos cmp que dsz mad cur stp met bst)), (am 1, .inl (cI, 18, .inl (nA dgt))), (am 20, .inl (cI, 36, .inl (nA rt)))]) (wr := []) (va_runV (As := [.int (nI (plO E l1 false))]) (rest := []) ⟨hx, hb, hml, hown, hts⟩ (c_X8_starOf l D cI cL cZ s.heap.size hm am n pos cmp que dsz mad cur stp met bst dgt E N rt ([]) (plO E l1 false) tv (by omega) (by have h0 := tv.q (show plO E l1 false < N by omega); omega) hL) (cwV 1 hts gX8_emptyOrPlus_X8_starOf rfl rfl rfl (by decide +kernel) ⟨Nat.le_of_ble_eq_true rfl, Nat.le_of_ble_eq_true rfl⟩) (mP_V (wc := [(hm, .inr (6, oM am n pos cmp que dsz mad cur stp met bst)), (am 1, .inl (cI, 18, .inl (nA dgt))), (am 20, .inl (cI, 36, .inl (nA rt)))]) (ci := 6) (q0 := 0) hK hP hD [0, 1, 2] (by decide) rfl rfl rfl) rfl rfl hl.1 rfl (lv_room (Nat.le_of_ble_eq_true rfl)) dX8_emptyOrPlus_76 ⟨Nat.zero_le _, Nat.zero_le _⟩) hP hD hS hA [0, 1, 2] [] rfl rfl (by decide) (by decide) (fun r u H locs hw hP hD hS => ?_)
            obtain ⟨mad2_76, rt2_76⟩ := u
            have hP : va_P D vwCl [(hm, .inr (6, oM am n pos cmp que dsz mad2_76 cur stp met bst)), (am 1, .inl (cI, 18, .inl (nA dgt))), (am 20, .inl (cI, 36, .inl (nA rt2_76)))] H := hP
            have hD : va_D _ [(hm, .inr (6, oM am n pos cmp que dsz mad2_76 cur stp met bst)), (am 1, .inl (cI, 18, .inl (nA dgt))), (am 20, .inl (cI, 36, .inl (nA rt2_76)))] := hD
            try dsimp only at hw
            obtain ⟨hrr, hw76⟩ := hw
            rw [hrr]
            have hU : rEP dgt E l1 r1 = some (([]) ++ (8 :: sb dgt E (plO E l1 false))) := by first | (simp [rEP, c53, c64, c64_2, c53_2, c64_3]; done) | (exfalso; omega)
            have hP9 : va_P D vwCl [(hm, .inr (6, oM am n pos cmp que dsz mad2_76 cur stp met bst)), (am 1, .inl (cI, 18, .inl (nA dgt))), (am 20, .inl (cI, 36, .inl (nA rt2_76)))] H := hP.sub [0, 1, 2] rfl
            have hD9 : va_D _ [(hm, .inr (6, oM am n pos cmp que dsz mad2_76 cur stp met bst)), (am 1, .inl (cI, 18, .inl (nA dgt))), (am 20, .inl (cI, 36, .inl (nA rt2_76)))] := hD.sub [0, 1, 2] (by decide) rfl
            exact W.zret (pc := 79) (v := (nI (1))) (ty := .boolean) hx hb hr (by decide) (fun t ht hW => ⟨⟨_, (mad2_76, rt2_76), rfl, ⟨(by first | (rw [hU]; done) | (rw [hU]; rfl)), (by rw [hU]; exact hw76)⟩, by rw [ht]; exact hP9, va_K.moved hW.alike hK, hD9⟩, hS.F ht⟩) hS.2.2 dX8_emptyOrPlus_79
      · have h7 := isP_7 c64_2
        have ht := tv.two (show r1 < N by omega) (Or.inr h7)
        have hpl : plO E r1 true < N := by unfold plO; split <;> omega
        refine lv_aload_n (pc := 67) hx hb dX8_emptyOrPlus_67 rfl (lv_at hl 4 rfl) ?_
        refine lv_aload_n (pc := 68) hx hb dX8_emptyOrPlus_68 rfl (lv_at hl 4 rfl) ?_
        refine lv_iload (pc := 69) hx hb dX8_emptyOrPlus_69 (lv_at hl 1 rfl) ?_
        refine lv_iload (pc := 71) hx hb dX8_emptyOrPlus_71 (lv_at hl 0 rfl) ?_
        refine vp_callSi (pc := 73) (W.runV (As := [.int (nI r1), .int (nI 1)]) (rest := [.ref hm]) ⟨hx, hb, hml, hown, hts⟩ (c_X8_plainOf l D cI cL cZ hm am n pos cmp que dsz mad cur stp met bst dgt E N r1 true tv (by omega) h7) (cwV 2 hts gX8_emptyOrPlus_X8_plainOf rfl rfl rfl (by decide +kernel) ⟨Nat.le_of_ble_eq_true rfl, Nat.le_of_ble_eq_true rfl⟩) (rP_V (wc := [(hm, .inr (6, oM am n pos cmp que dsz mad cur stp met bst)), (am 1, .inl (cI, 18, .inl (nA dgt)))]) (ci := 6) (q0 := 0) hK hP [0, 1] rfl rfl rfl) rfl rfl hl.1 rfl (lv_room (Nat.le_of_ble_eq_true rfl)) dX8_emptyOrPlus_73 ⟨Nat.zero_le _, Nat.zero_le _⟩) (fun r hrr => ?_)
        rw [hrr]
        refine xm_calli (pc := 76) (wc := [(hm, .inr (6, oM am n pos cmp que dsz mad cur stp met bst)), (am 1, .inl (cI, 18, .inl (nA dgt))), (am 20, .inl (cI, 36, .inl (nA rt)))]) (wr := []) (va_runV (As := [.int (nI (plO E r1 true))]) (rest := []) ⟨hx, hb, hml, hown, hts⟩ (c_X8_starOf l D cI cL cZ s.heap.size hm am n pos cmp que dsz mad cur stp met bst dgt E N rt ([]) (plO E r1 true) tv (by omega) (by have h0 := tv.q (show plO E r1 true < N by omega); omega) hL) (cwV 1 hts gX8_emptyOrPlus_X8_starOf rfl rfl rfl (by decide +kernel) ⟨Nat.le_of_ble_eq_true rfl, Nat.le_of_ble_eq_true rfl⟩) (mP_V (wc := [(hm, .inr (6, oM am n pos cmp que dsz mad cur stp met bst)), (am 1, .inl (cI, 18, .inl (nA dgt))), (am 20, .inl (cI, 36, .inl (nA rt)))]) (ci := 6) (q0 := 0) hK hP hD [0, 1, 2] (by decide) rfl rfl rfl) rfl rfl hl.1 rfl (lv_room (Nat.le_of_ble_eq_true rfl)) dX8_emptyOrPlus_76 ⟨Nat.zero_le _, Nat.zero_le _⟩) hP hD hS hA [0, 1, 2] [] rfl rfl (by decide) (by decide) (fun r u H locs hw hP hD hS => ?_)
        obtain ⟨mad2_76, rt2_76⟩ := u
        have hP : va_P D vwCl [(hm, .inr (6, oM am n pos cmp que dsz mad2_76 cur stp met bst)), (am 1, .inl (cI, 18, .inl (nA dgt))), (am 20, .inl (cI, 36, .inl (nA rt2_76)))] H := hP
        have hD : va_D _ [(hm, .inr (6, oM am n pos cmp que dsz mad2_76 cur stp met bst)), (am 1, .inl (cI, 18, .inl (nA dgt))), (am 20, .inl (cI, 36, .inl (nA rt2_76)))] := hD
        try dsimp only at hw
        obtain ⟨hrr, hw76⟩ := hw
        rw [hrr]
        have hU : rEP dgt E l1 r1 = some (([]) ++ (8 :: sb dgt E (plO E r1 true))) := by first | (simp [rEP, c53, c64, c64_2]; done) | (exfalso; omega)
        have hP9 : va_P D vwCl [(hm, .inr (6, oM am n pos cmp que dsz mad2_76 cur stp met bst)), (am 1, .inl (cI, 18, .inl (nA dgt))), (am 20, .inl (cI, 36, .inl (nA rt2_76)))] H := hP.sub [0, 1, 2] rfl
        have hD9 : va_D _ [(hm, .inr (6, oM am n pos cmp que dsz mad2_76 cur stp met bst)), (am 1, .inl (cI, 18, .inl (nA dgt))), (am 20, .inl (cI, 36, .inl (nA rt2_76)))] := hD.sub [0, 1, 2] (by decide) rfl
        exact W.zret (pc := 79) (v := (nI (1))) (ty := .boolean) hx hb hr (by decide) (fun t ht hW => ⟨⟨_, (mad2_76, rt2_76), rfl, ⟨(by first | (rw [hU]; done) | (rw [hU]; rfl)), (by rw [hU]; exact hw76)⟩, by rw [ht]; exact hP9, va_K.moved hW.alike hK, hD9⟩, hS.F ht⟩) hS.2.2 dX8_emptyOrPlus_79
    · have h7 := isP_7 c64
      have ht := tv.two (show r1 < N by omega) (Or.inr h7)
      have hpl : plO E r1 false < N := by unfold plO; split <;> omega
      refine lv_aload_n (pc := 67) hx hb dX8_emptyOrPlus_67 rfl (lv_at hl 4 rfl) ?_
      refine lv_aload_n (pc := 68) hx hb dX8_emptyOrPlus_68 rfl (lv_at hl 4 rfl) ?_
      refine lv_iload (pc := 69) hx hb dX8_emptyOrPlus_69 (lv_at hl 1 rfl) ?_
      refine lv_iload (pc := 71) hx hb dX8_emptyOrPlus_71 (lv_at hl 0 rfl) ?_
      refine vp_callSi (pc := 73) (W.runV (As := [.int (nI r1), .int (nI 0)]) (rest := [.ref hm]) ⟨hx, hb, hml, hown, hts⟩ (c_X8_plainOf l D cI cL cZ hm am n pos cmp que dsz mad cur stp met bst dgt E N r1 false tv (by omega) h7) (cwV 2 hts gX8_emptyOrPlus_X8_plainOf rfl rfl rfl (by decide +kernel) ⟨Nat.le_of_ble_eq_true rfl, Nat.le_of_ble_eq_true rfl⟩) (rP_V (wc := [(hm, .inr (6, oM am n pos cmp que dsz mad cur stp met bst)), (am 1, .inl (cI, 18, .inl (nA dgt)))]) (ci := 6) (q0 := 0) hK hP [0, 1] rfl rfl rfl) rfl rfl hl.1 rfl (lv_room (Nat.le_of_ble_eq_true rfl)) dX8_emptyOrPlus_73 ⟨Nat.zero_le _, Nat.zero_le _⟩) (fun r hrr => ?_)
      rw [hrr]
      refine xm_calli (pc := 76) (wc := [(hm, .inr (6, oM am n pos cmp que dsz mad cur stp met bst)), (am 1, .inl (cI, 18, .inl (nA dgt))), (am 20, .inl (cI, 36, .inl (nA rt)))]) (wr := []) (va_runV (As := [.int (nI (plO E r1 false))]) (rest := []) ⟨hx, hb, hml, hown, hts⟩ (c_X8_starOf l D cI cL cZ s.heap.size hm am n pos cmp que dsz mad cur stp met bst dgt E N rt ([]) (plO E r1 false) tv (by omega) (by have h0 := tv.q (show plO E r1 false < N by omega); omega) hL) (cwV 1 hts gX8_emptyOrPlus_X8_starOf rfl rfl rfl (by decide +kernel) ⟨Nat.le_of_ble_eq_true rfl, Nat.le_of_ble_eq_true rfl⟩) (mP_V (wc := [(hm, .inr (6, oM am n pos cmp que dsz mad cur stp met bst)), (am 1, .inl (cI, 18, .inl (nA dgt))), (am 20, .inl (cI, 36, .inl (nA rt)))]) (ci := 6) (q0 := 0) hK hP hD [0, 1, 2] (by decide) rfl rfl rfl) rfl rfl hl.1 rfl (lv_room (Nat.le_of_ble_eq_true rfl)) dX8_emptyOrPlus_76 ⟨Nat.zero_le _, Nat.zero_le _⟩) hP hD hS hA [0, 1, 2] [] rfl rfl (by decide) (by decide) (fun r u H locs hw hP hD hS => ?_)
      obtain ⟨mad2_76, rt2_76⟩ := u
      have hP : va_P D vwCl [(hm, .inr (6, oM am n pos cmp que dsz mad2_76 cur stp met bst)), (am 1, .inl (cI, 18, .inl (nA dgt))), (am 20, .inl (cI, 36, .inl (nA rt2_76)))] H := hP
      have hD : va_D _ [(hm, .inr (6, oM am n pos cmp que dsz mad2_76 cur stp met bst)), (am 1, .inl (cI, 18, .inl (nA dgt))), (am 20, .inl (cI, 36, .inl (nA rt2_76)))] := hD
      try dsimp only at hw
      obtain ⟨hrr, hw76⟩ := hw
      rw [hrr]
      have hU : rEP dgt E l1 r1 = some (([]) ++ (8 :: sb dgt E (plO E r1 false))) := by first | (simp [rEP, c53, c64]; done) | (exfalso; omega)
      have hP9 : va_P D vwCl [(hm, .inr (6, oM am n pos cmp que dsz mad2_76 cur stp met bst)), (am 1, .inl (cI, 18, .inl (nA dgt))), (am 20, .inl (cI, 36, .inl (nA rt2_76)))] H := hP.sub [0, 1, 2] rfl
      have hD9 : va_D _ [(hm, .inr (6, oM am n pos cmp que dsz mad2_76 cur stp met bst)), (am 1, .inl (cI, 18, .inl (nA dgt))), (am 20, .inl (cI, 36, .inl (nA rt2_76)))] := hD.sub [0, 1, 2] (by decide) rfl
      exact W.zret (pc := 79) (v := (nI (1))) (ty := .boolean) hx hb hr (by decide) (fun t ht hW => ⟨⟨_, (mad2_76, rt2_76), rfl, ⟨(by first | (rw [hU]; done) | (rw [hU]; rfl)), (by rw [hU]; exact hw76)⟩, by rw [ht]; exact hP9, va_K.moved hW.alike hK, hD9⟩, hS.F ht⟩) hS.2.2 dX8_emptyOrPlus_79
set_option maxHeartbeats 4000000 in
set_option maxRecDepth 100000 in
theorem c_X8_absorbs (l : Launch) (D : va_G) (cI cL cZ : ClassId) (sz : Nat) (hm : Nat) (am : Nat → Nat) (n : Nat) (pos : Nat) (cmp : Nat) (que : Nat) (dsz : Nat) (mad : Nat) (cur : Nat) (stp : Nat) (met : Nat) (bst : Nat) (dgt : Nat → Nat) (E : Nat → Nat) (N : Nat) (rt : Nat → Nat) (l1 : Nat) (r1 : Nat) (tv : TV dgt E N) (hl1 : l1 < N) (hr1 : r1 < N) (hab : r1 = E l1) (hL : RT rt mad []) : Met l yX8_absorbs wsX8_absorbs { frames := 3, cells := 0, slots := 0, locals := 69 } (mP D (tyL cI cL cZ) [(hm, .inr (6, oM am n pos cmp que dsz mad cur stp met bst)), (am 1, .inl (cI, 18, .inl (nA dgt))), (am 20, .inl (cI, 36, .inl (nA rt)))] sz [.ref hm, .int (nI l1), .int (nI r1)]) (va_Qi (fun (r : Int32) (u : Nat × (Nat → Nat)) => r = (nI (pN ((rAb dgt E l1 r1).isSome = true))) ∧ (RT u.2 u.1 ((rAb dgt E l1 r1).getD []))) (fun (u : Nat × (Nat → Nat)) (t : State) => mB D (tyL cI cL cZ) (va_A [(hm, .inr (6, oM am n pos cmp que dsz mad cur stp met bst)), (am 1, .inl (cI, 18, .inl (nA dgt))), (am 20, .inl (cI, 36, .inl (nA rt)))] sz) [(hm, .inr (6, oM am n pos cmp que dsz (u.1) cur stp met bst)), (am 1, .inl (cI, 18, .inl (nA dgt))), (am 20, .inl (cI, 36, .inl (nA (u.2))))] t) (va_A [(hm, .inr (6, oM am n pos cmp que dsz mad cur stp met bst)), (am 1, .inl (cI, 18, .inl (nA dgt))), (am 20, .inl (cI, 36, .inl (nA rt)))] sz)) 0 0 (va_A [(hm, .inr (6, oM am n pos cmp que dsz mad cur stp met bst)), (am 1, .inl (cI, 18, .inl (nA dgt))), (am 20, .inl (cI, 36, .inl (nA rt)))] sz) := by
  refine Met.ofW (cc := cX8_absorbs) (maxL := 3) (ret := (some .boolean)) (by decide) rfl ?_
  intro pG eG s mG args below meth cG s₁ B hml hpre9
  obtain ⟨rfl, hsz, hP, hK, hD0⟩ := hpre9
  have hx := B.exec
  have hb := B.bytes
  have hr := B.returns
  have hts := atoms_spec (ws := wsX8_absorbs) B.pre
  have hown : s.vm.findClass RX8 = some mG.cls := findClass_of_methodNamed B.named
  have hlocks := B.notSynchronized
  subst hsz
  have hD := hD0.self (sz := s.heap.size)
  have hA : ∀ q : Nat, s.heap.size ≤ q → va_A [(hm, .inr (6, oM am n pos cmp que dsz mad cur stp met bst)), (am 1, .inl (cI, 18, .inl (nA dgt))), (am 20, .inl (cI, 36, .inl (nA rt)))] s.heap.size q := fun q h => Or.inr h
  have hS : va_S (va_A [(hm, .inr (6, oM am n pos cmp que dsz mad cur stp met bst)), (am 1, .inl (cI, 18, .inl (nA dgt))), (am 20, .inl (cI, 36, .inl (nA rt)))] s.heap.size) s.heap s.heap [] := va_S.rf
  have hinX8 : ∀ w ∈ wsX80, w ∈ wsX8_absorbs := fun w HH => (List.mem_cons_of_mem _ (List.mem_append_right _ HH))
  have lk0 : (Cond.fieldLink RX8 7 "RegexSimplifierModel" "digit" "[I").before _ s = true := hts _ (List.mem_cons_of_mem _ (List.mem_append_left _ (List.mem_of_getElem? (i := 0) rfl)))
  have hl := lv_entry ([.ref hm, .int (nI l1), .int (nI r1)]) (n := 3) (Nat.le_of_ble_eq_true rfl)
  rw [lg_entry_eq]
  generalize (lg_sl ([.ref hm, .int (nI l1), .int (nI r1)]) ++ List.replicate (3 - (lg_sl ([.ref hm, .int (nI l1), .int (nI r1)])).length) Slot.unset).toArray = ls at hl ⊢
  have hl : lv_has ls 3 [(0, .ref hm), (1, .int (nI l1)), (2, .int (nI r1))] := hl
  have hn18 := tv.n18
  have hmad : mad = 0 := hL.1
  have hql := tv.q hl1
  have hqr := tv.q hr1
  refine lv_aload_n (pc := 0) hx hb dX8_absorbs_0 rfl (lv_at hl 0 rfl) ?_
  refine va_get (pc := 1) (D := D) (ci := 6) (v := .ref (am 1)) (C := RX8) (T := TX8) (N := 30) hx hb hts hinX8 hown hK hP 0 rfl rfl 1 (by decide) lk0 (fun _ h9 => h9) rfl dX8_absorbs_1 ?_
  refine lv_iload_n (pc := 4) hx hb dX8_absorbs_4 rfl (lv_at hl 2 rfl) ?_
  refine xa_iald (pc := 5) hx hb hK hP 1 0 rfl rfl (by omega) (by omega) dX8_absorbs_5 ?_
  refine lv_bipush (pc := 6) (v := (nI (6))) hx hb dX8_absorbs_6 (by decide) ?_
  refine xn_icmp_eq (pc := 8) (tgt := 13) hx hb (by have h5 := tv.q (show r1 < N by omega); omega) (by omega) dX8_absorbs_8 (by decide) (fun c8 => ?_) (fun c8 => ?_)
  · have ht := tv.two hr1 (Or.inl c8)
    refine lv_aload_n (pc := 13) hx hb dX8_absorbs_13 rfl (lv_at hl 0 rfl) ?_
    refine lv_iload_n (pc := 14) hx hb dX8_absorbs_14 rfl (lv_at hl 1 rfl) ?_
    refine lv_iload_n (pc := 15) hx hb dX8_absorbs_15 rfl (lv_at hl 2 rfl) ?_
    refine lv_iconst (pc := 16) (v := (nI (1))) hx hb dX8_absorbs_16 (by decide) ?_
    refine xn_iadd (pc := 17) hx hb  dX8_absorbs_17 ?_
    refine vp_callSi (pc := 18) (W.runV (As := [.int (nI l1), .int (nI (r1 + 1))]) (rest := []) ⟨hx, hb, hml, hown, hts⟩ (c_X8_areSame l D cI cL cZ hm am n pos cmp que dsz mad cur stp met bst dgt E N l1 (r1 + 1) tv (by omega) (by omega)) (cwV 2 hts gX8_absorbs_X8_areSame rfl rfl rfl (by decide +kernel) ⟨Nat.le_of_ble_eq_true rfl, Nat.le_of_ble_eq_true rfl⟩) (rP_V (wc := [(hm, .inr (6, oM am n pos cmp que dsz mad cur stp met bst)), (am 1, .inl (cI, 18, .inl (nA dgt)))]) (ci := 6) (q0 := 0) hK hP [0, 1] rfl rfl rfl) rfl rfl hl.1 rfl (lv_room (Nat.le_of_ble_eq_true rfl)) dX8_absorbs_18 ⟨Nat.zero_le _, Nat.zero_le _⟩) (fun r hrr => ?_)
    rw [hrr]
    refine xp_if_eq (pc := 21) (tgt := 30) hx hb dX8_absorbs_21 (by decide) (fun c21 => ?_) (fun c21 => ?_)
    · refine lv_aload_n (pc := 30) hx hb dX8_absorbs_30 rfl (lv_at hl 0 rfl) ?_
      refine lv_iload_n (pc := 31) hx hb dX8_absorbs_31 rfl (lv_at hl 1 rfl) ?_
      refine lv_aload_n (pc := 32) hx hb dX8_absorbs_32 rfl (lv_at hl 0 rfl) ?_
      refine lv_iload_n (pc := 33) hx hb dX8_absorbs_33 rfl (lv_at hl 2 rfl) ?_
      refine lv_iconst (pc := 34) (v := (nI (1))) hx hb dX8_absorbs_34 (by decide) ?_
      refine xn_iadd (pc := 35) hx hb  dX8_absorbs_35 ?_
      refine vp_callSi (pc := 36) (W.runV (As := [.int (nI (r1 + 1))]) (rest := [.int (nI l1), .ref hm]) ⟨hx, hb, hml, hown, hts⟩ (c_X8_endOf l D cI cL cZ hm am n pos cmp que dsz mad cur stp met bst dgt E N (r1 + 1) tv (by omega)) (cwV 1 hts gX8_absorbs_X8_endOf rfl rfl rfl (by decide +kernel) ⟨Nat.le_of_ble_eq_true rfl, Nat.le_of_ble_eq_true rfl⟩) (rP_V (wc := [(hm, .inr (6, oM am n pos cmp que dsz mad cur stp met bst)), (am 1, .inl (cI, 18, .inl (nA dgt)))]) (ci := 6) (q0 := 0) hK hP [0, 1] rfl rfl rfl) rfl rfl hl.1 rfl (lv_room (Nat.le_of_ble_eq_true rfl)) dX8_absorbs_36 ⟨Nat.zero_le _, Nat.zero_le _⟩) (fun r hrr => ?_)
      rw [hrr]
      refine vp_callSi (pc := 39) (W.runV (As := [.int (nI l1), .int (nI (E (r1 + 1)))]) (rest := []) ⟨hx, hb, hml, hown, hts⟩ (c_X8_areSame l D cI cL cZ hm am n pos cmp que dsz mad cur stp met bst dgt E N l1 (E (r1 + 1)) tv (by omega) (by omega)) (cwV 2 hts gX8_absorbs_X8_areSame rfl rfl rfl (by decide +kernel) ⟨Nat.le_of_ble_eq_true rfl, Nat.le_of_ble_eq_true rfl⟩) (rP_V (wc := [(hm, .inr (6, oM am n pos cmp que dsz mad cur stp met bst)), (am 1, .inl (cI, 18, .inl (nA dgt)))]) (ci := 6) (q0 := 0) hK hP [0, 1] rfl rfl rfl) rfl rfl hl.1 rfl (lv_room (Nat.le_of_ble_eq_true rfl)) dX8_absorbs_39 ⟨Nat.zero_le _, Nat.zero_le _⟩) (fun r hrr => ?_)
      rw [hrr]
      refine xp_if_eq (pc := 42) (tgt := 62) hx hb dX8_absorbs_42 (by decide) (fun c42 => ?_) (fun c42 => ?_)
      · refine lv_iconst (pc := 62) (v := (nI (0))) hx hb dX8_absorbs_62 (by decide) ?_
        have hU : rAb dgt E l1 r1 = none := by first | (simp [rAb, c8, c21, c42]; done) | (exfalso; omega)
        have hP9 : va_P D vwCl [(hm, .inr (6, oM am n pos cmp que dsz mad cur stp met bst)), (am 1, .inl (cI, 18, .inl (nA dgt))), (am 20, .inl (cI, 36, .inl (nA rt)))] s.heap := hP.sub [0, 1, 2] rfl
        have hD9 : va_D _ [(hm, .inr (6, oM am n pos cmp que dsz mad cur stp met bst)), (am 1, .inl (cI, 18, .inl (nA dgt))), (am 20, .inl (cI, 36, .inl (nA rt)))] := hD.sub [0, 1, 2] (by decide) rfl
        exact W.zret (pc := 63) (v := (nI (0))) (ty := .boolean) hx hb hr (by decide) (fun t ht hW => ⟨⟨_, (mad, rt), rfl, ⟨(by first | (rw [hU]; done) | (rw [hU]; rfl)), (by rw [hU]; exact hL)⟩, by rw [ht]; exact hP9, va_K.moved hW.alike hK, hD9⟩, hS.F ht⟩) hS.2.2 dX8_absorbs_63
      · refine lv_aload_n (pc := 45) hx hb dX8_absorbs_45 rfl (lv_at hl 0 rfl) ?_
        refine lv_bipush (pc := 46) (v := (nI (6))) hx hb dX8_absorbs_46 (by decide) ?_
        refine lv_iload_n (pc := 48) hx hb dX8_absorbs_48 rfl (lv_at hl 1 rfl) ?_
        refine lv_iload_n (pc := 49) hx hb dX8_absorbs_49 rfl (lv_at hl 2 rfl) ?_
        refine lv_iconst (pc := 50) (v := (nI (1))) hx hb dX8_absorbs_50 (by decide) ?_
        refine xn_iadd (pc := 51) hx hb  dX8_absorbs_51 ?_
        refine xm_calli (pc := 52) (wc := [(hm, .inr (6, oM am n pos cmp que dsz mad cur stp met bst)), (am 1, .inl (cI, 18, .inl (nA dgt))), (am 20, .inl (cI, 36, .inl (nA rt)))]) (wr := []) (va_runV (As := [.int (nI 6), .int (nI l1), .int (nI (r1 + 1))]) (rest := []) ⟨hx, hb, hml, hown, hts⟩ (c_X8_writes l D cI cL cZ s.heap.size hm am n pos cmp que dsz mad cur stp met bst dgt E N rt ([]) 6 l1 (r1 + 1) tv (by omega) (by omega) (by have h0 := tv.q (show l1 < N by omega); have h1 := tv.q (show r1 + 1 < N by omega); omega) hL) (cwV 3 hts gX8_absorbs_X8_writes rfl rfl rfl (by decide +kernel) ⟨Nat.le_of_ble_eq_true rfl, Nat.le_of_ble_eq_true rfl⟩) (mP_V (wc := [(hm, .inr (6, oM am n pos cmp que dsz mad cur stp met bst)), (am 1, .inl (cI, 18, .inl (nA dgt))), (am 20, .inl (cI, 36, .inl (nA rt)))]) (ci := 6) (q0 := 0) hK hP hD [0, 1, 2] (by decide) rfl rfl rfl) rfl rfl hl.1 rfl (lv_room (Nat.le_of_ble_eq_true rfl)) dX8_absorbs_52 ⟨Nat.zero_le _, Nat.zero_le _⟩) hP hD hS hA [0, 1, 2] [] rfl rfl (by decide) (by decide) (fun r u H locs hw hP hD hS => ?_)
        obtain ⟨mad2_52, rt2_52⟩ := u
        have hP : va_P D vwCl [(hm, .inr (6, oM am n pos cmp que dsz mad2_52 cur stp met bst)), (am 1, .inl (cI, 18, .inl (nA dgt))), (am 20, .inl (cI, 36, .inl (nA rt2_52)))] H := hP
        have hD : va_D _ [(hm, .inr (6, oM am n pos cmp que dsz mad2_52 cur stp met bst)), (am 1, .inl (cI, 18, .inl (nA dgt))), (am 20, .inl (cI, 36, .inl (nA rt2_52)))] := hD
        try dsimp only at hw
        obtain ⟨hrr, hw52⟩ := hw
        rw [hrr]
        refine lv_if_eq (pc := 55) (tgt := 62) hx hb dX8_absorbs_55 (by decide) (fun h => absurd h (by decide)) (fun _ => ?_)
        refine lv_iconst (pc := 58) (v := (nI (1))) hx hb dX8_absorbs_58 (by decide) ?_
        refine lv_goto (pc := 59) (tgt := 63) hx hb dX8_absorbs_59 (by decide) ?_
        have hU : rAb dgt E l1 r1 = some (([]) ++ (6 :: (sb dgt E l1 ++ sb dgt E (r1 + 1)))) := by first | (simp [rAb, c8, c21, c42]; done) | (exfalso; omega)
        have hP9 : va_P D vwCl [(hm, .inr (6, oM am n pos cmp que dsz mad2_52 cur stp met bst)), (am 1, .inl (cI, 18, .inl (nA dgt))), (am 20, .inl (cI, 36, .inl (nA rt2_52)))] H := hP.sub [0, 1, 2] rfl
        have hD9 : va_D _ [(hm, .inr (6, oM am n pos cmp que dsz mad2_52 cur stp met bst)), (am 1, .inl (cI, 18, .inl (nA dgt))), (am 20, .inl (cI, 36, .inl (nA rt2_52)))] := hD.sub [0, 1, 2] (by decide) rfl
        exact W.zret (pc := 63) (v := (nI (1))) (ty := .boolean) hx hb hr (by decide) (fun t ht hW => ⟨⟨_, (mad2_52, rt2_52), rfl, ⟨(by first | (rw [hU]; done) | (rw [hU]; rfl)), (by rw [hU]; exact hw52)⟩, by rw [ht]; exact hP9, va_K.moved hW.alike hK, hD9⟩, hS.F ht⟩) hS.2.2 dX8_absorbs_63
    · refine lv_aload_n (pc := 24) hx hb dX8_absorbs_24 rfl (lv_at hl 0 rfl) ?_
      refine lv_iload_n (pc := 25) hx hb dX8_absorbs_25 rfl (lv_at hl 2 rfl) ?_
      refine xm_calli (pc := 26) (wc := [(hm, .inr (6, oM am n pos cmp que dsz mad cur stp met bst)), (am 1, .inl (cI, 18, .inl (nA dgt))), (am 20, .inl (cI, 36, .inl (nA rt)))]) (wr := []) (va_runV (As := [.int (nI r1)]) (rest := []) ⟨hx, hb, hml, hown, hts⟩ (c_X8_copies l D cI cL cZ s.heap.size hm am n pos cmp que dsz mad cur stp met bst dgt E N rt ([]) r1 tv (by omega) (by have h0 := tv.q (show r1 < N by omega); omega) hL) (cwV 1 hts gX8_absorbs_X8_copies rfl rfl rfl (by decide +kernel) ⟨Nat.le_of_ble_eq_true rfl, Nat.le_of_ble_eq_true rfl⟩) (mP_V (wc := [(hm, .inr (6, oM am n pos cmp que dsz mad cur stp met bst)), (am 1, .inl (cI, 18, .inl (nA dgt))), (am 20, .inl (cI, 36, .inl (nA rt)))]) (ci := 6) (q0 := 0) hK hP hD [0, 1, 2] (by decide) rfl rfl rfl) rfl rfl hl.1 rfl (lv_room (Nat.le_of_ble_eq_true rfl)) dX8_absorbs_26 ⟨Nat.zero_le _, Nat.zero_le _⟩) hP hD hS hA [0, 1, 2] [] rfl rfl (by decide) (by decide) (fun r u H locs hw hP hD hS => ?_)
      obtain ⟨mad2_26, rt2_26⟩ := u
      have hP : va_P D vwCl [(hm, .inr (6, oM am n pos cmp que dsz mad2_26 cur stp met bst)), (am 1, .inl (cI, 18, .inl (nA dgt))), (am 20, .inl (cI, 36, .inl (nA rt2_26)))] H := hP
      have hD : va_D _ [(hm, .inr (6, oM am n pos cmp que dsz mad2_26 cur stp met bst)), (am 1, .inl (cI, 18, .inl (nA dgt))), (am 20, .inl (cI, 36, .inl (nA rt2_26)))] := hD
      try dsimp only at hw
      obtain ⟨hrr, hw26⟩ := hw
      rw [hrr]
      have hU : rAb dgt E l1 r1 = some (([]) ++ sb dgt E r1) := by first | (simp [rAb, c8, c21]; done) | (exfalso; omega)
      have hP9 : va_P D vwCl [(hm, .inr (6, oM am n pos cmp que dsz mad2_26 cur stp met bst)), (am 1, .inl (cI, 18, .inl (nA dgt))), (am 20, .inl (cI, 36, .inl (nA rt2_26)))] H := hP.sub [0, 1, 2] rfl
      have hD9 : va_D _ [(hm, .inr (6, oM am n pos cmp que dsz mad2_26 cur stp met bst)), (am 1, .inl (cI, 18, .inl (nA dgt))), (am 20, .inl (cI, 36, .inl (nA rt2_26)))] := hD.sub [0, 1, 2] (by decide) rfl
      exact W.zret (pc := 29) (v := (nI (1))) (ty := .boolean) hx hb hr (by decide) (fun t ht hW => ⟨⟨_, (mad2_26, rt2_26), rfl, ⟨(by first | (rw [hU]; done) | (rw [hU]; rfl)), (by rw [hU]; exact hw26)⟩, by rw [ht]; exact hP9, va_K.moved hW.alike hK, hD9⟩, hS.F ht⟩) hS.2.2 dX8_absorbs_29
  · refine lv_iconst (pc := 11) (v := (nI (0))) hx hb dX8_absorbs_11 (by decide) ?_
    have hU : rAb dgt E l1 r1 = none := by first | (simp [rAb, c8]; done) | (exfalso; omega)
    have hP9 : va_P D vwCl [(hm, .inr (6, oM am n pos cmp que dsz mad cur stp met bst)), (am 1, .inl (cI, 18, .inl (nA dgt))), (am 20, .inl (cI, 36, .inl (nA rt)))] s.heap := hP.sub [0, 1, 2] rfl
    have hD9 : va_D _ [(hm, .inr (6, oM am n pos cmp que dsz mad cur stp met bst)), (am 1, .inl (cI, 18, .inl (nA dgt))), (am 20, .inl (cI, 36, .inl (nA rt)))] := hD.sub [0, 1, 2] (by decide) rfl
    exact W.zret (pc := 12) (v := (nI (0))) (ty := .boolean) hx hb hr (by decide) (fun t ht hW => ⟨⟨_, (mad, rt), rfl, ⟨(by first | (rw [hU]; done) | (rw [hU]; rfl)), (by rw [hU]; exact hL)⟩, by rw [ht]; exact hP9, va_K.moved hW.alike hK, hD9⟩, hS.F ht⟩) hS.2.2 dX8_absorbs_12
set_option maxHeartbeats 4000000 in
set_option maxRecDepth 100000 in
theorem c_X8_concatenationRule (l : Launch) (D : va_G) (cI cL cZ : ClassId) (sz : Nat) (hm : Nat) (am : Nat → Nat) (n : Nat) (pos : Nat) (cmp : Nat) (que : Nat) (dsz : Nat) (mad : Nat) (cur : Nat) (stp : Nat) (met : Nat) (bst : Nat) (dgt : Nat → Nat) (E : Nat → Nat) (N : Nat) (rt : Nat → Nat) (rl : Nat) (l1 : Nat) (r1 : Nat) (tv : TV dgt E N) (hrl : rl < 16) (hl1 : l1 < N) (hr1 : r1 < N) (hab : r1 = E l1) (hL : RT rt mad []) : Met l yX8_concatenationRule wsX8_concatenationRule { frames := 2, cells := 0, slots := 0, locals := 47 } (mP D (tyL cI cL cZ) [(hm, .inr (6, oM am n pos cmp que dsz mad cur stp met bst)), (am 1, .inl (cI, 18, .inl (nA dgt))), (am 20, .inl (cI, 36, .inl (nA rt)))] sz [.ref hm, .int (nI rl), .int (nI l1), .int (nI r1)]) (va_Qi (fun (r : Int32) (u : Nat × (Nat → Nat)) => r = (nI (pN ((rCt dgt E rl l1 r1).isSome = true))) ∧ (RT u.2 u.1 ((rCt dgt E rl l1 r1).getD []))) (fun (u : Nat × (Nat → Nat)) (t : State) => mB D (tyL cI cL cZ) (va_A [(hm, .inr (6, oM am n pos cmp que dsz mad cur stp met bst)), (am 1, .inl (cI, 18, .inl (nA dgt))), (am 20, .inl (cI, 36, .inl (nA rt)))] sz) [(hm, .inr (6, oM am n pos cmp que dsz (u.1) cur stp met bst)), (am 1, .inl (cI, 18, .inl (nA dgt))), (am 20, .inl (cI, 36, .inl (nA (u.2))))] t) (va_A [(hm, .inr (6, oM am n pos cmp que dsz mad cur stp met bst)), (am 1, .inl (cI, 18, .inl (nA dgt))), (am 20, .inl (cI, 36, .inl (nA rt)))] sz)) 0 0 (va_A [(hm, .inr (6, oM am n pos cmp que dsz mad cur stp met bst)), (am 1, .inl (cI, 18, .inl (nA dgt))), (am 20, .inl (cI, 36, .inl (nA rt)))] sz) := by
  refine Met.ofW (cc := cX8_concatenationRule) (maxL := 4) (ret := (some .boolean)) (by decide) rfl ?_
  intro pG eG s mG args below meth cG s₁ B hml hpre9
  obtain ⟨rfl, hsz, hP, hK, hD0⟩ := hpre9
  have hx := B.exec
  have hb := B.bytes
  have hr := B.returns
  have hts := atoms_spec (ws := wsX8_concatenationRule) B.pre
  have hown : s.vm.findClass RX8 = some mG.cls := findClass_of_methodNamed B.named
  have hlocks := B.notSynchronized
  subst hsz
  have hD := hD0.self (sz := s.heap.size)
  have hA : ∀ q : Nat, s.heap.size ≤ q → va_A [(hm, .inr (6, oM am n pos cmp que dsz mad cur stp met bst)), (am 1, .inl (cI, 18, .inl (nA dgt))), (am 20, .inl (cI, 36, .inl (nA rt)))] s.heap.size q := fun q h => Or.inr h
  have hS : va_S (va_A [(hm, .inr (6, oM am n pos cmp que dsz mad cur stp met bst)), (am 1, .inl (cI, 18, .inl (nA dgt))), (am 20, .inl (cI, 36, .inl (nA rt)))] s.heap.size) s.heap s.heap [] := va_S.rf
  have hinX8 : ∀ w ∈ wsX80, w ∈ wsX8_concatenationRule := fun w HH => (List.mem_cons_of_mem _ (List.mem_append_right _ HH))
  have lk0 : (Cond.fieldLink RX8 7 "RegexSimplifierModel" "digit" "[I").before _ s = true := hts _ (List.mem_cons_of_mem _ (List.mem_append_left _ (List.mem_of_getElem? (i := 0) rfl)))
  have hl := lv_entry ([.ref hm, .int (nI rl), .int (nI l1), .int (nI r1)]) (n := 4) (Nat.le_of_ble_eq_true rfl)
  rw [lg_entry_eq]
  generalize (lg_sl ([.ref hm, .int (nI rl), .int (nI l1), .int (nI r1)]) ++ List.replicate (4 - (lg_sl ([.ref hm, .int (nI rl), .int (nI l1), .int (nI r1)])).length) Slot.unset).toArray = ls at hl ⊢
  have hl : lv_has ls 4 [(0, .ref hm), (1, .int (nI rl)), (2, .int (nI l1)), (3, .int (nI r1))] := hl
  have hn18 := tv.n18
  have hmad : mad = 0 := hL.1
  have hql := tv.q hl1
  have hqr := tv.q hr1
  refine lv_iload_n (pc := 0) hx hb dX8_concatenationRule_0 rfl (lv_at hl 1 rfl) ?_
  rcases lt16 hrl with rfl | rfl | rfl | rfl | rfl | rfl | rfl | rfl | rfl | rfl | rfl | rfl | rfl | rfl | rfl | rfl
  · refine lv_lookup (pc := 1) (tgt := 146) (off := 145) hx hb dX8_concatenationRule_1 (by decide) (by decide) (by decide) ?_
    refine lv_iconst (pc := 146) (v := (nI (0))) hx hb dX8_concatenationRule_146 (by decide) ?_
    have hU : rCt dgt E 0 l1 r1 = none := by first | (simp [rCt]; done) | (exfalso; omega)
    have hP9 : va_P D vwCl [(hm, .inr (6, oM am n pos cmp que dsz mad cur stp met bst)), (am 1, .inl (cI, 18, .inl (nA dgt))), (am 20, .inl (cI, 36, .inl (nA rt)))] s.heap := hP.sub [0, 1, 2] rfl
    have hD9 : va_D _ [(hm, .inr (6, oM am n pos cmp que dsz mad cur stp met bst)), (am 1, .inl (cI, 18, .inl (nA dgt))), (am 20, .inl (cI, 36, .inl (nA rt)))] := hD.sub [0, 1, 2] (by decide) rfl
    exact W.zret (pc := 147) (v := (nI (0))) (ty := .boolean) hx hb hr (by decide) (fun t ht hW => ⟨⟨_, (mad, rt), rfl, ⟨(by first | (rw [hU]; done) | (rw [hU]; rfl)), (by rw [hU]; exact hL)⟩, by rw [ht]; exact hP9, va_K.moved hW.alike hK, hD9⟩, hS.F ht⟩) hS.2.2 dX8_concatenationRule_147
  · refine lv_lookup (pc := 1) (tgt := 36) (off := 35) hx hb dX8_concatenationRule_1 (by decide) (by decide) (by decide) ?_
    refine lv_aload_n (pc := 36) hx hb dX8_concatenationRule_36 rfl (lv_at hl 0 rfl) ?_
    refine va_get (pc := 37) (D := D) (ci := 6) (v := .ref (am 1)) (C := RX8) (T := TX8) (N := 30) hx hb hts hinX8 hown hK hP 0 rfl rfl 1 (by decide) lk0 (fun _ h9 => h9) rfl dX8_concatenationRule_37 ?_
    refine lv_iload_n (pc := 40) hx hb dX8_concatenationRule_40 rfl (lv_at hl 2 rfl) ?_
    refine xa_iald (pc := 41) hx hb hK hP 1 0 rfl rfl (by omega) (by omega) dX8_concatenationRule_41 ?_
    refine lv_iconst (pc := 42) (v := (nI (1))) hx hb dX8_concatenationRule_42 (by decide) ?_
    refine xn_icmp_eq (pc := 43) (tgt := 56) hx hb (by have h5 := tv.q (show l1 < N by omega); omega) (by omega) dX8_concatenationRule_43 (by decide) (fun c43 => ?_) (fun c43 => ?_)
    · refine lv_aload_n (pc := 56) hx hb dX8_concatenationRule_56 rfl (lv_at hl 0 rfl) ?_
      refine lv_iconst (pc := 57) (v := (nI (1))) hx hb dX8_concatenationRule_57 (by decide) ?_
      refine xm_calli (pc := 58) (wc := [(hm, .inr (6, oM am n pos cmp que dsz mad cur stp met bst)), (am 20, .inl (cI, 36, .inl (nA rt)))]) (wr := [(am 1, .inl (cI, 18, .inl (nA dgt)))]) (va_runV (As := [.int (nI 1)]) (rest := []) ⟨hx, hb, hml, hown, hts⟩ (c_X8_emits l D cI cL cZ s.heap.size hm am n pos cmp que dsz mad cur stp met bst rt ([]) 1 (by omega) hL) (cwV 1 hts gX8_concatenationRule_X8_emits rfl rfl rfl (by decide +kernel) ⟨Nat.le_of_ble_eq_true rfl, Nat.le_of_ble_eq_true rfl⟩) (mP_V (wc := [(hm, .inr (6, oM am n pos cmp que dsz mad cur stp met bst)), (am 20, .inl (cI, 36, .inl (nA rt)))]) (ci := 6) (q0 := 0) hK hP hD [0, 2] (by decide) rfl rfl rfl) rfl rfl hl.1 rfl (lv_room (Nat.le_of_ble_eq_true rfl)) dX8_concatenationRule_58 ⟨Nat.zero_le _, Nat.zero_le _⟩) hP hD hS hA [0, 2] [1] rfl rfl (by decide) (by decide) (fun r u H locs hw hP hD hS => ?_)
      obtain ⟨mad2_58, rt2_58⟩ := u
      have hP : va_P D vwCl [(am 1, .inl (cI, 18, .inl (nA dgt))), (hm, .inr (6, oM am n pos cmp que dsz mad2_58 cur stp met bst)), (am 20, .inl (cI, 36, .inl (nA rt2_58)))] H := hP
      have hD : va_D _ [(am 1, .inl (cI, 18, .inl (nA dgt))), (hm, .inr (6, oM am n pos cmp que dsz mad2_58 cur stp met bst)), (am 20, .inl (cI, 36, .inl (nA rt2_58)))] := hD
      try dsimp only at hw
      obtain ⟨hrr, hw58⟩ := hw
      rw [hrr]
      refine lv_if_eq (pc := 61) (tgt := 68) hx hb dX8_concatenationRule_61 (by decide) (fun h => absurd h (by decide)) (fun _ => ?_)
      refine lv_iconst (pc := 64) (v := (nI (1))) hx hb dX8_concatenationRule_64 (by decide) ?_
      refine lv_goto (pc := 65) (tgt := 69) hx hb dX8_concatenationRule_65 (by decide) ?_
      have hU : rCt dgt E 1 l1 r1 = some (([]) ++ [1]) := by first | (simp [rCt, c43]; done) | (exfalso; omega)
      have hP9 : va_P D vwCl [(hm, .inr (6, oM am n pos cmp que dsz mad2_58 cur stp met bst)), (am 1, .inl (cI, 18, .inl (nA dgt))), (am 20, .inl (cI, 36, .inl (nA rt2_58)))] H := hP.sub [1, 0, 2] rfl
      have hD9 : va_D _ [(hm, .inr (6, oM am n pos cmp que dsz mad2_58 cur stp met bst)), (am 1, .inl (cI, 18, .inl (nA dgt))), (am 20, .inl (cI, 36, .inl (nA rt2_58)))] := hD.sub [1, 0, 2] (by decide) rfl
      exact W.zret (pc := 69) (v := (nI (1))) (ty := .boolean) hx hb hr (by decide) (fun t ht hW => ⟨⟨_, (mad2_58, rt2_58), rfl, ⟨(by first | (rw [hU]; done) | (rw [hU]; rfl)), (by rw [hU]; exact hw58)⟩, by rw [ht]; exact hP9, va_K.moved hW.alike hK, hD9⟩, hS.F ht⟩) hS.2.2 dX8_concatenationRule_69
    · refine lv_aload_n (pc := 46) hx hb dX8_concatenationRule_46 rfl (lv_at hl 0 rfl) ?_
      refine va_get (pc := 47) (D := D) (ci := 6) (v := .ref (am 1)) (C := RX8) (T := TX8) (N := 30) hx hb hts hinX8 hown hK hP 0 rfl rfl 1 (by decide) lk0 (fun _ h9 => h9) rfl dX8_concatenationRule_47 ?_
      refine lv_iload_n (pc := 50) hx hb dX8_concatenationRule_50 rfl (lv_at hl 3 rfl) ?_
      refine xa_iald (pc := 51) hx hb hK hP 1 0 rfl rfl (by omega) (by omega) dX8_concatenationRule_51 ?_
      refine lv_iconst (pc := 52) (v := (nI (1))) hx hb dX8_concatenationRule_52 (by decide) ?_
      refine xn_icmp_ne (pc := 53) (tgt := 68) hx hb (by have h5 := tv.q (show r1 < N by omega); omega) (by omega) dX8_concatenationRule_53 (by decide) (fun c53 => ?_) (fun c53 => ?_)
      · refine lv_iconst (pc := 68) (v := (nI (0))) hx hb dX8_concatenationRule_68 (by decide) ?_
        have hU : rCt dgt E 1 l1 r1 = none := by first | (simp [rCt, c43, c53]; done) | (exfalso; omega)
        have hP9 : va_P D vwCl [(hm, .inr (6, oM am n pos cmp que dsz mad cur stp met bst)), (am 1, .inl (cI, 18, .inl (nA dgt))), (am 20, .inl (cI, 36, .inl (nA rt)))] s.heap := hP.sub [0, 1, 2] rfl
        have hD9 : va_D _ [(hm, .inr (6, oM am n pos cmp que dsz mad cur stp met bst)), (am 1, .inl (cI, 18, .inl (nA dgt))), (am 20, .inl (cI, 36, .inl (nA rt)))] := hD.sub [0, 1, 2] (by decide) rfl
        exact W.zret (pc := 69) (v := (nI (0))) (ty := .boolean) hx hb hr (by decide) (fun t ht hW => ⟨⟨_, (mad, rt), rfl, ⟨(by first | (rw [hU]; done) | (rw [hU]; rfl)), (by rw [hU]; exact hL)⟩, by rw [ht]; exact hP9, va_K.moved hW.alike hK, hD9⟩, hS.F ht⟩) hS.2.2 dX8_concatenationRule_69
      · refine lv_aload_n (pc := 56) hx hb dX8_concatenationRule_56 rfl (lv_at hl 0 rfl) ?_
        refine lv_iconst (pc := 57) (v := (nI (1))) hx hb dX8_concatenationRule_57 (by decide) ?_
        refine xm_calli (pc := 58) (wc := [(hm, .inr (6, oM am n pos cmp que dsz mad cur stp met bst)), (am 20, .inl (cI, 36, .inl (nA rt)))]) (wr := [(am 1, .inl (cI, 18, .inl (nA dgt)))]) (va_runV (As := [.int (nI 1)]) (rest := []) ⟨hx, hb, hml, hown, hts⟩ (c_X8_emits l D cI cL cZ s.heap.size hm am n pos cmp que dsz mad cur stp met bst rt ([]) 1 (by omega) hL) (cwV 1 hts gX8_concatenationRule_X8_emits rfl rfl rfl (by decide +kernel) ⟨Nat.le_of_ble_eq_true rfl, Nat.le_of_ble_eq_true rfl⟩) (mP_V (wc := [(hm, .inr (6, oM am n pos cmp que dsz mad cur stp met bst)), (am 20, .inl (cI, 36, .inl (nA rt)))]) (ci := 6) (q0 := 0) hK hP hD [0, 2] (by decide) rfl rfl rfl) rfl rfl hl.1 rfl (lv_room (Nat.le_of_ble_eq_true rfl)) dX8_concatenationRule_58 ⟨Nat.zero_le _, Nat.zero_le _⟩) hP hD hS hA [0, 2] [1] rfl rfl (by decide) (by decide) (fun r u H locs hw hP hD hS => ?_)
        obtain ⟨mad2_58, rt2_58⟩ := u
        have hP : va_P D vwCl [(am 1, .inl (cI, 18, .inl (nA dgt))), (hm, .inr (6, oM am n pos cmp que dsz mad2_58 cur stp met bst)), (am 20, .inl (cI, 36, .inl (nA rt2_58)))] H := hP
        have hD : va_D _ [(am 1, .inl (cI, 18, .inl (nA dgt))), (hm, .inr (6, oM am n pos cmp que dsz mad2_58 cur stp met bst)), (am 20, .inl (cI, 36, .inl (nA rt2_58)))] := hD
        try dsimp only at hw
        obtain ⟨hrr, hw58⟩ := hw
        rw [hrr]
        refine lv_if_eq (pc := 61) (tgt := 68) hx hb dX8_concatenationRule_61 (by decide) (fun h => absurd h (by decide)) (fun _ => ?_)
        refine lv_iconst (pc := 64) (v := (nI (1))) hx hb dX8_concatenationRule_64 (by decide) ?_
        refine lv_goto (pc := 65) (tgt := 69) hx hb dX8_concatenationRule_65 (by decide) ?_
        have hU : rCt dgt E 1 l1 r1 = some (([]) ++ [1]) := by first | (simp [rCt, c43, c53]; done) | (exfalso; omega)
        have hP9 : va_P D vwCl [(hm, .inr (6, oM am n pos cmp que dsz mad2_58 cur stp met bst)), (am 1, .inl (cI, 18, .inl (nA dgt))), (am 20, .inl (cI, 36, .inl (nA rt2_58)))] H := hP.sub [1, 0, 2] rfl
        have hD9 : va_D _ [(hm, .inr (6, oM am n pos cmp que dsz mad2_58 cur stp met bst)), (am 1, .inl (cI, 18, .inl (nA dgt))), (am 20, .inl (cI, 36, .inl (nA rt2_58)))] := hD.sub [1, 0, 2] (by decide) rfl
        exact W.zret (pc := 69) (v := (nI (1))) (ty := .boolean) hx hb hr (by decide) (fun t ht hW => ⟨⟨_, (mad2_58, rt2_58), rfl, ⟨(by first | (rw [hU]; done) | (rw [hU]; rfl)), (by rw [hU]; exact hw58)⟩, by rw [ht]; exact hP9, va_K.moved hW.alike hK, hD9⟩, hS.F ht⟩) hS.2.2 dX8_concatenationRule_69
  · refine lv_lookup (pc := 1) (tgt := 70) (off := 69) hx hb dX8_concatenationRule_1 (by decide) (by decide) (by decide) ?_
    refine lv_aload_n (pc := 70) hx hb dX8_concatenationRule_70 rfl (lv_at hl 0 rfl) ?_
    refine va_get (pc := 71) (D := D) (ci := 6) (v := .ref (am 1)) (C := RX8) (T := TX8) (N := 30) hx hb hts hinX8 hown hK hP 0 rfl rfl 1 (by decide) lk0 (fun _ h9 => h9) rfl dX8_concatenationRule_71 ?_
    refine lv_iload_n (pc := 74) hx hb dX8_concatenationRule_74 rfl (lv_at hl 2 rfl) ?_
    refine xa_iald (pc := 75) hx hb hK hP 1 0 rfl rfl (by omega) (by omega) dX8_concatenationRule_75 ?_
    refine lv_iconst (pc := 76) (v := (nI (2))) hx hb dX8_concatenationRule_76 (by decide) ?_
    refine xn_icmp_ne (pc := 77) (tgt := 88) hx hb (by have h5 := tv.q (show l1 < N by omega); omega) (by omega) dX8_concatenationRule_77 (by decide) (fun c77 => ?_) (fun c77 => ?_)
    · refine lv_aload_n (pc := 88) hx hb dX8_concatenationRule_88 rfl (lv_at hl 0 rfl) ?_
      refine va_get (pc := 89) (D := D) (ci := 6) (v := .ref (am 1)) (C := RX8) (T := TX8) (N := 30) hx hb hts hinX8 hown hK hP 0 rfl rfl 1 (by decide) lk0 (fun _ h9 => h9) rfl dX8_concatenationRule_89 ?_
      refine lv_iload_n (pc := 92) hx hb dX8_concatenationRule_92 rfl (lv_at hl 3 rfl) ?_
      refine xa_iald (pc := 93) hx hb hK hP 1 0 rfl rfl (by omega) (by omega) dX8_concatenationRule_93 ?_
      refine lv_iconst (pc := 94) (v := (nI (2))) hx hb dX8_concatenationRule_94 (by decide) ?_
      refine xn_icmp_ne (pc := 95) (tgt := 110) hx hb (by have h5 := tv.q (show r1 < N by omega); omega) (by omega) dX8_concatenationRule_95 (by decide) (fun c95 => ?_) (fun c95 => ?_)
      · refine lv_iconst (pc := 110) (v := (nI (0))) hx hb dX8_concatenationRule_110 (by decide) ?_
        have hU : rCt dgt E 2 l1 r1 = none := by first | (simp [rCt, c77, c95]; done) | (exfalso; omega)
        have hP9 : va_P D vwCl [(hm, .inr (6, oM am n pos cmp que dsz mad cur stp met bst)), (am 1, .inl (cI, 18, .inl (nA dgt))), (am 20, .inl (cI, 36, .inl (nA rt)))] s.heap := hP.sub [0, 1, 2] rfl
        have hD9 : va_D _ [(hm, .inr (6, oM am n pos cmp que dsz mad cur stp met bst)), (am 1, .inl (cI, 18, .inl (nA dgt))), (am 20, .inl (cI, 36, .inl (nA rt)))] := hD.sub [0, 1, 2] (by decide) rfl
        exact W.zret (pc := 111) (v := (nI (0))) (ty := .boolean) hx hb hr (by decide) (fun t ht hW => ⟨⟨_, (mad, rt), rfl, ⟨(by first | (rw [hU]; done) | (rw [hU]; rfl)), (by rw [hU]; exact hL)⟩, by rw [ht]; exact hP9, va_K.moved hW.alike hK, hD9⟩, hS.F ht⟩) hS.2.2 dX8_concatenationRule_111
      · refine lv_aload_n (pc := 98) hx hb dX8_concatenationRule_98 rfl (lv_at hl 0 rfl) ?_
        refine lv_iload_n (pc := 99) hx hb dX8_concatenationRule_99 rfl (lv_at hl 2 rfl) ?_
        refine xm_calli (pc := 100) (wc := [(hm, .inr (6, oM am n pos cmp que dsz mad cur stp met bst)), (am 1, .inl (cI, 18, .inl (nA dgt))), (am 20, .inl (cI, 36, .inl (nA rt)))]) (wr := []) (va_runV (As := [.int (nI l1)]) (rest := []) ⟨hx, hb, hml, hown, hts⟩ (c_X8_copies l D cI cL cZ s.heap.size hm am n pos cmp que dsz mad cur stp met bst dgt E N rt ([]) l1 tv (by omega) (by have h0 := tv.q (show l1 < N by omega); omega) hL) (cwV 1 hts gX8_concatenationRule_X8_copies rfl rfl rfl (by decide +kernel) ⟨Nat.le_of_ble_eq_true rfl, Nat.le_of_ble_eq_true rfl⟩) (mP_V (wc := [(hm, .inr (6, oM am n pos cmp que dsz mad cur stp met bst)), (am 1, .inl (cI, 18, .inl (nA dgt))), (am 20, .inl (cI, 36, .inl (nA rt)))]) (ci := 6) (q0 := 0) hK hP hD [0, 1, 2] (by decide) rfl rfl rfl) rfl rfl hl.1 rfl (lv_room (Nat.le_of_ble_eq_true rfl)) dX8_concatenationRule_100 ⟨Nat.zero_le _, Nat.zero_le _⟩) hP hD hS hA [0, 1, 2] [] rfl rfl (by decide) (by decide) (fun r u H locs hw hP hD hS => ?_)
        obtain ⟨mad2_100, rt2_100⟩ := u
        have hP : va_P D vwCl [(hm, .inr (6, oM am n pos cmp que dsz mad2_100 cur stp met bst)), (am 1, .inl (cI, 18, .inl (nA dgt))), (am 20, .inl (cI, 36, .inl (nA rt2_100)))] H := hP
        have hD : va_D _ [(hm, .inr (6, oM am n pos cmp que dsz mad2_100 cur stp met bst)), (am 1, .inl (cI, 18, .inl (nA dgt))), (am 20, .inl (cI, 36, .inl (nA rt2_100)))] := hD
        try dsimp only at hw
        obtain ⟨hrr, hw100⟩ := hw
        rw [hrr]
        refine lv_if_eq (pc := 103) (tgt := 110) hx hb dX8_concatenationRule_103 (by decide) (fun h => absurd h (by decide)) (fun _ => ?_)
        refine lv_iconst (pc := 106) (v := (nI (1))) hx hb dX8_concatenationRule_106 (by decide) ?_
        refine lv_goto (pc := 107) (tgt := 111) hx hb dX8_concatenationRule_107 (by decide) ?_
        have hU : rCt dgt E 2 l1 r1 = some (([]) ++ sb dgt E l1) := by first | (simp [rCt, c77, c95]; done) | (exfalso; omega)
        have hP9 : va_P D vwCl [(hm, .inr (6, oM am n pos cmp que dsz mad2_100 cur stp met bst)), (am 1, .inl (cI, 18, .inl (nA dgt))), (am 20, .inl (cI, 36, .inl (nA rt2_100)))] H := hP.sub [0, 1, 2] rfl
        have hD9 : va_D _ [(hm, .inr (6, oM am n pos cmp que dsz mad2_100 cur stp met bst)), (am 1, .inl (cI, 18, .inl (nA dgt))), (am 20, .inl (cI, 36, .inl (nA rt2_100)))] := hD.sub [0, 1, 2] (by decide) rfl
        exact W.zret (pc := 111) (v := (nI (1))) (ty := .boolean) hx hb hr (by decide) (fun t ht hW => ⟨⟨_, (mad2_100, rt2_100), rfl, ⟨(by first | (rw [hU]; done) | (rw [hU]; rfl)), (by rw [hU]; exact hw100)⟩, by rw [ht]; exact hP9, va_K.moved hW.alike hK, hD9⟩, hS.F ht⟩) hS.2.2 dX8_concatenationRule_111
    · refine lv_aload_n (pc := 80) hx hb dX8_concatenationRule_80 rfl (lv_at hl 0 rfl) ?_
      refine lv_iload_n (pc := 81) hx hb dX8_concatenationRule_81 rfl (lv_at hl 3 rfl) ?_
      refine xm_calli (pc := 82) (wc := [(hm, .inr (6, oM am n pos cmp que dsz mad cur stp met bst)), (am 1, .inl (cI, 18, .inl (nA dgt))), (am 20, .inl (cI, 36, .inl (nA rt)))]) (wr := []) (va_runV (As := [.int (nI r1)]) (rest := []) ⟨hx, hb, hml, hown, hts⟩ (c_X8_copies l D cI cL cZ s.heap.size hm am n pos cmp que dsz mad cur stp met bst dgt E N rt ([]) r1 tv (by omega) (by have h0 := tv.q (show r1 < N by omega); omega) hL) (cwV 1 hts gX8_concatenationRule_X8_copies rfl rfl rfl (by decide +kernel) ⟨Nat.le_of_ble_eq_true rfl, Nat.le_of_ble_eq_true rfl⟩) (mP_V (wc := [(hm, .inr (6, oM am n pos cmp que dsz mad cur stp met bst)), (am 1, .inl (cI, 18, .inl (nA dgt))), (am 20, .inl (cI, 36, .inl (nA rt)))]) (ci := 6) (q0 := 0) hK hP hD [0, 1, 2] (by decide) rfl rfl rfl) rfl rfl hl.1 rfl (lv_room (Nat.le_of_ble_eq_true rfl)) dX8_concatenationRule_82 ⟨Nat.zero_le _, Nat.zero_le _⟩) hP hD hS hA [0, 1, 2] [] rfl rfl (by decide) (by decide) (fun r u H locs hw hP hD hS => ?_)
      obtain ⟨mad2_82, rt2_82⟩ := u
      have hP : va_P D vwCl [(hm, .inr (6, oM am n pos cmp que dsz mad2_82 cur stp met bst)), (am 1, .inl (cI, 18, .inl (nA dgt))), (am 20, .inl (cI, 36, .inl (nA rt2_82)))] H := hP
      have hD : va_D _ [(hm, .inr (6, oM am n pos cmp que dsz mad2_82 cur stp met bst)), (am 1, .inl (cI, 18, .inl (nA dgt))), (am 20, .inl (cI, 36, .inl (nA rt2_82)))] := hD
      try dsimp only at hw
      obtain ⟨hrr, hw82⟩ := hw
      rw [hrr]
      refine lv_goto (pc := 85) (tgt := 111) hx hb dX8_concatenationRule_85 (by decide) ?_
      have hU : rCt dgt E 2 l1 r1 = some (([]) ++ sb dgt E r1) := by first | (simp [rCt, c77]; done) | (exfalso; omega)
      have hP9 : va_P D vwCl [(hm, .inr (6, oM am n pos cmp que dsz mad2_82 cur stp met bst)), (am 1, .inl (cI, 18, .inl (nA dgt))), (am 20, .inl (cI, 36, .inl (nA rt2_82)))] H := hP.sub [0, 1, 2] rfl
      have hD9 : va_D _ [(hm, .inr (6, oM am n pos cmp que dsz mad2_82 cur stp met bst)), (am 1, .inl (cI, 18, .inl (nA dgt))), (am 20, .inl (cI, 36, .inl (nA rt2_82)))] := hD.sub [0, 1, 2] (by decide) rfl
      exact W.zret (pc := 111) (v := (nI (1))) (ty := .boolean) hx hb hr (by decide) (fun t ht hW => ⟨⟨_, (mad2_82, rt2_82), rfl, ⟨(by first | (rw [hU]; done) | (rw [hU]; rfl)), (by rw [hU]; exact hw82)⟩, by rw [ht]; exact hP9, va_K.moved hW.alike hK, hD9⟩, hS.F ht⟩) hS.2.2 dX8_concatenationRule_111
  · refine lv_lookup (pc := 1) (tgt := 146) (off := 145) hx hb dX8_concatenationRule_1 (by decide) (by decide) (by decide) ?_
    refine lv_iconst (pc := 146) (v := (nI (0))) hx hb dX8_concatenationRule_146 (by decide) ?_
    have hU : rCt dgt E 3 l1 r1 = none := by first | (simp [rCt]; done) | (exfalso; omega)
    have hP9 : va_P D vwCl [(hm, .inr (6, oM am n pos cmp que dsz mad cur stp met bst)), (am 1, .inl (cI, 18, .inl (nA dgt))), (am 20, .inl (cI, 36, .inl (nA rt)))] s.heap := hP.sub [0, 1, 2] rfl
    have hD9 : va_D _ [(hm, .inr (6, oM am n pos cmp que dsz mad cur stp met bst)), (am 1, .inl (cI, 18, .inl (nA dgt))), (am 20, .inl (cI, 36, .inl (nA rt)))] := hD.sub [0, 1, 2] (by decide) rfl
    exact W.zret (pc := 147) (v := (nI (0))) (ty := .boolean) hx hb hr (by decide) (fun t ht hW => ⟨⟨_, (mad, rt), rfl, ⟨(by first | (rw [hU]; done) | (rw [hU]; rfl)), (by rw [hU]; exact hL)⟩, by rw [ht]; exact hP9, va_K.moved hW.alike hK, hD9⟩, hS.F ht⟩) hS.2.2 dX8_concatenationRule_147
  · refine lv_lookup (pc := 1) (tgt := 146) (off := 145) hx hb dX8_concatenationRule_1 (by decide) (by decide) (by decide) ?_
    refine lv_iconst (pc := 146) (v := (nI (0))) hx hb dX8_concatenationRule_146 (by decide) ?_
    have hU : rCt dgt E 4 l1 r1 = none := by first | (simp [rCt]; done) | (exfalso; omega)
    have hP9 : va_P D vwCl [(hm, .inr (6, oM am n pos cmp que dsz mad cur stp met bst)), (am 1, .inl (cI, 18, .inl (nA dgt))), (am 20, .inl (cI, 36, .inl (nA rt)))] s.heap := hP.sub [0, 1, 2] rfl
    have hD9 : va_D _ [(hm, .inr (6, oM am n pos cmp que dsz mad cur stp met bst)), (am 1, .inl (cI, 18, .inl (nA dgt))), (am 20, .inl (cI, 36, .inl (nA rt)))] := hD.sub [0, 1, 2] (by decide) rfl
    exact W.zret (pc := 147) (v := (nI (0))) (ty := .boolean) hx hb hr (by decide) (fun t ht hW => ⟨⟨_, (mad, rt), rfl, ⟨(by first | (rw [hU]; done) | (rw [hU]; rfl)), (by rw [hU]; exact hL)⟩, by rw [ht]; exact hP9, va_K.moved hW.alike hK, hD9⟩, hS.F ht⟩) hS.2.2 dX8_concatenationRule_147
  · refine lv_lookup (pc := 1) (tgt := 146) (off := 145) hx hb dX8_concatenationRule_1 (by decide) (by decide) (by decide) ?_
    refine lv_iconst (pc := 146) (v := (nI (0))) hx hb dX8_concatenationRule_146 (by decide) ?_
    have hU : rCt dgt E 5 l1 r1 = none := by first | (simp [rCt]; done) | (exfalso; omega)
    have hP9 : va_P D vwCl [(hm, .inr (6, oM am n pos cmp que dsz mad cur stp met bst)), (am 1, .inl (cI, 18, .inl (nA dgt))), (am 20, .inl (cI, 36, .inl (nA rt)))] s.heap := hP.sub [0, 1, 2] rfl
    have hD9 : va_D _ [(hm, .inr (6, oM am n pos cmp que dsz mad cur stp met bst)), (am 1, .inl (cI, 18, .inl (nA dgt))), (am 20, .inl (cI, 36, .inl (nA rt)))] := hD.sub [0, 1, 2] (by decide) rfl
    exact W.zret (pc := 147) (v := (nI (0))) (ty := .boolean) hx hb hr (by decide) (fun t ht hW => ⟨⟨_, (mad, rt), rfl, ⟨(by first | (rw [hU]; done) | (rw [hU]; rfl)), (by rw [hU]; exact hL)⟩, by rw [ht]; exact hP9, va_K.moved hW.alike hK, hD9⟩, hS.F ht⟩) hS.2.2 dX8_concatenationRule_147
  · refine lv_lookup (pc := 1) (tgt := 146) (off := 145) hx hb dX8_concatenationRule_1 (by decide) (by decide) (by decide) ?_
    refine lv_iconst (pc := 146) (v := (nI (0))) hx hb dX8_concatenationRule_146 (by decide) ?_
    have hU : rCt dgt E 6 l1 r1 = none := by first | (simp [rCt]; done) | (exfalso; omega)
    have hP9 : va_P D vwCl [(hm, .inr (6, oM am n pos cmp que dsz mad cur stp met bst)), (am 1, .inl (cI, 18, .inl (nA dgt))), (am 20, .inl (cI, 36, .inl (nA rt)))] s.heap := hP.sub [0, 1, 2] rfl
    have hD9 : va_D _ [(hm, .inr (6, oM am n pos cmp que dsz mad cur stp met bst)), (am 1, .inl (cI, 18, .inl (nA dgt))), (am 20, .inl (cI, 36, .inl (nA rt)))] := hD.sub [0, 1, 2] (by decide) rfl
    exact W.zret (pc := 147) (v := (nI (0))) (ty := .boolean) hx hb hr (by decide) (fun t ht hW => ⟨⟨_, (mad, rt), rfl, ⟨(by first | (rw [hU]; done) | (rw [hU]; rfl)), (by rw [hU]; exact hL)⟩, by rw [ht]; exact hP9, va_K.moved hW.alike hK, hD9⟩, hS.F ht⟩) hS.2.2 dX8_concatenationRule_147
  · refine lv_lookup (pc := 1) (tgt := 112) (off := 111) hx hb dX8_concatenationRule_1 (by decide) (by decide) (by decide) ?_
    refine lv_aload_n (pc := 112) hx hb dX8_concatenationRule_112 rfl (lv_at hl 0 rfl) ?_
    refine va_get (pc := 113) (D := D) (ci := 6) (v := .ref (am 1)) (C := RX8) (T := TX8) (N := 30) hx hb hts hinX8 hown hK hP 0 rfl rfl 1 (by decide) lk0 (fun _ h9 => h9) rfl dX8_concatenationRule_113 ?_
    refine lv_iload_n (pc := 116) hx hb dX8_concatenationRule_116 rfl (lv_at hl 2 rfl) ?_
    refine xa_iald (pc := 117) hx hb hK hP 1 0 rfl rfl (by omega) (by omega) dX8_concatenationRule_117 ?_
    refine lv_bipush (pc := 118) (v := (nI (8))) hx hb dX8_concatenationRule_118 (by decide) ?_
    refine xn_icmp_ne (pc := 120) (tgt := 144) hx hb (by have h5 := tv.q (show l1 < N by omega); omega) (by omega) dX8_concatenationRule_120 (by decide) (fun c120 => ?_) (fun c120 => ?_)
    · refine lv_iconst (pc := 144) (v := (nI (0))) hx hb dX8_concatenationRule_144 (by decide) ?_
      have hU : rCt dgt E 7 l1 r1 = none := by first | (simp [rCt, c120]; done) | (exfalso; omega)
      have hP9 : va_P D vwCl [(hm, .inr (6, oM am n pos cmp que dsz mad cur stp met bst)), (am 1, .inl (cI, 18, .inl (nA dgt))), (am 20, .inl (cI, 36, .inl (nA rt)))] s.heap := hP.sub [0, 1, 2] rfl
      have hD9 : va_D _ [(hm, .inr (6, oM am n pos cmp que dsz mad cur stp met bst)), (am 1, .inl (cI, 18, .inl (nA dgt))), (am 20, .inl (cI, 36, .inl (nA rt)))] := hD.sub [0, 1, 2] (by decide) rfl
      exact W.zret (pc := 145) (v := (nI (0))) (ty := .boolean) hx hb hr (by decide) (fun t ht hW => ⟨⟨_, (mad, rt), rfl, ⟨(by first | (rw [hU]; done) | (rw [hU]; rfl)), (by rw [hU]; exact hL)⟩, by rw [ht]; exact hP9, va_K.moved hW.alike hK, hD9⟩, hS.F ht⟩) hS.2.2 dX8_concatenationRule_145
    · refine lv_aload_n (pc := 123) hx hb dX8_concatenationRule_123 rfl (lv_at hl 0 rfl) ?_
      refine lv_iload_n (pc := 124) hx hb dX8_concatenationRule_124 rfl (lv_at hl 2 rfl) ?_
      refine lv_iload_n (pc := 125) hx hb dX8_concatenationRule_125 rfl (lv_at hl 3 rfl) ?_
      refine vp_callSi (pc := 126) (W.runV (As := [.int (nI l1), .int (nI r1)]) (rest := []) ⟨hx, hb, hml, hown, hts⟩ (c_X8_areSame l D cI cL cZ hm am n pos cmp que dsz mad cur stp met bst dgt E N l1 r1 tv (by omega) (by omega)) (cwV 2 hts gX8_concatenationRule_X8_areSame rfl rfl rfl (by decide +kernel) ⟨Nat.le_of_ble_eq_true rfl, Nat.le_of_ble_eq_true rfl⟩) (rP_V (wc := [(hm, .inr (6, oM am n pos cmp que dsz mad cur stp met bst)), (am 1, .inl (cI, 18, .inl (nA dgt)))]) (ci := 6) (q0 := 0) hK hP [0, 1] rfl rfl rfl) rfl rfl hl.1 rfl (lv_room (Nat.le_of_ble_eq_true rfl)) dX8_concatenationRule_126 ⟨Nat.zero_le _, Nat.zero_le _⟩) (fun r hrr => ?_)
      rw [hrr]
      refine xp_if_eq (pc := 129) (tgt := 144) hx hb dX8_concatenationRule_129 (by decide) (fun c129 => ?_) (fun c129 => ?_)
      · refine lv_iconst (pc := 144) (v := (nI (0))) hx hb dX8_concatenationRule_144 (by decide) ?_
        have hU : rCt dgt E 7 l1 r1 = none := by first | (simp [rCt, c120, c129]; done) | (exfalso; omega)
        have hP9 : va_P D vwCl [(hm, .inr (6, oM am n pos cmp que dsz mad cur stp met bst)), (am 1, .inl (cI, 18, .inl (nA dgt))), (am 20, .inl (cI, 36, .inl (nA rt)))] s.heap := hP.sub [0, 1, 2] rfl
        have hD9 : va_D _ [(hm, .inr (6, oM am n pos cmp que dsz mad cur stp met bst)), (am 1, .inl (cI, 18, .inl (nA dgt))), (am 20, .inl (cI, 36, .inl (nA rt)))] := hD.sub [0, 1, 2] (by decide) rfl
        exact W.zret (pc := 145) (v := (nI (0))) (ty := .boolean) hx hb hr (by decide) (fun t ht hW => ⟨⟨_, (mad, rt), rfl, ⟨(by first | (rw [hU]; done) | (rw [hU]; rfl)), (by rw [hU]; exact hL)⟩, by rw [ht]; exact hP9, va_K.moved hW.alike hK, hD9⟩, hS.F ht⟩) hS.2.2 dX8_concatenationRule_145
      · refine lv_aload_n (pc := 132) hx hb dX8_concatenationRule_132 rfl (lv_at hl 0 rfl) ?_
        refine lv_iload_n (pc := 133) hx hb dX8_concatenationRule_133 rfl (lv_at hl 2 rfl) ?_
        refine xm_calli (pc := 134) (wc := [(hm, .inr (6, oM am n pos cmp que dsz mad cur stp met bst)), (am 1, .inl (cI, 18, .inl (nA dgt))), (am 20, .inl (cI, 36, .inl (nA rt)))]) (wr := []) (va_runV (As := [.int (nI l1)]) (rest := []) ⟨hx, hb, hml, hown, hts⟩ (c_X8_copies l D cI cL cZ s.heap.size hm am n pos cmp que dsz mad cur stp met bst dgt E N rt ([]) l1 tv (by omega) (by have h0 := tv.q (show l1 < N by omega); omega) hL) (cwV 1 hts gX8_concatenationRule_X8_copies rfl rfl rfl (by decide +kernel) ⟨Nat.le_of_ble_eq_true rfl, Nat.le_of_ble_eq_true rfl⟩) (mP_V (wc := [(hm, .inr (6, oM am n pos cmp que dsz mad cur stp met bst)), (am 1, .inl (cI, 18, .inl (nA dgt))), (am 20, .inl (cI, 36, .inl (nA rt)))]) (ci := 6) (q0 := 0) hK hP hD [0, 1, 2] (by decide) rfl rfl rfl) rfl rfl hl.1 rfl (lv_room (Nat.le_of_ble_eq_true rfl)) dX8_concatenationRule_134 ⟨Nat.zero_le _, Nat.zero_le _⟩) hP hD hS hA [0, 1, 2] [] rfl rfl (by decide) (by decide) (fun r u H locs hw hP hD hS => ?_)
        obtain ⟨mad2_134, rt2_134⟩ := u
        have hP : va_P D vwCl [(hm, .inr (6, oM am n pos cmp que dsz mad2_134 cur stp met bst)), (am 1, .inl (cI, 18, .inl (nA dgt))), (am 20, .inl (cI, 36, .inl (nA rt2_134)))] H := hP
        have hD : va_D _ [(hm, .inr (6, oM am n pos cmp que dsz mad2_134 cur stp met bst)), (am 1, .inl (cI, 18, .inl (nA dgt))), (am 20, .inl (cI, 36, .inl (nA rt2_134)))] := hD
        try dsimp only at hw
        obtain ⟨hrr, hw134⟩ := hw
        rw [hrr]
        refine lv_if_eq (pc := 137) (tgt := 144) hx hb dX8_concatenationRule_137 (by decide) (fun h => absurd h (by decide)) (fun _ => ?_)
        refine lv_iconst (pc := 140) (v := (nI (1))) hx hb dX8_concatenationRule_140 (by decide) ?_
        refine lv_goto (pc := 141) (tgt := 145) hx hb dX8_concatenationRule_141 (by decide) ?_
        have hU : rCt dgt E 7 l1 r1 = some (([]) ++ sb dgt E l1) := by first | (simp [rCt, c120, c129]; done) | (exfalso; omega)
        have hP9 : va_P D vwCl [(hm, .inr (6, oM am n pos cmp que dsz mad2_134 cur stp met bst)), (am 1, .inl (cI, 18, .inl (nA dgt))), (am 20, .inl (cI, 36, .inl (nA rt2_134)))] H := hP.sub [0, 1, 2] rfl
        have hD9 : va_D _ [(hm, .inr (6, oM am n pos cmp que dsz mad2_134 cur stp met bst)), (am 1, .inl (cI, 18, .inl (nA dgt))), (am 20, .inl (cI, 36, .inl (nA rt2_134)))] := hD.sub [0, 1, 2] (by decide) rfl
        exact W.zret (pc := 145) (v := (nI (1))) (ty := .boolean) hx hb hr (by decide) (fun t ht hW => ⟨⟨_, (mad2_134, rt2_134), rfl, ⟨(by first | (rw [hU]; done) | (rw [hU]; rfl)), (by rw [hU]; exact hw134)⟩, by rw [ht]; exact hP9, va_K.moved hW.alike hK, hD9⟩, hS.F ht⟩) hS.2.2 dX8_concatenationRule_145
  · refine lv_lookup (pc := 1) (tgt := 146) (off := 145) hx hb dX8_concatenationRule_1 (by decide) (by decide) (by decide) ?_
    refine lv_iconst (pc := 146) (v := (nI (0))) hx hb dX8_concatenationRule_146 (by decide) ?_
    have hU : rCt dgt E 8 l1 r1 = none := by first | (simp [rCt]; done) | (exfalso; omega)
    have hP9 : va_P D vwCl [(hm, .inr (6, oM am n pos cmp que dsz mad cur stp met bst)), (am 1, .inl (cI, 18, .inl (nA dgt))), (am 20, .inl (cI, 36, .inl (nA rt)))] s.heap := hP.sub [0, 1, 2] rfl
    have hD9 : va_D _ [(hm, .inr (6, oM am n pos cmp que dsz mad cur stp met bst)), (am 1, .inl (cI, 18, .inl (nA dgt))), (am 20, .inl (cI, 36, .inl (nA rt)))] := hD.sub [0, 1, 2] (by decide) rfl
    exact W.zret (pc := 147) (v := (nI (0))) (ty := .boolean) hx hb hr (by decide) (fun t ht hW => ⟨⟨_, (mad, rt), rfl, ⟨(by first | (rw [hU]; done) | (rw [hU]; rfl)), (by rw [hU]; exact hL)⟩, by rw [ht]; exact hP9, va_K.moved hW.alike hK, hD9⟩, hS.F ht⟩) hS.2.2 dX8_concatenationRule_147
  · refine lv_lookup (pc := 1) (tgt := 146) (off := 145) hx hb dX8_concatenationRule_1 (by decide) (by decide) (by decide) ?_
    refine lv_iconst (pc := 146) (v := (nI (0))) hx hb dX8_concatenationRule_146 (by decide) ?_
    have hU : rCt dgt E 9 l1 r1 = none := by first | (simp [rCt]; done) | (exfalso; omega)
    have hP9 : va_P D vwCl [(hm, .inr (6, oM am n pos cmp que dsz mad cur stp met bst)), (am 1, .inl (cI, 18, .inl (nA dgt))), (am 20, .inl (cI, 36, .inl (nA rt)))] s.heap := hP.sub [0, 1, 2] rfl
    have hD9 : va_D _ [(hm, .inr (6, oM am n pos cmp que dsz mad cur stp met bst)), (am 1, .inl (cI, 18, .inl (nA dgt))), (am 20, .inl (cI, 36, .inl (nA rt)))] := hD.sub [0, 1, 2] (by decide) rfl
    exact W.zret (pc := 147) (v := (nI (0))) (ty := .boolean) hx hb hr (by decide) (fun t ht hW => ⟨⟨_, (mad, rt), rfl, ⟨(by first | (rw [hU]; done) | (rw [hU]; rfl)), (by rw [hU]; exact hL)⟩, by rw [ht]; exact hP9, va_K.moved hW.alike hK, hD9⟩, hS.F ht⟩) hS.2.2 dX8_concatenationRule_147
  · refine lv_lookup (pc := 1) (tgt := 146) (off := 145) hx hb dX8_concatenationRule_1 (by decide) (by decide) (by decide) ?_
    refine lv_iconst (pc := 146) (v := (nI (0))) hx hb dX8_concatenationRule_146 (by decide) ?_
    have hU : rCt dgt E 10 l1 r1 = none := by first | (simp [rCt]; done) | (exfalso; omega)
    have hP9 : va_P D vwCl [(hm, .inr (6, oM am n pos cmp que dsz mad cur stp met bst)), (am 1, .inl (cI, 18, .inl (nA dgt))), (am 20, .inl (cI, 36, .inl (nA rt)))] s.heap := hP.sub [0, 1, 2] rfl
    have hD9 : va_D _ [(hm, .inr (6, oM am n pos cmp que dsz mad cur stp met bst)), (am 1, .inl (cI, 18, .inl (nA dgt))), (am 20, .inl (cI, 36, .inl (nA rt)))] := hD.sub [0, 1, 2] (by decide) rfl
    exact W.zret (pc := 147) (v := (nI (0))) (ty := .boolean) hx hb hr (by decide) (fun t ht hW => ⟨⟨_, (mad, rt), rfl, ⟨(by first | (rw [hU]; done) | (rw [hU]; rfl)), (by rw [hU]; exact hL)⟩, by rw [ht]; exact hP9, va_K.moved hW.alike hK, hD9⟩, hS.F ht⟩) hS.2.2 dX8_concatenationRule_147
  · refine lv_lookup (pc := 1) (tgt := 146) (off := 145) hx hb dX8_concatenationRule_1 (by decide) (by decide) (by decide) ?_
    refine lv_iconst (pc := 146) (v := (nI (0))) hx hb dX8_concatenationRule_146 (by decide) ?_
    have hU : rCt dgt E 11 l1 r1 = none := by first | (simp [rCt]; done) | (exfalso; omega)
    have hP9 : va_P D vwCl [(hm, .inr (6, oM am n pos cmp que dsz mad cur stp met bst)), (am 1, .inl (cI, 18, .inl (nA dgt))), (am 20, .inl (cI, 36, .inl (nA rt)))] s.heap := hP.sub [0, 1, 2] rfl
    have hD9 : va_D _ [(hm, .inr (6, oM am n pos cmp que dsz mad cur stp met bst)), (am 1, .inl (cI, 18, .inl (nA dgt))), (am 20, .inl (cI, 36, .inl (nA rt)))] := hD.sub [0, 1, 2] (by decide) rfl
    exact W.zret (pc := 147) (v := (nI (0))) (ty := .boolean) hx hb hr (by decide) (fun t ht hW => ⟨⟨_, (mad, rt), rfl, ⟨(by first | (rw [hU]; done) | (rw [hU]; rfl)), (by rw [hU]; exact hL)⟩, by rw [ht]; exact hP9, va_K.moved hW.alike hK, hD9⟩, hS.F ht⟩) hS.2.2 dX8_concatenationRule_147
  · refine lv_lookup (pc := 1) (tgt := 146) (off := 145) hx hb dX8_concatenationRule_1 (by decide) (by decide) (by decide) ?_
    refine lv_iconst (pc := 146) (v := (nI (0))) hx hb dX8_concatenationRule_146 (by decide) ?_
    have hU : rCt dgt E 12 l1 r1 = none := by first | (simp [rCt]; done) | (exfalso; omega)
    have hP9 : va_P D vwCl [(hm, .inr (6, oM am n pos cmp que dsz mad cur stp met bst)), (am 1, .inl (cI, 18, .inl (nA dgt))), (am 20, .inl (cI, 36, .inl (nA rt)))] s.heap := hP.sub [0, 1, 2] rfl
    have hD9 : va_D _ [(hm, .inr (6, oM am n pos cmp que dsz mad cur stp met bst)), (am 1, .inl (cI, 18, .inl (nA dgt))), (am 20, .inl (cI, 36, .inl (nA rt)))] := hD.sub [0, 1, 2] (by decide) rfl
    exact W.zret (pc := 147) (v := (nI (0))) (ty := .boolean) hx hb hr (by decide) (fun t ht hW => ⟨⟨_, (mad, rt), rfl, ⟨(by first | (rw [hU]; done) | (rw [hU]; rfl)), (by rw [hU]; exact hL)⟩, by rw [ht]; exact hP9, va_K.moved hW.alike hK, hD9⟩, hS.F ht⟩) hS.2.2 dX8_concatenationRule_147
  · refine lv_lookup (pc := 1) (tgt := 146) (off := 145) hx hb dX8_concatenationRule_1 (by decide) (by decide) (by decide) ?_
    refine lv_iconst (pc := 146) (v := (nI (0))) hx hb dX8_concatenationRule_146 (by decide) ?_
    have hU : rCt dgt E 13 l1 r1 = none := by first | (simp [rCt]; done) | (exfalso; omega)
    have hP9 : va_P D vwCl [(hm, .inr (6, oM am n pos cmp que dsz mad cur stp met bst)), (am 1, .inl (cI, 18, .inl (nA dgt))), (am 20, .inl (cI, 36, .inl (nA rt)))] s.heap := hP.sub [0, 1, 2] rfl
    have hD9 : va_D _ [(hm, .inr (6, oM am n pos cmp que dsz mad cur stp met bst)), (am 1, .inl (cI, 18, .inl (nA dgt))), (am 20, .inl (cI, 36, .inl (nA rt)))] := hD.sub [0, 1, 2] (by decide) rfl
    exact W.zret (pc := 147) (v := (nI (0))) (ty := .boolean) hx hb hr (by decide) (fun t ht hW => ⟨⟨_, (mad, rt), rfl, ⟨(by first | (rw [hU]; done) | (rw [hU]; rfl)), (by rw [hU]; exact hL)⟩, by rw [ht]; exact hP9, va_K.moved hW.alike hK, hD9⟩, hS.F ht⟩) hS.2.2 dX8_concatenationRule_147
  · refine lv_lookup (pc := 1) (tgt := 146) (off := 145) hx hb dX8_concatenationRule_1 (by decide) (by decide) (by decide) ?_
    refine lv_iconst (pc := 146) (v := (nI (0))) hx hb dX8_concatenationRule_146 (by decide) ?_
    have hU : rCt dgt E 14 l1 r1 = none := by first | (simp [rCt]; done) | (exfalso; omega)
    have hP9 : va_P D vwCl [(hm, .inr (6, oM am n pos cmp que dsz mad cur stp met bst)), (am 1, .inl (cI, 18, .inl (nA dgt))), (am 20, .inl (cI, 36, .inl (nA rt)))] s.heap := hP.sub [0, 1, 2] rfl
    have hD9 : va_D _ [(hm, .inr (6, oM am n pos cmp que dsz mad cur stp met bst)), (am 1, .inl (cI, 18, .inl (nA dgt))), (am 20, .inl (cI, 36, .inl (nA rt)))] := hD.sub [0, 1, 2] (by decide) rfl
    exact W.zret (pc := 147) (v := (nI (0))) (ty := .boolean) hx hb hr (by decide) (fun t ht hW => ⟨⟨_, (mad, rt), rfl, ⟨(by first | (rw [hU]; done) | (rw [hU]; rfl)), (by rw [hU]; exact hL)⟩, by rw [ht]; exact hP9, va_K.moved hW.alike hK, hD9⟩, hS.F ht⟩) hS.2.2 dX8_concatenationRule_147
  · refine lv_lookup (pc := 1) (tgt := 146) (off := 145) hx hb dX8_concatenationRule_1 (by decide) (by decide) (by decide) ?_
    refine lv_iconst (pc := 146) (v := (nI (0))) hx hb dX8_concatenationRule_146 (by decide) ?_
    have hU : rCt dgt E 15 l1 r1 = none := by first | (simp [rCt]; done) | (exfalso; omega)
    have hP9 : va_P D vwCl [(hm, .inr (6, oM am n pos cmp que dsz mad cur stp met bst)), (am 1, .inl (cI, 18, .inl (nA dgt))), (am 20, .inl (cI, 36, .inl (nA rt)))] s.heap := hP.sub [0, 1, 2] rfl
    have hD9 : va_D _ [(hm, .inr (6, oM am n pos cmp que dsz mad cur stp met bst)), (am 1, .inl (cI, 18, .inl (nA dgt))), (am 20, .inl (cI, 36, .inl (nA rt)))] := hD.sub [0, 1, 2] (by decide) rfl
    exact W.zret (pc := 147) (v := (nI (0))) (ty := .boolean) hx hb hr (by decide) (fun t ht hW => ⟨⟨_, (mad, rt), rfl, ⟨(by first | (rw [hU]; done) | (rw [hU]; rfl)), (by rw [hU]; exact hL)⟩, by rw [ht]; exact hP9, va_K.moved hW.alike hK, hD9⟩, hS.F ht⟩) hS.2.2 dX8_concatenationRule_147
set_option maxHeartbeats 4000000 in
set_option maxRecDepth 100000 in
theorem c_X8_unionRule (l : Launch) (D : va_G) (cI cL cZ : ClassId) (sz : Nat) (hm : Nat) (am : Nat → Nat) (n : Nat) (pos : Nat) (cmp : Nat) (que : Nat) (dsz : Nat) (mad : Nat) (cur : Nat) (stp : Nat) (met : Nat) (bst : Nat) (dgt : Nat → Nat) (E : Nat → Nat) (N : Nat) (rt : Nat → Nat) (rl : Nat) (l1 : Nat) (r1 : Nat) (tv : TV dgt E N) (hrl : rl < 16) (hl1 : l1 < N) (hr1 : r1 < N) (hab : r1 = E l1) (hL : RT rt mad []) : Met l yX8_unionRule wsX8_unionRule { frames := 4, cells := 0, slots := 0, locals := 99 } (mP D (tyL cI cL cZ) [(hm, .inr (6, oM am n pos cmp que dsz mad cur stp met bst)), (am 1, .inl (cI, 18, .inl (nA dgt))), (am 20, .inl (cI, 36, .inl (nA rt)))] sz [.ref hm, .int (nI rl), .int (nI l1), .int (nI r1)]) (va_Qi (fun (r : Int32) (u : Nat × (Nat → Nat)) => r = (nI (pN ((rU dgt E rl l1 r1).isSome = true))) ∧ (RT u.2 u.1 ((rU dgt E rl l1 r1).getD []))) (fun (u : Nat × (Nat → Nat)) (t : State) => mB D (tyL cI cL cZ) (va_A [(hm, .inr (6, oM am n pos cmp que dsz mad cur stp met bst)), (am 1, .inl (cI, 18, .inl (nA dgt))), (am 20, .inl (cI, 36, .inl (nA rt)))] sz) [(hm, .inr (6, oM am n pos cmp que dsz (u.1) cur stp met bst)), (am 1, .inl (cI, 18, .inl (nA dgt))), (am 20, .inl (cI, 36, .inl (nA (u.2))))] t) (va_A [(hm, .inr (6, oM am n pos cmp que dsz mad cur stp met bst)), (am 1, .inl (cI, 18, .inl (nA dgt))), (am 20, .inl (cI, 36, .inl (nA rt)))] sz)) 0 0 (va_A [(hm, .inr (6, oM am n pos cmp que dsz mad cur stp met bst)), (am 1, .inl (cI, 18, .inl (nA dgt))), (am 20, .inl (cI, 36, .inl (nA rt)))] sz) := by
  refine Met.ofW (cc := cX8_unionRule) (maxL := 4) (ret := (some .boolean)) (by decide) rfl ?_
  intro pG eG s mG args below meth cG s₁ B hml hpre9
  obtain ⟨rfl, hsz, hP, hK, hD0⟩ := hpre9
  have hx := B.exec
  have hb := B.bytes
  have hr := B.returns
  have hts := atoms_spec (ws := wsX8_unionRule) B.pre
  have hown : s.vm.findClass RX8 = some mG.cls := findClass_of_methodNamed B.named
  have hlocks := B.notSynchronized
  subst hsz
  have hD := hD0.self (sz := s.heap.size)
  have hA : ∀ q : Nat, s.heap.size ≤ q → va_A [(hm, .inr (6, oM am n pos cmp que dsz mad cur stp met bst)), (am 1, .inl (cI, 18, .inl (nA dgt))), (am 20, .inl (cI, 36, .inl (nA rt)))] s.heap.size q := fun q h => Or.inr h
  have hS : va_S (va_A [(hm, .inr (6, oM am n pos cmp que dsz mad cur stp met bst)), (am 1, .inl (cI, 18, .inl (nA dgt))), (am 20, .inl (cI, 36, .inl (nA rt)))] s.heap.size) s.heap s.heap [] := va_S.rf
  have hinX8 : ∀ w ∈ wsX80, w ∈ wsX8_unionRule := fun w HH => (List.mem_cons_of_mem _ (List.mem_append_right _ HH))
  have lk0 : (Cond.fieldLink RX8 7 "RegexSimplifierModel" "digit" "[I").before _ s = true := hts _ (List.mem_cons_of_mem _ (List.mem_append_left _ (List.mem_append_left _ (List.mem_of_getElem? (i := 0) rfl))))
  have hl := lv_entry ([.ref hm, .int (nI rl), .int (nI l1), .int (nI r1)]) (n := 4) (Nat.le_of_ble_eq_true rfl)
  rw [lg_entry_eq]
  generalize (lg_sl ([.ref hm, .int (nI rl), .int (nI l1), .int (nI r1)]) ++ List.replicate (4 - (lg_sl ([.ref hm, .int (nI rl), .int (nI l1), .int (nI r1)])).length) Slot.unset).toArray = ls at hl ⊢
  have hl : lv_has ls 4 [(0, .ref hm), (1, .int (nI rl)), (2, .int (nI l1)), (3, .int (nI r1))] := hl
  have hn18 := tv.n18
  have hmad : mad = 0 := hL.1
  have hql := tv.q hl1
  have hqr := tv.q hr1
  refine lv_iload_n (pc := 0) hx hb dX8_unionRule_0 rfl (lv_at hl 1 rfl) ?_
  rcases lt16 hrl with rfl | rfl | rfl | rfl | rfl | rfl | rfl | rfl | rfl | rfl | rfl | rfl | rfl | rfl | rfl | rfl
  · refine lv_tableIn (pc := 1) (tgt := 80) (off := 79) hx hb dX8_unionRule_1 (by decide) (by decide) (by decide) (by decide) ?_
    refine lv_aload_n (pc := 80) hx hb dX8_unionRule_80 rfl (lv_at hl 0 rfl) ?_
    refine va_get (pc := 81) (D := D) (ci := 6) (v := .ref (am 1)) (C := RX8) (T := TX8) (N := 30) hx hb hts hinX8 hown hK hP 0 rfl rfl 1 (by decide) lk0 (fun _ h9 => h9) rfl dX8_unionRule_81 ?_
    refine lv_iload_n (pc := 84) hx hb dX8_unionRule_84 rfl (lv_at hl 2 rfl) ?_
    refine xa_iald (pc := 85) hx hb hK hP 1 0 rfl rfl (by omega) (by omega) dX8_unionRule_85 ?_
    refine lv_iconst (pc := 86) (v := (nI (1))) hx hb dX8_unionRule_86 (by decide) ?_
    refine xn_icmp_ne (pc := 87) (tgt := 98) hx hb (by have h5 := tv.q (show l1 < N by omega); omega) (by omega) dX8_unionRule_87 (by decide) (fun c87 => ?_) (fun c87 => ?_)
    · refine lv_aload_n (pc := 98) hx hb dX8_unionRule_98 rfl (lv_at hl 0 rfl) ?_
      refine va_get (pc := 99) (D := D) (ci := 6) (v := .ref (am 1)) (C := RX8) (T := TX8) (N := 30) hx hb hts hinX8 hown hK hP 0 rfl rfl 1 (by decide) lk0 (fun _ h9 => h9) rfl dX8_unionRule_99 ?_
      refine lv_iload_n (pc := 102) hx hb dX8_unionRule_102 rfl (lv_at hl 3 rfl) ?_
      refine xa_iald (pc := 103) hx hb hK hP 1 0 rfl rfl (by omega) (by omega) dX8_unionRule_103 ?_
      refine lv_iconst (pc := 104) (v := (nI (1))) hx hb dX8_unionRule_104 (by decide) ?_
      refine xn_icmp_ne (pc := 105) (tgt := 120) hx hb (by have h5 := tv.q (show r1 < N by omega); omega) (by omega) dX8_unionRule_105 (by decide) (fun c105 => ?_) (fun c105 => ?_)
      · refine lv_iconst (pc := 120) (v := (nI (0))) hx hb dX8_unionRule_120 (by decide) ?_
        have hU : rU dgt E 0 l1 r1 = none := by first | (simp [rU, c87, c105]; done) | (exfalso; omega)
        have hP9 : va_P D vwCl [(hm, .inr (6, oM am n pos cmp que dsz mad cur stp met bst)), (am 1, .inl (cI, 18, .inl (nA dgt))), (am 20, .inl (cI, 36, .inl (nA rt)))] s.heap := hP.sub [0, 1, 2] rfl
        have hD9 : va_D _ [(hm, .inr (6, oM am n pos cmp que dsz mad cur stp met bst)), (am 1, .inl (cI, 18, .inl (nA dgt))), (am 20, .inl (cI, 36, .inl (nA rt)))] := hD.sub [0, 1, 2] (by decide) rfl
        exact W.zret (pc := 121) (v := (nI (0))) (ty := .boolean) hx hb hr (by decide) (fun t ht hW => ⟨⟨_, (mad, rt), rfl, ⟨(by first | (rw [hU]; done) | (rw [hU]; rfl)), (by rw [hU]; exact hL)⟩, by rw [ht]; exact hP9, va_K.moved hW.alike hK, hD9⟩, hS.F ht⟩) hS.2.2 dX8_unionRule_121
      · refine lv_aload_n (pc := 108) hx hb dX8_unionRule_108 rfl (lv_at hl 0 rfl) ?_
        refine lv_iload_n (pc := 109) hx hb dX8_unionRule_109 rfl (lv_at hl 2 rfl) ?_
        refine xm_calli (pc := 110) (wc := [(hm, .inr (6, oM am n pos cmp que dsz mad cur stp met bst)), (am 1, .inl (cI, 18, .inl (nA dgt))), (am 20, .inl (cI, 36, .inl (nA rt)))]) (wr := []) (va_runV (As := [.int (nI l1)]) (rest := []) ⟨hx, hb, hml, hown, hts⟩ (c_X8_copies l D cI cL cZ s.heap.size hm am n pos cmp que dsz mad cur stp met bst dgt E N rt ([]) l1 tv (by omega) (by have h0 := tv.q (show l1 < N by omega); omega) hL) (cwV 1 hts gX8_unionRule_X8_copies rfl rfl rfl (by decide +kernel) ⟨Nat.le_of_ble_eq_true rfl, Nat.le_of_ble_eq_true rfl⟩) (mP_V (wc := [(hm, .inr (6, oM am n pos cmp que dsz mad cur stp met bst)), (am 1, .inl (cI, 18, .inl (nA dgt))), (am 20, .inl (cI, 36, .inl (nA rt)))]) (ci := 6) (q0 := 0) hK hP hD [0, 1, 2] (by decide) rfl rfl rfl) rfl rfl hl.1 rfl (lv_room (Nat.le_of_ble_eq_true rfl)) dX8_unionRule_110 ⟨Nat.zero_le _, Nat.zero_le _⟩) hP hD hS hA [0, 1, 2] [] rfl rfl (by decide) (by decide) (fun r u H locs hw hP hD hS => ?_)
        obtain ⟨mad2_110, rt2_110⟩ := u
        have hP : va_P D vwCl [(hm, .inr (6, oM am n pos cmp que dsz mad2_110 cur stp met bst)), (am 1, .inl (cI, 18, .inl (nA dgt))), (am 20, .inl (cI, 36, .inl (nA rt2_110)))] H := hP
        have hD : va_D _ [(hm, .inr (6, oM am n pos cmp que dsz mad2_110 cur stp met bst)), (am 1, .inl (cI, 18, .inl (nA dgt))), (am 20, .inl (cI, 36, .inl (nA rt2_110)))] := hD
        try dsimp only at hw
        obtain ⟨hrr, hw110⟩ := hw
        rw [hrr]
        refine lv_if_eq (pc := 113) (tgt := 120) hx hb dX8_unionRule_113 (by decide) (fun h => absurd h (by decide)) (fun _ => ?_)
        refine lv_iconst (pc := 116) (v := (nI (1))) hx hb dX8_unionRule_116 (by decide) ?_
        refine lv_goto (pc := 117) (tgt := 121) hx hb dX8_unionRule_117 (by decide) ?_
        have hU : rU dgt E 0 l1 r1 = some (([]) ++ sb dgt E l1) := by first | (simp [rU, c87, c105]; done) | (exfalso; omega)
        have hP9 : va_P D vwCl [(hm, .inr (6, oM am n pos cmp que dsz mad2_110 cur stp met bst)), (am 1, .inl (cI, 18, .inl (nA dgt))), (am 20, .inl (cI, 36, .inl (nA rt2_110)))] H := hP.sub [0, 1, 2] rfl
        have hD9 : va_D _ [(hm, .inr (6, oM am n pos cmp que dsz mad2_110 cur stp met bst)), (am 1, .inl (cI, 18, .inl (nA dgt))), (am 20, .inl (cI, 36, .inl (nA rt2_110)))] := hD.sub [0, 1, 2] (by decide) rfl
        exact W.zret (pc := 121) (v := (nI (1))) (ty := .boolean) hx hb hr (by decide) (fun t ht hW => ⟨⟨_, (mad2_110, rt2_110), rfl, ⟨(by first | (rw [hU]; done) | (rw [hU]; rfl)), (by rw [hU]; exact hw110)⟩, by rw [ht]; exact hP9, va_K.moved hW.alike hK, hD9⟩, hS.F ht⟩) hS.2.2 dX8_unionRule_121
    · refine lv_aload_n (pc := 90) hx hb dX8_unionRule_90 rfl (lv_at hl 0 rfl) ?_
      refine lv_iload_n (pc := 91) hx hb dX8_unionRule_91 rfl (lv_at hl 3 rfl) ?_
      refine xm_calli (pc := 92) (wc := [(hm, .inr (6, oM am n pos cmp que dsz mad cur stp met bst)), (am 1, .inl (cI, 18, .inl (nA dgt))), (am 20, .inl (cI, 36, .inl (nA rt)))]) (wr := []) (va_runV (As := [.int (nI r1)]) (rest := []) ⟨hx, hb, hml, hown, hts⟩ (c_X8_copies l D cI cL cZ s.heap.size hm am n pos cmp que dsz mad cur stp met bst dgt E N rt ([]) r1 tv (by omega) (by have h0 := tv.q (show r1 < N by omega); omega) hL) (cwV 1 hts gX8_unionRule_X8_copies rfl rfl rfl (by decide +kernel) ⟨Nat.le_of_ble_eq_true rfl, Nat.le_of_ble_eq_true rfl⟩) (mP_V (wc := [(hm, .inr (6, oM am n pos cmp que dsz mad cur stp met bst)), (am 1, .inl (cI, 18, .inl (nA dgt))), (am 20, .inl (cI, 36, .inl (nA rt)))]) (ci := 6) (q0 := 0) hK hP hD [0, 1, 2] (by decide) rfl rfl rfl) rfl rfl hl.1 rfl (lv_room (Nat.le_of_ble_eq_true rfl)) dX8_unionRule_92 ⟨Nat.zero_le _, Nat.zero_le _⟩) hP hD hS hA [0, 1, 2] [] rfl rfl (by decide) (by decide) (fun r u H locs hw hP hD hS => ?_)
      obtain ⟨mad2_92, rt2_92⟩ := u
      have hP : va_P D vwCl [(hm, .inr (6, oM am n pos cmp que dsz mad2_92 cur stp met bst)), (am 1, .inl (cI, 18, .inl (nA dgt))), (am 20, .inl (cI, 36, .inl (nA rt2_92)))] H := hP
      have hD : va_D _ [(hm, .inr (6, oM am n pos cmp que dsz mad2_92 cur stp met bst)), (am 1, .inl (cI, 18, .inl (nA dgt))), (am 20, .inl (cI, 36, .inl (nA rt2_92)))] := hD
      try dsimp only at hw
      obtain ⟨hrr, hw92⟩ := hw
      rw [hrr]
      refine lv_goto (pc := 95) (tgt := 121) hx hb dX8_unionRule_95 (by decide) ?_
      have hU : rU dgt E 0 l1 r1 = some (([]) ++ sb dgt E r1) := by first | (simp [rU, c87]; done) | (exfalso; omega)
      have hP9 : va_P D vwCl [(hm, .inr (6, oM am n pos cmp que dsz mad2_92 cur stp met bst)), (am 1, .inl (cI, 18, .inl (nA dgt))), (am 20, .inl (cI, 36, .inl (nA rt2_92)))] H := hP.sub [0, 1, 2] rfl
      have hD9 : va_D _ [(hm, .inr (6, oM am n pos cmp que dsz mad2_92 cur stp met bst)), (am 1, .inl (cI, 18, .inl (nA dgt))), (am 20, .inl (cI, 36, .inl (nA rt2_92)))] := hD.sub [0, 1, 2] (by decide) rfl
      exact W.zret (pc := 121) (v := (nI (1))) (ty := .boolean) hx hb hr (by decide) (fun t ht hW => ⟨⟨_, (mad2_92, rt2_92), rfl, ⟨(by first | (rw [hU]; done) | (rw [hU]; rfl)), (by rw [hU]; exact hw92)⟩, by rw [ht]; exact hP9, va_K.moved hW.alike hK, hD9⟩, hS.F ht⟩) hS.2.2 dX8_unionRule_121
  · refine lv_tableIn (pc := 1) (tgt := 371) (off := 370) hx hb dX8_unionRule_1 (by decide) (by decide) (by decide) (by decide) ?_
    refine lv_iconst (pc := 371) (v := (nI (0))) hx hb dX8_unionRule_371 (by decide) ?_
    have hU : rU dgt E 1 l1 r1 = none := by first | (simp [rU]; done) | (exfalso; omega)
    have hP9 : va_P D vwCl [(hm, .inr (6, oM am n pos cmp que dsz mad cur stp met bst)), (am 1, .inl (cI, 18, .inl (nA dgt))), (am 20, .inl (cI, 36, .inl (nA rt)))] s.heap := hP.sub [0, 1, 2] rfl
    have hD9 : va_D _ [(hm, .inr (6, oM am n pos cmp que dsz mad cur stp met bst)), (am 1, .inl (cI, 18, .inl (nA dgt))), (am 20, .inl (cI, 36, .inl (nA rt)))] := hD.sub [0, 1, 2] (by decide) rfl
    exact W.zret (pc := 372) (v := (nI (0))) (ty := .boolean) hx hb hr (by decide) (fun t ht hW => ⟨⟨_, (mad, rt), rfl, ⟨(by first | (rw [hU]; done) | (rw [hU]; rfl)), (by rw [hU]; exact hL)⟩, by rw [ht]; exact hP9, va_K.moved hW.alike hK, hD9⟩, hS.F ht⟩) hS.2.2 dX8_unionRule_372
  · refine lv_tableIn (pc := 1) (tgt := 371) (off := 370) hx hb dX8_unionRule_1 (by decide) (by decide) (by decide) (by decide) ?_
    refine lv_iconst (pc := 371) (v := (nI (0))) hx hb dX8_unionRule_371 (by decide) ?_
    have hU : rU dgt E 2 l1 r1 = none := by first | (simp [rU]; done) | (exfalso; omega)
    have hP9 : va_P D vwCl [(hm, .inr (6, oM am n pos cmp que dsz mad cur stp met bst)), (am 1, .inl (cI, 18, .inl (nA dgt))), (am 20, .inl (cI, 36, .inl (nA rt)))] s.heap := hP.sub [0, 1, 2] rfl
    have hD9 : va_D _ [(hm, .inr (6, oM am n pos cmp que dsz mad cur stp met bst)), (am 1, .inl (cI, 18, .inl (nA dgt))), (am 20, .inl (cI, 36, .inl (nA rt)))] := hD.sub [0, 1, 2] (by decide) rfl
    exact W.zret (pc := 372) (v := (nI (0))) (ty := .boolean) hx hb hr (by decide) (fun t ht hW => ⟨⟨_, (mad, rt), rfl, ⟨(by first | (rw [hU]; done) | (rw [hU]; rfl)), (by rw [hU]; exact hL)⟩, by rw [ht]; exact hP9, va_K.moved hW.alike hK, hD9⟩, hS.F ht⟩) hS.2.2 dX8_unionRule_372
  · refine lv_tableIn (pc := 1) (tgt := 371) (off := 370) hx hb dX8_unionRule_1 (by decide) (by decide) (by decide) (by decide) ?_
    refine lv_iconst (pc := 371) (v := (nI (0))) hx hb dX8_unionRule_371 (by decide) ?_
    have hU : rU dgt E 3 l1 r1 = none := by first | (simp [rU]; done) | (exfalso; omega)
    have hP9 : va_P D vwCl [(hm, .inr (6, oM am n pos cmp que dsz mad cur stp met bst)), (am 1, .inl (cI, 18, .inl (nA dgt))), (am 20, .inl (cI, 36, .inl (nA rt)))] s.heap := hP.sub [0, 1, 2] rfl
    have hD9 : va_D _ [(hm, .inr (6, oM am n pos cmp que dsz mad cur stp met bst)), (am 1, .inl (cI, 18, .inl (nA dgt))), (am 20, .inl (cI, 36, .inl (nA rt)))] := hD.sub [0, 1, 2] (by decide) rfl
    exact W.zret (pc := 372) (v := (nI (0))) (ty := .boolean) hx hb hr (by decide) (fun t ht hW => ⟨⟨_, (mad, rt), rfl, ⟨(by first | (rw [hU]; done) | (rw [hU]; rfl)), (by rw [hU]; exact hL)⟩, by rw [ht]; exact hP9, va_K.moved hW.alike hK, hD9⟩, hS.F ht⟩) hS.2.2 dX8_unionRule_372
  · refine lv_tableIn (pc := 1) (tgt := 122) (off := 121) hx hb dX8_unionRule_1 (by decide) (by decide) (by decide) (by decide) ?_
    refine lv_aload_n (pc := 122) hx hb dX8_unionRule_122 rfl (lv_at hl 0 rfl) ?_
    refine lv_iload_n (pc := 123) hx hb dX8_unionRule_123 rfl (lv_at hl 2 rfl) ?_
    refine lv_iload_n (pc := 124) hx hb dX8_unionRule_124 rfl (lv_at hl 3 rfl) ?_
    refine vp_callSi (pc := 125) (W.runV (As := [.int (nI l1), .int (nI r1)]) (rest := []) ⟨hx, hb, hml, hown, hts⟩ (c_X8_areSame l D cI cL cZ hm am n pos cmp que dsz mad cur stp met bst dgt E N l1 r1 tv (by omega) (by omega)) (cwV 2 hts gX8_unionRule_X8_areSame rfl rfl rfl (by decide +kernel) ⟨Nat.le_of_ble_eq_true rfl, Nat.le_of_ble_eq_true rfl⟩) (rP_V (wc := [(hm, .inr (6, oM am n pos cmp que dsz mad cur stp met bst)), (am 1, .inl (cI, 18, .inl (nA dgt)))]) (ci := 6) (q0 := 0) hK hP [0, 1] rfl rfl rfl) rfl rfl hl.1 rfl (lv_room (Nat.le_of_ble_eq_true rfl)) dX8_unionRule_125 ⟨Nat.zero_le _, Nat.zero_le _⟩) (fun r hrr => ?_)
    rw [hrr]
    refine xp_if_eq (pc := 128) (tgt := 143) hx hb dX8_unionRule_128 (by decide) (fun c128 => ?_) (fun c128 => ?_)
    · refine lv_iconst (pc := 143) (v := (nI (0))) hx hb dX8_unionRule_143 (by decide) ?_
      have hU : rU dgt E 4 l1 r1 = none := by first | (simp [rU, c128]; done) | (exfalso; omega)
      have hP9 : va_P D vwCl [(hm, .inr (6, oM am n pos cmp que dsz mad cur stp met bst)), (am 1, .inl (cI, 18, .inl (nA dgt))), (am 20, .inl (cI, 36, .inl (nA rt)))] s.heap := hP.sub [0, 1, 2] rfl
      have hD9 : va_D _ [(hm, .inr (6, oM am n pos cmp que dsz mad cur stp met bst)), (am 1, .inl (cI, 18, .inl (nA dgt))), (am 20, .inl (cI, 36, .inl (nA rt)))] := hD.sub [0, 1, 2] (by decide) rfl
      exact W.zret (pc := 144) (v := (nI (0))) (ty := .boolean) hx hb hr (by decide) (fun t ht hW => ⟨⟨_, (mad, rt), rfl, ⟨(by first | (rw [hU]; done) | (rw [hU]; rfl)), (by rw [hU]; exact hL)⟩, by rw [ht]; exact hP9, va_K.moved hW.alike hK, hD9⟩, hS.F ht⟩) hS.2.2 dX8_unionRule_144
    · refine lv_aload_n (pc := 131) hx hb dX8_unionRule_131 rfl (lv_at hl 0 rfl) ?_
      refine lv_iload_n (pc := 132) hx hb dX8_unionRule_132 rfl (lv_at hl 2 rfl) ?_
      refine xm_calli (pc := 133) (wc := [(hm, .inr (6, oM am n pos cmp que dsz mad cur stp met bst)), (am 1, .inl (cI, 18, .inl (nA dgt))), (am 20, .inl (cI, 36, .inl (nA rt)))]) (wr := []) (va_runV (As := [.int (nI l1)]) (rest := []) ⟨hx, hb, hml, hown, hts⟩ (c_X8_copies l D cI cL cZ s.heap.size hm am n pos cmp que dsz mad cur stp met bst dgt E N rt ([]) l1 tv (by omega) (by have h0 := tv.q (show l1 < N by omega); omega) hL) (cwV 1 hts gX8_unionRule_X8_copies rfl rfl rfl (by decide +kernel) ⟨Nat.le_of_ble_eq_true rfl, Nat.le_of_ble_eq_true rfl⟩) (mP_V (wc := [(hm, .inr (6, oM am n pos cmp que dsz mad cur stp met bst)), (am 1, .inl (cI, 18, .inl (nA dgt))), (am 20, .inl (cI, 36, .inl (nA rt)))]) (ci := 6) (q0 := 0) hK hP hD [0, 1, 2] (by decide) rfl rfl rfl) rfl rfl hl.1 rfl (lv_room (Nat.le_of_ble_eq_true rfl)) dX8_unionRule_133 ⟨Nat.zero_le _, Nat.zero_le _⟩) hP hD hS hA [0, 1, 2] [] rfl rfl (by decide) (by decide) (fun r u H locs hw hP hD hS => ?_)
      obtain ⟨mad2_133, rt2_133⟩ := u
      have hP : va_P D vwCl [(hm, .inr (6, oM am n pos cmp que dsz mad2_133 cur stp met bst)), (am 1, .inl (cI, 18, .inl (nA dgt))), (am 20, .inl (cI, 36, .inl (nA rt2_133)))] H := hP
      have hD : va_D _ [(hm, .inr (6, oM am n pos cmp que dsz mad2_133 cur stp met bst)), (am 1, .inl (cI, 18, .inl (nA dgt))), (am 20, .inl (cI, 36, .inl (nA rt2_133)))] := hD
      try dsimp only at hw
      obtain ⟨hrr, hw133⟩ := hw
      rw [hrr]
      refine lv_if_eq (pc := 136) (tgt := 143) hx hb dX8_unionRule_136 (by decide) (fun h => absurd h (by decide)) (fun _ => ?_)
      refine lv_iconst (pc := 139) (v := (nI (1))) hx hb dX8_unionRule_139 (by decide) ?_
      refine lv_goto (pc := 140) (tgt := 144) hx hb dX8_unionRule_140 (by decide) ?_
      have hU : rU dgt E 4 l1 r1 = some (([]) ++ sb dgt E l1) := by first | (simp [rU, c128]; done) | (exfalso; omega)
      have hP9 : va_P D vwCl [(hm, .inr (6, oM am n pos cmp que dsz mad2_133 cur stp met bst)), (am 1, .inl (cI, 18, .inl (nA dgt))), (am 20, .inl (cI, 36, .inl (nA rt2_133)))] H := hP.sub [0, 1, 2] rfl
      have hD9 : va_D _ [(hm, .inr (6, oM am n pos cmp que dsz mad2_133 cur stp met bst)), (am 1, .inl (cI, 18, .inl (nA dgt))), (am 20, .inl (cI, 36, .inl (nA rt2_133)))] := hD.sub [0, 1, 2] (by decide) rfl
      exact W.zret (pc := 144) (v := (nI (1))) (ty := .boolean) hx hb hr (by decide) (fun t ht hW => ⟨⟨_, (mad2_133, rt2_133), rfl, ⟨(by first | (rw [hU]; done) | (rw [hU]; rfl)), (by rw [hU]; exact hw133)⟩, by rw [ht]; exact hP9, va_K.moved hW.alike hK, hD9⟩, hS.F ht⟩) hS.2.2 dX8_unionRule_144
  · refine lv_tableIn (pc := 1) (tgt := 371) (off := 370) hx hb dX8_unionRule_1 (by decide) (by decide) (by decide) (by decide) ?_
    refine lv_iconst (pc := 371) (v := (nI (0))) hx hb dX8_unionRule_371 (by decide) ?_
    have hU : rU dgt E 5 l1 r1 = none := by first | (simp [rU]; done) | (exfalso; omega)
    have hP9 : va_P D vwCl [(hm, .inr (6, oM am n pos cmp que dsz mad cur stp met bst)), (am 1, .inl (cI, 18, .inl (nA dgt))), (am 20, .inl (cI, 36, .inl (nA rt)))] s.heap := hP.sub [0, 1, 2] rfl
    have hD9 : va_D _ [(hm, .inr (6, oM am n pos cmp que dsz mad cur stp met bst)), (am 1, .inl (cI, 18, .inl (nA dgt))), (am 20, .inl (cI, 36, .inl (nA rt)))] := hD.sub [0, 1, 2] (by decide) rfl
    exact W.zret (pc := 372) (v := (nI (0))) (ty := .boolean) hx hb hr (by decide) (fun t ht hW => ⟨⟨_, (mad, rt), rfl, ⟨(by first | (rw [hU]; done) | (rw [hU]; rfl)), (by rw [hU]; exact hL)⟩, by rw [ht]; exact hP9, va_K.moved hW.alike hK, hD9⟩, hS.F ht⟩) hS.2.2 dX8_unionRule_372
  · refine lv_tableIn (pc := 1) (tgt := 371) (off := 370) hx hb dX8_unionRule_1 (by decide) (by decide) (by decide) (by decide) ?_
    refine lv_iconst (pc := 371) (v := (nI (0))) hx hb dX8_unionRule_371 (by decide) ?_
    have hU : rU dgt E 6 l1 r1 = none := by first | (simp [rU]; done) | (exfalso; omega)
    have hP9 : va_P D vwCl [(hm, .inr (6, oM am n pos cmp que dsz mad cur stp met bst)), (am 1, .inl (cI, 18, .inl (nA dgt))), (am 20, .inl (cI, 36, .inl (nA rt)))] s.heap := hP.sub [0, 1, 2] rfl
    have hD9 : va_D _ [(hm, .inr (6, oM am n pos cmp que dsz mad cur stp met bst)), (am 1, .inl (cI, 18, .inl (nA dgt))), (am 20, .inl (cI, 36, .inl (nA rt)))] := hD.sub [0, 1, 2] (by decide) rfl
    exact W.zret (pc := 372) (v := (nI (0))) (ty := .boolean) hx hb hr (by decide) (fun t ht hW => ⟨⟨_, (mad, rt), rfl, ⟨(by first | (rw [hU]; done) | (rw [hU]; rfl)), (by rw [hU]; exact hL)⟩, by rw [ht]; exact hP9, va_K.moved hW.alike hK, hD9⟩, hS.F ht⟩) hS.2.2 dX8_unionRule_372
  · refine lv_tableIn (pc := 1) (tgt := 371) (off := 370) hx hb dX8_unionRule_1 (by decide) (by decide) (by decide) (by decide) ?_
    refine lv_iconst (pc := 371) (v := (nI (0))) hx hb dX8_unionRule_371 (by decide) ?_
    have hU : rU dgt E 7 l1 r1 = none := by first | (simp [rU]; done) | (exfalso; omega)
    have hP9 : va_P D vwCl [(hm, .inr (6, oM am n pos cmp que dsz mad cur stp met bst)), (am 1, .inl (cI, 18, .inl (nA dgt))), (am 20, .inl (cI, 36, .inl (nA rt)))] s.heap := hP.sub [0, 1, 2] rfl
    have hD9 : va_D _ [(hm, .inr (6, oM am n pos cmp que dsz mad cur stp met bst)), (am 1, .inl (cI, 18, .inl (nA dgt))), (am 20, .inl (cI, 36, .inl (nA rt)))] := hD.sub [0, 1, 2] (by decide) rfl
    exact W.zret (pc := 372) (v := (nI (0))) (ty := .boolean) hx hb hr (by decide) (fun t ht hW => ⟨⟨_, (mad, rt), rfl, ⟨(by first | (rw [hU]; done) | (rw [hU]; rfl)), (by rw [hU]; exact hL)⟩, by rw [ht]; exact hP9, va_K.moved hW.alike hK, hD9⟩, hS.F ht⟩) hS.2.2 dX8_unionRule_372
  · refine lv_tableIn (pc := 1) (tgt := 145) (off := 144) hx hb dX8_unionRule_1 (by decide) (by decide) (by decide) (by decide) ?_
    refine lv_aload_n (pc := 145) hx hb dX8_unionRule_145 rfl (lv_at hl 0 rfl) ?_
    refine va_get (pc := 146) (D := D) (ci := 6) (v := .ref (am 1)) (C := RX8) (T := TX8) (N := 30) hx hb hts hinX8 hown hK hP 0 rfl rfl 1 (by decide) lk0 (fun _ h9 => h9) rfl dX8_unionRule_146 ?_
    refine lv_iload_n (pc := 149) hx hb dX8_unionRule_149 rfl (lv_at hl 2 rfl) ?_
    refine xa_iald (pc := 150) hx hb hK hP 1 0 rfl rfl (by omega) (by omega) dX8_unionRule_150 ?_
    refine lv_iconst (pc := 151) (v := (nI (2))) hx hb dX8_unionRule_151 (by decide) ?_
    refine xn_icmp_ne (pc := 152) (tgt := 174) hx hb (by have h5 := tv.q (show l1 < N by omega); omega) (by omega) dX8_unionRule_152 (by decide) (fun c152 => ?_) (fun c152 => ?_)
    · refine lv_aload_n (pc := 174) hx hb dX8_unionRule_174 rfl (lv_at hl 0 rfl) ?_
      refine va_get (pc := 175) (D := D) (ci := 6) (v := .ref (am 1)) (C := RX8) (T := TX8) (N := 30) hx hb hts hinX8 hown hK hP 0 rfl rfl 1 (by decide) lk0 (fun _ h9 => h9) rfl dX8_unionRule_175 ?_
      refine lv_iload_n (pc := 178) hx hb dX8_unionRule_178 rfl (lv_at hl 2 rfl) ?_
      refine xa_iald (pc := 179) hx hb hK hP 1 0 rfl rfl (by omega) (by omega) dX8_unionRule_179 ?_
      refine lv_bipush (pc := 180) (v := (nI (8))) hx hb dX8_unionRule_180 (by decide) ?_
      refine xn_icmp_ne (pc := 182) (tgt := 207) hx hb (by have h5 := tv.q (show l1 < N by omega); omega) (by omega) dX8_unionRule_182 (by decide) (fun c182 => ?_) (fun c182 => ?_)
      · refine lv_iconst (pc := 207) (v := (nI (0))) hx hb dX8_unionRule_207 (by decide) ?_
        have hU : rU dgt E 8 l1 r1 = none := by first | (simp [rU, c152, c182]; done) | (exfalso; omega)
        have hP9 : va_P D vwCl [(hm, .inr (6, oM am n pos cmp que dsz mad cur stp met bst)), (am 1, .inl (cI, 18, .inl (nA dgt))), (am 20, .inl (cI, 36, .inl (nA rt)))] s.heap := hP.sub [0, 1, 2] rfl
        have hD9 : va_D _ [(hm, .inr (6, oM am n pos cmp que dsz mad cur stp met bst)), (am 1, .inl (cI, 18, .inl (nA dgt))), (am 20, .inl (cI, 36, .inl (nA rt)))] := hD.sub [0, 1, 2] (by decide) rfl
        exact W.zret (pc := 208) (v := (nI (0))) (ty := .boolean) hx hb hr (by decide) (fun t ht hW => ⟨⟨_, (mad, rt), rfl, ⟨(by first | (rw [hU]; done) | (rw [hU]; rfl)), (by rw [hU]; exact hL)⟩, by rw [ht]; exact hP9, va_K.moved hW.alike hK, hD9⟩, hS.F ht⟩) hS.2.2 dX8_unionRule_208
      · refine lv_aload_n (pc := 185) hx hb dX8_unionRule_185 rfl (lv_at hl 0 rfl) ?_
        refine va_get (pc := 186) (D := D) (ci := 6) (v := .ref (am 1)) (C := RX8) (T := TX8) (N := 30) hx hb hts hinX8 hown hK hP 0 rfl rfl 1 (by decide) lk0 (fun _ h9 => h9) rfl dX8_unionRule_186 ?_
        refine lv_iload_n (pc := 189) hx hb dX8_unionRule_189 rfl (lv_at hl 3 rfl) ?_
        refine xa_iald (pc := 190) hx hb hK hP 1 0 rfl rfl (by omega) (by omega) dX8_unionRule_190 ?_
        refine lv_iconst (pc := 191) (v := (nI (2))) hx hb dX8_unionRule_191 (by decide) ?_
        refine xn_icmp_ne (pc := 192) (tgt := 207) hx hb (by have h5 := tv.q (show r1 < N by omega); omega) (by omega) dX8_unionRule_192 (by decide) (fun c192 => ?_) (fun c192 => ?_)
        · refine lv_iconst (pc := 207) (v := (nI (0))) hx hb dX8_unionRule_207 (by decide) ?_
          have hU : rU dgt E 8 l1 r1 = none := by first | (simp [rU, c152, c182, c192]; done) | (exfalso; omega)
          have hP9 : va_P D vwCl [(hm, .inr (6, oM am n pos cmp que dsz mad cur stp met bst)), (am 1, .inl (cI, 18, .inl (nA dgt))), (am 20, .inl (cI, 36, .inl (nA rt)))] s.heap := hP.sub [0, 1, 2] rfl
          have hD9 : va_D _ [(hm, .inr (6, oM am n pos cmp que dsz mad cur stp met bst)), (am 1, .inl (cI, 18, .inl (nA dgt))), (am 20, .inl (cI, 36, .inl (nA rt)))] := hD.sub [0, 1, 2] (by decide) rfl
          exact W.zret (pc := 208) (v := (nI (0))) (ty := .boolean) hx hb hr (by decide) (fun t ht hW => ⟨⟨_, (mad, rt), rfl, ⟨(by first | (rw [hU]; done) | (rw [hU]; rfl)), (by rw [hU]; exact hL)⟩, by rw [ht]; exact hP9, va_K.moved hW.alike hK, hD9⟩, hS.F ht⟩) hS.2.2 dX8_unionRule_208
        · refine lv_aload_n (pc := 195) hx hb dX8_unionRule_195 rfl (lv_at hl 0 rfl) ?_
          refine lv_iload_n (pc := 196) hx hb dX8_unionRule_196 rfl (lv_at hl 2 rfl) ?_
          refine xm_calli (pc := 197) (wc := [(hm, .inr (6, oM am n pos cmp que dsz mad cur stp met bst)), (am 1, .inl (cI, 18, .inl (nA dgt))), (am 20, .inl (cI, 36, .inl (nA rt)))]) (wr := []) (va_runV (As := [.int (nI l1)]) (rest := []) ⟨hx, hb, hml, hown, hts⟩ (c_X8_copies l D cI cL cZ s.heap.size hm am n pos cmp que dsz mad cur stp met bst dgt E N rt ([]) l1 tv (by omega) (by have h0 := tv.q (show l1 < N by omega); omega) hL) (cwV 1 hts gX8_unionRule_X8_copies rfl rfl rfl (by decide +kernel) ⟨Nat.le_of_ble_eq_true rfl, Nat.le_of_ble_eq_true rfl⟩) (mP_V (wc := [(hm, .inr (6, oM am n pos cmp que dsz mad cur stp met bst)), (am 1, .inl (cI, 18, .inl (nA dgt))), (am 20, .inl (cI, 36, .inl (nA rt)))]) (ci := 6) (q0 := 0) hK hP hD [0, 1, 2] (by decide) rfl rfl rfl) rfl rfl hl.1 rfl (lv_room (Nat.le_of_ble_eq_true rfl)) dX8_unionRule_197 ⟨Nat.zero_le _, Nat.zero_le _⟩) hP hD hS hA [0, 1, 2] [] rfl rfl (by decide) (by decide) (fun r u H locs hw hP hD hS => ?_)
          obtain ⟨mad2_197, rt2_197⟩ := u
          have hP : va_P D vwCl [(hm, .inr (6, oM am n pos cmp que dsz mad2_197 cur stp met bst)), (am 1, .inl (cI, 18, .inl (nA dgt))), (am 20, .inl (cI, 36, .inl (nA rt2_197)))] H := hP
          have hD : va_D _ [(hm, .inr (6, oM am n pos cmp que dsz mad2_197 cur stp met bst)), (am 1, .inl (cI, 18, .inl (nA dgt))), (am 20, .inl (cI, 36, .inl (nA rt2_197)))] := hD
          try dsimp only at hw
          obtain ⟨hrr, hw197⟩ := hw
          rw [hrr]
          refine lv_if_eq (pc := 200) (tgt := 207) hx hb dX8_unionRule_200 (by decide) (fun h => absurd h (by decide)) (fun _ => ?_)
          refine lv_iconst (pc := 203) (v := (nI (1))) hx hb dX8_unionRule_203 (by decide) ?_
          refine lv_goto (pc := 204) (tgt := 208) hx hb dX8_unionRule_204 (by decide) ?_
          have hU : rU dgt E 8 l1 r1 = some (([]) ++ sb dgt E l1) := by first | (simp [rU, c152, c182, c192]; done) | (exfalso; omega)
          have hP9 : va_P D vwCl [(hm, .inr (6, oM am n pos cmp que dsz mad2_197 cur stp met bst)), (am 1, .inl (cI, 18, .inl (nA dgt))), (am 20, .inl (cI, 36, .inl (nA rt2_197)))] H := hP.sub [0, 1, 2] rfl
          have hD9 : va_D _ [(hm, .inr (6, oM am n pos cmp que dsz mad2_197 cur stp met bst)), (am 1, .inl (cI, 18, .inl (nA dgt))), (am 20, .inl (cI, 36, .inl (nA rt2_197)))] := hD.sub [0, 1, 2] (by decide) rfl
          exact W.zret (pc := 208) (v := (nI (1))) (ty := .boolean) hx hb hr (by decide) (fun t ht hW => ⟨⟨_, (mad2_197, rt2_197), rfl, ⟨(by first | (rw [hU]; done) | (rw [hU]; rfl)), (by rw [hU]; exact hw197)⟩, by rw [ht]; exact hP9, va_K.moved hW.alike hK, hD9⟩, hS.F ht⟩) hS.2.2 dX8_unionRule_208
    · refine lv_aload_n (pc := 155) hx hb dX8_unionRule_155 rfl (lv_at hl 0 rfl) ?_
      refine va_get (pc := 156) (D := D) (ci := 6) (v := .ref (am 1)) (C := RX8) (T := TX8) (N := 30) hx hb hts hinX8 hown hK hP 0 rfl rfl 1 (by decide) lk0 (fun _ h9 => h9) rfl dX8_unionRule_156 ?_
      refine lv_iload_n (pc := 159) hx hb dX8_unionRule_159 rfl (lv_at hl 3 rfl) ?_
      refine xa_iald (pc := 160) hx hb hK hP 1 0 rfl rfl (by omega) (by omega) dX8_unionRule_160 ?_
      refine lv_bipush (pc := 161) (v := (nI (8))) hx hb dX8_unionRule_161 (by decide) ?_
      refine xn_icmp_ne (pc := 163) (tgt := 174) hx hb (by have h5 := tv.q (show r1 < N by omega); omega) (by omega) dX8_unionRule_163 (by decide) (fun c163 => ?_) (fun c163 => ?_)
      · refine lv_aload_n (pc := 174) hx hb dX8_unionRule_174 rfl (lv_at hl 0 rfl) ?_
        refine va_get (pc := 175) (D := D) (ci := 6) (v := .ref (am 1)) (C := RX8) (T := TX8) (N := 30) hx hb hts hinX8 hown hK hP 0 rfl rfl 1 (by decide) lk0 (fun _ h9 => h9) rfl dX8_unionRule_175 ?_
        refine lv_iload_n (pc := 178) hx hb dX8_unionRule_178 rfl (lv_at hl 2 rfl) ?_
        refine xa_iald (pc := 179) hx hb hK hP 1 0 rfl rfl (by omega) (by omega) dX8_unionRule_179 ?_
        refine lv_bipush (pc := 180) (v := (nI (8))) hx hb dX8_unionRule_180 (by decide) ?_
        refine xn_icmp_ne (pc := 182) (tgt := 207) hx hb (by have h5 := tv.q (show l1 < N by omega); omega) (by omega) dX8_unionRule_182 (by decide) (fun c182 => ?_) (fun c182 => ?_)
        · refine lv_iconst (pc := 207) (v := (nI (0))) hx hb dX8_unionRule_207 (by decide) ?_
          have hU : rU dgt E 8 l1 r1 = none := by first | (simp [rU, c152, c163, c182]; done) | (exfalso; omega)
          have hP9 : va_P D vwCl [(hm, .inr (6, oM am n pos cmp que dsz mad cur stp met bst)), (am 1, .inl (cI, 18, .inl (nA dgt))), (am 20, .inl (cI, 36, .inl (nA rt)))] s.heap := hP.sub [0, 1, 2] rfl
          have hD9 : va_D _ [(hm, .inr (6, oM am n pos cmp que dsz mad cur stp met bst)), (am 1, .inl (cI, 18, .inl (nA dgt))), (am 20, .inl (cI, 36, .inl (nA rt)))] := hD.sub [0, 1, 2] (by decide) rfl
          exact W.zret (pc := 208) (v := (nI (0))) (ty := .boolean) hx hb hr (by decide) (fun t ht hW => ⟨⟨_, (mad, rt), rfl, ⟨(by first | (rw [hU]; done) | (rw [hU]; rfl)), (by rw [hU]; exact hL)⟩, by rw [ht]; exact hP9, va_K.moved hW.alike hK, hD9⟩, hS.F ht⟩) hS.2.2 dX8_unionRule_208
        · refine lv_aload_n (pc := 185) hx hb dX8_unionRule_185 rfl (lv_at hl 0 rfl) ?_
          refine va_get (pc := 186) (D := D) (ci := 6) (v := .ref (am 1)) (C := RX8) (T := TX8) (N := 30) hx hb hts hinX8 hown hK hP 0 rfl rfl 1 (by decide) lk0 (fun _ h9 => h9) rfl dX8_unionRule_186 ?_
          refine lv_iload_n (pc := 189) hx hb dX8_unionRule_189 rfl (lv_at hl 3 rfl) ?_
          refine xa_iald (pc := 190) hx hb hK hP 1 0 rfl rfl (by omega) (by omega) dX8_unionRule_190 ?_
          refine lv_iconst (pc := 191) (v := (nI (2))) hx hb dX8_unionRule_191 (by decide) ?_
          refine xn_icmp_ne (pc := 192) (tgt := 207) hx hb (by have h5 := tv.q (show r1 < N by omega); omega) (by omega) dX8_unionRule_192 (by decide) (fun c192 => ?_) (fun c192 => ?_)
          · refine lv_iconst (pc := 207) (v := (nI (0))) hx hb dX8_unionRule_207 (by decide) ?_
            have hU : rU dgt E 8 l1 r1 = none := by first | (simp [rU, c152, c163, c182, c192]; done) | (exfalso; omega)
            have hP9 : va_P D vwCl [(hm, .inr (6, oM am n pos cmp que dsz mad cur stp met bst)), (am 1, .inl (cI, 18, .inl (nA dgt))), (am 20, .inl (cI, 36, .inl (nA rt)))] s.heap := hP.sub [0, 1, 2] rfl
            have hD9 : va_D _ [(hm, .inr (6, oM am n pos cmp que dsz mad cur stp met bst)), (am 1, .inl (cI, 18, .inl (nA dgt))), (am 20, .inl (cI, 36, .inl (nA rt)))] := hD.sub [0, 1, 2] (by decide) rfl
            exact W.zret (pc := 208) (v := (nI (0))) (ty := .boolean) hx hb hr (by decide) (fun t ht hW => ⟨⟨_, (mad, rt), rfl, ⟨(by first | (rw [hU]; done) | (rw [hU]; rfl)), (by rw [hU]; exact hL)⟩, by rw [ht]; exact hP9, va_K.moved hW.alike hK, hD9⟩, hS.F ht⟩) hS.2.2 dX8_unionRule_208
          · refine lv_aload_n (pc := 195) hx hb dX8_unionRule_195 rfl (lv_at hl 0 rfl) ?_
            refine lv_iload_n (pc := 196) hx hb dX8_unionRule_196 rfl (lv_at hl 2 rfl) ?_
            refine xm_calli (pc := 197) (wc := [(hm, .inr (6, oM am n pos cmp que dsz mad cur stp met bst)), (am 1, .inl (cI, 18, .inl (nA dgt))), (am 20, .inl (cI, 36, .inl (nA rt)))]) (wr := []) (va_runV (As := [.int (nI l1)]) (rest := []) ⟨hx, hb, hml, hown, hts⟩ (c_X8_copies l D cI cL cZ s.heap.size hm am n pos cmp que dsz mad cur stp met bst dgt E N rt ([]) l1 tv (by omega) (by have h0 := tv.q (show l1 < N by omega); omega) hL) (cwV 1 hts gX8_unionRule_X8_copies rfl rfl rfl (by decide +kernel) ⟨Nat.le_of_ble_eq_true rfl, Nat.le_of_ble_eq_true rfl⟩) (mP_V (wc := [(hm, .inr (6, oM am n pos cmp que dsz mad cur stp met bst)), (am 1, .inl (cI, 18, .inl (nA dgt))), (am 20, .inl (cI, 36, .inl (nA rt)))]) (ci := 6) (q0 := 0) hK hP hD [0, 1, 2] (by decide) rfl rfl rfl) rfl rfl hl.1 rfl (lv_room (Nat.le_of_ble_eq_true rfl)) dX8_unionRule_197 ⟨Nat.zero_le _, Nat.zero_le _⟩) hP hD hS hA [0, 1, 2] [] rfl rfl (by decide) (by decide) (fun r u H locs hw hP hD hS => ?_)
            obtain ⟨mad2_197, rt2_197⟩ := u
            have hP : va_P D vwCl [(hm, .inr (6, oM am n pos cmp que dsz mad2_197 cur stp met bst)), (am 1, .inl (cI, 18, .inl (nA dgt))), (am 20, .inl (cI, 36, .inl (nA rt2_197)))] H := hP
            have hD : va_D _ [(hm, .inr (6, oM am n pos cmp que dsz mad2_197 cur stp met bst)), (am 1, .inl (cI, 18, .inl (nA dgt))), (am 20, .inl (cI, 36, .inl (nA rt2_197)))] := hD
            try dsimp only at hw
            obtain ⟨hrr, hw197⟩ := hw
            rw [hrr]
            refine lv_if_eq (pc := 200) (tgt := 207) hx hb dX8_unionRule_200 (by decide) (fun h => absurd h (by decide)) (fun _ => ?_)
            refine lv_iconst (pc := 203) (v := (nI (1))) hx hb dX8_unionRule_203 (by decide) ?_
            refine lv_goto (pc := 204) (tgt := 208) hx hb dX8_unionRule_204 (by decide) ?_
            have hU : rU dgt E 8 l1 r1 = some (([]) ++ sb dgt E l1) := by first | (simp [rU, c152, c163, c182, c192]; done) | (exfalso; omega)
            have hP9 : va_P D vwCl [(hm, .inr (6, oM am n pos cmp que dsz mad2_197 cur stp met bst)), (am 1, .inl (cI, 18, .inl (nA dgt))), (am 20, .inl (cI, 36, .inl (nA rt2_197)))] H := hP.sub [0, 1, 2] rfl
            have hD9 : va_D _ [(hm, .inr (6, oM am n pos cmp que dsz mad2_197 cur stp met bst)), (am 1, .inl (cI, 18, .inl (nA dgt))), (am 20, .inl (cI, 36, .inl (nA rt2_197)))] := hD.sub [0, 1, 2] (by decide) rfl
            exact W.zret (pc := 208) (v := (nI (1))) (ty := .boolean) hx hb hr (by decide) (fun t ht hW => ⟨⟨_, (mad2_197, rt2_197), rfl, ⟨(by first | (rw [hU]; done) | (rw [hU]; rfl)), (by rw [hU]; exact hw197)⟩, by rw [ht]; exact hP9, va_K.moved hW.alike hK, hD9⟩, hS.F ht⟩) hS.2.2 dX8_unionRule_208
      · refine lv_aload_n (pc := 166) hx hb dX8_unionRule_166 rfl (lv_at hl 0 rfl) ?_
        refine lv_iload_n (pc := 167) hx hb dX8_unionRule_167 rfl (lv_at hl 3 rfl) ?_
        refine xm_calli (pc := 168) (wc := [(hm, .inr (6, oM am n pos cmp que dsz mad cur stp met bst)), (am 1, .inl (cI, 18, .inl (nA dgt))), (am 20, .inl (cI, 36, .inl (nA rt)))]) (wr := []) (va_runV (As := [.int (nI r1)]) (rest := []) ⟨hx, hb, hml, hown, hts⟩ (c_X8_copies l D cI cL cZ s.heap.size hm am n pos cmp que dsz mad cur stp met bst dgt E N rt ([]) r1 tv (by omega) (by have h0 := tv.q (show r1 < N by omega); omega) hL) (cwV 1 hts gX8_unionRule_X8_copies rfl rfl rfl (by decide +kernel) ⟨Nat.le_of_ble_eq_true rfl, Nat.le_of_ble_eq_true rfl⟩) (mP_V (wc := [(hm, .inr (6, oM am n pos cmp que dsz mad cur stp met bst)), (am 1, .inl (cI, 18, .inl (nA dgt))), (am 20, .inl (cI, 36, .inl (nA rt)))]) (ci := 6) (q0 := 0) hK hP hD [0, 1, 2] (by decide) rfl rfl rfl) rfl rfl hl.1 rfl (lv_room (Nat.le_of_ble_eq_true rfl)) dX8_unionRule_168 ⟨Nat.zero_le _, Nat.zero_le _⟩) hP hD hS hA [0, 1, 2] [] rfl rfl (by decide) (by decide) (fun r u H locs hw hP hD hS => ?_)
        obtain ⟨mad2_168, rt2_168⟩ := u
        have hP : va_P D vwCl [(hm, .inr (6, oM am n pos cmp que dsz mad2_168 cur stp met bst)), (am 1, .inl (cI, 18, .inl (nA dgt))), (am 20, .inl (cI, 36, .inl (nA rt2_168)))] H := hP
        have hD : va_D _ [(hm, .inr (6, oM am n pos cmp que dsz mad2_168 cur stp met bst)), (am 1, .inl (cI, 18, .inl (nA dgt))), (am 20, .inl (cI, 36, .inl (nA rt2_168)))] := hD
        try dsimp only at hw
        obtain ⟨hrr, hw168⟩ := hw
        rw [hrr]
        refine lv_goto (pc := 171) (tgt := 208) hx hb dX8_unionRule_171 (by decide) ?_
        have hU : rU dgt E 8 l1 r1 = some (([]) ++ sb dgt E r1) := by first | (simp [rU, c152, c163]; done) | (exfalso; omega)
        have hP9 : va_P D vwCl [(hm, .inr (6, oM am n pos cmp que dsz mad2_168 cur stp met bst)), (am 1, .inl (cI, 18, .inl (nA dgt))), (am 20, .inl (cI, 36, .inl (nA rt2_168)))] H := hP.sub [0, 1, 2] rfl
        have hD9 : va_D _ [(hm, .inr (6, oM am n pos cmp que dsz mad2_168 cur stp met bst)), (am 1, .inl (cI, 18, .inl (nA dgt))), (am 20, .inl (cI, 36, .inl (nA rt2_168)))] := hD.sub [0, 1, 2] (by decide) rfl
        exact W.zret (pc := 208) (v := (nI (1))) (ty := .boolean) hx hb hr (by decide) (fun t ht hW => ⟨⟨_, (mad2_168, rt2_168), rfl, ⟨(by first | (rw [hU]; done) | (rw [hU]; rfl)), (by rw [hU]; exact hw168)⟩, by rw [ht]; exact hP9, va_K.moved hW.alike hK, hD9⟩, hS.F ht⟩) hS.2.2 dX8_unionRule_208
  · refine lv_tableIn (pc := 1) (tgt := 209) (off := 208) hx hb dX8_unionRule_1 (by decide) (by decide) (by decide) (by decide) ?_
    refine lv_aload_n (pc := 209) hx hb dX8_unionRule_209 rfl (lv_at hl 0 rfl) ?_
    refine va_get (pc := 210) (D := D) (ci := 6) (v := .ref (am 1)) (C := RX8) (T := TX8) (N := 30) hx hb hts hinX8 hown hK hP 0 rfl rfl 1 (by decide) lk0 (fun _ h9 => h9) rfl dX8_unionRule_210 ?_
    refine lv_iload_n (pc := 213) hx hb dX8_unionRule_213 rfl (lv_at hl 3 rfl) ?_
    refine xa_iald (pc := 214) hx hb hK hP 1 0 rfl rfl (by omega) (by omega) dX8_unionRule_214 ?_
    refine lv_bipush (pc := 215) (v := (nI (8))) hx hb dX8_unionRule_215 (by decide) ?_
    refine xn_icmp_ne (pc := 217) (tgt := 239) hx hb (by have h5 := tv.q (show r1 < N by omega); omega) (by omega) dX8_unionRule_217 (by decide) (fun c217 => ?_) (fun c217 => ?_)
    · refine lv_aload_n (pc := 239) hx hb dX8_unionRule_239 rfl (lv_at hl 0 rfl) ?_
      refine va_get (pc := 240) (D := D) (ci := 6) (v := .ref (am 1)) (C := RX8) (T := TX8) (N := 30) hx hb hts hinX8 hown hK hP 0 rfl rfl 1 (by decide) lk0 (fun _ h9 => h9) rfl dX8_unionRule_240 ?_
      refine lv_iload_n (pc := 243) hx hb dX8_unionRule_243 rfl (lv_at hl 2 rfl) ?_
      refine xa_iald (pc := 244) hx hb hK hP 1 0 rfl rfl (by omega) (by omega) dX8_unionRule_244 ?_
      refine lv_bipush (pc := 245) (v := (nI (8))) hx hb dX8_unionRule_245 (by decide) ?_
      refine xn_icmp_ne (pc := 247) (tgt := 273) hx hb (by have h5 := tv.q (show l1 < N by omega); omega) (by omega) dX8_unionRule_247 (by decide) (fun c247 => ?_) (fun c247 => ?_)
      · refine lv_iconst (pc := 273) (v := (nI (0))) hx hb dX8_unionRule_273 (by decide) ?_
        have hU : rU dgt E 9 l1 r1 = none := by first | (simp [rU, c217, c247]; done) | (exfalso; omega)
        have hP9 : va_P D vwCl [(hm, .inr (6, oM am n pos cmp que dsz mad cur stp met bst)), (am 1, .inl (cI, 18, .inl (nA dgt))), (am 20, .inl (cI, 36, .inl (nA rt)))] s.heap := hP.sub [0, 1, 2] rfl
        have hD9 : va_D _ [(hm, .inr (6, oM am n pos cmp que dsz mad cur stp met bst)), (am 1, .inl (cI, 18, .inl (nA dgt))), (am 20, .inl (cI, 36, .inl (nA rt)))] := hD.sub [0, 1, 2] (by decide) rfl
        exact W.zret (pc := 274) (v := (nI (0))) (ty := .boolean) hx hb hr (by decide) (fun t ht hW => ⟨⟨_, (mad, rt), rfl, ⟨(by first | (rw [hU]; done) | (rw [hU]; rfl)), (by rw [hU]; exact hL)⟩, by rw [ht]; exact hP9, va_K.moved hW.alike hK, hD9⟩, hS.F ht⟩) hS.2.2 dX8_unionRule_274
      · have ho := tv.one hl1 c247
        refine lv_aload_n (pc := 250) hx hb dX8_unionRule_250 rfl (lv_at hl 0 rfl) ?_
        refine lv_iload_n (pc := 251) hx hb dX8_unionRule_251 rfl (lv_at hl 2 rfl) ?_
        refine lv_iconst (pc := 252) (v := (nI (1))) hx hb dX8_unionRule_252 (by decide) ?_
        refine xn_iadd (pc := 253) hx hb  dX8_unionRule_253 ?_
        refine lv_iload_n (pc := 254) hx hb dX8_unionRule_254 rfl (lv_at hl 3 rfl) ?_
        refine vp_callSi (pc := 255) (W.runV (As := [.int (nI (l1 + 1)), .int (nI r1)]) (rest := []) ⟨hx, hb, hml, hown, hts⟩ (c_X8_areSame l D cI cL cZ hm am n pos cmp que dsz mad cur stp met bst dgt E N (l1 + 1) r1 tv (by omega) (by omega)) (cwV 2 hts gX8_unionRule_X8_areSame rfl rfl rfl (by decide +kernel) ⟨Nat.le_of_ble_eq_true rfl, Nat.le_of_ble_eq_true rfl⟩) (rP_V (wc := [(hm, .inr (6, oM am n pos cmp que dsz mad cur stp met bst)), (am 1, .inl (cI, 18, .inl (nA dgt)))]) (ci := 6) (q0 := 0) hK hP [0, 1] rfl rfl rfl) rfl rfl hl.1 rfl (lv_room (Nat.le_of_ble_eq_true rfl)) dX8_unionRule_255 ⟨Nat.zero_le _, Nat.zero_le _⟩) (fun r hrr => ?_)
        rw [hrr]
        refine xp_if_eq (pc := 258) (tgt := 273) hx hb dX8_unionRule_258 (by decide) (fun c258 => ?_) (fun c258 => ?_)
        · refine lv_iconst (pc := 273) (v := (nI (0))) hx hb dX8_unionRule_273 (by decide) ?_
          have hU : rU dgt E 9 l1 r1 = none := by first | (simp [rU, c217, c247, c258]; done) | (exfalso; omega)
          have hP9 : va_P D vwCl [(hm, .inr (6, oM am n pos cmp que dsz mad cur stp met bst)), (am 1, .inl (cI, 18, .inl (nA dgt))), (am 20, .inl (cI, 36, .inl (nA rt)))] s.heap := hP.sub [0, 1, 2] rfl
          have hD9 : va_D _ [(hm, .inr (6, oM am n pos cmp que dsz mad cur stp met bst)), (am 1, .inl (cI, 18, .inl (nA dgt))), (am 20, .inl (cI, 36, .inl (nA rt)))] := hD.sub [0, 1, 2] (by decide) rfl
          exact W.zret (pc := 274) (v := (nI (0))) (ty := .boolean) hx hb hr (by decide) (fun t ht hW => ⟨⟨_, (mad, rt), rfl, ⟨(by first | (rw [hU]; done) | (rw [hU]; rfl)), (by rw [hU]; exact hL)⟩, by rw [ht]; exact hP9, va_K.moved hW.alike hK, hD9⟩, hS.F ht⟩) hS.2.2 dX8_unionRule_274
        · refine lv_aload_n (pc := 261) hx hb dX8_unionRule_261 rfl (lv_at hl 0 rfl) ?_
          refine lv_iload_n (pc := 262) hx hb dX8_unionRule_262 rfl (lv_at hl 2 rfl) ?_
          refine xm_calli (pc := 263) (wc := [(hm, .inr (6, oM am n pos cmp que dsz mad cur stp met bst)), (am 1, .inl (cI, 18, .inl (nA dgt))), (am 20, .inl (cI, 36, .inl (nA rt)))]) (wr := []) (va_runV (As := [.int (nI l1)]) (rest := []) ⟨hx, hb, hml, hown, hts⟩ (c_X8_copies l D cI cL cZ s.heap.size hm am n pos cmp que dsz mad cur stp met bst dgt E N rt ([]) l1 tv (by omega) (by have h0 := tv.q (show l1 < N by omega); omega) hL) (cwV 1 hts gX8_unionRule_X8_copies rfl rfl rfl (by decide +kernel) ⟨Nat.le_of_ble_eq_true rfl, Nat.le_of_ble_eq_true rfl⟩) (mP_V (wc := [(hm, .inr (6, oM am n pos cmp que dsz mad cur stp met bst)), (am 1, .inl (cI, 18, .inl (nA dgt))), (am 20, .inl (cI, 36, .inl (nA rt)))]) (ci := 6) (q0 := 0) hK hP hD [0, 1, 2] (by decide) rfl rfl rfl) rfl rfl hl.1 rfl (lv_room (Nat.le_of_ble_eq_true rfl)) dX8_unionRule_263 ⟨Nat.zero_le _, Nat.zero_le _⟩) hP hD hS hA [0, 1, 2] [] rfl rfl (by decide) (by decide) (fun r u H locs hw hP hD hS => ?_)
          obtain ⟨mad2_263, rt2_263⟩ := u
          have hP : va_P D vwCl [(hm, .inr (6, oM am n pos cmp que dsz mad2_263 cur stp met bst)), (am 1, .inl (cI, 18, .inl (nA dgt))), (am 20, .inl (cI, 36, .inl (nA rt2_263)))] H := hP
          have hD : va_D _ [(hm, .inr (6, oM am n pos cmp que dsz mad2_263 cur stp met bst)), (am 1, .inl (cI, 18, .inl (nA dgt))), (am 20, .inl (cI, 36, .inl (nA rt2_263)))] := hD
          try dsimp only at hw
          obtain ⟨hrr, hw263⟩ := hw
          rw [hrr]
          refine lv_if_eq (pc := 266) (tgt := 273) hx hb dX8_unionRule_266 (by decide) (fun h => absurd h (by decide)) (fun _ => ?_)
          refine lv_iconst (pc := 269) (v := (nI (1))) hx hb dX8_unionRule_269 (by decide) ?_
          refine lv_goto (pc := 270) (tgt := 274) hx hb dX8_unionRule_270 (by decide) ?_
          have hU : rU dgt E 9 l1 r1 = some (([]) ++ sb dgt E l1) := by first | (simp [rU, c217, c247, c258]; done) | (exfalso; omega)
          have hP9 : va_P D vwCl [(hm, .inr (6, oM am n pos cmp que dsz mad2_263 cur stp met bst)), (am 1, .inl (cI, 18, .inl (nA dgt))), (am 20, .inl (cI, 36, .inl (nA rt2_263)))] H := hP.sub [0, 1, 2] rfl
          have hD9 : va_D _ [(hm, .inr (6, oM am n pos cmp que dsz mad2_263 cur stp met bst)), (am 1, .inl (cI, 18, .inl (nA dgt))), (am 20, .inl (cI, 36, .inl (nA rt2_263)))] := hD.sub [0, 1, 2] (by decide) rfl
          exact W.zret (pc := 274) (v := (nI (1))) (ty := .boolean) hx hb hr (by decide) (fun t ht hW => ⟨⟨_, (mad2_263, rt2_263), rfl, ⟨(by first | (rw [hU]; done) | (rw [hU]; rfl)), (by rw [hU]; exact hw263)⟩, by rw [ht]; exact hP9, va_K.moved hW.alike hK, hD9⟩, hS.F ht⟩) hS.2.2 dX8_unionRule_274
    · have ho := tv.one hr1 c217
      refine lv_aload_n (pc := 220) hx hb dX8_unionRule_220 rfl (lv_at hl 0 rfl) ?_
      refine lv_iload_n (pc := 221) hx hb dX8_unionRule_221 rfl (lv_at hl 2 rfl) ?_
      refine lv_iload_n (pc := 222) hx hb dX8_unionRule_222 rfl (lv_at hl 3 rfl) ?_
      refine lv_iconst (pc := 223) (v := (nI (1))) hx hb dX8_unionRule_223 (by decide) ?_
      refine xn_iadd (pc := 224) hx hb  dX8_unionRule_224 ?_
      refine vp_callSi (pc := 225) (W.runV (As := [.int (nI l1), .int (nI (r1 + 1))]) (rest := []) ⟨hx, hb, hml, hown, hts⟩ (c_X8_areSame l D cI cL cZ hm am n pos cmp que dsz mad cur stp met bst dgt E N l1 (r1 + 1) tv (by omega) (by omega)) (cwV 2 hts gX8_unionRule_X8_areSame rfl rfl rfl (by decide +kernel) ⟨Nat.le_of_ble_eq_true rfl, Nat.le_of_ble_eq_true rfl⟩) (rP_V (wc := [(hm, .inr (6, oM am n pos cmp que dsz mad cur stp met bst)), (am 1, .inl (cI, 18, .inl (nA dgt)))]) (ci := 6) (q0 := 0) hK hP [0, 1] rfl rfl rfl) rfl rfl hl.1 rfl (lv_room (Nat.le_of_ble_eq_true rfl)) dX8_unionRule_225 ⟨Nat.zero_le _, Nat.zero_le _⟩) (fun r hrr => ?_)
      rw [hrr]
      refine xp_if_eq (pc := 228) (tgt := 239) hx hb dX8_unionRule_228 (by decide) (fun c228 => ?_) (fun c228 => ?_)
      · refine lv_aload_n (pc := 239) hx hb dX8_unionRule_239 rfl (lv_at hl 0 rfl) ?_
        refine va_get (pc := 240) (D := D) (ci := 6) (v := .ref (am 1)) (C := RX8) (T := TX8) (N := 30) hx hb hts hinX8 hown hK hP 0 rfl rfl 1 (by decide) lk0 (fun _ h9 => h9) rfl dX8_unionRule_240 ?_
        refine lv_iload_n (pc := 243) hx hb dX8_unionRule_243 rfl (lv_at hl 2 rfl) ?_
        refine xa_iald (pc := 244) hx hb hK hP 1 0 rfl rfl (by omega) (by omega) dX8_unionRule_244 ?_
        refine lv_bipush (pc := 245) (v := (nI (8))) hx hb dX8_unionRule_245 (by decide) ?_
        refine xn_icmp_ne (pc := 247) (tgt := 273) hx hb (by have h5 := tv.q (show l1 < N by omega); omega) (by omega) dX8_unionRule_247 (by decide) (fun c247 => ?_) (fun c247 => ?_)
        · refine lv_iconst (pc := 273) (v := (nI (0))) hx hb dX8_unionRule_273 (by decide) ?_
          have hU : rU dgt E 9 l1 r1 = none := by first | (simp [rU, c217, c228, c247]; done) | (exfalso; omega)
          have hP9 : va_P D vwCl [(hm, .inr (6, oM am n pos cmp que dsz mad cur stp met bst)), (am 1, .inl (cI, 18, .inl (nA dgt))), (am 20, .inl (cI, 36, .inl (nA rt)))] s.heap := hP.sub [0, 1, 2] rfl
          have hD9 : va_D _ [(hm, .inr (6, oM am n pos cmp que dsz mad cur stp met bst)), (am 1, .inl (cI, 18, .inl (nA dgt))), (am 20, .inl (cI, 36, .inl (nA rt)))] := hD.sub [0, 1, 2] (by decide) rfl
          exact W.zret (pc := 274) (v := (nI (0))) (ty := .boolean) hx hb hr (by decide) (fun t ht hW => ⟨⟨_, (mad, rt), rfl, ⟨(by first | (rw [hU]; done) | (rw [hU]; rfl)), (by rw [hU]; exact hL)⟩, by rw [ht]; exact hP9, va_K.moved hW.alike hK, hD9⟩, hS.F ht⟩) hS.2.2 dX8_unionRule_274
        · have ho := tv.one hl1 c247
          refine lv_aload_n (pc := 250) hx hb dX8_unionRule_250 rfl (lv_at hl 0 rfl) ?_
          refine lv_iload_n (pc := 251) hx hb dX8_unionRule_251 rfl (lv_at hl 2 rfl) ?_
          refine lv_iconst (pc := 252) (v := (nI (1))) hx hb dX8_unionRule_252 (by decide) ?_
          refine xn_iadd (pc := 253) hx hb  dX8_unionRule_253 ?_
          refine lv_iload_n (pc := 254) hx hb dX8_unionRule_254 rfl (lv_at hl 3 rfl) ?_
          refine vp_callSi (pc := 255) (W.runV (As := [.int (nI (l1 + 1)), .int (nI r1)]) (rest := []) ⟨hx, hb, hml, hown, hts⟩ (c_X8_areSame l D cI cL cZ hm am n pos cmp que dsz mad cur stp met bst dgt E N (l1 + 1) r1 tv (by omega) (by omega)) (cwV 2 hts gX8_unionRule_X8_areSame rfl rfl rfl (by decide +kernel) ⟨Nat.le_of_ble_eq_true rfl, Nat.le_of_ble_eq_true rfl⟩) (rP_V (wc := [(hm, .inr (6, oM am n pos cmp que dsz mad cur stp met bst)), (am 1, .inl (cI, 18, .inl (nA dgt)))]) (ci := 6) (q0 := 0) hK hP [0, 1] rfl rfl rfl) rfl rfl hl.1 rfl (lv_room (Nat.le_of_ble_eq_true rfl)) dX8_unionRule_255 ⟨Nat.zero_le _, Nat.zero_le _⟩) (fun r hrr => ?_)
          rw [hrr]
          refine xp_if_eq (pc := 258) (tgt := 273) hx hb dX8_unionRule_258 (by decide) (fun c258 => ?_) (fun c258 => ?_)
          · refine lv_iconst (pc := 273) (v := (nI (0))) hx hb dX8_unionRule_273 (by decide) ?_
            have hU : rU dgt E 9 l1 r1 = none := by first | (simp [rU, c217, c228, c247, c258]; done) | (exfalso; omega)
            have hP9 : va_P D vwCl [(hm, .inr (6, oM am n pos cmp que dsz mad cur stp met bst)), (am 1, .inl (cI, 18, .inl (nA dgt))), (am 20, .inl (cI, 36, .inl (nA rt)))] s.heap := hP.sub [0, 1, 2] rfl
            have hD9 : va_D _ [(hm, .inr (6, oM am n pos cmp que dsz mad cur stp met bst)), (am 1, .inl (cI, 18, .inl (nA dgt))), (am 20, .inl (cI, 36, .inl (nA rt)))] := hD.sub [0, 1, 2] (by decide) rfl
            exact W.zret (pc := 274) (v := (nI (0))) (ty := .boolean) hx hb hr (by decide) (fun t ht hW => ⟨⟨_, (mad, rt), rfl, ⟨(by first | (rw [hU]; done) | (rw [hU]; rfl)), (by rw [hU]; exact hL)⟩, by rw [ht]; exact hP9, va_K.moved hW.alike hK, hD9⟩, hS.F ht⟩) hS.2.2 dX8_unionRule_274
          · refine lv_aload_n (pc := 261) hx hb dX8_unionRule_261 rfl (lv_at hl 0 rfl) ?_
            refine lv_iload_n (pc := 262) hx hb dX8_unionRule_262 rfl (lv_at hl 2 rfl) ?_
            refine xm_calli (pc := 263) (wc := [(hm, .inr (6, oM am n pos cmp que dsz mad cur stp met bst)), (am 1, .inl (cI, 18, .inl (nA dgt))), (am 20, .inl (cI, 36, .inl (nA rt)))]) (wr := []) (va_runV (As := [.int (nI l1)]) (rest := []) ⟨hx, hb, hml, hown, hts⟩ (c_X8_copies l D cI cL cZ s.heap.size hm am n pos cmp que dsz mad cur stp met bst dgt E N rt ([]) l1 tv (by omega) (by have h0 := tv.q (show l1 < N by omega); omega) hL) (cwV 1 hts gX8_unionRule_X8_copies rfl rfl rfl (by decide +kernel) ⟨Nat.le_of_ble_eq_true rfl, Nat.le_of_ble_eq_true rfl⟩) (mP_V (wc := [(hm, .inr (6, oM am n pos cmp que dsz mad cur stp met bst)), (am 1, .inl (cI, 18, .inl (nA dgt))), (am 20, .inl (cI, 36, .inl (nA rt)))]) (ci := 6) (q0 := 0) hK hP hD [0, 1, 2] (by decide) rfl rfl rfl) rfl rfl hl.1 rfl (lv_room (Nat.le_of_ble_eq_true rfl)) dX8_unionRule_263 ⟨Nat.zero_le _, Nat.zero_le _⟩) hP hD hS hA [0, 1, 2] [] rfl rfl (by decide) (by decide) (fun r u H locs hw hP hD hS => ?_)
            obtain ⟨mad2_263, rt2_263⟩ := u
            have hP : va_P D vwCl [(hm, .inr (6, oM am n pos cmp que dsz mad2_263 cur stp met bst)), (am 1, .inl (cI, 18, .inl (nA dgt))), (am 20, .inl (cI, 36, .inl (nA rt2_263)))] H := hP
            have hD : va_D _ [(hm, .inr (6, oM am n pos cmp que dsz mad2_263 cur stp met bst)), (am 1, .inl (cI, 18, .inl (nA dgt))), (am 20, .inl (cI, 36, .inl (nA rt2_263)))] := hD
            try dsimp only at hw
            obtain ⟨hrr, hw263⟩ := hw
            rw [hrr]
            refine lv_if_eq (pc := 266) (tgt := 273) hx hb dX8_unionRule_266 (by decide) (fun h => absurd h (by decide)) (fun _ => ?_)
            refine lv_iconst (pc := 269) (v := (nI (1))) hx hb dX8_unionRule_269 (by decide) ?_
            refine lv_goto (pc := 270) (tgt := 274) hx hb dX8_unionRule_270 (by decide) ?_
            have hU : rU dgt E 9 l1 r1 = some (([]) ++ sb dgt E l1) := by first | (simp [rU, c217, c228, c247, c258]; done) | (exfalso; omega)
            have hP9 : va_P D vwCl [(hm, .inr (6, oM am n pos cmp que dsz mad2_263 cur stp met bst)), (am 1, .inl (cI, 18, .inl (nA dgt))), (am 20, .inl (cI, 36, .inl (nA rt2_263)))] H := hP.sub [0, 1, 2] rfl
            have hD9 : va_D _ [(hm, .inr (6, oM am n pos cmp que dsz mad2_263 cur stp met bst)), (am 1, .inl (cI, 18, .inl (nA dgt))), (am 20, .inl (cI, 36, .inl (nA rt2_263)))] := hD.sub [0, 1, 2] (by decide) rfl
            exact W.zret (pc := 274) (v := (nI (1))) (ty := .boolean) hx hb hr (by decide) (fun t ht hW => ⟨⟨_, (mad2_263, rt2_263), rfl, ⟨(by first | (rw [hU]; done) | (rw [hU]; rfl)), (by rw [hU]; exact hw263)⟩, by rw [ht]; exact hP9, va_K.moved hW.alike hK, hD9⟩, hS.F ht⟩) hS.2.2 dX8_unionRule_274
      · refine lv_aload_n (pc := 231) hx hb dX8_unionRule_231 rfl (lv_at hl 0 rfl) ?_
        refine lv_iload_n (pc := 232) hx hb dX8_unionRule_232 rfl (lv_at hl 3 rfl) ?_
        refine xm_calli (pc := 233) (wc := [(hm, .inr (6, oM am n pos cmp que dsz mad cur stp met bst)), (am 1, .inl (cI, 18, .inl (nA dgt))), (am 20, .inl (cI, 36, .inl (nA rt)))]) (wr := []) (va_runV (As := [.int (nI r1)]) (rest := []) ⟨hx, hb, hml, hown, hts⟩ (c_X8_copies l D cI cL cZ s.heap.size hm am n pos cmp que dsz mad cur stp met bst dgt E N rt ([]) r1 tv (by omega) (by have h0 := tv.q (show r1 < N by omega); omega) hL) (cwV 1 hts gX8_unionRule_X8_copies rfl rfl rfl (by decide +kernel) ⟨Nat.le_of_ble_eq_true rfl, Nat.le_of_ble_eq_true rfl⟩) (mP_V (wc := [(hm, .inr (6, oM am n pos cmp que dsz mad cur stp met bst)), (am 1, .inl (cI, 18, .inl (nA dgt))), (am 20, .inl (cI, 36, .inl (nA rt)))]) (ci := 6) (q0 := 0) hK hP hD [0, 1, 2] (by decide) rfl rfl rfl) rfl rfl hl.1 rfl (lv_room (Nat.le_of_ble_eq_true rfl)) dX8_unionRule_233 ⟨Nat.zero_le _, Nat.zero_le _⟩) hP hD hS hA [0, 1, 2] [] rfl rfl (by decide) (by decide) (fun r u H locs hw hP hD hS => ?_)
        obtain ⟨mad2_233, rt2_233⟩ := u
        have hP : va_P D vwCl [(hm, .inr (6, oM am n pos cmp que dsz mad2_233 cur stp met bst)), (am 1, .inl (cI, 18, .inl (nA dgt))), (am 20, .inl (cI, 36, .inl (nA rt2_233)))] H := hP
        have hD : va_D _ [(hm, .inr (6, oM am n pos cmp que dsz mad2_233 cur stp met bst)), (am 1, .inl (cI, 18, .inl (nA dgt))), (am 20, .inl (cI, 36, .inl (nA rt2_233)))] := hD
        try dsimp only at hw
        obtain ⟨hrr, hw233⟩ := hw
        rw [hrr]
        refine lv_goto (pc := 236) (tgt := 274) hx hb dX8_unionRule_236 (by decide) ?_
        have hU : rU dgt E 9 l1 r1 = some (([]) ++ sb dgt E r1) := by first | (simp [rU, c217, c228]; done) | (exfalso; omega)
        have hP9 : va_P D vwCl [(hm, .inr (6, oM am n pos cmp que dsz mad2_233 cur stp met bst)), (am 1, .inl (cI, 18, .inl (nA dgt))), (am 20, .inl (cI, 36, .inl (nA rt2_233)))] H := hP.sub [0, 1, 2] rfl
        have hD9 : va_D _ [(hm, .inr (6, oM am n pos cmp que dsz mad2_233 cur stp met bst)), (am 1, .inl (cI, 18, .inl (nA dgt))), (am 20, .inl (cI, 36, .inl (nA rt2_233)))] := hD.sub [0, 1, 2] (by decide) rfl
        exact W.zret (pc := 274) (v := (nI (1))) (ty := .boolean) hx hb hr (by decide) (fun t ht hW => ⟨⟨_, (mad2_233, rt2_233), rfl, ⟨(by first | (rw [hU]; done) | (rw [hU]; rfl)), (by rw [hU]; exact hw233)⟩, by rw [ht]; exact hP9, va_K.moved hW.alike hK, hD9⟩, hS.F ht⟩) hS.2.2 dX8_unionRule_274
  · refine lv_tableIn (pc := 1) (tgt := 275) (off := 274) hx hb dX8_unionRule_1 (by decide) (by decide) (by decide) (by decide) ?_
    refine lv_aload_n (pc := 275) hx hb dX8_unionRule_275 rfl (lv_at hl 0 rfl) ?_
    refine lv_iload_n (pc := 276) hx hb dX8_unionRule_276 rfl (lv_at hl 2 rfl) ?_
    refine lv_iload_n (pc := 277) hx hb dX8_unionRule_277 rfl (lv_at hl 3 rfl) ?_
    refine vp_callSi (pc := 278) (W.runV (As := [.int (nI l1), .int (nI r1)]) (rest := []) ⟨hx, hb, hml, hown, hts⟩ (c_X8_bothConcatenations l D cI cL cZ hm am n pos cmp que dsz mad cur stp met bst dgt E N l1 r1 tv (by omega) (by omega)) (cwV 2 hts gX8_unionRule_X8_bothConcatenations rfl rfl rfl (by decide +kernel) ⟨Nat.le_of_ble_eq_true rfl, Nat.le_of_ble_eq_true rfl⟩) (rP_V (wc := [(hm, .inr (6, oM am n pos cmp que dsz mad cur stp met bst)), (am 1, .inl (cI, 18, .inl (nA dgt)))]) (ci := 6) (q0 := 0) hK hP [0, 1] rfl rfl rfl) rfl rfl hl.1 rfl (lv_room (Nat.le_of_ble_eq_true rfl)) dX8_unionRule_278 ⟨Nat.zero_le _, Nat.zero_le _⟩) (fun r hrr => ?_)
    rw [hrr]
    refine xp_if_eq (pc := 281) (tgt := 310) hx hb dX8_unionRule_281 (by decide) (fun c281 => ?_) (fun c281 => ?_)
    · refine lv_iconst (pc := 310) (v := (nI (0))) hx hb dX8_unionRule_310 (by decide) ?_
      have hU : rU dgt E 10 l1 r1 = none := by first | (simp [rU, c281]; done) | (exfalso; omega)
      have hP9 : va_P D vwCl [(hm, .inr (6, oM am n pos cmp que dsz mad cur stp met bst)), (am 1, .inl (cI, 18, .inl (nA dgt))), (am 20, .inl (cI, 36, .inl (nA rt)))] s.heap := hP.sub [0, 1, 2] rfl
      have hD9 : va_D _ [(hm, .inr (6, oM am n pos cmp que dsz mad cur stp met bst)), (am 1, .inl (cI, 18, .inl (nA dgt))), (am 20, .inl (cI, 36, .inl (nA rt)))] := hD.sub [0, 1, 2] (by decide) rfl
      exact W.zret (pc := 311) (v := (nI (0))) (ty := .boolean) hx hb hr (by decide) (fun t ht hW => ⟨⟨_, (mad, rt), rfl, ⟨(by first | (rw [hU]; done) | (rw [hU]; rfl)), (by rw [hU]; exact hL)⟩, by rw [ht]; exact hP9, va_K.moved hW.alike hK, hD9⟩, hS.F ht⟩) hS.2.2 dX8_unionRule_311
    · have hta := tv.two hl1 (Or.inr c281.1)
      have htb := tv.two hr1 (Or.inr c281.2)
      refine lv_aload_n (pc := 284) hx hb dX8_unionRule_284 rfl (lv_at hl 0 rfl) ?_
      refine lv_iload_n (pc := 285) hx hb dX8_unionRule_285 rfl (lv_at hl 2 rfl) ?_
      refine lv_iconst (pc := 286) (v := (nI (1))) hx hb dX8_unionRule_286 (by decide) ?_
      refine xn_iadd (pc := 287) hx hb  dX8_unionRule_287 ?_
      refine lv_iload_n (pc := 288) hx hb dX8_unionRule_288 rfl (lv_at hl 3 rfl) ?_
      refine lv_iconst (pc := 289) (v := (nI (1))) hx hb dX8_unionRule_289 (by decide) ?_
      refine xn_iadd (pc := 290) hx hb  dX8_unionRule_290 ?_
      refine vp_callSi (pc := 291) (W.runV (As := [.int (nI (l1 + 1)), .int (nI (r1 + 1))]) (rest := []) ⟨hx, hb, hml, hown, hts⟩ (c_X8_areSame l D cI cL cZ hm am n pos cmp que dsz mad cur stp met bst dgt E N (l1 + 1) (r1 + 1) tv (by omega) (by omega)) (cwV 2 hts gX8_unionRule_X8_areSame rfl rfl rfl (by decide +kernel) ⟨Nat.le_of_ble_eq_true rfl, Nat.le_of_ble_eq_true rfl⟩) (rP_V (wc := [(hm, .inr (6, oM am n pos cmp que dsz mad cur stp met bst)), (am 1, .inl (cI, 18, .inl (nA dgt)))]) (ci := 6) (q0 := 0) hK hP [0, 1] rfl rfl rfl) rfl rfl hl.1 rfl (lv_room (Nat.le_of_ble_eq_true rfl)) dX8_unionRule_291 ⟨Nat.zero_le _, Nat.zero_le _⟩) (fun r hrr => ?_)
      rw [hrr]
      refine xp_if_eq (pc := 294) (tgt := 310) hx hb dX8_unionRule_294 (by decide) (fun c294 => ?_) (fun c294 => ?_)
      · refine lv_iconst (pc := 310) (v := (nI (0))) hx hb dX8_unionRule_310 (by decide) ?_
        have hU : rU dgt E 10 l1 r1 = none := by first | (simp [rU, c281, c294]; done) | (exfalso; omega)
        have hP9 : va_P D vwCl [(hm, .inr (6, oM am n pos cmp que dsz mad cur stp met bst)), (am 1, .inl (cI, 18, .inl (nA dgt))), (am 20, .inl (cI, 36, .inl (nA rt)))] s.heap := hP.sub [0, 1, 2] rfl
        have hD9 : va_D _ [(hm, .inr (6, oM am n pos cmp que dsz mad cur stp met bst)), (am 1, .inl (cI, 18, .inl (nA dgt))), (am 20, .inl (cI, 36, .inl (nA rt)))] := hD.sub [0, 1, 2] (by decide) rfl
        exact W.zret (pc := 311) (v := (nI (0))) (ty := .boolean) hx hb hr (by decide) (fun t ht hW => ⟨⟨_, (mad, rt), rfl, ⟨(by first | (rw [hU]; done) | (rw [hU]; rfl)), (by rw [hU]; exact hL)⟩, by rw [ht]; exact hP9, va_K.moved hW.alike hK, hD9⟩, hS.F ht⟩) hS.2.2 dX8_unionRule_311
      · refine lv_aload_n (pc := 297) hx hb dX8_unionRule_297 rfl (lv_at hl 0 rfl) ?_
        refine lv_iload_n (pc := 298) hx hb dX8_unionRule_298 rfl (lv_at hl 2 rfl) ?_
        refine lv_iload_n (pc := 299) hx hb dX8_unionRule_299 rfl (lv_at hl 3 rfl) ?_
        refine xm_calli (pc := 300) (wc := [(hm, .inr (6, oM am n pos cmp que dsz mad cur stp met bst)), (am 1, .inl (cI, 18, .inl (nA dgt))), (am 20, .inl (cI, 36, .inl (nA rt)))]) (wr := []) (va_runV (As := [.int (nI l1), .int (nI r1)]) (rest := []) ⟨hx, hb, hml, hown, hts⟩ (c_X8_factorsLeft l D cI cL cZ s.heap.size hm am n pos cmp que dsz mad cur stp met bst dgt E N rt ([]) l1 r1 tv hl1 hr1 c281.1 c281.2 hab hmad hL) (cwV 2 hts gX8_unionRule_X8_factorsLeft rfl rfl rfl (by decide +kernel) ⟨Nat.le_of_ble_eq_true rfl, Nat.le_of_ble_eq_true rfl⟩) (mP_V (wc := [(hm, .inr (6, oM am n pos cmp que dsz mad cur stp met bst)), (am 1, .inl (cI, 18, .inl (nA dgt))), (am 20, .inl (cI, 36, .inl (nA rt)))]) (ci := 6) (q0 := 0) hK hP hD [0, 1, 2] (by decide) rfl rfl rfl) rfl rfl hl.1 rfl (lv_room (Nat.le_of_ble_eq_true rfl)) dX8_unionRule_300 ⟨Nat.zero_le _, Nat.zero_le _⟩) hP hD hS hA [0, 1, 2] [] rfl rfl (by decide) (by decide) (fun r u H locs hw hP hD hS => ?_)
        obtain ⟨mad2_300, rt2_300⟩ := u
        have hP : va_P D vwCl [(hm, .inr (6, oM am n pos cmp que dsz mad2_300 cur stp met bst)), (am 1, .inl (cI, 18, .inl (nA dgt))), (am 20, .inl (cI, 36, .inl (nA rt2_300)))] H := hP
        have hD : va_D _ [(hm, .inr (6, oM am n pos cmp que dsz mad2_300 cur stp met bst)), (am 1, .inl (cI, 18, .inl (nA dgt))), (am 20, .inl (cI, 36, .inl (nA rt2_300)))] := hD
        try dsimp only at hw
        obtain ⟨hrr, hw300⟩ := hw
        rw [hrr]
        refine lv_if_eq (pc := 303) (tgt := 310) hx hb dX8_unionRule_303 (by decide) (fun h => absurd h (by decide)) (fun _ => ?_)
        refine lv_iconst (pc := 306) (v := (nI (1))) hx hb dX8_unionRule_306 (by decide) ?_
        refine lv_goto (pc := 307) (tgt := 311) hx hb dX8_unionRule_307 (by decide) ?_
        have hU : rU dgt E 10 l1 r1 = some (([]) ++ (7 :: (sb dgt E (l1 + 1) ++ (6 :: (sb dgt E (E (l1 + 1)) ++ sb dgt E (E (r1 + 1))))))) := by first | (simp [rU, c281, c294]; done) | (exfalso; omega)
        have hP9 : va_P D vwCl [(hm, .inr (6, oM am n pos cmp que dsz mad2_300 cur stp met bst)), (am 1, .inl (cI, 18, .inl (nA dgt))), (am 20, .inl (cI, 36, .inl (nA rt2_300)))] H := hP.sub [0, 1, 2] rfl
        have hD9 : va_D _ [(hm, .inr (6, oM am n pos cmp que dsz mad2_300 cur stp met bst)), (am 1, .inl (cI, 18, .inl (nA dgt))), (am 20, .inl (cI, 36, .inl (nA rt2_300)))] := hD.sub [0, 1, 2] (by decide) rfl
        exact W.zret (pc := 311) (v := (nI (1))) (ty := .boolean) hx hb hr (by decide) (fun t ht hW => ⟨⟨_, (mad2_300, rt2_300), rfl, ⟨(by first | (rw [hU]; done) | (rw [hU]; rfl)), (by rw [hU]; exact hw300)⟩, by rw [ht]; exact hP9, va_K.moved hW.alike hK, hD9⟩, hS.F ht⟩) hS.2.2 dX8_unionRule_311
  · refine lv_tableIn (pc := 1) (tgt := 312) (off := 311) hx hb dX8_unionRule_1 (by decide) (by decide) (by decide) (by decide) ?_
    refine lv_aload_n (pc := 312) hx hb dX8_unionRule_312 rfl (lv_at hl 0 rfl) ?_
    refine lv_iload_n (pc := 313) hx hb dX8_unionRule_313 rfl (lv_at hl 2 rfl) ?_
    refine lv_iload_n (pc := 314) hx hb dX8_unionRule_314 rfl (lv_at hl 3 rfl) ?_
    refine vp_callSi (pc := 315) (W.runV (As := [.int (nI l1), .int (nI r1)]) (rest := []) ⟨hx, hb, hml, hown, hts⟩ (c_X8_bothConcatenations l D cI cL cZ hm am n pos cmp que dsz mad cur stp met bst dgt E N l1 r1 tv (by omega) (by omega)) (cwV 2 hts gX8_unionRule_X8_bothConcatenations rfl rfl rfl (by decide +kernel) ⟨Nat.le_of_ble_eq_true rfl, Nat.le_of_ble_eq_true rfl⟩) (rP_V (wc := [(hm, .inr (6, oM am n pos cmp que dsz mad cur stp met bst)), (am 1, .inl (cI, 18, .inl (nA dgt)))]) (ci := 6) (q0 := 0) hK hP [0, 1] rfl rfl rfl) rfl rfl hl.1 rfl (lv_room (Nat.le_of_ble_eq_true rfl)) dX8_unionRule_315 ⟨Nat.zero_le _, Nat.zero_le _⟩) (fun r hrr => ?_)
    rw [hrr]
    refine xp_if_eq (pc := 318) (tgt := 355) hx hb dX8_unionRule_318 (by decide) (fun c318 => ?_) (fun c318 => ?_)
    · refine lv_iconst (pc := 355) (v := (nI (0))) hx hb dX8_unionRule_355 (by decide) ?_
      have hU : rU dgt E 11 l1 r1 = none := by first | (simp [rU, c318]; done) | (exfalso; omega)
      have hP9 : va_P D vwCl [(hm, .inr (6, oM am n pos cmp que dsz mad cur stp met bst)), (am 1, .inl (cI, 18, .inl (nA dgt))), (am 20, .inl (cI, 36, .inl (nA rt)))] s.heap := hP.sub [0, 1, 2] rfl
      have hD9 : va_D _ [(hm, .inr (6, oM am n pos cmp que dsz mad cur stp met bst)), (am 1, .inl (cI, 18, .inl (nA dgt))), (am 20, .inl (cI, 36, .inl (nA rt)))] := hD.sub [0, 1, 2] (by decide) rfl
      exact W.zret (pc := 356) (v := (nI (0))) (ty := .boolean) hx hb hr (by decide) (fun t ht hW => ⟨⟨_, (mad, rt), rfl, ⟨(by first | (rw [hU]; done) | (rw [hU]; rfl)), (by rw [hU]; exact hL)⟩, by rw [ht]; exact hP9, va_K.moved hW.alike hK, hD9⟩, hS.F ht⟩) hS.2.2 dX8_unionRule_356
    · have hta := tv.two hl1 (Or.inr c318.1)
      have htb := tv.two hr1 (Or.inr c318.2)
      refine lv_aload_n (pc := 321) hx hb dX8_unionRule_321 rfl (lv_at hl 0 rfl) ?_
      refine lv_aload_n (pc := 322) hx hb dX8_unionRule_322 rfl (lv_at hl 0 rfl) ?_
      refine lv_iload_n (pc := 323) hx hb dX8_unionRule_323 rfl (lv_at hl 2 rfl) ?_
      refine lv_iconst (pc := 324) (v := (nI (1))) hx hb dX8_unionRule_324 (by decide) ?_
      refine xn_iadd (pc := 325) hx hb  dX8_unionRule_325 ?_
      refine vp_callSi (pc := 326) (W.runV (As := [.int (nI (l1 + 1))]) (rest := [.ref hm]) ⟨hx, hb, hml, hown, hts⟩ (c_X8_endOf l D cI cL cZ hm am n pos cmp que dsz mad cur stp met bst dgt E N (l1 + 1) tv (by omega)) (cwV 1 hts gX8_unionRule_X8_endOf rfl rfl rfl (by decide +kernel) ⟨Nat.le_of_ble_eq_true rfl, Nat.le_of_ble_eq_true rfl⟩) (rP_V (wc := [(hm, .inr (6, oM am n pos cmp que dsz mad cur stp met bst)), (am 1, .inl (cI, 18, .inl (nA dgt)))]) (ci := 6) (q0 := 0) hK hP [0, 1] rfl rfl rfl) rfl rfl hl.1 rfl (lv_room (Nat.le_of_ble_eq_true rfl)) dX8_unionRule_326 ⟨Nat.zero_le _, Nat.zero_le _⟩) (fun r hrr => ?_)
      rw [hrr]
      refine lv_aload_n (pc := 329) hx hb dX8_unionRule_329 rfl (lv_at hl 0 rfl) ?_
      refine lv_iload_n (pc := 330) hx hb dX8_unionRule_330 rfl (lv_at hl 3 rfl) ?_
      refine lv_iconst (pc := 331) (v := (nI (1))) hx hb dX8_unionRule_331 (by decide) ?_
      refine xn_iadd (pc := 332) hx hb  dX8_unionRule_332 ?_
      refine vp_callSi (pc := 333) (W.runV (As := [.int (nI (r1 + 1))]) (rest := [.int (nI (E (l1 + 1))), .ref hm]) ⟨hx, hb, hml, hown, hts⟩ (c_X8_endOf l D cI cL cZ hm am n pos cmp que dsz mad cur stp met bst dgt E N (r1 + 1) tv (by omega)) (cwV 1 hts gX8_unionRule_X8_endOf rfl rfl rfl (by decide +kernel) ⟨Nat.le_of_ble_eq_true rfl, Nat.le_of_ble_eq_true rfl⟩) (rP_V (wc := [(hm, .inr (6, oM am n pos cmp que dsz mad cur stp met bst)), (am 1, .inl (cI, 18, .inl (nA dgt)))]) (ci := 6) (q0 := 0) hK hP [0, 1] rfl rfl rfl) rfl rfl hl.1 rfl (lv_room (Nat.le_of_ble_eq_true rfl)) dX8_unionRule_333 ⟨Nat.zero_le _, Nat.zero_le _⟩) (fun r hrr => ?_)
      rw [hrr]
      refine vp_callSi (pc := 336) (W.runV (As := [.int (nI (E (l1 + 1))), .int (nI (E (r1 + 1)))]) (rest := []) ⟨hx, hb, hml, hown, hts⟩ (c_X8_areSame l D cI cL cZ hm am n pos cmp que dsz mad cur stp met bst dgt E N (E (l1 + 1)) (E (r1 + 1)) tv (by omega) (by omega)) (cwV 2 hts gX8_unionRule_X8_areSame rfl rfl rfl (by decide +kernel) ⟨Nat.le_of_ble_eq_true rfl, Nat.le_of_ble_eq_true rfl⟩) (rP_V (wc := [(hm, .inr (6, oM am n pos cmp que dsz mad cur stp met bst)), (am 1, .inl (cI, 18, .inl (nA dgt)))]) (ci := 6) (q0 := 0) hK hP [0, 1] rfl rfl rfl) rfl rfl hl.1 rfl (lv_room (Nat.le_of_ble_eq_true rfl)) dX8_unionRule_336 ⟨Nat.zero_le _, Nat.zero_le _⟩) (fun r hrr => ?_)
      rw [hrr]
      refine xp_if_eq (pc := 339) (tgt := 355) hx hb dX8_unionRule_339 (by decide) (fun c339 => ?_) (fun c339 => ?_)
      · refine lv_iconst (pc := 355) (v := (nI (0))) hx hb dX8_unionRule_355 (by decide) ?_
        have hU : rU dgt E 11 l1 r1 = none := by first | (simp [rU, c318, c339]; done) | (exfalso; omega)
        have hP9 : va_P D vwCl [(hm, .inr (6, oM am n pos cmp que dsz mad cur stp met bst)), (am 1, .inl (cI, 18, .inl (nA dgt))), (am 20, .inl (cI, 36, .inl (nA rt)))] s.heap := hP.sub [0, 1, 2] rfl
        have hD9 : va_D _ [(hm, .inr (6, oM am n pos cmp que dsz mad cur stp met bst)), (am 1, .inl (cI, 18, .inl (nA dgt))), (am 20, .inl (cI, 36, .inl (nA rt)))] := hD.sub [0, 1, 2] (by decide) rfl
        exact W.zret (pc := 356) (v := (nI (0))) (ty := .boolean) hx hb hr (by decide) (fun t ht hW => ⟨⟨_, (mad, rt), rfl, ⟨(by first | (rw [hU]; done) | (rw [hU]; rfl)), (by rw [hU]; exact hL)⟩, by rw [ht]; exact hP9, va_K.moved hW.alike hK, hD9⟩, hS.F ht⟩) hS.2.2 dX8_unionRule_356
      · refine lv_aload_n (pc := 342) hx hb dX8_unionRule_342 rfl (lv_at hl 0 rfl) ?_
        refine lv_iload_n (pc := 343) hx hb dX8_unionRule_343 rfl (lv_at hl 2 rfl) ?_
        refine lv_iload_n (pc := 344) hx hb dX8_unionRule_344 rfl (lv_at hl 3 rfl) ?_
        refine xm_calli (pc := 345) (wc := [(hm, .inr (6, oM am n pos cmp que dsz mad cur stp met bst)), (am 1, .inl (cI, 18, .inl (nA dgt))), (am 20, .inl (cI, 36, .inl (nA rt)))]) (wr := []) (va_runV (As := [.int (nI l1), .int (nI r1)]) (rest := []) ⟨hx, hb, hml, hown, hts⟩ (c_X8_factorsRight l D cI cL cZ s.heap.size hm am n pos cmp que dsz mad cur stp met bst dgt E N rt ([]) l1 r1 tv hl1 hr1 c318.1 c318.2 hab hmad hL) (cwV 2 hts gX8_unionRule_X8_factorsRight rfl rfl rfl (by decide +kernel) ⟨Nat.le_of_ble_eq_true rfl, Nat.le_of_ble_eq_true rfl⟩) (mP_V (wc := [(hm, .inr (6, oM am n pos cmp que dsz mad cur stp met bst)), (am 1, .inl (cI, 18, .inl (nA dgt))), (am 20, .inl (cI, 36, .inl (nA rt)))]) (ci := 6) (q0 := 0) hK hP hD [0, 1, 2] (by decide) rfl rfl rfl) rfl rfl hl.1 rfl (lv_room (Nat.le_of_ble_eq_true rfl)) dX8_unionRule_345 ⟨Nat.zero_le _, Nat.zero_le _⟩) hP hD hS hA [0, 1, 2] [] rfl rfl (by decide) (by decide) (fun r u H locs hw hP hD hS => ?_)
        obtain ⟨mad2_345, rt2_345⟩ := u
        have hP : va_P D vwCl [(hm, .inr (6, oM am n pos cmp que dsz mad2_345 cur stp met bst)), (am 1, .inl (cI, 18, .inl (nA dgt))), (am 20, .inl (cI, 36, .inl (nA rt2_345)))] H := hP
        have hD : va_D _ [(hm, .inr (6, oM am n pos cmp que dsz mad2_345 cur stp met bst)), (am 1, .inl (cI, 18, .inl (nA dgt))), (am 20, .inl (cI, 36, .inl (nA rt2_345)))] := hD
        try dsimp only at hw
        obtain ⟨hrr, hw345⟩ := hw
        rw [hrr]
        refine lv_if_eq (pc := 348) (tgt := 355) hx hb dX8_unionRule_348 (by decide) (fun h => absurd h (by decide)) (fun _ => ?_)
        refine lv_iconst (pc := 351) (v := (nI (1))) hx hb dX8_unionRule_351 (by decide) ?_
        refine lv_goto (pc := 352) (tgt := 356) hx hb dX8_unionRule_352 (by decide) ?_
        have hU : rU dgt E 11 l1 r1 = some (([]) ++ (7 :: ((6 :: (sb dgt E (l1 + 1) ++ sb dgt E (r1 + 1))) ++ sb dgt E (E (l1 + 1))))) := by first | (simp [rU, c318, c339]; done) | (exfalso; omega)
        have hP9 : va_P D vwCl [(hm, .inr (6, oM am n pos cmp que dsz mad2_345 cur stp met bst)), (am 1, .inl (cI, 18, .inl (nA dgt))), (am 20, .inl (cI, 36, .inl (nA rt2_345)))] H := hP.sub [0, 1, 2] rfl
        have hD9 : va_D _ [(hm, .inr (6, oM am n pos cmp que dsz mad2_345 cur stp met bst)), (am 1, .inl (cI, 18, .inl (nA dgt))), (am 20, .inl (cI, 36, .inl (nA rt2_345)))] := hD.sub [0, 1, 2] (by decide) rfl
        exact W.zret (pc := 356) (v := (nI (1))) (ty := .boolean) hx hb hr (by decide) (fun t ht hW => ⟨⟨_, (mad2_345, rt2_345), rfl, ⟨(by first | (rw [hU]; done) | (rw [hU]; rfl)), (by rw [hU]; exact hw345)⟩, by rw [ht]; exact hP9, va_K.moved hW.alike hK, hD9⟩, hS.F ht⟩) hS.2.2 dX8_unionRule_356
  · refine lv_tableIn (pc := 1) (tgt := 357) (off := 356) hx hb dX8_unionRule_1 (by decide) (by decide) (by decide) (by decide) ?_
    refine lv_aload_n (pc := 357) hx hb dX8_unionRule_357 rfl (lv_at hl 0 rfl) ?_
    refine lv_iload_n (pc := 358) hx hb dX8_unionRule_358 rfl (lv_at hl 2 rfl) ?_
    refine lv_iload_n (pc := 359) hx hb dX8_unionRule_359 rfl (lv_at hl 3 rfl) ?_
    refine xm_calli (pc := 360) (wc := [(hm, .inr (6, oM am n pos cmp que dsz mad cur stp met bst)), (am 1, .inl (cI, 18, .inl (nA dgt))), (am 20, .inl (cI, 36, .inl (nA rt)))]) (wr := []) (va_runV (As := [.int (nI l1), .int (nI r1)]) (rest := []) ⟨hx, hb, hml, hown, hts⟩ (c_X8_emptyOrPlus l D cI cL cZ s.heap.size hm am n pos cmp que dsz mad cur stp met bst dgt E N rt l1 r1 tv hl1 hr1 hab hL) (cwV 2 hts gX8_unionRule_X8_emptyOrPlus rfl rfl rfl (by decide +kernel) ⟨Nat.le_of_ble_eq_true rfl, Nat.le_of_ble_eq_true rfl⟩) (mP_V (wc := [(hm, .inr (6, oM am n pos cmp que dsz mad cur stp met bst)), (am 1, .inl (cI, 18, .inl (nA dgt))), (am 20, .inl (cI, 36, .inl (nA rt)))]) (ci := 6) (q0 := 0) hK hP hD [0, 1, 2] (by decide) rfl rfl rfl) rfl rfl hl.1 rfl (lv_room (Nat.le_of_ble_eq_true rfl)) dX8_unionRule_360 ⟨Nat.zero_le _, Nat.zero_le _⟩) hP hD hS hA [0, 1, 2] [] rfl rfl (by decide) (by decide) (fun r u H locs hw hP hD hS => ?_)
    obtain ⟨mad2_360, rt2_360⟩ := u
    have hP : va_P D vwCl [(hm, .inr (6, oM am n pos cmp que dsz mad2_360 cur stp met bst)), (am 1, .inl (cI, 18, .inl (nA dgt))), (am 20, .inl (cI, 36, .inl (nA rt2_360)))] H := hP
    have hD : va_D _ [(hm, .inr (6, oM am n pos cmp que dsz mad2_360 cur stp met bst)), (am 1, .inl (cI, 18, .inl (nA dgt))), (am 20, .inl (cI, 36, .inl (nA rt2_360)))] := hD
    try dsimp only at hw
    obtain ⟨hrr, hw360⟩ := hw
    rw [hrr]
    have hU : rU dgt E 12 l1 r1 = rEP dgt E l1 r1 := rfl
    have hP9 : va_P D vwCl [(hm, .inr (6, oM am n pos cmp que dsz mad2_360 cur stp met bst)), (am 1, .inl (cI, 18, .inl (nA dgt))), (am 20, .inl (cI, 36, .inl (nA rt2_360)))] H := hP.sub [0, 1, 2] rfl
    have hD9 : va_D _ [(hm, .inr (6, oM am n pos cmp que dsz mad2_360 cur stp met bst)), (am 1, .inl (cI, 18, .inl (nA dgt))), (am 20, .inl (cI, 36, .inl (nA rt2_360)))] := hD.sub [0, 1, 2] (by decide) rfl
    exact W.zret (pc := 363) (v := (nI (pN ((rEP dgt E l1 r1).isSome = true)))) (ty := .boolean) hx hb hr pN_nar (fun t ht hW => ⟨⟨_, (mad2_360, rt2_360), rfl, ⟨(by first | (rw [hU]; done) | (rw [hU]; rfl)), (by rw [hU]; exact hw360)⟩, by rw [ht]; exact hP9, va_K.moved hW.alike hK, hD9⟩, hS.F ht⟩) hS.2.2 dX8_unionRule_363
  · refine lv_tableIn (pc := 1) (tgt := 371) (off := 370) hx hb dX8_unionRule_1 (by decide) (by decide) (by decide) (by decide) ?_
    refine lv_iconst (pc := 371) (v := (nI (0))) hx hb dX8_unionRule_371 (by decide) ?_
    have hU : rU dgt E 13 l1 r1 = none := by first | (simp [rU]; done) | (exfalso; omega)
    have hP9 : va_P D vwCl [(hm, .inr (6, oM am n pos cmp que dsz mad cur stp met bst)), (am 1, .inl (cI, 18, .inl (nA dgt))), (am 20, .inl (cI, 36, .inl (nA rt)))] s.heap := hP.sub [0, 1, 2] rfl
    have hD9 : va_D _ [(hm, .inr (6, oM am n pos cmp que dsz mad cur stp met bst)), (am 1, .inl (cI, 18, .inl (nA dgt))), (am 20, .inl (cI, 36, .inl (nA rt)))] := hD.sub [0, 1, 2] (by decide) rfl
    exact W.zret (pc := 372) (v := (nI (0))) (ty := .boolean) hx hb hr (by decide) (fun t ht hW => ⟨⟨_, (mad, rt), rfl, ⟨(by first | (rw [hU]; done) | (rw [hU]; rfl)), (by rw [hU]; exact hL)⟩, by rw [ht]; exact hP9, va_K.moved hW.alike hK, hD9⟩, hS.F ht⟩) hS.2.2 dX8_unionRule_372
  · refine lv_tableIn (pc := 1) (tgt := 371) (off := 370) hx hb dX8_unionRule_1 (by decide) (by decide) (by decide) (by decide) ?_
    refine lv_iconst (pc := 371) (v := (nI (0))) hx hb dX8_unionRule_371 (by decide) ?_
    have hU : rU dgt E 14 l1 r1 = none := by first | (simp [rU]; done) | (exfalso; omega)
    have hP9 : va_P D vwCl [(hm, .inr (6, oM am n pos cmp que dsz mad cur stp met bst)), (am 1, .inl (cI, 18, .inl (nA dgt))), (am 20, .inl (cI, 36, .inl (nA rt)))] s.heap := hP.sub [0, 1, 2] rfl
    have hD9 : va_D _ [(hm, .inr (6, oM am n pos cmp que dsz mad cur stp met bst)), (am 1, .inl (cI, 18, .inl (nA dgt))), (am 20, .inl (cI, 36, .inl (nA rt)))] := hD.sub [0, 1, 2] (by decide) rfl
    exact W.zret (pc := 372) (v := (nI (0))) (ty := .boolean) hx hb hr (by decide) (fun t ht hW => ⟨⟨_, (mad, rt), rfl, ⟨(by first | (rw [hU]; done) | (rw [hU]; rfl)), (by rw [hU]; exact hL)⟩, by rw [ht]; exact hP9, va_K.moved hW.alike hK, hD9⟩, hS.F ht⟩) hS.2.2 dX8_unionRule_372
  · refine lv_tableIn (pc := 1) (tgt := 364) (off := 363) hx hb dX8_unionRule_1 (by decide) (by decide) (by decide) (by decide) ?_
    refine lv_aload_n (pc := 364) hx hb dX8_unionRule_364 rfl (lv_at hl 0 rfl) ?_
    refine lv_iload_n (pc := 365) hx hb dX8_unionRule_365 rfl (lv_at hl 2 rfl) ?_
    refine lv_iload_n (pc := 366) hx hb dX8_unionRule_366 rfl (lv_at hl 3 rfl) ?_
    refine xm_calli (pc := 367) (wc := [(hm, .inr (6, oM am n pos cmp que dsz mad cur stp met bst)), (am 1, .inl (cI, 18, .inl (nA dgt))), (am 20, .inl (cI, 36, .inl (nA rt)))]) (wr := []) (va_runV (As := [.int (nI l1), .int (nI r1)]) (rest := []) ⟨hx, hb, hml, hown, hts⟩ (c_X8_absorbs l D cI cL cZ s.heap.size hm am n pos cmp que dsz mad cur stp met bst dgt E N rt l1 r1 tv hl1 hr1 hab hL) (cwV 2 hts gX8_unionRule_X8_absorbs rfl rfl rfl (by decide +kernel) ⟨Nat.le_of_ble_eq_true rfl, Nat.le_of_ble_eq_true rfl⟩) (mP_V (wc := [(hm, .inr (6, oM am n pos cmp que dsz mad cur stp met bst)), (am 1, .inl (cI, 18, .inl (nA dgt))), (am 20, .inl (cI, 36, .inl (nA rt)))]) (ci := 6) (q0 := 0) hK hP hD [0, 1, 2] (by decide) rfl rfl rfl) rfl rfl hl.1 rfl (lv_room (Nat.le_of_ble_eq_true rfl)) dX8_unionRule_367 ⟨Nat.zero_le _, Nat.zero_le _⟩) hP hD hS hA [0, 1, 2] [] rfl rfl (by decide) (by decide) (fun r u H locs hw hP hD hS => ?_)
    obtain ⟨mad2_367, rt2_367⟩ := u
    have hP : va_P D vwCl [(hm, .inr (6, oM am n pos cmp que dsz mad2_367 cur stp met bst)), (am 1, .inl (cI, 18, .inl (nA dgt))), (am 20, .inl (cI, 36, .inl (nA rt2_367)))] H := hP
    have hD : va_D _ [(hm, .inr (6, oM am n pos cmp que dsz mad2_367 cur stp met bst)), (am 1, .inl (cI, 18, .inl (nA dgt))), (am 20, .inl (cI, 36, .inl (nA rt2_367)))] := hD
    try dsimp only at hw
    obtain ⟨hrr, hw367⟩ := hw
    rw [hrr]
    have hU : rU dgt E 15 l1 r1 = rAb dgt E l1 r1 := rfl
    have hP9 : va_P D vwCl [(hm, .inr (6, oM am n pos cmp que dsz mad2_367 cur stp met bst)), (am 1, .inl (cI, 18, .inl (nA dgt))), (am 20, .inl (cI, 36, .inl (nA rt2_367)))] H := hP.sub [0, 1, 2] rfl
    have hD9 : va_D _ [(hm, .inr (6, oM am n pos cmp que dsz mad2_367 cur stp met bst)), (am 1, .inl (cI, 18, .inl (nA dgt))), (am 20, .inl (cI, 36, .inl (nA rt2_367)))] := hD.sub [0, 1, 2] (by decide) rfl
    exact W.zret (pc := 370) (v := (nI (pN ((rAb dgt E l1 r1).isSome = true)))) (ty := .boolean) hx hb hr pN_nar (fun t ht hW => ⟨⟨_, (mad2_367, rt2_367), rfl, ⟨(by first | (rw [hU]; done) | (rw [hU]; rfl)), (by rw [hU]; exact hw367)⟩, by rw [ht]; exact hP9, va_K.moved hW.alike hK, hD9⟩, hS.F ht⟩) hS.2.2 dX8_unionRule_370
set_option maxHeartbeats 4000000 in
set_option maxRecDepth 100000 in
theorem c_X8_starRule (l : Launch) (D : va_G) (cI cL cZ : ClassId) (sz : Nat) (hm : Nat) (am : Nat → Nat) (n : Nat) (pos : Nat) (cmp : Nat) (que : Nat) (dsz : Nat) (mad : Nat) (cur : Nat) (stp : Nat) (met : Nat) (bst : Nat) (dgt : Nat → Nat) (E : Nat → Nat) (N : Nat) (rt : Nat → Nat) (rl : Nat) (x1 : Nat) (tv : TV dgt E N) (hrl : rl < 16) (hx1 : x1 < N) (hL : RT rt mad []) : Met l yX8_starRule wsX8_starRule { frames := 4, cells := 0, slots := 0, locals := 91 } (mP D (tyL cI cL cZ) [(hm, .inr (6, oM am n pos cmp que dsz mad cur stp met bst)), (am 1, .inl (cI, 18, .inl (nA dgt))), (am 20, .inl (cI, 36, .inl (nA rt)))] sz [.ref hm, .int (nI rl), .int (nI x1)]) (va_Qi (fun (r : Int32) (u : Nat × (Nat → Nat)) => r = (nI (pN ((rS dgt E rl x1).isSome = true))) ∧ (RT u.2 u.1 ((rS dgt E rl x1).getD []))) (fun (u : Nat × (Nat → Nat)) (t : State) => mB D (tyL cI cL cZ) (va_A [(hm, .inr (6, oM am n pos cmp que dsz mad cur stp met bst)), (am 1, .inl (cI, 18, .inl (nA dgt))), (am 20, .inl (cI, 36, .inl (nA rt)))] sz) [(hm, .inr (6, oM am n pos cmp que dsz (u.1) cur stp met bst)), (am 1, .inl (cI, 18, .inl (nA dgt))), (am 20, .inl (cI, 36, .inl (nA (u.2))))] t) (va_A [(hm, .inr (6, oM am n pos cmp que dsz mad cur stp met bst)), (am 1, .inl (cI, 18, .inl (nA dgt))), (am 20, .inl (cI, 36, .inl (nA rt)))] sz)) 0 0 (va_A [(hm, .inr (6, oM am n pos cmp que dsz mad cur stp met bst)), (am 1, .inl (cI, 18, .inl (nA dgt))), (am 20, .inl (cI, 36, .inl (nA rt)))] sz) := by
  refine Met.ofW (cc := cX8_starRule) (maxL := 5) (ret := (some .boolean)) (by decide) rfl ?_
  intro pG eG s mG args below meth cG s₁ B hml hpre9
  obtain ⟨rfl, hsz, hP, hK, hD0⟩ := hpre9
  have hx := B.exec
  have hb := B.bytes
  have hr := B.returns
  have hts := atoms_spec (ws := wsX8_starRule) B.pre
  have hown : s.vm.findClass RX8 = some mG.cls := findClass_of_methodNamed B.named
  have hlocks := B.notSynchronized
  subst hsz
  have hD := hD0.self (sz := s.heap.size)
  have hA : ∀ q : Nat, s.heap.size ≤ q → va_A [(hm, .inr (6, oM am n pos cmp que dsz mad cur stp met bst)), (am 1, .inl (cI, 18, .inl (nA dgt))), (am 20, .inl (cI, 36, .inl (nA rt)))] s.heap.size q := fun q h => Or.inr h
  have hS : va_S (va_A [(hm, .inr (6, oM am n pos cmp que dsz mad cur stp met bst)), (am 1, .inl (cI, 18, .inl (nA dgt))), (am 20, .inl (cI, 36, .inl (nA rt)))] s.heap.size) s.heap s.heap [] := va_S.rf
  have hinX8 : ∀ w ∈ wsX80, w ∈ wsX8_starRule := fun w HH => (List.mem_cons_of_mem _ (List.mem_append_right _ HH))
  have lk0 : (Cond.fieldLink RX8 7 "RegexSimplifierModel" "digit" "[I").before _ s = true := hts _ (List.mem_cons_of_mem _ (List.mem_append_left _ (List.mem_append_left _ (List.mem_of_getElem? (i := 0) rfl))))
  have hl := lv_entry ([.ref hm, .int (nI rl), .int (nI x1)]) (n := 5) (Nat.le_of_ble_eq_true rfl)
  rw [lg_entry_eq]
  generalize (lg_sl ([.ref hm, .int (nI rl), .int (nI x1)]) ++ List.replicate (5 - (lg_sl ([.ref hm, .int (nI rl), .int (nI x1)])).length) Slot.unset).toArray = ls at hl ⊢
  have hl : lv_has ls 5 [(0, .ref hm), (1, .int (nI rl)), (2, .int (nI x1))] := hl
  have hn18 := tv.n18
  have hmad : mad = 0 := hL.1
  have hqx := tv.q hx1
  refine lv_iload_n (pc := 0) hx hb dX8_starRule_0 rfl (lv_at hl 2 rfl) ?_
  refine lv_iconst (pc := 1) (v := (nI (1))) hx hb dX8_starRule_1 (by decide) ?_
  refine xn_iadd (pc := 2) hx hb  dX8_starRule_2 ?_
  refine lv_istore_n (pc := 3) (lv' := [(3, .int (nI (x1 + 1))), (0, .ref hm), (1, .int (nI rl)), (2, .int (nI x1))]) hx hb dX8_starRule_3 rfl hl (by decide) rfl (fun ls hl => ?_)
  refine lv_aload_n (pc := 4) hx hb dX8_starRule_4 rfl (lv_at hl 1 rfl) ?_
  refine va_get (pc := 5) (D := D) (ci := 6) (v := .ref (am 1)) (C := RX8) (T := TX8) (N := 30) hx hb hts hinX8 hown hK hP 0 rfl rfl 1 (by decide) lk0 (fun _ h9 => h9) rfl dX8_starRule_5 ?_
  refine lv_iload_n (pc := 8) hx hb dX8_starRule_8 rfl (lv_at hl 3 rfl) ?_
  refine xa_iald (pc := 9) hx hb hK hP 1 0 rfl rfl (by omega) (by omega) dX8_starRule_9 ?_
  refine lv_bipush (pc := 10) (v := (nI (6))) hx hb dX8_starRule_10 (by decide) ?_
  refine xn_icmp_eq (pc := 12) (tgt := 26) hx hb (by have h5 := tv.q (show x1 < N by omega); omega) (by omega) dX8_starRule_12 (by decide) (fun c12 => ?_) (fun c12 => ?_)
  · have ht := tv.two hx1 (by omega)
    refine lv_aload_n (pc := 26) hx hb dX8_starRule_26 rfl (lv_at hl 1 rfl) ?_
    refine lv_iload_n (pc := 27) hx hb dX8_starRule_27 rfl (lv_at hl 0 rfl) ?_
    refine vp_callSi (pc := 28) (W.runV (As := [.int (nI (x1 + 1))]) (rest := []) ⟨hx, hb, hml, hown, hts⟩ (c_X8_endOf l D cI cL cZ hm am n pos cmp que dsz mad cur stp met bst dgt E N (x1 + 1) tv (by omega)) (cwV 1 hts gX8_starRule_X8_endOf rfl rfl rfl (by decide +kernel) ⟨Nat.le_of_ble_eq_true rfl, Nat.le_of_ble_eq_true rfl⟩) (rP_V (wc := [(hm, .inr (6, oM am n pos cmp que dsz mad cur stp met bst)), (am 1, .inl (cI, 18, .inl (nA dgt)))]) (ci := 6) (q0 := 0) hK hP [0, 1] rfl rfl rfl) rfl rfl hl.1 rfl (lv_room (Nat.le_of_ble_eq_true rfl)) dX8_starRule_28 ⟨Nat.zero_le _, Nat.zero_le _⟩) (fun r hrr => ?_)
    rw [hrr]
    refine lv_goto (pc := 31) (tgt := 35) hx hb dX8_starRule_31 (by decide) ?_
    refine lv_istore (pc := 35) (lv' := [(4, .int (nI (E (x1 + 1)))), (3, .int (nI (x1 + 1))), (0, .ref hm), (1, .int (nI rl)), (2, .int (nI x1))]) hx hb dX8_starRule_35 hl (by decide) rfl (fun ls hl => ?_)
    refine lv_iload_n (pc := 37) hx hb dX8_starRule_37 rfl (lv_at hl 3 rfl) ?_
    rcases lt16 hrl with rfl | rfl | rfl | rfl | rfl | rfl | rfl | rfl | rfl | rfl | rfl | rfl | rfl | rfl | rfl | rfl
    · refine lv_tableOut (pc := 38) (tgt := 328) hx hb dX8_starRule_38 (by decide) (by decide) ?_
      refine lv_iconst (pc := 328) (v := (nI (0))) hx hb dX8_starRule_328 (by decide) ?_
      have hU : rS dgt E 0 x1 = none := by first | (simp [rS, c12]; done) | (exfalso; omega)
      have hP9 : va_P D vwCl [(hm, .inr (6, oM am n pos cmp que dsz mad cur stp met bst)), (am 1, .inl (cI, 18, .inl (nA dgt))), (am 20, .inl (cI, 36, .inl (nA rt)))] s.heap := hP.sub [0, 1, 2] rfl
      have hD9 : va_D _ [(hm, .inr (6, oM am n pos cmp que dsz mad cur stp met bst)), (am 1, .inl (cI, 18, .inl (nA dgt))), (am 20, .inl (cI, 36, .inl (nA rt)))] := hD.sub [0, 1, 2] (by decide) rfl
      exact W.zret (pc := 329) (v := (nI (0))) (ty := .boolean) hx hb hr (by decide) (fun t ht hW => ⟨⟨_, (mad, rt), rfl, ⟨(by first | (rw [hU]; done) | (rw [hU]; rfl)), (by rw [hU]; exact hL)⟩, by rw [ht]; exact hP9, va_K.moved hW.alike hK, hD9⟩, hS.F ht⟩) hS.2.2 dX8_starRule_329
    · refine lv_tableOut (pc := 38) (tgt := 328) hx hb dX8_starRule_38 (by decide) (by decide) ?_
      refine lv_iconst (pc := 328) (v := (nI (0))) hx hb dX8_starRule_328 (by decide) ?_
      have hU : rS dgt E 1 x1 = none := by first | (simp [rS, c12]; done) | (exfalso; omega)
      have hP9 : va_P D vwCl [(hm, .inr (6, oM am n pos cmp que dsz mad cur stp met bst)), (am 1, .inl (cI, 18, .inl (nA dgt))), (am 20, .inl (cI, 36, .inl (nA rt)))] s.heap := hP.sub [0, 1, 2] rfl
      have hD9 : va_D _ [(hm, .inr (6, oM am n pos cmp que dsz mad cur stp met bst)), (am 1, .inl (cI, 18, .inl (nA dgt))), (am 20, .inl (cI, 36, .inl (nA rt)))] := hD.sub [0, 1, 2] (by decide) rfl
      exact W.zret (pc := 329) (v := (nI (0))) (ty := .boolean) hx hb hr (by decide) (fun t ht hW => ⟨⟨_, (mad, rt), rfl, ⟨(by first | (rw [hU]; done) | (rw [hU]; rfl)), (by rw [hU]; exact hL)⟩, by rw [ht]; exact hP9, va_K.moved hW.alike hK, hD9⟩, hS.F ht⟩) hS.2.2 dX8_starRule_329
    · refine lv_tableOut (pc := 38) (tgt := 328) hx hb dX8_starRule_38 (by decide) (by decide) ?_
      refine lv_iconst (pc := 328) (v := (nI (0))) hx hb dX8_starRule_328 (by decide) ?_
      have hU : rS dgt E 2 x1 = none := by first | (simp [rS, c12]; done) | (exfalso; omega)
      have hP9 : va_P D vwCl [(hm, .inr (6, oM am n pos cmp que dsz mad cur stp met bst)), (am 1, .inl (cI, 18, .inl (nA dgt))), (am 20, .inl (cI, 36, .inl (nA rt)))] s.heap := hP.sub [0, 1, 2] rfl
      have hD9 : va_D _ [(hm, .inr (6, oM am n pos cmp que dsz mad cur stp met bst)), (am 1, .inl (cI, 18, .inl (nA dgt))), (am 20, .inl (cI, 36, .inl (nA rt)))] := hD.sub [0, 1, 2] (by decide) rfl
      exact W.zret (pc := 329) (v := (nI (0))) (ty := .boolean) hx hb hr (by decide) (fun t ht hW => ⟨⟨_, (mad, rt), rfl, ⟨(by first | (rw [hU]; done) | (rw [hU]; rfl)), (by rw [hU]; exact hL)⟩, by rw [ht]; exact hP9, va_K.moved hW.alike hK, hD9⟩, hS.F ht⟩) hS.2.2 dX8_starRule_329
    · refine lv_tableIn (pc := 38) (tgt := 100) (off := 62) hx hb dX8_starRule_38 (by decide) (by decide) (by decide) (by decide) ?_
      refine lv_aload_n (pc := 100) hx hb dX8_starRule_100 rfl (lv_at hl 2 rfl) ?_
      refine va_get (pc := 101) (D := D) (ci := 6) (v := .ref (am 1)) (C := RX8) (T := TX8) (N := 30) hx hb hts hinX8 hown hK hP 0 rfl rfl 1 (by decide) lk0 (fun _ h9 => h9) rfl dX8_starRule_101 ?_
      refine lv_iload_n (pc := 104) hx hb dX8_starRule_104 rfl (lv_at hl 4 rfl) ?_
      refine xa_iald (pc := 105) hx hb hK hP 1 0 rfl rfl (by omega) (by omega) dX8_starRule_105 ?_
      refine lv_iconst (pc := 106) (v := (nI (2))) hx hb dX8_starRule_106 (by decide) ?_
      refine xn_icmp_gt (pc := 107) (tgt := 122) hx hb (by have h5 := tv.q (show x1 < N by omega); omega) (by omega) dX8_starRule_107 (by decide) (fun c107 => ?_) (fun c107 => ?_)
      · refine lv_iconst (pc := 122) (v := (nI (0))) hx hb dX8_starRule_122 (by decide) ?_
        have hU : rS dgt E 3 x1 = none := by first | (simp [rS, c12, c107]; done) | (exfalso; omega)
        have hP9 : va_P D vwCl [(hm, .inr (6, oM am n pos cmp que dsz mad cur stp met bst)), (am 1, .inl (cI, 18, .inl (nA dgt))), (am 20, .inl (cI, 36, .inl (nA rt)))] s.heap := hP.sub [0, 1, 2] rfl
        have hD9 : va_D _ [(hm, .inr (6, oM am n pos cmp que dsz mad cur stp met bst)), (am 1, .inl (cI, 18, .inl (nA dgt))), (am 20, .inl (cI, 36, .inl (nA rt)))] := hD.sub [0, 1, 2] (by decide) rfl
        exact W.zret (pc := 123) (v := (nI (0))) (ty := .boolean) hx hb hr (by decide) (fun t ht hW => ⟨⟨_, (mad, rt), rfl, ⟨(by first | (rw [hU]; done) | (rw [hU]; rfl)), (by rw [hU]; exact hL)⟩, by rw [ht]; exact hP9, va_K.moved hW.alike hK, hD9⟩, hS.F ht⟩) hS.2.2 dX8_starRule_123
      · refine lv_aload_n (pc := 110) hx hb dX8_starRule_110 rfl (lv_at hl 2 rfl) ?_
        refine lv_iconst (pc := 111) (v := (nI (2))) hx hb dX8_starRule_111 (by decide) ?_
        refine xm_calli (pc := 112) (wc := [(hm, .inr (6, oM am n pos cmp que dsz mad cur stp met bst)), (am 20, .inl (cI, 36, .inl (nA rt)))]) (wr := [(am 1, .inl (cI, 18, .inl (nA dgt)))]) (va_runV (As := [.int (nI 2)]) (rest := []) ⟨hx, hb, hml, hown, hts⟩ (c_X8_emits l D cI cL cZ s.heap.size hm am n pos cmp que dsz mad cur stp met bst rt ([]) 2 (by omega) hL) (cwV 1 hts gX8_starRule_X8_emits rfl rfl rfl (by decide +kernel) ⟨Nat.le_of_ble_eq_true rfl, Nat.le_of_ble_eq_true rfl⟩) (mP_V (wc := [(hm, .inr (6, oM am n pos cmp que dsz mad cur stp met bst)), (am 20, .inl (cI, 36, .inl (nA rt)))]) (ci := 6) (q0 := 0) hK hP hD [0, 2] (by decide) rfl rfl rfl) rfl rfl hl.1 rfl (lv_room (Nat.le_of_ble_eq_true rfl)) dX8_starRule_112 ⟨Nat.zero_le _, Nat.zero_le _⟩) hP hD hS hA [0, 2] [1] rfl rfl (by decide) (by decide) (fun r u H locs hw hP hD hS => ?_)
        obtain ⟨mad2_112, rt2_112⟩ := u
        have hP : va_P D vwCl [(am 1, .inl (cI, 18, .inl (nA dgt))), (hm, .inr (6, oM am n pos cmp que dsz mad2_112 cur stp met bst)), (am 20, .inl (cI, 36, .inl (nA rt2_112)))] H := hP
        have hD : va_D _ [(am 1, .inl (cI, 18, .inl (nA dgt))), (hm, .inr (6, oM am n pos cmp que dsz mad2_112 cur stp met bst)), (am 20, .inl (cI, 36, .inl (nA rt2_112)))] := hD
        try dsimp only at hw
        obtain ⟨hrr, hw112⟩ := hw
        rw [hrr]
        refine lv_if_eq (pc := 115) (tgt := 122) hx hb dX8_starRule_115 (by decide) (fun h => absurd h (by decide)) (fun _ => ?_)
        refine lv_iconst (pc := 118) (v := (nI (1))) hx hb dX8_starRule_118 (by decide) ?_
        refine lv_goto (pc := 119) (tgt := 123) hx hb dX8_starRule_119 (by decide) ?_
        have hU : rS dgt E 3 x1 = some (([]) ++ [2]) := by first | (simp [rS, c12, c107]; done) | (exfalso; omega)
        have hP9 : va_P D vwCl [(hm, .inr (6, oM am n pos cmp que dsz mad2_112 cur stp met bst)), (am 1, .inl (cI, 18, .inl (nA dgt))), (am 20, .inl (cI, 36, .inl (nA rt2_112)))] H := hP.sub [1, 0, 2] rfl
        have hD9 : va_D _ [(hm, .inr (6, oM am n pos cmp que dsz mad2_112 cur stp met bst)), (am 1, .inl (cI, 18, .inl (nA dgt))), (am 20, .inl (cI, 36, .inl (nA rt2_112)))] := hD.sub [1, 0, 2] (by decide) rfl
        exact W.zret (pc := 123) (v := (nI (1))) (ty := .boolean) hx hb hr (by decide) (fun t ht hW => ⟨⟨_, (mad2_112, rt2_112), rfl, ⟨(by first | (rw [hU]; done) | (rw [hU]; rfl)), (by rw [hU]; exact hw112)⟩, by rw [ht]; exact hP9, va_K.moved hW.alike hK, hD9⟩, hS.F ht⟩) hS.2.2 dX8_starRule_123
    · refine lv_tableIn (pc := 38) (tgt := 328) (off := 290) hx hb dX8_starRule_38 (by decide) (by decide) (by decide) (by decide) ?_
      refine lv_iconst (pc := 328) (v := (nI (0))) hx hb dX8_starRule_328 (by decide) ?_
      have hU : rS dgt E 4 x1 = none := by first | (simp [rS, c12]; done) | (exfalso; omega)
      have hP9 : va_P D vwCl [(hm, .inr (6, oM am n pos cmp que dsz mad cur stp met bst)), (am 1, .inl (cI, 18, .inl (nA dgt))), (am 20, .inl (cI, 36, .inl (nA rt)))] s.heap := hP.sub [0, 1, 2] rfl
      have hD9 : va_D _ [(hm, .inr (6, oM am n pos cmp que dsz mad cur stp met bst)), (am 1, .inl (cI, 18, .inl (nA dgt))), (am 20, .inl (cI, 36, .inl (nA rt)))] := hD.sub [0, 1, 2] (by decide) rfl
      exact W.zret (pc := 329) (v := (nI (0))) (ty := .boolean) hx hb hr (by decide) (fun t ht hW => ⟨⟨_, (mad, rt), rfl, ⟨(by first | (rw [hU]; done) | (rw [hU]; rfl)), (by rw [hU]; exact hL)⟩, by rw [ht]; exact hP9, va_K.moved hW.alike hK, hD9⟩, hS.F ht⟩) hS.2.2 dX8_starRule_329
    · refine lv_tableIn (pc := 38) (tgt := 124) (off := 86) hx hb dX8_starRule_38 (by decide) (by decide) (by decide) (by decide) ?_
      refine lv_aload_n (pc := 124) hx hb dX8_starRule_124 rfl (lv_at hl 2 rfl) ?_
      refine va_get (pc := 125) (D := D) (ci := 6) (v := .ref (am 1)) (C := RX8) (T := TX8) (N := 30) hx hb hts hinX8 hown hK hP 0 rfl rfl 1 (by decide) lk0 (fun _ h9 => h9) rfl dX8_starRule_125 ?_
      refine lv_iload_n (pc := 128) hx hb dX8_starRule_128 rfl (lv_at hl 4 rfl) ?_
      refine xa_iald (pc := 129) hx hb hK hP 1 0 rfl rfl (by omega) (by omega) dX8_starRule_129 ?_
      refine lv_bipush (pc := 130) (v := (nI (8))) hx hb dX8_starRule_130 (by decide) ?_
      refine xn_icmp_ne (pc := 132) (tgt := 147) hx hb (by have h5 := tv.q (show x1 < N by omega); omega) (by omega) dX8_starRule_132 (by decide) (fun c132 => ?_) (fun c132 => ?_)
      · refine lv_iconst (pc := 147) (v := (nI (0))) hx hb dX8_starRule_147 (by decide) ?_
        have hU : rS dgt E 5 x1 = none := by first | (simp [rS, c12, c132]; done) | (exfalso; omega)
        have hP9 : va_P D vwCl [(hm, .inr (6, oM am n pos cmp que dsz mad cur stp met bst)), (am 1, .inl (cI, 18, .inl (nA dgt))), (am 20, .inl (cI, 36, .inl (nA rt)))] s.heap := hP.sub [0, 1, 2] rfl
        have hD9 : va_D _ [(hm, .inr (6, oM am n pos cmp que dsz mad cur stp met bst)), (am 1, .inl (cI, 18, .inl (nA dgt))), (am 20, .inl (cI, 36, .inl (nA rt)))] := hD.sub [0, 1, 2] (by decide) rfl
        exact W.zret (pc := 148) (v := (nI (0))) (ty := .boolean) hx hb hr (by decide) (fun t ht hW => ⟨⟨_, (mad, rt), rfl, ⟨(by first | (rw [hU]; done) | (rw [hU]; rfl)), (by rw [hU]; exact hL)⟩, by rw [ht]; exact hP9, va_K.moved hW.alike hK, hD9⟩, hS.F ht⟩) hS.2.2 dX8_starRule_148
      · refine lv_aload_n (pc := 135) hx hb dX8_starRule_135 rfl (lv_at hl 2 rfl) ?_
        refine lv_iload_n (pc := 136) hx hb dX8_starRule_136 rfl (lv_at hl 4 rfl) ?_
        refine xm_calli (pc := 137) (wc := [(hm, .inr (6, oM am n pos cmp que dsz mad cur stp met bst)), (am 1, .inl (cI, 18, .inl (nA dgt))), (am 20, .inl (cI, 36, .inl (nA rt)))]) (wr := []) (va_runV (As := [.int (nI x1)]) (rest := []) ⟨hx, hb, hml, hown, hts⟩ (c_X8_copies l D cI cL cZ s.heap.size hm am n pos cmp que dsz mad cur stp met bst dgt E N rt ([]) x1 tv (by omega) (by have h0 := tv.q (show x1 < N by omega); omega) hL) (cwV 1 hts gX8_starRule_X8_copies rfl rfl rfl (by decide +kernel) ⟨Nat.le_of_ble_eq_true rfl, Nat.le_of_ble_eq_true rfl⟩) (mP_V (wc := [(hm, .inr (6, oM am n pos cmp que dsz mad cur stp met bst)), (am 1, .inl (cI, 18, .inl (nA dgt))), (am 20, .inl (cI, 36, .inl (nA rt)))]) (ci := 6) (q0 := 0) hK hP hD [0, 1, 2] (by decide) rfl rfl rfl) rfl rfl hl.1 rfl (lv_room (Nat.le_of_ble_eq_true rfl)) dX8_starRule_137 ⟨Nat.zero_le _, Nat.zero_le _⟩) hP hD hS hA [0, 1, 2] [] rfl rfl (by decide) (by decide) (fun r u H locs hw hP hD hS => ?_)
        obtain ⟨mad2_137, rt2_137⟩ := u
        have hP : va_P D vwCl [(hm, .inr (6, oM am n pos cmp que dsz mad2_137 cur stp met bst)), (am 1, .inl (cI, 18, .inl (nA dgt))), (am 20, .inl (cI, 36, .inl (nA rt2_137)))] H := hP
        have hD : va_D _ [(hm, .inr (6, oM am n pos cmp que dsz mad2_137 cur stp met bst)), (am 1, .inl (cI, 18, .inl (nA dgt))), (am 20, .inl (cI, 36, .inl (nA rt2_137)))] := hD
        try dsimp only at hw
        obtain ⟨hrr, hw137⟩ := hw
        rw [hrr]
        refine lv_if_eq (pc := 140) (tgt := 147) hx hb dX8_starRule_140 (by decide) (fun h => absurd h (by decide)) (fun _ => ?_)
        refine lv_iconst (pc := 143) (v := (nI (1))) hx hb dX8_starRule_143 (by decide) ?_
        refine lv_goto (pc := 144) (tgt := 148) hx hb dX8_starRule_144 (by decide) ?_
        have hU : rS dgt E 5 x1 = some (([]) ++ sb dgt E x1) := by first | (simp [rS, c12, c132]; done) | (exfalso; omega)
        have hP9 : va_P D vwCl [(hm, .inr (6, oM am n pos cmp que dsz mad2_137 cur stp met bst)), (am 1, .inl (cI, 18, .inl (nA dgt))), (am 20, .inl (cI, 36, .inl (nA rt2_137)))] H := hP.sub [0, 1, 2] rfl
        have hD9 : va_D _ [(hm, .inr (6, oM am n pos cmp que dsz mad2_137 cur stp met bst)), (am 1, .inl (cI, 18, .inl (nA dgt))), (am 20, .inl (cI, 36, .inl (nA rt2_137)))] := hD.sub [0, 1, 2] (by decide) rfl
        exact W.zret (pc := 148) (v := (nI (1))) (ty := .boolean) hx hb hr (by decide) (fun t ht hW => ⟨⟨_, (mad2_137, rt2_137), rfl, ⟨(by first | (rw [hU]; done) | (rw [hU]; rfl)), (by rw [hU]; exact hw137)⟩, by rw [ht]; exact hP9, va_K.moved hW.alike hK, hD9⟩, hS.F ht⟩) hS.2.2 dX8_starRule_148
    · refine lv_tableIn (pc := 38) (tgt := 149) (off := 111) hx hb dX8_starRule_38 (by decide) (by decide) (by decide) (by decide) ?_
      refine lv_aload_n (pc := 149) hx hb dX8_starRule_149 rfl (lv_at hl 2 rfl) ?_
      refine va_get (pc := 150) (D := D) (ci := 6) (v := .ref (am 1)) (C := RX8) (T := TX8) (N := 30) hx hb hts hinX8 hown hK hP 0 rfl rfl 1 (by decide) lk0 (fun _ h9 => h9) rfl dX8_starRule_150 ?_
      refine lv_iload_n (pc := 153) hx hb dX8_starRule_153 rfl (lv_at hl 4 rfl) ?_
      refine xa_iald (pc := 154) hx hb hK hP 1 0 rfl rfl (by omega) (by omega) dX8_starRule_154 ?_
      refine lv_bipush (pc := 155) (v := (nI (6))) hx hb dX8_starRule_155 (by decide) ?_
      refine xn_icmp_ne (pc := 157) (tgt := 205) hx hb (by have h5 := tv.q (show x1 < N by omega); omega) (by omega) dX8_starRule_157 (by decide) (fun h => absurd c12 h) (fun _ => ?_)
      have ht := tv.two hx1 (by omega)
      refine lv_aload_n (pc := 160) hx hb dX8_starRule_160 rfl (lv_at hl 2 rfl) ?_
      refine va_get (pc := 161) (D := D) (ci := 6) (v := .ref (am 1)) (C := RX8) (T := TX8) (N := 30) hx hb hts hinX8 hown hK hP 0 rfl rfl 1 (by decide) lk0 (fun _ h9 => h9) rfl dX8_starRule_161 ?_
      refine lv_iload_n (pc := 164) hx hb dX8_starRule_164 rfl (lv_at hl 1 rfl) ?_
      refine xa_iald (pc := 165) hx hb hK hP 1 0 rfl rfl (by omega) (by omega) dX8_starRule_165 ?_
      refine lv_iconst (pc := 166) (v := (nI (2))) hx hb dX8_starRule_166 (by decide) ?_
      refine xn_icmp_ne (pc := 167) (tgt := 182) hx hb (by have h5 := tv.q (show (x1 + 1) < N by omega); omega) (by omega) dX8_starRule_167 (by decide) (fun c167 => ?_) (fun c167 => ?_)
      · refine lv_aload_n (pc := 182) hx hb dX8_starRule_182 rfl (lv_at hl 2 rfl) ?_
        refine va_get (pc := 183) (D := D) (ci := 6) (v := .ref (am 1)) (C := RX8) (T := TX8) (N := 30) hx hb hts hinX8 hown hK hP 0 rfl rfl 1 (by decide) lk0 (fun _ h9 => h9) rfl dX8_starRule_183 ?_
        refine lv_iload (pc := 186) hx hb dX8_starRule_186 (lv_at hl 0 rfl) ?_
        refine xa_iald (pc := 188) hx hb hK hP 1 0 rfl rfl (by omega) (by omega) dX8_starRule_188 ?_
        refine lv_iconst (pc := 189) (v := (nI (2))) hx hb dX8_starRule_189 (by decide) ?_
        refine xn_icmp_ne (pc := 190) (tgt := 205) hx hb (by have h5 := tv.q (show (E (x1 + 1)) < N by omega); omega) (by omega) dX8_starRule_190 (by decide) (fun c190 => ?_) (fun c190 => ?_)
        · refine lv_iconst (pc := 205) (v := (nI (0))) hx hb dX8_starRule_205 (by decide) ?_
          have hU : rS dgt E 6 x1 = none := by first | (simp [rS, c12, c167, c190]; done) | (exfalso; omega)
          have hP9 : va_P D vwCl [(hm, .inr (6, oM am n pos cmp que dsz mad cur stp met bst)), (am 1, .inl (cI, 18, .inl (nA dgt))), (am 20, .inl (cI, 36, .inl (nA rt)))] s.heap := hP.sub [0, 1, 2] rfl
          have hD9 : va_D _ [(hm, .inr (6, oM am n pos cmp que dsz mad cur stp met bst)), (am 1, .inl (cI, 18, .inl (nA dgt))), (am 20, .inl (cI, 36, .inl (nA rt)))] := hD.sub [0, 1, 2] (by decide) rfl
          exact W.zret (pc := 206) (v := (nI (0))) (ty := .boolean) hx hb hr (by decide) (fun t ht hW => ⟨⟨_, (mad, rt), rfl, ⟨(by first | (rw [hU]; done) | (rw [hU]; rfl)), (by rw [hU]; exact hL)⟩, by rw [ht]; exact hP9, va_K.moved hW.alike hK, hD9⟩, hS.F ht⟩) hS.2.2 dX8_starRule_206
        · refine lv_aload_n (pc := 193) hx hb dX8_starRule_193 rfl (lv_at hl 2 rfl) ?_
          refine lv_iload_n (pc := 194) hx hb dX8_starRule_194 rfl (lv_at hl 1 rfl) ?_
          refine xm_calli (pc := 195) (wc := [(hm, .inr (6, oM am n pos cmp que dsz mad cur stp met bst)), (am 1, .inl (cI, 18, .inl (nA dgt))), (am 20, .inl (cI, 36, .inl (nA rt)))]) (wr := []) (va_runV (As := [.int (nI (x1 + 1))]) (rest := []) ⟨hx, hb, hml, hown, hts⟩ (c_X8_starOf l D cI cL cZ s.heap.size hm am n pos cmp que dsz mad cur stp met bst dgt E N rt ([]) (x1 + 1) tv (by omega) (by have h0 := tv.q (show x1 + 1 < N by omega); omega) hL) (cwV 1 hts gX8_starRule_X8_starOf rfl rfl rfl (by decide +kernel) ⟨Nat.le_of_ble_eq_true rfl, Nat.le_of_ble_eq_true rfl⟩) (mP_V (wc := [(hm, .inr (6, oM am n pos cmp que dsz mad cur stp met bst)), (am 1, .inl (cI, 18, .inl (nA dgt))), (am 20, .inl (cI, 36, .inl (nA rt)))]) (ci := 6) (q0 := 0) hK hP hD [0, 1, 2] (by decide) rfl rfl rfl) rfl rfl hl.1 rfl (lv_room (Nat.le_of_ble_eq_true rfl)) dX8_starRule_195 ⟨Nat.zero_le _, Nat.zero_le _⟩) hP hD hS hA [0, 1, 2] [] rfl rfl (by decide) (by decide) (fun r u H locs hw hP hD hS => ?_)
          obtain ⟨mad2_195, rt2_195⟩ := u
          have hP : va_P D vwCl [(hm, .inr (6, oM am n pos cmp que dsz mad2_195 cur stp met bst)), (am 1, .inl (cI, 18, .inl (nA dgt))), (am 20, .inl (cI, 36, .inl (nA rt2_195)))] H := hP
          have hD : va_D _ [(hm, .inr (6, oM am n pos cmp que dsz mad2_195 cur stp met bst)), (am 1, .inl (cI, 18, .inl (nA dgt))), (am 20, .inl (cI, 36, .inl (nA rt2_195)))] := hD
          try dsimp only at hw
          obtain ⟨hrr, hw195⟩ := hw
          rw [hrr]
          refine lv_if_eq (pc := 198) (tgt := 205) hx hb dX8_starRule_198 (by decide) (fun h => absurd h (by decide)) (fun _ => ?_)
          refine lv_iconst (pc := 201) (v := (nI (1))) hx hb dX8_starRule_201 (by decide) ?_
          refine lv_goto (pc := 202) (tgt := 206) hx hb dX8_starRule_202 (by decide) ?_
          have hU : rS dgt E 6 x1 = some (([]) ++ (8 :: sb dgt E (x1 + 1))) := by first | (simp [rS, c12, c167, c190]; done) | (exfalso; omega)
          have hP9 : va_P D vwCl [(hm, .inr (6, oM am n pos cmp que dsz mad2_195 cur stp met bst)), (am 1, .inl (cI, 18, .inl (nA dgt))), (am 20, .inl (cI, 36, .inl (nA rt2_195)))] H := hP.sub [0, 1, 2] rfl
          have hD9 : va_D _ [(hm, .inr (6, oM am n pos cmp que dsz mad2_195 cur stp met bst)), (am 1, .inl (cI, 18, .inl (nA dgt))), (am 20, .inl (cI, 36, .inl (nA rt2_195)))] := hD.sub [0, 1, 2] (by decide) rfl
          exact W.zret (pc := 206) (v := (nI (1))) (ty := .boolean) hx hb hr (by decide) (fun t ht hW => ⟨⟨_, (mad2_195, rt2_195), rfl, ⟨(by first | (rw [hU]; done) | (rw [hU]; rfl)), (by rw [hU]; exact hw195)⟩, by rw [ht]; exact hP9, va_K.moved hW.alike hK, hD9⟩, hS.F ht⟩) hS.2.2 dX8_starRule_206
      · refine lv_aload_n (pc := 170) hx hb dX8_starRule_170 rfl (lv_at hl 2 rfl) ?_
        refine lv_iload (pc := 171) hx hb dX8_starRule_171 (lv_at hl 0 rfl) ?_
        refine xm_calli (pc := 173) (wc := [(hm, .inr (6, oM am n pos cmp que dsz mad cur stp met bst)), (am 1, .inl (cI, 18, .inl (nA dgt))), (am 20, .inl (cI, 36, .inl (nA rt)))]) (wr := []) (va_runV (As := [.int (nI (E (x1 + 1)))]) (rest := []) ⟨hx, hb, hml, hown, hts⟩ (c_X8_starOf l D cI cL cZ s.heap.size hm am n pos cmp que dsz mad cur stp met bst dgt E N rt ([]) (E (x1 + 1)) tv (by omega) (by have h0 := tv.q (show E (x1 + 1) < N by omega); omega) hL) (cwV 1 hts gX8_starRule_X8_starOf rfl rfl rfl (by decide +kernel) ⟨Nat.le_of_ble_eq_true rfl, Nat.le_of_ble_eq_true rfl⟩) (mP_V (wc := [(hm, .inr (6, oM am n pos cmp que dsz mad cur stp met bst)), (am 1, .inl (cI, 18, .inl (nA dgt))), (am 20, .inl (cI, 36, .inl (nA rt)))]) (ci := 6) (q0 := 0) hK hP hD [0, 1, 2] (by decide) rfl rfl rfl) rfl rfl hl.1 rfl (lv_room (Nat.le_of_ble_eq_true rfl)) dX8_starRule_173 ⟨Nat.zero_le _, Nat.zero_le _⟩) hP hD hS hA [0, 1, 2] [] rfl rfl (by decide) (by decide) (fun r u H locs hw hP hD hS => ?_)
        obtain ⟨mad2_173, rt2_173⟩ := u
        have hP : va_P D vwCl [(hm, .inr (6, oM am n pos cmp que dsz mad2_173 cur stp met bst)), (am 1, .inl (cI, 18, .inl (nA dgt))), (am 20, .inl (cI, 36, .inl (nA rt2_173)))] H := hP
        have hD : va_D _ [(hm, .inr (6, oM am n pos cmp que dsz mad2_173 cur stp met bst)), (am 1, .inl (cI, 18, .inl (nA dgt))), (am 20, .inl (cI, 36, .inl (nA rt2_173)))] := hD
        try dsimp only at hw
        obtain ⟨hrr, hw173⟩ := hw
        rw [hrr]
        refine lv_if_eq (pc := 176) (tgt := 205) hx hb dX8_starRule_176 (by decide) (fun h => absurd h (by decide)) (fun _ => ?_)
        refine lv_goto (pc := 179) (tgt := 201) hx hb dX8_starRule_179 (by decide) ?_
        refine lv_iconst (pc := 201) (v := (nI (1))) hx hb dX8_starRule_201 (by decide) ?_
        refine lv_goto (pc := 202) (tgt := 206) hx hb dX8_starRule_202 (by decide) ?_
        have hU : rS dgt E 6 x1 = some (([]) ++ (8 :: sb dgt E (E (x1 + 1)))) := by first | (simp [rS, c12, c167]; done) | (exfalso; omega)
        have hP9 : va_P D vwCl [(hm, .inr (6, oM am n pos cmp que dsz mad2_173 cur stp met bst)), (am 1, .inl (cI, 18, .inl (nA dgt))), (am 20, .inl (cI, 36, .inl (nA rt2_173)))] H := hP.sub [0, 1, 2] rfl
        have hD9 : va_D _ [(hm, .inr (6, oM am n pos cmp que dsz mad2_173 cur stp met bst)), (am 1, .inl (cI, 18, .inl (nA dgt))), (am 20, .inl (cI, 36, .inl (nA rt2_173)))] := hD.sub [0, 1, 2] (by decide) rfl
        exact W.zret (pc := 206) (v := (nI (1))) (ty := .boolean) hx hb hr (by decide) (fun t ht hW => ⟨⟨_, (mad2_173, rt2_173), rfl, ⟨(by first | (rw [hU]; done) | (rw [hU]; rfl)), (by rw [hU]; exact hw173)⟩, by rw [ht]; exact hP9, va_K.moved hW.alike hK, hD9⟩, hS.F ht⟩) hS.2.2 dX8_starRule_206
    · refine lv_tableIn (pc := 38) (tgt := 328) (off := 290) hx hb dX8_starRule_38 (by decide) (by decide) (by decide) (by decide) ?_
      refine lv_iconst (pc := 328) (v := (nI (0))) hx hb dX8_starRule_328 (by decide) ?_
      have hU : rS dgt E 7 x1 = none := by first | (simp [rS, c12]; done) | (exfalso; omega)
      have hP9 : va_P D vwCl [(hm, .inr (6, oM am n pos cmp que dsz mad cur stp met bst)), (am 1, .inl (cI, 18, .inl (nA dgt))), (am 20, .inl (cI, 36, .inl (nA rt)))] s.heap := hP.sub [0, 1, 2] rfl
      have hD9 : va_D _ [(hm, .inr (6, oM am n pos cmp que dsz mad cur stp met bst)), (am 1, .inl (cI, 18, .inl (nA dgt))), (am 20, .inl (cI, 36, .inl (nA rt)))] := hD.sub [0, 1, 2] (by decide) rfl
      exact W.zret (pc := 329) (v := (nI (0))) (ty := .boolean) hx hb hr (by decide) (fun t ht hW => ⟨⟨_, (mad, rt), rfl, ⟨(by first | (rw [hU]; done) | (rw [hU]; rfl)), (by rw [hU]; exact hL)⟩, by rw [ht]; exact hP9, va_K.moved hW.alike hK, hD9⟩, hS.F ht⟩) hS.2.2 dX8_starRule_329
    · refine lv_tableIn (pc := 38) (tgt := 328) (off := 290) hx hb dX8_starRule_38 (by decide) (by decide) (by decide) (by decide) ?_
      refine lv_iconst (pc := 328) (v := (nI (0))) hx hb dX8_starRule_328 (by decide) ?_
      have hU : rS dgt E 8 x1 = none := by first | (simp [rS, c12]; done) | (exfalso; omega)
      have hP9 : va_P D vwCl [(hm, .inr (6, oM am n pos cmp que dsz mad cur stp met bst)), (am 1, .inl (cI, 18, .inl (nA dgt))), (am 20, .inl (cI, 36, .inl (nA rt)))] s.heap := hP.sub [0, 1, 2] rfl
      have hD9 : va_D _ [(hm, .inr (6, oM am n pos cmp que dsz mad cur stp met bst)), (am 1, .inl (cI, 18, .inl (nA dgt))), (am 20, .inl (cI, 36, .inl (nA rt)))] := hD.sub [0, 1, 2] (by decide) rfl
      exact W.zret (pc := 329) (v := (nI (0))) (ty := .boolean) hx hb hr (by decide) (fun t ht hW => ⟨⟨_, (mad, rt), rfl, ⟨(by first | (rw [hU]; done) | (rw [hU]; rfl)), (by rw [hU]; exact hL)⟩, by rw [ht]; exact hP9, va_K.moved hW.alike hK, hD9⟩, hS.F ht⟩) hS.2.2 dX8_starRule_329
    · refine lv_tableIn (pc := 38) (tgt := 328) (off := 290) hx hb dX8_starRule_38 (by decide) (by decide) (by decide) (by decide) ?_
      refine lv_iconst (pc := 328) (v := (nI (0))) hx hb dX8_starRule_328 (by decide) ?_
      have hU : rS dgt E 9 x1 = none := by first | (simp [rS, c12]; done) | (exfalso; omega)
      have hP9 : va_P D vwCl [(hm, .inr (6, oM am n pos cmp que dsz mad cur stp met bst)), (am 1, .inl (cI, 18, .inl (nA dgt))), (am 20, .inl (cI, 36, .inl (nA rt)))] s.heap := hP.sub [0, 1, 2] rfl
      have hD9 : va_D _ [(hm, .inr (6, oM am n pos cmp que dsz mad cur stp met bst)), (am 1, .inl (cI, 18, .inl (nA dgt))), (am 20, .inl (cI, 36, .inl (nA rt)))] := hD.sub [0, 1, 2] (by decide) rfl
      exact W.zret (pc := 329) (v := (nI (0))) (ty := .boolean) hx hb hr (by decide) (fun t ht hW => ⟨⟨_, (mad, rt), rfl, ⟨(by first | (rw [hU]; done) | (rw [hU]; rfl)), (by rw [hU]; exact hL)⟩, by rw [ht]; exact hP9, va_K.moved hW.alike hK, hD9⟩, hS.F ht⟩) hS.2.2 dX8_starRule_329
    · refine lv_tableIn (pc := 38) (tgt := 328) (off := 290) hx hb dX8_starRule_38 (by decide) (by decide) (by decide) (by decide) ?_
      refine lv_iconst (pc := 328) (v := (nI (0))) hx hb dX8_starRule_328 (by decide) ?_
      have hU : rS dgt E 10 x1 = none := by first | (simp [rS, c12]; done) | (exfalso; omega)
      have hP9 : va_P D vwCl [(hm, .inr (6, oM am n pos cmp que dsz mad cur stp met bst)), (am 1, .inl (cI, 18, .inl (nA dgt))), (am 20, .inl (cI, 36, .inl (nA rt)))] s.heap := hP.sub [0, 1, 2] rfl
      have hD9 : va_D _ [(hm, .inr (6, oM am n pos cmp que dsz mad cur stp met bst)), (am 1, .inl (cI, 18, .inl (nA dgt))), (am 20, .inl (cI, 36, .inl (nA rt)))] := hD.sub [0, 1, 2] (by decide) rfl
      exact W.zret (pc := 329) (v := (nI (0))) (ty := .boolean) hx hb hr (by decide) (fun t ht hW => ⟨⟨_, (mad, rt), rfl, ⟨(by first | (rw [hU]; done) | (rw [hU]; rfl)), (by rw [hU]; exact hL)⟩, by rw [ht]; exact hP9, va_K.moved hW.alike hK, hD9⟩, hS.F ht⟩) hS.2.2 dX8_starRule_329
    · refine lv_tableIn (pc := 38) (tgt := 328) (off := 290) hx hb dX8_starRule_38 (by decide) (by decide) (by decide) (by decide) ?_
      refine lv_iconst (pc := 328) (v := (nI (0))) hx hb dX8_starRule_328 (by decide) ?_
      have hU : rS dgt E 11 x1 = none := by first | (simp [rS, c12]; done) | (exfalso; omega)
      have hP9 : va_P D vwCl [(hm, .inr (6, oM am n pos cmp que dsz mad cur stp met bst)), (am 1, .inl (cI, 18, .inl (nA dgt))), (am 20, .inl (cI, 36, .inl (nA rt)))] s.heap := hP.sub [0, 1, 2] rfl
      have hD9 : va_D _ [(hm, .inr (6, oM am n pos cmp que dsz mad cur stp met bst)), (am 1, .inl (cI, 18, .inl (nA dgt))), (am 20, .inl (cI, 36, .inl (nA rt)))] := hD.sub [0, 1, 2] (by decide) rfl
      exact W.zret (pc := 329) (v := (nI (0))) (ty := .boolean) hx hb hr (by decide) (fun t ht hW => ⟨⟨_, (mad, rt), rfl, ⟨(by first | (rw [hU]; done) | (rw [hU]; rfl)), (by rw [hU]; exact hL)⟩, by rw [ht]; exact hP9, va_K.moved hW.alike hK, hD9⟩, hS.F ht⟩) hS.2.2 dX8_starRule_329
    · refine lv_tableIn (pc := 38) (tgt := 328) (off := 290) hx hb dX8_starRule_38 (by decide) (by decide) (by decide) (by decide) ?_
      refine lv_iconst (pc := 328) (v := (nI (0))) hx hb dX8_starRule_328 (by decide) ?_
      have hU : rS dgt E 12 x1 = none := by first | (simp [rS, c12]; done) | (exfalso; omega)
      have hP9 : va_P D vwCl [(hm, .inr (6, oM am n pos cmp que dsz mad cur stp met bst)), (am 1, .inl (cI, 18, .inl (nA dgt))), (am 20, .inl (cI, 36, .inl (nA rt)))] s.heap := hP.sub [0, 1, 2] rfl
      have hD9 : va_D _ [(hm, .inr (6, oM am n pos cmp que dsz mad cur stp met bst)), (am 1, .inl (cI, 18, .inl (nA dgt))), (am 20, .inl (cI, 36, .inl (nA rt)))] := hD.sub [0, 1, 2] (by decide) rfl
      exact W.zret (pc := 329) (v := (nI (0))) (ty := .boolean) hx hb hr (by decide) (fun t ht hW => ⟨⟨_, (mad, rt), rfl, ⟨(by first | (rw [hU]; done) | (rw [hU]; rfl)), (by rw [hU]; exact hL)⟩, by rw [ht]; exact hP9, va_K.moved hW.alike hK, hD9⟩, hS.F ht⟩) hS.2.2 dX8_starRule_329
    · refine lv_tableIn (pc := 38) (tgt := 207) (off := 169) hx hb dX8_starRule_38 (by decide) (by decide) (by decide) (by decide) ?_
      refine lv_aload_n (pc := 207) hx hb dX8_starRule_207 rfl (lv_at hl 2 rfl) ?_
      refine va_get (pc := 208) (D := D) (ci := 6) (v := .ref (am 1)) (C := RX8) (T := TX8) (N := 30) hx hb hts hinX8 hown hK hP 0 rfl rfl 1 (by decide) lk0 (fun _ h9 => h9) rfl dX8_starRule_208 ?_
      refine lv_iload_n (pc := 211) hx hb dX8_starRule_211 rfl (lv_at hl 4 rfl) ?_
      refine xa_iald (pc := 212) hx hb hK hP 1 0 rfl rfl (by omega) (by omega) dX8_starRule_212 ?_
      refine lv_bipush (pc := 213) (v := (nI (6))) hx hb dX8_starRule_213 (by decide) ?_
      refine xn_icmp_ne (pc := 215) (tgt := 272) hx hb (by have h5 := tv.q (show x1 < N by omega); omega) (by omega) dX8_starRule_215 (by decide) (fun h => absurd c12 h) (fun _ => ?_)
      have ht := tv.two hx1 (by omega)
      refine lv_aload_n (pc := 218) hx hb dX8_starRule_218 rfl (lv_at hl 2 rfl) ?_
      refine va_get (pc := 219) (D := D) (ci := 6) (v := .ref (am 1)) (C := RX8) (T := TX8) (N := 30) hx hb hts hinX8 hown hK hP 0 rfl rfl 1 (by decide) lk0 (fun _ h9 => h9) rfl dX8_starRule_219 ?_
      refine lv_iload_n (pc := 222) hx hb dX8_starRule_222 rfl (lv_at hl 1 rfl) ?_
      refine xa_iald (pc := 223) hx hb hK hP 1 0 rfl rfl (by omega) (by omega) dX8_starRule_223 ?_
      refine lv_bipush (pc := 224) (v := (nI (8))) hx hb dX8_starRule_224 (by decide) ?_
      refine xn_icmp_ne (pc := 226) (tgt := 244) hx hb (by have h5 := tv.q (show (x1 + 1) < N by omega); omega) (by omega) dX8_starRule_226 (by decide) (fun c226 => ?_) (fun c226 => ?_)
      · refine lv_aload_n (pc := 244) hx hb dX8_starRule_244 rfl (lv_at hl 2 rfl) ?_
        refine va_get (pc := 245) (D := D) (ci := 6) (v := .ref (am 1)) (C := RX8) (T := TX8) (N := 30) hx hb hts hinX8 hown hK hP 0 rfl rfl 1 (by decide) lk0 (fun _ h9 => h9) rfl dX8_starRule_245 ?_
        refine lv_iload (pc := 248) hx hb dX8_starRule_248 (lv_at hl 0 rfl) ?_
        refine xa_iald (pc := 250) hx hb hK hP 1 0 rfl rfl (by omega) (by omega) dX8_starRule_250 ?_
        refine lv_bipush (pc := 251) (v := (nI (8))) hx hb dX8_starRule_251 (by decide) ?_
        refine xn_icmp_ne (pc := 253) (tgt := 272) hx hb (by have h5 := tv.q (show (E (x1 + 1)) < N by omega); omega) (by omega) dX8_starRule_253 (by decide) (fun c253 => ?_) (fun c253 => ?_)
        · refine lv_iconst (pc := 272) (v := (nI (0))) hx hb dX8_starRule_272 (by decide) ?_
          have hU : rS dgt E 13 x1 = none := by first | (simp [rS, c12, c226, c253]; done) | (exfalso; omega)
          have hP9 : va_P D vwCl [(hm, .inr (6, oM am n pos cmp que dsz mad cur stp met bst)), (am 1, .inl (cI, 18, .inl (nA dgt))), (am 20, .inl (cI, 36, .inl (nA rt)))] s.heap := hP.sub [0, 1, 2] rfl
          have hD9 : va_D _ [(hm, .inr (6, oM am n pos cmp que dsz mad cur stp met bst)), (am 1, .inl (cI, 18, .inl (nA dgt))), (am 20, .inl (cI, 36, .inl (nA rt)))] := hD.sub [0, 1, 2] (by decide) rfl
          exact W.zret (pc := 273) (v := (nI (0))) (ty := .boolean) hx hb hr (by decide) (fun t ht hW => ⟨⟨_, (mad, rt), rfl, ⟨(by first | (rw [hU]; done) | (rw [hU]; rfl)), (by rw [hU]; exact hL)⟩, by rw [ht]; exact hP9, va_K.moved hW.alike hK, hD9⟩, hS.F ht⟩) hS.2.2 dX8_starRule_273
        · have ho := tv.one (show E (x1 + 1) < N by omega) c253
          refine lv_aload_n (pc := 256) hx hb dX8_starRule_256 rfl (lv_at hl 2 rfl) ?_
          refine lv_iload_n (pc := 257) hx hb dX8_starRule_257 rfl (lv_at hl 1 rfl) ?_
          refine lv_iload (pc := 258) hx hb dX8_starRule_258 (lv_at hl 0 rfl) ?_
          refine lv_iconst (pc := 260) (v := (nI (1))) hx hb dX8_starRule_260 (by decide) ?_
          refine xn_iadd (pc := 261) hx hb  dX8_starRule_261 ?_
          refine xm_calli (pc := 262) (wc := [(hm, .inr (6, oM am n pos cmp que dsz mad cur stp met bst)), (am 1, .inl (cI, 18, .inl (nA dgt))), (am 20, .inl (cI, 36, .inl (nA rt)))]) (wr := []) (va_runV (As := [.int (nI (x1 + 1)), .int (nI ((E (x1 + 1)) + 1))]) (rest := []) ⟨hx, hb, hml, hown, hts⟩ (c_X8_starOfUnion l D cI cL cZ s.heap.size hm am n pos cmp que dsz mad cur stp met bst dgt E N rt ([]) (x1 + 1) ((E (x1 + 1)) + 1) tv (by omega) (by omega) (by have h0 := tv.q (show x1 + 1 < N by omega); have h1 := tv.q (show (E (x1 + 1)) + 1 < N by omega); omega) hL) (cwV 2 hts gX8_starRule_X8_starOfUnion rfl rfl rfl (by decide +kernel) ⟨Nat.le_of_ble_eq_true rfl, Nat.le_of_ble_eq_true rfl⟩) (mP_V (wc := [(hm, .inr (6, oM am n pos cmp que dsz mad cur stp met bst)), (am 1, .inl (cI, 18, .inl (nA dgt))), (am 20, .inl (cI, 36, .inl (nA rt)))]) (ci := 6) (q0 := 0) hK hP hD [0, 1, 2] (by decide) rfl rfl rfl) rfl rfl hl.1 rfl (lv_room (Nat.le_of_ble_eq_true rfl)) dX8_starRule_262 ⟨Nat.zero_le _, Nat.zero_le _⟩) hP hD hS hA [0, 1, 2] [] rfl rfl (by decide) (by decide) (fun r u H locs hw hP hD hS => ?_)
          obtain ⟨mad2_262, rt2_262⟩ := u
          have hP : va_P D vwCl [(hm, .inr (6, oM am n pos cmp que dsz mad2_262 cur stp met bst)), (am 1, .inl (cI, 18, .inl (nA dgt))), (am 20, .inl (cI, 36, .inl (nA rt2_262)))] H := hP
          have hD : va_D _ [(hm, .inr (6, oM am n pos cmp que dsz mad2_262 cur stp met bst)), (am 1, .inl (cI, 18, .inl (nA dgt))), (am 20, .inl (cI, 36, .inl (nA rt2_262)))] := hD
          try dsimp only at hw
          obtain ⟨hrr, hw262⟩ := hw
          rw [hrr]
          refine lv_if_eq (pc := 265) (tgt := 272) hx hb dX8_starRule_265 (by decide) (fun h => absurd h (by decide)) (fun _ => ?_)
          refine lv_iconst (pc := 268) (v := (nI (1))) hx hb dX8_starRule_268 (by decide) ?_
          refine lv_goto (pc := 269) (tgt := 273) hx hb dX8_starRule_269 (by decide) ?_
          have hU : rS dgt E 13 x1 = some (([]) ++ (8 :: 6 :: (sb dgt E (x1 + 1) ++ sb dgt E ((E (x1 + 1)) + 1)))) := by first | (simp [rS, c12, c226, c253]; done) | (exfalso; omega)
          have hP9 : va_P D vwCl [(hm, .inr (6, oM am n pos cmp que dsz mad2_262 cur stp met bst)), (am 1, .inl (cI, 18, .inl (nA dgt))), (am 20, .inl (cI, 36, .inl (nA rt2_262)))] H := hP.sub [0, 1, 2] rfl
          have hD9 : va_D _ [(hm, .inr (6, oM am n pos cmp que dsz mad2_262 cur stp met bst)), (am 1, .inl (cI, 18, .inl (nA dgt))), (am 20, .inl (cI, 36, .inl (nA rt2_262)))] := hD.sub [0, 1, 2] (by decide) rfl
          exact W.zret (pc := 273) (v := (nI (1))) (ty := .boolean) hx hb hr (by decide) (fun t ht hW => ⟨⟨_, (mad2_262, rt2_262), rfl, ⟨(by first | (rw [hU]; done) | (rw [hU]; rfl)), (by rw [hU]; exact hw262)⟩, by rw [ht]; exact hP9, va_K.moved hW.alike hK, hD9⟩, hS.F ht⟩) hS.2.2 dX8_starRule_273
      · have ho := tv.one ht.1 c226
        refine lv_aload_n (pc := 229) hx hb dX8_starRule_229 rfl (lv_at hl 2 rfl) ?_
        refine lv_iload_n (pc := 230) hx hb dX8_starRule_230 rfl (lv_at hl 1 rfl) ?_
        refine lv_iconst (pc := 231) (v := (nI (1))) hx hb dX8_starRule_231 (by decide) ?_
        refine xn_iadd (pc := 232) hx hb  dX8_starRule_232 ?_
        refine lv_iload (pc := 233) hx hb dX8_starRule_233 (lv_at hl 0 rfl) ?_
        refine xm_calli (pc := 235) (wc := [(hm, .inr (6, oM am n pos cmp que dsz mad cur stp met bst)), (am 1, .inl (cI, 18, .inl (nA dgt))), (am 20, .inl (cI, 36, .inl (nA rt)))]) (wr := []) (va_runV (As := [.int (nI ((x1 + 1) + 1)), .int (nI (E (x1 + 1)))]) (rest := []) ⟨hx, hb, hml, hown, hts⟩ (c_X8_starOfUnion l D cI cL cZ s.heap.size hm am n pos cmp que dsz mad cur stp met bst dgt E N rt ([]) ((x1 + 1) + 1) (E (x1 + 1)) tv (by omega) (by omega) (by have h0 := tv.q (show (x1 + 1) + 1 < N by omega); have h1 := tv.q (show E (x1 + 1) < N by omega); omega) hL) (cwV 2 hts gX8_starRule_X8_starOfUnion rfl rfl rfl (by decide +kernel) ⟨Nat.le_of_ble_eq_true rfl, Nat.le_of_ble_eq_true rfl⟩) (mP_V (wc := [(hm, .inr (6, oM am n pos cmp que dsz mad cur stp met bst)), (am 1, .inl (cI, 18, .inl (nA dgt))), (am 20, .inl (cI, 36, .inl (nA rt)))]) (ci := 6) (q0 := 0) hK hP hD [0, 1, 2] (by decide) rfl rfl rfl) rfl rfl hl.1 rfl (lv_room (Nat.le_of_ble_eq_true rfl)) dX8_starRule_235 ⟨Nat.zero_le _, Nat.zero_le _⟩) hP hD hS hA [0, 1, 2] [] rfl rfl (by decide) (by decide) (fun r u H locs hw hP hD hS => ?_)
        obtain ⟨mad2_235, rt2_235⟩ := u
        have hP : va_P D vwCl [(hm, .inr (6, oM am n pos cmp que dsz mad2_235 cur stp met bst)), (am 1, .inl (cI, 18, .inl (nA dgt))), (am 20, .inl (cI, 36, .inl (nA rt2_235)))] H := hP
        have hD : va_D _ [(hm, .inr (6, oM am n pos cmp que dsz mad2_235 cur stp met bst)), (am 1, .inl (cI, 18, .inl (nA dgt))), (am 20, .inl (cI, 36, .inl (nA rt2_235)))] := hD
        try dsimp only at hw
        obtain ⟨hrr, hw235⟩ := hw
        rw [hrr]
        refine lv_if_eq (pc := 238) (tgt := 272) hx hb dX8_starRule_238 (by decide) (fun h => absurd h (by decide)) (fun _ => ?_)
        refine lv_goto (pc := 241) (tgt := 268) hx hb dX8_starRule_241 (by decide) ?_
        refine lv_iconst (pc := 268) (v := (nI (1))) hx hb dX8_starRule_268 (by decide) ?_
        refine lv_goto (pc := 269) (tgt := 273) hx hb dX8_starRule_269 (by decide) ?_
        have hU : rS dgt E 13 x1 = some (([]) ++ (8 :: 6 :: (sb dgt E ((x1 + 1) + 1) ++ sb dgt E (E (x1 + 1))))) := by first | (simp [rS, c12, c226]; done) | (exfalso; omega)
        have hP9 : va_P D vwCl [(hm, .inr (6, oM am n pos cmp que dsz mad2_235 cur stp met bst)), (am 1, .inl (cI, 18, .inl (nA dgt))), (am 20, .inl (cI, 36, .inl (nA rt2_235)))] H := hP.sub [0, 1, 2] rfl
        have hD9 : va_D _ [(hm, .inr (6, oM am n pos cmp que dsz mad2_235 cur stp met bst)), (am 1, .inl (cI, 18, .inl (nA dgt))), (am 20, .inl (cI, 36, .inl (nA rt2_235)))] := hD.sub [0, 1, 2] (by decide) rfl
        exact W.zret (pc := 273) (v := (nI (1))) (ty := .boolean) hx hb hr (by decide) (fun t ht hW => ⟨⟨_, (mad2_235, rt2_235), rfl, ⟨(by first | (rw [hU]; done) | (rw [hU]; rfl)), (by rw [hU]; exact hw235)⟩, by rw [ht]; exact hP9, va_K.moved hW.alike hK, hD9⟩, hS.F ht⟩) hS.2.2 dX8_starRule_273
    · refine lv_tableIn (pc := 38) (tgt := 274) (off := 236) hx hb dX8_starRule_38 (by decide) (by decide) (by decide) (by decide) ?_
      refine lv_aload_n (pc := 274) hx hb dX8_starRule_274 rfl (lv_at hl 2 rfl) ?_
      refine va_get (pc := 275) (D := D) (ci := 6) (v := .ref (am 1)) (C := RX8) (T := TX8) (N := 30) hx hb hts hinX8 hown hK hP 0 rfl rfl 1 (by decide) lk0 (fun _ h9 => h9) rfl dX8_starRule_275 ?_
      refine lv_iload_n (pc := 278) hx hb dX8_starRule_278 rfl (lv_at hl 4 rfl) ?_
      refine xa_iald (pc := 279) hx hb hK hP 1 0 rfl rfl (by omega) (by omega) dX8_starRule_279 ?_
      refine lv_bipush (pc := 280) (v := (nI (7))) hx hb dX8_starRule_280 (by decide) ?_
      refine xn_icmp_ne (pc := 282) (tgt := 326) hx hb (by have h5 := tv.q (show x1 < N by omega); omega) (by omega) dX8_starRule_282 (by decide) (fun c282 => ?_) (fun c282 => ?_)
      · refine lv_iconst (pc := 326) (v := (nI (0))) hx hb dX8_starRule_326 (by decide) ?_
        have hU : rS dgt E 14 x1 = none := by first | (simp [rS, c12, c282]; done) | (exfalso; omega)
        have hP9 : va_P D vwCl [(hm, .inr (6, oM am n pos cmp que dsz mad cur stp met bst)), (am 1, .inl (cI, 18, .inl (nA dgt))), (am 20, .inl (cI, 36, .inl (nA rt)))] s.heap := hP.sub [0, 1, 2] rfl
        have hD9 : va_D _ [(hm, .inr (6, oM am n pos cmp que dsz mad cur stp met bst)), (am 1, .inl (cI, 18, .inl (nA dgt))), (am 20, .inl (cI, 36, .inl (nA rt)))] := hD.sub [0, 1, 2] (by decide) rfl
        exact W.zret (pc := 327) (v := (nI (0))) (ty := .boolean) hx hb hr (by decide) (fun t ht hW => ⟨⟨_, (mad, rt), rfl, ⟨(by first | (rw [hU]; done) | (rw [hU]; rfl)), (by rw [hU]; exact hL)⟩, by rw [ht]; exact hP9, va_K.moved hW.alike hK, hD9⟩, hS.F ht⟩) hS.2.2 dX8_starRule_327
      · have ht := tv.two hx1 (by omega)
        refine lv_aload_n (pc := 285) hx hb dX8_starRule_285 rfl (lv_at hl 2 rfl) ?_
        refine va_get (pc := 286) (D := D) (ci := 6) (v := .ref (am 1)) (C := RX8) (T := TX8) (N := 30) hx hb hts hinX8 hown hK hP 0 rfl rfl 1 (by decide) lk0 (fun _ h9 => h9) rfl dX8_starRule_286 ?_
        refine lv_iload_n (pc := 289) hx hb dX8_starRule_289 rfl (lv_at hl 1 rfl) ?_
        refine xa_iald (pc := 290) hx hb hK hP 1 0 rfl rfl (by omega) (by omega) dX8_starRule_290 ?_
        refine lv_bipush (pc := 291) (v := (nI (8))) hx hb dX8_starRule_291 (by decide) ?_
        refine xn_icmp_ne (pc := 293) (tgt := 326) hx hb (by have h5 := tv.q (show (x1 + 1) < N by omega); omega) (by omega) dX8_starRule_293 (by decide) (fun c293 => ?_) (fun c293 => ?_)
        · refine lv_iconst (pc := 326) (v := (nI (0))) hx hb dX8_starRule_326 (by decide) ?_
          have hU : rS dgt E 14 x1 = none := by first | (simp [rS, c12, c282, c293]; done) | (exfalso; omega)
          have hP9 : va_P D vwCl [(hm, .inr (6, oM am n pos cmp que dsz mad cur stp met bst)), (am 1, .inl (cI, 18, .inl (nA dgt))), (am 20, .inl (cI, 36, .inl (nA rt)))] s.heap := hP.sub [0, 1, 2] rfl
          have hD9 : va_D _ [(hm, .inr (6, oM am n pos cmp que dsz mad cur stp met bst)), (am 1, .inl (cI, 18, .inl (nA dgt))), (am 20, .inl (cI, 36, .inl (nA rt)))] := hD.sub [0, 1, 2] (by decide) rfl
          exact W.zret (pc := 327) (v := (nI (0))) (ty := .boolean) hx hb hr (by decide) (fun t ht hW => ⟨⟨_, (mad, rt), rfl, ⟨(by first | (rw [hU]; done) | (rw [hU]; rfl)), (by rw [hU]; exact hL)⟩, by rw [ht]; exact hP9, va_K.moved hW.alike hK, hD9⟩, hS.F ht⟩) hS.2.2 dX8_starRule_327
        · refine lv_aload_n (pc := 296) hx hb dX8_starRule_296 rfl (lv_at hl 2 rfl) ?_
          refine va_get (pc := 297) (D := D) (ci := 6) (v := .ref (am 1)) (C := RX8) (T := TX8) (N := 30) hx hb hts hinX8 hown hK hP 0 rfl rfl 1 (by decide) lk0 (fun _ h9 => h9) rfl dX8_starRule_297 ?_
          refine lv_iload (pc := 300) hx hb dX8_starRule_300 (lv_at hl 0 rfl) ?_
          refine xa_iald (pc := 302) hx hb hK hP 1 0 rfl rfl (by omega) (by omega) dX8_starRule_302 ?_
          refine lv_bipush (pc := 303) (v := (nI (8))) hx hb dX8_starRule_303 (by decide) ?_
          refine xn_icmp_ne (pc := 305) (tgt := 326) hx hb (by have h5 := tv.q (show (E (x1 + 1)) < N by omega); omega) (by omega) dX8_starRule_305 (by decide) (fun c305 => ?_) (fun c305 => ?_)
          · refine lv_iconst (pc := 326) (v := (nI (0))) hx hb dX8_starRule_326 (by decide) ?_
            have hU : rS dgt E 14 x1 = none := by first | (simp [rS, c12, c282, c293, c305]; done) | (exfalso; omega)
            have hP9 : va_P D vwCl [(hm, .inr (6, oM am n pos cmp que dsz mad cur stp met bst)), (am 1, .inl (cI, 18, .inl (nA dgt))), (am 20, .inl (cI, 36, .inl (nA rt)))] s.heap := hP.sub [0, 1, 2] rfl
            have hD9 : va_D _ [(hm, .inr (6, oM am n pos cmp que dsz mad cur stp met bst)), (am 1, .inl (cI, 18, .inl (nA dgt))), (am 20, .inl (cI, 36, .inl (nA rt)))] := hD.sub [0, 1, 2] (by decide) rfl
            exact W.zret (pc := 327) (v := (nI (0))) (ty := .boolean) hx hb hr (by decide) (fun t ht hW => ⟨⟨_, (mad, rt), rfl, ⟨(by first | (rw [hU]; done) | (rw [hU]; rfl)), (by rw [hU]; exact hL)⟩, by rw [ht]; exact hP9, va_K.moved hW.alike hK, hD9⟩, hS.F ht⟩) hS.2.2 dX8_starRule_327
          · have ho := tv.one ht.1 c293
            have ho2 := tv.one (show E (x1 + 1) < N by omega) c305
            refine lv_aload_n (pc := 308) hx hb dX8_starRule_308 rfl (lv_at hl 2 rfl) ?_
            refine lv_iload_n (pc := 309) hx hb dX8_starRule_309 rfl (lv_at hl 1 rfl) ?_
            refine lv_iconst (pc := 310) (v := (nI (1))) hx hb dX8_starRule_310 (by decide) ?_
            refine xn_iadd (pc := 311) hx hb  dX8_starRule_311 ?_
            refine lv_iload (pc := 312) hx hb dX8_starRule_312 (lv_at hl 0 rfl) ?_
            refine lv_iconst (pc := 314) (v := (nI (1))) hx hb dX8_starRule_314 (by decide) ?_
            refine xn_iadd (pc := 315) hx hb  dX8_starRule_315 ?_
            refine xm_calli (pc := 316) (wc := [(hm, .inr (6, oM am n pos cmp que dsz mad cur stp met bst)), (am 1, .inl (cI, 18, .inl (nA dgt))), (am 20, .inl (cI, 36, .inl (nA rt)))]) (wr := []) (va_runV (As := [.int (nI ((x1 + 1) + 1)), .int (nI ((E (x1 + 1)) + 1))]) (rest := []) ⟨hx, hb, hml, hown, hts⟩ (c_X8_starOfUnion l D cI cL cZ s.heap.size hm am n pos cmp que dsz mad cur stp met bst dgt E N rt ([]) ((x1 + 1) + 1) ((E (x1 + 1)) + 1) tv (by omega) (by omega) (by have h0 := tv.q (show (x1 + 1) + 1 < N by omega); have h1 := tv.q (show (E (x1 + 1)) + 1 < N by omega); omega) hL) (cwV 2 hts gX8_starRule_X8_starOfUnion rfl rfl rfl (by decide +kernel) ⟨Nat.le_of_ble_eq_true rfl, Nat.le_of_ble_eq_true rfl⟩) (mP_V (wc := [(hm, .inr (6, oM am n pos cmp que dsz mad cur stp met bst)), (am 1, .inl (cI, 18, .inl (nA dgt))), (am 20, .inl (cI, 36, .inl (nA rt)))]) (ci := 6) (q0 := 0) hK hP hD [0, 1, 2] (by decide) rfl rfl rfl) rfl rfl hl.1 rfl (lv_room (Nat.le_of_ble_eq_true rfl)) dX8_starRule_316 ⟨Nat.zero_le _, Nat.zero_le _⟩) hP hD hS hA [0, 1, 2] [] rfl rfl (by decide) (by decide) (fun r u H locs hw hP hD hS => ?_)
            obtain ⟨mad2_316, rt2_316⟩ := u
            have hP : va_P D vwCl [(hm, .inr (6, oM am n pos cmp que dsz mad2_316 cur stp met bst)), (am 1, .inl (cI, 18, .inl (nA dgt))), (am 20, .inl (cI, 36, .inl (nA rt2_316)))] H := hP
            have hD : va_D _ [(hm, .inr (6, oM am n pos cmp que dsz mad2_316 cur stp met bst)), (am 1, .inl (cI, 18, .inl (nA dgt))), (am 20, .inl (cI, 36, .inl (nA rt2_316)))] := hD
            try dsimp only at hw
            obtain ⟨hrr, hw316⟩ := hw
            rw [hrr]
            refine lv_if_eq (pc := 319) (tgt := 326) hx hb dX8_starRule_319 (by decide) (fun h => absurd h (by decide)) (fun _ => ?_)
            refine lv_iconst (pc := 322) (v := (nI (1))) hx hb dX8_starRule_322 (by decide) ?_
            refine lv_goto (pc := 323) (tgt := 327) hx hb dX8_starRule_323 (by decide) ?_
            have hU : rS dgt E 14 x1 = some (([]) ++ (8 :: 6 :: (sb dgt E ((x1 + 1) + 1) ++ sb dgt E ((E (x1 + 1)) + 1)))) := by first | (simp [rS, c12, c282, c293, c305]; done) | (exfalso; omega)
            have hP9 : va_P D vwCl [(hm, .inr (6, oM am n pos cmp que dsz mad2_316 cur stp met bst)), (am 1, .inl (cI, 18, .inl (nA dgt))), (am 20, .inl (cI, 36, .inl (nA rt2_316)))] H := hP.sub [0, 1, 2] rfl
            have hD9 : va_D _ [(hm, .inr (6, oM am n pos cmp que dsz mad2_316 cur stp met bst)), (am 1, .inl (cI, 18, .inl (nA dgt))), (am 20, .inl (cI, 36, .inl (nA rt2_316)))] := hD.sub [0, 1, 2] (by decide) rfl
            exact W.zret (pc := 327) (v := (nI (1))) (ty := .boolean) hx hb hr (by decide) (fun t ht hW => ⟨⟨_, (mad2_316, rt2_316), rfl, ⟨(by first | (rw [hU]; done) | (rw [hU]; rfl)), (by rw [hU]; exact hw316)⟩, by rw [ht]; exact hP9, va_K.moved hW.alike hK, hD9⟩, hS.F ht⟩) hS.2.2 dX8_starRule_327
    · refine lv_tableOut (pc := 38) (tgt := 328) hx hb dX8_starRule_38 (by decide) (by decide) ?_
      refine lv_iconst (pc := 328) (v := (nI (0))) hx hb dX8_starRule_328 (by decide) ?_
      have hU : rS dgt E 15 x1 = none := by first | (simp [rS, c12]; done) | (exfalso; omega)
      have hP9 : va_P D vwCl [(hm, .inr (6, oM am n pos cmp que dsz mad cur stp met bst)), (am 1, .inl (cI, 18, .inl (nA dgt))), (am 20, .inl (cI, 36, .inl (nA rt)))] s.heap := hP.sub [0, 1, 2] rfl
      have hD9 : va_D _ [(hm, .inr (6, oM am n pos cmp que dsz mad cur stp met bst)), (am 1, .inl (cI, 18, .inl (nA dgt))), (am 20, .inl (cI, 36, .inl (nA rt)))] := hD.sub [0, 1, 2] (by decide) rfl
      exact W.zret (pc := 329) (v := (nI (0))) (ty := .boolean) hx hb hr (by decide) (fun t ht hW => ⟨⟨_, (mad, rt), rfl, ⟨(by first | (rw [hU]; done) | (rw [hU]; rfl)), (by rw [hU]; exact hL)⟩, by rw [ht]; exact hP9, va_K.moved hW.alike hK, hD9⟩, hS.F ht⟩) hS.2.2 dX8_starRule_329
  · refine lv_aload_n (pc := 15) hx hb dX8_starRule_15 rfl (lv_at hl 1 rfl) ?_
    refine va_get (pc := 16) (D := D) (ci := 6) (v := .ref (am 1)) (C := RX8) (T := TX8) (N := 30) hx hb hts hinX8 hown hK hP 0 rfl rfl 1 (by decide) lk0 (fun _ h9 => h9) rfl dX8_starRule_16 ?_
    refine lv_iload_n (pc := 19) hx hb dX8_starRule_19 rfl (lv_at hl 3 rfl) ?_
    refine xa_iald (pc := 20) hx hb hK hP 1 0 rfl rfl (by omega) (by omega) dX8_starRule_20 ?_
    refine lv_bipush (pc := 21) (v := (nI (7))) hx hb dX8_starRule_21 (by decide) ?_
    refine xn_icmp_ne (pc := 23) (tgt := 34) hx hb (by have h5 := tv.q (show x1 < N by omega); omega) (by omega) dX8_starRule_23 (by decide) (fun c23 => ?_) (fun c23 => ?_)
    · refine lv_iload_n (pc := 34) hx hb dX8_starRule_34 rfl (lv_at hl 3 rfl) ?_
      refine lv_istore (pc := 35) (lv' := [(4, .int (nI x1)), (3, .int (nI (x1 + 1))), (0, .ref hm), (1, .int (nI rl)), (2, .int (nI x1))]) hx hb dX8_starRule_35 hl (by decide) rfl (fun ls hl => ?_)
      refine lv_iload_n (pc := 37) hx hb dX8_starRule_37 rfl (lv_at hl 3 rfl) ?_
      rcases lt16 hrl with rfl | rfl | rfl | rfl | rfl | rfl | rfl | rfl | rfl | rfl | rfl | rfl | rfl | rfl | rfl | rfl
      · refine lv_tableOut (pc := 38) (tgt := 328) hx hb dX8_starRule_38 (by decide) (by decide) ?_
        refine lv_iconst (pc := 328) (v := (nI (0))) hx hb dX8_starRule_328 (by decide) ?_
        have hU : rS dgt E 0 x1 = none := by first | (simp [rS, c12, c23]; done) | (exfalso; omega)
        have hP9 : va_P D vwCl [(hm, .inr (6, oM am n pos cmp que dsz mad cur stp met bst)), (am 1, .inl (cI, 18, .inl (nA dgt))), (am 20, .inl (cI, 36, .inl (nA rt)))] s.heap := hP.sub [0, 1, 2] rfl
        have hD9 : va_D _ [(hm, .inr (6, oM am n pos cmp que dsz mad cur stp met bst)), (am 1, .inl (cI, 18, .inl (nA dgt))), (am 20, .inl (cI, 36, .inl (nA rt)))] := hD.sub [0, 1, 2] (by decide) rfl
        exact W.zret (pc := 329) (v := (nI (0))) (ty := .boolean) hx hb hr (by decide) (fun t ht hW => ⟨⟨_, (mad, rt), rfl, ⟨(by first | (rw [hU]; done) | (rw [hU]; rfl)), (by rw [hU]; exact hL)⟩, by rw [ht]; exact hP9, va_K.moved hW.alike hK, hD9⟩, hS.F ht⟩) hS.2.2 dX8_starRule_329
      · refine lv_tableOut (pc := 38) (tgt := 328) hx hb dX8_starRule_38 (by decide) (by decide) ?_
        refine lv_iconst (pc := 328) (v := (nI (0))) hx hb dX8_starRule_328 (by decide) ?_
        have hU : rS dgt E 1 x1 = none := by first | (simp [rS, c12, c23]; done) | (exfalso; omega)
        have hP9 : va_P D vwCl [(hm, .inr (6, oM am n pos cmp que dsz mad cur stp met bst)), (am 1, .inl (cI, 18, .inl (nA dgt))), (am 20, .inl (cI, 36, .inl (nA rt)))] s.heap := hP.sub [0, 1, 2] rfl
        have hD9 : va_D _ [(hm, .inr (6, oM am n pos cmp que dsz mad cur stp met bst)), (am 1, .inl (cI, 18, .inl (nA dgt))), (am 20, .inl (cI, 36, .inl (nA rt)))] := hD.sub [0, 1, 2] (by decide) rfl
        exact W.zret (pc := 329) (v := (nI (0))) (ty := .boolean) hx hb hr (by decide) (fun t ht hW => ⟨⟨_, (mad, rt), rfl, ⟨(by first | (rw [hU]; done) | (rw [hU]; rfl)), (by rw [hU]; exact hL)⟩, by rw [ht]; exact hP9, va_K.moved hW.alike hK, hD9⟩, hS.F ht⟩) hS.2.2 dX8_starRule_329
      · refine lv_tableOut (pc := 38) (tgt := 328) hx hb dX8_starRule_38 (by decide) (by decide) ?_
        refine lv_iconst (pc := 328) (v := (nI (0))) hx hb dX8_starRule_328 (by decide) ?_
        have hU : rS dgt E 2 x1 = none := by first | (simp [rS, c12, c23]; done) | (exfalso; omega)
        have hP9 : va_P D vwCl [(hm, .inr (6, oM am n pos cmp que dsz mad cur stp met bst)), (am 1, .inl (cI, 18, .inl (nA dgt))), (am 20, .inl (cI, 36, .inl (nA rt)))] s.heap := hP.sub [0, 1, 2] rfl
        have hD9 : va_D _ [(hm, .inr (6, oM am n pos cmp que dsz mad cur stp met bst)), (am 1, .inl (cI, 18, .inl (nA dgt))), (am 20, .inl (cI, 36, .inl (nA rt)))] := hD.sub [0, 1, 2] (by decide) rfl
        exact W.zret (pc := 329) (v := (nI (0))) (ty := .boolean) hx hb hr (by decide) (fun t ht hW => ⟨⟨_, (mad, rt), rfl, ⟨(by first | (rw [hU]; done) | (rw [hU]; rfl)), (by rw [hU]; exact hL)⟩, by rw [ht]; exact hP9, va_K.moved hW.alike hK, hD9⟩, hS.F ht⟩) hS.2.2 dX8_starRule_329
      · refine lv_tableIn (pc := 38) (tgt := 100) (off := 62) hx hb dX8_starRule_38 (by decide) (by decide) (by decide) (by decide) ?_
        refine lv_aload_n (pc := 100) hx hb dX8_starRule_100 rfl (lv_at hl 2 rfl) ?_
        refine va_get (pc := 101) (D := D) (ci := 6) (v := .ref (am 1)) (C := RX8) (T := TX8) (N := 30) hx hb hts hinX8 hown hK hP 0 rfl rfl 1 (by decide) lk0 (fun _ h9 => h9) rfl dX8_starRule_101 ?_
        refine lv_iload_n (pc := 104) hx hb dX8_starRule_104 rfl (lv_at hl 4 rfl) ?_
        refine xa_iald (pc := 105) hx hb hK hP 1 0 rfl rfl (by omega) (by omega) dX8_starRule_105 ?_
        refine lv_iconst (pc := 106) (v := (nI (2))) hx hb dX8_starRule_106 (by decide) ?_
        refine xn_icmp_gt (pc := 107) (tgt := 122) hx hb (by have h5 := tv.q (show x1 < N by omega); omega) (by omega) dX8_starRule_107 (by decide) (fun c107 => ?_) (fun c107 => ?_)
        · refine lv_iconst (pc := 122) (v := (nI (0))) hx hb dX8_starRule_122 (by decide) ?_
          have hU : rS dgt E 3 x1 = none := by first | (simp [rS, c12, c23, c107]; done) | (exfalso; omega)
          have hP9 : va_P D vwCl [(hm, .inr (6, oM am n pos cmp que dsz mad cur stp met bst)), (am 1, .inl (cI, 18, .inl (nA dgt))), (am 20, .inl (cI, 36, .inl (nA rt)))] s.heap := hP.sub [0, 1, 2] rfl
          have hD9 : va_D _ [(hm, .inr (6, oM am n pos cmp que dsz mad cur stp met bst)), (am 1, .inl (cI, 18, .inl (nA dgt))), (am 20, .inl (cI, 36, .inl (nA rt)))] := hD.sub [0, 1, 2] (by decide) rfl
          exact W.zret (pc := 123) (v := (nI (0))) (ty := .boolean) hx hb hr (by decide) (fun t ht hW => ⟨⟨_, (mad, rt), rfl, ⟨(by first | (rw [hU]; done) | (rw [hU]; rfl)), (by rw [hU]; exact hL)⟩, by rw [ht]; exact hP9, va_K.moved hW.alike hK, hD9⟩, hS.F ht⟩) hS.2.2 dX8_starRule_123
        · refine lv_aload_n (pc := 110) hx hb dX8_starRule_110 rfl (lv_at hl 2 rfl) ?_
          refine lv_iconst (pc := 111) (v := (nI (2))) hx hb dX8_starRule_111 (by decide) ?_
          refine xm_calli (pc := 112) (wc := [(hm, .inr (6, oM am n pos cmp que dsz mad cur stp met bst)), (am 20, .inl (cI, 36, .inl (nA rt)))]) (wr := [(am 1, .inl (cI, 18, .inl (nA dgt)))]) (va_runV (As := [.int (nI 2)]) (rest := []) ⟨hx, hb, hml, hown, hts⟩ (c_X8_emits l D cI cL cZ s.heap.size hm am n pos cmp que dsz mad cur stp met bst rt ([]) 2 (by omega) hL) (cwV 1 hts gX8_starRule_X8_emits rfl rfl rfl (by decide +kernel) ⟨Nat.le_of_ble_eq_true rfl, Nat.le_of_ble_eq_true rfl⟩) (mP_V (wc := [(hm, .inr (6, oM am n pos cmp que dsz mad cur stp met bst)), (am 20, .inl (cI, 36, .inl (nA rt)))]) (ci := 6) (q0 := 0) hK hP hD [0, 2] (by decide) rfl rfl rfl) rfl rfl hl.1 rfl (lv_room (Nat.le_of_ble_eq_true rfl)) dX8_starRule_112 ⟨Nat.zero_le _, Nat.zero_le _⟩) hP hD hS hA [0, 2] [1] rfl rfl (by decide) (by decide) (fun r u H locs hw hP hD hS => ?_)
          obtain ⟨mad2_112, rt2_112⟩ := u
          have hP : va_P D vwCl [(am 1, .inl (cI, 18, .inl (nA dgt))), (hm, .inr (6, oM am n pos cmp que dsz mad2_112 cur stp met bst)), (am 20, .inl (cI, 36, .inl (nA rt2_112)))] H := hP
          have hD : va_D _ [(am 1, .inl (cI, 18, .inl (nA dgt))), (hm, .inr (6, oM am n pos cmp que dsz mad2_112 cur stp met bst)), (am 20, .inl (cI, 36, .inl (nA rt2_112)))] := hD
          try dsimp only at hw
          obtain ⟨hrr, hw112⟩ := hw
          rw [hrr]
          refine lv_if_eq (pc := 115) (tgt := 122) hx hb dX8_starRule_115 (by decide) (fun h => absurd h (by decide)) (fun _ => ?_)
          refine lv_iconst (pc := 118) (v := (nI (1))) hx hb dX8_starRule_118 (by decide) ?_
          refine lv_goto (pc := 119) (tgt := 123) hx hb dX8_starRule_119 (by decide) ?_
          have hU : rS dgt E 3 x1 = some (([]) ++ [2]) := by first | (simp [rS, c12, c23, c107]; done) | (exfalso; omega)
          have hP9 : va_P D vwCl [(hm, .inr (6, oM am n pos cmp que dsz mad2_112 cur stp met bst)), (am 1, .inl (cI, 18, .inl (nA dgt))), (am 20, .inl (cI, 36, .inl (nA rt2_112)))] H := hP.sub [1, 0, 2] rfl
          have hD9 : va_D _ [(hm, .inr (6, oM am n pos cmp que dsz mad2_112 cur stp met bst)), (am 1, .inl (cI, 18, .inl (nA dgt))), (am 20, .inl (cI, 36, .inl (nA rt2_112)))] := hD.sub [1, 0, 2] (by decide) rfl
          exact W.zret (pc := 123) (v := (nI (1))) (ty := .boolean) hx hb hr (by decide) (fun t ht hW => ⟨⟨_, (mad2_112, rt2_112), rfl, ⟨(by first | (rw [hU]; done) | (rw [hU]; rfl)), (by rw [hU]; exact hw112)⟩, by rw [ht]; exact hP9, va_K.moved hW.alike hK, hD9⟩, hS.F ht⟩) hS.2.2 dX8_starRule_123
      · refine lv_tableIn (pc := 38) (tgt := 328) (off := 290) hx hb dX8_starRule_38 (by decide) (by decide) (by decide) (by decide) ?_
        refine lv_iconst (pc := 328) (v := (nI (0))) hx hb dX8_starRule_328 (by decide) ?_
        have hU : rS dgt E 4 x1 = none := by first | (simp [rS, c12, c23]; done) | (exfalso; omega)
        have hP9 : va_P D vwCl [(hm, .inr (6, oM am n pos cmp que dsz mad cur stp met bst)), (am 1, .inl (cI, 18, .inl (nA dgt))), (am 20, .inl (cI, 36, .inl (nA rt)))] s.heap := hP.sub [0, 1, 2] rfl
        have hD9 : va_D _ [(hm, .inr (6, oM am n pos cmp que dsz mad cur stp met bst)), (am 1, .inl (cI, 18, .inl (nA dgt))), (am 20, .inl (cI, 36, .inl (nA rt)))] := hD.sub [0, 1, 2] (by decide) rfl
        exact W.zret (pc := 329) (v := (nI (0))) (ty := .boolean) hx hb hr (by decide) (fun t ht hW => ⟨⟨_, (mad, rt), rfl, ⟨(by first | (rw [hU]; done) | (rw [hU]; rfl)), (by rw [hU]; exact hL)⟩, by rw [ht]; exact hP9, va_K.moved hW.alike hK, hD9⟩, hS.F ht⟩) hS.2.2 dX8_starRule_329
      · refine lv_tableIn (pc := 38) (tgt := 124) (off := 86) hx hb dX8_starRule_38 (by decide) (by decide) (by decide) (by decide) ?_
        refine lv_aload_n (pc := 124) hx hb dX8_starRule_124 rfl (lv_at hl 2 rfl) ?_
        refine va_get (pc := 125) (D := D) (ci := 6) (v := .ref (am 1)) (C := RX8) (T := TX8) (N := 30) hx hb hts hinX8 hown hK hP 0 rfl rfl 1 (by decide) lk0 (fun _ h9 => h9) rfl dX8_starRule_125 ?_
        refine lv_iload_n (pc := 128) hx hb dX8_starRule_128 rfl (lv_at hl 4 rfl) ?_
        refine xa_iald (pc := 129) hx hb hK hP 1 0 rfl rfl (by omega) (by omega) dX8_starRule_129 ?_
        refine lv_bipush (pc := 130) (v := (nI (8))) hx hb dX8_starRule_130 (by decide) ?_
        refine xn_icmp_ne (pc := 132) (tgt := 147) hx hb (by have h5 := tv.q (show x1 < N by omega); omega) (by omega) dX8_starRule_132 (by decide) (fun c132 => ?_) (fun c132 => ?_)
        · refine lv_iconst (pc := 147) (v := (nI (0))) hx hb dX8_starRule_147 (by decide) ?_
          have hU : rS dgt E 5 x1 = none := by first | (simp [rS, c12, c23, c132]; done) | (exfalso; omega)
          have hP9 : va_P D vwCl [(hm, .inr (6, oM am n pos cmp que dsz mad cur stp met bst)), (am 1, .inl (cI, 18, .inl (nA dgt))), (am 20, .inl (cI, 36, .inl (nA rt)))] s.heap := hP.sub [0, 1, 2] rfl
          have hD9 : va_D _ [(hm, .inr (6, oM am n pos cmp que dsz mad cur stp met bst)), (am 1, .inl (cI, 18, .inl (nA dgt))), (am 20, .inl (cI, 36, .inl (nA rt)))] := hD.sub [0, 1, 2] (by decide) rfl
          exact W.zret (pc := 148) (v := (nI (0))) (ty := .boolean) hx hb hr (by decide) (fun t ht hW => ⟨⟨_, (mad, rt), rfl, ⟨(by first | (rw [hU]; done) | (rw [hU]; rfl)), (by rw [hU]; exact hL)⟩, by rw [ht]; exact hP9, va_K.moved hW.alike hK, hD9⟩, hS.F ht⟩) hS.2.2 dX8_starRule_148
        · refine lv_aload_n (pc := 135) hx hb dX8_starRule_135 rfl (lv_at hl 2 rfl) ?_
          refine lv_iload_n (pc := 136) hx hb dX8_starRule_136 rfl (lv_at hl 4 rfl) ?_
          refine xm_calli (pc := 137) (wc := [(hm, .inr (6, oM am n pos cmp que dsz mad cur stp met bst)), (am 1, .inl (cI, 18, .inl (nA dgt))), (am 20, .inl (cI, 36, .inl (nA rt)))]) (wr := []) (va_runV (As := [.int (nI x1)]) (rest := []) ⟨hx, hb, hml, hown, hts⟩ (c_X8_copies l D cI cL cZ s.heap.size hm am n pos cmp que dsz mad cur stp met bst dgt E N rt ([]) x1 tv (by omega) (by have h0 := tv.q (show x1 < N by omega); omega) hL) (cwV 1 hts gX8_starRule_X8_copies rfl rfl rfl (by decide +kernel) ⟨Nat.le_of_ble_eq_true rfl, Nat.le_of_ble_eq_true rfl⟩) (mP_V (wc := [(hm, .inr (6, oM am n pos cmp que dsz mad cur stp met bst)), (am 1, .inl (cI, 18, .inl (nA dgt))), (am 20, .inl (cI, 36, .inl (nA rt)))]) (ci := 6) (q0 := 0) hK hP hD [0, 1, 2] (by decide) rfl rfl rfl) rfl rfl hl.1 rfl (lv_room (Nat.le_of_ble_eq_true rfl)) dX8_starRule_137 ⟨Nat.zero_le _, Nat.zero_le _⟩) hP hD hS hA [0, 1, 2] [] rfl rfl (by decide) (by decide) (fun r u H locs hw hP hD hS => ?_)
          obtain ⟨mad2_137, rt2_137⟩ := u
          have hP : va_P D vwCl [(hm, .inr (6, oM am n pos cmp que dsz mad2_137 cur stp met bst)), (am 1, .inl (cI, 18, .inl (nA dgt))), (am 20, .inl (cI, 36, .inl (nA rt2_137)))] H := hP
          have hD : va_D _ [(hm, .inr (6, oM am n pos cmp que dsz mad2_137 cur stp met bst)), (am 1, .inl (cI, 18, .inl (nA dgt))), (am 20, .inl (cI, 36, .inl (nA rt2_137)))] := hD
          try dsimp only at hw
          obtain ⟨hrr, hw137⟩ := hw
          rw [hrr]
          refine lv_if_eq (pc := 140) (tgt := 147) hx hb dX8_starRule_140 (by decide) (fun h => absurd h (by decide)) (fun _ => ?_)
          refine lv_iconst (pc := 143) (v := (nI (1))) hx hb dX8_starRule_143 (by decide) ?_
          refine lv_goto (pc := 144) (tgt := 148) hx hb dX8_starRule_144 (by decide) ?_
          have hU : rS dgt E 5 x1 = some (([]) ++ sb dgt E x1) := by first | (simp [rS, c12, c23, c132]; done) | (exfalso; omega)
          have hP9 : va_P D vwCl [(hm, .inr (6, oM am n pos cmp que dsz mad2_137 cur stp met bst)), (am 1, .inl (cI, 18, .inl (nA dgt))), (am 20, .inl (cI, 36, .inl (nA rt2_137)))] H := hP.sub [0, 1, 2] rfl
          have hD9 : va_D _ [(hm, .inr (6, oM am n pos cmp que dsz mad2_137 cur stp met bst)), (am 1, .inl (cI, 18, .inl (nA dgt))), (am 20, .inl (cI, 36, .inl (nA rt2_137)))] := hD.sub [0, 1, 2] (by decide) rfl
          exact W.zret (pc := 148) (v := (nI (1))) (ty := .boolean) hx hb hr (by decide) (fun t ht hW => ⟨⟨_, (mad2_137, rt2_137), rfl, ⟨(by first | (rw [hU]; done) | (rw [hU]; rfl)), (by rw [hU]; exact hw137)⟩, by rw [ht]; exact hP9, va_K.moved hW.alike hK, hD9⟩, hS.F ht⟩) hS.2.2 dX8_starRule_148
      · refine lv_tableIn (pc := 38) (tgt := 149) (off := 111) hx hb dX8_starRule_38 (by decide) (by decide) (by decide) (by decide) ?_
        refine lv_aload_n (pc := 149) hx hb dX8_starRule_149 rfl (lv_at hl 2 rfl) ?_
        refine va_get (pc := 150) (D := D) (ci := 6) (v := .ref (am 1)) (C := RX8) (T := TX8) (N := 30) hx hb hts hinX8 hown hK hP 0 rfl rfl 1 (by decide) lk0 (fun _ h9 => h9) rfl dX8_starRule_150 ?_
        refine lv_iload_n (pc := 153) hx hb dX8_starRule_153 rfl (lv_at hl 4 rfl) ?_
        refine xa_iald (pc := 154) hx hb hK hP 1 0 rfl rfl (by omega) (by omega) dX8_starRule_154 ?_
        refine lv_bipush (pc := 155) (v := (nI (6))) hx hb dX8_starRule_155 (by decide) ?_
        refine xn_icmp_ne (pc := 157) (tgt := 205) hx hb (by have h5 := tv.q (show x1 < N by omega); omega) (by omega) dX8_starRule_157 (by decide) (fun _ => ?_) (fun h => absurd h c12)
        refine lv_iconst (pc := 205) (v := (nI (0))) hx hb dX8_starRule_205 (by decide) ?_
        have hU : rS dgt E 6 x1 = none := by first | (simp [rS, c12, c23]; done) | (exfalso; omega)
        have hP9 : va_P D vwCl [(hm, .inr (6, oM am n pos cmp que dsz mad cur stp met bst)), (am 1, .inl (cI, 18, .inl (nA dgt))), (am 20, .inl (cI, 36, .inl (nA rt)))] s.heap := hP.sub [0, 1, 2] rfl
        have hD9 : va_D _ [(hm, .inr (6, oM am n pos cmp que dsz mad cur stp met bst)), (am 1, .inl (cI, 18, .inl (nA dgt))), (am 20, .inl (cI, 36, .inl (nA rt)))] := hD.sub [0, 1, 2] (by decide) rfl
        exact W.zret (pc := 206) (v := (nI (0))) (ty := .boolean) hx hb hr (by decide) (fun t ht hW => ⟨⟨_, (mad, rt), rfl, ⟨(by first | (rw [hU]; done) | (rw [hU]; rfl)), (by rw [hU]; exact hL)⟩, by rw [ht]; exact hP9, va_K.moved hW.alike hK, hD9⟩, hS.F ht⟩) hS.2.2 dX8_starRule_206
      · refine lv_tableIn (pc := 38) (tgt := 328) (off := 290) hx hb dX8_starRule_38 (by decide) (by decide) (by decide) (by decide) ?_
        refine lv_iconst (pc := 328) (v := (nI (0))) hx hb dX8_starRule_328 (by decide) ?_
        have hU : rS dgt E 7 x1 = none := by first | (simp [rS, c12, c23]; done) | (exfalso; omega)
        have hP9 : va_P D vwCl [(hm, .inr (6, oM am n pos cmp que dsz mad cur stp met bst)), (am 1, .inl (cI, 18, .inl (nA dgt))), (am 20, .inl (cI, 36, .inl (nA rt)))] s.heap := hP.sub [0, 1, 2] rfl
        have hD9 : va_D _ [(hm, .inr (6, oM am n pos cmp que dsz mad cur stp met bst)), (am 1, .inl (cI, 18, .inl (nA dgt))), (am 20, .inl (cI, 36, .inl (nA rt)))] := hD.sub [0, 1, 2] (by decide) rfl
        exact W.zret (pc := 329) (v := (nI (0))) (ty := .boolean) hx hb hr (by decide) (fun t ht hW => ⟨⟨_, (mad, rt), rfl, ⟨(by first | (rw [hU]; done) | (rw [hU]; rfl)), (by rw [hU]; exact hL)⟩, by rw [ht]; exact hP9, va_K.moved hW.alike hK, hD9⟩, hS.F ht⟩) hS.2.2 dX8_starRule_329
      · refine lv_tableIn (pc := 38) (tgt := 328) (off := 290) hx hb dX8_starRule_38 (by decide) (by decide) (by decide) (by decide) ?_
        refine lv_iconst (pc := 328) (v := (nI (0))) hx hb dX8_starRule_328 (by decide) ?_
        have hU : rS dgt E 8 x1 = none := by first | (simp [rS, c12, c23]; done) | (exfalso; omega)
        have hP9 : va_P D vwCl [(hm, .inr (6, oM am n pos cmp que dsz mad cur stp met bst)), (am 1, .inl (cI, 18, .inl (nA dgt))), (am 20, .inl (cI, 36, .inl (nA rt)))] s.heap := hP.sub [0, 1, 2] rfl
        have hD9 : va_D _ [(hm, .inr (6, oM am n pos cmp que dsz mad cur stp met bst)), (am 1, .inl (cI, 18, .inl (nA dgt))), (am 20, .inl (cI, 36, .inl (nA rt)))] := hD.sub [0, 1, 2] (by decide) rfl
        exact W.zret (pc := 329) (v := (nI (0))) (ty := .boolean) hx hb hr (by decide) (fun t ht hW => ⟨⟨_, (mad, rt), rfl, ⟨(by first | (rw [hU]; done) | (rw [hU]; rfl)), (by rw [hU]; exact hL)⟩, by rw [ht]; exact hP9, va_K.moved hW.alike hK, hD9⟩, hS.F ht⟩) hS.2.2 dX8_starRule_329
      · refine lv_tableIn (pc := 38) (tgt := 328) (off := 290) hx hb dX8_starRule_38 (by decide) (by decide) (by decide) (by decide) ?_
        refine lv_iconst (pc := 328) (v := (nI (0))) hx hb dX8_starRule_328 (by decide) ?_
        have hU : rS dgt E 9 x1 = none := by first | (simp [rS, c12, c23]; done) | (exfalso; omega)
        have hP9 : va_P D vwCl [(hm, .inr (6, oM am n pos cmp que dsz mad cur stp met bst)), (am 1, .inl (cI, 18, .inl (nA dgt))), (am 20, .inl (cI, 36, .inl (nA rt)))] s.heap := hP.sub [0, 1, 2] rfl
        have hD9 : va_D _ [(hm, .inr (6, oM am n pos cmp que dsz mad cur stp met bst)), (am 1, .inl (cI, 18, .inl (nA dgt))), (am 20, .inl (cI, 36, .inl (nA rt)))] := hD.sub [0, 1, 2] (by decide) rfl
        exact W.zret (pc := 329) (v := (nI (0))) (ty := .boolean) hx hb hr (by decide) (fun t ht hW => ⟨⟨_, (mad, rt), rfl, ⟨(by first | (rw [hU]; done) | (rw [hU]; rfl)), (by rw [hU]; exact hL)⟩, by rw [ht]; exact hP9, va_K.moved hW.alike hK, hD9⟩, hS.F ht⟩) hS.2.2 dX8_starRule_329
      · refine lv_tableIn (pc := 38) (tgt := 328) (off := 290) hx hb dX8_starRule_38 (by decide) (by decide) (by decide) (by decide) ?_
        refine lv_iconst (pc := 328) (v := (nI (0))) hx hb dX8_starRule_328 (by decide) ?_
        have hU : rS dgt E 10 x1 = none := by first | (simp [rS, c12, c23]; done) | (exfalso; omega)
        have hP9 : va_P D vwCl [(hm, .inr (6, oM am n pos cmp que dsz mad cur stp met bst)), (am 1, .inl (cI, 18, .inl (nA dgt))), (am 20, .inl (cI, 36, .inl (nA rt)))] s.heap := hP.sub [0, 1, 2] rfl
        have hD9 : va_D _ [(hm, .inr (6, oM am n pos cmp que dsz mad cur stp met bst)), (am 1, .inl (cI, 18, .inl (nA dgt))), (am 20, .inl (cI, 36, .inl (nA rt)))] := hD.sub [0, 1, 2] (by decide) rfl
        exact W.zret (pc := 329) (v := (nI (0))) (ty := .boolean) hx hb hr (by decide) (fun t ht hW => ⟨⟨_, (mad, rt), rfl, ⟨(by first | (rw [hU]; done) | (rw [hU]; rfl)), (by rw [hU]; exact hL)⟩, by rw [ht]; exact hP9, va_K.moved hW.alike hK, hD9⟩, hS.F ht⟩) hS.2.2 dX8_starRule_329
      · refine lv_tableIn (pc := 38) (tgt := 328) (off := 290) hx hb dX8_starRule_38 (by decide) (by decide) (by decide) (by decide) ?_
        refine lv_iconst (pc := 328) (v := (nI (0))) hx hb dX8_starRule_328 (by decide) ?_
        have hU : rS dgt E 11 x1 = none := by first | (simp [rS, c12, c23]; done) | (exfalso; omega)
        have hP9 : va_P D vwCl [(hm, .inr (6, oM am n pos cmp que dsz mad cur stp met bst)), (am 1, .inl (cI, 18, .inl (nA dgt))), (am 20, .inl (cI, 36, .inl (nA rt)))] s.heap := hP.sub [0, 1, 2] rfl
        have hD9 : va_D _ [(hm, .inr (6, oM am n pos cmp que dsz mad cur stp met bst)), (am 1, .inl (cI, 18, .inl (nA dgt))), (am 20, .inl (cI, 36, .inl (nA rt)))] := hD.sub [0, 1, 2] (by decide) rfl
        exact W.zret (pc := 329) (v := (nI (0))) (ty := .boolean) hx hb hr (by decide) (fun t ht hW => ⟨⟨_, (mad, rt), rfl, ⟨(by first | (rw [hU]; done) | (rw [hU]; rfl)), (by rw [hU]; exact hL)⟩, by rw [ht]; exact hP9, va_K.moved hW.alike hK, hD9⟩, hS.F ht⟩) hS.2.2 dX8_starRule_329
      · refine lv_tableIn (pc := 38) (tgt := 328) (off := 290) hx hb dX8_starRule_38 (by decide) (by decide) (by decide) (by decide) ?_
        refine lv_iconst (pc := 328) (v := (nI (0))) hx hb dX8_starRule_328 (by decide) ?_
        have hU : rS dgt E 12 x1 = none := by first | (simp [rS, c12, c23]; done) | (exfalso; omega)
        have hP9 : va_P D vwCl [(hm, .inr (6, oM am n pos cmp que dsz mad cur stp met bst)), (am 1, .inl (cI, 18, .inl (nA dgt))), (am 20, .inl (cI, 36, .inl (nA rt)))] s.heap := hP.sub [0, 1, 2] rfl
        have hD9 : va_D _ [(hm, .inr (6, oM am n pos cmp que dsz mad cur stp met bst)), (am 1, .inl (cI, 18, .inl (nA dgt))), (am 20, .inl (cI, 36, .inl (nA rt)))] := hD.sub [0, 1, 2] (by decide) rfl
        exact W.zret (pc := 329) (v := (nI (0))) (ty := .boolean) hx hb hr (by decide) (fun t ht hW => ⟨⟨_, (mad, rt), rfl, ⟨(by first | (rw [hU]; done) | (rw [hU]; rfl)), (by rw [hU]; exact hL)⟩, by rw [ht]; exact hP9, va_K.moved hW.alike hK, hD9⟩, hS.F ht⟩) hS.2.2 dX8_starRule_329
      · refine lv_tableIn (pc := 38) (tgt := 207) (off := 169) hx hb dX8_starRule_38 (by decide) (by decide) (by decide) (by decide) ?_
        refine lv_aload_n (pc := 207) hx hb dX8_starRule_207 rfl (lv_at hl 2 rfl) ?_
        refine va_get (pc := 208) (D := D) (ci := 6) (v := .ref (am 1)) (C := RX8) (T := TX8) (N := 30) hx hb hts hinX8 hown hK hP 0 rfl rfl 1 (by decide) lk0 (fun _ h9 => h9) rfl dX8_starRule_208 ?_
        refine lv_iload_n (pc := 211) hx hb dX8_starRule_211 rfl (lv_at hl 4 rfl) ?_
        refine xa_iald (pc := 212) hx hb hK hP 1 0 rfl rfl (by omega) (by omega) dX8_starRule_212 ?_
        refine lv_bipush (pc := 213) (v := (nI (6))) hx hb dX8_starRule_213 (by decide) ?_
        refine xn_icmp_ne (pc := 215) (tgt := 272) hx hb (by have h5 := tv.q (show x1 < N by omega); omega) (by omega) dX8_starRule_215 (by decide) (fun _ => ?_) (fun h => absurd h c12)
        refine lv_iconst (pc := 272) (v := (nI (0))) hx hb dX8_starRule_272 (by decide) ?_
        have hU : rS dgt E 13 x1 = none := by first | (simp [rS, c12, c23]; done) | (exfalso; omega)
        have hP9 : va_P D vwCl [(hm, .inr (6, oM am n pos cmp que dsz mad cur stp met bst)), (am 1, .inl (cI, 18, .inl (nA dgt))), (am 20, .inl (cI, 36, .inl (nA rt)))] s.heap := hP.sub [0, 1, 2] rfl
        have hD9 : va_D _ [(hm, .inr (6, oM am n pos cmp que dsz mad cur stp met bst)), (am 1, .inl (cI, 18, .inl (nA dgt))), (am 20, .inl (cI, 36, .inl (nA rt)))] := hD.sub [0, 1, 2] (by decide) rfl
        exact W.zret (pc := 273) (v := (nI (0))) (ty := .boolean) hx hb hr (by decide) (fun t ht hW => ⟨⟨_, (mad, rt), rfl, ⟨(by first | (rw [hU]; done) | (rw [hU]; rfl)), (by rw [hU]; exact hL)⟩, by rw [ht]; exact hP9, va_K.moved hW.alike hK, hD9⟩, hS.F ht⟩) hS.2.2 dX8_starRule_273
      · refine lv_tableIn (pc := 38) (tgt := 274) (off := 236) hx hb dX8_starRule_38 (by decide) (by decide) (by decide) (by decide) ?_
        refine lv_aload_n (pc := 274) hx hb dX8_starRule_274 rfl (lv_at hl 2 rfl) ?_
        refine va_get (pc := 275) (D := D) (ci := 6) (v := .ref (am 1)) (C := RX8) (T := TX8) (N := 30) hx hb hts hinX8 hown hK hP 0 rfl rfl 1 (by decide) lk0 (fun _ h9 => h9) rfl dX8_starRule_275 ?_
        refine lv_iload_n (pc := 278) hx hb dX8_starRule_278 rfl (lv_at hl 4 rfl) ?_
        refine xa_iald (pc := 279) hx hb hK hP 1 0 rfl rfl (by omega) (by omega) dX8_starRule_279 ?_
        refine lv_bipush (pc := 280) (v := (nI (7))) hx hb dX8_starRule_280 (by decide) ?_
        refine xn_icmp_ne (pc := 282) (tgt := 326) hx hb (by have h5 := tv.q (show x1 < N by omega); omega) (by omega) dX8_starRule_282 (by decide) (fun _ => ?_) (fun h => absurd h c23)
        refine lv_iconst (pc := 326) (v := (nI (0))) hx hb dX8_starRule_326 (by decide) ?_
        have hU : rS dgt E 14 x1 = none := by first | (simp [rS, c12, c23]; done) | (exfalso; omega)
        have hP9 : va_P D vwCl [(hm, .inr (6, oM am n pos cmp que dsz mad cur stp met bst)), (am 1, .inl (cI, 18, .inl (nA dgt))), (am 20, .inl (cI, 36, .inl (nA rt)))] s.heap := hP.sub [0, 1, 2] rfl
        have hD9 : va_D _ [(hm, .inr (6, oM am n pos cmp que dsz mad cur stp met bst)), (am 1, .inl (cI, 18, .inl (nA dgt))), (am 20, .inl (cI, 36, .inl (nA rt)))] := hD.sub [0, 1, 2] (by decide) rfl
        exact W.zret (pc := 327) (v := (nI (0))) (ty := .boolean) hx hb hr (by decide) (fun t ht hW => ⟨⟨_, (mad, rt), rfl, ⟨(by first | (rw [hU]; done) | (rw [hU]; rfl)), (by rw [hU]; exact hL)⟩, by rw [ht]; exact hP9, va_K.moved hW.alike hK, hD9⟩, hS.F ht⟩) hS.2.2 dX8_starRule_327
      · refine lv_tableOut (pc := 38) (tgt := 328) hx hb dX8_starRule_38 (by decide) (by decide) ?_
        refine lv_iconst (pc := 328) (v := (nI (0))) hx hb dX8_starRule_328 (by decide) ?_
        have hU : rS dgt E 15 x1 = none := by first | (simp [rS, c12, c23]; done) | (exfalso; omega)
        have hP9 : va_P D vwCl [(hm, .inr (6, oM am n pos cmp que dsz mad cur stp met bst)), (am 1, .inl (cI, 18, .inl (nA dgt))), (am 20, .inl (cI, 36, .inl (nA rt)))] s.heap := hP.sub [0, 1, 2] rfl
        have hD9 : va_D _ [(hm, .inr (6, oM am n pos cmp que dsz mad cur stp met bst)), (am 1, .inl (cI, 18, .inl (nA dgt))), (am 20, .inl (cI, 36, .inl (nA rt)))] := hD.sub [0, 1, 2] (by decide) rfl
        exact W.zret (pc := 329) (v := (nI (0))) (ty := .boolean) hx hb hr (by decide) (fun t ht hW => ⟨⟨_, (mad, rt), rfl, ⟨(by first | (rw [hU]; done) | (rw [hU]; rfl)), (by rw [hU]; exact hL)⟩, by rw [ht]; exact hP9, va_K.moved hW.alike hK, hD9⟩, hS.F ht⟩) hS.2.2 dX8_starRule_329
    · have ht := tv.two hx1 (by omega)
      refine lv_aload_n (pc := 26) hx hb dX8_starRule_26 rfl (lv_at hl 1 rfl) ?_
      refine lv_iload_n (pc := 27) hx hb dX8_starRule_27 rfl (lv_at hl 0 rfl) ?_
      refine vp_callSi (pc := 28) (W.runV (As := [.int (nI (x1 + 1))]) (rest := []) ⟨hx, hb, hml, hown, hts⟩ (c_X8_endOf l D cI cL cZ hm am n pos cmp que dsz mad cur stp met bst dgt E N (x1 + 1) tv (by omega)) (cwV 1 hts gX8_starRule_X8_endOf rfl rfl rfl (by decide +kernel) ⟨Nat.le_of_ble_eq_true rfl, Nat.le_of_ble_eq_true rfl⟩) (rP_V (wc := [(hm, .inr (6, oM am n pos cmp que dsz mad cur stp met bst)), (am 1, .inl (cI, 18, .inl (nA dgt)))]) (ci := 6) (q0 := 0) hK hP [0, 1] rfl rfl rfl) rfl rfl hl.1 rfl (lv_room (Nat.le_of_ble_eq_true rfl)) dX8_starRule_28 ⟨Nat.zero_le _, Nat.zero_le _⟩) (fun r hrr => ?_)
      rw [hrr]
      refine lv_goto (pc := 31) (tgt := 35) hx hb dX8_starRule_31 (by decide) ?_
      refine lv_istore (pc := 35) (lv' := [(4, .int (nI (E (x1 + 1)))), (3, .int (nI (x1 + 1))), (0, .ref hm), (1, .int (nI rl)), (2, .int (nI x1))]) hx hb dX8_starRule_35 hl (by decide) rfl (fun ls hl => ?_)
      refine lv_iload_n (pc := 37) hx hb dX8_starRule_37 rfl (lv_at hl 3 rfl) ?_
      rcases lt16 hrl with rfl | rfl | rfl | rfl | rfl | rfl | rfl | rfl | rfl | rfl | rfl | rfl | rfl | rfl | rfl | rfl
      · refine lv_tableOut (pc := 38) (tgt := 328) hx hb dX8_starRule_38 (by decide) (by decide) ?_
        refine lv_iconst (pc := 328) (v := (nI (0))) hx hb dX8_starRule_328 (by decide) ?_
        have hU : rS dgt E 0 x1 = none := by first | (simp [rS, c12, c23]; done) | (exfalso; omega)
        have hP9 : va_P D vwCl [(hm, .inr (6, oM am n pos cmp que dsz mad cur stp met bst)), (am 1, .inl (cI, 18, .inl (nA dgt))), (am 20, .inl (cI, 36, .inl (nA rt)))] s.heap := hP.sub [0, 1, 2] rfl
        have hD9 : va_D _ [(hm, .inr (6, oM am n pos cmp que dsz mad cur stp met bst)), (am 1, .inl (cI, 18, .inl (nA dgt))), (am 20, .inl (cI, 36, .inl (nA rt)))] := hD.sub [0, 1, 2] (by decide) rfl
        exact W.zret (pc := 329) (v := (nI (0))) (ty := .boolean) hx hb hr (by decide) (fun t ht hW => ⟨⟨_, (mad, rt), rfl, ⟨(by first | (rw [hU]; done) | (rw [hU]; rfl)), (by rw [hU]; exact hL)⟩, by rw [ht]; exact hP9, va_K.moved hW.alike hK, hD9⟩, hS.F ht⟩) hS.2.2 dX8_starRule_329
      · refine lv_tableOut (pc := 38) (tgt := 328) hx hb dX8_starRule_38 (by decide) (by decide) ?_
        refine lv_iconst (pc := 328) (v := (nI (0))) hx hb dX8_starRule_328 (by decide) ?_
        have hU : rS dgt E 1 x1 = none := by first | (simp [rS, c12, c23]; done) | (exfalso; omega)
        have hP9 : va_P D vwCl [(hm, .inr (6, oM am n pos cmp que dsz mad cur stp met bst)), (am 1, .inl (cI, 18, .inl (nA dgt))), (am 20, .inl (cI, 36, .inl (nA rt)))] s.heap := hP.sub [0, 1, 2] rfl
        have hD9 : va_D _ [(hm, .inr (6, oM am n pos cmp que dsz mad cur stp met bst)), (am 1, .inl (cI, 18, .inl (nA dgt))), (am 20, .inl (cI, 36, .inl (nA rt)))] := hD.sub [0, 1, 2] (by decide) rfl
        exact W.zret (pc := 329) (v := (nI (0))) (ty := .boolean) hx hb hr (by decide) (fun t ht hW => ⟨⟨_, (mad, rt), rfl, ⟨(by first | (rw [hU]; done) | (rw [hU]; rfl)), (by rw [hU]; exact hL)⟩, by rw [ht]; exact hP9, va_K.moved hW.alike hK, hD9⟩, hS.F ht⟩) hS.2.2 dX8_starRule_329
      · refine lv_tableOut (pc := 38) (tgt := 328) hx hb dX8_starRule_38 (by decide) (by decide) ?_
        refine lv_iconst (pc := 328) (v := (nI (0))) hx hb dX8_starRule_328 (by decide) ?_
        have hU : rS dgt E 2 x1 = none := by first | (simp [rS, c12, c23]; done) | (exfalso; omega)
        have hP9 : va_P D vwCl [(hm, .inr (6, oM am n pos cmp que dsz mad cur stp met bst)), (am 1, .inl (cI, 18, .inl (nA dgt))), (am 20, .inl (cI, 36, .inl (nA rt)))] s.heap := hP.sub [0, 1, 2] rfl
        have hD9 : va_D _ [(hm, .inr (6, oM am n pos cmp que dsz mad cur stp met bst)), (am 1, .inl (cI, 18, .inl (nA dgt))), (am 20, .inl (cI, 36, .inl (nA rt)))] := hD.sub [0, 1, 2] (by decide) rfl
        exact W.zret (pc := 329) (v := (nI (0))) (ty := .boolean) hx hb hr (by decide) (fun t ht hW => ⟨⟨_, (mad, rt), rfl, ⟨(by first | (rw [hU]; done) | (rw [hU]; rfl)), (by rw [hU]; exact hL)⟩, by rw [ht]; exact hP9, va_K.moved hW.alike hK, hD9⟩, hS.F ht⟩) hS.2.2 dX8_starRule_329
      · refine lv_tableIn (pc := 38) (tgt := 100) (off := 62) hx hb dX8_starRule_38 (by decide) (by decide) (by decide) (by decide) ?_
        refine lv_aload_n (pc := 100) hx hb dX8_starRule_100 rfl (lv_at hl 2 rfl) ?_
        refine va_get (pc := 101) (D := D) (ci := 6) (v := .ref (am 1)) (C := RX8) (T := TX8) (N := 30) hx hb hts hinX8 hown hK hP 0 rfl rfl 1 (by decide) lk0 (fun _ h9 => h9) rfl dX8_starRule_101 ?_
        refine lv_iload_n (pc := 104) hx hb dX8_starRule_104 rfl (lv_at hl 4 rfl) ?_
        refine xa_iald (pc := 105) hx hb hK hP 1 0 rfl rfl (by omega) (by omega) dX8_starRule_105 ?_
        refine lv_iconst (pc := 106) (v := (nI (2))) hx hb dX8_starRule_106 (by decide) ?_
        refine xn_icmp_gt (pc := 107) (tgt := 122) hx hb (by have h5 := tv.q (show x1 < N by omega); omega) (by omega) dX8_starRule_107 (by decide) (fun c107 => ?_) (fun c107 => ?_)
        · refine lv_iconst (pc := 122) (v := (nI (0))) hx hb dX8_starRule_122 (by decide) ?_
          have hU : rS dgt E 3 x1 = none := by first | (simp [rS, c12, c23, c107]; done) | (exfalso; omega)
          have hP9 : va_P D vwCl [(hm, .inr (6, oM am n pos cmp que dsz mad cur stp met bst)), (am 1, .inl (cI, 18, .inl (nA dgt))), (am 20, .inl (cI, 36, .inl (nA rt)))] s.heap := hP.sub [0, 1, 2] rfl
          have hD9 : va_D _ [(hm, .inr (6, oM am n pos cmp que dsz mad cur stp met bst)), (am 1, .inl (cI, 18, .inl (nA dgt))), (am 20, .inl (cI, 36, .inl (nA rt)))] := hD.sub [0, 1, 2] (by decide) rfl
          exact W.zret (pc := 123) (v := (nI (0))) (ty := .boolean) hx hb hr (by decide) (fun t ht hW => ⟨⟨_, (mad, rt), rfl, ⟨(by first | (rw [hU]; done) | (rw [hU]; rfl)), (by rw [hU]; exact hL)⟩, by rw [ht]; exact hP9, va_K.moved hW.alike hK, hD9⟩, hS.F ht⟩) hS.2.2 dX8_starRule_123
        · refine lv_aload_n (pc := 110) hx hb dX8_starRule_110 rfl (lv_at hl 2 rfl) ?_
          refine lv_iconst (pc := 111) (v := (nI (2))) hx hb dX8_starRule_111 (by decide) ?_
          refine xm_calli (pc := 112) (wc := [(hm, .inr (6, oM am n pos cmp que dsz mad cur stp met bst)), (am 20, .inl (cI, 36, .inl (nA rt)))]) (wr := [(am 1, .inl (cI, 18, .inl (nA dgt)))]) (va_runV (As := [.int (nI 2)]) (rest := []) ⟨hx, hb, hml, hown, hts⟩ (c_X8_emits l D cI cL cZ s.heap.size hm am n pos cmp que dsz mad cur stp met bst rt ([]) 2 (by omega) hL) (cwV 1 hts gX8_starRule_X8_emits rfl rfl rfl (by decide +kernel) ⟨Nat.le_of_ble_eq_true rfl, Nat.le_of_ble_eq_true rfl⟩) (mP_V (wc := [(hm, .inr (6, oM am n pos cmp que dsz mad cur stp met bst)), (am 20, .inl (cI, 36, .inl (nA rt)))]) (ci := 6) (q0 := 0) hK hP hD [0, 2] (by decide) rfl rfl rfl) rfl rfl hl.1 rfl (lv_room (Nat.le_of_ble_eq_true rfl)) dX8_starRule_112 ⟨Nat.zero_le _, Nat.zero_le _⟩) hP hD hS hA [0, 2] [1] rfl rfl (by decide) (by decide) (fun r u H locs hw hP hD hS => ?_)
          obtain ⟨mad2_112, rt2_112⟩ := u
          have hP : va_P D vwCl [(am 1, .inl (cI, 18, .inl (nA dgt))), (hm, .inr (6, oM am n pos cmp que dsz mad2_112 cur stp met bst)), (am 20, .inl (cI, 36, .inl (nA rt2_112)))] H := hP
          have hD : va_D _ [(am 1, .inl (cI, 18, .inl (nA dgt))), (hm, .inr (6, oM am n pos cmp que dsz mad2_112 cur stp met bst)), (am 20, .inl (cI, 36, .inl (nA rt2_112)))] := hD
          try dsimp only at hw
          obtain ⟨hrr, hw112⟩ := hw
          rw [hrr]
          refine lv_if_eq (pc := 115) (tgt := 122) hx hb dX8_starRule_115 (by decide) (fun h => absurd h (by decide)) (fun _ => ?_)
          refine lv_iconst (pc := 118) (v := (nI (1))) hx hb dX8_starRule_118 (by decide) ?_
          refine lv_goto (pc := 119) (tgt := 123) hx hb dX8_starRule_119 (by decide) ?_
          have hU : rS dgt E 3 x1 = some (([]) ++ [2]) := by first | (simp [rS, c12, c23, c107]; done) | (exfalso; omega)
          have hP9 : va_P D vwCl [(hm, .inr (6, oM am n pos cmp que dsz mad2_112 cur stp met bst)), (am 1, .inl (cI, 18, .inl (nA dgt))), (am 20, .inl (cI, 36, .inl (nA rt2_112)))] H := hP.sub [1, 0, 2] rfl
          have hD9 : va_D _ [(hm, .inr (6, oM am n pos cmp que dsz mad2_112 cur stp met bst)), (am 1, .inl (cI, 18, .inl (nA dgt))), (am 20, .inl (cI, 36, .inl (nA rt2_112)))] := hD.sub [1, 0, 2] (by decide) rfl
          exact W.zret (pc := 123) (v := (nI (1))) (ty := .boolean) hx hb hr (by decide) (fun t ht hW => ⟨⟨_, (mad2_112, rt2_112), rfl, ⟨(by first | (rw [hU]; done) | (rw [hU]; rfl)), (by rw [hU]; exact hw112)⟩, by rw [ht]; exact hP9, va_K.moved hW.alike hK, hD9⟩, hS.F ht⟩) hS.2.2 dX8_starRule_123
      · refine lv_tableIn (pc := 38) (tgt := 328) (off := 290) hx hb dX8_starRule_38 (by decide) (by decide) (by decide) (by decide) ?_
        refine lv_iconst (pc := 328) (v := (nI (0))) hx hb dX8_starRule_328 (by decide) ?_
        have hU : rS dgt E 4 x1 = none := by first | (simp [rS, c12, c23]; done) | (exfalso; omega)
        have hP9 : va_P D vwCl [(hm, .inr (6, oM am n pos cmp que dsz mad cur stp met bst)), (am 1, .inl (cI, 18, .inl (nA dgt))), (am 20, .inl (cI, 36, .inl (nA rt)))] s.heap := hP.sub [0, 1, 2] rfl
        have hD9 : va_D _ [(hm, .inr (6, oM am n pos cmp que dsz mad cur stp met bst)), (am 1, .inl (cI, 18, .inl (nA dgt))), (am 20, .inl (cI, 36, .inl (nA rt)))] := hD.sub [0, 1, 2] (by decide) rfl
        exact W.zret (pc := 329) (v := (nI (0))) (ty := .boolean) hx hb hr (by decide) (fun t ht hW => ⟨⟨_, (mad, rt), rfl, ⟨(by first | (rw [hU]; done) | (rw [hU]; rfl)), (by rw [hU]; exact hL)⟩, by rw [ht]; exact hP9, va_K.moved hW.alike hK, hD9⟩, hS.F ht⟩) hS.2.2 dX8_starRule_329
      · refine lv_tableIn (pc := 38) (tgt := 124) (off := 86) hx hb dX8_starRule_38 (by decide) (by decide) (by decide) (by decide) ?_
        refine lv_aload_n (pc := 124) hx hb dX8_starRule_124 rfl (lv_at hl 2 rfl) ?_
        refine va_get (pc := 125) (D := D) (ci := 6) (v := .ref (am 1)) (C := RX8) (T := TX8) (N := 30) hx hb hts hinX8 hown hK hP 0 rfl rfl 1 (by decide) lk0 (fun _ h9 => h9) rfl dX8_starRule_125 ?_
        refine lv_iload_n (pc := 128) hx hb dX8_starRule_128 rfl (lv_at hl 4 rfl) ?_
        refine xa_iald (pc := 129) hx hb hK hP 1 0 rfl rfl (by omega) (by omega) dX8_starRule_129 ?_
        refine lv_bipush (pc := 130) (v := (nI (8))) hx hb dX8_starRule_130 (by decide) ?_
        refine xn_icmp_ne (pc := 132) (tgt := 147) hx hb (by have h5 := tv.q (show x1 < N by omega); omega) (by omega) dX8_starRule_132 (by decide) (fun c132 => ?_) (fun c132 => ?_)
        · refine lv_iconst (pc := 147) (v := (nI (0))) hx hb dX8_starRule_147 (by decide) ?_
          have hU : rS dgt E 5 x1 = none := by first | (simp [rS, c12, c23, c132]; done) | (exfalso; omega)
          have hP9 : va_P D vwCl [(hm, .inr (6, oM am n pos cmp que dsz mad cur stp met bst)), (am 1, .inl (cI, 18, .inl (nA dgt))), (am 20, .inl (cI, 36, .inl (nA rt)))] s.heap := hP.sub [0, 1, 2] rfl
          have hD9 : va_D _ [(hm, .inr (6, oM am n pos cmp que dsz mad cur stp met bst)), (am 1, .inl (cI, 18, .inl (nA dgt))), (am 20, .inl (cI, 36, .inl (nA rt)))] := hD.sub [0, 1, 2] (by decide) rfl
          exact W.zret (pc := 148) (v := (nI (0))) (ty := .boolean) hx hb hr (by decide) (fun t ht hW => ⟨⟨_, (mad, rt), rfl, ⟨(by first | (rw [hU]; done) | (rw [hU]; rfl)), (by rw [hU]; exact hL)⟩, by rw [ht]; exact hP9, va_K.moved hW.alike hK, hD9⟩, hS.F ht⟩) hS.2.2 dX8_starRule_148
        · refine lv_aload_n (pc := 135) hx hb dX8_starRule_135 rfl (lv_at hl 2 rfl) ?_
          refine lv_iload_n (pc := 136) hx hb dX8_starRule_136 rfl (lv_at hl 4 rfl) ?_
          refine xm_calli (pc := 137) (wc := [(hm, .inr (6, oM am n pos cmp que dsz mad cur stp met bst)), (am 1, .inl (cI, 18, .inl (nA dgt))), (am 20, .inl (cI, 36, .inl (nA rt)))]) (wr := []) (va_runV (As := [.int (nI x1)]) (rest := []) ⟨hx, hb, hml, hown, hts⟩ (c_X8_copies l D cI cL cZ s.heap.size hm am n pos cmp que dsz mad cur stp met bst dgt E N rt ([]) x1 tv (by omega) (by have h0 := tv.q (show x1 < N by omega); omega) hL) (cwV 1 hts gX8_starRule_X8_copies rfl rfl rfl (by decide +kernel) ⟨Nat.le_of_ble_eq_true rfl, Nat.le_of_ble_eq_true rfl⟩) (mP_V (wc := [(hm, .inr (6, oM am n pos cmp que dsz mad cur stp met bst)), (am 1, .inl (cI, 18, .inl (nA dgt))), (am 20, .inl (cI, 36, .inl (nA rt)))]) (ci := 6) (q0 := 0) hK hP hD [0, 1, 2] (by decide) rfl rfl rfl) rfl rfl hl.1 rfl (lv_room (Nat.le_of_ble_eq_true rfl)) dX8_starRule_137 ⟨Nat.zero_le _, Nat.zero_le _⟩) hP hD hS hA [0, 1, 2] [] rfl rfl (by decide) (by decide) (fun r u H locs hw hP hD hS => ?_)
          obtain ⟨mad2_137, rt2_137⟩ := u
          have hP : va_P D vwCl [(hm, .inr (6, oM am n pos cmp que dsz mad2_137 cur stp met bst)), (am 1, .inl (cI, 18, .inl (nA dgt))), (am 20, .inl (cI, 36, .inl (nA rt2_137)))] H := hP
          have hD : va_D _ [(hm, .inr (6, oM am n pos cmp que dsz mad2_137 cur stp met bst)), (am 1, .inl (cI, 18, .inl (nA dgt))), (am 20, .inl (cI, 36, .inl (nA rt2_137)))] := hD
          try dsimp only at hw
          obtain ⟨hrr, hw137⟩ := hw
          rw [hrr]
          refine lv_if_eq (pc := 140) (tgt := 147) hx hb dX8_starRule_140 (by decide) (fun h => absurd h (by decide)) (fun _ => ?_)
          refine lv_iconst (pc := 143) (v := (nI (1))) hx hb dX8_starRule_143 (by decide) ?_
          refine lv_goto (pc := 144) (tgt := 148) hx hb dX8_starRule_144 (by decide) ?_
          have hU : rS dgt E 5 x1 = some (([]) ++ sb dgt E x1) := by first | (simp [rS, c12, c23, c132]; done) | (exfalso; omega)
          have hP9 : va_P D vwCl [(hm, .inr (6, oM am n pos cmp que dsz mad2_137 cur stp met bst)), (am 1, .inl (cI, 18, .inl (nA dgt))), (am 20, .inl (cI, 36, .inl (nA rt2_137)))] H := hP.sub [0, 1, 2] rfl
          have hD9 : va_D _ [(hm, .inr (6, oM am n pos cmp que dsz mad2_137 cur stp met bst)), (am 1, .inl (cI, 18, .inl (nA dgt))), (am 20, .inl (cI, 36, .inl (nA rt2_137)))] := hD.sub [0, 1, 2] (by decide) rfl
          exact W.zret (pc := 148) (v := (nI (1))) (ty := .boolean) hx hb hr (by decide) (fun t ht hW => ⟨⟨_, (mad2_137, rt2_137), rfl, ⟨(by first | (rw [hU]; done) | (rw [hU]; rfl)), (by rw [hU]; exact hw137)⟩, by rw [ht]; exact hP9, va_K.moved hW.alike hK, hD9⟩, hS.F ht⟩) hS.2.2 dX8_starRule_148
      · refine lv_tableIn (pc := 38) (tgt := 149) (off := 111) hx hb dX8_starRule_38 (by decide) (by decide) (by decide) (by decide) ?_
        refine lv_aload_n (pc := 149) hx hb dX8_starRule_149 rfl (lv_at hl 2 rfl) ?_
        refine va_get (pc := 150) (D := D) (ci := 6) (v := .ref (am 1)) (C := RX8) (T := TX8) (N := 30) hx hb hts hinX8 hown hK hP 0 rfl rfl 1 (by decide) lk0 (fun _ h9 => h9) rfl dX8_starRule_150 ?_
        refine lv_iload_n (pc := 153) hx hb dX8_starRule_153 rfl (lv_at hl 4 rfl) ?_
        refine xa_iald (pc := 154) hx hb hK hP 1 0 rfl rfl (by omega) (by omega) dX8_starRule_154 ?_
        refine lv_bipush (pc := 155) (v := (nI (6))) hx hb dX8_starRule_155 (by decide) ?_
        refine xn_icmp_ne (pc := 157) (tgt := 205) hx hb (by have h5 := tv.q (show x1 < N by omega); omega) (by omega) dX8_starRule_157 (by decide) (fun _ => ?_) (fun h => absurd h c12)
        refine lv_iconst (pc := 205) (v := (nI (0))) hx hb dX8_starRule_205 (by decide) ?_
        have hU : rS dgt E 6 x1 = none := by first | (simp [rS, c12, c23]; done) | (exfalso; omega)
        have hP9 : va_P D vwCl [(hm, .inr (6, oM am n pos cmp que dsz mad cur stp met bst)), (am 1, .inl (cI, 18, .inl (nA dgt))), (am 20, .inl (cI, 36, .inl (nA rt)))] s.heap := hP.sub [0, 1, 2] rfl
        have hD9 : va_D _ [(hm, .inr (6, oM am n pos cmp que dsz mad cur stp met bst)), (am 1, .inl (cI, 18, .inl (nA dgt))), (am 20, .inl (cI, 36, .inl (nA rt)))] := hD.sub [0, 1, 2] (by decide) rfl
        exact W.zret (pc := 206) (v := (nI (0))) (ty := .boolean) hx hb hr (by decide) (fun t ht hW => ⟨⟨_, (mad, rt), rfl, ⟨(by first | (rw [hU]; done) | (rw [hU]; rfl)), (by rw [hU]; exact hL)⟩, by rw [ht]; exact hP9, va_K.moved hW.alike hK, hD9⟩, hS.F ht⟩) hS.2.2 dX8_starRule_206
      · refine lv_tableIn (pc := 38) (tgt := 328) (off := 290) hx hb dX8_starRule_38 (by decide) (by decide) (by decide) (by decide) ?_
        refine lv_iconst (pc := 328) (v := (nI (0))) hx hb dX8_starRule_328 (by decide) ?_
        have hU : rS dgt E 7 x1 = none := by first | (simp [rS, c12, c23]; done) | (exfalso; omega)
        have hP9 : va_P D vwCl [(hm, .inr (6, oM am n pos cmp que dsz mad cur stp met bst)), (am 1, .inl (cI, 18, .inl (nA dgt))), (am 20, .inl (cI, 36, .inl (nA rt)))] s.heap := hP.sub [0, 1, 2] rfl
        have hD9 : va_D _ [(hm, .inr (6, oM am n pos cmp que dsz mad cur stp met bst)), (am 1, .inl (cI, 18, .inl (nA dgt))), (am 20, .inl (cI, 36, .inl (nA rt)))] := hD.sub [0, 1, 2] (by decide) rfl
        exact W.zret (pc := 329) (v := (nI (0))) (ty := .boolean) hx hb hr (by decide) (fun t ht hW => ⟨⟨_, (mad, rt), rfl, ⟨(by first | (rw [hU]; done) | (rw [hU]; rfl)), (by rw [hU]; exact hL)⟩, by rw [ht]; exact hP9, va_K.moved hW.alike hK, hD9⟩, hS.F ht⟩) hS.2.2 dX8_starRule_329
      · refine lv_tableIn (pc := 38) (tgt := 328) (off := 290) hx hb dX8_starRule_38 (by decide) (by decide) (by decide) (by decide) ?_
        refine lv_iconst (pc := 328) (v := (nI (0))) hx hb dX8_starRule_328 (by decide) ?_
        have hU : rS dgt E 8 x1 = none := by first | (simp [rS, c12, c23]; done) | (exfalso; omega)
        have hP9 : va_P D vwCl [(hm, .inr (6, oM am n pos cmp que dsz mad cur stp met bst)), (am 1, .inl (cI, 18, .inl (nA dgt))), (am 20, .inl (cI, 36, .inl (nA rt)))] s.heap := hP.sub [0, 1, 2] rfl
        have hD9 : va_D _ [(hm, .inr (6, oM am n pos cmp que dsz mad cur stp met bst)), (am 1, .inl (cI, 18, .inl (nA dgt))), (am 20, .inl (cI, 36, .inl (nA rt)))] := hD.sub [0, 1, 2] (by decide) rfl
        exact W.zret (pc := 329) (v := (nI (0))) (ty := .boolean) hx hb hr (by decide) (fun t ht hW => ⟨⟨_, (mad, rt), rfl, ⟨(by first | (rw [hU]; done) | (rw [hU]; rfl)), (by rw [hU]; exact hL)⟩, by rw [ht]; exact hP9, va_K.moved hW.alike hK, hD9⟩, hS.F ht⟩) hS.2.2 dX8_starRule_329
      · refine lv_tableIn (pc := 38) (tgt := 328) (off := 290) hx hb dX8_starRule_38 (by decide) (by decide) (by decide) (by decide) ?_
        refine lv_iconst (pc := 328) (v := (nI (0))) hx hb dX8_starRule_328 (by decide) ?_
        have hU : rS dgt E 9 x1 = none := by first | (simp [rS, c12, c23]; done) | (exfalso; omega)
        have hP9 : va_P D vwCl [(hm, .inr (6, oM am n pos cmp que dsz mad cur stp met bst)), (am 1, .inl (cI, 18, .inl (nA dgt))), (am 20, .inl (cI, 36, .inl (nA rt)))] s.heap := hP.sub [0, 1, 2] rfl
        have hD9 : va_D _ [(hm, .inr (6, oM am n pos cmp que dsz mad cur stp met bst)), (am 1, .inl (cI, 18, .inl (nA dgt))), (am 20, .inl (cI, 36, .inl (nA rt)))] := hD.sub [0, 1, 2] (by decide) rfl
        exact W.zret (pc := 329) (v := (nI (0))) (ty := .boolean) hx hb hr (by decide) (fun t ht hW => ⟨⟨_, (mad, rt), rfl, ⟨(by first | (rw [hU]; done) | (rw [hU]; rfl)), (by rw [hU]; exact hL)⟩, by rw [ht]; exact hP9, va_K.moved hW.alike hK, hD9⟩, hS.F ht⟩) hS.2.2 dX8_starRule_329
      · refine lv_tableIn (pc := 38) (tgt := 328) (off := 290) hx hb dX8_starRule_38 (by decide) (by decide) (by decide) (by decide) ?_
        refine lv_iconst (pc := 328) (v := (nI (0))) hx hb dX8_starRule_328 (by decide) ?_
        have hU : rS dgt E 10 x1 = none := by first | (simp [rS, c12, c23]; done) | (exfalso; omega)
        have hP9 : va_P D vwCl [(hm, .inr (6, oM am n pos cmp que dsz mad cur stp met bst)), (am 1, .inl (cI, 18, .inl (nA dgt))), (am 20, .inl (cI, 36, .inl (nA rt)))] s.heap := hP.sub [0, 1, 2] rfl
        have hD9 : va_D _ [(hm, .inr (6, oM am n pos cmp que dsz mad cur stp met bst)), (am 1, .inl (cI, 18, .inl (nA dgt))), (am 20, .inl (cI, 36, .inl (nA rt)))] := hD.sub [0, 1, 2] (by decide) rfl
        exact W.zret (pc := 329) (v := (nI (0))) (ty := .boolean) hx hb hr (by decide) (fun t ht hW => ⟨⟨_, (mad, rt), rfl, ⟨(by first | (rw [hU]; done) | (rw [hU]; rfl)), (by rw [hU]; exact hL)⟩, by rw [ht]; exact hP9, va_K.moved hW.alike hK, hD9⟩, hS.F ht⟩) hS.2.2 dX8_starRule_329
      · refine lv_tableIn (pc := 38) (tgt := 328) (off := 290) hx hb dX8_starRule_38 (by decide) (by decide) (by decide) (by decide) ?_
        refine lv_iconst (pc := 328) (v := (nI (0))) hx hb dX8_starRule_328 (by decide) ?_
        have hU : rS dgt E 11 x1 = none := by first | (simp [rS, c12, c23]; done) | (exfalso; omega)
        have hP9 : va_P D vwCl [(hm, .inr (6, oM am n pos cmp que dsz mad cur stp met bst)), (am 1, .inl (cI, 18, .inl (nA dgt))), (am 20, .inl (cI, 36, .inl (nA rt)))] s.heap := hP.sub [0, 1, 2] rfl
        have hD9 : va_D _ [(hm, .inr (6, oM am n pos cmp que dsz mad cur stp met bst)), (am 1, .inl (cI, 18, .inl (nA dgt))), (am 20, .inl (cI, 36, .inl (nA rt)))] := hD.sub [0, 1, 2] (by decide) rfl
        exact W.zret (pc := 329) (v := (nI (0))) (ty := .boolean) hx hb hr (by decide) (fun t ht hW => ⟨⟨_, (mad, rt), rfl, ⟨(by first | (rw [hU]; done) | (rw [hU]; rfl)), (by rw [hU]; exact hL)⟩, by rw [ht]; exact hP9, va_K.moved hW.alike hK, hD9⟩, hS.F ht⟩) hS.2.2 dX8_starRule_329
      · refine lv_tableIn (pc := 38) (tgt := 328) (off := 290) hx hb dX8_starRule_38 (by decide) (by decide) (by decide) (by decide) ?_
        refine lv_iconst (pc := 328) (v := (nI (0))) hx hb dX8_starRule_328 (by decide) ?_
        have hU : rS dgt E 12 x1 = none := by first | (simp [rS, c12, c23]; done) | (exfalso; omega)
        have hP9 : va_P D vwCl [(hm, .inr (6, oM am n pos cmp que dsz mad cur stp met bst)), (am 1, .inl (cI, 18, .inl (nA dgt))), (am 20, .inl (cI, 36, .inl (nA rt)))] s.heap := hP.sub [0, 1, 2] rfl
        have hD9 : va_D _ [(hm, .inr (6, oM am n pos cmp que dsz mad cur stp met bst)), (am 1, .inl (cI, 18, .inl (nA dgt))), (am 20, .inl (cI, 36, .inl (nA rt)))] := hD.sub [0, 1, 2] (by decide) rfl
        exact W.zret (pc := 329) (v := (nI (0))) (ty := .boolean) hx hb hr (by decide) (fun t ht hW => ⟨⟨_, (mad, rt), rfl, ⟨(by first | (rw [hU]; done) | (rw [hU]; rfl)), (by rw [hU]; exact hL)⟩, by rw [ht]; exact hP9, va_K.moved hW.alike hK, hD9⟩, hS.F ht⟩) hS.2.2 dX8_starRule_329
      · refine lv_tableIn (pc := 38) (tgt := 207) (off := 169) hx hb dX8_starRule_38 (by decide) (by decide) (by decide) (by decide) ?_
        refine lv_aload_n (pc := 207) hx hb dX8_starRule_207 rfl (lv_at hl 2 rfl) ?_
        refine va_get (pc := 208) (D := D) (ci := 6) (v := .ref (am 1)) (C := RX8) (T := TX8) (N := 30) hx hb hts hinX8 hown hK hP 0 rfl rfl 1 (by decide) lk0 (fun _ h9 => h9) rfl dX8_starRule_208 ?_
        refine lv_iload_n (pc := 211) hx hb dX8_starRule_211 rfl (lv_at hl 4 rfl) ?_
        refine xa_iald (pc := 212) hx hb hK hP 1 0 rfl rfl (by omega) (by omega) dX8_starRule_212 ?_
        refine lv_bipush (pc := 213) (v := (nI (6))) hx hb dX8_starRule_213 (by decide) ?_
        refine xn_icmp_ne (pc := 215) (tgt := 272) hx hb (by have h5 := tv.q (show x1 < N by omega); omega) (by omega) dX8_starRule_215 (by decide) (fun _ => ?_) (fun h => absurd h c12)
        refine lv_iconst (pc := 272) (v := (nI (0))) hx hb dX8_starRule_272 (by decide) ?_
        have hU : rS dgt E 13 x1 = none := by first | (simp [rS, c12, c23]; done) | (exfalso; omega)
        have hP9 : va_P D vwCl [(hm, .inr (6, oM am n pos cmp que dsz mad cur stp met bst)), (am 1, .inl (cI, 18, .inl (nA dgt))), (am 20, .inl (cI, 36, .inl (nA rt)))] s.heap := hP.sub [0, 1, 2] rfl
        have hD9 : va_D _ [(hm, .inr (6, oM am n pos cmp que dsz mad cur stp met bst)), (am 1, .inl (cI, 18, .inl (nA dgt))), (am 20, .inl (cI, 36, .inl (nA rt)))] := hD.sub [0, 1, 2] (by decide) rfl
        exact W.zret (pc := 273) (v := (nI (0))) (ty := .boolean) hx hb hr (by decide) (fun t ht hW => ⟨⟨_, (mad, rt), rfl, ⟨(by first | (rw [hU]; done) | (rw [hU]; rfl)), (by rw [hU]; exact hL)⟩, by rw [ht]; exact hP9, va_K.moved hW.alike hK, hD9⟩, hS.F ht⟩) hS.2.2 dX8_starRule_273
      · refine lv_tableIn (pc := 38) (tgt := 274) (off := 236) hx hb dX8_starRule_38 (by decide) (by decide) (by decide) (by decide) ?_
        refine lv_aload_n (pc := 274) hx hb dX8_starRule_274 rfl (lv_at hl 2 rfl) ?_
        refine va_get (pc := 275) (D := D) (ci := 6) (v := .ref (am 1)) (C := RX8) (T := TX8) (N := 30) hx hb hts hinX8 hown hK hP 0 rfl rfl 1 (by decide) lk0 (fun _ h9 => h9) rfl dX8_starRule_275 ?_
        refine lv_iload_n (pc := 278) hx hb dX8_starRule_278 rfl (lv_at hl 4 rfl) ?_
        refine xa_iald (pc := 279) hx hb hK hP 1 0 rfl rfl (by omega) (by omega) dX8_starRule_279 ?_
        refine lv_bipush (pc := 280) (v := (nI (7))) hx hb dX8_starRule_280 (by decide) ?_
        refine xn_icmp_ne (pc := 282) (tgt := 326) hx hb (by have h5 := tv.q (show x1 < N by omega); omega) (by omega) dX8_starRule_282 (by decide) (fun h => absurd c23 h) (fun _ => ?_)
        have ht := tv.two hx1 (by omega)
        refine lv_aload_n (pc := 285) hx hb dX8_starRule_285 rfl (lv_at hl 2 rfl) ?_
        refine va_get (pc := 286) (D := D) (ci := 6) (v := .ref (am 1)) (C := RX8) (T := TX8) (N := 30) hx hb hts hinX8 hown hK hP 0 rfl rfl 1 (by decide) lk0 (fun _ h9 => h9) rfl dX8_starRule_286 ?_
        refine lv_iload_n (pc := 289) hx hb dX8_starRule_289 rfl (lv_at hl 1 rfl) ?_
        refine xa_iald (pc := 290) hx hb hK hP 1 0 rfl rfl (by omega) (by omega) dX8_starRule_290 ?_
        refine lv_bipush (pc := 291) (v := (nI (8))) hx hb dX8_starRule_291 (by decide) ?_
        refine xn_icmp_ne (pc := 293) (tgt := 326) hx hb (by have h5 := tv.q (show (x1 + 1) < N by omega); omega) (by omega) dX8_starRule_293 (by decide) (fun c293 => ?_) (fun c293 => ?_)
        · refine lv_iconst (pc := 326) (v := (nI (0))) hx hb dX8_starRule_326 (by decide) ?_
          have hU : rS dgt E 14 x1 = none := by first | (simp [rS, c12, c23, c293]; done) | (exfalso; omega)
          have hP9 : va_P D vwCl [(hm, .inr (6, oM am n pos cmp que dsz mad cur stp met bst)), (am 1, .inl (cI, 18, .inl (nA dgt))), (am 20, .inl (cI, 36, .inl (nA rt)))] s.heap := hP.sub [0, 1, 2] rfl
          have hD9 : va_D _ [(hm, .inr (6, oM am n pos cmp que dsz mad cur stp met bst)), (am 1, .inl (cI, 18, .inl (nA dgt))), (am 20, .inl (cI, 36, .inl (nA rt)))] := hD.sub [0, 1, 2] (by decide) rfl
          exact W.zret (pc := 327) (v := (nI (0))) (ty := .boolean) hx hb hr (by decide) (fun t ht hW => ⟨⟨_, (mad, rt), rfl, ⟨(by first | (rw [hU]; done) | (rw [hU]; rfl)), (by rw [hU]; exact hL)⟩, by rw [ht]; exact hP9, va_K.moved hW.alike hK, hD9⟩, hS.F ht⟩) hS.2.2 dX8_starRule_327
        · refine lv_aload_n (pc := 296) hx hb dX8_starRule_296 rfl (lv_at hl 2 rfl) ?_
          refine va_get (pc := 297) (D := D) (ci := 6) (v := .ref (am 1)) (C := RX8) (T := TX8) (N := 30) hx hb hts hinX8 hown hK hP 0 rfl rfl 1 (by decide) lk0 (fun _ h9 => h9) rfl dX8_starRule_297 ?_
          refine lv_iload (pc := 300) hx hb dX8_starRule_300 (lv_at hl 0 rfl) ?_
          refine xa_iald (pc := 302) hx hb hK hP 1 0 rfl rfl (by omega) (by omega) dX8_starRule_302 ?_
          refine lv_bipush (pc := 303) (v := (nI (8))) hx hb dX8_starRule_303 (by decide) ?_
          refine xn_icmp_ne (pc := 305) (tgt := 326) hx hb (by have h5 := tv.q (show (E (x1 + 1)) < N by omega); omega) (by omega) dX8_starRule_305 (by decide) (fun c305 => ?_) (fun c305 => ?_)
          · refine lv_iconst (pc := 326) (v := (nI (0))) hx hb dX8_starRule_326 (by decide) ?_
            have hU : rS dgt E 14 x1 = none := by first | (simp [rS, c12, c23, c293, c305]; done) | (exfalso; omega)
            have hP9 : va_P D vwCl [(hm, .inr (6, oM am n pos cmp que dsz mad cur stp met bst)), (am 1, .inl (cI, 18, .inl (nA dgt))), (am 20, .inl (cI, 36, .inl (nA rt)))] s.heap := hP.sub [0, 1, 2] rfl
            have hD9 : va_D _ [(hm, .inr (6, oM am n pos cmp que dsz mad cur stp met bst)), (am 1, .inl (cI, 18, .inl (nA dgt))), (am 20, .inl (cI, 36, .inl (nA rt)))] := hD.sub [0, 1, 2] (by decide) rfl
            exact W.zret (pc := 327) (v := (nI (0))) (ty := .boolean) hx hb hr (by decide) (fun t ht hW => ⟨⟨_, (mad, rt), rfl, ⟨(by first | (rw [hU]; done) | (rw [hU]; rfl)), (by rw [hU]; exact hL)⟩, by rw [ht]; exact hP9, va_K.moved hW.alike hK, hD9⟩, hS.F ht⟩) hS.2.2 dX8_starRule_327
          · have ho := tv.one ht.1 c293
            have ho2 := tv.one (show E (x1 + 1) < N by omega) c305
            refine lv_aload_n (pc := 308) hx hb dX8_starRule_308 rfl (lv_at hl 2 rfl) ?_
            refine lv_iload_n (pc := 309) hx hb dX8_starRule_309 rfl (lv_at hl 1 rfl) ?_
            refine lv_iconst (pc := 310) (v := (nI (1))) hx hb dX8_starRule_310 (by decide) ?_
            refine xn_iadd (pc := 311) hx hb  dX8_starRule_311 ?_
            refine lv_iload (pc := 312) hx hb dX8_starRule_312 (lv_at hl 0 rfl) ?_
            refine lv_iconst (pc := 314) (v := (nI (1))) hx hb dX8_starRule_314 (by decide) ?_
            refine xn_iadd (pc := 315) hx hb  dX8_starRule_315 ?_
            refine xm_calli (pc := 316) (wc := [(hm, .inr (6, oM am n pos cmp que dsz mad cur stp met bst)), (am 1, .inl (cI, 18, .inl (nA dgt))), (am 20, .inl (cI, 36, .inl (nA rt)))]) (wr := []) (va_runV (As := [.int (nI ((x1 + 1) + 1)), .int (nI ((E (x1 + 1)) + 1))]) (rest := []) ⟨hx, hb, hml, hown, hts⟩ (c_X8_starOfUnion l D cI cL cZ s.heap.size hm am n pos cmp que dsz mad cur stp met bst dgt E N rt ([]) ((x1 + 1) + 1) ((E (x1 + 1)) + 1) tv (by omega) (by omega) (by have h0 := tv.q (show (x1 + 1) + 1 < N by omega); have h1 := tv.q (show (E (x1 + 1)) + 1 < N by omega); omega) hL) (cwV 2 hts gX8_starRule_X8_starOfUnion rfl rfl rfl (by decide +kernel) ⟨Nat.le_of_ble_eq_true rfl, Nat.le_of_ble_eq_true rfl⟩) (mP_V (wc := [(hm, .inr (6, oM am n pos cmp que dsz mad cur stp met bst)), (am 1, .inl (cI, 18, .inl (nA dgt))), (am 20, .inl (cI, 36, .inl (nA rt)))]) (ci := 6) (q0 := 0) hK hP hD [0, 1, 2] (by decide) rfl rfl rfl) rfl rfl hl.1 rfl (lv_room (Nat.le_of_ble_eq_true rfl)) dX8_starRule_316 ⟨Nat.zero_le _, Nat.zero_le _⟩) hP hD hS hA [0, 1, 2] [] rfl rfl (by decide) (by decide) (fun r u H locs hw hP hD hS => ?_)
            obtain ⟨mad2_316, rt2_316⟩ := u
            have hP : va_P D vwCl [(hm, .inr (6, oM am n pos cmp que dsz mad2_316 cur stp met bst)), (am 1, .inl (cI, 18, .inl (nA dgt))), (am 20, .inl (cI, 36, .inl (nA rt2_316)))] H := hP
            have hD : va_D _ [(hm, .inr (6, oM am n pos cmp que dsz mad2_316 cur stp met bst)), (am 1, .inl (cI, 18, .inl (nA dgt))), (am 20, .inl (cI, 36, .inl (nA rt2_316)))] := hD
            try dsimp only at hw
            obtain ⟨hrr, hw316⟩ := hw
            rw [hrr]
            refine lv_if_eq (pc := 319) (tgt := 326) hx hb dX8_starRule_319 (by decide) (fun h => absurd h (by decide)) (fun _ => ?_)
            refine lv_iconst (pc := 322) (v := (nI (1))) hx hb dX8_starRule_322 (by decide) ?_
            refine lv_goto (pc := 323) (tgt := 327) hx hb dX8_starRule_323 (by decide) ?_
            have hU : rS dgt E 14 x1 = some (([]) ++ (8 :: 6 :: (sb dgt E ((x1 + 1) + 1) ++ sb dgt E ((E (x1 + 1)) + 1)))) := by first | (simp [rS, c12, c23, c293, c305]; done) | (exfalso; omega)
            have hP9 : va_P D vwCl [(hm, .inr (6, oM am n pos cmp que dsz mad2_316 cur stp met bst)), (am 1, .inl (cI, 18, .inl (nA dgt))), (am 20, .inl (cI, 36, .inl (nA rt2_316)))] H := hP.sub [0, 1, 2] rfl
            have hD9 : va_D _ [(hm, .inr (6, oM am n pos cmp que dsz mad2_316 cur stp met bst)), (am 1, .inl (cI, 18, .inl (nA dgt))), (am 20, .inl (cI, 36, .inl (nA rt2_316)))] := hD.sub [0, 1, 2] (by decide) rfl
            exact W.zret (pc := 327) (v := (nI (1))) (ty := .boolean) hx hb hr (by decide) (fun t ht hW => ⟨⟨_, (mad2_316, rt2_316), rfl, ⟨(by first | (rw [hU]; done) | (rw [hU]; rfl)), (by rw [hU]; exact hw316)⟩, by rw [ht]; exact hP9, va_K.moved hW.alike hK, hD9⟩, hS.F ht⟩) hS.2.2 dX8_starRule_327
      · refine lv_tableOut (pc := 38) (tgt := 328) hx hb dX8_starRule_38 (by decide) (by decide) ?_
        refine lv_iconst (pc := 328) (v := (nI (0))) hx hb dX8_starRule_328 (by decide) ?_
        have hU : rS dgt E 15 x1 = none := by first | (simp [rS, c12, c23]; done) | (exfalso; omega)
        have hP9 : va_P D vwCl [(hm, .inr (6, oM am n pos cmp que dsz mad cur stp met bst)), (am 1, .inl (cI, 18, .inl (nA dgt))), (am 20, .inl (cI, 36, .inl (nA rt)))] s.heap := hP.sub [0, 1, 2] rfl
        have hD9 : va_D _ [(hm, .inr (6, oM am n pos cmp que dsz mad cur stp met bst)), (am 1, .inl (cI, 18, .inl (nA dgt))), (am 20, .inl (cI, 36, .inl (nA rt)))] := hD.sub [0, 1, 2] (by decide) rfl
        exact W.zret (pc := 329) (v := (nI (0))) (ty := .boolean) hx hb hr (by decide) (fun t ht hW => ⟨⟨_, (mad, rt), rfl, ⟨(by first | (rw [hU]; done) | (rw [hU]; rfl)), (by rw [hU]; exact hL)⟩, by rw [ht]; exact hP9, va_K.moved hW.alike hK, hD9⟩, hS.F ht⟩) hS.2.2 dX8_starRule_329
set_option maxHeartbeats 4000000 in
set_option maxRecDepth 100000 in
theorem c_X8_applies (l : Launch) (D : va_G) (cI cL cZ : ClassId) (sz : Nat) (hm : Nat) (am : Nat → Nat) (n : Nat) (pos : Nat) (cmp : Nat) (que : Nat) (dsz : Nat) (mad : Nat) (cur : Nat) (stp : Nat) (met : Nat) (bst : Nat) (dgt : Nat → Nat) (E : Nat → Nat) (N : Nat) (rt : Nat → Nat) (rl : Nat) (p1 : Nat) (tv : TV dgt E N) (hrl : rl < 16) (hp1 : p1 < N) : Met l yX8_applies wsX8_applies { frames := 5, cells := 0, slots := 0, locals := 122 } (mP D (tyL cI cL cZ) [(hm, .inr (6, oM am n pos cmp que dsz mad cur stp met bst)), (am 1, .inl (cI, 18, .inl (nA dgt))), (am 20, .inl (cI, 36, .inl (nA rt)))] sz [.ref hm, .int (nI rl), .int (nI p1)]) (va_Qi (fun (r : Int32) (u : Nat × (Nat → Nat)) => r = (nI (pN ((rR dgt E rl p1).isSome = true))) ∧ (RT u.2 u.1 ((rR dgt E rl p1).getD []))) (fun (u : Nat × (Nat → Nat)) (t : State) => mB D (tyL cI cL cZ) (va_A [(hm, .inr (6, oM am n pos cmp que dsz mad cur stp met bst)), (am 1, .inl (cI, 18, .inl (nA dgt))), (am 20, .inl (cI, 36, .inl (nA rt)))] sz) [(hm, .inr (6, oM am n pos cmp que dsz (u.1) cur stp met bst)), (am 1, .inl (cI, 18, .inl (nA dgt))), (am 20, .inl (cI, 36, .inl (nA (u.2))))] t) (va_A [(hm, .inr (6, oM am n pos cmp que dsz mad cur stp met bst)), (am 1, .inl (cI, 18, .inl (nA dgt))), (am 20, .inl (cI, 36, .inl (nA rt)))] sz)) 0 0 (va_A [(hm, .inr (6, oM am n pos cmp que dsz mad cur stp met bst)), (am 1, .inl (cI, 18, .inl (nA dgt))), (am 20, .inl (cI, 36, .inl (nA rt)))] sz) := by
  refine Met.ofW (cc := cX8_applies) (maxL := 5) (ret := (some .boolean)) (by decide) rfl ?_
  intro pG eG s mG args below meth cG s₁ B hml hpre9
  obtain ⟨rfl, hsz, hP, hK, hD0⟩ := hpre9
  have hx := B.exec
  have hb := B.bytes
  have hr := B.returns
  have hts := atoms_spec (ws := wsX8_applies) B.pre
  have hown : s.vm.findClass RX8 = some mG.cls := findClass_of_methodNamed B.named
  have hlocks := B.notSynchronized
  subst hsz
  have hD := hD0.self (sz := s.heap.size)
  have hA : ∀ q : Nat, s.heap.size ≤ q → va_A [(hm, .inr (6, oM am n pos cmp que dsz mad cur stp met bst)), (am 1, .inl (cI, 18, .inl (nA dgt))), (am 20, .inl (cI, 36, .inl (nA rt)))] s.heap.size q := fun q h => Or.inr h
  have hS : va_S (va_A [(hm, .inr (6, oM am n pos cmp que dsz mad cur stp met bst)), (am 1, .inl (cI, 18, .inl (nA dgt))), (am 20, .inl (cI, 36, .inl (nA rt)))] s.heap.size) s.heap s.heap [] := va_S.rf
  have hinX8 : ∀ w ∈ wsX80, w ∈ wsX8_applies := fun w HH => (List.mem_cons_of_mem _ (List.mem_append_right _ HH))
  have lk0 : (Cond.fieldLink RX8 146 "RegexSimplifierModel" "made" "I").before _ s = true := hts _ (List.mem_cons_of_mem _ (List.mem_append_left _ (List.mem_append_left _ (List.mem_of_getElem? (i := 0) rfl))))
  have lk1 : (Cond.fieldLink RX8 7 "RegexSimplifierModel" "digit" "[I").before _ s = true := hts _ (List.mem_cons_of_mem _ (List.mem_append_left _ (List.mem_append_left _ (List.mem_of_getElem? (i := 1) rfl))))
  have hl := lv_entry ([.ref hm, .int (nI rl), .int (nI p1)]) (n := 5) (Nat.le_of_ble_eq_true rfl)
  rw [lg_entry_eq]
  generalize (lg_sl ([.ref hm, .int (nI rl), .int (nI p1)]) ++ List.replicate (5 - (lg_sl ([.ref hm, .int (nI rl), .int (nI p1)])).length) Slot.unset).toArray = ls at hl ⊢
  have hl : lv_has ls 5 [(0, .ref hm), (1, .int (nI rl)), (2, .int (nI p1))] := hl
  have hn18 := tv.n18
  have hqp := tv.q hp1
  have hL0 : RT rt 0 [] := RT_nil rt
  refine lv_aload_n (pc := 0) hx hb dX8_applies_0 rfl (lv_at hl 0 rfl) ?_
  refine lv_iconst (pc := 1) (v := (nI (0))) hx hb dX8_applies_1 (by decide) ?_
  refine va_put (pc := 2) (D := D) (ci := 6) (v := .int (nI 0)) (ty := .int) (C := RX8) (T := TX8) (N := 30) hx hb hts hinX8 tyX8 tyX8_ok nmX8 hown hK hP hD hS 0 rfl rfl 19 (by decide) lk0 (fun _ h9 => h9) rfl (by decide +kernel) rfl rfl (Nat.le_of_ble_eq_true rfl) dX8_applies_2 (fun H locs hP hD hS => ?_)
  have hP : va_P D vwCl [(hm, .inr (6, oM am n pos cmp que dsz 0 cur stp met bst)), (am 1, .inl (cI, 18, .inl (nA dgt))), (am 20, .inl (cI, 36, .inl (nA rt)))] H := hP
  have hD : va_D _ [(hm, .inr (6, oM am n pos cmp que dsz 0 cur stp met bst)), (am 1, .inl (cI, 18, .inl (nA dgt))), (am 20, .inl (cI, 36, .inl (nA rt)))] := hD
  refine lv_aload_n (pc := 5) hx hb dX8_applies_5 rfl (lv_at hl 0 rfl) ?_
  refine va_get (pc := 6) (D := D) (ci := 6) (v := .ref (am 1)) (C := RX8) (T := TX8) (N := 30) hx hb hts hinX8 hown hK hP 0 rfl rfl 1 (by decide) lk1 (fun _ h9 => h9) rfl dX8_applies_6 ?_
  refine lv_iload_n (pc := 9) hx hb dX8_applies_9 rfl (lv_at hl 2 rfl) ?_
  refine xa_iald (pc := 10) hx hb hK hP 1 0 rfl rfl (by omega) (by omega) dX8_applies_10 ?_
  refine lv_istore_n (pc := 11) (lv' := [(3, .int (nI (dgt p1))), (0, .ref hm), (1, .int (nI rl)), (2, .int (nI p1))]) hx hb dX8_applies_11 rfl hl (by decide) rfl (fun ls hl => ?_)
  refine lv_iload_n (pc := 12) hx hb dX8_applies_12 rfl (lv_at hl 0 rfl) ?_
  refine lv_bipush (pc := 13) (v := (nI (6))) hx hb dX8_applies_13 (by decide) ?_
  refine xn_icmp_ge (pc := 15) (tgt := 20) hx hb (by omega) (by omega) dX8_applies_15 (by decide) (fun c15 => ?_) (fun c15 => ?_)
  · refine lv_iload_n (pc := 20) hx hb dX8_applies_20 rfl (lv_at hl 3 rfl) ?_
    refine lv_iconst (pc := 21) (v := (nI (1))) hx hb dX8_applies_21 (by decide) ?_
    refine xn_iadd (pc := 22) hx hb  dX8_applies_22 ?_
    refine lv_istore (pc := 23) (lv' := [(4, .int (nI (p1 + 1))), (3, .int (nI (dgt p1))), (0, .ref hm), (1, .int (nI rl)), (2, .int (nI p1))]) hx hb dX8_applies_23 hl (by decide) rfl (fun ls hl => ?_)
    refine lv_iload_n (pc := 25) hx hb dX8_applies_25 rfl (lv_at hl 1 rfl) ?_
    refine lv_bipush (pc := 26) (v := (nI (8))) hx hb dX8_applies_26 (by decide) ?_
    refine xn_icmp_ne (pc := 28) (tgt := 41) hx hb (by omega) (by omega) dX8_applies_28 (by decide) (fun c28 => ?_) (fun c28 => ?_)
    · refine lv_iload_n (pc := 41) hx hb dX8_applies_41 rfl (lv_at hl 1 rfl) ?_
      refine lv_bipush (pc := 42) (v := (nI (6))) hx hb dX8_applies_42 (by decide) ?_
      refine xn_icmp_ne (pc := 44) (tgt := 63) hx hb (by omega) (by omega) dX8_applies_44 (by decide) (fun c44 => ?_) (fun c44 => ?_)
      · have ht := tv.two hp1 (by omega)
        refine lv_aload_n (pc := 63) hx hb dX8_applies_63 rfl (lv_at hl 2 rfl) ?_
        refine lv_iload_n (pc := 64) hx hb dX8_applies_64 rfl (lv_at hl 3 rfl) ?_
        refine lv_iload (pc := 65) hx hb dX8_applies_65 (lv_at hl 0 rfl) ?_
        refine lv_aload_n (pc := 67) hx hb dX8_applies_67 rfl (lv_at hl 2 rfl) ?_
        refine lv_iload (pc := 68) hx hb dX8_applies_68 (lv_at hl 0 rfl) ?_
        refine vp_callSi (pc := 70) (W.runV (As := [.int (nI (p1 + 1))]) (rest := [.int (nI (p1 + 1)), .int (nI rl), .ref hm]) ⟨hx, hb, hml, hown, hts⟩ (c_X8_endOf l D cI cL cZ hm am n pos cmp que dsz 0 cur stp met bst dgt E N (p1 + 1) tv (by omega)) (cwV 1 hts gX8_applies_X8_endOf rfl rfl rfl (by decide +kernel) ⟨Nat.le_of_ble_eq_true rfl, Nat.le_of_ble_eq_true rfl⟩) (rP_V (wc := [(hm, .inr (6, oM am n pos cmp que dsz 0 cur stp met bst)), (am 1, .inl (cI, 18, .inl (nA dgt)))]) (ci := 6) (q0 := 0) hK hP [0, 1] rfl rfl rfl) rfl rfl hl.1 rfl (lv_room (Nat.le_of_ble_eq_true rfl)) dX8_applies_70 ⟨Nat.zero_le _, Nat.zero_le _⟩) (fun r hrr => ?_)
        rw [hrr]
        refine xm_calli (pc := 73) (wc := [(hm, .inr (6, oM am n pos cmp que dsz 0 cur stp met bst)), (am 1, .inl (cI, 18, .inl (nA dgt))), (am 20, .inl (cI, 36, .inl (nA rt)))]) (wr := []) (va_runV (As := [.int (nI rl), .int (nI (p1 + 1)), .int (nI (E (p1 + 1)))]) (rest := []) ⟨hx, hb, hml, hown, hts⟩ (c_X8_concatenationRule l D cI cL cZ H.size hm am n pos cmp que dsz 0 cur stp met bst dgt E N rt rl (p1 + 1) (E (p1 + 1)) tv hrl (by omega) (by omega) rfl hL0) (cwV 3 hts gX8_applies_X8_concatenationRule rfl rfl rfl (by decide +kernel) ⟨Nat.le_of_ble_eq_true rfl, Nat.le_of_ble_eq_true rfl⟩) (mP_V (wc := [(hm, .inr (6, oM am n pos cmp que dsz 0 cur stp met bst)), (am 1, .inl (cI, 18, .inl (nA dgt))), (am 20, .inl (cI, 36, .inl (nA rt)))]) (ci := 6) (q0 := 0) hK hP hD [0, 1, 2] (by decide) rfl rfl rfl) rfl rfl hl.1 rfl (lv_room (Nat.le_of_ble_eq_true rfl)) dX8_applies_73 ⟨Nat.zero_le _, Nat.zero_le _⟩) hP hD hS hA [0, 1, 2] [] rfl rfl (by decide) (by decide) (fun r u H locs hw hP hD hS => ?_)
        obtain ⟨mad2_73, rt2_73⟩ := u
        have hP : va_P D vwCl [(hm, .inr (6, oM am n pos cmp que dsz mad2_73 cur stp met bst)), (am 1, .inl (cI, 18, .inl (nA dgt))), (am 20, .inl (cI, 36, .inl (nA rt2_73)))] H := hP
        have hD : va_D _ [(hm, .inr (6, oM am n pos cmp que dsz mad2_73 cur stp met bst)), (am 1, .inl (cI, 18, .inl (nA dgt))), (am 20, .inl (cI, 36, .inl (nA rt2_73)))] := hD
        try dsimp only at hw
        obtain ⟨hrr, hw73⟩ := hw
        rw [hrr]
        have hU : rR dgt E rl p1 = (rCt dgt E rl (p1 + 1) (E (p1 + 1))) := by first | (simp [rR, c15, c28, c44]; done) | (simp [rR, c15, c28, c44]; intro h; omega)
        have hP9 : va_P D vwCl [(hm, .inr (6, oM am n pos cmp que dsz mad2_73 cur stp met bst)), (am 1, .inl (cI, 18, .inl (nA dgt))), (am 20, .inl (cI, 36, .inl (nA rt2_73)))] H := hP.sub [0, 1, 2] rfl
        have hD9 : va_D _ [(hm, .inr (6, oM am n pos cmp que dsz mad2_73 cur stp met bst)), (am 1, .inl (cI, 18, .inl (nA dgt))), (am 20, .inl (cI, 36, .inl (nA rt2_73)))] := hD.sub [0, 1, 2] (by decide) rfl
        exact W.zret (pc := 76) (v := (nI (pN ((rCt dgt E rl (p1 + 1) (E (p1 + 1))).isSome = true)))) (ty := .boolean) hx hb hr pN_nar (fun t ht hW => ⟨⟨_, (mad2_73, rt2_73), rfl, ⟨(by first | (rw [hU]; done) | (rw [hU]; rfl)), (by rw [hU]; exact hw73)⟩, by rw [ht]; exact hP9, va_K.moved hW.alike hK, hD9⟩, hS.F ht⟩) hS.2.2 dX8_applies_76
      · have ht := tv.two hp1 (Or.inl c44)
        refine lv_aload_n (pc := 47) hx hb dX8_applies_47 rfl (lv_at hl 2 rfl) ?_
        refine lv_iload_n (pc := 48) hx hb dX8_applies_48 rfl (lv_at hl 3 rfl) ?_
        refine lv_iload (pc := 49) hx hb dX8_applies_49 (lv_at hl 0 rfl) ?_
        refine lv_aload_n (pc := 51) hx hb dX8_applies_51 rfl (lv_at hl 2 rfl) ?_
        refine lv_iload (pc := 52) hx hb dX8_applies_52 (lv_at hl 0 rfl) ?_
        refine vp_callSi (pc := 54) (W.runV (As := [.int (nI (p1 + 1))]) (rest := [.int (nI (p1 + 1)), .int (nI rl), .ref hm]) ⟨hx, hb, hml, hown, hts⟩ (c_X8_endOf l D cI cL cZ hm am n pos cmp que dsz 0 cur stp met bst dgt E N (p1 + 1) tv (by omega)) (cwV 1 hts gX8_applies_X8_endOf rfl rfl rfl (by decide +kernel) ⟨Nat.le_of_ble_eq_true rfl, Nat.le_of_ble_eq_true rfl⟩) (rP_V (wc := [(hm, .inr (6, oM am n pos cmp que dsz 0 cur stp met bst)), (am 1, .inl (cI, 18, .inl (nA dgt)))]) (ci := 6) (q0 := 0) hK hP [0, 1] rfl rfl rfl) rfl rfl hl.1 rfl (lv_room (Nat.le_of_ble_eq_true rfl)) dX8_applies_54 ⟨Nat.zero_le _, Nat.zero_le _⟩) (fun r hrr => ?_)
        rw [hrr]
        refine xm_calli (pc := 57) (wc := [(hm, .inr (6, oM am n pos cmp que dsz 0 cur stp met bst)), (am 1, .inl (cI, 18, .inl (nA dgt))), (am 20, .inl (cI, 36, .inl (nA rt)))]) (wr := []) (va_runV (As := [.int (nI rl), .int (nI (p1 + 1)), .int (nI (E (p1 + 1)))]) (rest := []) ⟨hx, hb, hml, hown, hts⟩ (c_X8_unionRule l D cI cL cZ H.size hm am n pos cmp que dsz 0 cur stp met bst dgt E N rt rl (p1 + 1) (E (p1 + 1)) tv hrl (by omega) (by omega) rfl hL0) (cwV 3 hts gX8_applies_X8_unionRule rfl rfl rfl (by decide +kernel) ⟨Nat.le_of_ble_eq_true rfl, Nat.le_of_ble_eq_true rfl⟩) (mP_V (wc := [(hm, .inr (6, oM am n pos cmp que dsz 0 cur stp met bst)), (am 1, .inl (cI, 18, .inl (nA dgt))), (am 20, .inl (cI, 36, .inl (nA rt)))]) (ci := 6) (q0 := 0) hK hP hD [0, 1, 2] (by decide) rfl rfl rfl) rfl rfl hl.1 rfl (lv_room (Nat.le_of_ble_eq_true rfl)) dX8_applies_57 ⟨Nat.zero_le _, Nat.zero_le _⟩) hP hD hS hA [0, 1, 2] [] rfl rfl (by decide) (by decide) (fun r u H locs hw hP hD hS => ?_)
        obtain ⟨mad2_57, rt2_57⟩ := u
        have hP : va_P D vwCl [(hm, .inr (6, oM am n pos cmp que dsz mad2_57 cur stp met bst)), (am 1, .inl (cI, 18, .inl (nA dgt))), (am 20, .inl (cI, 36, .inl (nA rt2_57)))] H := hP
        have hD : va_D _ [(hm, .inr (6, oM am n pos cmp que dsz mad2_57 cur stp met bst)), (am 1, .inl (cI, 18, .inl (nA dgt))), (am 20, .inl (cI, 36, .inl (nA rt2_57)))] := hD
        try dsimp only at hw
        obtain ⟨hrr, hw57⟩ := hw
        rw [hrr]
        refine lv_goto (pc := 60) (tgt := 76) hx hb dX8_applies_60 (by decide) ?_
        have hU : rR dgt E rl p1 = (rU dgt E rl (p1 + 1) (E (p1 + 1))) := by first | (simp [rR, c15, c28, c44]; done) | (simp [rR, c15, c28, c44]; intro h; omega)
        have hP9 : va_P D vwCl [(hm, .inr (6, oM am n pos cmp que dsz mad2_57 cur stp met bst)), (am 1, .inl (cI, 18, .inl (nA dgt))), (am 20, .inl (cI, 36, .inl (nA rt2_57)))] H := hP.sub [0, 1, 2] rfl
        have hD9 : va_D _ [(hm, .inr (6, oM am n pos cmp que dsz mad2_57 cur stp met bst)), (am 1, .inl (cI, 18, .inl (nA dgt))), (am 20, .inl (cI, 36, .inl (nA rt2_57)))] := hD.sub [0, 1, 2] (by decide) rfl
        exact W.zret (pc := 76) (v := (nI (pN ((rU dgt E rl (p1 + 1) (E (p1 + 1))).isSome = true)))) (ty := .boolean) hx hb hr pN_nar (fun t ht hW => ⟨⟨_, (mad2_57, rt2_57), rfl, ⟨(by first | (rw [hU]; done) | (rw [hU]; rfl)), (by rw [hU]; exact hw57)⟩, by rw [ht]; exact hP9, va_K.moved hW.alike hK, hD9⟩, hS.F ht⟩) hS.2.2 dX8_applies_76
    · have ho := tv.one hp1 c28
      refine lv_aload_n (pc := 31) hx hb dX8_applies_31 rfl (lv_at hl 2 rfl) ?_
      refine lv_iload_n (pc := 32) hx hb dX8_applies_32 rfl (lv_at hl 3 rfl) ?_
      refine lv_iload (pc := 33) hx hb dX8_applies_33 (lv_at hl 0 rfl) ?_
      refine xm_calli (pc := 35) (wc := [(hm, .inr (6, oM am n pos cmp que dsz 0 cur stp met bst)), (am 1, .inl (cI, 18, .inl (nA dgt))), (am 20, .inl (cI, 36, .inl (nA rt)))]) (wr := []) (va_runV (As := [.int (nI rl), .int (nI (p1 + 1))]) (rest := []) ⟨hx, hb, hml, hown, hts⟩ (c_X8_starRule l D cI cL cZ H.size hm am n pos cmp que dsz 0 cur stp met bst dgt E N rt rl (p1 + 1) tv hrl (by omega) hL0) (cwV 2 hts gX8_applies_X8_starRule rfl rfl rfl (by decide +kernel) ⟨Nat.le_of_ble_eq_true rfl, Nat.le_of_ble_eq_true rfl⟩) (mP_V (wc := [(hm, .inr (6, oM am n pos cmp que dsz 0 cur stp met bst)), (am 1, .inl (cI, 18, .inl (nA dgt))), (am 20, .inl (cI, 36, .inl (nA rt)))]) (ci := 6) (q0 := 0) hK hP hD [0, 1, 2] (by decide) rfl rfl rfl) rfl rfl hl.1 rfl (lv_room (Nat.le_of_ble_eq_true rfl)) dX8_applies_35 ⟨Nat.zero_le _, Nat.zero_le _⟩) hP hD hS hA [0, 1, 2] [] rfl rfl (by decide) (by decide) (fun r u H locs hw hP hD hS => ?_)
      obtain ⟨mad2_35, rt2_35⟩ := u
      have hP : va_P D vwCl [(hm, .inr (6, oM am n pos cmp que dsz mad2_35 cur stp met bst)), (am 1, .inl (cI, 18, .inl (nA dgt))), (am 20, .inl (cI, 36, .inl (nA rt2_35)))] H := hP
      have hD : va_D _ [(hm, .inr (6, oM am n pos cmp que dsz mad2_35 cur stp met bst)), (am 1, .inl (cI, 18, .inl (nA dgt))), (am 20, .inl (cI, 36, .inl (nA rt2_35)))] := hD
      try dsimp only at hw
      obtain ⟨hrr, hw35⟩ := hw
      rw [hrr]
      refine lv_goto (pc := 38) (tgt := 76) hx hb dX8_applies_38 (by decide) ?_
      have hU : rR dgt E rl p1 = (rS dgt E rl (p1 + 1)) := by first | (simp [rR, c15, c28]; done) | (simp [rR, c15, c28]; intro h; omega)
      have hP9 : va_P D vwCl [(hm, .inr (6, oM am n pos cmp que dsz mad2_35 cur stp met bst)), (am 1, .inl (cI, 18, .inl (nA dgt))), (am 20, .inl (cI, 36, .inl (nA rt2_35)))] H := hP.sub [0, 1, 2] rfl
      have hD9 : va_D _ [(hm, .inr (6, oM am n pos cmp que dsz mad2_35 cur stp met bst)), (am 1, .inl (cI, 18, .inl (nA dgt))), (am 20, .inl (cI, 36, .inl (nA rt2_35)))] := hD.sub [0, 1, 2] (by decide) rfl
      exact W.zret (pc := 76) (v := (nI (pN ((rS dgt E rl (p1 + 1)).isSome = true)))) (ty := .boolean) hx hb hr pN_nar (fun t ht hW => ⟨⟨_, (mad2_35, rt2_35), rfl, ⟨(by first | (rw [hU]; done) | (rw [hU]; rfl)), (by rw [hU]; exact hw35)⟩, by rw [ht]; exact hP9, va_K.moved hW.alike hK, hD9⟩, hS.F ht⟩) hS.2.2 dX8_applies_76
  · refine lv_iconst (pc := 18) (v := (nI (0))) hx hb dX8_applies_18 (by decide) ?_
    have hU : rR dgt E rl p1 = none := by first | (simp [rR, c15]; done) | (simp [rR, c15]; intro h; omega)
    have hP9 : va_P D vwCl [(hm, .inr (6, oM am n pos cmp que dsz 0 cur stp met bst)), (am 1, .inl (cI, 18, .inl (nA dgt))), (am 20, .inl (cI, 36, .inl (nA rt)))] H := hP.sub [0, 1, 2] rfl
    have hD9 : va_D _ [(hm, .inr (6, oM am n pos cmp que dsz 0 cur stp met bst)), (am 1, .inl (cI, 18, .inl (nA dgt))), (am 20, .inl (cI, 36, .inl (nA rt)))] := hD.sub [0, 1, 2] (by decide) rfl
    exact W.zret (pc := 19) (v := (nI (0))) (ty := .boolean) hx hb hr (by decide) (fun t ht hW => ⟨⟨_, (0, rt), rfl, ⟨(by first | (rw [hU]; done) | (rw [hU]; rfl)), (by rw [hU]; exact hL0)⟩, by rw [ht]; exact hP9, va_K.moved hW.alike hK, hD9⟩, hS.F ht⟩) hS.2.2 dX8_applies_19
set_option maxHeartbeats 4000000 in
set_option maxRecDepth 100000 in
theorem c_X8_replaced (l : Launch) (D : va_G) (cI cL cZ : ClassId) (hm : Nat) (am : Nat → Nat) (n : Nat) (pos : Nat) (cmp : Nat) (que : Nat) (dsz : Nat) (mad : Nat) (cur : Nat) (stp : Nat) (met : Nat) (bst : Nat) (dgt : Nat → Nat) (E : Nat → Nat) (N : Nat) (rt : Nat → Nat) (L : List Nat) (p1 : Nat) (tv : TV dgt E N) (hp1 : p1 < N) (hnN : n = N) (hL : RT rt mad L) (h8 : D8 L) (h36 : L.length ≤ 36) : Met l yX8_replaced wsX8_replaced { frames := 1, cells := 0, slots := 0, locals := 23 } (rP D (tyL cI cL cZ) [(hm, .inr (6, oM am n pos cmp que dsz mad cur stp met bst)), (am 1, .inl (cI, 18, .inl (nA dgt))), (am 20, .inl (cI, 36, .inl (nA rt)))] [.ref hm, .int (nI p1)]) (vp_Sl (fun r => r = (lN (num (sub dgt 0 p1 ++ L ++ sub dgt (E p1) N))))) 0 0 (fun _ => False) := by
  refine Met.ofW (cc := cX8_replaced) (maxL := 6) (ret := (some .long)) (by decide) rfl ?_
  intro pG eG s mG args below meth cG s₁ B hml hpre9
  obtain ⟨rfl, hP, hK⟩ := hpre9
  have hx := B.exec
  have hb := B.bytes
  have hr := B.returns
  have hts := atoms_spec (ws := wsX8_replaced) B.pre
  have hown : s.vm.findClass RX8 = some mG.cls := findClass_of_methodNamed B.named
  have hlocks := B.notSynchronized
  have hS : va_S (fun _ => False) s.heap s.heap [] := va_S.rf
  have hinX8 : ∀ w ∈ wsX80, w ∈ wsX8_replaced := fun w HH => (List.mem_cons_of_mem _ (List.mem_append_right _ HH))
  have lk0 : (Cond.fieldLink RX8 146 "RegexSimplifierModel" "made" "I").before _ s = true := hts _ (List.mem_cons_of_mem _ (List.mem_append_left _ (List.mem_of_getElem? (i := 2) rfl)))
  have lk1 : (Cond.fieldLink RX8 78 "RegexSimplifierModel" "n" "I").before _ s = true := hts _ (List.mem_cons_of_mem _ (List.mem_append_left _ (List.mem_of_getElem? (i := 4) rfl)))
  have lk2 : (Cond.constantLong RX8 82 (10)).before _ s = true := hts _ (List.mem_cons_of_mem _ (List.mem_append_left _ (List.mem_of_getElem? (i := 0) rfl)))
  have lk3 : (Cond.fieldLink RX8 7 "RegexSimplifierModel" "digit" "[I").before _ s = true := hts _ (List.mem_cons_of_mem _ (List.mem_append_left _ (List.mem_of_getElem? (i := 1) rfl)))
  have lk4 : (Cond.fieldLink RX8 55 "RegexSimplifierModel" "right" "[I").before _ s = true := hts _ (List.mem_cons_of_mem _ (List.mem_append_left _ (List.mem_of_getElem? (i := 3) rfl)))
  have hl := lv_entry ([.ref hm, .int (nI p1)]) (n := 6) (Nat.le_of_ble_eq_true rfl)
  rw [lg_entry_eq]
  generalize (lg_sl ([.ref hm, .int (nI p1)]) ++ List.replicate (6 - (lg_sl ([.ref hm, .int (nI p1)])).length) Slot.unset).toArray = ls at hl ⊢
  have hl : lv_has ls 6 [(0, .ref hm), (1, .int (nI p1))] := hl
  have hn18 := tv.n18
  have hqp := tv.q hp1
  have hmad := hL.1
  refine lv_lconst (pc := 0) (v := (lN (0))) hx hb dX8_replaced_0 (by decide) ?_
  refine lv_lstore_n (pc := 1) (lv' := [(2, .long (lN 0)), (0, .ref hm), (1, .int (nI p1))]) hx hb dX8_replaced_1 rfl hl (by decide) rfl (fun ls hl => ?_)
  refine lv_aload_n (pc := 2) hx hb dX8_replaced_2 rfl (lv_at hl 1 rfl) ?_
  refine lv_iload_n (pc := 3) hx hb dX8_replaced_3 rfl (lv_at hl 2 rfl) ?_
  refine vp_callSi (pc := 4) (W.runV (As := [.int (nI p1)]) (rest := []) ⟨hx, hb, hml, hown, hts⟩ (c_X8_endOf l D cI cL cZ hm am n pos cmp que dsz mad cur stp met bst dgt E N p1 tv (by omega)) (cwV 1 hts gX8_replaced_X8_endOf rfl rfl rfl (by decide +kernel) ⟨Nat.le_of_ble_eq_true rfl, Nat.le_of_ble_eq_true rfl⟩) (rP_V (wc := [(hm, .inr (6, oM am n pos cmp que dsz mad cur stp met bst)), (am 1, .inl (cI, 18, .inl (nA dgt)))]) (ci := 6) (q0 := 0) hK hP [0, 1] rfl rfl rfl) rfl rfl hl.1 rfl (lv_room (Nat.le_of_ble_eq_true rfl)) dX8_replaced_4 ⟨Nat.zero_le _, Nat.zero_le _⟩) (fun r hrr => ?_)
  rw [hrr]
  refine lv_istore (pc := 7) (lv' := [(4, .int (nI (E p1))), (2, .long (lN 0)), (0, .ref hm), (1, .int (nI p1))]) hx hb dX8_replaced_7 hl (by decide) rfl (fun ls hl => ?_)
  refine lv_iconst (pc := 9) (v := (nI (0))) hx hb dX8_replaced_9 (by decide) ?_
  refine lv_istore (pc := 10) (lv' := [(5, .int (nI 0)), (4, .int (nI (E p1))), (2, .long (lN 0)), (0, .ref hm), (1, .int (nI p1))]) hx hb dX8_replaced_10 hl (by decide) rfl (fun ls hl => ?_)
  have loop12 : ∀ (fuel : Nat) (k : Nat) (ls : Array Slot), p1 - k < fuel → (k ≤ p1) → lv_has ls 6 [(0, .ref hm), (1, .int (nI p1)), (2, .long (lN (num (sub dgt 0 k)))), (4, .int (nI (E p1))), (5, .int (nI k))] → W pG l eG (headSpec wsX8_replaced { frames := 1, cells := 0, slots := 0, locals := 23 }).room s mG [.ref hm, .int (nI p1)].toArray below meth cG s.heap [] 0 0 (MQ below (vp_Sl (fun r => r = (lN (num (sub dgt 0 p1 ++ L ++ sub dgt (E p1) N))))) [.ref hm, .int (nI p1)].toArray s 0 0 (fun _ => False)) (F0 mG 12 ls []) := by
    intro fuel
    induction fuel with
    | zero => intro k ls hmeas i1 hl; exact absurd hmeas (Nat.not_lt_zero _)
    | succ fuel ih12 =>
      intro k ls hmeas i1 hl
      refine lv_iload (pc := 12) hx hb dX8_replaced_12 (lv_at hl 4 rfl) ?_
      refine lv_iload_n (pc := 14) hx hb dX8_replaced_14 rfl (lv_at hl 1 rfl) ?_
      refine xn_icmp_ge (pc := 15) (tgt := 39) hx hb (by omega) (by omega) dX8_replaced_15 (by decide) (fun c15 => ?_) (fun c15 => ?_)
      · refine lv_iconst (pc := 39) (v := (nI (0))) hx hb dX8_replaced_39 (by decide) ?_
        refine lv_istore (pc := 40) (lv' := [(5, .int (nI 0)), (0, .ref hm), (1, .int (nI p1)), (2, .long (lN (num (sub dgt 0 k)))), (4, .int (nI (E p1)))]) hx hb dX8_replaced_40 hl (by decide) rfl (fun ls hl => ?_)
        have loop42 : ∀ (fuel : Nat) (k : Nat) (ls : Array Slot), mad - k < fuel → (k ≤ mad) → lv_has ls 6 [(0, .ref hm), (1, .int (nI p1)), (2, .long (lN (num (sub dgt 0 p1 ++ L.take k)))), (4, .int (nI (E p1))), (5, .int (nI k))] → W pG l eG (headSpec wsX8_replaced { frames := 1, cells := 0, slots := 0, locals := 23 }).room s mG [.ref hm, .int (nI p1)].toArray below meth cG s.heap [] 0 0 (MQ below (vp_Sl (fun r => r = (lN (num (sub dgt 0 p1 ++ L ++ sub dgt (E p1) N))))) [.ref hm, .int (nI p1)].toArray s 0 0 (fun _ => False)) (F0 mG 42 ls []) := by
          intro fuel
          induction fuel with
          | zero => intro k ls hmeas i2 hl; exact absurd hmeas (Nat.not_lt_zero _)
          | succ fuel ih42 =>
            intro k ls hmeas i2 hl
            refine lv_iload (pc := 42) hx hb dX8_replaced_42 (lv_at hl 4 rfl) ?_
            refine lv_aload_n (pc := 44) hx hb dX8_replaced_44 rfl (lv_at hl 0 rfl) ?_
            refine va_get (pc := 45) (D := D) (ci := 6) (v := .int (nI mad)) (C := RX8) (T := TX8) (N := 30) hx hb hts hinX8 hown hK hP 0 rfl rfl 19 (by decide) lk0 (fun _ h9 => h9) rfl dX8_replaced_45 ?_
            refine xn_icmp_ge (pc := 48) (tgt := 72) hx hb (by omega) (by omega) dX8_replaced_48 (by decide) (fun c48 => ?_) (fun c48 => ?_)
            · refine lv_iload (pc := 72) hx hb dX8_replaced_72 (lv_at hl 3 rfl) ?_
              refine lv_istore (pc := 74) (lv' := [(5, .int (nI (E p1))), (0, .ref hm), (1, .int (nI p1)), (2, .long (lN (num (sub dgt 0 p1 ++ L.take k)))), (4, .int (nI (E p1)))]) hx hb dX8_replaced_74 hl (by decide) rfl (fun ls hl => ?_)
              have loop76 : ∀ (fuel : Nat) (k : Nat) (ls : Array Slot), N - k < fuel → (E p1 ≤ k) → (k ≤ N) → lv_has ls 6 [(0, .ref hm), (1, .int (nI p1)), (2, .long (lN (num (sub dgt 0 p1 ++ L ++ sub dgt (E p1) k)))), (4, .int (nI (E p1))), (5, .int (nI k))] → W pG l eG (headSpec wsX8_replaced { frames := 1, cells := 0, slots := 0, locals := 23 }).room s mG [.ref hm, .int (nI p1)].toArray below meth cG s.heap [] 0 0 (MQ below (vp_Sl (fun r => r = (lN (num (sub dgt 0 p1 ++ L ++ sub dgt (E p1) N))))) [.ref hm, .int (nI p1)].toArray s 0 0 (fun _ => False)) (F0 mG 76 ls []) := by
                intro fuel
                induction fuel with
                | zero => intro k ls hmeas i3 i4 hl; exact absurd hmeas (Nat.not_lt_zero _)
                | succ fuel ih76 =>
                  intro k ls hmeas i3 i4 hl
                  refine lv_iload (pc := 76) hx hb dX8_replaced_76 (lv_at hl 4 rfl) ?_
                  refine lv_aload_n (pc := 78) hx hb dX8_replaced_78 rfl (lv_at hl 0 rfl) ?_
                  refine va_get (pc := 79) (D := D) (ci := 6) (v := .int (nI n)) (C := RX8) (T := TX8) (N := 30) hx hb hts hinX8 hown hK hP 0 rfl rfl 0 (by decide) lk1 (fun _ h9 => h9) rfl dX8_replaced_79 ?_
                  refine xn_icmp_ge (pc := 82) (tgt := 106) hx hb (by omega) (by omega) dX8_replaced_82 (by decide) (fun c82 => ?_) (fun c82 => ?_)
                  · refine lv_lload_n (pc := 106) hx hb dX8_replaced_106 rfl (lv_at hl 2 rfl) ?_
                    exact W.lret (pc := 107) (v := (lN (num (sub dgt 0 p1 ++ L ++ sub dgt (E p1) k)))) hx hb hr (fun t ht _ => ⟨_, rfl, (by rw [show N = k from by omega]), ht⟩) (fun _ h => absurd h List.not_mem_nil) dX8_replaced_107
                  · refine lv_ldc2 (pc := 85) (v := (lN (10))) hx hb hown lk2 dX8_replaced_85 ?_
                    refine lv_lload_n (pc := 88) hx hb dX8_replaced_88 rfl (lv_at hl 2 rfl) ?_
                    refine xn_lmul (pc := 89) hx hb  dX8_replaced_89 ?_
                    refine lv_aload_n (pc := 90) hx hb dX8_replaced_90 rfl (lv_at hl 0 rfl) ?_
                    refine va_get (pc := 91) (D := D) (ci := 6) (v := .ref (am 1)) (C := RX8) (T := TX8) (N := 30) hx hb hts hinX8 hown hK hP 0 rfl rfl 1 (by decide) lk3 (fun _ h9 => h9) rfl dX8_replaced_91 ?_
                    refine lv_iload (pc := 94) hx hb dX8_replaced_94 (lv_at hl 4 rfl) ?_
                    refine xa_iald (pc := 96) hx hb hK hP 1 0 rfl rfl (by omega) (by omega) dX8_replaced_96 ?_
                    have hdk := tv.q (show k < N by omega)
                    refine xn_i2l (pc := 97) hx hb (by omega) dX8_replaced_97 ?_
                    refine xn_ladd (pc := 98) hx hb  dX8_replaced_98 ?_
                    refine lv_lstore_n (pc := 99) (lv' := [(2, .long (lN ((10 * (num (sub dgt 0 p1 ++ L ++ sub dgt (E p1) k))) + (dgt k)))), (0, .ref hm), (1, .int (nI p1)), (4, .int (nI (E p1))), (5, .int (nI k))]) hx hb dX8_replaced_99 rfl hl (by decide) rfl (fun ls hl => ?_)
                    have hl : lv_has ls 6 [(2, .long (lN (num (sub dgt 0 p1 ++ L ++ sub dgt (E p1) (k + 1))))), (0, .ref hm), (1, .int (nI p1)), (4, .int (nI (E p1))), (5, .int (nI k))] := by have hq : (lN ((10 * (num (sub dgt 0 p1 ++ L ++ sub dgt (E p1) k))) + (dgt k))) = (lN (num (sub dgt 0 p1 ++ L ++ sub dgt (E p1) (k + 1)))) := congrArg lN (by rw [sub_snoc dgt i3, ← List.append_assoc, num_snoc]; omega); first | (rw [← hq]; exact hl) | (rw [hq] at hl; exact hl)
                    refine lv_iinc (pc := 100) (v := (nI (k + 1))) (lv' := [(5, .int (nI (k + 1))), (2, .long (lN (num (sub dgt 0 p1 ++ L ++ sub dgt (E p1) (k + 1))))), (0, .ref hm), (1, .int (nI p1)), (4, .int (nI (E p1)))]) hx hb dX8_replaced_100 hl (k := 4) rfl (nI_incr _) (by decide) rfl (fun ls hl => ?_)
                    refine lv_goto (pc := 103) (tgt := 76) hx hb dX8_replaced_103 (by decide) ?_
                    exact ih76 (k + 1) ls (by omega) (by omega) (by omega) (lv_sub hl [2, 3, 1, 4, 0] rfl)
              have hl : lv_has ls 6 [(5, .int (nI (E p1))), (0, .ref hm), (1, .int (nI p1)), (2, .long (lN (num (sub dgt 0 p1 ++ L ++ sub dgt (E p1) (E p1))))), (4, .int (nI (E p1)))] := by have hq : (lN (num (sub dgt 0 p1 ++ L.take k))) = (lN (num (sub dgt 0 p1 ++ L ++ sub dgt (E p1) (E p1)))) := congrArg lN (by rw [sub_nil _ (Nat.le_refl _), List.append_nil, List.take_of_length_le (by omega)]); first | (rw [← hq]; exact hl) | (rw [hq] at hl; exact hl)
              exact loop76 (_ + 1) (E p1) ls (Nat.lt_succ_self _) (by omega) (by omega) (lv_sub hl [1, 2, 3, 4, 0] rfl)
            · refine lv_ldc2 (pc := 51) (v := (lN (10))) hx hb hown lk2 dX8_replaced_51 ?_
              refine lv_lload_n (pc := 54) hx hb dX8_replaced_54 rfl (lv_at hl 2 rfl) ?_
              refine xn_lmul (pc := 55) hx hb  dX8_replaced_55 ?_
              refine lv_aload_n (pc := 56) hx hb dX8_replaced_56 rfl (lv_at hl 0 rfl) ?_
              refine va_get (pc := 57) (D := D) (ci := 6) (v := .ref (am 20)) (C := RX8) (T := TX8) (N := 30) hx hb hts hinX8 hown hK hP 0 rfl rfl 20 (by decide) lk4 (fun _ h9 => h9) rfl dX8_replaced_57 ?_
              refine lv_iload (pc := 60) hx hb dX8_replaced_60 (lv_at hl 4 rfl) ?_
              refine xa_iald (pc := 62) hx hb hK hP 2 0 rfl rfl (by omega) (by omega) dX8_replaced_62 ?_
              have hrk := hL.2 k (by omega)
              have hr8 := h8 _ (List.mem_of_getElem? hrk)
              refine xn_i2l (pc := 63) hx hb (by omega) dX8_replaced_63 ?_
              refine xn_ladd (pc := 64) hx hb  dX8_replaced_64 ?_
              refine lv_lstore_n (pc := 65) (lv' := [(2, .long (lN ((10 * (num (sub dgt 0 p1 ++ L.take k))) + (rt k)))), (0, .ref hm), (1, .int (nI p1)), (4, .int (nI (E p1))), (5, .int (nI k))]) hx hb dX8_replaced_65 rfl hl (by decide) rfl (fun ls hl => ?_)
              have hl : lv_has ls 6 [(2, .long (lN (num (sub dgt 0 p1 ++ L.take (k + 1))))), (0, .ref hm), (1, .int (nI p1)), (4, .int (nI (E p1))), (5, .int (nI k))] := by have hq : (lN ((10 * (num (sub dgt 0 p1 ++ L.take k))) + (rt k))) = (lN (num (sub dgt 0 p1 ++ L.take (k + 1)))) := congrArg lN (by rw [take_snoc hrk, ← List.append_assoc, num_snoc]; omega); first | (rw [← hq]; exact hl) | (rw [hq] at hl; exact hl)
              refine lv_iinc (pc := 66) (v := (nI (k + 1))) (lv' := [(5, .int (nI (k + 1))), (2, .long (lN (num (sub dgt 0 p1 ++ L.take (k + 1))))), (0, .ref hm), (1, .int (nI p1)), (4, .int (nI (E p1)))]) hx hb dX8_replaced_66 hl (k := 4) rfl (nI_incr _) (by decide) rfl (fun ls hl => ?_)
              refine lv_goto (pc := 69) (tgt := 42) hx hb dX8_replaced_69 (by decide) ?_
              exact ih42 (k + 1) ls (by omega) (by omega) (lv_sub hl [2, 3, 1, 4, 0] rfl)
        have hl : lv_has ls 6 [(5, .int (nI 0)), (0, .ref hm), (1, .int (nI p1)), (2, .long (lN (num (sub dgt 0 p1 ++ L.take 0)))), (4, .int (nI (E p1)))] := by have hq : (lN (num (sub dgt 0 k))) = (lN (num (sub dgt 0 p1 ++ L.take 0))) := congrArg lN (by rw [List.take_zero, List.append_nil, show k = p1 from by omega]); first | (rw [← hq]; exact hl) | (rw [hq] at hl; exact hl)
        exact loop42 (_ + 1) 0 ls (Nat.lt_succ_self _) (by omega) (lv_sub hl [1, 2, 3, 4, 0] rfl)
      · refine lv_ldc2 (pc := 18) (v := (lN (10))) hx hb hown lk2 dX8_replaced_18 ?_
        refine lv_lload_n (pc := 21) hx hb dX8_replaced_21 rfl (lv_at hl 2 rfl) ?_
        refine xn_lmul (pc := 22) hx hb  dX8_replaced_22 ?_
        refine lv_aload_n (pc := 23) hx hb dX8_replaced_23 rfl (lv_at hl 0 rfl) ?_
        refine va_get (pc := 24) (D := D) (ci := 6) (v := .ref (am 1)) (C := RX8) (T := TX8) (N := 30) hx hb hts hinX8 hown hK hP 0 rfl rfl 1 (by decide) lk3 (fun _ h9 => h9) rfl dX8_replaced_24 ?_
        refine lv_iload (pc := 27) hx hb dX8_replaced_27 (lv_at hl 4 rfl) ?_
        refine xa_iald (pc := 29) hx hb hK hP 1 0 rfl rfl (by omega) (by omega) dX8_replaced_29 ?_
        have hdk := tv.q (show k < N by omega)
        refine xn_i2l (pc := 30) hx hb (by omega) dX8_replaced_30 ?_
        refine xn_ladd (pc := 31) hx hb  dX8_replaced_31 ?_
        refine lv_lstore_n (pc := 32) (lv' := [(2, .long (lN ((10 * (num (sub dgt 0 k))) + (dgt k)))), (0, .ref hm), (1, .int (nI p1)), (4, .int (nI (E p1))), (5, .int (nI k))]) hx hb dX8_replaced_32 rfl hl (by decide) rfl (fun ls hl => ?_)
        have hl : lv_has ls 6 [(2, .long (lN (num (sub dgt 0 (k + 1))))), (0, .ref hm), (1, .int (nI p1)), (4, .int (nI (E p1))), (5, .int (nI k))] := by have hq : (lN ((10 * (num (sub dgt 0 k))) + (dgt k))) = (lN (num (sub dgt 0 (k + 1)))) := congrArg lN (by rw [sub_snoc dgt (Nat.zero_le k), num_snoc]; omega); first | (rw [← hq]; exact hl) | (rw [hq] at hl; exact hl)
        refine lv_iinc (pc := 33) (v := (nI (k + 1))) (lv' := [(5, .int (nI (k + 1))), (2, .long (lN (num (sub dgt 0 (k + 1))))), (0, .ref hm), (1, .int (nI p1)), (4, .int (nI (E p1)))]) hx hb dX8_replaced_33 hl (k := 4) rfl (nI_incr _) (by decide) rfl (fun ls hl => ?_)
        refine lv_goto (pc := 36) (tgt := 12) hx hb dX8_replaced_36 (by decide) ?_
        exact ih12 (k + 1) ls (by omega) (by omega) (lv_sub hl [2, 3, 1, 4, 0] rfl)
  have hl : lv_has ls 6 [(5, .int (nI 0)), (4, .int (nI (E p1))), (2, .long (lN (num (sub dgt 0 0)))), (0, .ref hm), (1, .int (nI p1))] := by have hq : (lN (0)) = (lN (num (sub dgt 0 0))) := congrArg lN (by rw [sub_nil _ (Nat.le_refl _)]; rfl); first | (rw [← hq]; exact hl) | (rw [hq] at hl; exact hl)
  exact loop12 (_ + 1) 0 ls (Nat.lt_succ_self _) (by omega) (lv_sub hl [3, 4, 2, 1, 0] rfl)
