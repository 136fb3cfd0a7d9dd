/-! the reference: the search -/
set_option maxHeartbeats 4000000 in
set_option maxRecDepth 100000 in
theorem c_X8_searches (l : Launch) (D : va_G) (cI cL cZ : ClassId) (sz : Nat) (hm : Nat) (am : Nat → Nat) (n : Nat) (pos : Nat) (cmp : Nat) (que : Nat) (dsz : Nat) (mad : Nat) (cur : Nat) (stp : Nat) (cn : Nat) (bst : Nat) (dgt : Nat → Nat) (rt : Nat → Nat) (mt : Nat → Nat) (ds : Nat → Nat) (hcur : okVb cur = true) : Met l yX8_searches wsX8_searches { frames := 7, cells := 0, slots := 0, locals := 168 } (mP D (tyL cI cL cZ) [(hm, .inr (6, oM am n pos cmp que dsz mad cur stp cn bst)), (am 1, .inl (cI, 18, .inl (nA dgt))), (am 20, .inl (cI, 36, .inl (nA rt))), (am 27, .inl (cL, 60, .inr (.inl (lA mt)))), (am 28, .inl (cI, 60, .inl (nA ds)))] sz [.ref hm]) (va_Qi (fun (r : Int32) (u : Nat × (Nat → Nat) × Nat × (Nat → Nat) × (Nat → Nat) × (Nat → Nat) × Nat × Nat) => r = (nI (pN (rnO (up mt 0 cur, up ds 0 0, 1) 60 = true))) ∧ (rnO (up mt 0 cur, up ds 0 0, 1) 60 = true → (u.2.2.2.2.1, u.2.2.2.2.2.1, u.2.2.2.2.2.2.1) = rnS (up mt 0 cur, up ds 0 0, 1) 60 ∧ okM u.2.2.2.2.1 u.2.2.2.2.2.2.1 ∧ u.2.2.2.2.2.2.2 = bsI u.2.2.2.2.1 u.2.2.2.2.2.2.1)) (fun (u : Nat × (Nat → Nat) × Nat × (Nat → Nat) × (Nat → Nat) × (Nat → Nat) × Nat × Nat) (t : State) => mB D (tyL cI cL cZ) (va_A [(hm, .inr (6, oM am n pos cmp que dsz mad cur stp cn bst)), (am 1, .inl (cI, 18, .inl (nA dgt))), (am 20, .inl (cI, 36, .inl (nA rt))), (am 27, .inl (cL, 60, .inr (.inl (lA mt)))), (am 28, .inl (cI, 60, .inl (nA ds)))] sz) [(hm, .inr (6, oM am (u.1) pos cmp que dsz (u.2.2.1) cur stp (u.2.2.2.2.2.2.1) (u.2.2.2.2.2.2.2))), (am 1, .inl (cI, 18, .inl (nA (u.2.1)))), (am 20, .inl (cI, 36, .inl (nA (u.2.2.2.1)))), (am 27, .inl (cL, 60, .inr (.inl (lA (u.2.2.2.2.1))))), (am 28, .inl (cI, 60, .inl (nA (u.2.2.2.2.2.1))))] t) (va_A [(hm, .inr (6, oM am n pos cmp que dsz mad cur stp cn bst)), (am 1, .inl (cI, 18, .inl (nA dgt))), (am 20, .inl (cI, 36, .inl (nA rt))), (am 27, .inl (cL, 60, .inr (.inl (lA mt)))), (am 28, .inl (cI, 60, .inl (nA ds)))] sz)) 0 0 (va_A [(hm, .inr (6, oM am n pos cmp que dsz mad cur stp cn bst)), (am 1, .inl (cI, 18, .inl (nA dgt))), (am 20, .inl (cI, 36, .inl (nA rt))), (am 27, .inl (cL, 60, .inr (.inl (lA mt)))), (am 28, .inl (cI, 60, .inl (nA ds)))] sz) := by
  refine Met.ofW (cc := cX8_searches) (maxL := 3) (ret := (some .boolean)) (by decide) rfl ?_
  intro pG eG s mG args below meth cG s₁ B hml hpre9
  obtain ⟨rfl, hsz, hP, hK, hD0⟩ := hpre9
  have hx := B.exec
  have hb := B.bytes
  have hr := B.returns
  have hts := atoms_spec (ws := wsX8_searches) B.pre
  have hown : s.vm.findClass RX8 = some mG.cls := findClass_of_methodNamed B.named
  have hlocks := B.notSynchronized
  subst hsz
  have hD := hD0.self (sz := s.heap.size)
  have hA : ∀ q : Nat, s.heap.size ≤ q → va_A [(hm, .inr (6, oM am n pos cmp que dsz mad cur stp cn bst)), (am 1, .inl (cI, 18, .inl (nA dgt))), (am 20, .inl (cI, 36, .inl (nA rt))), (am 27, .inl (cL, 60, .inr (.inl (lA mt)))), (am 28, .inl (cI, 60, .inl (nA ds)))] s.heap.size q := fun q h => Or.inr h
  have hS : va_S (va_A [(hm, .inr (6, oM am n pos cmp que dsz mad cur stp cn bst)), (am 1, .inl (cI, 18, .inl (nA dgt))), (am 20, .inl (cI, 36, .inl (nA rt))), (am 27, .inl (cL, 60, .inr (.inl (lA mt)))), (am 28, .inl (cI, 60, .inl (nA ds)))] s.heap.size) s.heap s.heap [] := va_S.rf
  have hinX8 : ∀ w ∈ wsX80, w ∈ wsX8_searches := fun w HH => (List.mem_cons_of_mem _ (List.mem_append_right _ HH))
  have lk0 : (Cond.fieldLink RX8 234 "RegexSimplifierModel" "met" "I").before _ s = true := hts _ (List.mem_cons_of_mem _ (List.mem_append_left _ (List.mem_append_left _ (List.mem_of_getElem? (i := 0) rfl))))
  have lk1 : (Cond.fieldLink RX8 74 "RegexSimplifierModel" "currentRegex" "J").before _ s = true := hts _ (List.mem_cons_of_mem _ (List.mem_append_left _ (List.mem_append_left _ (List.mem_of_getElem? (i := 1) rfl))))
  have lk2 : (Cond.fieldLink RX8 241 "RegexSimplifierModel" "best" "I").before _ s = true := hts _ (List.mem_cons_of_mem _ (List.mem_append_left _ (List.mem_append_left _ (List.mem_of_getElem? (i := 2) rfl))))
  have lk3 : (Cond.fieldLink RX8 78 "RegexSimplifierModel" "n" "I").before _ s = true := hts _ (List.mem_cons_of_mem _ (List.mem_append_left _ (List.mem_append_left _ (List.mem_of_getElem? (i := 3) rfl))))
  have hl := lv_entry ([.ref hm]) (n := 3) (Nat.le_of_ble_eq_true rfl)
  rw [lg_entry_eq]
  generalize (lg_sl ([.ref hm]) ++ List.replicate (3 - (lg_sl ([.ref hm])).length) Slot.unset).toArray = ls at hl ⊢
  have hl : lv_has ls 3 [(0, .ref hm)] := hl
  have hc18 := (okVb_iff.mp hcur).2.1
  have hcv : xv (lN cur) = cur := xv_lN (Nat.lt_trans hc18 pow18)
  have h18 := (dc_lt hc18).2
  refine lv_aload_n (pc := 0) hx hb dX8_searches_0 rfl (lv_at hl 0 rfl) ?_
  refine lv_iconst (pc := 1) (v := (nI (0))) hx hb dX8_searches_1 (by decide) ?_
  refine va_put (pc := 2) (D := D) (ci := 6) (v := .int (nI 0)) (ty := .int) (C := RX8) (T := TX8) (N := 30) hx hb hts hinX8 tyX8 tyX8_ok nmX8 hown hK hP hD hS 0 rfl rfl 26 (by decide) lk0 (fun _ h9 => h9) rfl (by decide +kernel) rfl rfl (Nat.le_of_ble_eq_true rfl) dX8_searches_2 (fun H locs hP hD hS => ?_)
  have hP : va_P D vwCl [(hm, .inr (6, oM am n pos cmp que dsz mad cur stp 0 bst)), (am 1, .inl (cI, 18, .inl (nA dgt))), (am 20, .inl (cI, 36, .inl (nA rt))), (am 27, .inl (cL, 60, .inr (.inl (lA mt)))), (am 28, .inl (cI, 60, .inl (nA ds)))] H := hP
  have hD : va_D _ [(hm, .inr (6, oM am n pos cmp que dsz mad cur stp 0 bst)), (am 1, .inl (cI, 18, .inl (nA dgt))), (am 20, .inl (cI, 36, .inl (nA rt))), (am 27, .inl (cL, 60, .inr (.inl (lA mt)))), (am 28, .inl (cI, 60, .inl (nA ds)))] := hD
  refine lv_aload_n (pc := 5) hx hb dX8_searches_5 rfl (lv_at hl 0 rfl) ?_
  refine lv_aload_n (pc := 6) hx hb dX8_searches_6 rfl (lv_at hl 0 rfl) ?_
  refine va_get (pc := 7) (D := D) (ci := 6) (v := .long (lN cur)) (C := RX8) (T := TX8) (N := 30) hx hb hts hinX8 hown hK hP 0 rfl rfl 21 (by decide) lk1 (fun _ h9 => h9) rfl dX8_searches_7 ?_
  refine lv_iconst (pc := 10) (v := (nI (0))) hx hb dX8_searches_10 (by decide) ?_
  refine xm_calli (pc := 11) (wc := [(hm, .inr (6, oM am n pos cmp que dsz mad cur stp 0 bst)), (am 27, .inl (cL, 60, .inr (.inl (lA mt)))), (am 28, .inl (cI, 60, .inl (nA ds)))]) (wr := [(am 1, .inl (cI, 18, .inl (nA dgt))), (am 20, .inl (cI, 36, .inl (nA rt)))]) (va_runV (As := [.long (lN cur), .int (nI 0)]) (rest := []) ⟨hx, hb, hml, hown, hts⟩ (c_X8_meets l D cI cL cZ H.size hm am n pos cmp que dsz mad cur stp 0 bst mt ds cur 0 (by omega) (fun i hi => absurd hi (by omega)) (Nat.lt_trans hc18 pow18)) (cwV 2 hts gX8_searches_X8_meets rfl rfl rfl (by decide +kernel) ⟨Nat.le_of_ble_eq_true rfl, Nat.le_of_ble_eq_true rfl⟩) (mP_V (wc := [(hm, .inr (6, oM am n pos cmp que dsz mad cur stp 0 bst)), (am 27, .inl (cL, 60, .inr (.inl (lA mt)))), (am 28, .inl (cI, 60, .inl (nA ds)))]) (ci := 6) (q0 := 0) hK hP hD [0, 3, 4] (by decide) rfl rfl rfl) rfl rfl hl.1 rfl (lv_room (Nat.le_of_ble_eq_true rfl)) dX8_searches_11 ⟨Nat.zero_le _, Nat.zero_le _⟩) hP hD hS hA [0, 3, 4] [1, 2] rfl rfl (by decide) (by decide) (fun r9 u H locs hw hP hD hS => ?_)
  obtain ⟨mt2_11, ds2_11, cn2_11⟩ := u
  have hP : va_P D vwCl [(am 1, .inl (cI, 18, .inl (nA dgt))), (am 20, .inl (cI, 36, .inl (nA rt))), (hm, .inr (6, oM am n pos cmp que dsz mad cur stp cn2_11 bst)), (am 27, .inl (cL, 60, .inr (.inl (lA mt2_11)))), (am 28, .inl (cI, 60, .inl (nA ds2_11)))] H := hP
  have hD : va_D _ [(am 1, .inl (cI, 18, .inl (nA dgt))), (am 20, .inl (cI, 36, .inl (nA rt))), (hm, .inr (6, oM am n pos cmp que dsz mad cur stp cn2_11 bst)), (am 27, .inl (cL, 60, .inr (.inl (lA mt2_11)))), (am 28, .inl (cI, 60, .inl (nA ds2_11)))] := hD
  try dsimp only at hw
  obtain ⟨hrr, hw11⟩ := hw
  rw [hrr]
  have hm1 := hw11.1.trans (mt_0 mt ds cur 0).1
  have hd1 := hw11.2.1.trans (mt_0 mt ds cur 0).2.1
  have hc1 := hw11.2.2.trans (mt_0 mt ds cur 0).2.2
  refine lv_pop (pc := 14) hx hb dX8_searches_14 rfl ?_
  refine lv_aload_n (pc := 15) hx hb dX8_searches_15 rfl (lv_at hl 0 rfl) ?_
  refine lv_iconst (pc := 16) (v := (nI (0))) hx hb dX8_searches_16 (by decide) ?_
  refine va_put (pc := 17) (D := D) (ci := 6) (v := .int (nI 0)) (ty := .int) (C := RX8) (T := TX8) (N := 30) hx hb hts hinX8 tyX8 tyX8_ok nmX8 hown hK hP hD hS 2 rfl rfl 29 (by decide) lk2 (fun _ h9 => h9) rfl (by decide +kernel) rfl rfl (Nat.le_of_ble_eq_true rfl) dX8_searches_17 (fun H locs hP hD hS => ?_)
  have hP : va_P D vwCl [(am 1, .inl (cI, 18, .inl (nA dgt))), (am 20, .inl (cI, 36, .inl (nA rt))), (hm, .inr (6, oM am n pos cmp que dsz mad cur stp cn2_11 0)), (am 27, .inl (cL, 60, .inr (.inl (lA mt2_11)))), (am 28, .inl (cI, 60, .inl (nA ds2_11)))] H := hP
  have hD : va_D _ [(am 1, .inl (cI, 18, .inl (nA dgt))), (am 20, .inl (cI, 36, .inl (nA rt))), (hm, .inr (6, oM am n pos cmp que dsz mad cur stp cn2_11 0)), (am 27, .inl (cL, 60, .inr (.inl (lA mt2_11)))), (am 28, .inl (cI, 60, .inl (nA ds2_11)))] := hD
  refine lv_aload_n (pc := 20) hx hb dX8_searches_20 rfl (lv_at hl 0 rfl) ?_
  refine lv_aload_n (pc := 21) hx hb dX8_searches_21 rfl (lv_at hl 0 rfl) ?_
  refine va_get (pc := 22) (D := D) (ci := 6) (v := .long (lN cur)) (C := RX8) (T := TX8) (N := 30) hx hb hts hinX8 hown hK hP 2 rfl rfl 21 (by decide) lk1 (fun _ h9 => h9) rfl dX8_searches_22 ?_
  refine xm_calli (pc := 25) (wc := [(hm, .inr (6, oM am n pos cmp que dsz mad cur stp cn2_11 0)), (am 1, .inl (cI, 18, .inl (nA dgt)))]) (wr := [(am 20, .inl (cI, 36, .inl (nA rt))), (am 27, .inl (cL, 60, .inr (.inl (lA mt2_11)))), (am 28, .inl (cI, 60, .inl (nA ds2_11)))]) (va_runV (As := [.long (lN cur)]) (rest := []) ⟨hx, hb, hml, hown, hts⟩ (c_X8_size l D cI cL cZ H.size hm am n pos cmp que dsz mad cur stp cn2_11 0 dgt ((lN (cur)))) (cwV 1 hts gX8_searches_X8_size rfl rfl rfl (by decide +kernel) ⟨Nat.le_of_ble_eq_true rfl, Nat.le_of_ble_eq_true rfl⟩) (mP_V (wc := [(hm, .inr (6, oM am n pos cmp que dsz mad cur stp cn2_11 0)), (am 1, .inl (cI, 18, .inl (nA dgt)))]) (ci := 6) (q0 := 0) hK hP hD [2, 0] (by decide) rfl rfl rfl) rfl rfl hl.1 rfl (lv_room (Nat.le_of_ble_eq_true rfl)) dX8_searches_25 ⟨Nat.zero_le _, Nat.zero_le _⟩) hP hD hS hA [2, 0] [1, 3, 4] rfl rfl (by decide) (by decide) (fun r9 u H locs hw hP hD hS => ?_)
  obtain ⟨n2_25, dgt2_25⟩ := u
  have hP : va_P D vwCl [(am 20, .inl (cI, 36, .inl (nA rt))), (am 27, .inl (cL, 60, .inr (.inl (lA mt2_11)))), (am 28, .inl (cI, 60, .inl (nA ds2_11))), (hm, .inr (6, oM am n2_25 pos cmp que dsz mad cur stp cn2_11 0)), (am 1, .inl (cI, 18, .inl (nA dgt2_25)))] H := hP
  have hD : va_D _ [(am 20, .inl (cI, 36, .inl (nA rt))), (am 27, .inl (cL, 60, .inr (.inl (lA mt2_11)))), (am 28, .inl (cI, 60, .inl (nA ds2_11))), (hm, .inr (6, oM am n2_25 pos cmp que dsz mad cur stp cn2_11 0)), (am 1, .inl (cI, 18, .inl (nA dgt2_25)))] := hD
  try dsimp only at hw
  obtain ⟨hrr, hw25⟩ := hw
  rw [hrr]
  refine W.eq (g2 := F0 mG 28 ls [.int (nI (dc cur))]) (congrArg (fun zz => F0 mG 28 ls [.int zz]) ((by unfold aSize; rw [hcv, if_pos hcur]))) ?_
  refine lv_istore_n (pc := 28) (lv' := [(1, .int (nI (dc cur))), (0, .ref hm)]) hx hb dX8_searches_28 rfl hl (by decide) rfl (fun ls hl => ?_)
  refine lv_iconst (pc := 29) (v := (nI (0))) hx hb dX8_searches_29 (by decide) ?_
  refine lv_istore_n (pc := 30) (lv' := [(2, .int (nI 0)), (1, .int (nI (dc cur))), (0, .ref hm)]) hx hb dX8_searches_30 rfl hl (by decide) rfl (fun ls hl => ?_)
  have loop31 : ∀ (fuel : Nat) (k : Nat) (n1 : Nat) (mad1 : Nat) (dgt1 : Nat → Nat) (rt1 : Nat → Nat) (mt1 : Nat → Nat) (ds1 : Nat → Nat) (cn1 : Nat) (b1 : Nat) (L1 : Nat) (ls : Array Slot) (H : Heap) (locs : List Loc), 60 - k < fuel → (k ≤ cn1) → ((mt1, ds1, cn1) = rnS (up mt 0 cur, up ds 0 0, 1) k) → (rnO (up mt 0 cur, up ds 0 0, 1) k = true) → (okM mt1 cn1) → (b1 = bsI mt1 k) → (L1 = dc (mt1 b1)) → (b1 < cn1) → lv_has ls 3 [(0, .ref hm), (1, .int (nI L1)), (2, .int (nI k))] → va_P D vwCl [(am 20, .inl (cI, 36, .inl (nA rt1))), (am 27, .inl (cL, 60, .inr (.inl (lA mt1)))), (am 28, .inl (cI, 60, .inl (nA ds1))), (hm, .inr (6, oM am n1 pos cmp que dsz mad1 cur stp cn1 b1)), (am 1, .inl (cI, 18, .inl (nA dgt1)))] H → va_D (va_A [(hm, .inr (6, oM am n pos cmp que dsz mad cur stp cn bst)), (am 1, .inl (cI, 18, .inl (nA dgt))), (am 20, .inl (cI, 36, .inl (nA rt))), (am 27, .inl (cL, 60, .inr (.inl (lA mt)))), (am 28, .inl (cI, 60, .inl (nA ds)))] s.heap.size) [(am 20, .inl (cI, 36, .inl (nA rt1))), (am 27, .inl (cL, 60, .inr (.inl (lA mt1)))), (am 28, .inl (cI, 60, .inl (nA ds1))), (hm, .inr (6, oM am n1 pos cmp que dsz mad1 cur stp cn1 b1)), (am 1, .inl (cI, 18, .inl (nA dgt1)))] → va_S (va_A [(hm, .inr (6, oM am n pos cmp que dsz mad cur stp cn bst)), (am 1, .inl (cI, 18, .inl (nA dgt))), (am 20, .inl (cI, 36, .inl (nA rt))), (am 27, .inl (cL, 60, .inr (.inl (lA mt)))), (am 28, .inl (cI, 60, .inl (nA ds)))] s.heap.size) s.heap H locs → W pG l eG (headSpec wsX8_searches { frames := 7, cells := 0, slots := 0, locals := 168 }).room s mG [.ref hm].toArray below meth cG H locs 0 0 (MQ below (va_Qi (fun (r : Int32) (u : Nat × (Nat → Nat) × Nat × (Nat → Nat) × (Nat → Nat) × (Nat → Nat) × Nat × Nat) => r = (nI (pN (rnO (up mt 0 cur, up ds 0 0, 1) 60 = true))) ∧ (rnO (up mt 0 cur, up ds 0 0, 1) 60 = true → (u.2.2.2.2.1, u.2.2.2.2.2.1, u.2.2.2.2.2.2.1) = rnS (up mt 0 cur, up ds 0 0, 1) 60 ∧ okM u.2.2.2.2.1 u.2.2.2.2.2.2.1 ∧ u.2.2.2.2.2.2.2 = bsI u.2.2.2.2.1 u.2.2.2.2.2.2.1)) (fun (u : Nat × (Nat → Nat) × Nat × (Nat → Nat) × (Nat → Nat) × (Nat → Nat) × Nat × Nat) (t : State) => mB D (tyL cI cL cZ) (va_A [(hm, .inr (6, oM am n pos cmp que dsz mad cur stp cn bst)), (am 1, .inl (cI, 18, .inl (nA dgt))), (am 20, .inl (cI, 36, .inl (nA rt))), (am 27, .inl (cL, 60, .inr (.inl (lA mt)))), (am 28, .inl (cI, 60, .inl (nA ds)))] s.heap.size) [(hm, .inr (6, oM am (u.1) pos cmp que dsz (u.2.2.1) cur stp (u.2.2.2.2.2.2.1) (u.2.2.2.2.2.2.2))), (am 1, .inl (cI, 18, .inl (nA (u.2.1)))), (am 20, .inl (cI, 36, .inl (nA (u.2.2.2.1)))), (am 27, .inl (cL, 60, .inr (.inl (lA (u.2.2.2.2.1))))), (am 28, .inl (cI, 60, .inl (nA (u.2.2.2.2.2.1))))] t) (va_A [(hm, .inr (6, oM am n pos cmp que dsz mad cur stp cn bst)), (am 1, .inl (cI, 18, .inl (nA dgt))), (am 20, .inl (cI, 36, .inl (nA rt))), (am 27, .inl (cL, 60, .inr (.inl (lA mt)))), (am 28, .inl (cI, 60, .inl (nA ds)))] s.heap.size)) [.ref hm].toArray s 0 0 (va_A [(hm, .inr (6, oM am n pos cmp que dsz mad cur stp cn bst)), (am 1, .inl (cI, 18, .inl (nA dgt))), (am 20, .inl (cI, 36, .inl (nA rt))), (am 27, .inl (cL, 60, .inr (.inl (lA mt)))), (am 28, .inl (cI, 60, .inl (nA ds)))] s.heap.size)) (F0 mG 31 ls []) := by
    intro fuel
    induction fuel with
    | zero => intro k n1 mad1 dgt1 rt1 mt1 ds1 cn1 b1 L1 ls H locs hmeas i1 i2 i3 i4 i5 i6 i7 hl hP hD hS; exact absurd hmeas (Nat.not_lt_zero _)
    | succ fuel ih31 =>
      intro k n1 mad1 dgt1 rt1 mt1 ds1 cn1 b1 L1 ls H locs hmeas i1 i2 i3 i4 i5 i6 i7 hl hP hD hS
      have hcn := i4.2.1
      have hL19 : L1 ≤ 19 := by rw [i6]; have := (dc_lt (okVb_iff.mp (i4.2.2 b1 i7)).2.1).2; omega
      refine lv_iload_n (pc := 31) hx hb dX8_searches_31 rfl (lv_at hl 2 rfl) ?_
      refine lv_aload_n (pc := 32) hx hb dX8_searches_32 rfl (lv_at hl 0 rfl) ?_
      refine va_get (pc := 33) (D := D) (ci := 6) (v := .int (nI cn1)) (C := RX8) (T := TX8) (N := 30) hx hb hts hinX8 hown hK hP 3 rfl rfl 26 (by decide) lk0 (fun _ h9 => h9) rfl dX8_searches_33 ?_
      refine xn_icmp_ge (pc := 36) (tgt := 92) hx hb (by omega) (by omega) dX8_searches_36 (by decide) (fun c36 => ?_) (fun c36 => ?_)
      · have hkc : k = cn1 := by omega
        have he := rn_60 i2 (by omega) (by omega)
        refine lv_iconst (pc := 92) (v := (nI (1))) hx hb dX8_searches_92 (by decide) ?_
        have hP9 : va_P D vwCl [(hm, .inr (6, oM am n1 pos cmp que dsz mad1 cur stp cn1 b1)), (am 1, .inl (cI, 18, .inl (nA dgt1))), (am 20, .inl (cI, 36, .inl (nA rt1))), (am 27, .inl (cL, 60, .inr (.inl (lA mt1)))), (am 28, .inl (cI, 60, .inl (nA ds1)))] H := hP.sub [3, 4, 0, 1, 2] rfl
        have hD9 : va_D _ [(hm, .inr (6, oM am n1 pos cmp que dsz mad1 cur stp cn1 b1)), (am 1, .inl (cI, 18, .inl (nA dgt1))), (am 20, .inl (cI, 36, .inl (nA rt1))), (am 27, .inl (cL, 60, .inr (.inl (lA mt1)))), (am 28, .inl (cI, 60, .inl (nA ds1)))] := hD.sub [3, 4, 0, 1, 2] (by decide) rfl
        exact W.zret (pc := 93) (v := (nI (1))) (ty := .boolean) hx hb hr (by decide) (fun t ht hW => ⟨⟨_, (n1, dgt1, mad1, rt1, mt1, ds1, cn1, b1), rfl, ⟨(congrArg nI (pN_t (he.2.trans i3)).symm), (fun _ => ⟨he.1.symm, i4, i5.trans (congrArg (bsI mt1) hkc)⟩)⟩, by rw [ht]; exact hP9, va_K.moved hW.alike hK, hD9⟩, hS.F ht⟩) hS.2.2 dX8_searches_93
      · refine lv_aload_n (pc := 39) hx hb dX8_searches_39 rfl (lv_at hl 0 rfl) ?_
        refine lv_iload_n (pc := 40) hx hb dX8_searches_40 rfl (lv_at hl 2 rfl) ?_
        refine xm_calli (pc := 41) (wc := [(hm, .inr (6, oM am n1 pos cmp que dsz mad1 cur stp cn1 b1)), (am 1, .inl (cI, 18, .inl (nA dgt1))), (am 20, .inl (cI, 36, .inl (nA rt1))), (am 27, .inl (cL, 60, .inr (.inl (lA mt1)))), (am 28, .inl (cI, 60, .inl (nA ds1)))]) (wr := []) (va_runV (As := [.int (nI k)]) (rest := []) ⟨hx, hb, hml, hown, hts⟩ (c_X8_expands l D cI cL cZ H.size hm am n1 pos cmp que dsz mad1 cur stp cn1 b1 dgt1 rt1 mt1 ds1 k i4 c36) (cwV 1 hts gX8_searches_X8_expands rfl rfl rfl (by decide +kernel) ⟨Nat.le_of_ble_eq_true rfl, Nat.le_of_ble_eq_true rfl⟩) (mP_V (wc := [(hm, .inr (6, oM am n1 pos cmp que dsz mad1 cur stp cn1 b1)), (am 1, .inl (cI, 18, .inl (nA dgt1))), (am 20, .inl (cI, 36, .inl (nA rt1))), (am 27, .inl (cL, 60, .inr (.inl (lA mt1)))), (am 28, .inl (cI, 60, .inl (nA ds1)))]) (ci := 6) (q0 := 0) hK hP hD [3, 4, 0, 1, 2] (by decide) rfl rfl rfl) rfl rfl hl.1 rfl (lv_room (Nat.le_of_ble_eq_true rfl)) dX8_searches_41 ⟨Nat.zero_le _, Nat.zero_le _⟩) hP hD hS hA [3, 4, 0, 1, 2] [] rfl rfl (by decide) (by decide) (fun r9 u H locs hw hP hD hS => ?_)
        obtain ⟨n2_41, dgt2_41, mad2_41, rt2_41, mt2_41, ds2_41, cn2_41⟩ := u
        have hP : va_P D vwCl [(hm, .inr (6, oM am n2_41 pos cmp que dsz mad2_41 cur stp cn2_41 b1)), (am 1, .inl (cI, 18, .inl (nA dgt2_41))), (am 20, .inl (cI, 36, .inl (nA rt2_41))), (am 27, .inl (cL, 60, .inr (.inl (lA mt2_41)))), (am 28, .inl (cI, 60, .inl (nA ds2_41)))] H := hP
        have hD : va_D _ [(hm, .inr (6, oM am n2_41 pos cmp que dsz mad2_41 cur stp cn2_41 b1)), (am 1, .inl (cI, 18, .inl (nA dgt2_41))), (am 20, .inl (cI, 36, .inl (nA rt2_41))), (am 27, .inl (cL, 60, .inr (.inl (lA mt2_41)))), (am 28, .inl (cI, 60, .inl (nA ds2_41)))] := hD
        try dsimp only at hw
        obtain ⟨hrr, hw41⟩ := hw
        rw [hrr]
        have hst := rn_step i2 i3 c36
        have hn41 := hw41.1
        refine xp_if_ne (pc := 44) (tgt := 49) hx hb dX8_searches_44 (by decide) (fun c44 => ?_) (fun c44 => ?_)
        · have hkp := ex_keep2 (hw41.2 c44).1
          have hk2 := hkp.2
          have hn19 : dc (mt1 k) ≤ 18 := (dc_lt (okVb_iff.mp (i4.2.2 k c36)).2.1).2
          refine lv_aload_n (pc := 49) hx hb dX8_searches_49 rfl (lv_at hl 0 rfl) ?_
          refine lv_aload_n (pc := 50) hx hb dX8_searches_50 rfl (lv_at hl 0 rfl) ?_
          refine va_get (pc := 51) (D := D) (ci := 6) (v := .int (nI n2_41)) (C := RX8) (T := TX8) (N := 30) hx hb hts hinX8 hown hK hP 0 rfl rfl 0 (by decide) lk3 (fun _ h9 => h9) rfl dX8_searches_51 ?_
          refine lv_iload_n (pc := 54) hx hb dX8_searches_54 rfl (lv_at hl 1 rfl) ?_
          refine xn_icmp_ge (pc := 55) (tgt := 62) hx hb (by omega) (by omega) dX8_searches_55 (by decide) (fun c55 => ?_) (fun c55 => ?_)
          · refine lv_aload_n (pc := 62) hx hb dX8_searches_62 rfl (lv_at hl 0 rfl) ?_
            refine va_get (pc := 63) (D := D) (ci := 6) (v := .int (nI b1)) (C := RX8) (T := TX8) (N := 30) hx hb hts hinX8 hown hK hP 0 rfl rfl 29 (by decide) lk2 (fun _ h9 => h9) rfl dX8_searches_63 ?_
            refine va_put (pc := 66) (D := D) (ci := 6) (v := .int (nI b1)) (ty := .int) (C := RX8) (T := TX8) (N := 30) hx hb hts hinX8 tyX8 tyX8_ok nmX8 hown hK hP hD hS 0 rfl rfl 29 (by decide) lk2 (fun _ h9 => h9) rfl (by decide +kernel) rfl rfl (Nat.le_of_ble_eq_true rfl) dX8_searches_66 (fun H locs hP hD hS => ?_)
            have hP : va_P D vwCl [(hm, .inr (6, oM am n2_41 pos cmp que dsz mad2_41 cur stp cn2_41 b1)), (am 1, .inl (cI, 18, .inl (nA dgt2_41))), (am 20, .inl (cI, 36, .inl (nA rt2_41))), (am 27, .inl (cL, 60, .inr (.inl (lA mt2_41)))), (am 28, .inl (cI, 60, .inl (nA ds2_41)))] H := hP
            have hD : va_D _ [(hm, .inr (6, oM am n2_41 pos cmp que dsz mad2_41 cur stp cn2_41 b1)), (am 1, .inl (cI, 18, .inl (nA dgt2_41))), (am 20, .inl (cI, 36, .inl (nA rt2_41))), (am 27, .inl (cL, 60, .inr (.inl (lA mt2_41)))), (am 28, .inl (cI, 60, .inl (nA ds2_41)))] := hD
            refine lv_aload_n (pc := 69) hx hb dX8_searches_69 rfl (lv_at hl 0 rfl) ?_
            refine va_get (pc := 70) (D := D) (ci := 6) (v := .int (nI n2_41)) (C := RX8) (T := TX8) (N := 30) hx hb hts hinX8 hown hK hP 0 rfl rfl 0 (by decide) lk3 (fun _ h9 => h9) rfl dX8_searches_70 ?_
            refine lv_iload_n (pc := 73) hx hb dX8_searches_73 rfl (lv_at hl 1 rfl) ?_
            refine xn_icmp_ge (pc := 74) (tgt := 84) hx hb (by omega) (by omega) dX8_searches_74 (by decide) (fun c74 => ?_) (fun c74 => ?_)
            · refine lv_iload_n (pc := 84) hx hb dX8_searches_84 rfl (lv_at hl 1 rfl) ?_
              refine lv_istore_n (pc := 85) (lv' := [(1, .int (nI L1)), (0, .ref hm), (2, .int (nI k))]) hx hb dX8_searches_85 rfl hl (by decide) rfl (fun ls hl => ?_)
              refine lv_iinc (pc := 86) (v := (nI (k + 1))) (lv' := [(2, .int (nI (k + 1))), (1, .int (nI L1)), (0, .ref hm)]) hx hb dX8_searches_86 hl (k := 2) rfl (nI_incr _) (by decide) rfl (fun ls hl => ?_)
              refine lv_goto (pc := 89) (tgt := 31) hx hb dX8_searches_89 (by decide) ?_
              exact ih31 (k + 1) n2_41 mad2_41 dgt2_41 rt2_41 mt2_41 ds2_41 cn2_41 b1 L1 ls _ _ (by omega) (by omega) (by rw [hst.1]; exact (hw41.2 c44).1) (by rw [hst.2]; exact c44) (hw41.2 c44).2 (by first | exact (bs_yes c36 hkp.1 i5 i6 (by omega)).1 | exact (bs_no c36 hkp.1 i5 i6 i7 (by omega)).1 | (exfalso; omega)) (by first | exact hn41.trans (bs_yes c36 hkp.1 i5 i6 (by omega)).2 | exact (bs_no c36 hkp.1 i5 i6 i7 (by omega)).2 | (exfalso; omega)) (by omega) (lv_sub hl [2, 1, 0] rfl) (hP.sub [2, 3, 4, 0, 1] rfl) (hD.sub [2, 3, 4, 0, 1] (by decide) rfl) hS
            · refine lv_aload_n (pc := 77) hx hb dX8_searches_77 rfl (lv_at hl 0 rfl) ?_
              refine va_get (pc := 78) (D := D) (ci := 6) (v := .int (nI n2_41)) (C := RX8) (T := TX8) (N := 30) hx hb hts hinX8 hown hK hP 0 rfl rfl 0 (by decide) lk3 (fun _ h9 => h9) rfl dX8_searches_78 ?_
              refine lv_goto (pc := 81) (tgt := 85) hx hb dX8_searches_81 (by decide) ?_
              refine lv_istore_n (pc := 85) (lv' := [(1, .int (nI n2_41)), (0, .ref hm), (2, .int (nI k))]) hx hb dX8_searches_85 rfl hl (by decide) rfl (fun ls hl => ?_)
              refine lv_iinc (pc := 86) (v := (nI (k + 1))) (lv' := [(2, .int (nI (k + 1))), (1, .int (nI n2_41)), (0, .ref hm)]) hx hb dX8_searches_86 hl (k := 2) rfl (nI_incr _) (by decide) rfl (fun ls hl => ?_)
              refine lv_goto (pc := 89) (tgt := 31) hx hb dX8_searches_89 (by decide) ?_
              exact ih31 (k + 1) n2_41 mad2_41 dgt2_41 rt2_41 mt2_41 ds2_41 cn2_41 b1 n2_41 ls _ _ (by omega) (by omega) (by rw [hst.1]; exact (hw41.2 c44).1) (by rw [hst.2]; exact c44) (hw41.2 c44).2 (by first | exact (bs_yes c36 hkp.1 i5 i6 (by omega)).1 | exact (bs_no c36 hkp.1 i5 i6 i7 (by omega)).1 | (exfalso; omega)) (by first | exact hn41.trans (bs_yes c36 hkp.1 i5 i6 (by omega)).2 | exact (bs_no c36 hkp.1 i5 i6 i7 (by omega)).2 | (exfalso; omega)) (by omega) (lv_sub hl [2, 1, 0] rfl) (hP.sub [2, 3, 4, 0, 1] rfl) (hD.sub [2, 3, 4, 0, 1] (by decide) rfl) hS
          · refine lv_iload_n (pc := 58) hx hb dX8_searches_58 rfl (lv_at hl 2 rfl) ?_
            refine lv_goto (pc := 59) (tgt := 66) hx hb dX8_searches_59 (by decide) ?_
            refine va_put (pc := 66) (D := D) (ci := 6) (v := .int (nI k)) (ty := .int) (C := RX8) (T := TX8) (N := 30) hx hb hts hinX8 tyX8 tyX8_ok nmX8 hown hK hP hD hS 0 rfl rfl 29 (by decide) lk2 (fun _ h9 => h9) rfl (by decide +kernel) rfl rfl (Nat.le_of_ble_eq_true rfl) dX8_searches_66 (fun H locs hP hD hS => ?_)
            have hP : va_P D vwCl [(hm, .inr (6, oM am n2_41 pos cmp que dsz mad2_41 cur stp cn2_41 k)), (am 1, .inl (cI, 18, .inl (nA dgt2_41))), (am 20, .inl (cI, 36, .inl (nA rt2_41))), (am 27, .inl (cL, 60, .inr (.inl (lA mt2_41)))), (am 28, .inl (cI, 60, .inl (nA ds2_41)))] H := hP
            have hD : va_D _ [(hm, .inr (6, oM am n2_41 pos cmp que dsz mad2_41 cur stp cn2_41 k)), (am 1, .inl (cI, 18, .inl (nA dgt2_41))), (am 20, .inl (cI, 36, .inl (nA rt2_41))), (am 27, .inl (cL, 60, .inr (.inl (lA mt2_41)))), (am 28, .inl (cI, 60, .inl (nA ds2_41)))] := hD
            refine lv_aload_n (pc := 69) hx hb dX8_searches_69 rfl (lv_at hl 0 rfl) ?_
            refine va_get (pc := 70) (D := D) (ci := 6) (v := .int (nI n2_41)) (C := RX8) (T := TX8) (N := 30) hx hb hts hinX8 hown hK hP 0 rfl rfl 0 (by decide) lk3 (fun _ h9 => h9) rfl dX8_searches_70 ?_
            refine lv_iload_n (pc := 73) hx hb dX8_searches_73 rfl (lv_at hl 1 rfl) ?_
            refine xn_icmp_ge (pc := 74) (tgt := 84) hx hb (by omega) (by omega) dX8_searches_74 (by decide) (fun c74 => ?_) (fun c74 => ?_)
            · refine lv_iload_n (pc := 84) hx hb dX8_searches_84 rfl (lv_at hl 1 rfl) ?_
              refine lv_istore_n (pc := 85) (lv' := [(1, .int (nI L1)), (0, .ref hm), (2, .int (nI k))]) hx hb dX8_searches_85 rfl hl (by decide) rfl (fun ls hl => ?_)
              refine lv_iinc (pc := 86) (v := (nI (k + 1))) (lv' := [(2, .int (nI (k + 1))), (1, .int (nI L1)), (0, .ref hm)]) hx hb dX8_searches_86 hl (k := 2) rfl (nI_incr _) (by decide) rfl (fun ls hl => ?_)
              refine lv_goto (pc := 89) (tgt := 31) hx hb dX8_searches_89 (by decide) ?_
              exact ih31 (k + 1) n2_41 mad2_41 dgt2_41 rt2_41 mt2_41 ds2_41 cn2_41 k L1 ls _ _ (by omega) (by omega) (by rw [hst.1]; exact (hw41.2 c44).1) (by rw [hst.2]; exact c44) (hw41.2 c44).2 (by first | exact (bs_yes c36 hkp.1 i5 i6 (by omega)).1 | exact (bs_no c36 hkp.1 i5 i6 i7 (by omega)).1 | (exfalso; omega)) (by first | exact hn41.trans (bs_yes c36 hkp.1 i5 i6 (by omega)).2 | exact (bs_no c36 hkp.1 i5 i6 i7 (by omega)).2 | (exfalso; omega)) (by omega) (lv_sub hl [2, 1, 0] rfl) (hP.sub [2, 3, 4, 0, 1] rfl) (hD.sub [2, 3, 4, 0, 1] (by decide) rfl) hS
            · refine lv_aload_n (pc := 77) hx hb dX8_searches_77 rfl (lv_at hl 0 rfl) ?_
              refine va_get (pc := 78) (D := D) (ci := 6) (v := .int (nI n2_41)) (C := RX8) (T := TX8) (N := 30) hx hb hts hinX8 hown hK hP 0 rfl rfl 0 (by decide) lk3 (fun _ h9 => h9) rfl dX8_searches_78 ?_
              refine lv_goto (pc := 81) (tgt := 85) hx hb dX8_searches_81 (by decide) ?_
              refine lv_istore_n (pc := 85) (lv' := [(1, .int (nI n2_41)), (0, .ref hm), (2, .int (nI k))]) hx hb dX8_searches_85 rfl hl (by decide) rfl (fun ls hl => ?_)
              refine lv_iinc (pc := 86) (v := (nI (k + 1))) (lv' := [(2, .int (nI (k + 1))), (1, .int (nI n2_41)), (0, .ref hm)]) hx hb dX8_searches_86 hl (k := 2) rfl (nI_incr _) (by decide) rfl (fun ls hl => ?_)
              refine lv_goto (pc := 89) (tgt := 31) hx hb dX8_searches_89 (by decide) ?_
              exact ih31 (k + 1) n2_41 mad2_41 dgt2_41 rt2_41 mt2_41 ds2_41 cn2_41 k n2_41 ls _ _ (by omega) (by omega) (by rw [hst.1]; exact (hw41.2 c44).1) (by rw [hst.2]; exact c44) (hw41.2 c44).2 (by first | exact (bs_yes c36 hkp.1 i5 i6 (by omega)).1 | exact (bs_no c36 hkp.1 i5 i6 i7 (by omega)).1 | (exfalso; omega)) (by first | exact hn41.trans (bs_yes c36 hkp.1 i5 i6 (by omega)).2 | exact (bs_no c36 hkp.1 i5 i6 i7 (by omega)).2 | (exfalso; omega)) (by omega) (lv_sub hl [2, 1, 0] rfl) (hP.sub [2, 3, 4, 0, 1] rfl) (hD.sub [2, 3, 4, 0, 1] (by decide) rfl) hS
        · have hof : rnO (up mt 0 cur, up ds 0 0, 1) 60 = false := by rw [show 60 = (k + 1) + (60 - (k + 1)) from by omega]; exact rnO_mono (by rw [hst.2]; simpa using c44) _
          refine lv_iconst (pc := 47) (v := (nI (0))) hx hb dX8_searches_47 (by decide) ?_
          have hP9 : va_P D vwCl [(hm, .inr (6, oM am n2_41 pos cmp que dsz mad2_41 cur stp cn2_41 b1)), (am 1, .inl (cI, 18, .inl (nA dgt2_41))), (am 20, .inl (cI, 36, .inl (nA rt2_41))), (am 27, .inl (cL, 60, .inr (.inl (lA mt2_41)))), (am 28, .inl (cI, 60, .inl (nA ds2_41)))] H := hP.sub [0, 1, 2, 3, 4] rfl
          have hD9 : va_D _ [(hm, .inr (6, oM am n2_41 pos cmp que dsz mad2_41 cur stp cn2_41 b1)), (am 1, .inl (cI, 18, .inl (nA dgt2_41))), (am 20, .inl (cI, 36, .inl (nA rt2_41))), (am 27, .inl (cL, 60, .inr (.inl (lA mt2_41)))), (am 28, .inl (cI, 60, .inl (nA ds2_41)))] := hD.sub [0, 1, 2, 3, 4] (by decide) rfl
          exact W.zret (pc := 48) (v := (nI (0))) (ty := .boolean) hx hb hr (by decide) (fun t ht hW => ⟨⟨_, (n2_41, dgt2_41, mad2_41, rt2_41, mt2_41, ds2_41, cn2_41, b1), rfl, ⟨(congrArg nI (pN_f (by rw [hof]; decide)).symm), (fun h => absurd (hof.symm.trans h) (by decide))⟩, by rw [ht]; exact hP9, va_K.moved hW.alike hK, hD9⟩, hS.F ht⟩) hS.2.2 dX8_searches_48
  exact loop31 (_ + 1) 0 n2_25 mad dgt2_25 rt mt2_11 ds2_11 cn2_11 0 (dc cur) ls _ _ (Nat.lt_succ_self _) (by omega) (by rw [hm1, hd1, hc1]; rfl) rfl (by rw [hm1, hc1]; exact okM_1 hcur) rfl (by rw [hm1, up_s]) (by omega) (lv_sub hl [2, 1, 0] rfl) (hP.sub [0, 1, 2, 3, 4] rfl) (hD.sub [0, 1, 2, 3, 4] (by decide) rfl) hS
