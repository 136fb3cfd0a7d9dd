/-! the reference: expanding in the search -/
set_option maxHeartbeats 4000000 in
set_option maxRecDepth 100000 in
theorem c_X8_expands (l : Launch) (D : va_G) (cI cL cZ : ClassId) (sz : Nat) (hm : Nat) (am : Nat → Nat) (n : Nat) (pos : Nat) (cmp : Nat) (que : Nat) (dsz : Nat) (mad : Nat) (cur : Nat) (stp : Nat) (cn : Nat) (bst : Nat) (dgt : Nat → Nat) (rt : Nat → Nat) (mt : Nat → Nat) (ds : Nat → Nat) (k0 : Nat) (hok : okM mt cn) (hk0 : k0 < cn) : Met l yX8_expands wsX8_expands { frames := 6, cells := 0, slots := 0, locals := 146 } (mP D (tyL cI cL cZ) [(hm, .inr (6, oM am n pos cmp que dsz mad cur stp cn bst)), (am 1, .inl (cI, 18, .inl (nA dgt))), (am 20, .inl (cI, 36, .inl (nA rt))), (am 27, .inl (cL, 60, .inr (.inl (lA mt)))), (am 28, .inl (cI, 60, .inl (nA ds)))] sz [.ref hm, .int (nI k0)]) (va_Qi (fun (r : Int32) (u : Nat × (Nat → Nat) × Nat × (Nat → Nat) × (Nat → Nat) × (Nat → Nat) × Nat) => r = (nI (pN (exO (mt k0) (ds k0 + 1) (mt, ds, cn) (16 * dc (mt k0)) = true))) ∧ (u.1 = dc (mt k0) ∧ (exO (mt k0) (ds k0 + 1) (mt, ds, cn) (16 * dc (mt k0)) = true → (u.2.2.2.2.1, u.2.2.2.2.2.1, u.2.2.2.2.2.2) = exS (mt k0) (ds k0 + 1) (mt, ds, cn) (16 * dc (mt k0)) ∧ okM u.2.2.2.2.1 u.2.2.2.2.2.2))) (fun (u : Nat × (Nat → Nat) × Nat × (Nat → Nat) × (Nat → Nat) × (Nat → Nat) × Nat) (t : State) => mB D (tyL cI cL cZ) (va_A [(hm, .inr (6, oM am n pos cmp que dsz mad cur stp cn bst)), (am 1, .inl (cI, 18, .inl (nA dgt))), (am 20, .inl (cI, 36, .inl (nA rt))), (am 27, .inl (cL, 60, .inr (.inl (lA mt)))), (am 28, .inl (cI, 60, .inl (nA ds)))] sz) [(hm, .inr (6, oM am (u.1) pos cmp que dsz (u.2.2.1) cur stp (u.2.2.2.2.2.2) bst)), (am 1, .inl (cI, 18, .inl (nA (u.2.1)))), (am 20, .inl (cI, 36, .inl (nA (u.2.2.2.1)))), (am 27, .inl (cL, 60, .inr (.inl (lA (u.2.2.2.2.1))))), (am 28, .inl (cI, 60, .inl (nA (u.2.2.2.2.2.1))))] t) (va_A [(hm, .inr (6, oM am n pos cmp que dsz mad cur stp cn bst)), (am 1, .inl (cI, 18, .inl (nA dgt))), (am 20, .inl (cI, 36, .inl (nA rt))), (am 27, .inl (cL, 60, .inr (.inl (lA mt)))), (am 28, .inl (cI, 60, .inl (nA ds)))] sz)) 0 0 (va_A [(hm, .inr (6, oM am n pos cmp que dsz mad cur stp cn bst)), (am 1, .inl (cI, 18, .inl (nA dgt))), (am 20, .inl (cI, 36, .inl (nA rt))), (am 27, .inl (cL, 60, .inr (.inl (lA mt)))), (am 28, .inl (cI, 60, .inl (nA ds)))] sz) := by
  refine Met.ofW (cc := cX8_expands) (maxL := 3) (ret := (some .boolean)) (by decide) rfl ?_
  intro pG eG s mG args below meth cG s₁ B hml hpre9
  obtain ⟨rfl, hsz, hP, hK, hD0⟩ := hpre9
  have hx := B.exec
  have hb := B.bytes
  have hr := B.returns
  have hts := atoms_spec (ws := wsX8_expands) B.pre
  have hown : s.vm.findClass RX8 = some mG.cls := findClass_of_methodNamed B.named
  have hlocks := B.notSynchronized
  subst hsz
  have hD := hD0.self (sz := s.heap.size)
  have hA : ∀ q : Nat, s.heap.size ≤ q → va_A [(hm, .inr (6, oM am n pos cmp que dsz mad cur stp cn bst)), (am 1, .inl (cI, 18, .inl (nA dgt))), (am 20, .inl (cI, 36, .inl (nA rt))), (am 27, .inl (cL, 60, .inr (.inl (lA mt)))), (am 28, .inl (cI, 60, .inl (nA ds)))] s.heap.size q := fun q h => Or.inr h
  have hS : va_S (va_A [(hm, .inr (6, oM am n pos cmp que dsz mad cur stp cn bst)), (am 1, .inl (cI, 18, .inl (nA dgt))), (am 20, .inl (cI, 36, .inl (nA rt))), (am 27, .inl (cL, 60, .inr (.inl (lA mt)))), (am 28, .inl (cI, 60, .inl (nA ds)))] s.heap.size) s.heap s.heap [] := va_S.rf
  have hinX8 : ∀ w ∈ wsX80, w ∈ wsX8_expands := fun w HH => (List.mem_cons_of_mem _ (List.mem_append_right _ HH))
  have lk0 : (Cond.fieldLink RX8 68 "RegexSimplifierModel" "metRegex" "[J").before _ s = true := hts _ (List.mem_cons_of_mem _ (List.mem_append_left _ (List.mem_append_left _ (List.mem_of_getElem? (i := 0) rfl))))
  have lk1 : (Cond.fieldLink RX8 78 "RegexSimplifierModel" "n" "I").before _ s = true := hts _ (List.mem_cons_of_mem _ (List.mem_append_left _ (List.mem_append_left _ (List.mem_of_getElem? (i := 1) rfl))))
  have lk2 : (Cond.fieldLink RX8 71 "RegexSimplifierModel" "metDistance" "[I").before _ s = true := hts _ (List.mem_cons_of_mem _ (List.mem_append_left _ (List.mem_append_left _ (List.mem_of_getElem? (i := 2) rfl))))
  have hl := lv_entry ([.ref hm, .int (nI k0)]) (n := 3) (Nat.le_of_ble_eq_true rfl)
  rw [lg_entry_eq]
  generalize (lg_sl ([.ref hm, .int (nI k0)]) ++ List.replicate (3 - (lg_sl ([.ref hm, .int (nI k0)])).length) Slot.unset).toArray = ls at hl ⊢
  have hl : lv_has ls 3 [(0, .ref hm), (1, .int (nI k0))] := hl
  have hcn := hok.2.1
  have hv := hok.2.2 k0 hk0
  have hv18 := (okVb_iff.mp hv).2.1
  have hcv : xv (lN (mt k0)) = mt k0 := xv_lN (Nat.lt_trans hv18 pow18)
  have h18 := (dc_lt hv18).2
  refine lv_aload_n (pc := 0) hx hb dX8_expands_0 rfl (lv_at hl 0 rfl) ?_
  refine lv_aload_n (pc := 1) hx hb dX8_expands_1 rfl (lv_at hl 0 rfl) ?_
  refine va_get (pc := 2) (D := D) (ci := 6) (v := .ref (am 27)) (C := RX8) (T := TX8) (N := 30) hx hb hts hinX8 hown hK hP 0 rfl rfl 27 (by decide) lk0 (fun _ h9 => h9) rfl dX8_expands_2 ?_
  refine lv_iload_n (pc := 5) hx hb dX8_expands_5 rfl (lv_at hl 1 rfl) ?_
  refine xa_lald (pc := 6) hx hb hK hP 3 1 rfl rfl (by omega) (by omega) dX8_expands_6 ?_
  refine xm_calli (pc := 7) (wc := [(hm, .inr (6, oM am n pos cmp que dsz mad cur stp cn bst)), (am 1, .inl (cI, 18, .inl (nA dgt)))]) (wr := [(am 20, .inl (cI, 36, .inl (nA rt))), (am 27, .inl (cL, 60, .inr (.inl (lA mt)))), (am 28, .inl (cI, 60, .inl (nA ds)))]) (va_runV (As := [.long (lN (mt k0))]) (rest := []) ⟨hx, hb, hml, hown, hts⟩ (c_X8_parses l D cI cL cZ s.heap.size hm am n pos cmp que dsz mad cur stp cn bst dgt ((lN (mt k0)))) (cwV 1 hts gX8_expands_X8_parses rfl rfl rfl (by decide +kernel) ⟨Nat.le_of_ble_eq_true rfl, Nat.le_of_ble_eq_true rfl⟩) (mP_V (wc := [(hm, .inr (6, oM am n pos cmp que dsz mad cur stp cn bst)), (am 1, .inl (cI, 18, .inl (nA dgt)))]) (ci := 6) (q0 := 0) hK hP hD [0, 1] (by decide) rfl rfl rfl) rfl rfl hl.1 rfl (lv_room (Nat.le_of_ble_eq_true rfl)) dX8_expands_7 ⟨Nat.zero_le _, Nat.zero_le _⟩) hP hD hS hA [0, 1] [2, 3, 4] rfl rfl (by decide) (by decide) (fun r9 u H locs hw hP hD hS => ?_)
  obtain ⟨n2_7, dgt2_7⟩ := u
  have hP : va_P D vwCl [(am 20, .inl (cI, 36, .inl (nA rt))), (am 27, .inl (cL, 60, .inr (.inl (lA mt)))), (am 28, .inl (cI, 60, .inl (nA ds))), (hm, .inr (6, oM am n2_7 pos cmp que dsz mad cur stp cn bst)), (am 1, .inl (cI, 18, .inl (nA dgt2_7)))] H := hP
  have hD : va_D _ [(am 20, .inl (cI, 36, .inl (nA rt))), (am 27, .inl (cL, 60, .inr (.inl (lA mt)))), (am 28, .inl (cI, 60, .inl (nA ds))), (hm, .inr (6, oM am n2_7 pos cmp que dsz mad cur stp cn bst)), (am 1, .inl (cI, 18, .inl (nA dgt2_7)))] := hD
  try dsimp only at hw
  obtain ⟨hrr, ⟨hn19, hmd0⟩⟩ := hw
  rw [hrr]
  rw [hcv] at hmd0
  have hmd := hmd0 hv
  have hnv := hmd.1
  refine lv_pop (pc := 10) hx hb dX8_expands_10 rfl ?_
  refine lv_iconst (pc := 11) (v := (nI (0))) hx hb dX8_expands_11 (by decide) ?_
  refine lv_istore_n (pc := 12) (lv' := [(2, .int (nI 0)), (0, .ref hm), (1, .int (nI k0))]) hx hb dX8_expands_12 rfl hl (by decide) rfl (fun ls hl => ?_)
  have loop13 : ∀ (fuel : Nat) (x : Nat) (mad1 : Nat) (rt1 : Nat → Nat) (mt1 : Nat → Nat) (ds1 : Nat → Nat) (cn1 : Nat) (ls : Array Slot) (H : Heap) (locs : List Loc), 16 * n2_7 - x < fuel → (x ≤ 16 * n2_7) → ((mt1, ds1, cn1) = exS (mt k0) (ds k0 + 1) (mt, ds, cn) (x)) → (exO (mt k0) (ds k0 + 1) (mt, ds, cn) (x) = true) → (okM mt1 cn1) → (ds1 k0 = ds k0) → (k0 < cn1) → lv_has ls 3 [(0, .ref hm), (1, .int (nI k0)), (2, .int (nI x))] → va_P D vwCl [(am 20, .inl (cI, 36, .inl (nA rt1))), (am 27, .inl (cL, 60, .inr (.inl (lA mt1)))), (am 28, .inl (cI, 60, .inl (nA ds1))), (hm, .inr (6, oM am n2_7 pos cmp que dsz mad1 cur stp cn1 bst)), (am 1, .inl (cI, 18, .inl (nA dgt2_7)))] H → va_D (va_A [(hm, .inr (6, oM am n pos cmp que dsz mad cur stp cn bst)), (am 1, .inl (cI, 18, .inl (nA dgt))), (am 20, .inl (cI, 36, .inl (nA rt))), (am 27, .inl (cL, 60, .inr (.inl (lA mt)))), (am 28, .inl (cI, 60, .inl (nA ds)))] s.heap.size) [(am 20, .inl (cI, 36, .inl (nA rt1))), (am 27, .inl (cL, 60, .inr (.inl (lA mt1)))), (am 28, .inl (cI, 60, .inl (nA ds1))), (hm, .inr (6, oM am n2_7 pos cmp que dsz mad1 cur stp cn1 bst)), (am 1, .inl (cI, 18, .inl (nA dgt2_7)))] → va_S (va_A [(hm, .inr (6, oM am n pos cmp que dsz mad cur stp cn bst)), (am 1, .inl (cI, 18, .inl (nA dgt))), (am 20, .inl (cI, 36, .inl (nA rt))), (am 27, .inl (cL, 60, .inr (.inl (lA mt)))), (am 28, .inl (cI, 60, .inl (nA ds)))] s.heap.size) s.heap H locs → W pG l eG (headSpec wsX8_expands { frames := 6, cells := 0, slots := 0, locals := 146 }).room s mG [.ref hm, .int (nI k0)].toArray below meth cG H locs 0 0 (MQ below (va_Qi (fun (r : Int32) (u : Nat × (Nat → Nat) × Nat × (Nat → Nat) × (Nat → Nat) × (Nat → Nat) × Nat) => r = (nI (pN (exO (mt k0) (ds k0 + 1) (mt, ds, cn) (16 * dc (mt k0)) = true))) ∧ (u.1 = dc (mt k0) ∧ (exO (mt k0) (ds k0 + 1) (mt, ds, cn) (16 * dc (mt k0)) = true → (u.2.2.2.2.1, u.2.2.2.2.2.1, u.2.2.2.2.2.2) = exS (mt k0) (ds k0 + 1) (mt, ds, cn) (16 * dc (mt k0)) ∧ okM u.2.2.2.2.1 u.2.2.2.2.2.2))) (fun (u : Nat × (Nat → Nat) × Nat × (Nat → Nat) × (Nat → Nat) × (Nat → Nat) × Nat) (t : State) => mB D (tyL cI cL cZ) (va_A [(hm, .inr (6, oM am n pos cmp que dsz mad cur stp cn bst)), (am 1, .inl (cI, 18, .inl (nA dgt))), (am 20, .inl (cI, 36, .inl (nA rt))), (am 27, .inl (cL, 60, .inr (.inl (lA mt)))), (am 28, .inl (cI, 60, .inl (nA ds)))] s.heap.size) [(hm, .inr (6, oM am (u.1) pos cmp que dsz (u.2.2.1) cur stp (u.2.2.2.2.2.2) bst)), (am 1, .inl (cI, 18, .inl (nA (u.2.1)))), (am 20, .inl (cI, 36, .inl (nA (u.2.2.2.1)))), (am 27, .inl (cL, 60, .inr (.inl (lA (u.2.2.2.2.1))))), (am 28, .inl (cI, 60, .inl (nA (u.2.2.2.2.2.1))))] t) (va_A [(hm, .inr (6, oM am n pos cmp que dsz mad cur stp cn bst)), (am 1, .inl (cI, 18, .inl (nA dgt))), (am 20, .inl (cI, 36, .inl (nA rt))), (am 27, .inl (cL, 60, .inr (.inl (lA mt)))), (am 28, .inl (cI, 60, .inl (nA ds)))] s.heap.size)) [.ref hm, .int (nI k0)].toArray s 0 0 (va_A [(hm, .inr (6, oM am n pos cmp que dsz mad cur stp cn bst)), (am 1, .inl (cI, 18, .inl (nA dgt))), (am 20, .inl (cI, 36, .inl (nA rt))), (am 27, .inl (cL, 60, .inr (.inl (lA mt)))), (am 28, .inl (cI, 60, .inl (nA ds)))] s.heap.size)) (F0 mG 13 ls []) := by
    intro fuel
    induction fuel with
    | zero => intro x mad1 rt1 mt1 ds1 cn1 ls H locs hmeas i1 i2 i3 i4 i5 i6 hl hP hD hS; exact absurd hmeas (Nat.not_lt_zero _)
    | succ fuel ih13 =>
      intro x mad1 rt1 mt1 ds1 cn1 ls H locs hmeas i1 i2 i3 i4 i5 i6 hl hP hD hS
      refine lv_iload_n (pc := 13) hx hb dX8_expands_13 rfl (lv_at hl 2 rfl) ?_
      refine lv_bipush (pc := 14) (v := (nI (16))) hx hb dX8_expands_14 (by decide) ?_
      refine lv_aload_n (pc := 16) hx hb dX8_expands_16 rfl (lv_at hl 0 rfl) ?_
      refine va_get (pc := 17) (D := D) (ci := 6) (v := .int (nI n2_7)) (C := RX8) (T := TX8) (N := 30) hx hb hts hinX8 hown hK hP 3 rfl rfl 0 (by decide) lk1 (fun _ h9 => h9) rfl dX8_expands_17 ?_
      refine xn_imul (pc := 20) hx hb  dX8_expands_20 ?_
      refine xn_icmp_ge (pc := 21) (tgt := 70) hx hb (by omega) (by omega) dX8_expands_21 (by decide) (fun c21 => ?_) (fun c21 => ?_)
      · have hpe : x = 16 * dc (mt k0) := by omega
        refine lv_iconst (pc := 70) (v := (nI (1))) hx hb dX8_expands_70 (by decide) ?_
        have hP9 : va_P D vwCl [(hm, .inr (6, oM am n2_7 pos cmp que dsz mad1 cur stp cn1 bst)), (am 1, .inl (cI, 18, .inl (nA dgt2_7))), (am 20, .inl (cI, 36, .inl (nA rt1))), (am 27, .inl (cL, 60, .inr (.inl (lA mt1)))), (am 28, .inl (cI, 60, .inl (nA ds1)))] H := hP.sub [3, 4, 0, 1, 2] rfl
        have hD9 : va_D _ [(hm, .inr (6, oM am n2_7 pos cmp que dsz mad1 cur stp cn1 bst)), (am 1, .inl (cI, 18, .inl (nA dgt2_7))), (am 20, .inl (cI, 36, .inl (nA rt1))), (am 27, .inl (cL, 60, .inr (.inl (lA mt1)))), (am 28, .inl (cI, 60, .inl (nA ds1)))] := hD.sub [3, 4, 0, 1, 2] (by decide) rfl
        exact W.zret (pc := 71) (v := (nI (1))) (ty := .boolean) hx hb hr (by decide) (fun t ht hW => ⟨⟨_, (n2_7, dgt2_7, mad1, rt1, mt1, ds1, cn1), rfl, ⟨(congrArg nI (pN_t (by rw [← hpe]; exact i3)).symm), ⟨hnv, fun _ => by rw [← hpe]; exact ⟨i2, i4⟩⟩⟩, by rw [ht]; exact hP9, va_K.moved hW.alike hK, hD9⟩, hS.F ht⟩) hS.2.2 dX8_expands_71
      · refine lv_aload_n (pc := 24) hx hb dX8_expands_24 rfl (lv_at hl 0 rfl) ?_
        refine lv_iload_n (pc := 25) hx hb dX8_expands_25 rfl (lv_at hl 2 rfl) ?_
        refine lv_bipush (pc := 26) (v := (nI (16))) hx hb dX8_expands_26 (by decide) ?_
        refine xn_irem (pc := 28) hx hb (by omega) (by omega) (by omega) dX8_expands_28 ?_
        refine lv_iload_n (pc := 29) hx hb dX8_expands_29 rfl (lv_at hl 2 rfl) ?_
        refine lv_bipush (pc := 30) (v := (nI (16))) hx hb dX8_expands_30 (by decide) ?_
        refine xn_idiv (pc := 32) hx hb (by omega) (by omega) (by omega) dX8_expands_32 ?_
        refine xm_calli (pc := 33) (wc := [(hm, .inr (6, oM am n2_7 pos cmp que dsz mad1 cur stp cn1 bst)), (am 1, .inl (cI, 18, .inl (nA dgt2_7))), (am 20, .inl (cI, 36, .inl (nA rt1)))]) (wr := [(am 27, .inl (cL, 60, .inr (.inl (lA mt1)))), (am 28, .inl (cI, 60, .inl (nA ds1)))]) (va_runV (As := [.int (nI (x % 16)), .int (nI (x / 16))]) (rest := []) ⟨hx, hb, hml, hown, hts⟩ (c_X8_applies l D cI cL cZ H.size hm am n2_7 pos cmp que dsz mad1 cur stp cn1 bst dgt2_7 (en (mt k0)) (dc (mt k0)) rt1 (x % 16) (x / 16) (TV_M hv hmd) (by omega) (by omega)) (cwV 2 hts gX8_expands_X8_applies rfl rfl rfl (by decide +kernel) ⟨Nat.le_of_ble_eq_true rfl, Nat.le_of_ble_eq_true rfl⟩) (mP_V (wc := [(hm, .inr (6, oM am n2_7 pos cmp que dsz mad1 cur stp cn1 bst)), (am 1, .inl (cI, 18, .inl (nA dgt2_7))), (am 20, .inl (cI, 36, .inl (nA rt1)))]) (ci := 6) (q0 := 0) hK hP hD [3, 4, 0] (by decide) rfl rfl rfl) rfl rfl hl.1 rfl (lv_room (Nat.le_of_ble_eq_true rfl)) dX8_expands_33 ⟨Nat.zero_le _, Nat.zero_le _⟩) hP hD hS hA [3, 4, 0] [1, 2] rfl rfl (by decide) (by decide) (fun r9 u H locs hw hP hD hS => ?_)
        obtain ⟨mad2_33, rt2_33⟩ := u
        have hP : va_P D vwCl [(am 27, .inl (cL, 60, .inr (.inl (lA mt1)))), (am 28, .inl (cI, 60, .inl (nA ds1))), (hm, .inr (6, oM am n2_7 pos cmp que dsz mad2_33 cur stp cn1 bst)), (am 1, .inl (cI, 18, .inl (nA dgt2_7))), (am 20, .inl (cI, 36, .inl (nA rt2_33)))] H := hP
        have hD : va_D _ [(am 27, .inl (cL, 60, .inr (.inl (lA mt1)))), (am 28, .inl (cI, 60, .inl (nA ds1))), (hm, .inr (6, oM am n2_7 pos cmp que dsz mad2_33 cur stp cn1 bst)), (am 1, .inl (cI, 18, .inl (nA dgt2_7))), (am 20, .inl (cI, 36, .inl (nA rt2_33)))] := hD
        try dsimp only at hw
        obtain ⟨hrr, hrt33⟩ := hw
        rw [hrr]
        have eO := rR_M hv hmd (r := x % 16) (p := x / 16) (by omega) (by omega)
        rw [eO] at hrt33
        refine xp_if_eq (pc := 36) (tgt := 64) hx hb dX8_expands_36 (by decide) (fun c36 => ?_) (fun c36 => ?_)
        · have hs36 : ¬ (oV (mt k0) (x % 16) (x / 16)).isSome = true := by rw [← eO]; exact c36
          refine lv_iinc (pc := 64) (v := (nI (x + 1))) (lv' := [(2, .int (nI (x + 1))), (0, .ref hm), (1, .int (nI k0))]) hx hb dX8_expands_64 hl (k := 2) rfl (nI_incr _) (by decide) rfl (fun ls hl => ?_)
          refine lv_goto (pc := 67) (tgt := 13) hx hb dX8_expands_67 (by decide) ?_
          exact ih13 (x + 1) mad2_33 rt2_33 mt1 ds1 cn1 ls _ _ (by omega) (by omega) (by first | exact ex_yes i2 hs36 rfl hw56 | exact ex_no i2 hs36) (by first | (rw [exO_yes i2 i3 hs36 rfl]; exact c59) | exact exO_no i3 hs36) (by first | (rw [hw56.1, hw56.2.2]; exact okM_mt i4 (nx_ok hv hog.2.2).1) | exact i4) (by first | (rw [hw56.2.1]; exact (mtD_keep i6).trans i5) | exact i5) (by first | (rw [hw56.2.2]; exact Nat.lt_of_lt_of_le i6 mtC_le) | exact i6) (lv_sub hl [1, 2, 0] rfl) (hP.sub [4, 0, 1, 2, 3] rfl) (hD.sub [4, 0, 1, 2, 3] (by decide) rfl) hS
        · have hs36 : (oV (mt k0) (x % 16) (x / 16)).isSome = true := by rw [← eO]; exact c36
          have hog := oV_get2 hv hs36
          refine lv_aload_n (pc := 39) hx hb dX8_expands_39 rfl (lv_at hl 0 rfl) ?_
          refine lv_aload_n (pc := 40) hx hb dX8_expands_40 rfl (lv_at hl 0 rfl) ?_
          refine lv_iload_n (pc := 41) hx hb dX8_expands_41 rfl (lv_at hl 2 rfl) ?_
          refine lv_bipush (pc := 42) (v := (nI (16))) hx hb dX8_expands_42 (by decide) ?_
          refine xn_idiv (pc := 44) hx hb (by omega) (by omega) (by omega) dX8_expands_44 ?_
          refine vp_callSl (pc := 45) (W.runV (As := [.int (nI (x / 16))]) (rest := [.ref hm]) ⟨hx, hb, hml, hown, hts⟩ (c_X8_replaced l D cI cL cZ hm am n2_7 pos cmp que dsz mad2_33 cur stp cn1 bst dgt2_7 (en (mt k0)) (dc (mt k0)) rt2_33 ((oV (mt k0) (x % 16) (x / 16)).getD []) (x / 16) (TV_M hv hmd) (by omega) hmd.1 hrt33 hog.1 hog.2.1) (cwV 1 hts gX8_expands_X8_replaced rfl rfl rfl (by decide +kernel) ⟨Nat.le_of_ble_eq_true rfl, Nat.le_of_ble_eq_true rfl⟩) (rP_V (wc := [(hm, .inr (6, oM am n2_7 pos cmp que dsz mad2_33 cur stp cn1 bst)), (am 1, .inl (cI, 18, .inl (nA dgt2_7))), (am 20, .inl (cI, 36, .inl (nA rt2_33)))]) (ci := 6) (q0 := 0) hK hP [2, 3, 4] rfl rfl rfl) rfl rfl hl.1 rfl (lv_room (Nat.le_of_ble_eq_true rfl)) dX8_expands_45 ⟨Nat.zero_le _, Nat.zero_le _⟩) (fun r9 hrr => ?_)
          rw [hrr]
          refine W.eq (g2 := F0 mG 48 ls [.long (lN (nx (mt k0) (x % 16) (x / 16))), .ref hm]) (congrArg (fun zz => F0 mG 48 ls [.long (lN zz), .ref hm]) (by rw [nx_M hv hmd (show x / 16 < dc (mt k0) by omega)]; rfl)) ?_
          refine lv_aload_n (pc := 48) hx hb dX8_expands_48 rfl (lv_at hl 0 rfl) ?_
          refine va_get (pc := 49) (D := D) (ci := 6) (v := .ref (am 28)) (C := RX8) (T := TX8) (N := 30) hx hb hts hinX8 hown hK hP 2 rfl rfl 28 (by decide) lk2 (fun _ h9 => h9) rfl dX8_expands_49 ?_
          refine lv_iload_n (pc := 52) hx hb dX8_expands_52 rfl (lv_at hl 1 rfl) ?_
          refine xa_iald (pc := 53) hx hb hK hP 1 0 rfl rfl (by omega) (by omega) dX8_expands_53 ?_
          refine lv_iconst (pc := 54) (v := (nI (1))) hx hb dX8_expands_54 (by decide) ?_
          refine xn_iadd (pc := 55) hx hb  dX8_expands_55 ?_
          refine W.eq (g2 := F0 mG 56 ls [.int (nI (ds k0 + 1)), .long (lN (nx (mt k0) (x % 16) (x / 16))), .ref hm]) (congrArg (fun zz => F0 mG 56 ls [.int (nI zz), .long (lN (nx (mt k0) (x % 16) (x / 16))), .ref hm]) ((by rw [i5]))) ?_
          refine xm_calli (pc := 56) (wc := [(hm, .inr (6, oM am n2_7 pos cmp que dsz mad2_33 cur stp cn1 bst)), (am 27, .inl (cL, 60, .inr (.inl (lA mt1)))), (am 28, .inl (cI, 60, .inl (nA ds1)))]) (wr := [(am 1, .inl (cI, 18, .inl (nA dgt2_7))), (am 20, .inl (cI, 36, .inl (nA rt2_33)))]) (va_runV (As := [.long (lN (nx (mt k0) (x % 16) (x / 16))), .int (nI (ds k0 + 1))]) (rest := []) ⟨hx, hb, hml, hown, hts⟩ (c_X8_meets l D cI cL cZ H.size hm am n2_7 pos cmp que dsz mad2_33 cur stp cn1 bst mt1 ds1 (nx (mt k0) (x % 16) (x / 16)) (ds k0 + 1) i4.2.1 i4.lt (Nat.lt_trans (okVb_iff.mp (nx_ok hv hog.2.2).1).2.1 pow18)) (cwV 2 hts gX8_expands_X8_meets rfl rfl rfl (by decide +kernel) ⟨Nat.le_of_ble_eq_true rfl, Nat.le_of_ble_eq_true rfl⟩) (mP_V (wc := [(hm, .inr (6, oM am n2_7 pos cmp que dsz mad2_33 cur stp cn1 bst)), (am 27, .inl (cL, 60, .inr (.inl (lA mt1)))), (am 28, .inl (cI, 60, .inl (nA ds1)))]) (ci := 6) (q0 := 0) hK hP hD [2, 0, 1] (by decide) rfl rfl rfl) rfl rfl hl.1 rfl (lv_room (Nat.le_of_ble_eq_true rfl)) dX8_expands_56 ⟨Nat.zero_le _, Nat.zero_le _⟩) hP hD hS hA [2, 0, 1] [3, 4] rfl rfl (by decide) (by decide) (fun r9 u H locs hw hP hD hS => ?_)
          obtain ⟨mt2_56, ds2_56, cn2_56⟩ := u
          have hP : va_P D vwCl [(am 1, .inl (cI, 18, .inl (nA dgt2_7))), (am 20, .inl (cI, 36, .inl (nA rt2_33))), (hm, .inr (6, oM am n2_7 pos cmp que dsz mad2_33 cur stp cn2_56 bst)), (am 27, .inl (cL, 60, .inr (.inl (lA mt2_56)))), (am 28, .inl (cI, 60, .inl (nA ds2_56)))] H := hP
          have hD : va_D _ [(am 1, .inl (cI, 18, .inl (nA dgt2_7))), (am 20, .inl (cI, 36, .inl (nA rt2_33))), (hm, .inr (6, oM am n2_7 pos cmp que dsz mad2_33 cur stp cn2_56 bst)), (am 27, .inl (cL, 60, .inr (.inl (lA mt2_56)))), (am 28, .inl (cI, 60, .inl (nA ds2_56)))] := hD
          try dsimp only at hw
          obtain ⟨hrr, hw56⟩ := hw
          rw [hrr]
          refine xp_if_ne (pc := 59) (tgt := 64) hx hb dX8_expands_59 (by decide) (fun c59 => ?_) (fun c59 => ?_)
          · refine lv_iinc (pc := 64) (v := (nI (x + 1))) (lv' := [(2, .int (nI (x + 1))), (0, .ref hm), (1, .int (nI k0))]) hx hb dX8_expands_64 hl (k := 2) rfl (nI_incr _) (by decide) rfl (fun ls hl => ?_)
            refine lv_goto (pc := 67) (tgt := 13) hx hb dX8_expands_67 (by decide) ?_
            exact ih13 (x + 1) mad2_33 rt2_33 mt2_56 ds2_56 cn2_56 ls _ _ (by omega) (by omega) (by first | exact ex_yes i2 hs36 rfl hw56 | exact ex_no i2 hs36) (by first | (rw [exO_yes i2 i3 hs36 rfl]; exact c59) | exact exO_no i3 hs36) (by first | (rw [hw56.1, hw56.2.2]; exact okM_mt i4 (nx_ok hv hog.2.2).1) | exact i4) (by first | (rw [hw56.2.1]; exact (mtD_keep i6).trans i5) | exact i5) (by first | (rw [hw56.2.2]; exact Nat.lt_of_lt_of_le i6 mtC_le) | exact i6) (lv_sub hl [1, 2, 0] rfl) (hP.sub [1, 3, 4, 2, 0] rfl) (hD.sub [1, 3, 4, 2, 0] (by decide) rfl) hS
          · have hof : exO (mt k0) (ds k0 + 1) (mt, ds, cn) (16 * dc (mt k0)) = false := by rw [show 16 * dc (mt k0) = (x + 1) + (16 * dc (mt k0) - (x + 1)) from by omega]; exact exO_mono (by rw [exO_yes i2 i3 hs36 rfl]; simpa using c59) _
            refine lv_iconst (pc := 62) (v := (nI (0))) hx hb dX8_expands_62 (by decide) ?_
            have hP9 : va_P D vwCl [(hm, .inr (6, oM am n2_7 pos cmp que dsz mad2_33 cur stp cn2_56 bst)), (am 1, .inl (cI, 18, .inl (nA dgt2_7))), (am 20, .inl (cI, 36, .inl (nA rt2_33))), (am 27, .inl (cL, 60, .inr (.inl (lA mt2_56)))), (am 28, .inl (cI, 60, .inl (nA ds2_56)))] H := hP.sub [2, 0, 1, 3, 4] rfl
            have hD9 : va_D _ [(hm, .inr (6, oM am n2_7 pos cmp que dsz mad2_33 cur stp cn2_56 bst)), (am 1, .inl (cI, 18, .inl (nA dgt2_7))), (am 20, .inl (cI, 36, .inl (nA rt2_33))), (am 27, .inl (cL, 60, .inr (.inl (lA mt2_56)))), (am 28, .inl (cI, 60, .inl (nA ds2_56)))] := hD.sub [2, 0, 1, 3, 4] (by decide) rfl
            exact W.zret (pc := 63) (v := (nI (0))) (ty := .boolean) hx hb hr (by decide) (fun t ht hW => ⟨⟨_, (n2_7, dgt2_7, mad2_33, rt2_33, mt2_56, ds2_56, cn2_56), rfl, ⟨(congrArg nI (pN_f (by rw [hof]; decide)).symm), ⟨hnv, fun h => absurd (hof.symm.trans h) (by decide)⟩⟩, by rw [ht]; exact hP9, va_K.moved hW.alike hK, hD9⟩, hS.F ht⟩) hS.2.2 dX8_expands_63
  exact loop13 (_ + 1) 0 mad rt mt ds cn ls _ _ (Nat.lt_succ_self _) (by omega) rfl rfl hok rfl hk0 (lv_sub hl [1, 2, 0] rfl) (hP.sub [0, 1, 2, 3, 4] rfl) (hD.sub [0, 1, 2, 3, 4] (by decide) rfl) hS
