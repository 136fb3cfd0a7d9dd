/-! both: applicableCount -/
set_option maxHeartbeats 4000000 in
set_option maxRecDepth 100000 in
theorem c_X8_applicableCount (l : Launch) (D : va_G) (cI cL cZ : ClassId) (sz : Nat) (hm : Nat) (am : Nat → Nat) (n : Nat) (pos : Nat) (cmp : Nat) (que : Nat) (dsz : Nat) (mad : Nat) (cur : Nat) (stp : Nat) (met : Nat) (bst : Nat) (dgt : Nat → Nat) (rt : Nat → Nat) (hcur : okVb cur = true) : Met l yX8_applicableCount wsX8_applicableCount { frames := 6, cells := 0, slots := 0, locals := 146 } (mP D (tyL cI cL cZ) [(hm, .inr (6, oM am n pos cmp que dsz mad cur stp met bst)), (am 1, .inl (cI, 18, .inl (nA dgt))), (am 20, .inl (cI, 36, .inl (nA rt)))] sz [.ref hm]) (va_Qi (fun (r : Int32) (u : Nat × (Nat → Nat) × Nat × (Nat → Nat)) => r = (nI (apk cur (16 * dc cur))) ∧ (True)) (fun (u : Nat × (Nat → Nat) × Nat × (Nat → Nat)) (t : State) => mB D (tyL cI cL cZ) (va_A [(hm, .inr (6, oM am n pos cmp que dsz mad cur stp met bst)), (am 1, .inl (cI, 18, .inl (nA dgt))), (am 20, .inl (cI, 36, .inl (nA rt)))] sz) [(hm, .inr (6, oM am (u.1) pos cmp que dsz (u.2.2.1) cur stp met bst)), (am 1, .inl (cI, 18, .inl (nA (u.2.1)))), (am 20, .inl (cI, 36, .inl (nA (u.2.2.2))))] t) (va_A [(hm, .inr (6, oM am n pos cmp que dsz mad cur stp met bst)), (am 1, .inl (cI, 18, .inl (nA dgt))), (am 20, .inl (cI, 36, .inl (nA rt)))] sz)) 0 0 (va_A [(hm, .inr (6, oM am n pos cmp que dsz mad cur stp met bst)), (am 1, .inl (cI, 18, .inl (nA dgt))), (am 20, .inl (cI, 36, .inl (nA rt)))] sz) := by
  refine Met.ofW (cc := cX8_applicableCount) (maxL := 3) (ret := (some .int)) (by decide) rfl ?_
  intro pG eG s mG args below meth cG s₁ B hml hpre9
  obtain ⟨rfl, hsz, hP, hK, hD0⟩ := hpre9
  have hx := B.exec
  have hb := B.bytes
  have hr := B.returns
  have hts := atoms_spec (ws := wsX8_applicableCount) B.pre
  have hown : s.vm.findClass RX8 = some mG.cls := findClass_of_methodNamed B.named
  have hlocks := B.notSynchronized
  subst hsz
  have hD := hD0.self (sz := s.heap.size)
  have hA : ∀ q : Nat, s.heap.size ≤ q → va_A [(hm, .inr (6, oM am n pos cmp que dsz mad cur stp met bst)), (am 1, .inl (cI, 18, .inl (nA dgt))), (am 20, .inl (cI, 36, .inl (nA rt)))] s.heap.size q := fun q h => Or.inr h
  have hS : va_S (va_A [(hm, .inr (6, oM am n pos cmp que dsz mad cur stp met bst)), (am 1, .inl (cI, 18, .inl (nA dgt))), (am 20, .inl (cI, 36, .inl (nA rt)))] s.heap.size) s.heap s.heap [] := va_S.rf
  have hinX8 : ∀ w ∈ wsX80, w ∈ wsX8_applicableCount := fun w HH => (List.mem_cons_of_mem _ (List.mem_append_right _ HH))
  have lk0 : (Cond.fieldLink RX8 74 "RegexSimplifierModel" "currentRegex" "J").before _ s = true := hts _ (List.mem_cons_of_mem _ (List.mem_append_left _ (List.mem_append_left _ (List.mem_of_getElem? (i := 0) rfl))))
  have lk1 : (Cond.fieldLink RX8 78 "RegexSimplifierModel" "n" "I").before _ s = true := hts _ (List.mem_cons_of_mem _ (List.mem_append_left _ (List.mem_append_left _ (List.mem_of_getElem? (i := 1) rfl))))
  have hl := lv_entry ([.ref hm]) (n := 3) (Nat.le_of_ble_eq_true rfl)
  rw [lg_entry_eq]
  generalize (lg_sl ([.ref hm]) ++ List.replicate (3 - (lg_sl ([.ref hm])).length) Slot.unset).toArray = ls at hl ⊢
  have hl : lv_has ls 3 [(0, .ref hm)] := hl
  have hc18 := (okVb_iff.mp hcur).2.1
  have hcv : xv (lN cur) = cur := xv_lN (Nat.lt_trans hc18 pow18)
  have h18 := (dc_lt hc18).2
  refine lv_aload_n (pc := 0) hx hb dX8_applicableCount_0 rfl (lv_at hl 0 rfl) ?_
  refine lv_aload_n (pc := 1) hx hb dX8_applicableCount_1 rfl (lv_at hl 0 rfl) ?_
  refine va_get (pc := 2) (D := D) (ci := 6) (v := .long (lN cur)) (C := RX8) (T := TX8) (N := 30) hx hb hts hinX8 hown hK hP 0 rfl rfl 21 (by decide) lk0 (fun _ h9 => h9) rfl dX8_applicableCount_2 ?_
  refine xm_calli (pc := 5) (wc := [(hm, .inr (6, oM am n pos cmp que dsz mad cur stp met bst)), (am 1, .inl (cI, 18, .inl (nA dgt)))]) (wr := [(am 20, .inl (cI, 36, .inl (nA rt)))]) (va_runV (As := [.long (lN cur)]) (rest := []) ⟨hx, hb, hml, hown, hts⟩ (c_X8_parses l D cI cL cZ s.heap.size hm am n pos cmp que dsz mad cur stp met bst dgt ((lN (cur)))) (cwV 1 hts gX8_applicableCount_X8_parses rfl rfl rfl (by decide +kernel) ⟨Nat.le_of_ble_eq_true rfl, Nat.le_of_ble_eq_true rfl⟩) (mP_V (wc := [(hm, .inr (6, oM am n pos cmp que dsz mad cur stp met bst)), (am 1, .inl (cI, 18, .inl (nA dgt)))]) (ci := 6) (q0 := 0) hK hP hD [0, 1] (by decide) rfl rfl rfl) rfl rfl hl.1 rfl (lv_room (Nat.le_of_ble_eq_true rfl)) dX8_applicableCount_5 ⟨Nat.zero_le _, Nat.zero_le _⟩) hP hD hS hA [0, 1] [2] rfl rfl (by decide) (by decide) (fun r9 u H locs hw hP hD hS => ?_)
  obtain ⟨n2_5, dgt2_5⟩ := u
  have hP : va_P D vwCl [(am 20, .inl (cI, 36, .inl (nA rt))), (hm, .inr (6, oM am n2_5 pos cmp que dsz mad cur stp met bst)), (am 1, .inl (cI, 18, .inl (nA dgt2_5)))] H := hP
  have hD : va_D _ [(am 20, .inl (cI, 36, .inl (nA rt))), (hm, .inr (6, oM am n2_5 pos cmp que dsz mad cur stp met bst)), (am 1, .inl (cI, 18, .inl (nA dgt2_5)))] := hD
  try dsimp only at hw
  obtain ⟨hrr, ⟨hn19, hmd0⟩⟩ := hw
  rw [hrr]
  rw [hcv] at hmd0
  have hmd : MD cur n2_5 dgt2_5 := hmd0 hcur
  have hnv := hmd.1
  refine lv_pop (pc := 8) hx hb dX8_applicableCount_8 rfl ?_
  refine lv_iconst (pc := 9) (v := (nI (0))) hx hb dX8_applicableCount_9 (by decide) ?_
  refine lv_istore_n (pc := 10) (lv' := [(1, .int (nI 0)), (0, .ref hm)]) hx hb dX8_applicableCount_10 rfl hl (by decide) rfl (fun ls hl => ?_)
  refine lv_iconst (pc := 11) (v := (nI (0))) hx hb dX8_applicableCount_11 (by decide) ?_
  refine lv_istore_n (pc := 12) (lv' := [(2, .int (nI 0)), (1, .int (nI 0)), (0, .ref hm)]) hx hb dX8_applicableCount_12 rfl hl (by decide) rfl (fun ls hl => ?_)
  have loop13 : ∀ (fuel : Nat) (k : Nat) (o : Nat) (mad1 : Nat) (rt1 : Nat → Nat) (ls : Array Slot) (H : Heap) (locs : List Loc), 16 * n2_5 - k < fuel → (k ≤ 16 * n2_5) → (o = apk cur k) → (o ≤ k) → lv_has ls 3 [(0, .ref hm), (1, .int (nI o)), (2, .int (nI k))] → va_P D vwCl [(am 20, .inl (cI, 36, .inl (nA rt1))), (hm, .inr (6, oM am n2_5 pos cmp que dsz mad1 cur stp met bst)), (am 1, .inl (cI, 18, .inl (nA dgt2_5)))] H → va_D (va_A [(hm, .inr (6, oM am n pos cmp que dsz mad cur stp met bst)), (am 1, .inl (cI, 18, .inl (nA dgt))), (am 20, .inl (cI, 36, .inl (nA rt)))] s.heap.size) [(am 20, .inl (cI, 36, .inl (nA rt1))), (hm, .inr (6, oM am n2_5 pos cmp que dsz mad1 cur stp met bst)), (am 1, .inl (cI, 18, .inl (nA dgt2_5)))] → va_S (va_A [(hm, .inr (6, oM am n pos cmp que dsz mad cur stp met bst)), (am 1, .inl (cI, 18, .inl (nA dgt))), (am 20, .inl (cI, 36, .inl (nA rt)))] s.heap.size) s.heap H locs → W pG l eG (headSpec wsX8_applicableCount { frames := 6, cells := 0, slots := 0, locals := 146 }).room s mG [.ref hm].toArray below meth cG H locs 0 0 (MQ below (va_Qi (fun (r : Int32) (u : Nat × (Nat → Nat) × Nat × (Nat → Nat)) => r = (nI (apk cur (16 * dc cur))) ∧ (True)) (fun (u : Nat × (Nat → Nat) × Nat × (Nat → Nat)) (t : State) => mB D (tyL cI cL cZ) (va_A [(hm, .inr (6, oM am n pos cmp que dsz mad cur stp met bst)), (am 1, .inl (cI, 18, .inl (nA dgt))), (am 20, .inl (cI, 36, .inl (nA rt)))] s.heap.size) [(hm, .inr (6, oM am (u.1) pos cmp que dsz (u.2.2.1) cur stp met bst)), (am 1, .inl (cI, 18, .inl (nA (u.2.1)))), (am 20, .inl (cI, 36, .inl (nA (u.2.2.2))))] t) (va_A [(hm, .inr (6, oM am n pos cmp que dsz mad cur stp met bst)), (am 1, .inl (cI, 18, .inl (nA dgt))), (am 20, .inl (cI, 36, .inl (nA rt)))] s.heap.size)) [.ref hm].toArray s 0 0 (va_A [(hm, .inr (6, oM am n pos cmp que dsz mad cur stp met bst)), (am 1, .inl (cI, 18, .inl (nA dgt))), (am 20, .inl (cI, 36, .inl (nA rt)))] s.heap.size)) (F0 mG 13 ls []) := by
    intro fuel
    induction fuel with
    | zero => intro k o mad1 rt1 ls H locs hmeas i1 i2 i3 hl hP hD hS; exact absurd hmeas (Nat.not_lt_zero _)
    | succ fuel ih13 =>
      intro k o mad1 rt1 ls H locs hmeas i1 i2 i3 hl hP hD hS
      refine lv_iload_n (pc := 13) hx hb dX8_applicableCount_13 rfl (lv_at hl 2 rfl) ?_
      refine lv_bipush (pc := 14) (v := (nI (16))) hx hb dX8_applicableCount_14 (by decide) ?_
      refine lv_aload_n (pc := 16) hx hb dX8_applicableCount_16 rfl (lv_at hl 0 rfl) ?_
      refine va_get (pc := 17) (D := D) (ci := 6) (v := .int (nI n2_5)) (C := RX8) (T := TX8) (N := 30) hx hb hts hinX8 hown hK hP 1 rfl rfl 0 (by decide) lk1 (fun _ h9 => h9) rfl dX8_applicableCount_17 ?_
      refine xn_imul (pc := 20) hx hb  dX8_applicableCount_20 ?_
      refine xn_icmp_ge (pc := 21) (tgt := 53) hx hb (by omega) (by omega) dX8_applicableCount_21 (by decide) (fun c21 => ?_) (fun c21 => ?_)
      · refine lv_iload_n (pc := 53) hx hb dX8_applicableCount_53 rfl (lv_at hl 1 rfl) ?_
        have hP9 : va_P D vwCl [(hm, .inr (6, oM am n2_5 pos cmp que dsz mad1 cur stp met bst)), (am 1, .inl (cI, 18, .inl (nA dgt2_5))), (am 20, .inl (cI, 36, .inl (nA rt1)))] H := hP.sub [1, 2, 0] rfl
        have hD9 : va_D _ [(hm, .inr (6, oM am n2_5 pos cmp que dsz mad1 cur stp met bst)), (am 1, .inl (cI, 18, .inl (nA dgt2_5))), (am 20, .inl (cI, 36, .inl (nA rt1)))] := hD.sub [1, 2, 0] (by decide) rfl
        exact W.iret (pc := 54) (v := (nI (o))) hx hb hr (fun t ht hW => ⟨⟨_, (n2_5, dgt2_5, mad1, rt1), rfl, ⟨(by rw [i2, show k = 16 * dc cur from by omega]), trivial⟩, by rw [ht]; exact hP9, va_K.moved hW.alike hK, hD9⟩, hS.F ht⟩) hS.2.2 dX8_applicableCount_54
      · refine lv_iload_n (pc := 24) hx hb dX8_applicableCount_24 rfl (lv_at hl 1 rfl) ?_
        refine lv_aload_n (pc := 25) hx hb dX8_applicableCount_25 rfl (lv_at hl 0 rfl) ?_
        refine lv_iload_n (pc := 26) hx hb dX8_applicableCount_26 rfl (lv_at hl 2 rfl) ?_
        refine lv_bipush (pc := 27) (v := (nI (16))) hx hb dX8_applicableCount_27 (by decide) ?_
        refine xn_irem (pc := 29) hx hb (by omega) (by omega) (by omega) dX8_applicableCount_29 ?_
        refine lv_iload_n (pc := 30) hx hb dX8_applicableCount_30 rfl (lv_at hl 2 rfl) ?_
        refine lv_bipush (pc := 31) (v := (nI (16))) hx hb dX8_applicableCount_31 (by decide) ?_
        refine xn_idiv (pc := 33) hx hb (by omega) (by omega) (by omega) dX8_applicableCount_33 ?_
        refine xm_calli (pc := 34) (wc := [(hm, .inr (6, oM am n2_5 pos cmp que dsz mad1 cur stp met bst)), (am 1, .inl (cI, 18, .inl (nA dgt2_5))), (am 20, .inl (cI, 36, .inl (nA rt1)))]) (wr := []) (va_runV (As := [.int (nI (k % 16)), .int (nI (k / 16))]) (rest := [.int (nI o)]) ⟨hx, hb, hml, hown, hts⟩ (c_X8_applies l D cI cL cZ H.size hm am n2_5 pos cmp que dsz mad1 cur stp met bst dgt2_5 (en cur) (dc cur) rt1 (k % 16) (k / 16) (TV_M hcur hmd) (by omega) (by omega)) (cwV 2 hts gX8_applicableCount_X8_applies rfl rfl rfl (by decide +kernel) ⟨Nat.le_of_ble_eq_true rfl, Nat.le_of_ble_eq_true rfl⟩) (mP_V (wc := [(hm, .inr (6, oM am n2_5 pos cmp que dsz mad1 cur stp met bst)), (am 1, .inl (cI, 18, .inl (nA dgt2_5))), (am 20, .inl (cI, 36, .inl (nA rt1)))]) (ci := 6) (q0 := 0) hK hP hD [1, 2, 0] (by decide) rfl rfl rfl) rfl rfl hl.1 rfl (lv_room (Nat.le_of_ble_eq_true rfl)) dX8_applicableCount_34 ⟨Nat.zero_le _, Nat.zero_le _⟩) hP hD hS hA [1, 2, 0] [] rfl rfl (by decide) (by decide) (fun r9 u H locs hw hP hD hS => ?_)
        obtain ⟨mad2_34, rt2_34⟩ := u
        have hP : va_P D vwCl [(hm, .inr (6, oM am n2_5 pos cmp que dsz mad2_34 cur stp met bst)), (am 1, .inl (cI, 18, .inl (nA dgt2_5))), (am 20, .inl (cI, 36, .inl (nA rt2_34)))] H := hP
        have hD : va_D _ [(hm, .inr (6, oM am n2_5 pos cmp que dsz mad2_34 cur stp met bst)), (am 1, .inl (cI, 18, .inl (nA dgt2_5))), (am 20, .inl (cI, 36, .inl (nA rt2_34)))] := hD
        try dsimp only at hw
        obtain ⟨hrr, hw34⟩ := hw
        rw [hrr]
        refine xp_if_eq (pc := 37) (tgt := 44) hx hb dX8_applicableCount_37 (by decide) (fun c37 => ?_) (fun c37 => ?_)
        · have eO := rR_M hcur hmd (r := k % 16) (p := k / 16) (by omega) (by omega)
          refine lv_iconst (pc := 44) (v := (nI (0))) hx hb dX8_applicableCount_44 (by decide) ?_
          refine xn_iadd (pc := 45) hx hb  dX8_applicableCount_45 ?_
          refine lv_istore_n (pc := 46) (lv' := [(1, .int (nI (o + 0))), (0, .ref hm), (2, .int (nI k))]) hx hb dX8_applicableCount_46 rfl hl (by decide) rfl (fun ls hl => ?_)
          refine lv_iinc (pc := 47) (v := (nI (k + 1))) (lv' := [(2, .int (nI (k + 1))), (1, .int (nI (o + 0))), (0, .ref hm)]) hx hb dX8_applicableCount_47 hl (k := 2) rfl (nI_incr _) (by decide) rfl (fun ls hl => ?_)
          refine lv_goto (pc := 50) (tgt := 13) hx hb dX8_applicableCount_50 (by decide) ?_
          exact ih13 (k + 1) (o + 0) mad2_34 rt2_34 ls _ _ (by omega) (by omega) (by first | (rw [apk_yes (by rw [← eO]; exact c37), i2]; done) | (rw [apk_no (by rw [← eO]; exact c37), i2]; rfl)) (by omega) (lv_sub hl [2, 1, 0] rfl) (hP.sub [2, 0, 1] rfl) (hD.sub [2, 0, 1] (by decide) rfl) hS
        · have eO := rR_M hcur hmd (r := k % 16) (p := k / 16) (by omega) (by omega)
          refine lv_iconst (pc := 40) (v := (nI (1))) hx hb dX8_applicableCount_40 (by decide) ?_
          refine lv_goto (pc := 41) (tgt := 45) hx hb dX8_applicableCount_41 (by decide) ?_
          refine xn_iadd (pc := 45) hx hb  dX8_applicableCount_45 ?_
          refine lv_istore_n (pc := 46) (lv' := [(1, .int (nI (o + 1))), (0, .ref hm), (2, .int (nI k))]) hx hb dX8_applicableCount_46 rfl hl (by decide) rfl (fun ls hl => ?_)
          refine lv_iinc (pc := 47) (v := (nI (k + 1))) (lv' := [(2, .int (nI (k + 1))), (1, .int (nI (o + 1))), (0, .ref hm)]) hx hb dX8_applicableCount_47 hl (k := 2) rfl (nI_incr _) (by decide) rfl (fun ls hl => ?_)
          refine lv_goto (pc := 50) (tgt := 13) hx hb dX8_applicableCount_50 (by decide) ?_
          exact ih13 (k + 1) (o + 1) mad2_34 rt2_34 ls _ _ (by omega) (by omega) (by first | (rw [apk_yes (by rw [← eO]; exact c37), i2]; done) | (rw [apk_no (by rw [← eO]; exact c37), i2]; rfl)) (by omega) (lv_sub hl [2, 1, 0] rfl) (hP.sub [2, 0, 1] rfl) (hD.sub [2, 0, 1] (by decide) rfl) hS
  exact loop13 (_ + 1) 0 0 mad rt ls _ _ (Nat.lt_succ_self _) (by omega) rfl (by omega) (lv_sub hl [2, 1, 0] rfl) (hP.sub [0, 1, 2] rfl) (hD.sub [0, 1, 2] (by decide) rfl) hS
set_option maxHeartbeats 4000000 in
set_option maxRecDepth 100000 in
theorem c_X7_applicableCount (l : Launch) (D : va_G) (cI cL cZ : ClassId) (tp tr : Nat) (sz : Nat) (hq : Nat) (ar : Nat → Nat) (cur : Nat) (ag : Nat → Nat) (kd : Nat → Nat) (ed : Nat → Nat) (cd : Nat → Nat) (nn : Nat) (hcur : okVb cur = true) : Met l yX7_applicableCount wsX7_applicableCount { frames := 5, cells := 0, slots := 0, locals := 124 } (mPS D (tyL cI cL cZ) tp tr [(hq, .inr (5, oR ar cur)), (ar 0, .inr (2, oE ag nn)), (ag 0, .inl (cI, 18, .inl (nA kd))), (ag 1, .inl (cI, 18, .inl (nA ed))), (ag 2, .inl (cL, 18, .inr (.inl (lA cd))))] sz [.ref hq]) (va_Qi (fun (r : Int32) (u : (Nat → Nat) × (Nat → Nat) × (Nat → Nat) × Nat) => r = (nI (apk cur (16 * dc cur))) ∧ (True)) (fun (u : (Nat → Nat) × (Nat → Nat) × (Nat → Nat) × Nat) (t : State) => mB D (tyL cI cL cZ) (va_A [(hq, .inr (5, oR ar cur)), (ar 0, .inr (2, oE ag nn)), (ag 0, .inl (cI, 18, .inl (nA kd))), (ag 1, .inl (cI, 18, .inl (nA ed))), (ag 2, .inl (cL, 18, .inr (.inl (lA cd))))] sz) [(hq, .inr (5, oR ar cur)), (ar 0, .inr (2, oE ag (u.2.2.2))), (ag 0, .inl (cI, 18, .inl (nA (u.1)))), (ag 1, .inl (cI, 18, .inl (nA (u.2.1)))), (ag 2, .inl (cL, 18, .inr (.inl (lA (u.2.2.1)))))] t) (va_A [(hq, .inr (5, oR ar cur)), (ar 0, .inr (2, oE ag nn)), (ag 0, .inl (cI, 18, .inl (nA kd))), (ag 1, .inl (cI, 18, .inl (nA ed))), (ag 2, .inl (cL, 18, .inr (.inl (lA cd))))] sz)) 0 0 (va_A [(hq, .inr (5, oR ar cur)), (ar 0, .inr (2, oE ag nn)), (ag 0, .inl (cI, 18, .inl (nA kd))), (ag 1, .inl (cI, 18, .inl (nA ed))), (ag 2, .inl (cL, 18, .inr (.inl (lA cd))))] sz) := by
  refine Met.ofW (cc := cX7_applicableCount) (maxL := 4) (ret := (some .int)) (by decide) rfl ?_
  intro pG eG s mG args below meth cG s₁ B hml hpre9
  obtain ⟨rfl, hsz, hP, hK, hD0, hZ⟩ := hpre9
  have hx := B.exec
  have hb := B.bytes
  have hr := B.returns
  have hts := atoms_spec (ws := wsX7_applicableCount) B.pre
  have hown : s.vm.findClass RX7 = some mG.cls := findClass_of_methodNamed B.named
  have hlocks := B.notSynchronized
  subst hsz
  have hD := hD0.self (sz := s.heap.size)
  have hA : ∀ q : Nat, s.heap.size ≤ q → va_A [(hq, .inr (5, oR ar cur)), (ar 0, .inr (2, oE ag nn)), (ag 0, .inl (cI, 18, .inl (nA kd))), (ag 1, .inl (cI, 18, .inl (nA ed))), (ag 2, .inl (cL, 18, .inr (.inl (lA cd))))] s.heap.size q := fun q h => Or.inr h
  have hS : va_S (va_A [(hq, .inr (5, oR ar cur)), (ar 0, .inr (2, oE ag nn)), (ag 0, .inl (cI, 18, .inl (nA kd))), (ag 1, .inl (cI, 18, .inl (nA ed))), (ag 2, .inl (cL, 18, .inr (.inl (lA cd))))] s.heap.size) s.heap s.heap [] := va_S.rf
  have hinX7 : ∀ w ∈ wsX70, w ∈ wsX7_applicableCount := fun w HH => (List.mem_cons_of_mem _ (List.mem_append_left _ (List.mem_append_right _ HH)))
  have lk0 : (Cond.fieldLink RX7 12 "RegexSimplifier" "given" "LRegexSimplifier$Expression;").before _ s = true := hts _ (List.mem_cons_of_mem _ (List.mem_append_left _ (List.mem_append_left _ (List.mem_append_left _ (List.mem_of_getElem? (i := 0) rfl)))))
  have lk1 : (Cond.fieldLink RX7 47 "RegexSimplifier" "currentCode" "J").before _ s = true := hts _ (List.mem_cons_of_mem _ (List.mem_append_left _ (List.mem_append_left _ (List.mem_append_left _ (List.mem_of_getElem? (i := 1) rfl)))))
  have hl := lv_entry ([.ref hq]) (n := 4) (Nat.le_of_ble_eq_true rfl)
  rw [lg_entry_eq]
  generalize (lg_sl ([.ref hq]) ++ List.replicate (4 - (lg_sl ([.ref hq])).length) Slot.unset).toArray = ls at hl ⊢
  have hl : lv_has ls 4 [(0, .ref hq)] := hl
  have hc18 := (okVb_iff.mp hcur).2.1
  have hcv : xv (lN cur) = cur := xv_lN (Nat.lt_trans hc18 pow18)
  have h18 := (dc_lt hc18).2
  refine lv_aload_n (pc := 0) hx hb dX7_applicableCount_0 rfl (lv_at hl 0 rfl) ?_
  refine va_get (pc := 1) (D := D) (ci := 5) (v := .ref (ar 0)) (C := RX7) (T := TX7) (N := 7) hx hb hts hinX7 hown hK hP 0 rfl rfl 0 (by decide) lk0 (fun _ h9 => h9) rfl dX7_applicableCount_1 ?_
  refine lv_aload_n (pc := 4) hx hb dX7_applicableCount_4 rfl (lv_at hl 0 rfl) ?_
  refine va_get (pc := 5) (D := D) (ci := 5) (v := .long (lN cur)) (C := RX7) (T := TX7) (N := 7) hx hb hts hinX7 hown hK hP 0 rfl rfl 6 (by decide) lk1 (fun _ h9 => h9) rfl dX7_applicableCount_5 ?_
  refine xm_calli (pc := 8) (wc := [(ar 0, .inr (2, oE ag nn)), (ag 0, .inl (cI, 18, .inl (nA kd))), (ag 1, .inl (cI, 18, .inl (nA ed))), (ag 2, .inl (cL, 18, .inr (.inl (lA cd))))]) (wr := [(hq, .inr (5, oR ar cur))]) (va_runV (As := [.long (lN cur)]) (rest := []) ⟨hx, hb, hml, hown, hts⟩ (c_X3_read l D cI cL cZ tp tr s.heap.size (ar 0) ag kd ed cd nn ((lN (cur)))) (cwV 1 hts gX7_applicableCount_X3_read rfl rfl rfl (by decide +kernel) ⟨Nat.le_of_ble_eq_true rfl, Nat.le_of_ble_eq_true rfl⟩) (mPS_V (wc := [(ar 0, .inr (2, oE ag nn)), (ag 0, .inl (cI, 18, .inl (nA kd))), (ag 1, .inl (cI, 18, .inl (nA ed))), (ag 2, .inl (cL, 18, .inr (.inl (lA cd))))]) (ci := 2) (q0 := 0) hK hP hD hZ hS hA [1, 2, 3, 4] (by decide) rfl rfl rfl) rfl rfl hl.1 rfl (lv_room (Nat.le_of_ble_eq_true rfl)) dX7_applicableCount_8 ⟨Nat.zero_le _, Nat.zero_le _⟩) hP hD hS hA [1, 2, 3, 4] [0] rfl rfl (by decide) (by decide) (fun r9 u H locs hw hP hD hS => ?_)
  obtain ⟨kd2_8, ed2_8, cd2_8, nn2_8⟩ := u
  have hP : va_P D vwCl [(hq, .inr (5, oR ar cur)), (ar 0, .inr (2, oE ag nn2_8)), (ag 0, .inl (cI, 18, .inl (nA kd2_8))), (ag 1, .inl (cI, 18, .inl (nA ed2_8))), (ag 2, .inl (cL, 18, .inr (.inl (lA cd2_8))))] H := hP
  have hD : va_D _ [(hq, .inr (5, oR ar cur)), (ar 0, .inr (2, oE ag nn2_8)), (ag 0, .inl (cI, 18, .inl (nA kd2_8))), (ag 1, .inl (cI, 18, .inl (nA ed2_8))), (ag 2, .inl (cL, 18, .inr (.inl (lA cd2_8))))] := hD
  try dsimp only at hw
  obtain ⟨hrr, ⟨hrd0, hnrd⟩⟩ := hw
  rw [hrr]
  rw [hcv] at hrd0
  have hrd := hrd0 hcur
  have hnv := hrd.1
  refine lv_pop (pc := 11) hx hb dX7_applicableCount_11 rfl ?_
  refine lv_iconst (pc := 12) (v := (nI (0))) hx hb dX7_applicableCount_12 (by decide) ?_
  refine lv_istore_n (pc := 13) (lv' := [(1, .int (nI 0)), (0, .ref hq)]) hx hb dX7_applicableCount_13 rfl hl (by decide) rfl (fun ls hl => ?_)
  refine lv_iconst (pc := 14) (v := (nI (0))) hx hb dX7_applicableCount_14 (by decide) ?_
  refine lv_istore_n (pc := 15) (lv' := [(2, .int (nI 0)), (1, .int (nI 0)), (0, .ref hq)]) hx hb dX7_applicableCount_15 rfl hl (by decide) rfl (fun ls hl => ?_)
  have loop16 : ∀ (fuel : Nat) (k : Nat) (o : Nat) (ls : Array Slot) (H : Heap) (locs : List Loc), nn2_8 - k < fuel → (k ≤ nn2_8) → (o = apk cur (16 * k)) → (o ≤ 16 * k) → lv_has ls 4 [(0, .ref hq), (1, .int (nI o)), (2, .int (nI k))] → va_P D vwCl [(hq, .inr (5, oR ar cur)), (ar 0, .inr (2, oE ag nn2_8)), (ag 0, .inl (cI, 18, .inl (nA kd2_8))), (ag 1, .inl (cI, 18, .inl (nA ed2_8))), (ag 2, .inl (cL, 18, .inr (.inl (lA cd2_8))))] H → va_D (va_A [(hq, .inr (5, oR ar cur)), (ar 0, .inr (2, oE ag nn)), (ag 0, .inl (cI, 18, .inl (nA kd))), (ag 1, .inl (cI, 18, .inl (nA ed))), (ag 2, .inl (cL, 18, .inr (.inl (lA cd))))] s.heap.size) [(hq, .inr (5, oR ar cur)), (ar 0, .inr (2, oE ag nn2_8)), (ag 0, .inl (cI, 18, .inl (nA kd2_8))), (ag 1, .inl (cI, 18, .inl (nA ed2_8))), (ag 2, .inl (cL, 18, .inr (.inl (lA cd2_8))))] → va_S (va_A [(hq, .inr (5, oR ar cur)), (ar 0, .inr (2, oE ag nn)), (ag 0, .inl (cI, 18, .inl (nA kd))), (ag 1, .inl (cI, 18, .inl (nA ed))), (ag 2, .inl (cL, 18, .inr (.inl (lA cd))))] s.heap.size) s.heap H locs → W pG l eG (headSpec wsX7_applicableCount { frames := 5, cells := 0, slots := 0, locals := 124 }).room s mG [.ref hq].toArray below meth cG H locs 0 0 (MQ below (va_Qi (fun (r : Int32) (u : (Nat → Nat) × (Nat → Nat) × (Nat → Nat) × Nat) => r = (nI (apk cur (16 * dc cur))) ∧ (True)) (fun (u : (Nat → Nat) × (Nat → Nat) × (Nat → Nat) × Nat) (t : State) => mB D (tyL cI cL cZ) (va_A [(hq, .inr (5, oR ar cur)), (ar 0, .inr (2, oE ag nn)), (ag 0, .inl (cI, 18, .inl (nA kd))), (ag 1, .inl (cI, 18, .inl (nA ed))), (ag 2, .inl (cL, 18, .inr (.inl (lA cd))))] s.heap.size) [(hq, .inr (5, oR ar cur)), (ar 0, .inr (2, oE ag (u.2.2.2))), (ag 0, .inl (cI, 18, .inl (nA (u.1)))), (ag 1, .inl (cI, 18, .inl (nA (u.2.1)))), (ag 2, .inl (cL, 18, .inr (.inl (lA (u.2.2.1)))))] t) (va_A [(hq, .inr (5, oR ar cur)), (ar 0, .inr (2, oE ag nn)), (ag 0, .inl (cI, 18, .inl (nA kd))), (ag 1, .inl (cI, 18, .inl (nA ed))), (ag 2, .inl (cL, 18, .inr (.inl (lA cd))))] s.heap.size)) [.ref hq].toArray s 0 0 (va_A [(hq, .inr (5, oR ar cur)), (ar 0, .inr (2, oE ag nn)), (ag 0, .inl (cI, 18, .inl (nA kd))), (ag 1, .inl (cI, 18, .inl (nA ed))), (ag 2, .inl (cL, 18, .inr (.inl (lA cd))))] s.heap.size)) (F0 mG 16 ls []) := by
    intro fuel
    induction fuel with
    | zero => intro k o ls H locs hmeas i1 i2 i3 hl hP hD hS; exact absurd hmeas (Nat.not_lt_zero _)
    | succ fuel ih16 =>
      intro k o ls H locs hmeas i1 i2 i3 hl hP hD hS
      refine lv_iload_n (pc := 16) hx hb dX7_applicableCount_16 rfl (lv_at hl 2 rfl) ?_
      refine lv_aload_n (pc := 17) hx hb dX7_applicableCount_17 rfl (lv_at hl 0 rfl) ?_
      refine va_get (pc := 18) (D := D) (ci := 5) (v := .ref (ar 0)) (C := RX7) (T := TX7) (N := 7) hx hb hts hinX7 hown hK hP 0 rfl rfl 0 (by decide) lk0 (fun _ h9 => h9) rfl dX7_applicableCount_18 ?_
      refine vp_callSi (pc := 21) (W.runV (As := []) (rest := [.int (nI k)]) ⟨hx, hb, hml, hown, hts⟩ (c_X3_nodeCount l D cI cL cZ (ar 0) ag kd2_8 ed2_8 cd2_8 nn2_8) (cwV 0 hts gX7_applicableCount_X3_nodeCount rfl rfl rfl (by decide +kernel) ⟨Nat.le_of_ble_eq_true rfl, Nat.le_of_ble_eq_true rfl⟩) (rP_V (wc := [(ar 0, .inr (2, oE ag nn2_8)), (ag 0, .inl (cI, 18, .inl (nA kd2_8))), (ag 1, .inl (cI, 18, .inl (nA ed2_8))), (ag 2, .inl (cL, 18, .inr (.inl (lA cd2_8))))]) (ci := 2) (q0 := 0) hK hP [1, 2, 3, 4] rfl rfl rfl) rfl rfl hl.1 rfl (lv_room (Nat.le_of_ble_eq_true rfl)) dX7_applicableCount_21 ⟨Nat.zero_le _, Nat.zero_le _⟩) (fun r9 hrr => ?_)
      rw [hrr]
      refine xn_icmp_ge (pc := 24) (tgt := 62) hx hb (by omega) (by omega) dX7_applicableCount_24 (by decide) (fun c24 => ?_) (fun c24 => ?_)
      · refine lv_iload_n (pc := 62) hx hb dX7_applicableCount_62 rfl (lv_at hl 1 rfl) ?_
        have hP9 : va_P D vwCl [(hq, .inr (5, oR ar cur)), (ar 0, .inr (2, oE ag nn2_8)), (ag 0, .inl (cI, 18, .inl (nA kd2_8))), (ag 1, .inl (cI, 18, .inl (nA ed2_8))), (ag 2, .inl (cL, 18, .inr (.inl (lA cd2_8))))] H := hP.sub [0, 1, 2, 3, 4] rfl
        have hD9 : va_D _ [(hq, .inr (5, oR ar cur)), (ar 0, .inr (2, oE ag nn2_8)), (ag 0, .inl (cI, 18, .inl (nA kd2_8))), (ag 1, .inl (cI, 18, .inl (nA ed2_8))), (ag 2, .inl (cL, 18, .inr (.inl (lA cd2_8))))] := hD.sub [0, 1, 2, 3, 4] (by decide) rfl
        exact W.iret (pc := 63) (v := (nI (o))) hx hb hr (fun t ht hW => ⟨⟨_, (kd2_8, ed2_8, cd2_8, nn2_8), rfl, ⟨(by rw [i2, show k = dc cur from by omega]), trivial⟩, by rw [ht]; exact hP9, va_K.moved hW.alike hK, hD9⟩, hS.F ht⟩) hS.2.2 dX7_applicableCount_63
      · refine lv_iconst (pc := 27) (v := (nI (0))) hx hb dX7_applicableCount_27 (by decide) ?_
        refine lv_istore_n (pc := 28) (lv' := [(3, .int (nI 0)), (0, .ref hq), (1, .int (nI o)), (2, .int (nI k))]) hx hb dX7_applicableCount_28 rfl hl (by decide) rfl (fun ls hl => ?_)
        have loop29 : ∀ (fuel : Nat) (r1 : Nat) (o1 : Nat) (ls : Array Slot) (H : Heap) (locs : List Loc), 16 - r1 < fuel → (r1 ≤ 16) → (o1 = apk cur (16 * k + r1)) → (o1 ≤ 16 * k + r1) → lv_has ls 4 [(0, .ref hq), (1, .int (nI o1)), (2, .int (nI k)), (3, .int (nI r1))] → va_P D vwCl [(hq, .inr (5, oR ar cur)), (ar 0, .inr (2, oE ag nn2_8)), (ag 0, .inl (cI, 18, .inl (nA kd2_8))), (ag 1, .inl (cI, 18, .inl (nA ed2_8))), (ag 2, .inl (cL, 18, .inr (.inl (lA cd2_8))))] H → va_D (va_A [(hq, .inr (5, oR ar cur)), (ar 0, .inr (2, oE ag nn)), (ag 0, .inl (cI, 18, .inl (nA kd))), (ag 1, .inl (cI, 18, .inl (nA ed))), (ag 2, .inl (cL, 18, .inr (.inl (lA cd))))] s.heap.size) [(hq, .inr (5, oR ar cur)), (ar 0, .inr (2, oE ag nn2_8)), (ag 0, .inl (cI, 18, .inl (nA kd2_8))), (ag 1, .inl (cI, 18, .inl (nA ed2_8))), (ag 2, .inl (cL, 18, .inr (.inl (lA cd2_8))))] → va_S (va_A [(hq, .inr (5, oR ar cur)), (ar 0, .inr (2, oE ag nn)), (ag 0, .inl (cI, 18, .inl (nA kd))), (ag 1, .inl (cI, 18, .inl (nA ed))), (ag 2, .inl (cL, 18, .inr (.inl (lA cd))))] s.heap.size) s.heap H locs → W pG l eG (headSpec wsX7_applicableCount { frames := 5, cells := 0, slots := 0, locals := 124 }).room s mG [.ref hq].toArray below meth cG H locs 0 0 (MQ below (va_Qi (fun (r : Int32) (u : (Nat → Nat) × (Nat → Nat) × (Nat → Nat) × Nat) => r = (nI (apk cur (16 * dc cur))) ∧ (True)) (fun (u : (Nat → Nat) × (Nat → Nat) × (Nat → Nat) × Nat) (t : State) => mB D (tyL cI cL cZ) (va_A [(hq, .inr (5, oR ar cur)), (ar 0, .inr (2, oE ag nn)), (ag 0, .inl (cI, 18, .inl (nA kd))), (ag 1, .inl (cI, 18, .inl (nA ed))), (ag 2, .inl (cL, 18, .inr (.inl (lA cd))))] s.heap.size) [(hq, .inr (5, oR ar cur)), (ar 0, .inr (2, oE ag (u.2.2.2))), (ag 0, .inl (cI, 18, .inl (nA (u.1)))), (ag 1, .inl (cI, 18, .inl (nA (u.2.1)))), (ag 2, .inl (cL, 18, .inr (.inl (lA (u.2.2.1)))))] t) (va_A [(hq, .inr (5, oR ar cur)), (ar 0, .inr (2, oE ag nn)), (ag 0, .inl (cI, 18, .inl (nA kd))), (ag 1, .inl (cI, 18, .inl (nA ed))), (ag 2, .inl (cL, 18, .inr (.inl (lA cd))))] s.heap.size)) [.ref hq].toArray s 0 0 (va_A [(hq, .inr (5, oR ar cur)), (ar 0, .inr (2, oE ag nn)), (ag 0, .inl (cI, 18, .inl (nA kd))), (ag 1, .inl (cI, 18, .inl (nA ed))), (ag 2, .inl (cL, 18, .inr (.inl (lA cd))))] s.heap.size)) (F0 mG 29 ls []) := by
          intro fuel
          induction fuel with
          | zero => intro r1 o1 ls H locs hmeas j1 j2 j3 hl hP hD hS; exact absurd hmeas (Nat.not_lt_zero _)
          | succ fuel ih29 =>
            intro r1 o1 ls H locs hmeas j1 j2 j3 hl hP hD hS
            refine lv_iload_n (pc := 29) hx hb dX7_applicableCount_29 rfl (lv_at hl 3 rfl) ?_
            refine lv_bipush (pc := 30) (v := (nI (16))) hx hb dX7_applicableCount_30 (by decide) ?_
            refine xn_icmp_ge (pc := 32) (tgt := 56) hx hb (by omega) (by omega) dX7_applicableCount_32 (by decide) (fun c32 => ?_) (fun c32 => ?_)
            · refine lv_iinc (pc := 56) (v := (nI (k + 1))) (lv' := [(2, .int (nI (k + 1))), (0, .ref hq), (1, .int (nI o1)), (3, .int (nI r1))]) hx hb dX7_applicableCount_56 hl (k := 2) rfl (nI_incr _) (by decide) rfl (fun ls hl => ?_)
              refine lv_goto (pc := 59) (tgt := 16) hx hb dX7_applicableCount_59 (by decide) ?_
              exact ih16 (k + 1) o1 ls _ _ (by omega) (by omega) (by rw [j2]; congr 1; omega) (by omega) (lv_sub hl [1, 2, 0] rfl) (hP.sub [0, 1, 2, 3, 4] rfl) (hD.sub [0, 1, 2, 3, 4] (by decide) rfl) hS
            · refine lv_aload_n (pc := 35) hx hb dX7_applicableCount_35 rfl (lv_at hl 0 rfl) ?_
              refine va_get (pc := 36) (D := D) (ci := 5) (v := .ref (ar 0)) (C := RX7) (T := TX7) (N := 7) hx hb hts hinX7 hown hK hP 0 rfl rfl 0 (by decide) lk0 (fun _ h9 => h9) rfl dX7_applicableCount_36 ?_
              refine lv_iload_n (pc := 39) hx hb dX7_applicableCount_39 rfl (lv_at hl 3 rfl) ?_
              refine lv_iload_n (pc := 40) hx hb dX7_applicableCount_40 rfl (lv_at hl 2 rfl) ?_
              refine vp_callSi (pc := 41) (W.runS (As := [.ref (ar 0), .int (nI r1), .int (nI k)]) (rest := []) ⟨hx, hb, hml, hown, hts⟩ (c_X4_fits l D cI cL cZ tp tr (ar 0) ag kd2_8 ed2_8 cd2_8 nn2_8 r1 k (TC_RD hcur hrd) (by omega) (by omega) (fun r p => by rw [mR_RD hcur hrd]; exact Nat.lt_trans (gV_lt hcur r p) pow18)) (va_cwS 3 hts gX7_applicableCount_X4_fits rfl rfl rfl (by decide +kernel) ⟨Nat.le_of_ble_eq_true rfl, Nat.le_of_ble_eq_true rfl⟩) (rPS_S (wc := [(ar 0, .inr (2, oE ag nn2_8)), (ag 0, .inl (cI, 18, .inl (nA kd2_8))), (ag 1, .inl (cI, 18, .inl (nA ed2_8))), (ag 2, .inl (cL, 18, .inr (.inl (lA cd2_8))))]) hK hP hZ hS [1, 2, 3, 4] rfl) rfl rfl hl.1 rfl (lv_room (Nat.le_of_ble_eq_true rfl)) dX7_applicableCount_41 ⟨Nat.zero_le _, Nat.zero_le _⟩) (fun r9 hrr => ?_)
              rw [hrr]
              refine xp_if_eq (pc := 44) (tgt := 50) hx hb dX7_applicableCount_44 (by decide) (fun c44 => ?_) (fun c44 => ?_)
              · rw [mR_RD hcur hrd] at c44
                have hs44 := fun z => c44 ((gV_some hcur r1 k).mpr z)
                refine lv_iinc (pc := 50) (v := (nI (r1 + 1))) (lv' := [(3, .int (nI (r1 + 1))), (0, .ref hq), (1, .int (nI o1)), (2, .int (nI k))]) hx hb dX7_applicableCount_50 hl (k := 3) rfl (nI_incr _) (by decide) rfl (fun ls hl => ?_)
                refine lv_goto (pc := 53) (tgt := 29) hx hb dX7_applicableCount_53 (by decide) ?_
                exact ih29 (r1 + 1) o1 ls _ _ (by omega) (by omega) (by first | (rw [← Nat.add_assoc, apk_yes (by rw [oV_ix (by omega)]; exact hs44), j2]; done) | (rw [← Nat.add_assoc, apk_no (by rw [oV_ix (by omega)]; exact hs44), j2]; done)) (by omega) (lv_sub hl [1, 2, 3, 0] rfl) (hP.sub [0, 1, 2, 3, 4] rfl) (hD.sub [0, 1, 2, 3, 4] (by decide) rfl) hS
              · rw [mR_RD hcur hrd] at c44
                have hs44 := (gV_some hcur r1 k).mp c44
                refine lv_iinc (pc := 47) (v := (nI (o1 + 1))) (lv' := [(1, .int (nI (o1 + 1))), (0, .ref hq), (2, .int (nI k)), (3, .int (nI r1))]) hx hb dX7_applicableCount_47 hl (k := 1) rfl (nI_incr _) (by decide) rfl (fun ls hl => ?_)
                refine lv_iinc (pc := 50) (v := (nI (r1 + 1))) (lv' := [(3, .int (nI (r1 + 1))), (1, .int (nI (o1 + 1))), (0, .ref hq), (2, .int (nI k))]) hx hb dX7_applicableCount_50 hl (k := 3) rfl (nI_incr _) (by decide) rfl (fun ls hl => ?_)
                refine lv_goto (pc := 53) (tgt := 29) hx hb dX7_applicableCount_53 (by decide) ?_
                exact ih29 (r1 + 1) (o1 + 1) ls _ _ (by omega) (by omega) (by first | (rw [← Nat.add_assoc, apk_yes (by rw [oV_ix (by omega)]; exact hs44), j2]; done) | (rw [← Nat.add_assoc, apk_no (by rw [oV_ix (by omega)]; exact hs44), j2]; done)) (by omega) (lv_sub hl [2, 1, 3, 0] rfl) (hP.sub [0, 1, 2, 3, 4] rfl) (hD.sub [0, 1, 2, 3, 4] (by decide) rfl) hS
        exact loop29 (_ + 1) 0 o ls _ _ (Nat.lt_succ_self _) (by omega) i2 (by omega) (lv_sub hl [1, 2, 3, 0] rfl) (hP.sub [0, 1, 2, 3, 4] rfl) (hD.sub [0, 1, 2, 3, 4] (by decide) rfl) hS
  exact loop16 (_ + 1) 0 0 ls _ _ (Nat.lt_succ_self _) (by omega) rfl (by omega) (lv_sub hl [2, 1, 0] rfl) (hP.sub [0, 1, 2, 3, 4] rfl) (hD.sub [0, 1, 2, 3, 4] (by decide) rfl) hS
