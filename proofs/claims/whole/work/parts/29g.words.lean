/-! the reference: building automata, going through them -/
set_option maxHeartbeats 4000000 in
set_option maxRecDepth 100000 in
theorem c_X8_join (l : Launch) (D : va_G) (cI cL cZ : ClassId) (sz : Nat) (hm : Nat) (am : Nat → Nat) (n : Nat) (pos : Nat) (cmp : Nat) (que : Nat) (dsz : Nat) (mad : Nat) (cur : Nat) (stp : Nat) (met : Nat) (bst : Nat) (fol : Nat → Nat) (wsy : Nat → Nat) (nus : Nat → Bool) (fis : Nat → Nat) (las : Nat → Nat) (v : Nat) (k : Nat) (w : Nat) (t1 : Nat) (u1 : Bool) (hv : okVb v = true) (hk : k < dc v) (hw2 : w < 2) (haj : AJ v w (k + 1) (t1 + 1) nus fis las fol wsy pos) (hu : u1 = true ↔ dg v k = 6) (h67 : dg v k = 6 ∨ dg v k = 7) : Met l yX8_join wsX8_join { frames := 1, cells := 0, slots := 0, locals := 24 } (mP D (tyL cI cL cZ) [(hm, .inr (6, oM am n pos cmp que dsz mad cur stp met bst)), (am 7, .inl (cI, 18, .inl (nA fol))), (am 6, .inl (cI, 6, .inl (nA wsy))), (am 8, .inl (cZ, 18, .inl (zA nus))), (am 9, .inl (cI, 18, .inl (nA fis))), (am 10, .inl (cI, 18, .inl (nA las)))] sz [.ref hm, .int (nI w), .int (nI t1), .int (nI (pN (u1 = true)))]) (va_Qv (fun (u : Nat × (Nat → Nat) × (Nat → Nat) × (Nat → Bool) × (Nat → Nat) × (Nat → Nat)) => AJ v w k t1 u.2.2.2.1 u.2.2.2.2.1 u.2.2.2.2.2 u.2.1 u.2.2.1 u.1 ∧ (∀ j, j < 18 → (j < 9 * w ∨ 9 * w + 9 ≤ j) → u.2.1 j = fol j) ∧ (∀ j, j < 6 → (j < 3 * w ∨ 3 * w + 3 ≤ j) → u.2.2.1 j = wsy j)) (fun (u : Nat × (Nat → Nat) × (Nat → Nat) × (Nat → Bool) × (Nat → Nat) × (Nat → Nat)) (t : State) => mB D (tyL cI cL cZ) (va_A [(hm, .inr (6, oM am n pos cmp que dsz mad cur stp met bst)), (am 7, .inl (cI, 18, .inl (nA fol))), (am 6, .inl (cI, 6, .inl (nA wsy))), (am 8, .inl (cZ, 18, .inl (zA nus))), (am 9, .inl (cI, 18, .inl (nA fis))), (am 10, .inl (cI, 18, .inl (nA las)))] sz) [(hm, .inr (6, oM am n (u.1) cmp que dsz mad cur stp met bst)), (am 7, .inl (cI, 18, .inl (nA (u.2.1)))), (am 6, .inl (cI, 6, .inl (nA (u.2.2.1)))), (am 8, .inl (cZ, 18, .inl (zA (u.2.2.2.1)))), (am 9, .inl (cI, 18, .inl (nA (u.2.2.2.2.1)))), (am 10, .inl (cI, 18, .inl (nA (u.2.2.2.2.2))))] t) (va_A [(hm, .inr (6, oM am n pos cmp que dsz mad cur stp met bst)), (am 7, .inl (cI, 18, .inl (nA fol))), (am 6, .inl (cI, 6, .inl (nA wsy))), (am 8, .inl (cZ, 18, .inl (zA nus))), (am 9, .inl (cI, 18, .inl (nA fis))), (am 10, .inl (cI, 18, .inl (nA las)))] sz)) 0 0 (va_A [(hm, .inr (6, oM am n pos cmp que dsz mad cur stp met bst)), (am 7, .inl (cI, 18, .inl (nA fol))), (am 6, .inl (cI, 6, .inl (nA wsy))), (am 8, .inl (cZ, 18, .inl (zA nus))), (am 9, .inl (cI, 18, .inl (nA fis))), (am 10, .inl (cI, 18, .inl (nA las)))] sz) := by
  refine Met.ofW (cc := cX8_join) (maxL := 7) (ret := none) (by decide) rfl ?_
  intro pG eG s mG args below meth cG s₁ B hml hpre9
  obtain ⟨rfl, hsz, hP, hK, hD0⟩ := hpre9
  have hx := B.exec
  have hb := B.bytes
  have hr := B.returns
  have hts := atoms_spec (ws := wsX8_join) B.pre
  have hown : s.vm.findClass RX8 = some mG.cls := findClass_of_methodNamed B.named
  have hlocks := B.notSynchronized
  subst hsz
  have hD := hD0.self (sz := s.heap.size)
  have hA : ∀ q : Nat, s.heap.size ≤ q → va_A [(hm, .inr (6, oM am n pos cmp que dsz mad cur stp met bst)), (am 7, .inl (cI, 18, .inl (nA fol))), (am 6, .inl (cI, 6, .inl (nA wsy))), (am 8, .inl (cZ, 18, .inl (zA nus))), (am 9, .inl (cI, 18, .inl (nA fis))), (am 10, .inl (cI, 18, .inl (nA las)))] s.heap.size q := fun q h => Or.inr h
  have hS : va_S (va_A [(hm, .inr (6, oM am n pos cmp que dsz mad cur stp met bst)), (am 7, .inl (cI, 18, .inl (nA fol))), (am 6, .inl (cI, 6, .inl (nA wsy))), (am 8, .inl (cZ, 18, .inl (zA nus))), (am 9, .inl (cI, 18, .inl (nA fis))), (am 10, .inl (cI, 18, .inl (nA las)))] s.heap.size) s.heap s.heap [] := va_S.rf
  have hinX8 : ∀ w ∈ wsX80, w ∈ wsX8_join := fun w HH => (List.mem_cons_of_mem _ (List.mem_append_right _ HH))
  have lk0 : (Cond.fieldLink RX8 38 "RegexSimplifierModel" "lasts" "[I").before _ s = true := hts _ (List.mem_cons_of_mem _ (List.mem_append_left _ (List.mem_of_getElem? (i := 2) rfl)))
  have lk1 : (Cond.fieldLink RX8 35 "RegexSimplifierModel" "firsts" "[I").before _ s = true := hts _ (List.mem_cons_of_mem _ (List.mem_append_left _ (List.mem_of_getElem? (i := 1) rfl)))
  have lk2 : (Cond.fieldLink RX8 32 "RegexSimplifierModel" "nullables" "[Z").before _ s = true := hts _ (List.mem_cons_of_mem _ (List.mem_append_left _ (List.mem_of_getElem? (i := 0) rfl)))
  have hl := lv_entry ([.ref hm, .int (nI w), .int (nI t1), .int (nI (pN (u1 = true)))]) (n := 7) (Nat.le_of_ble_eq_true rfl)
  rw [lg_entry_eq]
  generalize (lg_sl ([.ref hm, .int (nI w), .int (nI t1), .int (nI (pN (u1 = true)))]) ++ List.replicate (7 - (lg_sl ([.ref hm, .int (nI w), .int (nI t1), .int (nI (pN (u1 = true)))])).length) Slot.unset).toArray = ls at hl ⊢
  have hl : lv_has ls 7 [(0, .ref hm), (1, .int (nI w)), (2, .int (nI t1)), (3, .int (nI (pN (u1 = true))))] := hl
  have tv := TV_v (okVb_iff.mp hv)
  have hn18 := tv.n18
  have hq := tv.q hk
  have hps := AJ_pos hv haj
  have ht2 := AJ_two2 hv hk (by omega) (by omega) haj
  refine lv_iload_n (pc := 0) hx hb dX8_join_0 rfl (lv_at hl 2 rfl) ?_
  refine lv_iconst (pc := 1) (v := (nI (1))) hx hb dX8_join_1 (by decide) ?_
  refine xn_isub (pc := 2) hx hb (by omega) dX8_join_2 ?_
  refine lv_istore (pc := 3) (lv' := [(4, .int (nI (t1 - 1))), (0, .ref hm), (1, .int (nI w)), (2, .int (nI t1)), (3, .int (nI (pN (u1 = true))))]) hx hb dX8_join_3 hl (by decide) rfl (fun ls hl => ?_)
  refine lv_iload_n (pc := 5) hx hb dX8_join_5 rfl (lv_at hl 4 rfl) ?_
  refine xp_if_eq (pc := 6) (tgt := 58) hx hb dX8_join_6 (by decide) (fun c6 => ?_) (fun c6 => ?_)
  · have h7 : dg v k = 7 := h67.resolve_left (fun q => c6 (hu.mpr q))
    refine lv_aload_n (pc := 58) hx hb dX8_join_58 rfl (lv_at hl 1 rfl) ?_
    refine lv_iload_n (pc := 59) hx hb dX8_join_59 rfl (lv_at hl 2 rfl) ?_
    refine lv_aload_n (pc := 60) hx hb dX8_join_60 rfl (lv_at hl 1 rfl) ?_
    refine va_get (pc := 61) (D := D) (ci := 6) (v := .ref (am 10)) (C := RX8) (T := TX8) (N := 30) hx hb hts hinX8 hown hK hP 0 rfl rfl 10 (by decide) lk0 (fun _ h9 => h9) rfl dX8_join_61 ?_
    refine lv_iload_n (pc := 64) hx hb dX8_join_64 rfl (lv_at hl 3 rfl) ?_
    refine xa_iald (pc := 65) hx hb hK hP 5 0 rfl rfl (by omega) (by omega) dX8_join_65 ?_
    refine lv_aload_n (pc := 66) hx hb dX8_join_66 rfl (lv_at hl 1 rfl) ?_
    refine va_get (pc := 67) (D := D) (ci := 6) (v := .ref (am 9)) (C := RX8) (T := TX8) (N := 30) hx hb hts hinX8 hown hK hP 0 rfl rfl 9 (by decide) lk1 (fun _ h9 => h9) rfl dX8_join_67 ?_
    refine lv_iload (pc := 70) hx hb dX8_join_70 (lv_at hl 0 rfl) ?_
    refine xa_iald (pc := 72) hx hb hK hP 4 0 rfl rfl (by omega) (by omega) dX8_join_72 ?_
    refine xm_callv (pc := 73) (wc := [(hm, .inr (6, oM am n pos cmp que dsz mad cur stp met bst)), (am 7, .inl (cI, 18, .inl (nA fol)))]) (wr := [(am 6, .inl (cI, 6, .inl (nA wsy))), (am 8, .inl (cZ, 18, .inl (zA nus))), (am 9, .inl (cI, 18, .inl (nA fis))), (am 10, .inl (cI, 18, .inl (nA las)))]) (va_runV (As := [.int (nI w), .int (nI (las t1)), .int (nI (fis (t1 - 1)))]) (rest := []) ⟨hx, hb, hml, hown, hts⟩ (c_X8_link l D cI cL cZ s.heap.size hm am n pos cmp que dsz mad cur stp met bst fol w (las t1) (fis (t1 - 1)) hw2 hps.1 ht2.2) (cwV 3 hts gX8_join_X8_link rfl rfl rfl (by decide +kernel) ⟨Nat.le_of_ble_eq_true rfl, Nat.le_of_ble_eq_true rfl⟩) (mP_V (wc := [(hm, .inr (6, oM am n pos cmp que dsz mad cur stp met bst)), (am 7, .inl (cI, 18, .inl (nA fol)))]) (ci := 6) (q0 := 0) hK hP hD [0, 1] (by decide) rfl rfl rfl) rfl rfl hl.1 rfl (lv_room (Nat.le_of_ble_eq_true rfl)) dX8_join_73 ⟨Nat.zero_le _, Nat.zero_le _⟩) hP hD hS hA [0, 1] [2, 3, 4, 5] rfl rfl (by decide) (by decide) (fun u H locs hw hP hD hS => ?_)
    obtain ⟨fol2_73, rfl⟩ : ∃ z, z = u := ⟨_, rfl⟩
    have hP : va_P D vwCl [(am 6, .inl (cI, 6, .inl (nA wsy))), (am 8, .inl (cZ, 18, .inl (zA nus))), (am 9, .inl (cI, 18, .inl (nA fis))), (am 10, .inl (cI, 18, .inl (nA las))), (hm, .inr (6, oM am n pos cmp que dsz mad cur stp met bst)), (am 7, .inl (cI, 18, .inl (nA fol2_73)))] H := hP
    have hD : va_D _ [(am 6, .inl (cI, 6, .inl (nA wsy))), (am 8, .inl (cZ, 18, .inl (zA nus))), (am 9, .inl (cI, 18, .inl (nA fis))), (am 10, .inl (cI, 18, .inl (nA las))), (hm, .inr (6, oM am n pos cmp que dsz mad cur stp met bst)), (am 7, .inl (cI, 18, .inl (nA fol2_73)))] := hD
    try dsimp only at hw
    have hw73 := hw
    refine lv_aload_n (pc := 76) hx hb dX8_join_76 rfl (lv_at hl 1 rfl) ?_
    refine va_get (pc := 77) (D := D) (ci := 6) (v := .ref (am 9)) (C := RX8) (T := TX8) (N := 30) hx hb hts hinX8 hown hK hP 4 rfl rfl 9 (by decide) lk1 (fun _ h9 => h9) rfl dX8_join_77 ?_
    refine lv_iload_n (pc := 80) hx hb dX8_join_80 rfl (lv_at hl 3 rfl) ?_
    refine xa_iald (pc := 81) hx hb hK hP 2 0 rfl rfl (by omega) (by omega) dX8_join_81 ?_
    refine lv_aload_n (pc := 82) hx hb dX8_join_82 rfl (lv_at hl 1 rfl) ?_
    refine va_get (pc := 83) (D := D) (ci := 6) (v := .ref (am 8)) (C := RX8) (T := TX8) (N := 30) hx hb hts hinX8 hown hK hP 4 rfl rfl 8 (by decide) lk2 (fun _ h9 => h9) rfl dX8_join_83 ?_
    refine lv_iload_n (pc := 86) hx hb dX8_join_86 rfl (lv_at hl 3 rfl) ?_
    refine xa_zald (pc := 87) hx hb hK hP 1 2 rfl rfl (by omega) (by omega) dX8_join_87 ?_
    refine xp_if_eq (pc := 88) (tgt := 101) hx hb dX8_join_88 (by decide) (fun c88 => ?_) (fun c88 => ?_)
    · refine lv_iconst (pc := 101) (v := (nI (0))) hx hb dX8_join_101 (by decide) ?_
      refine xn_ior (pc := 102) hx hb  dX8_join_102 ?_
      refine lv_istore (pc := 103) (lv' := [(5, .int (nI ((fis t1) ||| 0))), (4, .int (nI (t1 - 1))), (0, .ref hm), (1, .int (nI w)), (2, .int (nI t1)), (3, .int (nI (pN (u1 = true))))]) hx hb dX8_join_103 hl (by decide) rfl (fun ls hl => ?_)
      refine lv_aload_n (pc := 105) hx hb dX8_join_105 rfl (lv_at hl 2 rfl) ?_
      refine va_get (pc := 106) (D := D) (ci := 6) (v := .ref (am 10)) (C := RX8) (T := TX8) (N := 30) hx hb hts hinX8 hown hK hP 4 rfl rfl 10 (by decide) lk0 (fun _ h9 => h9) rfl dX8_join_106 ?_
      refine lv_iload (pc := 109) hx hb dX8_join_109 (lv_at hl 1 rfl) ?_
      refine xa_iald (pc := 111) hx hb hK hP 3 0 rfl rfl (by omega) (by omega) dX8_join_111 ?_
      refine lv_aload_n (pc := 112) hx hb dX8_join_112 rfl (lv_at hl 2 rfl) ?_
      refine va_get (pc := 113) (D := D) (ci := 6) (v := .ref (am 8)) (C := RX8) (T := TX8) (N := 30) hx hb hts hinX8 hown hK hP 4 rfl rfl 8 (by decide) lk2 (fun _ h9 => h9) rfl dX8_join_113 ?_
      refine lv_iload (pc := 116) hx hb dX8_join_116 (lv_at hl 1 rfl) ?_
      refine xa_zald (pc := 118) hx hb hK hP 1 2 rfl rfl (by omega) (by omega) dX8_join_118 ?_
      refine xp_if_eq (pc := 119) (tgt := 131) hx hb dX8_join_119 (by decide) (fun c119 => ?_) (fun c119 => ?_)
      · refine lv_iconst (pc := 131) (v := (nI (0))) hx hb dX8_join_131 (by decide) ?_
        refine xn_ior (pc := 132) hx hb  dX8_join_132 ?_
        refine lv_istore (pc := 133) (lv' := [(6, .int (nI ((las (t1 - 1)) ||| 0))), (5, .int (nI ((fis t1) ||| 0))), (4, .int (nI (t1 - 1))), (0, .ref hm), (1, .int (nI w)), (2, .int (nI t1)), (3, .int (nI (pN (u1 = true))))]) hx hb dX8_join_133 hl (by decide) rfl (fun ls hl => ?_)
        refine lv_aload_n (pc := 135) hx hb dX8_join_135 rfl (lv_at hl 3 rfl) ?_
        refine va_get (pc := 136) (D := D) (ci := 6) (v := .ref (am 8)) (C := RX8) (T := TX8) (N := 30) hx hb hts hinX8 hown hK hP 4 rfl rfl 8 (by decide) lk2 (fun _ h9 => h9) rfl dX8_join_136 ?_
        refine lv_iload (pc := 139) hx hb dX8_join_139 (lv_at hl 2 rfl) ?_
        refine lv_dup2_11 (pc := 141) hx hb dX8_join_141 rfl rfl ?_
        refine xa_zald (pc := 142) hx hb hK hP 1 2 rfl rfl (by omega) (by omega) dX8_join_142 ?_
        refine lv_aload_n (pc := 143) hx hb dX8_join_143 rfl (lv_at hl 3 rfl) ?_
        refine va_get (pc := 144) (D := D) (ci := 6) (v := .ref (am 8)) (C := RX8) (T := TX8) (N := 30) hx hb hts hinX8 hown hK hP 4 rfl rfl 8 (by decide) lk2 (fun _ h9 => h9) rfl dX8_join_144 ?_
        refine lv_iload_n (pc := 147) hx hb dX8_join_147 rfl (lv_at hl 5 rfl) ?_
        refine xa_zald (pc := 148) hx hb hK hP 1 2 rfl rfl (by omega) (by omega) dX8_join_148 ?_
        refine xn_iand (pc := 149) hx hb  dX8_join_149 ?_
        refine W.eq (g2 := F0 mG 150 ls [.int (nI (pN (nus (t1 - 1) = true ∧ nus t1 = true))), .int (nI (t1 - 1)), .ref (am 8)]) (congrArg (fun zz => F0 mG 150 ls [.int zz, .int (nI (t1 - 1)), .ref (am 8)]) (congrArg nI pN_and)) ?_
        refine xa_zast (pc := 150) hx hb hK hP hD hS 1 2 rfl rfl (by omega) (by omega) dX8_join_150 (fun H locs hP hD hS => ?_)
        have hP : va_P D vwCl [(am 6, .inl (cI, 6, .inl (nA wsy))), (am 8, .inl (cZ, 18, .inl (zA (upz nus (t1 - 1) (decide (nus (t1 - 1) = true ∧ nus t1 = true)))))), (am 9, .inl (cI, 18, .inl (nA fis))), (am 10, .inl (cI, 18, .inl (nA las))), (hm, .inr (6, oM am n pos cmp que dsz mad cur stp met bst)), (am 7, .inl (cI, 18, .inl (nA fol2_73)))] H := hP
        have hD : va_D _ [(am 6, .inl (cI, 6, .inl (nA wsy))), (am 8, .inl (cZ, 18, .inl (zA (upz nus (t1 - 1) (decide (nus (t1 - 1) = true ∧ nus t1 = true)))))), (am 9, .inl (cI, 18, .inl (nA fis))), (am 10, .inl (cI, 18, .inl (nA las))), (hm, .inr (6, oM am n pos cmp que dsz mad cur stp met bst)), (am 7, .inl (cI, 18, .inl (nA fol2_73)))] := hD
        refine lv_aload_n (pc := 151) hx hb dX8_join_151 rfl (lv_at hl 3 rfl) ?_
        refine va_get (pc := 152) (D := D) (ci := 6) (v := .ref (am 9)) (C := RX8) (T := TX8) (N := 30) hx hb hts hinX8 hown hK hP 4 rfl rfl 9 (by decide) lk1 (fun _ h9 => h9) rfl dX8_join_152 ?_
        refine lv_iload (pc := 155) hx hb dX8_join_155 (lv_at hl 2 rfl) ?_
        refine lv_iload (pc := 157) hx hb dX8_join_157 (lv_at hl 1 rfl) ?_
        refine xa_iast (pc := 159) hx hb hK hP hD hS 2 0 rfl rfl (by omega) (by omega) dX8_join_159 (fun H locs hP hD hS => ?_)
        have hP : va_P D vwCl [(am 6, .inl (cI, 6, .inl (nA wsy))), (am 8, .inl (cZ, 18, .inl (zA (upz nus (t1 - 1) (decide (nus (t1 - 1) = true ∧ nus t1 = true)))))), (am 9, .inl (cI, 18, .inl (nA (up fis (t1 - 1) ((fis t1) ||| 0))))), (am 10, .inl (cI, 18, .inl (nA las))), (hm, .inr (6, oM am n pos cmp que dsz mad cur stp met bst)), (am 7, .inl (cI, 18, .inl (nA fol2_73)))] H := hP
        have hD : va_D _ [(am 6, .inl (cI, 6, .inl (nA wsy))), (am 8, .inl (cZ, 18, .inl (zA (upz nus (t1 - 1) (decide (nus (t1 - 1) = true ∧ nus t1 = true)))))), (am 9, .inl (cI, 18, .inl (nA (up fis (t1 - 1) ((fis t1) ||| 0))))), (am 10, .inl (cI, 18, .inl (nA las))), (hm, .inr (6, oM am n pos cmp que dsz mad cur stp met bst)), (am 7, .inl (cI, 18, .inl (nA fol2_73)))] := hD
        refine lv_aload_n (pc := 160) hx hb dX8_join_160 rfl (lv_at hl 3 rfl) ?_
        refine va_get (pc := 161) (D := D) (ci := 6) (v := .ref (am 10)) (C := RX8) (T := TX8) (N := 30) hx hb hts hinX8 hown hK hP 4 rfl rfl 10 (by decide) lk0 (fun _ h9 => h9) rfl dX8_join_161 ?_
        refine lv_iload (pc := 164) hx hb dX8_join_164 (lv_at hl 2 rfl) ?_
        refine lv_iload (pc := 166) hx hb dX8_join_166 (lv_at hl 0 rfl) ?_
        refine xa_iast (pc := 168) hx hb hK hP hD hS 3 0 rfl rfl (by omega) (by omega) dX8_join_168 (fun H locs hP hD hS => ?_)
        have hP : va_P D vwCl [(am 6, .inl (cI, 6, .inl (nA wsy))), (am 8, .inl (cZ, 18, .inl (zA (upz nus (t1 - 1) (decide (nus (t1 - 1) = true ∧ nus t1 = true)))))), (am 9, .inl (cI, 18, .inl (nA (up fis (t1 - 1) ((fis t1) ||| 0))))), (am 10, .inl (cI, 18, .inl (nA (up las (t1 - 1) ((las (t1 - 1)) ||| 0))))), (hm, .inr (6, oM am n pos cmp que dsz mad cur stp met bst)), (am 7, .inl (cI, 18, .inl (nA fol2_73)))] H := hP
        have hD : va_D _ [(am 6, .inl (cI, 6, .inl (nA wsy))), (am 8, .inl (cZ, 18, .inl (zA (upz nus (t1 - 1) (decide (nus (t1 - 1) = true ∧ nus t1 = true)))))), (am 9, .inl (cI, 18, .inl (nA (up fis (t1 - 1) ((fis t1) ||| 0))))), (am 10, .inl (cI, 18, .inl (nA (up las (t1 - 1) ((las (t1 - 1)) ||| 0))))), (hm, .inr (6, oM am n pos cmp que dsz mad cur stp met bst)), (am 7, .inl (cI, 18, .inl (nA fol2_73)))] := hD
        have hP9 : va_P D vwCl [(hm, .inr (6, oM am n pos cmp que dsz mad cur stp met bst)), (am 7, .inl (cI, 18, .inl (nA fol2_73))), (am 6, .inl (cI, 6, .inl (nA wsy))), (am 8, .inl (cZ, 18, .inl (zA ((upz nus (t1 - 1) (decide (nus (t1 - 1) = true ∧ nus t1 = true))))))), (am 9, .inl (cI, 18, .inl (nA ((up fis (t1 - 1) ((fis t1) ||| 0)))))), (am 10, .inl (cI, 18, .inl (nA ((up las (t1 - 1) ((las (t1 - 1)) ||| 0))))))] H := hP.sub [4, 5, 0, 1, 2, 3] rfl
        have hD9 : va_D _ [(hm, .inr (6, oM am n pos cmp que dsz mad cur stp met bst)), (am 7, .inl (cI, 18, .inl (nA fol2_73))), (am 6, .inl (cI, 6, .inl (nA wsy))), (am 8, .inl (cZ, 18, .inl (zA ((upz nus (t1 - 1) (decide (nus (t1 - 1) = true ∧ nus t1 = true))))))), (am 9, .inl (cI, 18, .inl (nA ((up fis (t1 - 1) ((fis t1) ||| 0)))))), (am 10, .inl (cI, 18, .inl (nA ((up las (t1 - 1) ((las (t1 - 1)) ||| 0))))))] := hD.sub [4, 5, 0, 1, 2, 3] (by decide) rfl
        exact W.vret (pc := 169) hx hb hr (fun t ht hW => ⟨⟨(pos, fol2_73, wsy, upz nus (t1 - 1) (decide (nus (t1 - 1) = true ∧ nus t1 = true)), up fis (t1 - 1) ((fis t1) ||| 0), up las (t1 - 1) ((las (t1 - 1)) ||| 0)), rfl, ⟨AJ_cc hv hk h7 haj (fun p _ => hw73.1 p) (dec_and _ _) (by first | (exact (if_pos c88).symm) | (rw [Nat.or_zero]; exact (if_neg c88).symm)) (by first | (exact (if_pos c119).symm) | (rw [Nat.or_zero]; exact (if_neg c119).symm)), fun j _ hj => hw73.2 j hj, fun _ _ _ => rfl⟩, by rw [ht]; exact hP9, va_K.moved hW.alike hK, hD9⟩, hS.F ht⟩) hS.2.2 dX8_join_169
      · refine lv_aload_n (pc := 122) hx hb dX8_join_122 rfl (lv_at hl 2 rfl) ?_
        refine va_get (pc := 123) (D := D) (ci := 6) (v := .ref (am 10)) (C := RX8) (T := TX8) (N := 30) hx hb hts hinX8 hown hK hP 4 rfl rfl 10 (by decide) lk0 (fun _ h9 => h9) rfl dX8_join_123 ?_
        refine lv_iload_n (pc := 126) hx hb dX8_join_126 rfl (lv_at hl 4 rfl) ?_
        refine xa_iald (pc := 127) hx hb hK hP 3 0 rfl rfl (by omega) (by omega) dX8_join_127 ?_
        refine lv_goto (pc := 128) (tgt := 132) hx hb dX8_join_128 (by decide) ?_
        refine xn_ior (pc := 132) hx hb  dX8_join_132 ?_
        refine lv_istore (pc := 133) (lv' := [(6, .int (nI ((las (t1 - 1)) ||| (las t1)))), (5, .int (nI ((fis t1) ||| 0))), (4, .int (nI (t1 - 1))), (0, .ref hm), (1, .int (nI w)), (2, .int (nI t1)), (3, .int (nI (pN (u1 = true))))]) hx hb dX8_join_133 hl (by decide) rfl (fun ls hl => ?_)
        refine lv_aload_n (pc := 135) hx hb dX8_join_135 rfl (lv_at hl 3 rfl) ?_
        refine va_get (pc := 136) (D := D) (ci := 6) (v := .ref (am 8)) (C := RX8) (T := TX8) (N := 30) hx hb hts hinX8 hown hK hP 4 rfl rfl 8 (by decide) lk2 (fun _ h9 => h9) rfl dX8_join_136 ?_
        refine lv_iload (pc := 139) hx hb dX8_join_139 (lv_at hl 2 rfl) ?_
        refine lv_dup2_11 (pc := 141) hx hb dX8_join_141 rfl rfl ?_
        refine xa_zald (pc := 142) hx hb hK hP 1 2 rfl rfl (by omega) (by omega) dX8_join_142 ?_
        refine lv_aload_n (pc := 143) hx hb dX8_join_143 rfl (lv_at hl 3 rfl) ?_
        refine va_get (pc := 144) (D := D) (ci := 6) (v := .ref (am 8)) (C := RX8) (T := TX8) (N := 30) hx hb hts hinX8 hown hK hP 4 rfl rfl 8 (by decide) lk2 (fun _ h9 => h9) rfl dX8_join_144 ?_
        refine lv_iload_n (pc := 147) hx hb dX8_join_147 rfl (lv_at hl 5 rfl) ?_
        refine xa_zald (pc := 148) hx hb hK hP 1 2 rfl rfl (by omega) (by omega) dX8_join_148 ?_
        refine xn_iand (pc := 149) hx hb  dX8_join_149 ?_
        refine W.eq (g2 := F0 mG 150 ls [.int (nI (pN (nus (t1 - 1) = true ∧ nus t1 = true))), .int (nI (t1 - 1)), .ref (am 8)]) (congrArg (fun zz => F0 mG 150 ls [.int zz, .int (nI (t1 - 1)), .ref (am 8)]) (congrArg nI pN_and)) ?_
        refine xa_zast (pc := 150) hx hb hK hP hD hS 1 2 rfl rfl (by omega) (by omega) dX8_join_150 (fun H locs hP hD hS => ?_)
        have hP : va_P D vwCl [(am 6, .inl (cI, 6, .inl (nA wsy))), (am 8, .inl (cZ, 18, .inl (zA (upz nus (t1 - 1) (decide (nus (t1 - 1) = true ∧ nus t1 = true)))))), (am 9, .inl (cI, 18, .inl (nA fis))), (am 10, .inl (cI, 18, .inl (nA las))), (hm, .inr (6, oM am n pos cmp que dsz mad cur stp met bst)), (am 7, .inl (cI, 18, .inl (nA fol2_73)))] H := hP
        have hD : va_D _ [(am 6, .inl (cI, 6, .inl (nA wsy))), (am 8, .inl (cZ, 18, .inl (zA (upz nus (t1 - 1) (decide (nus (t1 - 1) = true ∧ nus t1 = true)))))), (am 9, .inl (cI, 18, .inl (nA fis))), (am 10, .inl (cI, 18, .inl (nA las))), (hm, .inr (6, oM am n pos cmp que dsz mad cur stp met bst)), (am 7, .inl (cI, 18, .inl (nA fol2_73)))] := hD
        refine lv_aload_n (pc := 151) hx hb dX8_join_151 rfl (lv_at hl 3 rfl) ?_
        refine va_get (pc := 152) (D := D) (ci := 6) (v := .ref (am 9)) (C := RX8) (T := TX8) (N := 30) hx hb hts hinX8 hown hK hP 4 rfl rfl 9 (by decide) lk1 (fun _ h9 => h9) rfl dX8_join_152 ?_
        refine lv_iload (pc := 155) hx hb dX8_join_155 (lv_at hl 2 rfl) ?_
        refine lv_iload (pc := 157) hx hb dX8_join_157 (lv_at hl 1 rfl) ?_
        refine xa_iast (pc := 159) hx hb hK hP hD hS 2 0 rfl rfl (by omega) (by omega) dX8_join_159 (fun H locs hP hD hS => ?_)
        have hP : va_P D vwCl [(am 6, .inl (cI, 6, .inl (nA wsy))), (am 8, .inl (cZ, 18, .inl (zA (upz nus (t1 - 1) (decide (nus (t1 - 1) = true ∧ nus t1 = true)))))), (am 9, .inl (cI, 18, .inl (nA (up fis (t1 - 1) ((fis t1) ||| 0))))), (am 10, .inl (cI, 18, .inl (nA las))), (hm, .inr (6, oM am n pos cmp que dsz mad cur stp met bst)), (am 7, .inl (cI, 18, .inl (nA fol2_73)))] H := hP
        have hD : va_D _ [(am 6, .inl (cI, 6, .inl (nA wsy))), (am 8, .inl (cZ, 18, .inl (zA (upz nus (t1 - 1) (decide (nus (t1 - 1) = true ∧ nus t1 = true)))))), (am 9, .inl (cI, 18, .inl (nA (up fis (t1 - 1) ((fis t1) ||| 0))))), (am 10, .inl (cI, 18, .inl (nA las))), (hm, .inr (6, oM am n pos cmp que dsz mad cur stp met bst)), (am 7, .inl (cI, 18, .inl (nA fol2_73)))] := hD
        refine lv_aload_n (pc := 160) hx hb dX8_join_160 rfl (lv_at hl 3 rfl) ?_
        refine va_get (pc := 161) (D := D) (ci := 6) (v := .ref (am 10)) (C := RX8) (T := TX8) (N := 30) hx hb hts hinX8 hown hK hP 4 rfl rfl 10 (by decide) lk0 (fun _ h9 => h9) rfl dX8_join_161 ?_
        refine lv_iload (pc := 164) hx hb dX8_join_164 (lv_at hl 2 rfl) ?_
        refine lv_iload (pc := 166) hx hb dX8_join_166 (lv_at hl 0 rfl) ?_
        refine xa_iast (pc := 168) hx hb hK hP hD hS 3 0 rfl rfl (by omega) (by omega) dX8_join_168 (fun H locs hP hD hS => ?_)
        have hP : va_P D vwCl [(am 6, .inl (cI, 6, .inl (nA wsy))), (am 8, .inl (cZ, 18, .inl (zA (upz nus (t1 - 1) (decide (nus (t1 - 1) = true ∧ nus t1 = true)))))), (am 9, .inl (cI, 18, .inl (nA (up fis (t1 - 1) ((fis t1) ||| 0))))), (am 10, .inl (cI, 18, .inl (nA (up las (t1 - 1) ((las (t1 - 1)) ||| (las t1)))))), (hm, .inr (6, oM am n pos cmp que dsz mad cur stp met bst)), (am 7, .inl (cI, 18, .inl (nA fol2_73)))] H := hP
        have hD : va_D _ [(am 6, .inl (cI, 6, .inl (nA wsy))), (am 8, .inl (cZ, 18, .inl (zA (upz nus (t1 - 1) (decide (nus (t1 - 1) = true ∧ nus t1 = true)))))), (am 9, .inl (cI, 18, .inl (nA (up fis (t1 - 1) ((fis t1) ||| 0))))), (am 10, .inl (cI, 18, .inl (nA (up las (t1 - 1) ((las (t1 - 1)) ||| (las t1)))))), (hm, .inr (6, oM am n pos cmp que dsz mad cur stp met bst)), (am 7, .inl (cI, 18, .inl (nA fol2_73)))] := hD
        have hP9 : va_P D vwCl [(hm, .inr (6, oM am n pos cmp que dsz mad cur stp met bst)), (am 7, .inl (cI, 18, .inl (nA fol2_73))), (am 6, .inl (cI, 6, .inl (nA wsy))), (am 8, .inl (cZ, 18, .inl (zA ((upz nus (t1 - 1) (decide (nus (t1 - 1) = true ∧ nus t1 = true))))))), (am 9, .inl (cI, 18, .inl (nA ((up fis (t1 - 1) ((fis t1) ||| 0)))))), (am 10, .inl (cI, 18, .inl (nA ((up las (t1 - 1) ((las (t1 - 1)) ||| (las t1)))))))] H := hP.sub [4, 5, 0, 1, 2, 3] rfl
        have hD9 : va_D _ [(hm, .inr (6, oM am n pos cmp que dsz mad cur stp met bst)), (am 7, .inl (cI, 18, .inl (nA fol2_73))), (am 6, .inl (cI, 6, .inl (nA wsy))), (am 8, .inl (cZ, 18, .inl (zA ((upz nus (t1 - 1) (decide (nus (t1 - 1) = true ∧ nus t1 = true))))))), (am 9, .inl (cI, 18, .inl (nA ((up fis (t1 - 1) ((fis t1) ||| 0)))))), (am 10, .inl (cI, 18, .inl (nA ((up las (t1 - 1) ((las (t1 - 1)) ||| (las t1)))))))] := hD.sub [4, 5, 0, 1, 2, 3] (by decide) rfl
        exact W.vret (pc := 169) hx hb hr (fun t ht hW => ⟨⟨(pos, fol2_73, wsy, upz nus (t1 - 1) (decide (nus (t1 - 1) = true ∧ nus t1 = true)), up fis (t1 - 1) ((fis t1) ||| 0), up las (t1 - 1) ((las (t1 - 1)) ||| (las t1))), rfl, ⟨AJ_cc hv hk h7 haj (fun p _ => hw73.1 p) (dec_and _ _) (by first | (exact (if_pos c88).symm) | (rw [Nat.or_zero]; exact (if_neg c88).symm)) (by first | (exact (if_pos c119).symm) | (rw [Nat.or_zero]; exact (if_neg c119).symm)), fun j _ hj => hw73.2 j hj, fun _ _ _ => rfl⟩, by rw [ht]; exact hP9, va_K.moved hW.alike hK, hD9⟩, hS.F ht⟩) hS.2.2 dX8_join_169
    · refine lv_aload_n (pc := 91) hx hb dX8_join_91 rfl (lv_at hl 1 rfl) ?_
      refine va_get (pc := 92) (D := D) (ci := 6) (v := .ref (am 9)) (C := RX8) (T := TX8) (N := 30) hx hb hts hinX8 hown hK hP 4 rfl rfl 9 (by decide) lk1 (fun _ h9 => h9) rfl dX8_join_92 ?_
      refine lv_iload (pc := 95) hx hb dX8_join_95 (lv_at hl 0 rfl) ?_
      refine xa_iald (pc := 97) hx hb hK hP 2 0 rfl rfl (by omega) (by omega) dX8_join_97 ?_
      refine lv_goto (pc := 98) (tgt := 102) hx hb dX8_join_98 (by decide) ?_
      refine xn_ior (pc := 102) hx hb  dX8_join_102 ?_
      refine lv_istore (pc := 103) (lv' := [(5, .int (nI ((fis t1) ||| (fis (t1 - 1))))), (4, .int (nI (t1 - 1))), (0, .ref hm), (1, .int (nI w)), (2, .int (nI t1)), (3, .int (nI (pN (u1 = true))))]) hx hb dX8_join_103 hl (by decide) rfl (fun ls hl => ?_)
      refine lv_aload_n (pc := 105) hx hb dX8_join_105 rfl (lv_at hl 2 rfl) ?_
      refine va_get (pc := 106) (D := D) (ci := 6) (v := .ref (am 10)) (C := RX8) (T := TX8) (N := 30) hx hb hts hinX8 hown hK hP 4 rfl rfl 10 (by decide) lk0 (fun _ h9 => h9) rfl dX8_join_106 ?_
      refine lv_iload (pc := 109) hx hb dX8_join_109 (lv_at hl 1 rfl) ?_
      refine xa_iald (pc := 111) hx hb hK hP 3 0 rfl rfl (by omega) (by omega) dX8_join_111 ?_
      refine lv_aload_n (pc := 112) hx hb dX8_join_112 rfl (lv_at hl 2 rfl) ?_
      refine va_get (pc := 113) (D := D) (ci := 6) (v := .ref (am 8)) (C := RX8) (T := TX8) (N := 30) hx hb hts hinX8 hown hK hP 4 rfl rfl 8 (by decide) lk2 (fun _ h9 => h9) rfl dX8_join_113 ?_
      refine lv_iload (pc := 116) hx hb dX8_join_116 (lv_at hl 1 rfl) ?_
      refine xa_zald (pc := 118) hx hb hK hP 1 2 rfl rfl (by omega) (by omega) dX8_join_118 ?_
      refine xp_if_eq (pc := 119) (tgt := 131) hx hb dX8_join_119 (by decide) (fun c119 => ?_) (fun c119 => ?_)
      · refine lv_iconst (pc := 131) (v := (nI (0))) hx hb dX8_join_131 (by decide) ?_
        refine xn_ior (pc := 132) hx hb  dX8_join_132 ?_
        refine lv_istore (pc := 133) (lv' := [(6, .int (nI ((las (t1 - 1)) ||| 0))), (5, .int (nI ((fis t1) ||| (fis (t1 - 1))))), (4, .int (nI (t1 - 1))), (0, .ref hm), (1, .int (nI w)), (2, .int (nI t1)), (3, .int (nI (pN (u1 = true))))]) hx hb dX8_join_133 hl (by decide) rfl (fun ls hl => ?_)
        refine lv_aload_n (pc := 135) hx hb dX8_join_135 rfl (lv_at hl 3 rfl) ?_
        refine va_get (pc := 136) (D := D) (ci := 6) (v := .ref (am 8)) (C := RX8) (T := TX8) (N := 30) hx hb hts hinX8 hown hK hP 4 rfl rfl 8 (by decide) lk2 (fun _ h9 => h9) rfl dX8_join_136 ?_
        refine lv_iload (pc := 139) hx hb dX8_join_139 (lv_at hl 2 rfl) ?_
        refine lv_dup2_11 (pc := 141) hx hb dX8_join_141 rfl rfl ?_
        refine xa_zald (pc := 142) hx hb hK hP 1 2 rfl rfl (by omega) (by omega) dX8_join_142 ?_
        refine lv_aload_n (pc := 143) hx hb dX8_join_143 rfl (lv_at hl 3 rfl) ?_
        refine va_get (pc := 144) (D := D) (ci := 6) (v := .ref (am 8)) (C := RX8) (T := TX8) (N := 30) hx hb hts hinX8 hown hK hP 4 rfl rfl 8 (by decide) lk2 (fun _ h9 => h9) rfl dX8_join_144 ?_
        refine lv_iload_n (pc := 147) hx hb dX8_join_147 rfl (lv_at hl 5 rfl) ?_
        refine xa_zald (pc := 148) hx hb hK hP 1 2 rfl rfl (by omega) (by omega) dX8_join_148 ?_
        refine xn_iand (pc := 149) hx hb  dX8_join_149 ?_
        refine W.eq (g2 := F0 mG 150 ls [.int (nI (pN (nus (t1 - 1) = true ∧ nus t1 = true))), .int (nI (t1 - 1)), .ref (am 8)]) (congrArg (fun zz => F0 mG 150 ls [.int zz, .int (nI (t1 - 1)), .ref (am 8)]) (congrArg nI pN_and)) ?_
        refine xa_zast (pc := 150) hx hb hK hP hD hS 1 2 rfl rfl (by omega) (by omega) dX8_join_150 (fun H locs hP hD hS => ?_)
        have hP : va_P D vwCl [(am 6, .inl (cI, 6, .inl (nA wsy))), (am 8, .inl (cZ, 18, .inl (zA (upz nus (t1 - 1) (decide (nus (t1 - 1) = true ∧ nus t1 = true)))))), (am 9, .inl (cI, 18, .inl (nA fis))), (am 10, .inl (cI, 18, .inl (nA las))), (hm, .inr (6, oM am n pos cmp que dsz mad cur stp met bst)), (am 7, .inl (cI, 18, .inl (nA fol2_73)))] H := hP
        have hD : va_D _ [(am 6, .inl (cI, 6, .inl (nA wsy))), (am 8, .inl (cZ, 18, .inl (zA (upz nus (t1 - 1) (decide (nus (t1 - 1) = true ∧ nus t1 = true)))))), (am 9, .inl (cI, 18, .inl (nA fis))), (am 10, .inl (cI, 18, .inl (nA las))), (hm, .inr (6, oM am n pos cmp que dsz mad cur stp met bst)), (am 7, .inl (cI, 18, .inl (nA fol2_73)))] := hD
        refine lv_aload_n (pc := 151) hx hb dX8_join_151 rfl (lv_at hl 3 rfl) ?_
        refine va_get (pc := 152) (D := D) (ci := 6) (v := .ref (am 9)) (C := RX8) (T := TX8) (N := 30) hx hb hts hinX8 hown hK hP 4 rfl rfl 9 (by decide) lk1 (fun _ h9 => h9) rfl dX8_join_152 ?_
        refine lv_iload (pc := 155) hx hb dX8_join_155 (lv_at hl 2 rfl) ?_
        refine lv_iload (pc := 157) hx hb dX8_join_157 (lv_at hl 1 rfl) ?_
        refine xa_iast (pc := 159) hx hb hK hP hD hS 2 0 rfl rfl (by omega) (by omega) dX8_join_159 (fun H locs hP hD hS => ?_)
        have hP : va_P D vwCl [(am 6, .inl (cI, 6, .inl (nA wsy))), (am 8, .inl (cZ, 18, .inl (zA (upz nus (t1 - 1) (decide (nus (t1 - 1) = true ∧ nus t1 = true)))))), (am 9, .inl (cI, 18, .inl (nA (up fis (t1 - 1) ((fis t1) ||| (fis (t1 - 1))))))), (am 10, .inl (cI, 18, .inl (nA las))), (hm, .inr (6, oM am n pos cmp que dsz mad cur stp met bst)), (am 7, .inl (cI, 18, .inl (nA fol2_73)))] H := hP
        have hD : va_D _ [(am 6, .inl (cI, 6, .inl (nA wsy))), (am 8, .inl (cZ, 18, .inl (zA (upz nus (t1 - 1) (decide (nus (t1 - 1) = true ∧ nus t1 = true)))))), (am 9, .inl (cI, 18, .inl (nA (up fis (t1 - 1) ((fis t1) ||| (fis (t1 - 1))))))), (am 10, .inl (cI, 18, .inl (nA las))), (hm, .inr (6, oM am n pos cmp que dsz mad cur stp met bst)), (am 7, .inl (cI, 18, .inl (nA fol2_73)))] := hD
        refine lv_aload_n (pc := 160) hx hb dX8_join_160 rfl (lv_at hl 3 rfl) ?_
        refine va_get (pc := 161) (D := D) (ci := 6) (v := .ref (am 10)) (C := RX8) (T := TX8) (N := 30) hx hb hts hinX8 hown hK hP 4 rfl rfl 10 (by decide) lk0 (fun _ h9 => h9) rfl dX8_join_161 ?_
        refine lv_iload (pc := 164) hx hb dX8_join_164 (lv_at hl 2 rfl) ?_
        refine lv_iload (pc := 166) hx hb dX8_join_166 (lv_at hl 0 rfl) ?_
        refine xa_iast (pc := 168) hx hb hK hP hD hS 3 0 rfl rfl (by omega) (by omega) dX8_join_168 (fun H locs hP hD hS => ?_)
        have hP : va_P D vwCl [(am 6, .inl (cI, 6, .inl (nA wsy))), (am 8, .inl (cZ, 18, .inl (zA (upz nus (t1 - 1) (decide (nus (t1 - 1) = true ∧ nus t1 = true)))))), (am 9, .inl (cI, 18, .inl (nA (up fis (t1 - 1) ((fis t1) ||| (fis (t1 - 1))))))), (am 10, .inl (cI, 18, .inl (nA (up las (t1 - 1) ((las (t1 - 1)) ||| 0))))), (hm, .inr (6, oM am n pos cmp que dsz mad cur stp met bst)), (am 7, .inl (cI, 18, .inl (nA fol2_73)))] H := hP
        have hD : va_D _ [(am 6, .inl (cI, 6, .inl (nA wsy))), (am 8, .inl (cZ, 18, .inl (zA (upz nus (t1 - 1) (decide (nus (t1 - 1) = true ∧ nus t1 = true)))))), (am 9, .inl (cI, 18, .inl (nA (up fis (t1 - 1) ((fis t1) ||| (fis (t1 - 1))))))), (am 10, .inl (cI, 18, .inl (nA (up las (t1 - 1) ((las (t1 - 1)) ||| 0))))), (hm, .inr (6, oM am n pos cmp que dsz mad cur stp met bst)), (am 7, .inl (cI, 18, .inl (nA fol2_73)))] := hD
        have hP9 : va_P D vwCl [(hm, .inr (6, oM am n pos cmp que dsz mad cur stp met bst)), (am 7, .inl (cI, 18, .inl (nA fol2_73))), (am 6, .inl (cI, 6, .inl (nA wsy))), (am 8, .inl (cZ, 18, .inl (zA ((upz nus (t1 - 1) (decide (nus (t1 - 1) = true ∧ nus t1 = true))))))), (am 9, .inl (cI, 18, .inl (nA ((up fis (t1 - 1) ((fis t1) ||| (fis (t1 - 1)))))))), (am 10, .inl (cI, 18, .inl (nA ((up las (t1 - 1) ((las (t1 - 1)) ||| 0))))))] H := hP.sub [4, 5, 0, 1, 2, 3] rfl
        have hD9 : va_D _ [(hm, .inr (6, oM am n pos cmp que dsz mad cur stp met bst)), (am 7, .inl (cI, 18, .inl (nA fol2_73))), (am 6, .inl (cI, 6, .inl (nA wsy))), (am 8, .inl (cZ, 18, .inl (zA ((upz nus (t1 - 1) (decide (nus (t1 - 1) = true ∧ nus t1 = true))))))), (am 9, .inl (cI, 18, .inl (nA ((up fis (t1 - 1) ((fis t1) ||| (fis (t1 - 1)))))))), (am 10, .inl (cI, 18, .inl (nA ((up las (t1 - 1) ((las (t1 - 1)) ||| 0))))))] := hD.sub [4, 5, 0, 1, 2, 3] (by decide) rfl
        exact W.vret (pc := 169) hx hb hr (fun t ht hW => ⟨⟨(pos, fol2_73, wsy, upz nus (t1 - 1) (decide (nus (t1 - 1) = true ∧ nus t1 = true)), up fis (t1 - 1) ((fis t1) ||| (fis (t1 - 1))), up las (t1 - 1) ((las (t1 - 1)) ||| 0)), rfl, ⟨AJ_cc hv hk h7 haj (fun p _ => hw73.1 p) (dec_and _ _) (by first | (exact (if_pos c88).symm) | (rw [Nat.or_zero]; exact (if_neg c88).symm)) (by first | (exact (if_pos c119).symm) | (rw [Nat.or_zero]; exact (if_neg c119).symm)), fun j _ hj => hw73.2 j hj, fun _ _ _ => rfl⟩, by rw [ht]; exact hP9, va_K.moved hW.alike hK, hD9⟩, hS.F ht⟩) hS.2.2 dX8_join_169
      · refine lv_aload_n (pc := 122) hx hb dX8_join_122 rfl (lv_at hl 2 rfl) ?_
        refine va_get (pc := 123) (D := D) (ci := 6) (v := .ref (am 10)) (C := RX8) (T := TX8) (N := 30) hx hb hts hinX8 hown hK hP 4 rfl rfl 10 (by decide) lk0 (fun _ h9 => h9) rfl dX8_join_123 ?_
        refine lv_iload_n (pc := 126) hx hb dX8_join_126 rfl (lv_at hl 4 rfl) ?_
        refine xa_iald (pc := 127) hx hb hK hP 3 0 rfl rfl (by omega) (by omega) dX8_join_127 ?_
        refine lv_goto (pc := 128) (tgt := 132) hx hb dX8_join_128 (by decide) ?_
        refine xn_ior (pc := 132) hx hb  dX8_join_132 ?_
        refine lv_istore (pc := 133) (lv' := [(6, .int (nI ((las (t1 - 1)) ||| (las t1)))), (5, .int (nI ((fis t1) ||| (fis (t1 - 1))))), (4, .int (nI (t1 - 1))), (0, .ref hm), (1, .int (nI w)), (2, .int (nI t1)), (3, .int (nI (pN (u1 = true))))]) hx hb dX8_join_133 hl (by decide) rfl (fun ls hl => ?_)
        refine lv_aload_n (pc := 135) hx hb dX8_join_135 rfl (lv_at hl 3 rfl) ?_
        refine va_get (pc := 136) (D := D) (ci := 6) (v := .ref (am 8)) (C := RX8) (T := TX8) (N := 30) hx hb hts hinX8 hown hK hP 4 rfl rfl 8 (by decide) lk2 (fun _ h9 => h9) rfl dX8_join_136 ?_
        refine lv_iload (pc := 139) hx hb dX8_join_139 (lv_at hl 2 rfl) ?_
        refine lv_dup2_11 (pc := 141) hx hb dX8_join_141 rfl rfl ?_
        refine xa_zald (pc := 142) hx hb hK hP 1 2 rfl rfl (by omega) (by omega) dX8_join_142 ?_
        refine lv_aload_n (pc := 143) hx hb dX8_join_143 rfl (lv_at hl 3 rfl) ?_
        refine va_get (pc := 144) (D := D) (ci := 6) (v := .ref (am 8)) (C := RX8) (T := TX8) (N := 30) hx hb hts hinX8 hown hK hP 4 rfl rfl 8 (by decide) lk2 (fun _ h9 => h9) rfl dX8_join_144 ?_
        refine lv_iload_n (pc := 147) hx hb dX8_join_147 rfl (lv_at hl 5 rfl) ?_
        refine xa_zald (pc := 148) hx hb hK hP 1 2 rfl rfl (by omega) (by omega) dX8_join_148 ?_
        refine xn_iand (pc := 149) hx hb  dX8_join_149 ?_
        refine W.eq (g2 := F0 mG 150 ls [.int (nI (pN (nus (t1 - 1) = true ∧ nus t1 = true))), .int (nI (t1 - 1)), .ref (am 8)]) (congrArg (fun zz => F0 mG 150 ls [.int zz, .int (nI (t1 - 1)), .ref (am 8)]) (congrArg nI pN_and)) ?_
        refine xa_zast (pc := 150) hx hb hK hP hD hS 1 2 rfl rfl (by omega) (by omega) dX8_join_150 (fun H locs hP hD hS => ?_)
        have hP : va_P D vwCl [(am 6, .inl (cI, 6, .inl (nA wsy))), (am 8, .inl (cZ, 18, .inl (zA (upz nus (t1 - 1) (decide (nus (t1 - 1) = true ∧ nus t1 = true)))))), (am 9, .inl (cI, 18, .inl (nA fis))), (am 10, .inl (cI, 18, .inl (nA las))), (hm, .inr (6, oM am n pos cmp que dsz mad cur stp met bst)), (am 7, .inl (cI, 18, .inl (nA fol2_73)))] H := hP
        have hD : va_D _ [(am 6, .inl (cI, 6, .inl (nA wsy))), (am 8, .inl (cZ, 18, .inl (zA (upz nus (t1 - 1) (decide (nus (t1 - 1) = true ∧ nus t1 = true)))))), (am 9, .inl (cI, 18, .inl (nA fis))), (am 10, .inl (cI, 18, .inl (nA las))), (hm, .inr (6, oM am n pos cmp que dsz mad cur stp met bst)), (am 7, .inl (cI, 18, .inl (nA fol2_73)))] := hD
        refine lv_aload_n (pc := 151) hx hb dX8_join_151 rfl (lv_at hl 3 rfl) ?_
        refine va_get (pc := 152) (D := D) (ci := 6) (v := .ref (am 9)) (C := RX8) (T := TX8) (N := 30) hx hb hts hinX8 hown hK hP 4 rfl rfl 9 (by decide) lk1 (fun _ h9 => h9) rfl dX8_join_152 ?_
        refine lv_iload (pc := 155) hx hb dX8_join_155 (lv_at hl 2 rfl) ?_
        refine lv_iload (pc := 157) hx hb dX8_join_157 (lv_at hl 1 rfl) ?_
        refine xa_iast (pc := 159) hx hb hK hP hD hS 2 0 rfl rfl (by omega) (by omega) dX8_join_159 (fun H locs hP hD hS => ?_)
        have hP : va_P D vwCl [(am 6, .inl (cI, 6, .inl (nA wsy))), (am 8, .inl (cZ, 18, .inl (zA (upz nus (t1 - 1) (decide (nus (t1 - 1) = true ∧ nus t1 = true)))))), (am 9, .inl (cI, 18, .inl (nA (up fis (t1 - 1) ((fis t1) ||| (fis (t1 - 1))))))), (am 10, .inl (cI, 18, .inl (nA las))), (hm, .inr (6, oM am n pos cmp que dsz mad cur stp met bst)), (am 7, .inl (cI, 18, .inl (nA fol2_73)))] H := hP
        have hD : va_D _ [(am 6, .inl (cI, 6, .inl (nA wsy))), (am 8, .inl (cZ, 18, .inl (zA (upz nus (t1 - 1) (decide (nus (t1 - 1) = true ∧ nus t1 = true)))))), (am 9, .inl (cI, 18, .inl (nA (up fis (t1 - 1) ((fis t1) ||| (fis (t1 - 1))))))), (am 10, .inl (cI, 18, .inl (nA las))), (hm, .inr (6, oM am n pos cmp que dsz mad cur stp met bst)), (am 7, .inl (cI, 18, .inl (nA fol2_73)))] := hD
        refine lv_aload_n (pc := 160) hx hb dX8_join_160 rfl (lv_at hl 3 rfl) ?_
        refine va_get (pc := 161) (D := D) (ci := 6) (v := .ref (am 10)) (C := RX8) (T := TX8) (N := 30) hx hb hts hinX8 hown hK hP 4 rfl rfl 10 (by decide) lk0 (fun _ h9 => h9) rfl dX8_join_161 ?_
        refine lv_iload (pc := 164) hx hb dX8_join_164 (lv_at hl 2 rfl) ?_
        refine lv_iload (pc := 166) hx hb dX8_join_166 (lv_at hl 0 rfl) ?_
        refine xa_iast (pc := 168) hx hb hK hP hD hS 3 0 rfl rfl (by omega) (by omega) dX8_join_168 (fun H locs hP hD hS => ?_)
        have hP : va_P D vwCl [(am 6, .inl (cI, 6, .inl (nA wsy))), (am 8, .inl (cZ, 18, .inl (zA (upz nus (t1 - 1) (decide (nus (t1 - 1) = true ∧ nus t1 = true)))))), (am 9, .inl (cI, 18, .inl (nA (up fis (t1 - 1) ((fis t1) ||| (fis (t1 - 1))))))), (am 10, .inl (cI, 18, .inl (nA (up las (t1 - 1) ((las (t1 - 1)) ||| (las t1)))))), (hm, .inr (6, oM am n pos cmp que dsz mad cur stp met bst)), (am 7, .inl (cI, 18, .inl (nA fol2_73)))] H := hP
        have hD : va_D _ [(am 6, .inl (cI, 6, .inl (nA wsy))), (am 8, .inl (cZ, 18, .inl (zA (upz nus (t1 - 1) (decide (nus (t1 - 1) = true ∧ nus t1 = true)))))), (am 9, .inl (cI, 18, .inl (nA (up fis (t1 - 1) ((fis t1) ||| (fis (t1 - 1))))))), (am 10, .inl (cI, 18, .inl (nA (up las (t1 - 1) ((las (t1 - 1)) ||| (las t1)))))), (hm, .inr (6, oM am n pos cmp que dsz mad cur stp met bst)), (am 7, .inl (cI, 18, .inl (nA fol2_73)))] := hD
        have hP9 : va_P D vwCl [(hm, .inr (6, oM am n pos cmp que dsz mad cur stp met bst)), (am 7, .inl (cI, 18, .inl (nA fol2_73))), (am 6, .inl (cI, 6, .inl (nA wsy))), (am 8, .inl (cZ, 18, .inl (zA ((upz nus (t1 - 1) (decide (nus (t1 - 1) = true ∧ nus t1 = true))))))), (am 9, .inl (cI, 18, .inl (nA ((up fis (t1 - 1) ((fis t1) ||| (fis (t1 - 1)))))))), (am 10, .inl (cI, 18, .inl (nA ((up las (t1 - 1) ((las (t1 - 1)) ||| (las t1)))))))] H := hP.sub [4, 5, 0, 1, 2, 3] rfl
        have hD9 : va_D _ [(hm, .inr (6, oM am n pos cmp que dsz mad cur stp met bst)), (am 7, .inl (cI, 18, .inl (nA fol2_73))), (am 6, .inl (cI, 6, .inl (nA wsy))), (am 8, .inl (cZ, 18, .inl (zA ((upz nus (t1 - 1) (decide (nus (t1 - 1) = true ∧ nus t1 = true))))))), (am 9, .inl (cI, 18, .inl (nA ((up fis (t1 - 1) ((fis t1) ||| (fis (t1 - 1)))))))), (am 10, .inl (cI, 18, .inl (nA ((up las (t1 - 1) ((las (t1 - 1)) ||| (las t1)))))))] := hD.sub [4, 5, 0, 1, 2, 3] (by decide) rfl
        exact W.vret (pc := 169) hx hb hr (fun t ht hW => ⟨⟨(pos, fol2_73, wsy, upz nus (t1 - 1) (decide (nus (t1 - 1) = true ∧ nus t1 = true)), up fis (t1 - 1) ((fis t1) ||| (fis (t1 - 1))), up las (t1 - 1) ((las (t1 - 1)) ||| (las t1))), rfl, ⟨AJ_cc hv hk h7 haj (fun p _ => hw73.1 p) (dec_and _ _) (by first | (exact (if_pos c88).symm) | (rw [Nat.or_zero]; exact (if_neg c88).symm)) (by first | (exact (if_pos c119).symm) | (rw [Nat.or_zero]; exact (if_neg c119).symm)), fun j _ hj => hw73.2 j hj, fun _ _ _ => rfl⟩, by rw [ht]; exact hP9, va_K.moved hW.alike hK, hD9⟩, hS.F ht⟩) hS.2.2 dX8_join_169
  · have h6 := hu.mp c6
    refine lv_aload_n (pc := 9) hx hb dX8_join_9 rfl (lv_at hl 1 rfl) ?_
    refine va_get (pc := 10) (D := D) (ci := 6) (v := .ref (am 8)) (C := RX8) (T := TX8) (N := 30) hx hb hts hinX8 hown hK hP 0 rfl rfl 8 (by decide) lk2 (fun _ h9 => h9) rfl dX8_join_10 ?_
    refine lv_iload (pc := 13) hx hb dX8_join_13 (lv_at hl 0 rfl) ?_
    refine lv_dup2_11 (pc := 15) hx hb dX8_join_15 rfl rfl ?_
    refine xa_zald (pc := 16) hx hb hK hP 3 2 rfl rfl (by omega) (by omega) dX8_join_16 ?_
    refine lv_aload_n (pc := 17) hx hb dX8_join_17 rfl (lv_at hl 1 rfl) ?_
    refine va_get (pc := 18) (D := D) (ci := 6) (v := .ref (am 8)) (C := RX8) (T := TX8) (N := 30) hx hb hts hinX8 hown hK hP 0 rfl rfl 8 (by decide) lk2 (fun _ h9 => h9) rfl dX8_join_18 ?_
    refine lv_iload_n (pc := 21) hx hb dX8_join_21 rfl (lv_at hl 3 rfl) ?_
    refine xa_zald (pc := 22) hx hb hK hP 3 2 rfl rfl (by omega) (by omega) dX8_join_22 ?_
    refine xn_ior (pc := 23) hx hb  dX8_join_23 ?_
    refine W.eq (g2 := F0 mG 24 ls [.int (nI (pN (nus (t1 - 1) = true ∨ nus t1 = true))), .int (nI (t1 - 1)), .ref (am 8)]) (congrArg (fun zz => F0 mG 24 ls [.int zz, .int (nI (t1 - 1)), .ref (am 8)]) (congrArg nI pN_or)) ?_
    refine xa_zast (pc := 24) hx hb hK hP hD hS 3 2 rfl rfl (by omega) (by omega) dX8_join_24 (fun H locs hP hD hS => ?_)
    have hP : va_P D vwCl [(hm, .inr (6, oM am n pos cmp que dsz mad cur stp met bst)), (am 7, .inl (cI, 18, .inl (nA fol))), (am 6, .inl (cI, 6, .inl (nA wsy))), (am 8, .inl (cZ, 18, .inl (zA (upz nus (t1 - 1) (decide (nus (t1 - 1) = true ∨ nus t1 = true)))))), (am 9, .inl (cI, 18, .inl (nA fis))), (am 10, .inl (cI, 18, .inl (nA las)))] H := hP
    have hD : va_D _ [(hm, .inr (6, oM am n pos cmp que dsz mad cur stp met bst)), (am 7, .inl (cI, 18, .inl (nA fol))), (am 6, .inl (cI, 6, .inl (nA wsy))), (am 8, .inl (cZ, 18, .inl (zA (upz nus (t1 - 1) (decide (nus (t1 - 1) = true ∨ nus t1 = true)))))), (am 9, .inl (cI, 18, .inl (nA fis))), (am 10, .inl (cI, 18, .inl (nA las)))] := hD
    refine lv_aload_n (pc := 25) hx hb dX8_join_25 rfl (lv_at hl 1 rfl) ?_
    refine va_get (pc := 26) (D := D) (ci := 6) (v := .ref (am 9)) (C := RX8) (T := TX8) (N := 30) hx hb hts hinX8 hown hK hP 0 rfl rfl 9 (by decide) lk1 (fun _ h9 => h9) rfl dX8_join_26 ?_
    refine lv_iload (pc := 29) hx hb dX8_join_29 (lv_at hl 0 rfl) ?_
    refine lv_dup2_11 (pc := 31) hx hb dX8_join_31 rfl rfl ?_
    refine xa_iald (pc := 32) hx hb hK hP 4 0 rfl rfl (by omega) (by omega) dX8_join_32 ?_
    refine lv_aload_n (pc := 33) hx hb dX8_join_33 rfl (lv_at hl 1 rfl) ?_
    refine va_get (pc := 34) (D := D) (ci := 6) (v := .ref (am 9)) (C := RX8) (T := TX8) (N := 30) hx hb hts hinX8 hown hK hP 0 rfl rfl 9 (by decide) lk1 (fun _ h9 => h9) rfl dX8_join_34 ?_
    refine lv_iload_n (pc := 37) hx hb dX8_join_37 rfl (lv_at hl 3 rfl) ?_
    refine xa_iald (pc := 38) hx hb hK hP 4 0 rfl rfl (by omega) (by omega) dX8_join_38 ?_
    refine xn_ior (pc := 39) hx hb  dX8_join_39 ?_
    refine xa_iast (pc := 40) hx hb hK hP hD hS 4 0 rfl rfl (by omega) (by omega) dX8_join_40 (fun H locs hP hD hS => ?_)
    have hP : va_P D vwCl [(hm, .inr (6, oM am n pos cmp que dsz mad cur stp met bst)), (am 7, .inl (cI, 18, .inl (nA fol))), (am 6, .inl (cI, 6, .inl (nA wsy))), (am 8, .inl (cZ, 18, .inl (zA (upz nus (t1 - 1) (decide (nus (t1 - 1) = true ∨ nus t1 = true)))))), (am 9, .inl (cI, 18, .inl (nA (up fis (t1 - 1) ((fis (t1 - 1)) ||| (fis t1)))))), (am 10, .inl (cI, 18, .inl (nA las)))] H := hP
    have hD : va_D _ [(hm, .inr (6, oM am n pos cmp que dsz mad cur stp met bst)), (am 7, .inl (cI, 18, .inl (nA fol))), (am 6, .inl (cI, 6, .inl (nA wsy))), (am 8, .inl (cZ, 18, .inl (zA (upz nus (t1 - 1) (decide (nus (t1 - 1) = true ∨ nus t1 = true)))))), (am 9, .inl (cI, 18, .inl (nA (up fis (t1 - 1) ((fis (t1 - 1)) ||| (fis t1)))))), (am 10, .inl (cI, 18, .inl (nA las)))] := hD
    refine lv_aload_n (pc := 41) hx hb dX8_join_41 rfl (lv_at hl 1 rfl) ?_
    refine va_get (pc := 42) (D := D) (ci := 6) (v := .ref (am 10)) (C := RX8) (T := TX8) (N := 30) hx hb hts hinX8 hown hK hP 0 rfl rfl 10 (by decide) lk0 (fun _ h9 => h9) rfl dX8_join_42 ?_
    refine lv_iload (pc := 45) hx hb dX8_join_45 (lv_at hl 0 rfl) ?_
    refine lv_dup2_11 (pc := 47) hx hb dX8_join_47 rfl rfl ?_
    refine xa_iald (pc := 48) hx hb hK hP 5 0 rfl rfl (by omega) (by omega) dX8_join_48 ?_
    refine lv_aload_n (pc := 49) hx hb dX8_join_49 rfl (lv_at hl 1 rfl) ?_
    refine va_get (pc := 50) (D := D) (ci := 6) (v := .ref (am 10)) (C := RX8) (T := TX8) (N := 30) hx hb hts hinX8 hown hK hP 0 rfl rfl 10 (by decide) lk0 (fun _ h9 => h9) rfl dX8_join_50 ?_
    refine lv_iload_n (pc := 53) hx hb dX8_join_53 rfl (lv_at hl 3 rfl) ?_
    refine xa_iald (pc := 54) hx hb hK hP 5 0 rfl rfl (by omega) (by omega) dX8_join_54 ?_
    refine xn_ior (pc := 55) hx hb  dX8_join_55 ?_
    refine xa_iast (pc := 56) hx hb hK hP hD hS 5 0 rfl rfl (by omega) (by omega) dX8_join_56 (fun H locs hP hD hS => ?_)
    have hP : va_P D vwCl [(hm, .inr (6, oM am n pos cmp que dsz mad cur stp met bst)), (am 7, .inl (cI, 18, .inl (nA fol))), (am 6, .inl (cI, 6, .inl (nA wsy))), (am 8, .inl (cZ, 18, .inl (zA (upz nus (t1 - 1) (decide (nus (t1 - 1) = true ∨ nus t1 = true)))))), (am 9, .inl (cI, 18, .inl (nA (up fis (t1 - 1) ((fis (t1 - 1)) ||| (fis t1)))))), (am 10, .inl (cI, 18, .inl (nA (up las (t1 - 1) ((las (t1 - 1)) ||| (las t1))))))] H := hP
    have hD : va_D _ [(hm, .inr (6, oM am n pos cmp que dsz mad cur stp met bst)), (am 7, .inl (cI, 18, .inl (nA fol))), (am 6, .inl (cI, 6, .inl (nA wsy))), (am 8, .inl (cZ, 18, .inl (zA (upz nus (t1 - 1) (decide (nus (t1 - 1) = true ∨ nus t1 = true)))))), (am 9, .inl (cI, 18, .inl (nA (up fis (t1 - 1) ((fis (t1 - 1)) ||| (fis t1)))))), (am 10, .inl (cI, 18, .inl (nA (up las (t1 - 1) ((las (t1 - 1)) ||| (las t1))))))] := hD
    have hP9 : va_P D vwCl [(hm, .inr (6, oM am n pos cmp que dsz mad cur stp met bst)), (am 7, .inl (cI, 18, .inl (nA fol))), (am 6, .inl (cI, 6, .inl (nA wsy))), (am 8, .inl (cZ, 18, .inl (zA ((upz nus (t1 - 1) (decide (nus (t1 - 1) = true ∨ nus t1 = true))))))), (am 9, .inl (cI, 18, .inl (nA ((up fis (t1 - 1) ((fis (t1 - 1)) ||| (fis t1))))))), (am 10, .inl (cI, 18, .inl (nA ((up las (t1 - 1) ((las (t1 - 1)) ||| (las t1)))))))] H := hP.sub [0, 1, 2, 3, 4, 5] rfl
    have hD9 : va_D _ [(hm, .inr (6, oM am n pos cmp que dsz mad cur stp met bst)), (am 7, .inl (cI, 18, .inl (nA fol))), (am 6, .inl (cI, 6, .inl (nA wsy))), (am 8, .inl (cZ, 18, .inl (zA ((upz nus (t1 - 1) (decide (nus (t1 - 1) = true ∨ nus t1 = true))))))), (am 9, .inl (cI, 18, .inl (nA ((up fis (t1 - 1) ((fis (t1 - 1)) ||| (fis t1))))))), (am 10, .inl (cI, 18, .inl (nA ((up las (t1 - 1) ((las (t1 - 1)) ||| (las t1)))))))] := hD.sub [0, 1, 2, 3, 4, 5] (by decide) rfl
    exact W.vret (pc := 57) hx hb hr (fun t ht hW => ⟨⟨(pos, fol, wsy, upz nus (t1 - 1) (decide (nus (t1 - 1) = true ∨ nus t1 = true)), up fis (t1 - 1) ((fis (t1 - 1)) ||| (fis t1)), up las (t1 - 1) ((las (t1 - 1)) ||| (las t1))), rfl, ⟨AJ_un hv hk h6 haj (dec_or _ _) rfl rfl, fun _ _ _ => rfl, fun _ _ _ => rfl⟩, by rw [ht]; exact hP9, va_K.moved hW.alike hK, hD9⟩, hS.F ht⟩) hS.2.2 dX8_join_57
set_option maxHeartbeats 4000000 in
set_option maxRecDepth 100000 in
theorem c_X8_builds (l : Launch) (D : va_G) (cI cL cZ : ClassId) (sz : Nat) (hm : Nat) (am : Nat → Nat) (n : Nat) (pos : Nat) (cmp : Nat) (que : Nat) (dsz : Nat) (mad : Nat) (cur : Nat) (stp : Nat) (met : Nat) (bst : Nat) (dgt : Nat → Nat) (fol : Nat → Nat) (wsy : Nat → Nat) (nus : Nat → Bool) (fis : Nat → Nat) (las : Nat → Nat) (isN : Nat → Bool) (fiO : Nat → Nat) (laO : Nat → Nat) (v : Nat) (w : Nat) (hv : okVb v = true) (hmd : MD v n dgt) (hw2 : w < 2) : Met l yX8_builds wsX8_builds { frames := 2, cells := 0, slots := 0, locals := 50 } (mP D (tyL cI cL cZ) [(hm, .inr (6, oM am n pos cmp que dsz mad cur stp met bst)), (am 7, .inl (cI, 18, .inl (nA fol))), (am 6, .inl (cI, 6, .inl (nA wsy))), (am 8, .inl (cZ, 18, .inl (zA nus))), (am 9, .inl (cI, 18, .inl (nA fis))), (am 10, .inl (cI, 18, .inl (nA las))), (am 3, .inl (cZ, 2, .inl (zA isN))), (am 4, .inl (cI, 2, .inl (nA fiO))), (am 5, .inl (cI, 2, .inl (nA laO))), (am 1, .inl (cI, 18, .inl (nA dgt)))] sz [.ref hm, .int (nI w)]) (va_Qv (fun (u : Nat × (Nat → Nat) × (Nat → Nat) × (Nat → Bool) × (Nat → Nat) × (Nat → Nat) × (Nat → Bool) × (Nat → Nat) × (Nat → Nat)) => AR v w u.2.1 u.2.2.1 u.2.2.2.2.2.2.1 u.2.2.2.2.2.2.2.1 u.2.2.2.2.2.2.2.2 ∧ (∀ y9, y9 < 2 → y9 ≠ w → (∀ p, p < 9 → u.2.1 (9 * y9 + p) = fol (9 * y9 + p)) ∧ (∀ c, c < 3 → u.2.2.1 (3 * y9 + c) = wsy (3 * y9 + c)) ∧ u.2.2.2.2.2.2.1 y9 = isN y9 ∧ u.2.2.2.2.2.2.2.1 y9 = fiO y9 ∧ u.2.2.2.2.2.2.2.2 y9 = laO y9)) (fun (u : Nat × (Nat → Nat) × (Nat → Nat) × (Nat → Bool) × (Nat → Nat) × (Nat → Nat) × (Nat → Bool) × (Nat → Nat) × (Nat → Nat)) (t : State) => mB D (tyL cI cL cZ) (va_A [(hm, .inr (6, oM am n pos cmp que dsz mad cur stp met bst)), (am 7, .inl (cI, 18, .inl (nA fol))), (am 6, .inl (cI, 6, .inl (nA wsy))), (am 8, .inl (cZ, 18, .inl (zA nus))), (am 9, .inl (cI, 18, .inl (nA fis))), (am 10, .inl (cI, 18, .inl (nA las))), (am 3, .inl (cZ, 2, .inl (zA isN))), (am 4, .inl (cI, 2, .inl (nA fiO))), (am 5, .inl (cI, 2, .inl (nA laO))), (am 1, .inl (cI, 18, .inl (nA dgt)))] sz) [(hm, .inr (6, oM am n (u.1) cmp que dsz mad cur stp met bst)), (am 7, .inl (cI, 18, .inl (nA (u.2.1)))), (am 6, .inl (cI, 6, .inl (nA (u.2.2.1)))), (am 8, .inl (cZ, 18, .inl (zA (u.2.2.2.1)))), (am 9, .inl (cI, 18, .inl (nA (u.2.2.2.2.1)))), (am 10, .inl (cI, 18, .inl (nA (u.2.2.2.2.2.1)))), (am 3, .inl (cZ, 2, .inl (zA (u.2.2.2.2.2.2.1)))), (am 4, .inl (cI, 2, .inl (nA (u.2.2.2.2.2.2.2.1)))), (am 5, .inl (cI, 2, .inl (nA (u.2.2.2.2.2.2.2.2)))), (am 1, .inl (cI, 18, .inl (nA dgt)))] t) (va_A [(hm, .inr (6, oM am n pos cmp que dsz mad cur stp met bst)), (am 7, .inl (cI, 18, .inl (nA fol))), (am 6, .inl (cI, 6, .inl (nA wsy))), (am 8, .inl (cZ, 18, .inl (zA nus))), (am 9, .inl (cI, 18, .inl (nA fis))), (am 10, .inl (cI, 18, .inl (nA las))), (am 3, .inl (cZ, 2, .inl (zA isN))), (am 4, .inl (cI, 2, .inl (nA fiO))), (am 5, .inl (cI, 2, .inl (nA laO))), (am 1, .inl (cI, 18, .inl (nA dgt)))] sz)) 0 0 (va_A [(hm, .inr (6, oM am n pos cmp que dsz mad cur stp met bst)), (am 7, .inl (cI, 18, .inl (nA fol))), (am 6, .inl (cI, 6, .inl (nA wsy))), (am 8, .inl (cZ, 18, .inl (zA nus))), (am 9, .inl (cI, 18, .inl (nA fis))), (am 10, .inl (cI, 18, .inl (nA las))), (am 3, .inl (cZ, 2, .inl (zA isN))), (am 4, .inl (cI, 2, .inl (nA fiO))), (am 5, .inl (cI, 2, .inl (nA laO))), (am 1, .inl (cI, 18, .inl (nA dgt)))] sz) := by
  refine Met.ofW (cc := cX8_builds) (maxL := 4) (ret := none) (by decide) rfl ?_
  intro pG eG s mG args below meth cG s₁ B hml hpre9
  obtain ⟨rfl, hsz, hP, hK, hD0⟩ := hpre9
  have hx := B.exec
  have hb := B.bytes
  have hr := B.returns
  have hts := atoms_spec (ws := wsX8_builds) B.pre
  have hown : s.vm.findClass RX8 = some mG.cls := findClass_of_methodNamed B.named
  have hlocks := B.notSynchronized
  subst hsz
  have hD := hD0.self (sz := s.heap.size)
  have hA : ∀ q : Nat, s.heap.size ≤ q → va_A [(hm, .inr (6, oM am n pos cmp que dsz mad cur stp met bst)), (am 7, .inl (cI, 18, .inl (nA fol))), (am 6, .inl (cI, 6, .inl (nA wsy))), (am 8, .inl (cZ, 18, .inl (zA nus))), (am 9, .inl (cI, 18, .inl (nA fis))), (am 10, .inl (cI, 18, .inl (nA las))), (am 3, .inl (cZ, 2, .inl (zA isN))), (am 4, .inl (cI, 2, .inl (nA fiO))), (am 5, .inl (cI, 2, .inl (nA laO))), (am 1, .inl (cI, 18, .inl (nA dgt)))] s.heap.size q := fun q h => Or.inr h
  have hS : va_S (va_A [(hm, .inr (6, oM am n pos cmp que dsz mad cur stp met bst)), (am 7, .inl (cI, 18, .inl (nA fol))), (am 6, .inl (cI, 6, .inl (nA wsy))), (am 8, .inl (cZ, 18, .inl (zA nus))), (am 9, .inl (cI, 18, .inl (nA fis))), (am 10, .inl (cI, 18, .inl (nA las))), (am 3, .inl (cZ, 2, .inl (zA isN))), (am 4, .inl (cI, 2, .inl (nA fiO))), (am 5, .inl (cI, 2, .inl (nA laO))), (am 1, .inl (cI, 18, .inl (nA dgt)))] s.heap.size) s.heap s.heap [] := va_S.rf
  have hinX8 : ∀ w ∈ wsX80, w ∈ wsX8_builds := fun w HH => (List.mem_cons_of_mem _ (List.mem_append_right _ HH))
  have lk0 : (Cond.fieldLink RX8 96 "RegexSimplifierModel" "positions" "I").before _ s = true := hts _ (List.mem_cons_of_mem _ (List.mem_append_left _ (List.mem_of_getElem? (i := 0) rfl)))
  have lk1 : (Cond.fieldLink RX8 78 "RegexSimplifierModel" "n" "I").before _ s = true := hts _ (List.mem_cons_of_mem _ (List.mem_append_left _ (List.mem_of_getElem? (i := 3) rfl)))
  have lk2 : (Cond.fieldLink RX8 16 "RegexSimplifierModel" "isNullable" "[Z").before _ s = true := hts _ (List.mem_cons_of_mem _ (List.mem_append_left _ (List.mem_of_getElem? (i := 8) rfl)))
  have lk3 : (Cond.fieldLink RX8 32 "RegexSimplifierModel" "nullables" "[Z").before _ s = true := hts _ (List.mem_cons_of_mem _ (List.mem_append_left _ (List.mem_of_getElem? (i := 7) rfl)))
  have lk4 : (Cond.fieldLink RX8 20 "RegexSimplifierModel" "firstOf" "[I").before _ s = true := hts _ (List.mem_cons_of_mem _ (List.mem_append_left _ (List.mem_of_getElem? (i := 9) rfl)))
  have lk5 : (Cond.fieldLink RX8 35 "RegexSimplifierModel" "firsts" "[I").before _ s = true := hts _ (List.mem_cons_of_mem _ (List.mem_append_left _ (List.mem_of_getElem? (i := 6) rfl)))
  have lk6 : (Cond.fieldLink RX8 23 "RegexSimplifierModel" "lastOf" "[I").before _ s = true := hts _ (List.mem_cons_of_mem _ (List.mem_append_left _ (List.mem_of_getElem? (i := 10) rfl)))
  have lk7 : (Cond.fieldLink RX8 38 "RegexSimplifierModel" "lasts" "[I").before _ s = true := hts _ (List.mem_cons_of_mem _ (List.mem_append_left _ (List.mem_of_getElem? (i := 5) rfl)))
  have lk8 : (Cond.fieldLink RX8 7 "RegexSimplifierModel" "digit" "[I").before _ s = true := hts _ (List.mem_cons_of_mem _ (List.mem_append_left _ (List.mem_of_getElem? (i := 4) rfl)))
  have lk9 : (Cond.fieldLink RX8 26 "RegexSimplifierModel" "withSymbol" "[I").before _ s = true := hts _ (List.mem_cons_of_mem _ (List.mem_append_left _ (List.mem_of_getElem? (i := 2) rfl)))
  have lk10 : (Cond.fieldLink RX8 29 "RegexSimplifierModel" "follow" "[I").before _ s = true := hts _ (List.mem_cons_of_mem _ (List.mem_append_left _ (List.mem_of_getElem? (i := 1) rfl)))
  have hl := lv_entry ([.ref hm, .int (nI w)]) (n := 4) (Nat.le_of_ble_eq_true rfl)
  rw [lg_entry_eq]
  generalize (lg_sl ([.ref hm, .int (nI w)]) ++ List.replicate (4 - (lg_sl ([.ref hm, .int (nI w)])).length) Slot.unset).toArray = ls at hl ⊢
  have hl : lv_has ls 4 [(0, .ref hm), (1, .int (nI w))] := hl
  have tv := TV_v (okVb_iff.mp hv)
  have hn18 := tv.n18
  have hn0 := tv.n0
  have hn := hmd.1
  refine lv_aload_n (pc := 0) hx hb dX8_builds_0 rfl (lv_at hl 0 rfl) ?_
  refine lv_iconst (pc := 1) (v := (nI (0))) hx hb dX8_builds_1 (by decide) ?_
  refine va_put (pc := 2) (D := D) (ci := 6) (v := .int (nI 0)) (ty := .int) (C := RX8) (T := TX8) (N := 30) hx hb hts hinX8 tyX8 tyX8_ok nmX8 hown hK hP hD hS 0 rfl rfl 11 (by decide) lk0 (fun _ h9 => h9) rfl (by decide +kernel) rfl rfl (Nat.le_of_ble_eq_true rfl) dX8_builds_2 (fun H locs hP hD hS => ?_)
  have hP : va_P D vwCl [(hm, .inr (6, oM am n 0 cmp que dsz mad cur stp met bst)), (am 7, .inl (cI, 18, .inl (nA fol))), (am 6, .inl (cI, 6, .inl (nA wsy))), (am 8, .inl (cZ, 18, .inl (zA nus))), (am 9, .inl (cI, 18, .inl (nA fis))), (am 10, .inl (cI, 18, .inl (nA las))), (am 3, .inl (cZ, 2, .inl (zA isN))), (am 4, .inl (cI, 2, .inl (nA fiO))), (am 5, .inl (cI, 2, .inl (nA laO))), (am 1, .inl (cI, 18, .inl (nA dgt)))] H := hP
  have hD : va_D _ [(hm, .inr (6, oM am n 0 cmp que dsz mad cur stp met bst)), (am 7, .inl (cI, 18, .inl (nA fol))), (am 6, .inl (cI, 6, .inl (nA wsy))), (am 8, .inl (cZ, 18, .inl (zA nus))), (am 9, .inl (cI, 18, .inl (nA fis))), (am 10, .inl (cI, 18, .inl (nA las))), (am 3, .inl (cZ, 2, .inl (zA isN))), (am 4, .inl (cI, 2, .inl (nA fiO))), (am 5, .inl (cI, 2, .inl (nA laO))), (am 1, .inl (cI, 18, .inl (nA dgt)))] := hD
  refine lv_iconst (pc := 5) (v := (nI (0))) hx hb dX8_builds_5 (by decide) ?_
  refine lv_istore_n (pc := 6) (lv' := [(2, .int (nI 0)), (0, .ref hm), (1, .int (nI w))]) hx hb dX8_builds_6 rfl hl (by decide) rfl (fun ls hl => ?_)
  have loop7 : ∀ (fuel : Nat) (p : Nat) (g : Nat → Nat) (ls : Array Slot) (H : Heap) (locs : List Loc), 9 - p < fuel → (p ≤ 9) → (∀ q, q < p → g (9 * w + q) = 0) → ((∀ j, j < 18 → (j < 9 * w ∨ 9 * w + 9 ≤ j) → g j = fol j)) → lv_has ls 4 [(0, .ref hm), (1, .int (nI w)), (2, .int (nI p))] → va_P D vwCl [(hm, .inr (6, oM am n 0 cmp que dsz mad cur stp met bst)), (am 7, .inl (cI, 18, .inl (nA g))), (am 6, .inl (cI, 6, .inl (nA wsy))), (am 8, .inl (cZ, 18, .inl (zA nus))), (am 9, .inl (cI, 18, .inl (nA fis))), (am 10, .inl (cI, 18, .inl (nA las))), (am 3, .inl (cZ, 2, .inl (zA isN))), (am 4, .inl (cI, 2, .inl (nA fiO))), (am 5, .inl (cI, 2, .inl (nA laO))), (am 1, .inl (cI, 18, .inl (nA dgt)))] H → va_D (va_A [(hm, .inr (6, oM am n pos cmp que dsz mad cur stp met bst)), (am 7, .inl (cI, 18, .inl (nA fol))), (am 6, .inl (cI, 6, .inl (nA wsy))), (am 8, .inl (cZ, 18, .inl (zA nus))), (am 9, .inl (cI, 18, .inl (nA fis))), (am 10, .inl (cI, 18, .inl (nA las))), (am 3, .inl (cZ, 2, .inl (zA isN))), (am 4, .inl (cI, 2, .inl (nA fiO))), (am 5, .inl (cI, 2, .inl (nA laO))), (am 1, .inl (cI, 18, .inl (nA dgt)))] s.heap.size) [(hm, .inr (6, oM am n 0 cmp que dsz mad cur stp met bst)), (am 7, .inl (cI, 18, .inl (nA g))), (am 6, .inl (cI, 6, .inl (nA wsy))), (am 8, .inl (cZ, 18, .inl (zA nus))), (am 9, .inl (cI, 18, .inl (nA fis))), (am 10, .inl (cI, 18, .inl (nA las))), (am 3, .inl (cZ, 2, .inl (zA isN))), (am 4, .inl (cI, 2, .inl (nA fiO))), (am 5, .inl (cI, 2, .inl (nA laO))), (am 1, .inl (cI, 18, .inl (nA dgt)))] → va_S (va_A [(hm, .inr (6, oM am n pos cmp que dsz mad cur stp met bst)), (am 7, .inl (cI, 18, .inl (nA fol))), (am 6, .inl (cI, 6, .inl (nA wsy))), (am 8, .inl (cZ, 18, .inl (zA nus))), (am 9, .inl (cI, 18, .inl (nA fis))), (am 10, .inl (cI, 18, .inl (nA las))), (am 3, .inl (cZ, 2, .inl (zA isN))), (am 4, .inl (cI, 2, .inl (nA fiO))), (am 5, .inl (cI, 2, .inl (nA laO))), (am 1, .inl (cI, 18, .inl (nA dgt)))] s.heap.size) s.heap H locs → W pG l eG (headSpec wsX8_builds { frames := 2, cells := 0, slots := 0, locals := 50 }).room s mG [.ref hm, .int (nI w)].toArray below meth cG H locs 0 0 (MQ below (va_Qv (fun (u : Nat × (Nat → Nat) × (Nat → Nat) × (Nat → Bool) × (Nat → Nat) × (Nat → Nat) × (Nat → Bool) × (Nat → Nat) × (Nat → Nat)) => AR v w u.2.1 u.2.2.1 u.2.2.2.2.2.2.1 u.2.2.2.2.2.2.2.1 u.2.2.2.2.2.2.2.2 ∧ (∀ y9, y9 < 2 → y9 ≠ w → (∀ p, p < 9 → u.2.1 (9 * y9 + p) = fol (9 * y9 + p)) ∧ (∀ c, c < 3 → u.2.2.1 (3 * y9 + c) = wsy (3 * y9 + c)) ∧ u.2.2.2.2.2.2.1 y9 = isN y9 ∧ u.2.2.2.2.2.2.2.1 y9 = fiO y9 ∧ u.2.2.2.2.2.2.2.2 y9 = laO y9)) (fun (u : Nat × (Nat → Nat) × (Nat → Nat) × (Nat → Bool) × (Nat → Nat) × (Nat → Nat) × (Nat → Bool) × (Nat → Nat) × (Nat → Nat)) (t : State) => mB D (tyL cI cL cZ) (va_A [(hm, .inr (6, oM am n pos cmp que dsz mad cur stp met bst)), (am 7, .inl (cI, 18, .inl (nA fol))), (am 6, .inl (cI, 6, .inl (nA wsy))), (am 8, .inl (cZ, 18, .inl (zA nus))), (am 9, .inl (cI, 18, .inl (nA fis))), (am 10, .inl (cI, 18, .inl (nA las))), (am 3, .inl (cZ, 2, .inl (zA isN))), (am 4, .inl (cI, 2, .inl (nA fiO))), (am 5, .inl (cI, 2, .inl (nA laO))), (am 1, .inl (cI, 18, .inl (nA dgt)))] s.heap.size) [(hm, .inr (6, oM am n (u.1) cmp que dsz mad cur stp met bst)), (am 7, .inl (cI, 18, .inl (nA (u.2.1)))), (am 6, .inl (cI, 6, .inl (nA (u.2.2.1)))), (am 8, .inl (cZ, 18, .inl (zA (u.2.2.2.1)))), (am 9, .inl (cI, 18, .inl (nA (u.2.2.2.2.1)))), (am 10, .inl (cI, 18, .inl (nA (u.2.2.2.2.2.1)))), (am 3, .inl (cZ, 2, .inl (zA (u.2.2.2.2.2.2.1)))), (am 4, .inl (cI, 2, .inl (nA (u.2.2.2.2.2.2.2.1)))), (am 5, .inl (cI, 2, .inl (nA (u.2.2.2.2.2.2.2.2)))), (am 1, .inl (cI, 18, .inl (nA dgt)))] t) (va_A [(hm, .inr (6, oM am n pos cmp que dsz mad cur stp met bst)), (am 7, .inl (cI, 18, .inl (nA fol))), (am 6, .inl (cI, 6, .inl (nA wsy))), (am 8, .inl (cZ, 18, .inl (zA nus))), (am 9, .inl (cI, 18, .inl (nA fis))), (am 10, .inl (cI, 18, .inl (nA las))), (am 3, .inl (cZ, 2, .inl (zA isN))), (am 4, .inl (cI, 2, .inl (nA fiO))), (am 5, .inl (cI, 2, .inl (nA laO))), (am 1, .inl (cI, 18, .inl (nA dgt)))] s.heap.size)) [.ref hm, .int (nI w)].toArray s 0 0 (va_A [(hm, .inr (6, oM am n pos cmp que dsz mad cur stp met bst)), (am 7, .inl (cI, 18, .inl (nA fol))), (am 6, .inl (cI, 6, .inl (nA wsy))), (am 8, .inl (cZ, 18, .inl (zA nus))), (am 9, .inl (cI, 18, .inl (nA fis))), (am 10, .inl (cI, 18, .inl (nA las))), (am 3, .inl (cZ, 2, .inl (zA isN))), (am 4, .inl (cI, 2, .inl (nA fiO))), (am 5, .inl (cI, 2, .inl (nA laO))), (am 1, .inl (cI, 18, .inl (nA dgt)))] s.heap.size)) (F0 mG 7 ls []) := by
    intro fuel
    induction fuel with
    | zero => intro p g ls H locs hmeas a1 a2 a3 hl hP hD hS; exact absurd hmeas (Nat.not_lt_zero _)
    | succ fuel ih7 =>
      intro p g ls H locs hmeas a1 a2 a3 hl hP hD hS
      refine lv_iload_n (pc := 7) hx hb dX8_builds_7 rfl (lv_at hl 2 rfl) ?_
      refine lv_bipush (pc := 8) (v := (nI (9))) hx hb dX8_builds_8 (by decide) ?_
      refine xn_icmp_ge (pc := 10) (tgt := 31) hx hb (by omega) (by omega) dX8_builds_10 (by decide) (fun c10 => ?_) (fun c10 => ?_)
      · refine lv_iconst (pc := 31) (v := (nI (0))) hx hb dX8_builds_31 (by decide) ?_
        refine lv_istore_n (pc := 32) (lv' := [(2, .int (nI 0)), (0, .ref hm), (1, .int (nI w))]) hx hb dX8_builds_32 rfl hl (by decide) rfl (fun ls hl => ?_)
        have loop33 : ∀ (fuel : Nat) (c : Nat) (gw : Nat → Nat) (ls : Array Slot) (H : Heap) (locs : List Loc), 3 - c < fuel → (c ≤ 3) → (∀ q, q < c → gw (3 * w + q) = 0) → ((∀ j, j < 6 → (j < 3 * w ∨ 3 * w + 3 ≤ j) → gw j = wsy j)) → lv_has ls 4 [(0, .ref hm), (1, .int (nI w)), (2, .int (nI c))] → va_P D vwCl [(hm, .inr (6, oM am n 0 cmp que dsz mad cur stp met bst)), (am 7, .inl (cI, 18, .inl (nA g))), (am 6, .inl (cI, 6, .inl (nA gw))), (am 8, .inl (cZ, 18, .inl (zA nus))), (am 9, .inl (cI, 18, .inl (nA fis))), (am 10, .inl (cI, 18, .inl (nA las))), (am 3, .inl (cZ, 2, .inl (zA isN))), (am 4, .inl (cI, 2, .inl (nA fiO))), (am 5, .inl (cI, 2, .inl (nA laO))), (am 1, .inl (cI, 18, .inl (nA dgt)))] H → va_D (va_A [(hm, .inr (6, oM am n pos cmp que dsz mad cur stp met bst)), (am 7, .inl (cI, 18, .inl (nA fol))), (am 6, .inl (cI, 6, .inl (nA wsy))), (am 8, .inl (cZ, 18, .inl (zA nus))), (am 9, .inl (cI, 18, .inl (nA fis))), (am 10, .inl (cI, 18, .inl (nA las))), (am 3, .inl (cZ, 2, .inl (zA isN))), (am 4, .inl (cI, 2, .inl (nA fiO))), (am 5, .inl (cI, 2, .inl (nA laO))), (am 1, .inl (cI, 18, .inl (nA dgt)))] s.heap.size) [(hm, .inr (6, oM am n 0 cmp que dsz mad cur stp met bst)), (am 7, .inl (cI, 18, .inl (nA g))), (am 6, .inl (cI, 6, .inl (nA gw))), (am 8, .inl (cZ, 18, .inl (zA nus))), (am 9, .inl (cI, 18, .inl (nA fis))), (am 10, .inl (cI, 18, .inl (nA las))), (am 3, .inl (cZ, 2, .inl (zA isN))), (am 4, .inl (cI, 2, .inl (nA fiO))), (am 5, .inl (cI, 2, .inl (nA laO))), (am 1, .inl (cI, 18, .inl (nA dgt)))] → va_S (va_A [(hm, .inr (6, oM am n pos cmp que dsz mad cur stp met bst)), (am 7, .inl (cI, 18, .inl (nA fol))), (am 6, .inl (cI, 6, .inl (nA wsy))), (am 8, .inl (cZ, 18, .inl (zA nus))), (am 9, .inl (cI, 18, .inl (nA fis))), (am 10, .inl (cI, 18, .inl (nA las))), (am 3, .inl (cZ, 2, .inl (zA isN))), (am 4, .inl (cI, 2, .inl (nA fiO))), (am 5, .inl (cI, 2, .inl (nA laO))), (am 1, .inl (cI, 18, .inl (nA dgt)))] s.heap.size) s.heap H locs → W pG l eG (headSpec wsX8_builds { frames := 2, cells := 0, slots := 0, locals := 50 }).room s mG [.ref hm, .int (nI w)].toArray below meth cG H locs 0 0 (MQ below (va_Qv (fun (u : Nat × (Nat → Nat) × (Nat → Nat) × (Nat → Bool) × (Nat → Nat) × (Nat → Nat) × (Nat → Bool) × (Nat → Nat) × (Nat → Nat)) => AR v w u.2.1 u.2.2.1 u.2.2.2.2.2.2.1 u.2.2.2.2.2.2.2.1 u.2.2.2.2.2.2.2.2 ∧ (∀ y9, y9 < 2 → y9 ≠ w → (∀ p, p < 9 → u.2.1 (9 * y9 + p) = fol (9 * y9 + p)) ∧ (∀ c, c < 3 → u.2.2.1 (3 * y9 + c) = wsy (3 * y9 + c)) ∧ u.2.2.2.2.2.2.1 y9 = isN y9 ∧ u.2.2.2.2.2.2.2.1 y9 = fiO y9 ∧ u.2.2.2.2.2.2.2.2 y9 = laO y9)) (fun (u : Nat × (Nat → Nat) × (Nat → Nat) × (Nat → Bool) × (Nat → Nat) × (Nat → Nat) × (Nat → Bool) × (Nat → Nat) × (Nat → Nat)) (t : State) => mB D (tyL cI cL cZ) (va_A [(hm, .inr (6, oM am n pos cmp que dsz mad cur stp met bst)), (am 7, .inl (cI, 18, .inl (nA fol))), (am 6, .inl (cI, 6, .inl (nA wsy))), (am 8, .inl (cZ, 18, .inl (zA nus))), (am 9, .inl (cI, 18, .inl (nA fis))), (am 10, .inl (cI, 18, .inl (nA las))), (am 3, .inl (cZ, 2, .inl (zA isN))), (am 4, .inl (cI, 2, .inl (nA fiO))), (am 5, .inl (cI, 2, .inl (nA laO))), (am 1, .inl (cI, 18, .inl (nA dgt)))] s.heap.size) [(hm, .inr (6, oM am n (u.1) cmp que dsz mad cur stp met bst)), (am 7, .inl (cI, 18, .inl (nA (u.2.1)))), (am 6, .inl (cI, 6, .inl (nA (u.2.2.1)))), (am 8, .inl (cZ, 18, .inl (zA (u.2.2.2.1)))), (am 9, .inl (cI, 18, .inl (nA (u.2.2.2.2.1)))), (am 10, .inl (cI, 18, .inl (nA (u.2.2.2.2.2.1)))), (am 3, .inl (cZ, 2, .inl (zA (u.2.2.2.2.2.2.1)))), (am 4, .inl (cI, 2, .inl (nA (u.2.2.2.2.2.2.2.1)))), (am 5, .inl (cI, 2, .inl (nA (u.2.2.2.2.2.2.2.2)))), (am 1, .inl (cI, 18, .inl (nA dgt)))] t) (va_A [(hm, .inr (6, oM am n pos cmp que dsz mad cur stp met bst)), (am 7, .inl (cI, 18, .inl (nA fol))), (am 6, .inl (cI, 6, .inl (nA wsy))), (am 8, .inl (cZ, 18, .inl (zA nus))), (am 9, .inl (cI, 18, .inl (nA fis))), (am 10, .inl (cI, 18, .inl (nA las))), (am 3, .inl (cZ, 2, .inl (zA isN))), (am 4, .inl (cI, 2, .inl (nA fiO))), (am 5, .inl (cI, 2, .inl (nA laO))), (am 1, .inl (cI, 18, .inl (nA dgt)))] s.heap.size)) [.ref hm, .int (nI w)].toArray s 0 0 (va_A [(hm, .inr (6, oM am n pos cmp que dsz mad cur stp met bst)), (am 7, .inl (cI, 18, .inl (nA fol))), (am 6, .inl (cI, 6, .inl (nA wsy))), (am 8, .inl (cZ, 18, .inl (zA nus))), (am 9, .inl (cI, 18, .inl (nA fis))), (am 10, .inl (cI, 18, .inl (nA las))), (am 3, .inl (cZ, 2, .inl (zA isN))), (am 4, .inl (cI, 2, .inl (nA fiO))), (am 5, .inl (cI, 2, .inl (nA laO))), (am 1, .inl (cI, 18, .inl (nA dgt)))] s.heap.size)) (F0 mG 33 ls []) := by
          intro fuel
          induction fuel with
          | zero => intro c gw ls H locs hmeas b1 b2 b3 hl hP hD hS; exact absurd hmeas (Nat.not_lt_zero _)
          | succ fuel ih33 =>
            intro c gw ls H locs hmeas b1 b2 b3 hl hP hD hS
            refine lv_iload_n (pc := 33) hx hb dX8_builds_33 rfl (lv_at hl 2 rfl) ?_
            refine lv_iconst (pc := 34) (v := (nI (3))) hx hb dX8_builds_34 (by decide) ?_
            refine xn_icmp_ge (pc := 35) (tgt := 55) hx hb (by omega) (by omega) dX8_builds_35 (by decide) (fun c35 => ?_) (fun c35 => ?_)
            · refine lv_iconst (pc := 55) (v := (nI (0))) hx hb dX8_builds_55 (by decide) ?_
              refine lv_istore_n (pc := 56) (lv' := [(2, .int (nI 0)), (0, .ref hm), (1, .int (nI w))]) hx hb dX8_builds_56 rfl hl (by decide) rfl (fun ls hl => ?_)
              refine lv_aload_n (pc := 57) hx hb dX8_builds_57 rfl (lv_at hl 1 rfl) ?_
              refine va_get (pc := 58) (D := D) (ci := 6) (v := .int (nI n)) (C := RX8) (T := TX8) (N := 30) hx hb hts hinX8 hown hK hP 0 rfl rfl 0 (by decide) lk1 (fun _ h9 => h9) rfl dX8_builds_58 ?_
              refine lv_iconst (pc := 61) (v := (nI (1))) hx hb dX8_builds_61 (by decide) ?_
              refine xn_isub (pc := 62) hx hb (by omega) dX8_builds_62 ?_
              refine lv_istore_n (pc := 63) (lv' := [(3, .int (nI (n - 1))), (2, .int (nI 0)), (0, .ref hm), (1, .int (nI w))]) hx hb dX8_builds_63 rfl hl (by decide) rfl (fun ls hl => ?_)
              have loop64 : ∀ (fuel : Nat) (k : Nat) (o : Nat) (fol1 : Nat → Nat) (wsy1 : Nat → Nat) (nus1 : Nat → Bool) (fis1 : Nat → Nat) (las1 : Nat → Nat) (pos1 : Nat) (ls : Array Slot) (H : Heap) (locs : List Loc), k < fuel → (k ≤ dc v) → (AJ v w k o nus1 fis1 las1 fol1 wsy1 pos1) → ((∀ j, j < 18 → (j < 9 * w ∨ 9 * w + 9 ≤ j) → fol1 j = fol j)) → ((∀ j, j < 6 → (j < 3 * w ∨ 3 * w + 3 ≤ j) → wsy1 j = wsy j)) → lv_has ls 4 [(0, .ref hm), (1, .int (nI w)), (2, .int (nI o)), (3, .int (nI k - 1))] → va_P D vwCl [(hm, .inr (6, oM am n pos1 cmp que dsz mad cur stp met bst)), (am 7, .inl (cI, 18, .inl (nA fol1))), (am 6, .inl (cI, 6, .inl (nA wsy1))), (am 8, .inl (cZ, 18, .inl (zA nus1))), (am 9, .inl (cI, 18, .inl (nA fis1))), (am 10, .inl (cI, 18, .inl (nA las1))), (am 3, .inl (cZ, 2, .inl (zA isN))), (am 4, .inl (cI, 2, .inl (nA fiO))), (am 5, .inl (cI, 2, .inl (nA laO))), (am 1, .inl (cI, 18, .inl (nA dgt)))] H → va_D (va_A [(hm, .inr (6, oM am n pos cmp que dsz mad cur stp met bst)), (am 7, .inl (cI, 18, .inl (nA fol))), (am 6, .inl (cI, 6, .inl (nA wsy))), (am 8, .inl (cZ, 18, .inl (zA nus))), (am 9, .inl (cI, 18, .inl (nA fis))), (am 10, .inl (cI, 18, .inl (nA las))), (am 3, .inl (cZ, 2, .inl (zA isN))), (am 4, .inl (cI, 2, .inl (nA fiO))), (am 5, .inl (cI, 2, .inl (nA laO))), (am 1, .inl (cI, 18, .inl (nA dgt)))] s.heap.size) [(hm, .inr (6, oM am n pos1 cmp que dsz mad cur stp met bst)), (am 7, .inl (cI, 18, .inl (nA fol1))), (am 6, .inl (cI, 6, .inl (nA wsy1))), (am 8, .inl (cZ, 18, .inl (zA nus1))), (am 9, .inl (cI, 18, .inl (nA fis1))), (am 10, .inl (cI, 18, .inl (nA las1))), (am 3, .inl (cZ, 2, .inl (zA isN))), (am 4, .inl (cI, 2, .inl (nA fiO))), (am 5, .inl (cI, 2, .inl (nA laO))), (am 1, .inl (cI, 18, .inl (nA dgt)))] → va_S (va_A [(hm, .inr (6, oM am n pos cmp que dsz mad cur stp met bst)), (am 7, .inl (cI, 18, .inl (nA fol))), (am 6, .inl (cI, 6, .inl (nA wsy))), (am 8, .inl (cZ, 18, .inl (zA nus))), (am 9, .inl (cI, 18, .inl (nA fis))), (am 10, .inl (cI, 18, .inl (nA las))), (am 3, .inl (cZ, 2, .inl (zA isN))), (am 4, .inl (cI, 2, .inl (nA fiO))), (am 5, .inl (cI, 2, .inl (nA laO))), (am 1, .inl (cI, 18, .inl (nA dgt)))] s.heap.size) s.heap H locs → W pG l eG (headSpec wsX8_builds { frames := 2, cells := 0, slots := 0, locals := 50 }).room s mG [.ref hm, .int (nI w)].toArray below meth cG H locs 0 0 (MQ below (va_Qv (fun (u : Nat × (Nat → Nat) × (Nat → Nat) × (Nat → Bool) × (Nat → Nat) × (Nat → Nat) × (Nat → Bool) × (Nat → Nat) × (Nat → Nat)) => AR v w u.2.1 u.2.2.1 u.2.2.2.2.2.2.1 u.2.2.2.2.2.2.2.1 u.2.2.2.2.2.2.2.2 ∧ (∀ y9, y9 < 2 → y9 ≠ w → (∀ p, p < 9 → u.2.1 (9 * y9 + p) = fol (9 * y9 + p)) ∧ (∀ c, c < 3 → u.2.2.1 (3 * y9 + c) = wsy (3 * y9 + c)) ∧ u.2.2.2.2.2.2.1 y9 = isN y9 ∧ u.2.2.2.2.2.2.2.1 y9 = fiO y9 ∧ u.2.2.2.2.2.2.2.2 y9 = laO y9)) (fun (u : Nat × (Nat → Nat) × (Nat → Nat) × (Nat → Bool) × (Nat → Nat) × (Nat → Nat) × (Nat → Bool) × (Nat → Nat) × (Nat → Nat)) (t : State) => mB D (tyL cI cL cZ) (va_A [(hm, .inr (6, oM am n pos cmp que dsz mad cur stp met bst)), (am 7, .inl (cI, 18, .inl (nA fol))), (am 6, .inl (cI, 6, .inl (nA wsy))), (am 8, .inl (cZ, 18, .inl (zA nus))), (am 9, .inl (cI, 18, .inl (nA fis))), (am 10, .inl (cI, 18, .inl (nA las))), (am 3, .inl (cZ, 2, .inl (zA isN))), (am 4, .inl (cI, 2, .inl (nA fiO))), (am 5, .inl (cI, 2, .inl (nA laO))), (am 1, .inl (cI, 18, .inl (nA dgt)))] s.heap.size) [(hm, .inr (6, oM am n (u.1) cmp que dsz mad cur stp met bst)), (am 7, .inl (cI, 18, .inl (nA (u.2.1)))), (am 6, .inl (cI, 6, .inl (nA (u.2.2.1)))), (am 8, .inl (cZ, 18, .inl (zA (u.2.2.2.1)))), (am 9, .inl (cI, 18, .inl (nA (u.2.2.2.2.1)))), (am 10, .inl (cI, 18, .inl (nA (u.2.2.2.2.2.1)))), (am 3, .inl (cZ, 2, .inl (zA (u.2.2.2.2.2.2.1)))), (am 4, .inl (cI, 2, .inl (nA (u.2.2.2.2.2.2.2.1)))), (am 5, .inl (cI, 2, .inl (nA (u.2.2.2.2.2.2.2.2)))), (am 1, .inl (cI, 18, .inl (nA dgt)))] t) (va_A [(hm, .inr (6, oM am n pos cmp que dsz mad cur stp met bst)), (am 7, .inl (cI, 18, .inl (nA fol))), (am 6, .inl (cI, 6, .inl (nA wsy))), (am 8, .inl (cZ, 18, .inl (zA nus))), (am 9, .inl (cI, 18, .inl (nA fis))), (am 10, .inl (cI, 18, .inl (nA las))), (am 3, .inl (cZ, 2, .inl (zA isN))), (am 4, .inl (cI, 2, .inl (nA fiO))), (am 5, .inl (cI, 2, .inl (nA laO))), (am 1, .inl (cI, 18, .inl (nA dgt)))] s.heap.size)) [.ref hm, .int (nI w)].toArray s 0 0 (va_A [(hm, .inr (6, oM am n pos cmp que dsz mad cur stp met bst)), (am 7, .inl (cI, 18, .inl (nA fol))), (am 6, .inl (cI, 6, .inl (nA wsy))), (am 8, .inl (cZ, 18, .inl (zA nus))), (am 9, .inl (cI, 18, .inl (nA fis))), (am 10, .inl (cI, 18, .inl (nA las))), (am 3, .inl (cZ, 2, .inl (zA isN))), (am 4, .inl (cI, 2, .inl (nA fiO))), (am 5, .inl (cI, 2, .inl (nA laO))), (am 1, .inl (cI, 18, .inl (nA dgt)))] s.heap.size)) (F0 mG 64 ls []) := by
                intro fuel
                induction fuel with
                | zero => intro k o fol1 wsy1 nus1 fis1 las1 pos1 ls H locs hmeas i1 i2 i3 i4 hl hP hD hS; exact absurd hmeas (Nat.not_lt_zero _)
                | succ fuel ih64 =>
                  intro k o fol1 wsy1 nus1 fis1 las1 pos1 ls H locs hmeas i1 i2 i3 i4 hl hP hD hS
                  have hps := AJ_pos hv i2
                  refine lv_iload_n (pc := 64) hx hb dX8_builds_64 rfl (lv_at hl 3 rfl) ?_
                  refine xm_if_lt (pc := 65) (tgt := 172) hx hb (by omega) dX8_builds_65 (by decide) (fun c65 => ?_) (fun c65 => ?_)
                  · subst c65
                    refine lv_aload_n (pc := 172) hx hb dX8_builds_172 rfl (lv_at hl 0 rfl) ?_
                    refine va_get (pc := 173) (D := D) (ci := 6) (v := .ref (am 3)) (C := RX8) (T := TX8) (N := 30) hx hb hts hinX8 hown hK hP 0 rfl rfl 3 (by decide) lk2 (fun _ h9 => h9) rfl dX8_builds_173 ?_
                    refine lv_iload_n (pc := 176) hx hb dX8_builds_176 rfl (lv_at hl 1 rfl) ?_
                    refine lv_aload_n (pc := 177) hx hb dX8_builds_177 rfl (lv_at hl 0 rfl) ?_
                    refine va_get (pc := 178) (D := D) (ci := 6) (v := .ref (am 8)) (C := RX8) (T := TX8) (N := 30) hx hb hts hinX8 hown hK hP 0 rfl rfl 8 (by decide) lk3 (fun _ h9 => h9) rfl dX8_builds_178 ?_
                    refine lv_iconst (pc := 181) (v := (nI (0))) hx hb dX8_builds_181 (by decide) ?_
                    refine xa_zald (pc := 182) hx hb hK hP 3 2 rfl rfl (by omega) (by omega) dX8_builds_182 ?_
                    refine xa_zast (pc := 183) hx hb hK hP hD hS 6 2 rfl rfl (by omega) (by omega) dX8_builds_183 (fun H locs hP hD hS => ?_)
                    have hP : va_P D vwCl [(hm, .inr (6, oM am n pos1 cmp que dsz mad cur stp met bst)), (am 7, .inl (cI, 18, .inl (nA fol1))), (am 6, .inl (cI, 6, .inl (nA wsy1))), (am 8, .inl (cZ, 18, .inl (zA nus1))), (am 9, .inl (cI, 18, .inl (nA fis1))), (am 10, .inl (cI, 18, .inl (nA las1))), (am 3, .inl (cZ, 2, .inl (zA (upz isN w (decide (nus1 0 = true)))))), (am 4, .inl (cI, 2, .inl (nA fiO))), (am 5, .inl (cI, 2, .inl (nA laO))), (am 1, .inl (cI, 18, .inl (nA dgt)))] H := hP
                    have hD : va_D _ [(hm, .inr (6, oM am n pos1 cmp que dsz mad cur stp met bst)), (am 7, .inl (cI, 18, .inl (nA fol1))), (am 6, .inl (cI, 6, .inl (nA wsy1))), (am 8, .inl (cZ, 18, .inl (zA nus1))), (am 9, .inl (cI, 18, .inl (nA fis1))), (am 10, .inl (cI, 18, .inl (nA las1))), (am 3, .inl (cZ, 2, .inl (zA (upz isN w (decide (nus1 0 = true)))))), (am 4, .inl (cI, 2, .inl (nA fiO))), (am 5, .inl (cI, 2, .inl (nA laO))), (am 1, .inl (cI, 18, .inl (nA dgt)))] := hD
                    refine lv_aload_n (pc := 184) hx hb dX8_builds_184 rfl (lv_at hl 0 rfl) ?_
                    refine va_get (pc := 185) (D := D) (ci := 6) (v := .ref (am 4)) (C := RX8) (T := TX8) (N := 30) hx hb hts hinX8 hown hK hP 0 rfl rfl 4 (by decide) lk4 (fun _ h9 => h9) rfl dX8_builds_185 ?_
                    refine lv_iload_n (pc := 188) hx hb dX8_builds_188 rfl (lv_at hl 1 rfl) ?_
                    refine lv_aload_n (pc := 189) hx hb dX8_builds_189 rfl (lv_at hl 0 rfl) ?_
                    refine va_get (pc := 190) (D := D) (ci := 6) (v := .ref (am 9)) (C := RX8) (T := TX8) (N := 30) hx hb hts hinX8 hown hK hP 0 rfl rfl 9 (by decide) lk5 (fun _ h9 => h9) rfl dX8_builds_190 ?_
                    refine lv_iconst (pc := 193) (v := (nI (0))) hx hb dX8_builds_193 (by decide) ?_
                    refine xa_iald (pc := 194) hx hb hK hP 4 0 rfl rfl (by omega) (by omega) dX8_builds_194 ?_
                    refine xa_iast (pc := 195) hx hb hK hP hD hS 7 0 rfl rfl (by omega) (by omega) dX8_builds_195 (fun H locs hP hD hS => ?_)
                    have hP : va_P D vwCl [(hm, .inr (6, oM am n pos1 cmp que dsz mad cur stp met bst)), (am 7, .inl (cI, 18, .inl (nA fol1))), (am 6, .inl (cI, 6, .inl (nA wsy1))), (am 8, .inl (cZ, 18, .inl (zA nus1))), (am 9, .inl (cI, 18, .inl (nA fis1))), (am 10, .inl (cI, 18, .inl (nA las1))), (am 3, .inl (cZ, 2, .inl (zA (upz isN w (decide (nus1 0 = true)))))), (am 4, .inl (cI, 2, .inl (nA (up fiO w (fis1 0))))), (am 5, .inl (cI, 2, .inl (nA laO))), (am 1, .inl (cI, 18, .inl (nA dgt)))] H := hP
                    have hD : va_D _ [(hm, .inr (6, oM am n pos1 cmp que dsz mad cur stp met bst)), (am 7, .inl (cI, 18, .inl (nA fol1))), (am 6, .inl (cI, 6, .inl (nA wsy1))), (am 8, .inl (cZ, 18, .inl (zA nus1))), (am 9, .inl (cI, 18, .inl (nA fis1))), (am 10, .inl (cI, 18, .inl (nA las1))), (am 3, .inl (cZ, 2, .inl (zA (upz isN w (decide (nus1 0 = true)))))), (am 4, .inl (cI, 2, .inl (nA (up fiO w (fis1 0))))), (am 5, .inl (cI, 2, .inl (nA laO))), (am 1, .inl (cI, 18, .inl (nA dgt)))] := hD
                    refine lv_aload_n (pc := 196) hx hb dX8_builds_196 rfl (lv_at hl 0 rfl) ?_
                    refine va_get (pc := 197) (D := D) (ci := 6) (v := .ref (am 5)) (C := RX8) (T := TX8) (N := 30) hx hb hts hinX8 hown hK hP 0 rfl rfl 5 (by decide) lk6 (fun _ h9 => h9) rfl dX8_builds_197 ?_
                    refine lv_iload_n (pc := 200) hx hb dX8_builds_200 rfl (lv_at hl 1 rfl) ?_
                    refine lv_aload_n (pc := 201) hx hb dX8_builds_201 rfl (lv_at hl 0 rfl) ?_
                    refine va_get (pc := 202) (D := D) (ci := 6) (v := .ref (am 10)) (C := RX8) (T := TX8) (N := 30) hx hb hts hinX8 hown hK hP 0 rfl rfl 10 (by decide) lk7 (fun _ h9 => h9) rfl dX8_builds_202 ?_
                    refine lv_iconst (pc := 205) (v := (nI (0))) hx hb dX8_builds_205 (by decide) ?_
                    refine xa_iald (pc := 206) hx hb hK hP 5 0 rfl rfl (by omega) (by omega) dX8_builds_206 ?_
                    refine xa_iast (pc := 207) hx hb hK hP hD hS 8 0 rfl rfl (by omega) (by omega) dX8_builds_207 (fun H locs hP hD hS => ?_)
                    have hP : va_P D vwCl [(hm, .inr (6, oM am n pos1 cmp que dsz mad cur stp met bst)), (am 7, .inl (cI, 18, .inl (nA fol1))), (am 6, .inl (cI, 6, .inl (nA wsy1))), (am 8, .inl (cZ, 18, .inl (zA nus1))), (am 9, .inl (cI, 18, .inl (nA fis1))), (am 10, .inl (cI, 18, .inl (nA las1))), (am 3, .inl (cZ, 2, .inl (zA (upz isN w (decide (nus1 0 = true)))))), (am 4, .inl (cI, 2, .inl (nA (up fiO w (fis1 0))))), (am 5, .inl (cI, 2, .inl (nA (up laO w (las1 0))))), (am 1, .inl (cI, 18, .inl (nA dgt)))] H := hP
                    have hD : va_D _ [(hm, .inr (6, oM am n pos1 cmp que dsz mad cur stp met bst)), (am 7, .inl (cI, 18, .inl (nA fol1))), (am 6, .inl (cI, 6, .inl (nA wsy1))), (am 8, .inl (cZ, 18, .inl (zA nus1))), (am 9, .inl (cI, 18, .inl (nA fis1))), (am 10, .inl (cI, 18, .inl (nA las1))), (am 3, .inl (cZ, 2, .inl (zA (upz isN w (decide (nus1 0 = true)))))), (am 4, .inl (cI, 2, .inl (nA (up fiO w (fis1 0))))), (am 5, .inl (cI, 2, .inl (nA (up laO w (las1 0))))), (am 1, .inl (cI, 18, .inl (nA dgt)))] := hD
                    have hP9 : va_P D vwCl [(hm, .inr (6, oM am n pos1 cmp que dsz mad cur stp met bst)), (am 7, .inl (cI, 18, .inl (nA fol1))), (am 6, .inl (cI, 6, .inl (nA wsy1))), (am 8, .inl (cZ, 18, .inl (zA nus1))), (am 9, .inl (cI, 18, .inl (nA fis1))), (am 10, .inl (cI, 18, .inl (nA las1))), (am 3, .inl (cZ, 2, .inl (zA ((upz isN w (decide (nus1 0 = true))))))), (am 4, .inl (cI, 2, .inl (nA ((up fiO w (fis1 0)))))), (am 5, .inl (cI, 2, .inl (nA ((up laO w (las1 0)))))), (am 1, .inl (cI, 18, .inl (nA dgt)))] H := hP.sub [0, 1, 2, 3, 4, 5, 6, 7, 8, 9] rfl
                    have hD9 : va_D _ [(hm, .inr (6, oM am n pos1 cmp que dsz mad cur stp met bst)), (am 7, .inl (cI, 18, .inl (nA fol1))), (am 6, .inl (cI, 6, .inl (nA wsy1))), (am 8, .inl (cZ, 18, .inl (zA nus1))), (am 9, .inl (cI, 18, .inl (nA fis1))), (am 10, .inl (cI, 18, .inl (nA las1))), (am 3, .inl (cZ, 2, .inl (zA ((upz isN w (decide (nus1 0 = true))))))), (am 4, .inl (cI, 2, .inl (nA ((up fiO w (fis1 0)))))), (am 5, .inl (cI, 2, .inl (nA ((up laO w (las1 0)))))), (am 1, .inl (cI, 18, .inl (nA dgt)))] := hD.sub [0, 1, 2, 3, 4, 5, 6, 7, 8, 9] (by decide) rfl
                    exact W.vret (pc := 208) hx hb hr (fun t ht hW => ⟨⟨(pos1, fol1, wsy1, nus1, fis1, las1, upz isN w (decide (nus1 0 = true)), up fiO w (fis1 0), up laO w (las1 0)), rfl, ⟨AR_of2 hv i2, fun y9 hu1 hu2 => ⟨fun p hp => i3 (9 * y9 + p) (by omega) (by omega), fun c hc => i4 (3 * y9 + c) (by omega) (by omega), upz_n _ hu2, up_n _ hu2, up_n _ hu2⟩⟩, by rw [ht]; exact hP9, va_K.moved hW.alike hK, hD9⟩, hS.F ht⟩) hS.2.2 dX8_builds_208
                  · have hl : lv_has ls 4 [(0, .ref hm), (1, .int (nI w)), (2, .int (nI o)), (3, .int (nI (k - 1)))] := by have hq9 : (nI k - 1) = (nI (k - 1)) := (nI_dec1 c65); first | (rw [← hq9]; exact hl) | (rw [hq9] at hl; exact hl)
                    have hk : k - 1 < dc v := by omega
                    have hdk := hmd.2 (k - 1) (by omega)
                    have hq := tv.q hk
                    have haj : AJ v w (k - 1 + 1) o nus1 fis1 las1 fol1 wsy1 pos1 := by rw [show k - 1 + 1 = k from by omega]; exact i2
                    refine lv_aload_n (pc := 68) hx hb dX8_builds_68 rfl (lv_at hl 0 rfl) ?_
                    refine va_get (pc := 69) (D := D) (ci := 6) (v := .ref (am 1)) (C := RX8) (T := TX8) (N := 30) hx hb hts hinX8 hown hK hP 0 rfl rfl 1 (by decide) lk8 (fun _ h9 => h9) rfl dX8_builds_69 ?_
                    refine lv_iload_n (pc := 72) hx hb dX8_builds_72 rfl (lv_at hl 3 rfl) ?_
                    refine xa_iald (pc := 73) hx hb hK hP 9 0 rfl rfl (by omega) (by omega) dX8_builds_73 ?_
                    refine lv_bipush (pc := 74) (v := (nI (6))) hx hb dX8_builds_74 (by decide) ?_
                    refine xn_icmp_ge (pc := 76) (tgt := 97) hx hb (by omega) (by omega) dX8_builds_76 (by decide) (fun c76 => ?_) (fun c76 => ?_)
                    · refine lv_aload_n (pc := 97) hx hb dX8_builds_97 rfl (lv_at hl 0 rfl) ?_
                      refine va_get (pc := 98) (D := D) (ci := 6) (v := .ref (am 1)) (C := RX8) (T := TX8) (N := 30) hx hb hts hinX8 hown hK hP 0 rfl rfl 1 (by decide) lk8 (fun _ h9 => h9) rfl dX8_builds_98 ?_
                      refine lv_iload_n (pc := 101) hx hb dX8_builds_101 rfl (lv_at hl 3 rfl) ?_
                      refine xa_iald (pc := 102) hx hb hK hP 9 0 rfl rfl (by omega) (by omega) dX8_builds_102 ?_
                      refine lv_bipush (pc := 103) (v := (nI (8))) hx hb dX8_builds_103 (by decide) ?_
                      refine xn_icmp_ne (pc := 105) (tgt := 141) hx hb (by omega) (by omega) dX8_builds_105 (by decide) (fun c105 => ?_) (fun c105 => ?_)
                      · have hs2 := AJ_two2 hv hk (by omega) (by omega) haj
                        refine lv_iinc (pc := 141) (v := (nI (o - 1))) (lv' := [(2, .int (nI (o - 1))), (0, .ref hm), (1, .int (nI w)), (3, .int (nI (k - 1)))]) hx hb dX8_builds_141 hl (k := 2) rfl (nI_decr (by omega)) (by decide) rfl (fun ls hl => ?_)
                        refine lv_aload_n (pc := 144) hx hb dX8_builds_144 rfl (lv_at hl 1 rfl) ?_
                        refine lv_iload_n (pc := 145) hx hb dX8_builds_145 rfl (lv_at hl 2 rfl) ?_
                        refine lv_iload_n (pc := 146) hx hb dX8_builds_146 rfl (lv_at hl 0 rfl) ?_
                        refine lv_aload_n (pc := 147) hx hb dX8_builds_147 rfl (lv_at hl 1 rfl) ?_
                        refine va_get (pc := 148) (D := D) (ci := 6) (v := .ref (am 1)) (C := RX8) (T := TX8) (N := 30) hx hb hts hinX8 hown hK hP 0 rfl rfl 1 (by decide) lk8 (fun _ h9 => h9) rfl dX8_builds_148 ?_
                        refine lv_iload_n (pc := 151) hx hb dX8_builds_151 rfl (lv_at hl 3 rfl) ?_
                        refine xa_iald (pc := 152) hx hb hK hP 9 0 rfl rfl (by omega) (by omega) dX8_builds_152 ?_
                        refine lv_bipush (pc := 153) (v := (nI (6))) hx hb dX8_builds_153 (by decide) ?_
                        refine xn_icmp_ne (pc := 155) (tgt := 162) hx hb (by omega) (by omega) dX8_builds_155 (by decide) (fun c155 => ?_) (fun c155 => ?_)
                        · have d6 : ¬ dg v (k - 1) = 6 := by omega
                          refine lv_iconst (pc := 162) (v := (nI (0))) hx hb dX8_builds_162 (by decide) ?_
                          refine xm_callv (pc := 163) (wc := [(hm, .inr (6, oM am n pos1 cmp que dsz mad cur stp met bst)), (am 7, .inl (cI, 18, .inl (nA fol1))), (am 6, .inl (cI, 6, .inl (nA wsy1))), (am 8, .inl (cZ, 18, .inl (zA nus1))), (am 9, .inl (cI, 18, .inl (nA fis1))), (am 10, .inl (cI, 18, .inl (nA las1)))]) (wr := [(am 3, .inl (cZ, 2, .inl (zA isN))), (am 4, .inl (cI, 2, .inl (nA fiO))), (am 5, .inl (cI, 2, .inl (nA laO))), (am 1, .inl (cI, 18, .inl (nA dgt)))]) (va_runV (As := [.int (nI w), .int (nI (o - 1)), .int (nI 0)]) (rest := []) ⟨hx, hb, hml, hown, hts⟩ (c_X8_join l D cI cL cZ H.size hm am n pos1 cmp que dsz mad cur stp met bst fol1 wsy1 nus1 fis1 las1 v (k - 1) w (o - 1) false hv hk hw2 (by rw [show o - 1 + 1 = o from by omega]; exact haj) (by first | exact ⟨fun _ => d6, fun _ => rfl⟩ | exact ⟨fun q => (by cases q), fun q => absurd q d6⟩) (by omega)) (cwV 3 hts gX8_builds_X8_join rfl rfl rfl (by decide +kernel) ⟨Nat.le_of_ble_eq_true rfl, Nat.le_of_ble_eq_true rfl⟩) (mP_V (wc := [(hm, .inr (6, oM am n pos1 cmp que dsz mad cur stp met bst)), (am 7, .inl (cI, 18, .inl (nA fol1))), (am 6, .inl (cI, 6, .inl (nA wsy1))), (am 8, .inl (cZ, 18, .inl (zA nus1))), (am 9, .inl (cI, 18, .inl (nA fis1))), (am 10, .inl (cI, 18, .inl (nA las1)))]) (ci := 6) (q0 := 0) hK hP hD [0, 1, 2, 3, 4, 5] (by decide) rfl rfl rfl) rfl rfl hl.1 rfl (lv_room (Nat.le_of_ble_eq_true rfl)) dX8_builds_163 ⟨Nat.zero_le _, Nat.zero_le _⟩) hP hD hS hA [0, 1, 2, 3, 4, 5] [6, 7, 8, 9] rfl rfl (by decide) (by decide) (fun u H locs hw hP hD hS => ?_)
                          obtain ⟨pos2_163, fol2_163, wsy2_163, nus2_163, fis2_163, las2_163⟩ := u
                          have hP : va_P D vwCl [(am 3, .inl (cZ, 2, .inl (zA isN))), (am 4, .inl (cI, 2, .inl (nA fiO))), (am 5, .inl (cI, 2, .inl (nA laO))), (am 1, .inl (cI, 18, .inl (nA dgt))), (hm, .inr (6, oM am n pos2_163 cmp que dsz mad cur stp met bst)), (am 7, .inl (cI, 18, .inl (nA fol2_163))), (am 6, .inl (cI, 6, .inl (nA wsy2_163))), (am 8, .inl (cZ, 18, .inl (zA nus2_163))), (am 9, .inl (cI, 18, .inl (nA fis2_163))), (am 10, .inl (cI, 18, .inl (nA las2_163)))] H := hP
                          have hD : va_D _ [(am 3, .inl (cZ, 2, .inl (zA isN))), (am 4, .inl (cI, 2, .inl (nA fiO))), (am 5, .inl (cI, 2, .inl (nA laO))), (am 1, .inl (cI, 18, .inl (nA dgt))), (hm, .inr (6, oM am n pos2_163 cmp que dsz mad cur stp met bst)), (am 7, .inl (cI, 18, .inl (nA fol2_163))), (am 6, .inl (cI, 6, .inl (nA wsy2_163))), (am 8, .inl (cZ, 18, .inl (zA nus2_163))), (am 9, .inl (cI, 18, .inl (nA fis2_163))), (am 10, .inl (cI, 18, .inl (nA las2_163)))] := hD
                          try dsimp only at hw
                          have hw9 := hw
                          refine lv_iinc (pc := 166) (v := (nI (k - 1) - 1)) (lv' := [(3, .int (nI (k - 1) - 1)), (2, .int (nI (o - 1))), (0, .ref hm), (1, .int (nI w))]) hx hb dX8_builds_166 hl (k := 3) rfl (nI_decm _) (by decide) rfl (fun ls hl => ?_)
                          refine lv_goto (pc := 169) (tgt := 64) hx hb dX8_builds_169 (by decide) ?_
                          exact ih64 (k - 1) (o - 1) fol2_163 wsy2_163 nus2_163 fis2_163 las2_163 pos2_163 ls _ _ (by omega) (by omega) (by first | exact hw9.1 | exact AJ_star hv hk d8 haj (fun p _ => hw126.1 p)) (by first | exact (fun j h1 h2 => (hw9.2.1 j h1 h2).trans (i3 j h1 h2)) | exact (fun j h1 h2 => (hw126.2 j h2).trans (i3 j h1 h2))) (by first | exact (fun j h1 h2 => (hw9.2.2 j h1 h2).trans (i4 j h1 h2)) | exact i4) (lv_sub hl [2, 3, 1, 0] rfl) (hP.sub [4, 5, 6, 7, 8, 9, 0, 1, 2, 3] rfl) (hD.sub [4, 5, 6, 7, 8, 9, 0, 1, 2, 3] (by decide) rfl) hS
                        · have d6 : dg v (k - 1) = 6 := by omega
                          refine lv_iconst (pc := 158) (v := (nI (1))) hx hb dX8_builds_158 (by decide) ?_
                          refine lv_goto (pc := 159) (tgt := 163) hx hb dX8_builds_159 (by decide) ?_
                          refine xm_callv (pc := 163) (wc := [(hm, .inr (6, oM am n pos1 cmp que dsz mad cur stp met bst)), (am 7, .inl (cI, 18, .inl (nA fol1))), (am 6, .inl (cI, 6, .inl (nA wsy1))), (am 8, .inl (cZ, 18, .inl (zA nus1))), (am 9, .inl (cI, 18, .inl (nA fis1))), (am 10, .inl (cI, 18, .inl (nA las1)))]) (wr := [(am 3, .inl (cZ, 2, .inl (zA isN))), (am 4, .inl (cI, 2, .inl (nA fiO))), (am 5, .inl (cI, 2, .inl (nA laO))), (am 1, .inl (cI, 18, .inl (nA dgt)))]) (va_runV (As := [.int (nI w), .int (nI (o - 1)), .int (nI 1)]) (rest := []) ⟨hx, hb, hml, hown, hts⟩ (c_X8_join l D cI cL cZ H.size hm am n pos1 cmp que dsz mad cur stp met bst fol1 wsy1 nus1 fis1 las1 v (k - 1) w (o - 1) true hv hk hw2 (by rw [show o - 1 + 1 = o from by omega]; exact haj) (by first | exact ⟨fun _ => d6, fun _ => rfl⟩ | exact ⟨fun q => (by cases q), fun q => absurd q d6⟩) (by omega)) (cwV 3 hts gX8_builds_X8_join rfl rfl rfl (by decide +kernel) ⟨Nat.le_of_ble_eq_true rfl, Nat.le_of_ble_eq_true rfl⟩) (mP_V (wc := [(hm, .inr (6, oM am n pos1 cmp que dsz mad cur stp met bst)), (am 7, .inl (cI, 18, .inl (nA fol1))), (am 6, .inl (cI, 6, .inl (nA wsy1))), (am 8, .inl (cZ, 18, .inl (zA nus1))), (am 9, .inl (cI, 18, .inl (nA fis1))), (am 10, .inl (cI, 18, .inl (nA las1)))]) (ci := 6) (q0 := 0) hK hP hD [0, 1, 2, 3, 4, 5] (by decide) rfl rfl rfl) rfl rfl hl.1 rfl (lv_room (Nat.le_of_ble_eq_true rfl)) dX8_builds_163 ⟨Nat.zero_le _, Nat.zero_le _⟩) hP hD hS hA [0, 1, 2, 3, 4, 5] [6, 7, 8, 9] rfl rfl (by decide) (by decide) (fun u H locs hw hP hD hS => ?_)
                          obtain ⟨pos2_163, fol2_163, wsy2_163, nus2_163, fis2_163, las2_163⟩ := u
                          have hP : va_P D vwCl [(am 3, .inl (cZ, 2, .inl (zA isN))), (am 4, .inl (cI, 2, .inl (nA fiO))), (am 5, .inl (cI, 2, .inl (nA laO))), (am 1, .inl (cI, 18, .inl (nA dgt))), (hm, .inr (6, oM am n pos2_163 cmp que dsz mad cur stp met bst)), (am 7, .inl (cI, 18, .inl (nA fol2_163))), (am 6, .inl (cI, 6, .inl (nA wsy2_163))), (am 8, .inl (cZ, 18, .inl (zA nus2_163))), (am 9, .inl (cI, 18, .inl (nA fis2_163))), (am 10, .inl (cI, 18, .inl (nA las2_163)))] H := hP
                          have hD : va_D _ [(am 3, .inl (cZ, 2, .inl (zA isN))), (am 4, .inl (cI, 2, .inl (nA fiO))), (am 5, .inl (cI, 2, .inl (nA laO))), (am 1, .inl (cI, 18, .inl (nA dgt))), (hm, .inr (6, oM am n pos2_163 cmp que dsz mad cur stp met bst)), (am 7, .inl (cI, 18, .inl (nA fol2_163))), (am 6, .inl (cI, 6, .inl (nA wsy2_163))), (am 8, .inl (cZ, 18, .inl (zA nus2_163))), (am 9, .inl (cI, 18, .inl (nA fis2_163))), (am 10, .inl (cI, 18, .inl (nA las2_163)))] := hD
                          try dsimp only at hw
                          have hw9 := hw
                          refine lv_iinc (pc := 166) (v := (nI (k - 1) - 1)) (lv' := [(3, .int (nI (k - 1) - 1)), (2, .int (nI (o - 1))), (0, .ref hm), (1, .int (nI w))]) hx hb dX8_builds_166 hl (k := 3) rfl (nI_decm _) (by decide) rfl (fun ls hl => ?_)
                          refine lv_goto (pc := 169) (tgt := 64) hx hb dX8_builds_169 (by decide) ?_
                          exact ih64 (k - 1) (o - 1) fol2_163 wsy2_163 nus2_163 fis2_163 las2_163 pos2_163 ls _ _ (by omega) (by omega) (by first | exact hw9.1 | exact AJ_star hv hk d8 haj (fun p _ => hw126.1 p)) (by first | exact (fun j h1 h2 => (hw9.2.1 j h1 h2).trans (i3 j h1 h2)) | exact (fun j h1 h2 => (hw126.2 j h2).trans (i3 j h1 h2))) (by first | exact (fun j h1 h2 => (hw9.2.2 j h1 h2).trans (i4 j h1 h2)) | exact i4) (lv_sub hl [2, 3, 1, 0] rfl) (hP.sub [4, 5, 6, 7, 8, 9, 0, 1, 2, 3] rfl) (hD.sub [4, 5, 6, 7, 8, 9, 0, 1, 2, 3] (by decide) rfl) hS
                      · have d8 : dg v (k - 1) = 8 := by omega
                        have hs2 := AJ_star2 hv hk d8 haj
                        refine lv_aload_n (pc := 108) hx hb dX8_builds_108 rfl (lv_at hl 0 rfl) ?_
                        refine lv_iload_n (pc := 109) hx hb dX8_builds_109 rfl (lv_at hl 1 rfl) ?_
                        refine lv_aload_n (pc := 110) hx hb dX8_builds_110 rfl (lv_at hl 0 rfl) ?_
                        refine va_get (pc := 111) (D := D) (ci := 6) (v := .ref (am 10)) (C := RX8) (T := TX8) (N := 30) hx hb hts hinX8 hown hK hP 0 rfl rfl 10 (by decide) lk7 (fun _ h9 => h9) rfl dX8_builds_111 ?_
                        refine lv_iload_n (pc := 114) hx hb dX8_builds_114 rfl (lv_at hl 2 rfl) ?_
                        refine lv_iconst (pc := 115) (v := (nI (1))) hx hb dX8_builds_115 (by decide) ?_
                        refine xn_isub (pc := 116) hx hb (by omega) dX8_builds_116 ?_
                        refine xa_iald (pc := 117) hx hb hK hP 5 0 rfl rfl (by omega) (by omega) dX8_builds_117 ?_
                        refine lv_aload_n (pc := 118) hx hb dX8_builds_118 rfl (lv_at hl 0 rfl) ?_
                        refine va_get (pc := 119) (D := D) (ci := 6) (v := .ref (am 9)) (C := RX8) (T := TX8) (N := 30) hx hb hts hinX8 hown hK hP 0 rfl rfl 9 (by decide) lk5 (fun _ h9 => h9) rfl dX8_builds_119 ?_
                        refine lv_iload_n (pc := 122) hx hb dX8_builds_122 rfl (lv_at hl 2 rfl) ?_
                        refine lv_iconst (pc := 123) (v := (nI (1))) hx hb dX8_builds_123 (by decide) ?_
                        refine xn_isub (pc := 124) hx hb (by omega) dX8_builds_124 ?_
                        refine xa_iald (pc := 125) hx hb hK hP 4 0 rfl rfl (by omega) (by omega) dX8_builds_125 ?_
                        refine xm_callv (pc := 126) (wc := [(hm, .inr (6, oM am n pos1 cmp que dsz mad cur stp met bst)), (am 7, .inl (cI, 18, .inl (nA fol1)))]) (wr := [(am 6, .inl (cI, 6, .inl (nA wsy1))), (am 8, .inl (cZ, 18, .inl (zA nus1))), (am 9, .inl (cI, 18, .inl (nA fis1))), (am 10, .inl (cI, 18, .inl (nA las1))), (am 3, .inl (cZ, 2, .inl (zA isN))), (am 4, .inl (cI, 2, .inl (nA fiO))), (am 5, .inl (cI, 2, .inl (nA laO))), (am 1, .inl (cI, 18, .inl (nA dgt)))]) (va_runV (As := [.int (nI w), .int (nI (las1 (o - 1))), .int (nI (fis1 (o - 1)))]) (rest := []) ⟨hx, hb, hml, hown, hts⟩ (c_X8_link l D cI cL cZ H.size hm am n pos1 cmp que dsz mad cur stp met bst fol1 w (las1 (o - 1)) (fis1 (o - 1)) hw2 hps.1 hs2.2) (cwV 3 hts gX8_builds_X8_link rfl rfl rfl (by decide +kernel) ⟨Nat.le_of_ble_eq_true rfl, Nat.le_of_ble_eq_true rfl⟩) (mP_V (wc := [(hm, .inr (6, oM am n pos1 cmp que dsz mad cur stp met bst)), (am 7, .inl (cI, 18, .inl (nA fol1)))]) (ci := 6) (q0 := 0) hK hP hD [0, 1] (by decide) rfl rfl rfl) rfl rfl hl.1 rfl (lv_room (Nat.le_of_ble_eq_true rfl)) dX8_builds_126 ⟨Nat.zero_le _, Nat.zero_le _⟩) hP hD hS hA [0, 1] [2, 3, 4, 5, 6, 7, 8, 9] rfl rfl (by decide) (by decide) (fun u H locs hw hP hD hS => ?_)
                        obtain ⟨fol2_126, rfl⟩ : ∃ z, z = u := ⟨_, rfl⟩
                        have hP : va_P D vwCl [(am 6, .inl (cI, 6, .inl (nA wsy1))), (am 8, .inl (cZ, 18, .inl (zA nus1))), (am 9, .inl (cI, 18, .inl (nA fis1))), (am 10, .inl (cI, 18, .inl (nA las1))), (am 3, .inl (cZ, 2, .inl (zA isN))), (am 4, .inl (cI, 2, .inl (nA fiO))), (am 5, .inl (cI, 2, .inl (nA laO))), (am 1, .inl (cI, 18, .inl (nA dgt))), (hm, .inr (6, oM am n pos1 cmp que dsz mad cur stp met bst)), (am 7, .inl (cI, 18, .inl (nA fol2_126)))] H := hP
                        have hD : va_D _ [(am 6, .inl (cI, 6, .inl (nA wsy1))), (am 8, .inl (cZ, 18, .inl (zA nus1))), (am 9, .inl (cI, 18, .inl (nA fis1))), (am 10, .inl (cI, 18, .inl (nA las1))), (am 3, .inl (cZ, 2, .inl (zA isN))), (am 4, .inl (cI, 2, .inl (nA fiO))), (am 5, .inl (cI, 2, .inl (nA laO))), (am 1, .inl (cI, 18, .inl (nA dgt))), (hm, .inr (6, oM am n pos1 cmp que dsz mad cur stp met bst)), (am 7, .inl (cI, 18, .inl (nA fol2_126)))] := hD
                        try dsimp only at hw
                        have hw126 := hw
                        refine lv_aload_n (pc := 129) hx hb dX8_builds_129 rfl (lv_at hl 0 rfl) ?_
                        refine va_get (pc := 130) (D := D) (ci := 6) (v := .ref (am 8)) (C := RX8) (T := TX8) (N := 30) hx hb hts hinX8 hown hK hP 8 rfl rfl 8 (by decide) lk3 (fun _ h9 => h9) rfl dX8_builds_130 ?_
                        refine lv_iload_n (pc := 133) hx hb dX8_builds_133 rfl (lv_at hl 2 rfl) ?_
                        refine lv_iconst (pc := 134) (v := (nI (1))) hx hb dX8_builds_134 (by decide) ?_
                        refine xn_isub (pc := 135) hx hb (by omega) dX8_builds_135 ?_
                        refine lv_iconst (pc := 136) (v := (nI (1))) hx hb dX8_builds_136 (by decide) ?_
                        refine W.eq (g2 := F0 mG 137 ls (.int (nI (pN True)) :: .int (nI (o - 1)) :: .ref (am 8) :: [])) rfl ?_
                        refine xa_zast (pc := 137) hx hb hK hP hD hS 1 2 rfl rfl (by omega) (by omega) dX8_builds_137 (fun H locs hP hD hS => ?_)
                        have hP : va_P D vwCl [(am 6, .inl (cI, 6, .inl (nA wsy1))), (am 8, .inl (cZ, 18, .inl (zA (upz nus1 (o - 1) (decide (True)))))), (am 9, .inl (cI, 18, .inl (nA fis1))), (am 10, .inl (cI, 18, .inl (nA las1))), (am 3, .inl (cZ, 2, .inl (zA isN))), (am 4, .inl (cI, 2, .inl (nA fiO))), (am 5, .inl (cI, 2, .inl (nA laO))), (am 1, .inl (cI, 18, .inl (nA dgt))), (hm, .inr (6, oM am n pos1 cmp que dsz mad cur stp met bst)), (am 7, .inl (cI, 18, .inl (nA fol2_126)))] H := hP
                        have hD : va_D _ [(am 6, .inl (cI, 6, .inl (nA wsy1))), (am 8, .inl (cZ, 18, .inl (zA (upz nus1 (o - 1) (decide (True)))))), (am 9, .inl (cI, 18, .inl (nA fis1))), (am 10, .inl (cI, 18, .inl (nA las1))), (am 3, .inl (cZ, 2, .inl (zA isN))), (am 4, .inl (cI, 2, .inl (nA fiO))), (am 5, .inl (cI, 2, .inl (nA laO))), (am 1, .inl (cI, 18, .inl (nA dgt))), (hm, .inr (6, oM am n pos1 cmp que dsz mad cur stp met bst)), (am 7, .inl (cI, 18, .inl (nA fol2_126)))] := hD
                        refine lv_goto (pc := 138) (tgt := 166) hx hb dX8_builds_138 (by decide) ?_
                        refine lv_iinc (pc := 166) (v := (nI (k - 1) - 1)) (lv' := [(3, .int (nI (k - 1) - 1)), (0, .ref hm), (1, .int (nI w)), (2, .int (nI o))]) hx hb dX8_builds_166 hl (k := 3) rfl (nI_decm _) (by decide) rfl (fun ls hl => ?_)
                        refine lv_goto (pc := 169) (tgt := 64) hx hb dX8_builds_169 (by decide) ?_
                        exact ih64 (k - 1) o fol2_126 wsy1 (upz nus1 (o - 1) (decide (True))) fis1 las1 pos1 ls _ _ (by omega) (by omega) (by first | exact hw9.1 | exact AJ_star hv hk d8 haj (fun p _ => hw126.1 p)) (by first | exact (fun j h1 h2 => (hw9.2.1 j h1 h2).trans (i3 j h1 h2)) | exact (fun j h1 h2 => (hw126.2 j h2).trans (i3 j h1 h2))) (by first | exact (fun j h1 h2 => (hw9.2.2 j h1 h2).trans (i4 j h1 h2)) | exact i4) (lv_sub hl [1, 2, 3, 0] rfl) (hP.sub [8, 9, 0, 1, 2, 3, 4, 5, 6, 7] rfl) (hD.sub [8, 9, 0, 1, 2, 3, 4, 5, 6, 7] (by decide) rfl) hS
                    · refine lv_aload_n (pc := 79) hx hb dX8_builds_79 rfl (lv_at hl 0 rfl) ?_
                      refine lv_iload_n (pc := 80) hx hb dX8_builds_80 rfl (lv_at hl 1 rfl) ?_
                      refine lv_iload_n (pc := 81) hx hb dX8_builds_81 rfl (lv_at hl 2 rfl) ?_
                      refine lv_aload_n (pc := 82) hx hb dX8_builds_82 rfl (lv_at hl 0 rfl) ?_
                      refine va_get (pc := 83) (D := D) (ci := 6) (v := .ref (am 1)) (C := RX8) (T := TX8) (N := 30) hx hb hts hinX8 hown hK hP 0 rfl rfl 1 (by decide) lk8 (fun _ h9 => h9) rfl dX8_builds_83 ?_
                      refine lv_iload_n (pc := 86) hx hb dX8_builds_86 rfl (lv_at hl 3 rfl) ?_
                      refine xa_iald (pc := 87) hx hb hK hP 9 0 rfl rfl (by omega) (by omega) dX8_builds_87 ?_
                      refine xm_callv (pc := 88) (wc := [(hm, .inr (6, oM am n pos1 cmp que dsz mad cur stp met bst)), (am 7, .inl (cI, 18, .inl (nA fol1))), (am 6, .inl (cI, 6, .inl (nA wsy1))), (am 8, .inl (cZ, 18, .inl (zA nus1))), (am 9, .inl (cI, 18, .inl (nA fis1))), (am 10, .inl (cI, 18, .inl (nA las1)))]) (wr := [(am 3, .inl (cZ, 2, .inl (zA isN))), (am 4, .inl (cI, 2, .inl (nA fiO))), (am 5, .inl (cI, 2, .inl (nA laO))), (am 1, .inl (cI, 18, .inl (nA dgt)))]) (va_runV (As := [.int (nI w), .int (nI o), .int (nI (dgt (k - 1)))]) (rest := []) ⟨hx, hb, hml, hown, hts⟩ (c_X8_pushLeaf l D cI cL cZ H.size hm am n pos1 cmp que dsz mad cur stp met bst fol1 wsy1 nus1 fis1 las1 v (k - 1) w o (dgt (k - 1)) hv hk hw2 haj hdk (by omega)) (cwV 3 hts gX8_builds_X8_pushLeaf rfl rfl rfl (by decide +kernel) ⟨Nat.le_of_ble_eq_true rfl, Nat.le_of_ble_eq_true rfl⟩) (mP_V (wc := [(hm, .inr (6, oM am n pos1 cmp que dsz mad cur stp met bst)), (am 7, .inl (cI, 18, .inl (nA fol1))), (am 6, .inl (cI, 6, .inl (nA wsy1))), (am 8, .inl (cZ, 18, .inl (zA nus1))), (am 9, .inl (cI, 18, .inl (nA fis1))), (am 10, .inl (cI, 18, .inl (nA las1)))]) (ci := 6) (q0 := 0) hK hP hD [0, 1, 2, 3, 4, 5] (by decide) rfl rfl rfl) rfl rfl hl.1 rfl (lv_room (Nat.le_of_ble_eq_true rfl)) dX8_builds_88 ⟨Nat.zero_le _, Nat.zero_le _⟩) hP hD hS hA [0, 1, 2, 3, 4, 5] [6, 7, 8, 9] rfl rfl (by decide) (by decide) (fun u H locs hw hP hD hS => ?_)
                      obtain ⟨pos2_88, fol2_88, wsy2_88, nus2_88, fis2_88, las2_88⟩ := u
                      have hP : va_P D vwCl [(am 3, .inl (cZ, 2, .inl (zA isN))), (am 4, .inl (cI, 2, .inl (nA fiO))), (am 5, .inl (cI, 2, .inl (nA laO))), (am 1, .inl (cI, 18, .inl (nA dgt))), (hm, .inr (6, oM am n pos2_88 cmp que dsz mad cur stp met bst)), (am 7, .inl (cI, 18, .inl (nA fol2_88))), (am 6, .inl (cI, 6, .inl (nA wsy2_88))), (am 8, .inl (cZ, 18, .inl (zA nus2_88))), (am 9, .inl (cI, 18, .inl (nA fis2_88))), (am 10, .inl (cI, 18, .inl (nA las2_88)))] H := hP
                      have hD : va_D _ [(am 3, .inl (cZ, 2, .inl (zA isN))), (am 4, .inl (cI, 2, .inl (nA fiO))), (am 5, .inl (cI, 2, .inl (nA laO))), (am 1, .inl (cI, 18, .inl (nA dgt))), (hm, .inr (6, oM am n pos2_88 cmp que dsz mad cur stp met bst)), (am 7, .inl (cI, 18, .inl (nA fol2_88))), (am 6, .inl (cI, 6, .inl (nA wsy2_88))), (am 8, .inl (cZ, 18, .inl (zA nus2_88))), (am 9, .inl (cI, 18, .inl (nA fis2_88))), (am 10, .inl (cI, 18, .inl (nA las2_88)))] := hD
                      try dsimp only at hw
                      have hw9 := hw
                      refine lv_iinc (pc := 91) (v := (nI (o + 1))) (lv' := [(2, .int (nI (o + 1))), (0, .ref hm), (1, .int (nI w)), (3, .int (nI (k - 1)))]) hx hb dX8_builds_91 hl (k := 2) rfl (nI_incr _) (by decide) rfl (fun ls hl => ?_)
                      refine lv_goto (pc := 94) (tgt := 166) hx hb dX8_builds_94 (by decide) ?_
                      refine lv_iinc (pc := 166) (v := (nI (k - 1) - 1)) (lv' := [(3, .int (nI (k - 1) - 1)), (2, .int (nI (o + 1))), (0, .ref hm), (1, .int (nI w))]) hx hb dX8_builds_166 hl (k := 3) rfl (nI_decm _) (by decide) rfl (fun ls hl => ?_)
                      refine lv_goto (pc := 169) (tgt := 64) hx hb dX8_builds_169 (by decide) ?_
                      exact ih64 (k - 1) (o + 1) fol2_88 wsy2_88 nus2_88 fis2_88 las2_88 pos2_88 ls _ _ (by omega) (by omega) (by first | exact hw9.1 | exact AJ_star hv hk d8 haj (fun p _ => hw126.1 p)) (by first | exact (fun j h1 h2 => (hw9.2.1 j h1 h2).trans (i3 j h1 h2)) | exact (fun j h1 h2 => (hw126.2 j h2).trans (i3 j h1 h2))) (by first | exact (fun j h1 h2 => (hw9.2.2 j h1 h2).trans (i4 j h1 h2)) | exact i4) (lv_sub hl [2, 3, 1, 0] rfl) (hP.sub [4, 5, 6, 7, 8, 9, 0, 1, 2, 3] rfl) (hD.sub [4, 5, 6, 7, 8, 9, 0, 1, 2, 3] (by decide) rfl) hS
              have hl : lv_has ls 4 [(3, .int (nI (dc v) - 1)), (2, .int (nI 0)), (0, .ref hm), (1, .int (nI w))] := by have hq9 : (nI (n - 1)) = (nI (dc v) - 1) := ((by rw [hn]; exact (nI_dec1 (by omega)).symm)); first | (rw [← hq9]; exact hl) | (rw [hq9] at hl; exact hl)
              exact loop64 (_ + 1) (dc v) 0 g gw nus fis las 0 ls _ _ (Nat.lt_succ_self _) (Nat.le_refl _) (AJ_0 (fun q hq => a2 q (by omega)) (fun q hq => b2 q (by omega))) a3 b3 (lv_sub hl [2, 3, 1, 0] rfl) (hP.sub [0, 1, 2, 3, 4, 5, 6, 7, 8, 9] rfl) (hD.sub [0, 1, 2, 3, 4, 5, 6, 7, 8, 9] (by decide) rfl) hS
            · refine lv_aload_n (pc := 38) hx hb dX8_builds_38 rfl (lv_at hl 0 rfl) ?_
              refine va_get (pc := 39) (D := D) (ci := 6) (v := .ref (am 6)) (C := RX8) (T := TX8) (N := 30) hx hb hts hinX8 hown hK hP 0 rfl rfl 6 (by decide) lk9 (fun _ h9 => h9) rfl dX8_builds_39 ?_
              refine lv_iconst (pc := 42) (v := (nI (3))) hx hb dX8_builds_42 (by decide) ?_
              refine lv_iload_n (pc := 43) hx hb dX8_builds_43 rfl (lv_at hl 1 rfl) ?_
              refine xn_imul (pc := 44) hx hb  dX8_builds_44 ?_
              refine lv_iload_n (pc := 45) hx hb dX8_builds_45 rfl (lv_at hl 2 rfl) ?_
              refine xn_iadd (pc := 46) hx hb  dX8_builds_46 ?_
              refine lv_iconst (pc := 47) (v := (nI (0))) hx hb dX8_builds_47 (by decide) ?_
              refine xa_iast (pc := 48) hx hb hK hP hD hS 2 0 rfl rfl (by omega) (by omega) dX8_builds_48 (fun H locs hP hD hS => ?_)
              have hP : va_P D vwCl [(hm, .inr (6, oM am n 0 cmp que dsz mad cur stp met bst)), (am 7, .inl (cI, 18, .inl (nA g))), (am 6, .inl (cI, 6, .inl (nA (up gw ((3 * w) + c) 0)))), (am 8, .inl (cZ, 18, .inl (zA nus))), (am 9, .inl (cI, 18, .inl (nA fis))), (am 10, .inl (cI, 18, .inl (nA las))), (am 3, .inl (cZ, 2, .inl (zA isN))), (am 4, .inl (cI, 2, .inl (nA fiO))), (am 5, .inl (cI, 2, .inl (nA laO))), (am 1, .inl (cI, 18, .inl (nA dgt)))] H := hP
              have hD : va_D _ [(hm, .inr (6, oM am n 0 cmp que dsz mad cur stp met bst)), (am 7, .inl (cI, 18, .inl (nA g))), (am 6, .inl (cI, 6, .inl (nA (up gw ((3 * w) + c) 0)))), (am 8, .inl (cZ, 18, .inl (zA nus))), (am 9, .inl (cI, 18, .inl (nA fis))), (am 10, .inl (cI, 18, .inl (nA las))), (am 3, .inl (cZ, 2, .inl (zA isN))), (am 4, .inl (cI, 2, .inl (nA fiO))), (am 5, .inl (cI, 2, .inl (nA laO))), (am 1, .inl (cI, 18, .inl (nA dgt)))] := hD
              refine lv_iinc (pc := 49) (v := (nI (c + 1))) (lv' := [(2, .int (nI (c + 1))), (0, .ref hm), (1, .int (nI w))]) hx hb dX8_builds_49 hl (k := 2) rfl (nI_incr _) (by decide) rfl (fun ls hl => ?_)
              refine lv_goto (pc := 52) (tgt := 33) hx hb dX8_builds_52 (by decide) ?_
              exact ih33 (c + 1) (up gw ((3 * w) + c) 0) ls _ _ (by omega) (by omega) (fun q hq => by by_cases e : q = c; (rw [e, up_s]); (rw [up_n _ (by omega)]; exact b2 q (by omega))) (fun j h1 h2 => by rw [up_n _ (by omega)]; exact b3 j h1 h2) (lv_sub hl [1, 2, 0] rfl) (hP.sub [0, 1, 2, 3, 4, 5, 6, 7, 8, 9] rfl) (hD.sub [0, 1, 2, 3, 4, 5, 6, 7, 8, 9] (by decide) rfl) hS
        exact loop33 (_ + 1) 0 wsy ls _ _ (Nat.lt_succ_self _) (by omega) (fun q hq => absurd hq (by omega)) (fun _ _ _ => rfl) (lv_sub hl [1, 2, 0] rfl) (hP.sub [0, 1, 2, 3, 4, 5, 6, 7, 8, 9] rfl) (hD.sub [0, 1, 2, 3, 4, 5, 6, 7, 8, 9] (by decide) rfl) hS
      · refine lv_aload_n (pc := 13) hx hb dX8_builds_13 rfl (lv_at hl 0 rfl) ?_
        refine va_get (pc := 14) (D := D) (ci := 6) (v := .ref (am 7)) (C := RX8) (T := TX8) (N := 30) hx hb hts hinX8 hown hK hP 0 rfl rfl 7 (by decide) lk10 (fun _ h9 => h9) rfl dX8_builds_14 ?_
        refine lv_bipush (pc := 17) (v := (nI (9))) hx hb dX8_builds_17 (by decide) ?_
        refine lv_iload_n (pc := 19) hx hb dX8_builds_19 rfl (lv_at hl 1 rfl) ?_
        refine xn_imul (pc := 20) hx hb  dX8_builds_20 ?_
        refine lv_iload_n (pc := 21) hx hb dX8_builds_21 rfl (lv_at hl 2 rfl) ?_
        refine xn_iadd (pc := 22) hx hb  dX8_builds_22 ?_
        refine lv_iconst (pc := 23) (v := (nI (0))) hx hb dX8_builds_23 (by decide) ?_
        refine xa_iast (pc := 24) hx hb hK hP hD hS 1 0 rfl rfl (by omega) (by omega) dX8_builds_24 (fun H locs hP hD hS => ?_)
        have hP : va_P D vwCl [(hm, .inr (6, oM am n 0 cmp que dsz mad cur stp met bst)), (am 7, .inl (cI, 18, .inl (nA (up g ((9 * w) + p) 0)))), (am 6, .inl (cI, 6, .inl (nA wsy))), (am 8, .inl (cZ, 18, .inl (zA nus))), (am 9, .inl (cI, 18, .inl (nA fis))), (am 10, .inl (cI, 18, .inl (nA las))), (am 3, .inl (cZ, 2, .inl (zA isN))), (am 4, .inl (cI, 2, .inl (nA fiO))), (am 5, .inl (cI, 2, .inl (nA laO))), (am 1, .inl (cI, 18, .inl (nA dgt)))] H := hP
        have hD : va_D _ [(hm, .inr (6, oM am n 0 cmp que dsz mad cur stp met bst)), (am 7, .inl (cI, 18, .inl (nA (up g ((9 * w) + p) 0)))), (am 6, .inl (cI, 6, .inl (nA wsy))), (am 8, .inl (cZ, 18, .inl (zA nus))), (am 9, .inl (cI, 18, .inl (nA fis))), (am 10, .inl (cI, 18, .inl (nA las))), (am 3, .inl (cZ, 2, .inl (zA isN))), (am 4, .inl (cI, 2, .inl (nA fiO))), (am 5, .inl (cI, 2, .inl (nA laO))), (am 1, .inl (cI, 18, .inl (nA dgt)))] := hD
        refine lv_iinc (pc := 25) (v := (nI (p + 1))) (lv' := [(2, .int (nI (p + 1))), (0, .ref hm), (1, .int (nI w))]) hx hb dX8_builds_25 hl (k := 2) rfl (nI_incr _) (by decide) rfl (fun ls hl => ?_)
        refine lv_goto (pc := 28) (tgt := 7) hx hb dX8_builds_28 (by decide) ?_
        exact ih7 (p + 1) (up g ((9 * w) + p) 0) ls _ _ (by omega) (by omega) (fun q hq => by by_cases e : q = p; (rw [e, up_s]); (rw [up_n _ (by omega)]; exact a2 q (by omega))) (fun j h1 h2 => by rw [up_n _ (by omega)]; exact a3 j h1 h2) (lv_sub hl [1, 2, 0] rfl) (hP.sub [0, 1, 2, 3, 4, 5, 6, 7, 8, 9] rfl) (hD.sub [0, 1, 2, 3, 4, 5, 6, 7, 8, 9] (by decide) rfl) hS
  exact loop7 (_ + 1) 0 fol ls _ _ (Nat.lt_succ_self _) (by omega) (fun q hq => absurd hq (by omega)) (fun _ _ _ => rfl) (lv_sub hl [1, 2, 0] rfl) (hP.sub [0, 1, 2, 3, 4, 5, 6, 7, 8, 9] rfl) (hD.sub [0, 1, 2, 3, 4, 5, 6, 7, 8, 9] (by decide) rfl) hS
set_option maxHeartbeats 4000000 in
set_option maxRecDepth 100000 in
theorem c_X8_after (l : Launch) (D : va_G) (cI cL cZ : ClassId) (hm : Nat) (am : Nat → Nat) (n : Nat) (pos : Nat) (cmp : Nat) (que : Nat) (dsz : Nat) (mad : Nat) (cur : Nat) (stp : Nat) (met : Nat) (bst : Nat) (fol : Nat → Nat) (wsy : Nat → Nat) (isN : Nat → Bool) (fiO : Nat → Nat) (laO : Nat → Nat) (v : Nat) (w : Nat) (z : Option Nat) (c : Nat) (hv : okVb v = true) (har : AR v w fol wsy isN fiO laO) (hw2 : w < 2) (hz : zok z) (hc : c < 3) : Met l yX8_after wsX8_after { frames := 0, cells := 0, slots := 0, locals := 0 } (rP D (tyL cI cL cZ) [(hm, .inr (6, oM am n pos cmp que dsz mad cur stp met bst)), (am 7, .inl (cI, 18, .inl (nA fol))), (am 6, .inl (cI, 6, .inl (nA wsy))), (am 3, .inl (cZ, 2, .inl (zA isN))), (am 4, .inl (cI, 2, .inl (nA fiO))), (am 5, .inl (cI, 2, .inl (nA laO)))] [.ref hm, .int (nI w), .int (sI z), .int (nI c)]) (vp_Si (fun r => r = (nI (aft v z c)))) 0 0 (fun _ => False) := by
  refine Met.ofW (cc := cX8_after) (maxL := 6) (ret := (some .int)) (by decide) rfl ?_
  intro pG eG s mG args below meth cG s₁ B hml hpre9
  obtain ⟨rfl, hP, hK⟩ := hpre9
  have hx := B.exec
  have hb := B.bytes
  have hr := B.returns
  have hts := atoms_spec (ws := wsX8_after) B.pre
  have hown : s.vm.findClass RX8 = some mG.cls := findClass_of_methodNamed B.named
  have hlocks := B.notSynchronized
  have hS : va_S (fun _ => False) s.heap s.heap [] := va_S.rf
  have hinX8 : ∀ w ∈ wsX80, w ∈ wsX8_after := fun w HH => (List.mem_cons_of_mem _ (List.mem_append_right _ HH))
  have lk0 : (Cond.fieldLink RX8 20 "RegexSimplifierModel" "firstOf" "[I").before _ s = true := hts _ (List.mem_cons_of_mem _ (List.mem_append_left _ (List.mem_of_getElem? (i := 0) rfl)))
  have lk1 : (Cond.fieldLink RX8 26 "RegexSimplifierModel" "withSymbol" "[I").before _ s = true := hts _ (List.mem_cons_of_mem _ (List.mem_append_left _ (List.mem_of_getElem? (i := 2) rfl)))
  have lk2 : (Cond.fieldLink RX8 29 "RegexSimplifierModel" "follow" "[I").before _ s = true := hts _ (List.mem_cons_of_mem _ (List.mem_append_left _ (List.mem_of_getElem? (i := 1) rfl)))
  have hl := lv_entry ([.ref hm, .int (nI w), .int (sI z), .int (nI c)]) (n := 6) (Nat.le_of_ble_eq_true rfl)
  rw [lg_entry_eq]
  generalize (lg_sl ([.ref hm, .int (nI w), .int (sI z), .int (nI c)]) ++ List.replicate (6 - (lg_sl ([.ref hm, .int (nI w), .int (sI z), .int (nI c)])).length) Slot.unset).toArray = ls at hl ⊢
  have hl : lv_has ls 6 [(0, .ref hm), (1, .int (nI w)), (2, .int (sI z)), (3, .int (nI c))] := hl
  rcases z with _ | m
  · have hl : lv_has ls 6 [(0, .ref hm), (1, .int (nI w)), (2, .int ((-9))), (3, .int (nI c))] := by have hq9 : (sI (none)) = ((-9)) := (rfl); first | (rw [← hq9]; exact hl) | (rw [hq9] at hl; exact hl)
    have hnone : True := trivial
    refine lv_iload_n (pc := 0) hx hb dX8_after_0 rfl (lv_at hl 2 rfl) ?_
    refine lv_bipush (pc := 1) (v := ((-9))) hx hb dX8_after_1 (by decide) ?_
    refine lv_icmp_ne (pc := 3) (tgt := 15) hx hb dX8_after_3 (by decide) (fun c3 => ?_) (fun c3 => ?_)
    · exact absurd rfl c3
    · refine lv_aload_n (pc := 6) hx hb dX8_after_6 rfl (lv_at hl 0 rfl) ?_
      refine va_get (pc := 7) (D := D) (ci := 6) (v := .ref (am 4)) (C := RX8) (T := TX8) (N := 30) hx hb hts hinX8 hown hK hP 0 rfl rfl 4 (by decide) lk0 (fun _ h9 => h9) rfl dX8_after_7 ?_
      refine lv_iload_n (pc := 10) hx hb dX8_after_10 rfl (lv_at hl 1 rfl) ?_
      refine xa_iald (pc := 11) hx hb hK hP 4 0 rfl rfl (by omega) (by omega) dX8_after_11 ?_
      refine lv_goto (pc := 12) (tgt := 16) hx hb dX8_after_12 (by decide) ?_
      refine lv_istore (pc := 16) (lv' := [(4, .int (nI (fiO w))), (0, .ref hm), (1, .int (nI w)), (2, .int ((-9))), (3, .int (nI c))]) hx hb dX8_after_16 hl (by decide) rfl (fun ls hl => ?_)
      refine lv_iconst (pc := 18) (v := (nI (0))) hx hb dX8_after_18 (by decide) ?_
      refine lv_istore (pc := 19) (lv' := [(5, .int (nI 0)), (4, .int (nI (fiO w))), (0, .ref hm), (1, .int (nI w)), (2, .int ((-9))), (3, .int (nI c))]) hx hb dX8_after_19 hl (by decide) rfl (fun ls hl => ?_)
      refine lv_iload (pc := 21) hx hb dX8_after_21 (lv_at hl 0 rfl) ?_
      refine lv_bipush (pc := 23) (v := (nI (9))) hx hb dX8_after_23 (by decide) ?_
      refine lv_icmp_ge (pc := 25) (tgt := 71) hx hb dX8_after_25 (by decide) (fun h => absurd h (by decide)) (fun _ => ?_)
      refine lv_iload_n (pc := 28) hx hb dX8_after_28 rfl (lv_at hl 4 rfl) ?_
      refine lv_bipush (pc := 29) (v := ((-9))) hx hb dX8_after_29 (by decide) ?_
      refine lv_icmp_eq (pc := 31) (tgt := 71) hx hb dX8_after_31 (by decide) (fun c31 => ?_) (fun c31 => ?_)
      · have hl : lv_has ls 6 [(5, .int (nI 0)), (4, .int (nI (aF v none))), (0, .ref hm), (1, .int (nI w)), (2, .int ((-9))), (3, .int (nI c))] := by have hq9 : (nI (fiO w)) = (nI (aF v none)) := (congrArg nI har.2.2.2.1); first | (rw [← hq9]; exact hl) | (rw [hq9] at hl; exact hl)
        refine lv_iload (pc := 71) hx hb dX8_after_71 (lv_at hl 1 rfl) ?_
        refine lv_aload_n (pc := 73) hx hb dX8_after_73 rfl (lv_at hl 2 rfl) ?_
        refine va_get (pc := 74) (D := D) (ci := 6) (v := .ref (am 6)) (C := RX8) (T := TX8) (N := 30) hx hb hts hinX8 hown hK hP 0 rfl rfl 6 (by decide) lk1 (fun _ h9 => h9) rfl dX8_after_74 ?_
        refine lv_iconst (pc := 77) (v := (nI (3))) hx hb dX8_after_77 (by decide) ?_
        refine lv_iload_n (pc := 78) hx hb dX8_after_78 rfl (lv_at hl 3 rfl) ?_
        refine xn_imul (pc := 79) hx hb  dX8_after_79 ?_
        refine lv_iload_n (pc := 80) hx hb dX8_after_80 rfl (lv_at hl 5 rfl) ?_
        refine xn_iadd (pc := 81) hx hb  dX8_after_81 ?_
        refine xa_iald (pc := 82) hx hb hK hP 2 0 rfl rfl (by omega) (by omega) dX8_after_82 ?_
        refine xn_iand (pc := 83) hx hb  dX8_after_83 ?_
        exact W.iret (pc := 84) (v := (nI ((aF v none) &&& (wsy ((3 * w) + c))))) hx hb hr (fun t ht _ => ⟨_, rfl, (by rw [har.2.1 c hc]; rfl), ht⟩) (fun _ h => absurd h List.not_mem_nil) dX8_after_84
      · exact absurd rfl c31
  · have hl : lv_has ls 6 [(0, .ref hm), (1, .int (nI w)), (2, .int (nI m)), (3, .int (nI c))] := by have hq9 : (sI (some m)) = (nI (m)) := (rfl); first | (rw [← hq9]; exact hl) | (rw [hq9] at hl; exact hl)
    have hm9 := hz m rfl
    refine lv_iload_n (pc := 0) hx hb dX8_after_0 rfl (lv_at hl 2 rfl) ?_
    refine lv_bipush (pc := 1) (v := ((-9))) hx hb dX8_after_1 (by decide) ?_
    refine lv_icmp_ne (pc := 3) (tgt := 15) hx hb dX8_after_3 (by decide) (fun c3 => ?_) (fun c3 => ?_)
    · refine lv_iconst (pc := 15) (v := (nI (0))) hx hb dX8_after_15 (by decide) ?_
      refine lv_istore (pc := 16) (lv' := [(4, .int (nI 0)), (0, .ref hm), (1, .int (nI w)), (2, .int (nI m)), (3, .int (nI c))]) hx hb dX8_after_16 hl (by decide) rfl (fun ls hl => ?_)
      refine lv_iconst (pc := 18) (v := (nI (0))) hx hb dX8_after_18 (by decide) ?_
      refine lv_istore (pc := 19) (lv' := [(5, .int (nI 0)), (4, .int (nI 0)), (0, .ref hm), (1, .int (nI w)), (2, .int (nI m)), (3, .int (nI c))]) hx hb dX8_after_19 hl (by decide) rfl (fun ls hl => ?_)
      have loop21 : ∀ (fuel : Nat) (p : Nat) (ls : Array Slot), 9 - p < fuel → (p ≤ 9) → lv_has ls 6 [(0, .ref hm), (1, .int (nI w)), (2, .int (nI m)), (3, .int (nI c)), (4, .int (nI (oF (auT v) m p))), (5, .int (nI p))] → W pG l eG (headSpec wsX8_after { frames := 0, cells := 0, slots := 0, locals := 0 }).room s mG [.ref hm, .int (nI w), .int (sI (some m)), .int (nI c)].toArray below meth cG s.heap [] 0 0 (MQ below (vp_Si (fun r => r = (nI (aft v (some m) c)))) [.ref hm, .int (nI w), .int (sI (some m)), .int (nI c)].toArray s 0 0 (fun _ => False)) (F0 mG 21 ls []) := by
        intro fuel
        induction fuel with
        | zero => intro p ls hmeas i1 hl; exact absurd hmeas (Nat.not_lt_zero _)
        | succ fuel ih21 =>
          intro p ls hmeas i1 hl
          refine lv_iload (pc := 21) hx hb dX8_after_21 (lv_at hl 5 rfl) ?_
          refine lv_bipush (pc := 23) (v := (nI (9))) hx hb dX8_after_23 (by decide) ?_
          refine xn_icmp_ge (pc := 25) (tgt := 71) hx hb (by omega) (by omega) dX8_after_25 (by decide) (fun c25 => ?_) (fun c25 => ?_)
          · have hl : lv_has ls 6 [(0, .ref hm), (1, .int (nI w)), (2, .int (nI m)), (3, .int (nI c)), (4, .int (nI (aF v (some m)))), (5, .int (nI p))] := by have hq9 : (nI (oF (auT v) m p)) = (nI (aF v (some m))) := ((by rw [show p = 9 from by omega]; rfl)); first | (rw [← hq9]; exact hl) | (rw [hq9] at hl; exact hl)
            refine lv_iload (pc := 71) hx hb dX8_after_71 (lv_at hl 4 rfl) ?_
            refine lv_aload_n (pc := 73) hx hb dX8_after_73 rfl (lv_at hl 0 rfl) ?_
            refine va_get (pc := 74) (D := D) (ci := 6) (v := .ref (am 6)) (C := RX8) (T := TX8) (N := 30) hx hb hts hinX8 hown hK hP 0 rfl rfl 6 (by decide) lk1 (fun _ h9 => h9) rfl dX8_after_74 ?_
            refine lv_iconst (pc := 77) (v := (nI (3))) hx hb dX8_after_77 (by decide) ?_
            refine lv_iload_n (pc := 78) hx hb dX8_after_78 rfl (lv_at hl 1 rfl) ?_
            refine xn_imul (pc := 79) hx hb  dX8_after_79 ?_
            refine lv_iload_n (pc := 80) hx hb dX8_after_80 rfl (lv_at hl 3 rfl) ?_
            refine xn_iadd (pc := 81) hx hb  dX8_after_81 ?_
            refine xa_iald (pc := 82) hx hb hK hP 2 0 rfl rfl (by omega) (by omega) dX8_after_82 ?_
            refine xn_iand (pc := 83) hx hb  dX8_after_83 ?_
            exact W.iret (pc := 84) (v := (nI ((aF v (some m)) &&& (wsy ((3 * w) + c))))) hx hb hr (fun t ht _ => ⟨_, rfl, (by rw [har.2.1 c hc]; rfl), ht⟩) (fun _ h => absurd h List.not_mem_nil) dX8_after_84
          · refine lv_iload_n (pc := 28) hx hb dX8_after_28 rfl (lv_at hl 2 rfl) ?_
            refine lv_bipush (pc := 29) (v := ((-9))) hx hb dX8_after_29 (by decide) ?_
            refine lv_icmp_eq (pc := 31) (tgt := 71) hx hb dX8_after_31 (by decide) (fun c31 => ?_) (fun c31 => ?_)
            · exact absurd c31 (nI_n9 (by omega))
            · refine lv_iload (pc := 34) hx hb dX8_after_34 (lv_at hl 4 rfl) ?_
              refine lv_iload_n (pc := 36) hx hb dX8_after_36 rfl (lv_at hl 2 rfl) ?_
              refine lv_iload (pc := 37) hx hb dX8_after_37 (lv_at hl 5 rfl) ?_
              refine xn_ishr (pc := 39) hx hb (by omega) (by omega) dX8_after_39 ?_
              refine lv_iconst (pc := 40) (v := (nI (1))) hx hb dX8_after_40 (by decide) ?_
              refine xn_iand (pc := 41) hx hb  dX8_after_41 ?_
              refine W.eq (g2 := F0 mG 42 ls [.int (nI (m / 2 ^ p % 2)), .int (nI (oF (auT v) m p))]) (congrArg (fun zz => F0 mG 42 ls [.int (nI zz), .int (nI (oF (auT v) m p))]) (by rw [Nat.and_one_is_mod])) ?_
              refine lv_iconst (pc := 42) (v := (nI (1))) hx hb dX8_after_42 (by decide) ?_
              refine xn_icmp_ne (pc := 43) (tgt := 61) hx hb (by omega) (by omega) dX8_after_43 (by decide) (fun c43 => ?_) (fun c43 => ?_)
              · refine lv_iconst (pc := 61) (v := (nI (0))) hx hb dX8_after_61 (by decide) ?_
                refine xn_ior (pc := 62) hx hb  dX8_after_62 ?_
                refine lv_istore (pc := 63) (lv' := [(4, .int (nI ((oF (auT v) m p) ||| 0))), (0, .ref hm), (1, .int (nI w)), (2, .int (nI m)), (3, .int (nI c)), (5, .int (nI p))]) hx hb dX8_after_63 hl (by decide) rfl (fun ls hl => ?_)
                have hl : lv_has ls 6 [(4, .int (nI (oF (auT v) m (p + 1)))), (0, .ref hm), (1, .int (nI w)), (2, .int (nI m)), (3, .int (nI c)), (5, .int (nI p))] := by have hq9 : (nI ((oF (auT v) m p) ||| 0)) = (nI (oF (auT v) m (p + 1))) := ((by first | exact congrArg nI ((congrArg (oF (auT v) m p ||| ·) (har.1 p (by omega))).trans (if_pos c43).symm) | exact congrArg nI ((Nat.or_zero _).trans (if_neg c43).symm))); first | (rw [← hq9]; exact hl) | (rw [hq9] at hl; exact hl)
                refine lv_iinc (pc := 65) (v := (nI (p + 1))) (lv' := [(5, .int (nI (p + 1))), (4, .int (nI (oF (auT v) m (p + 1)))), (0, .ref hm), (1, .int (nI w)), (2, .int (nI m)), (3, .int (nI c))]) hx hb dX8_after_65 hl (k := 5) rfl (nI_incr _) (by decide) rfl (fun ls hl => ?_)
                refine lv_goto (pc := 68) (tgt := 21) hx hb dX8_after_68 (by decide) ?_
                exact ih21 (p + 1) ls (by omega) (by omega) (lv_sub hl [2, 3, 4, 5, 1, 0] rfl)
              · refine lv_aload_n (pc := 46) hx hb dX8_after_46 rfl (lv_at hl 0 rfl) ?_
                refine va_get (pc := 47) (D := D) (ci := 6) (v := .ref (am 7)) (C := RX8) (T := TX8) (N := 30) hx hb hts hinX8 hown hK hP 0 rfl rfl 7 (by decide) lk2 (fun _ h9 => h9) rfl dX8_after_47 ?_
                refine lv_bipush (pc := 50) (v := (nI (9))) hx hb dX8_after_50 (by decide) ?_
                refine lv_iload_n (pc := 52) hx hb dX8_after_52 rfl (lv_at hl 1 rfl) ?_
                refine xn_imul (pc := 53) hx hb  dX8_after_53 ?_
                refine lv_iload (pc := 54) hx hb dX8_after_54 (lv_at hl 5 rfl) ?_
                refine xn_iadd (pc := 56) hx hb  dX8_after_56 ?_
                refine xa_iald (pc := 57) hx hb hK hP 1 0 rfl rfl (by omega) (by omega) dX8_after_57 ?_
                refine lv_goto (pc := 58) (tgt := 62) hx hb dX8_after_58 (by decide) ?_
                refine xn_ior (pc := 62) hx hb  dX8_after_62 ?_
                refine lv_istore (pc := 63) (lv' := [(4, .int (nI ((oF (auT v) m p) ||| (fol ((9 * w) + p))))), (0, .ref hm), (1, .int (nI w)), (2, .int (nI m)), (3, .int (nI c)), (5, .int (nI p))]) hx hb dX8_after_63 hl (by decide) rfl (fun ls hl => ?_)
                have hl : lv_has ls 6 [(4, .int (nI (oF (auT v) m (p + 1)))), (0, .ref hm), (1, .int (nI w)), (2, .int (nI m)), (3, .int (nI c)), (5, .int (nI p))] := by have hq9 : (nI ((oF (auT v) m p) ||| (fol ((9 * w) + p)))) = (nI (oF (auT v) m (p + 1))) := ((by first | exact congrArg nI ((congrArg (oF (auT v) m p ||| ·) (har.1 p (by omega))).trans (if_pos c43).symm) | exact congrArg nI ((Nat.or_zero _).trans (if_neg c43).symm))); first | (rw [← hq9]; exact hl) | (rw [hq9] at hl; exact hl)
                refine lv_iinc (pc := 65) (v := (nI (p + 1))) (lv' := [(5, .int (nI (p + 1))), (4, .int (nI (oF (auT v) m (p + 1)))), (0, .ref hm), (1, .int (nI w)), (2, .int (nI m)), (3, .int (nI c))]) hx hb dX8_after_65 hl (k := 5) rfl (nI_incr _) (by decide) rfl (fun ls hl => ?_)
                refine lv_goto (pc := 68) (tgt := 21) hx hb dX8_after_68 (by decide) ?_
                exact ih21 (p + 1) ls (by omega) (by omega) (lv_sub hl [2, 3, 4, 5, 1, 0] rfl)
      have hl : lv_has ls 6 [(5, .int (nI 0)), (4, .int (nI (oF (auT v) m 0))), (0, .ref hm), (1, .int (nI w)), (2, .int (nI m)), (3, .int (nI c))] := by have hq9 : (nI (0)) = (nI (oF (auT v) m 0)) := (rfl); first | (rw [← hq9]; exact hl) | (rw [hq9] at hl; exact hl)
      exact loop21 (_ + 1) 0 ls (Nat.lt_succ_self _) (by omega) (lv_sub hl [2, 3, 4, 5, 1, 0] rfl)
    · exact absurd c3 (nI_n9 (by omega))
set_option maxHeartbeats 4000000 in
set_option maxRecDepth 100000 in
theorem c_X8_accepts (l : Launch) (D : va_G) (cI cL cZ : ClassId) (hm : Nat) (am : Nat → Nat) (n : Nat) (pos : Nat) (cmp : Nat) (que : Nat) (dsz : Nat) (mad : Nat) (cur : Nat) (stp : Nat) (met : Nat) (bst : Nat) (fol : Nat → Nat) (wsy : Nat → Nat) (isN : Nat → Bool) (fiO : Nat → Nat) (laO : Nat → Nat) (v : Nat) (w : Nat) (z : Option Nat) (hv : okVb v = true) (har : AR v w fol wsy isN fiO laO) (hw2 : w < 2) (hz : zok z) : Met l yX8_accepts wsX8_accepts { frames := 0, cells := 0, slots := 0, locals := 0 } (rP D (tyL cI cL cZ) [(hm, .inr (6, oM am n pos cmp que dsz mad cur stp met bst)), (am 7, .inl (cI, 18, .inl (nA fol))), (am 6, .inl (cI, 6, .inl (nA wsy))), (am 3, .inl (cZ, 2, .inl (zA isN))), (am 4, .inl (cI, 2, .inl (nA fiO))), (am 5, .inl (cI, 2, .inl (nA laO)))] [.ref hm, .int (nI w), .int (sI z)]) (vp_Si (fun r => r = (nI (pN (acp v z = true))))) 0 0 (fun _ => False) := by
  refine Met.ofW (cc := cX8_accepts) (maxL := 3) (ret := (some .boolean)) (by decide) rfl ?_
  intro pG eG s mG args below meth cG s₁ B hml hpre9
  obtain ⟨rfl, hP, hK⟩ := hpre9
  have hx := B.exec
  have hb := B.bytes
  have hr := B.returns
  have hts := atoms_spec (ws := wsX8_accepts) B.pre
  have hown : s.vm.findClass RX8 = some mG.cls := findClass_of_methodNamed B.named
  have hlocks := B.notSynchronized
  have hS : va_S (fun _ => False) s.heap s.heap [] := va_S.rf
  have hinX8 : ∀ w ∈ wsX80, w ∈ wsX8_accepts := fun w HH => (List.mem_cons_of_mem _ (List.mem_append_right _ HH))
  have lk0 : (Cond.fieldLink RX8 16 "RegexSimplifierModel" "isNullable" "[Z").before _ s = true := hts _ (List.mem_cons_of_mem _ (List.mem_append_left _ (List.mem_of_getElem? (i := 0) rfl)))
  have lk1 : (Cond.fieldLink RX8 23 "RegexSimplifierModel" "lastOf" "[I").before _ s = true := hts _ (List.mem_cons_of_mem _ (List.mem_append_left _ (List.mem_of_getElem? (i := 1) rfl)))
  have hl := lv_entry ([.ref hm, .int (nI w), .int (sI z)]) (n := 3) (Nat.le_of_ble_eq_true rfl)
  rw [lg_entry_eq]
  generalize (lg_sl ([.ref hm, .int (nI w), .int (sI z)]) ++ List.replicate (3 - (lg_sl ([.ref hm, .int (nI w), .int (sI z)])).length) Slot.unset).toArray = ls at hl ⊢
  have hl : lv_has ls 3 [(0, .ref hm), (1, .int (nI w)), (2, .int (sI z))] := hl
  rcases z with _ | m
  · have hl : lv_has ls 3 [(0, .ref hm), (1, .int (nI w)), (2, .int ((-9)))] := by have hq9 : (sI (none)) = ((-9)) := (rfl); first | (rw [← hq9]; exact hl) | (rw [hq9] at hl; exact hl)
    have hnone : True := trivial
    refine lv_iload_n (pc := 0) hx hb dX8_accepts_0 rfl (lv_at hl 2 rfl) ?_
    refine lv_bipush (pc := 1) (v := ((-9))) hx hb dX8_accepts_1 (by decide) ?_
    refine lv_icmp_ne (pc := 3) (tgt := 15) hx hb dX8_accepts_3 (by decide) (fun c3 => ?_) (fun c3 => ?_)
    · exact absurd rfl c3
    · refine lv_aload_n (pc := 6) hx hb dX8_accepts_6 rfl (lv_at hl 0 rfl) ?_
      refine va_get (pc := 7) (D := D) (ci := 6) (v := .ref (am 3)) (C := RX8) (T := TX8) (N := 30) hx hb hts hinX8 hown hK hP 0 rfl rfl 3 (by decide) lk0 (fun _ h9 => h9) rfl dX8_accepts_7 ?_
      refine lv_iload_n (pc := 10) hx hb dX8_accepts_10 rfl (lv_at hl 1 rfl) ?_
      refine xa_zald (pc := 11) hx hb hK hP 3 2 rfl rfl (by omega) (by omega) dX8_accepts_11 ?_
      refine lv_goto (pc := 12) (tgt := 31) hx hb dX8_accepts_12 (by decide) ?_
      exact W.zret (pc := 31) (v := (nI (pN (isN w = true)))) (ty := .boolean) hx hb hr pN_nar (fun t ht _ => ⟨_, rfl, (by first | (rw [har.2.2.1]; rfl) | exact congrArg nI (pN_t (show acp v (some m) = true from decide_eq_true (by rw [← har.2.2.2.2]; exact c23))).symm | exact congrArg nI (pN_f (show ¬ acp v (some m) = true from fun q => of_decide_eq_true q (by rw [← har.2.2.2.2]; exact c23))).symm), ht⟩) (fun _ h => absurd h List.not_mem_nil) dX8_accepts_31
  · have hl : lv_has ls 3 [(0, .ref hm), (1, .int (nI w)), (2, .int (nI m))] := by have hq9 : (sI (some m)) = (nI (m)) := (rfl); first | (rw [← hq9]; exact hl) | (rw [hq9] at hl; exact hl)
    have hm9 := hz m rfl
    refine lv_iload_n (pc := 0) hx hb dX8_accepts_0 rfl (lv_at hl 2 rfl) ?_
    refine lv_bipush (pc := 1) (v := ((-9))) hx hb dX8_accepts_1 (by decide) ?_
    refine lv_icmp_ne (pc := 3) (tgt := 15) hx hb dX8_accepts_3 (by decide) (fun c3 => ?_) (fun c3 => ?_)
    · refine lv_iload_n (pc := 15) hx hb dX8_accepts_15 rfl (lv_at hl 2 rfl) ?_
      refine lv_aload_n (pc := 16) hx hb dX8_accepts_16 rfl (lv_at hl 0 rfl) ?_
      refine va_get (pc := 17) (D := D) (ci := 6) (v := .ref (am 5)) (C := RX8) (T := TX8) (N := 30) hx hb hts hinX8 hown hK hP 0 rfl rfl 5 (by decide) lk1 (fun _ h9 => h9) rfl dX8_accepts_17 ?_
      refine lv_iload_n (pc := 20) hx hb dX8_accepts_20 rfl (lv_at hl 1 rfl) ?_
      refine xa_iald (pc := 21) hx hb hK hP 5 0 rfl rfl (by omega) (by omega) dX8_accepts_21 ?_
      refine xn_iand (pc := 22) hx hb  dX8_accepts_22 ?_
      refine xn_if_eq (pc := 23) (tgt := 30) hx hb (Nat.lt_of_le_of_lt Nat.and_le_left (by omega)) dX8_accepts_23 (by decide) (fun c23 => ?_) (fun c23 => ?_)
      · refine lv_iconst (pc := 30) (v := (nI (0))) hx hb dX8_accepts_30 (by decide) ?_
        exact W.zret (pc := 31) (v := (nI (0))) (ty := .boolean) hx hb hr (by decide) (fun t ht _ => ⟨_, rfl, (by first | (rw [har.2.2.1]; rfl) | exact congrArg nI (pN_t (show acp v (some m) = true from decide_eq_true (by rw [← har.2.2.2.2]; exact c23))).symm | exact congrArg nI (pN_f (show ¬ acp v (some m) = true from fun q => of_decide_eq_true q (by rw [← har.2.2.2.2]; exact c23))).symm), ht⟩) (fun _ h => absurd h List.not_mem_nil) dX8_accepts_31
      · refine lv_iconst (pc := 26) (v := (nI (1))) hx hb dX8_accepts_26 (by decide) ?_
        refine lv_goto (pc := 27) (tgt := 31) hx hb dX8_accepts_27 (by decide) ?_
        exact W.zret (pc := 31) (v := (nI (1))) (ty := .boolean) hx hb hr (by decide) (fun t ht _ => ⟨_, rfl, (by first | (rw [har.2.2.1]; rfl) | exact congrArg nI (pN_t (show acp v (some m) = true from decide_eq_true (by rw [← har.2.2.2.2]; exact c23))).symm | exact congrArg nI (pN_f (show ¬ acp v (some m) = true from fun q => of_decide_eq_true q (by rw [← har.2.2.2.2]; exact c23))).symm), ht⟩) (fun _ h => absurd h List.not_mem_nil) dX8_accepts_31
    · exact absurd c3 (nI_n9 (by omega))
