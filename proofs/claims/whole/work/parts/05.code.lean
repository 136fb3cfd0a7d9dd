/-! Code: powers, digits, appending -/
set_option maxHeartbeats 4000000 in
set_option maxRecDepth 100000 in
theorem c_X1_powerOfTen (l : Launch) (D : va_G) (cI cL cZ : ClassId) (tp tr : Nat) (k : Nat) (hk : k < 2 ^ 31) : Met l yX1_powerOfTen wsX1_powerOfTen { frames := 0, cells := 0, slots := 0, locals := 0 } (rPS D (tyL cI cL cZ) tp tr [] [.int (nI k)]) (vp_Sl (fun r => r = (lN (if k < 19 then 10 ^ k else 1)))) 0 0 (fun _ => False) := by
  refine Met.ofW (cc := cX1_powerOfTen) (maxL := 2) (ret := (some .long)) (by decide) rfl ?_
  intro pG eG s mG args below meth cG s₁ B hml hpre9
  obtain ⟨rfl, hP, hK, hZ⟩ := hpre9
  have hx := B.exec
  have hb := B.bytes
  have hr := B.returns
  have hts := atoms_spec (ws := wsX1_powerOfTen) B.pre
  have hown : s.vm.findClass RX1 = some mG.cls := findClass_of_methodNamed B.named
  have hlocks := B.notSynchronized
  have hS : va_S (fun _ => False) s.heap s.heap [] := va_S.rf
  have lk0 : (Cond.fieldLink RX1 9 "RegexSimplifier$Code" "POWERS_OF_TEN" "[J").before _ s = true := hts _ (List.mem_cons_of_mem _ (List.mem_of_getElem? (i := 0) rfl))
  have hl := lv_entry ([.int (nI k)]) (n := 2) (Nat.le_of_ble_eq_true rfl)
  rw [lg_entry_eq]
  generalize (lg_sl ([.int (nI k)]) ++ List.replicate (2 - (lg_sl ([.int (nI k)])).length) Slot.unset).toArray = ls at hl ⊢
  have hl : lv_has ls 2 [(0, .int (nI k))] := hl
  refine lv_iload_n (pc := 0) hx hb dX1_powerOfTen_0 rfl (lv_at hl 0 rfl) ?_
  refine xn_if_lt (pc := 1) (tgt := 16) hx hb (by omega) dX1_powerOfTen_1 (by decide) ?_
  refine lv_iload_n (pc := 4) hx hb dX1_powerOfTen_4 rfl (lv_at hl 0 rfl) ?_
  refine va_gets (pc := 5) hx hb hZ.1 hS hown lk0 (fun _ h9 => h9) dX1_powerOfTen_5 ?_
  refine va_tlen (pc := 8) (v := nI 19) hx hb hZ.2.1 hS rfl dX1_powerOfTen_8 ?_
  refine xn_icmp_ge (pc := 9) (tgt := 16) hx hb (by omega) (by omega) dX1_powerOfTen_9 (by decide) (fun c9 => ?_) (fun c9 => ?_)
  · refine lv_iconst (pc := 16) (v := (nI (0))) hx hb dX1_powerOfTen_16 (by decide) ?_
    refine lv_istore_n (pc := 17) (lv' := [(1, .int (nI 0)), (0, .int (nI k))]) hx hb dX1_powerOfTen_17 rfl hl (by decide) rfl (fun ls hl => ?_)
    refine lv_iload_n (pc := 18) hx hb dX1_powerOfTen_18 rfl (lv_at hl 0 rfl) ?_
    refine lv_if_eq (pc := 19) (tgt := 30) hx hb dX1_powerOfTen_19 (by decide) (fun _ => ?_) (fun h => absurd h (by decide))
    refine lv_lconst (pc := 30) (v := (lN (1))) hx hb dX1_powerOfTen_30 (by decide) ?_
    exact W.lret (pc := 31) (v := (lN (1))) hx hb hr (fun t ht _ => ⟨_, rfl, (by first | (rw [if_pos (by omega)]) | (rw [if_neg (by omega)])), ht⟩) (fun _ h => absurd h List.not_mem_nil) dX1_powerOfTen_31
  · refine lv_iconst (pc := 12) (v := (nI (1))) hx hb dX1_powerOfTen_12 (by decide) ?_
    refine lv_goto (pc := 13) (tgt := 17) hx hb dX1_powerOfTen_13 (by decide) ?_
    refine lv_istore_n (pc := 17) (lv' := [(1, .int (nI 1)), (0, .int (nI k))]) hx hb dX1_powerOfTen_17 rfl hl (by decide) rfl (fun ls hl => ?_)
    refine lv_iload_n (pc := 18) hx hb dX1_powerOfTen_18 rfl (lv_at hl 0 rfl) ?_
    refine lv_if_eq (pc := 19) (tgt := 30) hx hb dX1_powerOfTen_19 (by decide) (fun h => absurd h (by decide)) (fun _ => ?_)
    refine va_gets (pc := 22) hx hb hZ.1 hS hown lk0 (fun _ h9 => h9) dX1_powerOfTen_22 ?_
    refine lv_iload_n (pc := 25) hx hb dX1_powerOfTen_25 rfl (lv_at hl 1 rfl) ?_
    refine va_tl (pc := 26) (v := .long (lN (10 ^ k))) hx hb hZ.2.1 hS (vp_in_nI (n := k) (N := 19) (by omega) (by omega)) (by rw [nI_clamp (by omega)]; rfl) dX1_powerOfTen_26 ?_
    refine lv_goto (pc := 27) (tgt := 31) hx hb dX1_powerOfTen_27 (by decide) ?_
    exact W.lret (pc := 31) (v := (lN (10 ^ k))) hx hb hr (fun t ht _ => ⟨_, rfl, (by first | (rw [if_pos (by omega)]) | (rw [if_neg (by omega)])), ht⟩) (fun _ h => absurd h List.not_mem_nil) dX1_powerOfTen_31
set_option maxHeartbeats 4000000 in
set_option maxRecDepth 100000 in
theorem c_X1_digitCount (l : Launch) (D : va_G) (cI cL cZ : ClassId) (tp tr : Nat) (v : Nat) (hv : v < 2 ^ 63) : Met l yX1_digitCount wsX1_digitCount { frames := 0, cells := 0, slots := 0, locals := 0 } (rPS D (tyL cI cL cZ) tp tr [] [.long (lN v)]) (vp_Si (fun r => r = (nI (dc v)))) 0 0 (fun _ => False) := by
  refine Met.ofW (cc := cX1_digitCount) (maxL := 3) (ret := (some .int)) (by decide) rfl ?_
  intro pG eG s mG args below meth cG s₁ B hml hpre9
  obtain ⟨rfl, hP, hK, hZ⟩ := hpre9
  have hx := B.exec
  have hb := B.bytes
  have hr := B.returns
  have hts := atoms_spec (ws := wsX1_digitCount) B.pre
  have hown : s.vm.findClass RX1 = some mG.cls := findClass_of_methodNamed B.named
  have hlocks := B.notSynchronized
  have hS : va_S (fun _ => False) s.heap s.heap [] := va_S.rf
  have lk0 : (Cond.fieldLink RX1 9 "RegexSimplifier$Code" "POWERS_OF_TEN" "[J").before _ s = true := hts _ (List.mem_cons_of_mem _ (List.mem_of_getElem? (i := 0) rfl))
  have hl := lv_entry ([.long (lN v)]) (n := 3) (Nat.le_of_ble_eq_true rfl)
  rw [lg_entry_eq]
  generalize (lg_sl ([.long (lN v)]) ++ List.replicate (3 - (lg_sl ([.long (lN v)])).length) Slot.unset).toArray = ls at hl ⊢
  have hl : lv_has ls 3 [(0, .long (lN v))] := hl
  refine lv_iconst (pc := 0) (v := (nI (1))) hx hb dX1_digitCount_0 (by decide) ?_
  refine lv_istore_n (pc := 1) (lv' := [(2, .int (nI 1)), (0, .long (lN v))]) hx hb dX1_digitCount_1 rfl hl (by decide) rfl (fun ls hl => ?_)
  have loop2 : ∀ (fuel : Nat) (k : Nat) (ls : Array Slot), 19 - k < fuel → (1 ≤ k) → (k ≤ 19) → (dcF (19 - k) v k = dc v) → lv_has ls 3 [(0, .long (lN v)), (2, .int (nI k))] → W pG l eG (headSpec wsX1_digitCount { frames := 0, cells := 0, slots := 0, locals := 0 }).room s mG [.long (lN v)].toArray below meth cG s.heap [] 0 0 (MQ below (vp_Si (fun r => r = (nI (dc v)))) [.long (lN v)].toArray s 0 0 (fun _ => False)) (F0 mG 2 ls []) := by
    intro fuel
    induction fuel with
    | zero => intro k ls hmeas i1 i2 i3 hl; exact absurd hmeas (Nat.not_lt_zero _)
    | succ fuel ih2 =>
      intro k ls hmeas i1 i2 i3 hl
      refine lv_iload_n (pc := 2) hx hb dX1_digitCount_2 rfl (lv_at hl 1 rfl) ?_
      refine va_gets (pc := 3) hx hb hZ.1 hS hown lk0 (fun _ h9 => h9) dX1_digitCount_3 ?_
      refine va_tlen (pc := 6) (v := nI 19) hx hb hZ.2.1 hS rfl dX1_digitCount_6 ?_
      refine xn_icmp_ge (pc := 7) (tgt := 26) hx hb (by omega) (by omega) dX1_digitCount_7 (by decide) (fun c7 => ?_) (fun c7 => ?_)
      · refine lv_iload_n (pc := 26) hx hb dX1_digitCount_26 rfl (lv_at hl 1 rfl) ?_
        exact W.iret (pc := 27) (v := (nI (k))) hx hb hr (fun t ht _ => ⟨_, rfl, (by first | (rw [← i3, show 19 - k = 0 from by omega]; rfl) | (rw [← i3, show 19 - k = (18 - k) + 1 from by omega]; exact congrArg nI (if_neg (by omega)).symm)), ht⟩) (fun _ h => absurd h List.not_mem_nil) dX1_digitCount_27
      · refine lv_lload_n (pc := 10) hx hb dX1_digitCount_10 rfl (lv_at hl 0 rfl) ?_
        refine va_gets (pc := 11) hx hb hZ.1 hS hown lk0 (fun _ h9 => h9) dX1_digitCount_11 ?_
        refine lv_iload_n (pc := 14) hx hb dX1_digitCount_14 rfl (lv_at hl 1 rfl) ?_
        refine va_tl (pc := 15) (v := .long (lN (10 ^ k))) hx hb hZ.2.1 hS (vp_in_nI (n := k) (N := 19) (by omega) (by omega)) (by rw [nI_clamp (by omega)]; rfl) dX1_digitCount_15 ?_
        refine xnl_lt (pc := 16) (tgt := 26) hx hb hv (pow_le18 (by omega)) dX1_digitCount_16 dX1_digitCount_17 (by decide) (fun c16 => ?_) (fun c16 => ?_)
        · refine lv_iload_n (pc := 26) hx hb dX1_digitCount_26 rfl (lv_at hl 1 rfl) ?_
          exact W.iret (pc := 27) (v := (nI (k))) hx hb hr (fun t ht _ => ⟨_, rfl, (by first | (rw [← i3, show 19 - k = 0 from by omega]; rfl) | (rw [← i3, show 19 - k = (18 - k) + 1 from by omega]; exact congrArg nI (if_neg (by omega)).symm)), ht⟩) (fun _ h => absurd h List.not_mem_nil) dX1_digitCount_27
        · refine lv_iinc (pc := 20) (v := (nI (k + 1))) (lv' := [(2, .int (nI (k + 1))), (0, .long (lN v))]) hx hb dX1_digitCount_20 hl (k := 1) rfl (nI_incr _) (by decide) rfl (fun ls hl => ?_)
          refine lv_goto (pc := 23) (tgt := 2) hx hb dX1_digitCount_23 (by decide) ?_
          exact ih2 (k + 1) ls (by omega) (by omega) (by omega) (by rw [← i3, show 19 - k = (19 - (k + 1)) + 1 from by omega]; exact (if_pos c16).symm) (lv_sub hl [1, 0] rfl)
  exact loop2 (_ + 1) 1 ls (Nat.lt_succ_self _) (by omega) (by omega) rfl (lv_sub hl [1, 0] rfl)
set_option maxHeartbeats 4000000 in
set_option maxRecDepth 100000 in
theorem c_X1_append (l : Launch) (D : va_G) (cI cL cZ : ClassId) (h : Nat) (v : Nat) (hv : v < 2 ^ 63) : Met l yX1_append wsX1_append { frames := 0, cells := 0, slots := 0, locals := 0 } (rP D (tyL cI cL cZ) [] [.long (lN h), .long (lN v)]) (vp_Sl (fun r => r = (lN (h * 10 ^ da v + v)))) 0 0 (fun _ => False) := by
  refine Met.ofW (cc := cX1_append) (maxL := 7) (ret := (some .long)) (by decide) rfl ?_
  intro pG eG s mG args below meth cG s₁ B hml hpre9
  obtain ⟨rfl, hP, hK⟩ := hpre9
  have hx := B.exec
  have hb := B.bytes
  have hr := B.returns
  have hts := atoms_spec (ws := wsX1_append) B.pre
  have hown : s.vm.findClass RX1 = some mG.cls := findClass_of_methodNamed B.named
  have hlocks := B.notSynchronized
  have hS : va_S (fun _ => False) s.heap s.heap [] := va_S.rf
  have lk0 : (Cond.constantLong RX1 15 (10)).before _ s = true := hts _ (List.mem_cons_of_mem _ (List.mem_of_getElem? (i := 0) rfl))
  have hl := lv_entry ([.long (lN h), .long (lN v)]) (n := 7) (Nat.le_of_ble_eq_true rfl)
  rw [lg_entry_eq]
  generalize (lg_sl ([.long (lN h), .long (lN v)]) ++ List.replicate (7 - (lg_sl ([.long (lN h), .long (lN v)])).length) Slot.unset).toArray = ls at hl ⊢
  have hl : lv_has ls 7 [(0, .long (lN h)), (2, .long (lN v))] := hl
  refine lv_ldc2 (pc := 0) (v := (lN (10))) hx hb hown lk0 dX1_append_0 ?_
  refine lv_lstore (pc := 3) (lv' := [(4, .long (lN 10)), (0, .long (lN h)), (2, .long (lN v))]) hx hb dX1_append_3 hl (by decide) rfl (fun ls hl => ?_)
  have hl : lv_has ls 7 [(4, .long (lN (10 ^ 1))), (0, .long (lN h)), (2, .long (lN v))] := by have hq : (lN (10)) = (lN (10 ^ 1)) := rfl; first | (rw [← hq]; exact hl) | (rw [hq] at hl; exact hl)
  refine lv_iconst (pc := 5) (v := (nI (1))) hx hb dX1_append_5 (by decide) ?_
  refine lv_istore (pc := 6) (lv' := [(6, .int (nI 1)), (4, .long (lN (10 ^ 1))), (0, .long (lN h)), (2, .long (lN v))]) hx hb dX1_append_6 hl (by decide) rfl (fun ls hl => ?_)
  have loop8 : ∀ (fuel : Nat) (k : Nat) (ls : Array Slot), 18 - k < fuel → (1 ≤ k) → (k ≤ 18) → (dcF (18 - k) v k = da v) → lv_has ls 7 [(0, .long (lN h)), (2, .long (lN v)), (4, .long (lN (10 ^ k))), (6, .int (nI k))] → W pG l eG (headSpec wsX1_append { frames := 0, cells := 0, slots := 0, locals := 0 }).room s mG [.long (lN h), .long (lN v)].toArray below meth cG s.heap [] 0 0 (MQ below (vp_Sl (fun r => r = (lN (h * 10 ^ da v + v)))) [.long (lN h), .long (lN v)].toArray s 0 0 (fun _ => False)) (F0 mG 8 ls []) := by
    intro fuel
    induction fuel with
    | zero => intro k ls hmeas i1 i2 i3 hl; exact absurd hmeas (Nat.not_lt_zero _)
    | succ fuel ih8 =>
      intro k ls hmeas i1 i2 i3 hl
      refine lv_iload (pc := 8) hx hb dX1_append_8 (lv_at hl 3 rfl) ?_
      refine lv_bipush (pc := 10) (v := (nI (18))) hx hb dX1_append_10 (by decide) ?_
      refine xn_icmp_ge (pc := 12) (tgt := 36) hx hb (by omega) (by omega) dX1_append_12 (by decide) (fun c12 => ?_) (fun c12 => ?_)
      · refine lv_lload_n (pc := 36) hx hb dX1_append_36 rfl (lv_at hl 0 rfl) ?_
        refine lv_lload (pc := 37) hx hb dX1_append_37 (lv_at hl 2 rfl) ?_
        refine xn_lmul (pc := 39) hx hb  dX1_append_39 ?_
        refine lv_lload_n (pc := 40) hx hb dX1_append_40 rfl (lv_at hl 1 rfl) ?_
        refine xn_ladd (pc := 41) hx hb  dX1_append_41 ?_
        exact W.lret (pc := 42) (v := (lN ((h * (10 ^ k)) + v))) hx hb hr (fun t ht _ => ⟨_, rfl, (by have e : k = da v := (by first | (rw [← i3, show 18 - k = 0 from by omega]; rfl) | (rw [← i3, show 18 - k = (17 - k) + 1 from by omega]; exact (if_neg (by omega)).symm)); rw [e]), ht⟩) (fun _ h => absurd h List.not_mem_nil) dX1_append_42
      · refine lv_lload_n (pc := 15) hx hb dX1_append_15 rfl (lv_at hl 1 rfl) ?_
        refine lv_lload (pc := 16) hx hb dX1_append_16 (lv_at hl 2 rfl) ?_
        refine xnl_lt (pc := 18) (tgt := 36) hx hb hv (pow_le18 (by omega)) dX1_append_18 dX1_append_19 (by decide) (fun c18 => ?_) (fun c18 => ?_)
        · refine lv_lload_n (pc := 36) hx hb dX1_append_36 rfl (lv_at hl 0 rfl) ?_
          refine lv_lload (pc := 37) hx hb dX1_append_37 (lv_at hl 2 rfl) ?_
          refine xn_lmul (pc := 39) hx hb  dX1_append_39 ?_
          refine lv_lload_n (pc := 40) hx hb dX1_append_40 rfl (lv_at hl 1 rfl) ?_
          refine xn_ladd (pc := 41) hx hb  dX1_append_41 ?_
          exact W.lret (pc := 42) (v := (lN ((h * (10 ^ k)) + v))) hx hb hr (fun t ht _ => ⟨_, rfl, (by have e : k = da v := (by first | (rw [← i3, show 18 - k = 0 from by omega]; rfl) | (rw [← i3, show 18 - k = (17 - k) + 1 from by omega]; exact (if_neg (by omega)).symm)); rw [e]), ht⟩) (fun _ h => absurd h List.not_mem_nil) dX1_append_42
        · refine lv_lload (pc := 22) hx hb dX1_append_22 (lv_at hl 2 rfl) ?_
          refine lv_ldc2 (pc := 24) (v := (lN (10))) hx hb hown lk0 dX1_append_24 ?_
          refine xn_lmul (pc := 27) hx hb  dX1_append_27 ?_
          refine lv_lstore (pc := 28) (lv' := [(4, .long (lN ((10 ^ k) * 10))), (0, .long (lN h)), (2, .long (lN v)), (6, .int (nI k))]) hx hb dX1_append_28 hl (by decide) rfl (fun ls hl => ?_)
          have hl : lv_has ls 7 [(4, .long (lN (10 ^ (k + 1)))), (0, .long (lN h)), (2, .long (lN v)), (6, .int (nI k))] := by have hq : (lN ((10 ^ k) * 10)) = (lN (10 ^ (k + 1))) := congrArg lN (Nat.pow_succ 10 k).symm; first | (rw [← hq]; exact hl) | (rw [hq] at hl; exact hl)
          refine lv_iinc (pc := 30) (v := (nI (k + 1))) (lv' := [(6, .int (nI (k + 1))), (4, .long (lN (10 ^ (k + 1)))), (0, .long (lN h)), (2, .long (lN v))]) hx hb dX1_append_30 hl (k := 3) rfl (nI_incr _) (by decide) rfl (fun ls hl => ?_)
          refine lv_goto (pc := 33) (tgt := 8) hx hb dX1_append_33 (by decide) ?_
          exact ih8 (k + 1) ls (by omega) (by omega) (by omega) (by rw [← i3, show 18 - k = (18 - (k + 1)) + 1 from by omega]; exact (if_pos c18).symm) (lv_sub hl [2, 3, 1, 0] rfl)
  exact loop8 (_ + 1) 1 ls (Nat.lt_succ_self _) (by omega) (by omega) rfl (lv_sub hl [2, 3, 1, 0] rfl)
set_option maxHeartbeats 4000000 in
set_option maxRecDepth 100000 in
theorem c_X1_union (l : Launch) (D : va_G) (cI cL cZ : ClassId) (a : Nat) (b : Nat) (ha : a < 2 ^ 63) (hb2 : b < 2 ^ 63) : Met l yX1_union wsX1_union { frames := 1, cells := 0, slots := 0, locals := 26 } (rP D (tyL cI cL cZ) [] [.long (lN a), .long (lN b)]) (vp_Sl (fun r => r = (lN (un a b)))) 0 0 (fun _ => False) := by
  refine Met.ofW (cc := cX1_union) (maxL := 4) (ret := (some .long)) (by decide) rfl ?_
  intro pG eG s mG args below meth cG s₁ B hml hpre9
  obtain ⟨rfl, hP, hK⟩ := hpre9
  have hx := B.exec
  have hb := B.bytes
  have hr := B.returns
  have hts := atoms_spec (ws := wsX1_union) B.pre
  have hown : s.vm.findClass RX1 = some mG.cls := findClass_of_methodNamed B.named
  have hlocks := B.notSynchronized
  have hS : va_S (fun _ => False) s.heap s.heap [] := va_S.rf
  have lk0 : (Cond.constantLong RX1 17 (6)).before _ s = true := hts _ (List.mem_cons_of_mem _ (List.mem_of_getElem? (i := 0) rfl))
  have hl := lv_entry ([.long (lN a), .long (lN b)]) (n := 4) (Nat.le_of_ble_eq_true rfl)
  rw [lg_entry_eq]
  generalize (lg_sl ([.long (lN a), .long (lN b)]) ++ List.replicate (4 - (lg_sl ([.long (lN a), .long (lN b)])).length) Slot.unset).toArray = ls at hl ⊢
  have hl : lv_has ls 4 [(0, .long (lN a)), (2, .long (lN b))] := hl
  refine lv_ldc2 (pc := 0) (v := (lN (6))) hx hb hown lk0 dX1_union_0 ?_
  refine lv_lload_n (pc := 3) hx hb dX1_union_3 rfl (lv_at hl 0 rfl) ?_
  refine vp_callSl (pc := 4) (W.runS (As := [.long (lN 6), .long (lN a)]) (rest := []) ⟨hx, hb, hml, hown, hts⟩ (c_X1_append l D cI cL cZ 6 a (by omega)) (va_cwS 2 hts gX1_union_X1_append rfl rfl rfl (by decide +kernel) ⟨Nat.le_of_ble_eq_true rfl, Nat.le_of_ble_eq_true rfl⟩) (rP_S (wc := []) hK hP [] rfl) rfl rfl hl.1 rfl (lv_room (Nat.le_of_ble_eq_true rfl)) dX1_union_4 ⟨Nat.zero_le _, Nat.zero_le _⟩) (fun r9 hrr => ?_)
  rw [hrr]
  refine lv_lload_n (pc := 7) hx hb dX1_union_7 rfl (lv_at hl 1 rfl) ?_
  refine vp_callSl (pc := 8) (W.runS (As := [.long (lN (6 * 10 ^ da a + a)), .long (lN b)]) (rest := []) ⟨hx, hb, hml, hown, hts⟩ (c_X1_append l D cI cL cZ (6 * 10 ^ da a + a) b (by omega)) (va_cwS 2 hts gX1_union_X1_append rfl rfl rfl (by decide +kernel) ⟨Nat.le_of_ble_eq_true rfl, Nat.le_of_ble_eq_true rfl⟩) (rP_S (wc := []) hK hP [] rfl) rfl rfl hl.1 rfl (lv_room (Nat.le_of_ble_eq_true rfl)) dX1_union_8 ⟨Nat.zero_le _, Nat.zero_le _⟩) (fun r9 hrr => ?_)
  rw [hrr]
  exact W.lret (pc := 11) (v := (lN ((6 * 10 ^ da a + a) * 10 ^ da b + b))) hx hb hr (fun t ht _ => ⟨_, rfl, (by first | rfl | ((repeat' split) <;> first | rfl | omega)), ht⟩) (fun _ h => absurd h List.not_mem_nil) dX1_union_11
set_option maxHeartbeats 4000000 in
set_option maxRecDepth 100000 in
theorem c_X1_concatenation (l : Launch) (D : va_G) (cI cL cZ : ClassId) (a : Nat) (b : Nat) (ha : a < 2 ^ 63) (hb2 : b < 2 ^ 63) : Met l yX1_concatenation wsX1_concatenation { frames := 1, cells := 0, slots := 0, locals := 26 } (rP D (tyL cI cL cZ) [] [.long (lN a), .long (lN b)]) (vp_Sl (fun r => r = (lN (ct a b)))) 0 0 (fun _ => False) := by
  refine Met.ofW (cc := cX1_concatenation) (maxL := 4) (ret := (some .long)) (by decide) rfl ?_
  intro pG eG s mG args below meth cG s₁ B hml hpre9
  obtain ⟨rfl, hP, hK⟩ := hpre9
  have hx := B.exec
  have hb := B.bytes
  have hr := B.returns
  have hts := atoms_spec (ws := wsX1_concatenation) B.pre
  have hown : s.vm.findClass RX1 = some mG.cls := findClass_of_methodNamed B.named
  have hlocks := B.notSynchronized
  have hS : va_S (fun _ => False) s.heap s.heap [] := va_S.rf
  have lk0 : (Cond.constantLong RX1 23 (7)).before _ s = true := hts _ (List.mem_cons_of_mem _ (List.mem_of_getElem? (i := 0) rfl))
  have hl := lv_entry ([.long (lN a), .long (lN b)]) (n := 4) (Nat.le_of_ble_eq_true rfl)
  rw [lg_entry_eq]
  generalize (lg_sl ([.long (lN a), .long (lN b)]) ++ List.replicate (4 - (lg_sl ([.long (lN a), .long (lN b)])).length) Slot.unset).toArray = ls at hl ⊢
  have hl : lv_has ls 4 [(0, .long (lN a)), (2, .long (lN b))] := hl
  refine lv_ldc2 (pc := 0) (v := (lN (7))) hx hb hown lk0 dX1_concatenation_0 ?_
  refine lv_lload_n (pc := 3) hx hb dX1_concatenation_3 rfl (lv_at hl 0 rfl) ?_
  refine vp_callSl (pc := 4) (W.runS (As := [.long (lN 7), .long (lN a)]) (rest := []) ⟨hx, hb, hml, hown, hts⟩ (c_X1_append l D cI cL cZ 7 a (by omega)) (va_cwS 2 hts gX1_concatenation_X1_append rfl rfl rfl (by decide +kernel) ⟨Nat.le_of_ble_eq_true rfl, Nat.le_of_ble_eq_true rfl⟩) (rP_S (wc := []) hK hP [] rfl) rfl rfl hl.1 rfl (lv_room (Nat.le_of_ble_eq_true rfl)) dX1_concatenation_4 ⟨Nat.zero_le _, Nat.zero_le _⟩) (fun r9 hrr => ?_)
  rw [hrr]
  refine lv_lload_n (pc := 7) hx hb dX1_concatenation_7 rfl (lv_at hl 1 rfl) ?_
  refine vp_callSl (pc := 8) (W.runS (As := [.long (lN (7 * 10 ^ da a + a)), .long (lN b)]) (rest := []) ⟨hx, hb, hml, hown, hts⟩ (c_X1_append l D cI cL cZ (7 * 10 ^ da a + a) b (by omega)) (va_cwS 2 hts gX1_concatenation_X1_append rfl rfl rfl (by decide +kernel) ⟨Nat.le_of_ble_eq_true rfl, Nat.le_of_ble_eq_true rfl⟩) (rP_S (wc := []) hK hP [] rfl) rfl rfl hl.1 rfl (lv_room (Nat.le_of_ble_eq_true rfl)) dX1_concatenation_8 ⟨Nat.zero_le _, Nat.zero_le _⟩) (fun r9 hrr => ?_)
  rw [hrr]
  exact W.lret (pc := 11) (v := (lN ((7 * 10 ^ da a + a) * 10 ^ da b + b))) hx hb hr (fun t ht _ => ⟨_, rfl, (by first | rfl | ((repeat' split) <;> first | rfl | omega)), ht⟩) (fun _ h => absurd h List.not_mem_nil) dX1_concatenation_11
set_option maxHeartbeats 4000000 in
set_option maxRecDepth 100000 in
theorem c_X1_star (l : Launch) (D : va_G) (cI cL cZ : ClassId) (a : Nat) (ha : a < 2 ^ 63) : Met l yX1_star wsX1_star { frames := 1, cells := 0, slots := 0, locals := 26 } (rP D (tyL cI cL cZ) [] [.long (lN a)]) (vp_Sl (fun r => r = (lN (stc a)))) 0 0 (fun _ => False) := by
  refine Met.ofW (cc := cX1_star) (maxL := 2) (ret := (some .long)) (by decide) rfl ?_
  intro pG eG s mG args below meth cG s₁ B hml hpre9
  obtain ⟨rfl, hP, hK⟩ := hpre9
  have hx := B.exec
  have hb := B.bytes
  have hr := B.returns
  have hts := atoms_spec (ws := wsX1_star) B.pre
  have hown : s.vm.findClass RX1 = some mG.cls := findClass_of_methodNamed B.named
  have hlocks := B.notSynchronized
  have hS : va_S (fun _ => False) s.heap s.heap [] := va_S.rf
  have lk0 : (Cond.constantLong RX1 25 (8)).before _ s = true := hts _ (List.mem_cons_of_mem _ (List.mem_of_getElem? (i := 0) rfl))
  have hl := lv_entry ([.long (lN a)]) (n := 2) (Nat.le_of_ble_eq_true rfl)
  rw [lg_entry_eq]
  generalize (lg_sl ([.long (lN a)]) ++ List.replicate (2 - (lg_sl ([.long (lN a)])).length) Slot.unset).toArray = ls at hl ⊢
  have hl : lv_has ls 2 [(0, .long (lN a))] := hl
  refine lv_ldc2 (pc := 0) (v := (lN (8))) hx hb hown lk0 dX1_star_0 ?_
  refine lv_lload_n (pc := 3) hx hb dX1_star_3 rfl (lv_at hl 0 rfl) ?_
  refine vp_callSl (pc := 4) (W.runS (As := [.long (lN 8), .long (lN a)]) (rest := []) ⟨hx, hb, hml, hown, hts⟩ (c_X1_append l D cI cL cZ 8 a (by omega)) (va_cwS 2 hts gX1_star_X1_append rfl rfl rfl (by decide +kernel) ⟨Nat.le_of_ble_eq_true rfl, Nat.le_of_ble_eq_true rfl⟩) (rP_S (wc := []) hK hP [] rfl) rfl rfl hl.1 rfl (lv_room (Nat.le_of_ble_eq_true rfl)) dX1_star_4 ⟨Nat.zero_le _, Nat.zero_le _⟩) (fun r9 hrr => ?_)
  rw [hrr]
  exact W.lret (pc := 7) (v := (lN (8 * 10 ^ da a + a))) hx hb hr (fun t ht _ => ⟨_, rfl, (by first | rfl | ((repeat' split) <;> first | rfl | omega)), ht⟩) (fun _ h => absurd h List.not_mem_nil) dX1_star_7
