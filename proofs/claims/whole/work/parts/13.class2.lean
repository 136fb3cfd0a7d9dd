/-! Expression and Rules: the rest; Steps; addresses and results of steps -/
set_option maxHeartbeats 4000000 in
set_option maxRecDepth 100000 in
theorem c_X3_kindAtN (l : Launch) (D : va_G) (cI cL cZ : ClassId) (he : Nat) (ae : Nat → Nat) (kd : Nat → Nat) (ed : Nat → Nat) (cd : Nat → Nat) (nn : Nat) (x : Int32) (hneg : x < 0) : Met l yX3_kindAt wsX3_kindAt { frames := 0, cells := 0, slots := 0, locals := 0 } (rP D (tyL cI cL cZ) [(he, .inr (2, oE ae nn)), (ae 0, .inl (cI, 18, .inl (nA kd))), (ae 1, .inl (cI, 18, .inl (nA ed))), (ae 2, .inl (cL, 18, .inr (.inl (lA cd))))] [.ref he, .int x]) (vp_Si (fun r => r = (nI (0)))) 0 0 (fun _ => False) := by
  refine Met.ofW (cc := cX3_kindAt) (maxL := 2) (ret := (some .int)) (by decide) rfl ?_
  intro pG eG s mG args below meth cG s₁ B hml hpre9
  obtain ⟨rfl, hP, hK⟩ := hpre9
  have hx := B.exec
  have hb := B.bytes
  have hr := B.returns
  have hts := atoms_spec (ws := wsX3_kindAt) B.pre
  have hown : s.vm.findClass RX3 = some mG.cls := findClass_of_methodNamed B.named
  have hlocks := B.notSynchronized
  have hS : va_S (fun _ => False) s.heap s.heap [] := va_S.rf
  have hl := lv_entry ([.ref he, .int x]) (n := 2) (Nat.le_of_ble_eq_true rfl)
  rw [lg_entry_eq]
  generalize (lg_sl ([.ref he, .int x]) ++ List.replicate (2 - (lg_sl ([.ref he, .int x])).length) Slot.unset).toArray = ls at hl ⊢
  have hl : lv_has ls 2 [(0, .ref he), (1, .int x)] := hl
  refine lv_iload_n (pc := 0) hx hb dX3_kindAt_0 rfl (lv_at hl 1 rfl) ?_
  refine lv_if_lt (pc := 1) (tgt := 21) hx hb dX3_kindAt_1 (by decide) (fun c1 => ?_) (fun c1 => ?_)
  · refine lv_iconst (pc := 21) (v := (nI (0))) hx hb dX3_kindAt_21 (by decide) ?_
    exact W.iret (pc := 22) (v := (nI (0))) hx hb hr (fun t ht _ => ⟨_, rfl, (by first | rfl | ((repeat' split) <;> first | rfl | omega)), ht⟩) (fun _ h => absurd h List.not_mem_nil) dX3_kindAt_22
  · exact absurd hneg c1
set_option maxHeartbeats 4000000 in
set_option maxRecDepth 100000 in
theorem c_X3_withReplaced (l : Launch) (D : va_G) (cI cL cZ : ClassId) (tp tr : Nat) (he : Nat) (ae : Nat → Nat) (kd : Nat → Nat) (ed : Nat → Nat) (cd : Nat → Nat) (nn : Nat) (p1 : Nat) (rep : Nat) (tc : TC kd ed cd nn) (hp1 : p1 < nn) (hrep : rep < 2 ^ 63) : Met l yX3_withReplaced wsX3_withReplaced { frames := 1, cells := 0, slots := 0, locals := 26 } (rPS D (tyL cI cL cZ) tp tr [(he, .inr (2, oE ae nn)), (ae 0, .inl (cI, 18, .inl (nA kd))), (ae 1, .inl (cI, 18, .inl (nA ed))), (ae 2, .inl (cL, 18, .inr (.inl (lA cd))))] [.ref he, .int (nI p1), .long (lN rep)]) (vp_Sl (fun r => r = (lN (wR ed cd nn p1 rep)))) 0 0 (fun _ => False) := by
  refine Met.ofW (cc := cX3_withReplaced) (maxL := 9) (ret := (some .long)) (by decide) rfl ?_
  intro pG eG s mG args below meth cG s₁ B hml hpre9
  obtain ⟨rfl, hP, hK, hZ⟩ := hpre9
  have hx := B.exec
  have hb := B.bytes
  have hr := B.returns
  have hts := atoms_spec (ws := wsX3_withReplaced) B.pre
  have hown : s.vm.findClass RX3 = some mG.cls := findClass_of_methodNamed B.named
  have hlocks := B.notSynchronized
  have hS : va_S (fun _ => False) s.heap s.heap [] := va_S.rf
  have hinX3 : ∀ w ∈ wsX30, w ∈ wsX3_withReplaced := fun w HH => (List.mem_cons_of_mem _ (List.mem_append_right _ HH))
  have lk0 : (Cond.fieldLink RX3 22 "RegexSimplifier$Expression" "nodes" "I").before _ s = true := hts _ (List.mem_cons_of_mem _ (List.mem_append_left _ (List.mem_of_getElem? (i := 0) rfl)))
  have lk1 : (Cond.fieldLink RX3 15 "RegexSimplifier$Expression" "ends" "[I").before _ s = true := hts _ (List.mem_cons_of_mem _ (List.mem_append_left _ (List.mem_of_getElem? (i := 1) rfl)))
  have lk2 : (Cond.fieldLink RX3 18 "RegexSimplifier$Expression" "codes" "[J").before _ s = true := hts _ (List.mem_cons_of_mem _ (List.mem_append_left _ (List.mem_of_getElem? (i := 2) rfl)))
  have hl := lv_entry ([.ref he, .int (nI p1), .long (lN rep)]) (n := 9) (Nat.le_of_ble_eq_true rfl)
  rw [lg_entry_eq]
  generalize (lg_sl ([.ref he, .int (nI p1), .long (lN rep)]) ++ List.replicate (9 - (lg_sl ([.ref he, .int (nI p1), .long (lN rep)])).length) Slot.unset).toArray = ls at hl ⊢
  have hl : lv_has ls 9 [(0, .ref he), (1, .int (nI p1)), (2, .long (lN rep))] := hl
  have hn18 := tc.n18
  have hn0 := tc.n0
  have hq1 := tc.1.q hp1
  have hc0 : cd 0 < 2 ^ 63 := by have := tc.c63 0; unfold kA at this; rwa [if_pos hn0] at this
  refine lv_iload_n (pc := 0) hx hb dX3_withReplaced_0 rfl (lv_at hl 1 rfl) ?_
  refine xn_if_lt (pc := 1) (tgt := 12) hx hb (by omega) dX3_withReplaced_1 (by decide) ?_
  refine lv_iload_n (pc := 4) hx hb dX3_withReplaced_4 rfl (lv_at hl 1 rfl) ?_
  refine lv_aload_n (pc := 5) hx hb dX3_withReplaced_5 rfl (lv_at hl 0 rfl) ?_
  refine va_get (pc := 6) (D := D) (ci := 2) (v := .int (nI nn)) (C := RX3) (T := TX3) (N := 4) hx hb hts hinX3 hown hK hP 0 rfl rfl 3 (by decide) lk0 (fun _ h9 => h9) rfl dX3_withReplaced_6 ?_
  refine xn_icmp_lt (pc := 9) (tgt := 14) hx hb (by omega) (by omega) dX3_withReplaced_9 (by decide) (fun c9 => ?_) (fun c9 => ?_)
  · refine lv_aload_n (pc := 14) hx hb dX3_withReplaced_14 rfl (lv_at hl 0 rfl) ?_
    refine va_get (pc := 15) (D := D) (ci := 2) (v := .int (nI nn)) (C := RX3) (T := TX3) (N := 4) hx hb hts hinX3 hown hK hP 0 rfl rfl 3 (by decide) lk0 (fun _ h9 => h9) rfl dX3_withReplaced_15 ?_
    refine lv_aload_n (pc := 18) hx hb dX3_withReplaced_18 rfl (lv_at hl 0 rfl) ?_
    refine va_get (pc := 19) (D := D) (ci := 2) (v := .ref (ae 1)) (C := RX3) (T := TX3) (N := 4) hx hb hts hinX3 hown hK hP 0 rfl rfl 1 (by decide) lk1 (fun _ h9 => h9) rfl dX3_withReplaced_19 ?_
    refine lv_iload_n (pc := 22) hx hb dX3_withReplaced_22 rfl (lv_at hl 1 rfl) ?_
    refine xa_iald (pc := 23) hx hb hK hP 2 0 rfl rfl (by omega) (by omega) dX3_withReplaced_23 ?_
    refine xn_isub (pc := 24) hx hb (by omega) dX3_withReplaced_24 ?_
    refine lv_istore (pc := 25) (lv' := [(4, .int (nI (nn - (ed p1)))), (0, .ref he), (1, .int (nI p1)), (2, .long (lN rep))]) hx hb dX3_withReplaced_25 hl (by decide) rfl (fun ls hl => ?_)
    refine lv_aload_n (pc := 27) hx hb dX3_withReplaced_27 rfl (lv_at hl 1 rfl) ?_
    refine va_get (pc := 28) (D := D) (ci := 2) (v := .ref (ae 2)) (C := RX3) (T := TX3) (N := 4) hx hb hts hinX3 hown hK hP 0 rfl rfl 2 (by decide) lk2 (fun _ h9 => h9) rfl dX3_withReplaced_28 ?_
    refine lv_iconst (pc := 31) (v := (nI (0))) hx hb dX3_withReplaced_31 (by decide) ?_
    refine xa_lald (pc := 32) hx hb hK hP 3 1 rfl rfl (by omega) (by omega) dX3_withReplaced_32 ?_
    refine lv_aload_n (pc := 33) hx hb dX3_withReplaced_33 rfl (lv_at hl 1 rfl) ?_
    refine va_get (pc := 34) (D := D) (ci := 2) (v := .int (nI nn)) (C := RX3) (T := TX3) (N := 4) hx hb hts hinX3 hown hK hP 0 rfl rfl 3 (by decide) lk0 (fun _ h9 => h9) rfl dX3_withReplaced_34 ?_
    refine lv_iload_n (pc := 37) hx hb dX3_withReplaced_37 rfl (lv_at hl 2 rfl) ?_
    refine xn_isub (pc := 38) hx hb (by omega) dX3_withReplaced_38 ?_
    refine vp_callSl (pc := 39) (W.runS (As := [.int (nI (nn - p1))]) (rest := [.long (lN (cd 0))]) ⟨hx, hb, hml, hown, hts⟩ (c_X1_powerOfTen l D cI cL cZ tp tr (nn - p1) (by omega)) (va_cwS 1 hts gX3_withReplaced_X1_powerOfTen rfl rfl rfl (by decide +kernel) ⟨Nat.le_of_ble_eq_true rfl, Nat.le_of_ble_eq_true rfl⟩) (rPS_S (wc := []) hK hP hZ hS [] rfl) rfl rfl hl.1 rfl (lv_room (Nat.le_of_ble_eq_true rfl)) dX3_withReplaced_39 ⟨Nat.zero_le _, Nat.zero_le _⟩) (fun r hrr => ?_)
    rw [hrr]
    refine W.eq (g2 := F0 mG 42 ls [.long (lN (10 ^ (nn - p1))), .long (lN (cd 0))]) (congrArg (fun zz => F0 mG 42 ls [.long (lN zz), .long (lN (cd 0))]) (if_pos (by omega))) ?_
    refine xn_ldiv (pc := 42) hx hb hc0 (Nat.pow_pos (by decide)) (pow_le18 (by omega)) dX3_withReplaced_42 ?_
    refine lv_lstore (pc := 43) (lv' := [(5, .long (lN ((cd 0) / (10 ^ (nn - p1))))), (4, .int (nI (nn - (ed p1)))), (0, .ref he), (1, .int (nI p1)), (2, .long (lN rep))]) hx hb dX3_withReplaced_43 hl (by decide) rfl (fun ls hl => ?_)
    refine lv_aload_n (pc := 45) hx hb dX3_withReplaced_45 rfl (lv_at hl 2 rfl) ?_
    refine va_get (pc := 46) (D := D) (ci := 2) (v := .ref (ae 2)) (C := RX3) (T := TX3) (N := 4) hx hb hts hinX3 hown hK hP 0 rfl rfl 2 (by decide) lk2 (fun _ h9 => h9) rfl dX3_withReplaced_46 ?_
    refine lv_iconst (pc := 49) (v := (nI (0))) hx hb dX3_withReplaced_49 (by decide) ?_
    refine xa_lald (pc := 50) hx hb hK hP 3 1 rfl rfl (by omega) (by omega) dX3_withReplaced_50 ?_
    refine lv_iload (pc := 51) hx hb dX3_withReplaced_51 (lv_at hl 1 rfl) ?_
    refine vp_callSl (pc := 53) (W.runS (As := [.int (nI (nn - (ed p1)))]) (rest := [.long (lN (cd 0))]) ⟨hx, hb, hml, hown, hts⟩ (c_X1_powerOfTen l D cI cL cZ tp tr (nn - (ed p1)) (by omega)) (va_cwS 1 hts gX3_withReplaced_X1_powerOfTen rfl rfl rfl (by decide +kernel) ⟨Nat.le_of_ble_eq_true rfl, Nat.le_of_ble_eq_true rfl⟩) (rPS_S (wc := []) hK hP hZ hS [] rfl) rfl rfl hl.1 rfl (lv_room (Nat.le_of_ble_eq_true rfl)) dX3_withReplaced_53 ⟨Nat.zero_le _, Nat.zero_le _⟩) (fun r hrr => ?_)
    rw [hrr]
    refine W.eq (g2 := F0 mG 56 ls [.long (lN (10 ^ (nn - ed p1))), .long (lN (cd 0))]) (congrArg (fun zz => F0 mG 56 ls [.long (lN zz), .long (lN (cd 0))]) (if_pos (by omega))) ?_
    refine xn_lrem (pc := 56) hx hb hc0 (Nat.pow_pos (by decide)) (pow_le18 (by omega)) dX3_withReplaced_56 ?_
    refine lv_lstore (pc := 57) (lv' := [(7, .long (lN ((cd 0) % (10 ^ (nn - ed p1))))), (5, .long (lN ((cd 0) / (10 ^ (nn - p1))))), (4, .int (nI (nn - (ed p1)))), (0, .ref he), (1, .int (nI p1)), (2, .long (lN rep))]) hx hb dX3_withReplaced_57 hl (by decide) rfl (fun ls hl => ?_)
    refine lv_lload (pc := 59) hx hb dX3_withReplaced_59 (lv_at hl 1 rfl) ?_
    refine lv_lload_n (pc := 61) hx hb dX3_withReplaced_61 rfl (lv_at hl 5 rfl) ?_
    refine vp_callSl (pc := 62) (W.runS (As := [.long (lN ((cd 0) / (10 ^ (nn - p1)))), .long (lN rep)]) (rest := []) ⟨hx, hb, hml, hown, hts⟩ (c_X1_append l D cI cL cZ ((cd 0) / (10 ^ (nn - p1))) rep hrep) (va_cwS 2 hts gX3_withReplaced_X1_append rfl rfl rfl (by decide +kernel) ⟨Nat.le_of_ble_eq_true rfl, Nat.le_of_ble_eq_true rfl⟩) (rP_S (wc := []) hK hP [] rfl) rfl rfl hl.1 rfl (lv_room (Nat.le_of_ble_eq_true rfl)) dX3_withReplaced_62 ⟨Nat.zero_le _, Nat.zero_le _⟩) (fun r hrr => ?_)
    rw [hrr]
    refine lv_iload (pc := 65) hx hb dX3_withReplaced_65 (lv_at hl 2 rfl) ?_
    refine vp_callSl (pc := 67) (W.runS (As := [.int (nI (nn - (ed p1)))]) (rest := [.long (lN (((cd 0) / (10 ^ (nn - p1))) * 10 ^ da rep + rep))]) ⟨hx, hb, hml, hown, hts⟩ (c_X1_powerOfTen l D cI cL cZ tp tr (nn - (ed p1)) (by omega)) (va_cwS 1 hts gX3_withReplaced_X1_powerOfTen rfl rfl rfl (by decide +kernel) ⟨Nat.le_of_ble_eq_true rfl, Nat.le_of_ble_eq_true rfl⟩) (rPS_S (wc := []) hK hP hZ hS [] rfl) rfl rfl hl.1 rfl (lv_room (Nat.le_of_ble_eq_true rfl)) dX3_withReplaced_67 ⟨Nat.zero_le _, Nat.zero_le _⟩) (fun r hrr => ?_)
    rw [hrr]
    refine W.eq (g2 := F0 mG 70 ls [.long (lN (10 ^ (nn - ed p1))), .long (lN (((cd 0) / (10 ^ (nn - p1))) * 10 ^ da rep + rep))]) (congrArg (fun zz => F0 mG 70 ls [.long (lN zz), .long (lN (((cd 0) / (10 ^ (nn - p1))) * 10 ^ da rep + rep))]) (if_pos (by omega))) ?_
    refine xn_lmul (pc := 70) hx hb  dX3_withReplaced_70 ?_
    refine lv_lload (pc := 71) hx hb dX3_withReplaced_71 (lv_at hl 0 rfl) ?_
    refine xn_ladd (pc := 73) hx hb  dX3_withReplaced_73 ?_
    exact W.lret (pc := 74) (v := (lN (((((cd 0) / (10 ^ (nn - p1))) * 10 ^ da rep + rep) * (10 ^ (nn - ed p1))) + ((cd 0) % (10 ^ (nn - ed p1)))))) hx hb hr (fun t ht _ => ⟨_, rfl, (by first | rfl | ((repeat' split) <;> first | rfl | omega)), ht⟩) (fun _ h => absurd h List.not_mem_nil) dX3_withReplaced_74
  · exact absurd c9 (by omega)
set_option maxHeartbeats 4000000 in
set_option maxRecDepth 100000 in
theorem c_X3_starsAround (l : Launch) (D : va_G) (cI cL cZ : ClassId) (he : Nat) (ae : Nat → Nat) (kd : Nat → Nat) (ed : Nat → Nat) (cd : Nat → Nat) (nn : Nat) (p1 : Nat) (tc : TC kd ed cd nn) (hp1 : p1 < nn) : Met l yX3_starsAround wsX3_starsAround { frames := 0, cells := 0, slots := 0, locals := 0 } (rP D (tyL cI cL cZ) [(he, .inr (2, oE ae nn)), (ae 0, .inl (cI, 18, .inl (nA kd))), (ae 1, .inl (cI, 18, .inl (nA ed))), (ae 2, .inl (cL, 18, .inr (.inl (lA cd))))] [.ref he, .int (nI p1)]) (vp_Si (fun r => r = (nI (sAr kd ed p1)))) 0 0 (fun _ => False) := by
  refine Met.ofW (cc := cX3_starsAround) (maxL := 4) (ret := (some .int)) (by decide) rfl ?_
  intro pG eG s mG args below meth cG s₁ B hml hpre9
  obtain ⟨rfl, hP, hK⟩ := hpre9
  have hx := B.exec
  have hb := B.bytes
  have hr := B.returns
  have hts := atoms_spec (ws := wsX3_starsAround) B.pre
  have hown : s.vm.findClass RX3 = some mG.cls := findClass_of_methodNamed B.named
  have hlocks := B.notSynchronized
  have hS : va_S (fun _ => False) s.heap s.heap [] := va_S.rf
  have hinX3 : ∀ w ∈ wsX30, w ∈ wsX3_starsAround := fun w HH => (List.mem_cons_of_mem _ (List.mem_append_right _ HH))
  have lk0 : (Cond.fieldLink RX3 22 "RegexSimplifier$Expression" "nodes" "I").before _ s = true := hts _ (List.mem_cons_of_mem _ (List.mem_append_left _ (List.mem_of_getElem? (i := 0) rfl)))
  have lk1 : (Cond.fieldLink RX3 9 "RegexSimplifier$Expression" "kinds" "[I").before _ s = true := hts _ (List.mem_cons_of_mem _ (List.mem_append_left _ (List.mem_of_getElem? (i := 1) rfl)))
  have lk2 : (Cond.fieldLink RX3 15 "RegexSimplifier$Expression" "ends" "[I").before _ s = true := hts _ (List.mem_cons_of_mem _ (List.mem_append_left _ (List.mem_of_getElem? (i := 2) rfl)))
  have hl := lv_entry ([.ref he, .int (nI p1)]) (n := 4) (Nat.le_of_ble_eq_true rfl)
  rw [lg_entry_eq]
  generalize (lg_sl ([.ref he, .int (nI p1)]) ++ List.replicate (4 - (lg_sl ([.ref he, .int (nI p1)])).length) Slot.unset).toArray = ls at hl ⊢
  have hl : lv_has ls 4 [(0, .ref he), (1, .int (nI p1))] := hl
  have hn18 := tc.n18
  have hn0 := tc.n0
  refine lv_iconst (pc := 0) (v := (nI (0))) hx hb dX3_starsAround_0 (by decide) ?_
  refine lv_istore_n (pc := 1) (lv' := [(2, .int (nI 0)), (0, .ref he), (1, .int (nI p1))]) hx hb dX3_starsAround_1 rfl hl (by decide) rfl (fun ls hl => ?_)
  refine lv_iconst (pc := 2) (v := (nI (0))) hx hb dX3_starsAround_2 (by decide) ?_
  refine lv_istore_n (pc := 3) (lv' := [(3, .int (nI 0)), (2, .int (nI 0)), (0, .ref he), (1, .int (nI p1))]) hx hb dX3_starsAround_3 rfl hl (by decide) rfl (fun ls hl => ?_)
  have loop4 : ∀ (fuel : Nat) (k : Nat) (o : Nat) (ls : Array Slot), p1 + 1 - k < fuel → (k ≤ p1 + 1) → (o = fa_cnt (fun j => decide (kd j = 8 ∧ p1 < ed j)) k) → (o ≤ k) → lv_has ls 4 [(0, .ref he), (1, .int (nI p1)), (2, .int (nI o)), (3, .int (nI k))] → W pG l eG (headSpec wsX3_starsAround { frames := 0, cells := 0, slots := 0, locals := 0 }).room s mG [.ref he, .int (nI p1)].toArray below meth cG s.heap [] 0 0 (MQ below (vp_Si (fun r => r = (nI (sAr kd ed p1)))) [.ref he, .int (nI p1)].toArray s 0 0 (fun _ => False)) (F0 mG 4 ls []) := by
    intro fuel
    induction fuel with
    | zero => intro k o ls hmeas i1 i2 i3 hl; exact absurd hmeas (Nat.not_lt_zero _)
    | succ fuel ih4 =>
      intro k o ls hmeas i1 i2 i3 hl
      refine lv_iload_n (pc := 4) hx hb dX3_starsAround_4 rfl (lv_at hl 3 rfl) ?_
      refine lv_iload_n (pc := 5) hx hb dX3_starsAround_5 rfl (lv_at hl 1 rfl) ?_
      refine xn_icmp_gt (pc := 6) (tgt := 47) hx hb (by omega) (by omega) dX3_starsAround_6 (by decide) (fun c6 => ?_) (fun c6 => ?_)
      · refine lv_iload_n (pc := 47) hx hb dX3_starsAround_47 rfl (lv_at hl 2 rfl) ?_
        exact W.iret (pc := 48) (v := (nI (o))) hx hb hr (fun t ht _ => ⟨_, rfl, (by rw [i2]; unfold sAr; rw [show k = p1 + 1 from by omega]), ht⟩) (fun _ h => absurd h List.not_mem_nil) dX3_starsAround_48
      · refine lv_iload_n (pc := 9) hx hb dX3_starsAround_9 rfl (lv_at hl 3 rfl) ?_
        refine lv_aload_n (pc := 10) hx hb dX3_starsAround_10 rfl (lv_at hl 0 rfl) ?_
        refine va_get (pc := 11) (D := D) (ci := 2) (v := .int (nI nn)) (C := RX3) (T := TX3) (N := 4) hx hb hts hinX3 hown hK hP 0 rfl rfl 3 (by decide) lk0 (fun _ h9 => h9) rfl dX3_starsAround_11 ?_
        refine xn_icmp_ge (pc := 14) (tgt := 47) hx hb (by omega) (by omega) dX3_starsAround_14 (by decide) (fun c14 => ?_) (fun c14 => ?_)
        · refine lv_iload_n (pc := 47) hx hb dX3_starsAround_47 rfl (lv_at hl 2 rfl) ?_
          exact W.iret (pc := 48) (v := (nI (o))) hx hb hr (fun t ht _ => ⟨_, rfl, (by rw [i2]; unfold sAr; rw [show k = p1 + 1 from by omega]), ht⟩) (fun _ h => absurd h List.not_mem_nil) dX3_starsAround_48
        · refine lv_aload_n (pc := 17) hx hb dX3_starsAround_17 rfl (lv_at hl 0 rfl) ?_
          refine va_get (pc := 18) (D := D) (ci := 2) (v := .ref (ae 0)) (C := RX3) (T := TX3) (N := 4) hx hb hts hinX3 hown hK hP 0 rfl rfl 0 (by decide) lk1 (fun _ h9 => h9) rfl dX3_starsAround_18 ?_
          refine lv_iload_n (pc := 21) hx hb dX3_starsAround_21 rfl (lv_at hl 3 rfl) ?_
          refine xa_iald (pc := 22) hx hb hK hP 1 0 rfl rfl (by omega) (by omega) dX3_starsAround_22 ?_
          refine lv_bipush (pc := 23) (v := (nI (8))) hx hb dX3_starsAround_23 (by decide) ?_
          have hqk := tc.1.q (show k < nn by omega)
          refine xn_icmp_ne (pc := 25) (tgt := 41) hx hb (by omega) (by omega) dX3_starsAround_25 (by decide) (fun c25 => ?_) (fun c25 => ?_)
          · refine lv_iinc (pc := 41) (v := (nI (k + 1))) (lv' := [(3, .int (nI (k + 1))), (0, .ref he), (1, .int (nI p1)), (2, .int (nI o))]) hx hb dX3_starsAround_41 hl (k := 3) rfl (nI_incr _) (by decide) rfl (fun ls hl => ?_)
            refine lv_goto (pc := 44) (tgt := 4) hx hb dX3_starsAround_44 (by decide) ?_
            exact ih4 (k + 1) o ls (by omega) (by omega) (by first | (rw [fa_cnt_yes (by simp [c6, c14, c25]), i2]; done) | (rw [fa_cnt_no (by simp [c6, c14, c25]), i2]; done)) (by omega) (lv_sub hl [1, 2, 3, 0] rfl)
          · refine lv_aload_n (pc := 28) hx hb dX3_starsAround_28 rfl (lv_at hl 0 rfl) ?_
            refine va_get (pc := 29) (D := D) (ci := 2) (v := .ref (ae 1)) (C := RX3) (T := TX3) (N := 4) hx hb hts hinX3 hown hK hP 0 rfl rfl 1 (by decide) lk2 (fun _ h9 => h9) rfl dX3_starsAround_29 ?_
            refine lv_iload_n (pc := 32) hx hb dX3_starsAround_32 rfl (lv_at hl 3 rfl) ?_
            refine xa_iald (pc := 33) hx hb hK hP 2 0 rfl rfl (by omega) (by omega) dX3_starsAround_33 ?_
            refine lv_iload_n (pc := 34) hx hb dX3_starsAround_34 rfl (lv_at hl 1 rfl) ?_
            refine xn_icmp_le (pc := 35) (tgt := 41) hx hb (by omega) (by omega) dX3_starsAround_35 (by decide) (fun c35 => ?_) (fun c35 => ?_)
            · refine lv_iinc (pc := 41) (v := (nI (k + 1))) (lv' := [(3, .int (nI (k + 1))), (0, .ref he), (1, .int (nI p1)), (2, .int (nI o))]) hx hb dX3_starsAround_41 hl (k := 3) rfl (nI_incr _) (by decide) rfl (fun ls hl => ?_)
              refine lv_goto (pc := 44) (tgt := 4) hx hb dX3_starsAround_44 (by decide) ?_
              exact ih4 (k + 1) o ls (by omega) (by omega) (by first | (rw [fa_cnt_yes (by simp [c6, c14, c25, c35]), i2]; done) | (rw [fa_cnt_no (by simp [c6, c14, c25, c35]), i2]; done)) (by omega) (lv_sub hl [1, 2, 3, 0] rfl)
            · refine lv_iinc (pc := 38) (v := (nI (o + 1))) (lv' := [(2, .int (nI (o + 1))), (0, .ref he), (1, .int (nI p1)), (3, .int (nI k))]) hx hb dX3_starsAround_38 hl (k := 2) rfl (nI_incr _) (by decide) rfl (fun ls hl => ?_)
              refine lv_iinc (pc := 41) (v := (nI (k + 1))) (lv' := [(3, .int (nI (k + 1))), (2, .int (nI (o + 1))), (0, .ref he), (1, .int (nI p1))]) hx hb dX3_starsAround_41 hl (k := 3) rfl (nI_incr _) (by decide) rfl (fun ls hl => ?_)
              refine lv_goto (pc := 44) (tgt := 4) hx hb dX3_starsAround_44 (by decide) ?_
              exact ih4 (k + 1) (o + 1) ls (by omega) (by omega) (by first | (rw [fa_cnt_yes (by simp [c6, c14, c25, c35]), i2]; done) | (rw [fa_cnt_no (by simp [c6, c14, c25, c35]), i2]; done)) (by omega) (lv_sub hl [2, 3, 1, 0] rfl)
  exact loop4 (_ + 1) 0 0 ls (Nat.lt_succ_self _) (by omega) rfl (by omega) (lv_sub hl [2, 3, 1, 0] rfl)
set_option maxHeartbeats 4000000 in
set_option maxRecDepth 100000 in
theorem c_X3_deepestStars (l : Launch) (D : va_G) (cI cL cZ : ClassId) (he : Nat) (ae : Nat → Nat) (kd : Nat → Nat) (ed : Nat → Nat) (cd : Nat → Nat) (nn : Nat) (tc : TC kd ed cd nn) : Met l yX3_deepestStars wsX3_deepestStars { frames := 1, cells := 0, slots := 0, locals := 40 } (rP D (tyL cI cL cZ) [(he, .inr (2, oE ae nn)), (ae 0, .inl (cI, 18, .inl (nA kd))), (ae 1, .inl (cI, 18, .inl (nA ed))), (ae 2, .inl (cL, 18, .inr (.inl (lA cd))))] [.ref he]) (vp_Si (fun r => r = (nI (dSF kd ed nn)))) 0 0 (fun _ => False) := by
  refine Met.ofW (cc := cX3_deepestStars) (maxL := 3) (ret := (some .int)) (by decide) rfl ?_
  intro pG eG s mG args below meth cG s₁ B hml hpre9
  obtain ⟨rfl, hP, hK⟩ := hpre9
  have hx := B.exec
  have hb := B.bytes
  have hr := B.returns
  have hts := atoms_spec (ws := wsX3_deepestStars) B.pre
  have hown : s.vm.findClass RX3 = some mG.cls := findClass_of_methodNamed B.named
  have hlocks := B.notSynchronized
  have hS : va_S (fun _ => False) s.heap s.heap [] := va_S.rf
  have hinX3 : ∀ w ∈ wsX30, w ∈ wsX3_deepestStars := fun w HH => (List.mem_cons_of_mem _ (List.mem_append_right _ HH))
  have lk0 : (Cond.fieldLink RX3 22 "RegexSimplifier$Expression" "nodes" "I").before _ s = true := hts _ (List.mem_cons_of_mem _ (List.mem_append_left _ (List.mem_of_getElem? (i := 0) rfl)))
  have lk1 : (Cond.methodLink RX3 44 Lib.Math.max.name).before _ s = true := hts _ (List.mem_cons_of_mem _ (List.mem_append_left _ (List.mem_of_getElem? (i := 1) rfl)))
  have lk2 : (Cond.static Lib.Math.max.name).before _ s = true := hts _ (List.mem_cons_of_mem _ (List.mem_append_left _ (List.mem_of_getElem? (i := 2) rfl)))
  have lk3 : (Cond.initialized "java/lang/Math").before _ s = true := hts _ (List.mem_cons_of_mem _ (List.mem_append_left _ (List.mem_of_getElem? (i := 3) rfl)))
  have lk4 : (Cond.code Lib.Math.max.name Lib.Math.max.code 2 (some .int)).before _ s = true := hts _ (List.mem_cons_of_mem _ (List.mem_append_left _ (List.mem_of_getElem? (i := 4) rfl)))
  have hl := lv_entry ([.ref he]) (n := 3) (Nat.le_of_ble_eq_true rfl)
  rw [lg_entry_eq]
  generalize (lg_sl ([.ref he]) ++ List.replicate (3 - (lg_sl ([.ref he])).length) Slot.unset).toArray = ls at hl ⊢
  have hl : lv_has ls 3 [(0, .ref he)] := hl
  have hn18 := tc.n18
  have hn0 := tc.n0
  refine lv_iconst (pc := 0) (v := (nI (0))) hx hb dX3_deepestStars_0 (by decide) ?_
  refine lv_istore_n (pc := 1) (lv' := [(1, .int (nI 0)), (0, .ref he)]) hx hb dX3_deepestStars_1 rfl hl (by decide) rfl (fun ls hl => ?_)
  refine lv_iconst (pc := 2) (v := (nI (0))) hx hb dX3_deepestStars_2 (by decide) ?_
  refine lv_istore_n (pc := 3) (lv' := [(2, .int (nI 0)), (1, .int (nI 0)), (0, .ref he)]) hx hb dX3_deepestStars_3 rfl hl (by decide) rfl (fun ls hl => ?_)
  have loop4 : ∀ (fuel : Nat) (k : Nat) (o : Nat) (ls : Array Slot), nn - k < fuel → (k ≤ nn) → (o = dSF kd ed k) → (o ≤ 18) → lv_has ls 3 [(0, .ref he), (1, .int (nI o)), (2, .int (nI k))] → W pG l eG (headSpec wsX3_deepestStars { frames := 1, cells := 0, slots := 0, locals := 40 }).room s mG [.ref he].toArray below meth cG s.heap [] 0 0 (MQ below (vp_Si (fun r => r = (nI (dSF kd ed nn)))) [.ref he].toArray s 0 0 (fun _ => False)) (F0 mG 4 ls []) := by
    intro fuel
    induction fuel with
    | zero => intro k o ls hmeas i1 i2 i3 hl; exact absurd hmeas (Nat.not_lt_zero _)
    | succ fuel ih4 =>
      intro k o ls hmeas i1 i2 i3 hl
      refine lv_iload_n (pc := 4) hx hb dX3_deepestStars_4 rfl (lv_at hl 2 rfl) ?_
      refine lv_aload_n (pc := 5) hx hb dX3_deepestStars_5 rfl (lv_at hl 0 rfl) ?_
      refine va_get (pc := 6) (D := D) (ci := 2) (v := .int (nI nn)) (C := RX3) (T := TX3) (N := 4) hx hb hts hinX3 hown hK hP 0 rfl rfl 3 (by decide) lk0 (fun _ h9 => h9) rfl dX3_deepestStars_6 ?_
      refine xn_icmp_ge (pc := 9) (tgt := 28) hx hb (by omega) (by omega) dX3_deepestStars_9 (by decide) (fun c9 => ?_) (fun c9 => ?_)
      · refine lv_iload_n (pc := 28) hx hb dX3_deepestStars_28 rfl (lv_at hl 1 rfl) ?_
        exact W.iret (pc := 29) (v := (nI (o))) hx hb hr (fun t ht _ => ⟨_, rfl, (by rw [i2, show k = nn from by omega]), ht⟩) (fun _ h => absurd h List.not_mem_nil) dX3_deepestStars_29
      · refine lv_iload_n (pc := 12) hx hb dX3_deepestStars_12 rfl (lv_at hl 1 rfl) ?_
        refine lv_aload_n (pc := 13) hx hb dX3_deepestStars_13 rfl (lv_at hl 0 rfl) ?_
        refine lv_iload_n (pc := 14) hx hb dX3_deepestStars_14 rfl (lv_at hl 2 rfl) ?_
        refine vp_callSi (pc := 15) (W.runV (As := [.int (nI k)]) (rest := [.int (nI o)]) ⟨hx, hb, hml, hown, hts⟩ (c_X3_starsAround l D cI cL cZ he ae kd ed cd nn k tc (by omega)) (cwV 1 hts gX3_deepestStars_X3_starsAround rfl rfl rfl (by decide +kernel) ⟨Nat.le_of_ble_eq_true rfl, Nat.le_of_ble_eq_true rfl⟩) (rP_V (wc := [(he, .inr (2, oE ae nn)), (ae 0, .inl (cI, 18, .inl (nA kd))), (ae 1, .inl (cI, 18, .inl (nA ed))), (ae 2, .inl (cL, 18, .inr (.inl (lA cd))))]) (ci := 2) (q0 := 0) hK hP [0, 1, 2, 3] rfl rfl rfl) rfl rfl hl.1 rfl (lv_room (Nat.le_of_ble_eq_true rfl)) dX3_deepestStars_15 ⟨Nat.zero_le _, Nat.zero_le _⟩) (fun r hrr => ?_)
        rw [hrr]
        refine va_mmax (pc := 18) hx hb (hml.trans hl.1.symm) hown lk1 lk2 lk3 lk4 (Nat.le_of_ble_eq_true rfl) (Nat.le_of_ble_eq_true rfl) (Nat.zero_le _) (Nat.zero_le _) dX3_deepestStars_18 ?_
        refine W.eq (g2 := F0 mG 21 ls [.int (nI (if o < sAr kd ed k then sAr kd ed k else o))]) (congrArg (fun zz => F0 mG 21 ls [.int zz]) (nI_max i3 (Nat.le_trans (fa_cnt_le _ _) (by omega)))) ?_
        refine lv_istore_n (pc := 21) (lv' := [(1, .int (nI (if o < sAr kd ed k then sAr kd ed k else o))), (0, .ref he), (2, .int (nI k))]) hx hb dX3_deepestStars_21 rfl hl (by decide) rfl (fun ls hl => ?_)
        refine lv_iinc (pc := 22) (v := (nI (k + 1))) (lv' := [(2, .int (nI (k + 1))), (1, .int (nI (if o < sAr kd ed k then sAr kd ed k else o))), (0, .ref he)]) hx hb dX3_deepestStars_22 hl (k := 2) rfl (nI_incr _) (by decide) rfl (fun ls hl => ?_)
        refine lv_goto (pc := 25) (tgt := 4) hx hb dX3_deepestStars_25 (by decide) ?_
        exact ih4 (k + 1) (if o < sAr kd ed k then sAr kd ed k else o) ls (by omega) (by omega) (by rw [i2]; rfl) (by have h5 : sAr kd ed k ≤ k + 1 := fa_cnt_le _ _; split <;> omega) (lv_sub hl [2, 1, 0] rfl)
  exact loop4 (_ + 1) 0 0 ls (Nat.lt_succ_self _) (by omega) rfl (by omega) (lv_sub hl [2, 1, 0] rfl)
set_option maxHeartbeats 4000000 in
set_option maxRecDepth 100000 in
theorem c_X4_fits (l : Launch) (D : va_G) (cI cL cZ : ClassId) (tp tr : Nat) (he : Nat) (ae : Nat → Nat) (kd : Nat → Nat) (ed : Nat → Nat) (cd : Nat → Nat) (nn : Nat) (rl : Nat) (p1 : Nat) (tc : TC kd ed cd nn) (hrl : rl < 1000) (hp1 : p1 < 1000) (hmr : ∀ r p, mR (kA kd nn) (kA cd nn) (rA ed nn) (sA kd cd nn) r p < 2 ^ 63) : Met l yX4_fits wsX4_fits { frames := 4, cells := 0, slots := 0, locals := 102 } (rPS D (tyL cI cL cZ) tp tr [(he, .inr (2, oE ae nn)), (ae 0, .inl (cI, 18, .inl (nA kd))), (ae 1, .inl (cI, 18, .inl (nA ed))), (ae 2, .inl (cL, 18, .inr (.inl (lA cd))))] [.ref he, .int (nI rl), .int (nI p1)]) (vp_Si (fun r => r = (nI (pN (mR (kA kd nn) (kA cd nn) (rA ed nn) (sA kd cd nn) rl p1 ≠ 0))))) 0 0 (fun _ => False) := by
  refine Met.ofW (cc := cX4_fits) (maxL := 3) (ret := (some .boolean)) (by decide) rfl ?_
  intro pG eG s mG args below meth cG s₁ B hml hpre9
  obtain ⟨rfl, hP, hK, hZ⟩ := hpre9
  have hx := B.exec
  have hb := B.bytes
  have hr := B.returns
  have hts := atoms_spec (ws := wsX4_fits) B.pre
  have hown : s.vm.findClass RX4 = some mG.cls := findClass_of_methodNamed B.named
  have hlocks := B.notSynchronized
  have hS : va_S (fun _ => False) s.heap s.heap [] := va_S.rf
  have hl := lv_entry ([.ref he, .int (nI rl), .int (nI p1)]) (n := 3) (Nat.le_of_ble_eq_true rfl)
  rw [lg_entry_eq]
  generalize (lg_sl ([.ref he, .int (nI rl), .int (nI p1)]) ++ List.replicate (3 - (lg_sl ([.ref he, .int (nI rl), .int (nI p1)])).length) Slot.unset).toArray = ls at hl ⊢
  have hl : lv_has ls 3 [(0, .ref he), (1, .int (nI rl)), (2, .int (nI p1))] := hl
  refine lv_aload_n (pc := 0) hx hb dX4_fits_0 rfl (lv_at hl 0 rfl) ?_
  refine lv_iload_n (pc := 1) hx hb dX4_fits_1 rfl (lv_at hl 1 rfl) ?_
  refine lv_iload_n (pc := 2) hx hb dX4_fits_2 rfl (lv_at hl 2 rfl) ?_
  refine vp_callSl (pc := 3) (W.runS (As := [.ref he, .int (nI rl), .int (nI p1)]) (rest := []) ⟨hx, hb, hml, hown, hts⟩ (c_X4_replacement l D cI cL cZ tp tr he ae kd ed cd nn rl p1 tc (by omega) (by omega)) (va_cwS 3 hts gX4_fits_X4_replacement rfl rfl rfl (by decide +kernel) ⟨Nat.le_of_ble_eq_true rfl, Nat.le_of_ble_eq_true rfl⟩) (rPS_S (wc := [(he, .inr (2, oE ae nn)), (ae 0, .inl (cI, 18, .inl (nA kd))), (ae 1, .inl (cI, 18, .inl (nA ed))), (ae 2, .inl (cL, 18, .inr (.inl (lA cd))))]) hK hP hZ hS [0, 1, 2, 3] rfl) rfl rfl hl.1 rfl (lv_room (Nat.le_of_ble_eq_true rfl)) dX4_fits_3 ⟨Nat.zero_le _, Nat.zero_le _⟩) (fun r hrr => ?_)
  rw [hrr]
  refine lv_lconst (pc := 6) (v := (lN (0))) hx hb dX4_fits_6 (by decide) ?_
  refine xnl_eq (pc := 7) (tgt := 15) hx hb (hmr _ _) (by omega) dX4_fits_7 dX4_fits_8 (by decide) (fun c7 => ?_) (fun c7 => ?_)
  · refine lv_iconst (pc := 15) (v := (nI (0))) hx hb dX4_fits_15 (by decide) ?_
    exact W.zret (pc := 16) (v := (nI (0))) (ty := .boolean) hx hb hr (by decide) (fun t ht _ => ⟨_, rfl, (by first | exact congrArg nI (pN_t c7).symm | exact congrArg nI (pN_f (fun h => h c7)).symm), ht⟩) (fun _ h => absurd h List.not_mem_nil) dX4_fits_16
  · refine lv_iconst (pc := 11) (v := (nI (1))) hx hb dX4_fits_11 (by decide) ?_
    refine lv_goto (pc := 12) (tgt := 16) hx hb dX4_fits_12 (by decide) ?_
    exact W.zret (pc := 16) (v := (nI (1))) (ty := .boolean) hx hb hr (by decide) (fun t ht _ => ⟨_, rfl, (by first | exact congrArg nI (pN_t c7).symm | exact congrArg nI (pN_f (fun h => h c7)).symm), ht⟩) (fun _ h => absurd h List.not_mem_nil) dX4_fits_16
set_option maxHeartbeats 4000000 in
set_option maxRecDepth 100000 in
theorem c_X4_firstFittingRule (l : Launch) (D : va_G) (cI cL cZ : ClassId) (tp tr : Nat) (he : Nat) (ae : Nat → Nat) (kd : Nat → Nat) (ed : Nat → Nat) (cd : Nat → Nat) (nn : Nat) (p1 : Nat) (tc : TC kd ed cd nn) (hp1 : p1 < 1000) (hmr : ∀ r p, mR (kA kd nn) (kA cd nn) (rA ed nn) (sA kd cd nn) r p < 2 ^ 63) : Met l yX4_firstFittingRule wsX4_firstFittingRule { frames := 4, cells := 0, slots := 0, locals := 102 } (rPS D (tyL cI cL cZ) tp tr [(he, .inr (2, oE ae nn)), (ae 0, .inl (cI, 18, .inl (nA kd))), (ae 1, .inl (cI, 18, .inl (nA ed))), (ae 2, .inl (cL, 18, .inr (.inl (lA cd))))] [.ref he, .int (nI p1)]) (vp_Si (fun r => r = (fRI (mR (kA kd nn) (kA cd nn) (rA ed nn) (sA kd cd nn)) p1))) 0 0 (fun _ => False) := by
  refine Met.ofW (cc := cX4_firstFittingRule) (maxL := 3) (ret := (some .int)) (by decide) rfl ?_
  intro pG eG s mG args below meth cG s₁ B hml hpre9
  obtain ⟨rfl, hP, hK, hZ⟩ := hpre9
  have hx := B.exec
  have hb := B.bytes
  have hr := B.returns
  have hts := atoms_spec (ws := wsX4_firstFittingRule) B.pre
  have hown : s.vm.findClass RX4 = some mG.cls := findClass_of_methodNamed B.named
  have hlocks := B.notSynchronized
  have hS : va_S (fun _ => False) s.heap s.heap [] := va_S.rf
  have hl := lv_entry ([.ref he, .int (nI p1)]) (n := 3) (Nat.le_of_ble_eq_true rfl)
  rw [lg_entry_eq]
  generalize (lg_sl ([.ref he, .int (nI p1)]) ++ List.replicate (3 - (lg_sl ([.ref he, .int (nI p1)])).length) Slot.unset).toArray = ls at hl ⊢
  have hl : lv_has ls 3 [(0, .ref he), (1, .int (nI p1))] := hl
  refine lv_iconst (pc := 0) (v := (nI (0))) hx hb dX4_firstFittingRule_0 (by decide) ?_
  refine lv_istore_n (pc := 1) (lv' := [(2, .int (nI 0)), (0, .ref he), (1, .int (nI p1))]) hx hb dX4_firstFittingRule_1 rfl hl (by decide) rfl (fun ls hl => ?_)
  have loop2 : ∀ (fuel : Nat) (k : Nat) (ls : Array Slot), 16 - k < fuel → (k ≤ 16) → (∀ j, j < k → mR (kA kd nn) (kA cd nn) (rA ed nn) (sA kd cd nn) j p1 = 0) → lv_has ls 3 [(0, .ref he), (1, .int (nI p1)), (2, .int (nI k))] → W pG l eG (headSpec wsX4_firstFittingRule { frames := 4, cells := 0, slots := 0, locals := 102 }).room s mG [.ref he, .int (nI p1)].toArray below meth cG s.heap [] 0 0 (MQ below (vp_Si (fun r => r = (fRI (mR (kA kd nn) (kA cd nn) (rA ed nn) (sA kd cd nn)) p1))) [.ref he, .int (nI p1)].toArray s 0 0 (fun _ => False)) (F0 mG 2 ls []) := by
    intro fuel
    induction fuel with
    | zero => intro k ls hmeas i1 i2 hl; exact absurd hmeas (Nat.not_lt_zero _)
    | succ fuel ih2 =>
      intro k ls hmeas i1 i2 hl
      refine lv_iload_n (pc := 2) hx hb dX4_firstFittingRule_2 rfl (lv_at hl 2 rfl) ?_
      refine lv_bipush (pc := 3) (v := (nI (16))) hx hb dX4_firstFittingRule_3 (by decide) ?_
      refine xn_icmp_ge (pc := 5) (tgt := 27) hx hb (by omega) (by omega) dX4_firstFittingRule_5 (by decide) (fun c5 => ?_) (fun c5 => ?_)
      · refine lv_bipush (pc := 27) (v := ((-9))) hx hb dX4_firstFittingRule_27 (by decide) ?_
        exact W.iret (pc := 29) (v := ((-9))) hx hb hr (fun t ht _ => ⟨_, rfl, (by have e : fRn (mR (kA kd nn) (kA cd nn) (rA ed nn) (sA kd cd nn)) p1 = 16 := ff_none (fun j hj => decide_eq_false (fun q => q (i2 j (by omega)))); unfold fRI; rw [e]; rfl), ht⟩) (fun _ h => absurd h List.not_mem_nil) dX4_firstFittingRule_29
      · refine lv_aload_n (pc := 8) hx hb dX4_firstFittingRule_8 rfl (lv_at hl 0 rfl) ?_
        refine lv_iload_n (pc := 9) hx hb dX4_firstFittingRule_9 rfl (lv_at hl 2 rfl) ?_
        refine lv_iload_n (pc := 10) hx hb dX4_firstFittingRule_10 rfl (lv_at hl 1 rfl) ?_
        refine vp_callSl (pc := 11) (W.runS (As := [.ref he, .int (nI k), .int (nI p1)]) (rest := []) ⟨hx, hb, hml, hown, hts⟩ (c_X4_replacement l D cI cL cZ tp tr he ae kd ed cd nn k p1 tc (by omega) (by omega)) (va_cwS 3 hts gX4_firstFittingRule_X4_replacement rfl rfl rfl (by decide +kernel) ⟨Nat.le_of_ble_eq_true rfl, Nat.le_of_ble_eq_true rfl⟩) (rPS_S (wc := [(he, .inr (2, oE ae nn)), (ae 0, .inl (cI, 18, .inl (nA kd))), (ae 1, .inl (cI, 18, .inl (nA ed))), (ae 2, .inl (cL, 18, .inr (.inl (lA cd))))]) hK hP hZ hS [0, 1, 2, 3] rfl) rfl rfl hl.1 rfl (lv_room (Nat.le_of_ble_eq_true rfl)) dX4_firstFittingRule_11 ⟨Nat.zero_le _, Nat.zero_le _⟩) (fun r hrr => ?_)
        rw [hrr]
        refine lv_lconst (pc := 14) (v := (lN (0))) hx hb dX4_firstFittingRule_14 (by decide) ?_
        refine xnl_eq (pc := 15) (tgt := 21) hx hb (hmr _ _) (by omega) dX4_firstFittingRule_15 dX4_firstFittingRule_16 (by decide) (fun c15 => ?_) (fun c15 => ?_)
        · refine lv_iinc (pc := 21) (v := (nI (k + 1))) (lv' := [(2, .int (nI (k + 1))), (0, .ref he), (1, .int (nI p1))]) hx hb dX4_firstFittingRule_21 hl (k := 2) rfl (nI_incr _) (by decide) rfl (fun ls hl => ?_)
          refine lv_goto (pc := 24) (tgt := 2) hx hb dX4_firstFittingRule_24 (by decide) ?_
          exact ih2 (k + 1) ls (by omega) (by omega) (lt_s i2 c15) (lv_sub hl [1, 2, 0] rfl)
        · refine lv_iload_n (pc := 19) hx hb dX4_firstFittingRule_19 rfl (lv_at hl 2 rfl) ?_
          exact W.iret (pc := 20) (v := (nI (k))) hx hb hr (fun t ht _ => ⟨_, rfl, (by have e : fRn (mR (kA kd nn) (kA cd nn) (rA ed nn) (sA kd cd nn)) p1 = k := ff_eq c5 (decide_eq_true c15) (fun j hj => decide_eq_false (fun q => q (i2 j hj))); unfold fRI; rw [e, if_pos c5]), ht⟩) (fun _ h => absurd h List.not_mem_nil) dX4_firstFittingRule_20
  exact loop2 (_ + 1) 0 ls (Nat.lt_succ_self _) (by omega) (fun j hj => absurd hj (by omega)) (lv_sub hl [1, 2, 0] rfl)
set_option maxHeartbeats 4000000 in
set_option maxRecDepth 100000 in
theorem c_X4_replacementN (l : Launch) (D : va_G) (cI cL cZ : ClassId) (tp tr : Nat) (he : Nat) (ae : Nat → Nat) (kd : Nat → Nat) (ed : Nat → Nat) (cd : Nat → Nat) (nn : Nat) (rl : Nat) (x : Int32) (hrl : rl < 1000) (hneg : x < 0) : Met l yX4_replacement wsX4_replacement { frames := 1, cells := 0, slots := 0, locals := 21 } (rPS D (tyL cI cL cZ) tp tr [(he, .inr (2, oE ae nn)), (ae 0, .inl (cI, 18, .inl (nA kd))), (ae 1, .inl (cI, 18, .inl (nA ed))), (ae 2, .inl (cL, 18, .inr (.inl (lA cd))))] [.ref he, .int (nI rl), .int x]) (vp_Sl (fun r => r = (lN (0)))) 0 0 (fun _ => False) := by
  refine Met.ofW (cc := cX4_replacement) (maxL := 6) (ret := (some .long)) (by decide) rfl ?_
  intro pG eG s mG args below meth cG s₁ B hml hpre9
  obtain ⟨rfl, hP, hK, hZ⟩ := hpre9
  have hx := B.exec
  have hb := B.bytes
  have hr := B.returns
  have hts := atoms_spec (ws := wsX4_replacement) B.pre
  have hown : s.vm.findClass RX4 = some mG.cls := findClass_of_methodNamed B.named
  have hlocks := B.notSynchronized
  have hS : va_S (fun _ => False) s.heap s.heap [] := va_S.rf
  have lk0 : (Cond.fieldLink RX4 25 "RegexSimplifier$Rules" "ROOT_KINDS" "[I").before _ s = true := hts _ (List.mem_cons_of_mem _ (List.mem_append_left _ (List.mem_append_left _ (List.mem_of_getElem? (i := 0) rfl))))
  have hl := lv_entry ([.ref he, .int (nI rl), .int x]) (n := 6) (Nat.le_of_ble_eq_true rfl)
  rw [lg_entry_eq]
  generalize (lg_sl ([.ref he, .int (nI rl), .int x]) ++ List.replicate (6 - (lg_sl ([.ref he, .int (nI rl), .int x])).length) Slot.unset).toArray = ls at hl ⊢
  have hl : lv_has ls 6 [(0, .ref he), (1, .int (nI rl)), (2, .int x)] := hl
  refine lv_iload_n (pc := 0) hx hb dX4_replacement_0 rfl (lv_at hl 1 rfl) ?_
  refine xn_if_lt (pc := 1) (tgt := 16) hx hb (by omega) dX4_replacement_1 (by decide) ?_
  refine lv_iload_n (pc := 4) hx hb dX4_replacement_4 rfl (lv_at hl 1 rfl) ?_
  refine va_gets (pc := 5) hx hb hZ.2.2.1 hS hown lk0 (fun _ h9 => h9) dX4_replacement_5 ?_
  refine va_tlen (pc := 8) (v := nI 16) hx hb hZ.2.2.2 hS rfl dX4_replacement_8 ?_
  refine xn_icmp_ge (pc := 9) (tgt := 16) hx hb (by omega) (by omega) dX4_replacement_9 (by decide) (fun c9 => ?_) (fun c9 => ?_)
  · refine lv_iconst (pc := 16) (v := (nI (0))) hx hb dX4_replacement_16 (by decide) ?_
    refine lv_istore_n (pc := 17) (lv' := [(3, .int (nI 0)), (0, .ref he), (1, .int (nI rl)), (2, .int x)]) hx hb dX4_replacement_17 rfl hl (by decide) rfl (fun ls hl => ?_)
    refine lv_iload_n (pc := 18) hx hb dX4_replacement_18 rfl (lv_at hl 0 rfl) ?_
    refine lv_if_eq (pc := 19) (tgt := 35) hx hb dX4_replacement_19 (by decide) (fun _ => ?_) (fun h => absurd h (by decide))
    refine lv_lconst (pc := 35) (v := (lN (0))) hx hb dX4_replacement_35 (by decide) ?_
    exact W.lret (pc := 36) (v := (lN (0))) hx hb hr (fun t ht _ => ⟨_, rfl, (by first | rfl | ((repeat' split) <;> first | rfl | omega)), ht⟩) (fun _ h => absurd h List.not_mem_nil) dX4_replacement_36
  · refine lv_iconst (pc := 12) (v := (nI (1))) hx hb dX4_replacement_12 (by decide) ?_
    refine lv_goto (pc := 13) (tgt := 17) hx hb dX4_replacement_13 (by decide) ?_
    refine lv_istore_n (pc := 17) (lv' := [(3, .int (nI 1)), (0, .ref he), (1, .int (nI rl)), (2, .int x)]) hx hb dX4_replacement_17 rfl hl (by decide) rfl (fun ls hl => ?_)
    refine lv_iload_n (pc := 18) hx hb dX4_replacement_18 rfl (lv_at hl 0 rfl) ?_
    refine lv_if_eq (pc := 19) (tgt := 35) hx hb dX4_replacement_19 (by decide) (fun h => absurd h (by decide)) (fun _ => ?_)
    refine lv_aload_n (pc := 22) hx hb dX4_replacement_22 rfl (lv_at hl 1 rfl) ?_
    refine lv_iload_n (pc := 23) hx hb dX4_replacement_23 rfl (lv_at hl 3 rfl) ?_
    refine vp_callSi (pc := 24) (W.runV (As := [.int x]) (rest := []) ⟨hx, hb, hml, hown, hts⟩ (c_X3_kindAtN l D cI cL cZ he ae kd ed cd nn x hneg) (cwV 1 hts gX4_replacement_X3_kindAt rfl rfl rfl (by decide +kernel) ⟨Nat.le_of_ble_eq_true rfl, Nat.le_of_ble_eq_true rfl⟩) (rP_V (wc := [(he, .inr (2, oE ae nn)), (ae 0, .inl (cI, 18, .inl (nA kd))), (ae 1, .inl (cI, 18, .inl (nA ed))), (ae 2, .inl (cL, 18, .inr (.inl (lA cd))))]) (ci := 2) (q0 := 0) hK hP [0, 1, 2, 3] rfl rfl rfl) rfl rfl hl.1 rfl (lv_room (Nat.le_of_ble_eq_true rfl)) dX4_replacement_24 ⟨Nat.zero_le _, Nat.zero_le _⟩) (fun r hrr => ?_)
    rw [hrr]
    refine va_gets (pc := 27) hx hb hZ.2.2.1 hS hown lk0 (fun _ h9 => h9) dX4_replacement_27 ?_
    refine lv_iload_n (pc := 30) hx hb dX4_replacement_30 rfl (lv_at hl 2 rfl) ?_
    refine va_ti (pc := 31) (v := .int (nI (rootK rl))) hx hb hZ.2.2.2 hS (vp_in_nI (n := rl) (N := 16) (by omega) (by omega)) (by rw [nI_clamp (by omega)]; rfl) dX4_replacement_31 ?_
    refine xn_icmp_eq (pc := 32) (tgt := 37) hx hb (by omega) (Nat.lt_of_le_of_lt (rootK_le _) (by decide)) dX4_replacement_32 (by decide) (fun c32 => ?_) (fun c32 => ?_)
    · exact absurd c32 (by have h5 := rootK_ge c9; omega)
    · refine lv_lconst (pc := 35) (v := (lN (0))) hx hb dX4_replacement_35 (by decide) ?_
      exact W.lret (pc := 36) (v := (lN (0))) hx hb hr (fun t ht _ => ⟨_, rfl, (by first | rfl | ((repeat' split) <;> first | rfl | omega)), ht⟩) (fun _ h => absurd h List.not_mem_nil) dX4_replacement_36
set_option maxHeartbeats 4000000 in
set_option maxRecDepth 100000 in
theorem c_X4_firstFittingRuleN (l : Launch) (D : va_G) (cI cL cZ : ClassId) (tp tr : Nat) (he : Nat) (ae : Nat → Nat) (kd : Nat → Nat) (ed : Nat → Nat) (cd : Nat → Nat) (nn : Nat) (x : Int32) (hneg : x < 0) : Met l yX4_firstFittingRule wsX4_firstFittingRule { frames := 2, cells := 0, slots := 0, locals := 46 } (rPS D (tyL cI cL cZ) tp tr [(he, .inr (2, oE ae nn)), (ae 0, .inl (cI, 18, .inl (nA kd))), (ae 1, .inl (cI, 18, .inl (nA ed))), (ae 2, .inl (cL, 18, .inr (.inl (lA cd))))] [.ref he, .int x]) (vp_Si (fun r => r = ((-9)))) 0 0 (fun _ => False) := by
  refine Met.ofW (cc := cX4_firstFittingRule) (maxL := 3) (ret := (some .int)) (by decide) rfl ?_
  intro pG eG s mG args below meth cG s₁ B hml hpre9
  obtain ⟨rfl, hP, hK, hZ⟩ := hpre9
  have hx := B.exec
  have hb := B.bytes
  have hr := B.returns
  have hts := atoms_spec (ws := wsX4_firstFittingRule) B.pre
  have hown : s.vm.findClass RX4 = some mG.cls := findClass_of_methodNamed B.named
  have hlocks := B.notSynchronized
  have hS : va_S (fun _ => False) s.heap s.heap [] := va_S.rf
  have hl := lv_entry ([.ref he, .int x]) (n := 3) (Nat.le_of_ble_eq_true rfl)
  rw [lg_entry_eq]
  generalize (lg_sl ([.ref he, .int x]) ++ List.replicate (3 - (lg_sl ([.ref he, .int x])).length) Slot.unset).toArray = ls at hl ⊢
  have hl : lv_has ls 3 [(0, .ref he), (1, .int x)] := hl
  refine lv_iconst (pc := 0) (v := (nI (0))) hx hb dX4_firstFittingRule_0 (by decide) ?_
  refine lv_istore_n (pc := 1) (lv' := [(2, .int (nI 0)), (0, .ref he), (1, .int x)]) hx hb dX4_firstFittingRule_1 rfl hl (by decide) rfl (fun ls hl => ?_)
  have loop2 : ∀ (fuel : Nat) (k : Nat) (ls : Array Slot), 16 - k < fuel → (k ≤ 16) → lv_has ls 3 [(0, .ref he), (1, .int x), (2, .int (nI k))] → W pG l eG (headSpec wsX4_firstFittingRule { frames := 2, cells := 0, slots := 0, locals := 46 }).room s mG [.ref he, .int x].toArray below meth cG s.heap [] 0 0 (MQ below (vp_Si (fun r => r = ((-9)))) [.ref he, .int x].toArray s 0 0 (fun _ => False)) (F0 mG 2 ls []) := by
    intro fuel
    induction fuel with
    | zero => intro k ls hmeas i1 hl; exact absurd hmeas (Nat.not_lt_zero _)
    | succ fuel ih2 =>
      intro k ls hmeas i1 hl
      refine lv_iload_n (pc := 2) hx hb dX4_firstFittingRule_2 rfl (lv_at hl 2 rfl) ?_
      refine lv_bipush (pc := 3) (v := (nI (16))) hx hb dX4_firstFittingRule_3 (by decide) ?_
      refine xn_icmp_ge (pc := 5) (tgt := 27) hx hb (by omega) (by omega) dX4_firstFittingRule_5 (by decide) (fun c5 => ?_) (fun c5 => ?_)
      · refine lv_bipush (pc := 27) (v := ((-9))) hx hb dX4_firstFittingRule_27 (by decide) ?_
        exact W.iret (pc := 29) (v := ((-9))) hx hb hr (fun t ht _ => ⟨_, rfl, (by first | rfl | ((repeat' split) <;> first | rfl | omega)), ht⟩) (fun _ h => absurd h List.not_mem_nil) dX4_firstFittingRule_29
      · refine lv_aload_n (pc := 8) hx hb dX4_firstFittingRule_8 rfl (lv_at hl 0 rfl) ?_
        refine lv_iload_n (pc := 9) hx hb dX4_firstFittingRule_9 rfl (lv_at hl 2 rfl) ?_
        refine lv_iload_n (pc := 10) hx hb dX4_firstFittingRule_10 rfl (lv_at hl 1 rfl) ?_
        refine vp_callSl (pc := 11) (W.runS (As := [.ref he, .int (nI k), .int x]) (rest := []) ⟨hx, hb, hml, hown, hts⟩ (c_X4_replacementN l D cI cL cZ tp tr he ae kd ed cd nn k x (by omega) hneg) (va_cwS 3 hts gX4_firstFittingRule_X4_replacement rfl rfl rfl (by decide +kernel) ⟨Nat.le_of_ble_eq_true rfl, Nat.le_of_ble_eq_true rfl⟩) (rPS_S (wc := [(he, .inr (2, oE ae nn)), (ae 0, .inl (cI, 18, .inl (nA kd))), (ae 1, .inl (cI, 18, .inl (nA ed))), (ae 2, .inl (cL, 18, .inr (.inl (lA cd))))]) hK hP hZ hS [0, 1, 2, 3] rfl) rfl rfl hl.1 rfl (lv_room (Nat.le_of_ble_eq_true rfl)) dX4_firstFittingRule_11 ⟨Nat.zero_le _, Nat.zero_le _⟩) (fun r hrr => ?_)
        rw [hrr]
        refine lv_lconst (pc := 14) (v := (lN (0))) hx hb dX4_firstFittingRule_14 (by decide) ?_
        refine xnl_eq (pc := 15) (tgt := 21) hx hb (by omega) (by omega) dX4_firstFittingRule_15 dX4_firstFittingRule_16 (by decide) (fun c15 => ?_) (fun c15 => ?_)
        · refine lv_iinc (pc := 21) (v := (nI (k + 1))) (lv' := [(2, .int (nI (k + 1))), (0, .ref he), (1, .int x)]) hx hb dX4_firstFittingRule_21 hl (k := 2) rfl (nI_incr _) (by decide) rfl (fun ls hl => ?_)
          refine lv_goto (pc := 24) (tgt := 2) hx hb dX4_firstFittingRule_24 (by decide) ?_
          exact ih2 (k + 1) ls (by omega) (by omega) (lv_sub hl [1, 2, 0] rfl)
        · exact absurd rfl c15
  exact loop2 (_ + 1) 0 ls (Nat.lt_succ_self _) (by omega) (lv_sub hl [1, 2, 0] rfl)
set_option maxHeartbeats 4000000 in
set_option maxRecDepth 100000 in
theorem c_X4_firstFittingPosition (l : Launch) (D : va_G) (cI cL cZ : ClassId) (tp tr : Nat) (he : Nat) (ae : Nat → Nat) (kd : Nat → Nat) (ed : Nat → Nat) (cd : Nat → Nat) (nn : Nat) (tc : TC kd ed cd nn) (hmr : ∀ r p, mR (kA kd nn) (kA cd nn) (rA ed nn) (sA kd cd nn) r p < 2 ^ 63) : Met l yX4_firstFittingPosition wsX4_firstFittingPosition { frames := 5, cells := 0, slots := 0, locals := 124 } (rPS D (tyL cI cL cZ) tp tr [(he, .inr (2, oE ae nn)), (ae 0, .inl (cI, 18, .inl (nA kd))), (ae 1, .inl (cI, 18, .inl (nA ed))), (ae 2, .inl (cL, 18, .inr (.inl (lA cd))))] [.ref he]) (vp_Si (fun r => r = (fPI (mR (kA kd nn) (kA cd nn) (rA ed nn) (sA kd cd nn)) nn))) 0 0 (fun _ => False) := by
  refine Met.ofW (cc := cX4_firstFittingPosition) (maxL := 2) (ret := (some .int)) (by decide) rfl ?_
  intro pG eG s mG args below meth cG s₁ B hml hpre9
  obtain ⟨rfl, hP, hK, hZ⟩ := hpre9
  have hx := B.exec
  have hb := B.bytes
  have hr := B.returns
  have hts := atoms_spec (ws := wsX4_firstFittingPosition) B.pre
  have hown : s.vm.findClass RX4 = some mG.cls := findClass_of_methodNamed B.named
  have hlocks := B.notSynchronized
  have hS : va_S (fun _ => False) s.heap s.heap [] := va_S.rf
  have hl := lv_entry ([.ref he]) (n := 2) (Nat.le_of_ble_eq_true rfl)
  rw [lg_entry_eq]
  generalize (lg_sl ([.ref he]) ++ List.replicate (2 - (lg_sl ([.ref he])).length) Slot.unset).toArray = ls at hl ⊢
  have hl : lv_has ls 2 [(0, .ref he)] := hl
  have hn18 := tc.n18
  have hn0 := tc.n0
  refine lv_iconst (pc := 0) (v := (nI (0))) hx hb dX4_firstFittingPosition_0 (by decide) ?_
  refine lv_istore_n (pc := 1) (lv' := [(1, .int (nI 0)), (0, .ref he)]) hx hb dX4_firstFittingPosition_1 rfl hl (by decide) rfl (fun ls hl => ?_)
  have loop2 : ∀ (fuel : Nat) (k : Nat) (ls : Array Slot), nn - k < fuel → (k ≤ nn) → (∀ j, j < k → ¬ fRn (mR (kA kd nn) (kA cd nn) (rA ed nn) (sA kd cd nn)) j < 16) → lv_has ls 2 [(0, .ref he), (1, .int (nI k))] → W pG l eG (headSpec wsX4_firstFittingPosition { frames := 5, cells := 0, slots := 0, locals := 124 }).room s mG [.ref he].toArray below meth cG s.heap [] 0 0 (MQ below (vp_Si (fun r => r = (fPI (mR (kA kd nn) (kA cd nn) (rA ed nn) (sA kd cd nn)) nn))) [.ref he].toArray s 0 0 (fun _ => False)) (F0 mG 2 ls []) := by
    intro fuel
    induction fuel with
    | zero => intro k ls hmeas i1 i2 hl; exact absurd hmeas (Nat.not_lt_zero _)
    | succ fuel ih2 =>
      intro k ls hmeas i1 i2 hl
      refine lv_iload_n (pc := 2) hx hb dX4_firstFittingPosition_2 rfl (lv_at hl 1 rfl) ?_
      refine lv_aload_n (pc := 3) hx hb dX4_firstFittingPosition_3 rfl (lv_at hl 0 rfl) ?_
      refine vp_callSi (pc := 4) (W.runV (As := []) (rest := [.int (nI k)]) ⟨hx, hb, hml, hown, hts⟩ (c_X3_nodeCount l D cI cL cZ he ae kd ed cd nn) (cwV 0 hts gX4_firstFittingPosition_X3_nodeCount rfl rfl rfl (by decide +kernel) ⟨Nat.le_of_ble_eq_true rfl, Nat.le_of_ble_eq_true rfl⟩) (rP_V (wc := [(he, .inr (2, oE ae nn)), (ae 0, .inl (cI, 18, .inl (nA kd))), (ae 1, .inl (cI, 18, .inl (nA ed))), (ae 2, .inl (cL, 18, .inr (.inl (lA cd))))]) (ci := 2) (q0 := 0) hK hP [0, 1, 2, 3] rfl rfl rfl) rfl rfl hl.1 rfl (lv_room (Nat.le_of_ble_eq_true rfl)) dX4_firstFittingPosition_4 ⟨Nat.zero_le _, Nat.zero_le _⟩) (fun r hrr => ?_)
      rw [hrr]
      refine xn_icmp_ge (pc := 7) (tgt := 28) hx hb (by omega) (by omega) dX4_firstFittingPosition_7 (by decide) (fun c7 => ?_) (fun c7 => ?_)
      · refine lv_bipush (pc := 28) (v := ((-9))) hx hb dX4_firstFittingPosition_28 (by decide) ?_
        exact W.iret (pc := 30) (v := ((-9))) hx hb hr (fun t ht _ => ⟨_, rfl, (by have e : fPn (mR (kA kd nn) (kA cd nn) (rA ed nn) (sA kd cd nn)) nn = nn := ff_none (fun j hj => decide_eq_false (i2 j (by omega))); unfold fPI; rw [e, if_neg (Nat.lt_irrefl nn)]), ht⟩) (fun _ h => absurd h List.not_mem_nil) dX4_firstFittingPosition_30
      · refine lv_aload_n (pc := 10) hx hb dX4_firstFittingPosition_10 rfl (lv_at hl 0 rfl) ?_
        refine lv_iload_n (pc := 11) hx hb dX4_firstFittingPosition_11 rfl (lv_at hl 1 rfl) ?_
        refine vp_callSi (pc := 12) (W.runS (As := [.ref he, .int (nI k)]) (rest := []) ⟨hx, hb, hml, hown, hts⟩ (c_X4_firstFittingRule l D cI cL cZ tp tr he ae kd ed cd nn k tc (by omega) hmr) (va_cwS 2 hts gX4_firstFittingPosition_X4_firstFittingRule rfl rfl rfl (by decide +kernel) ⟨Nat.le_of_ble_eq_true rfl, Nat.le_of_ble_eq_true rfl⟩) (rPS_S (wc := [(he, .inr (2, oE ae nn)), (ae 0, .inl (cI, 18, .inl (nA kd))), (ae 1, .inl (cI, 18, .inl (nA ed))), (ae 2, .inl (cL, 18, .inr (.inl (lA cd))))]) hK hP hZ hS [0, 1, 2, 3] rfl) rfl rfl hl.1 rfl (lv_room (Nat.le_of_ble_eq_true rfl)) dX4_firstFittingPosition_12 ⟨Nat.zero_le _, Nat.zero_le _⟩) (fun r hrr => ?_)
        rw [hrr]
        refine lv_bipush (pc := 15) (v := ((-9))) hx hb dX4_firstFittingPosition_15 (by decide) ?_
        refine lv_icmp_eq (pc := 17) (tgt := 22) hx hb dX4_firstFittingPosition_17 (by decide) (fun c17 => ?_) (fun c17 => ?_)
        · refine lv_iinc (pc := 22) (v := (nI (k + 1))) (lv' := [(1, .int (nI (k + 1))), (0, .ref he)]) hx hb dX4_firstFittingPosition_22 hl (k := 1) rfl (nI_incr _) (by decide) rfl (fun ls hl => ?_)
          refine lv_goto (pc := 25) (tgt := 2) hx hb dX4_firstFittingPosition_25 (by decide) ?_
          exact ih2 (k + 1) ls (by omega) (by omega) (lt_s i2 (fRI_none.mp c17)) (lv_sub hl [1, 0] rfl)
        · refine lv_iload_n (pc := 20) hx hb dX4_firstFittingPosition_20 rfl (lv_at hl 1 rfl) ?_
          exact W.iret (pc := 21) (v := (nI (k))) hx hb hr (fun t ht _ => ⟨_, rfl, (by have e : fPn (mR (kA kd nn) (kA cd nn) (rA ed nn) (sA kd cd nn)) nn = k := ff_eq c7 (decide_eq_true (Decidable.of_not_not (fun q => c17 (fRI_none.mpr q)))) (fun j hj => decide_eq_false (i2 j hj)); unfold fPI; rw [e, if_pos c7]), ht⟩) (fun _ h => absurd h List.not_mem_nil) dX4_firstFittingPosition_21
  exact loop2 (_ + 1) 0 ls (Nat.lt_succ_self _) (by omega) (fun j hj => absurd hj (by omega)) (lv_sub hl [1, 0] rfl)
set_option maxHeartbeats 4000000 in
set_option maxRecDepth 100000 in
theorem c_X6_recorded (l : Launch) (D : va_G) (cI cL cZ : ClassId) (hst : Nat) (at1 : Nat → Nat) (bf : Nat → Nat) (ru : Nat → Nat) (ps : Nat → Nat) (ct1 : Nat)  : Met l yX6_recorded wsX6_recorded { frames := 0, cells := 0, slots := 0, locals := 0 } (rP D (tyL cI cL cZ) [(hst, .inr (4, oT at1 ct1)), (at1 0, .inl (cL, 17, .inr (.inl (lA bf)))), (at1 1, .inl (cI, 17, .inl (nA ru))), (at1 2, .inl (cI, 17, .inl (nA ps)))] [.ref hst]) (vp_Si (fun r => r = (nI (ct1)))) 0 0 (fun _ => False) := by
  refine Met.ofW (cc := cX6_recorded) (maxL := 1) (ret := (some .int)) (by decide) rfl ?_
  intro pG eG s mG args below meth cG s₁ B hml hpre9
  obtain ⟨rfl, hP, hK⟩ := hpre9
  have hx := B.exec
  have hb := B.bytes
  have hr := B.returns
  have hts := atoms_spec (ws := wsX6_recorded) B.pre
  have hown : s.vm.findClass RX6 = some mG.cls := findClass_of_methodNamed B.named
  have hlocks := B.notSynchronized
  have hS : va_S (fun _ => False) s.heap s.heap [] := va_S.rf
  have hinX6 : ∀ w ∈ wsX60, w ∈ wsX6_recorded := fun w HH => (List.mem_cons_of_mem _ (List.mem_append_right _ HH))
  have lk0 : (Cond.fieldLink RX6 22 "RegexSimplifier$Steps" "count" "I").before _ s = true := hts _ (List.mem_cons_of_mem _ (List.mem_append_left _ (List.mem_of_getElem? (i := 0) rfl)))
  have hl := lv_entry ([.ref hst]) (n := 1) (Nat.le_of_ble_eq_true rfl)
  rw [lg_entry_eq]
  generalize (lg_sl ([.ref hst]) ++ List.replicate (1 - (lg_sl ([.ref hst])).length) Slot.unset).toArray = ls at hl ⊢
  have hl : lv_has ls 1 [(0, .ref hst)] := hl
  refine lv_aload_n (pc := 0) hx hb dX6_recorded_0 rfl (lv_at hl 0 rfl) ?_
  refine va_get (pc := 1) (D := D) (ci := 4) (v := .int (nI ct1)) (C := RX6) (T := TX6) (N := 4) hx hb hts hinX6 hown hK hP 0 rfl rfl 3 (by decide) lk0 (fun _ h9 => h9) rfl dX6_recorded_1 ?_
  exact W.iret (pc := 4) (v := (nI (ct1))) hx hb hr (fun t ht _ => ⟨_, rfl, (by first | rfl | ((repeat' split) <;> first | rfl | omega)), ht⟩) (fun _ h => absurd h List.not_mem_nil) dX6_recorded_4
set_option maxHeartbeats 4000000 in
set_option maxRecDepth 100000 in
theorem c_X6_forgetAll (l : Launch) (D : va_G) (cI cL cZ : ClassId) (sz : Nat) (hst : Nat) (at1 : Nat → Nat) (bf : Nat → Nat) (ru : Nat → Nat) (ps : Nat → Nat) (ct1 : Nat)  : Met l yX6_forgetAll wsX6_forgetAll { frames := 0, cells := 0, slots := 0, locals := 0 } (mP D (tyL cI cL cZ) [(hst, .inr (4, oT at1 ct1)), (at1 0, .inl (cL, 17, .inr (.inl (lA bf)))), (at1 1, .inl (cI, 17, .inl (nA ru))), (at1 2, .inl (cI, 17, .inl (nA ps)))] sz [.ref hst]) (va_Qv (fun (u : Unit) => True) (fun (u : Unit) (t : State) => mB D (tyL cI cL cZ) (va_A [(hst, .inr (4, oT at1 ct1)), (at1 0, .inl (cL, 17, .inr (.inl (lA bf)))), (at1 1, .inl (cI, 17, .inl (nA ru))), (at1 2, .inl (cI, 17, .inl (nA ps)))] sz) [(hst, .inr (4, oT at1 0)), (at1 0, .inl (cL, 17, .inr (.inl (lA bf)))), (at1 1, .inl (cI, 17, .inl (nA ru))), (at1 2, .inl (cI, 17, .inl (nA ps)))] t) (va_A [(hst, .inr (4, oT at1 ct1)), (at1 0, .inl (cL, 17, .inr (.inl (lA bf)))), (at1 1, .inl (cI, 17, .inl (nA ru))), (at1 2, .inl (cI, 17, .inl (nA ps)))] sz)) 0 0 (va_A [(hst, .inr (4, oT at1 ct1)), (at1 0, .inl (cL, 17, .inr (.inl (lA bf)))), (at1 1, .inl (cI, 17, .inl (nA ru))), (at1 2, .inl (cI, 17, .inl (nA ps)))] sz) := by
  refine Met.ofW (cc := cX6_forgetAll) (maxL := 1) (ret := none) (by decide) rfl ?_
  intro pG eG s mG args below meth cG s₁ B hml hpre9
  obtain ⟨rfl, hsz, hP, hK, hD0⟩ := hpre9
  have hx := B.exec
  have hb := B.bytes
  have hr := B.returns
  have hts := atoms_spec (ws := wsX6_forgetAll) B.pre
  have hown : s.vm.findClass RX6 = some mG.cls := findClass_of_methodNamed B.named
  have hlocks := B.notSynchronized
  subst hsz
  have hD := hD0.self (sz := s.heap.size)
  have hA : ∀ q : Nat, s.heap.size ≤ q → va_A [(hst, .inr (4, oT at1 ct1)), (at1 0, .inl (cL, 17, .inr (.inl (lA bf)))), (at1 1, .inl (cI, 17, .inl (nA ru))), (at1 2, .inl (cI, 17, .inl (nA ps)))] s.heap.size q := fun q h => Or.inr h
  have hS : va_S (va_A [(hst, .inr (4, oT at1 ct1)), (at1 0, .inl (cL, 17, .inr (.inl (lA bf)))), (at1 1, .inl (cI, 17, .inl (nA ru))), (at1 2, .inl (cI, 17, .inl (nA ps)))] s.heap.size) s.heap s.heap [] := va_S.rf
  have hinX6 : ∀ w ∈ wsX60, w ∈ wsX6_forgetAll := fun w HH => (List.mem_cons_of_mem _ (List.mem_append_right _ HH))
  have lk0 : (Cond.fieldLink RX6 22 "RegexSimplifier$Steps" "count" "I").before _ s = true := hts _ (List.mem_cons_of_mem _ (List.mem_append_left _ (List.mem_of_getElem? (i := 0) rfl)))
  have hl := lv_entry ([.ref hst]) (n := 1) (Nat.le_of_ble_eq_true rfl)
  rw [lg_entry_eq]
  generalize (lg_sl ([.ref hst]) ++ List.replicate (1 - (lg_sl ([.ref hst])).length) Slot.unset).toArray = ls at hl ⊢
  have hl : lv_has ls 1 [(0, .ref hst)] := hl
  refine lv_aload_n (pc := 0) hx hb dX6_forgetAll_0 rfl (lv_at hl 0 rfl) ?_
  refine lv_iconst (pc := 1) (v := (nI (0))) hx hb dX6_forgetAll_1 (by decide) ?_
  refine va_put (pc := 2) (D := D) (ci := 4) (v := .int (nI 0)) (ty := .int) (C := RX6) (T := TX6) (N := 4) hx hb hts hinX6 tyX6 tyX6_ok nmX6 hown hK hP hD hS 0 rfl rfl 3 (by decide) lk0 (fun _ h9 => h9) rfl (by decide +kernel) rfl rfl (Nat.le_of_ble_eq_true rfl) dX6_forgetAll_2 (fun H locs hP hD hS => ?_)
  have hP : va_P D vwCl [(hst, .inr (4, oT at1 0)), (at1 0, .inl (cL, 17, .inr (.inl (lA bf)))), (at1 1, .inl (cI, 17, .inl (nA ru))), (at1 2, .inl (cI, 17, .inl (nA ps)))] H := hP
  have hD : va_D _ [(hst, .inr (4, oT at1 0)), (at1 0, .inl (cL, 17, .inr (.inl (lA bf)))), (at1 1, .inl (cI, 17, .inl (nA ru))), (at1 2, .inl (cI, 17, .inl (nA ps)))] := hD
  have hP9 : va_P D vwCl [(hst, .inr (4, oT at1 0)), (at1 0, .inl (cL, 17, .inr (.inl (lA bf)))), (at1 1, .inl (cI, 17, .inl (nA ru))), (at1 2, .inl (cI, 17, .inl (nA ps)))] H := hP.sub [0, 1, 2, 3] rfl
  have hD9 : va_D _ [(hst, .inr (4, oT at1 0)), (at1 0, .inl (cL, 17, .inr (.inl (lA bf)))), (at1 1, .inl (cI, 17, .inl (nA ru))), (at1 2, .inl (cI, 17, .inl (nA ps)))] := hD.sub [0, 1, 2, 3] (by decide) rfl
  exact W.vret (pc := 5) hx hb hr (fun t ht hW => ⟨⟨(), rfl, trivial, by rw [ht]; exact hP9, va_K.moved hW.alike hK, hD9⟩, hS.F ht⟩) hS.2.2 dX6_forgetAll_5
set_option maxHeartbeats 4000000 in
set_option maxRecDepth 100000 in
theorem c_X6_record (l : Launch) (D : va_G) (cI cL cZ : ClassId) (sz : Nat) (hst : Nat) (at1 : Nat → Nat) (bf : Nat → Nat) (ru : Nat → Nat) (ps : Nat → Nat) (ct1 : Nat) (v : Nat) (rl : Nat) (p1 : Nat) (hct : ct1 < 17) : Met l yX6_record wsX6_record { frames := 0, cells := 0, slots := 0, locals := 0 } (mP D (tyL cI cL cZ) [(hst, .inr (4, oT at1 ct1)), (at1 0, .inl (cL, 17, .inr (.inl (lA bf)))), (at1 1, .inl (cI, 17, .inl (nA ru))), (at1 2, .inl (cI, 17, .inl (nA ps)))] sz [.ref hst, .long (lN v), .int (nI rl), .int (nI p1)]) (va_Qv (fun (u : Unit) => True) (fun (u : Unit) (t : State) => mB D (tyL cI cL cZ) (va_A [(hst, .inr (4, oT at1 ct1)), (at1 0, .inl (cL, 17, .inr (.inl (lA bf)))), (at1 1, .inl (cI, 17, .inl (nA ru))), (at1 2, .inl (cI, 17, .inl (nA ps)))] sz) [(hst, .inr (4, oT at1 (ct1 + 1))), (at1 0, .inl (cL, 17, .inr (.inl (lA (up bf ct1 v))))), (at1 1, .inl (cI, 17, .inl (nA (up ru ct1 rl)))), (at1 2, .inl (cI, 17, .inl (nA (up ps ct1 p1))))] t) (va_A [(hst, .inr (4, oT at1 ct1)), (at1 0, .inl (cL, 17, .inr (.inl (lA bf)))), (at1 1, .inl (cI, 17, .inl (nA ru))), (at1 2, .inl (cI, 17, .inl (nA ps)))] sz)) 0 0 (va_A [(hst, .inr (4, oT at1 ct1)), (at1 0, .inl (cL, 17, .inr (.inl (lA bf)))), (at1 1, .inl (cI, 17, .inl (nA ru))), (at1 2, .inl (cI, 17, .inl (nA ps)))] sz) := by
  refine Met.ofW (cc := cX6_record) (maxL := 5) (ret := none) (by decide) rfl ?_
  intro pG eG s mG args below meth cG s₁ B hml hpre9
  obtain ⟨rfl, hsz, hP, hK, hD0⟩ := hpre9
  have hx := B.exec
  have hb := B.bytes
  have hr := B.returns
  have hts := atoms_spec (ws := wsX6_record) B.pre
  have hown : s.vm.findClass RX6 = some mG.cls := findClass_of_methodNamed B.named
  have hlocks := B.notSynchronized
  subst hsz
  have hD := hD0.self (sz := s.heap.size)
  have hA : ∀ q : Nat, s.heap.size ≤ q → va_A [(hst, .inr (4, oT at1 ct1)), (at1 0, .inl (cL, 17, .inr (.inl (lA bf)))), (at1 1, .inl (cI, 17, .inl (nA ru))), (at1 2, .inl (cI, 17, .inl (nA ps)))] s.heap.size q := fun q h => Or.inr h
  have hS : va_S (va_A [(hst, .inr (4, oT at1 ct1)), (at1 0, .inl (cL, 17, .inr (.inl (lA bf)))), (at1 1, .inl (cI, 17, .inl (nA ru))), (at1 2, .inl (cI, 17, .inl (nA ps)))] s.heap.size) s.heap s.heap [] := va_S.rf
  have hinX6 : ∀ w ∈ wsX60, w ∈ wsX6_record := fun w HH => (List.mem_cons_of_mem _ (List.mem_append_right _ HH))
  have lk0 : (Cond.fieldLink RX6 22 "RegexSimplifier$Steps" "count" "I").before _ s = true := hts _ (List.mem_cons_of_mem _ (List.mem_append_left _ (List.mem_of_getElem? (i := 0) rfl)))
  have lk1 : (Cond.fieldLink RX6 9 "RegexSimplifier$Steps" "before" "[J").before _ s = true := hts _ (List.mem_cons_of_mem _ (List.mem_append_left _ (List.mem_of_getElem? (i := 1) rfl)))
  have lk2 : (Cond.fieldLink RX6 15 "RegexSimplifier$Steps" "rules" "[I").before _ s = true := hts _ (List.mem_cons_of_mem _ (List.mem_append_left _ (List.mem_of_getElem? (i := 2) rfl)))
  have lk3 : (Cond.fieldLink RX6 19 "RegexSimplifier$Steps" "positions" "[I").before _ s = true := hts _ (List.mem_cons_of_mem _ (List.mem_append_left _ (List.mem_of_getElem? (i := 3) rfl)))
  have hl := lv_entry ([.ref hst, .long (lN v), .int (nI rl), .int (nI p1)]) (n := 5) (Nat.le_of_ble_eq_true rfl)
  rw [lg_entry_eq]
  generalize (lg_sl ([.ref hst, .long (lN v), .int (nI rl), .int (nI p1)]) ++ List.replicate (5 - (lg_sl ([.ref hst, .long (lN v), .int (nI rl), .int (nI p1)])).length) Slot.unset).toArray = ls at hl ⊢
  have hl : lv_has ls 5 [(0, .ref hst), (1, .long (lN v)), (3, .int (nI rl)), (4, .int (nI p1))] := hl
  refine lv_aload_n (pc := 0) hx hb dX6_record_0 rfl (lv_at hl 0 rfl) ?_
  refine va_get (pc := 1) (D := D) (ci := 4) (v := .int (nI ct1)) (C := RX6) (T := TX6) (N := 4) hx hb hts hinX6 hown hK hP 0 rfl rfl 3 (by decide) lk0 (fun _ h9 => h9) rfl dX6_record_1 ?_
  refine xn_if_lt (pc := 4) (tgt := 16) hx hb (by omega) dX6_record_4 (by decide) ?_
  refine lv_aload_n (pc := 7) hx hb dX6_record_7 rfl (lv_at hl 0 rfl) ?_
  refine va_get (pc := 8) (D := D) (ci := 4) (v := .int (nI ct1)) (C := RX6) (T := TX6) (N := 4) hx hb hts hinX6 hown hK hP 0 rfl rfl 3 (by decide) lk0 (fun _ h9 => h9) rfl dX6_record_8 ?_
  refine lv_bipush (pc := 11) (v := (nI (17))) hx hb dX6_record_11 (by decide) ?_
  refine xn_icmp_lt (pc := 13) (tgt := 17) hx hb (by omega) (by omega) dX6_record_13 (by decide) (fun c13 => ?_) (fun c13 => ?_)
  · refine lv_aload_n (pc := 17) hx hb dX6_record_17 rfl (lv_at hl 0 rfl) ?_
    refine va_get (pc := 18) (D := D) (ci := 4) (v := .ref (at1 0)) (C := RX6) (T := TX6) (N := 4) hx hb hts hinX6 hown hK hP 0 rfl rfl 0 (by decide) lk1 (fun _ h9 => h9) rfl dX6_record_18 ?_
    refine lv_aload_n (pc := 21) hx hb dX6_record_21 rfl (lv_at hl 0 rfl) ?_
    refine va_get (pc := 22) (D := D) (ci := 4) (v := .int (nI ct1)) (C := RX6) (T := TX6) (N := 4) hx hb hts hinX6 hown hK hP 0 rfl rfl 3 (by decide) lk0 (fun _ h9 => h9) rfl dX6_record_22 ?_
    refine lv_lload_n (pc := 25) hx hb dX6_record_25 rfl (lv_at hl 1 rfl) ?_
    refine xa_last (pc := 26) hx hb hK hP hD hS 1 1 rfl rfl (by omega) (by omega) dX6_record_26 (fun H locs hP hD hS => ?_)
    have hP : va_P D vwCl [(hst, .inr (4, oT at1 ct1)), (at1 0, .inl (cL, 17, .inr (.inl (lA (up bf ct1 v))))), (at1 1, .inl (cI, 17, .inl (nA ru))), (at1 2, .inl (cI, 17, .inl (nA ps)))] H := hP
    have hD : va_D _ [(hst, .inr (4, oT at1 ct1)), (at1 0, .inl (cL, 17, .inr (.inl (lA (up bf ct1 v))))), (at1 1, .inl (cI, 17, .inl (nA ru))), (at1 2, .inl (cI, 17, .inl (nA ps)))] := hD
    refine lv_aload_n (pc := 27) hx hb dX6_record_27 rfl (lv_at hl 0 rfl) ?_
    refine va_get (pc := 28) (D := D) (ci := 4) (v := .ref (at1 1)) (C := RX6) (T := TX6) (N := 4) hx hb hts hinX6 hown hK hP 0 rfl rfl 1 (by decide) lk2 (fun _ h9 => h9) rfl dX6_record_28 ?_
    refine lv_aload_n (pc := 31) hx hb dX6_record_31 rfl (lv_at hl 0 rfl) ?_
    refine va_get (pc := 32) (D := D) (ci := 4) (v := .int (nI ct1)) (C := RX6) (T := TX6) (N := 4) hx hb hts hinX6 hown hK hP 0 rfl rfl 3 (by decide) lk0 (fun _ h9 => h9) rfl dX6_record_32 ?_
    refine lv_iload_n (pc := 35) hx hb dX6_record_35 rfl (lv_at hl 2 rfl) ?_
    refine xa_iast (pc := 36) hx hb hK hP hD hS 2 0 rfl rfl (by omega) (by omega) dX6_record_36 (fun H locs hP hD hS => ?_)
    have hP : va_P D vwCl [(hst, .inr (4, oT at1 ct1)), (at1 0, .inl (cL, 17, .inr (.inl (lA (up bf ct1 v))))), (at1 1, .inl (cI, 17, .inl (nA (up ru ct1 rl)))), (at1 2, .inl (cI, 17, .inl (nA ps)))] H := hP
    have hD : va_D _ [(hst, .inr (4, oT at1 ct1)), (at1 0, .inl (cL, 17, .inr (.inl (lA (up bf ct1 v))))), (at1 1, .inl (cI, 17, .inl (nA (up ru ct1 rl)))), (at1 2, .inl (cI, 17, .inl (nA ps)))] := hD
    refine lv_aload_n (pc := 37) hx hb dX6_record_37 rfl (lv_at hl 0 rfl) ?_
    refine va_get (pc := 38) (D := D) (ci := 4) (v := .ref (at1 2)) (C := RX6) (T := TX6) (N := 4) hx hb hts hinX6 hown hK hP 0 rfl rfl 2 (by decide) lk3 (fun _ h9 => h9) rfl dX6_record_38 ?_
    refine lv_aload_n (pc := 41) hx hb dX6_record_41 rfl (lv_at hl 0 rfl) ?_
    refine va_get (pc := 42) (D := D) (ci := 4) (v := .int (nI ct1)) (C := RX6) (T := TX6) (N := 4) hx hb hts hinX6 hown hK hP 0 rfl rfl 3 (by decide) lk0 (fun _ h9 => h9) rfl dX6_record_42 ?_
    refine lv_iload (pc := 45) hx hb dX6_record_45 (lv_at hl 3 rfl) ?_
    refine xa_iast (pc := 47) hx hb hK hP hD hS 3 0 rfl rfl (by omega) (by omega) dX6_record_47 (fun H locs hP hD hS => ?_)
    have hP : va_P D vwCl [(hst, .inr (4, oT at1 ct1)), (at1 0, .inl (cL, 17, .inr (.inl (lA (up bf ct1 v))))), (at1 1, .inl (cI, 17, .inl (nA (up ru ct1 rl)))), (at1 2, .inl (cI, 17, .inl (nA (up ps ct1 p1))))] H := hP
    have hD : va_D _ [(hst, .inr (4, oT at1 ct1)), (at1 0, .inl (cL, 17, .inr (.inl (lA (up bf ct1 v))))), (at1 1, .inl (cI, 17, .inl (nA (up ru ct1 rl)))), (at1 2, .inl (cI, 17, .inl (nA (up ps ct1 p1))))] := hD
    refine lv_aload_n (pc := 48) hx hb dX6_record_48 rfl (lv_at hl 0 rfl) ?_
    refine lv_dup (pc := 49) hx hb dX6_record_49 rfl ?_
    refine va_get (pc := 50) (D := D) (ci := 4) (v := .int (nI ct1)) (C := RX6) (T := TX6) (N := 4) hx hb hts hinX6 hown hK hP 0 rfl rfl 3 (by decide) lk0 (fun _ h9 => h9) rfl dX6_record_50 ?_
    refine lv_iconst (pc := 53) (v := (nI (1))) hx hb dX6_record_53 (by decide) ?_
    refine xn_iadd (pc := 54) hx hb  dX6_record_54 ?_
    refine va_put (pc := 55) (D := D) (ci := 4) (v := .int (nI (ct1 + 1))) (ty := .int) (C := RX6) (T := TX6) (N := 4) hx hb hts hinX6 tyX6 tyX6_ok nmX6 hown hK hP hD hS 0 rfl rfl 3 (by decide) lk0 (fun _ h9 => h9) rfl (by decide +kernel) rfl rfl (Nat.le_of_ble_eq_true rfl) dX6_record_55 (fun H locs hP hD hS => ?_)
    have hP : va_P D vwCl [(hst, .inr (4, oT at1 (ct1 + 1))), (at1 0, .inl (cL, 17, .inr (.inl (lA (up bf ct1 v))))), (at1 1, .inl (cI, 17, .inl (nA (up ru ct1 rl)))), (at1 2, .inl (cI, 17, .inl (nA (up ps ct1 p1))))] H := hP
    have hD : va_D _ [(hst, .inr (4, oT at1 (ct1 + 1))), (at1 0, .inl (cL, 17, .inr (.inl (lA (up bf ct1 v))))), (at1 1, .inl (cI, 17, .inl (nA (up ru ct1 rl)))), (at1 2, .inl (cI, 17, .inl (nA (up ps ct1 p1))))] := hD
    have hP9 : va_P D vwCl [(hst, .inr (4, oT at1 (ct1 + 1))), (at1 0, .inl (cL, 17, .inr (.inl (lA (up bf ct1 v))))), (at1 1, .inl (cI, 17, .inl (nA (up ru ct1 rl)))), (at1 2, .inl (cI, 17, .inl (nA (up ps ct1 p1))))] H := hP.sub [0, 1, 2, 3] rfl
    have hD9 : va_D _ [(hst, .inr (4, oT at1 (ct1 + 1))), (at1 0, .inl (cL, 17, .inr (.inl (lA (up bf ct1 v))))), (at1 1, .inl (cI, 17, .inl (nA (up ru ct1 rl)))), (at1 2, .inl (cI, 17, .inl (nA (up ps ct1 p1))))] := hD.sub [0, 1, 2, 3] (by decide) rfl
    exact W.vret (pc := 58) hx hb hr (fun t ht hW => ⟨⟨(), rfl, trivial, by rw [ht]; exact hP9, va_K.moved hW.alike hK, hD9⟩, hS.F ht⟩) hS.2.2 dX6_record_58
  · exact absurd c13 (by omega)
set_option maxHeartbeats 4000000 in
set_option maxRecDepth 100000 in
theorem c_X6_takeBack (l : Launch) (D : va_G) (cI cL cZ : ClassId) (sz : Nat) (hst : Nat) (at1 : Nat → Nat) (bf : Nat → Nat) (ru : Nat → Nat) (ps : Nat → Nat) (ct1 : Nat) (k : Nat) (hk : 1 ≤ k) (hk2 : k ≤ ct1) (hct : ct1 ≤ 17) : Met l yX6_takeBack wsX6_takeBack { frames := 0, cells := 0, slots := 0, locals := 0 } (mP D (tyL cI cL cZ) [(hst, .inr (4, oT at1 ct1)), (at1 0, .inl (cL, 17, .inr (.inl (lA bf)))), (at1 1, .inl (cI, 17, .inl (nA ru))), (at1 2, .inl (cI, 17, .inl (nA ps)))] sz [.ref hst, .int (nI k)]) (va_Ql (fun (r : Int64) (u : Unit) => r = (lN (bf (ct1 - k))) ∧ (True)) (fun (u : Unit) (t : State) => mB D (tyL cI cL cZ) (va_A [(hst, .inr (4, oT at1 ct1)), (at1 0, .inl (cL, 17, .inr (.inl (lA bf)))), (at1 1, .inl (cI, 17, .inl (nA ru))), (at1 2, .inl (cI, 17, .inl (nA ps)))] sz) [(hst, .inr (4, oT at1 (ct1 - k))), (at1 0, .inl (cL, 17, .inr (.inl (lA bf)))), (at1 1, .inl (cI, 17, .inl (nA ru))), (at1 2, .inl (cI, 17, .inl (nA ps)))] t) (va_A [(hst, .inr (4, oT at1 ct1)), (at1 0, .inl (cL, 17, .inr (.inl (lA bf)))), (at1 1, .inl (cI, 17, .inl (nA ru))), (at1 2, .inl (cI, 17, .inl (nA ps)))] sz)) 0 0 (va_A [(hst, .inr (4, oT at1 ct1)), (at1 0, .inl (cL, 17, .inr (.inl (lA bf)))), (at1 1, .inl (cI, 17, .inl (nA ru))), (at1 2, .inl (cI, 17, .inl (nA ps)))] sz) := by
  refine Met.ofW (cc := cX6_takeBack) (maxL := 3) (ret := (some .long)) (by decide) rfl ?_
  intro pG eG s mG args below meth cG s₁ B hml hpre9
  obtain ⟨rfl, hsz, hP, hK, hD0⟩ := hpre9
  have hx := B.exec
  have hb := B.bytes
  have hr := B.returns
  have hts := atoms_spec (ws := wsX6_takeBack) B.pre
  have hown : s.vm.findClass RX6 = some mG.cls := findClass_of_methodNamed B.named
  have hlocks := B.notSynchronized
  subst hsz
  have hD := hD0.self (sz := s.heap.size)
  have hA : ∀ q : Nat, s.heap.size ≤ q → va_A [(hst, .inr (4, oT at1 ct1)), (at1 0, .inl (cL, 17, .inr (.inl (lA bf)))), (at1 1, .inl (cI, 17, .inl (nA ru))), (at1 2, .inl (cI, 17, .inl (nA ps)))] s.heap.size q := fun q h => Or.inr h
  have hS : va_S (va_A [(hst, .inr (4, oT at1 ct1)), (at1 0, .inl (cL, 17, .inr (.inl (lA bf)))), (at1 1, .inl (cI, 17, .inl (nA ru))), (at1 2, .inl (cI, 17, .inl (nA ps)))] s.heap.size) s.heap s.heap [] := va_S.rf
  have hinX6 : ∀ w ∈ wsX60, w ∈ wsX6_takeBack := fun w HH => (List.mem_cons_of_mem _ (List.mem_append_right _ HH))
  have lk0 : (Cond.fieldLink RX6 22 "RegexSimplifier$Steps" "count" "I").before _ s = true := hts _ (List.mem_cons_of_mem _ (List.mem_append_left _ (List.mem_of_getElem? (i := 0) rfl)))
  have lk1 : (Cond.fieldLink RX6 9 "RegexSimplifier$Steps" "before" "[J").before _ s = true := hts _ (List.mem_cons_of_mem _ (List.mem_append_left _ (List.mem_of_getElem? (i := 1) rfl)))
  have hl := lv_entry ([.ref hst, .int (nI k)]) (n := 3) (Nat.le_of_ble_eq_true rfl)
  rw [lg_entry_eq]
  generalize (lg_sl ([.ref hst, .int (nI k)]) ++ List.replicate (3 - (lg_sl ([.ref hst, .int (nI k)])).length) Slot.unset).toArray = ls at hl ⊢
  have hl : lv_has ls 3 [(0, .ref hst), (1, .int (nI k))] := hl
  refine lv_aload_n (pc := 0) hx hb dX6_takeBack_0 rfl (lv_at hl 0 rfl) ?_
  refine va_get (pc := 1) (D := D) (ci := 4) (v := .int (nI ct1)) (C := RX6) (T := TX6) (N := 4) hx hb hts hinX6 hown hK hP 0 rfl rfl 3 (by decide) lk0 (fun _ h9 => h9) rfl dX6_takeBack_1 ?_
  refine lv_iload_n (pc := 4) hx hb dX6_takeBack_4 rfl (lv_at hl 1 rfl) ?_
  refine xn_isub (pc := 5) hx hb (by omega) dX6_takeBack_5 ?_
  refine lv_istore_n (pc := 6) (lv' := [(2, .int (nI (ct1 - k))), (0, .ref hst), (1, .int (nI k))]) hx hb dX6_takeBack_6 rfl hl (by decide) rfl (fun ls hl => ?_)
  refine lv_iload_n (pc := 7) hx hb dX6_takeBack_7 rfl (lv_at hl 0 rfl) ?_
  refine xn_if_lt (pc := 8) (tgt := 17) hx hb (by omega) dX6_takeBack_8 (by decide) ?_
  refine lv_iload_n (pc := 11) hx hb dX6_takeBack_11 rfl (lv_at hl 0 rfl) ?_
  refine lv_bipush (pc := 12) (v := (nI (17))) hx hb dX6_takeBack_12 (by decide) ?_
  refine xn_icmp_lt (pc := 14) (tgt := 19) hx hb (by omega) (by omega) dX6_takeBack_14 (by decide) (fun c14 => ?_) (fun c14 => ?_)
  · refine lv_aload_n (pc := 19) hx hb dX6_takeBack_19 rfl (lv_at hl 1 rfl) ?_
    refine lv_iload_n (pc := 20) hx hb dX6_takeBack_20 rfl (lv_at hl 0 rfl) ?_
    refine va_put (pc := 21) (D := D) (ci := 4) (v := .int (nI (ct1 - k))) (ty := .int) (C := RX6) (T := TX6) (N := 4) hx hb hts hinX6 tyX6 tyX6_ok nmX6 hown hK hP hD hS 0 rfl rfl 3 (by decide) lk0 (fun _ h9 => h9) rfl (by decide +kernel) rfl rfl (Nat.le_of_ble_eq_true rfl) dX6_takeBack_21 (fun H locs hP hD hS => ?_)
    have hP : va_P D vwCl [(hst, .inr (4, oT at1 (ct1 - k))), (at1 0, .inl (cL, 17, .inr (.inl (lA bf)))), (at1 1, .inl (cI, 17, .inl (nA ru))), (at1 2, .inl (cI, 17, .inl (nA ps)))] H := hP
    have hD : va_D _ [(hst, .inr (4, oT at1 (ct1 - k))), (at1 0, .inl (cL, 17, .inr (.inl (lA bf)))), (at1 1, .inl (cI, 17, .inl (nA ru))), (at1 2, .inl (cI, 17, .inl (nA ps)))] := hD
    refine lv_aload_n (pc := 24) hx hb dX6_takeBack_24 rfl (lv_at hl 1 rfl) ?_
    refine va_get (pc := 25) (D := D) (ci := 4) (v := .ref (at1 0)) (C := RX6) (T := TX6) (N := 4) hx hb hts hinX6 hown hK hP 0 rfl rfl 0 (by decide) lk1 (fun _ h9 => h9) rfl dX6_takeBack_25 ?_
    refine lv_iload_n (pc := 28) hx hb dX6_takeBack_28 rfl (lv_at hl 0 rfl) ?_
    refine xa_lald (pc := 29) hx hb hK hP 1 1 rfl rfl (by omega) (by omega) dX6_takeBack_29 ?_
    have hP9 : va_P D vwCl [(hst, .inr (4, oT at1 (ct1 - k))), (at1 0, .inl (cL, 17, .inr (.inl (lA bf)))), (at1 1, .inl (cI, 17, .inl (nA ru))), (at1 2, .inl (cI, 17, .inl (nA ps)))] H := hP.sub [0, 1, 2, 3] rfl
    have hD9 : va_D _ [(hst, .inr (4, oT at1 (ct1 - k))), (at1 0, .inl (cL, 17, .inr (.inl (lA bf)))), (at1 1, .inl (cI, 17, .inl (nA ru))), (at1 2, .inl (cI, 17, .inl (nA ps)))] := hD.sub [0, 1, 2, 3] (by decide) rfl
    exact W.lret (pc := 30) (v := (lN (bf (ct1 - k)))) hx hb hr (fun t ht hW => ⟨⟨_, (), rfl, ⟨rfl, trivial⟩, by rw [ht]; exact hP9, va_K.moved hW.alike hK, hD9⟩, hS.F ht⟩) hS.2.2 dX6_takeBack_30
  · exact absurd c14 (by omega)
set_option maxHeartbeats 4000000 in
set_option maxRecDepth 100000 in
theorem c_X6_ruleAt (l : Launch) (D : va_G) (cI cL cZ : ClassId) (hst : Nat) (at1 : Nat → Nat) (bf : Nat → Nat) (ru : Nat → Nat) (ps : Nat → Nat) (ct1 : Nat) (x : Int32) (hct : ct1 ≤ 17) : Met l yX6_ruleAt wsX6_ruleAt { frames := 0, cells := 0, slots := 0, locals := 0 } (rP D (tyL cI cL cZ) [(hst, .inr (4, oT at1 ct1)), (at1 0, .inl (cL, 17, .inr (.inl (lA bf)))), (at1 1, .inl (cI, 17, .inl (nA ru))), (at1 2, .inl (cI, 17, .inl (nA ps)))] [.ref hst, .int x]) (vp_Si (fun r => r = (stA ru ct1 x))) 0 0 (fun _ => False) := by
  refine Met.ofW (cc := cX6_ruleAt) (maxL := 2) (ret := (some .int)) (by decide) rfl ?_
  intro pG eG s mG args below meth cG s₁ B hml hpre9
  obtain ⟨rfl, hP, hK⟩ := hpre9
  have hx := B.exec
  have hb := B.bytes
  have hr := B.returns
  have hts := atoms_spec (ws := wsX6_ruleAt) B.pre
  have hown : s.vm.findClass RX6 = some mG.cls := findClass_of_methodNamed B.named
  have hlocks := B.notSynchronized
  have hS : va_S (fun _ => False) s.heap s.heap [] := va_S.rf
  have hinX6 : ∀ w ∈ wsX60, w ∈ wsX6_ruleAt := fun w HH => (List.mem_cons_of_mem _ (List.mem_append_right _ HH))
  have lk0 : (Cond.fieldLink RX6 22 "RegexSimplifier$Steps" "count" "I").before _ s = true := hts _ (List.mem_cons_of_mem _ (List.mem_append_left _ (List.mem_of_getElem? (i := 0) rfl)))
  have lk1 : (Cond.fieldLink RX6 15 "RegexSimplifier$Steps" "rules" "[I").before _ s = true := hts _ (List.mem_cons_of_mem _ (List.mem_append_left _ (List.mem_of_getElem? (i := 1) rfl)))
  have hl := lv_entry ([.ref hst, .int x]) (n := 2) (Nat.le_of_ble_eq_true rfl)
  rw [lg_entry_eq]
  generalize (lg_sl ([.ref hst, .int x]) ++ List.replicate (2 - (lg_sl ([.ref hst, .int x])).length) Slot.unset).toArray = ls at hl ⊢
  have hl : lv_has ls 2 [(0, .ref hst), (1, .int x)] := hl
  refine lv_iload_n (pc := 0) hx hb dX6_ruleAt_0 rfl (lv_at hl 1 rfl) ?_
  refine lv_if_lt (pc := 1) (tgt := 21) hx hb dX6_ruleAt_1 (by decide) (fun c1 => ?_) (fun c1 => ?_)
  · refine lv_bipush (pc := 21) (v := ((-5))) hx hb dX6_ruleAt_21 (by decide) ?_
    exact W.iret (pc := 23) (v := ((-5))) hx hb hr (fun t ht _ => ⟨_, rfl, (stA_neg c1).symm, ht⟩) (fun _ h => absurd h List.not_mem_nil) dX6_ruleAt_23
  · obtain ⟨q, hq, rfl⟩ := nI_of c1
    refine lv_iload_n (pc := 4) hx hb dX6_ruleAt_4 rfl (lv_at hl 1 rfl) ?_
    refine lv_aload_n (pc := 5) hx hb dX6_ruleAt_5 rfl (lv_at hl 0 rfl) ?_
    refine va_get (pc := 6) (D := D) (ci := 4) (v := .int (nI ct1)) (C := RX6) (T := TX6) (N := 4) hx hb hts hinX6 hown hK hP 0 rfl rfl 3 (by decide) lk0 (fun _ h9 => h9) rfl dX6_ruleAt_6 ?_
    refine xn_icmp_ge (pc := 9) (tgt := 21) hx hb (by omega) (by omega) dX6_ruleAt_9 (by decide) (fun c9 => ?_) (fun c9 => ?_)
    · refine lv_bipush (pc := 21) (v := ((-5))) hx hb dX6_ruleAt_21 (by decide) ?_
      exact W.iret (pc := 23) (v := ((-5))) hx hb hr (fun t ht _ => ⟨_, rfl, (stA_out hq c9).symm, ht⟩) (fun _ h => absurd h List.not_mem_nil) dX6_ruleAt_23
    · refine lv_aload_n (pc := 12) hx hb dX6_ruleAt_12 rfl (lv_at hl 0 rfl) ?_
      refine va_get (pc := 13) (D := D) (ci := 4) (v := .ref (at1 1)) (C := RX6) (T := TX6) (N := 4) hx hb hts hinX6 hown hK hP 0 rfl rfl 1 (by decide) lk1 (fun _ h9 => h9) rfl dX6_ruleAt_13 ?_
      refine lv_iload_n (pc := 16) hx hb dX6_ruleAt_16 rfl (lv_at hl 1 rfl) ?_
      refine xa_iald (pc := 17) hx hb hK hP 2 0 rfl rfl (by omega) (by omega) dX6_ruleAt_17 ?_
      refine lv_goto (pc := 18) (tgt := 23) hx hb dX6_ruleAt_18 (by decide) ?_
      exact W.iret (pc := 23) (v := (nI (ru q))) hx hb hr (fun t ht _ => ⟨_, rfl, (stA_in hq c9).symm, ht⟩) (fun _ h => absurd h List.not_mem_nil) dX6_ruleAt_23
set_option maxHeartbeats 4000000 in
set_option maxRecDepth 100000 in
theorem c_X6_positionAt (l : Launch) (D : va_G) (cI cL cZ : ClassId) (hst : Nat) (at1 : Nat → Nat) (bf : Nat → Nat) (ru : Nat → Nat) (ps : Nat → Nat) (ct1 : Nat) (x : Int32) (hct : ct1 ≤ 17) : Met l yX6_positionAt wsX6_positionAt { frames := 0, cells := 0, slots := 0, locals := 0 } (rP D (tyL cI cL cZ) [(hst, .inr (4, oT at1 ct1)), (at1 0, .inl (cL, 17, .inr (.inl (lA bf)))), (at1 1, .inl (cI, 17, .inl (nA ru))), (at1 2, .inl (cI, 17, .inl (nA ps)))] [.ref hst, .int x]) (vp_Si (fun r => r = (stA ps ct1 x))) 0 0 (fun _ => False) := by
  refine Met.ofW (cc := cX6_positionAt) (maxL := 2) (ret := (some .int)) (by decide) rfl ?_
  intro pG eG s mG args below meth cG s₁ B hml hpre9
  obtain ⟨rfl, hP, hK⟩ := hpre9
  have hx := B.exec
  have hb := B.bytes
  have hr := B.returns
  have hts := atoms_spec (ws := wsX6_positionAt) B.pre
  have hown : s.vm.findClass RX6 = some mG.cls := findClass_of_methodNamed B.named
  have hlocks := B.notSynchronized
  have hS : va_S (fun _ => False) s.heap s.heap [] := va_S.rf
  have hinX6 : ∀ w ∈ wsX60, w ∈ wsX6_positionAt := fun w HH => (List.mem_cons_of_mem _ (List.mem_append_right _ HH))
  have lk0 : (Cond.fieldLink RX6 22 "RegexSimplifier$Steps" "count" "I").before _ s = true := hts _ (List.mem_cons_of_mem _ (List.mem_append_left _ (List.mem_of_getElem? (i := 0) rfl)))
  have lk1 : (Cond.fieldLink RX6 19 "RegexSimplifier$Steps" "positions" "[I").before _ s = true := hts _ (List.mem_cons_of_mem _ (List.mem_append_left _ (List.mem_of_getElem? (i := 1) rfl)))
  have hl := lv_entry ([.ref hst, .int x]) (n := 2) (Nat.le_of_ble_eq_true rfl)
  rw [lg_entry_eq]
  generalize (lg_sl ([.ref hst, .int x]) ++ List.replicate (2 - (lg_sl ([.ref hst, .int x])).length) Slot.unset).toArray = ls at hl ⊢
  have hl : lv_has ls 2 [(0, .ref hst), (1, .int x)] := hl
  refine lv_iload_n (pc := 0) hx hb dX6_positionAt_0 rfl (lv_at hl 1 rfl) ?_
  refine lv_if_lt (pc := 1) (tgt := 21) hx hb dX6_positionAt_1 (by decide) (fun c1 => ?_) (fun c1 => ?_)
  · refine lv_bipush (pc := 21) (v := ((-5))) hx hb dX6_positionAt_21 (by decide) ?_
    exact W.iret (pc := 23) (v := ((-5))) hx hb hr (fun t ht _ => ⟨_, rfl, (stA_neg c1).symm, ht⟩) (fun _ h => absurd h List.not_mem_nil) dX6_positionAt_23
  · obtain ⟨q, hq, rfl⟩ := nI_of c1
    refine lv_iload_n (pc := 4) hx hb dX6_positionAt_4 rfl (lv_at hl 1 rfl) ?_
    refine lv_aload_n (pc := 5) hx hb dX6_positionAt_5 rfl (lv_at hl 0 rfl) ?_
    refine va_get (pc := 6) (D := D) (ci := 4) (v := .int (nI ct1)) (C := RX6) (T := TX6) (N := 4) hx hb hts hinX6 hown hK hP 0 rfl rfl 3 (by decide) lk0 (fun _ h9 => h9) rfl dX6_positionAt_6 ?_
    refine xn_icmp_ge (pc := 9) (tgt := 21) hx hb (by omega) (by omega) dX6_positionAt_9 (by decide) (fun c9 => ?_) (fun c9 => ?_)
    · refine lv_bipush (pc := 21) (v := ((-5))) hx hb dX6_positionAt_21 (by decide) ?_
      exact W.iret (pc := 23) (v := ((-5))) hx hb hr (fun t ht _ => ⟨_, rfl, (stA_out hq c9).symm, ht⟩) (fun _ h => absurd h List.not_mem_nil) dX6_positionAt_23
    · refine lv_aload_n (pc := 12) hx hb dX6_positionAt_12 rfl (lv_at hl 0 rfl) ?_
      refine va_get (pc := 13) (D := D) (ci := 4) (v := .ref (at1 2)) (C := RX6) (T := TX6) (N := 4) hx hb hts hinX6 hown hK hP 0 rfl rfl 2 (by decide) lk1 (fun _ h9 => h9) rfl dX6_positionAt_13 ?_
      refine lv_iload_n (pc := 16) hx hb dX6_positionAt_16 rfl (lv_at hl 1 rfl) ?_
      refine xa_iald (pc := 17) hx hb hK hP 3 0 rfl rfl (by omega) (by omega) dX6_positionAt_17 ?_
      refine lv_goto (pc := 18) (tgt := 23) hx hb dX6_positionAt_18 (by decide) ?_
      exact W.iret (pc := 23) (v := (nI (ps q))) hx hb hr (fun t ht _ => ⟨_, rfl, (stA_in hq c9).symm, ht⟩) (fun _ h => absurd h List.not_mem_nil) dX6_positionAt_23
set_option maxHeartbeats 4000000 in
set_option maxRecDepth 100000 in
theorem c_X7_addressError (l : Launch) (D : va_G) (cI cL cZ : ClassId) (he : Nat) (ae : Nat → Nat) (kd : Nat → Nat) (ed : Nat → Nat) (cd : Nat → Nat) (nn : Nat) (rl : Int32) (px : Int32) (hn : nn ≤ 18) : Met l yX7_addressError wsX7_addressError { frames := 1, cells := 0, slots := 0, locals := 21 } (rP D (tyL cI cL cZ) [(he, .inr (2, oE ae nn)), (ae 0, .inl (cI, 18, .inl (nA kd))), (ae 1, .inl (cI, 18, .inl (nA ed))), (ae 2, .inl (cL, 18, .inr (.inl (lA cd))))] [.ref he, .int rl, .int px]) (vp_Si (fun r => r = (aErr nn rl px))) 0 0 (fun _ => False) := by
  refine Met.ofW (cc := cX7_addressError) (maxL := 3) (ret := (some .int)) (by decide) rfl ?_
  intro pG eG s mG args below meth cG s₁ B hml hpre9
  obtain ⟨rfl, hP, hK⟩ := hpre9
  have hx := B.exec
  have hb := B.bytes
  have hr := B.returns
  have hts := atoms_spec (ws := wsX7_addressError) B.pre
  have hown : s.vm.findClass RX7 = some mG.cls := findClass_of_methodNamed B.named
  have hlocks := B.notSynchronized
  have hS : va_S (fun _ => False) s.heap s.heap [] := va_S.rf
  have hl := lv_entry ([.ref he, .int rl, .int px]) (n := 3) (Nat.le_of_ble_eq_true rfl)
  rw [lg_entry_eq]
  generalize (lg_sl ([.ref he, .int rl, .int px]) ++ List.replicate (3 - (lg_sl ([.ref he, .int rl, .int px])).length) Slot.unset).toArray = ls at hl ⊢
  have hl : lv_has ls 3 [(0, .ref he), (1, .int rl), (2, .int px)] := hl
  refine lv_iload_n (pc := 0) hx hb dX7_addressError_0 rfl (lv_at hl 1 rfl) ?_
  refine lv_if_lt (pc := 1) (tgt := 10) hx hb dX7_addressError_1 (by decide) (fun c1 => ?_) (fun c1 => ?_)
  · refine lv_bipush (pc := 10) (v := ((-2))) hx hb dX7_addressError_10 (by decide) ?_
    exact W.iret (pc := 12) (v := ((-2))) hx hb hr (fun t ht _ => ⟨_, rfl, (if_neg (rok_neg c1)).symm, ht⟩) (fun _ h => absurd h List.not_mem_nil) dX7_addressError_12
  · obtain ⟨q, hq, rfl⟩ := nI_of c1
    refine lv_iload_n (pc := 4) hx hb dX7_addressError_4 rfl (lv_at hl 1 rfl) ?_
    refine lv_bipush (pc := 5) (v := (nI (16))) hx hb dX7_addressError_5 (by decide) ?_
    refine xn_icmp_lt (pc := 7) (tgt := 13) hx hb (by omega) (by omega) dX7_addressError_7 (by decide) (fun c7 => ?_) (fun c7 => ?_)
    · refine lv_aload_n (pc := 13) hx hb dX7_addressError_13 rfl (lv_at hl 0 rfl) ?_
      refine lv_iload_n (pc := 14) hx hb dX7_addressError_14 rfl (lv_at hl 2 rfl) ?_
      refine vp_callSi (pc := 15) (W.runV (As := [.int px]) (rest := []) ⟨hx, hb, hml, hown, hts⟩ (c_X3_has l D cI cL cZ he ae kd ed cd nn px (by omega)) (cwV 1 hts gX7_addressError_X3_has rfl rfl rfl (by decide +kernel) ⟨Nat.le_of_ble_eq_true rfl, Nat.le_of_ble_eq_true rfl⟩) (rP_V (wc := [(he, .inr (2, oE ae nn)), (ae 0, .inl (cI, 18, .inl (nA kd))), (ae 1, .inl (cI, 18, .inl (nA ed))), (ae 2, .inl (cL, 18, .inr (.inl (lA cd))))]) (ci := 2) (q0 := 0) hK hP [0, 1, 2, 3] rfl rfl rfl) rfl rfl hl.1 rfl (lv_room (Nat.le_of_ble_eq_true rfl)) dX7_addressError_15 ⟨Nat.zero_le _, Nat.zero_le _⟩) (fun r hrr => ?_)
      rw [hrr]
      refine xp_if_eq (pc := 18) (tgt := 25) hx hb dX7_addressError_18 (by decide) (fun c18 => ?_) (fun c18 => ?_)
      · refine lv_bipush (pc := 25) (v := ((-3))) hx hb dX7_addressError_25 (by decide) ?_
        exact W.iret (pc := 27) (v := ((-3))) hx hb hr (fun t ht _ => ⟨_, rfl, (by unfold aErr; rw [if_pos ((rok_nI hq).mpr c7)]; first | (rw [if_pos (show rok px nn = true from decide_eq_true c18)]; rfl) | (rw [if_neg (show ¬ rok px nn = true from fun z => c18 (of_decide_eq_true z))])), ht⟩) (fun _ h => absurd h List.not_mem_nil) dX7_addressError_27
      · refine lv_iconst (pc := 21) (v := (nI (0))) hx hb dX7_addressError_21 (by decide) ?_
        refine lv_goto (pc := 22) (tgt := 27) hx hb dX7_addressError_22 (by decide) ?_
        exact W.iret (pc := 27) (v := (nI (0))) hx hb hr (fun t ht _ => ⟨_, rfl, (by unfold aErr; rw [if_pos ((rok_nI hq).mpr c7)]; first | (rw [if_pos (show rok px nn = true from decide_eq_true c18)]; rfl) | (rw [if_neg (show ¬ rok px nn = true from fun z => c18 (of_decide_eq_true z))])), ht⟩) (fun _ h => absurd h List.not_mem_nil) dX7_addressError_27
    · refine lv_bipush (pc := 10) (v := ((-2))) hx hb dX7_addressError_10 (by decide) ?_
      exact W.iret (pc := 12) (v := ((-2))) hx hb hr (fun t ht _ => ⟨_, rfl, (if_neg (fun z => by have := (rok_nI hq).mp z; omega)).symm, ht⟩) (fun _ h => absurd h List.not_mem_nil) dX7_addressError_12
