/-! Expression: reading a number -/
set_option maxHeartbeats 4000000 in
set_option maxRecDepth 100000 in
theorem c_X3_endOfNode (l : Launch) (D : va_G) (cI cL cZ : ClassId) (he : Nat) (ae : Nat → Nat) (kd : Nat → Nat) (ed : Nat → Nat) (cd : Nat → Nat) (nn : Nat) (q : Nat) (cnt : Nat) (hq : q < cnt) (hc : cnt ≤ 18) (hk : kd q < 10) (hed : ∀ j, q < j → j < cnt → ed j ≤ cnt ∧ j < ed j) : Met l yX3_endOfNode wsX3_endOfNode { frames := 0, cells := 0, slots := 0, locals := 0 } (rP D (tyL cI cL cZ) [(he, .inr (2, oE ae nn)), (ae 0, .inl (cI, 18, .inl (nA kd))), (ae 1, .inl (cI, 18, .inl (nA ed))), (ae 2, .inl (cL, 18, .inr (.inl (lA cd))))] [.ref he, .int (nI q), .int (nI cnt)]) (vp_Si (fun r => r = (nI (stE kd cnt ed q)))) 0 0 (fun _ => False) := by
  refine Met.ofW (cc := cX3_endOfNode) (maxL := 6) (ret := (some .int)) (by decide) rfl ?_
  intro pG eG s mG args below meth cG s₁ B hml hpre9
  obtain ⟨rfl, hP, hK⟩ := hpre9
  have hx := B.exec
  have hb := B.bytes
  have hr := B.returns
  have hts := atoms_spec (ws := wsX3_endOfNode) B.pre
  have hown : s.vm.findClass RX3 = some mG.cls := findClass_of_methodNamed B.named
  have hlocks := B.notSynchronized
  have hS : va_S (fun _ => False) s.heap s.heap [] := va_S.rf
  have hinX3 : ∀ w ∈ wsX30, w ∈ wsX3_endOfNode := fun w HH => (List.mem_cons_of_mem _ (List.mem_append_right _ HH))
  have lk0 : (Cond.fieldLink RX3 9 "RegexSimplifier$Expression" "kinds" "[I").before _ s = true := hts _ (List.mem_cons_of_mem _ (List.mem_append_left _ (List.mem_of_getElem? (i := 0) rfl)))
  have lk1 : (Cond.fieldLink RX3 15 "RegexSimplifier$Expression" "ends" "[I").before _ s = true := hts _ (List.mem_cons_of_mem _ (List.mem_append_left _ (List.mem_of_getElem? (i := 1) rfl)))
  have hl := lv_entry ([.ref he, .int (nI q), .int (nI cnt)]) (n := 6) (Nat.le_of_ble_eq_true rfl)
  rw [lg_entry_eq]
  generalize (lg_sl ([.ref he, .int (nI q), .int (nI cnt)]) ++ List.replicate (6 - (lg_sl ([.ref he, .int (nI q), .int (nI cnt)])).length) Slot.unset).toArray = ls at hl ⊢
  have hl : lv_has ls 6 [(0, .ref he), (1, .int (nI q)), (2, .int (nI cnt))] := hl
  refine lv_aload_n (pc := 0) hx hb dX3_endOfNode_0 rfl (lv_at hl 0 rfl) ?_
  refine va_get (pc := 1) (D := D) (ci := 2) (v := .ref (ae 0)) (C := RX3) (T := TX3) (N := 4) hx hb hts hinX3 hown hK hP 0 rfl rfl 0 (by decide) lk0 (fun _ h9 => h9) rfl dX3_endOfNode_1 ?_
  refine lv_iload_n (pc := 4) hx hb dX3_endOfNode_4 rfl (lv_at hl 1 rfl) ?_
  refine xa_iald (pc := 5) hx hb hK hP 1 0 rfl rfl (by omega) (by omega) dX3_endOfNode_5 ?_
  refine lv_istore_n (pc := 6) (lv' := [(3, .int (nI (kd q))), (0, .ref he), (1, .int (nI q)), (2, .int (nI cnt))]) hx hb dX3_endOfNode_6 rfl hl (by decide) rfl (fun ls hl => ?_)
  refine lv_iload_n (pc := 7) hx hb dX3_endOfNode_7 rfl (lv_at hl 0 rfl) ?_
  refine lv_iconst (pc := 8) (v := (nI (1))) hx hb dX3_endOfNode_8 (by decide) ?_
  refine xn_icmp_lt (pc := 9) (tgt := 21) hx hb (by omega) (by omega) dX3_endOfNode_9 (by decide) (fun c9 => ?_) (fun c9 => ?_)
  · refine lv_iload_n (pc := 21) hx hb dX3_endOfNode_21 rfl (lv_at hl 2 rfl) ?_
    refine lv_iconst (pc := 22) (v := (nI (1))) hx hb dX3_endOfNode_22 (by decide) ?_
    refine xn_iadd (pc := 23) hx hb  dX3_endOfNode_23 ?_
    refine lv_istore (pc := 24) (lv' := [(4, .int (nI (q + 1))), (3, .int (nI (kd q))), (0, .ref he), (1, .int (nI q)), (2, .int (nI cnt))]) hx hb dX3_endOfNode_24 hl (by decide) rfl (fun ls hl => ?_)
    refine lv_iload (pc := 26) hx hb dX3_endOfNode_26 (lv_at hl 0 rfl) ?_
    refine lv_iload_n (pc := 28) hx hb dX3_endOfNode_28 rfl (lv_at hl 4 rfl) ?_
    refine xn_icmp_ge (pc := 29) (tgt := 44) hx hb (by omega) (by omega) dX3_endOfNode_29 (by decide) (fun c29 => ?_) (fun c29 => ?_)
    · refine lv_iload_n (pc := 44) hx hb dX3_endOfNode_44 rfl (lv_at hl 4 rfl) ?_
      refine lv_iconst (pc := 45) (v := (nI (1))) hx hb dX3_endOfNode_45 (by decide) ?_
      refine xn_iadd (pc := 46) hx hb  dX3_endOfNode_46 ?_
      exact W.iret (pc := 47) (v := (nI (cnt + 1))) hx hb hr (fun t ht _ => ⟨_, rfl, (by unfold stE; (repeat' split) <;> first | rfl | omega), ht⟩) (fun _ h => absurd h List.not_mem_nil) dX3_endOfNode_47
    · refine lv_iload_n (pc := 32) hx hb dX3_endOfNode_32 rfl (lv_at hl 1 rfl) ?_
      refine lv_bipush (pc := 33) (v := (nI (6))) hx hb dX3_endOfNode_33 (by decide) ?_
      refine xn_icmp_lt (pc := 35) (tgt := 44) hx hb (by omega) (by omega) dX3_endOfNode_35 (by decide) (fun c35 => ?_) (fun c35 => ?_)
      · refine lv_iload_n (pc := 44) hx hb dX3_endOfNode_44 rfl (lv_at hl 4 rfl) ?_
        refine lv_iconst (pc := 45) (v := (nI (1))) hx hb dX3_endOfNode_45 (by decide) ?_
        refine xn_iadd (pc := 46) hx hb  dX3_endOfNode_46 ?_
        exact W.iret (pc := 47) (v := (nI (cnt + 1))) hx hb hr (fun t ht _ => ⟨_, rfl, (by unfold stE; (repeat' split) <;> first | rfl | omega), ht⟩) (fun _ h => absurd h List.not_mem_nil) dX3_endOfNode_47
      · refine lv_iload_n (pc := 38) hx hb dX3_endOfNode_38 rfl (lv_at hl 1 rfl) ?_
        refine lv_bipush (pc := 39) (v := (nI (8))) hx hb dX3_endOfNode_39 (by decide) ?_
        refine xn_icmp_le (pc := 41) (tgt := 48) hx hb (by omega) (by omega) dX3_endOfNode_41 (by decide) (fun c41 => ?_) (fun c41 => ?_)
        · have h48 := hed (q + 1) (by omega) (by omega)
          refine lv_aload_n (pc := 48) hx hb dX3_endOfNode_48 rfl (lv_at hl 2 rfl) ?_
          refine va_get (pc := 49) (D := D) (ci := 2) (v := .ref (ae 1)) (C := RX3) (T := TX3) (N := 4) hx hb hts hinX3 hown hK hP 0 rfl rfl 1 (by decide) lk1 (fun _ h9 => h9) rfl dX3_endOfNode_49 ?_
          refine lv_iload (pc := 52) hx hb dX3_endOfNode_52 (lv_at hl 0 rfl) ?_
          refine xa_iald (pc := 54) hx hb hK hP 2 0 rfl rfl (by omega) (by omega) dX3_endOfNode_54 ?_
          refine lv_istore (pc := 55) (lv' := [(5, .int (nI (ed (q + 1)))), (4, .int (nI (q + 1))), (3, .int (nI (kd q))), (0, .ref he), (1, .int (nI q)), (2, .int (nI cnt))]) hx hb dX3_endOfNode_55 hl (by decide) rfl (fun ls hl => ?_)
          refine lv_iload_n (pc := 57) hx hb dX3_endOfNode_57 rfl (lv_at hl 2 rfl) ?_
          refine lv_bipush (pc := 58) (v := (nI (8))) hx hb dX3_endOfNode_58 (by decide) ?_
          refine xn_icmp_ne (pc := 60) (tgt := 66) hx hb (by omega) (by omega) dX3_endOfNode_60 (by decide) (fun c60 => ?_) (fun c60 => ?_)
          · refine lv_iload (pc := 66) hx hb dX3_endOfNode_66 (lv_at hl 0 rfl) ?_
            refine lv_iload_n (pc := 68) hx hb dX3_endOfNode_68 rfl (lv_at hl 5 rfl) ?_
            refine xn_icmp_ge (pc := 69) (tgt := 82) hx hb (by omega) (by omega) dX3_endOfNode_69 (by decide) (fun c69 => ?_) (fun c69 => ?_)
            · refine lv_iload_n (pc := 82) hx hb dX3_endOfNode_82 rfl (lv_at hl 5 rfl) ?_
              refine lv_iconst (pc := 83) (v := (nI (1))) hx hb dX3_endOfNode_83 (by decide) ?_
              refine xn_iadd (pc := 84) hx hb  dX3_endOfNode_84 ?_
              exact W.iret (pc := 85) (v := (nI (cnt + 1))) hx hb hr (fun t ht _ => ⟨_, rfl, (by unfold stE; (repeat' split) <;> first | rfl | omega), ht⟩) (fun _ h => absurd h List.not_mem_nil) dX3_endOfNode_85
            · refine lv_aload_n (pc := 72) hx hb dX3_endOfNode_72 rfl (lv_at hl 3 rfl) ?_
              refine va_get (pc := 73) (D := D) (ci := 2) (v := .ref (ae 1)) (C := RX3) (T := TX3) (N := 4) hx hb hts hinX3 hown hK hP 0 rfl rfl 1 (by decide) lk1 (fun _ h9 => h9) rfl dX3_endOfNode_73 ?_
              refine lv_iload (pc := 76) hx hb dX3_endOfNode_76 (lv_at hl 0 rfl) ?_
              refine xa_iald (pc := 78) hx hb hK hP 2 0 rfl rfl (by omega) (by omega) dX3_endOfNode_78 ?_
              refine lv_goto (pc := 79) (tgt := 85) hx hb dX3_endOfNode_79 (by decide) ?_
              exact W.iret (pc := 85) (v := (nI (ed (ed (q + 1))))) hx hb hr (fun t ht _ => ⟨_, rfl, (by unfold stE; (repeat' split) <;> first | rfl | omega), ht⟩) (fun _ h => absurd h List.not_mem_nil) dX3_endOfNode_85
          · refine lv_iload (pc := 63) hx hb dX3_endOfNode_63 (lv_at hl 0 rfl) ?_
            exact W.iret (pc := 65) (v := (nI (ed (q + 1)))) hx hb hr (fun t ht _ => ⟨_, rfl, (by unfold stE; (repeat' split) <;> first | rfl | omega), ht⟩) (fun _ h => absurd h List.not_mem_nil) dX3_endOfNode_65
        · refine lv_iload_n (pc := 44) hx hb dX3_endOfNode_44 rfl (lv_at hl 4 rfl) ?_
          refine lv_iconst (pc := 45) (v := (nI (1))) hx hb dX3_endOfNode_45 (by decide) ?_
          refine xn_iadd (pc := 46) hx hb  dX3_endOfNode_46 ?_
          exact W.iret (pc := 47) (v := (nI (cnt + 1))) hx hb hr (fun t ht _ => ⟨_, rfl, (by unfold stE; (repeat' split) <;> first | rfl | omega), ht⟩) (fun _ h => absurd h List.not_mem_nil) dX3_endOfNode_47
  · refine lv_iload_n (pc := 12) hx hb dX3_endOfNode_12 rfl (lv_at hl 0 rfl) ?_
    refine lv_iconst (pc := 13) (v := (nI (5))) hx hb dX3_endOfNode_13 (by decide) ?_
    refine xn_icmp_gt (pc := 14) (tgt := 21) hx hb (by omega) (by omega) dX3_endOfNode_14 (by decide) (fun c14 => ?_) (fun c14 => ?_)
    · refine lv_iload_n (pc := 21) hx hb dX3_endOfNode_21 rfl (lv_at hl 2 rfl) ?_
      refine lv_iconst (pc := 22) (v := (nI (1))) hx hb dX3_endOfNode_22 (by decide) ?_
      refine xn_iadd (pc := 23) hx hb  dX3_endOfNode_23 ?_
      refine lv_istore (pc := 24) (lv' := [(4, .int (nI (q + 1))), (3, .int (nI (kd q))), (0, .ref he), (1, .int (nI q)), (2, .int (nI cnt))]) hx hb dX3_endOfNode_24 hl (by decide) rfl (fun ls hl => ?_)
      refine lv_iload (pc := 26) hx hb dX3_endOfNode_26 (lv_at hl 0 rfl) ?_
      refine lv_iload_n (pc := 28) hx hb dX3_endOfNode_28 rfl (lv_at hl 4 rfl) ?_
      refine xn_icmp_ge (pc := 29) (tgt := 44) hx hb (by omega) (by omega) dX3_endOfNode_29 (by decide) (fun c29 => ?_) (fun c29 => ?_)
      · refine lv_iload_n (pc := 44) hx hb dX3_endOfNode_44 rfl (lv_at hl 4 rfl) ?_
        refine lv_iconst (pc := 45) (v := (nI (1))) hx hb dX3_endOfNode_45 (by decide) ?_
        refine xn_iadd (pc := 46) hx hb  dX3_endOfNode_46 ?_
        exact W.iret (pc := 47) (v := (nI (cnt + 1))) hx hb hr (fun t ht _ => ⟨_, rfl, (by unfold stE; (repeat' split) <;> first | rfl | omega), ht⟩) (fun _ h => absurd h List.not_mem_nil) dX3_endOfNode_47
      · refine lv_iload_n (pc := 32) hx hb dX3_endOfNode_32 rfl (lv_at hl 1 rfl) ?_
        refine lv_bipush (pc := 33) (v := (nI (6))) hx hb dX3_endOfNode_33 (by decide) ?_
        refine xn_icmp_lt (pc := 35) (tgt := 44) hx hb (by omega) (by omega) dX3_endOfNode_35 (by decide) (fun c35 => ?_) (fun c35 => ?_)
        · refine lv_iload_n (pc := 44) hx hb dX3_endOfNode_44 rfl (lv_at hl 4 rfl) ?_
          refine lv_iconst (pc := 45) (v := (nI (1))) hx hb dX3_endOfNode_45 (by decide) ?_
          refine xn_iadd (pc := 46) hx hb  dX3_endOfNode_46 ?_
          exact W.iret (pc := 47) (v := (nI (cnt + 1))) hx hb hr (fun t ht _ => ⟨_, rfl, (by unfold stE; (repeat' split) <;> first | rfl | omega), ht⟩) (fun _ h => absurd h List.not_mem_nil) dX3_endOfNode_47
        · refine lv_iload_n (pc := 38) hx hb dX3_endOfNode_38 rfl (lv_at hl 1 rfl) ?_
          refine lv_bipush (pc := 39) (v := (nI (8))) hx hb dX3_endOfNode_39 (by decide) ?_
          refine xn_icmp_le (pc := 41) (tgt := 48) hx hb (by omega) (by omega) dX3_endOfNode_41 (by decide) (fun c41 => ?_) (fun c41 => ?_)
          · have h48 := hed (q + 1) (by omega) (by omega)
            refine lv_aload_n (pc := 48) hx hb dX3_endOfNode_48 rfl (lv_at hl 2 rfl) ?_
            refine va_get (pc := 49) (D := D) (ci := 2) (v := .ref (ae 1)) (C := RX3) (T := TX3) (N := 4) hx hb hts hinX3 hown hK hP 0 rfl rfl 1 (by decide) lk1 (fun _ h9 => h9) rfl dX3_endOfNode_49 ?_
            refine lv_iload (pc := 52) hx hb dX3_endOfNode_52 (lv_at hl 0 rfl) ?_
            refine xa_iald (pc := 54) hx hb hK hP 2 0 rfl rfl (by omega) (by omega) dX3_endOfNode_54 ?_
            refine lv_istore (pc := 55) (lv' := [(5, .int (nI (ed (q + 1)))), (4, .int (nI (q + 1))), (3, .int (nI (kd q))), (0, .ref he), (1, .int (nI q)), (2, .int (nI cnt))]) hx hb dX3_endOfNode_55 hl (by decide) rfl (fun ls hl => ?_)
            refine lv_iload_n (pc := 57) hx hb dX3_endOfNode_57 rfl (lv_at hl 2 rfl) ?_
            refine lv_bipush (pc := 58) (v := (nI (8))) hx hb dX3_endOfNode_58 (by decide) ?_
            refine xn_icmp_ne (pc := 60) (tgt := 66) hx hb (by omega) (by omega) dX3_endOfNode_60 (by decide) (fun c60 => ?_) (fun c60 => ?_)
            · refine lv_iload (pc := 66) hx hb dX3_endOfNode_66 (lv_at hl 0 rfl) ?_
              refine lv_iload_n (pc := 68) hx hb dX3_endOfNode_68 rfl (lv_at hl 5 rfl) ?_
              refine xn_icmp_ge (pc := 69) (tgt := 82) hx hb (by omega) (by omega) dX3_endOfNode_69 (by decide) (fun c69 => ?_) (fun c69 => ?_)
              · refine lv_iload_n (pc := 82) hx hb dX3_endOfNode_82 rfl (lv_at hl 5 rfl) ?_
                refine lv_iconst (pc := 83) (v := (nI (1))) hx hb dX3_endOfNode_83 (by decide) ?_
                refine xn_iadd (pc := 84) hx hb  dX3_endOfNode_84 ?_
                exact W.iret (pc := 85) (v := (nI (cnt + 1))) hx hb hr (fun t ht _ => ⟨_, rfl, (by unfold stE; (repeat' split) <;> first | rfl | omega), ht⟩) (fun _ h => absurd h List.not_mem_nil) dX3_endOfNode_85
              · refine lv_aload_n (pc := 72) hx hb dX3_endOfNode_72 rfl (lv_at hl 3 rfl) ?_
                refine va_get (pc := 73) (D := D) (ci := 2) (v := .ref (ae 1)) (C := RX3) (T := TX3) (N := 4) hx hb hts hinX3 hown hK hP 0 rfl rfl 1 (by decide) lk1 (fun _ h9 => h9) rfl dX3_endOfNode_73 ?_
                refine lv_iload (pc := 76) hx hb dX3_endOfNode_76 (lv_at hl 0 rfl) ?_
                refine xa_iald (pc := 78) hx hb hK hP 2 0 rfl rfl (by omega) (by omega) dX3_endOfNode_78 ?_
                refine lv_goto (pc := 79) (tgt := 85) hx hb dX3_endOfNode_79 (by decide) ?_
                exact W.iret (pc := 85) (v := (nI (ed (ed (q + 1))))) hx hb hr (fun t ht _ => ⟨_, rfl, (by unfold stE; (repeat' split) <;> first | rfl | omega), ht⟩) (fun _ h => absurd h List.not_mem_nil) dX3_endOfNode_85
            · refine lv_iload (pc := 63) hx hb dX3_endOfNode_63 (lv_at hl 0 rfl) ?_
              exact W.iret (pc := 65) (v := (nI (ed (q + 1)))) hx hb hr (fun t ht _ => ⟨_, rfl, (by unfold stE; (repeat' split) <;> first | rfl | omega), ht⟩) (fun _ h => absurd h List.not_mem_nil) dX3_endOfNode_65
          · refine lv_iload_n (pc := 44) hx hb dX3_endOfNode_44 rfl (lv_at hl 4 rfl) ?_
            refine lv_iconst (pc := 45) (v := (nI (1))) hx hb dX3_endOfNode_45 (by decide) ?_
            refine xn_iadd (pc := 46) hx hb  dX3_endOfNode_46 ?_
            exact W.iret (pc := 47) (v := (nI (cnt + 1))) hx hb hr (fun t ht _ => ⟨_, rfl, (by unfold stE; (repeat' split) <;> first | rfl | omega), ht⟩) (fun _ h => absurd h List.not_mem_nil) dX3_endOfNode_47
    · refine lv_iload_n (pc := 17) hx hb dX3_endOfNode_17 rfl (lv_at hl 2 rfl) ?_
      refine lv_iconst (pc := 18) (v := (nI (1))) hx hb dX3_endOfNode_18 (by decide) ?_
      refine xn_iadd (pc := 19) hx hb  dX3_endOfNode_19 ?_
      exact W.iret (pc := 20) (v := (nI (q + 1))) hx hb hr (fun t ht _ => ⟨_, rfl, (by unfold stE; (repeat' split) <;> first | rfl | omega), ht⟩) (fun _ h => absurd h List.not_mem_nil) dX3_endOfNode_20
set_option maxHeartbeats 4000000 in
set_option maxRecDepth 100000 in
theorem c_X3_read (l : Launch) (D : va_G) (cI cL cZ : ClassId) (tp tr : Nat) (sz : Nat) (he : Nat) (ae : Nat → Nat) (kd : Nat → Nat) (ed : Nat → Nat) (cd : Nat → Nat) (nn : Nat) (x : Int64)  : Met l yX3_read wsX3_read { frames := 1, cells := 0, slots := 0, locals := 25 } (mPS D (tyL cI cL cZ) tp tr [(he, .inr (2, oE ae nn)), (ae 0, .inl (cI, 18, .inl (nA kd))), (ae 1, .inl (cI, 18, .inl (nA ed))), (ae 2, .inl (cL, 18, .inr (.inl (lA cd))))] sz [.ref he, .long x]) (va_Qi (fun (r : Int32) (u : (Nat → Nat) × (Nat → Nat) × (Nat → Nat) × Nat) => r = (nI (pN (okVb (xv x) = true))) ∧ ((okVb (xv x) = true → RD (xv x) u.1 u.2.1 u.2.2.1 u.2.2.2) ∧ (¬ okVb (xv x) = true → u.2.2.2 = 0))) (fun (u : (Nat → Nat) × (Nat → Nat) × (Nat → Nat) × Nat) (t : State) => mB D (tyL cI cL cZ) (va_A [(he, .inr (2, oE ae nn)), (ae 0, .inl (cI, 18, .inl (nA kd))), (ae 1, .inl (cI, 18, .inl (nA ed))), (ae 2, .inl (cL, 18, .inr (.inl (lA cd))))] sz) [(he, .inr (2, oE ae (u.2.2.2))), (ae 0, .inl (cI, 18, .inl (nA (u.1)))), (ae 1, .inl (cI, 18, .inl (nA (u.2.1)))), (ae 2, .inl (cL, 18, .inr (.inl (lA (u.2.2.1)))))] t) (va_A [(he, .inr (2, oE ae nn)), (ae 0, .inl (cI, 18, .inl (nA kd))), (ae 1, .inl (cI, 18, .inl (nA ed))), (ae 2, .inl (cL, 18, .inr (.inl (lA cd))))] sz)) 0 0 (va_A [(he, .inr (2, oE ae nn)), (ae 0, .inl (cI, 18, .inl (nA kd))), (ae 1, .inl (cI, 18, .inl (nA ed))), (ae 2, .inl (cL, 18, .inr (.inl (lA cd))))] sz) := by
  refine Met.ofW (cc := cX3_read) (maxL := 7) (ret := (some .boolean)) (by decide) rfl ?_
  intro pG eG s mG args below meth cG s₁ B hml hpre9
  obtain ⟨rfl, hsz, hP, hK, hD0, hZ⟩ := hpre9
  have hx := B.exec
  have hb := B.bytes
  have hr := B.returns
  have hts := atoms_spec (ws := wsX3_read) B.pre
  have hown : s.vm.findClass RX3 = some mG.cls := findClass_of_methodNamed B.named
  have hlocks := B.notSynchronized
  subst hsz
  have hD := hD0.self (sz := s.heap.size)
  have hA : ∀ q : Nat, s.heap.size ≤ q → va_A [(he, .inr (2, oE ae nn)), (ae 0, .inl (cI, 18, .inl (nA kd))), (ae 1, .inl (cI, 18, .inl (nA ed))), (ae 2, .inl (cL, 18, .inr (.inl (lA cd))))] s.heap.size q := fun q h => Or.inr h
  have hS : va_S (va_A [(he, .inr (2, oE ae nn)), (ae 0, .inl (cI, 18, .inl (nA kd))), (ae 1, .inl (cI, 18, .inl (nA ed))), (ae 2, .inl (cL, 18, .inr (.inl (lA cd))))] s.heap.size) s.heap s.heap [] := va_S.rf
  have hinX3 : ∀ w ∈ wsX30, w ∈ wsX3_read := fun w HH => (List.mem_cons_of_mem _ (List.mem_append_right _ HH))
  have lk0 : (Cond.fieldLink RX3 22 "RegexSimplifier$Expression" "nodes" "I").before _ s = true := hts _ (List.mem_cons_of_mem _ (List.mem_append_left _ (List.mem_of_getElem? (i := 0) rfl)))
  have lk1 : (Cond.fieldLink RX3 15 "RegexSimplifier$Expression" "ends" "[I").before _ s = true := hts _ (List.mem_cons_of_mem _ (List.mem_append_left _ (List.mem_of_getElem? (i := 2) rfl)))
  have lk2 : (Cond.fieldLink RX3 9 "RegexSimplifier$Expression" "kinds" "[I").before _ s = true := hts _ (List.mem_cons_of_mem _ (List.mem_append_left _ (List.mem_of_getElem? (i := 1) rfl)))
  have lk3 : (Cond.fieldLink RX3 18 "RegexSimplifier$Expression" "codes" "[J").before _ s = true := hts _ (List.mem_cons_of_mem _ (List.mem_append_left _ (List.mem_of_getElem? (i := 3) rfl)))
  have hl := lv_entry ([.ref he, .long x]) (n := 7) (Nat.le_of_ble_eq_true rfl)
  rw [lg_entry_eq]
  generalize (lg_sl ([.ref he, .long x]) ++ List.replicate (7 - (lg_sl ([.ref he, .long x])).length) Slot.unset).toArray = ls at hl ⊢
  have hl : lv_has ls 7 [(0, .ref he), (1, .long x)] := hl
  rcases lN_split x with hneg | ⟨v, hv0, hv, rfl⟩
  · have hno : ¬ okVb (xv x) = true := okVb_small (Or.inl (xv_neg hneg))
    refine lv_aload_n (pc := 0) hx hb dX3_read_0 rfl (lv_at hl 0 rfl) ?_
    refine lv_iconst (pc := 1) (v := (nI (0))) hx hb dX3_read_1 (by decide) ?_
    refine va_put (pc := 2) (D := D) (ci := 2) (v := .int (nI 0)) (ty := .int) (C := RX3) (T := TX3) (N := 4) hx hb hts hinX3 tyX3 tyX3_ok nmX3 hown hK hP hD hS 0 rfl rfl 3 (by decide) lk0 (fun _ h9 => h9) rfl (by decide +kernel) rfl rfl (Nat.le_of_ble_eq_true rfl) dX3_read_2 (fun H locs hP hD hS => ?_)
    have hP : va_P D vwCl [(he, .inr (2, oE ae 0)), (ae 0, .inl (cI, 18, .inl (nA kd))), (ae 1, .inl (cI, 18, .inl (nA ed))), (ae 2, .inl (cL, 18, .inr (.inl (lA cd))))] H := hP
    have hD : va_D _ [(he, .inr (2, oE ae 0)), (ae 0, .inl (cI, 18, .inl (nA kd))), (ae 1, .inl (cI, 18, .inl (nA ed))), (ae 2, .inl (cL, 18, .inr (.inl (lA cd))))] := hD
    refine lv_lload_n (pc := 5) hx hb dX3_read_5 rfl (lv_at hl 1 rfl) ?_
    refine lv_lconst (pc := 6) (v := (lN (0))) hx hb dX3_read_6 (by decide) ?_
    refine xl_le (pc := 7) (tgt := 21) hx hb dX3_read_7 dX3_read_8 (by decide) (fun c7 => ?_) (fun c7 => ?_)
    · have hno : ¬ okVb (xv _) = true := (by first | exact hno | (rw [xv_lN hv]; exact okVb_small (by omega)))
      refine lv_iconst (pc := 21) (v := (nI (0))) hx hb dX3_read_21 (by decide) ?_
      have hP9 : va_P D vwCl [(he, .inr (2, oE ae 0)), (ae 0, .inl (cI, 18, .inl (nA kd))), (ae 1, .inl (cI, 18, .inl (nA ed))), (ae 2, .inl (cL, 18, .inr (.inl (lA cd))))] H := hP.sub [0, 1, 2, 3] rfl
      have hD9 : va_D _ [(he, .inr (2, oE ae 0)), (ae 0, .inl (cI, 18, .inl (nA kd))), (ae 1, .inl (cI, 18, .inl (nA ed))), (ae 2, .inl (cL, 18, .inr (.inl (lA cd))))] := hD.sub [0, 1, 2, 3] (by decide) rfl
      exact W.zret (pc := 22) (v := (nI (0))) (ty := .boolean) hx hb hr (by decide) (fun t ht hW => ⟨⟨_, (kd, ed, cd, 0), rfl, ⟨(congrArg nI (pN_f hno).symm), (by first | exact ⟨fun h => absurd h hno, fun _ => rfl⟩ | exact ⟨fun _ => by rw [xv_lN hv]; exact ⟨rfl, fun j hj => ⟨(i2 j (by omega) hj).1, (i2 j (by omega) hj).2.1, (i2 j (by omega) hj).2.2.2.2⟩⟩, fun h => absurd hyes h⟩)⟩, by rw [ht]; exact hP9, va_K.moved hW.alike hK, hD9⟩, hS.F ht⟩) hS.2.2 dX3_read_22
    · exact absurd c7 hneg
  · have hdc := dc_in v
    refine lv_aload_n (pc := 0) hx hb dX3_read_0 rfl (lv_at hl 0 rfl) ?_
    refine lv_iconst (pc := 1) (v := (nI (0))) hx hb dX3_read_1 (by decide) ?_
    refine va_put (pc := 2) (D := D) (ci := 2) (v := .int (nI 0)) (ty := .int) (C := RX3) (T := TX3) (N := 4) hx hb hts hinX3 tyX3 tyX3_ok nmX3 hown hK hP hD hS 0 rfl rfl 3 (by decide) lk0 (fun _ h9 => h9) rfl (by decide +kernel) rfl rfl (Nat.le_of_ble_eq_true rfl) dX3_read_2 (fun H locs hP hD hS => ?_)
    have hP : va_P D vwCl [(he, .inr (2, oE ae 0)), (ae 0, .inl (cI, 18, .inl (nA kd))), (ae 1, .inl (cI, 18, .inl (nA ed))), (ae 2, .inl (cL, 18, .inr (.inl (lA cd))))] H := hP
    have hD : va_D _ [(he, .inr (2, oE ae 0)), (ae 0, .inl (cI, 18, .inl (nA kd))), (ae 1, .inl (cI, 18, .inl (nA ed))), (ae 2, .inl (cL, 18, .inr (.inl (lA cd))))] := hD
    refine lv_lload_n (pc := 5) hx hb dX3_read_5 rfl (lv_at hl 1 rfl) ?_
    refine lv_lconst (pc := 6) (v := (lN (0))) hx hb dX3_read_6 (by decide) ?_
    refine xnl_le (pc := 7) (tgt := 21) hx hb (by omega) (by omega) dX3_read_7 dX3_read_8 (by decide) (fun c7 => ?_) (fun c7 => ?_)
    · exact absurd c7 (by omega)
    · refine lv_lload_n (pc := 11) hx hb dX3_read_11 rfl (lv_at hl 1 rfl) ?_
      refine lv_bipush (pc := 12) (v := (nI (18))) hx hb dX3_read_12 (by decide) ?_
      refine vp_callSl (pc := 14) (W.runS (As := [.int (nI 18)]) (rest := [.long (lN v)]) ⟨hx, hb, hml, hown, hts⟩ (c_X1_powerOfTen l D cI cL cZ tp tr 18 (by omega)) (va_cwS 1 hts gX3_read_X1_powerOfTen rfl rfl rfl (by decide +kernel) ⟨Nat.le_of_ble_eq_true rfl, Nat.le_of_ble_eq_true rfl⟩) (rPS_S (wc := []) hK hP hZ hS [] rfl) rfl rfl hl.1 rfl (lv_room (Nat.le_of_ble_eq_true rfl)) dX3_read_14 ⟨Nat.zero_le _, Nat.zero_le _⟩) (fun r hrr => ?_)
      rw [hrr]
      refine W.eq (g2 := F0 mG 17 ls [.long (lN (10 ^ 18)), .long (lN v)]) (congrArg (fun zz => F0 mG 17 ls [.long (lN zz), .long (lN v)]) (if_pos (by decide))) ?_
      refine xnl_lt (pc := 17) (tgt := 23) hx hb hv (by decide) dX3_read_17 dX3_read_18 (by decide) (fun c17 => ?_) (fun c17 => ?_)
      · have hd18 := dc_lt c17
        refine lv_lload_n (pc := 23) hx hb dX3_read_23 rfl (lv_at hl 1 rfl) ?_
        refine vp_callSi (pc := 24) (W.runS (As := [.long (lN v)]) (rest := []) ⟨hx, hb, hml, hown, hts⟩ (c_X1_digitCount l D cI cL cZ tp tr v hv) (va_cwS 1 hts gX3_read_X1_digitCount rfl rfl rfl (by decide +kernel) ⟨Nat.le_of_ble_eq_true rfl, Nat.le_of_ble_eq_true rfl⟩) (rPS_S (wc := []) hK hP hZ hS [] rfl) rfl rfl hl.1 rfl (lv_room (Nat.le_of_ble_eq_true rfl)) dX3_read_24 ⟨Nat.zero_le _, Nat.zero_le _⟩) (fun r hrr => ?_)
        rw [hrr]
        refine lv_istore_n (pc := 27) (lv' := [(3, .int (nI (dc v))), (0, .ref he), (1, .long (lN v))]) hx hb dX3_read_27 rfl hl (by decide) rfl (fun ls hl => ?_)
        refine lv_iload_n (pc := 28) hx hb dX3_read_28 rfl (lv_at hl 0 rfl) ?_
        refine lv_iconst (pc := 29) (v := (nI (1))) hx hb dX3_read_29 (by decide) ?_
        refine xn_isub (pc := 30) hx hb (by omega) dX3_read_30 ?_
        refine lv_istore (pc := 31) (lv' := [(4, .int (nI ((dc v) - 1))), (3, .int (nI (dc v))), (0, .ref he), (1, .long (lN v))]) hx hb dX3_read_31 hl (by decide) rfl (fun ls hl => ?_)
        have loop33 : ∀ (fuel : Nat) (k : Nat) (g : Nat → Nat) (e1 : Nat → Nat) (q1 : Nat → Nat) (ls : Array Slot) (H : Heap) (locs : List Loc), k < fuel → (k ≤ dc v) → (∀ j, k ≤ j → j < dc v → g j = dg v j ∧ e1 j = en v j ∧ en v j ≤ dc v ∧ j < en v j ∧ q1 j = cdv v j) → lv_has ls 7 [(0, .ref he), (1, .long (lN v)), (3, .int (nI (dc v))), (4, .int (nI k - 1))] → va_P D vwCl [(he, .inr (2, oE ae 0)), (ae 0, .inl (cI, 18, .inl (nA g))), (ae 1, .inl (cI, 18, .inl (nA e1))), (ae 2, .inl (cL, 18, .inr (.inl (lA q1))))] H → va_D (va_A [(he, .inr (2, oE ae nn)), (ae 0, .inl (cI, 18, .inl (nA kd))), (ae 1, .inl (cI, 18, .inl (nA ed))), (ae 2, .inl (cL, 18, .inr (.inl (lA cd))))] s.heap.size) [(he, .inr (2, oE ae 0)), (ae 0, .inl (cI, 18, .inl (nA g))), (ae 1, .inl (cI, 18, .inl (nA e1))), (ae 2, .inl (cL, 18, .inr (.inl (lA q1))))] → va_S (va_A [(he, .inr (2, oE ae nn)), (ae 0, .inl (cI, 18, .inl (nA kd))), (ae 1, .inl (cI, 18, .inl (nA ed))), (ae 2, .inl (cL, 18, .inr (.inl (lA cd))))] s.heap.size) s.heap H locs → W pG l eG (headSpec wsX3_read { frames := 1, cells := 0, slots := 0, locals := 25 }).room s mG [.ref he, .long (lN (v))].toArray below meth cG H locs 0 0 (MQ below (va_Qi (fun (r : Int32) (u : (Nat → Nat) × (Nat → Nat) × (Nat → Nat) × Nat) => r = (nI (pN (okVb (xv (lN (v))) = true))) ∧ ((okVb (xv (lN (v))) = true → RD (xv (lN (v))) u.1 u.2.1 u.2.2.1 u.2.2.2) ∧ (¬ okVb (xv (lN (v))) = true → u.2.2.2 = 0))) (fun (u : (Nat → Nat) × (Nat → Nat) × (Nat → Nat) × Nat) (t : State) => mB D (tyL cI cL cZ) (va_A [(he, .inr (2, oE ae nn)), (ae 0, .inl (cI, 18, .inl (nA kd))), (ae 1, .inl (cI, 18, .inl (nA ed))), (ae 2, .inl (cL, 18, .inr (.inl (lA cd))))] s.heap.size) [(he, .inr (2, oE ae (u.2.2.2))), (ae 0, .inl (cI, 18, .inl (nA (u.1)))), (ae 1, .inl (cI, 18, .inl (nA (u.2.1)))), (ae 2, .inl (cL, 18, .inr (.inl (lA (u.2.2.1)))))] t) (va_A [(he, .inr (2, oE ae nn)), (ae 0, .inl (cI, 18, .inl (nA kd))), (ae 1, .inl (cI, 18, .inl (nA ed))), (ae 2, .inl (cL, 18, .inr (.inl (lA cd))))] s.heap.size)) [.ref he, .long (lN (v))].toArray s 0 0 (va_A [(he, .inr (2, oE ae nn)), (ae 0, .inl (cI, 18, .inl (nA kd))), (ae 1, .inl (cI, 18, .inl (nA ed))), (ae 2, .inl (cL, 18, .inr (.inl (lA cd))))] s.heap.size)) (F0 mG 33 ls []) := by
          intro fuel
          induction fuel with
          | zero => intro k g e1 q1 ls H locs hmeas i1 i2 hl hP hD hS; exact absurd hmeas (Nat.not_lt_zero _)
          | succ fuel ih33 =>
            intro k g e1 q1 ls H locs hmeas i1 i2 hl hP hD hS
            refine lv_iload (pc := 33) hx hb dX3_read_33 (lv_at hl 3 rfl) ?_
            refine xm_if_lt (pc := 35) (tgt := 124) hx hb (by omega) dX3_read_35 (by decide) (fun c35 => ?_) (fun c35 => ?_)
            · subst c35
              refine lv_aload_n (pc := 124) hx hb dX3_read_124 rfl (lv_at hl 0 rfl) ?_
              refine va_get (pc := 125) (D := D) (ci := 2) (v := .ref (ae 1)) (C := RX3) (T := TX3) (N := 4) hx hb hts hinX3 hown hK hP 0 rfl rfl 1 (by decide) lk1 (fun _ h9 => h9) rfl dX3_read_125 ?_
              refine lv_iconst (pc := 128) (v := (nI (0))) hx hb dX3_read_128 (by decide) ?_
              refine xa_iald (pc := 129) hx hb hK hP 2 0 rfl rfl (by omega) (by omega) dX3_read_129 ?_
              refine lv_iload_n (pc := 130) hx hb dX3_read_130 rfl (lv_at hl 2 rfl) ?_
              refine xn_icmp_eq (pc := 131) (tgt := 136) hx hb (by have h5 := i2 0 (by omega) (by omega); omega) (by omega) dX3_read_131 (by decide) (fun c131 => ?_) (fun c131 => ?_)
              · have hyes : okVb (xv (lN v)) = true := by rw [xv_lN hv]; exact okVb_of hv0 c17 (fun q hq => (i2 q (by omega) hq).2.2.1) (by rw [← (i2 0 (by omega) (by omega)).2.1]; exact c131)
                refine lv_aload_n (pc := 136) hx hb dX3_read_136 rfl (lv_at hl 0 rfl) ?_
                refine lv_iload_n (pc := 137) hx hb dX3_read_137 rfl (lv_at hl 2 rfl) ?_
                refine va_put (pc := 138) (D := D) (ci := 2) (v := .int (nI (dc v))) (ty := .int) (C := RX3) (T := TX3) (N := 4) hx hb hts hinX3 tyX3 tyX3_ok nmX3 hown hK hP hD hS 0 rfl rfl 3 (by decide) lk0 (fun _ h9 => h9) rfl (by decide +kernel) rfl rfl (Nat.le_of_ble_eq_true rfl) dX3_read_138 (fun H locs hP hD hS => ?_)
                have hP : va_P D vwCl [(he, .inr (2, oE ae (dc v))), (ae 0, .inl (cI, 18, .inl (nA g))), (ae 1, .inl (cI, 18, .inl (nA e1))), (ae 2, .inl (cL, 18, .inr (.inl (lA q1))))] H := hP
                have hD : va_D _ [(he, .inr (2, oE ae (dc v))), (ae 0, .inl (cI, 18, .inl (nA g))), (ae 1, .inl (cI, 18, .inl (nA e1))), (ae 2, .inl (cL, 18, .inr (.inl (lA q1))))] := hD
                refine lv_iconst (pc := 141) (v := (nI (1))) hx hb dX3_read_141 (by decide) ?_
                have hP9 : va_P D vwCl [(he, .inr (2, oE ae ((dc v)))), (ae 0, .inl (cI, 18, .inl (nA g))), (ae 1, .inl (cI, 18, .inl (nA e1))), (ae 2, .inl (cL, 18, .inr (.inl (lA q1))))] H := hP.sub [0, 1, 2, 3] rfl
                have hD9 : va_D _ [(he, .inr (2, oE ae ((dc v)))), (ae 0, .inl (cI, 18, .inl (nA g))), (ae 1, .inl (cI, 18, .inl (nA e1))), (ae 2, .inl (cL, 18, .inr (.inl (lA q1))))] := hD.sub [0, 1, 2, 3] (by decide) rfl
                exact W.zret (pc := 142) (v := (nI (1))) (ty := .boolean) hx hb hr (by decide) (fun t ht hW => ⟨⟨_, (g, e1, q1, dc v), rfl, ⟨(congrArg nI (pN_t hyes).symm), (by first | exact ⟨fun h => absurd h hno, fun _ => rfl⟩ | exact ⟨fun _ => by rw [xv_lN hv]; exact ⟨rfl, fun j hj => ⟨(i2 j (by omega) hj).1, (i2 j (by omega) hj).2.1, (i2 j (by omega) hj).2.2.2.2⟩⟩, fun h => absurd hyes h⟩)⟩, by rw [ht]; exact hP9, va_K.moved hW.alike hK, hD9⟩, hS.F ht⟩) hS.2.2 dX3_read_142
              · have hno : ¬ okVb (xv (lN v)) = true := by rw [xv_lN hv]; exact okVb_en0 (fun q => c131 (by rw [(i2 0 (by omega) (by omega)).2.1]; exact q))
                refine lv_iconst (pc := 134) (v := (nI (0))) hx hb dX3_read_134 (by decide) ?_
                have hP9 : va_P D vwCl [(he, .inr (2, oE ae 0)), (ae 0, .inl (cI, 18, .inl (nA g))), (ae 1, .inl (cI, 18, .inl (nA e1))), (ae 2, .inl (cL, 18, .inr (.inl (lA q1))))] H := hP.sub [0, 1, 2, 3] rfl
                have hD9 : va_D _ [(he, .inr (2, oE ae 0)), (ae 0, .inl (cI, 18, .inl (nA g))), (ae 1, .inl (cI, 18, .inl (nA e1))), (ae 2, .inl (cL, 18, .inr (.inl (lA q1))))] := hD.sub [0, 1, 2, 3] (by decide) rfl
                exact W.zret (pc := 135) (v := (nI (0))) (ty := .boolean) hx hb hr (by decide) (fun t ht hW => ⟨⟨_, (g, e1, q1, 0), rfl, ⟨(congrArg nI (pN_f hno).symm), (by first | exact ⟨fun h => absurd h hno, fun _ => rfl⟩ | exact ⟨fun _ => by rw [xv_lN hv]; exact ⟨rfl, fun j hj => ⟨(i2 j (by omega) hj).1, (i2 j (by omega) hj).2.1, (i2 j (by omega) hj).2.2.2.2⟩⟩, fun h => absurd hyes h⟩)⟩, by rw [ht]; exact hP9, va_K.moved hW.alike hK, hD9⟩, hS.F ht⟩) hS.2.2 dX3_read_135
            · have c33 := c35
              have hl : lv_has ls 7 [(0, .ref he), (1, .long (lN v)), (3, .int (nI (dc v))), (4, .int (nI (k - 1)))] := by have hq : (nI k - 1) = (nI (k - 1)) := nI_dec1 c35; first | (rw [← hq]; exact hl) | (rw [hq] at hl; exact hl)
              refine lv_lload_n (pc := 38) hx hb dX3_read_38 rfl (lv_at hl 1 rfl) ?_
              refine lv_iload_n (pc := 39) hx hb dX3_read_39 rfl (lv_at hl 2 rfl) ?_
              refine lv_iload (pc := 40) hx hb dX3_read_40 (lv_at hl 3 rfl) ?_
              refine xn_isub (pc := 42) hx hb (by omega) dX3_read_42 ?_
              refine vp_callSl (pc := 43) (W.runS (As := [.int (nI ((dc v) - (k - 1)))]) (rest := [.long (lN v)]) ⟨hx, hb, hml, hown, hts⟩ (c_X1_powerOfTen l D cI cL cZ tp tr ((dc v) - (k - 1)) (by omega)) (va_cwS 1 hts gX3_read_X1_powerOfTen rfl rfl rfl (by decide +kernel) ⟨Nat.le_of_ble_eq_true rfl, Nat.le_of_ble_eq_true rfl⟩) (rPS_S (wc := []) hK hP hZ hS [] rfl) rfl rfl hl.1 rfl (lv_room (Nat.le_of_ble_eq_true rfl)) dX3_read_43 ⟨Nat.zero_le _, Nat.zero_le _⟩) (fun r hrr => ?_)
              rw [hrr]
              refine W.eq (g2 := F0 mG 46 ls [.long (lN (10 ^ (dc v - (k - 1)))), .long (lN v)]) (congrArg (fun zz => F0 mG 46 ls [.long (lN zz), .long (lN v)]) (if_pos (by omega))) ?_
              refine xn_lrem (pc := 46) hx hb hv (Nat.pow_pos (by decide)) (pow_le18 (by omega)) dX3_read_46 ?_
              refine lv_lstore (pc := 47) (lv' := [(5, .long (lN (v % (10 ^ (dc v - (k - 1)))))), (0, .ref he), (1, .long (lN v)), (3, .int (nI (dc v))), (4, .int (nI (k - 1)))]) hx hb dX3_read_47 hl (by decide) rfl (fun ls hl => ?_)
              refine lv_aload_n (pc := 49) hx hb dX3_read_49 rfl (lv_at hl 1 rfl) ?_
              refine va_get (pc := 50) (D := D) (ci := 2) (v := .ref (ae 0)) (C := RX3) (T := TX3) (N := 4) hx hb hts hinX3 hown hK hP 0 rfl rfl 0 (by decide) lk2 (fun _ h9 => h9) rfl dX3_read_50 ?_
              refine lv_iload (pc := 53) hx hb dX3_read_53 (lv_at hl 4 rfl) ?_
              refine lv_lload (pc := 55) hx hb dX3_read_55 (lv_at hl 0 rfl) ?_
              refine lv_iload_n (pc := 57) hx hb dX3_read_57 rfl (lv_at hl 3 rfl) ?_
              refine lv_iload (pc := 58) hx hb dX3_read_58 (lv_at hl 4 rfl) ?_
              refine xn_isub (pc := 60) hx hb (by omega) dX3_read_60 ?_
              refine lv_iconst (pc := 61) (v := (nI (1))) hx hb dX3_read_61 (by decide) ?_
              refine xn_isub (pc := 62) hx hb (by omega) dX3_read_62 ?_
              refine vp_callSl (pc := 63) (W.runS (As := [.int (nI (((dc v) - (k - 1)) - 1))]) (rest := [.long (lN (v % (10 ^ (dc v - (k - 1))))), .int (nI (k - 1)), .ref (ae 0)]) ⟨hx, hb, hml, hown, hts⟩ (c_X1_powerOfTen l D cI cL cZ tp tr (((dc v) - (k - 1)) - 1) (by omega)) (va_cwS 1 hts gX3_read_X1_powerOfTen rfl rfl rfl (by decide +kernel) ⟨Nat.le_of_ble_eq_true rfl, Nat.le_of_ble_eq_true rfl⟩) (rPS_S (wc := []) hK hP hZ hS [] rfl) rfl rfl hl.1 rfl (lv_room (Nat.le_of_ble_eq_true rfl)) dX3_read_63 ⟨Nat.zero_le _, Nat.zero_le _⟩) (fun r hrr => ?_)
              rw [hrr]
              refine W.eq (g2 := F0 mG 66 ls [.long (lN (10 ^ (dc v - (k - 1) - 1))), .long (lN (v % (10 ^ (dc v - (k - 1))))), .int (nI (k - 1)), .ref (ae 0)]) (congrArg (fun zz => F0 mG 66 ls [.long (lN zz), .long (lN (v % (10 ^ (dc v - (k - 1))))), .int (nI (k - 1)), .ref (ae 0)]) (if_pos (by omega))) ?_
              refine xn_ldiv (pc := 66) hx hb (Nat.lt_of_le_of_lt (Nat.mod_le _ _) hv) (Nat.pow_pos (by decide)) (pow_le18 (by omega)) dX3_read_66 ?_
              refine xn_l2i (pc := 67) hx hb dX3_read_67 ?_
              refine W.eq (g2 := F0 mG 68 ls [.int (nI (dg v (k - 1))), .int (nI (k - 1)), .ref (ae 0)]) (congrArg (fun zz => F0 mG 68 ls [.int (nI zz), .int (nI (k - 1)), .ref (ae 0)]) (dg_alt (by omega))) ?_
              refine xa_iast (pc := 68) hx hb hK hP hD hS 1 0 rfl rfl (by omega) (by omega) dX3_read_68 (fun H locs hP hD hS => ?_)
              have hP : va_P D vwCl [(he, .inr (2, oE ae 0)), (ae 0, .inl (cI, 18, .inl (nA (up g (k - 1) (dg v (k - 1)))))), (ae 1, .inl (cI, 18, .inl (nA e1))), (ae 2, .inl (cL, 18, .inr (.inl (lA q1))))] H := hP
              have hD : va_D _ [(he, .inr (2, oE ae 0)), (ae 0, .inl (cI, 18, .inl (nA (up g (k - 1) (dg v (k - 1)))))), (ae 1, .inl (cI, 18, .inl (nA e1))), (ae 2, .inl (cL, 18, .inr (.inl (lA q1))))] := hD
              refine lv_aload_n (pc := 69) hx hb dX3_read_69 rfl (lv_at hl 1 rfl) ?_
              refine va_get (pc := 70) (D := D) (ci := 2) (v := .ref (ae 1)) (C := RX3) (T := TX3) (N := 4) hx hb hts hinX3 hown hK hP 0 rfl rfl 1 (by decide) lk1 (fun _ h9 => h9) rfl dX3_read_70 ?_
              refine lv_iload (pc := 73) hx hb dX3_read_73 (lv_at hl 4 rfl) ?_
              refine lv_aload_n (pc := 75) hx hb dX3_read_75 rfl (lv_at hl 1 rfl) ?_
              refine lv_iload (pc := 76) hx hb dX3_read_76 (lv_at hl 4 rfl) ?_
              refine lv_iload_n (pc := 78) hx hb dX3_read_78 rfl (lv_at hl 3 rfl) ?_
              refine vp_callSi (pc := 79) (W.runV (As := [.int (nI (k - 1)), .int (nI (dc v))]) (rest := [.int (nI (k - 1)), .ref (ae 1)]) ⟨hx, hb, hml, hown, hts⟩ (c_X3_endOfNode l D cI cL cZ he ae (up g (k - 1) (dg v (k - 1))) e1 q1 0 (k - 1) (dc v) (by omega) (by omega) (by rw [up_s]; exact dg_lt _ _) (fun j h1 h2 => by have h5 := i2 j (by omega) h2; rw [h5.2.1]; exact ⟨h5.2.2.1, h5.2.2.2.1⟩)) (cwV 2 hts gX3_read_X3_endOfNode rfl rfl rfl (by decide +kernel) ⟨Nat.le_of_ble_eq_true rfl, Nat.le_of_ble_eq_true rfl⟩) (rP_V (wc := [(he, .inr (2, oE ae 0)), (ae 0, .inl (cI, 18, .inl (nA ((up g (k - 1) (dg v (k - 1))))))), (ae 1, .inl (cI, 18, .inl (nA e1))), (ae 2, .inl (cL, 18, .inr (.inl (lA q1))))]) (ci := 2) (q0 := 0) hK hP [0, 1, 2, 3] rfl rfl rfl) rfl rfl hl.1 rfl (lv_room (Nat.le_of_ble_eq_true rfl)) dX3_read_79 ⟨Nat.zero_le _, Nat.zero_le _⟩) (fun r hrr => ?_)
              rw [hrr]
              have hen : stE (up g (k - 1) (dg v (k - 1))) (dc v) e1 (k - 1) = en v (k - 1) := by rw [en_step (show k - 1 < dc v by omega) (fun q h1 h2 => (i2 q (by omega) h2).2.2.2.1)]; exact stE_cong (up_s _ _ _) (fun h1 => (i2 _ (by omega) h1).2.1) (fun h1 h2 => (i2 _ (by have := (i2 (k - 1 + 1) (by omega) h1).2.2.2.1; omega) h2).2.1)
              have hel : en v (k - 1) ≤ dc v + 1 := by rw [en_step (show k - 1 < dc v by omega) (fun q h1 h2 => (i2 q (by omega) h2).2.2.2.1)]; exact stE_le (by omega) (fun q h1 h2 => ⟨(i2 q (by omega) h2).2.2.1, (i2 q (by omega) h2).2.2.2.1⟩)
              refine W.eq (g2 := F0 mG 82 ls [.int (nI (en v (k - 1))), .int (nI (k - 1)), .ref (ae 1)]) (congrArg (fun zz => F0 mG 82 ls [.int (nI zz), .int (nI (k - 1)), .ref (ae 1)]) (hen)) ?_
              refine xa_iast (pc := 82) hx hb hK hP hD hS 2 0 rfl rfl (by omega) (by omega) dX3_read_82 (fun H locs hP hD hS => ?_)
              have hP : va_P D vwCl [(he, .inr (2, oE ae 0)), (ae 0, .inl (cI, 18, .inl (nA (up g (k - 1) (dg v (k - 1)))))), (ae 1, .inl (cI, 18, .inl (nA (up e1 (k - 1) (en v (k - 1)))))), (ae 2, .inl (cL, 18, .inr (.inl (lA q1))))] H := hP
              have hD : va_D _ [(he, .inr (2, oE ae 0)), (ae 0, .inl (cI, 18, .inl (nA (up g (k - 1) (dg v (k - 1)))))), (ae 1, .inl (cI, 18, .inl (nA (up e1 (k - 1) (en v (k - 1)))))), (ae 2, .inl (cL, 18, .inr (.inl (lA q1))))] := hD
              refine lv_aload_n (pc := 83) hx hb dX3_read_83 rfl (lv_at hl 1 rfl) ?_
              refine va_get (pc := 84) (D := D) (ci := 2) (v := .ref (ae 1)) (C := RX3) (T := TX3) (N := 4) hx hb hts hinX3 hown hK hP 0 rfl rfl 1 (by decide) lk1 (fun _ h9 => h9) rfl dX3_read_84 ?_
              refine lv_iload (pc := 87) hx hb dX3_read_87 (lv_at hl 4 rfl) ?_
              refine xa_iald (pc := 89) hx hb hK hP 2 0 rfl rfl (by omega) (by omega) dX3_read_89 ?_
              refine W.eq (g2 := F0 mG 90 ls [.int (nI (en v (k - 1)))]) (congrArg (fun zz => F0 mG 90 ls [.int (nI zz)]) (up_s _ _ _)) ?_
              refine lv_iload_n (pc := 90) hx hb dX3_read_90 rfl (lv_at hl 3 rfl) ?_
              refine xn_icmp_le (pc := 91) (tgt := 96) hx hb (by omega) (by omega) dX3_read_91 (by decide) (fun c91 => ?_) (fun c91 => ?_)
              · refine lv_aload_n (pc := 96) hx hb dX3_read_96 rfl (lv_at hl 1 rfl) ?_
                refine va_get (pc := 97) (D := D) (ci := 2) (v := .ref (ae 2)) (C := RX3) (T := TX3) (N := 4) hx hb hts hinX3 hown hK hP 0 rfl rfl 2 (by decide) lk3 (fun _ h9 => h9) rfl dX3_read_97 ?_
                refine lv_iload (pc := 100) hx hb dX3_read_100 (lv_at hl 4 rfl) ?_
                refine lv_lload (pc := 102) hx hb dX3_read_102 (lv_at hl 0 rfl) ?_
                refine lv_iload_n (pc := 104) hx hb dX3_read_104 rfl (lv_at hl 3 rfl) ?_
                refine lv_aload_n (pc := 105) hx hb dX3_read_105 rfl (lv_at hl 1 rfl) ?_
                refine va_get (pc := 106) (D := D) (ci := 2) (v := .ref (ae 1)) (C := RX3) (T := TX3) (N := 4) hx hb hts hinX3 hown hK hP 0 rfl rfl 1 (by decide) lk1 (fun _ h9 => h9) rfl dX3_read_106 ?_
                refine lv_iload (pc := 109) hx hb dX3_read_109 (lv_at hl 4 rfl) ?_
                refine xa_iald (pc := 111) hx hb hK hP 2 0 rfl rfl (by omega) (by omega) dX3_read_111 ?_
                refine W.eq (g2 := F0 mG 112 ls [.int (nI (en v (k - 1))), .int (nI (dc v)), .long (lN (v % (10 ^ (dc v - (k - 1))))), .int (nI (k - 1)), .ref (ae 2)]) (congrArg (fun zz => F0 mG 112 ls [.int (nI zz), .int (nI (dc v)), .long (lN (v % (10 ^ (dc v - (k - 1))))), .int (nI (k - 1)), .ref (ae 2)]) (up_s _ _ _)) ?_
                refine xn_isub (pc := 112) hx hb (by omega) dX3_read_112 ?_
                have hgt : k - 1 < en v (k - 1) := by rw [en_step (show k - 1 < dc v by omega) (fun q h1 h2 => (i2 q (by omega) h2).2.2.2.1)]; exact stE_gt (by rw [← en_step (show k - 1 < dc v by omega) (fun q h1 h2 => (i2 q (by omega) h2).2.2.2.1)]; exact c91) (fun q h1 h2 => (i2 q (by omega) h2).2.2.2.1)
                refine vp_callSl (pc := 113) (W.runS (As := [.int (nI ((dc v) - (en v (k - 1))))]) (rest := [.long (lN (v % (10 ^ (dc v - (k - 1))))), .int (nI (k - 1)), .ref (ae 2)]) ⟨hx, hb, hml, hown, hts⟩ (c_X1_powerOfTen l D cI cL cZ tp tr ((dc v) - (en v (k - 1))) (by omega)) (va_cwS 1 hts gX3_read_X1_powerOfTen rfl rfl rfl (by decide +kernel) ⟨Nat.le_of_ble_eq_true rfl, Nat.le_of_ble_eq_true rfl⟩) (rPS_S (wc := []) hK hP hZ hS [] rfl) rfl rfl hl.1 rfl (lv_room (Nat.le_of_ble_eq_true rfl)) dX3_read_113 ⟨Nat.zero_le _, Nat.zero_le _⟩) (fun r hrr => ?_)
                rw [hrr]
                refine W.eq (g2 := F0 mG 116 ls [.long (lN (10 ^ (dc v - en v (k - 1)))), .long (lN (v % (10 ^ (dc v - (k - 1))))), .int (nI (k - 1)), .ref (ae 2)]) (congrArg (fun zz => F0 mG 116 ls [.long (lN zz), .long (lN (v % (10 ^ (dc v - (k - 1))))), .int (nI (k - 1)), .ref (ae 2)]) (if_pos (by omega))) ?_
                refine xn_ldiv (pc := 116) hx hb (Nat.lt_of_le_of_lt (Nat.mod_le _ _) hv) (Nat.pow_pos (by decide)) (pow_le18 (by omega)) dX3_read_116 ?_
                refine xa_last (pc := 117) hx hb hK hP hD hS 3 1 rfl rfl (by omega) (by omega) dX3_read_117 (fun H locs hP hD hS => ?_)
                have hP : va_P D vwCl [(he, .inr (2, oE ae 0)), (ae 0, .inl (cI, 18, .inl (nA (up g (k - 1) (dg v (k - 1)))))), (ae 1, .inl (cI, 18, .inl (nA (up e1 (k - 1) (en v (k - 1)))))), (ae 2, .inl (cL, 18, .inr (.inl (lA (up q1 (k - 1) ((v % (10 ^ (dc v - (k - 1)))) / (10 ^ (dc v - en v (k - 1)))))))))] H := hP
                have hD : va_D _ [(he, .inr (2, oE ae 0)), (ae 0, .inl (cI, 18, .inl (nA (up g (k - 1) (dg v (k - 1)))))), (ae 1, .inl (cI, 18, .inl (nA (up e1 (k - 1) (en v (k - 1)))))), (ae 2, .inl (cL, 18, .inr (.inl (lA (up q1 (k - 1) ((v % (10 ^ (dc v - (k - 1)))) / (10 ^ (dc v - en v (k - 1)))))))))] := hD
                refine lv_iinc (pc := 118) (v := (nI (k - 1) - 1)) (lv' := [(4, .int (nI (k - 1) - 1)), (5, .long (lN (v % (10 ^ (dc v - (k - 1)))))), (0, .ref he), (1, .long (lN v)), (3, .int (nI (dc v)))]) hx hb dX3_read_118 hl (k := 4) rfl (nI_decm _) (by decide) rfl (fun ls hl => ?_)
                refine lv_goto (pc := 121) (tgt := 33) hx hb dX3_read_121 (by decide) ?_
                exact ih33 (k - 1) (up g (k - 1) (dg v (k - 1))) (up e1 (k - 1) (en v (k - 1))) (up q1 (k - 1) ((v % (10 ^ (dc v - (k - 1)))) / (10 ^ (dc v - en v (k - 1))))) ls _ _ (by omega) (by omega) (rd_next i2 c33 (by omega) c91 hgt) (lv_sub hl [2, 3, 4, 0] rfl) (hP.sub [0, 1, 2, 3] rfl) (hD.sub [0, 1, 2, 3] (by decide) rfl) hS
              · have hno : ¬ okVb (xv (lN v)) = true := by rw [xv_lN hv]; exact okVb_en (show k - 1 < dc v by omega) c91
                refine lv_iconst (pc := 94) (v := (nI (0))) hx hb dX3_read_94 (by decide) ?_
                have hP9 : va_P D vwCl [(he, .inr (2, oE ae 0)), (ae 0, .inl (cI, 18, .inl (nA ((up g (k - 1) (dg v (k - 1))))))), (ae 1, .inl (cI, 18, .inl (nA ((up e1 (k - 1) (en v (k - 1))))))), (ae 2, .inl (cL, 18, .inr (.inl (lA q1))))] H := hP.sub [0, 1, 2, 3] rfl
                have hD9 : va_D _ [(he, .inr (2, oE ae 0)), (ae 0, .inl (cI, 18, .inl (nA ((up g (k - 1) (dg v (k - 1))))))), (ae 1, .inl (cI, 18, .inl (nA ((up e1 (k - 1) (en v (k - 1))))))), (ae 2, .inl (cL, 18, .inr (.inl (lA q1))))] := hD.sub [0, 1, 2, 3] (by decide) rfl
                exact W.zret (pc := 95) (v := (nI (0))) (ty := .boolean) hx hb hr (by decide) (fun t ht hW => ⟨⟨_, (up g (k - 1) (dg v (k - 1)), up e1 (k - 1) (en v (k - 1)), q1, 0), rfl, ⟨(congrArg nI (pN_f hno).symm), (by first | exact ⟨fun h => absurd h hno, fun _ => rfl⟩ | exact ⟨fun _ => by rw [xv_lN hv]; exact ⟨rfl, fun j hj => ⟨(i2 j (by omega) hj).1, (i2 j (by omega) hj).2.1, (i2 j (by omega) hj).2.2.2.2⟩⟩, fun h => absurd hyes h⟩)⟩, by rw [ht]; exact hP9, va_K.moved hW.alike hK, hD9⟩, hS.F ht⟩) hS.2.2 dX3_read_95
        have hl : lv_has ls 7 [(4, .int (nI (dc v) - 1)), (3, .int (nI (dc v))), (0, .ref he), (1, .long (lN v))] := by have hq : (nI ((dc v) - 1)) = (nI (dc v) - 1) := (nI_dec1 (by omega)).symm; first | (rw [← hq]; exact hl) | (rw [hq] at hl; exact hl)
        exact loop33 (_ + 1) (dc v) kd ed cd ls _ _ (Nat.lt_succ_self _) (Nat.le_refl _) (fun j h1 h2 => absurd h1 (by omega)) (lv_sub hl [2, 3, 1, 0] rfl) (hP.sub [0, 1, 2, 3] rfl) (hD.sub [0, 1, 2, 3] (by decide) rfl) hS
      · have hno : ¬ okVb (xv _) = true := (by first | exact hno | (rw [xv_lN hv]; exact okVb_small (by omega)))
        refine lv_iconst (pc := 21) (v := (nI (0))) hx hb dX3_read_21 (by decide) ?_
        have hP9 : va_P D vwCl [(he, .inr (2, oE ae 0)), (ae 0, .inl (cI, 18, .inl (nA kd))), (ae 1, .inl (cI, 18, .inl (nA ed))), (ae 2, .inl (cL, 18, .inr (.inl (lA cd))))] H := hP.sub [0, 1, 2, 3] rfl
        have hD9 : va_D _ [(he, .inr (2, oE ae 0)), (ae 0, .inl (cI, 18, .inl (nA kd))), (ae 1, .inl (cI, 18, .inl (nA ed))), (ae 2, .inl (cL, 18, .inr (.inl (lA cd))))] := hD.sub [0, 1, 2, 3] (by decide) rfl
        exact W.zret (pc := 22) (v := (nI (0))) (ty := .boolean) hx hb hr (by decide) (fun t ht hW => ⟨⟨_, (kd, ed, cd, 0), rfl, ⟨(congrArg nI (pN_f hno).symm), (by first | exact ⟨fun h => absurd h hno, fun _ => rfl⟩ | exact ⟨fun _ => by rw [xv_lN hv]; exact ⟨rfl, fun j hj => ⟨(i2 j (by omega) hj).1, (i2 j (by omega) hj).2.1, (i2 j (by omega) hj).2.2.2.2⟩⟩, fun h => absurd hyes h⟩)⟩, by rw [ht]; exact hP9, va_K.moved hW.alike hK, hD9⟩, hS.F ht⟩) hS.2.2 dX3_read_22
