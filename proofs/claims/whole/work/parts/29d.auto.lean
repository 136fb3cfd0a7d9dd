/-! the class: going through automata -/
set_option maxHeartbeats 4000000 in
set_option maxRecDepth 100000 in
theorem c_X0_accepts (l : Launch) (D : va_G) (cI cL cZ : ClassId) (hU : Nat) (aU : Nat → Nat) (em : Nat → Bool) (fs : Nat → Nat) (lz : Nat → Nat) (fo : Nat → Nat) (re : Nat → Nat) (ac : Nat) (st : Nat) (sN : Nat) (hs : sN < 1024) : Met l yX0_accepts wsX0_accepts { frames := 0, cells := 0, slots := 0, locals := 0 } (rP D (tyL cI cL cZ) [(hU, .inr (0, oA aU ac st)), (aU 0, .inl (cZ, 18, .inl (zA em))), (aU 1, .inl (cI, 18, .inl (nA fs))), (aU 2, .inl (cI, 18, .inl (nA lz))), (aU 3, .inl (cI, 10, .inl (nA fo))), (aU 4, .inl (cI, 3, .inl (nA re)))] [.ref hU, .int (nI sN)]) (vp_Si (fun r => r = (nI (pN (sN &&& ac ≠ 0))))) 0 0 (fun _ => False) := by
  refine Met.ofW (cc := cX0_accepts) (maxL := 2) (ret := (some .boolean)) (by decide) rfl ?_
  intro pG eG s mG args below meth cG s₁ B hml hpre9
  obtain ⟨rfl, hP, hK⟩ := hpre9
  have hx := B.exec
  have hb := B.bytes
  have hr := B.returns
  have hts := atoms_spec (ws := wsX0_accepts) B.pre
  have hown : s.vm.findClass RX0 = some mG.cls := findClass_of_methodNamed B.named
  have hlocks := B.notSynchronized
  have hS : va_S (fun _ => False) s.heap s.heap [] := va_S.rf
  have hinX0 : ∀ w ∈ wsX00, w ∈ wsX0_accepts := fun w HH => (List.mem_cons_of_mem _ (List.mem_append_right _ HH))
  have lk0 : (Cond.fieldLink RX0 48 "RegexSimplifier$Automaton" "accepting" "I").before _ s = true := hts _ (List.mem_cons_of_mem _ (List.mem_append_left _ (List.mem_of_getElem? (i := 0) rfl)))
  have hl := lv_entry ([.ref hU, .int (nI sN)]) (n := 2) (Nat.le_of_ble_eq_true rfl)
  rw [lg_entry_eq]
  generalize (lg_sl ([.ref hU, .int (nI sN)]) ++ List.replicate (2 - (lg_sl ([.ref hU, .int (nI sN)])).length) Slot.unset).toArray = ls at hl ⊢
  have hl : lv_has ls 2 [(0, .ref hU), (1, .int (nI sN))] := hl
  refine lv_iload_n (pc := 0) hx hb dX0_accepts_0 rfl (lv_at hl 1 rfl) ?_
  refine lv_aload_n (pc := 1) hx hb dX0_accepts_1 rfl (lv_at hl 0 rfl) ?_
  refine va_get (pc := 2) (D := D) (ci := 0) (v := .int (nI ac)) (C := RX0) (T := TX0) (N := 7) hx hb hts hinX0 hown hK hP 0 rfl rfl 5 (by decide) lk0 (fun _ h9 => h9) rfl dX0_accepts_2 ?_
  refine xn_iand (pc := 5) hx hb  dX0_accepts_5 ?_
  refine xn_if_eq (pc := 6) (tgt := 13) hx hb (Nat.lt_of_le_of_lt Nat.and_le_left (by omega)) dX0_accepts_6 (by decide) (fun c6 => ?_) (fun c6 => ?_)
  · refine lv_iconst (pc := 13) (v := (nI (0))) hx hb dX0_accepts_13 (by decide) ?_
    exact W.zret (pc := 14) (v := (nI (0))) (ty := .boolean) hx hb hr (by decide) (fun t ht _ => ⟨_, rfl, (by first | exact congrArg nI (pN_t c6).symm | exact congrArg nI (pN_f (fun h => h c6)).symm), ht⟩) (fun _ h => absurd h List.not_mem_nil) dX0_accepts_14
  · refine lv_iconst (pc := 9) (v := (nI (1))) hx hb dX0_accepts_9 (by decide) ?_
    refine lv_goto (pc := 10) (tgt := 14) hx hb dX0_accepts_10 (by decide) ?_
    exact W.zret (pc := 14) (v := (nI (1))) (ty := .boolean) hx hb hr (by decide) (fun t ht _ => ⟨_, rfl, (by first | exact congrArg nI (pN_t c6).symm | exact congrArg nI (pN_f (fun h => h c6)).symm), ht⟩) (fun _ h => absurd h List.not_mem_nil) dX0_accepts_14
set_option maxHeartbeats 4000000 in
set_option maxRecDepth 100000 in
theorem c_X0_followersOf (l : Launch) (D : va_G) (cI cL cZ : ClassId) (hU : Nat) (aU : Nat → Nat) (em : Nat → Bool) (fs : Nat → Nat) (lz : Nat → Nat) (fo : Nat → Nat) (re : Nat → Nat) (ac : Nat) (st : Nat) (sN : Nat) (hs : sN < 1024) (hst : st ≤ 10) : Met l yX0_followersOf wsX0_followersOf { frames := 0, cells := 0, slots := 0, locals := 0 } (rP D (tyL cI cL cZ) [(hU, .inr (0, oA aU ac st)), (aU 0, .inl (cZ, 18, .inl (zA em))), (aU 1, .inl (cI, 18, .inl (nA fs))), (aU 2, .inl (cI, 18, .inl (nA lz))), (aU 3, .inl (cI, 10, .inl (nA fo))), (aU 4, .inl (cI, 3, .inl (nA re)))] [.ref hU, .int (nI sN)]) (vp_Si (fun r => r = (nI (oF fo sN st)))) 0 0 (fun _ => False) := by
  refine Met.ofW (cc := cX0_followersOf) (maxL := 4) (ret := (some .int)) (by decide) rfl ?_
  intro pG eG s mG args below meth cG s₁ B hml hpre9
  obtain ⟨rfl, hP, hK⟩ := hpre9
  have hx := B.exec
  have hb := B.bytes
  have hr := B.returns
  have hts := atoms_spec (ws := wsX0_followersOf) B.pre
  have hown : s.vm.findClass RX0 = some mG.cls := findClass_of_methodNamed B.named
  have hlocks := B.notSynchronized
  have hS : va_S (fun _ => False) s.heap s.heap [] := va_S.rf
  have hinX0 : ∀ w ∈ wsX00, w ∈ wsX0_followersOf := fun w HH => (List.mem_cons_of_mem _ (List.mem_append_right _ HH))
  have lk0 : (Cond.fieldLink RX0 34 "RegexSimplifier$Automaton" "states" "I").before _ s = true := hts _ (List.mem_cons_of_mem _ (List.mem_append_left _ (List.mem_of_getElem? (i := 0) rfl)))
  have lk1 : (Cond.fieldLink RX0 22 "RegexSimplifier$Automaton" "followers" "[I").before _ s = true := hts _ (List.mem_cons_of_mem _ (List.mem_append_left _ (List.mem_of_getElem? (i := 1) rfl)))
  have hl := lv_entry ([.ref hU, .int (nI sN)]) (n := 4) (Nat.le_of_ble_eq_true rfl)
  rw [lg_entry_eq]
  generalize (lg_sl ([.ref hU, .int (nI sN)]) ++ List.replicate (4 - (lg_sl ([.ref hU, .int (nI sN)])).length) Slot.unset).toArray = ls at hl ⊢
  have hl : lv_has ls 4 [(0, .ref hU), (1, .int (nI sN))] := hl
  refine lv_iconst (pc := 0) (v := (nI (0))) hx hb dX0_followersOf_0 (by decide) ?_
  refine lv_istore_n (pc := 1) (lv' := [(2, .int (nI 0)), (0, .ref hU), (1, .int (nI sN))]) hx hb dX0_followersOf_1 rfl hl (by decide) rfl (fun ls hl => ?_)
  refine lv_iconst (pc := 2) (v := (nI (0))) hx hb dX0_followersOf_2 (by decide) ?_
  refine lv_istore_n (pc := 3) (lv' := [(3, .int (nI 0)), (2, .int (nI 0)), (0, .ref hU), (1, .int (nI sN))]) hx hb dX0_followersOf_3 rfl hl (by decide) rfl (fun ls hl => ?_)
  have loop4 : ∀ (fuel : Nat) (k : Nat) (ls : Array Slot), st - k < fuel → (k ≤ st) → lv_has ls 4 [(0, .ref hU), (1, .int (nI sN)), (2, .int (nI (oF fo sN k))), (3, .int (nI k))] → W pG l eG (headSpec wsX0_followersOf { frames := 0, cells := 0, slots := 0, locals := 0 }).room s mG [.ref hU, .int (nI sN)].toArray below meth cG s.heap [] 0 0 (MQ below (vp_Si (fun r => r = (nI (oF fo sN st)))) [.ref hU, .int (nI sN)].toArray s 0 0 (fun _ => False)) (F0 mG 4 ls []) := by
    intro fuel
    induction fuel with
    | zero => intro k ls hmeas i1 hl; exact absurd hmeas (Nat.not_lt_zero _)
    | succ fuel ih4 =>
      intro k ls hmeas i1 hl
      refine lv_iload_n (pc := 4) hx hb dX0_followersOf_4 rfl (lv_at hl 3 rfl) ?_
      refine lv_aload_n (pc := 5) hx hb dX0_followersOf_5 rfl (lv_at hl 0 rfl) ?_
      refine va_get (pc := 6) (D := D) (ci := 0) (v := .int (nI st)) (C := RX0) (T := TX0) (N := 7) hx hb hts hinX0 hown hK hP 0 rfl rfl 6 (by decide) lk0 (fun _ h9 => h9) rfl dX0_followersOf_6 ?_
      refine xn_icmp_ge (pc := 9) (tgt := 35) hx hb (by omega) (by omega) dX0_followersOf_9 (by decide) (fun c9 => ?_) (fun c9 => ?_)
      · refine lv_iload_n (pc := 35) hx hb dX0_followersOf_35 rfl (lv_at hl 2 rfl) ?_
        exact W.iret (pc := 36) (v := (nI (oF fo sN k))) hx hb hr (fun t ht _ => ⟨_, rfl, (by rw [show k = st from by omega]), ht⟩) (fun _ h => absurd h List.not_mem_nil) dX0_followersOf_36
      · refine lv_iload_n (pc := 12) hx hb dX0_followersOf_12 rfl (lv_at hl 1 rfl) ?_
        refine lv_iload_n (pc := 13) hx hb dX0_followersOf_13 rfl (lv_at hl 3 rfl) ?_
        refine xn_ishr (pc := 14) hx hb (by omega) (by omega) dX0_followersOf_14 ?_
        refine lv_iconst (pc := 15) (v := (nI (1))) hx hb dX0_followersOf_15 (by decide) ?_
        refine xn_iand (pc := 16) hx hb  dX0_followersOf_16 ?_
        refine W.eq (g2 := F0 mG 17 ls [.int (nI (sN / 2 ^ k % 2))]) (congrArg (fun zz => F0 mG 17 ls [.int (nI zz)]) (by rw [Nat.and_one_is_mod])) ?_
        refine xn_if_eq (pc := 17) (tgt := 29) hx hb (by omega) dX0_followersOf_17 (by decide) (fun c17 => ?_) (fun c17 => ?_)
        · have hl : lv_has ls 4 [(0, .ref hU), (1, .int (nI sN)), (2, .int (nI (oF fo sN (k + 1)))), (3, .int (nI k))] := by have hq9 : (nI (oF fo sN k)) = (nI (oF fo sN (k + 1))) := ((by first | exact congrArg nI (if_pos (by omega)).symm | exact congrArg nI (if_neg (by omega)).symm)); first | (rw [← hq9]; exact hl) | (rw [hq9] at hl; exact hl)
          refine lv_iinc (pc := 29) (v := (nI (k + 1))) (lv' := [(3, .int (nI (k + 1))), (0, .ref hU), (1, .int (nI sN)), (2, .int (nI (oF fo sN (k + 1))))]) hx hb dX0_followersOf_29 hl (k := 3) rfl (nI_incr _) (by decide) rfl (fun ls hl => ?_)
          refine lv_goto (pc := 32) (tgt := 4) hx hb dX0_followersOf_32 (by decide) ?_
          exact ih4 (k + 1) ls (by omega) (by omega) (lv_sub hl [1, 2, 3, 0] rfl)
        · refine lv_iload_n (pc := 20) hx hb dX0_followersOf_20 rfl (lv_at hl 2 rfl) ?_
          refine lv_aload_n (pc := 21) hx hb dX0_followersOf_21 rfl (lv_at hl 0 rfl) ?_
          refine va_get (pc := 22) (D := D) (ci := 0) (v := .ref (aU 3)) (C := RX0) (T := TX0) (N := 7) hx hb hts hinX0 hown hK hP 0 rfl rfl 3 (by decide) lk1 (fun _ h9 => h9) rfl dX0_followersOf_22 ?_
          refine lv_iload_n (pc := 25) hx hb dX0_followersOf_25 rfl (lv_at hl 3 rfl) ?_
          refine xa_iald (pc := 26) hx hb hK hP 4 0 rfl rfl (by omega) (by omega) dX0_followersOf_26 ?_
          refine xn_ior (pc := 27) hx hb  dX0_followersOf_27 ?_
          refine lv_istore_n (pc := 28) (lv' := [(2, .int (nI ((oF fo sN k) ||| (fo k)))), (0, .ref hU), (1, .int (nI sN)), (3, .int (nI k))]) hx hb dX0_followersOf_28 rfl hl (by decide) rfl (fun ls hl => ?_)
          have hl : lv_has ls 4 [(2, .int (nI (oF fo sN (k + 1)))), (0, .ref hU), (1, .int (nI sN)), (3, .int (nI k))] := by have hq9 : (nI ((oF fo sN k) ||| (fo k))) = (nI (oF fo sN (k + 1))) := ((by first | exact congrArg nI (if_pos (by omega)).symm | exact congrArg nI (if_neg (by omega)).symm)); first | (rw [← hq9]; exact hl) | (rw [hq9] at hl; exact hl)
          refine lv_iinc (pc := 29) (v := (nI (k + 1))) (lv' := [(3, .int (nI (k + 1))), (2, .int (nI (oF fo sN (k + 1)))), (0, .ref hU), (1, .int (nI sN))]) hx hb dX0_followersOf_29 hl (k := 3) rfl (nI_incr _) (by decide) rfl (fun ls hl => ?_)
          refine lv_goto (pc := 32) (tgt := 4) hx hb dX0_followersOf_32 (by decide) ?_
          exact ih4 (k + 1) ls (by omega) (by omega) (lv_sub hl [2, 3, 1, 0] rfl)
  have hl : lv_has ls 4 [(3, .int (nI 0)), (2, .int (nI (oF fo sN 0))), (0, .ref hU), (1, .int (nI sN))] := by have hq9 : (nI (0)) = (nI (oF fo sN 0)) := (rfl); first | (rw [← hq9]; exact hl) | (rw [hq9] at hl; exact hl)
  exact loop4 (_ + 1) 0 ls (Nat.lt_succ_self _) (by omega) (lv_sub hl [2, 3, 1, 0] rfl)
set_option maxHeartbeats 4000000 in
set_option maxRecDepth 100000 in
theorem c_X0_readersOf (l : Launch) (D : va_G) (cI cL cZ : ClassId) (hU : Nat) (aU : Nat → Nat) (em : Nat → Bool) (fs : Nat → Nat) (lz : Nat → Nat) (fo : Nat → Nat) (re : Nat → Nat) (ac : Nat) (st : Nat) (c : Nat) (sN : Nat) (hc : c < 3) : Met l yX0_readersOf wsX0_readersOf { frames := 0, cells := 0, slots := 0, locals := 0 } (rP D (tyL cI cL cZ) [(hU, .inr (0, oA aU ac st)), (aU 0, .inl (cZ, 18, .inl (zA em))), (aU 1, .inl (cI, 18, .inl (nA fs))), (aU 2, .inl (cI, 18, .inl (nA lz))), (aU 3, .inl (cI, 10, .inl (nA fo))), (aU 4, .inl (cI, 3, .inl (nA re)))] [.ref hU, .int (nI c), .int (nI sN)]) (vp_Si (fun r => r = (nI (re c &&& sN)))) 0 0 (fun _ => False) := by
  refine Met.ofW (cc := cX0_readersOf) (maxL := 3) (ret := (some .int)) (by decide) rfl ?_
  intro pG eG s mG args below meth cG s₁ B hml hpre9
  obtain ⟨rfl, hP, hK⟩ := hpre9
  have hx := B.exec
  have hb := B.bytes
  have hr := B.returns
  have hts := atoms_spec (ws := wsX0_readersOf) B.pre
  have hown : s.vm.findClass RX0 = some mG.cls := findClass_of_methodNamed B.named
  have hlocks := B.notSynchronized
  have hS : va_S (fun _ => False) s.heap s.heap [] := va_S.rf
  have hinX0 : ∀ w ∈ wsX00, w ∈ wsX0_readersOf := fun w HH => (List.mem_cons_of_mem _ (List.mem_append_right _ HH))
  have lk0 : (Cond.fieldLink RX0 25 "RegexSimplifier$Automaton" "readers" "[I").before _ s = true := hts _ (List.mem_cons_of_mem _ (List.mem_append_left _ (List.mem_of_getElem? (i := 0) rfl)))
  have hl := lv_entry ([.ref hU, .int (nI c), .int (nI sN)]) (n := 3) (Nat.le_of_ble_eq_true rfl)
  rw [lg_entry_eq]
  generalize (lg_sl ([.ref hU, .int (nI c), .int (nI sN)]) ++ List.replicate (3 - (lg_sl ([.ref hU, .int (nI c), .int (nI sN)])).length) Slot.unset).toArray = ls at hl ⊢
  have hl : lv_has ls 3 [(0, .ref hU), (1, .int (nI c)), (2, .int (nI sN))] := hl
  refine lv_iload_n (pc := 0) hx hb dX0_readersOf_0 rfl (lv_at hl 1 rfl) ?_
  refine xn_if_lt (pc := 1) (tgt := 20) hx hb (by omega) dX0_readersOf_1 (by decide) ?_
  refine lv_iload_n (pc := 4) hx hb dX0_readersOf_4 rfl (lv_at hl 1 rfl) ?_
  refine lv_iconst (pc := 5) (v := (nI (3))) hx hb dX0_readersOf_5 (by decide) ?_
  refine xn_icmp_ge (pc := 6) (tgt := 20) hx hb (by omega) (by omega) dX0_readersOf_6 (by decide) (fun c6 => ?_) (fun c6 => ?_)
  · exact absurd c6 (by omega)
  · refine lv_aload_n (pc := 9) hx hb dX0_readersOf_9 rfl (lv_at hl 0 rfl) ?_
    refine va_get (pc := 10) (D := D) (ci := 0) (v := .ref (aU 4)) (C := RX0) (T := TX0) (N := 7) hx hb hts hinX0 hown hK hP 0 rfl rfl 4 (by decide) lk0 (fun _ h9 => h9) rfl dX0_readersOf_10 ?_
    refine lv_iload_n (pc := 13) hx hb dX0_readersOf_13 rfl (lv_at hl 1 rfl) ?_
    refine xa_iald (pc := 14) hx hb hK hP 5 0 rfl rfl (by omega) (by omega) dX0_readersOf_14 ?_
    refine lv_iload_n (pc := 15) hx hb dX0_readersOf_15 rfl (lv_at hl 2 rfl) ?_
    refine xn_iand (pc := 16) hx hb  dX0_readersOf_16 ?_
    refine lv_goto (pc := 17) (tgt := 21) hx hb dX0_readersOf_17 (by decide) ?_
    exact W.iret (pc := 21) (v := (nI ((re c) &&& sN))) hx hb hr (fun t ht _ => ⟨_, rfl, (by first | rfl | ((repeat' split) <;> first | rfl | omega)), ht⟩) (fun _ h => absurd h List.not_mem_nil) dX0_readersOf_21
set_option maxHeartbeats 4000000 in
set_option maxRecDepth 100000 in
theorem c_X0_wordsFrom_0 (l : Launch) (D : va_G) (cI cL cZ : ClassId) (hU : Nat) (aU : Nat → Nat) (em : Nat → Bool) (fs : Nat → Nat) (lz : Nat → Nat) (fo : Nat → Nat) (re : Nat → Nat) (ac : Nat) (st : Nat) (v : Nat) (z : Option Nat) (sN : Nat) (hv : okVb v = true) (hac : AC v fo re ac st) (hs : sN = cs z) (hz : zok z) : Met l yX0_wordsFrom wsX0_wordsFrom { frames := 1, cells := 0, slots := 0, locals := 21 } (rP D (tyL cI cL cZ) [(hU, .inr (0, oA aU ac st)), (aU 0, .inl (cZ, 18, .inl (zA em))), (aU 1, .inl (cI, 18, .inl (nA fs))), (aU 2, .inl (cI, 18, .inl (nA lz))), (aU 3, .inl (cI, 10, .inl (nA fo))), (aU 4, .inl (cI, 3, .inl (nA re)))] [.ref hU, .int (nI sN), .int (nI 0)]) (vp_Si (fun r => r = (nI (wF v 0 z)))) 0 0 (fun _ => False) := by
  refine Met.ofW (cc := cX0_wordsFrom) (maxL := 6) (ret := (some .int)) (by decide) rfl ?_
  intro pG eG s mG args below meth cG s₁ B hml hpre9
  obtain ⟨rfl, hP, hK⟩ := hpre9
  have hx := B.exec
  have hb := B.bytes
  have hr := B.returns
  have hts := atoms_spec (ws := wsX0_wordsFrom) B.pre
  have hown : s.vm.findClass RX0 = some mG.cls := findClass_of_methodNamed B.named
  have hlocks := B.notSynchronized
  have hS : va_S (fun _ => False) s.heap s.heap [] := va_S.rf
  have hl := lv_entry ([.ref hU, .int (nI sN), .int (nI 0)]) (n := 6) (Nat.le_of_ble_eq_true rfl)
  rw [lg_entry_eq]
  generalize (lg_sl ([.ref hU, .int (nI sN), .int (nI 0)]) ++ List.replicate (6 - (lg_sl ([.ref hU, .int (nI sN), .int (nI 0)])).length) Slot.unset).toArray = ls at hl ⊢
  have hl : lv_has ls 6 [(0, .ref hU), (1, .int (nI sN)), (2, .int (nI 0))] := hl
  have hst := AC_st hv hac
  have hcs := cs_lt hz
  subst hs
  refine lv_iload_n (pc := 0) hx hb dX0_wordsFrom_0 rfl (lv_at hl 1 rfl) ?_
  refine xn_if_ne (pc := 1) (tgt := 6) hx hb (by omega) dX0_wordsFrom_1 (by decide) (fun c1 => ?_) (fun c1 => ?_)
  · refine lv_iload_n (pc := 6) hx hb dX0_wordsFrom_6 rfl (lv_at hl 2 rfl) ?_
    refine lv_if_le (pc := 7) (tgt := 16) hx hb dX0_wordsFrom_7 (by decide) (fun _ => ?_) (fun h => absurd h (by decide))
    refine lv_aload_n (pc := 16) hx hb dX0_wordsFrom_16 rfl (lv_at hl 0 rfl) ?_
    refine lv_iload_n (pc := 17) hx hb dX0_wordsFrom_17 rfl (lv_at hl 1 rfl) ?_
    refine vp_callSi (pc := 18) (W.runV (As := [.int (nI (cs z))]) (rest := []) ⟨hx, hb, hml, hown, hts⟩ (c_X0_accepts l D cI cL cZ hU aU em fs lz fo re ac st (cs z) (by omega)) (cwV 1 hts gX0_wordsFrom_X0_accepts rfl rfl rfl (by decide +kernel) ⟨Nat.le_of_ble_eq_true rfl, Nat.le_of_ble_eq_true rfl⟩) (rP_V (wc := [(hU, .inr (0, oA aU ac st)), (aU 0, .inl (cZ, 18, .inl (zA em))), (aU 1, .inl (cI, 18, .inl (nA fs))), (aU 2, .inl (cI, 18, .inl (nA lz))), (aU 3, .inl (cI, 10, .inl (nA fo))), (aU 4, .inl (cI, 3, .inl (nA re)))]) (ci := 0) (q0 := 0) hK hP [0, 1, 2, 3, 4, 5] rfl rfl rfl) rfl rfl hl.1 rfl (lv_room (Nat.le_of_ble_eq_true rfl)) dX0_wordsFrom_18 ⟨Nat.zero_le _, Nat.zero_le _⟩) (fun r9 hrr => ?_)
    rw [hrr]
    refine xp_if_eq (pc := 21) (tgt := 28) hx hb dX0_wordsFrom_21 (by decide) (fun c21 => ?_) (fun c21 => ?_)
    · refine lv_iconst (pc := 28) (v := (nI (0))) hx hb dX0_wordsFrom_28 (by decide) ?_
      exact W.iret (pc := 29) (v := (nI (0))) hx hb hr (fun t ht _ => ⟨_, rfl, (by show _ = nI (if acp v z = true then 1 else 0); first | (rw [if_pos ((AC_a hac z).mp c21)]) | (rw [if_neg (fun q => c21 ((AC_a hac z).mpr q))])), ht⟩) (fun _ h => absurd h List.not_mem_nil) dX0_wordsFrom_29
    · refine lv_iconst (pc := 24) (v := (nI (1))) hx hb dX0_wordsFrom_24 (by decide) ?_
      refine lv_goto (pc := 25) (tgt := 29) hx hb dX0_wordsFrom_25 (by decide) ?_
      exact W.iret (pc := 29) (v := (nI (1))) hx hb hr (fun t ht _ => ⟨_, rfl, (by show _ = nI (if acp v z = true then 1 else 0); first | (rw [if_pos ((AC_a hac z).mp c21)]) | (rw [if_neg (fun q => c21 ((AC_a hac z).mpr q))])), ht⟩) (fun _ h => absurd h List.not_mem_nil) dX0_wordsFrom_29
  · refine lv_iconst (pc := 4) (v := (nI (0))) hx hb dX0_wordsFrom_4 (by decide) ?_
    exact W.iret (pc := 5) (v := (nI (0))) hx hb hr (fun t ht _ => ⟨_, rfl, (by rw [cs_0 c1, wF_0]), ht⟩) (fun _ h => absurd h List.not_mem_nil) dX0_wordsFrom_5
set_option maxHeartbeats 4000000 in
set_option maxRecDepth 100000 in
theorem c_X0_wordsFrom_1 (l : Launch) (D : va_G) (cI cL cZ : ClassId) (hU : Nat) (aU : Nat → Nat) (em : Nat → Bool) (fs : Nat → Nat) (lz : Nat → Nat) (fo : Nat → Nat) (re : Nat → Nat) (ac : Nat) (st : Nat) (v : Nat) (z : Option Nat) (sN : Nat) (hv : okVb v = true) (hac : AC v fo re ac st) (hs : sN = cs z) (hz : zok z) : Met l yX0_wordsFrom wsX0_wordsFrom { frames := 2, cells := 0, slots := 0, locals := 46 } (rP D (tyL cI cL cZ) [(hU, .inr (0, oA aU ac st)), (aU 0, .inl (cZ, 18, .inl (zA em))), (aU 1, .inl (cI, 18, .inl (nA fs))), (aU 2, .inl (cI, 18, .inl (nA lz))), (aU 3, .inl (cI, 10, .inl (nA fo))), (aU 4, .inl (cI, 3, .inl (nA re)))] [.ref hU, .int (nI sN), .int (nI 1)]) (vp_Si (fun r => r = (nI (wF v 1 z)))) 0 0 (fun _ => False) := by
  refine Met.ofW (cc := cX0_wordsFrom) (maxL := 6) (ret := (some .int)) (by decide) rfl ?_
  intro pG eG s mG args below meth cG s₁ B hml hpre9
  obtain ⟨rfl, hP, hK⟩ := hpre9
  have hx := B.exec
  have hb := B.bytes
  have hr := B.returns
  have hts := atoms_spec (ws := wsX0_wordsFrom) B.pre
  have hown : s.vm.findClass RX0 = some mG.cls := findClass_of_methodNamed B.named
  have hlocks := B.notSynchronized
  have hS : va_S (fun _ => False) s.heap s.heap [] := va_S.rf
  have hl := lv_entry ([.ref hU, .int (nI sN), .int (nI 1)]) (n := 6) (Nat.le_of_ble_eq_true rfl)
  rw [lg_entry_eq]
  generalize (lg_sl ([.ref hU, .int (nI sN), .int (nI 1)]) ++ List.replicate (6 - (lg_sl ([.ref hU, .int (nI sN), .int (nI 1)])).length) Slot.unset).toArray = ls at hl ⊢
  have hl : lv_has ls 6 [(0, .ref hU), (1, .int (nI sN)), (2, .int (nI 1))] := hl
  have hst := AC_st hv hac
  have hcs := cs_lt hz
  subst hs
  refine lv_iload_n (pc := 0) hx hb dX0_wordsFrom_0 rfl (lv_at hl 1 rfl) ?_
  refine xn_if_ne (pc := 1) (tgt := 6) hx hb (by omega) dX0_wordsFrom_1 (by decide) (fun c1 => ?_) (fun c1 => ?_)
  · refine lv_iload_n (pc := 6) hx hb dX0_wordsFrom_6 rfl (lv_at hl 2 rfl) ?_
    refine lv_if_le (pc := 7) (tgt := 16) hx hb dX0_wordsFrom_7 (by decide) (fun h => absurd h (by decide)) (fun _ => ?_)
    refine lv_iload_n (pc := 10) hx hb dX0_wordsFrom_10 rfl (lv_at hl 2 rfl) ?_
    refine lv_bipush (pc := 11) (v := (nI (6))) hx hb dX0_wordsFrom_11 (by decide) ?_
    refine lv_icmp_le (pc := 13) (tgt := 30) hx hb dX0_wordsFrom_13 (by decide) (fun _ => ?_) (fun h => absurd h (by decide))
    refine lv_aload_n (pc := 30) hx hb dX0_wordsFrom_30 rfl (lv_at hl 0 rfl) ?_
    refine lv_iload_n (pc := 31) hx hb dX0_wordsFrom_31 rfl (lv_at hl 1 rfl) ?_
    refine vp_callSi (pc := 32) (W.runV (As := [.int (nI (cs z))]) (rest := []) ⟨hx, hb, hml, hown, hts⟩ (c_X0_followersOf l D cI cL cZ hU aU em fs lz fo re ac st (cs z) (by omega) hst) (cwV 1 hts gX0_wordsFrom_X0_followersOf rfl rfl rfl (by decide +kernel) ⟨Nat.le_of_ble_eq_true rfl, Nat.le_of_ble_eq_true rfl⟩) (rP_V (wc := [(hU, .inr (0, oA aU ac st)), (aU 0, .inl (cZ, 18, .inl (zA em))), (aU 1, .inl (cI, 18, .inl (nA fs))), (aU 2, .inl (cI, 18, .inl (nA lz))), (aU 3, .inl (cI, 10, .inl (nA fo))), (aU 4, .inl (cI, 3, .inl (nA re)))]) (ci := 0) (q0 := 0) hK hP [0, 1, 2, 3, 4, 5] rfl rfl rfl) rfl rfl hl.1 rfl (lv_room (Nat.le_of_ble_eq_true rfl)) dX0_wordsFrom_32 ⟨Nat.zero_le _, Nat.zero_le _⟩) (fun r9 hrr => ?_)
    rw [hrr]
    refine W.eq (g2 := F0 mG 35 ls [.int (nI (2 * aF v z))]) (congrArg (fun zz => F0 mG 35 ls [.int (nI zz)]) (AC_f hv hac z)) ?_
    refine lv_istore_n (pc := 35) (lv' := [(3, .int (nI (2 * aF v z))), (0, .ref hU), (1, .int (nI (cs z))), (2, .int (nI 1))]) hx hb dX0_wordsFrom_35 rfl hl (by decide) rfl (fun ls hl => ?_)
    refine lv_iconst (pc := 36) (v := (nI (0))) hx hb dX0_wordsFrom_36 (by decide) ?_
    refine lv_istore (pc := 37) (lv' := [(4, .int (nI 0)), (3, .int (nI (2 * aF v z))), (0, .ref hU), (1, .int (nI (cs z))), (2, .int (nI 1))]) hx hb dX0_wordsFrom_37 hl (by decide) rfl (fun ls hl => ?_)
    refine lv_iconst (pc := 39) (v := (nI (0))) hx hb dX0_wordsFrom_39 (by decide) ?_
    refine lv_istore (pc := 40) (lv' := [(5, .int (nI 0)), (4, .int (nI 0)), (3, .int (nI (2 * aF v z))), (0, .ref hU), (1, .int (nI (cs z))), (2, .int (nI 1))]) hx hb dX0_wordsFrom_40 hl (by decide) rfl (fun ls hl => ?_)
    have loop42 : ∀ (fuel : Nat) (i : Nat) (ls : Array Slot), 3 - i < fuel → (i ≤ 3) → lv_has ls 6 [(0, .ref hU), (1, .int (nI (cs z))), (2, .int (nI 1)), (3, .int (nI (2 * aF v z))), (4, .int (nI (sm (fun c => wF v 0 (some (aft v z c))) i))), (5, .int (nI i))] → W pG l eG (headSpec wsX0_wordsFrom { frames := 2, cells := 0, slots := 0, locals := 46 }).room s mG [.ref hU, .int (nI (cs z)), .int (nI 1)].toArray below meth cG s.heap [] 0 0 (MQ below (vp_Si (fun r => r = (nI (wF v 1 z)))) [.ref hU, .int (nI (cs z)), .int (nI 1)].toArray s 0 0 (fun _ => False)) (F0 mG 42 ls []) := by
      intro fuel
      induction fuel with
      | zero => intro i ls hmeas i1 hl; exact absurd hmeas (Nat.not_lt_zero _)
      | succ fuel ih42 =>
        intro i ls hmeas i1 hl
        refine lv_iload (pc := 42) hx hb dX0_wordsFrom_42 (lv_at hl 5 rfl) ?_
        refine lv_iconst (pc := 44) (v := (nI (3))) hx hb dX0_wordsFrom_44 (by decide) ?_
        refine xn_icmp_ge (pc := 45) (tgt := 73) hx hb (by omega) (by omega) dX0_wordsFrom_45 (by decide) (fun c45 => ?_) (fun c45 => ?_)
        · refine lv_iload (pc := 73) hx hb dX0_wordsFrom_73 (lv_at hl 4 rfl) ?_
          exact W.iret (pc := 75) (v := (nI (sm (fun c => wF v 0 (some (aft v z c))) i))) hx hb hr (fun t ht _ => ⟨_, rfl, (by rw [show i = 3 from by omega]; rfl), ht⟩) (fun _ h => absurd h List.not_mem_nil) dX0_wordsFrom_75
        · refine lv_iload (pc := 48) hx hb dX0_wordsFrom_48 (lv_at hl 4 rfl) ?_
          refine lv_aload_n (pc := 50) hx hb dX0_wordsFrom_50 rfl (lv_at hl 0 rfl) ?_
          refine lv_aload_n (pc := 51) hx hb dX0_wordsFrom_51 rfl (lv_at hl 0 rfl) ?_
          refine lv_iload (pc := 52) hx hb dX0_wordsFrom_52 (lv_at hl 5 rfl) ?_
          refine lv_iload_n (pc := 54) hx hb dX0_wordsFrom_54 rfl (lv_at hl 3 rfl) ?_
          refine vp_callSi (pc := 55) (W.runV (As := [.int (nI i), .int (nI (2 * aF v z))]) (rest := [.ref hU, .int (nI (sm (fun c => wF v 0 (some (aft v z c))) i))]) ⟨hx, hb, hml, hown, hts⟩ (c_X0_readersOf l D cI cL cZ hU aU em fs lz fo re ac st i (2 * aF v z) (by omega)) (cwV 2 hts gX0_wordsFrom_X0_readersOf rfl rfl rfl (by decide +kernel) ⟨Nat.le_of_ble_eq_true rfl, Nat.le_of_ble_eq_true rfl⟩) (rP_V (wc := [(hU, .inr (0, oA aU ac st)), (aU 0, .inl (cZ, 18, .inl (zA em))), (aU 1, .inl (cI, 18, .inl (nA fs))), (aU 2, .inl (cI, 18, .inl (nA lz))), (aU 3, .inl (cI, 10, .inl (nA fo))), (aU 4, .inl (cI, 3, .inl (nA re)))]) (ci := 0) (q0 := 0) hK hP [0, 1, 2, 3, 4, 5] rfl rfl rfl) rfl rfl hl.1 rfl (lv_room (Nat.le_of_ble_eq_true rfl)) dX0_wordsFrom_55 ⟨Nat.zero_le _, Nat.zero_le _⟩) (fun r9 hrr => ?_)
          rw [hrr]
          refine W.eq (g2 := F0 mG 58 ls [.int (nI (cs (some (aft v z i)))), .ref hU, .int (nI (sm (fun c => wF v 0 (some (aft v z c))) i))]) (congrArg (fun zz => F0 mG 58 ls [.int (nI zz), .ref hU, .int (nI (sm (fun c => wF v 0 (some (aft v z c))) i))]) (AC_r hac (by omega) z)) ?_
          refine lv_iload_n (pc := 58) hx hb dX0_wordsFrom_58 rfl (lv_at hl 2 rfl) ?_
          refine lv_iconst (pc := 59) (v := (nI (1))) hx hb dX0_wordsFrom_59 (by decide) ?_
          refine xn_isub (pc := 60) hx hb (by omega) dX0_wordsFrom_60 ?_
          refine W.eq (g2 := F0 mG 61 ls [.int (nI 0), .int (nI (cs (some (aft v z i)))), .ref hU, .int (nI (sm (fun c => wF v 0 (some (aft v z c))) i))]) rfl ?_
          refine vp_callSi (pc := 61) (W.runS (As := [.ref hU, .int (nI (cs (some (aft v z i)))), .int (nI 0)]) (rest := [.int (nI (sm (fun c => wF v 0 (some (aft v z c))) i))]) ⟨hx, hb, hml, hown, hts⟩ (c_X0_wordsFrom_0 l D cI cL cZ hU aU em fs lz fo re ac st v (some (aft v z i)) (cs (some (aft v z i))) hv hac rfl (zok_s (aft_lt hv _ _))) (va_cwS 3 hts gX0_wordsFrom_X0_wordsFrom rfl rfl rfl (by decide +kernel) ⟨Nat.le_of_ble_eq_true rfl, Nat.le_of_ble_eq_true rfl⟩) (rP_S (wc := [(hU, .inr (0, oA aU ac st)), (aU 0, .inl (cZ, 18, .inl (zA em))), (aU 1, .inl (cI, 18, .inl (nA fs))), (aU 2, .inl (cI, 18, .inl (nA lz))), (aU 3, .inl (cI, 10, .inl (nA fo))), (aU 4, .inl (cI, 3, .inl (nA re)))]) hK hP [0, 1, 2, 3, 4, 5] rfl) rfl rfl hl.1 rfl (lv_room (Nat.le_of_ble_eq_true rfl)) dX0_wordsFrom_61 ⟨Nat.zero_le _, Nat.zero_le _⟩) (fun r9 hrr => ?_)
          rw [hrr]
          refine xn_iadd (pc := 64) hx hb  dX0_wordsFrom_64 ?_
          refine lv_istore (pc := 65) (lv' := [(4, .int (nI ((sm (fun c => wF v 0 (some (aft v z c))) i) + (wF v 0 (some (aft v z i)))))), (0, .ref hU), (1, .int (nI (cs z))), (2, .int (nI 1)), (3, .int (nI (2 * aF v z))), (5, .int (nI i))]) hx hb dX0_wordsFrom_65 hl (by decide) rfl (fun ls hl => ?_)
          have hl : lv_has ls 6 [(4, .int (nI (sm (fun c => wF v 0 (some (aft v z c))) (i + 1)))), (0, .ref hU), (1, .int (nI (cs z))), (2, .int (nI 1)), (3, .int (nI (2 * aF v z))), (5, .int (nI i))] := by have hq9 : (nI ((sm (fun c => wF v 0 (some (aft v z c))) i) + (wF v 0 (some (aft v z i))))) = (nI (sm (fun c => wF v 0 (some (aft v z c))) (i + 1))) := (rfl); first | (rw [← hq9]; exact hl) | (rw [hq9] at hl; exact hl)
          refine lv_iinc (pc := 67) (v := (nI (i + 1))) (lv' := [(5, .int (nI (i + 1))), (4, .int (nI (sm (fun c => wF v 0 (some (aft v z c))) (i + 1)))), (0, .ref hU), (1, .int (nI (cs z))), (2, .int (nI 1)), (3, .int (nI (2 * aF v z)))]) hx hb dX0_wordsFrom_67 hl (k := 5) rfl (nI_incr _) (by decide) rfl (fun ls hl => ?_)
          refine lv_goto (pc := 70) (tgt := 42) hx hb dX0_wordsFrom_70 (by decide) ?_
          exact ih42 (i + 1) ls (by omega) (by omega) (lv_sub hl [2, 3, 4, 5, 1, 0] rfl)
    have hl : lv_has ls 6 [(5, .int (nI 0)), (4, .int (nI (sm (fun c => wF v 0 (some (aft v z c))) 0))), (3, .int (nI (2 * aF v z))), (0, .ref hU), (1, .int (nI (cs z))), (2, .int (nI 1))] := by have hq9 : (nI (0)) = (nI (sm (fun c => wF v 0 (some (aft v z c))) 0)) := (rfl); first | (rw [← hq9]; exact hl) | (rw [hq9] at hl; exact hl)
    exact loop42 (_ + 1) 0 ls (Nat.lt_succ_self _) (by omega) (lv_sub hl [3, 4, 5, 2, 1, 0] rfl)
  · refine lv_iconst (pc := 4) (v := (nI (0))) hx hb dX0_wordsFrom_4 (by decide) ?_
    exact W.iret (pc := 5) (v := (nI (0))) hx hb hr (fun t ht _ => ⟨_, rfl, (by rw [cs_0 c1, wF_0]), ht⟩) (fun _ h => absurd h List.not_mem_nil) dX0_wordsFrom_5
set_option maxHeartbeats 4000000 in
set_option maxRecDepth 100000 in
theorem c_X0_wordsFrom_2 (l : Launch) (D : va_G) (cI cL cZ : ClassId) (hU : Nat) (aU : Nat → Nat) (em : Nat → Bool) (fs : Nat → Nat) (lz : Nat → Nat) (fo : Nat → Nat) (re : Nat → Nat) (ac : Nat) (st : Nat) (v : Nat) (z : Option Nat) (sN : Nat) (hv : okVb v = true) (hac : AC v fo re ac st) (hs : sN = cs z) (hz : zok z) : Met l yX0_wordsFrom wsX0_wordsFrom { frames := 3, cells := 0, slots := 0, locals := 71 } (rP D (tyL cI cL cZ) [(hU, .inr (0, oA aU ac st)), (aU 0, .inl (cZ, 18, .inl (zA em))), (aU 1, .inl (cI, 18, .inl (nA fs))), (aU 2, .inl (cI, 18, .inl (nA lz))), (aU 3, .inl (cI, 10, .inl (nA fo))), (aU 4, .inl (cI, 3, .inl (nA re)))] [.ref hU, .int (nI sN), .int (nI 2)]) (vp_Si (fun r => r = (nI (wF v 2 z)))) 0 0 (fun _ => False) := by
  refine Met.ofW (cc := cX0_wordsFrom) (maxL := 6) (ret := (some .int)) (by decide) rfl ?_
  intro pG eG s mG args below meth cG s₁ B hml hpre9
  obtain ⟨rfl, hP, hK⟩ := hpre9
  have hx := B.exec
  have hb := B.bytes
  have hr := B.returns
  have hts := atoms_spec (ws := wsX0_wordsFrom) B.pre
  have hown : s.vm.findClass RX0 = some mG.cls := findClass_of_methodNamed B.named
  have hlocks := B.notSynchronized
  have hS : va_S (fun _ => False) s.heap s.heap [] := va_S.rf
  have hl := lv_entry ([.ref hU, .int (nI sN), .int (nI 2)]) (n := 6) (Nat.le_of_ble_eq_true rfl)
  rw [lg_entry_eq]
  generalize (lg_sl ([.ref hU, .int (nI sN), .int (nI 2)]) ++ List.replicate (6 - (lg_sl ([.ref hU, .int (nI sN), .int (nI 2)])).length) Slot.unset).toArray = ls at hl ⊢
  have hl : lv_has ls 6 [(0, .ref hU), (1, .int (nI sN)), (2, .int (nI 2))] := hl
  have hst := AC_st hv hac
  have hcs := cs_lt hz
  subst hs
  refine lv_iload_n (pc := 0) hx hb dX0_wordsFrom_0 rfl (lv_at hl 1 rfl) ?_
  refine xn_if_ne (pc := 1) (tgt := 6) hx hb (by omega) dX0_wordsFrom_1 (by decide) (fun c1 => ?_) (fun c1 => ?_)
  · refine lv_iload_n (pc := 6) hx hb dX0_wordsFrom_6 rfl (lv_at hl 2 rfl) ?_
    refine lv_if_le (pc := 7) (tgt := 16) hx hb dX0_wordsFrom_7 (by decide) (fun h => absurd h (by decide)) (fun _ => ?_)
    refine lv_iload_n (pc := 10) hx hb dX0_wordsFrom_10 rfl (lv_at hl 2 rfl) ?_
    refine lv_bipush (pc := 11) (v := (nI (6))) hx hb dX0_wordsFrom_11 (by decide) ?_
    refine lv_icmp_le (pc := 13) (tgt := 30) hx hb dX0_wordsFrom_13 (by decide) (fun _ => ?_) (fun h => absurd h (by decide))
    refine lv_aload_n (pc := 30) hx hb dX0_wordsFrom_30 rfl (lv_at hl 0 rfl) ?_
    refine lv_iload_n (pc := 31) hx hb dX0_wordsFrom_31 rfl (lv_at hl 1 rfl) ?_
    refine vp_callSi (pc := 32) (W.runV (As := [.int (nI (cs z))]) (rest := []) ⟨hx, hb, hml, hown, hts⟩ (c_X0_followersOf l D cI cL cZ hU aU em fs lz fo re ac st (cs z) (by omega) hst) (cwV 1 hts gX0_wordsFrom_X0_followersOf rfl rfl rfl (by decide +kernel) ⟨Nat.le_of_ble_eq_true rfl, Nat.le_of_ble_eq_true rfl⟩) (rP_V (wc := [(hU, .inr (0, oA aU ac st)), (aU 0, .inl (cZ, 18, .inl (zA em))), (aU 1, .inl (cI, 18, .inl (nA fs))), (aU 2, .inl (cI, 18, .inl (nA lz))), (aU 3, .inl (cI, 10, .inl (nA fo))), (aU 4, .inl (cI, 3, .inl (nA re)))]) (ci := 0) (q0 := 0) hK hP [0, 1, 2, 3, 4, 5] rfl rfl rfl) rfl rfl hl.1 rfl (lv_room (Nat.le_of_ble_eq_true rfl)) dX0_wordsFrom_32 ⟨Nat.zero_le _, Nat.zero_le _⟩) (fun r9 hrr => ?_)
    rw [hrr]
    refine W.eq (g2 := F0 mG 35 ls [.int (nI (2 * aF v z))]) (congrArg (fun zz => F0 mG 35 ls [.int (nI zz)]) (AC_f hv hac z)) ?_
    refine lv_istore_n (pc := 35) (lv' := [(3, .int (nI (2 * aF v z))), (0, .ref hU), (1, .int (nI (cs z))), (2, .int (nI 2))]) hx hb dX0_wordsFrom_35 rfl hl (by decide) rfl (fun ls hl => ?_)
    refine lv_iconst (pc := 36) (v := (nI (0))) hx hb dX0_wordsFrom_36 (by decide) ?_
    refine lv_istore (pc := 37) (lv' := [(4, .int (nI 0)), (3, .int (nI (2 * aF v z))), (0, .ref hU), (1, .int (nI (cs z))), (2, .int (nI 2))]) hx hb dX0_wordsFrom_37 hl (by decide) rfl (fun ls hl => ?_)
    refine lv_iconst (pc := 39) (v := (nI (0))) hx hb dX0_wordsFrom_39 (by decide) ?_
    refine lv_istore (pc := 40) (lv' := [(5, .int (nI 0)), (4, .int (nI 0)), (3, .int (nI (2 * aF v z))), (0, .ref hU), (1, .int (nI (cs z))), (2, .int (nI 2))]) hx hb dX0_wordsFrom_40 hl (by decide) rfl (fun ls hl => ?_)
    have loop42 : ∀ (fuel : Nat) (i : Nat) (ls : Array Slot), 3 - i < fuel → (i ≤ 3) → lv_has ls 6 [(0, .ref hU), (1, .int (nI (cs z))), (2, .int (nI 2)), (3, .int (nI (2 * aF v z))), (4, .int (nI (sm (fun c => wF v 1 (some (aft v z c))) i))), (5, .int (nI i))] → W pG l eG (headSpec wsX0_wordsFrom { frames := 3, cells := 0, slots := 0, locals := 71 }).room s mG [.ref hU, .int (nI (cs z)), .int (nI 2)].toArray below meth cG s.heap [] 0 0 (MQ below (vp_Si (fun r => r = (nI (wF v 2 z)))) [.ref hU, .int (nI (cs z)), .int (nI 2)].toArray s 0 0 (fun _ => False)) (F0 mG 42 ls []) := by
      intro fuel
      induction fuel with
      | zero => intro i ls hmeas i1 hl; exact absurd hmeas (Nat.not_lt_zero _)
      | succ fuel ih42 =>
        intro i ls hmeas i1 hl
        refine lv_iload (pc := 42) hx hb dX0_wordsFrom_42 (lv_at hl 5 rfl) ?_
        refine lv_iconst (pc := 44) (v := (nI (3))) hx hb dX0_wordsFrom_44 (by decide) ?_
        refine xn_icmp_ge (pc := 45) (tgt := 73) hx hb (by omega) (by omega) dX0_wordsFrom_45 (by decide) (fun c45 => ?_) (fun c45 => ?_)
        · refine lv_iload (pc := 73) hx hb dX0_wordsFrom_73 (lv_at hl 4 rfl) ?_
          exact W.iret (pc := 75) (v := (nI (sm (fun c => wF v 1 (some (aft v z c))) i))) hx hb hr (fun t ht _ => ⟨_, rfl, (by rw [show i = 3 from by omega]; rfl), ht⟩) (fun _ h => absurd h List.not_mem_nil) dX0_wordsFrom_75
        · refine lv_iload (pc := 48) hx hb dX0_wordsFrom_48 (lv_at hl 4 rfl) ?_
          refine lv_aload_n (pc := 50) hx hb dX0_wordsFrom_50 rfl (lv_at hl 0 rfl) ?_
          refine lv_aload_n (pc := 51) hx hb dX0_wordsFrom_51 rfl (lv_at hl 0 rfl) ?_
          refine lv_iload (pc := 52) hx hb dX0_wordsFrom_52 (lv_at hl 5 rfl) ?_
          refine lv_iload_n (pc := 54) hx hb dX0_wordsFrom_54 rfl (lv_at hl 3 rfl) ?_
          refine vp_callSi (pc := 55) (W.runV (As := [.int (nI i), .int (nI (2 * aF v z))]) (rest := [.ref hU, .int (nI (sm (fun c => wF v 1 (some (aft v z c))) i))]) ⟨hx, hb, hml, hown, hts⟩ (c_X0_readersOf l D cI cL cZ hU aU em fs lz fo re ac st i (2 * aF v z) (by omega)) (cwV 2 hts gX0_wordsFrom_X0_readersOf rfl rfl rfl (by decide +kernel) ⟨Nat.le_of_ble_eq_true rfl, Nat.le_of_ble_eq_true rfl⟩) (rP_V (wc := [(hU, .inr (0, oA aU ac st)), (aU 0, .inl (cZ, 18, .inl (zA em))), (aU 1, .inl (cI, 18, .inl (nA fs))), (aU 2, .inl (cI, 18, .inl (nA lz))), (aU 3, .inl (cI, 10, .inl (nA fo))), (aU 4, .inl (cI, 3, .inl (nA re)))]) (ci := 0) (q0 := 0) hK hP [0, 1, 2, 3, 4, 5] rfl rfl rfl) rfl rfl hl.1 rfl (lv_room (Nat.le_of_ble_eq_true rfl)) dX0_wordsFrom_55 ⟨Nat.zero_le _, Nat.zero_le _⟩) (fun r9 hrr => ?_)
          rw [hrr]
          refine W.eq (g2 := F0 mG 58 ls [.int (nI (cs (some (aft v z i)))), .ref hU, .int (nI (sm (fun c => wF v 1 (some (aft v z c))) i))]) (congrArg (fun zz => F0 mG 58 ls [.int (nI zz), .ref hU, .int (nI (sm (fun c => wF v 1 (some (aft v z c))) i))]) (AC_r hac (by omega) z)) ?_
          refine lv_iload_n (pc := 58) hx hb dX0_wordsFrom_58 rfl (lv_at hl 2 rfl) ?_
          refine lv_iconst (pc := 59) (v := (nI (1))) hx hb dX0_wordsFrom_59 (by decide) ?_
          refine xn_isub (pc := 60) hx hb (by omega) dX0_wordsFrom_60 ?_
          refine W.eq (g2 := F0 mG 61 ls [.int (nI 1), .int (nI (cs (some (aft v z i)))), .ref hU, .int (nI (sm (fun c => wF v 1 (some (aft v z c))) i))]) rfl ?_
          refine vp_callSi (pc := 61) (W.runS (As := [.ref hU, .int (nI (cs (some (aft v z i)))), .int (nI 1)]) (rest := [.int (nI (sm (fun c => wF v 1 (some (aft v z c))) i))]) ⟨hx, hb, hml, hown, hts⟩ (c_X0_wordsFrom_1 l D cI cL cZ hU aU em fs lz fo re ac st v (some (aft v z i)) (cs (some (aft v z i))) hv hac rfl (zok_s (aft_lt hv _ _))) (va_cwS 3 hts gX0_wordsFrom_X0_wordsFrom rfl rfl rfl (by decide +kernel) ⟨Nat.le_of_ble_eq_true rfl, Nat.le_of_ble_eq_true rfl⟩) (rP_S (wc := [(hU, .inr (0, oA aU ac st)), (aU 0, .inl (cZ, 18, .inl (zA em))), (aU 1, .inl (cI, 18, .inl (nA fs))), (aU 2, .inl (cI, 18, .inl (nA lz))), (aU 3, .inl (cI, 10, .inl (nA fo))), (aU 4, .inl (cI, 3, .inl (nA re)))]) hK hP [0, 1, 2, 3, 4, 5] rfl) rfl rfl hl.1 rfl (lv_room (Nat.le_of_ble_eq_true rfl)) dX0_wordsFrom_61 ⟨Nat.zero_le _, Nat.zero_le _⟩) (fun r9 hrr => ?_)
          rw [hrr]
          refine xn_iadd (pc := 64) hx hb  dX0_wordsFrom_64 ?_
          refine lv_istore (pc := 65) (lv' := [(4, .int (nI ((sm (fun c => wF v 1 (some (aft v z c))) i) + (wF v 1 (some (aft v z i)))))), (0, .ref hU), (1, .int (nI (cs z))), (2, .int (nI 2)), (3, .int (nI (2 * aF v z))), (5, .int (nI i))]) hx hb dX0_wordsFrom_65 hl (by decide) rfl (fun ls hl => ?_)
          have hl : lv_has ls 6 [(4, .int (nI (sm (fun c => wF v 1 (some (aft v z c))) (i + 1)))), (0, .ref hU), (1, .int (nI (cs z))), (2, .int (nI 2)), (3, .int (nI (2 * aF v z))), (5, .int (nI i))] := by have hq9 : (nI ((sm (fun c => wF v 1 (some (aft v z c))) i) + (wF v 1 (some (aft v z i))))) = (nI (sm (fun c => wF v 1 (some (aft v z c))) (i + 1))) := (rfl); first | (rw [← hq9]; exact hl) | (rw [hq9] at hl; exact hl)
          refine lv_iinc (pc := 67) (v := (nI (i + 1))) (lv' := [(5, .int (nI (i + 1))), (4, .int (nI (sm (fun c => wF v 1 (some (aft v z c))) (i + 1)))), (0, .ref hU), (1, .int (nI (cs z))), (2, .int (nI 2)), (3, .int (nI (2 * aF v z)))]) hx hb dX0_wordsFrom_67 hl (k := 5) rfl (nI_incr _) (by decide) rfl (fun ls hl => ?_)
          refine lv_goto (pc := 70) (tgt := 42) hx hb dX0_wordsFrom_70 (by decide) ?_
          exact ih42 (i + 1) ls (by omega) (by omega) (lv_sub hl [2, 3, 4, 5, 1, 0] rfl)
    have hl : lv_has ls 6 [(5, .int (nI 0)), (4, .int (nI (sm (fun c => wF v 1 (some (aft v z c))) 0))), (3, .int (nI (2 * aF v z))), (0, .ref hU), (1, .int (nI (cs z))), (2, .int (nI 2))] := by have hq9 : (nI (0)) = (nI (sm (fun c => wF v 1 (some (aft v z c))) 0)) := (rfl); first | (rw [← hq9]; exact hl) | (rw [hq9] at hl; exact hl)
    exact loop42 (_ + 1) 0 ls (Nat.lt_succ_self _) (by omega) (lv_sub hl [3, 4, 5, 2, 1, 0] rfl)
  · refine lv_iconst (pc := 4) (v := (nI (0))) hx hb dX0_wordsFrom_4 (by decide) ?_
    exact W.iret (pc := 5) (v := (nI (0))) hx hb hr (fun t ht _ => ⟨_, rfl, (by rw [cs_0 c1, wF_0]), ht⟩) (fun _ h => absurd h List.not_mem_nil) dX0_wordsFrom_5
set_option maxHeartbeats 4000000 in
set_option maxRecDepth 100000 in
theorem c_X0_wordsFrom_3 (l : Launch) (D : va_G) (cI cL cZ : ClassId) (hU : Nat) (aU : Nat → Nat) (em : Nat → Bool) (fs : Nat → Nat) (lz : Nat → Nat) (fo : Nat → Nat) (re : Nat → Nat) (ac : Nat) (st : Nat) (v : Nat) (z : Option Nat) (sN : Nat) (hv : okVb v = true) (hac : AC v fo re ac st) (hs : sN = cs z) (hz : zok z) : Met l yX0_wordsFrom wsX0_wordsFrom { frames := 4, cells := 0, slots := 0, locals := 96 } (rP D (tyL cI cL cZ) [(hU, .inr (0, oA aU ac st)), (aU 0, .inl (cZ, 18, .inl (zA em))), (aU 1, .inl (cI, 18, .inl (nA fs))), (aU 2, .inl (cI, 18, .inl (nA lz))), (aU 3, .inl (cI, 10, .inl (nA fo))), (aU 4, .inl (cI, 3, .inl (nA re)))] [.ref hU, .int (nI sN), .int (nI 3)]) (vp_Si (fun r => r = (nI (wF v 3 z)))) 0 0 (fun _ => False) := by
  refine Met.ofW (cc := cX0_wordsFrom) (maxL := 6) (ret := (some .int)) (by decide) rfl ?_
  intro pG eG s mG args below meth cG s₁ B hml hpre9
  obtain ⟨rfl, hP, hK⟩ := hpre9
  have hx := B.exec
  have hb := B.bytes
  have hr := B.returns
  have hts := atoms_spec (ws := wsX0_wordsFrom) B.pre
  have hown : s.vm.findClass RX0 = some mG.cls := findClass_of_methodNamed B.named
  have hlocks := B.notSynchronized
  have hS : va_S (fun _ => False) s.heap s.heap [] := va_S.rf
  have hl := lv_entry ([.ref hU, .int (nI sN), .int (nI 3)]) (n := 6) (Nat.le_of_ble_eq_true rfl)
  rw [lg_entry_eq]
  generalize (lg_sl ([.ref hU, .int (nI sN), .int (nI 3)]) ++ List.replicate (6 - (lg_sl ([.ref hU, .int (nI sN), .int (nI 3)])).length) Slot.unset).toArray = ls at hl ⊢
  have hl : lv_has ls 6 [(0, .ref hU), (1, .int (nI sN)), (2, .int (nI 3))] := hl
  have hst := AC_st hv hac
  have hcs := cs_lt hz
  subst hs
  refine lv_iload_n (pc := 0) hx hb dX0_wordsFrom_0 rfl (lv_at hl 1 rfl) ?_
  refine xn_if_ne (pc := 1) (tgt := 6) hx hb (by omega) dX0_wordsFrom_1 (by decide) (fun c1 => ?_) (fun c1 => ?_)
  · refine lv_iload_n (pc := 6) hx hb dX0_wordsFrom_6 rfl (lv_at hl 2 rfl) ?_
    refine lv_if_le (pc := 7) (tgt := 16) hx hb dX0_wordsFrom_7 (by decide) (fun h => absurd h (by decide)) (fun _ => ?_)
    refine lv_iload_n (pc := 10) hx hb dX0_wordsFrom_10 rfl (lv_at hl 2 rfl) ?_
    refine lv_bipush (pc := 11) (v := (nI (6))) hx hb dX0_wordsFrom_11 (by decide) ?_
    refine lv_icmp_le (pc := 13) (tgt := 30) hx hb dX0_wordsFrom_13 (by decide) (fun _ => ?_) (fun h => absurd h (by decide))
    refine lv_aload_n (pc := 30) hx hb dX0_wordsFrom_30 rfl (lv_at hl 0 rfl) ?_
    refine lv_iload_n (pc := 31) hx hb dX0_wordsFrom_31 rfl (lv_at hl 1 rfl) ?_
    refine vp_callSi (pc := 32) (W.runV (As := [.int (nI (cs z))]) (rest := []) ⟨hx, hb, hml, hown, hts⟩ (c_X0_followersOf l D cI cL cZ hU aU em fs lz fo re ac st (cs z) (by omega) hst) (cwV 1 hts gX0_wordsFrom_X0_followersOf rfl rfl rfl (by decide +kernel) ⟨Nat.le_of_ble_eq_true rfl, Nat.le_of_ble_eq_true rfl⟩) (rP_V (wc := [(hU, .inr (0, oA aU ac st)), (aU 0, .inl (cZ, 18, .inl (zA em))), (aU 1, .inl (cI, 18, .inl (nA fs))), (aU 2, .inl (cI, 18, .inl (nA lz))), (aU 3, .inl (cI, 10, .inl (nA fo))), (aU 4, .inl (cI, 3, .inl (nA re)))]) (ci := 0) (q0 := 0) hK hP [0, 1, 2, 3, 4, 5] rfl rfl rfl) rfl rfl hl.1 rfl (lv_room (Nat.le_of_ble_eq_true rfl)) dX0_wordsFrom_32 ⟨Nat.zero_le _, Nat.zero_le _⟩) (fun r9 hrr => ?_)
    rw [hrr]
    refine W.eq (g2 := F0 mG 35 ls [.int (nI (2 * aF v z))]) (congrArg (fun zz => F0 mG 35 ls [.int (nI zz)]) (AC_f hv hac z)) ?_
    refine lv_istore_n (pc := 35) (lv' := [(3, .int (nI (2 * aF v z))), (0, .ref hU), (1, .int (nI (cs z))), (2, .int (nI 3))]) hx hb dX0_wordsFrom_35 rfl hl (by decide) rfl (fun ls hl => ?_)
    refine lv_iconst (pc := 36) (v := (nI (0))) hx hb dX0_wordsFrom_36 (by decide) ?_
    refine lv_istore (pc := 37) (lv' := [(4, .int (nI 0)), (3, .int (nI (2 * aF v z))), (0, .ref hU), (1, .int (nI (cs z))), (2, .int (nI 3))]) hx hb dX0_wordsFrom_37 hl (by decide) rfl (fun ls hl => ?_)
    refine lv_iconst (pc := 39) (v := (nI (0))) hx hb dX0_wordsFrom_39 (by decide) ?_
    refine lv_istore (pc := 40) (lv' := [(5, .int (nI 0)), (4, .int (nI 0)), (3, .int (nI (2 * aF v z))), (0, .ref hU), (1, .int (nI (cs z))), (2, .int (nI 3))]) hx hb dX0_wordsFrom_40 hl (by decide) rfl (fun ls hl => ?_)
    have loop42 : ∀ (fuel : Nat) (i : Nat) (ls : Array Slot), 3 - i < fuel → (i ≤ 3) → lv_has ls 6 [(0, .ref hU), (1, .int (nI (cs z))), (2, .int (nI 3)), (3, .int (nI (2 * aF v z))), (4, .int (nI (sm (fun c => wF v 2 (some (aft v z c))) i))), (5, .int (nI i))] → W pG l eG (headSpec wsX0_wordsFrom { frames := 4, cells := 0, slots := 0, locals := 96 }).room s mG [.ref hU, .int (nI (cs z)), .int (nI 3)].toArray below meth cG s.heap [] 0 0 (MQ below (vp_Si (fun r => r = (nI (wF v 3 z)))) [.ref hU, .int (nI (cs z)), .int (nI 3)].toArray s 0 0 (fun _ => False)) (F0 mG 42 ls []) := by
      intro fuel
      induction fuel with
      | zero => intro i ls hmeas i1 hl; exact absurd hmeas (Nat.not_lt_zero _)
      | succ fuel ih42 =>
        intro i ls hmeas i1 hl
        refine lv_iload (pc := 42) hx hb dX0_wordsFrom_42 (lv_at hl 5 rfl) ?_
        refine lv_iconst (pc := 44) (v := (nI (3))) hx hb dX0_wordsFrom_44 (by decide) ?_
        refine xn_icmp_ge (pc := 45) (tgt := 73) hx hb (by omega) (by omega) dX0_wordsFrom_45 (by decide) (fun c45 => ?_) (fun c45 => ?_)
        · refine lv_iload (pc := 73) hx hb dX0_wordsFrom_73 (lv_at hl 4 rfl) ?_
          exact W.iret (pc := 75) (v := (nI (sm (fun c => wF v 2 (some (aft v z c))) i))) hx hb hr (fun t ht _ => ⟨_, rfl, (by rw [show i = 3 from by omega]; rfl), ht⟩) (fun _ h => absurd h List.not_mem_nil) dX0_wordsFrom_75
        · refine lv_iload (pc := 48) hx hb dX0_wordsFrom_48 (lv_at hl 4 rfl) ?_
          refine lv_aload_n (pc := 50) hx hb dX0_wordsFrom_50 rfl (lv_at hl 0 rfl) ?_
          refine lv_aload_n (pc := 51) hx hb dX0_wordsFrom_51 rfl (lv_at hl 0 rfl) ?_
          refine lv_iload (pc := 52) hx hb dX0_wordsFrom_52 (lv_at hl 5 rfl) ?_
          refine lv_iload_n (pc := 54) hx hb dX0_wordsFrom_54 rfl (lv_at hl 3 rfl) ?_
          refine vp_callSi (pc := 55) (W.runV (As := [.int (nI i), .int (nI (2 * aF v z))]) (rest := [.ref hU, .int (nI (sm (fun c => wF v 2 (some (aft v z c))) i))]) ⟨hx, hb, hml, hown, hts⟩ (c_X0_readersOf l D cI cL cZ hU aU em fs lz fo re ac st i (2 * aF v z) (by omega)) (cwV 2 hts gX0_wordsFrom_X0_readersOf rfl rfl rfl (by decide +kernel) ⟨Nat.le_of_ble_eq_true rfl, Nat.le_of_ble_eq_true rfl⟩) (rP_V (wc := [(hU, .inr (0, oA aU ac st)), (aU 0, .inl (cZ, 18, .inl (zA em))), (aU 1, .inl (cI, 18, .inl (nA fs))), (aU 2, .inl (cI, 18, .inl (nA lz))), (aU 3, .inl (cI, 10, .inl (nA fo))), (aU 4, .inl (cI, 3, .inl (nA re)))]) (ci := 0) (q0 := 0) hK hP [0, 1, 2, 3, 4, 5] rfl rfl rfl) rfl rfl hl.1 rfl (lv_room (Nat.le_of_ble_eq_true rfl)) dX0_wordsFrom_55 ⟨Nat.zero_le _, Nat.zero_le _⟩) (fun r9 hrr => ?_)
          rw [hrr]
          refine W.eq (g2 := F0 mG 58 ls [.int (nI (cs (some (aft v z i)))), .ref hU, .int (nI (sm (fun c => wF v 2 (some (aft v z c))) i))]) (congrArg (fun zz => F0 mG 58 ls [.int (nI zz), .ref hU, .int (nI (sm (fun c => wF v 2 (some (aft v z c))) i))]) (AC_r hac (by omega) z)) ?_
          refine lv_iload_n (pc := 58) hx hb dX0_wordsFrom_58 rfl (lv_at hl 2 rfl) ?_
          refine lv_iconst (pc := 59) (v := (nI (1))) hx hb dX0_wordsFrom_59 (by decide) ?_
          refine xn_isub (pc := 60) hx hb (by omega) dX0_wordsFrom_60 ?_
          refine W.eq (g2 := F0 mG 61 ls [.int (nI 2), .int (nI (cs (some (aft v z i)))), .ref hU, .int (nI (sm (fun c => wF v 2 (some (aft v z c))) i))]) rfl ?_
          refine vp_callSi (pc := 61) (W.runS (As := [.ref hU, .int (nI (cs (some (aft v z i)))), .int (nI 2)]) (rest := [.int (nI (sm (fun c => wF v 2 (some (aft v z c))) i))]) ⟨hx, hb, hml, hown, hts⟩ (c_X0_wordsFrom_2 l D cI cL cZ hU aU em fs lz fo re ac st v (some (aft v z i)) (cs (some (aft v z i))) hv hac rfl (zok_s (aft_lt hv _ _))) (va_cwS 3 hts gX0_wordsFrom_X0_wordsFrom rfl rfl rfl (by decide +kernel) ⟨Nat.le_of_ble_eq_true rfl, Nat.le_of_ble_eq_true rfl⟩) (rP_S (wc := [(hU, .inr (0, oA aU ac st)), (aU 0, .inl (cZ, 18, .inl (zA em))), (aU 1, .inl (cI, 18, .inl (nA fs))), (aU 2, .inl (cI, 18, .inl (nA lz))), (aU 3, .inl (cI, 10, .inl (nA fo))), (aU 4, .inl (cI, 3, .inl (nA re)))]) hK hP [0, 1, 2, 3, 4, 5] rfl) rfl rfl hl.1 rfl (lv_room (Nat.le_of_ble_eq_true rfl)) dX0_wordsFrom_61 ⟨Nat.zero_le _, Nat.zero_le _⟩) (fun r9 hrr => ?_)
          rw [hrr]
          refine xn_iadd (pc := 64) hx hb  dX0_wordsFrom_64 ?_
          refine lv_istore (pc := 65) (lv' := [(4, .int (nI ((sm (fun c => wF v 2 (some (aft v z c))) i) + (wF v 2 (some (aft v z i)))))), (0, .ref hU), (1, .int (nI (cs z))), (2, .int (nI 3)), (3, .int (nI (2 * aF v z))), (5, .int (nI i))]) hx hb dX0_wordsFrom_65 hl (by decide) rfl (fun ls hl => ?_)
          have hl : lv_has ls 6 [(4, .int (nI (sm (fun c => wF v 2 (some (aft v z c))) (i + 1)))), (0, .ref hU), (1, .int (nI (cs z))), (2, .int (nI 3)), (3, .int (nI (2 * aF v z))), (5, .int (nI i))] := by have hq9 : (nI ((sm (fun c => wF v 2 (some (aft v z c))) i) + (wF v 2 (some (aft v z i))))) = (nI (sm (fun c => wF v 2 (some (aft v z c))) (i + 1))) := (rfl); first | (rw [← hq9]; exact hl) | (rw [hq9] at hl; exact hl)
          refine lv_iinc (pc := 67) (v := (nI (i + 1))) (lv' := [(5, .int (nI (i + 1))), (4, .int (nI (sm (fun c => wF v 2 (some (aft v z c))) (i + 1)))), (0, .ref hU), (1, .int (nI (cs z))), (2, .int (nI 3)), (3, .int (nI (2 * aF v z)))]) hx hb dX0_wordsFrom_67 hl (k := 5) rfl (nI_incr _) (by decide) rfl (fun ls hl => ?_)
          refine lv_goto (pc := 70) (tgt := 42) hx hb dX0_wordsFrom_70 (by decide) ?_
          exact ih42 (i + 1) ls (by omega) (by omega) (lv_sub hl [2, 3, 4, 5, 1, 0] rfl)
    have hl : lv_has ls 6 [(5, .int (nI 0)), (4, .int (nI (sm (fun c => wF v 2 (some (aft v z c))) 0))), (3, .int (nI (2 * aF v z))), (0, .ref hU), (1, .int (nI (cs z))), (2, .int (nI 3))] := by have hq9 : (nI (0)) = (nI (sm (fun c => wF v 2 (some (aft v z c))) 0)) := (rfl); first | (rw [← hq9]; exact hl) | (rw [hq9] at hl; exact hl)
    exact loop42 (_ + 1) 0 ls (Nat.lt_succ_self _) (by omega) (lv_sub hl [3, 4, 5, 2, 1, 0] rfl)
  · refine lv_iconst (pc := 4) (v := (nI (0))) hx hb dX0_wordsFrom_4 (by decide) ?_
    exact W.iret (pc := 5) (v := (nI (0))) hx hb hr (fun t ht _ => ⟨_, rfl, (by rw [cs_0 c1, wF_0]), ht⟩) (fun _ h => absurd h List.not_mem_nil) dX0_wordsFrom_5
set_option maxHeartbeats 4000000 in
set_option maxRecDepth 100000 in
theorem c_X0_wordsFrom_4 (l : Launch) (D : va_G) (cI cL cZ : ClassId) (hU : Nat) (aU : Nat → Nat) (em : Nat → Bool) (fs : Nat → Nat) (lz : Nat → Nat) (fo : Nat → Nat) (re : Nat → Nat) (ac : Nat) (st : Nat) (v : Nat) (z : Option Nat) (sN : Nat) (hv : okVb v = true) (hac : AC v fo re ac st) (hs : sN = cs z) (hz : zok z) : Met l yX0_wordsFrom wsX0_wordsFrom { frames := 5, cells := 0, slots := 0, locals := 121 } (rP D (tyL cI cL cZ) [(hU, .inr (0, oA aU ac st)), (aU 0, .inl (cZ, 18, .inl (zA em))), (aU 1, .inl (cI, 18, .inl (nA fs))), (aU 2, .inl (cI, 18, .inl (nA lz))), (aU 3, .inl (cI, 10, .inl (nA fo))), (aU 4, .inl (cI, 3, .inl (nA re)))] [.ref hU, .int (nI sN), .int (nI 4)]) (vp_Si (fun r => r = (nI (wF v 4 z)))) 0 0 (fun _ => False) := by
  refine Met.ofW (cc := cX0_wordsFrom) (maxL := 6) (ret := (some .int)) (by decide) rfl ?_
  intro pG eG s mG args below meth cG s₁ B hml hpre9
  obtain ⟨rfl, hP, hK⟩ := hpre9
  have hx := B.exec
  have hb := B.bytes
  have hr := B.returns
  have hts := atoms_spec (ws := wsX0_wordsFrom) B.pre
  have hown : s.vm.findClass RX0 = some mG.cls := findClass_of_methodNamed B.named
  have hlocks := B.notSynchronized
  have hS : va_S (fun _ => False) s.heap s.heap [] := va_S.rf
  have hl := lv_entry ([.ref hU, .int (nI sN), .int (nI 4)]) (n := 6) (Nat.le_of_ble_eq_true rfl)
  rw [lg_entry_eq]
  generalize (lg_sl ([.ref hU, .int (nI sN), .int (nI 4)]) ++ List.replicate (6 - (lg_sl ([.ref hU, .int (nI sN), .int (nI 4)])).length) Slot.unset).toArray = ls at hl ⊢
  have hl : lv_has ls 6 [(0, .ref hU), (1, .int (nI sN)), (2, .int (nI 4))] := hl
  have hst := AC_st hv hac
  have hcs := cs_lt hz
  subst hs
  refine lv_iload_n (pc := 0) hx hb dX0_wordsFrom_0 rfl (lv_at hl 1 rfl) ?_
  refine xn_if_ne (pc := 1) (tgt := 6) hx hb (by omega) dX0_wordsFrom_1 (by decide) (fun c1 => ?_) (fun c1 => ?_)
  · refine lv_iload_n (pc := 6) hx hb dX0_wordsFrom_6 rfl (lv_at hl 2 rfl) ?_
    refine lv_if_le (pc := 7) (tgt := 16) hx hb dX0_wordsFrom_7 (by decide) (fun h => absurd h (by decide)) (fun _ => ?_)
    refine lv_iload_n (pc := 10) hx hb dX0_wordsFrom_10 rfl (lv_at hl 2 rfl) ?_
    refine lv_bipush (pc := 11) (v := (nI (6))) hx hb dX0_wordsFrom_11 (by decide) ?_
    refine lv_icmp_le (pc := 13) (tgt := 30) hx hb dX0_wordsFrom_13 (by decide) (fun _ => ?_) (fun h => absurd h (by decide))
    refine lv_aload_n (pc := 30) hx hb dX0_wordsFrom_30 rfl (lv_at hl 0 rfl) ?_
    refine lv_iload_n (pc := 31) hx hb dX0_wordsFrom_31 rfl (lv_at hl 1 rfl) ?_
    refine vp_callSi (pc := 32) (W.runV (As := [.int (nI (cs z))]) (rest := []) ⟨hx, hb, hml, hown, hts⟩ (c_X0_followersOf l D cI cL cZ hU aU em fs lz fo re ac st (cs z) (by omega) hst) (cwV 1 hts gX0_wordsFrom_X0_followersOf rfl rfl rfl (by decide +kernel) ⟨Nat.le_of_ble_eq_true rfl, Nat.le_of_ble_eq_true rfl⟩) (rP_V (wc := [(hU, .inr (0, oA aU ac st)), (aU 0, .inl (cZ, 18, .inl (zA em))), (aU 1, .inl (cI, 18, .inl (nA fs))), (aU 2, .inl (cI, 18, .inl (nA lz))), (aU 3, .inl (cI, 10, .inl (nA fo))), (aU 4, .inl (cI, 3, .inl (nA re)))]) (ci := 0) (q0 := 0) hK hP [0, 1, 2, 3, 4, 5] rfl rfl rfl) rfl rfl hl.1 rfl (lv_room (Nat.le_of_ble_eq_true rfl)) dX0_wordsFrom_32 ⟨Nat.zero_le _, Nat.zero_le _⟩) (fun r9 hrr => ?_)
    rw [hrr]
    refine W.eq (g2 := F0 mG 35 ls [.int (nI (2 * aF v z))]) (congrArg (fun zz => F0 mG 35 ls [.int (nI zz)]) (AC_f hv hac z)) ?_
    refine lv_istore_n (pc := 35) (lv' := [(3, .int (nI (2 * aF v z))), (0, .ref hU), (1, .int (nI (cs z))), (2, .int (nI 4))]) hx hb dX0_wordsFrom_35 rfl hl (by decide) rfl (fun ls hl => ?_)
    refine lv_iconst (pc := 36) (v := (nI (0))) hx hb dX0_wordsFrom_36 (by decide) ?_
    refine lv_istore (pc := 37) (lv' := [(4, .int (nI 0)), (3, .int (nI (2 * aF v z))), (0, .ref hU), (1, .int (nI (cs z))), (2, .int (nI 4))]) hx hb dX0_wordsFrom_37 hl (by decide) rfl (fun ls hl => ?_)
    refine lv_iconst (pc := 39) (v := (nI (0))) hx hb dX0_wordsFrom_39 (by decide) ?_
    refine lv_istore (pc := 40) (lv' := [(5, .int (nI 0)), (4, .int (nI 0)), (3, .int (nI (2 * aF v z))), (0, .ref hU), (1, .int (nI (cs z))), (2, .int (nI 4))]) hx hb dX0_wordsFrom_40 hl (by decide) rfl (fun ls hl => ?_)
    have loop42 : ∀ (fuel : Nat) (i : Nat) (ls : Array Slot), 3 - i < fuel → (i ≤ 3) → lv_has ls 6 [(0, .ref hU), (1, .int (nI (cs z))), (2, .int (nI 4)), (3, .int (nI (2 * aF v z))), (4, .int (nI (sm (fun c => wF v 3 (some (aft v z c))) i))), (5, .int (nI i))] → W pG l eG (headSpec wsX0_wordsFrom { frames := 5, cells := 0, slots := 0, locals := 121 }).room s mG [.ref hU, .int (nI (cs z)), .int (nI 4)].toArray below meth cG s.heap [] 0 0 (MQ below (vp_Si (fun r => r = (nI (wF v 4 z)))) [.ref hU, .int (nI (cs z)), .int (nI 4)].toArray s 0 0 (fun _ => False)) (F0 mG 42 ls []) := by
      intro fuel
      induction fuel with
      | zero => intro i ls hmeas i1 hl; exact absurd hmeas (Nat.not_lt_zero _)
      | succ fuel ih42 =>
        intro i ls hmeas i1 hl
        refine lv_iload (pc := 42) hx hb dX0_wordsFrom_42 (lv_at hl 5 rfl) ?_
        refine lv_iconst (pc := 44) (v := (nI (3))) hx hb dX0_wordsFrom_44 (by decide) ?_
        refine xn_icmp_ge (pc := 45) (tgt := 73) hx hb (by omega) (by omega) dX0_wordsFrom_45 (by decide) (fun c45 => ?_) (fun c45 => ?_)
        · refine lv_iload (pc := 73) hx hb dX0_wordsFrom_73 (lv_at hl 4 rfl) ?_
          exact W.iret (pc := 75) (v := (nI (sm (fun c => wF v 3 (some (aft v z c))) i))) hx hb hr (fun t ht _ => ⟨_, rfl, (by rw [show i = 3 from by omega]; rfl), ht⟩) (fun _ h => absurd h List.not_mem_nil) dX0_wordsFrom_75
        · refine lv_iload (pc := 48) hx hb dX0_wordsFrom_48 (lv_at hl 4 rfl) ?_
          refine lv_aload_n (pc := 50) hx hb dX0_wordsFrom_50 rfl (lv_at hl 0 rfl) ?_
          refine lv_aload_n (pc := 51) hx hb dX0_wordsFrom_51 rfl (lv_at hl 0 rfl) ?_
          refine lv_iload (pc := 52) hx hb dX0_wordsFrom_52 (lv_at hl 5 rfl) ?_
          refine lv_iload_n (pc := 54) hx hb dX0_wordsFrom_54 rfl (lv_at hl 3 rfl) ?_
          refine vp_callSi (pc := 55) (W.runV (As := [.int (nI i), .int (nI (2 * aF v z))]) (rest := [.ref hU, .int (nI (sm (fun c => wF v 3 (some (aft v z c))) i))]) ⟨hx, hb, hml, hown, hts⟩ (c_X0_readersOf l D cI cL cZ hU aU em fs lz fo re ac st i (2 * aF v z) (by omega)) (cwV 2 hts gX0_wordsFrom_X0_readersOf rfl rfl rfl (by decide +kernel) ⟨Nat.le_of_ble_eq_true rfl, Nat.le_of_ble_eq_true rfl⟩) (rP_V (wc := [(hU, .inr (0, oA aU ac st)), (aU 0, .inl (cZ, 18, .inl (zA em))), (aU 1, .inl (cI, 18, .inl (nA fs))), (aU 2, .inl (cI, 18, .inl (nA lz))), (aU 3, .inl (cI, 10, .inl (nA fo))), (aU 4, .inl (cI, 3, .inl (nA re)))]) (ci := 0) (q0 := 0) hK hP [0, 1, 2, 3, 4, 5] rfl rfl rfl) rfl rfl hl.1 rfl (lv_room (Nat.le_of_ble_eq_true rfl)) dX0_wordsFrom_55 ⟨Nat.zero_le _, Nat.zero_le _⟩) (fun r9 hrr => ?_)
          rw [hrr]
          refine W.eq (g2 := F0 mG 58 ls [.int (nI (cs (some (aft v z i)))), .ref hU, .int (nI (sm (fun c => wF v 3 (some (aft v z c))) i))]) (congrArg (fun zz => F0 mG 58 ls [.int (nI zz), .ref hU, .int (nI (sm (fun c => wF v 3 (some (aft v z c))) i))]) (AC_r hac (by omega) z)) ?_
          refine lv_iload_n (pc := 58) hx hb dX0_wordsFrom_58 rfl (lv_at hl 2 rfl) ?_
          refine lv_iconst (pc := 59) (v := (nI (1))) hx hb dX0_wordsFrom_59 (by decide) ?_
          refine xn_isub (pc := 60) hx hb (by omega) dX0_wordsFrom_60 ?_
          refine W.eq (g2 := F0 mG 61 ls [.int (nI 3), .int (nI (cs (some (aft v z i)))), .ref hU, .int (nI (sm (fun c => wF v 3 (some (aft v z c))) i))]) rfl ?_
          refine vp_callSi (pc := 61) (W.runS (As := [.ref hU, .int (nI (cs (some (aft v z i)))), .int (nI 3)]) (rest := [.int (nI (sm (fun c => wF v 3 (some (aft v z c))) i))]) ⟨hx, hb, hml, hown, hts⟩ (c_X0_wordsFrom_3 l D cI cL cZ hU aU em fs lz fo re ac st v (some (aft v z i)) (cs (some (aft v z i))) hv hac rfl (zok_s (aft_lt hv _ _))) (va_cwS 3 hts gX0_wordsFrom_X0_wordsFrom rfl rfl rfl (by decide +kernel) ⟨Nat.le_of_ble_eq_true rfl, Nat.le_of_ble_eq_true rfl⟩) (rP_S (wc := [(hU, .inr (0, oA aU ac st)), (aU 0, .inl (cZ, 18, .inl (zA em))), (aU 1, .inl (cI, 18, .inl (nA fs))), (aU 2, .inl (cI, 18, .inl (nA lz))), (aU 3, .inl (cI, 10, .inl (nA fo))), (aU 4, .inl (cI, 3, .inl (nA re)))]) hK hP [0, 1, 2, 3, 4, 5] rfl) rfl rfl hl.1 rfl (lv_room (Nat.le_of_ble_eq_true rfl)) dX0_wordsFrom_61 ⟨Nat.zero_le _, Nat.zero_le _⟩) (fun r9 hrr => ?_)
          rw [hrr]
          refine xn_iadd (pc := 64) hx hb  dX0_wordsFrom_64 ?_
          refine lv_istore (pc := 65) (lv' := [(4, .int (nI ((sm (fun c => wF v 3 (some (aft v z c))) i) + (wF v 3 (some (aft v z i)))))), (0, .ref hU), (1, .int (nI (cs z))), (2, .int (nI 4)), (3, .int (nI (2 * aF v z))), (5, .int (nI i))]) hx hb dX0_wordsFrom_65 hl (by decide) rfl (fun ls hl => ?_)
          have hl : lv_has ls 6 [(4, .int (nI (sm (fun c => wF v 3 (some (aft v z c))) (i + 1)))), (0, .ref hU), (1, .int (nI (cs z))), (2, .int (nI 4)), (3, .int (nI (2 * aF v z))), (5, .int (nI i))] := by have hq9 : (nI ((sm (fun c => wF v 3 (some (aft v z c))) i) + (wF v 3 (some (aft v z i))))) = (nI (sm (fun c => wF v 3 (some (aft v z c))) (i + 1))) := (rfl); first | (rw [← hq9]; exact hl) | (rw [hq9] at hl; exact hl)
          refine lv_iinc (pc := 67) (v := (nI (i + 1))) (lv' := [(5, .int (nI (i + 1))), (4, .int (nI (sm (fun c => wF v 3 (some (aft v z c))) (i + 1)))), (0, .ref hU), (1, .int (nI (cs z))), (2, .int (nI 4)), (3, .int (nI (2 * aF v z)))]) hx hb dX0_wordsFrom_67 hl (k := 5) rfl (nI_incr _) (by decide) rfl (fun ls hl => ?_)
          refine lv_goto (pc := 70) (tgt := 42) hx hb dX0_wordsFrom_70 (by decide) ?_
          exact ih42 (i + 1) ls (by omega) (by omega) (lv_sub hl [2, 3, 4, 5, 1, 0] rfl)
    have hl : lv_has ls 6 [(5, .int (nI 0)), (4, .int (nI (sm (fun c => wF v 3 (some (aft v z c))) 0))), (3, .int (nI (2 * aF v z))), (0, .ref hU), (1, .int (nI (cs z))), (2, .int (nI 4))] := by have hq9 : (nI (0)) = (nI (sm (fun c => wF v 3 (some (aft v z c))) 0)) := (rfl); first | (rw [← hq9]; exact hl) | (rw [hq9] at hl; exact hl)
    exact loop42 (_ + 1) 0 ls (Nat.lt_succ_self _) (by omega) (lv_sub hl [3, 4, 5, 2, 1, 0] rfl)
  · refine lv_iconst (pc := 4) (v := (nI (0))) hx hb dX0_wordsFrom_4 (by decide) ?_
    exact W.iret (pc := 5) (v := (nI (0))) hx hb hr (fun t ht _ => ⟨_, rfl, (by rw [cs_0 c1, wF_0]), ht⟩) (fun _ h => absurd h List.not_mem_nil) dX0_wordsFrom_5
set_option maxHeartbeats 4000000 in
set_option maxRecDepth 100000 in
theorem c_X0_wordsFrom_5 (l : Launch) (D : va_G) (cI cL cZ : ClassId) (hU : Nat) (aU : Nat → Nat) (em : Nat → Bool) (fs : Nat → Nat) (lz : Nat → Nat) (fo : Nat → Nat) (re : Nat → Nat) (ac : Nat) (st : Nat) (v : Nat) (z : Option Nat) (sN : Nat) (hv : okVb v = true) (hac : AC v fo re ac st) (hs : sN = cs z) (hz : zok z) : Met l yX0_wordsFrom wsX0_wordsFrom { frames := 6, cells := 0, slots := 0, locals := 146 } (rP D (tyL cI cL cZ) [(hU, .inr (0, oA aU ac st)), (aU 0, .inl (cZ, 18, .inl (zA em))), (aU 1, .inl (cI, 18, .inl (nA fs))), (aU 2, .inl (cI, 18, .inl (nA lz))), (aU 3, .inl (cI, 10, .inl (nA fo))), (aU 4, .inl (cI, 3, .inl (nA re)))] [.ref hU, .int (nI sN), .int (nI 5)]) (vp_Si (fun r => r = (nI (wF v 5 z)))) 0 0 (fun _ => False) := by
  refine Met.ofW (cc := cX0_wordsFrom) (maxL := 6) (ret := (some .int)) (by decide) rfl ?_
  intro pG eG s mG args below meth cG s₁ B hml hpre9
  obtain ⟨rfl, hP, hK⟩ := hpre9
  have hx := B.exec
  have hb := B.bytes
  have hr := B.returns
  have hts := atoms_spec (ws := wsX0_wordsFrom) B.pre
  have hown : s.vm.findClass RX0 = some mG.cls := findClass_of_methodNamed B.named
  have hlocks := B.notSynchronized
  have hS : va_S (fun _ => False) s.heap s.heap [] := va_S.rf
  have hl := lv_entry ([.ref hU, .int (nI sN), .int (nI 5)]) (n := 6) (Nat.le_of_ble_eq_true rfl)
  rw [lg_entry_eq]
  generalize (lg_sl ([.ref hU, .int (nI sN), .int (nI 5)]) ++ List.replicate (6 - (lg_sl ([.ref hU, .int (nI sN), .int (nI 5)])).length) Slot.unset).toArray = ls at hl ⊢
  have hl : lv_has ls 6 [(0, .ref hU), (1, .int (nI sN)), (2, .int (nI 5))] := hl
  have hst := AC_st hv hac
  have hcs := cs_lt hz
  subst hs
  refine lv_iload_n (pc := 0) hx hb dX0_wordsFrom_0 rfl (lv_at hl 1 rfl) ?_
  refine xn_if_ne (pc := 1) (tgt := 6) hx hb (by omega) dX0_wordsFrom_1 (by decide) (fun c1 => ?_) (fun c1 => ?_)
  · refine lv_iload_n (pc := 6) hx hb dX0_wordsFrom_6 rfl (lv_at hl 2 rfl) ?_
    refine lv_if_le (pc := 7) (tgt := 16) hx hb dX0_wordsFrom_7 (by decide) (fun h => absurd h (by decide)) (fun _ => ?_)
    refine lv_iload_n (pc := 10) hx hb dX0_wordsFrom_10 rfl (lv_at hl 2 rfl) ?_
    refine lv_bipush (pc := 11) (v := (nI (6))) hx hb dX0_wordsFrom_11 (by decide) ?_
    refine lv_icmp_le (pc := 13) (tgt := 30) hx hb dX0_wordsFrom_13 (by decide) (fun _ => ?_) (fun h => absurd h (by decide))
    refine lv_aload_n (pc := 30) hx hb dX0_wordsFrom_30 rfl (lv_at hl 0 rfl) ?_
    refine lv_iload_n (pc := 31) hx hb dX0_wordsFrom_31 rfl (lv_at hl 1 rfl) ?_
    refine vp_callSi (pc := 32) (W.runV (As := [.int (nI (cs z))]) (rest := []) ⟨hx, hb, hml, hown, hts⟩ (c_X0_followersOf l D cI cL cZ hU aU em fs lz fo re ac st (cs z) (by omega) hst) (cwV 1 hts gX0_wordsFrom_X0_followersOf rfl rfl rfl (by decide +kernel) ⟨Nat.le_of_ble_eq_true rfl, Nat.le_of_ble_eq_true rfl⟩) (rP_V (wc := [(hU, .inr (0, oA aU ac st)), (aU 0, .inl (cZ, 18, .inl (zA em))), (aU 1, .inl (cI, 18, .inl (nA fs))), (aU 2, .inl (cI, 18, .inl (nA lz))), (aU 3, .inl (cI, 10, .inl (nA fo))), (aU 4, .inl (cI, 3, .inl (nA re)))]) (ci := 0) (q0 := 0) hK hP [0, 1, 2, 3, 4, 5] rfl rfl rfl) rfl rfl hl.1 rfl (lv_room (Nat.le_of_ble_eq_true rfl)) dX0_wordsFrom_32 ⟨Nat.zero_le _, Nat.zero_le _⟩) (fun r9 hrr => ?_)
    rw [hrr]
    refine W.eq (g2 := F0 mG 35 ls [.int (nI (2 * aF v z))]) (congrArg (fun zz => F0 mG 35 ls [.int (nI zz)]) (AC_f hv hac z)) ?_
    refine lv_istore_n (pc := 35) (lv' := [(3, .int (nI (2 * aF v z))), (0, .ref hU), (1, .int (nI (cs z))), (2, .int (nI 5))]) hx hb dX0_wordsFrom_35 rfl hl (by decide) rfl (fun ls hl => ?_)
    refine lv_iconst (pc := 36) (v := (nI (0))) hx hb dX0_wordsFrom_36 (by decide) ?_
    refine lv_istore (pc := 37) (lv' := [(4, .int (nI 0)), (3, .int (nI (2 * aF v z))), (0, .ref hU), (1, .int (nI (cs z))), (2, .int (nI 5))]) hx hb dX0_wordsFrom_37 hl (by decide) rfl (fun ls hl => ?_)
    refine lv_iconst (pc := 39) (v := (nI (0))) hx hb dX0_wordsFrom_39 (by decide) ?_
    refine lv_istore (pc := 40) (lv' := [(5, .int (nI 0)), (4, .int (nI 0)), (3, .int (nI (2 * aF v z))), (0, .ref hU), (1, .int (nI (cs z))), (2, .int (nI 5))]) hx hb dX0_wordsFrom_40 hl (by decide) rfl (fun ls hl => ?_)
    have loop42 : ∀ (fuel : Nat) (i : Nat) (ls : Array Slot), 3 - i < fuel → (i ≤ 3) → lv_has ls 6 [(0, .ref hU), (1, .int (nI (cs z))), (2, .int (nI 5)), (3, .int (nI (2 * aF v z))), (4, .int (nI (sm (fun c => wF v 4 (some (aft v z c))) i))), (5, .int (nI i))] → W pG l eG (headSpec wsX0_wordsFrom { frames := 6, cells := 0, slots := 0, locals := 146 }).room s mG [.ref hU, .int (nI (cs z)), .int (nI 5)].toArray below meth cG s.heap [] 0 0 (MQ below (vp_Si (fun r => r = (nI (wF v 5 z)))) [.ref hU, .int (nI (cs z)), .int (nI 5)].toArray s 0 0 (fun _ => False)) (F0 mG 42 ls []) := by
      intro fuel
      induction fuel with
      | zero => intro i ls hmeas i1 hl; exact absurd hmeas (Nat.not_lt_zero _)
      | succ fuel ih42 =>
        intro i ls hmeas i1 hl
        refine lv_iload (pc := 42) hx hb dX0_wordsFrom_42 (lv_at hl 5 rfl) ?_
        refine lv_iconst (pc := 44) (v := (nI (3))) hx hb dX0_wordsFrom_44 (by decide) ?_
        refine xn_icmp_ge (pc := 45) (tgt := 73) hx hb (by omega) (by omega) dX0_wordsFrom_45 (by decide) (fun c45 => ?_) (fun c45 => ?_)
        · refine lv_iload (pc := 73) hx hb dX0_wordsFrom_73 (lv_at hl 4 rfl) ?_
          exact W.iret (pc := 75) (v := (nI (sm (fun c => wF v 4 (some (aft v z c))) i))) hx hb hr (fun t ht _ => ⟨_, rfl, (by rw [show i = 3 from by omega]; rfl), ht⟩) (fun _ h => absurd h List.not_mem_nil) dX0_wordsFrom_75
        · refine lv_iload (pc := 48) hx hb dX0_wordsFrom_48 (lv_at hl 4 rfl) ?_
          refine lv_aload_n (pc := 50) hx hb dX0_wordsFrom_50 rfl (lv_at hl 0 rfl) ?_
          refine lv_aload_n (pc := 51) hx hb dX0_wordsFrom_51 rfl (lv_at hl 0 rfl) ?_
          refine lv_iload (pc := 52) hx hb dX0_wordsFrom_52 (lv_at hl 5 rfl) ?_
          refine lv_iload_n (pc := 54) hx hb dX0_wordsFrom_54 rfl (lv_at hl 3 rfl) ?_
          refine vp_callSi (pc := 55) (W.runV (As := [.int (nI i), .int (nI (2 * aF v z))]) (rest := [.ref hU, .int (nI (sm (fun c => wF v 4 (some (aft v z c))) i))]) ⟨hx, hb, hml, hown, hts⟩ (c_X0_readersOf l D cI cL cZ hU aU em fs lz fo re ac st i (2 * aF v z) (by omega)) (cwV 2 hts gX0_wordsFrom_X0_readersOf rfl rfl rfl (by decide +kernel) ⟨Nat.le_of_ble_eq_true rfl, Nat.le_of_ble_eq_true rfl⟩) (rP_V (wc := [(hU, .inr (0, oA aU ac st)), (aU 0, .inl (cZ, 18, .inl (zA em))), (aU 1, .inl (cI, 18, .inl (nA fs))), (aU 2, .inl (cI, 18, .inl (nA lz))), (aU 3, .inl (cI, 10, .inl (nA fo))), (aU 4, .inl (cI, 3, .inl (nA re)))]) (ci := 0) (q0 := 0) hK hP [0, 1, 2, 3, 4, 5] rfl rfl rfl) rfl rfl hl.1 rfl (lv_room (Nat.le_of_ble_eq_true rfl)) dX0_wordsFrom_55 ⟨Nat.zero_le _, Nat.zero_le _⟩) (fun r9 hrr => ?_)
          rw [hrr]
          refine W.eq (g2 := F0 mG 58 ls [.int (nI (cs (some (aft v z i)))), .ref hU, .int (nI (sm (fun c => wF v 4 (some (aft v z c))) i))]) (congrArg (fun zz => F0 mG 58 ls [.int (nI zz), .ref hU, .int (nI (sm (fun c => wF v 4 (some (aft v z c))) i))]) (AC_r hac (by omega) z)) ?_
          refine lv_iload_n (pc := 58) hx hb dX0_wordsFrom_58 rfl (lv_at hl 2 rfl) ?_
          refine lv_iconst (pc := 59) (v := (nI (1))) hx hb dX0_wordsFrom_59 (by decide) ?_
          refine xn_isub (pc := 60) hx hb (by omega) dX0_wordsFrom_60 ?_
          refine W.eq (g2 := F0 mG 61 ls [.int (nI 4), .int (nI (cs (some (aft v z i)))), .ref hU, .int (nI (sm (fun c => wF v 4 (some (aft v z c))) i))]) rfl ?_
          refine vp_callSi (pc := 61) (W.runS (As := [.ref hU, .int (nI (cs (some (aft v z i)))), .int (nI 4)]) (rest := [.int (nI (sm (fun c => wF v 4 (some (aft v z c))) i))]) ⟨hx, hb, hml, hown, hts⟩ (c_X0_wordsFrom_4 l D cI cL cZ hU aU em fs lz fo re ac st v (some (aft v z i)) (cs (some (aft v z i))) hv hac rfl (zok_s (aft_lt hv _ _))) (va_cwS 3 hts gX0_wordsFrom_X0_wordsFrom rfl rfl rfl (by decide +kernel) ⟨Nat.le_of_ble_eq_true rfl, Nat.le_of_ble_eq_true rfl⟩) (rP_S (wc := [(hU, .inr (0, oA aU ac st)), (aU 0, .inl (cZ, 18, .inl (zA em))), (aU 1, .inl (cI, 18, .inl (nA fs))), (aU 2, .inl (cI, 18, .inl (nA lz))), (aU 3, .inl (cI, 10, .inl (nA fo))), (aU 4, .inl (cI, 3, .inl (nA re)))]) hK hP [0, 1, 2, 3, 4, 5] rfl) rfl rfl hl.1 rfl (lv_room (Nat.le_of_ble_eq_true rfl)) dX0_wordsFrom_61 ⟨Nat.zero_le _, Nat.zero_le _⟩) (fun r9 hrr => ?_)
          rw [hrr]
          refine xn_iadd (pc := 64) hx hb  dX0_wordsFrom_64 ?_
          refine lv_istore (pc := 65) (lv' := [(4, .int (nI ((sm (fun c => wF v 4 (some (aft v z c))) i) + (wF v 4 (some (aft v z i)))))), (0, .ref hU), (1, .int (nI (cs z))), (2, .int (nI 5)), (3, .int (nI (2 * aF v z))), (5, .int (nI i))]) hx hb dX0_wordsFrom_65 hl (by decide) rfl (fun ls hl => ?_)
          have hl : lv_has ls 6 [(4, .int (nI (sm (fun c => wF v 4 (some (aft v z c))) (i + 1)))), (0, .ref hU), (1, .int (nI (cs z))), (2, .int (nI 5)), (3, .int (nI (2 * aF v z))), (5, .int (nI i))] := by have hq9 : (nI ((sm (fun c => wF v 4 (some (aft v z c))) i) + (wF v 4 (some (aft v z i))))) = (nI (sm (fun c => wF v 4 (some (aft v z c))) (i + 1))) := (rfl); first | (rw [← hq9]; exact hl) | (rw [hq9] at hl; exact hl)
          refine lv_iinc (pc := 67) (v := (nI (i + 1))) (lv' := [(5, .int (nI (i + 1))), (4, .int (nI (sm (fun c => wF v 4 (some (aft v z c))) (i + 1)))), (0, .ref hU), (1, .int (nI (cs z))), (2, .int (nI 5)), (3, .int (nI (2 * aF v z)))]) hx hb dX0_wordsFrom_67 hl (k := 5) rfl (nI_incr _) (by decide) rfl (fun ls hl => ?_)
          refine lv_goto (pc := 70) (tgt := 42) hx hb dX0_wordsFrom_70 (by decide) ?_
          exact ih42 (i + 1) ls (by omega) (by omega) (lv_sub hl [2, 3, 4, 5, 1, 0] rfl)
    have hl : lv_has ls 6 [(5, .int (nI 0)), (4, .int (nI (sm (fun c => wF v 4 (some (aft v z c))) 0))), (3, .int (nI (2 * aF v z))), (0, .ref hU), (1, .int (nI (cs z))), (2, .int (nI 5))] := by have hq9 : (nI (0)) = (nI (sm (fun c => wF v 4 (some (aft v z c))) 0)) := (rfl); first | (rw [← hq9]; exact hl) | (rw [hq9] at hl; exact hl)
    exact loop42 (_ + 1) 0 ls (Nat.lt_succ_self _) (by omega) (lv_sub hl [3, 4, 5, 2, 1, 0] rfl)
  · refine lv_iconst (pc := 4) (v := (nI (0))) hx hb dX0_wordsFrom_4 (by decide) ?_
    exact W.iret (pc := 5) (v := (nI (0))) hx hb hr (fun t ht _ => ⟨_, rfl, (by rw [cs_0 c1, wF_0]), ht⟩) (fun _ h => absurd h List.not_mem_nil) dX0_wordsFrom_5
set_option maxHeartbeats 4000000 in
set_option maxRecDepth 100000 in
theorem c_X0_wordsFrom_6 (l : Launch) (D : va_G) (cI cL cZ : ClassId) (hU : Nat) (aU : Nat → Nat) (em : Nat → Bool) (fs : Nat → Nat) (lz : Nat → Nat) (fo : Nat → Nat) (re : Nat → Nat) (ac : Nat) (st : Nat) (v : Nat) (z : Option Nat) (sN : Nat) (hv : okVb v = true) (hac : AC v fo re ac st) (hs : sN = cs z) (hz : zok z) : Met l yX0_wordsFrom wsX0_wordsFrom { frames := 7, cells := 0, slots := 0, locals := 171 } (rP D (tyL cI cL cZ) [(hU, .inr (0, oA aU ac st)), (aU 0, .inl (cZ, 18, .inl (zA em))), (aU 1, .inl (cI, 18, .inl (nA fs))), (aU 2, .inl (cI, 18, .inl (nA lz))), (aU 3, .inl (cI, 10, .inl (nA fo))), (aU 4, .inl (cI, 3, .inl (nA re)))] [.ref hU, .int (nI sN), .int (nI 6)]) (vp_Si (fun r => r = (nI (wF v 6 z)))) 0 0 (fun _ => False) := by
  refine Met.ofW (cc := cX0_wordsFrom) (maxL := 6) (ret := (some .int)) (by decide) rfl ?_
  intro pG eG s mG args below meth cG s₁ B hml hpre9
  obtain ⟨rfl, hP, hK⟩ := hpre9
  have hx := B.exec
  have hb := B.bytes
  have hr := B.returns
  have hts := atoms_spec (ws := wsX0_wordsFrom) B.pre
  have hown : s.vm.findClass RX0 = some mG.cls := findClass_of_methodNamed B.named
  have hlocks := B.notSynchronized
  have hS : va_S (fun _ => False) s.heap s.heap [] := va_S.rf
  have hl := lv_entry ([.ref hU, .int (nI sN), .int (nI 6)]) (n := 6) (Nat.le_of_ble_eq_true rfl)
  rw [lg_entry_eq]
  generalize (lg_sl ([.ref hU, .int (nI sN), .int (nI 6)]) ++ List.replicate (6 - (lg_sl ([.ref hU, .int (nI sN), .int (nI 6)])).length) Slot.unset).toArray = ls at hl ⊢
  have hl : lv_has ls 6 [(0, .ref hU), (1, .int (nI sN)), (2, .int (nI 6))] := hl
  have hst := AC_st hv hac
  have hcs := cs_lt hz
  subst hs
  refine lv_iload_n (pc := 0) hx hb dX0_wordsFrom_0 rfl (lv_at hl 1 rfl) ?_
  refine xn_if_ne (pc := 1) (tgt := 6) hx hb (by omega) dX0_wordsFrom_1 (by decide) (fun c1 => ?_) (fun c1 => ?_)
  · refine lv_iload_n (pc := 6) hx hb dX0_wordsFrom_6 rfl (lv_at hl 2 rfl) ?_
    refine lv_if_le (pc := 7) (tgt := 16) hx hb dX0_wordsFrom_7 (by decide) (fun h => absurd h (by decide)) (fun _ => ?_)
    refine lv_iload_n (pc := 10) hx hb dX0_wordsFrom_10 rfl (lv_at hl 2 rfl) ?_
    refine lv_bipush (pc := 11) (v := (nI (6))) hx hb dX0_wordsFrom_11 (by decide) ?_
    refine lv_icmp_le (pc := 13) (tgt := 30) hx hb dX0_wordsFrom_13 (by decide) (fun _ => ?_) (fun h => absurd h (by decide))
    refine lv_aload_n (pc := 30) hx hb dX0_wordsFrom_30 rfl (lv_at hl 0 rfl) ?_
    refine lv_iload_n (pc := 31) hx hb dX0_wordsFrom_31 rfl (lv_at hl 1 rfl) ?_
    refine vp_callSi (pc := 32) (W.runV (As := [.int (nI (cs z))]) (rest := []) ⟨hx, hb, hml, hown, hts⟩ (c_X0_followersOf l D cI cL cZ hU aU em fs lz fo re ac st (cs z) (by omega) hst) (cwV 1 hts gX0_wordsFrom_X0_followersOf rfl rfl rfl (by decide +kernel) ⟨Nat.le_of_ble_eq_true rfl, Nat.le_of_ble_eq_true rfl⟩) (rP_V (wc := [(hU, .inr (0, oA aU ac st)), (aU 0, .inl (cZ, 18, .inl (zA em))), (aU 1, .inl (cI, 18, .inl (nA fs))), (aU 2, .inl (cI, 18, .inl (nA lz))), (aU 3, .inl (cI, 10, .inl (nA fo))), (aU 4, .inl (cI, 3, .inl (nA re)))]) (ci := 0) (q0 := 0) hK hP [0, 1, 2, 3, 4, 5] rfl rfl rfl) rfl rfl hl.1 rfl (lv_room (Nat.le_of_ble_eq_true rfl)) dX0_wordsFrom_32 ⟨Nat.zero_le _, Nat.zero_le _⟩) (fun r9 hrr => ?_)
    rw [hrr]
    refine W.eq (g2 := F0 mG 35 ls [.int (nI (2 * aF v z))]) (congrArg (fun zz => F0 mG 35 ls [.int (nI zz)]) (AC_f hv hac z)) ?_
    refine lv_istore_n (pc := 35) (lv' := [(3, .int (nI (2 * aF v z))), (0, .ref hU), (1, .int (nI (cs z))), (2, .int (nI 6))]) hx hb dX0_wordsFrom_35 rfl hl (by decide) rfl (fun ls hl => ?_)
    refine lv_iconst (pc := 36) (v := (nI (0))) hx hb dX0_wordsFrom_36 (by decide) ?_
    refine lv_istore (pc := 37) (lv' := [(4, .int (nI 0)), (3, .int (nI (2 * aF v z))), (0, .ref hU), (1, .int (nI (cs z))), (2, .int (nI 6))]) hx hb dX0_wordsFrom_37 hl (by decide) rfl (fun ls hl => ?_)
    refine lv_iconst (pc := 39) (v := (nI (0))) hx hb dX0_wordsFrom_39 (by decide) ?_
    refine lv_istore (pc := 40) (lv' := [(5, .int (nI 0)), (4, .int (nI 0)), (3, .int (nI (2 * aF v z))), (0, .ref hU), (1, .int (nI (cs z))), (2, .int (nI 6))]) hx hb dX0_wordsFrom_40 hl (by decide) rfl (fun ls hl => ?_)
    have loop42 : ∀ (fuel : Nat) (i : Nat) (ls : Array Slot), 3 - i < fuel → (i ≤ 3) → lv_has ls 6 [(0, .ref hU), (1, .int (nI (cs z))), (2, .int (nI 6)), (3, .int (nI (2 * aF v z))), (4, .int (nI (sm (fun c => wF v 5 (some (aft v z c))) i))), (5, .int (nI i))] → W pG l eG (headSpec wsX0_wordsFrom { frames := 7, cells := 0, slots := 0, locals := 171 }).room s mG [.ref hU, .int (nI (cs z)), .int (nI 6)].toArray below meth cG s.heap [] 0 0 (MQ below (vp_Si (fun r => r = (nI (wF v 6 z)))) [.ref hU, .int (nI (cs z)), .int (nI 6)].toArray s 0 0 (fun _ => False)) (F0 mG 42 ls []) := by
      intro fuel
      induction fuel with
      | zero => intro i ls hmeas i1 hl; exact absurd hmeas (Nat.not_lt_zero _)
      | succ fuel ih42 =>
        intro i ls hmeas i1 hl
        refine lv_iload (pc := 42) hx hb dX0_wordsFrom_42 (lv_at hl 5 rfl) ?_
        refine lv_iconst (pc := 44) (v := (nI (3))) hx hb dX0_wordsFrom_44 (by decide) ?_
        refine xn_icmp_ge (pc := 45) (tgt := 73) hx hb (by omega) (by omega) dX0_wordsFrom_45 (by decide) (fun c45 => ?_) (fun c45 => ?_)
        · refine lv_iload (pc := 73) hx hb dX0_wordsFrom_73 (lv_at hl 4 rfl) ?_
          exact W.iret (pc := 75) (v := (nI (sm (fun c => wF v 5 (some (aft v z c))) i))) hx hb hr (fun t ht _ => ⟨_, rfl, (by rw [show i = 3 from by omega]; rfl), ht⟩) (fun _ h => absurd h List.not_mem_nil) dX0_wordsFrom_75
        · refine lv_iload (pc := 48) hx hb dX0_wordsFrom_48 (lv_at hl 4 rfl) ?_
          refine lv_aload_n (pc := 50) hx hb dX0_wordsFrom_50 rfl (lv_at hl 0 rfl) ?_
          refine lv_aload_n (pc := 51) hx hb dX0_wordsFrom_51 rfl (lv_at hl 0 rfl) ?_
          refine lv_iload (pc := 52) hx hb dX0_wordsFrom_52 (lv_at hl 5 rfl) ?_
          refine lv_iload_n (pc := 54) hx hb dX0_wordsFrom_54 rfl (lv_at hl 3 rfl) ?_
          refine vp_callSi (pc := 55) (W.runV (As := [.int (nI i), .int (nI (2 * aF v z))]) (rest := [.ref hU, .int (nI (sm (fun c => wF v 5 (some (aft v z c))) i))]) ⟨hx, hb, hml, hown, hts⟩ (c_X0_readersOf l D cI cL cZ hU aU em fs lz fo re ac st i (2 * aF v z) (by omega)) (cwV 2 hts gX0_wordsFrom_X0_readersOf rfl rfl rfl (by decide +kernel) ⟨Nat.le_of_ble_eq_true rfl, Nat.le_of_ble_eq_true rfl⟩) (rP_V (wc := [(hU, .inr (0, oA aU ac st)), (aU 0, .inl (cZ, 18, .inl (zA em))), (aU 1, .inl (cI, 18, .inl (nA fs))), (aU 2, .inl (cI, 18, .inl (nA lz))), (aU 3, .inl (cI, 10, .inl (nA fo))), (aU 4, .inl (cI, 3, .inl (nA re)))]) (ci := 0) (q0 := 0) hK hP [0, 1, 2, 3, 4, 5] rfl rfl rfl) rfl rfl hl.1 rfl (lv_room (Nat.le_of_ble_eq_true rfl)) dX0_wordsFrom_55 ⟨Nat.zero_le _, Nat.zero_le _⟩) (fun r9 hrr => ?_)
          rw [hrr]
          refine W.eq (g2 := F0 mG 58 ls [.int (nI (cs (some (aft v z i)))), .ref hU, .int (nI (sm (fun c => wF v 5 (some (aft v z c))) i))]) (congrArg (fun zz => F0 mG 58 ls [.int (nI zz), .ref hU, .int (nI (sm (fun c => wF v 5 (some (aft v z c))) i))]) (AC_r hac (by omega) z)) ?_
          refine lv_iload_n (pc := 58) hx hb dX0_wordsFrom_58 rfl (lv_at hl 2 rfl) ?_
          refine lv_iconst (pc := 59) (v := (nI (1))) hx hb dX0_wordsFrom_59 (by decide) ?_
          refine xn_isub (pc := 60) hx hb (by omega) dX0_wordsFrom_60 ?_
          refine W.eq (g2 := F0 mG 61 ls [.int (nI 5), .int (nI (cs (some (aft v z i)))), .ref hU, .int (nI (sm (fun c => wF v 5 (some (aft v z c))) i))]) rfl ?_
          refine vp_callSi (pc := 61) (W.runS (As := [.ref hU, .int (nI (cs (some (aft v z i)))), .int (nI 5)]) (rest := [.int (nI (sm (fun c => wF v 5 (some (aft v z c))) i))]) ⟨hx, hb, hml, hown, hts⟩ (c_X0_wordsFrom_5 l D cI cL cZ hU aU em fs lz fo re ac st v (some (aft v z i)) (cs (some (aft v z i))) hv hac rfl (zok_s (aft_lt hv _ _))) (va_cwS 3 hts gX0_wordsFrom_X0_wordsFrom rfl rfl rfl (by decide +kernel) ⟨Nat.le_of_ble_eq_true rfl, Nat.le_of_ble_eq_true rfl⟩) (rP_S (wc := [(hU, .inr (0, oA aU ac st)), (aU 0, .inl (cZ, 18, .inl (zA em))), (aU 1, .inl (cI, 18, .inl (nA fs))), (aU 2, .inl (cI, 18, .inl (nA lz))), (aU 3, .inl (cI, 10, .inl (nA fo))), (aU 4, .inl (cI, 3, .inl (nA re)))]) hK hP [0, 1, 2, 3, 4, 5] rfl) rfl rfl hl.1 rfl (lv_room (Nat.le_of_ble_eq_true rfl)) dX0_wordsFrom_61 ⟨Nat.zero_le _, Nat.zero_le _⟩) (fun r9 hrr => ?_)
          rw [hrr]
          refine xn_iadd (pc := 64) hx hb  dX0_wordsFrom_64 ?_
          refine lv_istore (pc := 65) (lv' := [(4, .int (nI ((sm (fun c => wF v 5 (some (aft v z c))) i) + (wF v 5 (some (aft v z i)))))), (0, .ref hU), (1, .int (nI (cs z))), (2, .int (nI 6)), (3, .int (nI (2 * aF v z))), (5, .int (nI i))]) hx hb dX0_wordsFrom_65 hl (by decide) rfl (fun ls hl => ?_)
          have hl : lv_has ls 6 [(4, .int (nI (sm (fun c => wF v 5 (some (aft v z c))) (i + 1)))), (0, .ref hU), (1, .int (nI (cs z))), (2, .int (nI 6)), (3, .int (nI (2 * aF v z))), (5, .int (nI i))] := by have hq9 : (nI ((sm (fun c => wF v 5 (some (aft v z c))) i) + (wF v 5 (some (aft v z i))))) = (nI (sm (fun c => wF v 5 (some (aft v z c))) (i + 1))) := (rfl); first | (rw [← hq9]; exact hl) | (rw [hq9] at hl; exact hl)
          refine lv_iinc (pc := 67) (v := (nI (i + 1))) (lv' := [(5, .int (nI (i + 1))), (4, .int (nI (sm (fun c => wF v 5 (some (aft v z c))) (i + 1)))), (0, .ref hU), (1, .int (nI (cs z))), (2, .int (nI 6)), (3, .int (nI (2 * aF v z)))]) hx hb dX0_wordsFrom_67 hl (k := 5) rfl (nI_incr _) (by decide) rfl (fun ls hl => ?_)
          refine lv_goto (pc := 70) (tgt := 42) hx hb dX0_wordsFrom_70 (by decide) ?_
          exact ih42 (i + 1) ls (by omega) (by omega) (lv_sub hl [2, 3, 4, 5, 1, 0] rfl)
    have hl : lv_has ls 6 [(5, .int (nI 0)), (4, .int (nI (sm (fun c => wF v 5 (some (aft v z c))) 0))), (3, .int (nI (2 * aF v z))), (0, .ref hU), (1, .int (nI (cs z))), (2, .int (nI 6))] := by have hq9 : (nI (0)) = (nI (sm (fun c => wF v 5 (some (aft v z c))) 0)) := (rfl); first | (rw [← hq9]; exact hl) | (rw [hq9] at hl; exact hl)
    exact loop42 (_ + 1) 0 ls (Nat.lt_succ_self _) (by omega) (lv_sub hl [3, 4, 5, 2, 1, 0] rfl)
  · refine lv_iconst (pc := 4) (v := (nI (0))) hx hb dX0_wordsFrom_4 (by decide) ?_
    exact W.iret (pc := 5) (v := (nI (0))) hx hb hr (fun t ht _ => ⟨_, rfl, (by rw [cs_0 c1, wF_0]), ht⟩) (fun _ h => absurd h List.not_mem_nil) dX0_wordsFrom_5
set_option maxHeartbeats 4000000 in
set_option maxRecDepth 100000 in
theorem c_X0_acceptedWords (l : Launch) (D : va_G) (cI cL cZ : ClassId) (hU : Nat) (aU : Nat → Nat) (em : Nat → Bool) (fs : Nat → Nat) (lz : Nat → Nat) (fo : Nat → Nat) (re : Nat → Nat) (ac : Nat) (st : Nat) (v : Nat) (n : Nat) (hv : okVb v = true) (hac : AC v fo re ac st) (hn : n ≤ 6) : Met l yX0_acceptedWords wsX0_acceptedWords { frames := 8, cells := 0, slots := 0, locals := 196 } (rP D (tyL cI cL cZ) [(hU, .inr (0, oA aU ac st)), (aU 0, .inl (cZ, 18, .inl (zA em))), (aU 1, .inl (cI, 18, .inl (nA fs))), (aU 2, .inl (cI, 18, .inl (nA lz))), (aU 3, .inl (cI, 10, .inl (nA fo))), (aU 4, .inl (cI, 3, .inl (nA re)))] [.ref hU, .int (nI n)]) (vp_Si (fun r => r = (nI (wF v n none)))) 0 0 (fun _ => False) := by
  refine Met.ofW (cc := cX0_acceptedWords) (maxL := 2) (ret := (some .int)) (by decide) rfl ?_
  intro pG eG s mG args below meth cG s₁ B hml hpre9
  obtain ⟨rfl, hP, hK⟩ := hpre9
  have hx := B.exec
  have hb := B.bytes
  have hr := B.returns
  have hts := atoms_spec (ws := wsX0_acceptedWords) B.pre
  have hown : s.vm.findClass RX0 = some mG.cls := findClass_of_methodNamed B.named
  have hlocks := B.notSynchronized
  have hS : va_S (fun _ => False) s.heap s.heap [] := va_S.rf
  have hl := lv_entry ([.ref hU, .int (nI n)]) (n := 2) (Nat.le_of_ble_eq_true rfl)
  rw [lg_entry_eq]
  generalize (lg_sl ([.ref hU, .int (nI n)]) ++ List.replicate (2 - (lg_sl ([.ref hU, .int (nI n)])).length) Slot.unset).toArray = ls at hl ⊢
  have hl : lv_has ls 2 [(0, .ref hU), (1, .int (nI n))] := hl
  rcases (show n = 0 ∨ n = 1 ∨ n = 2 ∨ n = 3 ∨ n = 4 ∨ n = 5 ∨ n = 6 by omega) with rfl | rfl | rfl | rfl | rfl | rfl | rfl
  · refine lv_aload_n (pc := 0) hx hb dX0_acceptedWords_0 rfl (lv_at hl 0 rfl) ?_
    refine lv_iconst (pc := 1) (v := (nI (1))) hx hb dX0_acceptedWords_1 (by decide) ?_
    refine lv_iload_n (pc := 2) hx hb dX0_acceptedWords_2 rfl (lv_at hl 1 rfl) ?_
    refine vp_callSi (pc := 3) (W.runS (As := [.ref hU, .int (nI 1), .int (nI 0)]) (rest := []) ⟨hx, hb, hml, hown, hts⟩ (c_X0_wordsFrom_0 l D cI cL cZ hU aU em fs lz fo re ac st v none 1 hv hac rfl zok_n) (va_cwS 3 hts gX0_acceptedWords_X0_wordsFrom rfl rfl rfl (by decide +kernel) ⟨Nat.le_of_ble_eq_true rfl, Nat.le_of_ble_eq_true rfl⟩) (rP_S (wc := [(hU, .inr (0, oA aU ac st)), (aU 0, .inl (cZ, 18, .inl (zA em))), (aU 1, .inl (cI, 18, .inl (nA fs))), (aU 2, .inl (cI, 18, .inl (nA lz))), (aU 3, .inl (cI, 10, .inl (nA fo))), (aU 4, .inl (cI, 3, .inl (nA re)))]) hK hP [0, 1, 2, 3, 4, 5] rfl) rfl rfl hl.1 rfl (lv_room (Nat.le_of_ble_eq_true rfl)) dX0_acceptedWords_3 ⟨Nat.zero_le _, Nat.zero_le _⟩) (fun r9 hrr => ?_)
    rw [hrr]
    exact W.iret (pc := 6) (v := (nI (wF v 0 none))) hx hb hr (fun t ht _ => ⟨_, rfl, (by first | rfl | ((repeat' split) <;> first | rfl | omega)), ht⟩) (fun _ h => absurd h List.not_mem_nil) dX0_acceptedWords_6
  · refine lv_aload_n (pc := 0) hx hb dX0_acceptedWords_0 rfl (lv_at hl 0 rfl) ?_
    refine lv_iconst (pc := 1) (v := (nI (1))) hx hb dX0_acceptedWords_1 (by decide) ?_
    refine lv_iload_n (pc := 2) hx hb dX0_acceptedWords_2 rfl (lv_at hl 1 rfl) ?_
    refine vp_callSi (pc := 3) (W.runS (As := [.ref hU, .int (nI 1), .int (nI 1)]) (rest := []) ⟨hx, hb, hml, hown, hts⟩ (c_X0_wordsFrom_1 l D cI cL cZ hU aU em fs lz fo re ac st v none 1 hv hac rfl zok_n) (va_cwS 3 hts gX0_acceptedWords_X0_wordsFrom rfl rfl rfl (by decide +kernel) ⟨Nat.le_of_ble_eq_true rfl, Nat.le_of_ble_eq_true rfl⟩) (rP_S (wc := [(hU, .inr (0, oA aU ac st)), (aU 0, .inl (cZ, 18, .inl (zA em))), (aU 1, .inl (cI, 18, .inl (nA fs))), (aU 2, .inl (cI, 18, .inl (nA lz))), (aU 3, .inl (cI, 10, .inl (nA fo))), (aU 4, .inl (cI, 3, .inl (nA re)))]) hK hP [0, 1, 2, 3, 4, 5] rfl) rfl rfl hl.1 rfl (lv_room (Nat.le_of_ble_eq_true rfl)) dX0_acceptedWords_3 ⟨Nat.zero_le _, Nat.zero_le _⟩) (fun r9 hrr => ?_)
    rw [hrr]
    exact W.iret (pc := 6) (v := (nI (wF v 1 none))) hx hb hr (fun t ht _ => ⟨_, rfl, (by first | rfl | ((repeat' split) <;> first | rfl | omega)), ht⟩) (fun _ h => absurd h List.not_mem_nil) dX0_acceptedWords_6
  · refine lv_aload_n (pc := 0) hx hb dX0_acceptedWords_0 rfl (lv_at hl 0 rfl) ?_
    refine lv_iconst (pc := 1) (v := (nI (1))) hx hb dX0_acceptedWords_1 (by decide) ?_
    refine lv_iload_n (pc := 2) hx hb dX0_acceptedWords_2 rfl (lv_at hl 1 rfl) ?_
    refine vp_callSi (pc := 3) (W.runS (As := [.ref hU, .int (nI 1), .int (nI 2)]) (rest := []) ⟨hx, hb, hml, hown, hts⟩ (c_X0_wordsFrom_2 l D cI cL cZ hU aU em fs lz fo re ac st v none 1 hv hac rfl zok_n) (va_cwS 3 hts gX0_acceptedWords_X0_wordsFrom rfl rfl rfl (by decide +kernel) ⟨Nat.le_of_ble_eq_true rfl, Nat.le_of_ble_eq_true rfl⟩) (rP_S (wc := [(hU, .inr (0, oA aU ac st)), (aU 0, .inl (cZ, 18, .inl (zA em))), (aU 1, .inl (cI, 18, .inl (nA fs))), (aU 2, .inl (cI, 18, .inl (nA lz))), (aU 3, .inl (cI, 10, .inl (nA fo))), (aU 4, .inl (cI, 3, .inl (nA re)))]) hK hP [0, 1, 2, 3, 4, 5] rfl) rfl rfl hl.1 rfl (lv_room (Nat.le_of_ble_eq_true rfl)) dX0_acceptedWords_3 ⟨Nat.zero_le _, Nat.zero_le _⟩) (fun r9 hrr => ?_)
    rw [hrr]
    exact W.iret (pc := 6) (v := (nI (wF v 2 none))) hx hb hr (fun t ht _ => ⟨_, rfl, (by first | rfl | ((repeat' split) <;> first | rfl | omega)), ht⟩) (fun _ h => absurd h List.not_mem_nil) dX0_acceptedWords_6
  · refine lv_aload_n (pc := 0) hx hb dX0_acceptedWords_0 rfl (lv_at hl 0 rfl) ?_
    refine lv_iconst (pc := 1) (v := (nI (1))) hx hb dX0_acceptedWords_1 (by decide) ?_
    refine lv_iload_n (pc := 2) hx hb dX0_acceptedWords_2 rfl (lv_at hl 1 rfl) ?_
    refine vp_callSi (pc := 3) (W.runS (As := [.ref hU, .int (nI 1), .int (nI 3)]) (rest := []) ⟨hx, hb, hml, hown, hts⟩ (c_X0_wordsFrom_3 l D cI cL cZ hU aU em fs lz fo re ac st v none 1 hv hac rfl zok_n) (va_cwS 3 hts gX0_acceptedWords_X0_wordsFrom rfl rfl rfl (by decide +kernel) ⟨Nat.le_of_ble_eq_true rfl, Nat.le_of_ble_eq_true rfl⟩) (rP_S (wc := [(hU, .inr (0, oA aU ac st)), (aU 0, .inl (cZ, 18, .inl (zA em))), (aU 1, .inl (cI, 18, .inl (nA fs))), (aU 2, .inl (cI, 18, .inl (nA lz))), (aU 3, .inl (cI, 10, .inl (nA fo))), (aU 4, .inl (cI, 3, .inl (nA re)))]) hK hP [0, 1, 2, 3, 4, 5] rfl) rfl rfl hl.1 rfl (lv_room (Nat.le_of_ble_eq_true rfl)) dX0_acceptedWords_3 ⟨Nat.zero_le _, Nat.zero_le _⟩) (fun r9 hrr => ?_)
    rw [hrr]
    exact W.iret (pc := 6) (v := (nI (wF v 3 none))) hx hb hr (fun t ht _ => ⟨_, rfl, (by first | rfl | ((repeat' split) <;> first | rfl | omega)), ht⟩) (fun _ h => absurd h List.not_mem_nil) dX0_acceptedWords_6
  · refine lv_aload_n (pc := 0) hx hb dX0_acceptedWords_0 rfl (lv_at hl 0 rfl) ?_
    refine lv_iconst (pc := 1) (v := (nI (1))) hx hb dX0_acceptedWords_1 (by decide) ?_
    refine lv_iload_n (pc := 2) hx hb dX0_acceptedWords_2 rfl (lv_at hl 1 rfl) ?_
    refine vp_callSi (pc := 3) (W.runS (As := [.ref hU, .int (nI 1), .int (nI 4)]) (rest := []) ⟨hx, hb, hml, hown, hts⟩ (c_X0_wordsFrom_4 l D cI cL cZ hU aU em fs lz fo re ac st v none 1 hv hac rfl zok_n) (va_cwS 3 hts gX0_acceptedWords_X0_wordsFrom rfl rfl rfl (by decide +kernel) ⟨Nat.le_of_ble_eq_true rfl, Nat.le_of_ble_eq_true rfl⟩) (rP_S (wc := [(hU, .inr (0, oA aU ac st)), (aU 0, .inl (cZ, 18, .inl (zA em))), (aU 1, .inl (cI, 18, .inl (nA fs))), (aU 2, .inl (cI, 18, .inl (nA lz))), (aU 3, .inl (cI, 10, .inl (nA fo))), (aU 4, .inl (cI, 3, .inl (nA re)))]) hK hP [0, 1, 2, 3, 4, 5] rfl) rfl rfl hl.1 rfl (lv_room (Nat.le_of_ble_eq_true rfl)) dX0_acceptedWords_3 ⟨Nat.zero_le _, Nat.zero_le _⟩) (fun r9 hrr => ?_)
    rw [hrr]
    exact W.iret (pc := 6) (v := (nI (wF v 4 none))) hx hb hr (fun t ht _ => ⟨_, rfl, (by first | rfl | ((repeat' split) <;> first | rfl | omega)), ht⟩) (fun _ h => absurd h List.not_mem_nil) dX0_acceptedWords_6
  · refine lv_aload_n (pc := 0) hx hb dX0_acceptedWords_0 rfl (lv_at hl 0 rfl) ?_
    refine lv_iconst (pc := 1) (v := (nI (1))) hx hb dX0_acceptedWords_1 (by decide) ?_
    refine lv_iload_n (pc := 2) hx hb dX0_acceptedWords_2 rfl (lv_at hl 1 rfl) ?_
    refine vp_callSi (pc := 3) (W.runS (As := [.ref hU, .int (nI 1), .int (nI 5)]) (rest := []) ⟨hx, hb, hml, hown, hts⟩ (c_X0_wordsFrom_5 l D cI cL cZ hU aU em fs lz fo re ac st v none 1 hv hac rfl zok_n) (va_cwS 3 hts gX0_acceptedWords_X0_wordsFrom rfl rfl rfl (by decide +kernel) ⟨Nat.le_of_ble_eq_true rfl, Nat.le_of_ble_eq_true rfl⟩) (rP_S (wc := [(hU, .inr (0, oA aU ac st)), (aU 0, .inl (cZ, 18, .inl (zA em))), (aU 1, .inl (cI, 18, .inl (nA fs))), (aU 2, .inl (cI, 18, .inl (nA lz))), (aU 3, .inl (cI, 10, .inl (nA fo))), (aU 4, .inl (cI, 3, .inl (nA re)))]) hK hP [0, 1, 2, 3, 4, 5] rfl) rfl rfl hl.1 rfl (lv_room (Nat.le_of_ble_eq_true rfl)) dX0_acceptedWords_3 ⟨Nat.zero_le _, Nat.zero_le _⟩) (fun r9 hrr => ?_)
    rw [hrr]
    exact W.iret (pc := 6) (v := (nI (wF v 5 none))) hx hb hr (fun t ht _ => ⟨_, rfl, (by first | rfl | ((repeat' split) <;> first | rfl | omega)), ht⟩) (fun _ h => absurd h List.not_mem_nil) dX0_acceptedWords_6
  · refine lv_aload_n (pc := 0) hx hb dX0_acceptedWords_0 rfl (lv_at hl 0 rfl) ?_
    refine lv_iconst (pc := 1) (v := (nI (1))) hx hb dX0_acceptedWords_1 (by decide) ?_
    refine lv_iload_n (pc := 2) hx hb dX0_acceptedWords_2 rfl (lv_at hl 1 rfl) ?_
    refine vp_callSi (pc := 3) (W.runS (As := [.ref hU, .int (nI 1), .int (nI 6)]) (rest := []) ⟨hx, hb, hml, hown, hts⟩ (c_X0_wordsFrom_6 l D cI cL cZ hU aU em fs lz fo re ac st v none 1 hv hac rfl zok_n) (va_cwS 3 hts gX0_acceptedWords_X0_wordsFrom rfl rfl rfl (by decide +kernel) ⟨Nat.le_of_ble_eq_true rfl, Nat.le_of_ble_eq_true rfl⟩) (rP_S (wc := [(hU, .inr (0, oA aU ac st)), (aU 0, .inl (cZ, 18, .inl (zA em))), (aU 1, .inl (cI, 18, .inl (nA fs))), (aU 2, .inl (cI, 18, .inl (nA lz))), (aU 3, .inl (cI, 10, .inl (nA fo))), (aU 4, .inl (cI, 3, .inl (nA re)))]) hK hP [0, 1, 2, 3, 4, 5] rfl) rfl rfl hl.1 rfl (lv_room (Nat.le_of_ble_eq_true rfl)) dX0_acceptedWords_3 ⟨Nat.zero_le _, Nat.zero_le _⟩) (fun r9 hrr => ?_)
    rw [hrr]
    exact W.iret (pc := 6) (v := (nI (wF v 6 none))) hx hb hr (fun t ht _ => ⟨_, rfl, (by first | rfl | ((repeat' split) <;> first | rfl | omega)), ht⟩) (fun _ h => absurd h List.not_mem_nil) dX0_acceptedWords_6
set_option maxHeartbeats 4000000 in
set_option maxRecDepth 100000 in
theorem c_X0_addNode (l : Launch) (D : va_G) (cI cL cZ : ClassId) (sz : Nat) (hU : Nat) (aU : Nat → Nat) (em : Nat → Bool) (fs : Nat → Nat) (lz : Nat → Nat) (fo : Nat → Nat) (re : Nat → Nat) (ac : Nat) (st : Nat) (he : Nat) (ae : Nat → Nat) (kd : Nat → Nat) (ed : Nat → Nat) (cd : Nat → Nat) (nn : Nat) (v : Nat) (k : Nat) (hv : okVb v = true) (hk : k < dc v) (hrd : RD v kd ed cd nn) (hai : AI v (k + 1) em fs lz fo re st) : Met l yX0_addNode wsX0_addNode { frames := 2, cells := 0, slots := 0, locals := 46 } (mP D (tyL cI cL cZ) [(hU, .inr (0, oA aU ac st)), (aU 0, .inl (cZ, 18, .inl (zA em))), (aU 1, .inl (cI, 18, .inl (nA fs))), (aU 2, .inl (cI, 18, .inl (nA lz))), (aU 3, .inl (cI, 10, .inl (nA fo))), (aU 4, .inl (cI, 3, .inl (nA re))), (he, .inr (2, oE ae nn)), (ae 0, .inl (cI, 18, .inl (nA kd))), (ae 1, .inl (cI, 18, .inl (nA ed))), (ae 2, .inl (cL, 18, .inr (.inl (lA cd))))] sz [.ref hU, .ref he, .int (nI k)]) (va_Qv (fun (u : (Nat → Bool) × (Nat → Nat) × (Nat → Nat) × (Nat → Nat) × (Nat → Nat) × Nat) => AI v k u.1 u.2.1 u.2.2.1 u.2.2.2.1 u.2.2.2.2.1 u.2.2.2.2.2) (fun (u : (Nat → Bool) × (Nat → Nat) × (Nat → Nat) × (Nat → Nat) × (Nat → Nat) × Nat) (t : State) => mB D (tyL cI cL cZ) (va_A [(hU, .inr (0, oA aU ac st)), (aU 0, .inl (cZ, 18, .inl (zA em))), (aU 1, .inl (cI, 18, .inl (nA fs))), (aU 2, .inl (cI, 18, .inl (nA lz))), (aU 3, .inl (cI, 10, .inl (nA fo))), (aU 4, .inl (cI, 3, .inl (nA re))), (he, .inr (2, oE ae nn)), (ae 0, .inl (cI, 18, .inl (nA kd))), (ae 1, .inl (cI, 18, .inl (nA ed))), (ae 2, .inl (cL, 18, .inr (.inl (lA cd))))] sz) [(hU, .inr (0, oA aU ac (u.2.2.2.2.2))), (aU 0, .inl (cZ, 18, .inl (zA (u.1)))), (aU 1, .inl (cI, 18, .inl (nA (u.2.1)))), (aU 2, .inl (cI, 18, .inl (nA (u.2.2.1)))), (aU 3, .inl (cI, 10, .inl (nA (u.2.2.2.1)))), (aU 4, .inl (cI, 3, .inl (nA (u.2.2.2.2.1)))), (he, .inr (2, oE ae nn)), (ae 0, .inl (cI, 18, .inl (nA kd))), (ae 1, .inl (cI, 18, .inl (nA ed))), (ae 2, .inl (cL, 18, .inr (.inl (lA cd))))] t) (va_A [(hU, .inr (0, oA aU ac st)), (aU 0, .inl (cZ, 18, .inl (zA em))), (aU 1, .inl (cI, 18, .inl (nA fs))), (aU 2, .inl (cI, 18, .inl (nA lz))), (aU 3, .inl (cI, 10, .inl (nA fo))), (aU 4, .inl (cI, 3, .inl (nA re))), (he, .inr (2, oE ae nn)), (ae 0, .inl (cI, 18, .inl (nA kd))), (ae 1, .inl (cI, 18, .inl (nA ed))), (ae 2, .inl (cL, 18, .inr (.inl (lA cd))))] sz)) 0 0 (va_A [(hU, .inr (0, oA aU ac st)), (aU 0, .inl (cZ, 18, .inl (zA em))), (aU 1, .inl (cI, 18, .inl (nA fs))), (aU 2, .inl (cI, 18, .inl (nA lz))), (aU 3, .inl (cI, 10, .inl (nA fo))), (aU 4, .inl (cI, 3, .inl (nA re))), (he, .inr (2, oE ae nn)), (ae 0, .inl (cI, 18, .inl (nA kd))), (ae 1, .inl (cI, 18, .inl (nA ed))), (ae 2, .inl (cL, 18, .inr (.inl (lA cd))))] sz) := by
  refine Met.ofW (cc := cX0_addNode) (maxL := 6) (ret := none) (by decide) rfl ?_
  intro pG eG s mG args below meth cG s₁ B hml hpre9
  obtain ⟨rfl, hsz, hP, hK, hD0⟩ := hpre9
  have hx := B.exec
  have hb := B.bytes
  have hr := B.returns
  have hts := atoms_spec (ws := wsX0_addNode) B.pre
  have hown : s.vm.findClass RX0 = some mG.cls := findClass_of_methodNamed B.named
  have hlocks := B.notSynchronized
  subst hsz
  have hD := hD0.self (sz := s.heap.size)
  have hA : ∀ q : Nat, s.heap.size ≤ q → va_A [(hU, .inr (0, oA aU ac st)), (aU 0, .inl (cZ, 18, .inl (zA em))), (aU 1, .inl (cI, 18, .inl (nA fs))), (aU 2, .inl (cI, 18, .inl (nA lz))), (aU 3, .inl (cI, 10, .inl (nA fo))), (aU 4, .inl (cI, 3, .inl (nA re))), (he, .inr (2, oE ae nn)), (ae 0, .inl (cI, 18, .inl (nA kd))), (ae 1, .inl (cI, 18, .inl (nA ed))), (ae 2, .inl (cL, 18, .inr (.inl (lA cd))))] s.heap.size q := fun q h => Or.inr h
  have hS : va_S (va_A [(hU, .inr (0, oA aU ac st)), (aU 0, .inl (cZ, 18, .inl (zA em))), (aU 1, .inl (cI, 18, .inl (nA fs))), (aU 2, .inl (cI, 18, .inl (nA lz))), (aU 3, .inl (cI, 10, .inl (nA fo))), (aU 4, .inl (cI, 3, .inl (nA re))), (he, .inr (2, oE ae nn)), (ae 0, .inl (cI, 18, .inl (nA kd))), (ae 1, .inl (cI, 18, .inl (nA ed))), (ae 2, .inl (cL, 18, .inr (.inl (lA cd))))] s.heap.size) s.heap s.heap [] := va_S.rf
  have hl := lv_entry ([.ref hU, .ref he, .int (nI k)]) (n := 6) (Nat.le_of_ble_eq_true rfl)
  rw [lg_entry_eq]
  generalize (lg_sl ([.ref hU, .ref he, .int (nI k)]) ++ List.replicate (6 - (lg_sl ([.ref hU, .ref he, .int (nI k)])).length) Slot.unset).toArray = ls at hl ⊢
  have hl : lv_has ls 6 [(0, .ref hU), (1, .ref he), (2, .int (nI k))] := hl
  have tv := TV_v (okVb_iff.mp hv)
  have hn18 := tv.n18
  have hq := tv.q hk
  have hn := hrd.1
  have hkd := hrd.2 k (by omega)
  refine lv_aload_n (pc := 0) hx hb dX0_addNode_0 rfl (lv_at hl 1 rfl) ?_
  refine lv_iload_n (pc := 1) hx hb dX0_addNode_1 rfl (lv_at hl 2 rfl) ?_
  refine vp_callSi (pc := 2) (W.runV (As := [.int (nI k)]) (rest := []) ⟨hx, hb, hml, hown, hts⟩ (c_X3_leftOf l D cI cL cZ he ae kd ed cd nn k) (cwV 1 hts gX0_addNode_X3_leftOf rfl rfl rfl (by decide +kernel) ⟨Nat.le_of_ble_eq_true rfl, Nat.le_of_ble_eq_true rfl⟩) (rP_V (wc := [(he, .inr (2, oE ae nn)), (ae 0, .inl (cI, 18, .inl (nA kd))), (ae 1, .inl (cI, 18, .inl (nA ed))), (ae 2, .inl (cL, 18, .inr (.inl (lA cd))))]) (ci := 2) (q0 := 0) hK hP [6, 7, 8, 9] rfl rfl rfl) rfl rfl hl.1 rfl (lv_room (Nat.le_of_ble_eq_true rfl)) dX0_addNode_2 ⟨Nat.zero_le _, Nat.zero_le _⟩) (fun r9 hrr => ?_)
  rw [hrr]
  refine lv_istore_n (pc := 5) (lv' := [(3, .int (nI (k + 1))), (0, .ref hU), (1, .ref he), (2, .int (nI k))]) hx hb dX0_addNode_5 rfl hl (by decide) rfl (fun ls hl => ?_)
  refine lv_aload_n (pc := 6) hx hb dX0_addNode_6 rfl (lv_at hl 2 rfl) ?_
  refine lv_iload_n (pc := 7) hx hb dX0_addNode_7 rfl (lv_at hl 3 rfl) ?_
  refine vp_callSi (pc := 8) (W.runV (As := [.int (nI k)]) (rest := []) ⟨hx, hb, hml, hown, hts⟩ (c_X3_rightOf l D cI cL cZ he ae kd ed cd nn k (by omega) (by omega) (by omega)) (cwV 1 hts gX0_addNode_X3_rightOf rfl rfl rfl (by decide +kernel) ⟨Nat.le_of_ble_eq_true rfl, Nat.le_of_ble_eq_true rfl⟩) (rP_V (wc := [(he, .inr (2, oE ae nn)), (ae 0, .inl (cI, 18, .inl (nA kd))), (ae 1, .inl (cI, 18, .inl (nA ed))), (ae 2, .inl (cL, 18, .inr (.inl (lA cd))))]) (ci := 2) (q0 := 0) hK hP [6, 7, 8, 9] rfl rfl rfl) rfl rfl hl.1 rfl (lv_room (Nat.le_of_ble_eq_true rfl)) dX0_addNode_8 ⟨Nat.zero_le _, Nat.zero_le _⟩) (fun r9 hrr => ?_)
  rw [hrr]
  refine lv_istore (pc := 11) (lv' := [(4, .int (nI (rA ed nn k))), (3, .int (nI (k + 1))), (0, .ref hU), (1, .ref he), (2, .int (nI k))]) hx hb dX0_addNode_11 hl (by decide) rfl (fun ls hl => ?_)
  refine lv_aload_n (pc := 13) hx hb dX0_addNode_13 rfl (lv_at hl 3 rfl) ?_
  refine lv_iload_n (pc := 14) hx hb dX0_addNode_14 rfl (lv_at hl 4 rfl) ?_
  refine vp_callSi (pc := 15) (W.runV (As := [.int (nI k)]) (rest := []) ⟨hx, hb, hml, hown, hts⟩ (c_X3_kindAt l D cI cL cZ he ae kd ed cd nn k (by omega) (by omega)) (cwV 1 hts gX0_addNode_X3_kindAt rfl rfl rfl (by decide +kernel) ⟨Nat.le_of_ble_eq_true rfl, Nat.le_of_ble_eq_true rfl⟩) (rP_V (wc := [(he, .inr (2, oE ae nn)), (ae 0, .inl (cI, 18, .inl (nA kd))), (ae 1, .inl (cI, 18, .inl (nA ed))), (ae 2, .inl (cL, 18, .inr (.inl (lA cd))))]) (ci := 2) (q0 := 0) hK hP [6, 7, 8, 9] rfl rfl rfl) rfl rfl hl.1 rfl (lv_room (Nat.le_of_ble_eq_true rfl)) dX0_addNode_15 ⟨Nat.zero_le _, Nat.zero_le _⟩) (fun r9 hrr => ?_)
  rw [hrr]
  refine W.eq (g2 := F0 mG 18 ls [.int (nI (dg v k))]) (congrArg (fun zz => F0 mG 18 ls [.int (nI zz)]) (by unfold kA; rw [if_pos (by omega)]; exact hkd.1)) ?_
  refine lv_istore (pc := 18) (lv' := [(5, .int (nI (dg v k))), (4, .int (nI (rA ed nn k))), (3, .int (nI (k + 1))), (0, .ref hU), (1, .ref he), (2, .int (nI k))]) hx hb dX0_addNode_18 hl (by decide) rfl (fun ls hl => ?_)
  refine lv_iload (pc := 20) hx hb dX0_addNode_20 (lv_at hl 0 rfl) ?_
  refine lv_bipush (pc := 22) (v := (nI (8))) hx hb dX0_addNode_22 (by decide) ?_
  refine xn_icmp_ne (pc := 24) (tgt := 42) hx hb (by omega) (by omega) dX0_addNode_24 (by decide) (fun c24 => ?_) (fun c24 => ?_)
  · refine lv_iload (pc := 42) hx hb dX0_addNode_42 (lv_at hl 0 rfl) ?_
    refine lv_bipush (pc := 44) (v := (nI (6))) hx hb dX0_addNode_44 (by decide) ?_
    refine xn_icmp_ne (pc := 46) (tgt := 73) hx hb (by omega) (by omega) dX0_addNode_46 (by decide) (fun c46 => ?_) (fun c46 => ?_)
    · refine lv_iload (pc := 73) hx hb dX0_addNode_73 (lv_at hl 0 rfl) ?_
      refine lv_bipush (pc := 75) (v := (nI (7))) hx hb dX0_addNode_75 (by decide) ?_
      refine xn_icmp_ne (pc := 77) (tgt := 104) hx hb (by omega) (by omega) dX0_addNode_77 (by decide) (fun c77 => ?_) (fun c77 => ?_)
      · refine lv_aload_n (pc := 104) hx hb dX0_addNode_104 rfl (lv_at hl 3 rfl) ?_
        refine lv_iload_n (pc := 105) hx hb dX0_addNode_105 rfl (lv_at hl 5 rfl) ?_
        refine lv_iload (pc := 106) hx hb dX0_addNode_106 (lv_at hl 0 rfl) ?_
        refine xm_callv (pc := 108) (wc := [(hU, .inr (0, oA aU ac st)), (aU 0, .inl (cZ, 18, .inl (zA em))), (aU 1, .inl (cI, 18, .inl (nA fs))), (aU 2, .inl (cI, 18, .inl (nA lz))), (aU 3, .inl (cI, 10, .inl (nA fo))), (aU 4, .inl (cI, 3, .inl (nA re)))]) (wr := [(he, .inr (2, oE ae nn)), (ae 0, .inl (cI, 18, .inl (nA kd))), (ae 1, .inl (cI, 18, .inl (nA ed))), (ae 2, .inl (cL, 18, .inr (.inl (lA cd))))]) (va_runV (As := [.int (nI k), .int (nI (dg v k))]) (rest := []) ⟨hx, hb, hml, hown, hts⟩ (c_X0_addLeaf l D cI cL cZ s.heap.size hU aU em fs lz fo re ac st v k (dg v k) hv hk rfl (by omega) hai) (cwV 2 hts gX0_addNode_X0_addLeaf rfl rfl rfl (by decide +kernel) ⟨Nat.le_of_ble_eq_true rfl, Nat.le_of_ble_eq_true rfl⟩) (mP_V (wc := [(hU, .inr (0, oA aU ac st)), (aU 0, .inl (cZ, 18, .inl (zA em))), (aU 1, .inl (cI, 18, .inl (nA fs))), (aU 2, .inl (cI, 18, .inl (nA lz))), (aU 3, .inl (cI, 10, .inl (nA fo))), (aU 4, .inl (cI, 3, .inl (nA re)))]) (ci := 0) (q0 := 0) hK hP hD [0, 1, 2, 3, 4, 5] (by decide) rfl rfl rfl) rfl rfl hl.1 rfl (lv_room (Nat.le_of_ble_eq_true rfl)) dX0_addNode_108 ⟨Nat.zero_le _, Nat.zero_le _⟩) hP hD hS hA [0, 1, 2, 3, 4, 5] [6, 7, 8, 9] rfl rfl (by decide) (by decide) (fun u H locs hw hP hD hS => ?_)
        obtain ⟨em2_108, fs2_108, lz2_108, fo2_108, re2_108, st2_108⟩ := u
        have hP : va_P D vwCl [(he, .inr (2, oE ae nn)), (ae 0, .inl (cI, 18, .inl (nA kd))), (ae 1, .inl (cI, 18, .inl (nA ed))), (ae 2, .inl (cL, 18, .inr (.inl (lA cd)))), (hU, .inr (0, oA aU ac st2_108)), (aU 0, .inl (cZ, 18, .inl (zA em2_108))), (aU 1, .inl (cI, 18, .inl (nA fs2_108))), (aU 2, .inl (cI, 18, .inl (nA lz2_108))), (aU 3, .inl (cI, 10, .inl (nA fo2_108))), (aU 4, .inl (cI, 3, .inl (nA re2_108)))] H := hP
        have hD : va_D _ [(he, .inr (2, oE ae nn)), (ae 0, .inl (cI, 18, .inl (nA kd))), (ae 1, .inl (cI, 18, .inl (nA ed))), (ae 2, .inl (cL, 18, .inr (.inl (lA cd)))), (hU, .inr (0, oA aU ac st2_108)), (aU 0, .inl (cZ, 18, .inl (zA em2_108))), (aU 1, .inl (cI, 18, .inl (nA fs2_108))), (aU 2, .inl (cI, 18, .inl (nA lz2_108))), (aU 3, .inl (cI, 10, .inl (nA fo2_108))), (aU 4, .inl (cI, 3, .inl (nA re2_108)))] := hD
        try dsimp only at hw
        have hw9 := hw
        have hP9 : va_P D vwCl [(hU, .inr (0, oA aU ac st2_108)), (aU 0, .inl (cZ, 18, .inl (zA em2_108))), (aU 1, .inl (cI, 18, .inl (nA fs2_108))), (aU 2, .inl (cI, 18, .inl (nA lz2_108))), (aU 3, .inl (cI, 10, .inl (nA fo2_108))), (aU 4, .inl (cI, 3, .inl (nA re2_108))), (he, .inr (2, oE ae nn)), (ae 0, .inl (cI, 18, .inl (nA kd))), (ae 1, .inl (cI, 18, .inl (nA ed))), (ae 2, .inl (cL, 18, .inr (.inl (lA cd))))] H := hP.sub [4, 5, 6, 7, 8, 9, 0, 1, 2, 3] rfl
        have hD9 : va_D _ [(hU, .inr (0, oA aU ac st2_108)), (aU 0, .inl (cZ, 18, .inl (zA em2_108))), (aU 1, .inl (cI, 18, .inl (nA fs2_108))), (aU 2, .inl (cI, 18, .inl (nA lz2_108))), (aU 3, .inl (cI, 10, .inl (nA fo2_108))), (aU 4, .inl (cI, 3, .inl (nA re2_108))), (he, .inr (2, oE ae nn)), (ae 0, .inl (cI, 18, .inl (nA kd))), (ae 1, .inl (cI, 18, .inl (nA ed))), (ae 2, .inl (cL, 18, .inr (.inl (lA cd))))] := hD.sub [4, 5, 6, 7, 8, 9, 0, 1, 2, 3] (by decide) rfl
        exact W.vret (pc := 111) hx hb hr (fun t ht hW => ⟨⟨(em2_108, fs2_108, lz2_108, fo2_108, re2_108, st2_108), rfl, hw9, by rw [ht]; exact hP9, va_K.moved hW.alike hK, hD9⟩, hS.F ht⟩) hS.2.2 dX0_addNode_111
      · have h1 := (tv.2.2.2 k hk).2.2.2.2.2.2 (Or.inr c77)
        have hrt : rA ed nn k = en v (k + 1) := by unfold rA; rw [if_pos (by omega)]; exact (hrd.2 (k + 1) (by omega)).2.1
        refine lv_iload_n (pc := 80) hx hb dX0_addNode_80 rfl (lv_at hl 2 rfl) ?_
        refine lv_bipush (pc := 81) (v := (nI (18))) hx hb dX0_addNode_81 (by decide) ?_
        refine xn_icmp_ge (pc := 83) (tgt := 104) hx hb (by omega) (by omega) dX0_addNode_83 (by decide) (fun c83 => ?_) (fun c83 => ?_)
        · exact absurd c83 (by omega)
        · refine lv_iload (pc := 86) hx hb dX0_addNode_86 (lv_at hl 1 rfl) ?_
          refine lv_bipush (pc := 88) (v := (nI (18))) hx hb dX0_addNode_88 (by decide) ?_
          refine xn_icmp_ge (pc := 90) (tgt := 104) hx hb (by omega) (by omega) dX0_addNode_90 (by decide) (fun c90 => ?_) (fun c90 => ?_)
          · exact absurd c90 (by omega)
          · refine lv_aload_n (pc := 93) hx hb dX0_addNode_93 rfl (lv_at hl 3 rfl) ?_
            refine lv_iload_n (pc := 94) hx hb dX0_addNode_94 rfl (lv_at hl 5 rfl) ?_
            refine lv_iload_n (pc := 95) hx hb dX0_addNode_95 rfl (lv_at hl 2 rfl) ?_
            refine lv_iload (pc := 96) hx hb dX0_addNode_96 (lv_at hl 1 rfl) ?_
            refine xm_callv (pc := 98) (wc := [(hU, .inr (0, oA aU ac st)), (aU 0, .inl (cZ, 18, .inl (zA em))), (aU 1, .inl (cI, 18, .inl (nA fs))), (aU 2, .inl (cI, 18, .inl (nA lz))), (aU 3, .inl (cI, 10, .inl (nA fo))), (aU 4, .inl (cI, 3, .inl (nA re)))]) (wr := [(he, .inr (2, oE ae nn)), (ae 0, .inl (cI, 18, .inl (nA kd))), (ae 1, .inl (cI, 18, .inl (nA ed))), (ae 2, .inl (cL, 18, .inr (.inl (lA cd))))]) (va_runV (As := [.int (nI k), .int (nI (k + 1)), .int (nI (rA ed nn k))]) (rest := []) ⟨hx, hb, hml, hown, hts⟩ (c_X0_addConcatenation l D cI cL cZ s.heap.size hU aU em fs lz fo re ac st v k (k + 1) (rA ed nn k) hv hk rfl hrt c77 hai) (cwV 3 hts gX0_addNode_X0_addConcatenation rfl rfl rfl (by decide +kernel) ⟨Nat.le_of_ble_eq_true rfl, Nat.le_of_ble_eq_true rfl⟩) (mP_V (wc := [(hU, .inr (0, oA aU ac st)), (aU 0, .inl (cZ, 18, .inl (zA em))), (aU 1, .inl (cI, 18, .inl (nA fs))), (aU 2, .inl (cI, 18, .inl (nA lz))), (aU 3, .inl (cI, 10, .inl (nA fo))), (aU 4, .inl (cI, 3, .inl (nA re)))]) (ci := 0) (q0 := 0) hK hP hD [0, 1, 2, 3, 4, 5] (by decide) rfl rfl rfl) rfl rfl hl.1 rfl (lv_room (Nat.le_of_ble_eq_true rfl)) dX0_addNode_98 ⟨Nat.zero_le _, Nat.zero_le _⟩) hP hD hS hA [0, 1, 2, 3, 4, 5] [6, 7, 8, 9] rfl rfl (by decide) (by decide) (fun u H locs hw hP hD hS => ?_)
            obtain ⟨em2_98, fs2_98, lz2_98, fo2_98, re2_98, st2_98⟩ := u
            have hP : va_P D vwCl [(he, .inr (2, oE ae nn)), (ae 0, .inl (cI, 18, .inl (nA kd))), (ae 1, .inl (cI, 18, .inl (nA ed))), (ae 2, .inl (cL, 18, .inr (.inl (lA cd)))), (hU, .inr (0, oA aU ac st2_98)), (aU 0, .inl (cZ, 18, .inl (zA em2_98))), (aU 1, .inl (cI, 18, .inl (nA fs2_98))), (aU 2, .inl (cI, 18, .inl (nA lz2_98))), (aU 3, .inl (cI, 10, .inl (nA fo2_98))), (aU 4, .inl (cI, 3, .inl (nA re2_98)))] H := hP
            have hD : va_D _ [(he, .inr (2, oE ae nn)), (ae 0, .inl (cI, 18, .inl (nA kd))), (ae 1, .inl (cI, 18, .inl (nA ed))), (ae 2, .inl (cL, 18, .inr (.inl (lA cd)))), (hU, .inr (0, oA aU ac st2_98)), (aU 0, .inl (cZ, 18, .inl (zA em2_98))), (aU 1, .inl (cI, 18, .inl (nA fs2_98))), (aU 2, .inl (cI, 18, .inl (nA lz2_98))), (aU 3, .inl (cI, 10, .inl (nA fo2_98))), (aU 4, .inl (cI, 3, .inl (nA re2_98)))] := hD
            try dsimp only at hw
            have hw9 := hw
            refine lv_goto (pc := 101) (tgt := 111) hx hb dX0_addNode_101 (by decide) ?_
            have hP9 : va_P D vwCl [(hU, .inr (0, oA aU ac st2_98)), (aU 0, .inl (cZ, 18, .inl (zA em2_98))), (aU 1, .inl (cI, 18, .inl (nA fs2_98))), (aU 2, .inl (cI, 18, .inl (nA lz2_98))), (aU 3, .inl (cI, 10, .inl (nA fo2_98))), (aU 4, .inl (cI, 3, .inl (nA re2_98))), (he, .inr (2, oE ae nn)), (ae 0, .inl (cI, 18, .inl (nA kd))), (ae 1, .inl (cI, 18, .inl (nA ed))), (ae 2, .inl (cL, 18, .inr (.inl (lA cd))))] H := hP.sub [4, 5, 6, 7, 8, 9, 0, 1, 2, 3] rfl
            have hD9 : va_D _ [(hU, .inr (0, oA aU ac st2_98)), (aU 0, .inl (cZ, 18, .inl (zA em2_98))), (aU 1, .inl (cI, 18, .inl (nA fs2_98))), (aU 2, .inl (cI, 18, .inl (nA lz2_98))), (aU 3, .inl (cI, 10, .inl (nA fo2_98))), (aU 4, .inl (cI, 3, .inl (nA re2_98))), (he, .inr (2, oE ae nn)), (ae 0, .inl (cI, 18, .inl (nA kd))), (ae 1, .inl (cI, 18, .inl (nA ed))), (ae 2, .inl (cL, 18, .inr (.inl (lA cd))))] := hD.sub [4, 5, 6, 7, 8, 9, 0, 1, 2, 3] (by decide) rfl
            exact W.vret (pc := 111) hx hb hr (fun t ht hW => ⟨⟨(em2_98, fs2_98, lz2_98, fo2_98, re2_98, st2_98), rfl, hw9, by rw [ht]; exact hP9, va_K.moved hW.alike hK, hD9⟩, hS.F ht⟩) hS.2.2 dX0_addNode_111
    · have h1 := (tv.2.2.2 k hk).2.2.2.2.2.2 (Or.inl c46)
      have hrt : rA ed nn k = en v (k + 1) := by unfold rA; rw [if_pos (by omega)]; exact (hrd.2 (k + 1) (by omega)).2.1
      refine lv_iload_n (pc := 49) hx hb dX0_addNode_49 rfl (lv_at hl 2 rfl) ?_
      refine lv_bipush (pc := 50) (v := (nI (18))) hx hb dX0_addNode_50 (by decide) ?_
      refine xn_icmp_ge (pc := 52) (tgt := 73) hx hb (by omega) (by omega) dX0_addNode_52 (by decide) (fun c52 => ?_) (fun c52 => ?_)
      · exact absurd c52 (by omega)
      · refine lv_iload (pc := 55) hx hb dX0_addNode_55 (lv_at hl 1 rfl) ?_
        refine lv_bipush (pc := 57) (v := (nI (18))) hx hb dX0_addNode_57 (by decide) ?_
        refine xn_icmp_ge (pc := 59) (tgt := 73) hx hb (by omega) (by omega) dX0_addNode_59 (by decide) (fun c59 => ?_) (fun c59 => ?_)
        · exact absurd c59 (by omega)
        · refine lv_aload_n (pc := 62) hx hb dX0_addNode_62 rfl (lv_at hl 3 rfl) ?_
          refine lv_iload_n (pc := 63) hx hb dX0_addNode_63 rfl (lv_at hl 5 rfl) ?_
          refine lv_iload_n (pc := 64) hx hb dX0_addNode_64 rfl (lv_at hl 2 rfl) ?_
          refine lv_iload (pc := 65) hx hb dX0_addNode_65 (lv_at hl 1 rfl) ?_
          refine xm_callv (pc := 67) (wc := [(hU, .inr (0, oA aU ac st)), (aU 0, .inl (cZ, 18, .inl (zA em))), (aU 1, .inl (cI, 18, .inl (nA fs))), (aU 2, .inl (cI, 18, .inl (nA lz))), (aU 3, .inl (cI, 10, .inl (nA fo))), (aU 4, .inl (cI, 3, .inl (nA re)))]) (wr := [(he, .inr (2, oE ae nn)), (ae 0, .inl (cI, 18, .inl (nA kd))), (ae 1, .inl (cI, 18, .inl (nA ed))), (ae 2, .inl (cL, 18, .inr (.inl (lA cd))))]) (va_runV (As := [.int (nI k), .int (nI (k + 1)), .int (nI (rA ed nn k))]) (rest := []) ⟨hx, hb, hml, hown, hts⟩ (c_X0_addUnion l D cI cL cZ s.heap.size hU aU em fs lz fo re ac st v k (k + 1) (rA ed nn k) hv hk rfl hrt c46 hai) (cwV 3 hts gX0_addNode_X0_addUnion rfl rfl rfl (by decide +kernel) ⟨Nat.le_of_ble_eq_true rfl, Nat.le_of_ble_eq_true rfl⟩) (mP_V (wc := [(hU, .inr (0, oA aU ac st)), (aU 0, .inl (cZ, 18, .inl (zA em))), (aU 1, .inl (cI, 18, .inl (nA fs))), (aU 2, .inl (cI, 18, .inl (nA lz))), (aU 3, .inl (cI, 10, .inl (nA fo))), (aU 4, .inl (cI, 3, .inl (nA re)))]) (ci := 0) (q0 := 0) hK hP hD [0, 1, 2, 3, 4, 5] (by decide) rfl rfl rfl) rfl rfl hl.1 rfl (lv_room (Nat.le_of_ble_eq_true rfl)) dX0_addNode_67 ⟨Nat.zero_le _, Nat.zero_le _⟩) hP hD hS hA [0, 1, 2, 3, 4, 5] [6, 7, 8, 9] rfl rfl (by decide) (by decide) (fun u H locs hw hP hD hS => ?_)
          obtain ⟨em2_67, fs2_67, lz2_67, fo2_67, re2_67, st2_67⟩ := u
          have hP : va_P D vwCl [(he, .inr (2, oE ae nn)), (ae 0, .inl (cI, 18, .inl (nA kd))), (ae 1, .inl (cI, 18, .inl (nA ed))), (ae 2, .inl (cL, 18, .inr (.inl (lA cd)))), (hU, .inr (0, oA aU ac st2_67)), (aU 0, .inl (cZ, 18, .inl (zA em2_67))), (aU 1, .inl (cI, 18, .inl (nA fs2_67))), (aU 2, .inl (cI, 18, .inl (nA lz2_67))), (aU 3, .inl (cI, 10, .inl (nA fo2_67))), (aU 4, .inl (cI, 3, .inl (nA re2_67)))] H := hP
          have hD : va_D _ [(he, .inr (2, oE ae nn)), (ae 0, .inl (cI, 18, .inl (nA kd))), (ae 1, .inl (cI, 18, .inl (nA ed))), (ae 2, .inl (cL, 18, .inr (.inl (lA cd)))), (hU, .inr (0, oA aU ac st2_67)), (aU 0, .inl (cZ, 18, .inl (zA em2_67))), (aU 1, .inl (cI, 18, .inl (nA fs2_67))), (aU 2, .inl (cI, 18, .inl (nA lz2_67))), (aU 3, .inl (cI, 10, .inl (nA fo2_67))), (aU 4, .inl (cI, 3, .inl (nA re2_67)))] := hD
          try dsimp only at hw
          have hw9 := hw
          refine lv_goto (pc := 70) (tgt := 111) hx hb dX0_addNode_70 (by decide) ?_
          have hP9 : va_P D vwCl [(hU, .inr (0, oA aU ac st2_67)), (aU 0, .inl (cZ, 18, .inl (zA em2_67))), (aU 1, .inl (cI, 18, .inl (nA fs2_67))), (aU 2, .inl (cI, 18, .inl (nA lz2_67))), (aU 3, .inl (cI, 10, .inl (nA fo2_67))), (aU 4, .inl (cI, 3, .inl (nA re2_67))), (he, .inr (2, oE ae nn)), (ae 0, .inl (cI, 18, .inl (nA kd))), (ae 1, .inl (cI, 18, .inl (nA ed))), (ae 2, .inl (cL, 18, .inr (.inl (lA cd))))] H := hP.sub [4, 5, 6, 7, 8, 9, 0, 1, 2, 3] rfl
          have hD9 : va_D _ [(hU, .inr (0, oA aU ac st2_67)), (aU 0, .inl (cZ, 18, .inl (zA em2_67))), (aU 1, .inl (cI, 18, .inl (nA fs2_67))), (aU 2, .inl (cI, 18, .inl (nA lz2_67))), (aU 3, .inl (cI, 10, .inl (nA fo2_67))), (aU 4, .inl (cI, 3, .inl (nA re2_67))), (he, .inr (2, oE ae nn)), (ae 0, .inl (cI, 18, .inl (nA kd))), (ae 1, .inl (cI, 18, .inl (nA ed))), (ae 2, .inl (cL, 18, .inr (.inl (lA cd))))] := hD.sub [4, 5, 6, 7, 8, 9, 0, 1, 2, 3] (by decide) rfl
          exact W.vret (pc := 111) hx hb hr (fun t ht hW => ⟨⟨(em2_67, fs2_67, lz2_67, fo2_67, re2_67, st2_67), rfl, hw9, by rw [ht]; exact hP9, va_K.moved hW.alike hK, hD9⟩, hS.F ht⟩) hS.2.2 dX0_addNode_111
  · have h1 := (tv.2.2.2 k hk).2.2.2.2.2.1 c24
    refine lv_iload_n (pc := 27) hx hb dX0_addNode_27 rfl (lv_at hl 2 rfl) ?_
    refine lv_bipush (pc := 28) (v := (nI (18))) hx hb dX0_addNode_28 (by decide) ?_
    refine xn_icmp_ge (pc := 30) (tgt := 42) hx hb (by omega) (by omega) dX0_addNode_30 (by decide) (fun c30 => ?_) (fun c30 => ?_)
    · exact absurd c30 (by omega)
    · refine lv_aload_n (pc := 33) hx hb dX0_addNode_33 rfl (lv_at hl 3 rfl) ?_
      refine lv_iload_n (pc := 34) hx hb dX0_addNode_34 rfl (lv_at hl 5 rfl) ?_
      refine lv_iload_n (pc := 35) hx hb dX0_addNode_35 rfl (lv_at hl 2 rfl) ?_
      refine xm_callv (pc := 36) (wc := [(hU, .inr (0, oA aU ac st)), (aU 0, .inl (cZ, 18, .inl (zA em))), (aU 1, .inl (cI, 18, .inl (nA fs))), (aU 2, .inl (cI, 18, .inl (nA lz))), (aU 3, .inl (cI, 10, .inl (nA fo))), (aU 4, .inl (cI, 3, .inl (nA re)))]) (wr := [(he, .inr (2, oE ae nn)), (ae 0, .inl (cI, 18, .inl (nA kd))), (ae 1, .inl (cI, 18, .inl (nA ed))), (ae 2, .inl (cL, 18, .inr (.inl (lA cd))))]) (va_runV (As := [.int (nI k), .int (nI (k + 1))]) (rest := []) ⟨hx, hb, hml, hown, hts⟩ (c_X0_addStar l D cI cL cZ s.heap.size hU aU em fs lz fo re ac st v k (k + 1) hv hk rfl c24 hai) (cwV 2 hts gX0_addNode_X0_addStar rfl rfl rfl (by decide +kernel) ⟨Nat.le_of_ble_eq_true rfl, Nat.le_of_ble_eq_true rfl⟩) (mP_V (wc := [(hU, .inr (0, oA aU ac st)), (aU 0, .inl (cZ, 18, .inl (zA em))), (aU 1, .inl (cI, 18, .inl (nA fs))), (aU 2, .inl (cI, 18, .inl (nA lz))), (aU 3, .inl (cI, 10, .inl (nA fo))), (aU 4, .inl (cI, 3, .inl (nA re)))]) (ci := 0) (q0 := 0) hK hP hD [0, 1, 2, 3, 4, 5] (by decide) rfl rfl rfl) rfl rfl hl.1 rfl (lv_room (Nat.le_of_ble_eq_true rfl)) dX0_addNode_36 ⟨Nat.zero_le _, Nat.zero_le _⟩) hP hD hS hA [0, 1, 2, 3, 4, 5] [6, 7, 8, 9] rfl rfl (by decide) (by decide) (fun u H locs hw hP hD hS => ?_)
      obtain ⟨em2_36, fs2_36, lz2_36, fo2_36, re2_36, st2_36⟩ := u
      have hP : va_P D vwCl [(he, .inr (2, oE ae nn)), (ae 0, .inl (cI, 18, .inl (nA kd))), (ae 1, .inl (cI, 18, .inl (nA ed))), (ae 2, .inl (cL, 18, .inr (.inl (lA cd)))), (hU, .inr (0, oA aU ac st2_36)), (aU 0, .inl (cZ, 18, .inl (zA em2_36))), (aU 1, .inl (cI, 18, .inl (nA fs2_36))), (aU 2, .inl (cI, 18, .inl (nA lz2_36))), (aU 3, .inl (cI, 10, .inl (nA fo2_36))), (aU 4, .inl (cI, 3, .inl (nA re2_36)))] H := hP
      have hD : va_D _ [(he, .inr (2, oE ae nn)), (ae 0, .inl (cI, 18, .inl (nA kd))), (ae 1, .inl (cI, 18, .inl (nA ed))), (ae 2, .inl (cL, 18, .inr (.inl (lA cd)))), (hU, .inr (0, oA aU ac st2_36)), (aU 0, .inl (cZ, 18, .inl (zA em2_36))), (aU 1, .inl (cI, 18, .inl (nA fs2_36))), (aU 2, .inl (cI, 18, .inl (nA lz2_36))), (aU 3, .inl (cI, 10, .inl (nA fo2_36))), (aU 4, .inl (cI, 3, .inl (nA re2_36)))] := hD
      try dsimp only at hw
      have hw9 := hw
      refine lv_goto (pc := 39) (tgt := 111) hx hb dX0_addNode_39 (by decide) ?_
      have hP9 : va_P D vwCl [(hU, .inr (0, oA aU ac st2_36)), (aU 0, .inl (cZ, 18, .inl (zA em2_36))), (aU 1, .inl (cI, 18, .inl (nA fs2_36))), (aU 2, .inl (cI, 18, .inl (nA lz2_36))), (aU 3, .inl (cI, 10, .inl (nA fo2_36))), (aU 4, .inl (cI, 3, .inl (nA re2_36))), (he, .inr (2, oE ae nn)), (ae 0, .inl (cI, 18, .inl (nA kd))), (ae 1, .inl (cI, 18, .inl (nA ed))), (ae 2, .inl (cL, 18, .inr (.inl (lA cd))))] H := hP.sub [4, 5, 6, 7, 8, 9, 0, 1, 2, 3] rfl
      have hD9 : va_D _ [(hU, .inr (0, oA aU ac st2_36)), (aU 0, .inl (cZ, 18, .inl (zA em2_36))), (aU 1, .inl (cI, 18, .inl (nA fs2_36))), (aU 2, .inl (cI, 18, .inl (nA lz2_36))), (aU 3, .inl (cI, 10, .inl (nA fo2_36))), (aU 4, .inl (cI, 3, .inl (nA re2_36))), (he, .inr (2, oE ae nn)), (ae 0, .inl (cI, 18, .inl (nA kd))), (ae 1, .inl (cI, 18, .inl (nA ed))), (ae 2, .inl (cL, 18, .inr (.inl (lA cd))))] := hD.sub [4, 5, 6, 7, 8, 9, 0, 1, 2, 3] (by decide) rfl
      exact W.vret (pc := 111) hx hb hr (fun t ht hW => ⟨⟨(em2_36, fs2_36, lz2_36, fo2_36, re2_36, st2_36), rfl, hw9, by rw [ht]; exact hP9, va_K.moved hW.alike hK, hD9⟩, hS.F ht⟩) hS.2.2 dX0_addNode_111
set_option maxHeartbeats 4000000 in
set_option maxRecDepth 100000 in
theorem c_X0_build (l : Launch) (D : va_G) (cI cL cZ : ClassId) (sz : Nat) (hU : Nat) (aU : Nat → Nat) (em : Nat → Bool) (fs : Nat → Nat) (lz : Nat → Nat) (fo : Nat → Nat) (re : Nat → Nat) (ac : Nat) (st : Nat) (he : Nat) (ae : Nat → Nat) (kd : Nat → Nat) (ed : Nat → Nat) (cd : Nat → Nat) (nn : Nat) (v : Nat) (hv : okVb v = true) (hrd : RD v kd ed cd nn) : Met l yX0_build wsX0_build { frames := 3, cells := 0, slots := 0, locals := 71 } (mP D (tyL cI cL cZ) [(hU, .inr (0, oA aU ac st)), (aU 0, .inl (cZ, 18, .inl (zA em))), (aU 1, .inl (cI, 18, .inl (nA fs))), (aU 2, .inl (cI, 18, .inl (nA lz))), (aU 3, .inl (cI, 10, .inl (nA fo))), (aU 4, .inl (cI, 3, .inl (nA re))), (he, .inr (2, oE ae nn)), (ae 0, .inl (cI, 18, .inl (nA kd))), (ae 1, .inl (cI, 18, .inl (nA ed))), (ae 2, .inl (cL, 18, .inr (.inl (lA cd))))] sz [.ref hU, .ref he]) (va_Qv (fun (u : (Nat → Bool) × (Nat → Nat) × (Nat → Nat) × (Nat → Nat) × (Nat → Nat) × Nat × Nat) => AC v u.2.2.2.1 u.2.2.2.2.1 u.2.2.2.2.2.2 u.2.2.2.2.2.1) (fun (u : (Nat → Bool) × (Nat → Nat) × (Nat → Nat) × (Nat → Nat) × (Nat → Nat) × Nat × Nat) (t : State) => mB D (tyL cI cL cZ) (va_A [(hU, .inr (0, oA aU ac st)), (aU 0, .inl (cZ, 18, .inl (zA em))), (aU 1, .inl (cI, 18, .inl (nA fs))), (aU 2, .inl (cI, 18, .inl (nA lz))), (aU 3, .inl (cI, 10, .inl (nA fo))), (aU 4, .inl (cI, 3, .inl (nA re))), (he, .inr (2, oE ae nn)), (ae 0, .inl (cI, 18, .inl (nA kd))), (ae 1, .inl (cI, 18, .inl (nA ed))), (ae 2, .inl (cL, 18, .inr (.inl (lA cd))))] sz) [(hU, .inr (0, oA aU (u.2.2.2.2.2.2) (u.2.2.2.2.2.1))), (aU 0, .inl (cZ, 18, .inl (zA (u.1)))), (aU 1, .inl (cI, 18, .inl (nA (u.2.1)))), (aU 2, .inl (cI, 18, .inl (nA (u.2.2.1)))), (aU 3, .inl (cI, 10, .inl (nA (u.2.2.2.1)))), (aU 4, .inl (cI, 3, .inl (nA (u.2.2.2.2.1)))), (he, .inr (2, oE ae nn)), (ae 0, .inl (cI, 18, .inl (nA kd))), (ae 1, .inl (cI, 18, .inl (nA ed))), (ae 2, .inl (cL, 18, .inr (.inl (lA cd))))] t) (va_A [(hU, .inr (0, oA aU ac st)), (aU 0, .inl (cZ, 18, .inl (zA em))), (aU 1, .inl (cI, 18, .inl (nA fs))), (aU 2, .inl (cI, 18, .inl (nA lz))), (aU 3, .inl (cI, 10, .inl (nA fo))), (aU 4, .inl (cI, 3, .inl (nA re))), (he, .inr (2, oE ae nn)), (ae 0, .inl (cI, 18, .inl (nA kd))), (ae 1, .inl (cI, 18, .inl (nA ed))), (ae 2, .inl (cL, 18, .inr (.inl (lA cd))))] sz)) 0 0 (va_A [(hU, .inr (0, oA aU ac st)), (aU 0, .inl (cZ, 18, .inl (zA em))), (aU 1, .inl (cI, 18, .inl (nA fs))), (aU 2, .inl (cI, 18, .inl (nA lz))), (aU 3, .inl (cI, 10, .inl (nA fo))), (aU 4, .inl (cI, 3, .inl (nA re))), (he, .inr (2, oE ae nn)), (ae 0, .inl (cI, 18, .inl (nA kd))), (ae 1, .inl (cI, 18, .inl (nA ed))), (ae 2, .inl (cL, 18, .inr (.inl (lA cd))))] sz) := by
  refine Met.ofW (cc := cX0_build) (maxL := 3) (ret := none) (by decide) rfl ?_
  intro pG eG s mG args below meth cG s₁ B hml hpre9
  obtain ⟨rfl, hsz, hP, hK, hD0⟩ := hpre9
  have hx := B.exec
  have hb := B.bytes
  have hr := B.returns
  have hts := atoms_spec (ws := wsX0_build) B.pre
  have hown : s.vm.findClass RX0 = some mG.cls := findClass_of_methodNamed B.named
  have hlocks := B.notSynchronized
  subst hsz
  have hD := hD0.self (sz := s.heap.size)
  have hA : ∀ q : Nat, s.heap.size ≤ q → va_A [(hU, .inr (0, oA aU ac st)), (aU 0, .inl (cZ, 18, .inl (zA em))), (aU 1, .inl (cI, 18, .inl (nA fs))), (aU 2, .inl (cI, 18, .inl (nA lz))), (aU 3, .inl (cI, 10, .inl (nA fo))), (aU 4, .inl (cI, 3, .inl (nA re))), (he, .inr (2, oE ae nn)), (ae 0, .inl (cI, 18, .inl (nA kd))), (ae 1, .inl (cI, 18, .inl (nA ed))), (ae 2, .inl (cL, 18, .inr (.inl (lA cd))))] s.heap.size q := fun q h => Or.inr h
  have hS : va_S (va_A [(hU, .inr (0, oA aU ac st)), (aU 0, .inl (cZ, 18, .inl (zA em))), (aU 1, .inl (cI, 18, .inl (nA fs))), (aU 2, .inl (cI, 18, .inl (nA lz))), (aU 3, .inl (cI, 10, .inl (nA fo))), (aU 4, .inl (cI, 3, .inl (nA re))), (he, .inr (2, oE ae nn)), (ae 0, .inl (cI, 18, .inl (nA kd))), (ae 1, .inl (cI, 18, .inl (nA ed))), (ae 2, .inl (cL, 18, .inr (.inl (lA cd))))] s.heap.size) s.heap s.heap [] := va_S.rf
  have hinX0 : ∀ w ∈ wsX00, w ∈ wsX0_build := fun w HH => (List.mem_cons_of_mem _ (List.mem_append_left _ (List.mem_append_right _ HH)))
  have lk0 : (Cond.fieldLink RX0 22 "RegexSimplifier$Automaton" "followers" "[I").before _ s = true := hts _ (List.mem_cons_of_mem _ (List.mem_append_left _ (List.mem_append_left _ (List.mem_append_left _ (List.mem_of_getElem? (i := 0) rfl)))))
  have lk1 : (Cond.fieldLink RX0 25 "RegexSimplifier$Automaton" "readers" "[I").before _ s = true := hts _ (List.mem_cons_of_mem _ (List.mem_append_left _ (List.mem_append_left _ (List.mem_append_left _ (List.mem_of_getElem? (i := 1) rfl)))))
  have lk2 : (Cond.fieldLink RX0 34 "RegexSimplifier$Automaton" "states" "I").before _ s = true := hts _ (List.mem_cons_of_mem _ (List.mem_append_left _ (List.mem_append_left _ (List.mem_append_left _ (List.mem_of_getElem? (i := 2) rfl)))))
  have lk3 : (Cond.fieldLink RX0 15 "RegexSimplifier$Automaton" "firsts" "[I").before _ s = true := hts _ (List.mem_cons_of_mem _ (List.mem_append_left _ (List.mem_append_left _ (List.mem_append_left _ (List.mem_of_getElem? (i := 3) rfl)))))
  have lk4 : (Cond.fieldLink RX0 11 "RegexSimplifier$Automaton" "emptyWord" "[Z").before _ s = true := hts _ (List.mem_cons_of_mem _ (List.mem_append_left _ (List.mem_append_left _ (List.mem_append_left _ (List.mem_of_getElem? (i := 4) rfl)))))
  have lk5 : (Cond.fieldLink RX0 19 "RegexSimplifier$Automaton" "lasts" "[I").before _ s = true := hts _ (List.mem_cons_of_mem _ (List.mem_append_left _ (List.mem_append_left _ (List.mem_append_left _ (List.mem_of_getElem? (i := 5) rfl)))))
  have lk6 : (Cond.fieldLink RX0 48 "RegexSimplifier$Automaton" "accepting" "I").before _ s = true := hts _ (List.mem_cons_of_mem _ (List.mem_append_left _ (List.mem_append_left _ (List.mem_append_left _ (List.mem_of_getElem? (i := 6) rfl)))))
  have hl := lv_entry ([.ref hU, .ref he]) (n := 3) (Nat.le_of_ble_eq_true rfl)
  rw [lg_entry_eq]
  generalize (lg_sl ([.ref hU, .ref he]) ++ List.replicate (3 - (lg_sl ([.ref hU, .ref he])).length) Slot.unset).toArray = ls at hl ⊢
  have hl : lv_has ls 3 [(0, .ref hU), (1, .ref he)] := hl
  have tv := TV_v (okVb_iff.mp hv)
  have hn18 := tv.n18
  have hn0 := tv.n0
  have hn := hrd.1
  refine lv_aload_n (pc := 0) hx hb dX0_build_0 rfl (lv_at hl 0 rfl) ?_
  refine va_get (pc := 1) (D := D) (ci := 0) (v := .ref (aU 3)) (C := RX0) (T := TX0) (N := 7) hx hb hts hinX0 hown hK hP 0 rfl rfl 3 (by decide) lk0 (fun _ h9 => h9) rfl dX0_build_1 ?_
  refine lv_iconst (pc := 4) (v := (nI (0))) hx hb dX0_build_4 (by decide) ?_
  refine xm_callv (pc := 5) (wc := [(aU 3, .inl (cI, 10, .inl (nA fo)))]) (wr := [(hU, .inr (0, oA aU ac st)), (aU 0, .inl (cZ, 18, .inl (zA em))), (aU 1, .inl (cI, 18, .inl (nA fs))), (aU 2, .inl (cI, 18, .inl (nA lz))), (aU 4, .inl (cI, 3, .inl (nA re))), (he, .inr (2, oE ae nn)), (ae 0, .inl (cI, 18, .inl (nA kd))), (ae 1, .inl (cI, 18, .inl (nA ed))), (ae 2, .inl (cL, 18, .inr (.inl (lA cd))))]) (va_runS (As := [.ref (aU 3), .int (nI 0)]) (rest := []) ⟨hx, hb, hml, hown, hts⟩ (c_J7_fill_53178 l D cI cL cZ s.heap.size (aU 3) fo 10 0 (by omega)) (va_cwS 2 hts gX0_build_J7_fill_53178 rfl rfl rfl (by decide +kernel) ⟨Nat.le_of_ble_eq_true rfl, Nat.le_of_ble_eq_true rfl⟩) (mP_S (wc := [(aU 3, .inl (cI, 10, .inl (nA fo)))]) hK hP hD [4] (by decide) rfl) rfl rfl hl.1 rfl (lv_room (Nat.le_of_ble_eq_true rfl)) dX0_build_5 ⟨Nat.zero_le _, Nat.zero_le _⟩) hP hD hS hA [4] [0, 1, 2, 3, 5, 6, 7, 8, 9] rfl rfl (by decide) (by decide) (fun u H locs hw hP hD hS => ?_)
  obtain ⟨f2_5, rfl⟩ : ∃ z, z = u := ⟨_, rfl⟩
  have hP : va_P D vwCl [(hU, .inr (0, oA aU ac st)), (aU 0, .inl (cZ, 18, .inl (zA em))), (aU 1, .inl (cI, 18, .inl (nA fs))), (aU 2, .inl (cI, 18, .inl (nA lz))), (aU 4, .inl (cI, 3, .inl (nA re))), (he, .inr (2, oE ae nn)), (ae 0, .inl (cI, 18, .inl (nA kd))), (ae 1, .inl (cI, 18, .inl (nA ed))), (ae 2, .inl (cL, 18, .inr (.inl (lA cd)))), (aU 3, .inl (cI, 10, .inl (nA f2_5)))] H := hP
  have hD : va_D _ [(hU, .inr (0, oA aU ac st)), (aU 0, .inl (cZ, 18, .inl (zA em))), (aU 1, .inl (cI, 18, .inl (nA fs))), (aU 2, .inl (cI, 18, .inl (nA lz))), (aU 4, .inl (cI, 3, .inl (nA re))), (he, .inr (2, oE ae nn)), (ae 0, .inl (cI, 18, .inl (nA kd))), (ae 1, .inl (cI, 18, .inl (nA ed))), (ae 2, .inl (cL, 18, .inr (.inl (lA cd)))), (aU 3, .inl (cI, 10, .inl (nA f2_5)))] := hD
  try dsimp only at hw
  have hw5 := hw
  refine lv_aload_n (pc := 8) hx hb dX0_build_8 rfl (lv_at hl 0 rfl) ?_
  refine va_get (pc := 9) (D := D) (ci := 0) (v := .ref (aU 4)) (C := RX0) (T := TX0) (N := 7) hx hb hts hinX0 hown hK hP 0 rfl rfl 4 (by decide) lk1 (fun _ h9 => h9) rfl dX0_build_9 ?_
  refine lv_iconst (pc := 12) (v := (nI (0))) hx hb dX0_build_12 (by decide) ?_
  refine xm_callv (pc := 13) (wc := [(aU 4, .inl (cI, 3, .inl (nA re)))]) (wr := [(hU, .inr (0, oA aU ac st)), (aU 0, .inl (cZ, 18, .inl (zA em))), (aU 1, .inl (cI, 18, .inl (nA fs))), (aU 2, .inl (cI, 18, .inl (nA lz))), (he, .inr (2, oE ae nn)), (ae 0, .inl (cI, 18, .inl (nA kd))), (ae 1, .inl (cI, 18, .inl (nA ed))), (ae 2, .inl (cL, 18, .inr (.inl (lA cd)))), (aU 3, .inl (cI, 10, .inl (nA f2_5)))]) (va_runS (As := [.ref (aU 4), .int (nI 0)]) (rest := []) ⟨hx, hb, hml, hown, hts⟩ (c_J7_fill_53178 l D cI cL cZ H.size (aU 4) re 3 0 (by omega)) (va_cwS 2 hts gX0_build_J7_fill_53178 rfl rfl rfl (by decide +kernel) ⟨Nat.le_of_ble_eq_true rfl, Nat.le_of_ble_eq_true rfl⟩) (mP_S (wc := [(aU 4, .inl (cI, 3, .inl (nA re)))]) hK hP hD [4] (by decide) rfl) rfl rfl hl.1 rfl (lv_room (Nat.le_of_ble_eq_true rfl)) dX0_build_13 ⟨Nat.zero_le _, Nat.zero_le _⟩) hP hD hS hA [4] [0, 1, 2, 3, 5, 6, 7, 8, 9] rfl rfl (by decide) (by decide) (fun u H locs hw hP hD hS => ?_)
  obtain ⟨f2_13, rfl⟩ : ∃ z, z = u := ⟨_, rfl⟩
  have hP : va_P D vwCl [(hU, .inr (0, oA aU ac st)), (aU 0, .inl (cZ, 18, .inl (zA em))), (aU 1, .inl (cI, 18, .inl (nA fs))), (aU 2, .inl (cI, 18, .inl (nA lz))), (he, .inr (2, oE ae nn)), (ae 0, .inl (cI, 18, .inl (nA kd))), (ae 1, .inl (cI, 18, .inl (nA ed))), (ae 2, .inl (cL, 18, .inr (.inl (lA cd)))), (aU 3, .inl (cI, 10, .inl (nA f2_5))), (aU 4, .inl (cI, 3, .inl (nA f2_13)))] H := hP
  have hD : va_D _ [(hU, .inr (0, oA aU ac st)), (aU 0, .inl (cZ, 18, .inl (zA em))), (aU 1, .inl (cI, 18, .inl (nA fs))), (aU 2, .inl (cI, 18, .inl (nA lz))), (he, .inr (2, oE ae nn)), (ae 0, .inl (cI, 18, .inl (nA kd))), (ae 1, .inl (cI, 18, .inl (nA ed))), (ae 2, .inl (cL, 18, .inr (.inl (lA cd)))), (aU 3, .inl (cI, 10, .inl (nA f2_5))), (aU 4, .inl (cI, 3, .inl (nA f2_13)))] := hD
  try dsimp only at hw
  have hw13 := hw
  refine lv_aload_n (pc := 16) hx hb dX0_build_16 rfl (lv_at hl 0 rfl) ?_
  refine lv_iconst (pc := 17) (v := (nI (1))) hx hb dX0_build_17 (by decide) ?_
  refine va_put (pc := 18) (D := D) (ci := 0) (v := .int (nI 1)) (ty := .int) (C := RX0) (T := TX0) (N := 7) hx hb hts hinX0 tyX0 tyX0_ok nmX0 hown hK hP hD hS 0 rfl rfl 6 (by decide) lk2 (fun _ h9 => h9) rfl (by decide +kernel) rfl rfl (Nat.le_of_ble_eq_true rfl) dX0_build_18 (fun H locs hP hD hS => ?_)
  have hP : va_P D vwCl [(hU, .inr (0, oA aU ac 1)), (aU 0, .inl (cZ, 18, .inl (zA em))), (aU 1, .inl (cI, 18, .inl (nA fs))), (aU 2, .inl (cI, 18, .inl (nA lz))), (he, .inr (2, oE ae nn)), (ae 0, .inl (cI, 18, .inl (nA kd))), (ae 1, .inl (cI, 18, .inl (nA ed))), (ae 2, .inl (cL, 18, .inr (.inl (lA cd)))), (aU 3, .inl (cI, 10, .inl (nA f2_5))), (aU 4, .inl (cI, 3, .inl (nA f2_13)))] H := hP
  have hD : va_D _ [(hU, .inr (0, oA aU ac 1)), (aU 0, .inl (cZ, 18, .inl (zA em))), (aU 1, .inl (cI, 18, .inl (nA fs))), (aU 2, .inl (cI, 18, .inl (nA lz))), (he, .inr (2, oE ae nn)), (ae 0, .inl (cI, 18, .inl (nA kd))), (ae 1, .inl (cI, 18, .inl (nA ed))), (ae 2, .inl (cL, 18, .inr (.inl (lA cd)))), (aU 3, .inl (cI, 10, .inl (nA f2_5))), (aU 4, .inl (cI, 3, .inl (nA f2_13)))] := hD
  refine lv_aload_n (pc := 21) hx hb dX0_build_21 rfl (lv_at hl 1 rfl) ?_
  refine vp_callSi (pc := 22) (W.runV (As := []) (rest := []) ⟨hx, hb, hml, hown, hts⟩ (c_X3_nodeCount l D cI cL cZ he ae kd ed cd nn) (cwV 0 hts gX0_build_X3_nodeCount rfl rfl rfl (by decide +kernel) ⟨Nat.le_of_ble_eq_true rfl, Nat.le_of_ble_eq_true rfl⟩) (rP_V (wc := [(he, .inr (2, oE ae nn)), (ae 0, .inl (cI, 18, .inl (nA kd))), (ae 1, .inl (cI, 18, .inl (nA ed))), (ae 2, .inl (cL, 18, .inr (.inl (lA cd))))]) (ci := 2) (q0 := 0) hK hP [4, 5, 6, 7] rfl rfl rfl) rfl rfl hl.1 rfl (lv_room (Nat.le_of_ble_eq_true rfl)) dX0_build_22 ⟨Nat.zero_le _, Nat.zero_le _⟩) (fun r9 hrr => ?_)
  rw [hrr]
  refine lv_iconst (pc := 25) (v := (nI (1))) hx hb dX0_build_25 (by decide) ?_
  refine xn_isub (pc := 26) hx hb (by omega) dX0_build_26 ?_
  refine lv_istore_n (pc := 27) (lv' := [(2, .int (nI (nn - 1))), (0, .ref hU), (1, .ref he)]) hx hb dX0_build_27 rfl hl (by decide) rfl (fun ls hl => ?_)
  have loop28 : ∀ (fuel : Nat) (k : Nat) (em1 : Nat → Bool) (fs1 : Nat → Nat) (lz1 : Nat → Nat) (fo1 : Nat → Nat) (re1 : Nat → Nat) (st1 : Nat) (ls : Array Slot) (H : Heap) (locs : List Loc), k < fuel → (k ≤ dc v) → (AI v k em1 fs1 lz1 fo1 re1 st1) → lv_has ls 3 [(0, .ref hU), (1, .ref he), (2, .int (nI k - 1))] → va_P D vwCl [(hU, .inr (0, oA aU ac st1)), (aU 0, .inl (cZ, 18, .inl (zA em1))), (aU 1, .inl (cI, 18, .inl (nA fs1))), (aU 2, .inl (cI, 18, .inl (nA lz1))), (he, .inr (2, oE ae nn)), (ae 0, .inl (cI, 18, .inl (nA kd))), (ae 1, .inl (cI, 18, .inl (nA ed))), (ae 2, .inl (cL, 18, .inr (.inl (lA cd)))), (aU 3, .inl (cI, 10, .inl (nA fo1))), (aU 4, .inl (cI, 3, .inl (nA re1)))] H → va_D (va_A [(hU, .inr (0, oA aU ac st)), (aU 0, .inl (cZ, 18, .inl (zA em))), (aU 1, .inl (cI, 18, .inl (nA fs))), (aU 2, .inl (cI, 18, .inl (nA lz))), (aU 3, .inl (cI, 10, .inl (nA fo))), (aU 4, .inl (cI, 3, .inl (nA re))), (he, .inr (2, oE ae nn)), (ae 0, .inl (cI, 18, .inl (nA kd))), (ae 1, .inl (cI, 18, .inl (nA ed))), (ae 2, .inl (cL, 18, .inr (.inl (lA cd))))] s.heap.size) [(hU, .inr (0, oA aU ac st1)), (aU 0, .inl (cZ, 18, .inl (zA em1))), (aU 1, .inl (cI, 18, .inl (nA fs1))), (aU 2, .inl (cI, 18, .inl (nA lz1))), (he, .inr (2, oE ae nn)), (ae 0, .inl (cI, 18, .inl (nA kd))), (ae 1, .inl (cI, 18, .inl (nA ed))), (ae 2, .inl (cL, 18, .inr (.inl (lA cd)))), (aU 3, .inl (cI, 10, .inl (nA fo1))), (aU 4, .inl (cI, 3, .inl (nA re1)))] → va_S (va_A [(hU, .inr (0, oA aU ac st)), (aU 0, .inl (cZ, 18, .inl (zA em))), (aU 1, .inl (cI, 18, .inl (nA fs))), (aU 2, .inl (cI, 18, .inl (nA lz))), (aU 3, .inl (cI, 10, .inl (nA fo))), (aU 4, .inl (cI, 3, .inl (nA re))), (he, .inr (2, oE ae nn)), (ae 0, .inl (cI, 18, .inl (nA kd))), (ae 1, .inl (cI, 18, .inl (nA ed))), (ae 2, .inl (cL, 18, .inr (.inl (lA cd))))] s.heap.size) s.heap H locs → W pG l eG (headSpec wsX0_build { frames := 3, cells := 0, slots := 0, locals := 71 }).room s mG [.ref hU, .ref he].toArray below meth cG H locs 0 0 (MQ below (va_Qv (fun (u : (Nat → Bool) × (Nat → Nat) × (Nat → Nat) × (Nat → Nat) × (Nat → Nat) × Nat × Nat) => AC v u.2.2.2.1 u.2.2.2.2.1 u.2.2.2.2.2.2 u.2.2.2.2.2.1) (fun (u : (Nat → Bool) × (Nat → Nat) × (Nat → Nat) × (Nat → Nat) × (Nat → Nat) × Nat × Nat) (t : State) => mB D (tyL cI cL cZ) (va_A [(hU, .inr (0, oA aU ac st)), (aU 0, .inl (cZ, 18, .inl (zA em))), (aU 1, .inl (cI, 18, .inl (nA fs))), (aU 2, .inl (cI, 18, .inl (nA lz))), (aU 3, .inl (cI, 10, .inl (nA fo))), (aU 4, .inl (cI, 3, .inl (nA re))), (he, .inr (2, oE ae nn)), (ae 0, .inl (cI, 18, .inl (nA kd))), (ae 1, .inl (cI, 18, .inl (nA ed))), (ae 2, .inl (cL, 18, .inr (.inl (lA cd))))] s.heap.size) [(hU, .inr (0, oA aU (u.2.2.2.2.2.2) (u.2.2.2.2.2.1))), (aU 0, .inl (cZ, 18, .inl (zA (u.1)))), (aU 1, .inl (cI, 18, .inl (nA (u.2.1)))), (aU 2, .inl (cI, 18, .inl (nA (u.2.2.1)))), (aU 3, .inl (cI, 10, .inl (nA (u.2.2.2.1)))), (aU 4, .inl (cI, 3, .inl (nA (u.2.2.2.2.1)))), (he, .inr (2, oE ae nn)), (ae 0, .inl (cI, 18, .inl (nA kd))), (ae 1, .inl (cI, 18, .inl (nA ed))), (ae 2, .inl (cL, 18, .inr (.inl (lA cd))))] t) (va_A [(hU, .inr (0, oA aU ac st)), (aU 0, .inl (cZ, 18, .inl (zA em))), (aU 1, .inl (cI, 18, .inl (nA fs))), (aU 2, .inl (cI, 18, .inl (nA lz))), (aU 3, .inl (cI, 10, .inl (nA fo))), (aU 4, .inl (cI, 3, .inl (nA re))), (he, .inr (2, oE ae nn)), (ae 0, .inl (cI, 18, .inl (nA kd))), (ae 1, .inl (cI, 18, .inl (nA ed))), (ae 2, .inl (cL, 18, .inr (.inl (lA cd))))] s.heap.size)) [.ref hU, .ref he].toArray s 0 0 (va_A [(hU, .inr (0, oA aU ac st)), (aU 0, .inl (cZ, 18, .inl (zA em))), (aU 1, .inl (cI, 18, .inl (nA fs))), (aU 2, .inl (cI, 18, .inl (nA lz))), (aU 3, .inl (cI, 10, .inl (nA fo))), (aU 4, .inl (cI, 3, .inl (nA re))), (he, .inr (2, oE ae nn)), (ae 0, .inl (cI, 18, .inl (nA kd))), (ae 1, .inl (cI, 18, .inl (nA ed))), (ae 2, .inl (cL, 18, .inr (.inl (lA cd))))] s.heap.size)) (F0 mG 28 ls []) := by
    intro fuel
    induction fuel with
    | zero => intro k em1 fs1 lz1 fo1 re1 st1 ls H locs hmeas i1 i2 hl hP hD hS; exact absurd hmeas (Nat.not_lt_zero _)
    | succ fuel ih28 =>
      intro k em1 fs1 lz1 fo1 re1 st1 ls H locs hmeas i1 i2 hl hP hD hS
      refine lv_iload_n (pc := 28) hx hb dX0_build_28 rfl (lv_at hl 2 rfl) ?_
      refine xm_if_lt (pc := 29) (tgt := 44) hx hb (by omega) dX0_build_29 (by decide) (fun c29 => ?_) (fun c29 => ?_)
      · subst c29
        refine lv_aload_n (pc := 44) hx hb dX0_build_44 rfl (lv_at hl 0 rfl) ?_
        refine va_get (pc := 45) (D := D) (ci := 0) (v := .ref (aU 3)) (C := RX0) (T := TX0) (N := 7) hx hb hts hinX0 hown hK hP 0 rfl rfl 3 (by decide) lk0 (fun _ h9 => h9) rfl dX0_build_45 ?_
        refine lv_iconst (pc := 48) (v := (nI (0))) hx hb dX0_build_48 (by decide) ?_
        refine lv_aload_n (pc := 49) hx hb dX0_build_49 rfl (lv_at hl 0 rfl) ?_
        refine va_get (pc := 50) (D := D) (ci := 0) (v := .ref (aU 1)) (C := RX0) (T := TX0) (N := 7) hx hb hts hinX0 hown hK hP 0 rfl rfl 1 (by decide) lk3 (fun _ h9 => h9) rfl dX0_build_50 ?_
        refine lv_iconst (pc := 53) (v := (nI (0))) hx hb dX0_build_53 (by decide) ?_
        refine xa_iald (pc := 54) hx hb hK hP 2 0 rfl rfl (by omega) (by omega) dX0_build_54 ?_
        refine xa_iast (pc := 55) hx hb hK hP hD hS 8 0 rfl rfl (by omega) (by omega) dX0_build_55 (fun H locs hP hD hS => ?_)
        have hP : va_P D vwCl [(hU, .inr (0, oA aU ac st1)), (aU 0, .inl (cZ, 18, .inl (zA em1))), (aU 1, .inl (cI, 18, .inl (nA fs1))), (aU 2, .inl (cI, 18, .inl (nA lz1))), (he, .inr (2, oE ae nn)), (ae 0, .inl (cI, 18, .inl (nA kd))), (ae 1, .inl (cI, 18, .inl (nA ed))), (ae 2, .inl (cL, 18, .inr (.inl (lA cd)))), (aU 3, .inl (cI, 10, .inl (nA (up fo1 0 (fs1 0))))), (aU 4, .inl (cI, 3, .inl (nA re1)))] H := hP
        have hD : va_D _ [(hU, .inr (0, oA aU ac st1)), (aU 0, .inl (cZ, 18, .inl (zA em1))), (aU 1, .inl (cI, 18, .inl (nA fs1))), (aU 2, .inl (cI, 18, .inl (nA lz1))), (he, .inr (2, oE ae nn)), (ae 0, .inl (cI, 18, .inl (nA kd))), (ae 1, .inl (cI, 18, .inl (nA ed))), (ae 2, .inl (cL, 18, .inr (.inl (lA cd)))), (aU 3, .inl (cI, 10, .inl (nA (up fo1 0 (fs1 0))))), (aU 4, .inl (cI, 3, .inl (nA re1)))] := hD
        refine lv_aload_n (pc := 56) hx hb dX0_build_56 rfl (lv_at hl 0 rfl) ?_
        refine lv_aload_n (pc := 57) hx hb dX0_build_57 rfl (lv_at hl 0 rfl) ?_
        refine va_get (pc := 58) (D := D) (ci := 0) (v := .ref (aU 0)) (C := RX0) (T := TX0) (N := 7) hx hb hts hinX0 hown hK hP 0 rfl rfl 0 (by decide) lk4 (fun _ h9 => h9) rfl dX0_build_58 ?_
        refine lv_iconst (pc := 61) (v := (nI (0))) hx hb dX0_build_61 (by decide) ?_
        refine xa_zald (pc := 62) hx hb hK hP 1 2 rfl rfl (by omega) (by omega) dX0_build_62 ?_
        refine xp_if_eq (pc := 63) (tgt := 77) hx hb dX0_build_63 (by decide) (fun c63 => ?_) (fun c63 => ?_)
        · refine lv_aload_n (pc := 77) hx hb dX0_build_77 rfl (lv_at hl 0 rfl) ?_
          refine va_get (pc := 78) (D := D) (ci := 0) (v := .ref (aU 2)) (C := RX0) (T := TX0) (N := 7) hx hb hts hinX0 hown hK hP 0 rfl rfl 2 (by decide) lk5 (fun _ h9 => h9) rfl dX0_build_78 ?_
          refine lv_iconst (pc := 81) (v := (nI (0))) hx hb dX0_build_81 (by decide) ?_
          refine xa_iald (pc := 82) hx hb hK hP 3 0 rfl rfl (by omega) (by omega) dX0_build_82 ?_
          refine va_put (pc := 83) (D := D) (ci := 0) (v := .int (nI (lz1 0))) (ty := .int) (C := RX0) (T := TX0) (N := 7) hx hb hts hinX0 tyX0 tyX0_ok nmX0 hown hK hP hD hS 0 rfl rfl 5 (by decide) lk6 (fun _ h9 => h9) rfl (by decide +kernel) rfl rfl (Nat.le_of_ble_eq_true rfl) dX0_build_83 (fun H locs hP hD hS => ?_)
          have hP : va_P D vwCl [(hU, .inr (0, oA aU (lz1 0) st1)), (aU 0, .inl (cZ, 18, .inl (zA em1))), (aU 1, .inl (cI, 18, .inl (nA fs1))), (aU 2, .inl (cI, 18, .inl (nA lz1))), (he, .inr (2, oE ae nn)), (ae 0, .inl (cI, 18, .inl (nA kd))), (ae 1, .inl (cI, 18, .inl (nA ed))), (ae 2, .inl (cL, 18, .inr (.inl (lA cd)))), (aU 3, .inl (cI, 10, .inl (nA (up fo1 0 (fs1 0))))), (aU 4, .inl (cI, 3, .inl (nA re1)))] H := hP
          have hD : va_D _ [(hU, .inr (0, oA aU (lz1 0) st1)), (aU 0, .inl (cZ, 18, .inl (zA em1))), (aU 1, .inl (cI, 18, .inl (nA fs1))), (aU 2, .inl (cI, 18, .inl (nA lz1))), (he, .inr (2, oE ae nn)), (ae 0, .inl (cI, 18, .inl (nA kd))), (ae 1, .inl (cI, 18, .inl (nA ed))), (ae 2, .inl (cL, 18, .inr (.inl (lA cd)))), (aU 3, .inl (cI, 10, .inl (nA (up fo1 0 (fs1 0))))), (aU 4, .inl (cI, 3, .inl (nA re1)))] := hD
          have hP9 : va_P D vwCl [(hU, .inr (0, oA aU ((lz1 0)) st1)), (aU 0, .inl (cZ, 18, .inl (zA em1))), (aU 1, .inl (cI, 18, .inl (nA fs1))), (aU 2, .inl (cI, 18, .inl (nA lz1))), (aU 3, .inl (cI, 10, .inl (nA ((up fo1 0 (fs1 0)))))), (aU 4, .inl (cI, 3, .inl (nA re1))), (he, .inr (2, oE ae nn)), (ae 0, .inl (cI, 18, .inl (nA kd))), (ae 1, .inl (cI, 18, .inl (nA ed))), (ae 2, .inl (cL, 18, .inr (.inl (lA cd))))] H := hP.sub [0, 1, 2, 3, 8, 9, 4, 5, 6, 7] rfl
          have hD9 : va_D _ [(hU, .inr (0, oA aU ((lz1 0)) st1)), (aU 0, .inl (cZ, 18, .inl (zA em1))), (aU 1, .inl (cI, 18, .inl (nA fs1))), (aU 2, .inl (cI, 18, .inl (nA lz1))), (aU 3, .inl (cI, 10, .inl (nA ((up fo1 0 (fs1 0)))))), (aU 4, .inl (cI, 3, .inl (nA re1))), (he, .inr (2, oE ae nn)), (ae 0, .inl (cI, 18, .inl (nA kd))), (ae 1, .inl (cI, 18, .inl (nA ed))), (ae 2, .inl (cL, 18, .inr (.inl (lA cd))))] := hD.sub [0, 1, 2, 3, 8, 9, 4, 5, 6, 7] (by decide) rfl
          exact W.vret (pc := 86) hx hb hr (fun t ht hW => ⟨⟨(em1, fs1, lz1, up fo1 0 (fs1 0), re1, st1, lz1 0), rfl, (AC_of hv i2 (by first | exact (if_pos c63).symm | exact (if_neg c63).symm)), by rw [ht]; exact hP9, va_K.moved hW.alike hK, hD9⟩, hS.F ht⟩) hS.2.2 dX0_build_86
        · refine lv_aload_n (pc := 66) hx hb dX0_build_66 rfl (lv_at hl 0 rfl) ?_
          refine va_get (pc := 67) (D := D) (ci := 0) (v := .ref (aU 2)) (C := RX0) (T := TX0) (N := 7) hx hb hts hinX0 hown hK hP 0 rfl rfl 2 (by decide) lk5 (fun _ h9 => h9) rfl dX0_build_67 ?_
          refine lv_iconst (pc := 70) (v := (nI (0))) hx hb dX0_build_70 (by decide) ?_
          refine xa_iald (pc := 71) hx hb hK hP 3 0 rfl rfl (by omega) (by omega) dX0_build_71 ?_
          refine lv_iconst (pc := 72) (v := (nI (1))) hx hb dX0_build_72 (by decide) ?_
          refine xn_ior (pc := 73) hx hb  dX0_build_73 ?_
          refine lv_goto (pc := 74) (tgt := 83) hx hb dX0_build_74 (by decide) ?_
          refine va_put (pc := 83) (D := D) (ci := 0) (v := .int (nI ((lz1 0) ||| 1))) (ty := .int) (C := RX0) (T := TX0) (N := 7) hx hb hts hinX0 tyX0 tyX0_ok nmX0 hown hK hP hD hS 0 rfl rfl 5 (by decide) lk6 (fun _ h9 => h9) rfl (by decide +kernel) rfl rfl (Nat.le_of_ble_eq_true rfl) dX0_build_83 (fun H locs hP hD hS => ?_)
          have hP : va_P D vwCl [(hU, .inr (0, oA aU ((lz1 0) ||| 1) st1)), (aU 0, .inl (cZ, 18, .inl (zA em1))), (aU 1, .inl (cI, 18, .inl (nA fs1))), (aU 2, .inl (cI, 18, .inl (nA lz1))), (he, .inr (2, oE ae nn)), (ae 0, .inl (cI, 18, .inl (nA kd))), (ae 1, .inl (cI, 18, .inl (nA ed))), (ae 2, .inl (cL, 18, .inr (.inl (lA cd)))), (aU 3, .inl (cI, 10, .inl (nA (up fo1 0 (fs1 0))))), (aU 4, .inl (cI, 3, .inl (nA re1)))] H := hP
          have hD : va_D _ [(hU, .inr (0, oA aU ((lz1 0) ||| 1) st1)), (aU 0, .inl (cZ, 18, .inl (zA em1))), (aU 1, .inl (cI, 18, .inl (nA fs1))), (aU 2, .inl (cI, 18, .inl (nA lz1))), (he, .inr (2, oE ae nn)), (ae 0, .inl (cI, 18, .inl (nA kd))), (ae 1, .inl (cI, 18, .inl (nA ed))), (ae 2, .inl (cL, 18, .inr (.inl (lA cd)))), (aU 3, .inl (cI, 10, .inl (nA (up fo1 0 (fs1 0))))), (aU 4, .inl (cI, 3, .inl (nA re1)))] := hD
          have hP9 : va_P D vwCl [(hU, .inr (0, oA aU (((lz1 0) ||| 1)) st1)), (aU 0, .inl (cZ, 18, .inl (zA em1))), (aU 1, .inl (cI, 18, .inl (nA fs1))), (aU 2, .inl (cI, 18, .inl (nA lz1))), (aU 3, .inl (cI, 10, .inl (nA ((up fo1 0 (fs1 0)))))), (aU 4, .inl (cI, 3, .inl (nA re1))), (he, .inr (2, oE ae nn)), (ae 0, .inl (cI, 18, .inl (nA kd))), (ae 1, .inl (cI, 18, .inl (nA ed))), (ae 2, .inl (cL, 18, .inr (.inl (lA cd))))] H := hP.sub [0, 1, 2, 3, 8, 9, 4, 5, 6, 7] rfl
          have hD9 : va_D _ [(hU, .inr (0, oA aU (((lz1 0) ||| 1)) st1)), (aU 0, .inl (cZ, 18, .inl (zA em1))), (aU 1, .inl (cI, 18, .inl (nA fs1))), (aU 2, .inl (cI, 18, .inl (nA lz1))), (aU 3, .inl (cI, 10, .inl (nA ((up fo1 0 (fs1 0)))))), (aU 4, .inl (cI, 3, .inl (nA re1))), (he, .inr (2, oE ae nn)), (ae 0, .inl (cI, 18, .inl (nA kd))), (ae 1, .inl (cI, 18, .inl (nA ed))), (ae 2, .inl (cL, 18, .inr (.inl (lA cd))))] := hD.sub [0, 1, 2, 3, 8, 9, 4, 5, 6, 7] (by decide) rfl
          exact W.vret (pc := 86) hx hb hr (fun t ht hW => ⟨⟨(em1, fs1, lz1, up fo1 0 (fs1 0), re1, st1, (lz1 0) ||| 1), rfl, (AC_of hv i2 (by first | exact (if_pos c63).symm | exact (if_neg c63).symm)), by rw [ht]; exact hP9, va_K.moved hW.alike hK, hD9⟩, hS.F ht⟩) hS.2.2 dX0_build_86
      · have hl : lv_has ls 3 [(0, .ref hU), (1, .ref he), (2, .int (nI (k - 1)))] := by have hq9 : (nI k - 1) = (nI (k - 1)) := (nI_dec1 c29); first | (rw [← hq9]; exact hl) | (rw [hq9] at hl; exact hl)
        refine lv_aload_n (pc := 32) hx hb dX0_build_32 rfl (lv_at hl 0 rfl) ?_
        refine lv_aload_n (pc := 33) hx hb dX0_build_33 rfl (lv_at hl 1 rfl) ?_
        refine lv_iload_n (pc := 34) hx hb dX0_build_34 rfl (lv_at hl 2 rfl) ?_
        refine xm_callv (pc := 35) (wc := [(hU, .inr (0, oA aU ac st1)), (aU 0, .inl (cZ, 18, .inl (zA em1))), (aU 1, .inl (cI, 18, .inl (nA fs1))), (aU 2, .inl (cI, 18, .inl (nA lz1))), (aU 3, .inl (cI, 10, .inl (nA fo1))), (aU 4, .inl (cI, 3, .inl (nA re1))), (he, .inr (2, oE ae nn)), (ae 0, .inl (cI, 18, .inl (nA kd))), (ae 1, .inl (cI, 18, .inl (nA ed))), (ae 2, .inl (cL, 18, .inr (.inl (lA cd))))]) (wr := []) (va_runV (As := [.ref he, .int (nI (k - 1))]) (rest := []) ⟨hx, hb, hml, hown, hts⟩ (c_X0_addNode l D cI cL cZ H.size hU aU em1 fs1 lz1 fo1 re1 ac st1 he ae kd ed cd nn v (k - 1) hv (by omega) hrd (by rw [show k - 1 + 1 = k from by omega]; exact i2)) (cwV 2 hts gX0_build_X0_addNode rfl rfl rfl (by decide +kernel) ⟨Nat.le_of_ble_eq_true rfl, Nat.le_of_ble_eq_true rfl⟩) (mP_V (wc := [(hU, .inr (0, oA aU ac st1)), (aU 0, .inl (cZ, 18, .inl (zA em1))), (aU 1, .inl (cI, 18, .inl (nA fs1))), (aU 2, .inl (cI, 18, .inl (nA lz1))), (aU 3, .inl (cI, 10, .inl (nA fo1))), (aU 4, .inl (cI, 3, .inl (nA re1))), (he, .inr (2, oE ae nn)), (ae 0, .inl (cI, 18, .inl (nA kd))), (ae 1, .inl (cI, 18, .inl (nA ed))), (ae 2, .inl (cL, 18, .inr (.inl (lA cd))))]) (ci := 0) (q0 := 0) hK hP hD [0, 1, 2, 3, 8, 9, 4, 5, 6, 7] (by decide) rfl rfl rfl) rfl rfl hl.1 rfl (lv_room (Nat.le_of_ble_eq_true rfl)) dX0_build_35 ⟨Nat.zero_le _, Nat.zero_le _⟩) hP hD hS hA [0, 1, 2, 3, 8, 9, 4, 5, 6, 7] [] rfl rfl (by decide) (by decide) (fun u H locs hw hP hD hS => ?_)
        obtain ⟨em2_35, fs2_35, lz2_35, fo2_35, re2_35, st2_35⟩ := u
        have hP : va_P D vwCl [(hU, .inr (0, oA aU ac st2_35)), (aU 0, .inl (cZ, 18, .inl (zA em2_35))), (aU 1, .inl (cI, 18, .inl (nA fs2_35))), (aU 2, .inl (cI, 18, .inl (nA lz2_35))), (aU 3, .inl (cI, 10, .inl (nA fo2_35))), (aU 4, .inl (cI, 3, .inl (nA re2_35))), (he, .inr (2, oE ae nn)), (ae 0, .inl (cI, 18, .inl (nA kd))), (ae 1, .inl (cI, 18, .inl (nA ed))), (ae 2, .inl (cL, 18, .inr (.inl (lA cd))))] H := hP
        have hD : va_D _ [(hU, .inr (0, oA aU ac st2_35)), (aU 0, .inl (cZ, 18, .inl (zA em2_35))), (aU 1, .inl (cI, 18, .inl (nA fs2_35))), (aU 2, .inl (cI, 18, .inl (nA lz2_35))), (aU 3, .inl (cI, 10, .inl (nA fo2_35))), (aU 4, .inl (cI, 3, .inl (nA re2_35))), (he, .inr (2, oE ae nn)), (ae 0, .inl (cI, 18, .inl (nA kd))), (ae 1, .inl (cI, 18, .inl (nA ed))), (ae 2, .inl (cL, 18, .inr (.inl (lA cd))))] := hD
        try dsimp only at hw
        have hw35 := hw
        refine lv_iinc (pc := 38) (v := (nI (k - 1) - 1)) (lv' := [(2, .int (nI (k - 1) - 1)), (0, .ref hU), (1, .ref he)]) hx hb dX0_build_38 hl (k := 2) rfl (nI_decm _) (by decide) rfl (fun ls hl => ?_)
        refine lv_goto (pc := 41) (tgt := 28) hx hb dX0_build_41 (by decide) ?_
        exact ih28 (k - 1) em2_35 fs2_35 lz2_35 fo2_35 re2_35 st2_35 ls _ _ (by omega) (by omega) hw35 (lv_sub hl [1, 2, 0] rfl) (hP.sub [0, 1, 2, 3, 6, 7, 8, 9, 4, 5] rfl) (hD.sub [0, 1, 2, 3, 6, 7, 8, 9, 4, 5] (by decide) rfl) hS
  have hl : lv_has ls 3 [(2, .int (nI (dc v) - 1)), (0, .ref hU), (1, .ref he)] := by have hq9 : (nI (nn - 1)) = (nI (dc v) - 1) := ((by rw [hn]; exact (nI_dec1 (by omega)).symm)); first | (rw [← hq9]; exact hl) | (rw [hq9] at hl; exact hl)
  exact loop28 (_ + 1) (dc v) em fs lz f2_5 f2_13 1 ls _ _ (Nat.lt_succ_self _) (Nat.le_refl _) (AI_0 hw5 hw13) (lv_sub hl [1, 2, 0] rfl) (hP.sub [0, 1, 2, 3, 4, 5, 6, 7, 8, 9] rfl) (hD.sub [0, 1, 2, 3, 4, 5, 6, 7, 8, 9] (by decide) rfl) hS
