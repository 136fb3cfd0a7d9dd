/-! the reference: digits, ends, likeness -/
set_option maxHeartbeats 4000000 in
set_option maxRecDepth 100000 in
theorem c_X8_within (l : Launch) (D : va_G) (cI cL cZ : ClassId) (x : Int32) (lo : Int32) (hi : Int32)  : Met l yX8_within wsX8_within { frames := 0, cells := 0, slots := 0, locals := 0 } (rP D (tyL cI cL cZ) [] [.int x, .int lo, .int hi]) (vp_Si (fun r => r = (nI (pN (lo ≤ x ∧ x ≤ hi))))) 0 0 (fun _ => False) := by
  refine Met.ofW (cc := cX8_within) (maxL := 3) (ret := (some .boolean)) (by decide) rfl ?_
  intro pG eG s mG args below meth cG s₁ B hml hpre9
  obtain ⟨rfl, hP, hK⟩ := hpre9
  have hx := B.exec
  have hb := B.bytes
  have hr := B.returns
  have hts := atoms_spec (ws := wsX8_within) B.pre
  have hown : s.vm.findClass RX8 = some mG.cls := findClass_of_methodNamed B.named
  have hlocks := B.notSynchronized
  have hS : va_S (fun _ => False) s.heap s.heap [] := va_S.rf
  have hl := lv_entry ([.int x, .int lo, .int hi]) (n := 3) (Nat.le_of_ble_eq_true rfl)
  rw [lg_entry_eq]
  generalize (lg_sl ([.int x, .int lo, .int hi]) ++ List.replicate (3 - (lg_sl ([.int x, .int lo, .int hi])).length) Slot.unset).toArray = ls at hl ⊢
  have hl : lv_has ls 3 [(0, .int x), (1, .int lo), (2, .int hi)] := hl
  refine lv_iload_n (pc := 0) hx hb dX8_within_0 rfl (lv_at hl 0 rfl) ?_
  refine lv_iload_n (pc := 1) hx hb dX8_within_1 rfl (lv_at hl 1 rfl) ?_
  refine lv_icmp_lt (pc := 2) (tgt := 14) hx hb dX8_within_2 (by decide) (fun c2 => ?_) (fun c2 => ?_)
  · refine lv_iconst (pc := 14) (v := (nI (0))) hx hb dX8_within_14 (by decide) ?_
    exact W.zret (pc := 15) (v := (nI (0))) (ty := .boolean) hx hb hr (by decide) (fun t ht _ => ⟨_, rfl, (by first | exact congrArg nI (pN_t ⟨fa_of_nlt c2, fa_of_nlt c7⟩).symm | exact congrArg nI (pN_f (fun h => (fa_of_lt c7).2.1 h.2)).symm | exact congrArg nI (pN_f (fun h => (fa_of_lt c2).2.1 h.1)).symm), ht⟩) (fun _ h => absurd h List.not_mem_nil) dX8_within_15
  · refine lv_iload_n (pc := 5) hx hb dX8_within_5 rfl (lv_at hl 0 rfl) ?_
    refine lv_iload_n (pc := 6) hx hb dX8_within_6 rfl (lv_at hl 2 rfl) ?_
    refine lv_icmp_gt (pc := 7) (tgt := 14) hx hb dX8_within_7 (by decide) (fun c7 => ?_) (fun c7 => ?_)
    · refine lv_iconst (pc := 14) (v := (nI (0))) hx hb dX8_within_14 (by decide) ?_
      exact W.zret (pc := 15) (v := (nI (0))) (ty := .boolean) hx hb hr (by decide) (fun t ht _ => ⟨_, rfl, (by first | exact congrArg nI (pN_t ⟨fa_of_nlt c2, fa_of_nlt c7⟩).symm | exact congrArg nI (pN_f (fun h => (fa_of_lt c7).2.1 h.2)).symm | exact congrArg nI (pN_f (fun h => (fa_of_lt c2).2.1 h.1)).symm), ht⟩) (fun _ h => absurd h List.not_mem_nil) dX8_within_15
    · refine lv_iconst (pc := 10) (v := (nI (1))) hx hb dX8_within_10 (by decide) ?_
      refine lv_goto (pc := 11) (tgt := 15) hx hb dX8_within_11 (by decide) ?_
      exact W.zret (pc := 15) (v := (nI (1))) (ty := .boolean) hx hb hr (by decide) (fun t ht _ => ⟨_, rfl, (by first | exact congrArg nI (pN_t ⟨fa_of_nlt c2, fa_of_nlt c7⟩).symm | exact congrArg nI (pN_f (fun h => (fa_of_lt c7).2.1 h.2)).symm | exact congrArg nI (pN_f (fun h => (fa_of_lt c2).2.1 h.1)).symm), ht⟩) (fun _ h => absurd h List.not_mem_nil) dX8_within_15
set_option maxHeartbeats 4000000 in
set_option maxRecDepth 100000 in
theorem c_X8_withinN (l : Launch) (D : va_G) (cI cL cZ : ClassId) (a : Nat) (lo : Nat) (hi : Nat) (h1 : a < 2 ^ 31) (h2 : lo < 2 ^ 31) (h3 : hi < 2 ^ 31) : Met l yX8_within wsX8_within { frames := 0, cells := 0, slots := 0, locals := 0 } (rP D (tyL cI cL cZ) [] [.int (nI a), .int (nI lo), .int (nI hi)]) (vp_Si (fun r => r = (nI (pN (lo ≤ a ∧ a ≤ hi))))) 0 0 (fun _ => False) := by
  refine Met.ofW (cc := cX8_within) (maxL := 3) (ret := (some .boolean)) (by decide) rfl ?_
  intro pG eG s mG args below meth cG s₁ B hml hpre9
  obtain ⟨rfl, hP, hK⟩ := hpre9
  have hx := B.exec
  have hb := B.bytes
  have hr := B.returns
  have hts := atoms_spec (ws := wsX8_within) B.pre
  have hown : s.vm.findClass RX8 = some mG.cls := findClass_of_methodNamed B.named
  have hlocks := B.notSynchronized
  have hS : va_S (fun _ => False) s.heap s.heap [] := va_S.rf
  have hl := lv_entry ([.int (nI a), .int (nI lo), .int (nI hi)]) (n := 3) (Nat.le_of_ble_eq_true rfl)
  rw [lg_entry_eq]
  generalize (lg_sl ([.int (nI a), .int (nI lo), .int (nI hi)]) ++ List.replicate (3 - (lg_sl ([.int (nI a), .int (nI lo), .int (nI hi)])).length) Slot.unset).toArray = ls at hl ⊢
  have hl : lv_has ls 3 [(0, .int (nI a)), (1, .int (nI lo)), (2, .int (nI hi))] := hl
  refine lv_iload_n (pc := 0) hx hb dX8_within_0 rfl (lv_at hl 0 rfl) ?_
  refine lv_iload_n (pc := 1) hx hb dX8_within_1 rfl (lv_at hl 1 rfl) ?_
  refine xn_icmp_lt (pc := 2) (tgt := 14) hx hb (by omega) (by omega) dX8_within_2 (by decide) (fun c2 => ?_) (fun c2 => ?_)
  · refine lv_iconst (pc := 14) (v := (nI (0))) hx hb dX8_within_14 (by decide) ?_
    exact W.zret (pc := 15) (v := (nI (0))) (ty := .boolean) hx hb hr (by decide) (fun t ht _ => ⟨_, rfl, (by first | exact congrArg nI (pN_t ⟨by omega, by omega⟩).symm | exact congrArg nI (pN_f (fun h => by omega)).symm), ht⟩) (fun _ h => absurd h List.not_mem_nil) dX8_within_15
  · refine lv_iload_n (pc := 5) hx hb dX8_within_5 rfl (lv_at hl 0 rfl) ?_
    refine lv_iload_n (pc := 6) hx hb dX8_within_6 rfl (lv_at hl 2 rfl) ?_
    refine xn_icmp_gt (pc := 7) (tgt := 14) hx hb (by omega) (by omega) dX8_within_7 (by decide) (fun c7 => ?_) (fun c7 => ?_)
    · refine lv_iconst (pc := 14) (v := (nI (0))) hx hb dX8_within_14 (by decide) ?_
      exact W.zret (pc := 15) (v := (nI (0))) (ty := .boolean) hx hb hr (by decide) (fun t ht _ => ⟨_, rfl, (by first | exact congrArg nI (pN_t ⟨by omega, by omega⟩).symm | exact congrArg nI (pN_f (fun h => by omega)).symm), ht⟩) (fun _ h => absurd h List.not_mem_nil) dX8_within_15
    · refine lv_iconst (pc := 10) (v := (nI (1))) hx hb dX8_within_10 (by decide) ?_
      refine lv_goto (pc := 11) (tgt := 15) hx hb dX8_within_11 (by decide) ?_
      exact W.zret (pc := 15) (v := (nI (1))) (ty := .boolean) hx hb hr (by decide) (fun t ht _ => ⟨_, rfl, (by first | exact congrArg nI (pN_t ⟨by omega, by omega⟩).symm | exact congrArg nI (pN_f (fun h => by omega)).symm), ht⟩) (fun _ h => absurd h List.not_mem_nil) dX8_within_15
set_option maxHeartbeats 4000000 in
set_option maxRecDepth 100000 in
theorem c_X8_endOf (l : Launch) (D : va_G) (cI cL cZ : ClassId) (hm : Nat) (am : Nat → Nat) (n : Nat) (pos : Nat) (cmp : Nat) (que : Nat) (dsz : Nat) (mad : Nat) (cur : Nat) (stp : Nat) (met : Nat) (bst : Nat) (dgt : Nat → Nat) (E : Nat → Nat) (N : Nat) (f : Nat) (tv : TV dgt E N) (hf : f < N) : Met l yX8_endOf wsX8_endOf { frames := 0, cells := 0, slots := 0, locals := 0 } (rP D (tyL cI cL cZ) [(hm, .inr (6, oM am n pos cmp que dsz mad cur stp met bst)), (am 1, .inl (cI, 18, .inl (nA dgt)))] [.ref hm, .int (nI f)]) (vp_Si (fun r => r = (nI (E f)))) 0 0 (fun _ => False) := by
  refine Met.ofW (cc := cX8_endOf) (maxL := 4) (ret := (some .int)) (by decide) rfl ?_
  intro pG eG s mG args below meth cG s₁ B hml hpre9
  obtain ⟨rfl, hP, hK⟩ := hpre9
  have hx := B.exec
  have hb := B.bytes
  have hr := B.returns
  have hts := atoms_spec (ws := wsX8_endOf) B.pre
  have hown : s.vm.findClass RX8 = some mG.cls := findClass_of_methodNamed B.named
  have hlocks := B.notSynchronized
  have hS : va_S (fun _ => False) s.heap s.heap [] := va_S.rf
  have hinX8 : ∀ w ∈ wsX80, w ∈ wsX8_endOf := fun w HH => (List.mem_cons_of_mem _ (List.mem_append_right _ HH))
  have lk0 : (Cond.fieldLink RX8 7 "RegexSimplifierModel" "digit" "[I").before _ s = true := hts _ (List.mem_cons_of_mem _ (List.mem_append_left _ (List.mem_of_getElem? (i := 0) rfl)))
  have hl := lv_entry ([.ref hm, .int (nI f)]) (n := 4) (Nat.le_of_ble_eq_true rfl)
  rw [lg_entry_eq]
  generalize (lg_sl ([.ref hm, .int (nI f)]) ++ List.replicate (4 - (lg_sl ([.ref hm, .int (nI f)])).length) Slot.unset).toArray = ls at hl ⊢
  have hl : lv_has ls 4 [(0, .ref hm), (1, .int (nI f))] := hl
  have hn18 := tv.n18
  have hfe := tv.q hf
  refine lv_iconst (pc := 0) (v := (nI (1))) hx hb dX8_endOf_0 (by decide) ?_
  refine lv_istore_n (pc := 1) (lv' := [(2, .int (nI 1)), (0, .ref hm), (1, .int (nI f))]) hx hb dX8_endOf_1 rfl hl (by decide) rfl (fun ls hl => ?_)
  refine lv_iload_n (pc := 2) hx hb dX8_endOf_2 rfl (lv_at hl 2 rfl) ?_
  refine lv_istore_n (pc := 3) (lv' := [(3, .int (nI f)), (2, .int (nI 1)), (0, .ref hm), (1, .int (nI f))]) hx hb dX8_endOf_3 rfl hl (by decide) rfl (fun ls hl => ?_)
  have loop4 : ∀ (fuel : Nat) (o : Nat) (k : Nat) (ls : Array Slot), N - k < fuel → (gc E N (E f) o k) → lv_has ls 4 [(0, .ref hm), (1, .int (nI f)), (2, .int (nI o)), (3, .int (nI k))] → W pG l eG (headSpec wsX8_endOf { frames := 0, cells := 0, slots := 0, locals := 0 }).room s mG [.ref hm, .int (nI f)].toArray below meth cG s.heap [] 0 0 (MQ below (vp_Si (fun r => r = (nI (E f)))) [.ref hm, .int (nI f)].toArray s 0 0 (fun _ => False)) (F0 mG 4 ls []) := by
    intro fuel
    induction fuel with
    | zero => intro o k ls hmeas i1 hl; exact absurd hmeas (Nat.not_lt_zero _)
    | succ fuel ih4 =>
      intro o k ls hmeas i1 hl
      have hle := gc_le (fun q hq => (tv.q hq).2.2.1) o k i1
      refine lv_iload_n (pc := 4) hx hb dX8_endOf_4 rfl (lv_at hl 2 rfl) ?_
      refine xn_if_le (pc := 5) (tgt := 48) hx hb (by omega) dX8_endOf_5 (by decide) (fun c5 => ?_) (fun c5 => ?_)
      · subst c5
        have hke : k = E f := i1
        refine lv_iload_n (pc := 48) hx hb dX8_endOf_48 rfl (lv_at hl 3 rfl) ?_
        exact W.iret (pc := 49) (v := (nI (k))) hx hb hr (fun t ht _ => ⟨_, rfl, (by rw [hke]), ht⟩) (fun _ h => absurd h List.not_mem_nil) dX8_endOf_49
      · have hk := gc_lt i1 c5
        have hq := tv.q hk
        refine lv_iload_n (pc := 8) hx hb dX8_endOf_8 rfl (lv_at hl 2 rfl) ?_
        refine lv_aload_n (pc := 9) hx hb dX8_endOf_9 rfl (lv_at hl 0 rfl) ?_
        refine va_get (pc := 10) (D := D) (ci := 6) (v := .ref (am 1)) (C := RX8) (T := TX8) (N := 30) hx hb hts hinX8 hown hK hP 0 rfl rfl 1 (by decide) lk0 (fun _ h9 => h9) rfl dX8_endOf_10 ?_
        refine lv_iload_n (pc := 13) hx hb dX8_endOf_13 rfl (lv_at hl 3 rfl) ?_
        refine xa_iald (pc := 14) hx hb hK hP 1 0 rfl rfl (by omega) (by omega) dX8_endOf_14 ?_
        refine lv_bipush (pc := 15) (v := (nI (6))) hx hb dX8_endOf_15 (by decide) ?_
        refine xn_icmp_ge (pc := 17) (tgt := 24) hx hb (by omega) (by omega) dX8_endOf_17 (by decide) (fun c17 => ?_) (fun c17 => ?_)
        · refine lv_aload_n (pc := 24) hx hb dX8_endOf_24 rfl (lv_at hl 0 rfl) ?_
          refine va_get (pc := 25) (D := D) (ci := 6) (v := .ref (am 1)) (C := RX8) (T := TX8) (N := 30) hx hb hts hinX8 hown hK hP 0 rfl rfl 1 (by decide) lk0 (fun _ h9 => h9) rfl dX8_endOf_25 ?_
          refine lv_iload_n (pc := 28) hx hb dX8_endOf_28 rfl (lv_at hl 3 rfl) ?_
          refine xa_iald (pc := 29) hx hb hK hP 1 0 rfl rfl (by omega) (by omega) dX8_endOf_29 ?_
          refine lv_bipush (pc := 30) (v := (nI (8))) hx hb dX8_endOf_30 (by decide) ?_
          refine xn_icmp_ne (pc := 32) (tgt := 39) hx hb (by omega) (by omega) dX8_endOf_32 (by decide) (fun c32 => ?_) (fun c32 => ?_)
          · refine lv_iconst (pc := 39) (v := (nI (1))) hx hb dX8_endOf_39 (by decide) ?_
            refine xn_iadd (pc := 40) hx hb  dX8_endOf_40 ?_
            refine lv_istore_n (pc := 41) (lv' := [(2, .int (nI (o + 1))), (0, .ref hm), (1, .int (nI f)), (3, .int (nI k))]) hx hb dX8_endOf_41 rfl hl (by decide) rfl (fun ls hl => ?_)
            refine lv_iinc (pc := 42) (v := (nI (k + 1))) (lv' := [(3, .int (nI (k + 1))), (2, .int (nI (o + 1))), (0, .ref hm), (1, .int (nI f))]) hx hb dX8_endOf_42 hl (k := 3) rfl (nI_incr _) (by decide) rfl (fun ls hl => ?_)
            refine lv_goto (pc := 45) (tgt := 4) hx hb dX8_endOf_45 (by decide) ?_
            exact ih4 (o + 1) (k + 1) ls (by omega) (by have hg := gc_step tv i1 c5; first | (rw [if_pos (by omega)] at hg; exact hg) | (rw [if_neg (by omega), if_pos (by omega)] at hg; exact hg) | (rw [if_neg (by omega), if_neg (by omega)] at hg; exact hg)) (lv_sub hl [2, 3, 1, 0] rfl)
          · refine lv_iconst (pc := 35) (v := (nI (0))) hx hb dX8_endOf_35 (by decide) ?_
            refine lv_goto (pc := 36) (tgt := 40) hx hb dX8_endOf_36 (by decide) ?_
            refine xn_iadd (pc := 40) hx hb  dX8_endOf_40 ?_
            refine lv_istore_n (pc := 41) (lv' := [(2, .int (nI (o + 0))), (0, .ref hm), (1, .int (nI f)), (3, .int (nI k))]) hx hb dX8_endOf_41 rfl hl (by decide) rfl (fun ls hl => ?_)
            refine lv_iinc (pc := 42) (v := (nI (k + 1))) (lv' := [(3, .int (nI (k + 1))), (2, .int (nI (o + 0))), (0, .ref hm), (1, .int (nI f))]) hx hb dX8_endOf_42 hl (k := 3) rfl (nI_incr _) (by decide) rfl (fun ls hl => ?_)
            refine lv_goto (pc := 45) (tgt := 4) hx hb dX8_endOf_45 (by decide) ?_
            exact ih4 (o + 0) (k + 1) ls (by omega) (by have hg := gc_step tv i1 c5; first | (rw [if_pos (by omega)] at hg; exact hg) | (rw [if_neg (by omega), if_pos (by omega)] at hg; exact hg) | (rw [if_neg (by omega), if_neg (by omega)] at hg; exact hg)) (lv_sub hl [2, 3, 1, 0] rfl)
        · refine lv_iconst (pc := 20) (v := ((-1))) hx hb dX8_endOf_20 (by decide) ?_
          refine lv_goto (pc := 21) (tgt := 40) hx hb dX8_endOf_21 (by decide) ?_
          refine xn_iaddm (pc := 40) hx hb (by omega) dX8_endOf_40 ?_
          refine lv_istore_n (pc := 41) (lv' := [(2, .int (nI (o - 1))), (0, .ref hm), (1, .int (nI f)), (3, .int (nI k))]) hx hb dX8_endOf_41 rfl hl (by decide) rfl (fun ls hl => ?_)
          refine lv_iinc (pc := 42) (v := (nI (k + 1))) (lv' := [(3, .int (nI (k + 1))), (2, .int (nI (o - 1))), (0, .ref hm), (1, .int (nI f))]) hx hb dX8_endOf_42 hl (k := 3) rfl (nI_incr _) (by decide) rfl (fun ls hl => ?_)
          refine lv_goto (pc := 45) (tgt := 4) hx hb dX8_endOf_45 (by decide) ?_
          exact ih4 (o - 1) (k + 1) ls (by omega) (by have hg := gc_step tv i1 c5; first | (rw [if_pos (by omega)] at hg; exact hg) | (rw [if_neg (by omega), if_pos (by omega)] at hg; exact hg) | (rw [if_neg (by omega), if_neg (by omega)] at hg; exact hg)) (lv_sub hl [2, 3, 1, 0] rfl)
  exact loop4 (_ + 1) 1 f ls (Nat.lt_succ_self _) ⟨hf, rfl⟩ (lv_sub hl [2, 3, 1, 0] rfl)
set_option maxHeartbeats 4000000 in
set_option maxRecDepth 100000 in
theorem c_X8_areSame (l : Launch) (D : va_G) (cI cL cZ : ClassId) (hm : Nat) (am : Nat → Nat) (n : Nat) (pos : Nat) (cmp : Nat) (que : Nat) (dsz : Nat) (mad : Nat) (cur : Nat) (stp : Nat) (met : Nat) (bst : Nat) (dgt : Nat → Nat) (E : Nat → Nat) (N : Nat) (a : Nat) (b : Nat) (tv : TV dgt E N) (ha : a < N) (hb2 : b < N) : Met l yX8_areSame wsX8_areSame { frames := 1, cells := 0, slots := 0, locals := 23 } (rP D (tyL cI cL cZ) [(hm, .inr (6, oM am n pos cmp que dsz mad cur stp met bst)), (am 1, .inl (cI, 18, .inl (nA dgt)))] [.ref hm, .int (nI a), .int (nI b)]) (vp_Si (fun r => r = (nI (pN (smD dgt E a b = true))))) 0 0 (fun _ => False) := by
  refine Met.ofW (cc := cX8_areSame) (maxL := 5) (ret := (some .boolean)) (by decide) rfl ?_
  intro pG eG s mG args below meth cG s₁ B hml hpre9
  obtain ⟨rfl, hP, hK⟩ := hpre9
  have hx := B.exec
  have hb := B.bytes
  have hr := B.returns
  have hts := atoms_spec (ws := wsX8_areSame) B.pre
  have hown : s.vm.findClass RX8 = some mG.cls := findClass_of_methodNamed B.named
  have hlocks := B.notSynchronized
  have hS : va_S (fun _ => False) s.heap s.heap [] := va_S.rf
  have hinX8 : ∀ w ∈ wsX80, w ∈ wsX8_areSame := fun w HH => (List.mem_cons_of_mem _ (List.mem_append_right _ HH))
  have lk0 : (Cond.fieldLink RX8 7 "RegexSimplifierModel" "digit" "[I").before _ s = true := hts _ (List.mem_cons_of_mem _ (List.mem_append_left _ (List.mem_of_getElem? (i := 0) rfl)))
  have hl := lv_entry ([.ref hm, .int (nI a), .int (nI b)]) (n := 5) (Nat.le_of_ble_eq_true rfl)
  rw [lg_entry_eq]
  generalize (lg_sl ([.ref hm, .int (nI a), .int (nI b)]) ++ List.replicate (5 - (lg_sl ([.ref hm, .int (nI a), .int (nI b)])).length) Slot.unset).toArray = ls at hl ⊢
  have hl : lv_has ls 5 [(0, .ref hm), (1, .int (nI a)), (2, .int (nI b))] := hl
  have hn18 := tv.n18
  have hqa := tv.q ha
  have hqb := tv.q hb2
  refine lv_aload_n (pc := 0) hx hb dX8_areSame_0 rfl (lv_at hl 0 rfl) ?_
  refine lv_iload_n (pc := 1) hx hb dX8_areSame_1 rfl (lv_at hl 1 rfl) ?_
  refine vp_callSi (pc := 2) (W.runV (As := [.int (nI a)]) (rest := []) ⟨hx, hb, hml, hown, hts⟩ (c_X8_endOf l D cI cL cZ hm am n pos cmp que dsz mad cur stp met bst dgt E N a tv ha) (cwV 1 hts gX8_areSame_X8_endOf rfl rfl rfl (by decide +kernel) ⟨Nat.le_of_ble_eq_true rfl, Nat.le_of_ble_eq_true rfl⟩) (rP_V (wc := [(hm, .inr (6, oM am n pos cmp que dsz mad cur stp met bst)), (am 1, .inl (cI, 18, .inl (nA dgt)))]) (ci := 6) (q0 := 0) hK hP [0, 1] rfl rfl rfl) rfl rfl hl.1 rfl (lv_room (Nat.le_of_ble_eq_true rfl)) dX8_areSame_2 ⟨Nat.zero_le _, Nat.zero_le _⟩) (fun r hrr => ?_)
  rw [hrr]
  refine lv_iload_n (pc := 5) hx hb dX8_areSame_5 rfl (lv_at hl 1 rfl) ?_
  refine xn_isub (pc := 6) hx hb (by omega) dX8_areSame_6 ?_
  refine lv_istore_n (pc := 7) (lv' := [(3, .int (nI ((E a) - a))), (0, .ref hm), (1, .int (nI a)), (2, .int (nI b))]) hx hb dX8_areSame_7 rfl hl (by decide) rfl (fun ls hl => ?_)
  refine lv_aload_n (pc := 8) hx hb dX8_areSame_8 rfl (lv_at hl 1 rfl) ?_
  refine lv_iload_n (pc := 9) hx hb dX8_areSame_9 rfl (lv_at hl 3 rfl) ?_
  refine vp_callSi (pc := 10) (W.runV (As := [.int (nI b)]) (rest := []) ⟨hx, hb, hml, hown, hts⟩ (c_X8_endOf l D cI cL cZ hm am n pos cmp que dsz mad cur stp met bst dgt E N b tv hb2) (cwV 1 hts gX8_areSame_X8_endOf rfl rfl rfl (by decide +kernel) ⟨Nat.le_of_ble_eq_true rfl, Nat.le_of_ble_eq_true rfl⟩) (rP_V (wc := [(hm, .inr (6, oM am n pos cmp que dsz mad cur stp met bst)), (am 1, .inl (cI, 18, .inl (nA dgt)))]) (ci := 6) (q0 := 0) hK hP [0, 1] rfl rfl rfl) rfl rfl hl.1 rfl (lv_room (Nat.le_of_ble_eq_true rfl)) dX8_areSame_10 ⟨Nat.zero_le _, Nat.zero_le _⟩) (fun r hrr => ?_)
  rw [hrr]
  refine lv_iload_n (pc := 13) hx hb dX8_areSame_13 rfl (lv_at hl 3 rfl) ?_
  refine xn_isub (pc := 14) hx hb (by omega) dX8_areSame_14 ?_
  refine lv_iload_n (pc := 15) hx hb dX8_areSame_15 rfl (lv_at hl 0 rfl) ?_
  refine xn_icmp_eq (pc := 16) (tgt := 21) hx hb (by omega) (by omega) dX8_areSame_16 (by decide) (fun c16 => ?_) (fun c16 => ?_)
  · refine lv_iconst (pc := 21) (v := (nI (0))) hx hb dX8_areSame_21 (by decide) ?_
    refine lv_istore (pc := 22) (lv' := [(4, .int (nI 0)), (3, .int (nI ((E a) - a))), (0, .ref hm), (1, .int (nI a)), (2, .int (nI b))]) hx hb dX8_areSame_22 hl (by decide) rfl (fun ls hl => ?_)
    have loop24 : ∀ (fuel : Nat) (k : Nat) (ls : Array Slot), E a - a - k < fuel → (∀ j, j < k → dgt (a + j) = dgt (b + j)) → (k ≤ E a - a) → lv_has ls 5 [(0, .ref hm), (1, .int (nI a)), (2, .int (nI b)), (3, .int (nI (E a - a))), (4, .int (nI k))] → W pG l eG (headSpec wsX8_areSame { frames := 1, cells := 0, slots := 0, locals := 23 }).room s mG [.ref hm, .int (nI a), .int (nI b)].toArray below meth cG s.heap [] 0 0 (MQ below (vp_Si (fun r => r = (nI (pN (smD dgt E a b = true))))) [.ref hm, .int (nI a), .int (nI b)].toArray s 0 0 (fun _ => False)) (F0 mG 24 ls []) := by
      intro fuel
      induction fuel with
      | zero => intro k ls hmeas i1 i2 hl; exact absurd hmeas (Nat.not_lt_zero _)
      | succ fuel ih24 =>
        intro k ls hmeas i1 i2 hl
        refine lv_iload (pc := 24) hx hb dX8_areSame_24 (lv_at hl 4 rfl) ?_
        refine lv_iload_n (pc := 26) hx hb dX8_areSame_26 rfl (lv_at hl 3 rfl) ?_
        refine xn_icmp_ge (pc := 27) (tgt := 59) hx hb (by omega) (by omega) dX8_areSame_27 (by decide) (fun c27 => ?_) (fun c27 => ?_)
        · refine lv_iconst (pc := 59) (v := (nI (1))) hx hb dX8_areSame_59 (by decide) ?_
          exact W.zret (pc := 60) (v := (nI (1))) (ty := .boolean) hx hb hr (by decide) (fun t ht _ => ⟨_, rfl, (congrArg nI (pN_t (smD_iff.mpr ⟨c16.symm, fun j hj => i1 j (by omega)⟩)).symm), ht⟩) (fun _ h => absurd h List.not_mem_nil) dX8_areSame_60
        · refine lv_aload_n (pc := 30) hx hb dX8_areSame_30 rfl (lv_at hl 0 rfl) ?_
          refine va_get (pc := 31) (D := D) (ci := 6) (v := .ref (am 1)) (C := RX8) (T := TX8) (N := 30) hx hb hts hinX8 hown hK hP 0 rfl rfl 1 (by decide) lk0 (fun _ h9 => h9) rfl dX8_areSame_31 ?_
          refine lv_iload_n (pc := 34) hx hb dX8_areSame_34 rfl (lv_at hl 1 rfl) ?_
          refine lv_iload (pc := 35) hx hb dX8_areSame_35 (lv_at hl 4 rfl) ?_
          refine xn_iadd (pc := 37) hx hb  dX8_areSame_37 ?_
          refine xa_iald (pc := 38) hx hb hK hP 1 0 rfl rfl (by omega) (by omega) dX8_areSame_38 ?_
          refine lv_aload_n (pc := 39) hx hb dX8_areSame_39 rfl (lv_at hl 0 rfl) ?_
          refine va_get (pc := 40) (D := D) (ci := 6) (v := .ref (am 1)) (C := RX8) (T := TX8) (N := 30) hx hb hts hinX8 hown hK hP 0 rfl rfl 1 (by decide) lk0 (fun _ h9 => h9) rfl dX8_areSame_40 ?_
          refine lv_iload_n (pc := 43) hx hb dX8_areSame_43 rfl (lv_at hl 2 rfl) ?_
          refine lv_iload (pc := 44) hx hb dX8_areSame_44 (lv_at hl 4 rfl) ?_
          refine xn_iadd (pc := 46) hx hb  dX8_areSame_46 ?_
          refine xa_iald (pc := 47) hx hb hK hP 1 0 rfl rfl (by omega) (by omega) dX8_areSame_47 ?_
          have hda := tv.q (show a + k < N by omega)
          have hdb := tv.q (show b + k < N by omega)
          refine xn_icmp_eq (pc := 48) (tgt := 53) hx hb (by omega) (by omega) dX8_areSame_48 (by decide) (fun c48 => ?_) (fun c48 => ?_)
          · refine lv_iinc (pc := 53) (v := (nI (k + 1))) (lv' := [(4, .int (nI (k + 1))), (0, .ref hm), (1, .int (nI a)), (2, .int (nI b)), (3, .int (nI (E a - a)))]) hx hb dX8_areSame_53 hl (k := 4) rfl (nI_incr _) (by decide) rfl (fun ls hl => ?_)
            refine lv_goto (pc := 56) (tgt := 24) hx hb dX8_areSame_56 (by decide) ?_
            exact ih24 (k + 1) ls (by omega) (lt_s i1 c48) (by omega) (lv_sub hl [1, 2, 3, 4, 0] rfl)
          · refine lv_iconst (pc := 51) (v := (nI (0))) hx hb dX8_areSame_51 (by decide) ?_
            exact W.zret (pc := 52) (v := (nI (0))) (ty := .boolean) hx hb hr (by decide) (fun t ht _ => ⟨_, rfl, (congrArg nI (pN_f (fun h => c48 ((smD_iff.mp h).2 k (by omega)))).symm), ht⟩) (fun _ h => absurd h List.not_mem_nil) dX8_areSame_52
    exact loop24 (_ + 1) 0 ls (Nat.lt_succ_self _) (fun j hj => absurd hj (by omega)) (by omega) (lv_sub hl [2, 3, 4, 1, 0] rfl)
  · refine lv_iconst (pc := 19) (v := (nI (0))) hx hb dX8_areSame_19 (by decide) ?_
    exact W.zret (pc := 20) (v := (nI (0))) (ty := .boolean) hx hb hr (by decide) (fun t ht _ => ⟨_, rfl, (congrArg nI (pN_f (fun h => c16 (smD_iff.mp h).1.symm)).symm), ht⟩) (fun _ h => absurd h List.not_mem_nil) dX8_areSame_20
set_option maxHeartbeats 4000000 in
set_option maxRecDepth 100000 in
theorem c_X8_parses (l : Launch) (D : va_G) (cI cL cZ : ClassId) (sz : Nat) (hm : Nat) (am : Nat → Nat) (n : Nat) (pos : Nat) (cmp : Nat) (que : Nat) (dsz : Nat) (mad : Nat) (cur : Nat) (stp : Nat) (met : Nat) (bst : Nat) (dgt : Nat → Nat) (x : Int64)  : Met l yX8_parses wsX8_parses { frames := 1, cells := 0, slots := 0, locals := 22 } (mP D (tyL cI cL cZ) [(hm, .inr (6, oM am n pos cmp que dsz mad cur stp met bst)), (am 1, .inl (cI, 18, .inl (nA dgt)))] sz [.ref hm, .long x]) (va_Qi (fun (r : Int32) (u : Nat × (Nat → Nat)) => r = (nI (pN (okVb (xv x) = true))) ∧ (u.1 ≤ 19 ∧ (okVb (xv x) = true → u.1 = dc (xv x) ∧ ∀ j, j < u.1 → u.2 j = dg (xv x) j))) (fun (u : Nat × (Nat → Nat)) (t : State) => mB D (tyL cI cL cZ) (va_A [(hm, .inr (6, oM am n pos cmp que dsz mad cur stp met bst)), (am 1, .inl (cI, 18, .inl (nA dgt)))] sz) [(hm, .inr (6, oM am (u.1) pos cmp que dsz mad cur stp met bst)), (am 1, .inl (cI, 18, .inl (nA (u.2))))] t) (va_A [(hm, .inr (6, oM am n pos cmp que dsz mad cur stp met bst)), (am 1, .inl (cI, 18, .inl (nA dgt)))] sz)) 0 0 (va_A [(hm, .inr (6, oM am n pos cmp que dsz mad cur stp met bst)), (am 1, .inl (cI, 18, .inl (nA dgt)))] sz) := by
  refine Met.ofW (cc := cX8_parses) (maxL := 7) (ret := (some .boolean)) (by decide) rfl ?_
  intro pG eG s mG args below meth cG s₁ B hml hpre9
  obtain ⟨rfl, hsz, hP, hK, hD0⟩ := hpre9
  have hx := B.exec
  have hb := B.bytes
  have hr := B.returns
  have hts := atoms_spec (ws := wsX8_parses) B.pre
  have hown : s.vm.findClass RX8 = some mG.cls := findClass_of_methodNamed B.named
  have hlocks := B.notSynchronized
  subst hsz
  have hD := hD0.self (sz := s.heap.size)
  have hA : ∀ q : Nat, s.heap.size ≤ q → va_A [(hm, .inr (6, oM am n pos cmp que dsz mad cur stp met bst)), (am 1, .inl (cI, 18, .inl (nA dgt)))] s.heap.size q := fun q h => Or.inr h
  have hS : va_S (va_A [(hm, .inr (6, oM am n pos cmp que dsz mad cur stp met bst)), (am 1, .inl (cI, 18, .inl (nA dgt)))] s.heap.size) s.heap s.heap [] := va_S.rf
  have hinX8 : ∀ w ∈ wsX80, w ∈ wsX8_parses := fun w HH => (List.mem_cons_of_mem _ (List.mem_append_right _ HH))
  have lk0 : (Cond.fieldLink RX8 78 "RegexSimplifierModel" "n" "I").before _ s = true := hts _ (List.mem_cons_of_mem _ (List.mem_append_left _ (List.mem_of_getElem? (i := 0) rfl)))
  have lk1 : (Cond.fieldLink RX8 7 "RegexSimplifierModel" "digit" "[I").before _ s = true := hts _ (List.mem_cons_of_mem _ (List.mem_append_left _ (List.mem_of_getElem? (i := 2) rfl)))
  have lk2 : (Cond.constantLong RX8 82 (10)).before _ s = true := hts _ (List.mem_cons_of_mem _ (List.mem_append_left _ (List.mem_of_getElem? (i := 1) rfl)))
  have hl := lv_entry ([.ref hm, .long x]) (n := 7) (Nat.le_of_ble_eq_true rfl)
  rw [lg_entry_eq]
  generalize (lg_sl ([.ref hm, .long x]) ++ List.replicate (7 - (lg_sl ([.ref hm, .long x])).length) Slot.unset).toArray = ls at hl ⊢
  have hl : lv_has ls 7 [(0, .ref hm), (1, .long x)] := hl
  rcases lN_split x with hneg | ⟨v, hv0, hv, rfl⟩
  · have hno : ¬ okVb (xv x) = true := okVb_small (Or.inl (xv_neg hneg))
    refine lv_aload_n (pc := 0) hx hb dX8_parses_0 rfl (lv_at hl 0 rfl) ?_
    refine lv_iconst (pc := 1) (v := (nI (0))) hx hb dX8_parses_1 (by decide) ?_
    refine va_put (pc := 2) (D := D) (ci := 6) (v := .int (nI 0)) (ty := .int) (C := RX8) (T := TX8) (N := 30) hx hb hts hinX8 tyX8 tyX8_ok nmX8 hown hK hP hD hS 0 rfl rfl 0 (by decide) lk0 (fun _ h9 => h9) rfl (by decide +kernel) rfl rfl (Nat.le_of_ble_eq_true rfl) dX8_parses_2 (fun H locs hP hD hS => ?_)
    have hP : va_P D vwCl [(hm, .inr (6, oM am 0 pos cmp que dsz mad cur stp met bst)), (am 1, .inl (cI, 18, .inl (nA dgt)))] H := hP
    have hD : va_D _ [(hm, .inr (6, oM am 0 pos cmp que dsz mad cur stp met bst)), (am 1, .inl (cI, 18, .inl (nA dgt)))] := hD
    refine lv_lload_n (pc := 5) hx hb dX8_parses_5 rfl (lv_at hl 1 rfl) ?_
    refine lv_lstore_n (pc := 6) (lv' := [(3, .long x), (0, .ref hm), (1, .long x)]) hx hb dX8_parses_6 rfl hl (by decide) rfl (fun ls hl => ?_)
    refine lv_lload_n (pc := 7) hx hb dX8_parses_7 rfl (lv_at hl 0 rfl) ?_
    refine lv_lconst (pc := 8) (v := (lN (0))) hx hb dX8_parses_8 (by decide) ?_
    refine xl_le (pc := 9) (tgt := 32) hx hb dX8_parses_9 dX8_parses_10 (by decide) (fun c9 => ?_) (fun c9 => ?_)
    · refine lv_aload_n (pc := 32) hx hb dX8_parses_32 rfl (lv_at hl 1 rfl) ?_
      refine va_get (pc := 33) (D := D) (ci := 6) (v := .int (nI 0)) (C := RX8) (T := TX8) (N := 30) hx hb hts hinX8 hown hK hP 0 rfl rfl 0 (by decide) lk0 (fun _ h9 => h9) rfl dX8_parses_33 ?_
      refine lv_iconst (pc := 36) (v := (nI (1))) hx hb dX8_parses_36 (by decide) ?_
      refine lv_bipush (pc := 37) (v := (nI (18))) hx hb dX8_parses_37 (by decide) ?_
      refine vp_callSi (pc := 39) (W.runS (As := [.int (nI 0), .int (nI 1), .int (nI 18)]) (rest := []) ⟨hx, hb, hml, hown, hts⟩ (c_X8_withinN l D cI cL cZ 0 1 18 (by omega) (by omega) (by omega)) (va_cwS 3 hts gX8_parses_X8_within rfl rfl rfl (by decide +kernel) ⟨Nat.le_of_ble_eq_true rfl, Nat.le_of_ble_eq_true rfl⟩) (rP_S (wc := []) hK hP [] rfl) rfl rfl hl.1 rfl (lv_room (Nat.le_of_ble_eq_true rfl)) dX8_parses_39 ⟨Nat.zero_le _, Nat.zero_le _⟩) (fun r hrr => ?_)
      rw [hrr]
      refine xp_if_ne (pc := 42) (tgt := 47) hx hb dX8_parses_42 (by decide) (fun c42 => ?_) (fun c42 => ?_)
      · exact absurd c42.1 (by omega)
      · refine lv_iconst (pc := 45) (v := (nI (0))) hx hb dX8_parses_45 (by decide) ?_
        have hP9 : va_P D vwCl [(hm, .inr (6, oM am 0 pos cmp que dsz mad cur stp met bst)), (am 1, .inl (cI, 18, .inl (nA dgt)))] H := hP.sub [0, 1] rfl
        have hD9 : va_D _ [(hm, .inr (6, oM am 0 pos cmp que dsz mad cur stp met bst)), (am 1, .inl (cI, 18, .inl (nA dgt)))] := hD.sub [0, 1] (by decide) rfl
        exact W.zret (pc := 46) (v := (nI (0))) (ty := .boolean) hx hb hr (by decide) (fun t ht hW => ⟨⟨_, (0, dgt), rfl, ⟨(congrArg nI (pN_f hno).symm), ⟨by omega, fun h => absurd h hno⟩⟩, by rw [ht]; exact hP9, va_K.moved hW.alike hK, hD9⟩, hS.F ht⟩) hS.2.2 dX8_parses_46
    · exact absurd c9 hneg
  · have hdc := dc_in v
    refine lv_aload_n (pc := 0) hx hb dX8_parses_0 rfl (lv_at hl 0 rfl) ?_
    refine lv_iconst (pc := 1) (v := (nI (0))) hx hb dX8_parses_1 (by decide) ?_
    refine va_put (pc := 2) (D := D) (ci := 6) (v := .int (nI 0)) (ty := .int) (C := RX8) (T := TX8) (N := 30) hx hb hts hinX8 tyX8 tyX8_ok nmX8 hown hK hP hD hS 0 rfl rfl 0 (by decide) lk0 (fun _ h9 => h9) rfl (by decide +kernel) rfl rfl (Nat.le_of_ble_eq_true rfl) dX8_parses_2 (fun H locs hP hD hS => ?_)
    have hP : va_P D vwCl [(hm, .inr (6, oM am 0 pos cmp que dsz mad cur stp met bst)), (am 1, .inl (cI, 18, .inl (nA dgt)))] H := hP
    have hD : va_D _ [(hm, .inr (6, oM am 0 pos cmp que dsz mad cur stp met bst)), (am 1, .inl (cI, 18, .inl (nA dgt)))] := hD
    refine lv_lload_n (pc := 5) hx hb dX8_parses_5 rfl (lv_at hl 1 rfl) ?_
    refine lv_lstore_n (pc := 6) (lv' := [(3, .long (lN v)), (0, .ref hm), (1, .long (lN v))]) hx hb dX8_parses_6 rfl hl (by decide) rfl (fun ls hl => ?_)
    have loop7 : ∀ (fuel : Nat) (i : Nat) (ls : Array Slot) (H : Heap) (locs : List Loc), 20 - i < fuel → (i ≤ 19) → (i = 0 ∨ 10 ^ (i - 1) ≤ v) → lv_has ls 7 [(0, .ref hm), (1, .long (lN v)), (3, .long (lN (v / 10 ^ i)))] → va_P D vwCl [(hm, .inr (6, oM am i pos cmp que dsz mad cur stp met bst)), (am 1, .inl (cI, 18, .inl (nA dgt)))] H → va_D (va_A [(hm, .inr (6, oM am n pos cmp que dsz mad cur stp met bst)), (am 1, .inl (cI, 18, .inl (nA dgt)))] s.heap.size) [(hm, .inr (6, oM am i pos cmp que dsz mad cur stp met bst)), (am 1, .inl (cI, 18, .inl (nA dgt)))] → va_S (va_A [(hm, .inr (6, oM am n pos cmp que dsz mad cur stp met bst)), (am 1, .inl (cI, 18, .inl (nA dgt)))] s.heap.size) s.heap H locs → W pG l eG (headSpec wsX8_parses { frames := 1, cells := 0, slots := 0, locals := 22 }).room s mG [.ref hm, .long (lN (v))].toArray below meth cG H locs 0 0 (MQ below (va_Qi (fun (r : Int32) (u : Nat × (Nat → Nat)) => r = (nI (pN (okVb (xv (lN (v))) = true))) ∧ (u.1 ≤ 19 ∧ (okVb (xv (lN (v))) = true → u.1 = dc (xv (lN (v))) ∧ ∀ j, j < u.1 → u.2 j = dg (xv (lN (v))) j))) (fun (u : Nat × (Nat → Nat)) (t : State) => mB D (tyL cI cL cZ) (va_A [(hm, .inr (6, oM am n pos cmp que dsz mad cur stp met bst)), (am 1, .inl (cI, 18, .inl (nA dgt)))] s.heap.size) [(hm, .inr (6, oM am (u.1) pos cmp que dsz mad cur stp met bst)), (am 1, .inl (cI, 18, .inl (nA (u.2))))] t) (va_A [(hm, .inr (6, oM am n pos cmp que dsz mad cur stp met bst)), (am 1, .inl (cI, 18, .inl (nA dgt)))] s.heap.size)) [.ref hm, .long (lN (v))].toArray s 0 0 (va_A [(hm, .inr (6, oM am n pos cmp que dsz mad cur stp met bst)), (am 1, .inl (cI, 18, .inl (nA dgt)))] s.heap.size)) (F0 mG 7 ls []) := by
      intro fuel
      induction fuel with
      | zero => intro i ls H locs hmeas i1 i2 hl hP hD hS; exact absurd hmeas (Nat.not_lt_zero _)
      | succ fuel ih7 =>
        intro i ls H locs hmeas i1 i2 hl hP hD hS
        refine lv_lload_n (pc := 7) hx hb dX8_parses_7 rfl (lv_at hl 2 rfl) ?_
        refine lv_lconst (pc := 8) (v := (lN (0))) hx hb dX8_parses_8 (by decide) ?_
        refine xnl_le (pc := 9) (tgt := 32) hx hb (Nat.lt_of_le_of_lt (Nat.div_le_self _ _) hv) (by omega) dX8_parses_9 dX8_parses_10 (by decide) (fun c9 => ?_) (fun c9 => ?_)
        · have hi := dc_uniq hv0 hv c9 i2; subst hi
          refine lv_aload_n (pc := 32) hx hb dX8_parses_32 rfl (lv_at hl 0 rfl) ?_
          refine va_get (pc := 33) (D := D) (ci := 6) (v := .int (nI (dc v))) (C := RX8) (T := TX8) (N := 30) hx hb hts hinX8 hown hK hP 0 rfl rfl 0 (by decide) lk0 (fun _ h9 => h9) rfl dX8_parses_33 ?_
          refine lv_iconst (pc := 36) (v := (nI (1))) hx hb dX8_parses_36 (by decide) ?_
          refine lv_bipush (pc := 37) (v := (nI (18))) hx hb dX8_parses_37 (by decide) ?_
          refine vp_callSi (pc := 39) (W.runS (As := [.int (nI (dc v)), .int (nI 1), .int (nI 18)]) (rest := []) ⟨hx, hb, hml, hown, hts⟩ (c_X8_withinN l D cI cL cZ (dc v) 1 18 (by omega) (by omega) (by omega)) (va_cwS 3 hts gX8_parses_X8_within rfl rfl rfl (by decide +kernel) ⟨Nat.le_of_ble_eq_true rfl, Nat.le_of_ble_eq_true rfl⟩) (rP_S (wc := []) hK hP [] rfl) rfl rfl hl.1 rfl (lv_room (Nat.le_of_ble_eq_true rfl)) dX8_parses_39 ⟨Nat.zero_le _, Nat.zero_le _⟩) (fun r hrr => ?_)
          rw [hrr]
          refine xp_if_ne (pc := 42) (tgt := 47) hx hb dX8_parses_42 (by decide) (fun c42 => ?_) (fun c42 => ?_)
          · have hv18 : v < 10 ^ 18 := Nat.lt_of_not_le (fun q => by have := (dc_big hv0 hv).mpr q; omega)
            refine lv_lload_n (pc := 47) hx hb dX8_parses_47 rfl (lv_at hl 1 rfl) ?_
            refine lv_lstore_n (pc := 48) (lv' := [(3, .long (lN v)), (0, .ref hm), (1, .long (lN v))]) hx hb dX8_parses_48 rfl hl (by decide) rfl (fun ls hl => ?_)
            refine lv_aload_n (pc := 49) hx hb dX8_parses_49 rfl (lv_at hl 1 rfl) ?_
            refine va_get (pc := 50) (D := D) (ci := 6) (v := .int (nI (dc v))) (C := RX8) (T := TX8) (N := 30) hx hb hts hinX8 hown hK hP 0 rfl rfl 0 (by decide) lk0 (fun _ h9 => h9) rfl dX8_parses_50 ?_
            refine lv_iconst (pc := 53) (v := (nI (1))) hx hb dX8_parses_53 (by decide) ?_
            refine xn_isub (pc := 54) hx hb (by omega) dX8_parses_54 ?_
            refine lv_istore (pc := 55) (lv' := [(5, .int (nI ((dc v) - 1))), (3, .long (lN v)), (0, .ref hm), (1, .long (lN v))]) hx hb dX8_parses_55 hl (by decide) rfl (fun ls hl => ?_)
            have loop57 : ∀ (fuel : Nat) (k : Nat) (g : Nat → Nat) (ls : Array Slot) (H : Heap) (locs : List Loc), k < fuel → (k ≤ dc v) → (∀ j, k ≤ j → j < dc v → g j = dg v j) → lv_has ls 7 [(0, .ref hm), (1, .long (lN v)), (3, .long (lN (v / 10 ^ (dc v - k)))), (5, .int (nI k - 1))] → va_P D vwCl [(hm, .inr (6, oM am (dc v) pos cmp que dsz mad cur stp met bst)), (am 1, .inl (cI, 18, .inl (nA g)))] H → va_D (va_A [(hm, .inr (6, oM am n pos cmp que dsz mad cur stp met bst)), (am 1, .inl (cI, 18, .inl (nA dgt)))] s.heap.size) [(hm, .inr (6, oM am (dc v) pos cmp que dsz mad cur stp met bst)), (am 1, .inl (cI, 18, .inl (nA g)))] → va_S (va_A [(hm, .inr (6, oM am n pos cmp que dsz mad cur stp met bst)), (am 1, .inl (cI, 18, .inl (nA dgt)))] s.heap.size) s.heap H locs → W pG l eG (headSpec wsX8_parses { frames := 1, cells := 0, slots := 0, locals := 22 }).room s mG [.ref hm, .long (lN (v))].toArray below meth cG H locs 0 0 (MQ below (va_Qi (fun (r : Int32) (u : Nat × (Nat → Nat)) => r = (nI (pN (okVb (xv (lN (v))) = true))) ∧ (u.1 ≤ 19 ∧ (okVb (xv (lN (v))) = true → u.1 = dc (xv (lN (v))) ∧ ∀ j, j < u.1 → u.2 j = dg (xv (lN (v))) j))) (fun (u : Nat × (Nat → Nat)) (t : State) => mB D (tyL cI cL cZ) (va_A [(hm, .inr (6, oM am n pos cmp que dsz mad cur stp met bst)), (am 1, .inl (cI, 18, .inl (nA dgt)))] s.heap.size) [(hm, .inr (6, oM am (u.1) pos cmp que dsz mad cur stp met bst)), (am 1, .inl (cI, 18, .inl (nA (u.2))))] t) (va_A [(hm, .inr (6, oM am n pos cmp que dsz mad cur stp met bst)), (am 1, .inl (cI, 18, .inl (nA dgt)))] s.heap.size)) [.ref hm, .long (lN (v))].toArray s 0 0 (va_A [(hm, .inr (6, oM am n pos cmp que dsz mad cur stp met bst)), (am 1, .inl (cI, 18, .inl (nA dgt)))] s.heap.size)) (F0 mG 57 ls []) := by
              intro fuel
              induction fuel with
              | zero => intro k g ls H locs hmeas i3 i4 hl hP hD hS; exact absurd hmeas (Nat.not_lt_zero _)
              | succ fuel ih57 =>
                intro k g ls H locs hmeas i3 i4 hl hP hD hS
                refine lv_iload (pc := 57) hx hb dX8_parses_57 (lv_at hl 3 rfl) ?_
                refine xm_if_lt (pc := 59) (tgt := 87) hx hb (by omega) dX8_parses_59 (by decide) (fun c59 => ?_) (fun c59 => ?_)
                · subst c59
                  have hg : ∀ j, j < dc v → g j = dg v j := fun j hj => i4 j (by omega) hj
                  refine lv_iconst (pc := 87) (v := (nI (1))) hx hb dX8_parses_87 (by decide) ?_
                  refine lv_istore (pc := 88) (lv' := [(5, .int (nI 1)), (0, .ref hm), (1, .long (lN v)), (3, .long (lN (v / 10 ^ (dc v - 0))))]) hx hb dX8_parses_88 hl (by decide) rfl (fun ls hl => ?_)
                  refine lv_iconst (pc := 90) (v := (nI (0))) hx hb dX8_parses_90 (by decide) ?_
                  refine lv_istore (pc := 91) (lv' := [(6, .int (nI 0)), (5, .int (nI 1)), (0, .ref hm), (1, .long (lN v)), (3, .long (lN (v / 10 ^ (dc v - 0))))]) hx hb dX8_parses_91 hl (by decide) rfl (fun ls hl => ?_)
                  have loop93 : ∀ (fuel : Nat) (o : Nat) (k : Nat) (ls : Array Slot) (H : Heap) (locs : List Loc), dc v - k < fuel → (k ≤ dc v) → (o = opS (dg v) k) → (∀ j, j < k → opS (dg v) j ≠ 0 ∧ 1 ≤ dg v j ∧ dg v j ≤ 8) → (o ≤ k + 1) → lv_has ls 7 [(0, .ref hm), (5, .int (nI o)), (6, .int (nI k))] → va_P D vwCl [(hm, .inr (6, oM am (dc v) pos cmp que dsz mad cur stp met bst)), (am 1, .inl (cI, 18, .inl (nA g)))] H → va_D (va_A [(hm, .inr (6, oM am n pos cmp que dsz mad cur stp met bst)), (am 1, .inl (cI, 18, .inl (nA dgt)))] s.heap.size) [(hm, .inr (6, oM am (dc v) pos cmp que dsz mad cur stp met bst)), (am 1, .inl (cI, 18, .inl (nA g)))] → va_S (va_A [(hm, .inr (6, oM am n pos cmp que dsz mad cur stp met bst)), (am 1, .inl (cI, 18, .inl (nA dgt)))] s.heap.size) s.heap H locs → W pG l eG (headSpec wsX8_parses { frames := 1, cells := 0, slots := 0, locals := 22 }).room s mG [.ref hm, .long (lN (v))].toArray below meth cG H locs 0 0 (MQ below (va_Qi (fun (r : Int32) (u : Nat × (Nat → Nat)) => r = (nI (pN (okVb (xv (lN (v))) = true))) ∧ (u.1 ≤ 19 ∧ (okVb (xv (lN (v))) = true → u.1 = dc (xv (lN (v))) ∧ ∀ j, j < u.1 → u.2 j = dg (xv (lN (v))) j))) (fun (u : Nat × (Nat → Nat)) (t : State) => mB D (tyL cI cL cZ) (va_A [(hm, .inr (6, oM am n pos cmp que dsz mad cur stp met bst)), (am 1, .inl (cI, 18, .inl (nA dgt)))] s.heap.size) [(hm, .inr (6, oM am (u.1) pos cmp que dsz mad cur stp met bst)), (am 1, .inl (cI, 18, .inl (nA (u.2))))] t) (va_A [(hm, .inr (6, oM am n pos cmp que dsz mad cur stp met bst)), (am 1, .inl (cI, 18, .inl (nA dgt)))] s.heap.size)) [.ref hm, .long (lN (v))].toArray s 0 0 (va_A [(hm, .inr (6, oM am n pos cmp que dsz mad cur stp met bst)), (am 1, .inl (cI, 18, .inl (nA dgt)))] s.heap.size)) (F0 mG 93 ls []) := by
                    intro fuel
                    induction fuel with
                    | zero => intro o k ls H locs hmeas i5 i6 i7 i8 hl hP hD hS; exact absurd hmeas (Nat.not_lt_zero _)
                    | succ fuel ih93 =>
                      intro o k ls H locs hmeas i5 i6 i7 i8 hl hP hD hS
                      refine lv_iload (pc := 93) hx hb dX8_parses_93 (lv_at hl 2 rfl) ?_
                      refine lv_aload_n (pc := 95) hx hb dX8_parses_95 rfl (lv_at hl 0 rfl) ?_
                      refine va_get (pc := 96) (D := D) (ci := 6) (v := .int (nI (dc v))) (C := RX8) (T := TX8) (N := 30) hx hb hts hinX8 hown hK hP 0 rfl rfl 0 (by decide) lk0 (fun _ h9 => h9) rfl dX8_parses_96 ?_
                      refine xn_icmp_ge (pc := 99) (tgt := 169) hx hb (by omega) (by omega) dX8_parses_99 (by decide) (fun c99 => ?_) (fun c99 => ?_)
                      · refine lv_iload (pc := 169) hx hb dX8_parses_169 (lv_at hl 1 rfl) ?_
                        refine xn_if_ne (pc := 171) (tgt := 178) hx hb (by omega) dX8_parses_171 (by decide) (fun c171 => ?_) (fun c171 => ?_)
                        · have hno : ¬ okVb (xv (lN v)) = true := by rw [xv_lN hv, okR_v hv0 hv18]; exact fun h => c171 (by rw [i6, show k = dc v from by omega]; exact h.2)
                          refine lv_iconst (pc := 178) (v := (nI (0))) hx hb dX8_parses_178 (by decide) ?_
                          have hP9 : va_P D vwCl [(hm, .inr (6, oM am ((dc v)) pos cmp que dsz mad cur stp met bst)), (am 1, .inl (cI, 18, .inl (nA g)))] H := hP.sub [0, 1] rfl
                          have hD9 : va_D _ [(hm, .inr (6, oM am ((dc v)) pos cmp que dsz mad cur stp met bst)), (am 1, .inl (cI, 18, .inl (nA g)))] := hD.sub [0, 1] (by decide) rfl
                          exact W.zret (pc := 179) (v := (nI (0))) (ty := .boolean) hx hb hr (by decide) (fun t ht hW => ⟨⟨_, (dc v, g), rfl, ⟨(by first | exact congrArg nI (pN_f hno).symm | exact congrArg nI (pN_t hyes).symm), (by first | exact ⟨by omega, fun h => absurd h hno⟩ | exact ⟨by omega, fun _ => by rw [xv_lN hv]; exact ⟨rfl, hg⟩⟩)⟩, by rw [ht]; exact hP9, va_K.moved hW.alike hK, hD9⟩, hS.F ht⟩) hS.2.2 dX8_parses_179
                        · have hyes : okVb (xv (lN v)) = true := by rw [xv_lN hv, okR_v hv0 hv18]; exact ⟨fun j hj => i7 j (by omega), by rw [show dc v = k from by omega, ← i6]; exact c171⟩
                          refine lv_iconst (pc := 174) (v := (nI (1))) hx hb dX8_parses_174 (by decide) ?_
                          refine lv_goto (pc := 175) (tgt := 179) hx hb dX8_parses_175 (by decide) ?_
                          have hP9 : va_P D vwCl [(hm, .inr (6, oM am ((dc v)) pos cmp que dsz mad cur stp met bst)), (am 1, .inl (cI, 18, .inl (nA g)))] H := hP.sub [0, 1] rfl
                          have hD9 : va_D _ [(hm, .inr (6, oM am ((dc v)) pos cmp que dsz mad cur stp met bst)), (am 1, .inl (cI, 18, .inl (nA g)))] := hD.sub [0, 1] (by decide) rfl
                          exact W.zret (pc := 179) (v := (nI (1))) (ty := .boolean) hx hb hr (by decide) (fun t ht hW => ⟨⟨_, (dc v, g), rfl, ⟨(by first | exact congrArg nI (pN_f hno).symm | exact congrArg nI (pN_t hyes).symm), (by first | exact ⟨by omega, fun h => absurd h hno⟩ | exact ⟨by omega, fun _ => by rw [xv_lN hv]; exact ⟨rfl, hg⟩⟩)⟩, by rw [ht]; exact hP9, va_K.moved hW.alike hK, hD9⟩, hS.F ht⟩) hS.2.2 dX8_parses_179
                      · have hgk := hg k c99
                        have hdk : dg v k < 10 := Nat.mod_lt _ (by decide)
                        refine lv_iload (pc := 102) hx hb dX8_parses_102 (lv_at hl 1 rfl) ?_
                        refine xn_if_eq (pc := 104) (tgt := 123) hx hb (by omega) dX8_parses_104 (by decide) (fun c104 => ?_) (fun c104 => ?_)
                        · have hno : ¬ okVb (xv (lN v)) = true := by rw [xv_lN hv, okR_v hv0 hv18]; exact fun h => (by first | exact (h.1 k c99).1 (i6.symm.trans c104) | exact c120 ⟨by rw [hgk]; exact (h.1 k c99).2.1, by rw [hgk]; exact (h.1 k c99).2.2⟩)
                          refine lv_iconst (pc := 123) (v := (nI (0))) hx hb dX8_parses_123 (by decide) ?_
                          have hP9 : va_P D vwCl [(hm, .inr (6, oM am ((dc v)) pos cmp que dsz mad cur stp met bst)), (am 1, .inl (cI, 18, .inl (nA g)))] H := hP.sub [0, 1] rfl
                          have hD9 : va_D _ [(hm, .inr (6, oM am ((dc v)) pos cmp que dsz mad cur stp met bst)), (am 1, .inl (cI, 18, .inl (nA g)))] := hD.sub [0, 1] (by decide) rfl
                          exact W.zret (pc := 124) (v := (nI (0))) (ty := .boolean) hx hb hr (by decide) (fun t ht hW => ⟨⟨_, (dc v, g), rfl, ⟨(congrArg nI (pN_f hno).symm), ⟨by omega, fun h => absurd h hno⟩⟩, by rw [ht]; exact hP9, va_K.moved hW.alike hK, hD9⟩, hS.F ht⟩) hS.2.2 dX8_parses_124
                        · refine lv_aload_n (pc := 107) hx hb dX8_parses_107 rfl (lv_at hl 0 rfl) ?_
                          refine va_get (pc := 108) (D := D) (ci := 6) (v := .ref (am 1)) (C := RX8) (T := TX8) (N := 30) hx hb hts hinX8 hown hK hP 0 rfl rfl 1 (by decide) lk1 (fun _ h9 => h9) rfl dX8_parses_108 ?_
                          refine lv_iload (pc := 111) hx hb dX8_parses_111 (lv_at hl 2 rfl) ?_
                          refine xa_iald (pc := 113) hx hb hK hP 1 0 rfl rfl (by omega) (by omega) dX8_parses_113 ?_
                          refine lv_iconst (pc := 114) (v := (nI (1))) hx hb dX8_parses_114 (by decide) ?_
                          refine lv_bipush (pc := 115) (v := (nI (8))) hx hb dX8_parses_115 (by decide) ?_
                          refine vp_callSi (pc := 117) (W.runS (As := [.int (nI (g k)), .int (nI 1), .int (nI 8)]) (rest := []) ⟨hx, hb, hml, hown, hts⟩ (c_X8_withinN l D cI cL cZ (g k) 1 8 (by omega) (by omega) (by omega)) (va_cwS 3 hts gX8_parses_X8_within rfl rfl rfl (by decide +kernel) ⟨Nat.le_of_ble_eq_true rfl, Nat.le_of_ble_eq_true rfl⟩) (rP_S (wc := []) hK hP [] rfl) rfl rfl hl.1 rfl (lv_room (Nat.le_of_ble_eq_true rfl)) dX8_parses_117 ⟨Nat.zero_le _, Nat.zero_le _⟩) (fun r hrr => ?_)
                          rw [hrr]
                          refine xp_if_ne (pc := 120) (tgt := 125) hx hb dX8_parses_120 (by decide) (fun c120 => ?_) (fun c120 => ?_)
                          · refine lv_iload (pc := 125) hx hb dX8_parses_125 (lv_at hl 1 rfl) ?_
                            refine lv_aload_n (pc := 127) hx hb dX8_parses_127 rfl (lv_at hl 0 rfl) ?_
                            refine va_get (pc := 128) (D := D) (ci := 6) (v := .ref (am 1)) (C := RX8) (T := TX8) (N := 30) hx hb hts hinX8 hown hK hP 0 rfl rfl 1 (by decide) lk1 (fun _ h9 => h9) rfl dX8_parses_128 ?_
                            refine lv_iload (pc := 131) hx hb dX8_parses_131 (lv_at hl 2 rfl) ?_
                            refine xa_iald (pc := 133) hx hb hK hP 1 0 rfl rfl (by omega) (by omega) dX8_parses_133 ?_
                            refine lv_bipush (pc := 134) (v := (nI (6))) hx hb dX8_parses_134 (by decide) ?_
                            refine xn_icmp_ge (pc := 136) (tgt := 143) hx hb (by omega) (by omega) dX8_parses_136 (by decide) (fun c136 => ?_) (fun c136 => ?_)
                            · refine lv_aload_n (pc := 143) hx hb dX8_parses_143 rfl (lv_at hl 0 rfl) ?_
                              refine va_get (pc := 144) (D := D) (ci := 6) (v := .ref (am 1)) (C := RX8) (T := TX8) (N := 30) hx hb hts hinX8 hown hK hP 0 rfl rfl 1 (by decide) lk1 (fun _ h9 => h9) rfl dX8_parses_144 ?_
                              refine lv_iload (pc := 147) hx hb dX8_parses_147 (lv_at hl 2 rfl) ?_
                              refine xa_iald (pc := 149) hx hb hK hP 1 0 rfl rfl (by omega) (by omega) dX8_parses_149 ?_
                              refine lv_bipush (pc := 150) (v := (nI (8))) hx hb dX8_parses_150 (by decide) ?_
                              refine xn_icmp_ne (pc := 152) (tgt := 159) hx hb (by omega) (by omega) dX8_parses_152 (by decide) (fun c152 => ?_) (fun c152 => ?_)
                              · refine lv_iconst (pc := 159) (v := (nI (1))) hx hb dX8_parses_159 (by decide) ?_
                                refine xn_iadd (pc := 160) hx hb  dX8_parses_160 ?_
                                refine lv_istore (pc := 161) (lv' := [(5, .int (nI (o + 1))), (0, .ref hm), (6, .int (nI k))]) hx hb dX8_parses_161 hl (by decide) rfl (fun ls hl => ?_)
                                refine lv_iinc (pc := 163) (v := (nI (k + 1))) (lv' := [(6, .int (nI (k + 1))), (5, .int (nI (o + 1))), (0, .ref hm)]) hx hb dX8_parses_163 hl (k := 2) rfl (nI_incr _) (by decide) rfl (fun ls hl => ?_)
                                refine lv_goto (pc := 166) (tgt := 93) hx hb dX8_parses_166 (by decide) ?_
                                exact ih93 (o + 1) (k + 1) ls _ _ (by omega) (by omega) (by show _ = (if dg v k < 6 then opS (dg v) k - 1 else if dg v k = 8 then opS (dg v) k else opS (dg v) k + 1); rw [← i6, ← hgk]; (repeat' split) <;> omega) (lt_s i7 ⟨by rw [← i6]; exact c104, by rw [← hgk]; exact c120.1, by rw [← hgk]; exact c120.2⟩) (by omega) (lv_sub hl [2, 1, 0] rfl) (hP.sub [0, 1] rfl) (hD.sub [0, 1] (by decide) rfl) hS
                              · refine lv_iconst (pc := 155) (v := (nI (0))) hx hb dX8_parses_155 (by decide) ?_
                                refine lv_goto (pc := 156) (tgt := 160) hx hb dX8_parses_156 (by decide) ?_
                                refine xn_iadd (pc := 160) hx hb  dX8_parses_160 ?_
                                refine lv_istore (pc := 161) (lv' := [(5, .int (nI (o + 0))), (0, .ref hm), (6, .int (nI k))]) hx hb dX8_parses_161 hl (by decide) rfl (fun ls hl => ?_)
                                refine lv_iinc (pc := 163) (v := (nI (k + 1))) (lv' := [(6, .int (nI (k + 1))), (5, .int (nI (o + 0))), (0, .ref hm)]) hx hb dX8_parses_163 hl (k := 2) rfl (nI_incr _) (by decide) rfl (fun ls hl => ?_)
                                refine lv_goto (pc := 166) (tgt := 93) hx hb dX8_parses_166 (by decide) ?_
                                exact ih93 (o + 0) (k + 1) ls _ _ (by omega) (by omega) (by show _ = (if dg v k < 6 then opS (dg v) k - 1 else if dg v k = 8 then opS (dg v) k else opS (dg v) k + 1); rw [← i6, ← hgk]; (repeat' split) <;> omega) (lt_s i7 ⟨by rw [← i6]; exact c104, by rw [← hgk]; exact c120.1, by rw [← hgk]; exact c120.2⟩) (by omega) (lv_sub hl [2, 1, 0] rfl) (hP.sub [0, 1] rfl) (hD.sub [0, 1] (by decide) rfl) hS
                            · refine lv_iconst (pc := 139) (v := ((-1))) hx hb dX8_parses_139 (by decide) ?_
                              refine lv_goto (pc := 140) (tgt := 160) hx hb dX8_parses_140 (by decide) ?_
                              refine xn_iaddm (pc := 160) hx hb (by omega) dX8_parses_160 ?_
                              refine lv_istore (pc := 161) (lv' := [(5, .int (nI (o - 1))), (0, .ref hm), (6, .int (nI k))]) hx hb dX8_parses_161 hl (by decide) rfl (fun ls hl => ?_)
                              refine lv_iinc (pc := 163) (v := (nI (k + 1))) (lv' := [(6, .int (nI (k + 1))), (5, .int (nI (o - 1))), (0, .ref hm)]) hx hb dX8_parses_163 hl (k := 2) rfl (nI_incr _) (by decide) rfl (fun ls hl => ?_)
                              refine lv_goto (pc := 166) (tgt := 93) hx hb dX8_parses_166 (by decide) ?_
                              exact ih93 (o - 1) (k + 1) ls _ _ (by omega) (by omega) (by show _ = (if dg v k < 6 then opS (dg v) k - 1 else if dg v k = 8 then opS (dg v) k else opS (dg v) k + 1); rw [← i6, ← hgk]; (repeat' split) <;> omega) (lt_s i7 ⟨by rw [← i6]; exact c104, by rw [← hgk]; exact c120.1, by rw [← hgk]; exact c120.2⟩) (by omega) (lv_sub hl [2, 1, 0] rfl) (hP.sub [0, 1] rfl) (hD.sub [0, 1] (by decide) rfl) hS
                          · have hno : ¬ okVb (xv (lN v)) = true := by rw [xv_lN hv, okR_v hv0 hv18]; exact fun h => (by first | exact (h.1 k c99).1 (i6.symm.trans c104) | exact c120 ⟨by rw [hgk]; exact (h.1 k c99).2.1, by rw [hgk]; exact (h.1 k c99).2.2⟩)
                            refine lv_iconst (pc := 123) (v := (nI (0))) hx hb dX8_parses_123 (by decide) ?_
                            have hP9 : va_P D vwCl [(hm, .inr (6, oM am ((dc v)) pos cmp que dsz mad cur stp met bst)), (am 1, .inl (cI, 18, .inl (nA g)))] H := hP.sub [0, 1] rfl
                            have hD9 : va_D _ [(hm, .inr (6, oM am ((dc v)) pos cmp que dsz mad cur stp met bst)), (am 1, .inl (cI, 18, .inl (nA g)))] := hD.sub [0, 1] (by decide) rfl
                            exact W.zret (pc := 124) (v := (nI (0))) (ty := .boolean) hx hb hr (by decide) (fun t ht hW => ⟨⟨_, (dc v, g), rfl, ⟨(congrArg nI (pN_f hno).symm), ⟨by omega, fun h => absurd h hno⟩⟩, by rw [ht]; exact hP9, va_K.moved hW.alike hK, hD9⟩, hS.F ht⟩) hS.2.2 dX8_parses_124
                  exact loop93 (_ + 1) 1 0 ls _ _ (Nat.lt_succ_self _) (by omega) rfl (fun j hj => absurd hj (by omega)) (by omega) (lv_sub hl [2, 1, 0] rfl) (hP.sub [0, 1] rfl) (hD.sub [0, 1] (by decide) rfl) hS
                · have hl : lv_has ls 7 [(0, .ref hm), (1, .long (lN v)), (3, .long (lN (v / 10 ^ (dc v - k)))), (5, .int (nI (k - 1)))] := by have hq : (nI k - 1) = (nI (k - 1)) := nI_dec1 c59; first | (rw [← hq]; exact hl) | (rw [hq] at hl; exact hl)
                  refine lv_aload_n (pc := 62) hx hb dX8_parses_62 rfl (lv_at hl 0 rfl) ?_
                  refine va_get (pc := 63) (D := D) (ci := 6) (v := .ref (am 1)) (C := RX8) (T := TX8) (N := 30) hx hb hts hinX8 hown hK hP 0 rfl rfl 1 (by decide) lk1 (fun _ h9 => h9) rfl dX8_parses_63 ?_
                  refine lv_iload (pc := 66) hx hb dX8_parses_66 (lv_at hl 3 rfl) ?_
                  refine lv_lload_n (pc := 68) hx hb dX8_parses_68 rfl (lv_at hl 2 rfl) ?_
                  refine lv_ldc2 (pc := 69) (v := (lN (10))) hx hb hown lk2 dX8_parses_69 ?_
                  refine xn_lrem (pc := 72) hx hb (Nat.lt_of_le_of_lt (Nat.div_le_self _ _) hv) (by omega) (by omega) dX8_parses_72 ?_
                  refine xn_l2i (pc := 73) hx hb dX8_parses_73 ?_
                  refine xa_iast (pc := 74) hx hb hK hP hD hS 1 0 rfl rfl (by omega) (by omega) dX8_parses_74 (fun H locs hP hD hS => ?_)
                  have hP : va_P D vwCl [(hm, .inr (6, oM am (dc v) pos cmp que dsz mad cur stp met bst)), (am 1, .inl (cI, 18, .inl (nA (up g (k - 1) ((v / 10 ^ (dc v - k)) % 10)))))] H := hP
                  have hD : va_D _ [(hm, .inr (6, oM am (dc v) pos cmp que dsz mad cur stp met bst)), (am 1, .inl (cI, 18, .inl (nA (up g (k - 1) ((v / 10 ^ (dc v - k)) % 10)))))] := hD
                  refine lv_lload_n (pc := 75) hx hb dX8_parses_75 rfl (lv_at hl 2 rfl) ?_
                  refine lv_ldc2 (pc := 76) (v := (lN (10))) hx hb hown lk2 dX8_parses_76 ?_
                  refine xn_ldiv (pc := 79) hx hb (Nat.lt_of_le_of_lt (Nat.div_le_self _ _) hv) (by omega) (by omega) dX8_parses_79 ?_
                  refine lv_lstore_n (pc := 80) (lv' := [(3, .long (lN ((v / 10 ^ (dc v - k)) / 10))), (0, .ref hm), (1, .long (lN v)), (5, .int (nI (k - 1)))]) hx hb dX8_parses_80 rfl hl (by decide) rfl (fun ls hl => ?_)
                  refine lv_iinc (pc := 81) (v := (nI (k - 1) - 1)) (lv' := [(5, .int (nI (k - 1) - 1)), (3, .long (lN ((v / 10 ^ (dc v - k)) / 10))), (0, .ref hm), (1, .long (lN v))]) hx hb dX8_parses_81 hl (k := 3) rfl (nI_decm _) (by decide) rfl (fun ls hl => ?_)
                  have hl : lv_has ls 7 [(5, .int (nI (k - 1) - 1)), (3, .long (lN (v / 10 ^ (dc v - (k - 1))))), (0, .ref hm), (1, .long (lN v))] := by have hq : (lN ((v / 10 ^ (dc v - k)) / 10)) = (lN (v / 10 ^ (dc v - (k - 1)))) := congrArg lN (by rw [Nat.div_div_eq_div_mul, show dc v - (k - 1) = (dc v - k) + 1 from by omega, Nat.pow_succ]); first | (rw [← hq]; exact hl) | (rw [hq] at hl; exact hl)
                  refine lv_goto (pc := 84) (tgt := 57) hx hb dX8_parses_84 (by decide) ?_
                  exact ih57 (k - 1) (up g (k - 1) ((v / 10 ^ (dc v - k)) % 10)) ls _ _ (by omega) (by omega) (fun j h1 h2 => by
                        by_cases hj : j = k - 1
                        · subst hj; rw [up_s]; unfold dg; rw [show dc v - 1 - (k - 1) = dc v - k from by omega]
                        · rw [up_n _ hj]; exact i4 j (by omega) h2) (lv_sub hl [2, 3, 1, 0] rfl) (hP.sub [0, 1] rfl) (hD.sub [0, 1] (by decide) rfl) hS
            have hl : lv_has ls 7 [(5, .int (nI (dc v) - 1)), (3, .long (lN v)), (0, .ref hm), (1, .long (lN v))] := by have hq : (nI ((dc v) - 1)) = (nI (dc v) - 1) := (nI_dec1 (by omega)).symm; first | (rw [← hq]; exact hl) | (rw [hq] at hl; exact hl)
            have hl : lv_has ls 7 [(5, .int (nI (dc v) - 1)), (3, .long (lN (v / 10 ^ (dc v - dc v)))), (0, .ref hm), (1, .long (lN v))] := by have hq : (lN (v)) = (lN (v / 10 ^ (dc v - dc v))) := congrArg lN (by rw [Nat.sub_self, Nat.pow_zero, Nat.div_one]); first | (rw [← hq]; exact hl) | (rw [hq] at hl; exact hl)
            exact loop57 (_ + 1) (dc v) dgt ls _ _ (Nat.lt_succ_self _) (Nat.le_refl _) (fun j h1 h2 => absurd h1 (by omega)) (lv_sub hl [2, 3, 1, 0] rfl) (hP.sub [0, 1] rfl) (hD.sub [0, 1] (by decide) rfl) hS
          · have hno : ¬ okVb (xv (lN v)) = true := by rw [xv_lN hv]; exact okVb_small (Or.inr ((dc_big hv0 hv).mp (by have := (dc_in v).1; omega)))
            refine lv_iconst (pc := 45) (v := (nI (0))) hx hb dX8_parses_45 (by decide) ?_
            have hP9 : va_P D vwCl [(hm, .inr (6, oM am ((dc v)) pos cmp que dsz mad cur stp met bst)), (am 1, .inl (cI, 18, .inl (nA dgt)))] H := hP.sub [0, 1] rfl
            have hD9 : va_D _ [(hm, .inr (6, oM am ((dc v)) pos cmp que dsz mad cur stp met bst)), (am 1, .inl (cI, 18, .inl (nA dgt)))] := hD.sub [0, 1] (by decide) rfl
            exact W.zret (pc := 46) (v := (nI (0))) (ty := .boolean) hx hb hr (by decide) (fun t ht hW => ⟨⟨_, (dc v, dgt), rfl, ⟨(congrArg nI (pN_f hno).symm), ⟨by omega, fun h => absurd h hno⟩⟩, by rw [ht]; exact hP9, va_K.moved hW.alike hK, hD9⟩, hS.F ht⟩) hS.2.2 dX8_parses_46
        · have hpw : 10 ^ i ≤ v := by
            rcases Nat.lt_or_ge v (10 ^ i) with q | q
            · rw [Nat.div_eq_of_lt q] at c9; omega
            · exact q
          have hi19 : i < 19 := pow_inj_lt hpw (Nat.lt_trans hv pow19)
          refine lv_aload_n (pc := 13) hx hb dX8_parses_13 rfl (lv_at hl 0 rfl) ?_
          refine lv_dup (pc := 14) hx hb dX8_parses_14 rfl ?_
          refine va_get (pc := 15) (D := D) (ci := 6) (v := .int (nI i)) (C := RX8) (T := TX8) (N := 30) hx hb hts hinX8 hown hK hP 0 rfl rfl 0 (by decide) lk0 (fun _ h9 => h9) rfl dX8_parses_15 ?_
          refine lv_iconst (pc := 18) (v := (nI (1))) hx hb dX8_parses_18 (by decide) ?_
          refine xn_iadd (pc := 19) hx hb  dX8_parses_19 ?_
          refine va_put (pc := 20) (D := D) (ci := 6) (v := .int (nI (i + 1))) (ty := .int) (C := RX8) (T := TX8) (N := 30) hx hb hts hinX8 tyX8 tyX8_ok nmX8 hown hK hP hD hS 0 rfl rfl 0 (by decide) lk0 (fun _ h9 => h9) rfl (by decide +kernel) rfl rfl (Nat.le_of_ble_eq_true rfl) dX8_parses_20 (fun H locs hP hD hS => ?_)
          have hP : va_P D vwCl [(hm, .inr (6, oM am (i + 1) pos cmp que dsz mad cur stp met bst)), (am 1, .inl (cI, 18, .inl (nA dgt)))] H := hP
          have hD : va_D _ [(hm, .inr (6, oM am (i + 1) pos cmp que dsz mad cur stp met bst)), (am 1, .inl (cI, 18, .inl (nA dgt)))] := hD
          refine lv_lload_n (pc := 23) hx hb dX8_parses_23 rfl (lv_at hl 2 rfl) ?_
          refine lv_ldc2 (pc := 24) (v := (lN (10))) hx hb hown lk2 dX8_parses_24 ?_
          refine xn_ldiv (pc := 27) hx hb (Nat.lt_of_le_of_lt (Nat.div_le_self _ _) hv) (by omega) (by omega) dX8_parses_27 ?_
          refine lv_lstore_n (pc := 28) (lv' := [(3, .long (lN ((v / 10 ^ i) / 10))), (0, .ref hm), (1, .long (lN v))]) hx hb dX8_parses_28 rfl hl (by decide) rfl (fun ls hl => ?_)
          have hl : lv_has ls 7 [(3, .long (lN (v / 10 ^ (i + 1)))), (0, .ref hm), (1, .long (lN v))] := by have hq : (lN ((v / 10 ^ i) / 10)) = (lN (v / 10 ^ (i + 1))) := congrArg lN (by rw [Nat.div_div_eq_div_mul, Nat.pow_succ]); first | (rw [← hq]; exact hl) | (rw [hq] at hl; exact hl)
          refine lv_goto (pc := 29) (tgt := 7) hx hb dX8_parses_29 (by decide) ?_
          exact ih7 (i + 1) ls _ _ (by omega) (by omega) (Or.inr hpw) (lv_sub hl [1, 2, 0] rfl) (hP.sub [0, 1] rfl) (hD.sub [0, 1] (by decide) rfl) hS
    have hl : lv_has ls 7 [(3, .long (lN (v / 10 ^ 0))), (0, .ref hm), (1, .long (lN v))] := by have hq : (lN (v)) = (lN (v / 10 ^ 0)) := congrArg lN (by rw [Nat.pow_zero, Nat.div_one]); first | (rw [← hq]; exact hl) | (rw [hq] at hl; exact hl)
    exact loop7 (_ + 1) 0 ls _ _ (Nat.lt_succ_self _) (by omega) (by omega) (lv_sub hl [1, 2, 0] rfl) (hP.sub [0, 1] rfl) (hD.sub [0, 1] (by decide) rfl) hS
