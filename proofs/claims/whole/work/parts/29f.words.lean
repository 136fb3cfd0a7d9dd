/-! the reference: automata -/
set_option maxHeartbeats 4000000 in
set_option maxRecDepth 100000 in
theorem c_X8_link (l : Launch) (D : va_G) (cI cL cZ : ClassId) (sz : Nat) (hm : Nat) (am : Nat → Nat) (n : Nat) (pos : Nat) (cmp : Nat) (que : Nat) (dsz : Nat) (mad : Nat) (cur : Nat) (stp : Nat) (met : Nat) (bst : Nat) (fol : Nat → Nat) (w : Nat) (a : Nat) (b : Nat) (hw2 : w < 2) (hps : pos ≤ 9) (ha : a < 2 ^ pos) : Met l yX8_link wsX8_link { frames := 0, cells := 0, slots := 0, locals := 0 } (mP D (tyL cI cL cZ) [(hm, .inr (6, oM am n pos cmp que dsz mad cur stp met bst)), (am 7, .inl (cI, 18, .inl (nA fol)))] sz [.ref hm, .int (nI w), .int (nI a), .int (nI b)]) (va_Qv (fun (u : (Nat → Nat)) => (∀ p, u (9 * w + p) = lnk (fun q => fol (9 * w + q)) a b p) ∧ (∀ j, (j < 9 * w ∨ 9 * w + 9 ≤ j) → u j = fol j)) (fun (u : (Nat → Nat)) (t : State) => mB D (tyL cI cL cZ) (va_A [(hm, .inr (6, oM am n pos cmp que dsz mad cur stp met bst)), (am 7, .inl (cI, 18, .inl (nA fol)))] sz) [(hm, .inr (6, oM am n pos cmp que dsz mad cur stp met bst)), (am 7, .inl (cI, 18, .inl (nA u)))] t) (va_A [(hm, .inr (6, oM am n pos cmp que dsz mad cur stp met bst)), (am 7, .inl (cI, 18, .inl (nA fol)))] sz)) 0 0 (va_A [(hm, .inr (6, oM am n pos cmp que dsz mad cur stp met bst)), (am 7, .inl (cI, 18, .inl (nA fol)))] sz) := by
  refine Met.ofW (cc := cX8_link) (maxL := 5) (ret := none) (by decide) rfl ?_
  intro pG eG s mG args below meth cG s₁ B hml hpre9
  obtain ⟨rfl, hsz, hP, hK, hD0⟩ := hpre9
  have hx := B.exec
  have hb := B.bytes
  have hr := B.returns
  have hts := atoms_spec (ws := wsX8_link) B.pre
  have hown : s.vm.findClass RX8 = some mG.cls := findClass_of_methodNamed B.named
  have hlocks := B.notSynchronized
  subst hsz
  have hD := hD0.self (sz := s.heap.size)
  have hA : ∀ q : Nat, s.heap.size ≤ q → va_A [(hm, .inr (6, oM am n pos cmp que dsz mad cur stp met bst)), (am 7, .inl (cI, 18, .inl (nA fol)))] s.heap.size q := fun q h => Or.inr h
  have hS : va_S (va_A [(hm, .inr (6, oM am n pos cmp que dsz mad cur stp met bst)), (am 7, .inl (cI, 18, .inl (nA fol)))] s.heap.size) s.heap s.heap [] := va_S.rf
  have hinX8 : ∀ w ∈ wsX80, w ∈ wsX8_link := fun w HH => (List.mem_cons_of_mem _ (List.mem_append_right _ HH))
  have lk0 : (Cond.fieldLink RX8 96 "RegexSimplifierModel" "positions" "I").before _ s = true := hts _ (List.mem_cons_of_mem _ (List.mem_append_left _ (List.mem_of_getElem? (i := 0) rfl)))
  have lk1 : (Cond.fieldLink RX8 29 "RegexSimplifierModel" "follow" "[I").before _ s = true := hts _ (List.mem_cons_of_mem _ (List.mem_append_left _ (List.mem_of_getElem? (i := 1) rfl)))
  have hl := lv_entry ([.ref hm, .int (nI w), .int (nI a), .int (nI b)]) (n := 5) (Nat.le_of_ble_eq_true rfl)
  rw [lg_entry_eq]
  generalize (lg_sl ([.ref hm, .int (nI w), .int (nI a), .int (nI b)]) ++ List.replicate (5 - (lg_sl ([.ref hm, .int (nI w), .int (nI a), .int (nI b)])).length) Slot.unset).toArray = ls at hl ⊢
  have hl : lv_has ls 5 [(0, .ref hm), (1, .int (nI w)), (2, .int (nI a)), (3, .int (nI b))] := hl
  have hp9 := p2_le hps
  have h512 : (2 : Nat) ^ 9 = 512 := rfl
  refine lv_iconst (pc := 0) (v := (nI (0))) hx hb dX8_link_0 (by decide) ?_
  refine lv_istore (pc := 1) (lv' := [(4, .int (nI 0)), (0, .ref hm), (1, .int (nI w)), (2, .int (nI a)), (3, .int (nI b))]) hx hb dX8_link_1 hl (by decide) rfl (fun ls hl => ?_)
  have loop3 : ∀ (fuel : Nat) (k : Nat) (g : Nat → Nat) (ls : Array Slot) (H : Heap) (locs : List Loc), pos - k < fuel → (k ≤ pos) → (∀ p, (fun q => g (9 * w + q)) p = if p < k then lnk (fun q => fol (9 * w + q)) a b p else (fun q => fol (9 * w + q)) p) → (∀ j, (j < 9 * w ∨ 9 * w + 9 ≤ j) → g j = fol j) → lv_has ls 5 [(0, .ref hm), (1, .int (nI w)), (2, .int (nI a)), (3, .int (nI b)), (4, .int (nI k))] → va_P D vwCl [(hm, .inr (6, oM am n pos cmp que dsz mad cur stp met bst)), (am 7, .inl (cI, 18, .inl (nA g)))] H → va_D (va_A [(hm, .inr (6, oM am n pos cmp que dsz mad cur stp met bst)), (am 7, .inl (cI, 18, .inl (nA fol)))] s.heap.size) [(hm, .inr (6, oM am n pos cmp que dsz mad cur stp met bst)), (am 7, .inl (cI, 18, .inl (nA g)))] → va_S (va_A [(hm, .inr (6, oM am n pos cmp que dsz mad cur stp met bst)), (am 7, .inl (cI, 18, .inl (nA fol)))] s.heap.size) s.heap H locs → W pG l eG (headSpec wsX8_link { frames := 0, cells := 0, slots := 0, locals := 0 }).room s mG [.ref hm, .int (nI w), .int (nI a), .int (nI b)].toArray below meth cG H locs 0 0 (MQ below (va_Qv (fun (u : (Nat → Nat)) => (∀ p, u (9 * w + p) = lnk (fun q => fol (9 * w + q)) a b p) ∧ (∀ j, (j < 9 * w ∨ 9 * w + 9 ≤ j) → u j = fol j)) (fun (u : (Nat → Nat)) (t : State) => mB D (tyL cI cL cZ) (va_A [(hm, .inr (6, oM am n pos cmp que dsz mad cur stp met bst)), (am 7, .inl (cI, 18, .inl (nA fol)))] s.heap.size) [(hm, .inr (6, oM am n pos cmp que dsz mad cur stp met bst)), (am 7, .inl (cI, 18, .inl (nA u)))] t) (va_A [(hm, .inr (6, oM am n pos cmp que dsz mad cur stp met bst)), (am 7, .inl (cI, 18, .inl (nA fol)))] s.heap.size)) [.ref hm, .int (nI w), .int (nI a), .int (nI b)].toArray s 0 0 (va_A [(hm, .inr (6, oM am n pos cmp que dsz mad cur stp met bst)), (am 7, .inl (cI, 18, .inl (nA fol)))] s.heap.size)) (F0 mG 3 ls []) := by
    intro fuel
    induction fuel with
    | zero => intro k g ls H locs hmeas i1 i2 i3 hl hP hD hS; exact absurd hmeas (Nat.not_lt_zero _)
    | succ fuel ih3 =>
      intro k g ls H locs hmeas i1 i2 i3 hl hP hD hS
      refine lv_iload (pc := 3) hx hb dX8_link_3 (lv_at hl 4 rfl) ?_
      refine lv_aload_n (pc := 5) hx hb dX8_link_5 rfl (lv_at hl 0 rfl) ?_
      refine va_get (pc := 6) (D := D) (ci := 6) (v := .int (nI pos)) (C := RX8) (T := TX8) (N := 30) hx hb hts hinX8 hown hK hP 0 rfl rfl 11 (by decide) lk0 (fun _ h9 => h9) rfl dX8_link_6 ?_
      refine xn_icmp_ge (pc := 9) (tgt := 48) hx hb (by omega) (by omega) dX8_link_9 (by decide) (fun c9 => ?_) (fun c9 => ?_)
      · have hP9 : va_P D vwCl [(hm, .inr (6, oM am n pos cmp que dsz mad cur stp met bst)), (am 7, .inl (cI, 18, .inl (nA g)))] H := hP.sub [0, 1] rfl
        have hD9 : va_D _ [(hm, .inr (6, oM am n pos cmp que dsz mad cur stp met bst)), (am 7, .inl (cI, 18, .inl (nA g)))] := hD.sub [0, 1] (by decide) rfl
        exact W.vret (pc := 48) hx hb hr (fun t ht hW => ⟨⟨(g), rfl, ⟨fun p => lnk_all i2 (by omega) ha p, i3⟩, by rw [ht]; exact hP9, va_K.moved hW.alike hK, hD9⟩, hS.F ht⟩) hS.2.2 dX8_link_48
      · refine lv_aload_n (pc := 12) hx hb dX8_link_12 rfl (lv_at hl 0 rfl) ?_
        refine va_get (pc := 13) (D := D) (ci := 6) (v := .ref (am 7)) (C := RX8) (T := TX8) (N := 30) hx hb hts hinX8 hown hK hP 0 rfl rfl 7 (by decide) lk1 (fun _ h9 => h9) rfl dX8_link_13 ?_
        refine lv_bipush (pc := 16) (v := (nI (9))) hx hb dX8_link_16 (by decide) ?_
        refine lv_iload_n (pc := 18) hx hb dX8_link_18 rfl (lv_at hl 1 rfl) ?_
        refine xn_imul (pc := 19) hx hb  dX8_link_19 ?_
        refine lv_iload (pc := 20) hx hb dX8_link_20 (lv_at hl 4 rfl) ?_
        refine xn_iadd (pc := 22) hx hb  dX8_link_22 ?_
        refine lv_dup2_11 (pc := 23) hx hb dX8_link_23 rfl rfl ?_
        refine xa_iald (pc := 24) hx hb hK hP 1 0 rfl rfl (by omega) (by omega) dX8_link_24 ?_
        refine lv_iload_n (pc := 25) hx hb dX8_link_25 rfl (lv_at hl 2 rfl) ?_
        refine lv_iload (pc := 26) hx hb dX8_link_26 (lv_at hl 4 rfl) ?_
        refine xn_ishr (pc := 28) hx hb (by omega) (by omega) dX8_link_28 ?_
        refine lv_iconst (pc := 29) (v := (nI (1))) hx hb dX8_link_29 (by decide) ?_
        refine xn_iand (pc := 30) hx hb  dX8_link_30 ?_
        refine W.eq (g2 := F0 mG 31 ls [.int (nI (a / 2 ^ k % 2)), .int (nI (g ((9 * w) + k))), .int (nI ((9 * w) + k)), .ref (am 7)]) (congrArg (fun zz => F0 mG 31 ls [.int (nI zz), .int (nI (g ((9 * w) + k))), .int (nI ((9 * w) + k)), .ref (am 7)]) (by rw [Nat.and_one_is_mod])) ?_
        refine lv_iconst (pc := 31) (v := (nI (1))) hx hb dX8_link_31 (by decide) ?_
        refine xn_icmp_ne (pc := 32) (tgt := 39) hx hb (by omega) (by omega) dX8_link_32 (by decide) (fun c32 => ?_) (fun c32 => ?_)
        · refine lv_iconst (pc := 39) (v := (nI (0))) hx hb dX8_link_39 (by decide) ?_
          refine xn_ior (pc := 40) hx hb  dX8_link_40 ?_
          refine xa_iast (pc := 41) hx hb hK hP hD hS 1 0 rfl rfl (by omega) (by omega) dX8_link_41 (fun H locs hP hD hS => ?_)
          have hP : va_P D vwCl [(hm, .inr (6, oM am n pos cmp que dsz mad cur stp met bst)), (am 7, .inl (cI, 18, .inl (nA (up g ((9 * w) + k) ((g ((9 * w) + k)) ||| 0)))))] H := hP
          have hD : va_D _ [(hm, .inr (6, oM am n pos cmp que dsz mad cur stp met bst)), (am 7, .inl (cI, 18, .inl (nA (up g ((9 * w) + k) ((g ((9 * w) + k)) ||| 0)))))] := hD
          refine lv_iinc (pc := 42) (v := (nI (k + 1))) (lv' := [(4, .int (nI (k + 1))), (0, .ref hm), (1, .int (nI w)), (2, .int (nI a)), (3, .int (nI b))]) hx hb dX8_link_42 hl (k := 4) rfl (nI_incr _) (by decide) rfl (fun ls hl => ?_)
          refine lv_goto (pc := 45) (tgt := 3) hx hb dX8_link_45 (by decide) ?_
          exact ih3 (k + 1) (up g ((9 * w) + k) ((g ((9 * w) + k)) ||| 0)) ls _ _ (by omega) (by omega) (by first | exact lnk_y2 i2 (by omega) | exact lnk_n2 i2 (by omega)) (fun j hj => by rw [up_n _ (by omega)]; exact i3 j hj) (lv_sub hl [1, 2, 3, 4, 0] rfl) (hP.sub [0, 1] rfl) (hD.sub [0, 1] (by decide) rfl) hS
        · refine lv_iload_n (pc := 35) hx hb dX8_link_35 rfl (lv_at hl 3 rfl) ?_
          refine lv_goto (pc := 36) (tgt := 40) hx hb dX8_link_36 (by decide) ?_
          refine xn_ior (pc := 40) hx hb  dX8_link_40 ?_
          refine xa_iast (pc := 41) hx hb hK hP hD hS 1 0 rfl rfl (by omega) (by omega) dX8_link_41 (fun H locs hP hD hS => ?_)
          have hP : va_P D vwCl [(hm, .inr (6, oM am n pos cmp que dsz mad cur stp met bst)), (am 7, .inl (cI, 18, .inl (nA (up g ((9 * w) + k) ((g ((9 * w) + k)) ||| b)))))] H := hP
          have hD : va_D _ [(hm, .inr (6, oM am n pos cmp que dsz mad cur stp met bst)), (am 7, .inl (cI, 18, .inl (nA (up g ((9 * w) + k) ((g ((9 * w) + k)) ||| b)))))] := hD
          refine lv_iinc (pc := 42) (v := (nI (k + 1))) (lv' := [(4, .int (nI (k + 1))), (0, .ref hm), (1, .int (nI w)), (2, .int (nI a)), (3, .int (nI b))]) hx hb dX8_link_42 hl (k := 4) rfl (nI_incr _) (by decide) rfl (fun ls hl => ?_)
          refine lv_goto (pc := 45) (tgt := 3) hx hb dX8_link_45 (by decide) ?_
          exact ih3 (k + 1) (up g ((9 * w) + k) ((g ((9 * w) + k)) ||| b)) ls _ _ (by omega) (by omega) (by first | exact lnk_y2 i2 (by omega) | exact lnk_n2 i2 (by omega)) (fun j hj => by rw [up_n _ (by omega)]; exact i3 j hj) (lv_sub hl [1, 2, 3, 4, 0] rfl) (hP.sub [0, 1] rfl) (hD.sub [0, 1] (by decide) rfl) hS
  exact loop3 (_ + 1) 0 fol ls _ _ (Nat.lt_succ_self _) (by omega) (fun p => (if_neg (by omega)).symm) (fun _ _ => rfl) (lv_sub hl [1, 2, 3, 4, 0] rfl) (hP.sub [0, 1] rfl) (hD.sub [0, 1] (by decide) rfl) hS
set_option maxHeartbeats 4000000 in
set_option maxRecDepth 100000 in
theorem c_X8_pushLeaf (l : Launch) (D : va_G) (cI cL cZ : ClassId) (sz : Nat) (hm : Nat) (am : Nat → Nat) (n : Nat) (pos : Nat) (cmp : Nat) (que : Nat) (dsz : Nat) (mad : Nat) (cur : Nat) (stp : Nat) (met : Nat) (bst : Nat) (fol : Nat → Nat) (wsy : Nat → Nat) (nus : Nat → Bool) (fis : Nat → Nat) (las : Nat → Nat) (v : Nat) (k : Nat) (w : Nat) (o : Nat) (ki : Nat) (hv : okVb v = true) (hk : k < dc v) (hw2 : w < 2) (haj : AJ v w (k + 1) o nus fis las fol wsy pos) (hki : ki = dg v k) (h6 : ki < 6) : Met l yX8_pushLeaf wsX8_pushLeaf { frames := 0, cells := 0, slots := 0, locals := 0 } (mP D (tyL cI cL cZ) [(hm, .inr (6, oM am n pos cmp que dsz mad cur stp met bst)), (am 7, .inl (cI, 18, .inl (nA fol))), (am 6, .inl (cI, 6, .inl (nA wsy))), (am 8, .inl (cZ, 18, .inl (zA nus))), (am 9, .inl (cI, 18, .inl (nA fis))), (am 10, .inl (cI, 18, .inl (nA las)))] sz [.ref hm, .int (nI w), .int (nI o), .int (nI ki)]) (va_Qv (fun (u : Nat × (Nat → Nat) × (Nat → Nat) × (Nat → Bool) × (Nat → Nat) × (Nat → Nat)) => AJ v w k (o + 1) u.2.2.2.1 u.2.2.2.2.1 u.2.2.2.2.2 u.2.1 u.2.2.1 u.1 ∧ (∀ j, j < 18 → (j < 9 * w ∨ 9 * w + 9 ≤ j) → u.2.1 j = fol j) ∧ (∀ j, j < 6 → (j < 3 * w ∨ 3 * w + 3 ≤ j) → u.2.2.1 j = wsy j)) (fun (u : Nat × (Nat → Nat) × (Nat → Nat) × (Nat → Bool) × (Nat → Nat) × (Nat → Nat)) (t : State) => mB D (tyL cI cL cZ) (va_A [(hm, .inr (6, oM am n pos cmp que dsz mad cur stp met bst)), (am 7, .inl (cI, 18, .inl (nA fol))), (am 6, .inl (cI, 6, .inl (nA wsy))), (am 8, .inl (cZ, 18, .inl (zA nus))), (am 9, .inl (cI, 18, .inl (nA fis))), (am 10, .inl (cI, 18, .inl (nA las)))] sz) [(hm, .inr (6, oM am n (u.1) cmp que dsz mad cur stp met bst)), (am 7, .inl (cI, 18, .inl (nA (u.2.1)))), (am 6, .inl (cI, 6, .inl (nA (u.2.2.1)))), (am 8, .inl (cZ, 18, .inl (zA (u.2.2.2.1)))), (am 9, .inl (cI, 18, .inl (nA (u.2.2.2.2.1)))), (am 10, .inl (cI, 18, .inl (nA (u.2.2.2.2.2))))] t) (va_A [(hm, .inr (6, oM am n pos cmp que dsz mad cur stp met bst)), (am 7, .inl (cI, 18, .inl (nA fol))), (am 6, .inl (cI, 6, .inl (nA wsy))), (am 8, .inl (cZ, 18, .inl (zA nus))), (am 9, .inl (cI, 18, .inl (nA fis))), (am 10, .inl (cI, 18, .inl (nA las)))] sz)) 0 0 (va_A [(hm, .inr (6, oM am n pos cmp que dsz mad cur stp met bst)), (am 7, .inl (cI, 18, .inl (nA fol))), (am 6, .inl (cI, 6, .inl (nA wsy))), (am 8, .inl (cZ, 18, .inl (zA nus))), (am 9, .inl (cI, 18, .inl (nA fis))), (am 10, .inl (cI, 18, .inl (nA las)))] sz) := by
  refine Met.ofW (cc := cX8_pushLeaf) (maxL := 4) (ret := none) (by decide) rfl ?_
  intro pG eG s mG args below meth cG s₁ B hml hpre9
  obtain ⟨rfl, hsz, hP, hK, hD0⟩ := hpre9
  have hx := B.exec
  have hb := B.bytes
  have hr := B.returns
  have hts := atoms_spec (ws := wsX8_pushLeaf) B.pre
  have hown : s.vm.findClass RX8 = some mG.cls := findClass_of_methodNamed B.named
  have hlocks := B.notSynchronized
  subst hsz
  have hD := hD0.self (sz := s.heap.size)
  have hA : ∀ q : Nat, s.heap.size ≤ q → va_A [(hm, .inr (6, oM am n pos cmp que dsz mad cur stp met bst)), (am 7, .inl (cI, 18, .inl (nA fol))), (am 6, .inl (cI, 6, .inl (nA wsy))), (am 8, .inl (cZ, 18, .inl (zA nus))), (am 9, .inl (cI, 18, .inl (nA fis))), (am 10, .inl (cI, 18, .inl (nA las)))] s.heap.size q := fun q h => Or.inr h
  have hS : va_S (va_A [(hm, .inr (6, oM am n pos cmp que dsz mad cur stp met bst)), (am 7, .inl (cI, 18, .inl (nA fol))), (am 6, .inl (cI, 6, .inl (nA wsy))), (am 8, .inl (cZ, 18, .inl (zA nus))), (am 9, .inl (cI, 18, .inl (nA fis))), (am 10, .inl (cI, 18, .inl (nA las)))] s.heap.size) s.heap s.heap [] := va_S.rf
  have hinX8 : ∀ w ∈ wsX80, w ∈ wsX8_pushLeaf := fun w HH => (List.mem_cons_of_mem _ (List.mem_append_right _ HH))
  have lk0 : (Cond.fieldLink RX8 32 "RegexSimplifierModel" "nullables" "[Z").before _ s = true := hts _ (List.mem_cons_of_mem _ (List.mem_append_left _ (List.mem_of_getElem? (i := 0) rfl)))
  have lk1 : (Cond.fieldLink RX8 35 "RegexSimplifierModel" "firsts" "[I").before _ s = true := hts _ (List.mem_cons_of_mem _ (List.mem_append_left _ (List.mem_of_getElem? (i := 1) rfl)))
  have lk2 : (Cond.fieldLink RX8 38 "RegexSimplifierModel" "lasts" "[I").before _ s = true := hts _ (List.mem_cons_of_mem _ (List.mem_append_left _ (List.mem_of_getElem? (i := 4) rfl)))
  have lk3 : (Cond.fieldLink RX8 96 "RegexSimplifierModel" "positions" "I").before _ s = true := hts _ (List.mem_cons_of_mem _ (List.mem_append_left _ (List.mem_of_getElem? (i := 2) rfl)))
  have lk4 : (Cond.fieldLink RX8 26 "RegexSimplifierModel" "withSymbol" "[I").before _ s = true := hts _ (List.mem_cons_of_mem _ (List.mem_append_left _ (List.mem_of_getElem? (i := 3) rfl)))
  have hl := lv_entry ([.ref hm, .int (nI w), .int (nI o), .int (nI ki)]) (n := 4) (Nat.le_of_ble_eq_true rfl)
  rw [lg_entry_eq]
  generalize (lg_sl ([.ref hm, .int (nI w), .int (nI o), .int (nI ki)]) ++ List.replicate (4 - (lg_sl ([.ref hm, .int (nI w), .int (nI o), .int (nI ki)])).length) Slot.unset).toArray = ls at hl ⊢
  have hl : lv_has ls 4 [(0, .ref hm), (1, .int (nI w)), (2, .int (nI o)), (3, .int (nI ki))] := hl
  have tv := TV_v (okVb_iff.mp hv)
  have hn18 := tv.n18
  have hq := tv.q hk
  have hps := AJ_pos hv haj
  subst hki
  refine lv_aload_n (pc := 0) hx hb dX8_pushLeaf_0 rfl (lv_at hl 0 rfl) ?_
  refine va_get (pc := 1) (D := D) (ci := 6) (v := .ref (am 8)) (C := RX8) (T := TX8) (N := 30) hx hb hts hinX8 hown hK hP 0 rfl rfl 8 (by decide) lk0 (fun _ h9 => h9) rfl dX8_pushLeaf_1 ?_
  refine lv_iload_n (pc := 4) hx hb dX8_pushLeaf_4 rfl (lv_at hl 2 rfl) ?_
  refine lv_iload_n (pc := 5) hx hb dX8_pushLeaf_5 rfl (lv_at hl 3 rfl) ?_
  refine lv_iconst (pc := 6) (v := (nI (2))) hx hb dX8_pushLeaf_6 (by decide) ?_
  refine xn_icmp_ne (pc := 7) (tgt := 14) hx hb (by omega) (by omega) dX8_pushLeaf_7 (by decide) (fun c7 => ?_) (fun c7 => ?_)
  · refine lv_iconst (pc := 14) (v := (nI (0))) hx hb dX8_pushLeaf_14 (by decide) ?_
    refine W.eq (g2 := F0 mG 15 ls (.int (nI (pN False)) :: .int (nI o) :: .ref (am 8) :: [])) rfl ?_
    refine xa_zast (pc := 15) hx hb hK hP hD hS 3 2 rfl rfl (by omega) (by omega) dX8_pushLeaf_15 (fun H locs hP hD hS => ?_)
    have hP : va_P D vwCl [(hm, .inr (6, oM am n pos cmp que dsz mad cur stp met bst)), (am 7, .inl (cI, 18, .inl (nA fol))), (am 6, .inl (cI, 6, .inl (nA wsy))), (am 8, .inl (cZ, 18, .inl (zA (upz nus o (decide (False)))))), (am 9, .inl (cI, 18, .inl (nA fis))), (am 10, .inl (cI, 18, .inl (nA las)))] H := hP
    have hD : va_D _ [(hm, .inr (6, oM am n pos cmp que dsz mad cur stp met bst)), (am 7, .inl (cI, 18, .inl (nA fol))), (am 6, .inl (cI, 6, .inl (nA wsy))), (am 8, .inl (cZ, 18, .inl (zA (upz nus o (decide (False)))))), (am 9, .inl (cI, 18, .inl (nA fis))), (am 10, .inl (cI, 18, .inl (nA las)))] := hD
    refine lv_aload_n (pc := 16) hx hb dX8_pushLeaf_16 rfl (lv_at hl 0 rfl) ?_
    refine va_get (pc := 17) (D := D) (ci := 6) (v := .ref (am 9)) (C := RX8) (T := TX8) (N := 30) hx hb hts hinX8 hown hK hP 0 rfl rfl 9 (by decide) lk1 (fun _ h9 => h9) rfl dX8_pushLeaf_17 ?_
    refine lv_iload_n (pc := 20) hx hb dX8_pushLeaf_20 rfl (lv_at hl 2 rfl) ?_
    refine lv_iconst (pc := 21) (v := (nI (0))) hx hb dX8_pushLeaf_21 (by decide) ?_
    refine xa_iast (pc := 22) hx hb hK hP hD hS 4 0 rfl rfl (by omega) (by omega) dX8_pushLeaf_22 (fun H locs hP hD hS => ?_)
    have hP : va_P D vwCl [(hm, .inr (6, oM am n pos cmp que dsz mad cur stp met bst)), (am 7, .inl (cI, 18, .inl (nA fol))), (am 6, .inl (cI, 6, .inl (nA wsy))), (am 8, .inl (cZ, 18, .inl (zA (upz nus o (decide (False)))))), (am 9, .inl (cI, 18, .inl (nA (up fis o 0)))), (am 10, .inl (cI, 18, .inl (nA las)))] H := hP
    have hD : va_D _ [(hm, .inr (6, oM am n pos cmp que dsz mad cur stp met bst)), (am 7, .inl (cI, 18, .inl (nA fol))), (am 6, .inl (cI, 6, .inl (nA wsy))), (am 8, .inl (cZ, 18, .inl (zA (upz nus o (decide (False)))))), (am 9, .inl (cI, 18, .inl (nA (up fis o 0)))), (am 10, .inl (cI, 18, .inl (nA las)))] := hD
    refine lv_iload_n (pc := 23) hx hb dX8_pushLeaf_23 rfl (lv_at hl 3 rfl) ?_
    refine lv_iconst (pc := 24) (v := (nI (2))) hx hb dX8_pushLeaf_24 (by decide) ?_
    refine xn_icmp_le (pc := 25) (tgt := 71) hx hb (by omega) (by omega) dX8_pushLeaf_25 (by decide) (fun c25 => ?_) (fun c25 => ?_)
    · refine lv_aload_n (pc := 71) hx hb dX8_pushLeaf_71 rfl (lv_at hl 0 rfl) ?_
      refine va_get (pc := 72) (D := D) (ci := 6) (v := .ref (am 10)) (C := RX8) (T := TX8) (N := 30) hx hb hts hinX8 hown hK hP 0 rfl rfl 10 (by decide) lk2 (fun _ h9 => h9) rfl dX8_pushLeaf_72 ?_
      refine lv_iload_n (pc := 75) hx hb dX8_pushLeaf_75 rfl (lv_at hl 2 rfl) ?_
      refine lv_aload_n (pc := 76) hx hb dX8_pushLeaf_76 rfl (lv_at hl 0 rfl) ?_
      refine va_get (pc := 77) (D := D) (ci := 6) (v := .ref (am 9)) (C := RX8) (T := TX8) (N := 30) hx hb hts hinX8 hown hK hP 0 rfl rfl 9 (by decide) lk1 (fun _ h9 => h9) rfl dX8_pushLeaf_77 ?_
      refine lv_iload_n (pc := 80) hx hb dX8_pushLeaf_80 rfl (lv_at hl 2 rfl) ?_
      refine xa_iald (pc := 81) hx hb hK hP 4 0 rfl rfl (by omega) (by omega) dX8_pushLeaf_81 ?_
      refine W.eq (g2 := F0 mG 82 ls [.int (nI 0), .int (nI o), .ref (am 10)]) (congrArg (fun zz => F0 mG 82 ls [.int (nI zz), .int (nI o), .ref (am 10)]) (by rw [up_s])) ?_
      refine xa_iast (pc := 82) hx hb hK hP hD hS 5 0 rfl rfl (by omega) (by omega) dX8_pushLeaf_82 (fun H locs hP hD hS => ?_)
      have hP : va_P D vwCl [(hm, .inr (6, oM am n pos cmp que dsz mad cur stp met bst)), (am 7, .inl (cI, 18, .inl (nA fol))), (am 6, .inl (cI, 6, .inl (nA wsy))), (am 8, .inl (cZ, 18, .inl (zA (upz nus o (decide (False)))))), (am 9, .inl (cI, 18, .inl (nA (up fis o 0)))), (am 10, .inl (cI, 18, .inl (nA (up las o 0))))] H := hP
      have hD : va_D _ [(hm, .inr (6, oM am n pos cmp que dsz mad cur stp met bst)), (am 7, .inl (cI, 18, .inl (nA fol))), (am 6, .inl (cI, 6, .inl (nA wsy))), (am 8, .inl (cZ, 18, .inl (zA (upz nus o (decide (False)))))), (am 9, .inl (cI, 18, .inl (nA (up fis o 0)))), (am 10, .inl (cI, 18, .inl (nA (up las o 0))))] := hD
      have hP9 : va_P D vwCl [(hm, .inr (6, oM am n pos cmp que dsz mad cur stp met bst)), (am 7, .inl (cI, 18, .inl (nA fol))), (am 6, .inl (cI, 6, .inl (nA wsy))), (am 8, .inl (cZ, 18, .inl (zA ((upz nus o (decide (False))))))), (am 9, .inl (cI, 18, .inl (nA ((up fis o 0))))), (am 10, .inl (cI, 18, .inl (nA ((up las o 0)))))] H := hP.sub [0, 1, 2, 3, 4, 5] rfl
      have hD9 : va_D _ [(hm, .inr (6, oM am n pos cmp que dsz mad cur stp met bst)), (am 7, .inl (cI, 18, .inl (nA fol))), (am 6, .inl (cI, 6, .inl (nA wsy))), (am 8, .inl (cZ, 18, .inl (zA ((upz nus o (decide (False))))))), (am 9, .inl (cI, 18, .inl (nA ((up fis o 0))))), (am 10, .inl (cI, 18, .inl (nA ((up las o 0)))))] := hD.sub [0, 1, 2, 3, 4, 5] (by decide) rfl
      exact W.vret (pc := 83) hx hb hr (fun t ht hW => ⟨⟨(pos, fol, wsy, upz nus o (decide (False)), up fis o 0, up las o 0), rfl, (by first | exact ⟨AJ_sym hv hk ⟨by omega, by omega⟩ haj rfl, fun _ _ _ => rfl, fun j _ hj => up_n _ (by omega)⟩ | exact ⟨AJ_non hv hk h6 (by omega) (by first | exact (decide_eq_true (by omega)).symm | exact (decide_eq_false (by omega)).symm) haj, fun _ _ _ => rfl, fun _ _ _ => rfl⟩ | (exfalso; omega)), by rw [ht]; exact hP9, va_K.moved hW.alike hK, hD9⟩, hS.F ht⟩) hS.2.2 dX8_pushLeaf_83
    · have hp9 := AJ_pos9 hv hk ⟨by omega, by omega⟩ haj
      refine lv_aload_n (pc := 28) hx hb dX8_pushLeaf_28 rfl (lv_at hl 0 rfl) ?_
      refine va_get (pc := 29) (D := D) (ci := 6) (v := .ref (am 9)) (C := RX8) (T := TX8) (N := 30) hx hb hts hinX8 hown hK hP 0 rfl rfl 9 (by decide) lk1 (fun _ h9 => h9) rfl dX8_pushLeaf_29 ?_
      refine lv_iload_n (pc := 32) hx hb dX8_pushLeaf_32 rfl (lv_at hl 2 rfl) ?_
      refine lv_iconst (pc := 33) (v := (nI (1))) hx hb dX8_pushLeaf_33 (by decide) ?_
      refine lv_aload_n (pc := 34) hx hb dX8_pushLeaf_34 rfl (lv_at hl 0 rfl) ?_
      refine va_get (pc := 35) (D := D) (ci := 6) (v := .int (nI pos)) (C := RX8) (T := TX8) (N := 30) hx hb hts hinX8 hown hK hP 0 rfl rfl 11 (by decide) lk3 (fun _ h9 => h9) rfl dX8_pushLeaf_35 ?_
      refine xn_ishl (pc := 38) hx hb (by omega) (by have := p2_le (show pos ≤ 9 by omega); have e9 : (2 : Nat) ^ 9 = 512 := rfl; omega) dX8_pushLeaf_38 ?_
      refine xa_iast (pc := 39) hx hb hK hP hD hS 4 0 rfl rfl (by omega) (by omega) dX8_pushLeaf_39 (fun H locs hP hD hS => ?_)
      have hP : va_P D vwCl [(hm, .inr (6, oM am n pos cmp que dsz mad cur stp met bst)), (am 7, .inl (cI, 18, .inl (nA fol))), (am 6, .inl (cI, 6, .inl (nA wsy))), (am 8, .inl (cZ, 18, .inl (zA (upz nus o (decide (False)))))), (am 9, .inl (cI, 18, .inl (nA (up (up fis o 0) o (1 * 2 ^ pos))))), (am 10, .inl (cI, 18, .inl (nA las)))] H := hP
      have hD : va_D _ [(hm, .inr (6, oM am n pos cmp que dsz mad cur stp met bst)), (am 7, .inl (cI, 18, .inl (nA fol))), (am 6, .inl (cI, 6, .inl (nA wsy))), (am 8, .inl (cZ, 18, .inl (zA (upz nus o (decide (False)))))), (am 9, .inl (cI, 18, .inl (nA (up (up fis o 0) o (1 * 2 ^ pos))))), (am 10, .inl (cI, 18, .inl (nA las)))] := hD
      refine lv_aload_n (pc := 40) hx hb dX8_pushLeaf_40 rfl (lv_at hl 0 rfl) ?_
      refine va_get (pc := 41) (D := D) (ci := 6) (v := .ref (am 6)) (C := RX8) (T := TX8) (N := 30) hx hb hts hinX8 hown hK hP 0 rfl rfl 6 (by decide) lk4 (fun _ h9 => h9) rfl dX8_pushLeaf_41 ?_
      refine lv_iconst (pc := 44) (v := (nI (3))) hx hb dX8_pushLeaf_44 (by decide) ?_
      refine lv_iload_n (pc := 45) hx hb dX8_pushLeaf_45 rfl (lv_at hl 1 rfl) ?_
      refine xn_imul (pc := 46) hx hb  dX8_pushLeaf_46 ?_
      refine lv_iload_n (pc := 47) hx hb dX8_pushLeaf_47 rfl (lv_at hl 3 rfl) ?_
      refine xn_iadd (pc := 48) hx hb  dX8_pushLeaf_48 ?_
      refine lv_iconst (pc := 49) (v := (nI (3))) hx hb dX8_pushLeaf_49 (by decide) ?_
      refine xn_isub (pc := 50) hx hb (by omega) dX8_pushLeaf_50 ?_
      refine lv_dup2_11 (pc := 51) hx hb dX8_pushLeaf_51 rfl rfl ?_
      refine xa_iald (pc := 52) hx hb hK hP 2 0 rfl rfl (by omega) (by omega) dX8_pushLeaf_52 ?_
      refine lv_iconst (pc := 53) (v := (nI (1))) hx hb dX8_pushLeaf_53 (by decide) ?_
      refine lv_aload_n (pc := 54) hx hb dX8_pushLeaf_54 rfl (lv_at hl 0 rfl) ?_
      refine va_get (pc := 55) (D := D) (ci := 6) (v := .int (nI pos)) (C := RX8) (T := TX8) (N := 30) hx hb hts hinX8 hown hK hP 0 rfl rfl 11 (by decide) lk3 (fun _ h9 => h9) rfl dX8_pushLeaf_55 ?_
      refine xn_ishl (pc := 58) hx hb (by omega) (by have := p2_le (show pos ≤ 9 by omega); have e9 : (2 : Nat) ^ 9 = 512 := rfl; omega) dX8_pushLeaf_58 ?_
      refine xn_ior (pc := 59) hx hb  dX8_pushLeaf_59 ?_
      refine xa_iast (pc := 60) hx hb hK hP hD hS 2 0 rfl rfl (by omega) (by omega) dX8_pushLeaf_60 (fun H locs hP hD hS => ?_)
      have hP : va_P D vwCl [(hm, .inr (6, oM am n pos cmp que dsz mad cur stp met bst)), (am 7, .inl (cI, 18, .inl (nA fol))), (am 6, .inl (cI, 6, .inl (nA (up wsy (((3 * w) + (dg v k)) - 3) ((wsy (((3 * w) + (dg v k)) - 3)) ||| (1 * 2 ^ pos)))))), (am 8, .inl (cZ, 18, .inl (zA (upz nus o (decide (False)))))), (am 9, .inl (cI, 18, .inl (nA (up (up fis o 0) o (1 * 2 ^ pos))))), (am 10, .inl (cI, 18, .inl (nA las)))] H := hP
      have hD : va_D _ [(hm, .inr (6, oM am n pos cmp que dsz mad cur stp met bst)), (am 7, .inl (cI, 18, .inl (nA fol))), (am 6, .inl (cI, 6, .inl (nA (up wsy (((3 * w) + (dg v k)) - 3) ((wsy (((3 * w) + (dg v k)) - 3)) ||| (1 * 2 ^ pos)))))), (am 8, .inl (cZ, 18, .inl (zA (upz nus o (decide (False)))))), (am 9, .inl (cI, 18, .inl (nA (up (up fis o 0) o (1 * 2 ^ pos))))), (am 10, .inl (cI, 18, .inl (nA las)))] := hD
      refine lv_aload_n (pc := 61) hx hb dX8_pushLeaf_61 rfl (lv_at hl 0 rfl) ?_
      refine lv_dup (pc := 62) hx hb dX8_pushLeaf_62 rfl ?_
      refine va_get (pc := 63) (D := D) (ci := 6) (v := .int (nI pos)) (C := RX8) (T := TX8) (N := 30) hx hb hts hinX8 hown hK hP 0 rfl rfl 11 (by decide) lk3 (fun _ h9 => h9) rfl dX8_pushLeaf_63 ?_
      refine lv_iconst (pc := 66) (v := (nI (1))) hx hb dX8_pushLeaf_66 (by decide) ?_
      refine xn_iadd (pc := 67) hx hb  dX8_pushLeaf_67 ?_
      refine va_put (pc := 68) (D := D) (ci := 6) (v := .int (nI (pos + 1))) (ty := .int) (C := RX8) (T := TX8) (N := 30) hx hb hts hinX8 tyX8 tyX8_ok nmX8 hown hK hP hD hS 0 rfl rfl 11 (by decide) lk3 (fun _ h9 => h9) rfl (by decide +kernel) rfl rfl (Nat.le_of_ble_eq_true rfl) dX8_pushLeaf_68 (fun H locs hP hD hS => ?_)
      have hP : va_P D vwCl [(hm, .inr (6, oM am n (pos + 1) cmp que dsz mad cur stp met bst)), (am 7, .inl (cI, 18, .inl (nA fol))), (am 6, .inl (cI, 6, .inl (nA (up wsy (((3 * w) + (dg v k)) - 3) ((wsy (((3 * w) + (dg v k)) - 3)) ||| (1 * 2 ^ pos)))))), (am 8, .inl (cZ, 18, .inl (zA (upz nus o (decide (False)))))), (am 9, .inl (cI, 18, .inl (nA (up (up fis o 0) o (1 * 2 ^ pos))))), (am 10, .inl (cI, 18, .inl (nA las)))] H := hP
      have hD : va_D _ [(hm, .inr (6, oM am n (pos + 1) cmp que dsz mad cur stp met bst)), (am 7, .inl (cI, 18, .inl (nA fol))), (am 6, .inl (cI, 6, .inl (nA (up wsy (((3 * w) + (dg v k)) - 3) ((wsy (((3 * w) + (dg v k)) - 3)) ||| (1 * 2 ^ pos)))))), (am 8, .inl (cZ, 18, .inl (zA (upz nus o (decide (False)))))), (am 9, .inl (cI, 18, .inl (nA (up (up fis o 0) o (1 * 2 ^ pos))))), (am 10, .inl (cI, 18, .inl (nA las)))] := hD
      refine lv_aload_n (pc := 71) hx hb dX8_pushLeaf_71 rfl (lv_at hl 0 rfl) ?_
      refine va_get (pc := 72) (D := D) (ci := 6) (v := .ref (am 10)) (C := RX8) (T := TX8) (N := 30) hx hb hts hinX8 hown hK hP 0 rfl rfl 10 (by decide) lk2 (fun _ h9 => h9) rfl dX8_pushLeaf_72 ?_
      refine lv_iload_n (pc := 75) hx hb dX8_pushLeaf_75 rfl (lv_at hl 2 rfl) ?_
      refine lv_aload_n (pc := 76) hx hb dX8_pushLeaf_76 rfl (lv_at hl 0 rfl) ?_
      refine va_get (pc := 77) (D := D) (ci := 6) (v := .ref (am 9)) (C := RX8) (T := TX8) (N := 30) hx hb hts hinX8 hown hK hP 0 rfl rfl 9 (by decide) lk1 (fun _ h9 => h9) rfl dX8_pushLeaf_77 ?_
      refine lv_iload_n (pc := 80) hx hb dX8_pushLeaf_80 rfl (lv_at hl 2 rfl) ?_
      refine xa_iald (pc := 81) hx hb hK hP 4 0 rfl rfl (by omega) (by omega) dX8_pushLeaf_81 ?_
      refine W.eq (g2 := F0 mG 82 ls [.int (nI (1 * 2 ^ pos)), .int (nI o), .ref (am 10)]) (congrArg (fun zz => F0 mG 82 ls [.int (nI zz), .int (nI o), .ref (am 10)]) (by rw [up_s])) ?_
      refine xa_iast (pc := 82) hx hb hK hP hD hS 5 0 rfl rfl (by omega) (by omega) dX8_pushLeaf_82 (fun H locs hP hD hS => ?_)
      have hP : va_P D vwCl [(hm, .inr (6, oM am n (pos + 1) cmp que dsz mad cur stp met bst)), (am 7, .inl (cI, 18, .inl (nA fol))), (am 6, .inl (cI, 6, .inl (nA (up wsy (((3 * w) + (dg v k)) - 3) ((wsy (((3 * w) + (dg v k)) - 3)) ||| (1 * 2 ^ pos)))))), (am 8, .inl (cZ, 18, .inl (zA (upz nus o (decide (False)))))), (am 9, .inl (cI, 18, .inl (nA (up (up fis o 0) o (1 * 2 ^ pos))))), (am 10, .inl (cI, 18, .inl (nA (up las o (1 * 2 ^ pos)))))] H := hP
      have hD : va_D _ [(hm, .inr (6, oM am n (pos + 1) cmp que dsz mad cur stp met bst)), (am 7, .inl (cI, 18, .inl (nA fol))), (am 6, .inl (cI, 6, .inl (nA (up wsy (((3 * w) + (dg v k)) - 3) ((wsy (((3 * w) + (dg v k)) - 3)) ||| (1 * 2 ^ pos)))))), (am 8, .inl (cZ, 18, .inl (zA (upz nus o (decide (False)))))), (am 9, .inl (cI, 18, .inl (nA (up (up fis o 0) o (1 * 2 ^ pos))))), (am 10, .inl (cI, 18, .inl (nA (up las o (1 * 2 ^ pos)))))] := hD
      have hP9 : va_P D vwCl [(hm, .inr (6, oM am n ((pos + 1)) cmp que dsz mad cur stp met bst)), (am 7, .inl (cI, 18, .inl (nA fol))), (am 6, .inl (cI, 6, .inl (nA ((up wsy (((3 * w) + (dg v k)) - 3) ((wsy (((3 * w) + (dg v k)) - 3)) ||| (1 * 2 ^ pos))))))), (am 8, .inl (cZ, 18, .inl (zA ((upz nus o (decide (False))))))), (am 9, .inl (cI, 18, .inl (nA ((up (up fis o 0) o (1 * 2 ^ pos)))))), (am 10, .inl (cI, 18, .inl (nA ((up las o (1 * 2 ^ pos))))))] H := hP.sub [0, 1, 2, 3, 4, 5] rfl
      have hD9 : va_D _ [(hm, .inr (6, oM am n ((pos + 1)) cmp que dsz mad cur stp met bst)), (am 7, .inl (cI, 18, .inl (nA fol))), (am 6, .inl (cI, 6, .inl (nA ((up wsy (((3 * w) + (dg v k)) - 3) ((wsy (((3 * w) + (dg v k)) - 3)) ||| (1 * 2 ^ pos))))))), (am 8, .inl (cZ, 18, .inl (zA ((upz nus o (decide (False))))))), (am 9, .inl (cI, 18, .inl (nA ((up (up fis o 0) o (1 * 2 ^ pos)))))), (am 10, .inl (cI, 18, .inl (nA ((up las o (1 * 2 ^ pos))))))] := hD.sub [0, 1, 2, 3, 4, 5] (by decide) rfl
      exact W.vret (pc := 83) hx hb hr (fun t ht hW => ⟨⟨(pos + 1, fol, up wsy (((3 * w) + (dg v k)) - 3) ((wsy (((3 * w) + (dg v k)) - 3)) ||| (1 * 2 ^ pos)), upz nus o (decide (False)), up (up fis o 0) o (1 * 2 ^ pos), up las o (1 * 2 ^ pos)), rfl, (by first | exact ⟨AJ_sym hv hk ⟨by omega, by omega⟩ haj rfl, fun _ _ _ => rfl, fun j _ hj => up_n _ (by omega)⟩ | exact ⟨AJ_non hv hk h6 (by omega) (by first | exact (decide_eq_true (by omega)).symm | exact (decide_eq_false (by omega)).symm) haj, fun _ _ _ => rfl, fun _ _ _ => rfl⟩ | (exfalso; omega)), by rw [ht]; exact hP9, va_K.moved hW.alike hK, hD9⟩, hS.F ht⟩) hS.2.2 dX8_pushLeaf_83
  · refine lv_iconst (pc := 10) (v := (nI (1))) hx hb dX8_pushLeaf_10 (by decide) ?_
    refine lv_goto (pc := 11) (tgt := 15) hx hb dX8_pushLeaf_11 (by decide) ?_
    refine W.eq (g2 := F0 mG 15 ls (.int (nI (pN True)) :: .int (nI o) :: .ref (am 8) :: [])) rfl ?_
    refine xa_zast (pc := 15) hx hb hK hP hD hS 3 2 rfl rfl (by omega) (by omega) dX8_pushLeaf_15 (fun H locs hP hD hS => ?_)
    have hP : va_P D vwCl [(hm, .inr (6, oM am n pos cmp que dsz mad cur stp met bst)), (am 7, .inl (cI, 18, .inl (nA fol))), (am 6, .inl (cI, 6, .inl (nA wsy))), (am 8, .inl (cZ, 18, .inl (zA (upz nus o (decide (True)))))), (am 9, .inl (cI, 18, .inl (nA fis))), (am 10, .inl (cI, 18, .inl (nA las)))] H := hP
    have hD : va_D _ [(hm, .inr (6, oM am n pos cmp que dsz mad cur stp met bst)), (am 7, .inl (cI, 18, .inl (nA fol))), (am 6, .inl (cI, 6, .inl (nA wsy))), (am 8, .inl (cZ, 18, .inl (zA (upz nus o (decide (True)))))), (am 9, .inl (cI, 18, .inl (nA fis))), (am 10, .inl (cI, 18, .inl (nA las)))] := hD
    refine lv_aload_n (pc := 16) hx hb dX8_pushLeaf_16 rfl (lv_at hl 0 rfl) ?_
    refine va_get (pc := 17) (D := D) (ci := 6) (v := .ref (am 9)) (C := RX8) (T := TX8) (N := 30) hx hb hts hinX8 hown hK hP 0 rfl rfl 9 (by decide) lk1 (fun _ h9 => h9) rfl dX8_pushLeaf_17 ?_
    refine lv_iload_n (pc := 20) hx hb dX8_pushLeaf_20 rfl (lv_at hl 2 rfl) ?_
    refine lv_iconst (pc := 21) (v := (nI (0))) hx hb dX8_pushLeaf_21 (by decide) ?_
    refine xa_iast (pc := 22) hx hb hK hP hD hS 4 0 rfl rfl (by omega) (by omega) dX8_pushLeaf_22 (fun H locs hP hD hS => ?_)
    have hP : va_P D vwCl [(hm, .inr (6, oM am n pos cmp que dsz mad cur stp met bst)), (am 7, .inl (cI, 18, .inl (nA fol))), (am 6, .inl (cI, 6, .inl (nA wsy))), (am 8, .inl (cZ, 18, .inl (zA (upz nus o (decide (True)))))), (am 9, .inl (cI, 18, .inl (nA (up fis o 0)))), (am 10, .inl (cI, 18, .inl (nA las)))] H := hP
    have hD : va_D _ [(hm, .inr (6, oM am n pos cmp que dsz mad cur stp met bst)), (am 7, .inl (cI, 18, .inl (nA fol))), (am 6, .inl (cI, 6, .inl (nA wsy))), (am 8, .inl (cZ, 18, .inl (zA (upz nus o (decide (True)))))), (am 9, .inl (cI, 18, .inl (nA (up fis o 0)))), (am 10, .inl (cI, 18, .inl (nA las)))] := hD
    refine lv_iload_n (pc := 23) hx hb dX8_pushLeaf_23 rfl (lv_at hl 3 rfl) ?_
    refine lv_iconst (pc := 24) (v := (nI (2))) hx hb dX8_pushLeaf_24 (by decide) ?_
    refine xn_icmp_le (pc := 25) (tgt := 71) hx hb (by omega) (by omega) dX8_pushLeaf_25 (by decide) (fun c25 => ?_) (fun c25 => ?_)
    · refine lv_aload_n (pc := 71) hx hb dX8_pushLeaf_71 rfl (lv_at hl 0 rfl) ?_
      refine va_get (pc := 72) (D := D) (ci := 6) (v := .ref (am 10)) (C := RX8) (T := TX8) (N := 30) hx hb hts hinX8 hown hK hP 0 rfl rfl 10 (by decide) lk2 (fun _ h9 => h9) rfl dX8_pushLeaf_72 ?_
      refine lv_iload_n (pc := 75) hx hb dX8_pushLeaf_75 rfl (lv_at hl 2 rfl) ?_
      refine lv_aload_n (pc := 76) hx hb dX8_pushLeaf_76 rfl (lv_at hl 0 rfl) ?_
      refine va_get (pc := 77) (D := D) (ci := 6) (v := .ref (am 9)) (C := RX8) (T := TX8) (N := 30) hx hb hts hinX8 hown hK hP 0 rfl rfl 9 (by decide) lk1 (fun _ h9 => h9) rfl dX8_pushLeaf_77 ?_
      refine lv_iload_n (pc := 80) hx hb dX8_pushLeaf_80 rfl (lv_at hl 2 rfl) ?_
      refine xa_iald (pc := 81) hx hb hK hP 4 0 rfl rfl (by omega) (by omega) dX8_pushLeaf_81 ?_
      refine W.eq (g2 := F0 mG 82 ls [.int (nI 0), .int (nI o), .ref (am 10)]) (congrArg (fun zz => F0 mG 82 ls [.int (nI zz), .int (nI o), .ref (am 10)]) (by rw [up_s])) ?_
      refine xa_iast (pc := 82) hx hb hK hP hD hS 5 0 rfl rfl (by omega) (by omega) dX8_pushLeaf_82 (fun H locs hP hD hS => ?_)
      have hP : va_P D vwCl [(hm, .inr (6, oM am n pos cmp que dsz mad cur stp met bst)), (am 7, .inl (cI, 18, .inl (nA fol))), (am 6, .inl (cI, 6, .inl (nA wsy))), (am 8, .inl (cZ, 18, .inl (zA (upz nus o (decide (True)))))), (am 9, .inl (cI, 18, .inl (nA (up fis o 0)))), (am 10, .inl (cI, 18, .inl (nA (up las o 0))))] H := hP
      have hD : va_D _ [(hm, .inr (6, oM am n pos cmp que dsz mad cur stp met bst)), (am 7, .inl (cI, 18, .inl (nA fol))), (am 6, .inl (cI, 6, .inl (nA wsy))), (am 8, .inl (cZ, 18, .inl (zA (upz nus o (decide (True)))))), (am 9, .inl (cI, 18, .inl (nA (up fis o 0)))), (am 10, .inl (cI, 18, .inl (nA (up las o 0))))] := hD
      have hP9 : va_P D vwCl [(hm, .inr (6, oM am n pos cmp que dsz mad cur stp met bst)), (am 7, .inl (cI, 18, .inl (nA fol))), (am 6, .inl (cI, 6, .inl (nA wsy))), (am 8, .inl (cZ, 18, .inl (zA ((upz nus o (decide (True))))))), (am 9, .inl (cI, 18, .inl (nA ((up fis o 0))))), (am 10, .inl (cI, 18, .inl (nA ((up las o 0)))))] H := hP.sub [0, 1, 2, 3, 4, 5] rfl
      have hD9 : va_D _ [(hm, .inr (6, oM am n pos cmp que dsz mad cur stp met bst)), (am 7, .inl (cI, 18, .inl (nA fol))), (am 6, .inl (cI, 6, .inl (nA wsy))), (am 8, .inl (cZ, 18, .inl (zA ((upz nus o (decide (True))))))), (am 9, .inl (cI, 18, .inl (nA ((up fis o 0))))), (am 10, .inl (cI, 18, .inl (nA ((up las o 0)))))] := hD.sub [0, 1, 2, 3, 4, 5] (by decide) rfl
      exact W.vret (pc := 83) hx hb hr (fun t ht hW => ⟨⟨(pos, fol, wsy, upz nus o (decide (True)), up fis o 0, up las o 0), rfl, (by first | exact ⟨AJ_sym hv hk ⟨by omega, by omega⟩ haj rfl, fun _ _ _ => rfl, fun j _ hj => up_n _ (by omega)⟩ | exact ⟨AJ_non hv hk h6 (by omega) (by first | exact (decide_eq_true (by omega)).symm | exact (decide_eq_false (by omega)).symm) haj, fun _ _ _ => rfl, fun _ _ _ => rfl⟩ | (exfalso; omega)), by rw [ht]; exact hP9, va_K.moved hW.alike hK, hD9⟩, hS.F ht⟩) hS.2.2 dX8_pushLeaf_83
    · have hp9 := AJ_pos9 hv hk ⟨by omega, by omega⟩ haj
      refine lv_aload_n (pc := 28) hx hb dX8_pushLeaf_28 rfl (lv_at hl 0 rfl) ?_
      refine va_get (pc := 29) (D := D) (ci := 6) (v := .ref (am 9)) (C := RX8) (T := TX8) (N := 30) hx hb hts hinX8 hown hK hP 0 rfl rfl 9 (by decide) lk1 (fun _ h9 => h9) rfl dX8_pushLeaf_29 ?_
      refine lv_iload_n (pc := 32) hx hb dX8_pushLeaf_32 rfl (lv_at hl 2 rfl) ?_
      refine lv_iconst (pc := 33) (v := (nI (1))) hx hb dX8_pushLeaf_33 (by decide) ?_
      refine lv_aload_n (pc := 34) hx hb dX8_pushLeaf_34 rfl (lv_at hl 0 rfl) ?_
      refine va_get (pc := 35) (D := D) (ci := 6) (v := .int (nI pos)) (C := RX8) (T := TX8) (N := 30) hx hb hts hinX8 hown hK hP 0 rfl rfl 11 (by decide) lk3 (fun _ h9 => h9) rfl dX8_pushLeaf_35 ?_
      refine xn_ishl (pc := 38) hx hb (by omega) (by have := p2_le (show pos ≤ 9 by omega); have e9 : (2 : Nat) ^ 9 = 512 := rfl; omega) dX8_pushLeaf_38 ?_
      refine xa_iast (pc := 39) hx hb hK hP hD hS 4 0 rfl rfl (by omega) (by omega) dX8_pushLeaf_39 (fun H locs hP hD hS => ?_)
      have hP : va_P D vwCl [(hm, .inr (6, oM am n pos cmp que dsz mad cur stp met bst)), (am 7, .inl (cI, 18, .inl (nA fol))), (am 6, .inl (cI, 6, .inl (nA wsy))), (am 8, .inl (cZ, 18, .inl (zA (upz nus o (decide (True)))))), (am 9, .inl (cI, 18, .inl (nA (up (up fis o 0) o (1 * 2 ^ pos))))), (am 10, .inl (cI, 18, .inl (nA las)))] H := hP
      have hD : va_D _ [(hm, .inr (6, oM am n pos cmp que dsz mad cur stp met bst)), (am 7, .inl (cI, 18, .inl (nA fol))), (am 6, .inl (cI, 6, .inl (nA wsy))), (am 8, .inl (cZ, 18, .inl (zA (upz nus o (decide (True)))))), (am 9, .inl (cI, 18, .inl (nA (up (up fis o 0) o (1 * 2 ^ pos))))), (am 10, .inl (cI, 18, .inl (nA las)))] := hD
      refine lv_aload_n (pc := 40) hx hb dX8_pushLeaf_40 rfl (lv_at hl 0 rfl) ?_
      refine va_get (pc := 41) (D := D) (ci := 6) (v := .ref (am 6)) (C := RX8) (T := TX8) (N := 30) hx hb hts hinX8 hown hK hP 0 rfl rfl 6 (by decide) lk4 (fun _ h9 => h9) rfl dX8_pushLeaf_41 ?_
      refine lv_iconst (pc := 44) (v := (nI (3))) hx hb dX8_pushLeaf_44 (by decide) ?_
      refine lv_iload_n (pc := 45) hx hb dX8_pushLeaf_45 rfl (lv_at hl 1 rfl) ?_
      refine xn_imul (pc := 46) hx hb  dX8_pushLeaf_46 ?_
      refine lv_iload_n (pc := 47) hx hb dX8_pushLeaf_47 rfl (lv_at hl 3 rfl) ?_
      refine xn_iadd (pc := 48) hx hb  dX8_pushLeaf_48 ?_
      refine lv_iconst (pc := 49) (v := (nI (3))) hx hb dX8_pushLeaf_49 (by decide) ?_
      refine xn_isub (pc := 50) hx hb (by omega) dX8_pushLeaf_50 ?_
      refine lv_dup2_11 (pc := 51) hx hb dX8_pushLeaf_51 rfl rfl ?_
      refine xa_iald (pc := 52) hx hb hK hP 2 0 rfl rfl (by omega) (by omega) dX8_pushLeaf_52 ?_
      refine lv_iconst (pc := 53) (v := (nI (1))) hx hb dX8_pushLeaf_53 (by decide) ?_
      refine lv_aload_n (pc := 54) hx hb dX8_pushLeaf_54 rfl (lv_at hl 0 rfl) ?_
      refine va_get (pc := 55) (D := D) (ci := 6) (v := .int (nI pos)) (C := RX8) (T := TX8) (N := 30) hx hb hts hinX8 hown hK hP 0 rfl rfl 11 (by decide) lk3 (fun _ h9 => h9) rfl dX8_pushLeaf_55 ?_
      refine xn_ishl (pc := 58) hx hb (by omega) (by have := p2_le (show pos ≤ 9 by omega); have e9 : (2 : Nat) ^ 9 = 512 := rfl; omega) dX8_pushLeaf_58 ?_
      refine xn_ior (pc := 59) hx hb  dX8_pushLeaf_59 ?_
      refine xa_iast (pc := 60) hx hb hK hP hD hS 2 0 rfl rfl (by omega) (by omega) dX8_pushLeaf_60 (fun H locs hP hD hS => ?_)
      have hP : va_P D vwCl [(hm, .inr (6, oM am n pos cmp que dsz mad cur stp met bst)), (am 7, .inl (cI, 18, .inl (nA fol))), (am 6, .inl (cI, 6, .inl (nA (up wsy (((3 * w) + (dg v k)) - 3) ((wsy (((3 * w) + (dg v k)) - 3)) ||| (1 * 2 ^ pos)))))), (am 8, .inl (cZ, 18, .inl (zA (upz nus o (decide (True)))))), (am 9, .inl (cI, 18, .inl (nA (up (up fis o 0) o (1 * 2 ^ pos))))), (am 10, .inl (cI, 18, .inl (nA las)))] H := hP
      have hD : va_D _ [(hm, .inr (6, oM am n pos cmp que dsz mad cur stp met bst)), (am 7, .inl (cI, 18, .inl (nA fol))), (am 6, .inl (cI, 6, .inl (nA (up wsy (((3 * w) + (dg v k)) - 3) ((wsy (((3 * w) + (dg v k)) - 3)) ||| (1 * 2 ^ pos)))))), (am 8, .inl (cZ, 18, .inl (zA (upz nus o (decide (True)))))), (am 9, .inl (cI, 18, .inl (nA (up (up fis o 0) o (1 * 2 ^ pos))))), (am 10, .inl (cI, 18, .inl (nA las)))] := hD
      refine lv_aload_n (pc := 61) hx hb dX8_pushLeaf_61 rfl (lv_at hl 0 rfl) ?_
      refine lv_dup (pc := 62) hx hb dX8_pushLeaf_62 rfl ?_
      refine va_get (pc := 63) (D := D) (ci := 6) (v := .int (nI pos)) (C := RX8) (T := TX8) (N := 30) hx hb hts hinX8 hown hK hP 0 rfl rfl 11 (by decide) lk3 (fun _ h9 => h9) rfl dX8_pushLeaf_63 ?_
      refine lv_iconst (pc := 66) (v := (nI (1))) hx hb dX8_pushLeaf_66 (by decide) ?_
      refine xn_iadd (pc := 67) hx hb  dX8_pushLeaf_67 ?_
      refine va_put (pc := 68) (D := D) (ci := 6) (v := .int (nI (pos + 1))) (ty := .int) (C := RX8) (T := TX8) (N := 30) hx hb hts hinX8 tyX8 tyX8_ok nmX8 hown hK hP hD hS 0 rfl rfl 11 (by decide) lk3 (fun _ h9 => h9) rfl (by decide +kernel) rfl rfl (Nat.le_of_ble_eq_true rfl) dX8_pushLeaf_68 (fun H locs hP hD hS => ?_)
      have hP : va_P D vwCl [(hm, .inr (6, oM am n (pos + 1) cmp que dsz mad cur stp met bst)), (am 7, .inl (cI, 18, .inl (nA fol))), (am 6, .inl (cI, 6, .inl (nA (up wsy (((3 * w) + (dg v k)) - 3) ((wsy (((3 * w) + (dg v k)) - 3)) ||| (1 * 2 ^ pos)))))), (am 8, .inl (cZ, 18, .inl (zA (upz nus o (decide (True)))))), (am 9, .inl (cI, 18, .inl (nA (up (up fis o 0) o (1 * 2 ^ pos))))), (am 10, .inl (cI, 18, .inl (nA las)))] H := hP
      have hD : va_D _ [(hm, .inr (6, oM am n (pos + 1) cmp que dsz mad cur stp met bst)), (am 7, .inl (cI, 18, .inl (nA fol))), (am 6, .inl (cI, 6, .inl (nA (up wsy (((3 * w) + (dg v k)) - 3) ((wsy (((3 * w) + (dg v k)) - 3)) ||| (1 * 2 ^ pos)))))), (am 8, .inl (cZ, 18, .inl (zA (upz nus o (decide (True)))))), (am 9, .inl (cI, 18, .inl (nA (up (up fis o 0) o (1 * 2 ^ pos))))), (am 10, .inl (cI, 18, .inl (nA las)))] := hD
      refine lv_aload_n (pc := 71) hx hb dX8_pushLeaf_71 rfl (lv_at hl 0 rfl) ?_
      refine va_get (pc := 72) (D := D) (ci := 6) (v := .ref (am 10)) (C := RX8) (T := TX8) (N := 30) hx hb hts hinX8 hown hK hP 0 rfl rfl 10 (by decide) lk2 (fun _ h9 => h9) rfl dX8_pushLeaf_72 ?_
      refine lv_iload_n (pc := 75) hx hb dX8_pushLeaf_75 rfl (lv_at hl 2 rfl) ?_
      refine lv_aload_n (pc := 76) hx hb dX8_pushLeaf_76 rfl (lv_at hl 0 rfl) ?_
      refine va_get (pc := 77) (D := D) (ci := 6) (v := .ref (am 9)) (C := RX8) (T := TX8) (N := 30) hx hb hts hinX8 hown hK hP 0 rfl rfl 9 (by decide) lk1 (fun _ h9 => h9) rfl dX8_pushLeaf_77 ?_
      refine lv_iload_n (pc := 80) hx hb dX8_pushLeaf_80 rfl (lv_at hl 2 rfl) ?_
      refine xa_iald (pc := 81) hx hb hK hP 4 0 rfl rfl (by omega) (by omega) dX8_pushLeaf_81 ?_
      refine W.eq (g2 := F0 mG 82 ls [.int (nI (1 * 2 ^ pos)), .int (nI o), .ref (am 10)]) (congrArg (fun zz => F0 mG 82 ls [.int (nI zz), .int (nI o), .ref (am 10)]) (by rw [up_s])) ?_
      refine xa_iast (pc := 82) hx hb hK hP hD hS 5 0 rfl rfl (by omega) (by omega) dX8_pushLeaf_82 (fun H locs hP hD hS => ?_)
      have hP : va_P D vwCl [(hm, .inr (6, oM am n (pos + 1) cmp que dsz mad cur stp met bst)), (am 7, .inl (cI, 18, .inl (nA fol))), (am 6, .inl (cI, 6, .inl (nA (up wsy (((3 * w) + (dg v k)) - 3) ((wsy (((3 * w) + (dg v k)) - 3)) ||| (1 * 2 ^ pos)))))), (am 8, .inl (cZ, 18, .inl (zA (upz nus o (decide (True)))))), (am 9, .inl (cI, 18, .inl (nA (up (up fis o 0) o (1 * 2 ^ pos))))), (am 10, .inl (cI, 18, .inl (nA (up las o (1 * 2 ^ pos)))))] H := hP
      have hD : va_D _ [(hm, .inr (6, oM am n (pos + 1) cmp que dsz mad cur stp met bst)), (am 7, .inl (cI, 18, .inl (nA fol))), (am 6, .inl (cI, 6, .inl (nA (up wsy (((3 * w) + (dg v k)) - 3) ((wsy (((3 * w) + (dg v k)) - 3)) ||| (1 * 2 ^ pos)))))), (am 8, .inl (cZ, 18, .inl (zA (upz nus o (decide (True)))))), (am 9, .inl (cI, 18, .inl (nA (up (up fis o 0) o (1 * 2 ^ pos))))), (am 10, .inl (cI, 18, .inl (nA (up las o (1 * 2 ^ pos)))))] := hD
      have hP9 : va_P D vwCl [(hm, .inr (6, oM am n ((pos + 1)) cmp que dsz mad cur stp met bst)), (am 7, .inl (cI, 18, .inl (nA fol))), (am 6, .inl (cI, 6, .inl (nA ((up wsy (((3 * w) + (dg v k)) - 3) ((wsy (((3 * w) + (dg v k)) - 3)) ||| (1 * 2 ^ pos))))))), (am 8, .inl (cZ, 18, .inl (zA ((upz nus o (decide (True))))))), (am 9, .inl (cI, 18, .inl (nA ((up (up fis o 0) o (1 * 2 ^ pos)))))), (am 10, .inl (cI, 18, .inl (nA ((up las o (1 * 2 ^ pos))))))] H := hP.sub [0, 1, 2, 3, 4, 5] rfl
      have hD9 : va_D _ [(hm, .inr (6, oM am n ((pos + 1)) cmp que dsz mad cur stp met bst)), (am 7, .inl (cI, 18, .inl (nA fol))), (am 6, .inl (cI, 6, .inl (nA ((up wsy (((3 * w) + (dg v k)) - 3) ((wsy (((3 * w) + (dg v k)) - 3)) ||| (1 * 2 ^ pos))))))), (am 8, .inl (cZ, 18, .inl (zA ((upz nus o (decide (True))))))), (am 9, .inl (cI, 18, .inl (nA ((up (up fis o 0) o (1 * 2 ^ pos)))))), (am 10, .inl (cI, 18, .inl (nA ((up las o (1 * 2 ^ pos))))))] := hD.sub [0, 1, 2, 3, 4, 5] (by decide) rfl
      exact W.vret (pc := 83) hx hb hr (fun t ht hW => ⟨⟨(pos + 1, fol, up wsy (((3 * w) + (dg v k)) - 3) ((wsy (((3 * w) + (dg v k)) - 3)) ||| (1 * 2 ^ pos)), upz nus o (decide (True)), up (up fis o 0) o (1 * 2 ^ pos), up las o (1 * 2 ^ pos)), rfl, (by first | exact ⟨AJ_sym hv hk ⟨by omega, by omega⟩ haj rfl, fun _ _ _ => rfl, fun j _ hj => up_n _ (by omega)⟩ | exact ⟨AJ_non hv hk h6 (by omega) (by first | exact (decide_eq_true (by omega)).symm | exact (decide_eq_false (by omega)).symm) haj, fun _ _ _ => rfl, fun _ _ _ => rfl⟩ | (exfalso; omega)), by rw [ht]; exact hP9, va_K.moved hW.alike hK, hD9⟩, hS.F ht⟩) hS.2.2 dX8_pushLeaf_83
