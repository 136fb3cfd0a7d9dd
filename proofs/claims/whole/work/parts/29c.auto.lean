/-! the class: automata -/
set_option maxHeartbeats 4000000 in
set_option maxRecDepth 100000 in
theorem c_J7_fill_53178 (l : Launch) (D : va_G) (cI cL cZ : ClassId) (sz : Nat) (ha : Nat) (f : Nat → Nat) (L : Nat) (c : Nat) (hL : L < 2 ^ 30) : Met l yJ7_fill_53178 wsJ7_fill_53178 { frames := 0, cells := 0, slots := 0, locals := 0 } (mP D (tyL cI cL cZ) [(ha, .inl (cI, L, .inl (nA f)))] sz [.ref ha, .int (nI c)]) (va_Qv (fun (u : (Nat → Nat)) => ∀ j, j < L → u j = c) (fun (u : (Nat → Nat)) (t : State) => mB D (tyL cI cL cZ) (va_A [(ha, .inl (cI, L, .inl (nA f)))] sz) [(ha, .inl (cI, L, .inl (nA u)))] t) (va_A [(ha, .inl (cI, L, .inl (nA f)))] sz)) 0 0 (va_A [(ha, .inl (cI, L, .inl (nA f)))] sz) := by
  refine Met.ofW (cc := cJ7_fill_53178) (maxL := 4) (ret := none) (by decide) rfl ?_
  intro pG eG s mG args below meth cG s₁ B hml hpre9
  obtain ⟨rfl, hsz, hP, hK, hD0⟩ := hpre9
  have hx := B.exec
  have hb := B.bytes
  have hr := B.returns
  have hts := atoms_spec (ws := wsJ7_fill_53178) B.pre
  have hown : s.vm.findClass RJ7 = some mG.cls := findClass_of_methodNamed B.named
  have hlocks := B.notSynchronized
  subst hsz
  have hD := hD0.self (sz := s.heap.size)
  have hA : ∀ q : Nat, s.heap.size ≤ q → va_A [(ha, .inl (cI, L, .inl (nA f)))] s.heap.size q := fun q h => Or.inr h
  have hS : va_S (va_A [(ha, .inl (cI, L, .inl (nA f)))] s.heap.size) s.heap s.heap [] := va_S.rf
  have hl := lv_entry ([.ref ha, .int (nI c)]) (n := 4) (Nat.le_of_ble_eq_true rfl)
  rw [lg_entry_eq]
  generalize (lg_sl ([.ref ha, .int (nI c)]) ++ List.replicate (4 - (lg_sl ([.ref ha, .int (nI c)])).length) Slot.unset).toArray = ls at hl ⊢
  have hl : lv_has ls 4 [(0, .ref ha), (1, .int (nI c))] := hl
  refine lv_iconst (pc := 0) (v := (nI (0))) hx hb dJ7_fill_53178_0 (by decide) ?_
  refine lv_istore_n (pc := 1) (lv' := [(2, .int (nI 0)), (0, .ref ha), (1, .int (nI c))]) hx hb dJ7_fill_53178_1 rfl hl (by decide) rfl (fun ls hl => ?_)
  refine lv_aload_n (pc := 2) hx hb dJ7_fill_53178_2 rfl (lv_at hl 1 rfl) ?_
  refine va_alen (pc := 3) (v := nI L) hx hb hK hP 0 0 rfl rfl rfl dJ7_fill_53178_3 ?_
  refine lv_istore_n (pc := 4) (lv' := [(3, .int (nI L)), (2, .int (nI 0)), (0, .ref ha), (1, .int (nI c))]) hx hb dJ7_fill_53178_4 rfl hl (by decide) rfl (fun ls hl => ?_)
  have loop5 : ∀ (fuel : Nat) (k : Nat) (g : Nat → Nat) (ls : Array Slot) (H : Heap) (locs : List Loc), L - k < fuel → (k ≤ L) → (∀ j, j < k → g j = c) → lv_has ls 4 [(0, .ref ha), (1, .int (nI c)), (2, .int (nI k)), (3, .int (nI L))] → va_P D vwCl [(ha, .inl (cI, L, .inl (nA g)))] H → va_D (va_A [(ha, .inl (cI, L, .inl (nA f)))] s.heap.size) [(ha, .inl (cI, L, .inl (nA g)))] → va_S (va_A [(ha, .inl (cI, L, .inl (nA f)))] s.heap.size) s.heap H locs → W pG l eG (headSpec wsJ7_fill_53178 { frames := 0, cells := 0, slots := 0, locals := 0 }).room s mG [.ref ha, .int (nI c)].toArray below meth cG H locs 0 0 (MQ below (va_Qv (fun (u : (Nat → Nat)) => ∀ j, j < L → u j = c) (fun (u : (Nat → Nat)) (t : State) => mB D (tyL cI cL cZ) (va_A [(ha, .inl (cI, L, .inl (nA f)))] s.heap.size) [(ha, .inl (cI, L, .inl (nA u)))] t) (va_A [(ha, .inl (cI, L, .inl (nA f)))] s.heap.size)) [.ref ha, .int (nI c)].toArray s 0 0 (va_A [(ha, .inl (cI, L, .inl (nA f)))] s.heap.size)) (F0 mG 5 ls []) := by
    intro fuel
    induction fuel with
    | zero => intro k g ls H locs hmeas i1 i2 hl hP hD hS; exact absurd hmeas (Nat.not_lt_zero _)
    | succ fuel ih5 =>
      intro k g ls H locs hmeas i1 i2 hl hP hD hS
      refine lv_iload_n (pc := 5) hx hb dJ7_fill_53178_5 rfl (lv_at hl 2 rfl) ?_
      refine lv_iload_n (pc := 6) hx hb dJ7_fill_53178_6 rfl (lv_at hl 3 rfl) ?_
      refine xn_icmp_ge (pc := 7) (tgt := 20) hx hb (by omega) (by omega) dJ7_fill_53178_7 (by decide) (fun c7 => ?_) (fun c7 => ?_)
      · have hP9 : va_P D vwCl [(ha, .inl (cI, L, .inl (nA g)))] H := hP.sub [0] rfl
        have hD9 : va_D _ [(ha, .inl (cI, L, .inl (nA g)))] := hD.sub [0] (by decide) rfl
        exact W.vret (pc := 20) hx hb hr (fun t ht hW => ⟨⟨(g), rfl, (fun j hj => i2 j (by omega)), by rw [ht]; exact hP9, va_K.moved hW.alike hK, hD9⟩, hS.F ht⟩) hS.2.2 dJ7_fill_53178_20
      · refine lv_aload_n (pc := 10) hx hb dJ7_fill_53178_10 rfl (lv_at hl 0 rfl) ?_
        refine lv_iload_n (pc := 11) hx hb dJ7_fill_53178_11 rfl (lv_at hl 2 rfl) ?_
        refine lv_iload_n (pc := 12) hx hb dJ7_fill_53178_12 rfl (lv_at hl 1 rfl) ?_
        refine xa_iast (pc := 13) hx hb hK hP hD hS 0 0 rfl rfl (by omega) (by omega) dJ7_fill_53178_13 (fun H locs hP hD hS => ?_)
        have hP : va_P D vwCl [(ha, .inl (cI, L, .inl (nA (up g k c))))] H := hP
        have hD : va_D _ [(ha, .inl (cI, L, .inl (nA (up g k c))))] := hD
        refine lv_iinc (pc := 14) (v := (nI (k + 1))) (lv' := [(2, .int (nI (k + 1))), (0, .ref ha), (1, .int (nI c)), (3, .int (nI L))]) hx hb dJ7_fill_53178_14 hl (k := 2) rfl (nI_incr _) (by decide) rfl (fun ls hl => ?_)
        refine lv_goto (pc := 17) (tgt := 5) hx hb dJ7_fill_53178_17 (by decide) ?_
        exact ih5 (k + 1) (up g k c) ls _ _ (by omega) (by omega) (fun j hj => by by_cases q : j = k; (rw [q, up_s]); (rw [up_n _ q]; exact i2 j (by omega))) (lv_sub hl [1, 2, 0, 3] rfl) (hP.sub [0] rfl) (hD.sub [0] (by decide) rfl) hS
  exact loop5 (_ + 1) 0 f ls _ _ (Nat.lt_succ_self _) (by omega) (fun j hj => absurd hj (by omega)) (lv_sub hl [2, 3, 1, 0] rfl) (hP.sub [0] rfl) (hD.sub [0] (by decide) rfl) hS
set_option maxHeartbeats 4000000 in
set_option maxRecDepth 100000 in
theorem c_J7_fill_raw (l : Launch) (D : va_G) (cI cL cZ : ClassId) (sz : Nat) (ha : Nat) (f : Nat → Int32) (L : Nat) (c : Int32) (hL : L < 2 ^ 30) : Met l yJ7_fill_53178 wsJ7_fill_53178 { frames := 0, cells := 0, slots := 0, locals := 0 } (mP D (tyL cI cL cZ) [(ha, .inl (cI, L, .inl f))] sz [.ref ha, .int c]) (va_Qv (fun (u : (Nat → Int32)) => ∀ j, j < L → u j = c) (fun (u : (Nat → Int32)) (t : State) => mB D (tyL cI cL cZ) (va_A [(ha, .inl (cI, L, .inl f))] sz) [(ha, .inl (cI, L, .inl u))] t) (va_A [(ha, .inl (cI, L, .inl f))] sz)) 0 0 (va_A [(ha, .inl (cI, L, .inl f))] sz) := by
  refine Met.ofW (cc := cJ7_fill_53178) (maxL := 4) (ret := none) (by decide) rfl ?_
  intro pG eG s mG args below meth cG s₁ B hml hpre9
  obtain ⟨rfl, hsz, hP, hK, hD0⟩ := hpre9
  have hx := B.exec
  have hb := B.bytes
  have hr := B.returns
  have hts := atoms_spec (ws := wsJ7_fill_53178) B.pre
  have hown : s.vm.findClass RJ7 = some mG.cls := findClass_of_methodNamed B.named
  have hlocks := B.notSynchronized
  subst hsz
  have hD := hD0.self (sz := s.heap.size)
  have hA : ∀ q : Nat, s.heap.size ≤ q → va_A [(ha, .inl (cI, L, .inl f))] s.heap.size q := fun q h => Or.inr h
  have hS : va_S (va_A [(ha, .inl (cI, L, .inl f))] s.heap.size) s.heap s.heap [] := va_S.rf
  have hl := lv_entry ([.ref ha, .int c]) (n := 4) (Nat.le_of_ble_eq_true rfl)
  rw [lg_entry_eq]
  generalize (lg_sl ([.ref ha, .int c]) ++ List.replicate (4 - (lg_sl ([.ref ha, .int c])).length) Slot.unset).toArray = ls at hl ⊢
  have hl : lv_has ls 4 [(0, .ref ha), (1, .int c)] := hl
  refine lv_iconst (pc := 0) (v := (nI (0))) hx hb dJ7_fill_53178_0 (by decide) ?_
  refine lv_istore_n (pc := 1) (lv' := [(2, .int (nI 0)), (0, .ref ha), (1, .int c)]) hx hb dJ7_fill_53178_1 rfl hl (by decide) rfl (fun ls hl => ?_)
  refine lv_aload_n (pc := 2) hx hb dJ7_fill_53178_2 rfl (lv_at hl 1 rfl) ?_
  refine va_alen (pc := 3) (v := nI L) hx hb hK hP 0 0 rfl rfl rfl dJ7_fill_53178_3 ?_
  refine lv_istore_n (pc := 4) (lv' := [(3, .int (nI L)), (2, .int (nI 0)), (0, .ref ha), (1, .int c)]) hx hb dJ7_fill_53178_4 rfl hl (by decide) rfl (fun ls hl => ?_)
  have loop5 : ∀ (fuel : Nat) (k : Nat) (g : Nat → Int32) (ls : Array Slot) (H : Heap) (locs : List Loc), L - k < fuel → (k ≤ L) → (∀ j, j < k → g j = c) → lv_has ls 4 [(0, .ref ha), (1, .int c), (2, .int (nI k)), (3, .int (nI L))] → va_P D vwCl [(ha, .inl (cI, L, .inl g))] H → va_D (va_A [(ha, .inl (cI, L, .inl f))] s.heap.size) [(ha, .inl (cI, L, .inl g))] → va_S (va_A [(ha, .inl (cI, L, .inl f))] s.heap.size) s.heap H locs → W pG l eG (headSpec wsJ7_fill_53178 { frames := 0, cells := 0, slots := 0, locals := 0 }).room s mG [.ref ha, .int c].toArray below meth cG H locs 0 0 (MQ below (va_Qv (fun (u : (Nat → Int32)) => ∀ j, j < L → u j = c) (fun (u : (Nat → Int32)) (t : State) => mB D (tyL cI cL cZ) (va_A [(ha, .inl (cI, L, .inl f))] s.heap.size) [(ha, .inl (cI, L, .inl u))] t) (va_A [(ha, .inl (cI, L, .inl f))] s.heap.size)) [.ref ha, .int c].toArray s 0 0 (va_A [(ha, .inl (cI, L, .inl f))] s.heap.size)) (F0 mG 5 ls []) := by
    intro fuel
    induction fuel with
    | zero => intro k g ls H locs hmeas i1 i2 hl hP hD hS; exact absurd hmeas (Nat.not_lt_zero _)
    | succ fuel ih5 =>
      intro k g ls H locs hmeas i1 i2 hl hP hD hS
      refine lv_iload_n (pc := 5) hx hb dJ7_fill_53178_5 rfl (lv_at hl 2 rfl) ?_
      refine lv_iload_n (pc := 6) hx hb dJ7_fill_53178_6 rfl (lv_at hl 3 rfl) ?_
      refine xn_icmp_ge (pc := 7) (tgt := 20) hx hb (by omega) (by omega) dJ7_fill_53178_7 (by decide) (fun c7 => ?_) (fun c7 => ?_)
      · have hP9 : va_P D vwCl [(ha, .inl (cI, L, .inl g))] H := hP.sub [0] rfl
        have hD9 : va_D _ [(ha, .inl (cI, L, .inl g))] := hD.sub [0] (by decide) rfl
        exact W.vret (pc := 20) hx hb hr (fun t ht hW => ⟨⟨(g), rfl, (fun j hj => i2 j (by omega)), by rw [ht]; exact hP9, va_K.moved hW.alike hK, hD9⟩, hS.F ht⟩) hS.2.2 dJ7_fill_53178_20
      · refine lv_aload_n (pc := 10) hx hb dJ7_fill_53178_10 rfl (lv_at hl 0 rfl) ?_
        refine lv_iload_n (pc := 11) hx hb dJ7_fill_53178_11 rfl (lv_at hl 2 rfl) ?_
        refine lv_iload_n (pc := 12) hx hb dJ7_fill_53178_12 rfl (lv_at hl 1 rfl) ?_
        refine xr_iast (pc := 13) hx hb hK hP hD hS 0 0 rfl rfl (by omega) (by omega) dJ7_fill_53178_13 (fun H locs hP hD hS => ?_)
        have hP : va_P D vwCl [(ha, .inl (cI, L, .inl (upd g k (c))))] H := hP
        have hD : va_D _ [(ha, .inl (cI, L, .inl (upd g k (c))))] := hD
        refine lv_iinc (pc := 14) (v := (nI (k + 1))) (lv' := [(2, .int (nI (k + 1))), (0, .ref ha), (1, .int c), (3, .int (nI L))]) hx hb dJ7_fill_53178_14 hl (k := 2) rfl (nI_incr _) (by decide) rfl (fun ls hl => ?_)
        refine lv_goto (pc := 17) (tgt := 5) hx hb dJ7_fill_53178_17 (by decide) ?_
        exact ih5 (k + 1) (upd g k (c)) ls _ _ (by omega) (by omega) (fun j hj => by by_cases q : j = k; (rw [q]; exact upd_s9 _ _ _); (rw [upd_n9 _ q]; exact i2 j (by omega))) (lv_sub hl [1, 2, 0, 3] rfl) (hP.sub [0] rfl) (hD.sub [0] (by decide) rfl) hS
  exact loop5 (_ + 1) 0 f ls _ _ (Nat.lt_succ_self _) (by omega) (fun j hj => absurd hj (by omega)) (lv_sub hl [2, 3, 1, 0] rfl) (hP.sub [0] rfl) (hD.sub [0] (by decide) rfl) hS
set_option maxHeartbeats 4000000 in
set_option maxRecDepth 100000 in
theorem c_X0_link (l : Launch) (D : va_G) (cI cL cZ : ClassId) (sz : Nat) (hU : Nat) (aU : Nat → Nat) (em : Nat → Bool) (fs : Nat → Nat) (lz : Nat → Nat) (fo : Nat → Nat) (re : Nat → Nat) (ac : Nat) (st : Nat) (a : Nat) (b : Nat) (hst : st ≤ 10) (ha : a < 2 ^ st) : Met l yX0_link wsX0_link { frames := 0, cells := 0, slots := 0, locals := 0 } (mP D (tyL cI cL cZ) [(hU, .inr (0, oA aU ac st)), (aU 0, .inl (cZ, 18, .inl (zA em))), (aU 1, .inl (cI, 18, .inl (nA fs))), (aU 2, .inl (cI, 18, .inl (nA lz))), (aU 3, .inl (cI, 10, .inl (nA fo))), (aU 4, .inl (cI, 3, .inl (nA re)))] sz [.ref hU, .int (nI a), .int (nI b)]) (va_Qv (fun (u : (Nat → Nat)) => ∀ p, p < 10 → u p = lnk fo a b p) (fun (u : (Nat → Nat)) (t : State) => mB D (tyL cI cL cZ) (va_A [(hU, .inr (0, oA aU ac st)), (aU 0, .inl (cZ, 18, .inl (zA em))), (aU 1, .inl (cI, 18, .inl (nA fs))), (aU 2, .inl (cI, 18, .inl (nA lz))), (aU 3, .inl (cI, 10, .inl (nA fo))), (aU 4, .inl (cI, 3, .inl (nA re)))] sz) [(hU, .inr (0, oA aU ac st)), (aU 0, .inl (cZ, 18, .inl (zA em))), (aU 1, .inl (cI, 18, .inl (nA fs))), (aU 2, .inl (cI, 18, .inl (nA lz))), (aU 3, .inl (cI, 10, .inl (nA u))), (aU 4, .inl (cI, 3, .inl (nA re)))] t) (va_A [(hU, .inr (0, oA aU ac st)), (aU 0, .inl (cZ, 18, .inl (zA em))), (aU 1, .inl (cI, 18, .inl (nA fs))), (aU 2, .inl (cI, 18, .inl (nA lz))), (aU 3, .inl (cI, 10, .inl (nA fo))), (aU 4, .inl (cI, 3, .inl (nA re)))] sz)) 0 0 (va_A [(hU, .inr (0, oA aU ac st)), (aU 0, .inl (cZ, 18, .inl (zA em))), (aU 1, .inl (cI, 18, .inl (nA fs))), (aU 2, .inl (cI, 18, .inl (nA lz))), (aU 3, .inl (cI, 10, .inl (nA fo))), (aU 4, .inl (cI, 3, .inl (nA re)))] sz) := by
  refine Met.ofW (cc := cX0_link) (maxL := 4) (ret := none) (by decide) rfl ?_
  intro pG eG s mG args below meth cG s₁ B hml hpre9
  obtain ⟨rfl, hsz, hP, hK, hD0⟩ := hpre9
  have hx := B.exec
  have hb := B.bytes
  have hr := B.returns
  have hts := atoms_spec (ws := wsX0_link) B.pre
  have hown : s.vm.findClass RX0 = some mG.cls := findClass_of_methodNamed B.named
  have hlocks := B.notSynchronized
  subst hsz
  have hD := hD0.self (sz := s.heap.size)
  have hA : ∀ q : Nat, s.heap.size ≤ q → va_A [(hU, .inr (0, oA aU ac st)), (aU 0, .inl (cZ, 18, .inl (zA em))), (aU 1, .inl (cI, 18, .inl (nA fs))), (aU 2, .inl (cI, 18, .inl (nA lz))), (aU 3, .inl (cI, 10, .inl (nA fo))), (aU 4, .inl (cI, 3, .inl (nA re)))] s.heap.size q := fun q h => Or.inr h
  have hS : va_S (va_A [(hU, .inr (0, oA aU ac st)), (aU 0, .inl (cZ, 18, .inl (zA em))), (aU 1, .inl (cI, 18, .inl (nA fs))), (aU 2, .inl (cI, 18, .inl (nA lz))), (aU 3, .inl (cI, 10, .inl (nA fo))), (aU 4, .inl (cI, 3, .inl (nA re)))] s.heap.size) s.heap s.heap [] := va_S.rf
  have hinX0 : ∀ w ∈ wsX00, w ∈ wsX0_link := fun w HH => (List.mem_cons_of_mem _ (List.mem_append_right _ HH))
  have lk0 : (Cond.fieldLink RX0 34 "RegexSimplifier$Automaton" "states" "I").before _ s = true := hts _ (List.mem_cons_of_mem _ (List.mem_append_left _ (List.mem_of_getElem? (i := 0) rfl)))
  have lk1 : (Cond.fieldLink RX0 22 "RegexSimplifier$Automaton" "followers" "[I").before _ s = true := hts _ (List.mem_cons_of_mem _ (List.mem_append_left _ (List.mem_of_getElem? (i := 1) rfl)))
  have hl := lv_entry ([.ref hU, .int (nI a), .int (nI b)]) (n := 4) (Nat.le_of_ble_eq_true rfl)
  rw [lg_entry_eq]
  generalize (lg_sl ([.ref hU, .int (nI a), .int (nI b)]) ++ List.replicate (4 - (lg_sl ([.ref hU, .int (nI a), .int (nI b)])).length) Slot.unset).toArray = ls at hl ⊢
  have hl : lv_has ls 4 [(0, .ref hU), (1, .int (nI a)), (2, .int (nI b))] := hl
  have hp10 := p2_le hst
  have h1024 : (2 : Nat) ^ 10 = 1024 := rfl
  refine lv_iconst (pc := 0) (v := (nI (0))) hx hb dX0_link_0 (by decide) ?_
  refine lv_istore_n (pc := 1) (lv' := [(3, .int (nI 0)), (0, .ref hU), (1, .int (nI a)), (2, .int (nI b))]) hx hb dX0_link_1 rfl hl (by decide) rfl (fun ls hl => ?_)
  have loop2 : ∀ (fuel : Nat) (k : Nat) (g : Nat → Nat) (ls : Array Slot) (H : Heap) (locs : List Loc), st - k < fuel → (k ≤ st) → (∀ p, g p = if p < k then lnk fo a b p else fo p) → lv_has ls 4 [(0, .ref hU), (1, .int (nI a)), (2, .int (nI b)), (3, .int (nI k))] → va_P D vwCl [(hU, .inr (0, oA aU ac st)), (aU 0, .inl (cZ, 18, .inl (zA em))), (aU 1, .inl (cI, 18, .inl (nA fs))), (aU 2, .inl (cI, 18, .inl (nA lz))), (aU 3, .inl (cI, 10, .inl (nA g))), (aU 4, .inl (cI, 3, .inl (nA re)))] H → va_D (va_A [(hU, .inr (0, oA aU ac st)), (aU 0, .inl (cZ, 18, .inl (zA em))), (aU 1, .inl (cI, 18, .inl (nA fs))), (aU 2, .inl (cI, 18, .inl (nA lz))), (aU 3, .inl (cI, 10, .inl (nA fo))), (aU 4, .inl (cI, 3, .inl (nA re)))] s.heap.size) [(hU, .inr (0, oA aU ac st)), (aU 0, .inl (cZ, 18, .inl (zA em))), (aU 1, .inl (cI, 18, .inl (nA fs))), (aU 2, .inl (cI, 18, .inl (nA lz))), (aU 3, .inl (cI, 10, .inl (nA g))), (aU 4, .inl (cI, 3, .inl (nA re)))] → va_S (va_A [(hU, .inr (0, oA aU ac st)), (aU 0, .inl (cZ, 18, .inl (zA em))), (aU 1, .inl (cI, 18, .inl (nA fs))), (aU 2, .inl (cI, 18, .inl (nA lz))), (aU 3, .inl (cI, 10, .inl (nA fo))), (aU 4, .inl (cI, 3, .inl (nA re)))] s.heap.size) s.heap H locs → W pG l eG (headSpec wsX0_link { frames := 0, cells := 0, slots := 0, locals := 0 }).room s mG [.ref hU, .int (nI a), .int (nI b)].toArray below meth cG H locs 0 0 (MQ below (va_Qv (fun (u : (Nat → Nat)) => ∀ p, p < 10 → u p = lnk fo a b p) (fun (u : (Nat → Nat)) (t : State) => mB D (tyL cI cL cZ) (va_A [(hU, .inr (0, oA aU ac st)), (aU 0, .inl (cZ, 18, .inl (zA em))), (aU 1, .inl (cI, 18, .inl (nA fs))), (aU 2, .inl (cI, 18, .inl (nA lz))), (aU 3, .inl (cI, 10, .inl (nA fo))), (aU 4, .inl (cI, 3, .inl (nA re)))] s.heap.size) [(hU, .inr (0, oA aU ac st)), (aU 0, .inl (cZ, 18, .inl (zA em))), (aU 1, .inl (cI, 18, .inl (nA fs))), (aU 2, .inl (cI, 18, .inl (nA lz))), (aU 3, .inl (cI, 10, .inl (nA u))), (aU 4, .inl (cI, 3, .inl (nA re)))] t) (va_A [(hU, .inr (0, oA aU ac st)), (aU 0, .inl (cZ, 18, .inl (zA em))), (aU 1, .inl (cI, 18, .inl (nA fs))), (aU 2, .inl (cI, 18, .inl (nA lz))), (aU 3, .inl (cI, 10, .inl (nA fo))), (aU 4, .inl (cI, 3, .inl (nA re)))] s.heap.size)) [.ref hU, .int (nI a), .int (nI b)].toArray s 0 0 (va_A [(hU, .inr (0, oA aU ac st)), (aU 0, .inl (cZ, 18, .inl (zA em))), (aU 1, .inl (cI, 18, .inl (nA fs))), (aU 2, .inl (cI, 18, .inl (nA lz))), (aU 3, .inl (cI, 10, .inl (nA fo))), (aU 4, .inl (cI, 3, .inl (nA re)))] s.heap.size)) (F0 mG 2 ls []) := by
    intro fuel
    induction fuel with
    | zero => intro k g ls H locs hmeas i1 i2 hl hP hD hS; exact absurd hmeas (Nat.not_lt_zero _)
    | succ fuel ih2 =>
      intro k g ls H locs hmeas i1 i2 hl hP hD hS
      refine lv_iload_n (pc := 2) hx hb dX0_link_2 rfl (lv_at hl 3 rfl) ?_
      refine lv_aload_n (pc := 3) hx hb dX0_link_3 rfl (lv_at hl 0 rfl) ?_
      refine va_get (pc := 4) (D := D) (ci := 0) (v := .int (nI st)) (C := RX0) (T := TX0) (N := 7) hx hb hts hinX0 hown hK hP 0 rfl rfl 6 (by decide) lk0 (fun _ h9 => h9) rfl dX0_link_4 ?_
      refine xn_icmp_ge (pc := 7) (tgt := 34) hx hb (by omega) (by omega) dX0_link_7 (by decide) (fun c7 => ?_) (fun c7 => ?_)
      · have hP9 : va_P D vwCl [(hU, .inr (0, oA aU ac st)), (aU 0, .inl (cZ, 18, .inl (zA em))), (aU 1, .inl (cI, 18, .inl (nA fs))), (aU 2, .inl (cI, 18, .inl (nA lz))), (aU 3, .inl (cI, 10, .inl (nA g))), (aU 4, .inl (cI, 3, .inl (nA re)))] H := hP.sub [0, 1, 2, 3, 4, 5] rfl
        have hD9 : va_D _ [(hU, .inr (0, oA aU ac st)), (aU 0, .inl (cZ, 18, .inl (zA em))), (aU 1, .inl (cI, 18, .inl (nA fs))), (aU 2, .inl (cI, 18, .inl (nA lz))), (aU 3, .inl (cI, 10, .inl (nA g))), (aU 4, .inl (cI, 3, .inl (nA re)))] := hD.sub [0, 1, 2, 3, 4, 5] (by decide) rfl
        exact W.vret (pc := 34) hx hb hr (fun t ht hW => ⟨⟨(g), rfl, (fun p _ => lnk_all i2 (by omega) ha p), by rw [ht]; exact hP9, va_K.moved hW.alike hK, hD9⟩, hS.F ht⟩) hS.2.2 dX0_link_34
      · refine lv_iload_n (pc := 10) hx hb dX0_link_10 rfl (lv_at hl 1 rfl) ?_
        refine lv_iload_n (pc := 11) hx hb dX0_link_11 rfl (lv_at hl 3 rfl) ?_
        refine xn_ishr (pc := 12) hx hb (by omega) (by omega) dX0_link_12 ?_
        refine lv_iconst (pc := 13) (v := (nI (1))) hx hb dX0_link_13 (by decide) ?_
        refine xn_iand (pc := 14) hx hb  dX0_link_14 ?_
        refine W.eq (g2 := F0 mG 15 ls [.int (nI (a / 2 ^ k % 2))]) (congrArg (fun zz => F0 mG 15 ls [.int (nI zz)]) (by rw [Nat.and_one_is_mod])) ?_
        refine xn_if_eq (pc := 15) (tgt := 28) hx hb (by omega) dX0_link_15 (by decide) (fun c15 => ?_) (fun c15 => ?_)
        · refine lv_iinc (pc := 28) (v := (nI (k + 1))) (lv' := [(3, .int (nI (k + 1))), (0, .ref hU), (1, .int (nI a)), (2, .int (nI b))]) hx hb dX0_link_28 hl (k := 3) rfl (nI_incr _) (by decide) rfl (fun ls hl => ?_)
          refine lv_goto (pc := 31) (tgt := 2) hx hb dX0_link_31 (by decide) ?_
          exact ih2 (k + 1) g ls _ _ (by omega) (by omega) (by first | exact lnk_y i2 (by omega) | exact lnk_n i2 (by omega)) (lv_sub hl [1, 2, 3, 0] rfl) (hP.sub [0, 1, 2, 3, 4, 5] rfl) (hD.sub [0, 1, 2, 3, 4, 5] (by decide) rfl) hS
        · refine lv_aload_n (pc := 18) hx hb dX0_link_18 rfl (lv_at hl 0 rfl) ?_
          refine va_get (pc := 19) (D := D) (ci := 0) (v := .ref (aU 3)) (C := RX0) (T := TX0) (N := 7) hx hb hts hinX0 hown hK hP 0 rfl rfl 3 (by decide) lk1 (fun _ h9 => h9) rfl dX0_link_19 ?_
          refine lv_iload_n (pc := 22) hx hb dX0_link_22 rfl (lv_at hl 3 rfl) ?_
          refine lv_dup2_11 (pc := 23) hx hb dX0_link_23 rfl rfl ?_
          refine xa_iald (pc := 24) hx hb hK hP 4 0 rfl rfl (by omega) (by omega) dX0_link_24 ?_
          refine lv_iload_n (pc := 25) hx hb dX0_link_25 rfl (lv_at hl 2 rfl) ?_
          refine xn_ior (pc := 26) hx hb  dX0_link_26 ?_
          refine xa_iast (pc := 27) hx hb hK hP hD hS 4 0 rfl rfl (by omega) (by omega) dX0_link_27 (fun H locs hP hD hS => ?_)
          have hP : va_P D vwCl [(hU, .inr (0, oA aU ac st)), (aU 0, .inl (cZ, 18, .inl (zA em))), (aU 1, .inl (cI, 18, .inl (nA fs))), (aU 2, .inl (cI, 18, .inl (nA lz))), (aU 3, .inl (cI, 10, .inl (nA (up g k ((g k) ||| b))))), (aU 4, .inl (cI, 3, .inl (nA re)))] H := hP
          have hD : va_D _ [(hU, .inr (0, oA aU ac st)), (aU 0, .inl (cZ, 18, .inl (zA em))), (aU 1, .inl (cI, 18, .inl (nA fs))), (aU 2, .inl (cI, 18, .inl (nA lz))), (aU 3, .inl (cI, 10, .inl (nA (up g k ((g k) ||| b))))), (aU 4, .inl (cI, 3, .inl (nA re)))] := hD
          refine lv_iinc (pc := 28) (v := (nI (k + 1))) (lv' := [(3, .int (nI (k + 1))), (0, .ref hU), (1, .int (nI a)), (2, .int (nI b))]) hx hb dX0_link_28 hl (k := 3) rfl (nI_incr _) (by decide) rfl (fun ls hl => ?_)
          refine lv_goto (pc := 31) (tgt := 2) hx hb dX0_link_31 (by decide) ?_
          exact ih2 (k + 1) (up g k ((g k) ||| b)) ls _ _ (by omega) (by omega) (by first | exact lnk_y i2 (by omega) | exact lnk_n i2 (by omega)) (lv_sub hl [1, 2, 3, 0] rfl) (hP.sub [0, 1, 2, 3, 4, 5] rfl) (hD.sub [0, 1, 2, 3, 4, 5] (by decide) rfl) hS
  exact loop2 (_ + 1) 0 fo ls _ _ (Nat.lt_succ_self _) (by omega) (fun p => (if_neg (by omega)).symm) (lv_sub hl [1, 2, 3, 0] rfl) (hP.sub [0, 1, 2, 3, 4, 5] rfl) (hD.sub [0, 1, 2, 3, 4, 5] (by decide) rfl) hS
set_option maxHeartbeats 4000000 in
set_option maxRecDepth 100000 in
theorem c_X0_addLeaf (l : Launch) (D : va_G) (cI cL cZ : ClassId) (sz : Nat) (hU : Nat) (aU : Nat → Nat) (em : Nat → Bool) (fs : Nat → Nat) (lz : Nat → Nat) (fo : Nat → Nat) (re : Nat → Nat) (ac : Nat) (st : Nat) (v : Nat) (k : Nat) (ki : Nat) (hv : okVb v = true) (hk : k < dc v) (hki : ki = dg v k) (h6 : ki < 6) (hai : AI v (k + 1) em fs lz fo re st) : Met l yX0_addLeaf wsX0_addLeaf { frames := 0, cells := 0, slots := 0, locals := 0 } (mP D (tyL cI cL cZ) [(hU, .inr (0, oA aU ac st)), (aU 0, .inl (cZ, 18, .inl (zA em))), (aU 1, .inl (cI, 18, .inl (nA fs))), (aU 2, .inl (cI, 18, .inl (nA lz))), (aU 3, .inl (cI, 10, .inl (nA fo))), (aU 4, .inl (cI, 3, .inl (nA re)))] sz [.ref hU, .int (nI k), .int (nI ki)]) (va_Qv (fun (u : (Nat → Bool) × (Nat → Nat) × (Nat → Nat) × (Nat → Nat) × (Nat → Nat) × Nat) => AI v k u.1 u.2.1 u.2.2.1 u.2.2.2.1 u.2.2.2.2.1 u.2.2.2.2.2) (fun (u : (Nat → Bool) × (Nat → Nat) × (Nat → Nat) × (Nat → Nat) × (Nat → Nat) × Nat) (t : State) => mB D (tyL cI cL cZ) (va_A [(hU, .inr (0, oA aU ac st)), (aU 0, .inl (cZ, 18, .inl (zA em))), (aU 1, .inl (cI, 18, .inl (nA fs))), (aU 2, .inl (cI, 18, .inl (nA lz))), (aU 3, .inl (cI, 10, .inl (nA fo))), (aU 4, .inl (cI, 3, .inl (nA re)))] sz) [(hU, .inr (0, oA aU ac (u.2.2.2.2.2))), (aU 0, .inl (cZ, 18, .inl (zA (u.1)))), (aU 1, .inl (cI, 18, .inl (nA (u.2.1)))), (aU 2, .inl (cI, 18, .inl (nA (u.2.2.1)))), (aU 3, .inl (cI, 10, .inl (nA (u.2.2.2.1)))), (aU 4, .inl (cI, 3, .inl (nA (u.2.2.2.2.1))))] t) (va_A [(hU, .inr (0, oA aU ac st)), (aU 0, .inl (cZ, 18, .inl (zA em))), (aU 1, .inl (cI, 18, .inl (nA fs))), (aU 2, .inl (cI, 18, .inl (nA lz))), (aU 3, .inl (cI, 10, .inl (nA fo))), (aU 4, .inl (cI, 3, .inl (nA re)))] sz)) 0 0 (va_A [(hU, .inr (0, oA aU ac st)), (aU 0, .inl (cZ, 18, .inl (zA em))), (aU 1, .inl (cI, 18, .inl (nA fs))), (aU 2, .inl (cI, 18, .inl (nA lz))), (aU 3, .inl (cI, 10, .inl (nA fo))), (aU 4, .inl (cI, 3, .inl (nA re)))] sz) := by
  refine Met.ofW (cc := cX0_addLeaf) (maxL := 4) (ret := none) (by decide) rfl ?_
  intro pG eG s mG args below meth cG s₁ B hml hpre9
  obtain ⟨rfl, hsz, hP, hK, hD0⟩ := hpre9
  have hx := B.exec
  have hb := B.bytes
  have hr := B.returns
  have hts := atoms_spec (ws := wsX0_addLeaf) B.pre
  have hown : s.vm.findClass RX0 = some mG.cls := findClass_of_methodNamed B.named
  have hlocks := B.notSynchronized
  subst hsz
  have hD := hD0.self (sz := s.heap.size)
  have hA : ∀ q : Nat, s.heap.size ≤ q → va_A [(hU, .inr (0, oA aU ac st)), (aU 0, .inl (cZ, 18, .inl (zA em))), (aU 1, .inl (cI, 18, .inl (nA fs))), (aU 2, .inl (cI, 18, .inl (nA lz))), (aU 3, .inl (cI, 10, .inl (nA fo))), (aU 4, .inl (cI, 3, .inl (nA re)))] s.heap.size q := fun q h => Or.inr h
  have hS : va_S (va_A [(hU, .inr (0, oA aU ac st)), (aU 0, .inl (cZ, 18, .inl (zA em))), (aU 1, .inl (cI, 18, .inl (nA fs))), (aU 2, .inl (cI, 18, .inl (nA lz))), (aU 3, .inl (cI, 10, .inl (nA fo))), (aU 4, .inl (cI, 3, .inl (nA re)))] s.heap.size) s.heap s.heap [] := va_S.rf
  have hinX0 : ∀ w ∈ wsX00, w ∈ wsX0_addLeaf := fun w HH => (List.mem_cons_of_mem _ (List.mem_append_right _ HH))
  have lk0 : (Cond.fieldLink RX0 11 "RegexSimplifier$Automaton" "emptyWord" "[Z").before _ s = true := hts _ (List.mem_cons_of_mem _ (List.mem_append_left _ (List.mem_of_getElem? (i := 2) rfl)))
  have lk1 : (Cond.fieldLink RX0 15 "RegexSimplifier$Automaton" "firsts" "[I").before _ s = true := hts _ (List.mem_cons_of_mem _ (List.mem_append_left _ (List.mem_of_getElem? (i := 3) rfl)))
  have lk2 : (Cond.fieldLink RX0 19 "RegexSimplifier$Automaton" "lasts" "[I").before _ s = true := hts _ (List.mem_cons_of_mem _ (List.mem_append_left _ (List.mem_of_getElem? (i := 4) rfl)))
  have lk3 : (Cond.fieldLink RX0 34 "RegexSimplifier$Automaton" "states" "I").before _ s = true := hts _ (List.mem_cons_of_mem _ (List.mem_append_left _ (List.mem_of_getElem? (i := 0) rfl)))
  have lk4 : (Cond.fieldLink RX0 25 "RegexSimplifier$Automaton" "readers" "[I").before _ s = true := hts _ (List.mem_cons_of_mem _ (List.mem_append_left _ (List.mem_of_getElem? (i := 1) rfl)))
  have hl := lv_entry ([.ref hU, .int (nI k), .int (nI ki)]) (n := 4) (Nat.le_of_ble_eq_true rfl)
  rw [lg_entry_eq]
  generalize (lg_sl ([.ref hU, .int (nI k), .int (nI ki)]) ++ List.replicate (4 - (lg_sl ([.ref hU, .int (nI k), .int (nI ki)])).length) Slot.unset).toArray = ls at hl ⊢
  have hl : lv_has ls 4 [(0, .ref hU), (1, .int (nI k)), (2, .int (nI ki))] := hl
  have tv := TV_v (okVb_iff.mp hv)
  have hn18 := tv.n18
  have hq := tv.q hk
  have hst := AI_st hv hai
  subst hki
  refine lv_iconst (pc := 0) (v := (nI (0))) hx hb dX0_addLeaf_0 (by decide) ?_
  refine lv_istore_n (pc := 1) (lv' := [(3, .int (nI 0)), (0, .ref hU), (1, .int (nI k)), (2, .int (nI (dg v k)))]) hx hb dX0_addLeaf_1 rfl hl (by decide) rfl (fun ls hl => ?_)
  refine lv_iload_n (pc := 2) hx hb dX0_addLeaf_2 rfl (lv_at hl 3 rfl) ?_
  refine lv_iconst (pc := 3) (v := (nI (3))) hx hb dX0_addLeaf_3 (by decide) ?_
  refine xn_icmp_lt (pc := 4) (tgt := 50) hx hb (by omega) (by omega) dX0_addLeaf_4 (by decide) (fun c4 => ?_) (fun c4 => ?_)
  · refine lv_aload_n (pc := 50) hx hb dX0_addLeaf_50 rfl (lv_at hl 1 rfl) ?_
    refine va_get (pc := 51) (D := D) (ci := 0) (v := .ref (aU 0)) (C := RX0) (T := TX0) (N := 7) hx hb hts hinX0 hown hK hP 0 rfl rfl 0 (by decide) lk0 (fun _ h9 => h9) rfl dX0_addLeaf_51 ?_
    refine lv_iload_n (pc := 54) hx hb dX0_addLeaf_54 rfl (lv_at hl 2 rfl) ?_
    refine lv_iload_n (pc := 55) hx hb dX0_addLeaf_55 rfl (lv_at hl 3 rfl) ?_
    refine lv_iconst (pc := 56) (v := (nI (2))) hx hb dX0_addLeaf_56 (by decide) ?_
    refine xn_icmp_ne (pc := 57) (tgt := 64) hx hb (by omega) (by omega) dX0_addLeaf_57 (by decide) (fun c57 => ?_) (fun c57 => ?_)
    · refine lv_iconst (pc := 64) (v := (nI (0))) hx hb dX0_addLeaf_64 (by decide) ?_
      refine W.eq (g2 := F0 mG 65 ls (.int (nI (pN False)) :: .int (nI k) :: .ref (aU 0) :: [])) rfl ?_
      refine xa_zast (pc := 65) hx hb hK hP hD hS 1 2 rfl rfl (by omega) (by omega) dX0_addLeaf_65 (fun H locs hP hD hS => ?_)
      have hP : va_P D vwCl [(hU, .inr (0, oA aU ac st)), (aU 0, .inl (cZ, 18, .inl (zA (upz em k (decide (False)))))), (aU 1, .inl (cI, 18, .inl (nA fs))), (aU 2, .inl (cI, 18, .inl (nA lz))), (aU 3, .inl (cI, 10, .inl (nA fo))), (aU 4, .inl (cI, 3, .inl (nA re)))] H := hP
      have hD : va_D _ [(hU, .inr (0, oA aU ac st)), (aU 0, .inl (cZ, 18, .inl (zA (upz em k (decide (False)))))), (aU 1, .inl (cI, 18, .inl (nA fs))), (aU 2, .inl (cI, 18, .inl (nA lz))), (aU 3, .inl (cI, 10, .inl (nA fo))), (aU 4, .inl (cI, 3, .inl (nA re)))] := hD
      refine lv_aload_n (pc := 66) hx hb dX0_addLeaf_66 rfl (lv_at hl 1 rfl) ?_
      refine va_get (pc := 67) (D := D) (ci := 0) (v := .ref (aU 1)) (C := RX0) (T := TX0) (N := 7) hx hb hts hinX0 hown hK hP 0 rfl rfl 1 (by decide) lk1 (fun _ h9 => h9) rfl dX0_addLeaf_67 ?_
      refine lv_iload_n (pc := 70) hx hb dX0_addLeaf_70 rfl (lv_at hl 2 rfl) ?_
      refine lv_iload_n (pc := 71) hx hb dX0_addLeaf_71 rfl (lv_at hl 0 rfl) ?_
      refine xa_iast (pc := 72) hx hb hK hP hD hS 2 0 rfl rfl (by omega) (by omega) dX0_addLeaf_72 (fun H locs hP hD hS => ?_)
      have hP : va_P D vwCl [(hU, .inr (0, oA aU ac st)), (aU 0, .inl (cZ, 18, .inl (zA (upz em k (decide (False)))))), (aU 1, .inl (cI, 18, .inl (nA (up fs k 0)))), (aU 2, .inl (cI, 18, .inl (nA lz))), (aU 3, .inl (cI, 10, .inl (nA fo))), (aU 4, .inl (cI, 3, .inl (nA re)))] H := hP
      have hD : va_D _ [(hU, .inr (0, oA aU ac st)), (aU 0, .inl (cZ, 18, .inl (zA (upz em k (decide (False)))))), (aU 1, .inl (cI, 18, .inl (nA (up fs k 0)))), (aU 2, .inl (cI, 18, .inl (nA lz))), (aU 3, .inl (cI, 10, .inl (nA fo))), (aU 4, .inl (cI, 3, .inl (nA re)))] := hD
      refine lv_aload_n (pc := 73) hx hb dX0_addLeaf_73 rfl (lv_at hl 1 rfl) ?_
      refine va_get (pc := 74) (D := D) (ci := 0) (v := .ref (aU 2)) (C := RX0) (T := TX0) (N := 7) hx hb hts hinX0 hown hK hP 0 rfl rfl 2 (by decide) lk2 (fun _ h9 => h9) rfl dX0_addLeaf_74 ?_
      refine lv_iload_n (pc := 77) hx hb dX0_addLeaf_77 rfl (lv_at hl 2 rfl) ?_
      refine lv_iload_n (pc := 78) hx hb dX0_addLeaf_78 rfl (lv_at hl 0 rfl) ?_
      refine xa_iast (pc := 79) hx hb hK hP hD hS 3 0 rfl rfl (by omega) (by omega) dX0_addLeaf_79 (fun H locs hP hD hS => ?_)
      have hP : va_P D vwCl [(hU, .inr (0, oA aU ac st)), (aU 0, .inl (cZ, 18, .inl (zA (upz em k (decide (False)))))), (aU 1, .inl (cI, 18, .inl (nA (up fs k 0)))), (aU 2, .inl (cI, 18, .inl (nA (up lz k 0)))), (aU 3, .inl (cI, 10, .inl (nA fo))), (aU 4, .inl (cI, 3, .inl (nA re)))] H := hP
      have hD : va_D _ [(hU, .inr (0, oA aU ac st)), (aU 0, .inl (cZ, 18, .inl (zA (upz em k (decide (False)))))), (aU 1, .inl (cI, 18, .inl (nA (up fs k 0)))), (aU 2, .inl (cI, 18, .inl (nA (up lz k 0)))), (aU 3, .inl (cI, 10, .inl (nA fo))), (aU 4, .inl (cI, 3, .inl (nA re)))] := hD
      have hP9 : va_P D vwCl [(hU, .inr (0, oA aU ac st)), (aU 0, .inl (cZ, 18, .inl (zA ((upz em k (decide (False))))))), (aU 1, .inl (cI, 18, .inl (nA ((up fs k 0))))), (aU 2, .inl (cI, 18, .inl (nA ((up lz k 0))))), (aU 3, .inl (cI, 10, .inl (nA fo))), (aU 4, .inl (cI, 3, .inl (nA re)))] H := hP.sub [0, 1, 2, 3, 4, 5] rfl
      have hD9 : va_D _ [(hU, .inr (0, oA aU ac st)), (aU 0, .inl (cZ, 18, .inl (zA ((upz em k (decide (False))))))), (aU 1, .inl (cI, 18, .inl (nA ((up fs k 0))))), (aU 2, .inl (cI, 18, .inl (nA ((up lz k 0))))), (aU 3, .inl (cI, 10, .inl (nA fo))), (aU 4, .inl (cI, 3, .inl (nA re)))] := hD.sub [0, 1, 2, 3, 4, 5] (by decide) rfl
      exact W.vret (pc := 80) hx hb hr (fun t ht hW => ⟨⟨(upz em k (decide (False)), up fs k 0, up lz k 0, fo, re, st), rfl, (by first | exact AI_sym hv hk ⟨by omega, by omega⟩ hai | exact AI_non hv hk h6 (by omega) (by first | exact (decide_eq_true (by omega)).symm | exact (decide_eq_false (by omega)).symm) hai | (exfalso; omega)), by rw [ht]; exact hP9, va_K.moved hW.alike hK, hD9⟩, hS.F ht⟩) hS.2.2 dX0_addLeaf_80
    · refine lv_iconst (pc := 60) (v := (nI (1))) hx hb dX0_addLeaf_60 (by decide) ?_
      refine lv_goto (pc := 61) (tgt := 65) hx hb dX0_addLeaf_61 (by decide) ?_
      refine W.eq (g2 := F0 mG 65 ls (.int (nI (pN True)) :: .int (nI k) :: .ref (aU 0) :: [])) rfl ?_
      refine xa_zast (pc := 65) hx hb hK hP hD hS 1 2 rfl rfl (by omega) (by omega) dX0_addLeaf_65 (fun H locs hP hD hS => ?_)
      have hP : va_P D vwCl [(hU, .inr (0, oA aU ac st)), (aU 0, .inl (cZ, 18, .inl (zA (upz em k (decide (True)))))), (aU 1, .inl (cI, 18, .inl (nA fs))), (aU 2, .inl (cI, 18, .inl (nA lz))), (aU 3, .inl (cI, 10, .inl (nA fo))), (aU 4, .inl (cI, 3, .inl (nA re)))] H := hP
      have hD : va_D _ [(hU, .inr (0, oA aU ac st)), (aU 0, .inl (cZ, 18, .inl (zA (upz em k (decide (True)))))), (aU 1, .inl (cI, 18, .inl (nA fs))), (aU 2, .inl (cI, 18, .inl (nA lz))), (aU 3, .inl (cI, 10, .inl (nA fo))), (aU 4, .inl (cI, 3, .inl (nA re)))] := hD
      refine lv_aload_n (pc := 66) hx hb dX0_addLeaf_66 rfl (lv_at hl 1 rfl) ?_
      refine va_get (pc := 67) (D := D) (ci := 0) (v := .ref (aU 1)) (C := RX0) (T := TX0) (N := 7) hx hb hts hinX0 hown hK hP 0 rfl rfl 1 (by decide) lk1 (fun _ h9 => h9) rfl dX0_addLeaf_67 ?_
      refine lv_iload_n (pc := 70) hx hb dX0_addLeaf_70 rfl (lv_at hl 2 rfl) ?_
      refine lv_iload_n (pc := 71) hx hb dX0_addLeaf_71 rfl (lv_at hl 0 rfl) ?_
      refine xa_iast (pc := 72) hx hb hK hP hD hS 2 0 rfl rfl (by omega) (by omega) dX0_addLeaf_72 (fun H locs hP hD hS => ?_)
      have hP : va_P D vwCl [(hU, .inr (0, oA aU ac st)), (aU 0, .inl (cZ, 18, .inl (zA (upz em k (decide (True)))))), (aU 1, .inl (cI, 18, .inl (nA (up fs k 0)))), (aU 2, .inl (cI, 18, .inl (nA lz))), (aU 3, .inl (cI, 10, .inl (nA fo))), (aU 4, .inl (cI, 3, .inl (nA re)))] H := hP
      have hD : va_D _ [(hU, .inr (0, oA aU ac st)), (aU 0, .inl (cZ, 18, .inl (zA (upz em k (decide (True)))))), (aU 1, .inl (cI, 18, .inl (nA (up fs k 0)))), (aU 2, .inl (cI, 18, .inl (nA lz))), (aU 3, .inl (cI, 10, .inl (nA fo))), (aU 4, .inl (cI, 3, .inl (nA re)))] := hD
      refine lv_aload_n (pc := 73) hx hb dX0_addLeaf_73 rfl (lv_at hl 1 rfl) ?_
      refine va_get (pc := 74) (D := D) (ci := 0) (v := .ref (aU 2)) (C := RX0) (T := TX0) (N := 7) hx hb hts hinX0 hown hK hP 0 rfl rfl 2 (by decide) lk2 (fun _ h9 => h9) rfl dX0_addLeaf_74 ?_
      refine lv_iload_n (pc := 77) hx hb dX0_addLeaf_77 rfl (lv_at hl 2 rfl) ?_
      refine lv_iload_n (pc := 78) hx hb dX0_addLeaf_78 rfl (lv_at hl 0 rfl) ?_
      refine xa_iast (pc := 79) hx hb hK hP hD hS 3 0 rfl rfl (by omega) (by omega) dX0_addLeaf_79 (fun H locs hP hD hS => ?_)
      have hP : va_P D vwCl [(hU, .inr (0, oA aU ac st)), (aU 0, .inl (cZ, 18, .inl (zA (upz em k (decide (True)))))), (aU 1, .inl (cI, 18, .inl (nA (up fs k 0)))), (aU 2, .inl (cI, 18, .inl (nA (up lz k 0)))), (aU 3, .inl (cI, 10, .inl (nA fo))), (aU 4, .inl (cI, 3, .inl (nA re)))] H := hP
      have hD : va_D _ [(hU, .inr (0, oA aU ac st)), (aU 0, .inl (cZ, 18, .inl (zA (upz em k (decide (True)))))), (aU 1, .inl (cI, 18, .inl (nA (up fs k 0)))), (aU 2, .inl (cI, 18, .inl (nA (up lz k 0)))), (aU 3, .inl (cI, 10, .inl (nA fo))), (aU 4, .inl (cI, 3, .inl (nA re)))] := hD
      have hP9 : va_P D vwCl [(hU, .inr (0, oA aU ac st)), (aU 0, .inl (cZ, 18, .inl (zA ((upz em k (decide (True))))))), (aU 1, .inl (cI, 18, .inl (nA ((up fs k 0))))), (aU 2, .inl (cI, 18, .inl (nA ((up lz k 0))))), (aU 3, .inl (cI, 10, .inl (nA fo))), (aU 4, .inl (cI, 3, .inl (nA re)))] H := hP.sub [0, 1, 2, 3, 4, 5] rfl
      have hD9 : va_D _ [(hU, .inr (0, oA aU ac st)), (aU 0, .inl (cZ, 18, .inl (zA ((upz em k (decide (True))))))), (aU 1, .inl (cI, 18, .inl (nA ((up fs k 0))))), (aU 2, .inl (cI, 18, .inl (nA ((up lz k 0))))), (aU 3, .inl (cI, 10, .inl (nA fo))), (aU 4, .inl (cI, 3, .inl (nA re)))] := hD.sub [0, 1, 2, 3, 4, 5] (by decide) rfl
      exact W.vret (pc := 80) hx hb hr (fun t ht hW => ⟨⟨(upz em k (decide (True)), up fs k 0, up lz k 0, fo, re, st), rfl, (by first | exact AI_sym hv hk ⟨by omega, by omega⟩ hai | exact AI_non hv hk h6 (by omega) (by first | exact (decide_eq_true (by omega)).symm | exact (decide_eq_false (by omega)).symm) hai | (exfalso; omega)), by rw [ht]; exact hP9, va_K.moved hW.alike hK, hD9⟩, hS.F ht⟩) hS.2.2 dX0_addLeaf_80
  · refine lv_iload_n (pc := 7) hx hb dX0_addLeaf_7 rfl (lv_at hl 3 rfl) ?_
    refine lv_iconst (pc := 8) (v := (nI (5))) hx hb dX0_addLeaf_8 (by decide) ?_
    refine xn_icmp_gt (pc := 9) (tgt := 50) hx hb (by omega) (by omega) dX0_addLeaf_9 (by decide) (fun c9 => ?_) (fun c9 => ?_)
    · refine lv_aload_n (pc := 50) hx hb dX0_addLeaf_50 rfl (lv_at hl 1 rfl) ?_
      refine va_get (pc := 51) (D := D) (ci := 0) (v := .ref (aU 0)) (C := RX0) (T := TX0) (N := 7) hx hb hts hinX0 hown hK hP 0 rfl rfl 0 (by decide) lk0 (fun _ h9 => h9) rfl dX0_addLeaf_51 ?_
      refine lv_iload_n (pc := 54) hx hb dX0_addLeaf_54 rfl (lv_at hl 2 rfl) ?_
      refine lv_iload_n (pc := 55) hx hb dX0_addLeaf_55 rfl (lv_at hl 3 rfl) ?_
      refine lv_iconst (pc := 56) (v := (nI (2))) hx hb dX0_addLeaf_56 (by decide) ?_
      refine xn_icmp_ne (pc := 57) (tgt := 64) hx hb (by omega) (by omega) dX0_addLeaf_57 (by decide) (fun c57 => ?_) (fun c57 => ?_)
      · refine lv_iconst (pc := 64) (v := (nI (0))) hx hb dX0_addLeaf_64 (by decide) ?_
        refine W.eq (g2 := F0 mG 65 ls (.int (nI (pN False)) :: .int (nI k) :: .ref (aU 0) :: [])) rfl ?_
        refine xa_zast (pc := 65) hx hb hK hP hD hS 1 2 rfl rfl (by omega) (by omega) dX0_addLeaf_65 (fun H locs hP hD hS => ?_)
        have hP : va_P D vwCl [(hU, .inr (0, oA aU ac st)), (aU 0, .inl (cZ, 18, .inl (zA (upz em k (decide (False)))))), (aU 1, .inl (cI, 18, .inl (nA fs))), (aU 2, .inl (cI, 18, .inl (nA lz))), (aU 3, .inl (cI, 10, .inl (nA fo))), (aU 4, .inl (cI, 3, .inl (nA re)))] H := hP
        have hD : va_D _ [(hU, .inr (0, oA aU ac st)), (aU 0, .inl (cZ, 18, .inl (zA (upz em k (decide (False)))))), (aU 1, .inl (cI, 18, .inl (nA fs))), (aU 2, .inl (cI, 18, .inl (nA lz))), (aU 3, .inl (cI, 10, .inl (nA fo))), (aU 4, .inl (cI, 3, .inl (nA re)))] := hD
        refine lv_aload_n (pc := 66) hx hb dX0_addLeaf_66 rfl (lv_at hl 1 rfl) ?_
        refine va_get (pc := 67) (D := D) (ci := 0) (v := .ref (aU 1)) (C := RX0) (T := TX0) (N := 7) hx hb hts hinX0 hown hK hP 0 rfl rfl 1 (by decide) lk1 (fun _ h9 => h9) rfl dX0_addLeaf_67 ?_
        refine lv_iload_n (pc := 70) hx hb dX0_addLeaf_70 rfl (lv_at hl 2 rfl) ?_
        refine lv_iload_n (pc := 71) hx hb dX0_addLeaf_71 rfl (lv_at hl 0 rfl) ?_
        refine xa_iast (pc := 72) hx hb hK hP hD hS 2 0 rfl rfl (by omega) (by omega) dX0_addLeaf_72 (fun H locs hP hD hS => ?_)
        have hP : va_P D vwCl [(hU, .inr (0, oA aU ac st)), (aU 0, .inl (cZ, 18, .inl (zA (upz em k (decide (False)))))), (aU 1, .inl (cI, 18, .inl (nA (up fs k 0)))), (aU 2, .inl (cI, 18, .inl (nA lz))), (aU 3, .inl (cI, 10, .inl (nA fo))), (aU 4, .inl (cI, 3, .inl (nA re)))] H := hP
        have hD : va_D _ [(hU, .inr (0, oA aU ac st)), (aU 0, .inl (cZ, 18, .inl (zA (upz em k (decide (False)))))), (aU 1, .inl (cI, 18, .inl (nA (up fs k 0)))), (aU 2, .inl (cI, 18, .inl (nA lz))), (aU 3, .inl (cI, 10, .inl (nA fo))), (aU 4, .inl (cI, 3, .inl (nA re)))] := hD
        refine lv_aload_n (pc := 73) hx hb dX0_addLeaf_73 rfl (lv_at hl 1 rfl) ?_
        refine va_get (pc := 74) (D := D) (ci := 0) (v := .ref (aU 2)) (C := RX0) (T := TX0) (N := 7) hx hb hts hinX0 hown hK hP 0 rfl rfl 2 (by decide) lk2 (fun _ h9 => h9) rfl dX0_addLeaf_74 ?_
        refine lv_iload_n (pc := 77) hx hb dX0_addLeaf_77 rfl (lv_at hl 2 rfl) ?_
        refine lv_iload_n (pc := 78) hx hb dX0_addLeaf_78 rfl (lv_at hl 0 rfl) ?_
        refine xa_iast (pc := 79) hx hb hK hP hD hS 3 0 rfl rfl (by omega) (by omega) dX0_addLeaf_79 (fun H locs hP hD hS => ?_)
        have hP : va_P D vwCl [(hU, .inr (0, oA aU ac st)), (aU 0, .inl (cZ, 18, .inl (zA (upz em k (decide (False)))))), (aU 1, .inl (cI, 18, .inl (nA (up fs k 0)))), (aU 2, .inl (cI, 18, .inl (nA (up lz k 0)))), (aU 3, .inl (cI, 10, .inl (nA fo))), (aU 4, .inl (cI, 3, .inl (nA re)))] H := hP
        have hD : va_D _ [(hU, .inr (0, oA aU ac st)), (aU 0, .inl (cZ, 18, .inl (zA (upz em k (decide (False)))))), (aU 1, .inl (cI, 18, .inl (nA (up fs k 0)))), (aU 2, .inl (cI, 18, .inl (nA (up lz k 0)))), (aU 3, .inl (cI, 10, .inl (nA fo))), (aU 4, .inl (cI, 3, .inl (nA re)))] := hD
        have hP9 : va_P D vwCl [(hU, .inr (0, oA aU ac st)), (aU 0, .inl (cZ, 18, .inl (zA ((upz em k (decide (False))))))), (aU 1, .inl (cI, 18, .inl (nA ((up fs k 0))))), (aU 2, .inl (cI, 18, .inl (nA ((up lz k 0))))), (aU 3, .inl (cI, 10, .inl (nA fo))), (aU 4, .inl (cI, 3, .inl (nA re)))] H := hP.sub [0, 1, 2, 3, 4, 5] rfl
        have hD9 : va_D _ [(hU, .inr (0, oA aU ac st)), (aU 0, .inl (cZ, 18, .inl (zA ((upz em k (decide (False))))))), (aU 1, .inl (cI, 18, .inl (nA ((up fs k 0))))), (aU 2, .inl (cI, 18, .inl (nA ((up lz k 0))))), (aU 3, .inl (cI, 10, .inl (nA fo))), (aU 4, .inl (cI, 3, .inl (nA re)))] := hD.sub [0, 1, 2, 3, 4, 5] (by decide) rfl
        exact W.vret (pc := 80) hx hb hr (fun t ht hW => ⟨⟨(upz em k (decide (False)), up fs k 0, up lz k 0, fo, re, st), rfl, (by first | exact AI_sym hv hk ⟨by omega, by omega⟩ hai | exact AI_non hv hk h6 (by omega) (by first | exact (decide_eq_true (by omega)).symm | exact (decide_eq_false (by omega)).symm) hai | (exfalso; omega)), by rw [ht]; exact hP9, va_K.moved hW.alike hK, hD9⟩, hS.F ht⟩) hS.2.2 dX0_addLeaf_80
      · refine lv_iconst (pc := 60) (v := (nI (1))) hx hb dX0_addLeaf_60 (by decide) ?_
        refine lv_goto (pc := 61) (tgt := 65) hx hb dX0_addLeaf_61 (by decide) ?_
        refine W.eq (g2 := F0 mG 65 ls (.int (nI (pN True)) :: .int (nI k) :: .ref (aU 0) :: [])) rfl ?_
        refine xa_zast (pc := 65) hx hb hK hP hD hS 1 2 rfl rfl (by omega) (by omega) dX0_addLeaf_65 (fun H locs hP hD hS => ?_)
        have hP : va_P D vwCl [(hU, .inr (0, oA aU ac st)), (aU 0, .inl (cZ, 18, .inl (zA (upz em k (decide (True)))))), (aU 1, .inl (cI, 18, .inl (nA fs))), (aU 2, .inl (cI, 18, .inl (nA lz))), (aU 3, .inl (cI, 10, .inl (nA fo))), (aU 4, .inl (cI, 3, .inl (nA re)))] H := hP
        have hD : va_D _ [(hU, .inr (0, oA aU ac st)), (aU 0, .inl (cZ, 18, .inl (zA (upz em k (decide (True)))))), (aU 1, .inl (cI, 18, .inl (nA fs))), (aU 2, .inl (cI, 18, .inl (nA lz))), (aU 3, .inl (cI, 10, .inl (nA fo))), (aU 4, .inl (cI, 3, .inl (nA re)))] := hD
        refine lv_aload_n (pc := 66) hx hb dX0_addLeaf_66 rfl (lv_at hl 1 rfl) ?_
        refine va_get (pc := 67) (D := D) (ci := 0) (v := .ref (aU 1)) (C := RX0) (T := TX0) (N := 7) hx hb hts hinX0 hown hK hP 0 rfl rfl 1 (by decide) lk1 (fun _ h9 => h9) rfl dX0_addLeaf_67 ?_
        refine lv_iload_n (pc := 70) hx hb dX0_addLeaf_70 rfl (lv_at hl 2 rfl) ?_
        refine lv_iload_n (pc := 71) hx hb dX0_addLeaf_71 rfl (lv_at hl 0 rfl) ?_
        refine xa_iast (pc := 72) hx hb hK hP hD hS 2 0 rfl rfl (by omega) (by omega) dX0_addLeaf_72 (fun H locs hP hD hS => ?_)
        have hP : va_P D vwCl [(hU, .inr (0, oA aU ac st)), (aU 0, .inl (cZ, 18, .inl (zA (upz em k (decide (True)))))), (aU 1, .inl (cI, 18, .inl (nA (up fs k 0)))), (aU 2, .inl (cI, 18, .inl (nA lz))), (aU 3, .inl (cI, 10, .inl (nA fo))), (aU 4, .inl (cI, 3, .inl (nA re)))] H := hP
        have hD : va_D _ [(hU, .inr (0, oA aU ac st)), (aU 0, .inl (cZ, 18, .inl (zA (upz em k (decide (True)))))), (aU 1, .inl (cI, 18, .inl (nA (up fs k 0)))), (aU 2, .inl (cI, 18, .inl (nA lz))), (aU 3, .inl (cI, 10, .inl (nA fo))), (aU 4, .inl (cI, 3, .inl (nA re)))] := hD
        refine lv_aload_n (pc := 73) hx hb dX0_addLeaf_73 rfl (lv_at hl 1 rfl) ?_
        refine va_get (pc := 74) (D := D) (ci := 0) (v := .ref (aU 2)) (C := RX0) (T := TX0) (N := 7) hx hb hts hinX0 hown hK hP 0 rfl rfl 2 (by decide) lk2 (fun _ h9 => h9) rfl dX0_addLeaf_74 ?_
        refine lv_iload_n (pc := 77) hx hb dX0_addLeaf_77 rfl (lv_at hl 2 rfl) ?_
        refine lv_iload_n (pc := 78) hx hb dX0_addLeaf_78 rfl (lv_at hl 0 rfl) ?_
        refine xa_iast (pc := 79) hx hb hK hP hD hS 3 0 rfl rfl (by omega) (by omega) dX0_addLeaf_79 (fun H locs hP hD hS => ?_)
        have hP : va_P D vwCl [(hU, .inr (0, oA aU ac st)), (aU 0, .inl (cZ, 18, .inl (zA (upz em k (decide (True)))))), (aU 1, .inl (cI, 18, .inl (nA (up fs k 0)))), (aU 2, .inl (cI, 18, .inl (nA (up lz k 0)))), (aU 3, .inl (cI, 10, .inl (nA fo))), (aU 4, .inl (cI, 3, .inl (nA re)))] H := hP
        have hD : va_D _ [(hU, .inr (0, oA aU ac st)), (aU 0, .inl (cZ, 18, .inl (zA (upz em k (decide (True)))))), (aU 1, .inl (cI, 18, .inl (nA (up fs k 0)))), (aU 2, .inl (cI, 18, .inl (nA (up lz k 0)))), (aU 3, .inl (cI, 10, .inl (nA fo))), (aU 4, .inl (cI, 3, .inl (nA re)))] := hD
        have hP9 : va_P D vwCl [(hU, .inr (0, oA aU ac st)), (aU 0, .inl (cZ, 18, .inl (zA ((upz em k (decide (True))))))), (aU 1, .inl (cI, 18, .inl (nA ((up fs k 0))))), (aU 2, .inl (cI, 18, .inl (nA ((up lz k 0))))), (aU 3, .inl (cI, 10, .inl (nA fo))), (aU 4, .inl (cI, 3, .inl (nA re)))] H := hP.sub [0, 1, 2, 3, 4, 5] rfl
        have hD9 : va_D _ [(hU, .inr (0, oA aU ac st)), (aU 0, .inl (cZ, 18, .inl (zA ((upz em k (decide (True))))))), (aU 1, .inl (cI, 18, .inl (nA ((up fs k 0))))), (aU 2, .inl (cI, 18, .inl (nA ((up lz k 0))))), (aU 3, .inl (cI, 10, .inl (nA fo))), (aU 4, .inl (cI, 3, .inl (nA re)))] := hD.sub [0, 1, 2, 3, 4, 5] (by decide) rfl
        exact W.vret (pc := 80) hx hb hr (fun t ht hW => ⟨⟨(upz em k (decide (True)), up fs k 0, up lz k 0, fo, re, st), rfl, (by first | exact AI_sym hv hk ⟨by omega, by omega⟩ hai | exact AI_non hv hk h6 (by omega) (by first | exact (decide_eq_true (by omega)).symm | exact (decide_eq_false (by omega)).symm) hai | (exfalso; omega)), by rw [ht]; exact hP9, va_K.moved hW.alike hK, hD9⟩, hS.F ht⟩) hS.2.2 dX0_addLeaf_80
    · refine lv_aload_n (pc := 12) hx hb dX0_addLeaf_12 rfl (lv_at hl 1 rfl) ?_
      refine va_get (pc := 13) (D := D) (ci := 0) (v := .int (nI st)) (C := RX0) (T := TX0) (N := 7) hx hb hts hinX0 hown hK hP 0 rfl rfl 6 (by decide) lk3 (fun _ h9 => h9) rfl dX0_addLeaf_13 ?_
      refine lv_bipush (pc := 16) (v := (nI (10))) hx hb dX0_addLeaf_16 (by decide) ?_
      refine xn_icmp_ge (pc := 18) (tgt := 50) hx hb (by omega) (by omega) dX0_addLeaf_18 (by decide) (fun c18 => ?_) (fun c18 => ?_)
      · exact absurd (AI_st9 hv hk ⟨by omega, by omega⟩ hai) (by omega)
      · refine lv_iconst (pc := 21) (v := (nI (1))) hx hb dX0_addLeaf_21 (by decide) ?_
        refine lv_aload_n (pc := 22) hx hb dX0_addLeaf_22 rfl (lv_at hl 1 rfl) ?_
        refine va_get (pc := 23) (D := D) (ci := 0) (v := .int (nI st)) (C := RX0) (T := TX0) (N := 7) hx hb hts hinX0 hown hK hP 0 rfl rfl 6 (by decide) lk3 (fun _ h9 => h9) rfl dX0_addLeaf_23 ?_
        refine xn_ishl (pc := 26) hx hb (by omega) (by have := p2_le hst.2; have e10 : (2 : Nat) ^ 10 = 1024 := rfl; omega) dX0_addLeaf_26 ?_
        refine lv_istore_n (pc := 27) (lv' := [(3, .int (nI (1 * 2 ^ st))), (0, .ref hU), (1, .int (nI k)), (2, .int (nI (dg v k)))]) hx hb dX0_addLeaf_27 rfl hl (by decide) rfl (fun ls hl => ?_)
        refine lv_aload_n (pc := 28) hx hb dX0_addLeaf_28 rfl (lv_at hl 1 rfl) ?_
        refine va_get (pc := 29) (D := D) (ci := 0) (v := .ref (aU 4)) (C := RX0) (T := TX0) (N := 7) hx hb hts hinX0 hown hK hP 0 rfl rfl 4 (by decide) lk4 (fun _ h9 => h9) rfl dX0_addLeaf_29 ?_
        refine lv_iload_n (pc := 32) hx hb dX0_addLeaf_32 rfl (lv_at hl 3 rfl) ?_
        refine lv_iconst (pc := 33) (v := (nI (3))) hx hb dX0_addLeaf_33 (by decide) ?_
        refine xn_isub (pc := 34) hx hb (by omega) dX0_addLeaf_34 ?_
        refine lv_dup2_11 (pc := 35) hx hb dX0_addLeaf_35 rfl rfl ?_
        refine xa_iald (pc := 36) hx hb hK hP 5 0 rfl rfl (by omega) (by omega) dX0_addLeaf_36 ?_
        refine lv_iload_n (pc := 37) hx hb dX0_addLeaf_37 rfl (lv_at hl 0 rfl) ?_
        refine xn_ior (pc := 38) hx hb  dX0_addLeaf_38 ?_
        refine xa_iast (pc := 39) hx hb hK hP hD hS 5 0 rfl rfl (by omega) (by omega) dX0_addLeaf_39 (fun H locs hP hD hS => ?_)
        have hP : va_P D vwCl [(hU, .inr (0, oA aU ac st)), (aU 0, .inl (cZ, 18, .inl (zA em))), (aU 1, .inl (cI, 18, .inl (nA fs))), (aU 2, .inl (cI, 18, .inl (nA lz))), (aU 3, .inl (cI, 10, .inl (nA fo))), (aU 4, .inl (cI, 3, .inl (nA (up re ((dg v k) - 3) ((re ((dg v k) - 3)) ||| (1 * 2 ^ st))))))] H := hP
        have hD : va_D _ [(hU, .inr (0, oA aU ac st)), (aU 0, .inl (cZ, 18, .inl (zA em))), (aU 1, .inl (cI, 18, .inl (nA fs))), (aU 2, .inl (cI, 18, .inl (nA lz))), (aU 3, .inl (cI, 10, .inl (nA fo))), (aU 4, .inl (cI, 3, .inl (nA (up re ((dg v k) - 3) ((re ((dg v k) - 3)) ||| (1 * 2 ^ st))))))] := hD
        refine lv_aload_n (pc := 40) hx hb dX0_addLeaf_40 rfl (lv_at hl 1 rfl) ?_
        refine lv_dup (pc := 41) hx hb dX0_addLeaf_41 rfl ?_
        refine va_get (pc := 42) (D := D) (ci := 0) (v := .int (nI st)) (C := RX0) (T := TX0) (N := 7) hx hb hts hinX0 hown hK hP 0 rfl rfl 6 (by decide) lk3 (fun _ h9 => h9) rfl dX0_addLeaf_42 ?_
        refine lv_iconst (pc := 45) (v := (nI (1))) hx hb dX0_addLeaf_45 (by decide) ?_
        refine xn_iadd (pc := 46) hx hb  dX0_addLeaf_46 ?_
        refine va_put (pc := 47) (D := D) (ci := 0) (v := .int (nI (st + 1))) (ty := .int) (C := RX0) (T := TX0) (N := 7) hx hb hts hinX0 tyX0 tyX0_ok nmX0 hown hK hP hD hS 0 rfl rfl 6 (by decide) lk3 (fun _ h9 => h9) rfl (by decide +kernel) rfl rfl (Nat.le_of_ble_eq_true rfl) dX0_addLeaf_47 (fun H locs hP hD hS => ?_)
        have hP : va_P D vwCl [(hU, .inr (0, oA aU ac (st + 1))), (aU 0, .inl (cZ, 18, .inl (zA em))), (aU 1, .inl (cI, 18, .inl (nA fs))), (aU 2, .inl (cI, 18, .inl (nA lz))), (aU 3, .inl (cI, 10, .inl (nA fo))), (aU 4, .inl (cI, 3, .inl (nA (up re ((dg v k) - 3) ((re ((dg v k) - 3)) ||| (1 * 2 ^ st))))))] H := hP
        have hD : va_D _ [(hU, .inr (0, oA aU ac (st + 1))), (aU 0, .inl (cZ, 18, .inl (zA em))), (aU 1, .inl (cI, 18, .inl (nA fs))), (aU 2, .inl (cI, 18, .inl (nA lz))), (aU 3, .inl (cI, 10, .inl (nA fo))), (aU 4, .inl (cI, 3, .inl (nA (up re ((dg v k) - 3) ((re ((dg v k) - 3)) ||| (1 * 2 ^ st))))))] := hD
        refine lv_aload_n (pc := 50) hx hb dX0_addLeaf_50 rfl (lv_at hl 1 rfl) ?_
        refine va_get (pc := 51) (D := D) (ci := 0) (v := .ref (aU 0)) (C := RX0) (T := TX0) (N := 7) hx hb hts hinX0 hown hK hP 0 rfl rfl 0 (by decide) lk0 (fun _ h9 => h9) rfl dX0_addLeaf_51 ?_
        refine lv_iload_n (pc := 54) hx hb dX0_addLeaf_54 rfl (lv_at hl 2 rfl) ?_
        refine lv_iload_n (pc := 55) hx hb dX0_addLeaf_55 rfl (lv_at hl 3 rfl) ?_
        refine lv_iconst (pc := 56) (v := (nI (2))) hx hb dX0_addLeaf_56 (by decide) ?_
        refine xn_icmp_ne (pc := 57) (tgt := 64) hx hb (by omega) (by omega) dX0_addLeaf_57 (by decide) (fun c57 => ?_) (fun c57 => ?_)
        · refine lv_iconst (pc := 64) (v := (nI (0))) hx hb dX0_addLeaf_64 (by decide) ?_
          refine W.eq (g2 := F0 mG 65 ls (.int (nI (pN False)) :: .int (nI k) :: .ref (aU 0) :: [])) rfl ?_
          refine xa_zast (pc := 65) hx hb hK hP hD hS 1 2 rfl rfl (by omega) (by omega) dX0_addLeaf_65 (fun H locs hP hD hS => ?_)
          have hP : va_P D vwCl [(hU, .inr (0, oA aU ac (st + 1))), (aU 0, .inl (cZ, 18, .inl (zA (upz em k (decide (False)))))), (aU 1, .inl (cI, 18, .inl (nA fs))), (aU 2, .inl (cI, 18, .inl (nA lz))), (aU 3, .inl (cI, 10, .inl (nA fo))), (aU 4, .inl (cI, 3, .inl (nA (up re ((dg v k) - 3) ((re ((dg v k) - 3)) ||| (1 * 2 ^ st))))))] H := hP
          have hD : va_D _ [(hU, .inr (0, oA aU ac (st + 1))), (aU 0, .inl (cZ, 18, .inl (zA (upz em k (decide (False)))))), (aU 1, .inl (cI, 18, .inl (nA fs))), (aU 2, .inl (cI, 18, .inl (nA lz))), (aU 3, .inl (cI, 10, .inl (nA fo))), (aU 4, .inl (cI, 3, .inl (nA (up re ((dg v k) - 3) ((re ((dg v k) - 3)) ||| (1 * 2 ^ st))))))] := hD
          refine lv_aload_n (pc := 66) hx hb dX0_addLeaf_66 rfl (lv_at hl 1 rfl) ?_
          refine va_get (pc := 67) (D := D) (ci := 0) (v := .ref (aU 1)) (C := RX0) (T := TX0) (N := 7) hx hb hts hinX0 hown hK hP 0 rfl rfl 1 (by decide) lk1 (fun _ h9 => h9) rfl dX0_addLeaf_67 ?_
          refine lv_iload_n (pc := 70) hx hb dX0_addLeaf_70 rfl (lv_at hl 2 rfl) ?_
          refine lv_iload_n (pc := 71) hx hb dX0_addLeaf_71 rfl (lv_at hl 0 rfl) ?_
          refine xa_iast (pc := 72) hx hb hK hP hD hS 2 0 rfl rfl (by omega) (by omega) dX0_addLeaf_72 (fun H locs hP hD hS => ?_)
          have hP : va_P D vwCl [(hU, .inr (0, oA aU ac (st + 1))), (aU 0, .inl (cZ, 18, .inl (zA (upz em k (decide (False)))))), (aU 1, .inl (cI, 18, .inl (nA (up fs k (1 * 2 ^ st))))), (aU 2, .inl (cI, 18, .inl (nA lz))), (aU 3, .inl (cI, 10, .inl (nA fo))), (aU 4, .inl (cI, 3, .inl (nA (up re ((dg v k) - 3) ((re ((dg v k) - 3)) ||| (1 * 2 ^ st))))))] H := hP
          have hD : va_D _ [(hU, .inr (0, oA aU ac (st + 1))), (aU 0, .inl (cZ, 18, .inl (zA (upz em k (decide (False)))))), (aU 1, .inl (cI, 18, .inl (nA (up fs k (1 * 2 ^ st))))), (aU 2, .inl (cI, 18, .inl (nA lz))), (aU 3, .inl (cI, 10, .inl (nA fo))), (aU 4, .inl (cI, 3, .inl (nA (up re ((dg v k) - 3) ((re ((dg v k) - 3)) ||| (1 * 2 ^ st))))))] := hD
          refine lv_aload_n (pc := 73) hx hb dX0_addLeaf_73 rfl (lv_at hl 1 rfl) ?_
          refine va_get (pc := 74) (D := D) (ci := 0) (v := .ref (aU 2)) (C := RX0) (T := TX0) (N := 7) hx hb hts hinX0 hown hK hP 0 rfl rfl 2 (by decide) lk2 (fun _ h9 => h9) rfl dX0_addLeaf_74 ?_
          refine lv_iload_n (pc := 77) hx hb dX0_addLeaf_77 rfl (lv_at hl 2 rfl) ?_
          refine lv_iload_n (pc := 78) hx hb dX0_addLeaf_78 rfl (lv_at hl 0 rfl) ?_
          refine xa_iast (pc := 79) hx hb hK hP hD hS 3 0 rfl rfl (by omega) (by omega) dX0_addLeaf_79 (fun H locs hP hD hS => ?_)
          have hP : va_P D vwCl [(hU, .inr (0, oA aU ac (st + 1))), (aU 0, .inl (cZ, 18, .inl (zA (upz em k (decide (False)))))), (aU 1, .inl (cI, 18, .inl (nA (up fs k (1 * 2 ^ st))))), (aU 2, .inl (cI, 18, .inl (nA (up lz k (1 * 2 ^ st))))), (aU 3, .inl (cI, 10, .inl (nA fo))), (aU 4, .inl (cI, 3, .inl (nA (up re ((dg v k) - 3) ((re ((dg v k) - 3)) ||| (1 * 2 ^ st))))))] H := hP
          have hD : va_D _ [(hU, .inr (0, oA aU ac (st + 1))), (aU 0, .inl (cZ, 18, .inl (zA (upz em k (decide (False)))))), (aU 1, .inl (cI, 18, .inl (nA (up fs k (1 * 2 ^ st))))), (aU 2, .inl (cI, 18, .inl (nA (up lz k (1 * 2 ^ st))))), (aU 3, .inl (cI, 10, .inl (nA fo))), (aU 4, .inl (cI, 3, .inl (nA (up re ((dg v k) - 3) ((re ((dg v k) - 3)) ||| (1 * 2 ^ st))))))] := hD
          have hP9 : va_P D vwCl [(hU, .inr (0, oA aU ac ((st + 1)))), (aU 0, .inl (cZ, 18, .inl (zA ((upz em k (decide (False))))))), (aU 1, .inl (cI, 18, .inl (nA ((up fs k (1 * 2 ^ st)))))), (aU 2, .inl (cI, 18, .inl (nA ((up lz k (1 * 2 ^ st)))))), (aU 3, .inl (cI, 10, .inl (nA fo))), (aU 4, .inl (cI, 3, .inl (nA ((up re ((dg v k) - 3) ((re ((dg v k) - 3)) ||| (1 * 2 ^ st)))))))] H := hP.sub [0, 1, 2, 3, 4, 5] rfl
          have hD9 : va_D _ [(hU, .inr (0, oA aU ac ((st + 1)))), (aU 0, .inl (cZ, 18, .inl (zA ((upz em k (decide (False))))))), (aU 1, .inl (cI, 18, .inl (nA ((up fs k (1 * 2 ^ st)))))), (aU 2, .inl (cI, 18, .inl (nA ((up lz k (1 * 2 ^ st)))))), (aU 3, .inl (cI, 10, .inl (nA fo))), (aU 4, .inl (cI, 3, .inl (nA ((up re ((dg v k) - 3) ((re ((dg v k) - 3)) ||| (1 * 2 ^ st)))))))] := hD.sub [0, 1, 2, 3, 4, 5] (by decide) rfl
          exact W.vret (pc := 80) hx hb hr (fun t ht hW => ⟨⟨(upz em k (decide (False)), up fs k (1 * 2 ^ st), up lz k (1 * 2 ^ st), fo, up re ((dg v k) - 3) ((re ((dg v k) - 3)) ||| (1 * 2 ^ st)), st + 1), rfl, (by first | exact AI_sym hv hk ⟨by omega, by omega⟩ hai | exact AI_non hv hk h6 (by omega) (by first | exact (decide_eq_true (by omega)).symm | exact (decide_eq_false (by omega)).symm) hai | (exfalso; omega)), by rw [ht]; exact hP9, va_K.moved hW.alike hK, hD9⟩, hS.F ht⟩) hS.2.2 dX0_addLeaf_80
        · refine lv_iconst (pc := 60) (v := (nI (1))) hx hb dX0_addLeaf_60 (by decide) ?_
          refine lv_goto (pc := 61) (tgt := 65) hx hb dX0_addLeaf_61 (by decide) ?_
          refine W.eq (g2 := F0 mG 65 ls (.int (nI (pN True)) :: .int (nI k) :: .ref (aU 0) :: [])) rfl ?_
          refine xa_zast (pc := 65) hx hb hK hP hD hS 1 2 rfl rfl (by omega) (by omega) dX0_addLeaf_65 (fun H locs hP hD hS => ?_)
          have hP : va_P D vwCl [(hU, .inr (0, oA aU ac (st + 1))), (aU 0, .inl (cZ, 18, .inl (zA (upz em k (decide (True)))))), (aU 1, .inl (cI, 18, .inl (nA fs))), (aU 2, .inl (cI, 18, .inl (nA lz))), (aU 3, .inl (cI, 10, .inl (nA fo))), (aU 4, .inl (cI, 3, .inl (nA (up re ((dg v k) - 3) ((re ((dg v k) - 3)) ||| (1 * 2 ^ st))))))] H := hP
          have hD : va_D _ [(hU, .inr (0, oA aU ac (st + 1))), (aU 0, .inl (cZ, 18, .inl (zA (upz em k (decide (True)))))), (aU 1, .inl (cI, 18, .inl (nA fs))), (aU 2, .inl (cI, 18, .inl (nA lz))), (aU 3, .inl (cI, 10, .inl (nA fo))), (aU 4, .inl (cI, 3, .inl (nA (up re ((dg v k) - 3) ((re ((dg v k) - 3)) ||| (1 * 2 ^ st))))))] := hD
          refine lv_aload_n (pc := 66) hx hb dX0_addLeaf_66 rfl (lv_at hl 1 rfl) ?_
          refine va_get (pc := 67) (D := D) (ci := 0) (v := .ref (aU 1)) (C := RX0) (T := TX0) (N := 7) hx hb hts hinX0 hown hK hP 0 rfl rfl 1 (by decide) lk1 (fun _ h9 => h9) rfl dX0_addLeaf_67 ?_
          refine lv_iload_n (pc := 70) hx hb dX0_addLeaf_70 rfl (lv_at hl 2 rfl) ?_
          refine lv_iload_n (pc := 71) hx hb dX0_addLeaf_71 rfl (lv_at hl 0 rfl) ?_
          refine xa_iast (pc := 72) hx hb hK hP hD hS 2 0 rfl rfl (by omega) (by omega) dX0_addLeaf_72 (fun H locs hP hD hS => ?_)
          have hP : va_P D vwCl [(hU, .inr (0, oA aU ac (st + 1))), (aU 0, .inl (cZ, 18, .inl (zA (upz em k (decide (True)))))), (aU 1, .inl (cI, 18, .inl (nA (up fs k (1 * 2 ^ st))))), (aU 2, .inl (cI, 18, .inl (nA lz))), (aU 3, .inl (cI, 10, .inl (nA fo))), (aU 4, .inl (cI, 3, .inl (nA (up re ((dg v k) - 3) ((re ((dg v k) - 3)) ||| (1 * 2 ^ st))))))] H := hP
          have hD : va_D _ [(hU, .inr (0, oA aU ac (st + 1))), (aU 0, .inl (cZ, 18, .inl (zA (upz em k (decide (True)))))), (aU 1, .inl (cI, 18, .inl (nA (up fs k (1 * 2 ^ st))))), (aU 2, .inl (cI, 18, .inl (nA lz))), (aU 3, .inl (cI, 10, .inl (nA fo))), (aU 4, .inl (cI, 3, .inl (nA (up re ((dg v k) - 3) ((re ((dg v k) - 3)) ||| (1 * 2 ^ st))))))] := hD
          refine lv_aload_n (pc := 73) hx hb dX0_addLeaf_73 rfl (lv_at hl 1 rfl) ?_
          refine va_get (pc := 74) (D := D) (ci := 0) (v := .ref (aU 2)) (C := RX0) (T := TX0) (N := 7) hx hb hts hinX0 hown hK hP 0 rfl rfl 2 (by decide) lk2 (fun _ h9 => h9) rfl dX0_addLeaf_74 ?_
          refine lv_iload_n (pc := 77) hx hb dX0_addLeaf_77 rfl (lv_at hl 2 rfl) ?_
          refine lv_iload_n (pc := 78) hx hb dX0_addLeaf_78 rfl (lv_at hl 0 rfl) ?_
          refine xa_iast (pc := 79) hx hb hK hP hD hS 3 0 rfl rfl (by omega) (by omega) dX0_addLeaf_79 (fun H locs hP hD hS => ?_)
          have hP : va_P D vwCl [(hU, .inr (0, oA aU ac (st + 1))), (aU 0, .inl (cZ, 18, .inl (zA (upz em k (decide (True)))))), (aU 1, .inl (cI, 18, .inl (nA (up fs k (1 * 2 ^ st))))), (aU 2, .inl (cI, 18, .inl (nA (up lz k (1 * 2 ^ st))))), (aU 3, .inl (cI, 10, .inl (nA fo))), (aU 4, .inl (cI, 3, .inl (nA (up re ((dg v k) - 3) ((re ((dg v k) - 3)) ||| (1 * 2 ^ st))))))] H := hP
          have hD : va_D _ [(hU, .inr (0, oA aU ac (st + 1))), (aU 0, .inl (cZ, 18, .inl (zA (upz em k (decide (True)))))), (aU 1, .inl (cI, 18, .inl (nA (up fs k (1 * 2 ^ st))))), (aU 2, .inl (cI, 18, .inl (nA (up lz k (1 * 2 ^ st))))), (aU 3, .inl (cI, 10, .inl (nA fo))), (aU 4, .inl (cI, 3, .inl (nA (up re ((dg v k) - 3) ((re ((dg v k) - 3)) ||| (1 * 2 ^ st))))))] := hD
          have hP9 : va_P D vwCl [(hU, .inr (0, oA aU ac ((st + 1)))), (aU 0, .inl (cZ, 18, .inl (zA ((upz em k (decide (True))))))), (aU 1, .inl (cI, 18, .inl (nA ((up fs k (1 * 2 ^ st)))))), (aU 2, .inl (cI, 18, .inl (nA ((up lz k (1 * 2 ^ st)))))), (aU 3, .inl (cI, 10, .inl (nA fo))), (aU 4, .inl (cI, 3, .inl (nA ((up re ((dg v k) - 3) ((re ((dg v k) - 3)) ||| (1 * 2 ^ st)))))))] H := hP.sub [0, 1, 2, 3, 4, 5] rfl
          have hD9 : va_D _ [(hU, .inr (0, oA aU ac ((st + 1)))), (aU 0, .inl (cZ, 18, .inl (zA ((upz em k (decide (True))))))), (aU 1, .inl (cI, 18, .inl (nA ((up fs k (1 * 2 ^ st)))))), (aU 2, .inl (cI, 18, .inl (nA ((up lz k (1 * 2 ^ st)))))), (aU 3, .inl (cI, 10, .inl (nA fo))), (aU 4, .inl (cI, 3, .inl (nA ((up re ((dg v k) - 3) ((re ((dg v k) - 3)) ||| (1 * 2 ^ st)))))))] := hD.sub [0, 1, 2, 3, 4, 5] (by decide) rfl
          exact W.vret (pc := 80) hx hb hr (fun t ht hW => ⟨⟨(upz em k (decide (True)), up fs k (1 * 2 ^ st), up lz k (1 * 2 ^ st), fo, up re ((dg v k) - 3) ((re ((dg v k) - 3)) ||| (1 * 2 ^ st)), st + 1), rfl, (by first | exact AI_sym hv hk ⟨by omega, by omega⟩ hai | exact AI_non hv hk h6 (by omega) (by first | exact (decide_eq_true (by omega)).symm | exact (decide_eq_false (by omega)).symm) hai | (exfalso; omega)), by rw [ht]; exact hP9, va_K.moved hW.alike hK, hD9⟩, hS.F ht⟩) hS.2.2 dX0_addLeaf_80
set_option maxHeartbeats 4000000 in
set_option maxRecDepth 100000 in
theorem c_X0_addStar (l : Launch) (D : va_G) (cI cL cZ : ClassId) (sz : Nat) (hU : Nat) (aU : Nat → Nat) (em : Nat → Bool) (fs : Nat → Nat) (lz : Nat → Nat) (fo : Nat → Nat) (re : Nat → Nat) (ac : Nat) (st : Nat) (v : Nat) (k : Nat) (o : Nat) (hv : okVb v = true) (hk : k < dc v) (ho : o = k + 1) (h8 : dg v k = 8) (hai : AI v (k + 1) em fs lz fo re st) : Met l yX0_addStar wsX0_addStar { frames := 1, cells := 0, slots := 0, locals := 23 } (mP D (tyL cI cL cZ) [(hU, .inr (0, oA aU ac st)), (aU 0, .inl (cZ, 18, .inl (zA em))), (aU 1, .inl (cI, 18, .inl (nA fs))), (aU 2, .inl (cI, 18, .inl (nA lz))), (aU 3, .inl (cI, 10, .inl (nA fo))), (aU 4, .inl (cI, 3, .inl (nA re)))] sz [.ref hU, .int (nI k), .int (nI o)]) (va_Qv (fun (u : (Nat → Bool) × (Nat → Nat) × (Nat → Nat) × (Nat → Nat) × (Nat → Nat) × Nat) => AI v k u.1 u.2.1 u.2.2.1 u.2.2.2.1 u.2.2.2.2.1 u.2.2.2.2.2) (fun (u : (Nat → Bool) × (Nat → Nat) × (Nat → Nat) × (Nat → Nat) × (Nat → Nat) × Nat) (t : State) => mB D (tyL cI cL cZ) (va_A [(hU, .inr (0, oA aU ac st)), (aU 0, .inl (cZ, 18, .inl (zA em))), (aU 1, .inl (cI, 18, .inl (nA fs))), (aU 2, .inl (cI, 18, .inl (nA lz))), (aU 3, .inl (cI, 10, .inl (nA fo))), (aU 4, .inl (cI, 3, .inl (nA re)))] sz) [(hU, .inr (0, oA aU ac (u.2.2.2.2.2))), (aU 0, .inl (cZ, 18, .inl (zA (u.1)))), (aU 1, .inl (cI, 18, .inl (nA (u.2.1)))), (aU 2, .inl (cI, 18, .inl (nA (u.2.2.1)))), (aU 3, .inl (cI, 10, .inl (nA (u.2.2.2.1)))), (aU 4, .inl (cI, 3, .inl (nA (u.2.2.2.2.1))))] t) (va_A [(hU, .inr (0, oA aU ac st)), (aU 0, .inl (cZ, 18, .inl (zA em))), (aU 1, .inl (cI, 18, .inl (nA fs))), (aU 2, .inl (cI, 18, .inl (nA lz))), (aU 3, .inl (cI, 10, .inl (nA fo))), (aU 4, .inl (cI, 3, .inl (nA re)))] sz)) 0 0 (va_A [(hU, .inr (0, oA aU ac st)), (aU 0, .inl (cZ, 18, .inl (zA em))), (aU 1, .inl (cI, 18, .inl (nA fs))), (aU 2, .inl (cI, 18, .inl (nA lz))), (aU 3, .inl (cI, 10, .inl (nA fo))), (aU 4, .inl (cI, 3, .inl (nA re)))] sz) := by
  refine Met.ofW (cc := cX0_addStar) (maxL := 3) (ret := none) (by decide) rfl ?_
  intro pG eG s mG args below meth cG s₁ B hml hpre9
  obtain ⟨rfl, hsz, hP, hK, hD0⟩ := hpre9
  have hx := B.exec
  have hb := B.bytes
  have hr := B.returns
  have hts := atoms_spec (ws := wsX0_addStar) B.pre
  have hown : s.vm.findClass RX0 = some mG.cls := findClass_of_methodNamed B.named
  have hlocks := B.notSynchronized
  subst hsz
  have hD := hD0.self (sz := s.heap.size)
  have hA : ∀ q : Nat, s.heap.size ≤ q → va_A [(hU, .inr (0, oA aU ac st)), (aU 0, .inl (cZ, 18, .inl (zA em))), (aU 1, .inl (cI, 18, .inl (nA fs))), (aU 2, .inl (cI, 18, .inl (nA lz))), (aU 3, .inl (cI, 10, .inl (nA fo))), (aU 4, .inl (cI, 3, .inl (nA re)))] s.heap.size q := fun q h => Or.inr h
  have hS : va_S (va_A [(hU, .inr (0, oA aU ac st)), (aU 0, .inl (cZ, 18, .inl (zA em))), (aU 1, .inl (cI, 18, .inl (nA fs))), (aU 2, .inl (cI, 18, .inl (nA lz))), (aU 3, .inl (cI, 10, .inl (nA fo))), (aU 4, .inl (cI, 3, .inl (nA re)))] s.heap.size) s.heap s.heap [] := va_S.rf
  have hinX0 : ∀ w ∈ wsX00, w ∈ wsX0_addStar := fun w HH => (List.mem_cons_of_mem _ (List.mem_append_right _ HH))
  have lk0 : (Cond.fieldLink RX0 11 "RegexSimplifier$Automaton" "emptyWord" "[Z").before _ s = true := hts _ (List.mem_cons_of_mem _ (List.mem_append_left _ (List.mem_of_getElem? (i := 0) rfl)))
  have lk1 : (Cond.fieldLink RX0 15 "RegexSimplifier$Automaton" "firsts" "[I").before _ s = true := hts _ (List.mem_cons_of_mem _ (List.mem_append_left _ (List.mem_of_getElem? (i := 1) rfl)))
  have lk2 : (Cond.fieldLink RX0 19 "RegexSimplifier$Automaton" "lasts" "[I").before _ s = true := hts _ (List.mem_cons_of_mem _ (List.mem_append_left _ (List.mem_of_getElem? (i := 2) rfl)))
  have hl := lv_entry ([.ref hU, .int (nI k), .int (nI o)]) (n := 3) (Nat.le_of_ble_eq_true rfl)
  rw [lg_entry_eq]
  generalize (lg_sl ([.ref hU, .int (nI k), .int (nI o)]) ++ List.replicate (3 - (lg_sl ([.ref hU, .int (nI k), .int (nI o)])).length) Slot.unset).toArray = ls at hl ⊢
  have hl : lv_has ls 3 [(0, .ref hU), (1, .int (nI k)), (2, .int (nI o))] := hl
  have tv := TV_v (okVb_iff.mp hv)
  have hn18 := tv.n18
  have hq := tv.q hk
  have hst := AI_st hv hai
  have h1 := (tv.2.2.2 k hk).2.2.2.2.2.1 h8
  have ha1 := hai.1 (k + 1) (by omega) h1.1
  subst ho
  refine lv_aload_n (pc := 0) hx hb dX0_addStar_0 rfl (lv_at hl 0 rfl) ?_
  refine va_get (pc := 1) (D := D) (ci := 0) (v := .ref (aU 0)) (C := RX0) (T := TX0) (N := 7) hx hb hts hinX0 hown hK hP 0 rfl rfl 0 (by decide) lk0 (fun _ h9 => h9) rfl dX0_addStar_1 ?_
  refine lv_iload_n (pc := 4) hx hb dX0_addStar_4 rfl (lv_at hl 1 rfl) ?_
  refine lv_iconst (pc := 5) (v := (nI (1))) hx hb dX0_addStar_5 (by decide) ?_
  refine W.eq (g2 := F0 mG 6 ls (.int (nI (pN True)) :: .int (nI k) :: .ref (aU 0) :: [])) rfl ?_
  refine xa_zast (pc := 6) hx hb hK hP hD hS 1 2 rfl rfl (by omega) (by omega) dX0_addStar_6 (fun H locs hP hD hS => ?_)
  have hP : va_P D vwCl [(hU, .inr (0, oA aU ac st)), (aU 0, .inl (cZ, 18, .inl (zA (upz em k (decide (True)))))), (aU 1, .inl (cI, 18, .inl (nA fs))), (aU 2, .inl (cI, 18, .inl (nA lz))), (aU 3, .inl (cI, 10, .inl (nA fo))), (aU 4, .inl (cI, 3, .inl (nA re)))] H := hP
  have hD : va_D _ [(hU, .inr (0, oA aU ac st)), (aU 0, .inl (cZ, 18, .inl (zA (upz em k (decide (True)))))), (aU 1, .inl (cI, 18, .inl (nA fs))), (aU 2, .inl (cI, 18, .inl (nA lz))), (aU 3, .inl (cI, 10, .inl (nA fo))), (aU 4, .inl (cI, 3, .inl (nA re)))] := hD
  refine lv_aload_n (pc := 7) hx hb dX0_addStar_7 rfl (lv_at hl 0 rfl) ?_
  refine va_get (pc := 8) (D := D) (ci := 0) (v := .ref (aU 1)) (C := RX0) (T := TX0) (N := 7) hx hb hts hinX0 hown hK hP 0 rfl rfl 1 (by decide) lk1 (fun _ h9 => h9) rfl dX0_addStar_8 ?_
  refine lv_iload_n (pc := 11) hx hb dX0_addStar_11 rfl (lv_at hl 1 rfl) ?_
  refine lv_aload_n (pc := 12) hx hb dX0_addStar_12 rfl (lv_at hl 0 rfl) ?_
  refine va_get (pc := 13) (D := D) (ci := 0) (v := .ref (aU 1)) (C := RX0) (T := TX0) (N := 7) hx hb hts hinX0 hown hK hP 0 rfl rfl 1 (by decide) lk1 (fun _ h9 => h9) rfl dX0_addStar_13 ?_
  refine lv_iload_n (pc := 16) hx hb dX0_addStar_16 rfl (lv_at hl 2 rfl) ?_
  refine xa_iald (pc := 17) hx hb hK hP 2 0 rfl rfl (by omega) (by omega) dX0_addStar_17 ?_
  refine xa_iast (pc := 18) hx hb hK hP hD hS 2 0 rfl rfl (by omega) (by omega) dX0_addStar_18 (fun H locs hP hD hS => ?_)
  have hP : va_P D vwCl [(hU, .inr (0, oA aU ac st)), (aU 0, .inl (cZ, 18, .inl (zA (upz em k (decide (True)))))), (aU 1, .inl (cI, 18, .inl (nA (up fs k (fs (k + 1)))))), (aU 2, .inl (cI, 18, .inl (nA lz))), (aU 3, .inl (cI, 10, .inl (nA fo))), (aU 4, .inl (cI, 3, .inl (nA re)))] H := hP
  have hD : va_D _ [(hU, .inr (0, oA aU ac st)), (aU 0, .inl (cZ, 18, .inl (zA (upz em k (decide (True)))))), (aU 1, .inl (cI, 18, .inl (nA (up fs k (fs (k + 1)))))), (aU 2, .inl (cI, 18, .inl (nA lz))), (aU 3, .inl (cI, 10, .inl (nA fo))), (aU 4, .inl (cI, 3, .inl (nA re)))] := hD
  refine lv_aload_n (pc := 19) hx hb dX0_addStar_19 rfl (lv_at hl 0 rfl) ?_
  refine va_get (pc := 20) (D := D) (ci := 0) (v := .ref (aU 2)) (C := RX0) (T := TX0) (N := 7) hx hb hts hinX0 hown hK hP 0 rfl rfl 2 (by decide) lk2 (fun _ h9 => h9) rfl dX0_addStar_20 ?_
  refine lv_iload_n (pc := 23) hx hb dX0_addStar_23 rfl (lv_at hl 1 rfl) ?_
  refine lv_aload_n (pc := 24) hx hb dX0_addStar_24 rfl (lv_at hl 0 rfl) ?_
  refine va_get (pc := 25) (D := D) (ci := 0) (v := .ref (aU 2)) (C := RX0) (T := TX0) (N := 7) hx hb hts hinX0 hown hK hP 0 rfl rfl 2 (by decide) lk2 (fun _ h9 => h9) rfl dX0_addStar_25 ?_
  refine lv_iload_n (pc := 28) hx hb dX0_addStar_28 rfl (lv_at hl 2 rfl) ?_
  refine xa_iald (pc := 29) hx hb hK hP 3 0 rfl rfl (by omega) (by omega) dX0_addStar_29 ?_
  refine xa_iast (pc := 30) hx hb hK hP hD hS 3 0 rfl rfl (by omega) (by omega) dX0_addStar_30 (fun H locs hP hD hS => ?_)
  have hP : va_P D vwCl [(hU, .inr (0, oA aU ac st)), (aU 0, .inl (cZ, 18, .inl (zA (upz em k (decide (True)))))), (aU 1, .inl (cI, 18, .inl (nA (up fs k (fs (k + 1)))))), (aU 2, .inl (cI, 18, .inl (nA (up lz k (lz (k + 1)))))), (aU 3, .inl (cI, 10, .inl (nA fo))), (aU 4, .inl (cI, 3, .inl (nA re)))] H := hP
  have hD : va_D _ [(hU, .inr (0, oA aU ac st)), (aU 0, .inl (cZ, 18, .inl (zA (upz em k (decide (True)))))), (aU 1, .inl (cI, 18, .inl (nA (up fs k (fs (k + 1)))))), (aU 2, .inl (cI, 18, .inl (nA (up lz k (lz (k + 1)))))), (aU 3, .inl (cI, 10, .inl (nA fo))), (aU 4, .inl (cI, 3, .inl (nA re)))] := hD
  refine lv_aload_n (pc := 31) hx hb dX0_addStar_31 rfl (lv_at hl 0 rfl) ?_
  refine lv_aload_n (pc := 32) hx hb dX0_addStar_32 rfl (lv_at hl 0 rfl) ?_
  refine va_get (pc := 33) (D := D) (ci := 0) (v := .ref (aU 2)) (C := RX0) (T := TX0) (N := 7) hx hb hts hinX0 hown hK hP 0 rfl rfl 2 (by decide) lk2 (fun _ h9 => h9) rfl dX0_addStar_33 ?_
  refine lv_iload_n (pc := 36) hx hb dX0_addStar_36 rfl (lv_at hl 2 rfl) ?_
  refine xa_iald (pc := 37) hx hb hK hP 3 0 rfl rfl (by omega) (by omega) dX0_addStar_37 ?_
  refine lv_aload_n (pc := 38) hx hb dX0_addStar_38 rfl (lv_at hl 0 rfl) ?_
  refine va_get (pc := 39) (D := D) (ci := 0) (v := .ref (aU 1)) (C := RX0) (T := TX0) (N := 7) hx hb hts hinX0 hown hK hP 0 rfl rfl 1 (by decide) lk1 (fun _ h9 => h9) rfl dX0_addStar_39 ?_
  refine lv_iload_n (pc := 42) hx hb dX0_addStar_42 rfl (lv_at hl 2 rfl) ?_
  refine xa_iald (pc := 43) hx hb hK hP 2 0 rfl rfl (by omega) (by omega) dX0_addStar_43 ?_
  refine W.eq (g2 := F0 mG 44 ls [.int (nI (2 * fi (dg v) (en v) (dc v) (k + 1))), .int (nI ((up lz k (lz (k + 1))) (k + 1))), .ref hU]) (congrArg (fun zz => F0 mG 44 ls [.int (nI zz), .int (nI ((up lz k (lz (k + 1))) (k + 1))), .ref hU]) (by rw [up_n _ (by omega)]; exact ha1.2.1)) ?_
  refine W.eq (g2 := F0 mG 44 ls [.int (nI (2 * fi (dg v) (en v) (dc v) (k + 1))), .int (nI (2 * la (dg v) (en v) (dc v) (k + 1))), .ref hU]) (congrArg (fun zz => F0 mG 44 ls [.int (nI (2 * fi (dg v) (en v) (dc v) (k + 1))), .int (nI zz), .ref hU]) (by rw [up_n _ (by omega)]; exact ha1.2.2)) ?_
  refine xm_callv (pc := 44) (wc := [(hU, .inr (0, oA aU ac st)), (aU 0, .inl (cZ, 18, .inl (zA ((upz em k (decide (True))))))), (aU 1, .inl (cI, 18, .inl (nA ((up fs k (fs (k + 1))))))), (aU 2, .inl (cI, 18, .inl (nA ((up lz k (lz (k + 1))))))), (aU 3, .inl (cI, 10, .inl (nA fo))), (aU 4, .inl (cI, 3, .inl (nA re)))]) (wr := []) (va_runV (As := [.int (nI (2 * la (dg v) (en v) (dc v) (k + 1))), .int (nI (2 * fi (dg v) (en v) (dc v) (k + 1)))]) (rest := []) ⟨hx, hb, hml, hown, hts⟩ (c_X0_link l D cI cL cZ H.size hU aU (upz em k (decide (True))) (up fs k (fs (k + 1))) (up lz k (lz (k + 1))) fo re ac st (2 * la (dg v) (en v) (dc v) (k + 1)) (2 * fi (dg v) (en v) (dc v) (k + 1)) hst.2 (AI_lt hv hai (by omega) h1.1)) (cwV 2 hts gX0_addStar_X0_link rfl rfl rfl (by decide +kernel) ⟨Nat.le_of_ble_eq_true rfl, Nat.le_of_ble_eq_true rfl⟩) (mP_V (wc := [(hU, .inr (0, oA aU ac st)), (aU 0, .inl (cZ, 18, .inl (zA ((upz em k (decide (True))))))), (aU 1, .inl (cI, 18, .inl (nA ((up fs k (fs (k + 1))))))), (aU 2, .inl (cI, 18, .inl (nA ((up lz k (lz (k + 1))))))), (aU 3, .inl (cI, 10, .inl (nA fo))), (aU 4, .inl (cI, 3, .inl (nA re)))]) (ci := 0) (q0 := 0) hK hP hD [0, 1, 2, 3, 4, 5] (by decide) rfl rfl rfl) rfl rfl hl.1 rfl (lv_room (Nat.le_of_ble_eq_true rfl)) dX0_addStar_44 ⟨Nat.zero_le _, Nat.zero_le _⟩) hP hD hS hA [0, 1, 2, 3, 4, 5] [] rfl rfl (by decide) (by decide) (fun u H locs hw hP hD hS => ?_)
  obtain ⟨fo2_44, rfl⟩ : ∃ z, z = u := ⟨_, rfl⟩
  have hP : va_P D vwCl [(hU, .inr (0, oA aU ac st)), (aU 0, .inl (cZ, 18, .inl (zA ((upz em k (decide (True))))))), (aU 1, .inl (cI, 18, .inl (nA ((up fs k (fs (k + 1))))))), (aU 2, .inl (cI, 18, .inl (nA ((up lz k (lz (k + 1))))))), (aU 3, .inl (cI, 10, .inl (nA fo2_44))), (aU 4, .inl (cI, 3, .inl (nA re)))] H := hP
  have hD : va_D _ [(hU, .inr (0, oA aU ac st)), (aU 0, .inl (cZ, 18, .inl (zA ((upz em k (decide (True))))))), (aU 1, .inl (cI, 18, .inl (nA ((up fs k (fs (k + 1))))))), (aU 2, .inl (cI, 18, .inl (nA ((up lz k (lz (k + 1))))))), (aU 3, .inl (cI, 10, .inl (nA fo2_44))), (aU 4, .inl (cI, 3, .inl (nA re)))] := hD
  try dsimp only at hw
  have hw44 := hw
  have hP9 : va_P D vwCl [(hU, .inr (0, oA aU ac st)), (aU 0, .inl (cZ, 18, .inl (zA (((upz em k (decide (True)))))))), (aU 1, .inl (cI, 18, .inl (nA (((up fs k (fs (k + 1)))))))), (aU 2, .inl (cI, 18, .inl (nA (((up lz k (lz (k + 1)))))))), (aU 3, .inl (cI, 10, .inl (nA fo2_44))), (aU 4, .inl (cI, 3, .inl (nA re)))] H := hP.sub [0, 1, 2, 3, 4, 5] rfl
  have hD9 : va_D _ [(hU, .inr (0, oA aU ac st)), (aU 0, .inl (cZ, 18, .inl (zA (((upz em k (decide (True)))))))), (aU 1, .inl (cI, 18, .inl (nA (((up fs k (fs (k + 1)))))))), (aU 2, .inl (cI, 18, .inl (nA (((up lz k (lz (k + 1)))))))), (aU 3, .inl (cI, 10, .inl (nA fo2_44))), (aU 4, .inl (cI, 3, .inl (nA re)))] := hD.sub [0, 1, 2, 3, 4, 5] (by decide) rfl
  exact W.vret (pc := 47) hx hb hr (fun t ht hW => ⟨⟨((upz em k (decide (True))), (up fs k (fs (k + 1))), (up lz k (lz (k + 1))), fo2_44, re, st), rfl, (AI_star hv hk h8 hai hw44), by rw [ht]; exact hP9, va_K.moved hW.alike hK, hD9⟩, hS.F ht⟩) hS.2.2 dX0_addStar_47
set_option maxHeartbeats 4000000 in
set_option maxRecDepth 100000 in
theorem c_X0_addUnion (l : Launch) (D : va_G) (cI cL cZ : ClassId) (sz : Nat) (hU : Nat) (aU : Nat → Nat) (em : Nat → Bool) (fs : Nat → Nat) (lz : Nat → Nat) (fo : Nat → Nat) (re : Nat → Nat) (ac : Nat) (st : Nat) (v : Nat) (k : Nat) (o : Nat) (r : Nat) (hv : okVb v = true) (hk : k < dc v) (ho : o = k + 1) (hr1 : r = en v (k + 1)) (h6 : dg v k = 6) (hai : AI v (k + 1) em fs lz fo re st) : Met l yX0_addUnion wsX0_addUnion { frames := 0, cells := 0, slots := 0, locals := 0 } (mP D (tyL cI cL cZ) [(hU, .inr (0, oA aU ac st)), (aU 0, .inl (cZ, 18, .inl (zA em))), (aU 1, .inl (cI, 18, .inl (nA fs))), (aU 2, .inl (cI, 18, .inl (nA lz))), (aU 3, .inl (cI, 10, .inl (nA fo))), (aU 4, .inl (cI, 3, .inl (nA re)))] sz [.ref hU, .int (nI k), .int (nI o), .int (nI r)]) (va_Qv (fun (u : (Nat → Bool) × (Nat → Nat) × (Nat → Nat) × (Nat → Nat) × (Nat → Nat) × Nat) => AI v k u.1 u.2.1 u.2.2.1 u.2.2.2.1 u.2.2.2.2.1 u.2.2.2.2.2) (fun (u : (Nat → Bool) × (Nat → Nat) × (Nat → Nat) × (Nat → Nat) × (Nat → Nat) × Nat) (t : State) => mB D (tyL cI cL cZ) (va_A [(hU, .inr (0, oA aU ac st)), (aU 0, .inl (cZ, 18, .inl (zA em))), (aU 1, .inl (cI, 18, .inl (nA fs))), (aU 2, .inl (cI, 18, .inl (nA lz))), (aU 3, .inl (cI, 10, .inl (nA fo))), (aU 4, .inl (cI, 3, .inl (nA re)))] sz) [(hU, .inr (0, oA aU ac (u.2.2.2.2.2))), (aU 0, .inl (cZ, 18, .inl (zA (u.1)))), (aU 1, .inl (cI, 18, .inl (nA (u.2.1)))), (aU 2, .inl (cI, 18, .inl (nA (u.2.2.1)))), (aU 3, .inl (cI, 10, .inl (nA (u.2.2.2.1)))), (aU 4, .inl (cI, 3, .inl (nA (u.2.2.2.2.1))))] t) (va_A [(hU, .inr (0, oA aU ac st)), (aU 0, .inl (cZ, 18, .inl (zA em))), (aU 1, .inl (cI, 18, .inl (nA fs))), (aU 2, .inl (cI, 18, .inl (nA lz))), (aU 3, .inl (cI, 10, .inl (nA fo))), (aU 4, .inl (cI, 3, .inl (nA re)))] sz)) 0 0 (va_A [(hU, .inr (0, oA aU ac st)), (aU 0, .inl (cZ, 18, .inl (zA em))), (aU 1, .inl (cI, 18, .inl (nA fs))), (aU 2, .inl (cI, 18, .inl (nA lz))), (aU 3, .inl (cI, 10, .inl (nA fo))), (aU 4, .inl (cI, 3, .inl (nA re)))] sz) := by
  refine Met.ofW (cc := cX0_addUnion) (maxL := 4) (ret := none) (by decide) rfl ?_
  intro pG eG s mG args below meth cG s₁ B hml hpre9
  obtain ⟨rfl, hsz, hP, hK, hD0⟩ := hpre9
  have hx := B.exec
  have hb := B.bytes
  have hr := B.returns
  have hts := atoms_spec (ws := wsX0_addUnion) B.pre
  have hown : s.vm.findClass RX0 = some mG.cls := findClass_of_methodNamed B.named
  have hlocks := B.notSynchronized
  subst hsz
  have hD := hD0.self (sz := s.heap.size)
  have hA : ∀ q : Nat, s.heap.size ≤ q → va_A [(hU, .inr (0, oA aU ac st)), (aU 0, .inl (cZ, 18, .inl (zA em))), (aU 1, .inl (cI, 18, .inl (nA fs))), (aU 2, .inl (cI, 18, .inl (nA lz))), (aU 3, .inl (cI, 10, .inl (nA fo))), (aU 4, .inl (cI, 3, .inl (nA re)))] s.heap.size q := fun q h => Or.inr h
  have hS : va_S (va_A [(hU, .inr (0, oA aU ac st)), (aU 0, .inl (cZ, 18, .inl (zA em))), (aU 1, .inl (cI, 18, .inl (nA fs))), (aU 2, .inl (cI, 18, .inl (nA lz))), (aU 3, .inl (cI, 10, .inl (nA fo))), (aU 4, .inl (cI, 3, .inl (nA re)))] s.heap.size) s.heap s.heap [] := va_S.rf
  have hinX0 : ∀ w ∈ wsX00, w ∈ wsX0_addUnion := fun w HH => (List.mem_cons_of_mem _ (List.mem_append_right _ HH))
  have lk0 : (Cond.fieldLink RX0 11 "RegexSimplifier$Automaton" "emptyWord" "[Z").before _ s = true := hts _ (List.mem_cons_of_mem _ (List.mem_append_left _ (List.mem_of_getElem? (i := 0) rfl)))
  have lk1 : (Cond.fieldLink RX0 15 "RegexSimplifier$Automaton" "firsts" "[I").before _ s = true := hts _ (List.mem_cons_of_mem _ (List.mem_append_left _ (List.mem_of_getElem? (i := 1) rfl)))
  have lk2 : (Cond.fieldLink RX0 19 "RegexSimplifier$Automaton" "lasts" "[I").before _ s = true := hts _ (List.mem_cons_of_mem _ (List.mem_append_left _ (List.mem_of_getElem? (i := 2) rfl)))
  have hl := lv_entry ([.ref hU, .int (nI k), .int (nI o), .int (nI r)]) (n := 4) (Nat.le_of_ble_eq_true rfl)
  rw [lg_entry_eq]
  generalize (lg_sl ([.ref hU, .int (nI k), .int (nI o), .int (nI r)]) ++ List.replicate (4 - (lg_sl ([.ref hU, .int (nI k), .int (nI o), .int (nI r)])).length) Slot.unset).toArray = ls at hl ⊢
  have hl : lv_has ls 4 [(0, .ref hU), (1, .int (nI k)), (2, .int (nI o)), (3, .int (nI r))] := hl
  have tv := TV_v (okVb_iff.mp hv)
  have hn18 := tv.n18
  have hq := tv.q hk
  have hst := AI_st hv hai
  have h1 := (tv.2.2.2 k hk).2.2.2.2.2.2 (by omega)
  have hq1 := tv.q h1.1
  have ha1 := hai.1 (k + 1) (by omega) h1.1
  have hb1 := hai.1 (en v (k + 1)) (by omega) h1.2.1
  subst ho; subst hr1
  refine lv_aload_n (pc := 0) hx hb dX0_addUnion_0 rfl (lv_at hl 0 rfl) ?_
  refine va_get (pc := 1) (D := D) (ci := 0) (v := .ref (aU 0)) (C := RX0) (T := TX0) (N := 7) hx hb hts hinX0 hown hK hP 0 rfl rfl 0 (by decide) lk0 (fun _ h9 => h9) rfl dX0_addUnion_1 ?_
  refine lv_iload_n (pc := 4) hx hb dX0_addUnion_4 rfl (lv_at hl 1 rfl) ?_
  refine lv_aload_n (pc := 5) hx hb dX0_addUnion_5 rfl (lv_at hl 0 rfl) ?_
  refine va_get (pc := 6) (D := D) (ci := 0) (v := .ref (aU 0)) (C := RX0) (T := TX0) (N := 7) hx hb hts hinX0 hown hK hP 0 rfl rfl 0 (by decide) lk0 (fun _ h9 => h9) rfl dX0_addUnion_6 ?_
  refine lv_iload_n (pc := 9) hx hb dX0_addUnion_9 rfl (lv_at hl 2 rfl) ?_
  refine xa_zald (pc := 10) hx hb hK hP 1 2 rfl rfl (by omega) (by omega) dX0_addUnion_10 ?_
  refine xp_if_ne (pc := 11) (tgt := 23) hx hb dX0_addUnion_11 (by decide) (fun c11 => ?_) (fun c11 => ?_)
  · refine lv_iconst (pc := 23) (v := (nI (1))) hx hb dX0_addUnion_23 (by decide) ?_
    refine lv_goto (pc := 24) (tgt := 28) hx hb dX0_addUnion_24 (by decide) ?_
    refine W.eq (g2 := F0 mG 28 ls (.int (nI (pN True)) :: .int (nI k) :: .ref (aU 0) :: [])) rfl ?_
    refine xa_zast (pc := 28) hx hb hK hP hD hS 1 2 rfl rfl (by omega) (by omega) dX0_addUnion_28 (fun H locs hP hD hS => ?_)
    have hP : va_P D vwCl [(hU, .inr (0, oA aU ac st)), (aU 0, .inl (cZ, 18, .inl (zA (upz em k (decide (True)))))), (aU 1, .inl (cI, 18, .inl (nA fs))), (aU 2, .inl (cI, 18, .inl (nA lz))), (aU 3, .inl (cI, 10, .inl (nA fo))), (aU 4, .inl (cI, 3, .inl (nA re)))] H := hP
    have hD : va_D _ [(hU, .inr (0, oA aU ac st)), (aU 0, .inl (cZ, 18, .inl (zA (upz em k (decide (True)))))), (aU 1, .inl (cI, 18, .inl (nA fs))), (aU 2, .inl (cI, 18, .inl (nA lz))), (aU 3, .inl (cI, 10, .inl (nA fo))), (aU 4, .inl (cI, 3, .inl (nA re)))] := hD
    refine lv_aload_n (pc := 29) hx hb dX0_addUnion_29 rfl (lv_at hl 0 rfl) ?_
    refine va_get (pc := 30) (D := D) (ci := 0) (v := .ref (aU 1)) (C := RX0) (T := TX0) (N := 7) hx hb hts hinX0 hown hK hP 0 rfl rfl 1 (by decide) lk1 (fun _ h9 => h9) rfl dX0_addUnion_30 ?_
    refine lv_iload_n (pc := 33) hx hb dX0_addUnion_33 rfl (lv_at hl 1 rfl) ?_
    refine lv_aload_n (pc := 34) hx hb dX0_addUnion_34 rfl (lv_at hl 0 rfl) ?_
    refine va_get (pc := 35) (D := D) (ci := 0) (v := .ref (aU 1)) (C := RX0) (T := TX0) (N := 7) hx hb hts hinX0 hown hK hP 0 rfl rfl 1 (by decide) lk1 (fun _ h9 => h9) rfl dX0_addUnion_35 ?_
    refine lv_iload_n (pc := 38) hx hb dX0_addUnion_38 rfl (lv_at hl 2 rfl) ?_
    refine xa_iald (pc := 39) hx hb hK hP 2 0 rfl rfl (by omega) (by omega) dX0_addUnion_39 ?_
    refine lv_aload_n (pc := 40) hx hb dX0_addUnion_40 rfl (lv_at hl 0 rfl) ?_
    refine va_get (pc := 41) (D := D) (ci := 0) (v := .ref (aU 1)) (C := RX0) (T := TX0) (N := 7) hx hb hts hinX0 hown hK hP 0 rfl rfl 1 (by decide) lk1 (fun _ h9 => h9) rfl dX0_addUnion_41 ?_
    refine lv_iload_n (pc := 44) hx hb dX0_addUnion_44 rfl (lv_at hl 3 rfl) ?_
    refine xa_iald (pc := 45) hx hb hK hP 2 0 rfl rfl (by omega) (by omega) dX0_addUnion_45 ?_
    refine xn_ior (pc := 46) hx hb  dX0_addUnion_46 ?_
    refine xa_iast (pc := 47) hx hb hK hP hD hS 2 0 rfl rfl (by omega) (by omega) dX0_addUnion_47 (fun H locs hP hD hS => ?_)
    have hP : va_P D vwCl [(hU, .inr (0, oA aU ac st)), (aU 0, .inl (cZ, 18, .inl (zA (upz em k (decide (True)))))), (aU 1, .inl (cI, 18, .inl (nA (up fs k ((fs (k + 1)) ||| (fs (en v (k + 1)))))))), (aU 2, .inl (cI, 18, .inl (nA lz))), (aU 3, .inl (cI, 10, .inl (nA fo))), (aU 4, .inl (cI, 3, .inl (nA re)))] H := hP
    have hD : va_D _ [(hU, .inr (0, oA aU ac st)), (aU 0, .inl (cZ, 18, .inl (zA (upz em k (decide (True)))))), (aU 1, .inl (cI, 18, .inl (nA (up fs k ((fs (k + 1)) ||| (fs (en v (k + 1)))))))), (aU 2, .inl (cI, 18, .inl (nA lz))), (aU 3, .inl (cI, 10, .inl (nA fo))), (aU 4, .inl (cI, 3, .inl (nA re)))] := hD
    refine lv_aload_n (pc := 48) hx hb dX0_addUnion_48 rfl (lv_at hl 0 rfl) ?_
    refine va_get (pc := 49) (D := D) (ci := 0) (v := .ref (aU 2)) (C := RX0) (T := TX0) (N := 7) hx hb hts hinX0 hown hK hP 0 rfl rfl 2 (by decide) lk2 (fun _ h9 => h9) rfl dX0_addUnion_49 ?_
    refine lv_iload_n (pc := 52) hx hb dX0_addUnion_52 rfl (lv_at hl 1 rfl) ?_
    refine lv_aload_n (pc := 53) hx hb dX0_addUnion_53 rfl (lv_at hl 0 rfl) ?_
    refine va_get (pc := 54) (D := D) (ci := 0) (v := .ref (aU 2)) (C := RX0) (T := TX0) (N := 7) hx hb hts hinX0 hown hK hP 0 rfl rfl 2 (by decide) lk2 (fun _ h9 => h9) rfl dX0_addUnion_54 ?_
    refine lv_iload_n (pc := 57) hx hb dX0_addUnion_57 rfl (lv_at hl 2 rfl) ?_
    refine xa_iald (pc := 58) hx hb hK hP 3 0 rfl rfl (by omega) (by omega) dX0_addUnion_58 ?_
    refine lv_aload_n (pc := 59) hx hb dX0_addUnion_59 rfl (lv_at hl 0 rfl) ?_
    refine va_get (pc := 60) (D := D) (ci := 0) (v := .ref (aU 2)) (C := RX0) (T := TX0) (N := 7) hx hb hts hinX0 hown hK hP 0 rfl rfl 2 (by decide) lk2 (fun _ h9 => h9) rfl dX0_addUnion_60 ?_
    refine lv_iload_n (pc := 63) hx hb dX0_addUnion_63 rfl (lv_at hl 3 rfl) ?_
    refine xa_iald (pc := 64) hx hb hK hP 3 0 rfl rfl (by omega) (by omega) dX0_addUnion_64 ?_
    refine xn_ior (pc := 65) hx hb  dX0_addUnion_65 ?_
    refine xa_iast (pc := 66) hx hb hK hP hD hS 3 0 rfl rfl (by omega) (by omega) dX0_addUnion_66 (fun H locs hP hD hS => ?_)
    have hP : va_P D vwCl [(hU, .inr (0, oA aU ac st)), (aU 0, .inl (cZ, 18, .inl (zA (upz em k (decide (True)))))), (aU 1, .inl (cI, 18, .inl (nA (up fs k ((fs (k + 1)) ||| (fs (en v (k + 1)))))))), (aU 2, .inl (cI, 18, .inl (nA (up lz k ((lz (k + 1)) ||| (lz (en v (k + 1)))))))), (aU 3, .inl (cI, 10, .inl (nA fo))), (aU 4, .inl (cI, 3, .inl (nA re)))] H := hP
    have hD : va_D _ [(hU, .inr (0, oA aU ac st)), (aU 0, .inl (cZ, 18, .inl (zA (upz em k (decide (True)))))), (aU 1, .inl (cI, 18, .inl (nA (up fs k ((fs (k + 1)) ||| (fs (en v (k + 1)))))))), (aU 2, .inl (cI, 18, .inl (nA (up lz k ((lz (k + 1)) ||| (lz (en v (k + 1)))))))), (aU 3, .inl (cI, 10, .inl (nA fo))), (aU 4, .inl (cI, 3, .inl (nA re)))] := hD
    have hP9 : va_P D vwCl [(hU, .inr (0, oA aU ac st)), (aU 0, .inl (cZ, 18, .inl (zA ((upz em k (decide (True))))))), (aU 1, .inl (cI, 18, .inl (nA ((up fs k ((fs (k + 1)) ||| (fs (en v (k + 1))))))))), (aU 2, .inl (cI, 18, .inl (nA ((up lz k ((lz (k + 1)) ||| (lz (en v (k + 1))))))))), (aU 3, .inl (cI, 10, .inl (nA fo))), (aU 4, .inl (cI, 3, .inl (nA re)))] H := hP.sub [0, 1, 2, 3, 4, 5] rfl
    have hD9 : va_D _ [(hU, .inr (0, oA aU ac st)), (aU 0, .inl (cZ, 18, .inl (zA ((upz em k (decide (True))))))), (aU 1, .inl (cI, 18, .inl (nA ((up fs k ((fs (k + 1)) ||| (fs (en v (k + 1))))))))), (aU 2, .inl (cI, 18, .inl (nA ((up lz k ((lz (k + 1)) ||| (lz (en v (k + 1))))))))), (aU 3, .inl (cI, 10, .inl (nA fo))), (aU 4, .inl (cI, 3, .inl (nA re)))] := hD.sub [0, 1, 2, 3, 4, 5] (by decide) rfl
    exact W.vret (pc := 67) hx hb hr (fun t ht hW => ⟨⟨(upz em k (decide (True)), up fs k ((fs (k + 1)) ||| (fs (en v (k + 1)))), up lz k ((lz (k + 1)) ||| (lz (en v (k + 1)))), fo, re, st), rfl, (AI_un hv hk h6 rfl hai (by first | (rw [c11]; rfl) | (rw [c20, Bool.or_true]; rfl) | (rw [Bool.eq_false_iff.mpr c11, Bool.eq_false_iff.mpr c20]; rfl))), by rw [ht]; exact hP9, va_K.moved hW.alike hK, hD9⟩, hS.F ht⟩) hS.2.2 dX0_addUnion_67
  · refine lv_aload_n (pc := 14) hx hb dX0_addUnion_14 rfl (lv_at hl 0 rfl) ?_
    refine va_get (pc := 15) (D := D) (ci := 0) (v := .ref (aU 0)) (C := RX0) (T := TX0) (N := 7) hx hb hts hinX0 hown hK hP 0 rfl rfl 0 (by decide) lk0 (fun _ h9 => h9) rfl dX0_addUnion_15 ?_
    refine lv_iload_n (pc := 18) hx hb dX0_addUnion_18 rfl (lv_at hl 3 rfl) ?_
    refine xa_zald (pc := 19) hx hb hK hP 1 2 rfl rfl (by omega) (by omega) dX0_addUnion_19 ?_
    refine xp_if_eq (pc := 20) (tgt := 27) hx hb dX0_addUnion_20 (by decide) (fun c20 => ?_) (fun c20 => ?_)
    · refine lv_iconst (pc := 27) (v := (nI (0))) hx hb dX0_addUnion_27 (by decide) ?_
      refine W.eq (g2 := F0 mG 28 ls (.int (nI (pN False)) :: .int (nI k) :: .ref (aU 0) :: [])) rfl ?_
      refine xa_zast (pc := 28) hx hb hK hP hD hS 1 2 rfl rfl (by omega) (by omega) dX0_addUnion_28 (fun H locs hP hD hS => ?_)
      have hP : va_P D vwCl [(hU, .inr (0, oA aU ac st)), (aU 0, .inl (cZ, 18, .inl (zA (upz em k (decide (False)))))), (aU 1, .inl (cI, 18, .inl (nA fs))), (aU 2, .inl (cI, 18, .inl (nA lz))), (aU 3, .inl (cI, 10, .inl (nA fo))), (aU 4, .inl (cI, 3, .inl (nA re)))] H := hP
      have hD : va_D _ [(hU, .inr (0, oA aU ac st)), (aU 0, .inl (cZ, 18, .inl (zA (upz em k (decide (False)))))), (aU 1, .inl (cI, 18, .inl (nA fs))), (aU 2, .inl (cI, 18, .inl (nA lz))), (aU 3, .inl (cI, 10, .inl (nA fo))), (aU 4, .inl (cI, 3, .inl (nA re)))] := hD
      refine lv_aload_n (pc := 29) hx hb dX0_addUnion_29 rfl (lv_at hl 0 rfl) ?_
      refine va_get (pc := 30) (D := D) (ci := 0) (v := .ref (aU 1)) (C := RX0) (T := TX0) (N := 7) hx hb hts hinX0 hown hK hP 0 rfl rfl 1 (by decide) lk1 (fun _ h9 => h9) rfl dX0_addUnion_30 ?_
      refine lv_iload_n (pc := 33) hx hb dX0_addUnion_33 rfl (lv_at hl 1 rfl) ?_
      refine lv_aload_n (pc := 34) hx hb dX0_addUnion_34 rfl (lv_at hl 0 rfl) ?_
      refine va_get (pc := 35) (D := D) (ci := 0) (v := .ref (aU 1)) (C := RX0) (T := TX0) (N := 7) hx hb hts hinX0 hown hK hP 0 rfl rfl 1 (by decide) lk1 (fun _ h9 => h9) rfl dX0_addUnion_35 ?_
      refine lv_iload_n (pc := 38) hx hb dX0_addUnion_38 rfl (lv_at hl 2 rfl) ?_
      refine xa_iald (pc := 39) hx hb hK hP 2 0 rfl rfl (by omega) (by omega) dX0_addUnion_39 ?_
      refine lv_aload_n (pc := 40) hx hb dX0_addUnion_40 rfl (lv_at hl 0 rfl) ?_
      refine va_get (pc := 41) (D := D) (ci := 0) (v := .ref (aU 1)) (C := RX0) (T := TX0) (N := 7) hx hb hts hinX0 hown hK hP 0 rfl rfl 1 (by decide) lk1 (fun _ h9 => h9) rfl dX0_addUnion_41 ?_
      refine lv_iload_n (pc := 44) hx hb dX0_addUnion_44 rfl (lv_at hl 3 rfl) ?_
      refine xa_iald (pc := 45) hx hb hK hP 2 0 rfl rfl (by omega) (by omega) dX0_addUnion_45 ?_
      refine xn_ior (pc := 46) hx hb  dX0_addUnion_46 ?_
      refine xa_iast (pc := 47) hx hb hK hP hD hS 2 0 rfl rfl (by omega) (by omega) dX0_addUnion_47 (fun H locs hP hD hS => ?_)
      have hP : va_P D vwCl [(hU, .inr (0, oA aU ac st)), (aU 0, .inl (cZ, 18, .inl (zA (upz em k (decide (False)))))), (aU 1, .inl (cI, 18, .inl (nA (up fs k ((fs (k + 1)) ||| (fs (en v (k + 1)))))))), (aU 2, .inl (cI, 18, .inl (nA lz))), (aU 3, .inl (cI, 10, .inl (nA fo))), (aU 4, .inl (cI, 3, .inl (nA re)))] H := hP
      have hD : va_D _ [(hU, .inr (0, oA aU ac st)), (aU 0, .inl (cZ, 18, .inl (zA (upz em k (decide (False)))))), (aU 1, .inl (cI, 18, .inl (nA (up fs k ((fs (k + 1)) ||| (fs (en v (k + 1)))))))), (aU 2, .inl (cI, 18, .inl (nA lz))), (aU 3, .inl (cI, 10, .inl (nA fo))), (aU 4, .inl (cI, 3, .inl (nA re)))] := hD
      refine lv_aload_n (pc := 48) hx hb dX0_addUnion_48 rfl (lv_at hl 0 rfl) ?_
      refine va_get (pc := 49) (D := D) (ci := 0) (v := .ref (aU 2)) (C := RX0) (T := TX0) (N := 7) hx hb hts hinX0 hown hK hP 0 rfl rfl 2 (by decide) lk2 (fun _ h9 => h9) rfl dX0_addUnion_49 ?_
      refine lv_iload_n (pc := 52) hx hb dX0_addUnion_52 rfl (lv_at hl 1 rfl) ?_
      refine lv_aload_n (pc := 53) hx hb dX0_addUnion_53 rfl (lv_at hl 0 rfl) ?_
      refine va_get (pc := 54) (D := D) (ci := 0) (v := .ref (aU 2)) (C := RX0) (T := TX0) (N := 7) hx hb hts hinX0 hown hK hP 0 rfl rfl 2 (by decide) lk2 (fun _ h9 => h9) rfl dX0_addUnion_54 ?_
      refine lv_iload_n (pc := 57) hx hb dX0_addUnion_57 rfl (lv_at hl 2 rfl) ?_
      refine xa_iald (pc := 58) hx hb hK hP 3 0 rfl rfl (by omega) (by omega) dX0_addUnion_58 ?_
      refine lv_aload_n (pc := 59) hx hb dX0_addUnion_59 rfl (lv_at hl 0 rfl) ?_
      refine va_get (pc := 60) (D := D) (ci := 0) (v := .ref (aU 2)) (C := RX0) (T := TX0) (N := 7) hx hb hts hinX0 hown hK hP 0 rfl rfl 2 (by decide) lk2 (fun _ h9 => h9) rfl dX0_addUnion_60 ?_
      refine lv_iload_n (pc := 63) hx hb dX0_addUnion_63 rfl (lv_at hl 3 rfl) ?_
      refine xa_iald (pc := 64) hx hb hK hP 3 0 rfl rfl (by omega) (by omega) dX0_addUnion_64 ?_
      refine xn_ior (pc := 65) hx hb  dX0_addUnion_65 ?_
      refine xa_iast (pc := 66) hx hb hK hP hD hS 3 0 rfl rfl (by omega) (by omega) dX0_addUnion_66 (fun H locs hP hD hS => ?_)
      have hP : va_P D vwCl [(hU, .inr (0, oA aU ac st)), (aU 0, .inl (cZ, 18, .inl (zA (upz em k (decide (False)))))), (aU 1, .inl (cI, 18, .inl (nA (up fs k ((fs (k + 1)) ||| (fs (en v (k + 1)))))))), (aU 2, .inl (cI, 18, .inl (nA (up lz k ((lz (k + 1)) ||| (lz (en v (k + 1)))))))), (aU 3, .inl (cI, 10, .inl (nA fo))), (aU 4, .inl (cI, 3, .inl (nA re)))] H := hP
      have hD : va_D _ [(hU, .inr (0, oA aU ac st)), (aU 0, .inl (cZ, 18, .inl (zA (upz em k (decide (False)))))), (aU 1, .inl (cI, 18, .inl (nA (up fs k ((fs (k + 1)) ||| (fs (en v (k + 1)))))))), (aU 2, .inl (cI, 18, .inl (nA (up lz k ((lz (k + 1)) ||| (lz (en v (k + 1)))))))), (aU 3, .inl (cI, 10, .inl (nA fo))), (aU 4, .inl (cI, 3, .inl (nA re)))] := hD
      have hP9 : va_P D vwCl [(hU, .inr (0, oA aU ac st)), (aU 0, .inl (cZ, 18, .inl (zA ((upz em k (decide (False))))))), (aU 1, .inl (cI, 18, .inl (nA ((up fs k ((fs (k + 1)) ||| (fs (en v (k + 1))))))))), (aU 2, .inl (cI, 18, .inl (nA ((up lz k ((lz (k + 1)) ||| (lz (en v (k + 1))))))))), (aU 3, .inl (cI, 10, .inl (nA fo))), (aU 4, .inl (cI, 3, .inl (nA re)))] H := hP.sub [0, 1, 2, 3, 4, 5] rfl
      have hD9 : va_D _ [(hU, .inr (0, oA aU ac st)), (aU 0, .inl (cZ, 18, .inl (zA ((upz em k (decide (False))))))), (aU 1, .inl (cI, 18, .inl (nA ((up fs k ((fs (k + 1)) ||| (fs (en v (k + 1))))))))), (aU 2, .inl (cI, 18, .inl (nA ((up lz k ((lz (k + 1)) ||| (lz (en v (k + 1))))))))), (aU 3, .inl (cI, 10, .inl (nA fo))), (aU 4, .inl (cI, 3, .inl (nA re)))] := hD.sub [0, 1, 2, 3, 4, 5] (by decide) rfl
      exact W.vret (pc := 67) hx hb hr (fun t ht hW => ⟨⟨(upz em k (decide (False)), up fs k ((fs (k + 1)) ||| (fs (en v (k + 1)))), up lz k ((lz (k + 1)) ||| (lz (en v (k + 1)))), fo, re, st), rfl, (AI_un hv hk h6 rfl hai (by first | (rw [c11]; rfl) | (rw [c20, Bool.or_true]; rfl) | (rw [Bool.eq_false_iff.mpr c11, Bool.eq_false_iff.mpr c20]; rfl))), by rw [ht]; exact hP9, va_K.moved hW.alike hK, hD9⟩, hS.F ht⟩) hS.2.2 dX0_addUnion_67
    · refine lv_iconst (pc := 23) (v := (nI (1))) hx hb dX0_addUnion_23 (by decide) ?_
      refine lv_goto (pc := 24) (tgt := 28) hx hb dX0_addUnion_24 (by decide) ?_
      refine W.eq (g2 := F0 mG 28 ls (.int (nI (pN True)) :: .int (nI k) :: .ref (aU 0) :: [])) rfl ?_
      refine xa_zast (pc := 28) hx hb hK hP hD hS 1 2 rfl rfl (by omega) (by omega) dX0_addUnion_28 (fun H locs hP hD hS => ?_)
      have hP : va_P D vwCl [(hU, .inr (0, oA aU ac st)), (aU 0, .inl (cZ, 18, .inl (zA (upz em k (decide (True)))))), (aU 1, .inl (cI, 18, .inl (nA fs))), (aU 2, .inl (cI, 18, .inl (nA lz))), (aU 3, .inl (cI, 10, .inl (nA fo))), (aU 4, .inl (cI, 3, .inl (nA re)))] H := hP
      have hD : va_D _ [(hU, .inr (0, oA aU ac st)), (aU 0, .inl (cZ, 18, .inl (zA (upz em k (decide (True)))))), (aU 1, .inl (cI, 18, .inl (nA fs))), (aU 2, .inl (cI, 18, .inl (nA lz))), (aU 3, .inl (cI, 10, .inl (nA fo))), (aU 4, .inl (cI, 3, .inl (nA re)))] := hD
      refine lv_aload_n (pc := 29) hx hb dX0_addUnion_29 rfl (lv_at hl 0 rfl) ?_
      refine va_get (pc := 30) (D := D) (ci := 0) (v := .ref (aU 1)) (C := RX0) (T := TX0) (N := 7) hx hb hts hinX0 hown hK hP 0 rfl rfl 1 (by decide) lk1 (fun _ h9 => h9) rfl dX0_addUnion_30 ?_
      refine lv_iload_n (pc := 33) hx hb dX0_addUnion_33 rfl (lv_at hl 1 rfl) ?_
      refine lv_aload_n (pc := 34) hx hb dX0_addUnion_34 rfl (lv_at hl 0 rfl) ?_
      refine va_get (pc := 35) (D := D) (ci := 0) (v := .ref (aU 1)) (C := RX0) (T := TX0) (N := 7) hx hb hts hinX0 hown hK hP 0 rfl rfl 1 (by decide) lk1 (fun _ h9 => h9) rfl dX0_addUnion_35 ?_
      refine lv_iload_n (pc := 38) hx hb dX0_addUnion_38 rfl (lv_at hl 2 rfl) ?_
      refine xa_iald (pc := 39) hx hb hK hP 2 0 rfl rfl (by omega) (by omega) dX0_addUnion_39 ?_
      refine lv_aload_n (pc := 40) hx hb dX0_addUnion_40 rfl (lv_at hl 0 rfl) ?_
      refine va_get (pc := 41) (D := D) (ci := 0) (v := .ref (aU 1)) (C := RX0) (T := TX0) (N := 7) hx hb hts hinX0 hown hK hP 0 rfl rfl 1 (by decide) lk1 (fun _ h9 => h9) rfl dX0_addUnion_41 ?_
      refine lv_iload_n (pc := 44) hx hb dX0_addUnion_44 rfl (lv_at hl 3 rfl) ?_
      refine xa_iald (pc := 45) hx hb hK hP 2 0 rfl rfl (by omega) (by omega) dX0_addUnion_45 ?_
      refine xn_ior (pc := 46) hx hb  dX0_addUnion_46 ?_
      refine xa_iast (pc := 47) hx hb hK hP hD hS 2 0 rfl rfl (by omega) (by omega) dX0_addUnion_47 (fun H locs hP hD hS => ?_)
      have hP : va_P D vwCl [(hU, .inr (0, oA aU ac st)), (aU 0, .inl (cZ, 18, .inl (zA (upz em k (decide (True)))))), (aU 1, .inl (cI, 18, .inl (nA (up fs k ((fs (k + 1)) ||| (fs (en v (k + 1)))))))), (aU 2, .inl (cI, 18, .inl (nA lz))), (aU 3, .inl (cI, 10, .inl (nA fo))), (aU 4, .inl (cI, 3, .inl (nA re)))] H := hP
      have hD : va_D _ [(hU, .inr (0, oA aU ac st)), (aU 0, .inl (cZ, 18, .inl (zA (upz em k (decide (True)))))), (aU 1, .inl (cI, 18, .inl (nA (up fs k ((fs (k + 1)) ||| (fs (en v (k + 1)))))))), (aU 2, .inl (cI, 18, .inl (nA lz))), (aU 3, .inl (cI, 10, .inl (nA fo))), (aU 4, .inl (cI, 3, .inl (nA re)))] := hD
      refine lv_aload_n (pc := 48) hx hb dX0_addUnion_48 rfl (lv_at hl 0 rfl) ?_
      refine va_get (pc := 49) (D := D) (ci := 0) (v := .ref (aU 2)) (C := RX0) (T := TX0) (N := 7) hx hb hts hinX0 hown hK hP 0 rfl rfl 2 (by decide) lk2 (fun _ h9 => h9) rfl dX0_addUnion_49 ?_
      refine lv_iload_n (pc := 52) hx hb dX0_addUnion_52 rfl (lv_at hl 1 rfl) ?_
      refine lv_aload_n (pc := 53) hx hb dX0_addUnion_53 rfl (lv_at hl 0 rfl) ?_
      refine va_get (pc := 54) (D := D) (ci := 0) (v := .ref (aU 2)) (C := RX0) (T := TX0) (N := 7) hx hb hts hinX0 hown hK hP 0 rfl rfl 2 (by decide) lk2 (fun _ h9 => h9) rfl dX0_addUnion_54 ?_
      refine lv_iload_n (pc := 57) hx hb dX0_addUnion_57 rfl (lv_at hl 2 rfl) ?_
      refine xa_iald (pc := 58) hx hb hK hP 3 0 rfl rfl (by omega) (by omega) dX0_addUnion_58 ?_
      refine lv_aload_n (pc := 59) hx hb dX0_addUnion_59 rfl (lv_at hl 0 rfl) ?_
      refine va_get (pc := 60) (D := D) (ci := 0) (v := .ref (aU 2)) (C := RX0) (T := TX0) (N := 7) hx hb hts hinX0 hown hK hP 0 rfl rfl 2 (by decide) lk2 (fun _ h9 => h9) rfl dX0_addUnion_60 ?_
      refine lv_iload_n (pc := 63) hx hb dX0_addUnion_63 rfl (lv_at hl 3 rfl) ?_
      refine xa_iald (pc := 64) hx hb hK hP 3 0 rfl rfl (by omega) (by omega) dX0_addUnion_64 ?_
      refine xn_ior (pc := 65) hx hb  dX0_addUnion_65 ?_
      refine xa_iast (pc := 66) hx hb hK hP hD hS 3 0 rfl rfl (by omega) (by omega) dX0_addUnion_66 (fun H locs hP hD hS => ?_)
      have hP : va_P D vwCl [(hU, .inr (0, oA aU ac st)), (aU 0, .inl (cZ, 18, .inl (zA (upz em k (decide (True)))))), (aU 1, .inl (cI, 18, .inl (nA (up fs k ((fs (k + 1)) ||| (fs (en v (k + 1)))))))), (aU 2, .inl (cI, 18, .inl (nA (up lz k ((lz (k + 1)) ||| (lz (en v (k + 1)))))))), (aU 3, .inl (cI, 10, .inl (nA fo))), (aU 4, .inl (cI, 3, .inl (nA re)))] H := hP
      have hD : va_D _ [(hU, .inr (0, oA aU ac st)), (aU 0, .inl (cZ, 18, .inl (zA (upz em k (decide (True)))))), (aU 1, .inl (cI, 18, .inl (nA (up fs k ((fs (k + 1)) ||| (fs (en v (k + 1)))))))), (aU 2, .inl (cI, 18, .inl (nA (up lz k ((lz (k + 1)) ||| (lz (en v (k + 1)))))))), (aU 3, .inl (cI, 10, .inl (nA fo))), (aU 4, .inl (cI, 3, .inl (nA re)))] := hD
      have hP9 : va_P D vwCl [(hU, .inr (0, oA aU ac st)), (aU 0, .inl (cZ, 18, .inl (zA ((upz em k (decide (True))))))), (aU 1, .inl (cI, 18, .inl (nA ((up fs k ((fs (k + 1)) ||| (fs (en v (k + 1))))))))), (aU 2, .inl (cI, 18, .inl (nA ((up lz k ((lz (k + 1)) ||| (lz (en v (k + 1))))))))), (aU 3, .inl (cI, 10, .inl (nA fo))), (aU 4, .inl (cI, 3, .inl (nA re)))] H := hP.sub [0, 1, 2, 3, 4, 5] rfl
      have hD9 : va_D _ [(hU, .inr (0, oA aU ac st)), (aU 0, .inl (cZ, 18, .inl (zA ((upz em k (decide (True))))))), (aU 1, .inl (cI, 18, .inl (nA ((up fs k ((fs (k + 1)) ||| (fs (en v (k + 1))))))))), (aU 2, .inl (cI, 18, .inl (nA ((up lz k ((lz (k + 1)) ||| (lz (en v (k + 1))))))))), (aU 3, .inl (cI, 10, .inl (nA fo))), (aU 4, .inl (cI, 3, .inl (nA re)))] := hD.sub [0, 1, 2, 3, 4, 5] (by decide) rfl
      exact W.vret (pc := 67) hx hb hr (fun t ht hW => ⟨⟨(upz em k (decide (True)), up fs k ((fs (k + 1)) ||| (fs (en v (k + 1)))), up lz k ((lz (k + 1)) ||| (lz (en v (k + 1)))), fo, re, st), rfl, (AI_un hv hk h6 rfl hai (by first | (rw [c11]; rfl) | (rw [c20, Bool.or_true]; rfl) | (rw [Bool.eq_false_iff.mpr c11, Bool.eq_false_iff.mpr c20]; rfl))), by rw [ht]; exact hP9, va_K.moved hW.alike hK, hD9⟩, hS.F ht⟩) hS.2.2 dX0_addUnion_67
set_option maxHeartbeats 4000000 in
set_option maxRecDepth 100000 in
theorem c_X0_addConcatenation (l : Launch) (D : va_G) (cI cL cZ : ClassId) (sz : Nat) (hU : Nat) (aU : Nat → Nat) (em : Nat → Bool) (fs : Nat → Nat) (lz : Nat → Nat) (fo : Nat → Nat) (re : Nat → Nat) (ac : Nat) (st : Nat) (v : Nat) (k : Nat) (o : Nat) (r : Nat) (hv : okVb v = true) (hk : k < dc v) (ho : o = k + 1) (hr1 : r = en v (k + 1)) (h7 : dg v k = 7) (hai : AI v (k + 1) em fs lz fo re st) : Met l yX0_addConcatenation wsX0_addConcatenation { frames := 1, cells := 0, slots := 0, locals := 23 } (mP D (tyL cI cL cZ) [(hU, .inr (0, oA aU ac st)), (aU 0, .inl (cZ, 18, .inl (zA em))), (aU 1, .inl (cI, 18, .inl (nA fs))), (aU 2, .inl (cI, 18, .inl (nA lz))), (aU 3, .inl (cI, 10, .inl (nA fo))), (aU 4, .inl (cI, 3, .inl (nA re)))] sz [.ref hU, .int (nI k), .int (nI o), .int (nI r)]) (va_Qv (fun (u : (Nat → Bool) × (Nat → Nat) × (Nat → Nat) × (Nat → Nat) × (Nat → Nat) × Nat) => AI v k u.1 u.2.1 u.2.2.1 u.2.2.2.1 u.2.2.2.2.1 u.2.2.2.2.2) (fun (u : (Nat → Bool) × (Nat → Nat) × (Nat → Nat) × (Nat → Nat) × (Nat → Nat) × Nat) (t : State) => mB D (tyL cI cL cZ) (va_A [(hU, .inr (0, oA aU ac st)), (aU 0, .inl (cZ, 18, .inl (zA em))), (aU 1, .inl (cI, 18, .inl (nA fs))), (aU 2, .inl (cI, 18, .inl (nA lz))), (aU 3, .inl (cI, 10, .inl (nA fo))), (aU 4, .inl (cI, 3, .inl (nA re)))] sz) [(hU, .inr (0, oA aU ac (u.2.2.2.2.2))), (aU 0, .inl (cZ, 18, .inl (zA (u.1)))), (aU 1, .inl (cI, 18, .inl (nA (u.2.1)))), (aU 2, .inl (cI, 18, .inl (nA (u.2.2.1)))), (aU 3, .inl (cI, 10, .inl (nA (u.2.2.2.1)))), (aU 4, .inl (cI, 3, .inl (nA (u.2.2.2.2.1))))] t) (va_A [(hU, .inr (0, oA aU ac st)), (aU 0, .inl (cZ, 18, .inl (zA em))), (aU 1, .inl (cI, 18, .inl (nA fs))), (aU 2, .inl (cI, 18, .inl (nA lz))), (aU 3, .inl (cI, 10, .inl (nA fo))), (aU 4, .inl (cI, 3, .inl (nA re)))] sz)) 0 0 (va_A [(hU, .inr (0, oA aU ac st)), (aU 0, .inl (cZ, 18, .inl (zA em))), (aU 1, .inl (cI, 18, .inl (nA fs))), (aU 2, .inl (cI, 18, .inl (nA lz))), (aU 3, .inl (cI, 10, .inl (nA fo))), (aU 4, .inl (cI, 3, .inl (nA re)))] sz) := by
  refine Met.ofW (cc := cX0_addConcatenation) (maxL := 4) (ret := none) (by decide) rfl ?_
  intro pG eG s mG args below meth cG s₁ B hml hpre9
  obtain ⟨rfl, hsz, hP, hK, hD0⟩ := hpre9
  have hx := B.exec
  have hb := B.bytes
  have hr := B.returns
  have hts := atoms_spec (ws := wsX0_addConcatenation) B.pre
  have hown : s.vm.findClass RX0 = some mG.cls := findClass_of_methodNamed B.named
  have hlocks := B.notSynchronized
  subst hsz
  have hD := hD0.self (sz := s.heap.size)
  have hA : ∀ q : Nat, s.heap.size ≤ q → va_A [(hU, .inr (0, oA aU ac st)), (aU 0, .inl (cZ, 18, .inl (zA em))), (aU 1, .inl (cI, 18, .inl (nA fs))), (aU 2, .inl (cI, 18, .inl (nA lz))), (aU 3, .inl (cI, 10, .inl (nA fo))), (aU 4, .inl (cI, 3, .inl (nA re)))] s.heap.size q := fun q h => Or.inr h
  have hS : va_S (va_A [(hU, .inr (0, oA aU ac st)), (aU 0, .inl (cZ, 18, .inl (zA em))), (aU 1, .inl (cI, 18, .inl (nA fs))), (aU 2, .inl (cI, 18, .inl (nA lz))), (aU 3, .inl (cI, 10, .inl (nA fo))), (aU 4, .inl (cI, 3, .inl (nA re)))] s.heap.size) s.heap s.heap [] := va_S.rf
  have hinX0 : ∀ w ∈ wsX00, w ∈ wsX0_addConcatenation := fun w HH => (List.mem_cons_of_mem _ (List.mem_append_right _ HH))
  have lk0 : (Cond.fieldLink RX0 11 "RegexSimplifier$Automaton" "emptyWord" "[Z").before _ s = true := hts _ (List.mem_cons_of_mem _ (List.mem_append_left _ (List.mem_of_getElem? (i := 0) rfl)))
  have lk1 : (Cond.fieldLink RX0 15 "RegexSimplifier$Automaton" "firsts" "[I").before _ s = true := hts _ (List.mem_cons_of_mem _ (List.mem_append_left _ (List.mem_of_getElem? (i := 1) rfl)))
  have lk2 : (Cond.fieldLink RX0 19 "RegexSimplifier$Automaton" "lasts" "[I").before _ s = true := hts _ (List.mem_cons_of_mem _ (List.mem_append_left _ (List.mem_of_getElem? (i := 2) rfl)))
  have hl := lv_entry ([.ref hU, .int (nI k), .int (nI o), .int (nI r)]) (n := 4) (Nat.le_of_ble_eq_true rfl)
  rw [lg_entry_eq]
  generalize (lg_sl ([.ref hU, .int (nI k), .int (nI o), .int (nI r)]) ++ List.replicate (4 - (lg_sl ([.ref hU, .int (nI k), .int (nI o), .int (nI r)])).length) Slot.unset).toArray = ls at hl ⊢
  have hl : lv_has ls 4 [(0, .ref hU), (1, .int (nI k)), (2, .int (nI o)), (3, .int (nI r))] := hl
  have tv := TV_v (okVb_iff.mp hv)
  have hn18 := tv.n18
  have hq := tv.q hk
  have hst := AI_st hv hai
  have h1 := (tv.2.2.2 k hk).2.2.2.2.2.2 (by omega)
  have hq1 := tv.q h1.1
  have ha1 := hai.1 (k + 1) (by omega) h1.1
  have hb1 := hai.1 (en v (k + 1)) (by omega) h1.2.1
  subst ho; subst hr1
  refine lv_aload_n (pc := 0) hx hb dX0_addConcatenation_0 rfl (lv_at hl 0 rfl) ?_
  refine va_get (pc := 1) (D := D) (ci := 0) (v := .ref (aU 0)) (C := RX0) (T := TX0) (N := 7) hx hb hts hinX0 hown hK hP 0 rfl rfl 0 (by decide) lk0 (fun _ h9 => h9) rfl dX0_addConcatenation_1 ?_
  refine lv_iload_n (pc := 4) hx hb dX0_addConcatenation_4 rfl (lv_at hl 1 rfl) ?_
  refine lv_aload_n (pc := 5) hx hb dX0_addConcatenation_5 rfl (lv_at hl 0 rfl) ?_
  refine va_get (pc := 6) (D := D) (ci := 0) (v := .ref (aU 0)) (C := RX0) (T := TX0) (N := 7) hx hb hts hinX0 hown hK hP 0 rfl rfl 0 (by decide) lk0 (fun _ h9 => h9) rfl dX0_addConcatenation_6 ?_
  refine lv_iload_n (pc := 9) hx hb dX0_addConcatenation_9 rfl (lv_at hl 2 rfl) ?_
  refine xa_zald (pc := 10) hx hb hK hP 1 2 rfl rfl (by omega) (by omega) dX0_addConcatenation_10 ?_
  refine xp_if_eq (pc := 11) (tgt := 27) hx hb dX0_addConcatenation_11 (by decide) (fun c11 => ?_) (fun c11 => ?_)
  · refine lv_iconst (pc := 27) (v := (nI (0))) hx hb dX0_addConcatenation_27 (by decide) ?_
    refine W.eq (g2 := F0 mG 28 ls (.int (nI (pN False)) :: .int (nI k) :: .ref (aU 0) :: [])) rfl ?_
    refine xa_zast (pc := 28) hx hb hK hP hD hS 1 2 rfl rfl (by omega) (by omega) dX0_addConcatenation_28 (fun H locs hP hD hS => ?_)
    have hP : va_P D vwCl [(hU, .inr (0, oA aU ac st)), (aU 0, .inl (cZ, 18, .inl (zA (upz em k (decide (False)))))), (aU 1, .inl (cI, 18, .inl (nA fs))), (aU 2, .inl (cI, 18, .inl (nA lz))), (aU 3, .inl (cI, 10, .inl (nA fo))), (aU 4, .inl (cI, 3, .inl (nA re)))] H := hP
    have hD : va_D _ [(hU, .inr (0, oA aU ac st)), (aU 0, .inl (cZ, 18, .inl (zA (upz em k (decide (False)))))), (aU 1, .inl (cI, 18, .inl (nA fs))), (aU 2, .inl (cI, 18, .inl (nA lz))), (aU 3, .inl (cI, 10, .inl (nA fo))), (aU 4, .inl (cI, 3, .inl (nA re)))] := hD
    refine lv_aload_n (pc := 29) hx hb dX0_addConcatenation_29 rfl (lv_at hl 0 rfl) ?_
    refine va_get (pc := 30) (D := D) (ci := 0) (v := .ref (aU 1)) (C := RX0) (T := TX0) (N := 7) hx hb hts hinX0 hown hK hP 0 rfl rfl 1 (by decide) lk1 (fun _ h9 => h9) rfl dX0_addConcatenation_30 ?_
    refine lv_iload_n (pc := 33) hx hb dX0_addConcatenation_33 rfl (lv_at hl 1 rfl) ?_
    refine lv_aload_n (pc := 34) hx hb dX0_addConcatenation_34 rfl (lv_at hl 0 rfl) ?_
    refine va_get (pc := 35) (D := D) (ci := 0) (v := .ref (aU 0)) (C := RX0) (T := TX0) (N := 7) hx hb hts hinX0 hown hK hP 0 rfl rfl 0 (by decide) lk0 (fun _ h9 => h9) rfl dX0_addConcatenation_35 ?_
    refine lv_iload_n (pc := 38) hx hb dX0_addConcatenation_38 rfl (lv_at hl 2 rfl) ?_
    refine xa_zald (pc := 39) hx hb hK hP 1 2 rfl rfl (by omega) (by omega) dX0_addConcatenation_39 ?_
    refine W.eq (g2 := F0 mG 40 ls [.int (nI (pN (em (k + 1) = true))), .int (nI k), .ref (aU 1)]) (congrArg (fun zz => F0 mG 40 ls [.int zz, .int (nI k), .ref (aU 1)]) (by rw [upz_n _ (by omega)])) ?_
    refine xp_if_eq (pc := 40) (tgt := 59) hx hb dX0_addConcatenation_40 (by decide) (fun _ => ?_) (fun h => absurd h c11)
    refine lv_aload_n (pc := 59) hx hb dX0_addConcatenation_59 rfl (lv_at hl 0 rfl) ?_
    refine va_get (pc := 60) (D := D) (ci := 0) (v := .ref (aU 1)) (C := RX0) (T := TX0) (N := 7) hx hb hts hinX0 hown hK hP 0 rfl rfl 1 (by decide) lk1 (fun _ h9 => h9) rfl dX0_addConcatenation_60 ?_
    refine lv_iload_n (pc := 63) hx hb dX0_addConcatenation_63 rfl (lv_at hl 2 rfl) ?_
    refine xa_iald (pc := 64) hx hb hK hP 2 0 rfl rfl (by omega) (by omega) dX0_addConcatenation_64 ?_
    refine xa_iast (pc := 65) hx hb hK hP hD hS 2 0 rfl rfl (by omega) (by omega) dX0_addConcatenation_65 (fun H locs hP hD hS => ?_)
    have hP : va_P D vwCl [(hU, .inr (0, oA aU ac st)), (aU 0, .inl (cZ, 18, .inl (zA (upz em k (decide (False)))))), (aU 1, .inl (cI, 18, .inl (nA (up fs k (fs (k + 1)))))), (aU 2, .inl (cI, 18, .inl (nA lz))), (aU 3, .inl (cI, 10, .inl (nA fo))), (aU 4, .inl (cI, 3, .inl (nA re)))] H := hP
    have hD : va_D _ [(hU, .inr (0, oA aU ac st)), (aU 0, .inl (cZ, 18, .inl (zA (upz em k (decide (False)))))), (aU 1, .inl (cI, 18, .inl (nA (up fs k (fs (k + 1)))))), (aU 2, .inl (cI, 18, .inl (nA lz))), (aU 3, .inl (cI, 10, .inl (nA fo))), (aU 4, .inl (cI, 3, .inl (nA re)))] := hD
    refine lv_aload_n (pc := 66) hx hb dX0_addConcatenation_66 rfl (lv_at hl 0 rfl) ?_
    refine va_get (pc := 67) (D := D) (ci := 0) (v := .ref (aU 2)) (C := RX0) (T := TX0) (N := 7) hx hb hts hinX0 hown hK hP 0 rfl rfl 2 (by decide) lk2 (fun _ h9 => h9) rfl dX0_addConcatenation_67 ?_
    refine lv_iload_n (pc := 70) hx hb dX0_addConcatenation_70 rfl (lv_at hl 1 rfl) ?_
    refine lv_aload_n (pc := 71) hx hb dX0_addConcatenation_71 rfl (lv_at hl 0 rfl) ?_
    refine va_get (pc := 72) (D := D) (ci := 0) (v := .ref (aU 0)) (C := RX0) (T := TX0) (N := 7) hx hb hts hinX0 hown hK hP 0 rfl rfl 0 (by decide) lk0 (fun _ h9 => h9) rfl dX0_addConcatenation_72 ?_
    refine lv_iload_n (pc := 75) hx hb dX0_addConcatenation_75 rfl (lv_at hl 3 rfl) ?_
    refine xa_zald (pc := 76) hx hb hK hP 1 2 rfl rfl (by omega) (by omega) dX0_addConcatenation_76 ?_
    refine W.eq (g2 := F0 mG 77 ls [.int (nI (pN (em (en v (k + 1)) = true))), .int (nI k), .ref (aU 2)]) (congrArg (fun zz => F0 mG 77 ls [.int zz, .int (nI k), .ref (aU 2)]) (by rw [upz_n _ (by omega)])) ?_
    refine xp_if_eq (pc := 77) (tgt := 96) hx hb dX0_addConcatenation_77 (by decide) (fun c77 => ?_) (fun c77 => ?_)
    · refine lv_aload_n (pc := 96) hx hb dX0_addConcatenation_96 rfl (lv_at hl 0 rfl) ?_
      refine va_get (pc := 97) (D := D) (ci := 0) (v := .ref (aU 2)) (C := RX0) (T := TX0) (N := 7) hx hb hts hinX0 hown hK hP 0 rfl rfl 2 (by decide) lk2 (fun _ h9 => h9) rfl dX0_addConcatenation_97 ?_
      refine lv_iload_n (pc := 100) hx hb dX0_addConcatenation_100 rfl (lv_at hl 3 rfl) ?_
      refine xa_iald (pc := 101) hx hb hK hP 3 0 rfl rfl (by omega) (by omega) dX0_addConcatenation_101 ?_
      refine xa_iast (pc := 102) hx hb hK hP hD hS 3 0 rfl rfl (by omega) (by omega) dX0_addConcatenation_102 (fun H locs hP hD hS => ?_)
      have hP : va_P D vwCl [(hU, .inr (0, oA aU ac st)), (aU 0, .inl (cZ, 18, .inl (zA (upz em k (decide (False)))))), (aU 1, .inl (cI, 18, .inl (nA (up fs k (fs (k + 1)))))), (aU 2, .inl (cI, 18, .inl (nA (up lz k (lz (en v (k + 1))))))), (aU 3, .inl (cI, 10, .inl (nA fo))), (aU 4, .inl (cI, 3, .inl (nA re)))] H := hP
      have hD : va_D _ [(hU, .inr (0, oA aU ac st)), (aU 0, .inl (cZ, 18, .inl (zA (upz em k (decide (False)))))), (aU 1, .inl (cI, 18, .inl (nA (up fs k (fs (k + 1)))))), (aU 2, .inl (cI, 18, .inl (nA (up lz k (lz (en v (k + 1))))))), (aU 3, .inl (cI, 10, .inl (nA fo))), (aU 4, .inl (cI, 3, .inl (nA re)))] := hD
      refine lv_aload_n (pc := 103) hx hb dX0_addConcatenation_103 rfl (lv_at hl 0 rfl) ?_
      refine lv_aload_n (pc := 104) hx hb dX0_addConcatenation_104 rfl (lv_at hl 0 rfl) ?_
      refine va_get (pc := 105) (D := D) (ci := 0) (v := .ref (aU 2)) (C := RX0) (T := TX0) (N := 7) hx hb hts hinX0 hown hK hP 0 rfl rfl 2 (by decide) lk2 (fun _ h9 => h9) rfl dX0_addConcatenation_105 ?_
      refine lv_iload_n (pc := 108) hx hb dX0_addConcatenation_108 rfl (lv_at hl 2 rfl) ?_
      refine xa_iald (pc := 109) hx hb hK hP 3 0 rfl rfl (by omega) (by omega) dX0_addConcatenation_109 ?_
      refine lv_aload_n (pc := 110) hx hb dX0_addConcatenation_110 rfl (lv_at hl 0 rfl) ?_
      refine va_get (pc := 111) (D := D) (ci := 0) (v := .ref (aU 1)) (C := RX0) (T := TX0) (N := 7) hx hb hts hinX0 hown hK hP 0 rfl rfl 1 (by decide) lk1 (fun _ h9 => h9) rfl dX0_addConcatenation_111 ?_
      refine lv_iload_n (pc := 114) hx hb dX0_addConcatenation_114 rfl (lv_at hl 3 rfl) ?_
      refine xa_iald (pc := 115) hx hb hK hP 2 0 rfl rfl (by omega) (by omega) dX0_addConcatenation_115 ?_
      refine W.eq (g2 := F0 mG 116 ls [.int (nI (2 * fi (dg v) (en v) (dc v) (en v (k + 1)))), .int (nI ((up lz k (lz (en v (k + 1)))) (k + 1))), .ref hU]) (congrArg (fun zz => F0 mG 116 ls [.int (nI zz), .int (nI ((up lz k (lz (en v (k + 1)))) (k + 1))), .ref hU]) (by rw [up_n _ (by omega)]; exact hb1.2.1)) ?_
      refine W.eq (g2 := F0 mG 116 ls [.int (nI (2 * fi (dg v) (en v) (dc v) (en v (k + 1)))), .int (nI (2 * la (dg v) (en v) (dc v) (k + 1))), .ref hU]) (congrArg (fun zz => F0 mG 116 ls [.int (nI (2 * fi (dg v) (en v) (dc v) (en v (k + 1)))), .int (nI zz), .ref hU]) (by rw [up_n _ (by omega)]; exact ha1.2.2)) ?_
      refine xm_callv (pc := 116) (wc := [(hU, .inr (0, oA aU ac st)), (aU 0, .inl (cZ, 18, .inl (zA ((upz em k (decide (False))))))), (aU 1, .inl (cI, 18, .inl (nA ((up fs k (fs (k + 1))))))), (aU 2, .inl (cI, 18, .inl (nA ((up lz k (lz (en v (k + 1)))))))), (aU 3, .inl (cI, 10, .inl (nA fo))), (aU 4, .inl (cI, 3, .inl (nA re)))]) (wr := []) (va_runV (As := [.int (nI (2 * la (dg v) (en v) (dc v) (k + 1))), .int (nI (2 * fi (dg v) (en v) (dc v) (en v (k + 1))))]) (rest := []) ⟨hx, hb, hml, hown, hts⟩ (c_X0_link l D cI cL cZ H.size hU aU (upz em k (decide (False))) (up fs k (fs (k + 1))) (up lz k (lz (en v (k + 1)))) fo re ac st (2 * la (dg v) (en v) (dc v) (k + 1)) (2 * fi (dg v) (en v) (dc v) (en v (k + 1))) hst.2 (AI_lt hv hai (by omega) h1.1)) (cwV 2 hts gX0_addConcatenation_X0_link rfl rfl rfl (by decide +kernel) ⟨Nat.le_of_ble_eq_true rfl, Nat.le_of_ble_eq_true rfl⟩) (mP_V (wc := [(hU, .inr (0, oA aU ac st)), (aU 0, .inl (cZ, 18, .inl (zA ((upz em k (decide (False))))))), (aU 1, .inl (cI, 18, .inl (nA ((up fs k (fs (k + 1))))))), (aU 2, .inl (cI, 18, .inl (nA ((up lz k (lz (en v (k + 1)))))))), (aU 3, .inl (cI, 10, .inl (nA fo))), (aU 4, .inl (cI, 3, .inl (nA re)))]) (ci := 0) (q0 := 0) hK hP hD [0, 1, 2, 3, 4, 5] (by decide) rfl rfl rfl) rfl rfl hl.1 rfl (lv_room (Nat.le_of_ble_eq_true rfl)) dX0_addConcatenation_116 ⟨Nat.zero_le _, Nat.zero_le _⟩) hP hD hS hA [0, 1, 2, 3, 4, 5] [] rfl rfl (by decide) (by decide) (fun u H locs hw hP hD hS => ?_)
      obtain ⟨fo2_116, rfl⟩ : ∃ z, z = u := ⟨_, rfl⟩
      have hP : va_P D vwCl [(hU, .inr (0, oA aU ac st)), (aU 0, .inl (cZ, 18, .inl (zA ((upz em k (decide (False))))))), (aU 1, .inl (cI, 18, .inl (nA ((up fs k (fs (k + 1))))))), (aU 2, .inl (cI, 18, .inl (nA ((up lz k (lz (en v (k + 1)))))))), (aU 3, .inl (cI, 10, .inl (nA fo2_116))), (aU 4, .inl (cI, 3, .inl (nA re)))] H := hP
      have hD : va_D _ [(hU, .inr (0, oA aU ac st)), (aU 0, .inl (cZ, 18, .inl (zA ((upz em k (decide (False))))))), (aU 1, .inl (cI, 18, .inl (nA ((up fs k (fs (k + 1))))))), (aU 2, .inl (cI, 18, .inl (nA ((up lz k (lz (en v (k + 1)))))))), (aU 3, .inl (cI, 10, .inl (nA fo2_116))), (aU 4, .inl (cI, 3, .inl (nA re)))] := hD
      try dsimp only at hw
      have hw116 := hw
      have hP9 : va_P D vwCl [(hU, .inr (0, oA aU ac st)), (aU 0, .inl (cZ, 18, .inl (zA (((upz em k (decide (False)))))))), (aU 1, .inl (cI, 18, .inl (nA (((up fs k (fs (k + 1)))))))), (aU 2, .inl (cI, 18, .inl (nA (((up lz k (lz (en v (k + 1))))))))), (aU 3, .inl (cI, 10, .inl (nA fo2_116))), (aU 4, .inl (cI, 3, .inl (nA re)))] H := hP.sub [0, 1, 2, 3, 4, 5] rfl
      have hD9 : va_D _ [(hU, .inr (0, oA aU ac st)), (aU 0, .inl (cZ, 18, .inl (zA (((upz em k (decide (False)))))))), (aU 1, .inl (cI, 18, .inl (nA (((up fs k (fs (k + 1)))))))), (aU 2, .inl (cI, 18, .inl (nA (((up lz k (lz (en v (k + 1))))))))), (aU 3, .inl (cI, 10, .inl (nA fo2_116))), (aU 4, .inl (cI, 3, .inl (nA re)))] := hD.sub [0, 1, 2, 3, 4, 5] (by decide) rfl
      exact W.vret (pc := 119) hx hb hr (fun t ht hW => ⟨⟨((upz em k (decide (False))), (up fs k (fs (k + 1))), (up lz k (lz (en v (k + 1)))), fo2_116, re, st), rfl, (AI_cc hv hk h7 rfl hai (by first | (rw [c11, c20]; rfl) | (rw [Bool.eq_false_iff.mpr c11]; rfl) | (rw [Bool.eq_false_iff.mpr c20, Bool.and_false]; rfl)) (by first | exact (if_pos c11).symm | exact (if_neg c11).symm) (by first | exact (if_pos c20).symm | exact (if_neg c20).symm | exact (if_pos c77).symm | exact (if_neg c77).symm) hw116), by rw [ht]; exact hP9, va_K.moved hW.alike hK, hD9⟩, hS.F ht⟩) hS.2.2 dX0_addConcatenation_119
    · refine lv_aload_n (pc := 80) hx hb dX0_addConcatenation_80 rfl (lv_at hl 0 rfl) ?_
      refine va_get (pc := 81) (D := D) (ci := 0) (v := .ref (aU 2)) (C := RX0) (T := TX0) (N := 7) hx hb hts hinX0 hown hK hP 0 rfl rfl 2 (by decide) lk2 (fun _ h9 => h9) rfl dX0_addConcatenation_81 ?_
      refine lv_iload_n (pc := 84) hx hb dX0_addConcatenation_84 rfl (lv_at hl 2 rfl) ?_
      refine xa_iald (pc := 85) hx hb hK hP 3 0 rfl rfl (by omega) (by omega) dX0_addConcatenation_85 ?_
      refine lv_aload_n (pc := 86) hx hb dX0_addConcatenation_86 rfl (lv_at hl 0 rfl) ?_
      refine va_get (pc := 87) (D := D) (ci := 0) (v := .ref (aU 2)) (C := RX0) (T := TX0) (N := 7) hx hb hts hinX0 hown hK hP 0 rfl rfl 2 (by decide) lk2 (fun _ h9 => h9) rfl dX0_addConcatenation_87 ?_
      refine lv_iload_n (pc := 90) hx hb dX0_addConcatenation_90 rfl (lv_at hl 3 rfl) ?_
      refine xa_iald (pc := 91) hx hb hK hP 3 0 rfl rfl (by omega) (by omega) dX0_addConcatenation_91 ?_
      refine xn_ior (pc := 92) hx hb  dX0_addConcatenation_92 ?_
      refine lv_goto (pc := 93) (tgt := 102) hx hb dX0_addConcatenation_93 (by decide) ?_
      refine xa_iast (pc := 102) hx hb hK hP hD hS 3 0 rfl rfl (by omega) (by omega) dX0_addConcatenation_102 (fun H locs hP hD hS => ?_)
      have hP : va_P D vwCl [(hU, .inr (0, oA aU ac st)), (aU 0, .inl (cZ, 18, .inl (zA (upz em k (decide (False)))))), (aU 1, .inl (cI, 18, .inl (nA (up fs k (fs (k + 1)))))), (aU 2, .inl (cI, 18, .inl (nA (up lz k ((lz (k + 1)) ||| (lz (en v (k + 1)))))))), (aU 3, .inl (cI, 10, .inl (nA fo))), (aU 4, .inl (cI, 3, .inl (nA re)))] H := hP
      have hD : va_D _ [(hU, .inr (0, oA aU ac st)), (aU 0, .inl (cZ, 18, .inl (zA (upz em k (decide (False)))))), (aU 1, .inl (cI, 18, .inl (nA (up fs k (fs (k + 1)))))), (aU 2, .inl (cI, 18, .inl (nA (up lz k ((lz (k + 1)) ||| (lz (en v (k + 1)))))))), (aU 3, .inl (cI, 10, .inl (nA fo))), (aU 4, .inl (cI, 3, .inl (nA re)))] := hD
      refine lv_aload_n (pc := 103) hx hb dX0_addConcatenation_103 rfl (lv_at hl 0 rfl) ?_
      refine lv_aload_n (pc := 104) hx hb dX0_addConcatenation_104 rfl (lv_at hl 0 rfl) ?_
      refine va_get (pc := 105) (D := D) (ci := 0) (v := .ref (aU 2)) (C := RX0) (T := TX0) (N := 7) hx hb hts hinX0 hown hK hP 0 rfl rfl 2 (by decide) lk2 (fun _ h9 => h9) rfl dX0_addConcatenation_105 ?_
      refine lv_iload_n (pc := 108) hx hb dX0_addConcatenation_108 rfl (lv_at hl 2 rfl) ?_
      refine xa_iald (pc := 109) hx hb hK hP 3 0 rfl rfl (by omega) (by omega) dX0_addConcatenation_109 ?_
      refine lv_aload_n (pc := 110) hx hb dX0_addConcatenation_110 rfl (lv_at hl 0 rfl) ?_
      refine va_get (pc := 111) (D := D) (ci := 0) (v := .ref (aU 1)) (C := RX0) (T := TX0) (N := 7) hx hb hts hinX0 hown hK hP 0 rfl rfl 1 (by decide) lk1 (fun _ h9 => h9) rfl dX0_addConcatenation_111 ?_
      refine lv_iload_n (pc := 114) hx hb dX0_addConcatenation_114 rfl (lv_at hl 3 rfl) ?_
      refine xa_iald (pc := 115) hx hb hK hP 2 0 rfl rfl (by omega) (by omega) dX0_addConcatenation_115 ?_
      refine W.eq (g2 := F0 mG 116 ls [.int (nI (2 * fi (dg v) (en v) (dc v) (en v (k + 1)))), .int (nI ((up lz k ((lz (k + 1)) ||| (lz (en v (k + 1))))) (k + 1))), .ref hU]) (congrArg (fun zz => F0 mG 116 ls [.int (nI zz), .int (nI ((up lz k ((lz (k + 1)) ||| (lz (en v (k + 1))))) (k + 1))), .ref hU]) (by rw [up_n _ (by omega)]; exact hb1.2.1)) ?_
      refine W.eq (g2 := F0 mG 116 ls [.int (nI (2 * fi (dg v) (en v) (dc v) (en v (k + 1)))), .int (nI (2 * la (dg v) (en v) (dc v) (k + 1))), .ref hU]) (congrArg (fun zz => F0 mG 116 ls [.int (nI (2 * fi (dg v) (en v) (dc v) (en v (k + 1)))), .int (nI zz), .ref hU]) (by rw [up_n _ (by omega)]; exact ha1.2.2)) ?_
      refine xm_callv (pc := 116) (wc := [(hU, .inr (0, oA aU ac st)), (aU 0, .inl (cZ, 18, .inl (zA ((upz em k (decide (False))))))), (aU 1, .inl (cI, 18, .inl (nA ((up fs k (fs (k + 1))))))), (aU 2, .inl (cI, 18, .inl (nA ((up lz k ((lz (k + 1)) ||| (lz (en v (k + 1))))))))), (aU 3, .inl (cI, 10, .inl (nA fo))), (aU 4, .inl (cI, 3, .inl (nA re)))]) (wr := []) (va_runV (As := [.int (nI (2 * la (dg v) (en v) (dc v) (k + 1))), .int (nI (2 * fi (dg v) (en v) (dc v) (en v (k + 1))))]) (rest := []) ⟨hx, hb, hml, hown, hts⟩ (c_X0_link l D cI cL cZ H.size hU aU (upz em k (decide (False))) (up fs k (fs (k + 1))) (up lz k ((lz (k + 1)) ||| (lz (en v (k + 1))))) fo re ac st (2 * la (dg v) (en v) (dc v) (k + 1)) (2 * fi (dg v) (en v) (dc v) (en v (k + 1))) hst.2 (AI_lt hv hai (by omega) h1.1)) (cwV 2 hts gX0_addConcatenation_X0_link rfl rfl rfl (by decide +kernel) ⟨Nat.le_of_ble_eq_true rfl, Nat.le_of_ble_eq_true rfl⟩) (mP_V (wc := [(hU, .inr (0, oA aU ac st)), (aU 0, .inl (cZ, 18, .inl (zA ((upz em k (decide (False))))))), (aU 1, .inl (cI, 18, .inl (nA ((up fs k (fs (k + 1))))))), (aU 2, .inl (cI, 18, .inl (nA ((up lz k ((lz (k + 1)) ||| (lz (en v (k + 1))))))))), (aU 3, .inl (cI, 10, .inl (nA fo))), (aU 4, .inl (cI, 3, .inl (nA re)))]) (ci := 0) (q0 := 0) hK hP hD [0, 1, 2, 3, 4, 5] (by decide) rfl rfl rfl) rfl rfl hl.1 rfl (lv_room (Nat.le_of_ble_eq_true rfl)) dX0_addConcatenation_116 ⟨Nat.zero_le _, Nat.zero_le _⟩) hP hD hS hA [0, 1, 2, 3, 4, 5] [] rfl rfl (by decide) (by decide) (fun u H locs hw hP hD hS => ?_)
      obtain ⟨fo2_116, rfl⟩ : ∃ z, z = u := ⟨_, rfl⟩
      have hP : va_P D vwCl [(hU, .inr (0, oA aU ac st)), (aU 0, .inl (cZ, 18, .inl (zA ((upz em k (decide (False))))))), (aU 1, .inl (cI, 18, .inl (nA ((up fs k (fs (k + 1))))))), (aU 2, .inl (cI, 18, .inl (nA ((up lz k ((lz (k + 1)) ||| (lz (en v (k + 1))))))))), (aU 3, .inl (cI, 10, .inl (nA fo2_116))), (aU 4, .inl (cI, 3, .inl (nA re)))] H := hP
      have hD : va_D _ [(hU, .inr (0, oA aU ac st)), (aU 0, .inl (cZ, 18, .inl (zA ((upz em k (decide (False))))))), (aU 1, .inl (cI, 18, .inl (nA ((up fs k (fs (k + 1))))))), (aU 2, .inl (cI, 18, .inl (nA ((up lz k ((lz (k + 1)) ||| (lz (en v (k + 1))))))))), (aU 3, .inl (cI, 10, .inl (nA fo2_116))), (aU 4, .inl (cI, 3, .inl (nA re)))] := hD
      try dsimp only at hw
      have hw116 := hw
      have hP9 : va_P D vwCl [(hU, .inr (0, oA aU ac st)), (aU 0, .inl (cZ, 18, .inl (zA (((upz em k (decide (False)))))))), (aU 1, .inl (cI, 18, .inl (nA (((up fs k (fs (k + 1)))))))), (aU 2, .inl (cI, 18, .inl (nA (((up lz k ((lz (k + 1)) ||| (lz (en v (k + 1)))))))))), (aU 3, .inl (cI, 10, .inl (nA fo2_116))), (aU 4, .inl (cI, 3, .inl (nA re)))] H := hP.sub [0, 1, 2, 3, 4, 5] rfl
      have hD9 : va_D _ [(hU, .inr (0, oA aU ac st)), (aU 0, .inl (cZ, 18, .inl (zA (((upz em k (decide (False)))))))), (aU 1, .inl (cI, 18, .inl (nA (((up fs k (fs (k + 1)))))))), (aU 2, .inl (cI, 18, .inl (nA (((up lz k ((lz (k + 1)) ||| (lz (en v (k + 1)))))))))), (aU 3, .inl (cI, 10, .inl (nA fo2_116))), (aU 4, .inl (cI, 3, .inl (nA re)))] := hD.sub [0, 1, 2, 3, 4, 5] (by decide) rfl
      exact W.vret (pc := 119) hx hb hr (fun t ht hW => ⟨⟨((upz em k (decide (False))), (up fs k (fs (k + 1))), (up lz k ((lz (k + 1)) ||| (lz (en v (k + 1))))), fo2_116, re, st), rfl, (AI_cc hv hk h7 rfl hai (by first | (rw [c11, c20]; rfl) | (rw [Bool.eq_false_iff.mpr c11]; rfl) | (rw [Bool.eq_false_iff.mpr c20, Bool.and_false]; rfl)) (by first | exact (if_pos c11).symm | exact (if_neg c11).symm) (by first | exact (if_pos c20).symm | exact (if_neg c20).symm | exact (if_pos c77).symm | exact (if_neg c77).symm) hw116), by rw [ht]; exact hP9, va_K.moved hW.alike hK, hD9⟩, hS.F ht⟩) hS.2.2 dX0_addConcatenation_119
  · refine lv_aload_n (pc := 14) hx hb dX0_addConcatenation_14 rfl (lv_at hl 0 rfl) ?_
    refine va_get (pc := 15) (D := D) (ci := 0) (v := .ref (aU 0)) (C := RX0) (T := TX0) (N := 7) hx hb hts hinX0 hown hK hP 0 rfl rfl 0 (by decide) lk0 (fun _ h9 => h9) rfl dX0_addConcatenation_15 ?_
    refine lv_iload_n (pc := 18) hx hb dX0_addConcatenation_18 rfl (lv_at hl 3 rfl) ?_
    refine xa_zald (pc := 19) hx hb hK hP 1 2 rfl rfl (by omega) (by omega) dX0_addConcatenation_19 ?_
    refine xp_if_eq (pc := 20) (tgt := 27) hx hb dX0_addConcatenation_20 (by decide) (fun c20 => ?_) (fun c20 => ?_)
    · refine lv_iconst (pc := 27) (v := (nI (0))) hx hb dX0_addConcatenation_27 (by decide) ?_
      refine W.eq (g2 := F0 mG 28 ls (.int (nI (pN False)) :: .int (nI k) :: .ref (aU 0) :: [])) rfl ?_
      refine xa_zast (pc := 28) hx hb hK hP hD hS 1 2 rfl rfl (by omega) (by omega) dX0_addConcatenation_28 (fun H locs hP hD hS => ?_)
      have hP : va_P D vwCl [(hU, .inr (0, oA aU ac st)), (aU 0, .inl (cZ, 18, .inl (zA (upz em k (decide (False)))))), (aU 1, .inl (cI, 18, .inl (nA fs))), (aU 2, .inl (cI, 18, .inl (nA lz))), (aU 3, .inl (cI, 10, .inl (nA fo))), (aU 4, .inl (cI, 3, .inl (nA re)))] H := hP
      have hD : va_D _ [(hU, .inr (0, oA aU ac st)), (aU 0, .inl (cZ, 18, .inl (zA (upz em k (decide (False)))))), (aU 1, .inl (cI, 18, .inl (nA fs))), (aU 2, .inl (cI, 18, .inl (nA lz))), (aU 3, .inl (cI, 10, .inl (nA fo))), (aU 4, .inl (cI, 3, .inl (nA re)))] := hD
      refine lv_aload_n (pc := 29) hx hb dX0_addConcatenation_29 rfl (lv_at hl 0 rfl) ?_
      refine va_get (pc := 30) (D := D) (ci := 0) (v := .ref (aU 1)) (C := RX0) (T := TX0) (N := 7) hx hb hts hinX0 hown hK hP 0 rfl rfl 1 (by decide) lk1 (fun _ h9 => h9) rfl dX0_addConcatenation_30 ?_
      refine lv_iload_n (pc := 33) hx hb dX0_addConcatenation_33 rfl (lv_at hl 1 rfl) ?_
      refine lv_aload_n (pc := 34) hx hb dX0_addConcatenation_34 rfl (lv_at hl 0 rfl) ?_
      refine va_get (pc := 35) (D := D) (ci := 0) (v := .ref (aU 0)) (C := RX0) (T := TX0) (N := 7) hx hb hts hinX0 hown hK hP 0 rfl rfl 0 (by decide) lk0 (fun _ h9 => h9) rfl dX0_addConcatenation_35 ?_
      refine lv_iload_n (pc := 38) hx hb dX0_addConcatenation_38 rfl (lv_at hl 2 rfl) ?_
      refine xa_zald (pc := 39) hx hb hK hP 1 2 rfl rfl (by omega) (by omega) dX0_addConcatenation_39 ?_
      refine W.eq (g2 := F0 mG 40 ls [.int (nI (pN (em (k + 1) = true))), .int (nI k), .ref (aU 1)]) (congrArg (fun zz => F0 mG 40 ls [.int zz, .int (nI k), .ref (aU 1)]) (by rw [upz_n _ (by omega)])) ?_
      refine xp_if_eq (pc := 40) (tgt := 59) hx hb dX0_addConcatenation_40 (by decide) (fun h => absurd c11 h) (fun _ => ?_)
      refine lv_aload_n (pc := 43) hx hb dX0_addConcatenation_43 rfl (lv_at hl 0 rfl) ?_
      refine va_get (pc := 44) (D := D) (ci := 0) (v := .ref (aU 1)) (C := RX0) (T := TX0) (N := 7) hx hb hts hinX0 hown hK hP 0 rfl rfl 1 (by decide) lk1 (fun _ h9 => h9) rfl dX0_addConcatenation_44 ?_
      refine lv_iload_n (pc := 47) hx hb dX0_addConcatenation_47 rfl (lv_at hl 2 rfl) ?_
      refine xa_iald (pc := 48) hx hb hK hP 2 0 rfl rfl (by omega) (by omega) dX0_addConcatenation_48 ?_
      refine lv_aload_n (pc := 49) hx hb dX0_addConcatenation_49 rfl (lv_at hl 0 rfl) ?_
      refine va_get (pc := 50) (D := D) (ci := 0) (v := .ref (aU 1)) (C := RX0) (T := TX0) (N := 7) hx hb hts hinX0 hown hK hP 0 rfl rfl 1 (by decide) lk1 (fun _ h9 => h9) rfl dX0_addConcatenation_50 ?_
      refine lv_iload_n (pc := 53) hx hb dX0_addConcatenation_53 rfl (lv_at hl 3 rfl) ?_
      refine xa_iald (pc := 54) hx hb hK hP 2 0 rfl rfl (by omega) (by omega) dX0_addConcatenation_54 ?_
      refine xn_ior (pc := 55) hx hb  dX0_addConcatenation_55 ?_
      refine lv_goto (pc := 56) (tgt := 65) hx hb dX0_addConcatenation_56 (by decide) ?_
      refine xa_iast (pc := 65) hx hb hK hP hD hS 2 0 rfl rfl (by omega) (by omega) dX0_addConcatenation_65 (fun H locs hP hD hS => ?_)
      have hP : va_P D vwCl [(hU, .inr (0, oA aU ac st)), (aU 0, .inl (cZ, 18, .inl (zA (upz em k (decide (False)))))), (aU 1, .inl (cI, 18, .inl (nA (up fs k ((fs (k + 1)) ||| (fs (en v (k + 1)))))))), (aU 2, .inl (cI, 18, .inl (nA lz))), (aU 3, .inl (cI, 10, .inl (nA fo))), (aU 4, .inl (cI, 3, .inl (nA re)))] H := hP
      have hD : va_D _ [(hU, .inr (0, oA aU ac st)), (aU 0, .inl (cZ, 18, .inl (zA (upz em k (decide (False)))))), (aU 1, .inl (cI, 18, .inl (nA (up fs k ((fs (k + 1)) ||| (fs (en v (k + 1)))))))), (aU 2, .inl (cI, 18, .inl (nA lz))), (aU 3, .inl (cI, 10, .inl (nA fo))), (aU 4, .inl (cI, 3, .inl (nA re)))] := hD
      refine lv_aload_n (pc := 66) hx hb dX0_addConcatenation_66 rfl (lv_at hl 0 rfl) ?_
      refine va_get (pc := 67) (D := D) (ci := 0) (v := .ref (aU 2)) (C := RX0) (T := TX0) (N := 7) hx hb hts hinX0 hown hK hP 0 rfl rfl 2 (by decide) lk2 (fun _ h9 => h9) rfl dX0_addConcatenation_67 ?_
      refine lv_iload_n (pc := 70) hx hb dX0_addConcatenation_70 rfl (lv_at hl 1 rfl) ?_
      refine lv_aload_n (pc := 71) hx hb dX0_addConcatenation_71 rfl (lv_at hl 0 rfl) ?_
      refine va_get (pc := 72) (D := D) (ci := 0) (v := .ref (aU 0)) (C := RX0) (T := TX0) (N := 7) hx hb hts hinX0 hown hK hP 0 rfl rfl 0 (by decide) lk0 (fun _ h9 => h9) rfl dX0_addConcatenation_72 ?_
      refine lv_iload_n (pc := 75) hx hb dX0_addConcatenation_75 rfl (lv_at hl 3 rfl) ?_
      refine xa_zald (pc := 76) hx hb hK hP 1 2 rfl rfl (by omega) (by omega) dX0_addConcatenation_76 ?_
      refine W.eq (g2 := F0 mG 77 ls [.int (nI (pN (em (en v (k + 1)) = true))), .int (nI k), .ref (aU 2)]) (congrArg (fun zz => F0 mG 77 ls [.int zz, .int (nI k), .ref (aU 2)]) (by rw [upz_n _ (by omega)])) ?_
      refine xp_if_eq (pc := 77) (tgt := 96) hx hb dX0_addConcatenation_77 (by decide) (fun _ => ?_) (fun h => absurd h c20)
      refine lv_aload_n (pc := 96) hx hb dX0_addConcatenation_96 rfl (lv_at hl 0 rfl) ?_
      refine va_get (pc := 97) (D := D) (ci := 0) (v := .ref (aU 2)) (C := RX0) (T := TX0) (N := 7) hx hb hts hinX0 hown hK hP 0 rfl rfl 2 (by decide) lk2 (fun _ h9 => h9) rfl dX0_addConcatenation_97 ?_
      refine lv_iload_n (pc := 100) hx hb dX0_addConcatenation_100 rfl (lv_at hl 3 rfl) ?_
      refine xa_iald (pc := 101) hx hb hK hP 3 0 rfl rfl (by omega) (by omega) dX0_addConcatenation_101 ?_
      refine xa_iast (pc := 102) hx hb hK hP hD hS 3 0 rfl rfl (by omega) (by omega) dX0_addConcatenation_102 (fun H locs hP hD hS => ?_)
      have hP : va_P D vwCl [(hU, .inr (0, oA aU ac st)), (aU 0, .inl (cZ, 18, .inl (zA (upz em k (decide (False)))))), (aU 1, .inl (cI, 18, .inl (nA (up fs k ((fs (k + 1)) ||| (fs (en v (k + 1)))))))), (aU 2, .inl (cI, 18, .inl (nA (up lz k (lz (en v (k + 1))))))), (aU 3, .inl (cI, 10, .inl (nA fo))), (aU 4, .inl (cI, 3, .inl (nA re)))] H := hP
      have hD : va_D _ [(hU, .inr (0, oA aU ac st)), (aU 0, .inl (cZ, 18, .inl (zA (upz em k (decide (False)))))), (aU 1, .inl (cI, 18, .inl (nA (up fs k ((fs (k + 1)) ||| (fs (en v (k + 1)))))))), (aU 2, .inl (cI, 18, .inl (nA (up lz k (lz (en v (k + 1))))))), (aU 3, .inl (cI, 10, .inl (nA fo))), (aU 4, .inl (cI, 3, .inl (nA re)))] := hD
      refine lv_aload_n (pc := 103) hx hb dX0_addConcatenation_103 rfl (lv_at hl 0 rfl) ?_
      refine lv_aload_n (pc := 104) hx hb dX0_addConcatenation_104 rfl (lv_at hl 0 rfl) ?_
      refine va_get (pc := 105) (D := D) (ci := 0) (v := .ref (aU 2)) (C := RX0) (T := TX0) (N := 7) hx hb hts hinX0 hown hK hP 0 rfl rfl 2 (by decide) lk2 (fun _ h9 => h9) rfl dX0_addConcatenation_105 ?_
      refine lv_iload_n (pc := 108) hx hb dX0_addConcatenation_108 rfl (lv_at hl 2 rfl) ?_
      refine xa_iald (pc := 109) hx hb hK hP 3 0 rfl rfl (by omega) (by omega) dX0_addConcatenation_109 ?_
      refine lv_aload_n (pc := 110) hx hb dX0_addConcatenation_110 rfl (lv_at hl 0 rfl) ?_
      refine va_get (pc := 111) (D := D) (ci := 0) (v := .ref (aU 1)) (C := RX0) (T := TX0) (N := 7) hx hb hts hinX0 hown hK hP 0 rfl rfl 1 (by decide) lk1 (fun _ h9 => h9) rfl dX0_addConcatenation_111 ?_
      refine lv_iload_n (pc := 114) hx hb dX0_addConcatenation_114 rfl (lv_at hl 3 rfl) ?_
      refine xa_iald (pc := 115) hx hb hK hP 2 0 rfl rfl (by omega) (by omega) dX0_addConcatenation_115 ?_
      refine W.eq (g2 := F0 mG 116 ls [.int (nI (2 * fi (dg v) (en v) (dc v) (en v (k + 1)))), .int (nI ((up lz k (lz (en v (k + 1)))) (k + 1))), .ref hU]) (congrArg (fun zz => F0 mG 116 ls [.int (nI zz), .int (nI ((up lz k (lz (en v (k + 1)))) (k + 1))), .ref hU]) (by rw [up_n _ (by omega)]; exact hb1.2.1)) ?_
      refine W.eq (g2 := F0 mG 116 ls [.int (nI (2 * fi (dg v) (en v) (dc v) (en v (k + 1)))), .int (nI (2 * la (dg v) (en v) (dc v) (k + 1))), .ref hU]) (congrArg (fun zz => F0 mG 116 ls [.int (nI (2 * fi (dg v) (en v) (dc v) (en v (k + 1)))), .int (nI zz), .ref hU]) (by rw [up_n _ (by omega)]; exact ha1.2.2)) ?_
      refine xm_callv (pc := 116) (wc := [(hU, .inr (0, oA aU ac st)), (aU 0, .inl (cZ, 18, .inl (zA ((upz em k (decide (False))))))), (aU 1, .inl (cI, 18, .inl (nA ((up fs k ((fs (k + 1)) ||| (fs (en v (k + 1))))))))), (aU 2, .inl (cI, 18, .inl (nA ((up lz k (lz (en v (k + 1)))))))), (aU 3, .inl (cI, 10, .inl (nA fo))), (aU 4, .inl (cI, 3, .inl (nA re)))]) (wr := []) (va_runV (As := [.int (nI (2 * la (dg v) (en v) (dc v) (k + 1))), .int (nI (2 * fi (dg v) (en v) (dc v) (en v (k + 1))))]) (rest := []) ⟨hx, hb, hml, hown, hts⟩ (c_X0_link l D cI cL cZ H.size hU aU (upz em k (decide (False))) (up fs k ((fs (k + 1)) ||| (fs (en v (k + 1))))) (up lz k (lz (en v (k + 1)))) fo re ac st (2 * la (dg v) (en v) (dc v) (k + 1)) (2 * fi (dg v) (en v) (dc v) (en v (k + 1))) hst.2 (AI_lt hv hai (by omega) h1.1)) (cwV 2 hts gX0_addConcatenation_X0_link rfl rfl rfl (by decide +kernel) ⟨Nat.le_of_ble_eq_true rfl, Nat.le_of_ble_eq_true rfl⟩) (mP_V (wc := [(hU, .inr (0, oA aU ac st)), (aU 0, .inl (cZ, 18, .inl (zA ((upz em k (decide (False))))))), (aU 1, .inl (cI, 18, .inl (nA ((up fs k ((fs (k + 1)) ||| (fs (en v (k + 1))))))))), (aU 2, .inl (cI, 18, .inl (nA ((up lz k (lz (en v (k + 1)))))))), (aU 3, .inl (cI, 10, .inl (nA fo))), (aU 4, .inl (cI, 3, .inl (nA re)))]) (ci := 0) (q0 := 0) hK hP hD [0, 1, 2, 3, 4, 5] (by decide) rfl rfl rfl) rfl rfl hl.1 rfl (lv_room (Nat.le_of_ble_eq_true rfl)) dX0_addConcatenation_116 ⟨Nat.zero_le _, Nat.zero_le _⟩) hP hD hS hA [0, 1, 2, 3, 4, 5] [] rfl rfl (by decide) (by decide) (fun u H locs hw hP hD hS => ?_)
      obtain ⟨fo2_116, rfl⟩ : ∃ z, z = u := ⟨_, rfl⟩
      have hP : va_P D vwCl [(hU, .inr (0, oA aU ac st)), (aU 0, .inl (cZ, 18, .inl (zA ((upz em k (decide (False))))))), (aU 1, .inl (cI, 18, .inl (nA ((up fs k ((fs (k + 1)) ||| (fs (en v (k + 1))))))))), (aU 2, .inl (cI, 18, .inl (nA ((up lz k (lz (en v (k + 1)))))))), (aU 3, .inl (cI, 10, .inl (nA fo2_116))), (aU 4, .inl (cI, 3, .inl (nA re)))] H := hP
      have hD : va_D _ [(hU, .inr (0, oA aU ac st)), (aU 0, .inl (cZ, 18, .inl (zA ((upz em k (decide (False))))))), (aU 1, .inl (cI, 18, .inl (nA ((up fs k ((fs (k + 1)) ||| (fs (en v (k + 1))))))))), (aU 2, .inl (cI, 18, .inl (nA ((up lz k (lz (en v (k + 1)))))))), (aU 3, .inl (cI, 10, .inl (nA fo2_116))), (aU 4, .inl (cI, 3, .inl (nA re)))] := hD
      try dsimp only at hw
      have hw116 := hw
      have hP9 : va_P D vwCl [(hU, .inr (0, oA aU ac st)), (aU 0, .inl (cZ, 18, .inl (zA (((upz em k (decide (False)))))))), (aU 1, .inl (cI, 18, .inl (nA (((up fs k ((fs (k + 1)) ||| (fs (en v (k + 1)))))))))), (aU 2, .inl (cI, 18, .inl (nA (((up lz k (lz (en v (k + 1))))))))), (aU 3, .inl (cI, 10, .inl (nA fo2_116))), (aU 4, .inl (cI, 3, .inl (nA re)))] H := hP.sub [0, 1, 2, 3, 4, 5] rfl
      have hD9 : va_D _ [(hU, .inr (0, oA aU ac st)), (aU 0, .inl (cZ, 18, .inl (zA (((upz em k (decide (False)))))))), (aU 1, .inl (cI, 18, .inl (nA (((up fs k ((fs (k + 1)) ||| (fs (en v (k + 1)))))))))), (aU 2, .inl (cI, 18, .inl (nA (((up lz k (lz (en v (k + 1))))))))), (aU 3, .inl (cI, 10, .inl (nA fo2_116))), (aU 4, .inl (cI, 3, .inl (nA re)))] := hD.sub [0, 1, 2, 3, 4, 5] (by decide) rfl
      exact W.vret (pc := 119) hx hb hr (fun t ht hW => ⟨⟨((upz em k (decide (False))), (up fs k ((fs (k + 1)) ||| (fs (en v (k + 1))))), (up lz k (lz (en v (k + 1)))), fo2_116, re, st), rfl, (AI_cc hv hk h7 rfl hai (by first | (rw [c11, c20]; rfl) | (rw [Bool.eq_false_iff.mpr c11]; rfl) | (rw [Bool.eq_false_iff.mpr c20, Bool.and_false]; rfl)) (by first | exact (if_pos c11).symm | exact (if_neg c11).symm) (by first | exact (if_pos c20).symm | exact (if_neg c20).symm | exact (if_pos c77).symm | exact (if_neg c77).symm) hw116), by rw [ht]; exact hP9, va_K.moved hW.alike hK, hD9⟩, hS.F ht⟩) hS.2.2 dX0_addConcatenation_119
    · refine lv_iconst (pc := 23) (v := (nI (1))) hx hb dX0_addConcatenation_23 (by decide) ?_
      refine lv_goto (pc := 24) (tgt := 28) hx hb dX0_addConcatenation_24 (by decide) ?_
      refine W.eq (g2 := F0 mG 28 ls (.int (nI (pN True)) :: .int (nI k) :: .ref (aU 0) :: [])) rfl ?_
      refine xa_zast (pc := 28) hx hb hK hP hD hS 1 2 rfl rfl (by omega) (by omega) dX0_addConcatenation_28 (fun H locs hP hD hS => ?_)
      have hP : va_P D vwCl [(hU, .inr (0, oA aU ac st)), (aU 0, .inl (cZ, 18, .inl (zA (upz em k (decide (True)))))), (aU 1, .inl (cI, 18, .inl (nA fs))), (aU 2, .inl (cI, 18, .inl (nA lz))), (aU 3, .inl (cI, 10, .inl (nA fo))), (aU 4, .inl (cI, 3, .inl (nA re)))] H := hP
      have hD : va_D _ [(hU, .inr (0, oA aU ac st)), (aU 0, .inl (cZ, 18, .inl (zA (upz em k (decide (True)))))), (aU 1, .inl (cI, 18, .inl (nA fs))), (aU 2, .inl (cI, 18, .inl (nA lz))), (aU 3, .inl (cI, 10, .inl (nA fo))), (aU 4, .inl (cI, 3, .inl (nA re)))] := hD
      refine lv_aload_n (pc := 29) hx hb dX0_addConcatenation_29 rfl (lv_at hl 0 rfl) ?_
      refine va_get (pc := 30) (D := D) (ci := 0) (v := .ref (aU 1)) (C := RX0) (T := TX0) (N := 7) hx hb hts hinX0 hown hK hP 0 rfl rfl 1 (by decide) lk1 (fun _ h9 => h9) rfl dX0_addConcatenation_30 ?_
      refine lv_iload_n (pc := 33) hx hb dX0_addConcatenation_33 rfl (lv_at hl 1 rfl) ?_
      refine lv_aload_n (pc := 34) hx hb dX0_addConcatenation_34 rfl (lv_at hl 0 rfl) ?_
      refine va_get (pc := 35) (D := D) (ci := 0) (v := .ref (aU 0)) (C := RX0) (T := TX0) (N := 7) hx hb hts hinX0 hown hK hP 0 rfl rfl 0 (by decide) lk0 (fun _ h9 => h9) rfl dX0_addConcatenation_35 ?_
      refine lv_iload_n (pc := 38) hx hb dX0_addConcatenation_38 rfl (lv_at hl 2 rfl) ?_
      refine xa_zald (pc := 39) hx hb hK hP 1 2 rfl rfl (by omega) (by omega) dX0_addConcatenation_39 ?_
      refine W.eq (g2 := F0 mG 40 ls [.int (nI (pN (em (k + 1) = true))), .int (nI k), .ref (aU 1)]) (congrArg (fun zz => F0 mG 40 ls [.int zz, .int (nI k), .ref (aU 1)]) (by rw [upz_n _ (by omega)])) ?_
      refine xp_if_eq (pc := 40) (tgt := 59) hx hb dX0_addConcatenation_40 (by decide) (fun h => absurd c11 h) (fun _ => ?_)
      refine lv_aload_n (pc := 43) hx hb dX0_addConcatenation_43 rfl (lv_at hl 0 rfl) ?_
      refine va_get (pc := 44) (D := D) (ci := 0) (v := .ref (aU 1)) (C := RX0) (T := TX0) (N := 7) hx hb hts hinX0 hown hK hP 0 rfl rfl 1 (by decide) lk1 (fun _ h9 => h9) rfl dX0_addConcatenation_44 ?_
      refine lv_iload_n (pc := 47) hx hb dX0_addConcatenation_47 rfl (lv_at hl 2 rfl) ?_
      refine xa_iald (pc := 48) hx hb hK hP 2 0 rfl rfl (by omega) (by omega) dX0_addConcatenation_48 ?_
      refine lv_aload_n (pc := 49) hx hb dX0_addConcatenation_49 rfl (lv_at hl 0 rfl) ?_
      refine va_get (pc := 50) (D := D) (ci := 0) (v := .ref (aU 1)) (C := RX0) (T := TX0) (N := 7) hx hb hts hinX0 hown hK hP 0 rfl rfl 1 (by decide) lk1 (fun _ h9 => h9) rfl dX0_addConcatenation_50 ?_
      refine lv_iload_n (pc := 53) hx hb dX0_addConcatenation_53 rfl (lv_at hl 3 rfl) ?_
      refine xa_iald (pc := 54) hx hb hK hP 2 0 rfl rfl (by omega) (by omega) dX0_addConcatenation_54 ?_
      refine xn_ior (pc := 55) hx hb  dX0_addConcatenation_55 ?_
      refine lv_goto (pc := 56) (tgt := 65) hx hb dX0_addConcatenation_56 (by decide) ?_
      refine xa_iast (pc := 65) hx hb hK hP hD hS 2 0 rfl rfl (by omega) (by omega) dX0_addConcatenation_65 (fun H locs hP hD hS => ?_)
      have hP : va_P D vwCl [(hU, .inr (0, oA aU ac st)), (aU 0, .inl (cZ, 18, .inl (zA (upz em k (decide (True)))))), (aU 1, .inl (cI, 18, .inl (nA (up fs k ((fs (k + 1)) ||| (fs (en v (k + 1)))))))), (aU 2, .inl (cI, 18, .inl (nA lz))), (aU 3, .inl (cI, 10, .inl (nA fo))), (aU 4, .inl (cI, 3, .inl (nA re)))] H := hP
      have hD : va_D _ [(hU, .inr (0, oA aU ac st)), (aU 0, .inl (cZ, 18, .inl (zA (upz em k (decide (True)))))), (aU 1, .inl (cI, 18, .inl (nA (up fs k ((fs (k + 1)) ||| (fs (en v (k + 1)))))))), (aU 2, .inl (cI, 18, .inl (nA lz))), (aU 3, .inl (cI, 10, .inl (nA fo))), (aU 4, .inl (cI, 3, .inl (nA re)))] := hD
      refine lv_aload_n (pc := 66) hx hb dX0_addConcatenation_66 rfl (lv_at hl 0 rfl) ?_
      refine va_get (pc := 67) (D := D) (ci := 0) (v := .ref (aU 2)) (C := RX0) (T := TX0) (N := 7) hx hb hts hinX0 hown hK hP 0 rfl rfl 2 (by decide) lk2 (fun _ h9 => h9) rfl dX0_addConcatenation_67 ?_
      refine lv_iload_n (pc := 70) hx hb dX0_addConcatenation_70 rfl (lv_at hl 1 rfl) ?_
      refine lv_aload_n (pc := 71) hx hb dX0_addConcatenation_71 rfl (lv_at hl 0 rfl) ?_
      refine va_get (pc := 72) (D := D) (ci := 0) (v := .ref (aU 0)) (C := RX0) (T := TX0) (N := 7) hx hb hts hinX0 hown hK hP 0 rfl rfl 0 (by decide) lk0 (fun _ h9 => h9) rfl dX0_addConcatenation_72 ?_
      refine lv_iload_n (pc := 75) hx hb dX0_addConcatenation_75 rfl (lv_at hl 3 rfl) ?_
      refine xa_zald (pc := 76) hx hb hK hP 1 2 rfl rfl (by omega) (by omega) dX0_addConcatenation_76 ?_
      refine W.eq (g2 := F0 mG 77 ls [.int (nI (pN (em (en v (k + 1)) = true))), .int (nI k), .ref (aU 2)]) (congrArg (fun zz => F0 mG 77 ls [.int zz, .int (nI k), .ref (aU 2)]) (by rw [upz_n _ (by omega)])) ?_
      refine xp_if_eq (pc := 77) (tgt := 96) hx hb dX0_addConcatenation_77 (by decide) (fun h => absurd c20 h) (fun _ => ?_)
      refine lv_aload_n (pc := 80) hx hb dX0_addConcatenation_80 rfl (lv_at hl 0 rfl) ?_
      refine va_get (pc := 81) (D := D) (ci := 0) (v := .ref (aU 2)) (C := RX0) (T := TX0) (N := 7) hx hb hts hinX0 hown hK hP 0 rfl rfl 2 (by decide) lk2 (fun _ h9 => h9) rfl dX0_addConcatenation_81 ?_
      refine lv_iload_n (pc := 84) hx hb dX0_addConcatenation_84 rfl (lv_at hl 2 rfl) ?_
      refine xa_iald (pc := 85) hx hb hK hP 3 0 rfl rfl (by omega) (by omega) dX0_addConcatenation_85 ?_
      refine lv_aload_n (pc := 86) hx hb dX0_addConcatenation_86 rfl (lv_at hl 0 rfl) ?_
      refine va_get (pc := 87) (D := D) (ci := 0) (v := .ref (aU 2)) (C := RX0) (T := TX0) (N := 7) hx hb hts hinX0 hown hK hP 0 rfl rfl 2 (by decide) lk2 (fun _ h9 => h9) rfl dX0_addConcatenation_87 ?_
      refine lv_iload_n (pc := 90) hx hb dX0_addConcatenation_90 rfl (lv_at hl 3 rfl) ?_
      refine xa_iald (pc := 91) hx hb hK hP 3 0 rfl rfl (by omega) (by omega) dX0_addConcatenation_91 ?_
      refine xn_ior (pc := 92) hx hb  dX0_addConcatenation_92 ?_
      refine lv_goto (pc := 93) (tgt := 102) hx hb dX0_addConcatenation_93 (by decide) ?_
      refine xa_iast (pc := 102) hx hb hK hP hD hS 3 0 rfl rfl (by omega) (by omega) dX0_addConcatenation_102 (fun H locs hP hD hS => ?_)
      have hP : va_P D vwCl [(hU, .inr (0, oA aU ac st)), (aU 0, .inl (cZ, 18, .inl (zA (upz em k (decide (True)))))), (aU 1, .inl (cI, 18, .inl (nA (up fs k ((fs (k + 1)) ||| (fs (en v (k + 1)))))))), (aU 2, .inl (cI, 18, .inl (nA (up lz k ((lz (k + 1)) ||| (lz (en v (k + 1)))))))), (aU 3, .inl (cI, 10, .inl (nA fo))), (aU 4, .inl (cI, 3, .inl (nA re)))] H := hP
      have hD : va_D _ [(hU, .inr (0, oA aU ac st)), (aU 0, .inl (cZ, 18, .inl (zA (upz em k (decide (True)))))), (aU 1, .inl (cI, 18, .inl (nA (up fs k ((fs (k + 1)) ||| (fs (en v (k + 1)))))))), (aU 2, .inl (cI, 18, .inl (nA (up lz k ((lz (k + 1)) ||| (lz (en v (k + 1)))))))), (aU 3, .inl (cI, 10, .inl (nA fo))), (aU 4, .inl (cI, 3, .inl (nA re)))] := hD
      refine lv_aload_n (pc := 103) hx hb dX0_addConcatenation_103 rfl (lv_at hl 0 rfl) ?_
      refine lv_aload_n (pc := 104) hx hb dX0_addConcatenation_104 rfl (lv_at hl 0 rfl) ?_
      refine va_get (pc := 105) (D := D) (ci := 0) (v := .ref (aU 2)) (C := RX0) (T := TX0) (N := 7) hx hb hts hinX0 hown hK hP 0 rfl rfl 2 (by decide) lk2 (fun _ h9 => h9) rfl dX0_addConcatenation_105 ?_
      refine lv_iload_n (pc := 108) hx hb dX0_addConcatenation_108 rfl (lv_at hl 2 rfl) ?_
      refine xa_iald (pc := 109) hx hb hK hP 3 0 rfl rfl (by omega) (by omega) dX0_addConcatenation_109 ?_
      refine lv_aload_n (pc := 110) hx hb dX0_addConcatenation_110 rfl (lv_at hl 0 rfl) ?_
      refine va_get (pc := 111) (D := D) (ci := 0) (v := .ref (aU 1)) (C := RX0) (T := TX0) (N := 7) hx hb hts hinX0 hown hK hP 0 rfl rfl 1 (by decide) lk1 (fun _ h9 => h9) rfl dX0_addConcatenation_111 ?_
      refine lv_iload_n (pc := 114) hx hb dX0_addConcatenation_114 rfl (lv_at hl 3 rfl) ?_
      refine xa_iald (pc := 115) hx hb hK hP 2 0 rfl rfl (by omega) (by omega) dX0_addConcatenation_115 ?_
      refine W.eq (g2 := F0 mG 116 ls [.int (nI (2 * fi (dg v) (en v) (dc v) (en v (k + 1)))), .int (nI ((up lz k ((lz (k + 1)) ||| (lz (en v (k + 1))))) (k + 1))), .ref hU]) (congrArg (fun zz => F0 mG 116 ls [.int (nI zz), .int (nI ((up lz k ((lz (k + 1)) ||| (lz (en v (k + 1))))) (k + 1))), .ref hU]) (by rw [up_n _ (by omega)]; exact hb1.2.1)) ?_
      refine W.eq (g2 := F0 mG 116 ls [.int (nI (2 * fi (dg v) (en v) (dc v) (en v (k + 1)))), .int (nI (2 * la (dg v) (en v) (dc v) (k + 1))), .ref hU]) (congrArg (fun zz => F0 mG 116 ls [.int (nI (2 * fi (dg v) (en v) (dc v) (en v (k + 1)))), .int (nI zz), .ref hU]) (by rw [up_n _ (by omega)]; exact ha1.2.2)) ?_
      refine xm_callv (pc := 116) (wc := [(hU, .inr (0, oA aU ac st)), (aU 0, .inl (cZ, 18, .inl (zA ((upz em k (decide (True))))))), (aU 1, .inl (cI, 18, .inl (nA ((up fs k ((fs (k + 1)) ||| (fs (en v (k + 1))))))))), (aU 2, .inl (cI, 18, .inl (nA ((up lz k ((lz (k + 1)) ||| (lz (en v (k + 1))))))))), (aU 3, .inl (cI, 10, .inl (nA fo))), (aU 4, .inl (cI, 3, .inl (nA re)))]) (wr := []) (va_runV (As := [.int (nI (2 * la (dg v) (en v) (dc v) (k + 1))), .int (nI (2 * fi (dg v) (en v) (dc v) (en v (k + 1))))]) (rest := []) ⟨hx, hb, hml, hown, hts⟩ (c_X0_link l D cI cL cZ H.size hU aU (upz em k (decide (True))) (up fs k ((fs (k + 1)) ||| (fs (en v (k + 1))))) (up lz k ((lz (k + 1)) ||| (lz (en v (k + 1))))) fo re ac st (2 * la (dg v) (en v) (dc v) (k + 1)) (2 * fi (dg v) (en v) (dc v) (en v (k + 1))) hst.2 (AI_lt hv hai (by omega) h1.1)) (cwV 2 hts gX0_addConcatenation_X0_link rfl rfl rfl (by decide +kernel) ⟨Nat.le_of_ble_eq_true rfl, Nat.le_of_ble_eq_true rfl⟩) (mP_V (wc := [(hU, .inr (0, oA aU ac st)), (aU 0, .inl (cZ, 18, .inl (zA ((upz em k (decide (True))))))), (aU 1, .inl (cI, 18, .inl (nA ((up fs k ((fs (k + 1)) ||| (fs (en v (k + 1))))))))), (aU 2, .inl (cI, 18, .inl (nA ((up lz k ((lz (k + 1)) ||| (lz (en v (k + 1))))))))), (aU 3, .inl (cI, 10, .inl (nA fo))), (aU 4, .inl (cI, 3, .inl (nA re)))]) (ci := 0) (q0 := 0) hK hP hD [0, 1, 2, 3, 4, 5] (by decide) rfl rfl rfl) rfl rfl hl.1 rfl (lv_room (Nat.le_of_ble_eq_true rfl)) dX0_addConcatenation_116 ⟨Nat.zero_le _, Nat.zero_le _⟩) hP hD hS hA [0, 1, 2, 3, 4, 5] [] rfl rfl (by decide) (by decide) (fun u H locs hw hP hD hS => ?_)
      obtain ⟨fo2_116, rfl⟩ : ∃ z, z = u := ⟨_, rfl⟩
      have hP : va_P D vwCl [(hU, .inr (0, oA aU ac st)), (aU 0, .inl (cZ, 18, .inl (zA ((upz em k (decide (True))))))), (aU 1, .inl (cI, 18, .inl (nA ((up fs k ((fs (k + 1)) ||| (fs (en v (k + 1))))))))), (aU 2, .inl (cI, 18, .inl (nA ((up lz k ((lz (k + 1)) ||| (lz (en v (k + 1))))))))), (aU 3, .inl (cI, 10, .inl (nA fo2_116))), (aU 4, .inl (cI, 3, .inl (nA re)))] H := hP
      have hD : va_D _ [(hU, .inr (0, oA aU ac st)), (aU 0, .inl (cZ, 18, .inl (zA ((upz em k (decide (True))))))), (aU 1, .inl (cI, 18, .inl (nA ((up fs k ((fs (k + 1)) ||| (fs (en v (k + 1))))))))), (aU 2, .inl (cI, 18, .inl (nA ((up lz k ((lz (k + 1)) ||| (lz (en v (k + 1))))))))), (aU 3, .inl (cI, 10, .inl (nA fo2_116))), (aU 4, .inl (cI, 3, .inl (nA re)))] := hD
      try dsimp only at hw
      have hw116 := hw
      have hP9 : va_P D vwCl [(hU, .inr (0, oA aU ac st)), (aU 0, .inl (cZ, 18, .inl (zA (((upz em k (decide (True)))))))), (aU 1, .inl (cI, 18, .inl (nA (((up fs k ((fs (k + 1)) ||| (fs (en v (k + 1)))))))))), (aU 2, .inl (cI, 18, .inl (nA (((up lz k ((lz (k + 1)) ||| (lz (en v (k + 1)))))))))), (aU 3, .inl (cI, 10, .inl (nA fo2_116))), (aU 4, .inl (cI, 3, .inl (nA re)))] H := hP.sub [0, 1, 2, 3, 4, 5] rfl
      have hD9 : va_D _ [(hU, .inr (0, oA aU ac st)), (aU 0, .inl (cZ, 18, .inl (zA (((upz em k (decide (True)))))))), (aU 1, .inl (cI, 18, .inl (nA (((up fs k ((fs (k + 1)) ||| (fs (en v (k + 1)))))))))), (aU 2, .inl (cI, 18, .inl (nA (((up lz k ((lz (k + 1)) ||| (lz (en v (k + 1)))))))))), (aU 3, .inl (cI, 10, .inl (nA fo2_116))), (aU 4, .inl (cI, 3, .inl (nA re)))] := hD.sub [0, 1, 2, 3, 4, 5] (by decide) rfl
      exact W.vret (pc := 119) hx hb hr (fun t ht hW => ⟨⟨((upz em k (decide (True))), (up fs k ((fs (k + 1)) ||| (fs (en v (k + 1))))), (up lz k ((lz (k + 1)) ||| (lz (en v (k + 1))))), fo2_116, re, st), rfl, (AI_cc hv hk h7 rfl hai (by first | (rw [c11, c20]; rfl) | (rw [Bool.eq_false_iff.mpr c11]; rfl) | (rw [Bool.eq_false_iff.mpr c20, Bool.and_false]; rfl)) (by first | exact (if_pos c11).symm | exact (if_neg c11).symm) (by first | exact (if_pos c20).symm | exact (if_neg c20).symm | exact (if_pos c77).symm | exact (if_neg c77).symm) hw116), by rw [ht]; exact hP9, va_K.moved hW.alike hK, hD9⟩, hS.F ht⟩) hS.2.2 dX0_addConcatenation_119
