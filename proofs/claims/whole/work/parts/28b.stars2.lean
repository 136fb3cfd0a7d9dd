/-! star height: the reference -/
set_option maxHeartbeats 4000000 in
set_option maxRecDepth 100000 in
theorem c_X8_starHeight (l : Launch) (D : va_G) (cI cL cZ : ClassId) (sz : Nat) (hm : Nat) (am : Nat → Nat) (n : Nat) (pos : Nat) (cmp : Nat) (que : Nat) (dsz : Nat) (mad : Nat) (cur : Nat) (stp : Nat) (met : Nat) (bst : Nat) (dgt : Nat → Nat) (sta : Nat → Nat) (x : Int64)  : Met l yX8_starHeight wsX8_starHeight { frames := 2, cells := 0, slots := 0, locals := 48 } (mP D (tyL cI cL cZ) [(hm, .inr (6, oM am n pos cmp que dsz mad cur stp met bst)), (am 1, .inl (cI, 18, .inl (nA dgt))), (am 2, .inl (cI, 18, .inl (nA sta)))] sz [.ref hm, .long x]) (va_Qi (fun (r : Int32) (u : Nat × (Nat → Nat) × (Nat → Nat)) => r = (aSH x) ∧ (True)) (fun (u : Nat × (Nat → Nat) × (Nat → Nat)) (t : State) => mB D (tyL cI cL cZ) (va_A [(hm, .inr (6, oM am n pos cmp que dsz mad cur stp met bst)), (am 1, .inl (cI, 18, .inl (nA dgt))), (am 2, .inl (cI, 18, .inl (nA sta)))] sz) [(hm, .inr (6, oM am (u.1) pos cmp que dsz mad cur stp met bst)), (am 1, .inl (cI, 18, .inl (nA (u.2.1)))), (am 2, .inl (cI, 18, .inl (nA (u.2.2))))] t) (va_A [(hm, .inr (6, oM am n pos cmp que dsz mad cur stp met bst)), (am 1, .inl (cI, 18, .inl (nA dgt))), (am 2, .inl (cI, 18, .inl (nA sta)))] sz)) 0 0 (va_A [(hm, .inr (6, oM am n pos cmp que dsz mad cur stp met bst)), (am 1, .inl (cI, 18, .inl (nA dgt))), (am 2, .inl (cI, 18, .inl (nA sta)))] sz) := by
  refine Met.ofW (cc := cX8_starHeight) (maxL := 5) (ret := (some .int)) (by decide) rfl ?_
  intro pG eG s mG args below meth cG s₁ B hml hpre9
  obtain ⟨rfl, hsz, hP, hK, hD0⟩ := hpre9
  have hx := B.exec
  have hb := B.bytes
  have hr := B.returns
  have hts := atoms_spec (ws := wsX8_starHeight) B.pre
  have hown : s.vm.findClass RX8 = some mG.cls := findClass_of_methodNamed B.named
  have hlocks := B.notSynchronized
  subst hsz
  have hD := hD0.self (sz := s.heap.size)
  have hA : ∀ q : Nat, s.heap.size ≤ q → va_A [(hm, .inr (6, oM am n pos cmp que dsz mad cur stp met bst)), (am 1, .inl (cI, 18, .inl (nA dgt))), (am 2, .inl (cI, 18, .inl (nA sta)))] s.heap.size q := fun q h => Or.inr h
  have hS : va_S (va_A [(hm, .inr (6, oM am n pos cmp que dsz mad cur stp met bst)), (am 1, .inl (cI, 18, .inl (nA dgt))), (am 2, .inl (cI, 18, .inl (nA sta)))] s.heap.size) s.heap s.heap [] := va_S.rf
  have hinX8 : ∀ w ∈ wsX80, w ∈ wsX8_starHeight := fun w HH => (List.mem_cons_of_mem _ (List.mem_append_right _ HH))
  have lk0 : (Cond.fieldLink RX8 78 "RegexSimplifierModel" "n" "I").before _ s = true := hts _ (List.mem_cons_of_mem _ (List.mem_append_left _ (List.mem_of_getElem? (i := 0) rfl)))
  have lk1 : (Cond.fieldLink RX8 13 "RegexSimplifierModel" "stack" "[I").before _ s = true := hts _ (List.mem_cons_of_mem _ (List.mem_append_left _ (List.mem_of_getElem? (i := 2) rfl)))
  have lk2 : (Cond.fieldLink RX8 7 "RegexSimplifierModel" "digit" "[I").before _ s = true := hts _ (List.mem_cons_of_mem _ (List.mem_append_left _ (List.mem_of_getElem? (i := 1) rfl)))
  have hl := lv_entry ([.ref hm, .long x]) (n := 5) (Nat.le_of_ble_eq_true rfl)
  rw [lg_entry_eq]
  generalize (lg_sl ([.ref hm, .long x]) ++ List.replicate (5 - (lg_sl ([.ref hm, .long x])).length) Slot.unset).toArray = ls at hl ⊢
  have hl : lv_has ls 5 [(0, .ref hm), (1, .long x)] := hl
  refine lv_aload_n (pc := 0) hx hb dX8_starHeight_0 rfl (lv_at hl 0 rfl) ?_
  refine lv_lload_n (pc := 1) hx hb dX8_starHeight_1 rfl (lv_at hl 1 rfl) ?_
  refine xm_calli (pc := 2) (wc := [(hm, .inr (6, oM am n pos cmp que dsz mad cur stp met bst)), (am 1, .inl (cI, 18, .inl (nA dgt)))]) (wr := [(am 2, .inl (cI, 18, .inl (nA sta)))]) (va_runV (As := [.long x]) (rest := []) ⟨hx, hb, hml, hown, hts⟩ (c_X8_parses l D cI cL cZ s.heap.size hm am n pos cmp que dsz mad cur stp met bst dgt x) (cwV 1 hts gX8_starHeight_X8_parses rfl rfl rfl (by decide +kernel) ⟨Nat.le_of_ble_eq_true rfl, Nat.le_of_ble_eq_true rfl⟩) (mP_V (wc := [(hm, .inr (6, oM am n pos cmp que dsz mad cur stp met bst)), (am 1, .inl (cI, 18, .inl (nA dgt)))]) (ci := 6) (q0 := 0) hK hP hD [0, 1] (by decide) rfl rfl rfl) rfl rfl hl.1 rfl (lv_room (Nat.le_of_ble_eq_true rfl)) dX8_starHeight_2 ⟨Nat.zero_le _, Nat.zero_le _⟩) hP hD hS hA [0, 1] [2] rfl rfl (by decide) (by decide) (fun r9 u H locs hw hP hD hS => ?_)
  obtain ⟨n2_2, dgt2_2⟩ := u
  have hP : va_P D vwCl [(am 2, .inl (cI, 18, .inl (nA sta))), (hm, .inr (6, oM am n2_2 pos cmp que dsz mad cur stp met bst)), (am 1, .inl (cI, 18, .inl (nA dgt2_2)))] H := hP
  have hD : va_D _ [(am 2, .inl (cI, 18, .inl (nA sta))), (hm, .inr (6, oM am n2_2 pos cmp que dsz mad cur stp met bst)), (am 1, .inl (cI, 18, .inl (nA dgt2_2)))] := hD
  try dsimp only at hw
  obtain ⟨hrr, ⟨hn19, hmd0⟩⟩ := hw
  rw [hrr]
  refine xp_if_ne (pc := 5) (tgt := 10) hx hb dX8_starHeight_5 (by decide) (fun c5 => ?_) (fun c5 => ?_)
  · have hmd := hmd0 c5
    have tv := TV_M c5 hmd
    have hn18 := tv.n18
    have hnv := hmd.1
    have hn0 := tv.n0
    refine lv_iconst (pc := 10) (v := (nI (0))) hx hb dX8_starHeight_10 (by decide) ?_
    refine lv_istore_n (pc := 11) (lv' := [(3, .int (nI 0)), (0, .ref hm), (1, .long x)]) hx hb dX8_starHeight_11 rfl hl (by decide) rfl (fun ls hl => ?_)
    refine lv_aload_n (pc := 12) hx hb dX8_starHeight_12 rfl (lv_at hl 1 rfl) ?_
    refine va_get (pc := 13) (D := D) (ci := 6) (v := .int (nI n2_2)) (C := RX8) (T := TX8) (N := 30) hx hb hts hinX8 hown hK hP 1 rfl rfl 0 (by decide) lk0 (fun _ h9 => h9) rfl dX8_starHeight_13 ?_
    refine lv_iconst (pc := 16) (v := (nI (1))) hx hb dX8_starHeight_16 (by decide) ?_
    refine xn_isub (pc := 17) hx hb (by omega) dX8_starHeight_17 ?_
    refine lv_istore (pc := 18) (lv' := [(4, .int (nI (n2_2 - 1))), (3, .int (nI 0)), (0, .ref hm), (1, .long x)]) hx hb dX8_starHeight_18 hl (by decide) rfl (fun ls hl => ?_)
    have loop20 : ∀ (fuel : Nat) (k : Nat) (o : Nat) (f : Nat → Nat) (ls : Array Slot) (H : Heap) (locs : List Loc), k < fuel → (k ≤ dc (xv x)) → (gc (en (xv x)) (dc (xv x)) (dc (xv x)) o k) → (sk (en (xv x)) (hT dgt2_2 (en (xv x)) (dc (xv x))) f o k) → lv_has ls 5 [(0, .ref hm), (3, .int (nI o)), (4, .int (nI k - 1))] → va_P D vwCl [(am 2, .inl (cI, 18, .inl (nA f))), (hm, .inr (6, oM am n2_2 pos cmp que dsz mad cur stp met bst)), (am 1, .inl (cI, 18, .inl (nA dgt2_2)))] H → va_D (va_A [(hm, .inr (6, oM am n pos cmp que dsz mad cur stp met bst)), (am 1, .inl (cI, 18, .inl (nA dgt))), (am 2, .inl (cI, 18, .inl (nA sta)))] s.heap.size) [(am 2, .inl (cI, 18, .inl (nA f))), (hm, .inr (6, oM am n2_2 pos cmp que dsz mad cur stp met bst)), (am 1, .inl (cI, 18, .inl (nA dgt2_2)))] → va_S (va_A [(hm, .inr (6, oM am n pos cmp que dsz mad cur stp met bst)), (am 1, .inl (cI, 18, .inl (nA dgt))), (am 2, .inl (cI, 18, .inl (nA sta)))] s.heap.size) s.heap H locs → W pG l eG (headSpec wsX8_starHeight { frames := 2, cells := 0, slots := 0, locals := 48 }).room s mG [.ref hm, .long x].toArray below meth cG H locs 0 0 (MQ below (va_Qi (fun (r : Int32) (u : Nat × (Nat → Nat) × (Nat → Nat)) => r = (aSH x) ∧ (True)) (fun (u : Nat × (Nat → Nat) × (Nat → Nat)) (t : State) => mB D (tyL cI cL cZ) (va_A [(hm, .inr (6, oM am n pos cmp que dsz mad cur stp met bst)), (am 1, .inl (cI, 18, .inl (nA dgt))), (am 2, .inl (cI, 18, .inl (nA sta)))] s.heap.size) [(hm, .inr (6, oM am (u.1) pos cmp que dsz mad cur stp met bst)), (am 1, .inl (cI, 18, .inl (nA (u.2.1)))), (am 2, .inl (cI, 18, .inl (nA (u.2.2))))] t) (va_A [(hm, .inr (6, oM am n pos cmp que dsz mad cur stp met bst)), (am 1, .inl (cI, 18, .inl (nA dgt))), (am 2, .inl (cI, 18, .inl (nA sta)))] s.heap.size)) [.ref hm, .long x].toArray s 0 0 (va_A [(hm, .inr (6, oM am n pos cmp que dsz mad cur stp met bst)), (am 1, .inl (cI, 18, .inl (nA dgt))), (am 2, .inl (cI, 18, .inl (nA sta)))] s.heap.size)) (F0 mG 20 ls []) := by
      intro fuel
      induction fuel with
      | zero => intro k o f ls H locs hmeas i1 i2 i3 hl hP hD hS; exact absurd hmeas (Nat.not_lt_zero _)
      | succ fuel ih20 =>
        intro k o f ls H locs hmeas i1 i2 i3 hl hP hD hS
        refine lv_iload (pc := 20) hx hb dX8_starHeight_20 (lv_at hl 2 rfl) ?_
        refine xm_if_lt (pc := 22) (tgt := 128) hx hb (by omega) dX8_starHeight_22 (by decide) (fun c22 => ?_) (fun c22 => ?_)
        · subst c22
          have ho := gc_end tv i2
          refine lv_aload_n (pc := 128) hx hb dX8_starHeight_128 rfl (lv_at hl 0 rfl) ?_
          refine va_get (pc := 129) (D := D) (ci := 6) (v := .ref (am 2)) (C := RX8) (T := TX8) (N := 30) hx hb hts hinX8 hown hK hP 1 rfl rfl 2 (by decide) lk1 (fun _ h9 => h9) rfl dX8_starHeight_129 ?_
          refine lv_iconst (pc := 132) (v := (nI (0))) hx hb dX8_starHeight_132 (by decide) ?_
          refine xa_iald (pc := 133) hx hb hK hP 0 0 rfl rfl (by omega) (by omega) dX8_starHeight_133 ?_
          have hP9 : va_P D vwCl [(hm, .inr (6, oM am n2_2 pos cmp que dsz mad cur stp met bst)), (am 1, .inl (cI, 18, .inl (nA dgt2_2))), (am 2, .inl (cI, 18, .inl (nA f)))] H := hP.sub [1, 2, 0] rfl
          have hD9 : va_D _ [(hm, .inr (6, oM am n2_2 pos cmp que dsz mad cur stp met bst)), (am 1, .inl (cI, 18, .inl (nA dgt2_2))), (am 2, .inl (cI, 18, .inl (nA f)))] := hD.sub [1, 2, 0] (by decide) rfl
          exact W.iret (pc := 134) (v := (nI (f 0))) hx hb hr (fun t ht hW => ⟨⟨_, (n2_2, dgt2_2, f), rfl, ⟨(hT_root c5 hmd i3 ho), trivial⟩, by rw [ht]; exact hP9, va_K.moved hW.alike hK, hD9⟩, hS.F ht⟩) hS.2.2 dX8_starHeight_134
        · have hl : lv_has ls 5 [(0, .ref hm), (3, .int (nI o)), (4, .int (nI (k - 1)))] := by have hq9 : (nI k - 1) = (nI (k - 1)) := (nI_dec1 c22); first | (rw [← hq9]; exact hl) | (rw [hq9] at hl; exact hl)
          have hk : k - 1 < dc (xv x) := by omega
          have hq := tv.q hk
          have hle := gc_le (fun q hq => (tv.q hq).2.2.1) o k i2
          have e1 : k = k - 1 + 1 := by omega
          have j2 : gc (en (xv x)) (dc (xv x)) (dc (xv x)) o (k - 1 + 1) := by rw [← e1]; exact i2
          have j3 : sk (en (xv x)) (hT dgt2_2 (en (xv x)) (dc (xv x))) f o (k - 1 + 1) := by rw [← e1]; exact i3
          refine lv_aload_n (pc := 25) hx hb dX8_starHeight_25 rfl (lv_at hl 0 rfl) ?_
          refine va_get (pc := 26) (D := D) (ci := 6) (v := .ref (am 1)) (C := RX8) (T := TX8) (N := 30) hx hb hts hinX8 hown hK hP 1 rfl rfl 1 (by decide) lk2 (fun _ h9 => h9) rfl dX8_starHeight_26 ?_
          refine lv_iload (pc := 29) hx hb dX8_starHeight_29 (lv_at hl 2 rfl) ?_
          refine xa_iald (pc := 31) hx hb hK hP 2 0 rfl rfl (by omega) (by omega) dX8_starHeight_31 ?_
          refine lv_bipush (pc := 32) (v := (nI (6))) hx hb dX8_starHeight_32 (by decide) ?_
          refine xn_icmp_ge (pc := 34) (tgt := 50) hx hb (by omega) (by omega) dX8_starHeight_34 (by decide) (fun c34 => ?_) (fun c34 => ?_)
          · have d6 : ¬ dgt2_2 (k - 1) < 6 := by omega
            refine lv_aload_n (pc := 50) hx hb dX8_starHeight_50 rfl (lv_at hl 0 rfl) ?_
            refine va_get (pc := 51) (D := D) (ci := 6) (v := .ref (am 1)) (C := RX8) (T := TX8) (N := 30) hx hb hts hinX8 hown hK hP 1 rfl rfl 1 (by decide) lk2 (fun _ h9 => h9) rfl dX8_starHeight_51 ?_
            refine lv_iload (pc := 54) hx hb dX8_starHeight_54 (lv_at hl 2 rfl) ?_
            refine xa_iald (pc := 56) hx hb hK hP 2 0 rfl rfl (by omega) (by omega) dX8_starHeight_56 ?_
            refine lv_bipush (pc := 57) (v := (nI (8))) hx hb dX8_starHeight_57 (by decide) ?_
            refine xn_icmp_ne (pc := 59) (tgt := 77) hx hb (by omega) (by omega) dX8_starHeight_59 (by decide) (fun c59 => ?_) (fun c59 => ?_)
            · have d8 : ¬ dgt2_2 (k - 1) = 8 := by omega
              have hgs := gs_two tv hk d6 d8 j2
              have hst := sk_top (by omega) j3
              have hst2 := sk_top (by omega) hst.2
              have h67 := (tv.2.2.2 _ hk).2.2.2.2.2.2 (by omega)
              have hb1 : f (o - 1) ≤ 18 := by rw [hst.1]; exact Nat.le_trans (hT_le tv h67.1) hn18
              have hb2 : f (o - 1 - 1) ≤ 18 := by rw [hst2.1]; exact Nat.le_trans (hT_le tv h67.2.1) hn18
              refine lv_iinc (pc := 77) (v := (nI (o - 1))) (lv' := [(3, .int (nI (o - 1))), (0, .ref hm), (4, .int (nI (k - 1)))]) hx hb dX8_starHeight_77 hl (k := 1) rfl (nI_decr (by omega)) (by decide) rfl (fun ls hl => ?_)
              refine lv_aload_n (pc := 80) hx hb dX8_starHeight_80 rfl (lv_at hl 1 rfl) ?_
              refine va_get (pc := 81) (D := D) (ci := 6) (v := .ref (am 2)) (C := RX8) (T := TX8) (N := 30) hx hb hts hinX8 hown hK hP 1 rfl rfl 2 (by decide) lk1 (fun _ h9 => h9) rfl dX8_starHeight_81 ?_
              refine lv_iload_n (pc := 84) hx hb dX8_starHeight_84 rfl (lv_at hl 0 rfl) ?_
              refine lv_iconst (pc := 85) (v := (nI (1))) hx hb dX8_starHeight_85 (by decide) ?_
              refine xn_isub (pc := 86) hx hb (by omega) dX8_starHeight_86 ?_
              refine lv_aload_n (pc := 87) hx hb dX8_starHeight_87 rfl (lv_at hl 1 rfl) ?_
              refine va_get (pc := 88) (D := D) (ci := 6) (v := .ref (am 2)) (C := RX8) (T := TX8) (N := 30) hx hb hts hinX8 hown hK hP 1 rfl rfl 2 (by decide) lk1 (fun _ h9 => h9) rfl dX8_starHeight_88 ?_
              refine lv_iload_n (pc := 91) hx hb dX8_starHeight_91 rfl (lv_at hl 0 rfl) ?_
              refine lv_iconst (pc := 92) (v := (nI (1))) hx hb dX8_starHeight_92 (by decide) ?_
              refine xn_isub (pc := 93) hx hb (by omega) dX8_starHeight_93 ?_
              refine xa_iald (pc := 94) hx hb hK hP 0 0 rfl rfl (by omega) (by omega) dX8_starHeight_94 ?_
              refine lv_aload_n (pc := 95) hx hb dX8_starHeight_95 rfl (lv_at hl 1 rfl) ?_
              refine va_get (pc := 96) (D := D) (ci := 6) (v := .ref (am 2)) (C := RX8) (T := TX8) (N := 30) hx hb hts hinX8 hown hK hP 1 rfl rfl 2 (by decide) lk1 (fun _ h9 => h9) rfl dX8_starHeight_96 ?_
              refine lv_iload_n (pc := 99) hx hb dX8_starHeight_99 rfl (lv_at hl 0 rfl) ?_
              refine xa_iald (pc := 100) hx hb hK hP 0 0 rfl rfl (by omega) (by omega) dX8_starHeight_100 ?_
              refine xn_icmp_le (pc := 101) (tgt := 115) hx hb (by omega) (by omega) dX8_starHeight_101 (by decide) (fun c101 => ?_) (fun c101 => ?_)
              · refine lv_aload_n (pc := 115) hx hb dX8_starHeight_115 rfl (lv_at hl 1 rfl) ?_
                refine va_get (pc := 116) (D := D) (ci := 6) (v := .ref (am 2)) (C := RX8) (T := TX8) (N := 30) hx hb hts hinX8 hown hK hP 1 rfl rfl 2 (by decide) lk1 (fun _ h9 => h9) rfl dX8_starHeight_116 ?_
                refine lv_iload_n (pc := 119) hx hb dX8_starHeight_119 rfl (lv_at hl 0 rfl) ?_
                refine xa_iald (pc := 120) hx hb hK hP 0 0 rfl rfl (by omega) (by omega) dX8_starHeight_120 ?_
                refine xa_iast (pc := 121) hx hb hK hP hD hS 0 0 rfl rfl (by omega) (by omega) dX8_starHeight_121 (fun H locs hP hD hS => ?_)
                have hP : va_P D vwCl [(am 2, .inl (cI, 18, .inl (nA (up f ((o - 1) - 1) (f (o - 1)))))), (hm, .inr (6, oM am n2_2 pos cmp que dsz mad cur stp met bst)), (am 1, .inl (cI, 18, .inl (nA dgt2_2)))] H := hP
                have hD : va_D _ [(am 2, .inl (cI, 18, .inl (nA (up f ((o - 1) - 1) (f (o - 1)))))), (hm, .inr (6, oM am n2_2 pos cmp que dsz mad cur stp met bst)), (am 1, .inl (cI, 18, .inl (nA dgt2_2)))] := hD
                refine lv_iinc (pc := 122) (v := (nI (k - 1) - 1)) (lv' := [(4, .int (nI (k - 1) - 1)), (3, .int (nI (o - 1))), (0, .ref hm)]) hx hb dX8_starHeight_122 hl (k := 2) rfl (nI_decm _) (by decide) rfl (fun ls hl => ?_)
                refine lv_goto (pc := 125) (tgt := 20) hx hb dX8_starHeight_125 (by decide) ?_
                exact ih20 (k - 1) (o - 1) (up f ((o - 1) - 1) (f (o - 1))) ls _ _ (by omega) (by omega) (by first | exact hgs.2 | exact hgs.2.2) (by first | exact sk_push (fun j hj => up_n _ (by omega)) (by rw [up_s]; exact hT_leaf tv hk d6) (by rw [hgs.1]; exact j3) | exact sk_set hgs.1 (fun j hj => up_n _ (by omega)) (by rw [up_s]; exact hT_star tv hk d8 hst.1) (by rw [hgs.2.1]; exact hst.2) | exact sk_set (by omega) (fun j hj => up_n _ (by omega)) (by rw [up_s]; exact (hT_two tv hk d6 d8 hst.1 hst2.1).1 (by omega)) (by rw [hgs.2.1]; exact hst2.2) | exact sk_set (by omega) (fun j hj => up_n _ (by omega)) (by rw [up_s]; exact (hT_two tv hk d6 d8 hst.1 hst2.1).2 (by omega)) (by rw [hgs.2.1]; exact hst2.2)) (lv_sub hl [2, 1, 0] rfl) (hP.sub [0, 1, 2] rfl) (hD.sub [0, 1, 2] (by decide) rfl) hS
              · refine lv_aload_n (pc := 104) hx hb dX8_starHeight_104 rfl (lv_at hl 1 rfl) ?_
                refine va_get (pc := 105) (D := D) (ci := 6) (v := .ref (am 2)) (C := RX8) (T := TX8) (N := 30) hx hb hts hinX8 hown hK hP 1 rfl rfl 2 (by decide) lk1 (fun _ h9 => h9) rfl dX8_starHeight_105 ?_
                refine lv_iload_n (pc := 108) hx hb dX8_starHeight_108 rfl (lv_at hl 0 rfl) ?_
                refine lv_iconst (pc := 109) (v := (nI (1))) hx hb dX8_starHeight_109 (by decide) ?_
                refine xn_isub (pc := 110) hx hb (by omega) dX8_starHeight_110 ?_
                refine xa_iald (pc := 111) hx hb hK hP 0 0 rfl rfl (by omega) (by omega) dX8_starHeight_111 ?_
                refine lv_goto (pc := 112) (tgt := 121) hx hb dX8_starHeight_112 (by decide) ?_
                refine xa_iast (pc := 121) hx hb hK hP hD hS 0 0 rfl rfl (by omega) (by omega) dX8_starHeight_121 (fun H locs hP hD hS => ?_)
                have hP : va_P D vwCl [(am 2, .inl (cI, 18, .inl (nA (up f ((o - 1) - 1) (f ((o - 1) - 1)))))), (hm, .inr (6, oM am n2_2 pos cmp que dsz mad cur stp met bst)), (am 1, .inl (cI, 18, .inl (nA dgt2_2)))] H := hP
                have hD : va_D _ [(am 2, .inl (cI, 18, .inl (nA (up f ((o - 1) - 1) (f ((o - 1) - 1)))))), (hm, .inr (6, oM am n2_2 pos cmp que dsz mad cur stp met bst)), (am 1, .inl (cI, 18, .inl (nA dgt2_2)))] := hD
                refine lv_iinc (pc := 122) (v := (nI (k - 1) - 1)) (lv' := [(4, .int (nI (k - 1) - 1)), (3, .int (nI (o - 1))), (0, .ref hm)]) hx hb dX8_starHeight_122 hl (k := 2) rfl (nI_decm _) (by decide) rfl (fun ls hl => ?_)
                refine lv_goto (pc := 125) (tgt := 20) hx hb dX8_starHeight_125 (by decide) ?_
                exact ih20 (k - 1) (o - 1) (up f ((o - 1) - 1) (f ((o - 1) - 1))) ls _ _ (by omega) (by omega) (by first | exact hgs.2 | exact hgs.2.2) (by first | exact sk_push (fun j hj => up_n _ (by omega)) (by rw [up_s]; exact hT_leaf tv hk d6) (by rw [hgs.1]; exact j3) | exact sk_set hgs.1 (fun j hj => up_n _ (by omega)) (by rw [up_s]; exact hT_star tv hk d8 hst.1) (by rw [hgs.2.1]; exact hst.2) | exact sk_set (by omega) (fun j hj => up_n _ (by omega)) (by rw [up_s]; exact (hT_two tv hk d6 d8 hst.1 hst2.1).1 (by omega)) (by rw [hgs.2.1]; exact hst2.2) | exact sk_set (by omega) (fun j hj => up_n _ (by omega)) (by rw [up_s]; exact (hT_two tv hk d6 d8 hst.1 hst2.1).2 (by omega)) (by rw [hgs.2.1]; exact hst2.2)) (lv_sub hl [2, 1, 0] rfl) (hP.sub [0, 1, 2] rfl) (hD.sub [0, 1, 2] (by decide) rfl) hS
            · have d8 : dgt2_2 (k - 1) = 8 := by omega
              have hgs := gs_star tv hk d8 j2
              have hst := sk_top hgs.1 j3
              refine lv_aload_n (pc := 62) hx hb dX8_starHeight_62 rfl (lv_at hl 0 rfl) ?_
              refine va_get (pc := 63) (D := D) (ci := 6) (v := .ref (am 2)) (C := RX8) (T := TX8) (N := 30) hx hb hts hinX8 hown hK hP 1 rfl rfl 2 (by decide) lk1 (fun _ h9 => h9) rfl dX8_starHeight_63 ?_
              refine lv_iload_n (pc := 66) hx hb dX8_starHeight_66 rfl (lv_at hl 1 rfl) ?_
              refine lv_iconst (pc := 67) (v := (nI (1))) hx hb dX8_starHeight_67 (by decide) ?_
              refine xn_isub (pc := 68) hx hb (by omega) dX8_starHeight_68 ?_
              refine lv_dup2_11 (pc := 69) hx hb dX8_starHeight_69 rfl rfl ?_
              refine xa_iald (pc := 70) hx hb hK hP 0 0 rfl rfl (by omega) (by omega) dX8_starHeight_70 ?_
              refine lv_iconst (pc := 71) (v := (nI (1))) hx hb dX8_starHeight_71 (by decide) ?_
              refine xn_iadd (pc := 72) hx hb  dX8_starHeight_72 ?_
              refine xa_iast (pc := 73) hx hb hK hP hD hS 0 0 rfl rfl (by omega) (by omega) dX8_starHeight_73 (fun H locs hP hD hS => ?_)
              have hP : va_P D vwCl [(am 2, .inl (cI, 18, .inl (nA (up f (o - 1) ((f (o - 1)) + 1))))), (hm, .inr (6, oM am n2_2 pos cmp que dsz mad cur stp met bst)), (am 1, .inl (cI, 18, .inl (nA dgt2_2)))] H := hP
              have hD : va_D _ [(am 2, .inl (cI, 18, .inl (nA (up f (o - 1) ((f (o - 1)) + 1))))), (hm, .inr (6, oM am n2_2 pos cmp que dsz mad cur stp met bst)), (am 1, .inl (cI, 18, .inl (nA dgt2_2)))] := hD
              refine lv_goto (pc := 74) (tgt := 122) hx hb dX8_starHeight_74 (by decide) ?_
              refine lv_iinc (pc := 122) (v := (nI (k - 1) - 1)) (lv' := [(4, .int (nI (k - 1) - 1)), (0, .ref hm), (3, .int (nI o))]) hx hb dX8_starHeight_122 hl (k := 2) rfl (nI_decm _) (by decide) rfl (fun ls hl => ?_)
              refine lv_goto (pc := 125) (tgt := 20) hx hb dX8_starHeight_125 (by decide) ?_
              exact ih20 (k - 1) o (up f (o - 1) ((f (o - 1)) + 1)) ls _ _ (by omega) (by omega) (by first | exact hgs.2 | exact hgs.2.2) (by first | exact sk_push (fun j hj => up_n _ (by omega)) (by rw [up_s]; exact hT_leaf tv hk d6) (by rw [hgs.1]; exact j3) | exact sk_set hgs.1 (fun j hj => up_n _ (by omega)) (by rw [up_s]; exact hT_star tv hk d8 hst.1) (by rw [hgs.2.1]; exact hst.2) | exact sk_set (by omega) (fun j hj => up_n _ (by omega)) (by rw [up_s]; exact (hT_two tv hk d6 d8 hst.1 hst2.1).1 (by omega)) (by rw [hgs.2.1]; exact hst2.2) | exact sk_set (by omega) (fun j hj => up_n _ (by omega)) (by rw [up_s]; exact (hT_two tv hk d6 d8 hst.1 hst2.1).2 (by omega)) (by rw [hgs.2.1]; exact hst2.2)) (lv_sub hl [1, 2, 0] rfl) (hP.sub [0, 1, 2] rfl) (hD.sub [0, 1, 2] (by decide) rfl) hS
          · have d6 : dgt2_2 (k - 1) < 6 := by omega
            have hgs := gs_leaf tv hk d6 j2
            refine lv_aload_n (pc := 37) hx hb dX8_starHeight_37 rfl (lv_at hl 0 rfl) ?_
            refine va_get (pc := 38) (D := D) (ci := 6) (v := .ref (am 2)) (C := RX8) (T := TX8) (N := 30) hx hb hts hinX8 hown hK hP 1 rfl rfl 2 (by decide) lk1 (fun _ h9 => h9) rfl dX8_starHeight_38 ?_
            refine lv_iload_n (pc := 41) hx hb dX8_starHeight_41 rfl (lv_at hl 1 rfl) ?_
            refine lv_iconst (pc := 42) (v := (nI (0))) hx hb dX8_starHeight_42 (by decide) ?_
            refine xa_iast (pc := 43) hx hb hK hP hD hS 0 0 rfl rfl (by omega) (by omega) dX8_starHeight_43 (fun H locs hP hD hS => ?_)
            have hP : va_P D vwCl [(am 2, .inl (cI, 18, .inl (nA (up f o 0)))), (hm, .inr (6, oM am n2_2 pos cmp que dsz mad cur stp met bst)), (am 1, .inl (cI, 18, .inl (nA dgt2_2)))] H := hP
            have hD : va_D _ [(am 2, .inl (cI, 18, .inl (nA (up f o 0)))), (hm, .inr (6, oM am n2_2 pos cmp que dsz mad cur stp met bst)), (am 1, .inl (cI, 18, .inl (nA dgt2_2)))] := hD
            refine lv_iinc (pc := 44) (v := (nI (o + 1))) (lv' := [(3, .int (nI (o + 1))), (0, .ref hm), (4, .int (nI (k - 1)))]) hx hb dX8_starHeight_44 hl (k := 1) rfl (nI_incr _) (by decide) rfl (fun ls hl => ?_)
            refine lv_goto (pc := 47) (tgt := 122) hx hb dX8_starHeight_47 (by decide) ?_
            refine lv_iinc (pc := 122) (v := (nI (k - 1) - 1)) (lv' := [(4, .int (nI (k - 1) - 1)), (3, .int (nI (o + 1))), (0, .ref hm)]) hx hb dX8_starHeight_122 hl (k := 2) rfl (nI_decm _) (by decide) rfl (fun ls hl => ?_)
            refine lv_goto (pc := 125) (tgt := 20) hx hb dX8_starHeight_125 (by decide) ?_
            exact ih20 (k - 1) (o + 1) (up f o 0) ls _ _ (by omega) (by omega) (by first | exact hgs.2 | exact hgs.2.2) (by first | exact sk_push (fun j hj => up_n _ (by omega)) (by rw [up_s]; exact hT_leaf tv hk d6) (by rw [hgs.1]; exact j3) | exact sk_set hgs.1 (fun j hj => up_n _ (by omega)) (by rw [up_s]; exact hT_star tv hk d8 hst.1) (by rw [hgs.2.1]; exact hst.2) | exact sk_set (by omega) (fun j hj => up_n _ (by omega)) (by rw [up_s]; exact (hT_two tv hk d6 d8 hst.1 hst2.1).1 (by omega)) (by rw [hgs.2.1]; exact hst2.2) | exact sk_set (by omega) (fun j hj => up_n _ (by omega)) (by rw [up_s]; exact (hT_two tv hk d6 d8 hst.1 hst2.1).2 (by omega)) (by rw [hgs.2.1]; exact hst2.2)) (lv_sub hl [2, 1, 0] rfl) (hP.sub [0, 1, 2] rfl) (hD.sub [0, 1, 2] (by decide) rfl) hS
    have hl : lv_has ls 5 [(4, .int (nI (dc (xv x)) - 1)), (3, .int (nI 0)), (0, .ref hm), (1, .long x)] := by have hq9 : (nI (n2_2 - 1)) = (nI (dc (xv x)) - 1) := ((by rw [hnv]; exact (nI_dec1 (by omega)).symm)); first | (rw [← hq9]; exact hl) | (rw [hq9] at hl; exact hl)
    exact loop20 (_ + 1) (dc (xv x)) 0 sta ls _ _ (Nat.lt_succ_self _) (Nat.le_refl _) rfl trivial (lv_sub hl [2, 1, 0] rfl) (hP.sub [0, 1, 2] rfl) (hD.sub [0, 1, 2] (by decide) rfl) hS
  · refine lv_iconst (pc := 8) (v := ((-1))) hx hb dX8_starHeight_8 (by decide) ?_
    have hP9 : va_P D vwCl [(hm, .inr (6, oM am n2_2 pos cmp que dsz mad cur stp met bst)), (am 1, .inl (cI, 18, .inl (nA dgt2_2))), (am 2, .inl (cI, 18, .inl (nA sta)))] H := hP.sub [1, 2, 0] rfl
    have hD9 : va_D _ [(hm, .inr (6, oM am n2_2 pos cmp que dsz mad cur stp met bst)), (am 1, .inl (cI, 18, .inl (nA dgt2_2))), (am 2, .inl (cI, 18, .inl (nA sta)))] := hD.sub [1, 2, 0] (by decide) rfl
    exact W.iret (pc := 9) (v := ((-1))) hx hb hr (fun t ht hW => ⟨⟨_, (n2_2, dgt2_2, sta), rfl, ⟨(if_neg c5).symm, trivial⟩, by rw [ht]; exact hP9, va_K.moved hW.alike hK, hD9⟩, hS.F ht⟩) hS.2.2 dX8_starHeight_9
