/-! the law's loop -/
theorem lw_len {L i : Nat} (hL : L ≤ 3072) (hi : i ≤ L) : nI L - nI 6 < nI i ↔ L < i + 6 := by
  rcases Nat.lt_or_ge L 6 with c | c
  · have h : ∀ q, q < 6 → (nI q - nI 6).toInt < 0 := by decide
    have h1 := h L c
    rw [fa_lt, nI_toInt (show i < 2 ^ 31 by omega)]
    omega
  · have e : nI L - nI 6 = nI (L - 6) := by
      obtain ⟨k, rfl⟩ : ∃ k, L = k + 6 := ⟨L - 6, by omega⟩
      rw [show k + 6 - 6 = k from by omega, ← nI_add k 6]
      exact Int32.add_sub_cancel _ _
    rw [e, fa_lt, nI_toInt (by omega), nI_toInt (by omega)]
    omega
theorem and31 (v : Int32) : ∃ k, k < 32 ∧ v &&& nI 31 = nI k := by
  have e : v = nI v.toBitVec.toNat := by
    apply Int32.toBitVec_inj.mp
    show v.toBitVec = BitVec.ofNat 32 v.toBitVec.toNat
    rw [BitVec.ofNat_toNat, BitVec.setWidth_eq]
  refine ⟨v.toBitVec.toNat &&& 31, Nat.lt_of_le_of_lt Nat.and_le_right (by decide), ?_⟩
  rw [← fa_and, ← e]
set_option maxHeartbeats 4000000 in
set_option maxRecDepth 100000 in
theorem law_loop (l : Launch) {pG : Program} {eG : Env} {s : State} {mG : MethodId} {below : List Frame} {meth : Method} {cG : Code} {b L : Nat} {xs : Nat → Int32} (hL : L ≤ 3072) (C0 : lw_At pG s mG meth cG b L xs) (D : va_G) (cI cL cZ : ClassId) (tp tr : Nat) (hK : va_K D vwCl (tyL cI cL cZ) s) (hZ : ST (fun q : Nat => s.heap.size ≤ q) tp tr s s.heap) (hq hm : Nat) (ar : Nat → Nat) (ag : Nat → Nat) (aU : Nat → Nat) (aV : Nat → Nat) (aC : Nat → Nat) (as1 : Nat → Nat) (ax : Nat → Nat) (at1 : Nat → Nat) (am : Nat → Nat) : ∀ (fuel i : Nat) (cur : Nat) (nn : Nat) (kd : Nat → Nat) (ed : Nat → Nat) (cd : Nat → Nat) (ac : Nat) (st : Nat) (em : Nat → Bool) (fs : Nat → Nat) (lz : Nat → Nat) (fo : Nat → Nat) (re : Nat → Nat) (acV : Nat) (stV : Nat) (emV : Nat → Bool) (fsV : Nat → Nat) (lzV : Nat → Nat) (foV : Nat → Nat) (reV : Nat → Nat) (pr : Nat) (te : Int32) (ti : Nat → Int32) (g1 : Nat → Nat) (g2 : Nat → Nat) (og : Nat → Nat) (sy : Nat → Nat) (cn : Nat) (mt : Nat → Nat) (ds : Nat → Nat) (nnx : Nat) (kx : Nat → Nat) (ex : Nat → Nat) (cx : Nat → Nat) (ct1 : Nat) (bf : Nat → Nat) (ru : Nat → Nat) (ps : Nat → Nat) (n : Nat) (pos : Nat) (cmp : Nat) (que : Nat) (dsz : Nat) (mad : Nat) (met : Nat) (bst : Nat) (dgt : Nat → Nat) (sta : Nat → Nat) (isN : Nat → Bool) (fiO : Nat → Nat) (laO : Nat → Nat) (wsy : Nat → Nat) (fol : Nat → Nat) (nus : Nat → Bool) (fis : Nat → Nat) (las : Nat → Nat) (sn : Nat → Nat) (qu : Nat → Nat) (cf : Nat → Nat) (dw : Nat → Nat) (rt : Nat → Nat) (rul : Nat → Nat) (psn : Nat → Nat) (bfr : Nat → Nat) (mtM : Nat → Nat) (dsM : Nat → Nat) (ls : Array Slot) (H : Heap) (locs : List Loc), L - i < fuel → i ≤ L → (LI cur ct1 bf ru ps bfr rul psn) → (∀ m, m < 262144 → sn m ≤ cmp) → (cmp ≤ i) → lv_has ls 4 (lLaw b hq hm i) → va_P D vwCl (wLaw cI cL cZ hq hm ar ag aU aV aC as1 ax at1 am cur nn kd ed cd ac st em fs lz fo re acV stV emV fsV lzV foV reV pr te ti g1 g2 og sy cn mt ds nnx kx ex cx ct1 bf ru ps n pos cmp que dsz mad met bst dgt sta isN fiO laO wsy fol nus fis las sn qu cf dw rt rul psn bfr mtM dsM) H → va_D (aLaw s) (wLaw cI cL cZ hq hm ar ag aU aV aC as1 ax at1 am cur nn kd ed cd ac st em fs lz fo re acV stV emV fsV lzV foV reV pr te ti g1 g2 og sy cn mt ds nnx kx ex cx ct1 bf ru ps n pos cmp que dsz mad met bst dgt sta isN fiO laO wsy fol nus fis las sn qu cf dw rt rul psn bfr mtM dsM) → va_S (aLaw s) s.heap H locs → zLaw pG l eG s mG b below meth cG H locs ls 18 := by
  obtain ⟨hx, hb, hr, hml, hown0, hts0, hX, hbl, hlocks, hgv⟩ := id C0
  have hown : s.vm.findClass RL = some mG.cls := hown0
  have hts : ∀ w ∈ wsL_law, w.before #[Value.ref b] s = true := fun w h => hts0 w (wsL_law_in w h)
  have hA : ∀ q : Nat, s.heap.size ≤ q → (fun q : Nat => s.heap.size ≤ q) q := fun _ h => h
  have hbA : ¬ (fun q : Nat => s.heap.size ≤ q) b := Nat.not_le.mpr hbl
  intro fuel
  induction fuel with
  | zero => intro i cur nn kd ed cd ac st em fs lz fo re acV stV emV fsV lzV foV reV pr te ti g1 g2 og sy cn mt ds nnx kx ex cx ct1 bf ru ps n pos cmp que dsz mad met bst dgt sta isN fiO laO wsy fol nus fis las sn qu cf dw rt rul psn bfr mtM dsM ls H locs hmeas hiL i1 i2 i3 hl hP hD hS; exact absurd hmeas (Nat.not_lt_zero _)
  | succ fuel ih =>
    intro i cur nn kd ed cd ac st em fs lz fo re acV stV emV fsV lzV foV reV pr te ti g1 g2 og sy cn mt ds nnx kx ex cx ct1 bf ru ps n pos cmp que dsz mad met bst dgt sta isN fiO laO wsy fol nus fis las sn qu cf dw rt rul psn bfr mtM dsM ls H locs hmeas hiL i1 i2 i3 hl hP hD hS
    have hl0 := hl
    have hl : lv_has ls 4 [(0, .ref b), (1, .ref hq), (2, .ref hm), (3, .int (nI i))] := hl
    refine lv_iload_n (pc := 18) hx hb dL_law_18 rfl (lv_at hl 3 rfl) ?_
    refine lv_aload_n (pc := 19) hx hb dL_law_19 rfl (lv_at hl 0 rfl) ?_
    refine va_slen (pc := 20) hx hb hX hbl (A := aLaw s) hbA hS dL_law_20 ?_
    refine lv_bipush (pc := 21) (v := (nI 6)) hx hb dL_law_21 (by decide) ?_
    refine lv_isub (pc := 23) hx hb dL_law_23 ?_
    refine lv_icmp_gt (pc := 24) (tgt := 1061) hx hb dL_law_24 (by decide) (fun c24 => ?_) (fun c24 => ?_)
    · refine lv_iconst (pc := 1061) (v := 1) hx hb dL_law_1061 (by decide) ?_
      refine va_forget hS.2.2 ?_
      refine W.widen (k := 600000) (n := 7302250) (Nat.le_of_ble_eq_true rfl) (Nat.le_of_ble_eq_true rfl) ?_
      exact lw_ret hx hb hr hlocks dL_law_1062
    · have hi : i + 6 ≤ L := Nat.le_of_not_lt (fun q => c24 ((lw_len hL hiL).mpr q))
      have K : ∀ (cur : Nat) (nn : Nat) (kd : Nat → Nat) (ed : Nat → Nat) (cd : Nat → Nat) (ac : Nat) (st : Nat) (em : Nat → Bool) (fs : Nat → Nat) (lz : Nat → Nat) (fo : Nat → Nat) (re : Nat → Nat) (acV : Nat) (stV : Nat) (emV : Nat → Bool) (fsV : Nat → Nat) (lzV : Nat → Nat) (foV : Nat → Nat) (reV : Nat → Nat) (pr : Nat) (te : Int32) (ti : Nat → Int32) (g1 : Nat → Nat) (g2 : Nat → Nat) (og : Nat → Nat) (sy : Nat → Nat) (cn : Nat) (mt : Nat → Nat) (ds : Nat → Nat) (nnx : Nat) (kx : Nat → Nat) (ex : Nat → Nat) (cx : Nat → Nat) (ct1 : Nat) (bf : Nat → Nat) (ru : Nat → Nat) (ps : Nat → Nat) (n : Nat) (pos : Nat) (cmp : Nat) (que : Nat) (dsz : Nat) (mad : Nat) (met : Nat) (bst : Nat) (dgt : Nat → Nat) (sta : Nat → Nat) (isN : Nat → Bool) (fiO : Nat → Nat) (laO : Nat → Nat) (wsy : Nat → Nat) (fol : Nat → Nat) (nus : Nat → Bool) (fis : Nat → Nat) (las : Nat → Nat) (sn : Nat → Nat) (qu : Nat → Nat) (cf : Nat → Nat) (dw : Nat → Nat) (rt : Nat → Nat) (rul : Nat → Nat) (psn : Nat → Nat) (bfr : Nat → Nat) (mtM : Nat → Nat) (dsM : Nat → Nat) (ls : Array Slot) (H : Heap) (locs : List Loc), (LI cur ct1 bf ru ps bfr rul psn) → (∀ m, m < 262144 → sn m ≤ cmp) → (cmp ≤ i + 6) → lv_has ls 4 (lLaw b hq hm (i + 6)) → va_P D vwCl (wLaw cI cL cZ hq hm ar ag aU aV aC as1 ax at1 am cur nn kd ed cd ac st em fs lz fo re acV stV emV fsV lzV foV reV pr te ti g1 g2 og sy cn mt ds nnx kx ex cx ct1 bf ru ps n pos cmp que dsz mad met bst dgt sta isN fiO laO wsy fol nus fis las sn qu cf dw rt rul psn bfr mtM dsM) H → va_D (aLaw s) (wLaw cI cL cZ hq hm ar ag aU aV aC as1 ax at1 am cur nn kd ed cd ac st em fs lz fo re acV stV emV fsV lzV foV reV pr te ti g1 g2 og sy cn mt ds nnx kx ex cx ct1 bf ru ps n pos cmp que dsz mad met bst dgt sta isN fiO laO wsy fol nus fis las sn qu cf dw rt rul psn bfr mtM dsM) → va_S (aLaw s) s.heap H locs → zLaw pG l eG s mG b below meth cG H locs ls 18 := fun cur nn kd ed cd ac st em fs lz fo re acV stV emV fsV lzV foV reV pr te ti g1 g2 og sy cn mt ds nnx kx ex cx ct1 bf ru ps n pos cmp que dsz mad met bst dgt sta isN fiO laO wsy fol nus fis las sn qu cf dw rt rul psn bfr mtM dsM ls H locs j1 j2 j3 hl hP hD hS => ih (i + 6) cur nn kd ed cd ac st em fs lz fo re acV stV emV fsV lzV foV reV pr te ti g1 g2 og sy cn mt ds nnx kx ex cx ct1 bf ru ps n pos cmp que dsz mad met bst dgt sta isN fiO laO wsy fol nus fis las sn qu cf dw rt rul psn bfr mtM dsM ls H locs (by omega) hi j1 j2 j3 hl hP hD hS
      refine lv_aload_n (pc := 27) hx hb dL_law_27 rfl (lv_at hl 0 rfl) ?_
      refine lv_iload_n (pc := 28) hx hb dL_law_28 rfl (lv_at hl 3 rfl) ?_
      refine va_sld (pc := 29) hx hb hX hbl (A := aLaw s) hbA hS (vp_in_nI (n := i) (N := L) (by omega) (by omega)) dL_law_29 ?_
      refine lv_bipush (pc := 30) (v := (nI 31)) hx hb dL_law_30 (by decide) ?_
      refine lv_iand (pc := 32) hx hb dL_law_32 ?_
      obtain ⟨k, hk32, hke⟩ := and31 (xs (nI i).toNatClampNeg)
      rw [hke]
      rcases (show k = 0 ∨ k = 1 ∨ k = 2 ∨ k = 3 ∨ k = 4 ∨ k = 5 ∨ k = 6 ∨ k = 7 ∨ k = 8 ∨ k = 9 ∨ k = 10 ∨ k = 11 ∨ k = 12 ∨ k = 13 ∨ k = 14 ∨ k = 15 ∨ k = 16 ∨ k = 17 ∨ k = 18 ∨ k = 19 ∨ k = 20 ∨ k = 21 ∨ 22 ≤ k by omega) with rfl | rfl | rfl | rfl | rfl | rfl | rfl | rfl | rfl | rfl | rfl | rfl | rfl | rfl | rfl | rfl | rfl | rfl | rfl | rfl | rfl | rfl | hk22
      · refine lv_tableIn (pc := 33) (tgt := 136) (off := 103) hx hb dL_law_33 (by decide) (by decide) (by decide) (by decide) ?_
        exact law_c0 l hL C0 D cI cL cZ tp tr hK hZ hq hm ar ag aU aV aC as1 ax at1 am cur nn kd ed cd ac st em fs lz fo re acV stV emV fsV lzV foV reV pr te ti g1 g2 og sy cn mt ds nnx kx ex cx ct1 bf ru ps n pos cmp que dsz mad met bst dgt sta isN fiO laO wsy fol nus fis las sn qu cf dw rt rul psn bfr mtM dsM i hi i1 i2 i3 ls H locs hl0 hP hD hS K
      · refine lv_tableIn (pc := 33) (tgt := 189) (off := 156) hx hb dL_law_33 (by decide) (by decide) (by decide) (by decide) ?_
        exact law_c1 l hL C0 D cI cL cZ tp tr hK hZ hq hm ar ag aU aV aC as1 ax at1 am cur nn kd ed cd ac st em fs lz fo re acV stV emV fsV lzV foV reV pr te ti g1 g2 og sy cn mt ds nnx kx ex cx ct1 bf ru ps n pos cmp que dsz mad met bst dgt sta isN fiO laO wsy fol nus fis las sn qu cf dw rt rul psn bfr mtM dsM i hi i1 i2 i3 ls H locs hl0 hP hD hS K
      · refine lv_tableIn (pc := 33) (tgt := 242) (off := 209) hx hb dL_law_33 (by decide) (by decide) (by decide) (by decide) ?_
        exact law_c2 l hL C0 D cI cL cZ tp tr hK hZ hq hm ar ag aU aV aC as1 ax at1 am cur nn kd ed cd ac st em fs lz fo re acV stV emV fsV lzV foV reV pr te ti g1 g2 og sy cn mt ds nnx kx ex cx ct1 bf ru ps n pos cmp que dsz mad met bst dgt sta isN fiO laO wsy fol nus fis las sn qu cf dw rt rul psn bfr mtM dsM i hi i1 i2 i3 ls H locs hl0 hP hD hS K
      · refine lv_tableIn (pc := 33) (tgt := 295) (off := 262) hx hb dL_law_33 (by decide) (by decide) (by decide) (by decide) ?_
        exact law_c3 l hL C0 D cI cL cZ tp tr hK hZ hq hm ar ag aU aV aC as1 ax at1 am cur nn kd ed cd ac st em fs lz fo re acV stV emV fsV lzV foV reV pr te ti g1 g2 og sy cn mt ds nnx kx ex cx ct1 bf ru ps n pos cmp que dsz mad met bst dgt sta isN fiO laO wsy fol nus fis las sn qu cf dw rt rul psn bfr mtM dsM i hi i1 i2 i3 ls H locs hl0 hP hD hS K
      · refine lv_tableIn (pc := 33) (tgt := 358) (off := 325) hx hb dL_law_33 (by decide) (by decide) (by decide) (by decide) ?_
        exact law_c4 l hL C0 D cI cL cZ tp tr hK hZ hq hm ar ag aU aV aC as1 ax at1 am cur nn kd ed cd ac st em fs lz fo re acV stV emV fsV lzV foV reV pr te ti g1 g2 og sy cn mt ds nnx kx ex cx ct1 bf ru ps n pos cmp que dsz mad met bst dgt sta isN fiO laO wsy fol nus fis las sn qu cf dw rt rul psn bfr mtM dsM i hi i1 i2 i3 ls H locs hl0 hP hD hS K
      · refine lv_tableIn (pc := 33) (tgt := 451) (off := 418) hx hb dL_law_33 (by decide) (by decide) (by decide) (by decide) ?_
        exact law_c5 l hL C0 D cI cL cZ tp tr hK hZ hq hm ar ag aU aV aC as1 ax at1 am cur nn kd ed cd ac st em fs lz fo re acV stV emV fsV lzV foV reV pr te ti g1 g2 og sy cn mt ds nnx kx ex cx ct1 bf ru ps n pos cmp que dsz mad met bst dgt sta isN fiO laO wsy fol nus fis las sn qu cf dw rt rul psn bfr mtM dsM i hi i1 i2 i3 ls H locs hl0 hP hD hS K
      · refine lv_tableIn (pc := 33) (tgt := 554) (off := 521) hx hb dL_law_33 (by decide) (by decide) (by decide) (by decide) ?_
        exact law_c6 l hL C0 D cI cL cZ tp tr hK hZ hq hm ar ag aU aV aC as1 ax at1 am cur nn kd ed cd ac st em fs lz fo re acV stV emV fsV lzV foV reV pr te ti g1 g2 og sy cn mt ds nnx kx ex cx ct1 bf ru ps n pos cmp que dsz mad met bst dgt sta isN fiO laO wsy fol nus fis las sn qu cf dw rt rul psn bfr mtM dsM i hi i1 i2 i3 ls H locs hl0 hP hD hS K
      · refine lv_tableIn (pc := 33) (tgt := 627) (off := 594) hx hb dL_law_33 (by decide) (by decide) (by decide) (by decide) ?_
        exact law_c7 l hL C0 D cI cL cZ tp tr hK hZ hq hm ar ag aU aV aC as1 ax at1 am cur nn kd ed cd ac st em fs lz fo re acV stV emV fsV lzV foV reV pr te ti g1 g2 og sy cn mt ds nnx kx ex cx ct1 bf ru ps n pos cmp que dsz mad met bst dgt sta isN fiO laO wsy fol nus fis las sn qu cf dw rt rul psn bfr mtM dsM i hi i1 i2 i3 ls H locs hl0 hP hD hS K
      · refine lv_tableIn (pc := 33) (tgt := 701) (off := 668) hx hb dL_law_33 (by decide) (by decide) (by decide) (by decide) ?_
        exact law_c8 l hL C0 D cI cL cZ tp tr hK hZ hq hm ar ag aU aV aC as1 ax at1 am cur nn kd ed cd ac st em fs lz fo re acV stV emV fsV lzV foV reV pr te ti g1 g2 og sy cn mt ds nnx kx ex cx ct1 bf ru ps n pos cmp que dsz mad met bst dgt sta isN fiO laO wsy fol nus fis las sn qu cf dw rt rul psn bfr mtM dsM i hi i1 i2 i3 ls H locs hl0 hP hD hS K
      · refine lv_tableIn (pc := 33) (tgt := 754) (off := 721) hx hb dL_law_33 (by decide) (by decide) (by decide) (by decide) ?_
        exact law_c9 l hL C0 D cI cL cZ tp tr hK hZ hq hm ar ag aU aV aC as1 ax at1 am cur nn kd ed cd ac st em fs lz fo re acV stV emV fsV lzV foV reV pr te ti g1 g2 og sy cn mt ds nnx kx ex cx ct1 bf ru ps n pos cmp que dsz mad met bst dgt sta isN fiO laO wsy fol nus fis las sn qu cf dw rt rul psn bfr mtM dsM i hi i1 i2 i3 ls H locs hl0 hP hD hS K
      · refine lv_tableIn (pc := 33) (tgt := 807) (off := 774) hx hb dL_law_33 (by decide) (by decide) (by decide) (by decide) ?_
        exact law_c10 l hL C0 D cI cL cZ tp tr hK hZ hq hm ar ag aU aV aC as1 ax at1 am cur nn kd ed cd ac st em fs lz fo re acV stV emV fsV lzV foV reV pr te ti g1 g2 og sy cn mt ds nnx kx ex cx ct1 bf ru ps n pos cmp que dsz mad met bst dgt sta isN fiO laO wsy fol nus fis las sn qu cf dw rt rul psn bfr mtM dsM i hi i1 i2 i3 ls H locs hl0 hP hD hS K
      · refine lv_tableIn (pc := 33) (tgt := 860) (off := 827) hx hb dL_law_33 (by decide) (by decide) (by decide) (by decide) ?_
        exact law_c11 l hL C0 D cI cL cZ tp tr hK hZ hq hm ar ag aU aV aC as1 ax at1 am cur nn kd ed cd ac st em fs lz fo re acV stV emV fsV lzV foV reV pr te ti g1 g2 og sy cn mt ds nnx kx ex cx ct1 bf ru ps n pos cmp que dsz mad met bst dgt sta isN fiO laO wsy fol nus fis las sn qu cf dw rt rul psn bfr mtM dsM i hi i1 i2 i3 ls H locs hl0 hP hD hS K
      · refine lv_tableIn (pc := 33) (tgt := 874) (off := 841) hx hb dL_law_33 (by decide) (by decide) (by decide) (by decide) ?_
        exact law_c12 l hL C0 D cI cL cZ tp tr hK hZ hq hm ar ag aU aV aC as1 ax at1 am cur nn kd ed cd ac st em fs lz fo re acV stV emV fsV lzV foV reV pr te ti g1 g2 og sy cn mt ds nnx kx ex cx ct1 bf ru ps n pos cmp que dsz mad met bst dgt sta isN fiO laO wsy fol nus fis las sn qu cf dw rt rul psn bfr mtM dsM i hi i1 i2 i3 ls H locs hl0 hP hD hS K
      · refine lv_tableIn (pc := 33) (tgt := 907) (off := 874) hx hb dL_law_33 (by decide) (by decide) (by decide) (by decide) ?_
        exact law_c13 l hL C0 D cI cL cZ tp tr hK hZ hq hm ar ag aU aV aC as1 ax at1 am cur nn kd ed cd ac st em fs lz fo re acV stV emV fsV lzV foV reV pr te ti g1 g2 og sy cn mt ds nnx kx ex cx ct1 bf ru ps n pos cmp que dsz mad met bst dgt sta isN fiO laO wsy fol nus fis las sn qu cf dw rt rul psn bfr mtM dsM i hi i1 i2 i3 ls H locs hl0 hP hD hS K
      · refine lv_tableIn (pc := 33) (tgt := 920) (off := 887) hx hb dL_law_33 (by decide) (by decide) (by decide) (by decide) ?_
        exact law_c14 l hL C0 D cI cL cZ tp tr hK hZ hq hm ar ag aU aV aC as1 ax at1 am cur nn kd ed cd ac st em fs lz fo re acV stV emV fsV lzV foV reV pr te ti g1 g2 og sy cn mt ds nnx kx ex cx ct1 bf ru ps n pos cmp que dsz mad met bst dgt sta isN fiO laO wsy fol nus fis las sn qu cf dw rt rul psn bfr mtM dsM i hi i1 i2 i3 ls H locs hl0 hP hD hS K
      · refine lv_tableIn (pc := 33) (tgt := 943) (off := 910) hx hb dL_law_33 (by decide) (by decide) (by decide) (by decide) ?_
        exact law_c15 l hL C0 D cI cL cZ tp tr hK hZ hq hm ar ag aU aV aC as1 ax at1 am cur nn kd ed cd ac st em fs lz fo re acV stV emV fsV lzV foV reV pr te ti g1 g2 og sy cn mt ds nnx kx ex cx ct1 bf ru ps n pos cmp que dsz mad met bst dgt sta isN fiO laO wsy fol nus fis las sn qu cf dw rt rul psn bfr mtM dsM i hi i1 i2 i3 ls H locs hl0 hP hD hS K
      · refine lv_tableIn (pc := 33) (tgt := 956) (off := 923) hx hb dL_law_33 (by decide) (by decide) (by decide) (by decide) ?_
        exact law_c16 l hL C0 D cI cL cZ tp tr hK hZ hq hm ar ag aU aV aC as1 ax at1 am cur nn kd ed cd ac st em fs lz fo re acV stV emV fsV lzV foV reV pr te ti g1 g2 og sy cn mt ds nnx kx ex cx ct1 bf ru ps n pos cmp que dsz mad met bst dgt sta isN fiO laO wsy fol nus fis las sn qu cf dw rt rul psn bfr mtM dsM i hi i1 i2 i3 ls H locs hl0 hP hD hS K
      · refine lv_tableIn (pc := 33) (tgt := 979) (off := 946) hx hb dL_law_33 (by decide) (by decide) (by decide) (by decide) ?_
        exact law_c17 l hL C0 D cI cL cZ tp tr hK hZ hq hm ar ag aU aV aC as1 ax at1 am cur nn kd ed cd ac st em fs lz fo re acV stV emV fsV lzV foV reV pr te ti g1 g2 og sy cn mt ds nnx kx ex cx ct1 bf ru ps n pos cmp que dsz mad met bst dgt sta isN fiO laO wsy fol nus fis las sn qu cf dw rt rul psn bfr mtM dsM i hi i1 i2 i3 ls H locs hl0 hP hD hS K
      · refine lv_tableIn (pc := 33) (tgt := 1002) (off := 969) hx hb dL_law_33 (by decide) (by decide) (by decide) (by decide) ?_
        exact law_c18 l hL C0 D cI cL cZ tp tr hK hZ hq hm ar ag aU aV aC as1 ax at1 am cur nn kd ed cd ac st em fs lz fo re acV stV emV fsV lzV foV reV pr te ti g1 g2 og sy cn mt ds nnx kx ex cx ct1 bf ru ps n pos cmp que dsz mad met bst dgt sta isN fiO laO wsy fol nus fis las sn qu cf dw rt rul psn bfr mtM dsM i hi i1 i2 i3 ls H locs hl0 hP hD hS K
      · refine lv_tableIn (pc := 33) (tgt := 1015) (off := 982) hx hb dL_law_33 (by decide) (by decide) (by decide) (by decide) ?_
        exact law_c19 l hL C0 D cI cL cZ tp tr hK hZ hq hm ar ag aU aV aC as1 ax at1 am cur nn kd ed cd ac st em fs lz fo re acV stV emV fsV lzV foV reV pr te ti g1 g2 og sy cn mt ds nnx kx ex cx ct1 bf ru ps n pos cmp que dsz mad met bst dgt sta isN fiO laO wsy fol nus fis las sn qu cf dw rt rul psn bfr mtM dsM i hi i1 i2 i3 ls H locs hl0 hP hD hS K
      · refine lv_tableIn (pc := 33) (tgt := 1029) (off := 996) hx hb dL_law_33 (by decide) (by decide) (by decide) (by decide) ?_
        exact law_c20 l hL C0 D cI cL cZ tp tr hK hZ hq hm ar ag aU aV aC as1 ax at1 am cur nn kd ed cd ac st em fs lz fo re acV stV emV fsV lzV foV reV pr te ti g1 g2 og sy cn mt ds nnx kx ex cx ct1 bf ru ps n pos cmp que dsz mad met bst dgt sta isN fiO laO wsy fol nus fis las sn qu cf dw rt rul psn bfr mtM dsM i hi i1 i2 i3 ls H locs hl0 hP hD hS K
      · refine lv_tableIn (pc := 33) (tgt := 1042) (off := 1009) hx hb dL_law_33 (by decide) (by decide) (by decide) (by decide) ?_
        exact law_c21 l hL C0 D cI cL cZ tp tr hK hZ hq hm ar ag aU aV aC as1 ax at1 am cur nn kd ed cd ac st em fs lz fo re acV stV emV fsV lzV foV reV pr te ti g1 g2 og sy cn mt ds nnx kx ex cx ct1 bf ru ps n pos cmp que dsz mad met bst dgt sta isN fiO laO wsy fol nus fis las sn qu cf dw rt rul psn bfr mtM dsM i hi i1 i2 i3 ls H locs hl0 hP hD hS K
      · refine lv_tableOut (pc := 33) (tgt := 1055) hx hb dL_law_33 (Or.inr (by rw [nI_toInt (by omega)]; omega)) (by decide) ?_
        refine lv_iinc (pc := 1055) (v := (nI (i + 6))) (lv' := [(3, .int (nI (i + 6))), (0, .ref b), (1, .ref hq), (2, .ref hm)]) hx hb dL_law_1055 hl (k := 3) rfl (nI_add _ 6) (by decide) rfl (fun ls hl => ?_)
        refine lv_goto (pc := 1058) (tgt := 18) hx hb dL_law_1058 (by decide) ?_
        exact K cur nn kd ed cd ac st em fs lz fo re acV stV emV fsV lzV foV reV pr te ti g1 g2 og sy cn mt ds nnx kx ex cx ct1 bf ru ps n pos cmp que dsz mad met bst dgt sta isN fiO laO wsy fol nus fis las sn qu cf dw rt rul psn bfr mtM dsM ls _ _ i1 i2 (by omega) (lv_sub hl [1, 2, 3, 0] rfl) hP hD hS
