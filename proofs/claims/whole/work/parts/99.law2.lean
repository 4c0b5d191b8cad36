set_option maxHeartbeats 4000000 in
set_option maxRecDepth 100000 in
theorem LC16 {prg : Program} {l : Launch} {env : Env} {s : State} {m : MethodId} {below : List Frame} {meth : Method} {c : Code} {dC : Nat → ClassId} {dI0 : Nat → Nat → Nat} {cI cZ : ClassId} {h4 h5 ba L i sk sv : Nat} {xs : Nat → Int32} (hL : L ≤ 2048) (C0 : LCx prg s m meth c ba L xs) (hK : va_K (dC, dI0) vwCl [(cI, .int), (cZ, .boolean)] s) (hST : STR sk sv (fun q : Nat => s.heap.size ≤ q) s s.heap) (hi4 : i + 4 ≤ L) (hk : LKt prg l env s m below meth c dC dI0 cI cZ h4 h5 ba i (i + 4) 733) : LKt prg l env s m below meth c dC dI0 cI cZ h4 h5 ba i i 532 := by
  obtain ⟨hx, hb, hr, hml, hown, hts, hX, hbl, hlocks⟩ := C0
  have hA : ∀ q : Nat, s.heap.size ≤ q → (fun q : Nat => s.heap.size ≤ q) q := fun _ h => h
  have hbA : ¬ (fun q : Nat => s.heap.size ≤ q) ba := Nat.not_le.mpr hbl
  intro wx wm H locs hI hP hD hS ls hl
  obtain ⟨pl, le, n, k, h, b, d, dr, sc, sp, sn, sm, cr, hd, hi, kk2, hh2, bb2, dd2, dk, ks, sp2, sn2, sm2, hBX, hBM, hdr, hdk, hhd, hn0, hcrN⟩ := hI
  have hcr : cr < 2 ^ 30 := by omega
  refine lv_aload_n hx hb dL_law_532 rfl (lv_at hl 1 rfl) ?_
  refine lv_aload_n hx hb dL_law_533 rfl (lv_at hl 0 rfl) ?_
  refine lv_iload_n hx hb dL_law_534 rfl (lv_at hl 3 rfl) ?_
  refine lv_iconst (v := nI 1) hx hb dL_law_535 (by decide) ?_
  refine lv_iadd hx hb dL_law_536 ?_
  refine lv_topi (fun x536 e536 => ?_)
  obtain rfl : x536 = nI (i + 1) := e536.trans (nI_add _ _)
  refine va_sld hx hb hX hbl hbA hS (vp_in_nI (by omega) (by omega)) dL_law_537 ?_
  refine lv_topi (fun x537 e537 => ?_)
  have hPc := va_Pl hP
  have hDc := va_Dl hD
  have hFc := va_fl hD hS hA
  obtain ⟨fs538, hh538⟩ := BX_head hBX
  refine va_calli (va_runV (As := [.int x537]) (rest := []) ⟨hx, hb, hml, hown, hts⟩ (MX_rings l dC dI0 cI cZ h4 H.size x537 hBX) (cwV 1 hts gL_law_X4_rings rfl rfl rfl (by decide +kernel) ⟨Nat.le_of_ble_eq_true rfl, Nat.le_of_ble_eq_true rfl⟩) ⟨fun a U g mk q => by obtain ⟨q0, q1, qP, qK, qD⟩ := q; exact ⟨q0, q1, qP, va_K.moved (u := U) (U := U.calling g mk a) (Vm.Alike.refl U.vm) qK, qD⟩, va_recv hK hPc (ci := 4) (q0 := 0) rfl hh538, fun U hU hW => ⟨rfl, by rw [hU], by rw [hU]; exact hPc, va_K.moved hW.alike hK, hDc.weaken (fun _ _ _ _ => trivial)⟩⟩ rfl rfl hl.1 rfl (lv_room (Nat.le_of_ble_eq_true rfl)) dL_law_538 ⟨Nat.le_of_ble_eq_true rfl, Nat.le_of_ble_eq_true rfl⟩) hS (fun q _ h => hFc q h) hFc (fun r538 u538 t7 H1 locs ht7 hvm7 hw538 hB hz1 hk1 hS => ?_)
  obtain ⟨hP1, hK1, hD1⟩ := hB
  rw [ht7] at hP1
  obtain ⟨hP, hD⟩ := va_jl hP hD hk1 hFc hP1 hD1
  generalize H1 = H at hP hS ⊢
  obtain ⟨er538, hBX2⟩ := hw538
  refine lv_aload_n hx hb dL_law_541 rfl (lv_at hl 2 rfl) ?_
  refine lv_aload_n hx hb dL_law_542 rfl (lv_at hl 0 rfl) ?_
  refine lv_iload_n hx hb dL_law_543 rfl (lv_at hl 3 rfl) ?_
  refine lv_iconst (v := nI 1) hx hb dL_law_544 (by decide) ?_
  refine lv_iadd hx hb dL_law_545 ?_
  refine lv_topi (fun x545 e545 => ?_)
  obtain rfl : x545 = nI (i + 1) := e545.trans (nI_add _ _)
  refine va_sld hx hb hX hbl hbA hS (vp_in_nI (by omega) (by omega)) dL_law_546 ?_
  refine lv_topi (fun x546 e546 => ?_)
  have ee546 : x537 = x546 := e537.trans e546.symm
  subst ee546
  have hPc := va_Pl hP
  have hDc := va_Dl hD
  have hFc := va_fl hD hS hA
  obtain ⟨fs547, hh547⟩ := BM_head hBM
  refine va_calli (va_runV (As := [.int x537]) (rest := [.int r538]) ⟨hx, hb, hml, hown, hts⟩ (MM_rings l dC dI0 cI cZ h5 H.size x537 hBM) (cwV 1 hts gL_law_X5_rings rfl rfl rfl (by decide +kernel) ⟨Nat.le_of_ble_eq_true rfl, Nat.le_of_ble_eq_true rfl⟩) ⟨fun a U g mk q => by obtain ⟨q0, q1, qP, qK, qD⟩ := q; exact ⟨q0, q1, qP, va_K.moved (u := U) (U := U.calling g mk a) (Vm.Alike.refl U.vm) qK, qD⟩, va_recv hK hPc (ci := 5) (q0 := 0) rfl hh547, fun U hU hW => ⟨rfl, by rw [hU], by rw [hU]; exact hPc, va_K.moved hW.alike hK, hDc.weaken (fun _ _ _ _ => trivial)⟩⟩ rfl rfl hl.1 rfl (lv_room (Nat.le_of_ble_eq_true rfl)) dL_law_547 ⟨Nat.le_of_ble_eq_true rfl, Nat.le_of_ble_eq_true rfl⟩) hS (fun q _ h => hFc q h) hFc (fun r547 u547 t7 H1 locs ht7 hvm7 hw547 hB hz1 hk1 hS => ?_)
  obtain ⟨hP1, hK1, hD1⟩ := hB
  rw [ht7] at hP1
  obtain ⟨hP, hD⟩ := va_jl hP hD hk1 hFc hP1 hD1
  generalize H1 = H at hP hS ⊢
  obtain ⟨er547, hBM2⟩ := hw547
  refine lv_icmp_eq (tgt := 733) hx hb dL_law_550 (by decide) (fun c550 => ?_) (fun c550 => ?_)
  · exact hk _ _ _ _ ⟨pl, le, n, k, h, b, d, dr, sc, sp, sn, sm, cr, hd, hi, kk2, hh2, bb2, dd2, dk, ks, sp2, sn2, sm2, hBX2, hBM2, hdr, hdk, hhd, hn0, (Nat.le_trans hcrN (by omega))⟩ hP hD hS ls hl
  exact absurd (er538.trans er547.symm) c550
set_option maxHeartbeats 4000000 in
set_option maxRecDepth 100000 in
theorem LC17 {prg : Program} {l : Launch} {env : Env} {s : State} {m : MethodId} {below : List Frame} {meth : Method} {c : Code} {dC : Nat → ClassId} {dI0 : Nat → Nat → Nat} {cI cZ : ClassId} {h4 h5 ba L i sk sv : Nat} {xs : Nat → Int32} (hL : L ≤ 2048) (C0 : LCx prg s m meth c ba L xs) (hK : va_K (dC, dI0) vwCl [(cI, .int), (cZ, .boolean)] s) (hST : STR sk sv (fun q : Nat => s.heap.size ≤ q) s s.heap) (hi4 : i + 4 ≤ L) (hk : LKt prg l env s m below meth c dC dI0 cI cZ h4 h5 ba i (i + 4) 733) : LKt prg l env s m below meth c dC dI0 cI cZ h4 h5 ba i i 555 := by
  obtain ⟨hx, hb, hr, hml, hown, hts, hX, hbl, hlocks⟩ := C0
  have hA : ∀ q : Nat, s.heap.size ≤ q → (fun q : Nat => s.heap.size ≤ q) q := fun _ h => h
  have hbA : ¬ (fun q : Nat => s.heap.size ≤ q) ba := Nat.not_le.mpr hbl
  intro wx wm H locs hI hP hD hS ls hl
  obtain ⟨pl, le, n, k, h, b, d, dr, sc, sp, sn, sm, cr, hd, hi, kk2, hh2, bb2, dd2, dk, ks, sp2, sn2, sm2, hBX, hBM, hdr, hdk, hhd, hn0, hcrN⟩ := hI
  have hcr : cr < 2 ^ 30 := by omega
  refine lv_aload_n hx hb dL_law_555 rfl (lv_at hl 1 rfl) ?_
  refine lv_aload_n hx hb dL_law_556 rfl (lv_at hl 0 rfl) ?_
  refine lv_iload_n hx hb dL_law_557 rfl (lv_at hl 3 rfl) ?_
  refine lv_iconst (v := nI 1) hx hb dL_law_558 (by decide) ?_
  refine lv_iadd hx hb dL_law_559 ?_
  refine lv_topi (fun x559 e559 => ?_)
  obtain rfl : x559 = nI (i + 1) := e559.trans (nI_add _ _)
  refine va_sld hx hb hX hbl hbA hS (vp_in_nI (by omega) (by omega)) dL_law_560 ?_
  refine lv_topi (fun x560 e560 => ?_)
  refine lv_aload_n hx hb dL_law_561 rfl (lv_at hl 0 rfl) ?_
  refine lv_iload_n hx hb dL_law_562 rfl (lv_at hl 3 rfl) ?_
  refine lv_iconst (v := nI 2) hx hb dL_law_563 (by decide) ?_
  refine lv_iadd hx hb dL_law_564 ?_
  refine lv_topi (fun x564 e564 => ?_)
  obtain rfl : x564 = nI (i + 2) := e564.trans (nI_add _ _)
  refine va_sld hx hb hX hbl hbA hS (vp_in_nI (by omega) (by omega)) dL_law_565 ?_
  refine lv_topi (fun x565 e565 => ?_)
  refine lv_aload_n hx hb dL_law_566 rfl (lv_at hl 0 rfl) ?_
  refine lv_iload_n hx hb dL_law_567 rfl (lv_at hl 3 rfl) ?_
  refine lv_iconst (v := nI 3) hx hb dL_law_568 (by decide) ?_
  refine lv_iadd hx hb dL_law_569 ?_
  refine lv_topi (fun x569 e569 => ?_)
  obtain rfl : x569 = nI (i + 3) := e569.trans (nI_add _ _)
  refine va_sld hx hb hX hbl hbA hS (vp_in_nI (by omega) (by omega)) dL_law_570 ?_
  refine lv_topi (fun x570 e570 => ?_)
  refine lv_if_eq (tgt := 578) hx hb dL_law_571 (by decide) (fun c571 => ?_) (fun c571 => ?_)
  ·
    refine lv_iconst (v := bI false) hx hb dL_law_578 (by decide) ?_
    have hPc := va_Pl hP
    have hDc := va_Dl hD
    have hFc := va_fl hD hS hA
    obtain ⟨fs579, hh579⟩ := BX_head hBX
    refine va_calli (va_runV (As := [.int x560, .int x565, .int (bI false)]) (rest := []) ⟨hx, hb, hml, hown, hts⟩ (MX_see l dC dI0 cI cZ h4 H.size x560 x565 false hBX) (cwV 3 hts gL_law_X4_see rfl rfl rfl (by decide +kernel) ⟨Nat.le_of_ble_eq_true rfl, Nat.le_of_ble_eq_true rfl⟩) ⟨fun a U g mk q => by obtain ⟨q0, q1, qP, qK, qD⟩ := q; exact ⟨q0, q1, qP, va_K.moved (u := U) (U := U.calling g mk a) (Vm.Alike.refl U.vm) qK, qD⟩, va_recv hK hPc (ci := 4) (q0 := 0) rfl hh579, fun U hU hW => ⟨rfl, by rw [hU], by rw [hU]; exact hPc, va_K.moved hW.alike hK, hDc.weaken (fun _ _ _ _ => trivial)⟩⟩ rfl rfl hl.1 rfl (lv_room (Nat.le_of_ble_eq_true rfl)) dL_law_579 ⟨Nat.le_of_ble_eq_true rfl, Nat.le_of_ble_eq_true rfl⟩) hS (fun q _ h => hFc q h) hFc (fun r579 u579 t7 H1 locs ht7 hvm7 hw579 hB hz1 hk1 hS => ?_)
    obtain ⟨hP1, hK1, hD1⟩ := hB
    rw [ht7] at hP1
    obtain ⟨hP, hD⟩ := va_jl hP hD hk1 hFc hP1 hD1
    generalize H1 = H at hP hS ⊢
    obtain ⟨er579, hBX2⟩ := hw579
    refine lv_aload_n hx hb dL_law_582 rfl (lv_at hl 2 rfl) ?_
    refine lv_aload_n hx hb dL_law_583 rfl (lv_at hl 0 rfl) ?_
    refine lv_iload_n hx hb dL_law_584 rfl (lv_at hl 3 rfl) ?_
    refine lv_iconst (v := nI 1) hx hb dL_law_585 (by decide) ?_
    refine lv_iadd hx hb dL_law_586 ?_
    refine lv_topi (fun x586 e586 => ?_)
    obtain rfl : x586 = nI (i + 1) := e586.trans (nI_add _ _)
    refine va_sld hx hb hX hbl hbA hS (vp_in_nI (by omega) (by omega)) dL_law_587 ?_
    refine lv_topi (fun x587 e587 => ?_)
    have ee587 : x560 = x587 := e560.trans e587.symm
    subst ee587
    refine lv_aload_n hx hb dL_law_588 rfl (lv_at hl 0 rfl) ?_
    refine lv_iload_n hx hb dL_law_589 rfl (lv_at hl 3 rfl) ?_
    refine lv_iconst (v := nI 2) hx hb dL_law_590 (by decide) ?_
    refine lv_iadd hx hb dL_law_591 ?_
    refine lv_topi (fun x591 e591 => ?_)
    obtain rfl : x591 = nI (i + 2) := e591.trans (nI_add _ _)
    refine va_sld hx hb hX hbl hbA hS (vp_in_nI (by omega) (by omega)) dL_law_592 ?_
    refine lv_topi (fun x592 e592 => ?_)
    have ee592 : x565 = x592 := e565.trans e592.symm
    subst ee592
    refine lv_aload_n hx hb dL_law_593 rfl (lv_at hl 0 rfl) ?_
    refine lv_iload_n hx hb dL_law_594 rfl (lv_at hl 3 rfl) ?_
    refine lv_iconst (v := nI 3) hx hb dL_law_595 (by decide) ?_
    refine lv_iadd hx hb dL_law_596 ?_
    refine lv_topi (fun x596 e596 => ?_)
    obtain rfl : x596 = nI (i + 3) := e596.trans (nI_add _ _)
    refine va_sld hx hb hX hbl hbA hS (vp_in_nI (by omega) (by omega)) dL_law_597 ?_
    refine lv_topi (fun x597 e597 => ?_)
    have ee597 : x570 = x597 := e570.trans e597.symm
    subst ee597
    refine lv_if_eq (tgt := 605) hx hb dL_law_598 (by decide) (fun c598 => ?_) (fun c598 => ?_)
    ·
      refine lv_iconst (v := bI false) hx hb dL_law_605 (by decide) ?_
      have hPc := va_Pl hP
      have hDc := va_Dl hD
      have hFc := va_fl hD hS hA
      obtain ⟨fs606, hh606⟩ := BM_head hBM
      refine va_calli (va_runV (As := [.int x560, .int x565, .int (bI false)]) (rest := [.int r579]) ⟨hx, hb, hml, hown, hts⟩ (MM_see l dC dI0 cI cZ h5 H.size x560 x565 false hBM) (cwV 3 hts gL_law_X5_see rfl rfl rfl (by decide +kernel) ⟨Nat.le_of_ble_eq_true rfl, Nat.le_of_ble_eq_true rfl⟩) ⟨fun a U g mk q => by obtain ⟨q0, q1, qP, qK, qD⟩ := q; exact ⟨q0, q1, qP, va_K.moved (u := U) (U := U.calling g mk a) (Vm.Alike.refl U.vm) qK, qD⟩, va_recv hK hPc (ci := 5) (q0 := 0) rfl hh606, fun U hU hW => ⟨rfl, by rw [hU], by rw [hU]; exact hPc, va_K.moved hW.alike hK, hDc.weaken (fun _ _ _ _ => trivial)⟩⟩ rfl rfl hl.1 rfl (lv_room (Nat.le_of_ble_eq_true rfl)) dL_law_606 ⟨Nat.le_of_ble_eq_true rfl, Nat.le_of_ble_eq_true rfl⟩) hS (fun q _ h => hFc q h) hFc (fun r606 u606 t7 H1 locs ht7 hvm7 hw606 hB hz1 hk1 hS => ?_)
      obtain ⟨hP1, hK1, hD1⟩ := hB
      rw [ht7] at hP1
      obtain ⟨hP, hD⟩ := va_jl hP hD hk1 hFc hP1 hD1
      generalize H1 = H at hP hS ⊢
      obtain ⟨er606, hBM2⟩ := hw606
      refine lv_icmp_eq (tgt := 733) hx hb dL_law_609 (by decide) (fun c609 => ?_) (fun c609 => ?_)
      · exact hk _ _ _ _ ⟨pl, le, n, k, h, b, d, dr, (seC n sc x560 x565), (seP n sc sp x560 x565), (seN n sc sn x560 x565), (seM n sc sm x560 x565 false), cr, hd, hi, kk2, hh2, bb2, dd2, dk, ks, sp2, sn2, sm2, hBX2, hBM2, hdr, hdk, hhd, hn0, (Nat.le_trans hcrN (by omega))⟩ hP hD hS ls hl
      exact absurd (er579.trans er606.symm) c609
    exact absurd c571 c598
  refine lv_iconst (v := bI true) hx hb dL_law_574 (by decide) ?_
  refine lv_goto (tgt := 579) hx hb dL_law_575 (by decide) ?_
  have hPc := va_Pl hP
  have hDc := va_Dl hD
  have hFc := va_fl hD hS hA
  obtain ⟨fs579, hh579⟩ := BX_head hBX
  refine va_calli (va_runV (As := [.int x560, .int x565, .int (bI true)]) (rest := []) ⟨hx, hb, hml, hown, hts⟩ (MX_see l dC dI0 cI cZ h4 H.size x560 x565 true hBX) (cwV 3 hts gL_law_X4_see rfl rfl rfl (by decide +kernel) ⟨Nat.le_of_ble_eq_true rfl, Nat.le_of_ble_eq_true rfl⟩) ⟨fun a U g mk q => by obtain ⟨q0, q1, qP, qK, qD⟩ := q; exact ⟨q0, q1, qP, va_K.moved (u := U) (U := U.calling g mk a) (Vm.Alike.refl U.vm) qK, qD⟩, va_recv hK hPc (ci := 4) (q0 := 0) rfl hh579, fun U hU hW => ⟨rfl, by rw [hU], by rw [hU]; exact hPc, va_K.moved hW.alike hK, hDc.weaken (fun _ _ _ _ => trivial)⟩⟩ rfl rfl hl.1 rfl (lv_room (Nat.le_of_ble_eq_true rfl)) dL_law_579 ⟨Nat.le_of_ble_eq_true rfl, Nat.le_of_ble_eq_true rfl⟩) hS (fun q _ h => hFc q h) hFc (fun r579 u579 t7 H1 locs ht7 hvm7 hw579 hB hz1 hk1 hS => ?_)
  obtain ⟨hP1, hK1, hD1⟩ := hB
  rw [ht7] at hP1
  obtain ⟨hP, hD⟩ := va_jl hP hD hk1 hFc hP1 hD1
  generalize H1 = H at hP hS ⊢
  obtain ⟨er579, hBX2⟩ := hw579
  refine lv_aload_n hx hb dL_law_582 rfl (lv_at hl 2 rfl) ?_
  refine lv_aload_n hx hb dL_law_583 rfl (lv_at hl 0 rfl) ?_
  refine lv_iload_n hx hb dL_law_584 rfl (lv_at hl 3 rfl) ?_
  refine lv_iconst (v := nI 1) hx hb dL_law_585 (by decide) ?_
  refine lv_iadd hx hb dL_law_586 ?_
  refine lv_topi (fun x586 e586 => ?_)
  obtain rfl : x586 = nI (i + 1) := e586.trans (nI_add _ _)
  refine va_sld hx hb hX hbl hbA hS (vp_in_nI (by omega) (by omega)) dL_law_587 ?_
  refine lv_topi (fun x587 e587 => ?_)
  have ee587 : x560 = x587 := e560.trans e587.symm
  subst ee587
  refine lv_aload_n hx hb dL_law_588 rfl (lv_at hl 0 rfl) ?_
  refine lv_iload_n hx hb dL_law_589 rfl (lv_at hl 3 rfl) ?_
  refine lv_iconst (v := nI 2) hx hb dL_law_590 (by decide) ?_
  refine lv_iadd hx hb dL_law_591 ?_
  refine lv_topi (fun x591 e591 => ?_)
  obtain rfl : x591 = nI (i + 2) := e591.trans (nI_add _ _)
  refine va_sld hx hb hX hbl hbA hS (vp_in_nI (by omega) (by omega)) dL_law_592 ?_
  refine lv_topi (fun x592 e592 => ?_)
  have ee592 : x565 = x592 := e565.trans e592.symm
  subst ee592
  refine lv_aload_n hx hb dL_law_593 rfl (lv_at hl 0 rfl) ?_
  refine lv_iload_n hx hb dL_law_594 rfl (lv_at hl 3 rfl) ?_
  refine lv_iconst (v := nI 3) hx hb dL_law_595 (by decide) ?_
  refine lv_iadd hx hb dL_law_596 ?_
  refine lv_topi (fun x596 e596 => ?_)
  obtain rfl : x596 = nI (i + 3) := e596.trans (nI_add _ _)
  refine va_sld hx hb hX hbl hbA hS (vp_in_nI (by omega) (by omega)) dL_law_597 ?_
  refine lv_topi (fun x597 e597 => ?_)
  have ee597 : x570 = x597 := e570.trans e597.symm
  subst ee597
  refine lv_if_eq (tgt := 605) hx hb dL_law_598 (by decide) (fun c598 => ?_) (fun c598 => ?_)
  ·
    exact absurd c598 c571
  refine lv_iconst (v := bI true) hx hb dL_law_601 (by decide) ?_
  refine lv_goto (tgt := 606) hx hb dL_law_602 (by decide) ?_
  have hPc := va_Pl hP
  have hDc := va_Dl hD
  have hFc := va_fl hD hS hA
  obtain ⟨fs606, hh606⟩ := BM_head hBM
  refine va_calli (va_runV (As := [.int x560, .int x565, .int (bI true)]) (rest := [.int r579]) ⟨hx, hb, hml, hown, hts⟩ (MM_see l dC dI0 cI cZ h5 H.size x560 x565 true hBM) (cwV 3 hts gL_law_X5_see rfl rfl rfl (by decide +kernel) ⟨Nat.le_of_ble_eq_true rfl, Nat.le_of_ble_eq_true rfl⟩) ⟨fun a U g mk q => by obtain ⟨q0, q1, qP, qK, qD⟩ := q; exact ⟨q0, q1, qP, va_K.moved (u := U) (U := U.calling g mk a) (Vm.Alike.refl U.vm) qK, qD⟩, va_recv hK hPc (ci := 5) (q0 := 0) rfl hh606, fun U hU hW => ⟨rfl, by rw [hU], by rw [hU]; exact hPc, va_K.moved hW.alike hK, hDc.weaken (fun _ _ _ _ => trivial)⟩⟩ rfl rfl hl.1 rfl (lv_room (Nat.le_of_ble_eq_true rfl)) dL_law_606 ⟨Nat.le_of_ble_eq_true rfl, Nat.le_of_ble_eq_true rfl⟩) hS (fun q _ h => hFc q h) hFc (fun r606 u606 t7 H1 locs ht7 hvm7 hw606 hB hz1 hk1 hS => ?_)
  obtain ⟨hP1, hK1, hD1⟩ := hB
  rw [ht7] at hP1
  obtain ⟨hP, hD⟩ := va_jl hP hD hk1 hFc hP1 hD1
  generalize H1 = H at hP hS ⊢
  obtain ⟨er606, hBM2⟩ := hw606
  refine lv_icmp_eq (tgt := 733) hx hb dL_law_609 (by decide) (fun c609 => ?_) (fun c609 => ?_)
  · exact hk _ _ _ _ ⟨pl, le, n, k, h, b, d, dr, (seC n sc x560 x565), (seP n sc sp x560 x565), (seN n sc sn x560 x565), (seM n sc sm x560 x565 true), cr, hd, hi, kk2, hh2, bb2, dd2, dk, ks, sp2, sn2, sm2, hBX2, hBM2, hdr, hdk, hhd, hn0, (Nat.le_trans hcrN (by omega))⟩ hP hD hS ls hl
  exact absurd (er579.trans er606.symm) c609
set_option maxHeartbeats 4000000 in
set_option maxRecDepth 100000 in
theorem LC18 {prg : Program} {l : Launch} {env : Env} {s : State} {m : MethodId} {below : List Frame} {meth : Method} {c : Code} {dC : Nat → ClassId} {dI0 : Nat → Nat → Nat} {cI cZ : ClassId} {h4 h5 ba L i sk sv : Nat} {xs : Nat → Int32} (hL : L ≤ 2048) (C0 : LCx prg s m meth c ba L xs) (hK : va_K (dC, dI0) vwCl [(cI, .int), (cZ, .boolean)] s) (hST : STR sk sv (fun q : Nat => s.heap.size ≤ q) s s.heap) (hi4 : i + 4 ≤ L) (hk : LKt prg l env s m below meth c dC dI0 cI cZ h4 h5 ba i (i + 4) 733) : LKt prg l env s m below meth c dC dI0 cI cZ h4 h5 ba i i 614 := by
  obtain ⟨hx, hb, hr, hml, hown, hts, hX, hbl, hlocks⟩ := C0
  have hA : ∀ q : Nat, s.heap.size ≤ q → (fun q : Nat => s.heap.size ≤ q) q := fun _ h => h
  have hbA : ¬ (fun q : Nat => s.heap.size ≤ q) ba := Nat.not_le.mpr hbl
  intro wx wm H locs hI hP hD hS ls hl
  obtain ⟨pl, le, n, k, h, b, d, dr, sc, sp, sn, sm, cr, hd, hi, kk2, hh2, bb2, dd2, dk, ks, sp2, sn2, sm2, hBX, hBM, hdr, hdk, hhd, hn0, hcrN⟩ := hI
  have hcr : cr < 2 ^ 30 := by omega
  refine lv_aload_n hx hb dL_law_614 rfl (lv_at hl 1 rfl) ?_
  have hPc := va_Pl hP
  have hDc := va_Dl hD
  have hFc := va_fl hD hS hA
  obtain ⟨fs615, hh615⟩ := BX_head hBX
  refine va_calli (va_runV (As := []) (rest := []) ⟨hx, hb, hml, hown, hts⟩ (MX_forget l dC dI0 cI cZ h4 H.size  hBX) (cwV 0 hts gL_law_X4_forget rfl rfl rfl (by decide +kernel) ⟨Nat.le_of_ble_eq_true rfl, Nat.le_of_ble_eq_true rfl⟩) ⟨fun a U g mk q => by obtain ⟨q0, q1, qP, qK, qD⟩ := q; exact ⟨q0, q1, qP, va_K.moved (u := U) (U := U.calling g mk a) (Vm.Alike.refl U.vm) qK, qD⟩, va_recv hK hPc (ci := 4) (q0 := 0) rfl hh615, fun U hU hW => ⟨rfl, by rw [hU], by rw [hU]; exact hPc, va_K.moved hW.alike hK, hDc.weaken (fun _ _ _ _ => trivial)⟩⟩ rfl rfl hl.1 rfl (lv_room (Nat.le_of_ble_eq_true rfl)) dL_law_615 ⟨Nat.le_of_ble_eq_true rfl, Nat.le_of_ble_eq_true rfl⟩) hS (fun q _ h => hFc q h) hFc (fun r615 u615 t7 H1 locs ht7 hvm7 hw615 hB hz1 hk1 hS => ?_)
  obtain ⟨hP1, hK1, hD1⟩ := hB
  rw [ht7] at hP1
  obtain ⟨hP, hD⟩ := va_jl hP hD hk1 hFc hP1 hD1
  generalize H1 = H at hP hS ⊢
  obtain ⟨er615, hBX2⟩ := hw615
  refine lv_aload_n hx hb dL_law_618 rfl (lv_at hl 2 rfl) ?_
  have hPc := va_Pl hP
  have hDc := va_Dl hD
  have hFc := va_fl hD hS hA
  obtain ⟨fs619, hh619⟩ := BM_head hBM
  refine va_calli (va_runV (As := []) (rest := [.int r615]) ⟨hx, hb, hml, hown, hts⟩ (MM_forget l dC dI0 cI cZ h5 H.size  hBM) (cwV 0 hts gL_law_X5_forget rfl rfl rfl (by decide +kernel) ⟨Nat.le_of_ble_eq_true rfl, Nat.le_of_ble_eq_true rfl⟩) ⟨fun a U g mk q => by obtain ⟨q0, q1, qP, qK, qD⟩ := q; exact ⟨q0, q1, qP, va_K.moved (u := U) (U := U.calling g mk a) (Vm.Alike.refl U.vm) qK, qD⟩, va_recv hK hPc (ci := 5) (q0 := 0) rfl hh619, fun U hU hW => ⟨rfl, by rw [hU], by rw [hU]; exact hPc, va_K.moved hW.alike hK, hDc.weaken (fun _ _ _ _ => trivial)⟩⟩ rfl rfl hl.1 rfl (lv_room (Nat.le_of_ble_eq_true rfl)) dL_law_619 ⟨Nat.le_of_ble_eq_true rfl, Nat.le_of_ble_eq_true rfl⟩) hS (fun q _ h => hFc q h) hFc (fun r619 u619 t7 H1 locs ht7 hvm7 hw619 hB hz1 hk1 hS => ?_)
  obtain ⟨hP1, hK1, hD1⟩ := hB
  rw [ht7] at hP1
  obtain ⟨hP, hD⟩ := va_jl hP hD hk1 hFc hP1 hD1
  generalize H1 = H at hP hS ⊢
  obtain ⟨er619, hBM2⟩ := hw619
  refine lv_icmp_eq (tgt := 733) hx hb dL_law_622 (by decide) (fun c622 => ?_) (fun c622 => ?_)
  · exact hk _ _ _ _ ⟨pl, le, n, k, h, b, d, dr, 0, sp, sn, sm, cr, hd, hi, kk2, hh2, bb2, dd2, dk, ks, sp2, sn2, sm2, hBX2, hBM2, hdr, hdk, hhd, hn0, (Nat.le_trans hcrN (by omega))⟩ hP hD hS ls hl
  exact absurd (er615.trans er619.symm) c622
set_option maxHeartbeats 4000000 in
set_option maxRecDepth 100000 in
theorem LC19 {prg : Program} {l : Launch} {env : Env} {s : State} {m : MethodId} {below : List Frame} {meth : Method} {c : Code} {dC : Nat → ClassId} {dI0 : Nat → Nat → Nat} {cI cZ : ClassId} {h4 h5 ba L i sk sv : Nat} {xs : Nat → Int32} (hL : L ≤ 2048) (C0 : LCx prg s m meth c ba L xs) (hK : va_K (dC, dI0) vwCl [(cI, .int), (cZ, .boolean)] s) (hST : STR sk sv (fun q : Nat => s.heap.size ≤ q) s s.heap) (hi4 : i + 4 ≤ L) (hk : LKt prg l env s m below meth c dC dI0 cI cZ h4 h5 ba i (i + 4) 733) : LKt prg l env s m below meth c dC dI0 cI cZ h4 h5 ba i i 627 := by
  obtain ⟨hx, hb, hr, hml, hown, hts, hX, hbl, hlocks⟩ := C0
  have hA : ∀ q : Nat, s.heap.size ≤ q → (fun q : Nat => s.heap.size ≤ q) q := fun _ h => h
  have hbA : ¬ (fun q : Nat => s.heap.size ≤ q) ba := Nat.not_le.mpr hbl
  intro wx wm H locs hI hP hD hS ls hl
  obtain ⟨pl, le, n, k, h, b, d, dr, sc, sp, sn, sm, cr, hd, hi, kk2, hh2, bb2, dd2, dk, ks, sp2, sn2, sm2, hBX, hBM, hdr, hdk, hhd, hn0, hcrN⟩ := hI
  have hcr : cr < 2 ^ 30 := by omega
  refine lv_aload_n hx hb dL_law_627 rfl (lv_at hl 1 rfl) ?_
  refine lv_aload_n hx hb dL_law_628 rfl (lv_at hl 0 rfl) ?_
  refine lv_iload_n hx hb dL_law_629 rfl (lv_at hl 3 rfl) ?_
  refine lv_iconst (v := nI 1) hx hb dL_law_630 (by decide) ?_
  refine lv_iadd hx hb dL_law_631 ?_
  refine lv_topi (fun x631 e631 => ?_)
  obtain rfl : x631 = nI (i + 1) := e631.trans (nI_add _ _)
  refine va_sld hx hb hX hbl hbA hS (vp_in_nI (by omega) (by omega)) dL_law_632 ?_
  refine lv_topi (fun x632 e632 => ?_)
  refine lv_aload_n hx hb dL_law_633 rfl (lv_at hl 0 rfl) ?_
  refine lv_iload_n hx hb dL_law_634 rfl (lv_at hl 3 rfl) ?_
  refine lv_iconst (v := nI 2) hx hb dL_law_635 (by decide) ?_
  refine lv_iadd hx hb dL_law_636 ?_
  refine lv_topi (fun x636 e636 => ?_)
  obtain rfl : x636 = nI (i + 2) := e636.trans (nI_add _ _)
  refine va_sld hx hb hX hbl hbA hS (vp_in_nI (by omega) (by omega)) dL_law_637 ?_
  refine lv_topi (fun x637 e637 => ?_)
  refine lv_aload_n hx hb dL_law_638 rfl (lv_at hl 0 rfl) ?_
  refine lv_iload_n hx hb dL_law_639 rfl (lv_at hl 3 rfl) ?_
  refine lv_iconst (v := nI 3) hx hb dL_law_640 (by decide) ?_
  refine lv_iadd hx hb dL_law_641 ?_
  refine lv_topi (fun x641 e641 => ?_)
  obtain rfl : x641 = nI (i + 3) := e641.trans (nI_add _ _)
  refine va_sld hx hb hX hbl hbA hS (vp_in_nI (by omega) (by omega)) dL_law_642 ?_
  refine lv_topi (fun x642 e642 => ?_)
  have hPc := va_Pl hP
  have hDc := va_Dl hD
  have hFc := va_fl hD hS hA
  obtain ⟨fs643, hh643⟩ := BX_head hBX
  refine va_calli (va_runV (As := [.int x632, .int x637, .int x642]) (rest := []) ⟨hx, hb, hml, hown, hts⟩ (MX_drawn l dC dI0 cI cZ h4 H.size x632 x637 x642 hBX) (cwV 3 hts gL_law_X4_drawn rfl rfl rfl (by decide +kernel) ⟨Nat.le_of_ble_eq_true rfl, Nat.le_of_ble_eq_true rfl⟩) ⟨fun a U g mk q => by obtain ⟨q0, q1, qP, qK, qD⟩ := q; exact ⟨q0, q1, qP, va_K.moved (u := U) (U := U.calling g mk a) (Vm.Alike.refl U.vm) qK, qD⟩, va_recv hK hPc (ci := 4) (q0 := 0) rfl hh643, fun U hU hW => ⟨rfl, by rw [hU], by rw [hU]; exact hPc, va_K.moved hW.alike hK, hDc.weaken (fun _ _ _ _ => trivial)⟩⟩ rfl rfl hl.1 rfl (lv_room (Nat.le_of_ble_eq_true rfl)) dL_law_643 ⟨Nat.le_of_ble_eq_true rfl, Nat.le_of_ble_eq_true rfl⟩) hS (fun q _ h => hFc q h) hFc (fun r643 u643 t7 H1 locs ht7 hvm7 hw643 hB hz1 hk1 hS => ?_)
  obtain ⟨hP1, hK1, hD1⟩ := hB
  rw [ht7] at hP1
  obtain ⟨hP, hD⟩ := va_jl hP hD hk1 hFc hP1 hD1
  generalize H1 = H at hP hS ⊢
  obtain ⟨er643, hBX2⟩ := hw643
  refine lv_aload_n hx hb dL_law_646 rfl (lv_at hl 2 rfl) ?_
  refine lv_aload_n hx hb dL_law_647 rfl (lv_at hl 0 rfl) ?_
  refine lv_iload_n hx hb dL_law_648 rfl (lv_at hl 3 rfl) ?_
  refine lv_iconst (v := nI 1) hx hb dL_law_649 (by decide) ?_
  refine lv_iadd hx hb dL_law_650 ?_
  refine lv_topi (fun x650 e650 => ?_)
  obtain rfl : x650 = nI (i + 1) := e650.trans (nI_add _ _)
  refine va_sld hx hb hX hbl hbA hS (vp_in_nI (by omega) (by omega)) dL_law_651 ?_
  refine lv_topi (fun x651 e651 => ?_)
  have ee651 : x632 = x651 := e632.trans e651.symm
  subst ee651
  refine lv_aload_n hx hb dL_law_652 rfl (lv_at hl 0 rfl) ?_
  refine lv_iload_n hx hb dL_law_653 rfl (lv_at hl 3 rfl) ?_
  refine lv_iconst (v := nI 2) hx hb dL_law_654 (by decide) ?_
  refine lv_iadd hx hb dL_law_655 ?_
  refine lv_topi (fun x655 e655 => ?_)
  obtain rfl : x655 = nI (i + 2) := e655.trans (nI_add _ _)
  refine va_sld hx hb hX hbl hbA hS (vp_in_nI (by omega) (by omega)) dL_law_656 ?_
  refine lv_topi (fun x656 e656 => ?_)
  have ee656 : x637 = x656 := e637.trans e656.symm
  subst ee656
  refine lv_aload_n hx hb dL_law_657 rfl (lv_at hl 0 rfl) ?_
  refine lv_iload_n hx hb dL_law_658 rfl (lv_at hl 3 rfl) ?_
  refine lv_iconst (v := nI 3) hx hb dL_law_659 (by decide) ?_
  refine lv_iadd hx hb dL_law_660 ?_
  refine lv_topi (fun x660 e660 => ?_)
  obtain rfl : x660 = nI (i + 3) := e660.trans (nI_add _ _)
  refine va_sld hx hb hX hbl hbA hS (vp_in_nI (by omega) (by omega)) dL_law_661 ?_
  refine lv_topi (fun x661 e661 => ?_)
  have ee661 : x642 = x661 := e642.trans e661.symm
  subst ee661
  have hPc := va_Pl hP
  have hDc := va_Dl hD
  have hFc := va_fl hD hS hA
  obtain ⟨fs662, hh662⟩ := BM_head hBM
  refine va_calli (va_runV (As := [.int x632, .int x637, .int x642]) (rest := [.int r643]) ⟨hx, hb, hml, hown, hts⟩ (MM_drawn l dC dI0 cI cZ h5 H.size x632 x637 x642 hBM) (cwV 3 hts gL_law_X5_drawn rfl rfl rfl (by decide +kernel) ⟨Nat.le_of_ble_eq_true rfl, Nat.le_of_ble_eq_true rfl⟩) ⟨fun a U g mk q => by obtain ⟨q0, q1, qP, qK, qD⟩ := q; exact ⟨q0, q1, qP, va_K.moved (u := U) (U := U.calling g mk a) (Vm.Alike.refl U.vm) qK, qD⟩, va_recv hK hPc (ci := 5) (q0 := 0) rfl hh662, fun U hU hW => ⟨rfl, by rw [hU], by rw [hU]; exact hPc, va_K.moved hW.alike hK, hDc.weaken (fun _ _ _ _ => trivial)⟩⟩ rfl rfl hl.1 rfl (lv_room (Nat.le_of_ble_eq_true rfl)) dL_law_662 ⟨Nat.le_of_ble_eq_true rfl, Nat.le_of_ble_eq_true rfl⟩) hS (fun q _ h => hFc q h) hFc (fun r662 u662 t7 H1 locs ht7 hvm7 hw662 hB hz1 hk1 hS => ?_)
  obtain ⟨hP1, hK1, hD1⟩ := hB
  rw [ht7] at hP1
  obtain ⟨hP, hD⟩ := va_jl hP hD hk1 hFc hP1 hD1
  generalize H1 = H at hP hS ⊢
  obtain ⟨er662, hBM2⟩ := hw662
  refine lv_icmp_eq (tgt := 733) hx hb dL_law_665 (by decide) (fun c665 => ?_) (fun c665 => ?_)
  · exact hk _ _ _ _ ⟨pl, le, n, k, h, b, d, dr, sc, sp, sn, sm, cr, hd, hi, kk2, hh2, bb2, dd2, dk, ks, sp2, sn2, sm2, hBX2, hBM2, hdr, hdk, hhd, hn0, (Nat.le_trans hcrN (by omega))⟩ hP hD hS ls hl
  exact absurd (er643.trans er662.symm) c665
set_option maxHeartbeats 4000000 in
set_option maxRecDepth 100000 in
theorem LC20 {prg : Program} {l : Launch} {env : Env} {s : State} {m : MethodId} {below : List Frame} {meth : Method} {c : Code} {dC : Nat → ClassId} {dI0 : Nat → Nat → Nat} {cI cZ : ClassId} {h4 h5 ba L i sk sv : Nat} {xs : Nat → Int32} (hL : L ≤ 2048) (C0 : LCx prg s m meth c ba L xs) (hK : va_K (dC, dI0) vwCl [(cI, .int), (cZ, .boolean)] s) (hST : STR sk sv (fun q : Nat => s.heap.size ≤ q) s s.heap) (hi4 : i + 4 ≤ L) (hk : LKt prg l env s m below meth c dC dI0 cI cZ h4 h5 ba i (i + 4) 733) : LKt prg l env s m below meth c dC dI0 cI cZ h4 h5 ba i i 670 := by
  obtain ⟨hx, hb, hr, hml, hown, hts, hX, hbl, hlocks⟩ := C0
  have hA : ∀ q : Nat, s.heap.size ≤ q → (fun q : Nat => s.heap.size ≤ q) q := fun _ h => h
  have hbA : ¬ (fun q : Nat => s.heap.size ≤ q) ba := Nat.not_le.mpr hbl
  intro wx wm H locs hI hP hD hS ls hl
  obtain ⟨pl, le, n, k, h, b, d, dr, sc, sp, sn, sm, cr, hd, hi, kk2, hh2, bb2, dd2, dk, ks, sp2, sn2, sm2, hBX, hBM, hdr, hdk, hhd, hn0, hcrN⟩ := hI
  have hcr : cr < 2 ^ 30 := by omega
  refine lv_aload_n hx hb dL_law_670 rfl (lv_at hl 1 rfl) ?_
  have hPc := va_Pl hP
  have hDc := va_Dl hD
  have hFc := va_fl hD hS hA
  obtain ⟨fs671, hh671⟩ := BX_head hBX
  refine va_calli (va_runV (As := []) (rest := []) ⟨hx, hb, hml, hown, hts⟩ (MX_image l dC dI0 cI cZ h4 H.size  hBX hn0) (cwV 0 hts gL_law_X4_image rfl rfl rfl (by decide +kernel) ⟨Nat.le_of_ble_eq_true rfl, Nat.le_of_ble_eq_true rfl⟩) ⟨fun a U g mk q => by obtain ⟨q0, q1, qP, qK, qD⟩ := q; exact ⟨q0, q1, qP, va_K.moved (u := U) (U := U.calling g mk a) (Vm.Alike.refl U.vm) qK, qD⟩, va_recv hK hPc (ci := 4) (q0 := 0) rfl hh671, fun U hU hW => ⟨rfl, by rw [hU], by rw [hU]; exact hPc, va_K.moved hW.alike hK, hDc.weaken (fun _ _ _ _ => trivial)⟩⟩ rfl rfl hl.1 rfl (lv_room (Nat.le_of_ble_eq_true rfl)) dL_law_671 ⟨Nat.le_of_ble_eq_true rfl, Nat.le_of_ble_eq_true rfl⟩) hS (fun q _ h => hFc q h) hFc (fun r671 u671 t7 H1 locs ht7 hvm7 hw671 hB hz1 hk1 hS => ?_)
  obtain ⟨hP1, hK1, hD1⟩ := hB
  rw [ht7] at hP1
  obtain ⟨hP, hD⟩ := va_jl hP hD hk1 hFc hP1 hD1
  generalize H1 = H at hP hS ⊢
  obtain ⟨er671, hBX2⟩ := hw671
  refine lv_aload_n hx hb dL_law_674 rfl (lv_at hl 2 rfl) ?_
  have hPc := va_Pl hP
  have hDc := va_Dl hD
  have hFc := va_fl hD hS hA
  obtain ⟨fs675, hh675⟩ := BM_head hBM
  refine va_calli (va_runV (As := []) (rest := [.int r671]) ⟨hx, hb, hml, hown, hts⟩ (MM_image l dC dI0 cI cZ h5 H.size  hBM hn0) (cwV 0 hts gL_law_X5_image rfl rfl rfl (by decide +kernel) ⟨Nat.le_of_ble_eq_true rfl, Nat.le_of_ble_eq_true rfl⟩) ⟨fun a U g mk q => by obtain ⟨q0, q1, qP, qK, qD⟩ := q; exact ⟨q0, q1, qP, va_K.moved (u := U) (U := U.calling g mk a) (Vm.Alike.refl U.vm) qK, qD⟩, va_recv hK hPc (ci := 5) (q0 := 0) rfl hh675, fun U hU hW => ⟨rfl, by rw [hU], by rw [hU]; exact hPc, va_K.moved hW.alike hK, hDc.weaken (fun _ _ _ _ => trivial)⟩⟩ rfl rfl hl.1 rfl (lv_room (Nat.le_of_ble_eq_true rfl)) dL_law_675 ⟨Nat.le_of_ble_eq_true rfl, Nat.le_of_ble_eq_true rfl⟩) hS (fun q _ h => hFc q h) hFc (fun r675 u675 t7 H1 locs ht7 hvm7 hw675 hB hz1 hk1 hS => ?_)
  obtain ⟨hP1, hK1, hD1⟩ := hB
  rw [ht7] at hP1
  obtain ⟨hP, hD⟩ := va_jl hP hD hk1 hFc hP1 hD1
  generalize H1 = H at hP hS ⊢
  obtain ⟨er675, hBM2⟩ := hw675
  refine lv_icmp_eq (tgt := 733) hx hb dL_law_678 (by decide) (fun c678 => ?_) (fun c678 => ?_)
  · exact hk _ _ _ _ ⟨pl, le, n, k, h, b, d, dr, sc, sp, sn, sm, cr, hd, (if n = 0 then hi else true), k, h, b, d, dr, sc, sp, sn, sm, hBX2, hBM2, hdr, hdr, hhd, (fun z => by rw [if_pos z]; exact hn0 z), (Nat.le_trans hcrN (by omega))⟩ hP hD hS ls hl
  exact absurd (er671.trans er675.symm) c678
set_option maxHeartbeats 4000000 in
set_option maxRecDepth 100000 in
theorem LC21 {prg : Program} {l : Launch} {env : Env} {s : State} {m : MethodId} {below : List Frame} {meth : Method} {c : Code} {dC : Nat → ClassId} {dI0 : Nat → Nat → Nat} {cI cZ : ClassId} {h4 h5 ba L i sk sv : Nat} {xs : Nat → Int32} (hL : L ≤ 2048) (C0 : LCx prg s m meth c ba L xs) (hK : va_K (dC, dI0) vwCl [(cI, .int), (cZ, .boolean)] s) (hST : STR sk sv (fun q : Nat => s.heap.size ≤ q) s s.heap) (hi4 : i + 4 ≤ L) (hk : LKt prg l env s m below meth c dC dI0 cI cZ h4 h5 ba i (i + 4) 733) : LKt prg l env s m below meth c dC dI0 cI cZ h4 h5 ba i i 683 := by
  obtain ⟨hx, hb, hr, hml, hown, hts, hX, hbl, hlocks⟩ := C0
  have hA : ∀ q : Nat, s.heap.size ≤ q → (fun q : Nat => s.heap.size ≤ q) q := fun _ h => h
  have hbA : ¬ (fun q : Nat => s.heap.size ≤ q) ba := Nat.not_le.mpr hbl
  intro wx wm H locs hI hP hD hS ls hl
  obtain ⟨pl, le, n, k, h, b, d, dr, sc, sp, sn, sm, cr, hd, hi, kk2, hh2, bb2, dd2, dk, ks, sp2, sn2, sm2, hBX, hBM, hdr, hdk, hhd, hn0, hcrN⟩ := hI
  have hcr : cr < 2 ^ 30 := by omega
  refine lv_aload_n hx hb dL_law_683 rfl (lv_at hl 1 rfl) ?_
  have hPc := va_Pl hP
  have hDc := va_Dl hD
  have hFc := va_fl hD hS hA
  obtain ⟨fs684, hh684⟩ := BX_head hBX
  refine va_calli (va_runV (As := []) (rest := []) ⟨hx, hb, hml, hown, hts⟩ (MX_restore l dC dI0 cI cZ h4 H.size  hBX) (cwV 0 hts gL_law_X4_restore rfl rfl rfl (by decide +kernel) ⟨Nat.le_of_ble_eq_true rfl, Nat.le_of_ble_eq_true rfl⟩) ⟨fun a U g mk q => by obtain ⟨q0, q1, qP, qK, qD⟩ := q; exact ⟨q0, q1, qP, va_K.moved (u := U) (U := U.calling g mk a) (Vm.Alike.refl U.vm) qK, qD⟩, va_recv hK hPc (ci := 4) (q0 := 0) rfl hh684, fun U hU hW => ⟨rfl, by rw [hU], by rw [hU]; exact hPc, va_K.moved hW.alike hK, hDc.weaken (fun _ _ _ _ => trivial)⟩⟩ rfl rfl hl.1 rfl (lv_room (Nat.le_of_ble_eq_true rfl)) dL_law_684 ⟨Nat.le_of_ble_eq_true rfl, Nat.le_of_ble_eq_true rfl⟩) hS (fun q _ h => hFc q h) hFc (fun r684 u684 t7 H1 locs ht7 hvm7 hw684 hB hz1 hk1 hS => ?_)
  obtain ⟨hP1, hK1, hD1⟩ := hB
  rw [ht7] at hP1
  obtain ⟨hP, hD⟩ := va_jl hP hD hk1 hFc hP1 hD1
  generalize H1 = H at hP hS ⊢
  obtain ⟨er684, hBX2⟩ := hw684
  refine lv_aload_n hx hb dL_law_687 rfl (lv_at hl 2 rfl) ?_
  have hPc := va_Pl hP
  have hDc := va_Dl hD
  have hFc := va_fl hD hS hA
  obtain ⟨fs688, hh688⟩ := BM_head hBM
  refine va_calli (va_runV (As := []) (rest := [.int r684]) ⟨hx, hb, hml, hown, hts⟩ (MM_restore l dC dI0 cI cZ h5 H.size  hBM hcr) (cwV 0 hts gL_law_X5_restore rfl rfl rfl (by decide +kernel) ⟨Nat.le_of_ble_eq_true rfl, Nat.le_of_ble_eq_true rfl⟩) ⟨fun a U g mk q => by obtain ⟨q0, q1, qP, qK, qD⟩ := q; exact ⟨q0, q1, qP, va_K.moved (u := U) (U := U.calling g mk a) (Vm.Alike.refl U.vm) qK, qD⟩, va_recv hK hPc (ci := 5) (q0 := 0) rfl hh688, fun U hU hW => ⟨rfl, by rw [hU], by rw [hU]; exact hPc, va_K.moved hW.alike hK, hDc.weaken (fun _ _ _ _ => trivial)⟩⟩ rfl rfl hl.1 rfl (lv_room (Nat.le_of_ble_eq_true rfl)) dL_law_688 ⟨Nat.le_of_ble_eq_true rfl, Nat.le_of_ble_eq_true rfl⟩) hS (fun q _ h => hFc q h) hFc (fun r688 u688 t7 H1 locs ht7 hvm7 hw688 hB hz1 hk1 hS => ?_)
  obtain ⟨hP1, hK1, hD1⟩ := hB
  rw [ht7] at hP1
  obtain ⟨hP, hD⟩ := va_jl hP hD hk1 hFc hP1 hD1
  generalize H1 = H at hP hS ⊢
  obtain ⟨er688, hBM2⟩ := hw688
  refine lv_icmp_eq (tgt := 733) hx hb dL_law_691 (by decide) (fun c691 => ?_) (fun c691 => ?_)
  · exact hk _ _ _ _ ⟨pl, le, n, (if hi = true then kk2 else k), (if hi = true then hh2 else h), (if hi = true then bb2 else b), (if hi = true then dd2 else d), (if hi = true then dk else dr), (if hi = true then ks else sc), (if hi = true then sp2 else sp), (if hi = true then sn2 else sn), (if hi = true then sm2 else sm), cr, hd, hi, kk2, hh2, bb2, dd2, dk, ks, sp2, sn2, sm2, hBX2, hBM2, (by split <;> omega), hdk, hhd, hn0, (Nat.le_trans hcrN (by omega))⟩ hP hD hS ls hl
  exact absurd (er684.trans er688.symm) c691
set_option maxHeartbeats 4000000 in
set_option maxRecDepth 100000 in
theorem LC22 {prg : Program} {l : Launch} {env : Env} {s : State} {m : MethodId} {below : List Frame} {meth : Method} {c : Code} {dC : Nat → ClassId} {dI0 : Nat → Nat → Nat} {cI cZ : ClassId} {h4 h5 ba L i sk sv : Nat} {xs : Nat → Int32} (hL : L ≤ 2048) (C0 : LCx prg s m meth c ba L xs) (hK : va_K (dC, dI0) vwCl [(cI, .int), (cZ, .boolean)] s) (hST : STR sk sv (fun q : Nat => s.heap.size ≤ q) s s.heap) (hi4 : i + 4 ≤ L) (hk : LKt prg l env s m below meth c dC dI0 cI cZ h4 h5 ba i (i + 4) 733) : LKt prg l env s m below meth c dC dI0 cI cZ h4 h5 ba i i 696 := by
  obtain ⟨hx, hb, hr, hml, hown, hts, hX, hbl, hlocks⟩ := C0
  have hA : ∀ q : Nat, s.heap.size ≤ q → (fun q : Nat => s.heap.size ≤ q) q := fun _ h => h
  have hbA : ¬ (fun q : Nat => s.heap.size ≤ q) ba := Nat.not_le.mpr hbl
  intro wx wm H locs hI hP hD hS ls hl
  obtain ⟨pl, le, n, k, h, b, d, dr, sc, sp, sn, sm, cr, hd, hi, kk2, hh2, bb2, dd2, dk, ks, sp2, sn2, sm2, hBX, hBM, hdr, hdk, hhd, hn0, hcrN⟩ := hI
  have hcr : cr < 2 ^ 30 := by omega
  refine lv_aload_n hx hb dL_law_696 rfl (lv_at hl 1 rfl) ?_
  refine lv_aload_n hx hb dL_law_697 rfl (lv_at hl 0 rfl) ?_
  refine lv_iload_n hx hb dL_law_698 rfl (lv_at hl 3 rfl) ?_
  refine lv_iconst (v := nI 1) hx hb dL_law_699 (by decide) ?_
  refine lv_iadd hx hb dL_law_700 ?_
  refine lv_topi (fun x700 e700 => ?_)
  obtain rfl : x700 = nI (i + 1) := e700.trans (nI_add _ _)
  refine va_sld hx hb hX hbl hbA hS (vp_in_nI (by omega) (by omega)) dL_law_701 ?_
  refine lv_topi (fun x701 e701 => ?_)
  have hPc := va_Pl hP
  have hDc := va_Dl hD
  have hFc := va_fl hD hS hA
  obtain ⟨fs702, hh702⟩ := BX_head hBX
  refine va_calli (va_runV (As := [.int x701]) (rest := []) ⟨hx, hb, hml, hown, hts⟩ (MX_count l dC dI0 cI cZ h4 H.size x701 hBX) (cwV 1 hts gL_law_X4_count rfl rfl rfl (by decide +kernel) ⟨Nat.le_of_ble_eq_true rfl, Nat.le_of_ble_eq_true rfl⟩) ⟨fun a U g mk q => by obtain ⟨q0, q1, qP, qK, qD⟩ := q; exact ⟨q0, q1, qP, va_K.moved (u := U) (U := U.calling g mk a) (Vm.Alike.refl U.vm) qK, qD⟩, va_recv hK hPc (ci := 4) (q0 := 0) rfl hh702, fun U hU hW => ⟨rfl, by rw [hU], by rw [hU]; exact hPc, va_K.moved hW.alike hK, hDc.weaken (fun _ _ _ _ => trivial)⟩⟩ rfl rfl hl.1 rfl (lv_room (Nat.le_of_ble_eq_true rfl)) dL_law_702 ⟨Nat.le_of_ble_eq_true rfl, Nat.le_of_ble_eq_true rfl⟩) hS (fun q _ h => hFc q h) hFc (fun r702 u702 t7 H1 locs ht7 hvm7 hw702 hB hz1 hk1 hS => ?_)
  obtain ⟨hP1, hK1, hD1⟩ := hB
  rw [ht7] at hP1
  obtain ⟨hP, hD⟩ := va_jl hP hD hk1 hFc hP1 hD1
  generalize H1 = H at hP hS ⊢
  obtain ⟨er702, hBX2⟩ := hw702
  refine lv_aload_n hx hb dL_law_705 rfl (lv_at hl 2 rfl) ?_
  refine lv_aload_n hx hb dL_law_706 rfl (lv_at hl 0 rfl) ?_
  refine lv_iload_n hx hb dL_law_707 rfl (lv_at hl 3 rfl) ?_
  refine lv_iconst (v := nI 1) hx hb dL_law_708 (by decide) ?_
  refine lv_iadd hx hb dL_law_709 ?_
  refine lv_topi (fun x709 e709 => ?_)
  obtain rfl : x709 = nI (i + 1) := e709.trans (nI_add _ _)
  refine va_sld hx hb hX hbl hbA hS (vp_in_nI (by omega) (by omega)) dL_law_710 ?_
  refine lv_topi (fun x710 e710 => ?_)
  have ee710 : x701 = x710 := e701.trans e710.symm
  subst ee710
  have hPc := va_Pl hP
  have hDc := va_Dl hD
  have hFc := va_fl hD hS hA
  obtain ⟨fs711, hh711⟩ := BM_head hBM
  refine va_calli (va_runV (As := [.int x701]) (rest := [.int r702]) ⟨hx, hb, hml, hown, hts⟩ (MM_count l dC dI0 cI cZ h5 H.size x701 hBM) (cwV 1 hts gL_law_X5_count rfl rfl rfl (by decide +kernel) ⟨Nat.le_of_ble_eq_true rfl, Nat.le_of_ble_eq_true rfl⟩) ⟨fun a U g mk q => by obtain ⟨q0, q1, qP, qK, qD⟩ := q; exact ⟨q0, q1, qP, va_K.moved (u := U) (U := U.calling g mk a) (Vm.Alike.refl U.vm) qK, qD⟩, va_recv hK hPc (ci := 5) (q0 := 0) rfl hh711, fun U hU hW => ⟨rfl, by rw [hU], by rw [hU]; exact hPc, va_K.moved hW.alike hK, hDc.weaken (fun _ _ _ _ => trivial)⟩⟩ rfl rfl hl.1 rfl (lv_room (Nat.le_of_ble_eq_true rfl)) dL_law_711 ⟨Nat.le_of_ble_eq_true rfl, Nat.le_of_ble_eq_true rfl⟩) hS (fun q _ h => hFc q h) hFc (fun r711 u711 t7 H1 locs ht7 hvm7 hw711 hB hz1 hk1 hS => ?_)
  obtain ⟨hP1, hK1, hD1⟩ := hB
  rw [ht7] at hP1
  obtain ⟨hP, hD⟩ := va_jl hP hD hk1 hFc hP1 hD1
  generalize H1 = H at hP hS ⊢
  obtain ⟨er711, hBM2⟩ := hw711
  refine lv_icmp_eq (tgt := 733) hx hb dL_law_714 (by decide) (fun c714 => ?_) (fun c714 => ?_)
  · exact hk _ _ _ _ ⟨pl, le, n, k, h, b, d, dr, sc, sp, sn, sm, cr, hd, hi, kk2, hh2, bb2, dd2, dk, ks, sp2, sn2, sm2, hBX2, hBM2, hdr, hdk, hhd, hn0, (Nat.le_trans hcrN (by omega))⟩ hP hD hS ls hl
  exact absurd (er702.trans er711.symm) c714
set_option maxHeartbeats 4000000 in
set_option maxRecDepth 100000 in
theorem LC23 {prg : Program} {l : Launch} {env : Env} {s : State} {m : MethodId} {below : List Frame} {meth : Method} {c : Code} {dC : Nat → ClassId} {dI0 : Nat → Nat → Nat} {cI cZ : ClassId} {h4 h5 ba L i sk sv : Nat} {xs : Nat → Int32} (hL : L ≤ 2048) (C0 : LCx prg s m meth c ba L xs) (hK : va_K (dC, dI0) vwCl [(cI, .int), (cZ, .boolean)] s) (hST : STR sk sv (fun q : Nat => s.heap.size ≤ q) s s.heap) (hi4 : i + 4 ≤ L) (hk : LKt prg l env s m below meth c dC dI0 cI cZ h4 h5 ba i (i + 4) 733) : LKt prg l env s m below meth c dC dI0 cI cZ h4 h5 ba i i 719 := by
  obtain ⟨hx, hb, hr, hml, hown, hts, hX, hbl, hlocks⟩ := C0
  have hA : ∀ q : Nat, s.heap.size ≤ q → (fun q : Nat => s.heap.size ≤ q) q := fun _ h => h
  have hbA : ¬ (fun q : Nat => s.heap.size ≤ q) ba := Nat.not_le.mpr hbl
  intro wx wm H locs hI hP hD hS ls hl
  obtain ⟨pl, le, n, k, h, b, d, dr, sc, sp, sn, sm, cr, hd, hi, kk2, hh2, bb2, dd2, dk, ks, sp2, sn2, sm2, hBX, hBM, hdr, hdk, hhd, hn0, hcrN⟩ := hI
  have hcr : cr < 2 ^ 30 := by omega
  refine lv_aload_n hx hb dL_law_719 rfl (lv_at hl 1 rfl) ?_
  have hPc := va_Pl hP
  have hDc := va_Dl hD
  have hFc := va_fl hD hS hA
  obtain ⟨fs720, hh720⟩ := BX_head hBX
  refine va_calll (va_runV (As := []) (rest := []) ⟨hx, hb, hml, hown, hts⟩ (MX_digest l dC dI0 cI cZ h4 H.size  hBX) (cwV 0 hts gL_law_X4_digest rfl rfl rfl (by decide +kernel) ⟨Nat.le_of_ble_eq_true rfl, Nat.le_of_ble_eq_true rfl⟩) ⟨fun a U g mk q => by obtain ⟨q0, q1, qP, qK, qD⟩ := q; exact ⟨q0, q1, qP, va_K.moved (u := U) (U := U.calling g mk a) (Vm.Alike.refl U.vm) qK, qD⟩, va_recv hK hPc (ci := 4) (q0 := 0) rfl hh720, fun U hU hW => ⟨rfl, by rw [hU], by rw [hU]; exact hPc, va_K.moved hW.alike hK, hDc.weaken (fun _ _ _ _ => trivial)⟩⟩ rfl rfl hl.1 rfl (lv_room (Nat.le_of_ble_eq_true rfl)) dL_law_720 ⟨Nat.le_of_ble_eq_true rfl, Nat.le_of_ble_eq_true rfl⟩) hS (fun q _ h => hFc q h) hFc (fun r720 u720 t7 H1 locs ht7 hvm7 hw720 hB hz1 hk1 hS => ?_)
  obtain ⟨hP1, hK1, hD1⟩ := hB
  rw [ht7] at hP1
  obtain ⟨hP, hD⟩ := va_jl hP hD hk1 hFc hP1 hD1
  generalize H1 = H at hP hS ⊢
  obtain ⟨er720, hBX2⟩ := hw720
  refine lv_aload_n hx hb dL_law_723 rfl (lv_at hl 2 rfl) ?_
  have hPc := va_Pl hP
  have hDc := va_Dl hD
  have hFc := va_fl hD hS hA
  obtain ⟨fs724, hh724⟩ := BM_head hBM
  refine va_calll (va_runV (As := []) (rest := [.long r720]) ⟨hx, hb, hml, hown, hts⟩ (MM_digest l dC dI0 cI cZ h5 H.size  hBM) (cwV 0 hts gL_law_X5_digest rfl rfl rfl (by decide +kernel) ⟨Nat.le_of_ble_eq_true rfl, Nat.le_of_ble_eq_true rfl⟩) ⟨fun a U g mk q => by obtain ⟨q0, q1, qP, qK, qD⟩ := q; exact ⟨q0, q1, qP, va_K.moved (u := U) (U := U.calling g mk a) (Vm.Alike.refl U.vm) qK, qD⟩, va_recv hK hPc (ci := 5) (q0 := 0) rfl hh724, fun U hU hW => ⟨rfl, by rw [hU], by rw [hU]; exact hPc, va_K.moved hW.alike hK, hDc.weaken (fun _ _ _ _ => trivial)⟩⟩ rfl rfl hl.1 rfl (lv_room (Nat.le_of_ble_eq_true rfl)) dL_law_724 ⟨Nat.le_of_ble_eq_true rfl, Nat.le_of_ble_eq_true rfl⟩) hS (fun q _ h => hFc q h) hFc (fun r724 u724 t7 H1 locs ht7 hvm7 hw724 hB hz1 hk1 hS => ?_)
  obtain ⟨hP1, hK1, hD1⟩ := hB
  rw [ht7] at hP1
  obtain ⟨hP, hD⟩ := va_jl hP hD hk1 hFc hP1 hD1
  generalize H1 = H at hP hS ⊢
  obtain ⟨er724, hBM2⟩ := hw724
  refine W.lcmp hx hb dL_law_727 ?_
  refine lv_if_eq (tgt := 733) hx hb dL_law_728 (by decide) (fun c728 => ?_) (fun c728 => ?_)
  · exact hk _ _ _ _ ⟨pl, le, n, k, h, b, d, dr, sc, sp, sn, sm, cr, hd, hi, kk2, hh2, bb2, dd2, dk, ks, sp2, sn2, sm2, hBX2, hBM2, hdr, hdk, hhd, hn0, (Nat.le_trans hcrN (by omega))⟩ hP hD hS ls hl
  exact absurd ((lg_cmp_eq _ _).mpr (er720.trans er724.symm)) c728
