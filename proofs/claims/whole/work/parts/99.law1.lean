set_option maxHeartbeats 4000000 in
set_option maxRecDepth 100000 in
theorem LC8 {prg : Program} {l : Launch} {env : Env} {s : State} {m : MethodId} {below : List Frame} {meth : Method} {c : Code} {dC : Nat → ClassId} {dI0 : Nat → Nat → Nat} {cI cZ : ClassId} {h4 h5 ba L i sk sv : Nat} {xs : Nat → Int32} (hL : L ≤ 2048) (C0 : LCx prg s m meth c ba L xs) (hK : va_K (dC, dI0) vwCl [(cI, .int), (cZ, .boolean)] s) (hST : STR sk sv (fun q : Nat => s.heap.size ≤ q) s s.heap) (hi4 : i + 4 ≤ L) (hk : LKt prg l env s m below meth c dC dI0 cI cZ h4 h5 ba i (i + 4) 733) : LKt prg l env s m below meth c dC dI0 cI cZ h4 h5 ba i i 328 := by
  obtain ⟨hx, hb, hr, hml, hown, hts, hX, hbl, hlocks⟩ := C0
  have hA : ∀ q : Nat, s.heap.size ≤ q → (fun q : Nat => s.heap.size ≤ q) q := fun _ h => h
  have hbA : ¬ (fun q : Nat => s.heap.size ≤ q) ba := Nat.not_le.mpr hbl
  intro wx wm H locs hI hP hD hS ls hl
  obtain ⟨pl, le, n, k, h, b, d, dr, sc, sp, sn, sm, cr, hd, hi, kk2, hh2, bb2, dd2, dk, ks, sp2, sn2, sm2, hBX, hBM, hdr, hdk, hhd, hn0, hcrN⟩ := hI
  have hcr : cr < 2 ^ 30 := by omega
  refine lv_aload_n hx hb dL_law_328 rfl (lv_at hl 1 rfl) ?_
  refine lv_aload_n hx hb dL_law_329 rfl (lv_at hl 0 rfl) ?_
  refine lv_iload_n hx hb dL_law_330 rfl (lv_at hl 3 rfl) ?_
  refine lv_iconst (v := nI 1) hx hb dL_law_331 (by decide) ?_
  refine lv_iadd hx hb dL_law_332 ?_
  refine lv_topi (fun x332 e332 => ?_)
  obtain rfl : x332 = nI (i + 1) := e332.trans (nI_add _ _)
  refine va_sld hx hb hX hbl hbA hS (vp_in_nI (by omega) (by omega)) dL_law_333 ?_
  refine lv_topi (fun x333 e333 => ?_)
  refine lv_aload_n hx hb dL_law_334 rfl (lv_at hl 0 rfl) ?_
  refine lv_iload_n hx hb dL_law_335 rfl (lv_at hl 3 rfl) ?_
  refine lv_iconst (v := nI 2) hx hb dL_law_336 (by decide) ?_
  refine lv_iadd hx hb dL_law_337 ?_
  refine lv_topi (fun x337 e337 => ?_)
  obtain rfl : x337 = nI (i + 2) := e337.trans (nI_add _ _)
  refine va_sld hx hb hX hbl hbA hS (vp_in_nI (by omega) (by omega)) dL_law_338 ?_
  refine lv_topi (fun x338 e338 => ?_)
  have hPc := va_Pl hP
  have hDc := va_Dl hD
  have hFc := va_fl hD hS hA
  obtain ⟨fs339, hh339⟩ := BX_head hBX
  refine va_calli (va_runV (As := [.int x333, .int x338]) (rest := []) ⟨hx, hb, hml, hown, hts⟩ (MX_exchange l dC dI0 cI cZ h4 H.size x333 x338 hBX) (cwV 2 hts gL_law_X4_exchange rfl rfl rfl (by decide +kernel) ⟨Nat.le_of_ble_eq_true rfl, Nat.le_of_ble_eq_true rfl⟩) ⟨fun a U g mk q => by obtain ⟨q0, q1, qP, qK, qD⟩ := q; exact ⟨q0, q1, qP, va_K.moved (u := U) (U := U.calling g mk a) (Vm.Alike.refl U.vm) qK, qD⟩, va_recv hK hPc (ci := 4) (q0 := 0) rfl hh339, fun U hU hW => ⟨rfl, by rw [hU], by rw [hU]; exact hPc, va_K.moved hW.alike hK, hDc.weaken (fun _ _ _ _ => trivial)⟩⟩ rfl rfl hl.1 rfl (lv_room (Nat.le_of_ble_eq_true rfl)) dL_law_339 ⟨Nat.le_of_ble_eq_true rfl, Nat.le_of_ble_eq_true rfl⟩) hS (fun q _ h => hFc q h) hFc (fun r339 u339 t7 H1 locs ht7 hvm7 hw339 hB hz1 hk1 hS => ?_)
  obtain ⟨hP1, hK1, hD1⟩ := hB
  rw [ht7] at hP1
  obtain ⟨hP, hD⟩ := va_jl hP hD hk1 hFc hP1 hD1
  generalize H1 = H at hP hS ⊢
  obtain ⟨er339, hBX2⟩ := hw339
  refine lv_aload_n hx hb dL_law_342 rfl (lv_at hl 2 rfl) ?_
  refine lv_aload_n hx hb dL_law_343 rfl (lv_at hl 0 rfl) ?_
  refine lv_iload_n hx hb dL_law_344 rfl (lv_at hl 3 rfl) ?_
  refine lv_iconst (v := nI 1) hx hb dL_law_345 (by decide) ?_
  refine lv_iadd hx hb dL_law_346 ?_
  refine lv_topi (fun x346 e346 => ?_)
  obtain rfl : x346 = nI (i + 1) := e346.trans (nI_add _ _)
  refine va_sld hx hb hX hbl hbA hS (vp_in_nI (by omega) (by omega)) dL_law_347 ?_
  refine lv_topi (fun x347 e347 => ?_)
  have ee347 : x333 = x347 := e333.trans e347.symm
  subst ee347
  refine lv_aload_n hx hb dL_law_348 rfl (lv_at hl 0 rfl) ?_
  refine lv_iload_n hx hb dL_law_349 rfl (lv_at hl 3 rfl) ?_
  refine lv_iconst (v := nI 2) hx hb dL_law_350 (by decide) ?_
  refine lv_iadd hx hb dL_law_351 ?_
  refine lv_topi (fun x351 e351 => ?_)
  obtain rfl : x351 = nI (i + 2) := e351.trans (nI_add _ _)
  refine va_sld hx hb hX hbl hbA hS (vp_in_nI (by omega) (by omega)) dL_law_352 ?_
  refine lv_topi (fun x352 e352 => ?_)
  have ee352 : x338 = x352 := e338.trans e352.symm
  subst ee352
  have hPc := va_Pl hP
  have hDc := va_Dl hD
  have hFc := va_fl hD hS hA
  obtain ⟨fs353, hh353⟩ := BM_head hBM
  refine va_calli (va_runV (As := [.int x333, .int x338]) (rest := [.int r339]) ⟨hx, hb, hml, hown, hts⟩ (MM_exchange l dC dI0 cI cZ h5 H.size x333 x338 hBM) (cwV 2 hts gL_law_X5_exchange rfl rfl rfl (by decide +kernel) ⟨Nat.le_of_ble_eq_true rfl, Nat.le_of_ble_eq_true rfl⟩) ⟨fun a U g mk q => by obtain ⟨q0, q1, qP, qK, qD⟩ := q; exact ⟨q0, q1, qP, va_K.moved (u := U) (U := U.calling g mk a) (Vm.Alike.refl U.vm) qK, qD⟩, va_recv hK hPc (ci := 5) (q0 := 0) rfl hh353, fun U hU hW => ⟨rfl, by rw [hU], by rw [hU]; exact hPc, va_K.moved hW.alike hK, hDc.weaken (fun _ _ _ _ => trivial)⟩⟩ rfl rfl hl.1 rfl (lv_room (Nat.le_of_ble_eq_true rfl)) dL_law_353 ⟨Nat.le_of_ble_eq_true rfl, Nat.le_of_ble_eq_true rfl⟩) hS (fun q _ h => hFc q h) hFc (fun r353 u353 t7 H1 locs ht7 hvm7 hw353 hB hz1 hk1 hS => ?_)
  obtain ⟨hP1, hK1, hD1⟩ := hB
  rw [ht7] at hP1
  obtain ⟨hP, hD⟩ := va_jl hP hD hk1 hFc hP1 hD1
  generalize H1 = H at hP hS ⊢
  obtain ⟨er353, hBM2⟩ := hw353
  refine lv_icmp_eq (tgt := 733) hx hb dL_law_356 (by decide) (fun c356 => ?_) (fun c356 => ?_)
  · exact hk _ _ _ _ ⟨pl, le, n, k, h, b, (exD n k h b d x333 x338), dr, sc, sp, sn, sm, cr, hd, hi, kk2, hh2, bb2, dd2, dk, ks, sp2, sn2, sm2, hBX2, hBM2, hdr, hdk, hhd, hn0, (Nat.le_trans hcrN (by omega))⟩ hP hD hS ls hl
  exact absurd (er339.trans er353.symm) c356
set_option maxHeartbeats 4000000 in
set_option maxRecDepth 100000 in
theorem LC9 {prg : Program} {l : Launch} {env : Env} {s : State} {m : MethodId} {below : List Frame} {meth : Method} {c : Code} {dC : Nat → ClassId} {dI0 : Nat → Nat → Nat} {cI cZ : ClassId} {h4 h5 ba L i sk sv : Nat} {xs : Nat → Int32} (hL : L ≤ 2048) (C0 : LCx prg s m meth c ba L xs) (hK : va_K (dC, dI0) vwCl [(cI, .int), (cZ, .boolean)] s) (hST : STR sk sv (fun q : Nat => s.heap.size ≤ q) s s.heap) (hi4 : i + 4 ≤ L) (hk : LKt prg l env s m below meth c dC dI0 cI cZ h4 h5 ba i (i + 4) 733) : LKt prg l env s m below meth c dC dI0 cI cZ h4 h5 ba i i 361 := by
  obtain ⟨hx, hb, hr, hml, hown, hts, hX, hbl, hlocks⟩ := C0
  have hA : ∀ q : Nat, s.heap.size ≤ q → (fun q : Nat => s.heap.size ≤ q) q := fun _ h => h
  have hbA : ¬ (fun q : Nat => s.heap.size ≤ q) ba := Nat.not_le.mpr hbl
  intro wx wm H locs hI hP hD hS ls hl
  obtain ⟨pl, le, n, k, h, b, d, dr, sc, sp, sn, sm, cr, hd, hi, kk2, hh2, bb2, dd2, dk, ks, sp2, sn2, sm2, hBX, hBM, hdr, hdk, hhd, hn0, hcrN⟩ := hI
  have hcr : cr < 2 ^ 30 := by omega
  refine lv_aload_n hx hb dL_law_361 rfl (lv_at hl 1 rfl) ?_
  have hPc := va_Pl hP
  have hDc := va_Dl hD
  have hFc := va_fl hD hS hA
  obtain ⟨fs362, hh362⟩ := BX_head hBX
  refine va_calli (va_runV (As := []) (rest := []) ⟨hx, hb, hml, hown, hts⟩ (MX_all l dC dI0 cI cZ h4 H.size  hBX) (cwV 0 hts gL_law_X4_all rfl rfl rfl (by decide +kernel) ⟨Nat.le_of_ble_eq_true rfl, Nat.le_of_ble_eq_true rfl⟩) ⟨fun a U g mk q => by obtain ⟨q0, q1, qP, qK, qD⟩ := q; exact ⟨q0, q1, qP, va_K.moved (u := U) (U := U.calling g mk a) (Vm.Alike.refl U.vm) qK, qD⟩, va_recv hK hPc (ci := 4) (q0 := 0) rfl hh362, fun U hU hW => ⟨rfl, by rw [hU], by rw [hU]; exact hPc, va_K.moved hW.alike hK, hDc.weaken (fun _ _ _ _ => trivial)⟩⟩ rfl rfl hl.1 rfl (lv_room (Nat.le_of_ble_eq_true rfl)) dL_law_362 ⟨Nat.le_of_ble_eq_true rfl, Nat.le_of_ble_eq_true rfl⟩) hS (fun q _ h => hFc q h) hFc (fun r362 u362 t7 H1 locs ht7 hvm7 hw362 hB hz1 hk1 hS => ?_)
  obtain ⟨hP1, hK1, hD1⟩ := hB
  rw [ht7] at hP1
  obtain ⟨hP, hD⟩ := va_jl hP hD hk1 hFc hP1 hD1
  generalize H1 = H at hP hS ⊢
  obtain ⟨er362, hBX2⟩ := hw362
  refine lv_aload_n hx hb dL_law_365 rfl (lv_at hl 2 rfl) ?_
  have hPc := va_Pl hP
  have hDc := va_Dl hD
  have hFc := va_fl hD hS hA
  obtain ⟨fs366, hh366⟩ := BM_head hBM
  refine va_calli (va_runV (As := []) (rest := [.int r362]) ⟨hx, hb, hml, hown, hts⟩ (MM_all l dC dI0 cI cZ h5 H.size  hBM) (cwV 0 hts gL_law_X5_all rfl rfl rfl (by decide +kernel) ⟨Nat.le_of_ble_eq_true rfl, Nat.le_of_ble_eq_true rfl⟩) ⟨fun a U g mk q => by obtain ⟨q0, q1, qP, qK, qD⟩ := q; exact ⟨q0, q1, qP, va_K.moved (u := U) (U := U.calling g mk a) (Vm.Alike.refl U.vm) qK, qD⟩, va_recv hK hPc (ci := 5) (q0 := 0) rfl hh366, fun U hU hW => ⟨rfl, by rw [hU], by rw [hU]; exact hPc, va_K.moved hW.alike hK, hDc.weaken (fun _ _ _ _ => trivial)⟩⟩ rfl rfl hl.1 rfl (lv_room (Nat.le_of_ble_eq_true rfl)) dL_law_366 ⟨Nat.le_of_ble_eq_true rfl, Nat.le_of_ble_eq_true rfl⟩) hS (fun q _ h => hFc q h) hFc (fun r366 u366 t7 H1 locs ht7 hvm7 hw366 hB hz1 hk1 hS => ?_)
  obtain ⟨hP1, hK1, hD1⟩ := hB
  rw [ht7] at hP1
  obtain ⟨hP, hD⟩ := va_jl hP hD hk1 hFc hP1 hD1
  generalize H1 = H at hP hS ⊢
  obtain ⟨er366, hBM2⟩ := hw366
  refine lv_icmp_eq (tgt := 733) hx hb dL_law_369 (by decide) (fun c369 => ?_) (fun c369 => ?_)
  · exact hk _ _ _ _ ⟨pl, le, n, k, h, b, (fun _ => none), dr, sc, sp, sn, sm, cr, hd, hi, kk2, hh2, bb2, dd2, dk, ks, sp2, sn2, sm2, hBX2, hBM2, hdr, hdk, hhd, hn0, (Nat.le_trans hcrN (by omega))⟩ hP hD hS ls hl
  exact absurd (er362.trans er366.symm) c369
set_option maxHeartbeats 4000000 in
set_option maxRecDepth 100000 in
theorem LC10 {prg : Program} {l : Launch} {env : Env} {s : State} {m : MethodId} {below : List Frame} {meth : Method} {c : Code} {dC : Nat → ClassId} {dI0 : Nat → Nat → Nat} {cI cZ : ClassId} {h4 h5 ba L i sk sv : Nat} {xs : Nat → Int32} (hL : L ≤ 2048) (C0 : LCx prg s m meth c ba L xs) (hK : va_K (dC, dI0) vwCl [(cI, .int), (cZ, .boolean)] s) (hST : STR sk sv (fun q : Nat => s.heap.size ≤ q) s s.heap) (hi4 : i + 4 ≤ L) (hk : LKt prg l env s m below meth c dC dI0 cI cZ h4 h5 ba i (i + 4) 733) : LKt prg l env s m below meth c dC dI0 cI cZ h4 h5 ba i i 374 := by
  obtain ⟨hx, hb, hr, hml, hown, hts, hX, hbl, hlocks⟩ := C0
  have hA : ∀ q : Nat, s.heap.size ≤ q → (fun q : Nat => s.heap.size ≤ q) q := fun _ h => h
  have hbA : ¬ (fun q : Nat => s.heap.size ≤ q) ba := Nat.not_le.mpr hbl
  intro wx wm H locs hI hP hD hS ls hl
  obtain ⟨pl, le, n, k, h, b, d, dr, sc, sp, sn, sm, cr, hd, hi, kk2, hh2, bb2, dd2, dk, ks, sp2, sn2, sm2, hBX, hBM, hdr, hdk, hhd, hn0, hcrN⟩ := hI
  have hcr : cr < 2 ^ 30 := by omega
  refine lv_aload_n hx hb dL_law_374 rfl (lv_at hl 1 rfl) ?_
  refine lv_aload_n hx hb dL_law_375 rfl (lv_at hl 0 rfl) ?_
  refine lv_iload_n hx hb dL_law_376 rfl (lv_at hl 3 rfl) ?_
  refine lv_iconst (v := nI 1) hx hb dL_law_377 (by decide) ?_
  refine lv_iadd hx hb dL_law_378 ?_
  refine lv_topi (fun x378 e378 => ?_)
  obtain rfl : x378 = nI (i + 1) := e378.trans (nI_add _ _)
  refine va_sld hx hb hX hbl hbA hS (vp_in_nI (by omega) (by omega)) dL_law_379 ?_
  refine lv_topi (fun x379 e379 => ?_)
  refine lv_aload_n hx hb dL_law_380 rfl (lv_at hl 0 rfl) ?_
  refine lv_iload_n hx hb dL_law_381 rfl (lv_at hl 3 rfl) ?_
  refine lv_iconst (v := nI 2) hx hb dL_law_382 (by decide) ?_
  refine lv_iadd hx hb dL_law_383 ?_
  refine lv_topi (fun x383 e383 => ?_)
  obtain rfl : x383 = nI (i + 2) := e383.trans (nI_add _ _)
  refine va_sld hx hb hX hbl hbA hS (vp_in_nI (by omega) (by omega)) dL_law_384 ?_
  refine lv_topi (fun x384 e384 => ?_)
  have hPc := va_Pl hP
  have hDc := va_Dl hD
  have hFc := va_fl hD hS hA
  obtain ⟨fs385, hh385⟩ := BX_head hBX
  refine va_calli (va_runV (As := [.int x379, .int x384]) (rest := []) ⟨hx, hb, hml, hown, hts⟩ (MX_bar l dC dI0 cI cZ h4 H.size x379 x384 hBX) (cwV 2 hts gL_law_X4_bar rfl rfl rfl (by decide +kernel) ⟨Nat.le_of_ble_eq_true rfl, Nat.le_of_ble_eq_true rfl⟩) ⟨fun a U g mk q => by obtain ⟨q0, q1, qP, qK, qD⟩ := q; exact ⟨q0, q1, qP, va_K.moved (u := U) (U := U.calling g mk a) (Vm.Alike.refl U.vm) qK, qD⟩, va_recv hK hPc (ci := 4) (q0 := 0) rfl hh385, fun U hU hW => ⟨rfl, by rw [hU], by rw [hU]; exact hPc, va_K.moved hW.alike hK, hDc.weaken (fun _ _ _ _ => trivial)⟩⟩ rfl rfl hl.1 rfl (lv_room (Nat.le_of_ble_eq_true rfl)) dL_law_385 ⟨Nat.le_of_ble_eq_true rfl, Nat.le_of_ble_eq_true rfl⟩) hS (fun q _ h => hFc q h) hFc (fun r385 u385 t7 H1 locs ht7 hvm7 hw385 hB hz1 hk1 hS => ?_)
  obtain ⟨hP1, hK1, hD1⟩ := hB
  rw [ht7] at hP1
  obtain ⟨hP, hD⟩ := va_jl hP hD hk1 hFc hP1 hD1
  generalize H1 = H at hP hS ⊢
  obtain ⟨er385, hBX2⟩ := hw385
  refine lv_aload_n hx hb dL_law_388 rfl (lv_at hl 2 rfl) ?_
  refine lv_aload_n hx hb dL_law_389 rfl (lv_at hl 0 rfl) ?_
  refine lv_iload_n hx hb dL_law_390 rfl (lv_at hl 3 rfl) ?_
  refine lv_iconst (v := nI 1) hx hb dL_law_391 (by decide) ?_
  refine lv_iadd hx hb dL_law_392 ?_
  refine lv_topi (fun x392 e392 => ?_)
  obtain rfl : x392 = nI (i + 1) := e392.trans (nI_add _ _)
  refine va_sld hx hb hX hbl hbA hS (vp_in_nI (by omega) (by omega)) dL_law_393 ?_
  refine lv_topi (fun x393 e393 => ?_)
  have ee393 : x379 = x393 := e379.trans e393.symm
  subst ee393
  refine lv_aload_n hx hb dL_law_394 rfl (lv_at hl 0 rfl) ?_
  refine lv_iload_n hx hb dL_law_395 rfl (lv_at hl 3 rfl) ?_
  refine lv_iconst (v := nI 2) hx hb dL_law_396 (by decide) ?_
  refine lv_iadd hx hb dL_law_397 ?_
  refine lv_topi (fun x397 e397 => ?_)
  obtain rfl : x397 = nI (i + 2) := e397.trans (nI_add _ _)
  refine va_sld hx hb hX hbl hbA hS (vp_in_nI (by omega) (by omega)) dL_law_398 ?_
  refine lv_topi (fun x398 e398 => ?_)
  have ee398 : x384 = x398 := e384.trans e398.symm
  subst ee398
  have hPc := va_Pl hP
  have hDc := va_Dl hD
  have hFc := va_fl hD hS hA
  obtain ⟨fs399, hh399⟩ := BM_head hBM
  refine va_calli (va_runV (As := [.int x379, .int x384]) (rest := [.int r385]) ⟨hx, hb, hml, hown, hts⟩ (MM_bar l dC dI0 cI cZ h5 H.size x379 x384 hBM) (cwV 2 hts gL_law_X5_bar rfl rfl rfl (by decide +kernel) ⟨Nat.le_of_ble_eq_true rfl, Nat.le_of_ble_eq_true rfl⟩) ⟨fun a U g mk q => by obtain ⟨q0, q1, qP, qK, qD⟩ := q; exact ⟨q0, q1, qP, va_K.moved (u := U) (U := U.calling g mk a) (Vm.Alike.refl U.vm) qK, qD⟩, va_recv hK hPc (ci := 5) (q0 := 0) rfl hh399, fun U hU hW => ⟨rfl, by rw [hU], by rw [hU]; exact hPc, va_K.moved hW.alike hK, hDc.weaken (fun _ _ _ _ => trivial)⟩⟩ rfl rfl hl.1 rfl (lv_room (Nat.le_of_ble_eq_true rfl)) dL_law_399 ⟨Nat.le_of_ble_eq_true rfl, Nat.le_of_ble_eq_true rfl⟩) hS (fun q _ h => hFc q h) hFc (fun r399 u399 t7 H1 locs ht7 hvm7 hw399 hB hz1 hk1 hS => ?_)
  obtain ⟨hP1, hK1, hD1⟩ := hB
  rw [ht7] at hP1
  obtain ⟨hP, hD⟩ := va_jl hP hD hk1 hFc hP1 hD1
  generalize H1 = H at hP hS ⊢
  obtain ⟨er399, hBM2⟩ := hw399
  refine lv_icmp_eq (tgt := 733) hx hb dL_law_402 (by decide) (fun c402 => ?_) (fun c402 => ?_)
  · exact hk _ _ _ _ ⟨pl, le, n, k, h, (brB n b x379 x384), d, dr, sc, sp, sn, sm, cr, hd, hi, kk2, hh2, bb2, dd2, dk, ks, sp2, sn2, sm2, hBX2, hBM2, hdr, hdk, hhd, hn0, (Nat.le_trans hcrN (by omega))⟩ hP hD hS ls hl
  exact absurd (er385.trans er399.symm) c402
set_option maxHeartbeats 4000000 in
set_option maxRecDepth 100000 in
theorem LC11 {prg : Program} {l : Launch} {env : Env} {s : State} {m : MethodId} {below : List Frame} {meth : Method} {c : Code} {dC : Nat → ClassId} {dI0 : Nat → Nat → Nat} {cI cZ : ClassId} {h4 h5 ba L i sk sv : Nat} {xs : Nat → Int32} (hL : L ≤ 2048) (C0 : LCx prg s m meth c ba L xs) (hK : va_K (dC, dI0) vwCl [(cI, .int), (cZ, .boolean)] s) (hST : STR sk sv (fun q : Nat => s.heap.size ≤ q) s s.heap) (hi4 : i + 4 ≤ L) (hk : LKt prg l env s m below meth c dC dI0 cI cZ h4 h5 ba i (i + 4) 733) : LKt prg l env s m below meth c dC dI0 cI cZ h4 h5 ba i i 407 := by
  obtain ⟨hx, hb, hr, hml, hown, hts, hX, hbl, hlocks⟩ := C0
  have hA : ∀ q : Nat, s.heap.size ≤ q → (fun q : Nat => s.heap.size ≤ q) q := fun _ h => h
  have hbA : ¬ (fun q : Nat => s.heap.size ≤ q) ba := Nat.not_le.mpr hbl
  intro wx wm H locs hI hP hD hS ls hl
  obtain ⟨pl, le, n, k, h, b, d, dr, sc, sp, sn, sm, cr, hd, hi, kk2, hh2, bb2, dd2, dk, ks, sp2, sn2, sm2, hBX, hBM, hdr, hdk, hhd, hn0, hcrN⟩ := hI
  have hcr : cr < 2 ^ 30 := by omega
  refine lv_aload_n hx hb dL_law_407 rfl (lv_at hl 1 rfl) ?_
  refine lv_aload_n hx hb dL_law_408 rfl (lv_at hl 0 rfl) ?_
  refine lv_iload_n hx hb dL_law_409 rfl (lv_at hl 3 rfl) ?_
  refine lv_iconst (v := nI 1) hx hb dL_law_410 (by decide) ?_
  refine lv_iadd hx hb dL_law_411 ?_
  refine lv_topi (fun x411 e411 => ?_)
  obtain rfl : x411 = nI (i + 1) := e411.trans (nI_add _ _)
  refine va_sld hx hb hX hbl hbA hS (vp_in_nI (by omega) (by omega)) dL_law_412 ?_
  refine lv_topi (fun x412 e412 => ?_)
  refine lv_aload_n hx hb dL_law_413 rfl (lv_at hl 0 rfl) ?_
  refine lv_iload_n hx hb dL_law_414 rfl (lv_at hl 3 rfl) ?_
  refine lv_iconst (v := nI 2) hx hb dL_law_415 (by decide) ?_
  refine lv_iadd hx hb dL_law_416 ?_
  refine lv_topi (fun x416 e416 => ?_)
  obtain rfl : x416 = nI (i + 2) := e416.trans (nI_add _ _)
  refine va_sld hx hb hX hbl hbA hS (vp_in_nI (by omega) (by omega)) dL_law_417 ?_
  refine lv_topi (fun x417 e417 => ?_)
  refine lv_aload_n hx hb dL_law_418 rfl (lv_at hl 0 rfl) ?_
  refine lv_iload_n hx hb dL_law_419 rfl (lv_at hl 3 rfl) ?_
  refine lv_iconst (v := nI 3) hx hb dL_law_420 (by decide) ?_
  refine lv_iadd hx hb dL_law_421 ?_
  refine lv_topi (fun x421 e421 => ?_)
  obtain rfl : x421 = nI (i + 3) := e421.trans (nI_add _ _)
  refine va_sld hx hb hX hbl hbA hS (vp_in_nI (by omega) (by omega)) dL_law_422 ?_
  refine lv_topi (fun x422 e422 => ?_)
  have hPc := va_Pl hP
  have hDc := va_Dl hD
  have hFc := va_fl hD hS hA
  obtain ⟨fs423, hh423⟩ := BX_head hBX
  refine va_calli (va_runV (As := [.int x412, .int x417, .int x422]) (rest := []) ⟨hx, hb, hml, hown, hts⟩ (MX_change l dC dI0 cI cZ h4 H.size x412 x417 x422 hBX) (cwV 3 hts gL_law_X4_change rfl rfl rfl (by decide +kernel) ⟨Nat.le_of_ble_eq_true rfl, Nat.le_of_ble_eq_true rfl⟩) ⟨fun a U g mk q => by obtain ⟨q0, q1, qP, qK, qD⟩ := q; exact ⟨q0, q1, qP, va_K.moved (u := U) (U := U.calling g mk a) (Vm.Alike.refl U.vm) qK, qD⟩, va_recv hK hPc (ci := 4) (q0 := 0) rfl hh423, fun U hU hW => ⟨rfl, by rw [hU], by rw [hU]; exact hPc, va_K.moved hW.alike hK, hDc.weaken (fun _ _ _ _ => trivial)⟩⟩ rfl rfl hl.1 rfl (lv_room (Nat.le_of_ble_eq_true rfl)) dL_law_423 ⟨Nat.le_of_ble_eq_true rfl, Nat.le_of_ble_eq_true rfl⟩) hS (fun q _ h => hFc q h) hFc (fun r423 u423 t7 H1 locs ht7 hvm7 hw423 hB hz1 hk1 hS => ?_)
  obtain ⟨hP1, hK1, hD1⟩ := hB
  rw [ht7] at hP1
  obtain ⟨hP, hD⟩ := va_jl hP hD hk1 hFc hP1 hD1
  generalize H1 = H at hP hS ⊢
  obtain ⟨er423, hBX2⟩ := hw423
  refine lv_aload_n hx hb dL_law_426 rfl (lv_at hl 2 rfl) ?_
  refine lv_aload_n hx hb dL_law_427 rfl (lv_at hl 0 rfl) ?_
  refine lv_iload_n hx hb dL_law_428 rfl (lv_at hl 3 rfl) ?_
  refine lv_iconst (v := nI 1) hx hb dL_law_429 (by decide) ?_
  refine lv_iadd hx hb dL_law_430 ?_
  refine lv_topi (fun x430 e430 => ?_)
  obtain rfl : x430 = nI (i + 1) := e430.trans (nI_add _ _)
  refine va_sld hx hb hX hbl hbA hS (vp_in_nI (by omega) (by omega)) dL_law_431 ?_
  refine lv_topi (fun x431 e431 => ?_)
  have ee431 : x412 = x431 := e412.trans e431.symm
  subst ee431
  refine lv_aload_n hx hb dL_law_432 rfl (lv_at hl 0 rfl) ?_
  refine lv_iload_n hx hb dL_law_433 rfl (lv_at hl 3 rfl) ?_
  refine lv_iconst (v := nI 2) hx hb dL_law_434 (by decide) ?_
  refine lv_iadd hx hb dL_law_435 ?_
  refine lv_topi (fun x435 e435 => ?_)
  obtain rfl : x435 = nI (i + 2) := e435.trans (nI_add _ _)
  refine va_sld hx hb hX hbl hbA hS (vp_in_nI (by omega) (by omega)) dL_law_436 ?_
  refine lv_topi (fun x436 e436 => ?_)
  have ee436 : x417 = x436 := e417.trans e436.symm
  subst ee436
  refine lv_aload_n hx hb dL_law_437 rfl (lv_at hl 0 rfl) ?_
  refine lv_iload_n hx hb dL_law_438 rfl (lv_at hl 3 rfl) ?_
  refine lv_iconst (v := nI 3) hx hb dL_law_439 (by decide) ?_
  refine lv_iadd hx hb dL_law_440 ?_
  refine lv_topi (fun x440 e440 => ?_)
  obtain rfl : x440 = nI (i + 3) := e440.trans (nI_add _ _)
  refine va_sld hx hb hX hbl hbA hS (vp_in_nI (by omega) (by omega)) dL_law_441 ?_
  refine lv_topi (fun x441 e441 => ?_)
  have ee441 : x422 = x441 := e422.trans e441.symm
  subst ee441
  have hPc := va_Pl hP
  have hDc := va_Dl hD
  have hFc := va_fl hD hS hA
  obtain ⟨fs442, hh442⟩ := BM_head hBM
  refine va_calli (va_runV (As := [.int x412, .int x417, .int x422]) (rest := [.int r423]) ⟨hx, hb, hml, hown, hts⟩ (MM_change l dC dI0 cI cZ h5 H.size x412 x417 x422 hBM) (cwV 3 hts gL_law_X5_change rfl rfl rfl (by decide +kernel) ⟨Nat.le_of_ble_eq_true rfl, Nat.le_of_ble_eq_true rfl⟩) ⟨fun a U g mk q => by obtain ⟨q0, q1, qP, qK, qD⟩ := q; exact ⟨q0, q1, qP, va_K.moved (u := U) (U := U.calling g mk a) (Vm.Alike.refl U.vm) qK, qD⟩, va_recv hK hPc (ci := 5) (q0 := 0) rfl hh442, fun U hU hW => ⟨rfl, by rw [hU], by rw [hU]; exact hPc, va_K.moved hW.alike hK, hDc.weaken (fun _ _ _ _ => trivial)⟩⟩ rfl rfl hl.1 rfl (lv_room (Nat.le_of_ble_eq_true rfl)) dL_law_442 ⟨Nat.le_of_ble_eq_true rfl, Nat.le_of_ble_eq_true rfl⟩) hS (fun q _ h => hFc q h) hFc (fun r442 u442 t7 H1 locs ht7 hvm7 hw442 hB hz1 hk1 hS => ?_)
  obtain ⟨hP1, hK1, hD1⟩ := hB
  rw [ht7] at hP1
  obtain ⟨hP, hD⟩ := va_jl hP hD hk1 hFc hP1 hD1
  generalize H1 = H at hP hS ⊢
  obtain ⟨er442, hBM2⟩ := hw442
  refine lv_icmp_eq (tgt := 733) hx hb dL_law_445 (by decide) (fun c445 => ?_) (fun c445 => ?_)
  · exact hk _ _ _ _ ⟨pl, le, n, (cgK n k x412 x417 x422), (cgH n h x412 x417 x422), b, d, dr, sc, sp, sn, sm, cr, hd, hi, kk2, hh2, bb2, dd2, dk, ks, sp2, sn2, sm2, hBX2, hBM2, hdr, hdk, hhd, hn0, (Nat.le_trans hcrN (by omega))⟩ hP hD hS ls hl
  exact absurd (er423.trans er442.symm) c445
set_option maxHeartbeats 4000000 in
set_option maxRecDepth 100000 in
theorem LC12 {prg : Program} {l : Launch} {env : Env} {s : State} {m : MethodId} {below : List Frame} {meth : Method} {c : Code} {dC : Nat → ClassId} {dI0 : Nat → Nat → Nat} {cI cZ : ClassId} {h4 h5 ba L i sk sv : Nat} {xs : Nat → Int32} (hL : L ≤ 2048) (C0 : LCx prg s m meth c ba L xs) (hK : va_K (dC, dI0) vwCl [(cI, .int), (cZ, .boolean)] s) (hST : STR sk sv (fun q : Nat => s.heap.size ≤ q) s s.heap) (hi4 : i + 4 ≤ L) (hk : LKt prg l env s m below meth c dC dI0 cI cZ h4 h5 ba i (i + 4) 733) : LKt prg l env s m below meth c dC dI0 cI cZ h4 h5 ba i i 450 := by
  obtain ⟨hx, hb, hr, hml, hown, hts, hX, hbl, hlocks⟩ := C0
  have hA : ∀ q : Nat, s.heap.size ≤ q → (fun q : Nat => s.heap.size ≤ q) q := fun _ h => h
  have hbA : ¬ (fun q : Nat => s.heap.size ≤ q) ba := Nat.not_le.mpr hbl
  intro wx wm H locs hI hP hD hS ls hl
  obtain ⟨pl, le, n, k, h, b, d, dr, sc, sp, sn, sm, cr, hd, hi, kk2, hh2, bb2, dd2, dk, ks, sp2, sn2, sm2, hBX, hBM, hdr, hdk, hhd, hn0, hcrN⟩ := hI
  have hcr : cr < 2 ^ 30 := by omega
  refine lv_aload_n hx hb dL_law_450 rfl (lv_at hl 1 rfl) ?_
  refine lv_aload_n hx hb dL_law_451 rfl (lv_at hl 0 rfl) ?_
  refine lv_iload_n hx hb dL_law_452 rfl (lv_at hl 3 rfl) ?_
  refine lv_iconst (v := nI 1) hx hb dL_law_453 (by decide) ?_
  refine lv_iadd hx hb dL_law_454 ?_
  refine lv_topi (fun x454 e454 => ?_)
  obtain rfl : x454 = nI (i + 1) := e454.trans (nI_add _ _)
  refine va_sld hx hb hX hbl hbA hS (vp_in_nI (by omega) (by omega)) dL_law_455 ?_
  refine lv_topi (fun x455 e455 => ?_)
  have hPc := va_Pl hP
  have hDc := va_Dl hD
  have hFc := va_fl hD hS hA
  obtain ⟨fs456, hh456⟩ := BX_head hBX
  refine va_calli (va_runV (As := [.int x455]) (rest := []) ⟨hx, hb, hml, hown, hts⟩ (MX_ways l dC dI0 cI cZ h4 H.size x455 hBX) (cwV 1 hts gL_law_X4_ways rfl rfl rfl (by decide +kernel) ⟨Nat.le_of_ble_eq_true rfl, Nat.le_of_ble_eq_true rfl⟩) ⟨fun a U g mk q => by obtain ⟨q0, q1, qP, qK, qD⟩ := q; exact ⟨q0, q1, qP, va_K.moved (u := U) (U := U.calling g mk a) (Vm.Alike.refl U.vm) qK, qD⟩, va_recv hK hPc (ci := 4) (q0 := 0) rfl hh456, fun U hU hW => ⟨rfl, by rw [hU], by rw [hU]; exact hPc, va_K.moved hW.alike hK, hDc.weaken (fun _ _ _ _ => trivial)⟩⟩ rfl rfl hl.1 rfl (lv_room (Nat.le_of_ble_eq_true rfl)) dL_law_456 ⟨Nat.le_of_ble_eq_true rfl, Nat.le_of_ble_eq_true rfl⟩) hS (fun q _ h => hFc q h) hFc (fun r456 u456 t7 H1 locs ht7 hvm7 hw456 hB hz1 hk1 hS => ?_)
  obtain ⟨hP1, hK1, hD1⟩ := hB
  rw [ht7] at hP1
  obtain ⟨hP, hD⟩ := va_jl hP hD hk1 hFc hP1 hD1
  generalize H1 = H at hP hS ⊢
  obtain ⟨er456, hBX2⟩ := hw456
  refine lv_aload_n hx hb dL_law_459 rfl (lv_at hl 2 rfl) ?_
  refine lv_aload_n hx hb dL_law_460 rfl (lv_at hl 0 rfl) ?_
  refine lv_iload_n hx hb dL_law_461 rfl (lv_at hl 3 rfl) ?_
  refine lv_iconst (v := nI 1) hx hb dL_law_462 (by decide) ?_
  refine lv_iadd hx hb dL_law_463 ?_
  refine lv_topi (fun x463 e463 => ?_)
  obtain rfl : x463 = nI (i + 1) := e463.trans (nI_add _ _)
  refine va_sld hx hb hX hbl hbA hS (vp_in_nI (by omega) (by omega)) dL_law_464 ?_
  refine lv_topi (fun x464 e464 => ?_)
  have ee464 : x455 = x464 := e455.trans e464.symm
  subst ee464
  have hPc := va_Pl hP
  have hDc := va_Dl hD
  have hFc := va_fl hD hS hA
  obtain ⟨fs465, hh465⟩ := BM_head hBM
  refine va_calli (va_runV (As := [.int x455]) (rest := [.int r456]) ⟨hx, hb, hml, hown, hts⟩ (MM_ways l dC dI0 cI cZ h5 H.size x455 hBM) (cwV 1 hts gL_law_X5_ways rfl rfl rfl (by decide +kernel) ⟨Nat.le_of_ble_eq_true rfl, Nat.le_of_ble_eq_true rfl⟩) ⟨fun a U g mk q => by obtain ⟨q0, q1, qP, qK, qD⟩ := q; exact ⟨q0, q1, qP, va_K.moved (u := U) (U := U.calling g mk a) (Vm.Alike.refl U.vm) qK, qD⟩, va_recv hK hPc (ci := 5) (q0 := 0) rfl hh465, fun U hU hW => ⟨rfl, by rw [hU], by rw [hU]; exact hPc, va_K.moved hW.alike hK, hDc.weaken (fun _ _ _ _ => trivial)⟩⟩ rfl rfl hl.1 rfl (lv_room (Nat.le_of_ble_eq_true rfl)) dL_law_465 ⟨Nat.le_of_ble_eq_true rfl, Nat.le_of_ble_eq_true rfl⟩) hS (fun q _ h => hFc q h) hFc (fun r465 u465 t7 H1 locs ht7 hvm7 hw465 hB hz1 hk1 hS => ?_)
  obtain ⟨hP1, hK1, hD1⟩ := hB
  rw [ht7] at hP1
  obtain ⟨hP, hD⟩ := va_jl hP hD hk1 hFc hP1 hD1
  generalize H1 = H at hP hS ⊢
  obtain ⟨er465, hBM2⟩ := hw465
  refine lv_icmp_eq (tgt := 733) hx hb dL_law_468 (by decide) (fun c468 => ?_) (fun c468 => ?_)
  · exact hk _ _ _ _ ⟨pl, le, n, k, h, b, d, dr, sc, sp, sn, sm, cr, hd, hi, kk2, hh2, bb2, dd2, dk, ks, sp2, sn2, sm2, hBX2, hBM2, hdr, hdk, hhd, hn0, (Nat.le_trans hcrN (by omega))⟩ hP hD hS ls hl
  exact absurd (er456.trans er465.symm) c468
set_option maxHeartbeats 4000000 in
set_option maxRecDepth 100000 in
theorem LC13 {prg : Program} {l : Launch} {env : Env} {s : State} {m : MethodId} {below : List Frame} {meth : Method} {c : Code} {dC : Nat → ClassId} {dI0 : Nat → Nat → Nat} {cI cZ : ClassId} {h4 h5 ba L i sk sv : Nat} {xs : Nat → Int32} (hL : L ≤ 2048) (C0 : LCx prg s m meth c ba L xs) (hK : va_K (dC, dI0) vwCl [(cI, .int), (cZ, .boolean)] s) (hST : STR sk sv (fun q : Nat => s.heap.size ≤ q) s s.heap) (hi4 : i + 4 ≤ L) (hk : LKt prg l env s m below meth c dC dI0 cI cZ h4 h5 ba i (i + 4) 733) : LKt prg l env s m below meth c dC dI0 cI cZ h4 h5 ba i i 473 := by
  obtain ⟨hx, hb, hr, hml, hown, hts, hX, hbl, hlocks⟩ := C0
  have hA : ∀ q : Nat, s.heap.size ≤ q → (fun q : Nat => s.heap.size ≤ q) q := fun _ h => h
  have hbA : ¬ (fun q : Nat => s.heap.size ≤ q) ba := Nat.not_le.mpr hbl
  intro wx wm H locs hI hP hD hS ls hl
  obtain ⟨pl, le, n, k, h, b, d, dr, sc, sp, sn, sm, cr, hd, hi, kk2, hh2, bb2, dd2, dk, ks, sp2, sn2, sm2, hBX, hBM, hdr, hdk, hhd, hn0, hcrN⟩ := hI
  have hcr : cr < 2 ^ 30 := by omega
  refine lv_aload_n hx hb dL_law_473 rfl (lv_at hl 1 rfl) ?_
  refine lv_aload_n hx hb dL_law_474 rfl (lv_at hl 0 rfl) ?_
  refine lv_iload_n hx hb dL_law_475 rfl (lv_at hl 3 rfl) ?_
  refine lv_iconst (v := nI 1) hx hb dL_law_476 (by decide) ?_
  refine lv_iadd hx hb dL_law_477 ?_
  refine lv_topi (fun x477 e477 => ?_)
  obtain rfl : x477 = nI (i + 1) := e477.trans (nI_add _ _)
  refine va_sld hx hb hX hbl hbA hS (vp_in_nI (by omega) (by omega)) dL_law_478 ?_
  refine lv_topi (fun x478 e478 => ?_)
  refine lv_aload_n hx hb dL_law_479 rfl (lv_at hl 0 rfl) ?_
  refine lv_iload_n hx hb dL_law_480 rfl (lv_at hl 3 rfl) ?_
  refine lv_iconst (v := nI 2) hx hb dL_law_481 (by decide) ?_
  refine lv_iadd hx hb dL_law_482 ?_
  refine lv_topi (fun x482 e482 => ?_)
  obtain rfl : x482 = nI (i + 2) := e482.trans (nI_add _ _)
  refine va_sld hx hb hX hbl hbA hS (vp_in_nI (by omega) (by omega)) dL_law_483 ?_
  refine lv_topi (fun x483 e483 => ?_)
  have hPc := va_Pl hP
  have hDc := va_Dl hD
  have hFc := va_fl hD hS hA
  obtain ⟨fs484, hh484⟩ := BX_head hBX
  refine va_calli (va_runV (As := [.int x478, .int x483]) (rest := []) ⟨hx, hb, hml, hown, hts⟩ (MX_way l dC dI0 cI cZ h4 H.size x478 x483 hBX) (cwV 2 hts gL_law_X4_way rfl rfl rfl (by decide +kernel) ⟨Nat.le_of_ble_eq_true rfl, Nat.le_of_ble_eq_true rfl⟩) ⟨fun a U g mk q => by obtain ⟨q0, q1, qP, qK, qD⟩ := q; exact ⟨q0, q1, qP, va_K.moved (u := U) (U := U.calling g mk a) (Vm.Alike.refl U.vm) qK, qD⟩, va_recv hK hPc (ci := 4) (q0 := 0) rfl hh484, fun U hU hW => ⟨rfl, by rw [hU], by rw [hU]; exact hPc, va_K.moved hW.alike hK, hDc.weaken (fun _ _ _ _ => trivial)⟩⟩ rfl rfl hl.1 rfl (lv_room (Nat.le_of_ble_eq_true rfl)) dL_law_484 ⟨Nat.le_of_ble_eq_true rfl, Nat.le_of_ble_eq_true rfl⟩) hS (fun q _ h => hFc q h) hFc (fun r484 u484 t7 H1 locs ht7 hvm7 hw484 hB hz1 hk1 hS => ?_)
  obtain ⟨hP1, hK1, hD1⟩ := hB
  rw [ht7] at hP1
  obtain ⟨hP, hD⟩ := va_jl hP hD hk1 hFc hP1 hD1
  generalize H1 = H at hP hS ⊢
  obtain ⟨er484, hBX2⟩ := hw484
  refine lv_aload_n hx hb dL_law_487 rfl (lv_at hl 2 rfl) ?_
  refine lv_aload_n hx hb dL_law_488 rfl (lv_at hl 0 rfl) ?_
  refine lv_iload_n hx hb dL_law_489 rfl (lv_at hl 3 rfl) ?_
  refine lv_iconst (v := nI 1) hx hb dL_law_490 (by decide) ?_
  refine lv_iadd hx hb dL_law_491 ?_
  refine lv_topi (fun x491 e491 => ?_)
  obtain rfl : x491 = nI (i + 1) := e491.trans (nI_add _ _)
  refine va_sld hx hb hX hbl hbA hS (vp_in_nI (by omega) (by omega)) dL_law_492 ?_
  refine lv_topi (fun x492 e492 => ?_)
  have ee492 : x478 = x492 := e478.trans e492.symm
  subst ee492
  refine lv_aload_n hx hb dL_law_493 rfl (lv_at hl 0 rfl) ?_
  refine lv_iload_n hx hb dL_law_494 rfl (lv_at hl 3 rfl) ?_
  refine lv_iconst (v := nI 2) hx hb dL_law_495 (by decide) ?_
  refine lv_iadd hx hb dL_law_496 ?_
  refine lv_topi (fun x496 e496 => ?_)
  obtain rfl : x496 = nI (i + 2) := e496.trans (nI_add _ _)
  refine va_sld hx hb hX hbl hbA hS (vp_in_nI (by omega) (by omega)) dL_law_497 ?_
  refine lv_topi (fun x497 e497 => ?_)
  have ee497 : x483 = x497 := e483.trans e497.symm
  subst ee497
  have hPc := va_Pl hP
  have hDc := va_Dl hD
  have hFc := va_fl hD hS hA
  obtain ⟨fs498, hh498⟩ := BM_head hBM
  refine va_calli (va_runV (As := [.int x478, .int x483]) (rest := [.int r484]) ⟨hx, hb, hml, hown, hts⟩ (MM_way l dC dI0 cI cZ h5 H.size x478 x483 hBM) (cwV 2 hts gL_law_X5_way rfl rfl rfl (by decide +kernel) ⟨Nat.le_of_ble_eq_true rfl, Nat.le_of_ble_eq_true rfl⟩) ⟨fun a U g mk q => by obtain ⟨q0, q1, qP, qK, qD⟩ := q; exact ⟨q0, q1, qP, va_K.moved (u := U) (U := U.calling g mk a) (Vm.Alike.refl U.vm) qK, qD⟩, va_recv hK hPc (ci := 5) (q0 := 0) rfl hh498, fun U hU hW => ⟨rfl, by rw [hU], by rw [hU]; exact hPc, va_K.moved hW.alike hK, hDc.weaken (fun _ _ _ _ => trivial)⟩⟩ rfl rfl hl.1 rfl (lv_room (Nat.le_of_ble_eq_true rfl)) dL_law_498 ⟨Nat.le_of_ble_eq_true rfl, Nat.le_of_ble_eq_true rfl⟩) hS (fun q _ h => hFc q h) hFc (fun r498 u498 t7 H1 locs ht7 hvm7 hw498 hB hz1 hk1 hS => ?_)
  obtain ⟨hP1, hK1, hD1⟩ := hB
  rw [ht7] at hP1
  obtain ⟨hP, hD⟩ := va_jl hP hD hk1 hFc hP1 hD1
  generalize H1 = H at hP hS ⊢
  obtain ⟨er498, hBM2⟩ := hw498
  refine lv_icmp_eq (tgt := 733) hx hb dL_law_501 (by decide) (fun c501 => ?_) (fun c501 => ?_)
  · exact hk _ _ _ _ ⟨pl, le, n, k, h, b, d, dr, sc, sp, sn, sm, cr, hd, hi, kk2, hh2, bb2, dd2, dk, ks, sp2, sn2, sm2, hBX2, hBM2, hdr, hdk, hhd, hn0, (Nat.le_trans hcrN (by omega))⟩ hP hD hS ls hl
  exact absurd (er484.trans er498.symm) c501
set_option maxHeartbeats 4000000 in
set_option maxRecDepth 100000 in
theorem LC14 {prg : Program} {l : Launch} {env : Env} {s : State} {m : MethodId} {below : List Frame} {meth : Method} {c : Code} {dC : Nat → ClassId} {dI0 : Nat → Nat → Nat} {cI cZ : ClassId} {h4 h5 ba L i sk sv : Nat} {xs : Nat → Int32} (hL : L ≤ 2048) (C0 : LCx prg s m meth c ba L xs) (hK : va_K (dC, dI0) vwCl [(cI, .int), (cZ, .boolean)] s) (hST : STR sk sv (fun q : Nat => s.heap.size ≤ q) s s.heap) (hi4 : i + 4 ≤ L) (hk : LKt prg l env s m below meth c dC dI0 cI cZ h4 h5 ba i (i + 4) 733) : LKt prg l env s m below meth c dC dI0 cI cZ h4 h5 ba i i 506 := by
  obtain ⟨hx, hb, hr, hml, hown, hts, hX, hbl, hlocks⟩ := C0
  have hA : ∀ q : Nat, s.heap.size ≤ q → (fun q : Nat => s.heap.size ≤ q) q := fun _ h => h
  have hbA : ¬ (fun q : Nat => s.heap.size ≤ q) ba := Nat.not_le.mpr hbl
  intro wx wm H locs hI hP hD hS ls hl
  obtain ⟨pl, le, n, k, h, b, d, dr, sc, sp, sn, sm, cr, hd, hi, kk2, hh2, bb2, dd2, dk, ks, sp2, sn2, sm2, hBX, hBM, hdr, hdk, hhd, hn0, hcrN⟩ := hI
  have hcr : cr < 2 ^ 30 := by omega
  refine lv_aload_n hx hb dL_law_506 rfl (lv_at hl 1 rfl) ?_
  have hPc := va_Pl hP
  have hDc := va_Dl hD
  have hFc := va_fl hD hS hA
  obtain ⟨fs507, hh507⟩ := BX_head hBX
  refine va_calli (va_runV (As := []) (rest := []) ⟨hx, hb, hml, hown, hts⟩ (MX_hint l dC dI0 cI cZ h4 H.size  hBX hhd) (cwV 0 hts gL_law_X4_hint rfl rfl rfl (by decide +kernel) ⟨Nat.le_of_ble_eq_true rfl, Nat.le_of_ble_eq_true rfl⟩) ⟨fun a U g mk q => by obtain ⟨q0, q1, qP, qK, qD⟩ := q; exact ⟨q0, q1, qP, va_K.moved (u := U) (U := U.calling g mk a) (Vm.Alike.refl U.vm) qK, qD⟩, va_recv hK hPc (ci := 4) (q0 := 0) rfl hh507, fun U hU hW => ⟨rfl, by rw [hU], by rw [hU]; exact hPc, va_K.moved hW.alike hK, hDc.weaken (fun _ _ _ _ => trivial)⟩⟩ rfl rfl hl.1 rfl (lv_room (Nat.le_of_ble_eq_true rfl)) dL_law_507 ⟨Nat.le_of_ble_eq_true rfl, Nat.le_of_ble_eq_true rfl⟩) hS (fun q _ h => hFc q h) hFc (fun r507 u507 t7 H1 locs ht7 hvm7 hw507 hB hz1 hk1 hS => ?_)
  obtain ⟨hP1, hK1, hD1⟩ := hB
  rw [ht7] at hP1
  obtain ⟨hP, hD⟩ := va_jl hP hD hk1 hFc hP1 hD1
  generalize H1 = H at hP hS ⊢
  obtain ⟨er507, hBX2⟩ := hw507
  refine lv_aload_n hx hb dL_law_510 rfl (lv_at hl 2 rfl) ?_
  have hPc := va_Pl hP
  have hDc := va_Dl hD
  have hFc := va_fl hD hS hA
  obtain ⟨fs511, hh511⟩ := BM_head hBM
  refine va_calli (va_runV (As := []) (rest := [.int r507]) ⟨hx, hb, hml, hown, hts⟩ (MM_hint l dC dI0 cI cZ h5 H.size  hBM hhd) (cwV 0 hts gL_law_X5_hint rfl rfl rfl (by decide +kernel) ⟨Nat.le_of_ble_eq_true rfl, Nat.le_of_ble_eq_true rfl⟩) ⟨fun a U g mk q => by obtain ⟨q0, q1, qP, qK, qD⟩ := q; exact ⟨q0, q1, qP, va_K.moved (u := U) (U := U.calling g mk a) (Vm.Alike.refl U.vm) qK, qD⟩, va_recv hK hPc (ci := 5) (q0 := 0) rfl hh511, fun U hU hW => ⟨rfl, by rw [hU], by rw [hU]; exact hPc, va_K.moved hW.alike hK, hDc.weaken (fun _ _ _ _ => trivial)⟩⟩ rfl rfl hl.1 rfl (lv_room (Nat.le_of_ble_eq_true rfl)) dL_law_511 ⟨Nat.le_of_ble_eq_true rfl, Nat.le_of_ble_eq_true rfl⟩) hS (fun q _ h => hFc q h) hFc (fun r511 u511 t7 H1 locs ht7 hvm7 hw511 hB hz1 hk1 hS => ?_)
  obtain ⟨hP1, hK1, hD1⟩ := hB
  rw [ht7] at hP1
  obtain ⟨hP, hD⟩ := va_jl hP hD hk1 hFc hP1 hD1
  generalize H1 = H at hP hS ⊢
  obtain ⟨er511, hBM2⟩ := hw511
  refine lv_icmp_eq (tgt := 733) hx hb dL_law_514 (by decide) (fun c514 => ?_) (fun c514 => ?_)
  · exact hk _ _ _ _ ⟨pl, le, n, k, h, b, d, dr, sc, sp, sn, sm, cr, (hnD n hd), hi, kk2, hh2, bb2, dd2, dk, ks, sp2, sn2, sm2, hBX2, hBM2, hdr, hdk, (hnD_le hhd), hn0, (Nat.le_trans hcrN (by omega))⟩ hP hD hS ls hl
  exact absurd (er507.trans er511.symm) c514
set_option maxHeartbeats 4000000 in
set_option maxRecDepth 100000 in
theorem LC15 {prg : Program} {l : Launch} {env : Env} {s : State} {m : MethodId} {below : List Frame} {meth : Method} {c : Code} {dC : Nat → ClassId} {dI0 : Nat → Nat → Nat} {cI cZ : ClassId} {h4 h5 ba L i sk sv : Nat} {xs : Nat → Int32} (hL : L ≤ 2048) (C0 : LCx prg s m meth c ba L xs) (hK : va_K (dC, dI0) vwCl [(cI, .int), (cZ, .boolean)] s) (hST : STR sk sv (fun q : Nat => s.heap.size ≤ q) s s.heap) (hi4 : i + 4 ≤ L) (hk : LKt prg l env s m below meth c dC dI0 cI cZ h4 h5 ba i (i + 4) 733) : LKt prg l env s m below meth c dC dI0 cI cZ h4 h5 ba i i 519 := by
  obtain ⟨hx, hb, hr, hml, hown, hts, hX, hbl, hlocks⟩ := C0
  have hA : ∀ q : Nat, s.heap.size ≤ q → (fun q : Nat => s.heap.size ≤ q) q := fun _ h => h
  have hbA : ¬ (fun q : Nat => s.heap.size ≤ q) ba := Nat.not_le.mpr hbl
  intro wx wm H locs hI hP hD hS ls hl
  obtain ⟨pl, le, n, k, h, b, d, dr, sc, sp, sn, sm, cr, hd, hi, kk2, hh2, bb2, dd2, dk, ks, sp2, sn2, sm2, hBX, hBM, hdr, hdk, hhd, hn0, hcrN⟩ := hI
  have hcr : cr < 2 ^ 30 := by omega
  refine lv_aload_n hx hb dL_law_519 rfl (lv_at hl 1 rfl) ?_
  have hPc := va_Pl hP
  have hDc := va_Dl hD
  have hFc := va_fl hD hS hA
  obtain ⟨fs520, hh520⟩ := BX_head hBX
  refine va_calli (va_runV (As := []) (rest := []) ⟨hx, hb, hml, hown, hts⟩ (MX_likely l dC dI0 cI cZ h4 H.size  hBX) (cwV 0 hts gL_law_X4_likely rfl rfl rfl (by decide +kernel) ⟨Nat.le_of_ble_eq_true rfl, Nat.le_of_ble_eq_true rfl⟩) ⟨fun a U g mk q => by obtain ⟨q0, q1, qP, qK, qD⟩ := q; exact ⟨q0, q1, qP, va_K.moved (u := U) (U := U.calling g mk a) (Vm.Alike.refl U.vm) qK, qD⟩, va_recv hK hPc (ci := 4) (q0 := 0) rfl hh520, fun U hU hW => ⟨rfl, by rw [hU], by rw [hU]; exact hPc, va_K.moved hW.alike hK, hDc.weaken (fun _ _ _ _ => trivial)⟩⟩ rfl rfl hl.1 rfl (lv_room (Nat.le_of_ble_eq_true rfl)) dL_law_520 ⟨Nat.le_of_ble_eq_true rfl, Nat.le_of_ble_eq_true rfl⟩) hS (fun q _ h => hFc q h) hFc (fun r520 u520 t7 H1 locs ht7 hvm7 hw520 hB hz1 hk1 hS => ?_)
  obtain ⟨hP1, hK1, hD1⟩ := hB
  rw [ht7] at hP1
  obtain ⟨hP, hD⟩ := va_jl hP hD hk1 hFc hP1 hD1
  generalize H1 = H at hP hS ⊢
  obtain ⟨er520, hBX2⟩ := hw520
  refine lv_aload_n hx hb dL_law_523 rfl (lv_at hl 2 rfl) ?_
  have hPc := va_Pl hP
  have hDc := va_Dl hD
  have hFc := va_fl hD hS hA
  obtain ⟨fs524, hh524⟩ := BM_head hBM
  refine va_calli (va_runV (As := []) (rest := [.int r520]) ⟨hx, hb, hml, hown, hts⟩ (MM_likely l dC dI0 cI cZ h5 H.size  hBM) (cwV 0 hts gL_law_X5_likely rfl rfl rfl (by decide +kernel) ⟨Nat.le_of_ble_eq_true rfl, Nat.le_of_ble_eq_true rfl⟩) ⟨fun a U g mk q => by obtain ⟨q0, q1, qP, qK, qD⟩ := q; exact ⟨q0, q1, qP, va_K.moved (u := U) (U := U.calling g mk a) (Vm.Alike.refl U.vm) qK, qD⟩, va_recv hK hPc (ci := 5) (q0 := 0) rfl hh524, fun U hU hW => ⟨rfl, by rw [hU], by rw [hU]; exact hPc, va_K.moved hW.alike hK, hDc.weaken (fun _ _ _ _ => trivial)⟩⟩ rfl rfl hl.1 rfl (lv_room (Nat.le_of_ble_eq_true rfl)) dL_law_524 ⟨Nat.le_of_ble_eq_true rfl, Nat.le_of_ble_eq_true rfl⟩) hS (fun q _ h => hFc q h) hFc (fun r524 u524 t7 H1 locs ht7 hvm7 hw524 hB hz1 hk1 hS => ?_)
  obtain ⟨hP1, hK1, hD1⟩ := hB
  rw [ht7] at hP1
  obtain ⟨hP, hD⟩ := va_jl hP hD hk1 hFc hP1 hD1
  generalize H1 = H at hP hS ⊢
  obtain ⟨er524, hBM2⟩ := hw524
  refine lv_icmp_eq (tgt := 733) hx hb dL_law_527 (by decide) (fun c527 => ?_) (fun c527 => ?_)
  · exact hk _ _ _ _ ⟨pl, le, n, k, h, b, d, dr, sc, sp, sn, sm, cr, hd, hi, kk2, hh2, bb2, dd2, dk, ks, sp2, sn2, sm2, hBX2, hBM2, hdr, hdk, hhd, hn0, (Nat.le_trans hcrN (by omega))⟩ hP hD hS ls hl
  exact absurd (er520.trans er524.symm) c527
