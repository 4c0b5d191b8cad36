set_option maxHeartbeats 4000000 in
set_option maxRecDepth 100000 in
theorem LC0 {prg : Program} {l : Launch} {env : Env} {s : State} {m : MethodId} {below : List Frame} {meth : Method} {c : Code} {dC : Nat → ClassId} {dI0 : Nat → Nat → Nat} {cI cZ : ClassId} {h4 h5 ba L i sk sv : Nat} {xs : Nat → Int32} (hL : L ≤ 2048) (C0 : LCx prg s m meth c ba L xs) (hK : va_K (dC, dI0) vwCl [(cI, .int), (cZ, .boolean)] s) (hST : STR sk sv (fun q : Nat => s.heap.size ≤ q) s s.heap) (hi4 : i + 4 ≤ L) (hk : LKt prg l env s m below meth c dC dI0 cI cZ h4 h5 ba i (i + 4) 733) : LKt prg l env s m below meth c dC dI0 cI cZ h4 h5 ba i i 144 := by
  obtain ⟨hx, hb, hr, hml, hown, hts, hX, hbl, hlocks⟩ := C0
  have hA : ∀ q : Nat, s.heap.size ≤ q → (fun q : Nat => s.heap.size ≤ q) q := fun _ h => h
  have hbA : ¬ (fun q : Nat => s.heap.size ≤ q) ba := Nat.not_le.mpr hbl
  intro wx wm H locs hI hP hD hS ls hl
  obtain ⟨pl, le, n, k, h, b, d, dr, sc, sp, sn, sm, cr, hd, hi, kk2, hh2, bb2, dd2, dk, ks, sp2, sn2, sm2, hBX, hBM, hdr, hdk, hhd, hn0, hcrN⟩ := hI
  have hcr : cr < 2 ^ 30 := by omega
  refine lv_aload_n hx hb dL_law_144 rfl (lv_at hl 1 rfl) ?_
  refine lv_aload_n hx hb dL_law_145 rfl (lv_at hl 0 rfl) ?_
  refine lv_iload_n hx hb dL_law_146 rfl (lv_at hl 3 rfl) ?_
  refine lv_iconst (v := nI 1) hx hb dL_law_147 (by decide) ?_
  refine lv_iadd hx hb dL_law_148 ?_
  refine lv_topi (fun x148 e148 => ?_)
  obtain rfl : x148 = nI (i + 1) := e148.trans (nI_add _ _)
  refine va_sld hx hb hX hbl hbA hS (vp_in_nI (by omega) (by omega)) dL_law_149 ?_
  refine lv_topi (fun x149 e149 => ?_)
  have hPc := va_Pl hP
  have hDc := va_Dl hD
  have hFc := va_fl hD hS hA
  obtain ⟨fs150, hh150⟩ := BX_head hBX
  refine va_calli (va_runV (As := [.int x149]) (rest := []) ⟨hx, hb, hml, hown, hts⟩ (MX_letter l dC dI0 cI cZ h4 H.size x149 hBX) (cwV 1 hts gL_law_X4_letter rfl rfl rfl (by decide +kernel) ⟨Nat.le_of_ble_eq_true rfl, Nat.le_of_ble_eq_true rfl⟩) ⟨fun a U g mk q => by obtain ⟨q0, q1, qP, qK, qD⟩ := q; exact ⟨q0, q1, qP, va_K.moved (u := U) (U := U.calling g mk a) (Vm.Alike.refl U.vm) qK, qD⟩, va_recv hK hPc (ci := 4) (q0 := 0) rfl hh150, fun U hU hW => ⟨rfl, by rw [hU], by rw [hU]; exact hPc, va_K.moved hW.alike hK, hDc.weaken (fun _ _ _ _ => trivial)⟩⟩ rfl rfl hl.1 rfl (lv_room (Nat.le_of_ble_eq_true rfl)) dL_law_150 ⟨Nat.le_of_ble_eq_true rfl, Nat.le_of_ble_eq_true rfl⟩) hS (fun q _ h => hFc q h) hFc (fun r150 u150 t7 H1 locs ht7 hvm7 hw150 hB hz1 hk1 hS => ?_)
  obtain ⟨hP1, hK1, hD1⟩ := hB
  rw [ht7] at hP1
  obtain ⟨hP, hD⟩ := va_jl hP hD hk1 hFc hP1 hD1
  generalize H1 = H at hP hS ⊢
  obtain ⟨er150, hBX2⟩ := hw150
  refine lv_aload_n hx hb dL_law_153 rfl (lv_at hl 2 rfl) ?_
  refine lv_aload_n hx hb dL_law_154 rfl (lv_at hl 0 rfl) ?_
  refine lv_iload_n hx hb dL_law_155 rfl (lv_at hl 3 rfl) ?_
  refine lv_iconst (v := nI 1) hx hb dL_law_156 (by decide) ?_
  refine lv_iadd hx hb dL_law_157 ?_
  refine lv_topi (fun x157 e157 => ?_)
  obtain rfl : x157 = nI (i + 1) := e157.trans (nI_add _ _)
  refine va_sld hx hb hX hbl hbA hS (vp_in_nI (by omega) (by omega)) dL_law_158 ?_
  refine lv_topi (fun x158 e158 => ?_)
  have ee158 : x149 = x158 := e149.trans e158.symm
  subst ee158
  have hPc := va_Pl hP
  have hDc := va_Dl hD
  have hFc := va_fl hD hS hA
  obtain ⟨fs159, hh159⟩ := BM_head hBM
  refine va_calli (va_runV (As := [.int x149]) (rest := [.int r150]) ⟨hx, hb, hml, hown, hts⟩ (MM_letter l dC dI0 cI cZ h5 H.size x149 hBM) (cwV 1 hts gL_law_X5_letter rfl rfl rfl (by decide +kernel) ⟨Nat.le_of_ble_eq_true rfl, Nat.le_of_ble_eq_true rfl⟩) ⟨fun a U g mk q => by obtain ⟨q0, q1, qP, qK, qD⟩ := q; exact ⟨q0, q1, qP, va_K.moved (u := U) (U := U.calling g mk a) (Vm.Alike.refl U.vm) qK, qD⟩, va_recv hK hPc (ci := 5) (q0 := 0) rfl hh159, fun U hU hW => ⟨rfl, by rw [hU], by rw [hU]; exact hPc, va_K.moved hW.alike hK, hDc.weaken (fun _ _ _ _ => trivial)⟩⟩ rfl rfl hl.1 rfl (lv_room (Nat.le_of_ble_eq_true rfl)) dL_law_159 ⟨Nat.le_of_ble_eq_true rfl, Nat.le_of_ble_eq_true rfl⟩) hS (fun q _ h => hFc q h) hFc (fun r159 u159 t7 H1 locs ht7 hvm7 hw159 hB hz1 hk1 hS => ?_)
  obtain ⟨hP1, hK1, hD1⟩ := hB
  rw [ht7] at hP1
  obtain ⟨hP, hD⟩ := va_jl hP hD hk1 hFc hP1 hD1
  generalize H1 = H at hP hS ⊢
  obtain ⟨er159, hBM2⟩ := hw159
  refine lv_icmp_eq (tgt := 733) hx hb dL_law_162 (by decide) (fun c162 => ?_) (fun c162 => ?_)
  · exact hk _ _ _ _ ⟨(ltP pl x149), (ltL pl le x149), n, k, h, b, d, dr, sc, sp, sn, sm, cr, hd, hi, kk2, hh2, bb2, dd2, dk, ks, sp2, sn2, sm2, hBX2, hBM2, hdr, hdk, hhd, hn0, (Nat.le_trans hcrN (by omega))⟩ hP hD hS ls hl
  exact absurd (er150.trans er159.symm) c162
set_option maxHeartbeats 4000000 in
set_option maxRecDepth 100000 in
theorem LC1 {prg : Program} {l : Launch} {env : Env} {s : State} {m : MethodId} {below : List Frame} {meth : Method} {c : Code} {dC : Nat → ClassId} {dI0 : Nat → Nat → Nat} {cI cZ : ClassId} {h4 h5 ba L i sk sv : Nat} {xs : Nat → Int32} (hL : L ≤ 2048) (C0 : LCx prg s m meth c ba L xs) (hK : va_K (dC, dI0) vwCl [(cI, .int), (cZ, .boolean)] s) (hST : STR sk sv (fun q : Nat => s.heap.size ≤ q) s s.heap) (hi4 : i + 4 ≤ L) (hk : LKt prg l env s m below meth c dC dI0 cI cZ h4 h5 ba i (i + 4) 733) : LKt prg l env s m below meth c dC dI0 cI cZ h4 h5 ba i i 167 := by
  obtain ⟨hx, hb, hr, hml, hown, hts, hX, hbl, hlocks⟩ := C0
  have hA : ∀ q : Nat, s.heap.size ≤ q → (fun q : Nat => s.heap.size ≤ q) q := fun _ h => h
  have hbA : ¬ (fun q : Nat => s.heap.size ≤ q) ba := Nat.not_le.mpr hbl
  intro wx wm H locs hI hP hD hS ls hl
  obtain ⟨pl, le, n, k, h, b, d, dr, sc, sp, sn, sm, cr, hd, hi, kk2, hh2, bb2, dd2, dk, ks, sp2, sn2, sm2, hBX, hBM, hdr, hdk, hhd, hn0, hcrN⟩ := hI
  have hcr : cr < 2 ^ 30 := by omega
  refine lv_aload_n hx hb dL_law_167 rfl (lv_at hl 1 rfl) ?_
  have hPc := va_Pl hP
  have hDc := va_Dl hD
  have hFc := va_fl hD hS hA
  obtain ⟨fs168, hh168⟩ := BX_head hBX
  refine va_calli (va_runV (As := []) (rest := []) ⟨hx, hb, hml, hown, hts⟩ (MX_blank l dC dI0 cI cZ h4 H.size  hBX) (cwV 0 hts gL_law_X4_blank rfl rfl rfl (by decide +kernel) ⟨Nat.le_of_ble_eq_true rfl, Nat.le_of_ble_eq_true rfl⟩) ⟨fun a U g mk q => by obtain ⟨q0, q1, qP, qK, qD⟩ := q; exact ⟨q0, q1, qP, va_K.moved (u := U) (U := U.calling g mk a) (Vm.Alike.refl U.vm) qK, qD⟩, va_recv hK hPc (ci := 4) (q0 := 0) rfl hh168, fun U hU hW => ⟨rfl, by rw [hU], by rw [hU]; exact hPc, va_K.moved hW.alike hK, hDc.weaken (fun _ _ _ _ => trivial)⟩⟩ rfl rfl hl.1 rfl (lv_room (Nat.le_of_ble_eq_true rfl)) dL_law_168 ⟨Nat.le_of_ble_eq_true rfl, Nat.le_of_ble_eq_true rfl⟩) hS (fun q _ h => hFc q h) hFc (fun r168 u168 t7 H1 locs ht7 hvm7 hw168 hB hz1 hk1 hS => ?_)
  obtain ⟨hP1, hK1, hD1⟩ := hB
  rw [ht7] at hP1
  obtain ⟨hP, hD⟩ := va_jl hP hD hk1 hFc hP1 hD1
  generalize H1 = H at hP hS ⊢
  obtain ⟨er168, hBX2⟩ := hw168
  refine lv_aload_n hx hb dL_law_171 rfl (lv_at hl 2 rfl) ?_
  have hPc := va_Pl hP
  have hDc := va_Dl hD
  have hFc := va_fl hD hS hA
  obtain ⟨fs172, hh172⟩ := BM_head hBM
  refine va_calli (va_runV (As := []) (rest := [.int r168]) ⟨hx, hb, hml, hown, hts⟩ (MM_blank l dC dI0 cI cZ h5 H.size  hBM) (cwV 0 hts gL_law_X5_blank rfl rfl rfl (by decide +kernel) ⟨Nat.le_of_ble_eq_true rfl, Nat.le_of_ble_eq_true rfl⟩) ⟨fun a U g mk q => by obtain ⟨q0, q1, qP, qK, qD⟩ := q; exact ⟨q0, q1, qP, va_K.moved (u := U) (U := U.calling g mk a) (Vm.Alike.refl U.vm) qK, qD⟩, va_recv hK hPc (ci := 5) (q0 := 0) rfl hh172, fun U hU hW => ⟨rfl, by rw [hU], by rw [hU]; exact hPc, va_K.moved hW.alike hK, hDc.weaken (fun _ _ _ _ => trivial)⟩⟩ rfl rfl hl.1 rfl (lv_room (Nat.le_of_ble_eq_true rfl)) dL_law_172 ⟨Nat.le_of_ble_eq_true rfl, Nat.le_of_ble_eq_true rfl⟩) hS (fun q _ h => hFc q h) hFc (fun r172 u172 t7 H1 locs ht7 hvm7 hw172 hB hz1 hk1 hS => ?_)
  obtain ⟨hP1, hK1, hD1⟩ := hB
  rw [ht7] at hP1
  obtain ⟨hP, hD⟩ := va_jl hP hD hk1 hFc hP1 hD1
  generalize H1 = H at hP hS ⊢
  obtain ⟨er172, hBM2⟩ := hw172
  refine lv_icmp_eq (tgt := 733) hx hb dL_law_175 (by decide) (fun c175 => ?_) (fun c175 => ?_)
  · exact hk _ _ _ _ ⟨0, le, n, k, h, b, d, dr, sc, sp, sn, sm, cr, hd, hi, kk2, hh2, bb2, dd2, dk, ks, sp2, sn2, sm2, hBX2, hBM2, hdr, hdk, hhd, hn0, (Nat.le_trans hcrN (by omega))⟩ hP hD hS ls hl
  exact absurd (er168.trans er172.symm) c175
set_option maxHeartbeats 4000000 in
set_option maxRecDepth 100000 in
theorem LC2 {prg : Program} {l : Launch} {env : Env} {s : State} {m : MethodId} {below : List Frame} {meth : Method} {c : Code} {dC : Nat → ClassId} {dI0 : Nat → Nat → Nat} {cI cZ : ClassId} {h4 h5 ba L i sk sv : Nat} {xs : Nat → Int32} (hL : L ≤ 2048) (C0 : LCx prg s m meth c ba L xs) (hK : va_K (dC, dI0) vwCl [(cI, .int), (cZ, .boolean)] s) (hST : STR sk sv (fun q : Nat => s.heap.size ≤ q) s s.heap) (hi4 : i + 4 ≤ L) (hk : LKt prg l env s m below meth c dC dI0 cI cZ h4 h5 ba i (i + 4) 733) : LKt prg l env s m below meth c dC dI0 cI cZ h4 h5 ba i i 180 := by
  obtain ⟨hx, hb, hr, hml, hown, hts, hX, hbl, hlocks⟩ := C0
  have hA : ∀ q : Nat, s.heap.size ≤ q → (fun q : Nat => s.heap.size ≤ q) q := fun _ h => h
  have hbA : ¬ (fun q : Nat => s.heap.size ≤ q) ba := Nat.not_le.mpr hbl
  intro wx wm H locs hI hP hD hS ls hl
  obtain ⟨pl, le, n, k, h, b, d, dr, sc, sp, sn, sm, cr, hd, hi, kk2, hh2, bb2, dd2, dk, ks, sp2, sn2, sm2, hBX, hBM, hdr, hdk, hhd, hn0, hcrN⟩ := hI
  have hcr : cr < 2 ^ 30 := by omega
  refine lv_aload_n hx hb dL_law_180 rfl (lv_at hl 1 rfl) ?_
  have hPc := va_Pl hP
  have hDc := va_Dl hD
  have hFc := va_fl hD hS hA
  obtain ⟨fs181, hh181⟩ := BX_head hBX
  refine va_calli (va_runV (As := []) (rest := []) ⟨hx, hb, hml, hown, hts⟩ (MX_fault l dC dI0 cI cZ h4 H.size sk sv  hBX) (cwV 0 hts gL_law_X4_fault rfl rfl rfl (by decide +kernel) ⟨Nat.le_of_ble_eq_true rfl, Nat.le_of_ble_eq_true rfl⟩) ⟨fun a U g mk q => by obtain ⟨q0, q1, qP, qK, qD, qT⟩ := q; exact ⟨q0, q1, qP, va_K.moved (u := U) (U := U.calling g mk a) (Vm.Alike.refl U.vm) qK, qD, qT.call g mk a⟩, va_recv hK hPc (ci := 4) (q0 := 0) rfl hh181, fun U hU hW => ⟨rfl, by rw [hU], by rw [hU]; exact hPc, va_K.moved hW.alike hK, hDc.weaken (fun _ _ _ _ => trivial), hST.to hS hFc hU hW⟩⟩ rfl rfl hl.1 rfl (lv_room (Nat.le_of_ble_eq_true rfl)) dL_law_181 ⟨Nat.le_of_ble_eq_true rfl, Nat.le_of_ble_eq_true rfl⟩) hS (fun q _ h => hFc q h) hFc (fun r181 u181 t7 H1 locs ht7 hvm7 hw181 hB hz1 hk1 hS => ?_)
  obtain ⟨hP1, hK1, hD1⟩ := hB
  rw [ht7] at hP1
  obtain ⟨hP, hD⟩ := va_jl hP hD hk1 hFc hP1 hD1
  generalize H1 = H at hP hS ⊢
  obtain ⟨er181, hBX2⟩ := hw181
  refine lv_aload_n hx hb dL_law_184 rfl (lv_at hl 2 rfl) ?_
  have hPc := va_Pl hP
  have hDc := va_Dl hD
  have hFc := va_fl hD hS hA
  obtain ⟨fs185, hh185⟩ := BM_head hBM
  refine va_calli (va_runV (As := []) (rest := [.int r181]) ⟨hx, hb, hml, hown, hts⟩ (MM_fault l dC dI0 cI cZ h5 H.size  hBM) (cwV 0 hts gL_law_X5_fault rfl rfl rfl (by decide +kernel) ⟨Nat.le_of_ble_eq_true rfl, Nat.le_of_ble_eq_true rfl⟩) ⟨fun a U g mk q => by obtain ⟨q0, q1, qP, qK, qD⟩ := q; exact ⟨q0, q1, qP, va_K.moved (u := U) (U := U.calling g mk a) (Vm.Alike.refl U.vm) qK, qD⟩, va_recv hK hPc (ci := 5) (q0 := 0) rfl hh185, fun U hU hW => ⟨rfl, by rw [hU], by rw [hU]; exact hPc, va_K.moved hW.alike hK, hDc.weaken (fun _ _ _ _ => trivial)⟩⟩ rfl rfl hl.1 rfl (lv_room (Nat.le_of_ble_eq_true rfl)) dL_law_185 ⟨Nat.le_of_ble_eq_true rfl, Nat.le_of_ble_eq_true rfl⟩) hS (fun q _ h => hFc q h) hFc (fun r185 u185 t7 H1 locs ht7 hvm7 hw185 hB hz1 hk1 hS => ?_)
  obtain ⟨hP1, hK1, hD1⟩ := hB
  rw [ht7] at hP1
  obtain ⟨hP, hD⟩ := va_jl hP hD hk1 hFc hP1 hD1
  generalize H1 = H at hP hS ⊢
  obtain ⟨er185, hBM2⟩ := hw185
  refine lv_icmp_eq (tgt := 733) hx hb dL_law_188 (by decide) (fun c188 => ?_) (fun c188 => ?_)
  · exact hk _ _ _ _ ⟨pl, le, n, k, h, b, d, dr, sc, sp, sn, sm, cr, hd, hi, kk2, hh2, bb2, dd2, dk, ks, sp2, sn2, sm2, hBX2, hBM2, hdr, hdk, hhd, hn0, (Nat.le_trans hcrN (by omega))⟩ hP hD hS ls hl
  exact absurd (er181.trans er185.symm) c188
set_option maxHeartbeats 4000000 in
set_option maxRecDepth 100000 in
theorem LC3 {prg : Program} {l : Launch} {env : Env} {s : State} {m : MethodId} {below : List Frame} {meth : Method} {c : Code} {dC : Nat → ClassId} {dI0 : Nat → Nat → Nat} {cI cZ : ClassId} {h4 h5 ba L i sk sv : Nat} {xs : Nat → Int32} (hL : L ≤ 2048) (C0 : LCx prg s m meth c ba L xs) (hK : va_K (dC, dI0) vwCl [(cI, .int), (cZ, .boolean)] s) (hST : STR sk sv (fun q : Nat => s.heap.size ≤ q) s s.heap) (hi4 : i + 4 ≤ L) (hk : LKt prg l env s m below meth c dC dI0 cI cZ h4 h5 ba i (i + 4) 733) : LKt prg l env s m below meth c dC dI0 cI cZ h4 h5 ba i i 193 := by
  obtain ⟨hx, hb, hr, hml, hown, hts, hX, hbl, hlocks⟩ := C0
  have hA : ∀ q : Nat, s.heap.size ≤ q → (fun q : Nat => s.heap.size ≤ q) q := fun _ h => h
  have hbA : ¬ (fun q : Nat => s.heap.size ≤ q) ba := Nat.not_le.mpr hbl
  intro wx wm H locs hI hP hD hS ls hl
  obtain ⟨pl, le, n, k, h, b, d, dr, sc, sp, sn, sm, cr, hd, hi, kk2, hh2, bb2, dd2, dk, ks, sp2, sn2, sm2, hBX, hBM, hdr, hdk, hhd, hn0, hcrN⟩ := hI
  have hcr : cr < 2 ^ 30 := by omega
  refine lv_aload_n hx hb dL_law_193 rfl (lv_at hl 1 rfl) ?_
  have hPc := va_Pl hP
  have hDc := va_Dl hD
  have hFc := va_fl hD hS hA
  obtain ⟨fs194, hh194⟩ := BX_head hBX
  refine va_calli (va_runV (As := []) (rest := []) ⟨hx, hb, hml, hown, hts⟩ (MX_company l dC dI0 cI cZ h4 H.size sk sv  hBX) (cwV 0 hts gL_law_X4_company rfl rfl rfl (by decide +kernel) ⟨Nat.le_of_ble_eq_true rfl, Nat.le_of_ble_eq_true rfl⟩) ⟨fun a U g mk q => by obtain ⟨q0, q1, qP, qK, qD, qT⟩ := q; exact ⟨q0, q1, qP, va_K.moved (u := U) (U := U.calling g mk a) (Vm.Alike.refl U.vm) qK, qD, qT.call g mk a⟩, va_recv hK hPc (ci := 4) (q0 := 0) rfl hh194, fun U hU hW => ⟨rfl, by rw [hU], by rw [hU]; exact hPc, va_K.moved hW.alike hK, hDc.weaken (fun _ _ _ _ => trivial), hST.to hS hFc hU hW⟩⟩ rfl rfl hl.1 rfl (lv_room (Nat.le_of_ble_eq_true rfl)) dL_law_194 ⟨Nat.le_of_ble_eq_true rfl, Nat.le_of_ble_eq_true rfl⟩) hS (fun q _ h => hFc q h) hFc (fun r194 u194 t7 H1 locs ht7 hvm7 hw194 hB hz1 hk1 hS => ?_)
  obtain ⟨hP1, hK1, hD1⟩ := hB
  rw [ht7] at hP1
  obtain ⟨hP, hD⟩ := va_jl hP hD hk1 hFc hP1 hD1
  generalize H1 = H at hP hS ⊢
  obtain ⟨er194, hBX2⟩ := hw194
  refine lv_aload_n hx hb dL_law_197 rfl (lv_at hl 2 rfl) ?_
  have hPc := va_Pl hP
  have hDc := va_Dl hD
  have hFc := va_fl hD hS hA
  obtain ⟨fs198, hh198⟩ := BM_head hBM
  refine va_calli (va_runV (As := []) (rest := [.int r194]) ⟨hx, hb, hml, hown, hts⟩ (MM_company l dC dI0 cI cZ h5 H.size  hBM) (cwV 0 hts gL_law_X5_company rfl rfl rfl (by decide +kernel) ⟨Nat.le_of_ble_eq_true rfl, Nat.le_of_ble_eq_true rfl⟩) ⟨fun a U g mk q => by obtain ⟨q0, q1, qP, qK, qD⟩ := q; exact ⟨q0, q1, qP, va_K.moved (u := U) (U := U.calling g mk a) (Vm.Alike.refl U.vm) qK, qD⟩, va_recv hK hPc (ci := 5) (q0 := 0) rfl hh198, fun U hU hW => ⟨rfl, by rw [hU], by rw [hU]; exact hPc, va_K.moved hW.alike hK, hDc.weaken (fun _ _ _ _ => trivial)⟩⟩ rfl rfl hl.1 rfl (lv_room (Nat.le_of_ble_eq_true rfl)) dL_law_198 ⟨Nat.le_of_ble_eq_true rfl, Nat.le_of_ble_eq_true rfl⟩) hS (fun q _ h => hFc q h) hFc (fun r198 u198 t7 H1 locs ht7 hvm7 hw198 hB hz1 hk1 hS => ?_)
  obtain ⟨hP1, hK1, hD1⟩ := hB
  rw [ht7] at hP1
  obtain ⟨hP, hD⟩ := va_jl hP hD hk1 hFc hP1 hD1
  generalize H1 = H at hP hS ⊢
  obtain ⟨er198, hBM2⟩ := hw198
  refine lv_icmp_eq (tgt := 733) hx hb dL_law_201 (by decide) (fun c201 => ?_) (fun c201 => ?_)
  · exact hk _ _ _ _ ⟨(if icS pl le = true then 0 else pl), le, (if icS pl le = true then ((pl + 1) / 3) else n), (if icS pl le = true then (kpS le) else k), (if icS pl le = true then (hpS le) else h), (if icS pl le = true then (fun _ => 0) else b), (if icS pl le = true then (fun _ => none) else d), (if icS pl le = true then 0 else dr), (if icS pl le = true then 0 else sc), sp, sn, sm, (if icS pl le = true then (cr + 1) else cr), hd, (if icS pl le = true then false else hi), kk2, hh2, bb2, dd2, dk, ks, sp2, sn2, sm2, hBX2, hBM2, (by split <;> omega), hdk, hhd, (fun hz => by
      by_cases hic : icS pl le = true
      · exact if_pos hic
      · exact (if_neg hic).trans (hn0 ((if_neg hic).symm.trans hz))), (by split <;> omega)⟩ hP hD hS ls hl
  exact absurd (er194.trans er198.symm) c201
set_option maxHeartbeats 4000000 in
set_option maxRecDepth 100000 in
theorem LC4 {prg : Program} {l : Launch} {env : Env} {s : State} {m : MethodId} {below : List Frame} {meth : Method} {c : Code} {dC : Nat → ClassId} {dI0 : Nat → Nat → Nat} {cI cZ : ClassId} {h4 h5 ba L i sk sv : Nat} {xs : Nat → Int32} (hL : L ≤ 2048) (C0 : LCx prg s m meth c ba L xs) (hK : va_K (dC, dI0) vwCl [(cI, .int), (cZ, .boolean)] s) (hST : STR sk sv (fun q : Nat => s.heap.size ≤ q) s s.heap) (hi4 : i + 4 ≤ L) (hk : LKt prg l env s m below meth c dC dI0 cI cZ h4 h5 ba i (i + 4) 733) : LKt prg l env s m below meth c dC dI0 cI cZ h4 h5 ba i i 206 := by
  obtain ⟨hx, hb, hr, hml, hown, hts, hX, hbl, hlocks⟩ := C0
  have hA : ∀ q : Nat, s.heap.size ≤ q → (fun q : Nat => s.heap.size ≤ q) q := fun _ h => h
  have hbA : ¬ (fun q : Nat => s.heap.size ≤ q) ba := Nat.not_le.mpr hbl
  intro wx wm H locs hI hP hD hS ls hl
  obtain ⟨pl, le, n, k, h, b, d, dr, sc, sp, sn, sm, cr, hd, hi, kk2, hh2, bb2, dd2, dk, ks, sp2, sn2, sm2, hBX, hBM, hdr, hdk, hhd, hn0, hcrN⟩ := hI
  have hcr : cr < 2 ^ 30 := by omega
  refine lv_aload_n hx hb dL_law_206 rfl (lv_at hl 1 rfl) ?_
  refine lv_aload_n hx hb dL_law_207 rfl (lv_at hl 0 rfl) ?_
  refine lv_iload_n hx hb dL_law_208 rfl (lv_at hl 3 rfl) ?_
  refine lv_iconst (v := nI 1) hx hb dL_law_209 (by decide) ?_
  refine lv_iadd hx hb dL_law_210 ?_
  refine lv_topi (fun x210 e210 => ?_)
  obtain rfl : x210 = nI (i + 1) := e210.trans (nI_add _ _)
  refine va_sld hx hb hX hbl hbA hS (vp_in_nI (by omega) (by omega)) dL_law_211 ?_
  refine lv_topi (fun x211 e211 => ?_)
  refine lv_aload_n hx hb dL_law_212 rfl (lv_at hl 0 rfl) ?_
  refine lv_iload_n hx hb dL_law_213 rfl (lv_at hl 3 rfl) ?_
  refine lv_iconst (v := nI 2) hx hb dL_law_214 (by decide) ?_
  refine lv_iadd hx hb dL_law_215 ?_
  refine lv_topi (fun x215 e215 => ?_)
  obtain rfl : x215 = nI (i + 2) := e215.trans (nI_add _ _)
  refine va_sld hx hb hX hbl hbA hS (vp_in_nI (by omega) (by omega)) dL_law_216 ?_
  refine lv_topi (fun x216 e216 => ?_)
  have hPc := va_Pl hP
  have hDc := va_Dl hD
  have hFc := va_fl hD hS hA
  obtain ⟨fs217, hh217⟩ := BX_head hBX
  refine va_calli (va_runV (As := [.int x211, .int x216]) (rest := []) ⟨hx, hb, hml, hown, hts⟩ (MX_person l dC dI0 cI cZ h4 H.size x211 x216 hBX) (cwV 2 hts gL_law_X4_person rfl rfl rfl (by decide +kernel) ⟨Nat.le_of_ble_eq_true rfl, Nat.le_of_ble_eq_true rfl⟩) ⟨fun a U g mk q => by obtain ⟨q0, q1, qP, qK, qD⟩ := q; exact ⟨q0, q1, qP, va_K.moved (u := U) (U := U.calling g mk a) (Vm.Alike.refl U.vm) qK, qD⟩, va_recv hK hPc (ci := 4) (q0 := 0) rfl hh217, fun U hU hW => ⟨rfl, by rw [hU], by rw [hU]; exact hPc, va_K.moved hW.alike hK, hDc.weaken (fun _ _ _ _ => trivial)⟩⟩ rfl rfl hl.1 rfl (lv_room (Nat.le_of_ble_eq_true rfl)) dL_law_217 ⟨Nat.le_of_ble_eq_true rfl, Nat.le_of_ble_eq_true rfl⟩) hS (fun q _ h => hFc q h) hFc (fun r217 u217 t7 H1 locs ht7 hvm7 hw217 hB hz1 hk1 hS => ?_)
  obtain ⟨hP1, hK1, hD1⟩ := hB
  rw [ht7] at hP1
  obtain ⟨hP, hD⟩ := va_jl hP hD hk1 hFc hP1 hD1
  generalize H1 = H at hP hS ⊢
  obtain ⟨er217, hBX2⟩ := hw217
  refine lv_aload_n hx hb dL_law_220 rfl (lv_at hl 2 rfl) ?_
  refine lv_aload_n hx hb dL_law_221 rfl (lv_at hl 0 rfl) ?_
  refine lv_iload_n hx hb dL_law_222 rfl (lv_at hl 3 rfl) ?_
  refine lv_iconst (v := nI 1) hx hb dL_law_223 (by decide) ?_
  refine lv_iadd hx hb dL_law_224 ?_
  refine lv_topi (fun x224 e224 => ?_)
  obtain rfl : x224 = nI (i + 1) := e224.trans (nI_add _ _)
  refine va_sld hx hb hX hbl hbA hS (vp_in_nI (by omega) (by omega)) dL_law_225 ?_
  refine lv_topi (fun x225 e225 => ?_)
  have ee225 : x211 = x225 := e211.trans e225.symm
  subst ee225
  refine lv_aload_n hx hb dL_law_226 rfl (lv_at hl 0 rfl) ?_
  refine lv_iload_n hx hb dL_law_227 rfl (lv_at hl 3 rfl) ?_
  refine lv_iconst (v := nI 2) hx hb dL_law_228 (by decide) ?_
  refine lv_iadd hx hb dL_law_229 ?_
  refine lv_topi (fun x229 e229 => ?_)
  obtain rfl : x229 = nI (i + 2) := e229.trans (nI_add _ _)
  refine va_sld hx hb hX hbl hbA hS (vp_in_nI (by omega) (by omega)) dL_law_230 ?_
  refine lv_topi (fun x230 e230 => ?_)
  have ee230 : x216 = x230 := e216.trans e230.symm
  subst ee230
  have hPc := va_Pl hP
  have hDc := va_Dl hD
  have hFc := va_fl hD hS hA
  obtain ⟨fs231, hh231⟩ := BM_head hBM
  refine va_calli (va_runV (As := [.int x211, .int x216]) (rest := [.int r217]) ⟨hx, hb, hml, hown, hts⟩ (MM_person l dC dI0 cI cZ h5 H.size x211 x216 hBM) (cwV 2 hts gL_law_X5_person rfl rfl rfl (by decide +kernel) ⟨Nat.le_of_ble_eq_true rfl, Nat.le_of_ble_eq_true rfl⟩) ⟨fun a U g mk q => by obtain ⟨q0, q1, qP, qK, qD⟩ := q; exact ⟨q0, q1, qP, va_K.moved (u := U) (U := U.calling g mk a) (Vm.Alike.refl U.vm) qK, qD⟩, va_recv hK hPc (ci := 5) (q0 := 0) rfl hh231, fun U hU hW => ⟨rfl, by rw [hU], by rw [hU]; exact hPc, va_K.moved hW.alike hK, hDc.weaken (fun _ _ _ _ => trivial)⟩⟩ rfl rfl hl.1 rfl (lv_room (Nat.le_of_ble_eq_true rfl)) dL_law_231 ⟨Nat.le_of_ble_eq_true rfl, Nat.le_of_ble_eq_true rfl⟩) hS (fun q _ h => hFc q h) hFc (fun r231 u231 t7 H1 locs ht7 hvm7 hw231 hB hz1 hk1 hS => ?_)
  obtain ⟨hP1, hK1, hD1⟩ := hB
  rw [ht7] at hP1
  obtain ⟨hP, hD⟩ := va_jl hP hD hk1 hFc hP1 hD1
  generalize H1 = H at hP hS ⊢
  obtain ⟨er231, hBM2⟩ := hw231
  refine lv_icmp_eq (tgt := 733) hx hb dL_law_234 (by decide) (fun c234 => ?_) (fun c234 => ?_)
  · exact hk _ _ _ _ ⟨pl, le, n, k, h, b, d, dr, sc, sp, sn, sm, cr, hd, hi, kk2, hh2, bb2, dd2, dk, ks, sp2, sn2, sm2, hBX2, hBM2, hdr, hdk, hhd, hn0, (Nat.le_trans hcrN (by omega))⟩ hP hD hS ls hl
  exact absurd (er217.trans er231.symm) c234
set_option maxHeartbeats 4000000 in
set_option maxRecDepth 100000 in
theorem LC5 {prg : Program} {l : Launch} {env : Env} {s : State} {m : MethodId} {below : List Frame} {meth : Method} {c : Code} {dC : Nat → ClassId} {dI0 : Nat → Nat → Nat} {cI cZ : ClassId} {h4 h5 ba L i sk sv : Nat} {xs : Nat → Int32} (hL : L ≤ 2048) (C0 : LCx prg s m meth c ba L xs) (hK : va_K (dC, dI0) vwCl [(cI, .int), (cZ, .boolean)] s) (hST : STR sk sv (fun q : Nat => s.heap.size ≤ q) s s.heap) (hi4 : i + 4 ≤ L) (hk : LKt prg l env s m below meth c dC dI0 cI cZ h4 h5 ba i (i + 4) 733) : LKt prg l env s m below meth c dC dI0 cI cZ h4 h5 ba i i 239 := by
  obtain ⟨hx, hb, hr, hml, hown, hts, hX, hbl, hlocks⟩ := C0
  have hA : ∀ q : Nat, s.heap.size ≤ q → (fun q : Nat => s.heap.size ≤ q) q := fun _ h => h
  have hbA : ¬ (fun q : Nat => s.heap.size ≤ q) ba := Nat.not_le.mpr hbl
  intro wx wm H locs hI hP hD hS ls hl
  obtain ⟨pl, le, n, k, h, b, d, dr, sc, sp, sn, sm, cr, hd, hi, kk2, hh2, bb2, dd2, dk, ks, sp2, sn2, sm2, hBX, hBM, hdr, hdk, hhd, hn0, hcrN⟩ := hI
  have hcr : cr < 2 ^ 30 := by omega
  refine lv_aload_n hx hb dL_law_239 rfl (lv_at hl 1 rfl) ?_
  refine lv_aload_n hx hb dL_law_240 rfl (lv_at hl 0 rfl) ?_
  refine lv_iload_n hx hb dL_law_241 rfl (lv_at hl 3 rfl) ?_
  refine lv_iconst (v := nI 1) hx hb dL_law_242 (by decide) ?_
  refine lv_iadd hx hb dL_law_243 ?_
  refine lv_topi (fun x243 e243 => ?_)
  obtain rfl : x243 = nI (i + 1) := e243.trans (nI_add _ _)
  refine va_sld hx hb hX hbl hbA hS (vp_in_nI (by omega) (by omega)) dL_law_244 ?_
  refine lv_topi (fun x244 e244 => ?_)
  refine lv_aload_n hx hb dL_law_245 rfl (lv_at hl 0 rfl) ?_
  refine lv_iload_n hx hb dL_law_246 rfl (lv_at hl 3 rfl) ?_
  refine lv_iconst (v := nI 2) hx hb dL_law_247 (by decide) ?_
  refine lv_iadd hx hb dL_law_248 ?_
  refine lv_topi (fun x248 e248 => ?_)
  obtain rfl : x248 = nI (i + 2) := e248.trans (nI_add _ _)
  refine va_sld hx hb hX hbl hbA hS (vp_in_nI (by omega) (by omega)) dL_law_249 ?_
  refine lv_topi (fun x249 e249 => ?_)
  have hPc := va_Pl hP
  have hDc := va_Dl hD
  have hFc := va_fl hD hS hA
  obtain ⟨fs250, hh250⟩ := BX_head hBX
  refine va_calli (va_runV (As := [.int x244, .int x249]) (rest := []) ⟨hx, hb, hml, hown, hts⟩ (MX_as l dC dI0 cI cZ h4 H.size x244 x249 hBX) (cwV 2 hts gL_law_X4_as rfl rfl rfl (by decide +kernel) ⟨Nat.le_of_ble_eq_true rfl, Nat.le_of_ble_eq_true rfl⟩) ⟨fun a U g mk q => by obtain ⟨q0, q1, qP, qK, qD⟩ := q; exact ⟨q0, q1, qP, va_K.moved (u := U) (U := U.calling g mk a) (Vm.Alike.refl U.vm) qK, qD⟩, va_recv hK hPc (ci := 4) (q0 := 0) rfl hh250, fun U hU hW => ⟨rfl, by rw [hU], by rw [hU]; exact hPc, va_K.moved hW.alike hK, hDc.weaken (fun _ _ _ _ => trivial)⟩⟩ rfl rfl hl.1 rfl (lv_room (Nat.le_of_ble_eq_true rfl)) dL_law_250 ⟨Nat.le_of_ble_eq_true rfl, Nat.le_of_ble_eq_true rfl⟩) hS (fun q _ h => hFc q h) hFc (fun r250 u250 t7 H1 locs ht7 hvm7 hw250 hB hz1 hk1 hS => ?_)
  obtain ⟨hP1, hK1, hD1⟩ := hB
  rw [ht7] at hP1
  obtain ⟨hP, hD⟩ := va_jl hP hD hk1 hFc hP1 hD1
  generalize H1 = H at hP hS ⊢
  obtain ⟨er250, hBX2⟩ := hw250
  refine lv_aload_n hx hb dL_law_253 rfl (lv_at hl 2 rfl) ?_
  refine lv_aload_n hx hb dL_law_254 rfl (lv_at hl 0 rfl) ?_
  refine lv_iload_n hx hb dL_law_255 rfl (lv_at hl 3 rfl) ?_
  refine lv_iconst (v := nI 1) hx hb dL_law_256 (by decide) ?_
  refine lv_iadd hx hb dL_law_257 ?_
  refine lv_topi (fun x257 e257 => ?_)
  obtain rfl : x257 = nI (i + 1) := e257.trans (nI_add _ _)
  refine va_sld hx hb hX hbl hbA hS (vp_in_nI (by omega) (by omega)) dL_law_258 ?_
  refine lv_topi (fun x258 e258 => ?_)
  have ee258 : x244 = x258 := e244.trans e258.symm
  subst ee258
  refine lv_aload_n hx hb dL_law_259 rfl (lv_at hl 0 rfl) ?_
  refine lv_iload_n hx hb dL_law_260 rfl (lv_at hl 3 rfl) ?_
  refine lv_iconst (v := nI 2) hx hb dL_law_261 (by decide) ?_
  refine lv_iadd hx hb dL_law_262 ?_
  refine lv_topi (fun x262 e262 => ?_)
  obtain rfl : x262 = nI (i + 2) := e262.trans (nI_add _ _)
  refine va_sld hx hb hX hbl hbA hS (vp_in_nI (by omega) (by omega)) dL_law_263 ?_
  refine lv_topi (fun x263 e263 => ?_)
  have ee263 : x249 = x263 := e249.trans e263.symm
  subst ee263
  have hPc := va_Pl hP
  have hDc := va_Dl hD
  have hFc := va_fl hD hS hA
  obtain ⟨fs264, hh264⟩ := BM_head hBM
  refine va_calli (va_runV (As := [.int x244, .int x249]) (rest := [.int r250]) ⟨hx, hb, hml, hown, hts⟩ (MM_as l dC dI0 cI cZ h5 H.size x244 x249 hBM) (cwV 2 hts gL_law_X5_as rfl rfl rfl (by decide +kernel) ⟨Nat.le_of_ble_eq_true rfl, Nat.le_of_ble_eq_true rfl⟩) ⟨fun a U g mk q => by obtain ⟨q0, q1, qP, qK, qD⟩ := q; exact ⟨q0, q1, qP, va_K.moved (u := U) (U := U.calling g mk a) (Vm.Alike.refl U.vm) qK, qD⟩, va_recv hK hPc (ci := 5) (q0 := 0) rfl hh264, fun U hU hW => ⟨rfl, by rw [hU], by rw [hU]; exact hPc, va_K.moved hW.alike hK, hDc.weaken (fun _ _ _ _ => trivial)⟩⟩ rfl rfl hl.1 rfl (lv_room (Nat.le_of_ble_eq_true rfl)) dL_law_264 ⟨Nat.le_of_ble_eq_true rfl, Nat.le_of_ble_eq_true rfl⟩) hS (fun q _ h => hFc q h) hFc (fun r264 u264 t7 H1 locs ht7 hvm7 hw264 hB hz1 hk1 hS => ?_)
  obtain ⟨hP1, hK1, hD1⟩ := hB
  rw [ht7] at hP1
  obtain ⟨hP, hD⟩ := va_jl hP hD hk1 hFc hP1 hD1
  generalize H1 = H at hP hS ⊢
  obtain ⟨er264, hBM2⟩ := hw264
  refine lv_icmp_eq (tgt := 733) hx hb dL_law_267 (by decide) (fun c267 => ?_) (fun c267 => ?_)
  · exact hk _ _ _ _ ⟨pl, le, n, k, h, b, d, dr, sc, sp, sn, sm, cr, hd, hi, kk2, hh2, bb2, dd2, dk, ks, sp2, sn2, sm2, hBX2, hBM2, hdr, hdk, hhd, hn0, (Nat.le_trans hcrN (by omega))⟩ hP hD hS ls hl
  exact absurd (er250.trans er264.symm) c267
set_option maxHeartbeats 4000000 in
set_option maxRecDepth 100000 in
theorem LC6 {prg : Program} {l : Launch} {env : Env} {s : State} {m : MethodId} {below : List Frame} {meth : Method} {c : Code} {dC : Nat → ClassId} {dI0 : Nat → Nat → Nat} {cI cZ : ClassId} {h4 h5 ba L i sk sv : Nat} {xs : Nat → Int32} (hL : L ≤ 2048) (C0 : LCx prg s m meth c ba L xs) (hK : va_K (dC, dI0) vwCl [(cI, .int), (cZ, .boolean)] s) (hST : STR sk sv (fun q : Nat => s.heap.size ≤ q) s s.heap) (hi4 : i + 4 ≤ L) (hk : LKt prg l env s m below meth c dC dI0 cI cZ h4 h5 ba i (i + 4) 733) : LKt prg l env s m below meth c dC dI0 cI cZ h4 h5 ba i i 272 := by
  obtain ⟨hx, hb, hr, hml, hown, hts, hX, hbl, hlocks⟩ := C0
  have hA : ∀ q : Nat, s.heap.size ≤ q → (fun q : Nat => s.heap.size ≤ q) q := fun _ h => h
  have hbA : ¬ (fun q : Nat => s.heap.size ≤ q) ba := Nat.not_le.mpr hbl
  intro wx wm H locs hI hP hD hS ls hl
  obtain ⟨pl, le, n, k, h, b, d, dr, sc, sp, sn, sm, cr, hd, hi, kk2, hh2, bb2, dd2, dk, ks, sp2, sn2, sm2, hBX, hBM, hdr, hdk, hhd, hn0, hcrN⟩ := hI
  have hcr : cr < 2 ^ 30 := by omega
  refine lv_aload_n hx hb dL_law_272 rfl (lv_at hl 1 rfl) ?_
  refine lv_aload_n hx hb dL_law_273 rfl (lv_at hl 0 rfl) ?_
  refine lv_iload_n hx hb dL_law_274 rfl (lv_at hl 3 rfl) ?_
  refine lv_iconst (v := nI 1) hx hb dL_law_275 (by decide) ?_
  refine lv_iadd hx hb dL_law_276 ?_
  refine lv_topi (fun x276 e276 => ?_)
  obtain rfl : x276 = nI (i + 1) := e276.trans (nI_add _ _)
  refine va_sld hx hb hX hbl hbA hS (vp_in_nI (by omega) (by omega)) dL_law_277 ?_
  refine lv_topi (fun x277 e277 => ?_)
  refine lv_aload_n hx hb dL_law_278 rfl (lv_at hl 0 rfl) ?_
  refine lv_iload_n hx hb dL_law_279 rfl (lv_at hl 3 rfl) ?_
  refine lv_iconst (v := nI 2) hx hb dL_law_280 (by decide) ?_
  refine lv_iadd hx hb dL_law_281 ?_
  refine lv_topi (fun x281 e281 => ?_)
  obtain rfl : x281 = nI (i + 2) := e281.trans (nI_add _ _)
  refine va_sld hx hb hX hbl hbA hS (vp_in_nI (by omega) (by omega)) dL_law_282 ?_
  refine lv_topi (fun x282 e282 => ?_)
  have hPc := va_Pl hP
  have hDc := va_Dl hD
  have hFc := va_fl hD hS hA
  obtain ⟨fs283, hh283⟩ := BX_head hBX
  refine va_calli (va_runV (As := [.int x277, .int x282]) (rest := []) ⟨hx, hb, hml, hown, hts⟩ (MX_take l dC dI0 cI cZ h4 H.size x277 x282 hBX hdr) (cwV 2 hts gL_law_X4_take rfl rfl rfl (by decide +kernel) ⟨Nat.le_of_ble_eq_true rfl, Nat.le_of_ble_eq_true rfl⟩) ⟨fun a U g mk q => by obtain ⟨q0, q1, qP, qK, qD⟩ := q; exact ⟨q0, q1, qP, va_K.moved (u := U) (U := U.calling g mk a) (Vm.Alike.refl U.vm) qK, qD⟩, va_recv hK hPc (ci := 4) (q0 := 0) rfl hh283, fun U hU hW => ⟨rfl, by rw [hU], by rw [hU]; exact hPc, va_K.moved hW.alike hK, hDc.weaken (fun _ _ _ _ => trivial)⟩⟩ rfl rfl hl.1 rfl (lv_room (Nat.le_of_ble_eq_true rfl)) dL_law_283 ⟨Nat.le_of_ble_eq_true rfl, Nat.le_of_ble_eq_true rfl⟩) hS (fun q _ h => hFc q h) hFc (fun r283 u283 t7 H1 locs ht7 hvm7 hw283 hB hz1 hk1 hS => ?_)
  obtain ⟨hP1, hK1, hD1⟩ := hB
  rw [ht7] at hP1
  obtain ⟨hP, hD⟩ := va_jl hP hD hk1 hFc hP1 hD1
  generalize H1 = H at hP hS ⊢
  obtain ⟨er283, hBX2⟩ := hw283
  refine lv_aload_n hx hb dL_law_286 rfl (lv_at hl 2 rfl) ?_
  refine lv_aload_n hx hb dL_law_287 rfl (lv_at hl 0 rfl) ?_
  refine lv_iload_n hx hb dL_law_288 rfl (lv_at hl 3 rfl) ?_
  refine lv_iconst (v := nI 1) hx hb dL_law_289 (by decide) ?_
  refine lv_iadd hx hb dL_law_290 ?_
  refine lv_topi (fun x290 e290 => ?_)
  obtain rfl : x290 = nI (i + 1) := e290.trans (nI_add _ _)
  refine va_sld hx hb hX hbl hbA hS (vp_in_nI (by omega) (by omega)) dL_law_291 ?_
  refine lv_topi (fun x291 e291 => ?_)
  have ee291 : x277 = x291 := e277.trans e291.symm
  subst ee291
  refine lv_aload_n hx hb dL_law_292 rfl (lv_at hl 0 rfl) ?_
  refine lv_iload_n hx hb dL_law_293 rfl (lv_at hl 3 rfl) ?_
  refine lv_iconst (v := nI 2) hx hb dL_law_294 (by decide) ?_
  refine lv_iadd hx hb dL_law_295 ?_
  refine lv_topi (fun x295 e295 => ?_)
  obtain rfl : x295 = nI (i + 2) := e295.trans (nI_add _ _)
  refine va_sld hx hb hX hbl hbA hS (vp_in_nI (by omega) (by omega)) dL_law_296 ?_
  refine lv_topi (fun x296 e296 => ?_)
  have ee296 : x282 = x296 := e282.trans e296.symm
  subst ee296
  have hPc := va_Pl hP
  have hDc := va_Dl hD
  have hFc := va_fl hD hS hA
  obtain ⟨fs297, hh297⟩ := BM_head hBM
  refine va_calli (va_runV (As := [.int x277, .int x282]) (rest := [.int r283]) ⟨hx, hb, hml, hown, hts⟩ (MM_take l dC dI0 cI cZ h5 H.size x277 x282 hBM hdr) (cwV 2 hts gL_law_X5_take rfl rfl rfl (by decide +kernel) ⟨Nat.le_of_ble_eq_true rfl, Nat.le_of_ble_eq_true rfl⟩) ⟨fun a U g mk q => by obtain ⟨q0, q1, qP, qK, qD⟩ := q; exact ⟨q0, q1, qP, va_K.moved (u := U) (U := U.calling g mk a) (Vm.Alike.refl U.vm) qK, qD⟩, va_recv hK hPc (ci := 5) (q0 := 0) rfl hh297, fun U hU hW => ⟨rfl, by rw [hU], by rw [hU]; exact hPc, va_K.moved hW.alike hK, hDc.weaken (fun _ _ _ _ => trivial)⟩⟩ rfl rfl hl.1 rfl (lv_room (Nat.le_of_ble_eq_true rfl)) dL_law_297 ⟨Nat.le_of_ble_eq_true rfl, Nat.le_of_ble_eq_true rfl⟩) hS (fun q _ h => hFc q h) hFc (fun r297 u297 t7 H1 locs ht7 hvm7 hw297 hB hz1 hk1 hS => ?_)
  obtain ⟨hP1, hK1, hD1⟩ := hB
  rw [ht7] at hP1
  obtain ⟨hP, hD⟩ := va_jl hP hD hk1 hFc hP1 hD1
  generalize H1 = H at hP hS ⊢
  obtain ⟨er297, hBM2⟩ := hw297
  refine lv_icmp_eq (tgt := 733) hx hb dL_law_300 (by decide) (fun c300 => ?_) (fun c300 => ?_)
  · exact hk _ _ _ _ ⟨pl, le, n, k, h, b, (tkD n k h b d dr x277 x282), (tkN n k h b d dr x277 x282), sc, sp, sn, sm, cr, hd, hi, kk2, hh2, bb2, dd2, dk, ks, sp2, sn2, sm2, hBX2, hBM2, (tkN_le hdr), hdk, hhd, hn0, (Nat.le_trans hcrN (by omega))⟩ hP hD hS ls hl
  exact absurd (er283.trans er297.symm) c300
set_option maxHeartbeats 4000000 in
set_option maxRecDepth 100000 in
theorem LC7 {prg : Program} {l : Launch} {env : Env} {s : State} {m : MethodId} {below : List Frame} {meth : Method} {c : Code} {dC : Nat → ClassId} {dI0 : Nat → Nat → Nat} {cI cZ : ClassId} {h4 h5 ba L i sk sv : Nat} {xs : Nat → Int32} (hL : L ≤ 2048) (C0 : LCx prg s m meth c ba L xs) (hK : va_K (dC, dI0) vwCl [(cI, .int), (cZ, .boolean)] s) (hST : STR sk sv (fun q : Nat => s.heap.size ≤ q) s s.heap) (hi4 : i + 4 ≤ L) (hk : LKt prg l env s m below meth c dC dI0 cI cZ h4 h5 ba i (i + 4) 733) : LKt prg l env s m below meth c dC dI0 cI cZ h4 h5 ba i i 305 := by
  obtain ⟨hx, hb, hr, hml, hown, hts, hX, hbl, hlocks⟩ := C0
  have hA : ∀ q : Nat, s.heap.size ≤ q → (fun q : Nat => s.heap.size ≤ q) q := fun _ h => h
  have hbA : ¬ (fun q : Nat => s.heap.size ≤ q) ba := Nat.not_le.mpr hbl
  intro wx wm H locs hI hP hD hS ls hl
  obtain ⟨pl, le, n, k, h, b, d, dr, sc, sp, sn, sm, cr, hd, hi, kk2, hh2, bb2, dd2, dk, ks, sp2, sn2, sm2, hBX, hBM, hdr, hdk, hhd, hn0, hcrN⟩ := hI
  have hcr : cr < 2 ^ 30 := by omega
  refine lv_aload_n hx hb dL_law_305 rfl (lv_at hl 1 rfl) ?_
  refine lv_aload_n hx hb dL_law_306 rfl (lv_at hl 0 rfl) ?_
  refine lv_iload_n hx hb dL_law_307 rfl (lv_at hl 3 rfl) ?_
  refine lv_iconst (v := nI 1) hx hb dL_law_308 (by decide) ?_
  refine lv_iadd hx hb dL_law_309 ?_
  refine lv_topi (fun x309 e309 => ?_)
  obtain rfl : x309 = nI (i + 1) := e309.trans (nI_add _ _)
  refine va_sld hx hb hX hbl hbA hS (vp_in_nI (by omega) (by omega)) dL_law_310 ?_
  refine lv_topi (fun x310 e310 => ?_)
  have hPc := va_Pl hP
  have hDc := va_Dl hD
  have hFc := va_fl hD hS hA
  obtain ⟨fs311, hh311⟩ := BX_head hBX
  refine va_calli (va_runV (As := [.int x310]) (rest := []) ⟨hx, hb, hml, hown, hts⟩ (MX_back l dC dI0 cI cZ h4 H.size x310 hBX) (cwV 1 hts gL_law_X4_back rfl rfl rfl (by decide +kernel) ⟨Nat.le_of_ble_eq_true rfl, Nat.le_of_ble_eq_true rfl⟩) ⟨fun a U g mk q => by obtain ⟨q0, q1, qP, qK, qD⟩ := q; exact ⟨q0, q1, qP, va_K.moved (u := U) (U := U.calling g mk a) (Vm.Alike.refl U.vm) qK, qD⟩, va_recv hK hPc (ci := 4) (q0 := 0) rfl hh311, fun U hU hW => ⟨rfl, by rw [hU], by rw [hU]; exact hPc, va_K.moved hW.alike hK, hDc.weaken (fun _ _ _ _ => trivial)⟩⟩ rfl rfl hl.1 rfl (lv_room (Nat.le_of_ble_eq_true rfl)) dL_law_311 ⟨Nat.le_of_ble_eq_true rfl, Nat.le_of_ble_eq_true rfl⟩) hS (fun q _ h => hFc q h) hFc (fun r311 u311 t7 H1 locs ht7 hvm7 hw311 hB hz1 hk1 hS => ?_)
  obtain ⟨hP1, hK1, hD1⟩ := hB
  rw [ht7] at hP1
  obtain ⟨hP, hD⟩ := va_jl hP hD hk1 hFc hP1 hD1
  generalize H1 = H at hP hS ⊢
  obtain ⟨er311, hBX2⟩ := hw311
  refine lv_aload_n hx hb dL_law_314 rfl (lv_at hl 2 rfl) ?_
  refine lv_aload_n hx hb dL_law_315 rfl (lv_at hl 0 rfl) ?_
  refine lv_iload_n hx hb dL_law_316 rfl (lv_at hl 3 rfl) ?_
  refine lv_iconst (v := nI 1) hx hb dL_law_317 (by decide) ?_
  refine lv_iadd hx hb dL_law_318 ?_
  refine lv_topi (fun x318 e318 => ?_)
  obtain rfl : x318 = nI (i + 1) := e318.trans (nI_add _ _)
  refine va_sld hx hb hX hbl hbA hS (vp_in_nI (by omega) (by omega)) dL_law_319 ?_
  refine lv_topi (fun x319 e319 => ?_)
  have ee319 : x310 = x319 := e310.trans e319.symm
  subst ee319
  have hPc := va_Pl hP
  have hDc := va_Dl hD
  have hFc := va_fl hD hS hA
  obtain ⟨fs320, hh320⟩ := BM_head hBM
  refine va_calli (va_runV (As := [.int x310]) (rest := [.int r311]) ⟨hx, hb, hml, hown, hts⟩ (MM_back l dC dI0 cI cZ h5 H.size x310 hBM) (cwV 1 hts gL_law_X5_back rfl rfl rfl (by decide +kernel) ⟨Nat.le_of_ble_eq_true rfl, Nat.le_of_ble_eq_true rfl⟩) ⟨fun a U g mk q => by obtain ⟨q0, q1, qP, qK, qD⟩ := q; exact ⟨q0, q1, qP, va_K.moved (u := U) (U := U.calling g mk a) (Vm.Alike.refl U.vm) qK, qD⟩, va_recv hK hPc (ci := 5) (q0 := 0) rfl hh320, fun U hU hW => ⟨rfl, by rw [hU], by rw [hU]; exact hPc, va_K.moved hW.alike hK, hDc.weaken (fun _ _ _ _ => trivial)⟩⟩ rfl rfl hl.1 rfl (lv_room (Nat.le_of_ble_eq_true rfl)) dL_law_320 ⟨Nat.le_of_ble_eq_true rfl, Nat.le_of_ble_eq_true rfl⟩) hS (fun q _ h => hFc q h) hFc (fun r320 u320 t7 H1 locs ht7 hvm7 hw320 hB hz1 hk1 hS => ?_)
  obtain ⟨hP1, hK1, hD1⟩ := hB
  rw [ht7] at hP1
  obtain ⟨hP, hD⟩ := va_jl hP hD hk1 hFc hP1 hD1
  generalize H1 = H at hP hS ⊢
  obtain ⟨er320, hBM2⟩ := hw320
  refine lv_icmp_eq (tgt := 733) hx hb dL_law_323 (by decide) (fun c323 => ?_) (fun c323 => ?_)
  · exact hk _ _ _ _ ⟨pl, le, n, k, h, b, (bkD n d x310), dr, sc, sp, sn, sm, cr, hd, hi, kk2, hh2, bb2, dd2, dk, ks, sp2, sn2, sm2, hBX2, hBM2, hdr, hdk, hhd, hn0, (Nat.le_trans hcrN (by omega))⟩ hP hD hS ls hl
  exact absurd (er311.trans er320.symm) c323
