set_option maxHeartbeats 4000000 in
set_option maxRecDepth 100000 in
theorem law_loop {prg : Program} {l : Launch} {env : Env} {s : State} {m : MethodId} {below : List Frame} {meth : Method} {c : Code} {dC : Nat → ClassId} {dI0 : Nat → Nat → Nat} {cI cZ : ClassId} {h4 h5 ba L sk sv : Nat} {xs : Nat → Int32} (hL : L ≤ 2048) (C0 : LCx prg s m meth c ba L xs) (hK : va_K (dC, dI0) vwCl [(cI, .int), (cZ, .boolean)] s) (hST : STR sk sv (fun q : Nat => s.heap.size ≤ q) s s.heap) : ∀ (f i : Nat), i ≤ L → L < f + i → LKt prg l env s m below meth c dC dI0 cI cZ h4 h5 ba i i 18 := by
  intro f
  induction f with
  | zero => intro i h1 h2; exact absurd h2 (by omega)
  | succ f ih =>
    intro i hiL hf
    obtain ⟨hx, hb, hr, hml, hown, hts, hX, hbl, hlocks⟩ := id C0
    have hbA : ¬ (fun q : Nat => s.heap.size ≤ q) ba := Nat.not_le.mpr hbl
    intro wx wm H locs hI hP hD hS ls hl
    refine lv_iload_n hx hb dL_law_18 rfl (lv_at hl 3 rfl) ?_
    refine lv_aload_n hx hb dL_law_19 rfl (lv_at hl 0 rfl) ?_
    refine va_slen hx hb hX hbl hbA hS dL_law_20 ?_
    refine lv_iconst (v := nI 4) hx hb dL_law_21 (by decide) ?_
    refine lv_isub hx hb dL_law_22 ?_
    refine lv_topi (fun x22 e22 => ?_)
    have ht22 : x22.toInt = (L : Int) - (4 : Nat) := by
      rw [e22]; exact pk_sub_toInt (a := L) (b := 4) (by omega) (by omega)
    have hti : (nI i).toInt = (i : Int) := nI_toInt (by omega)
    refine lv_icmp_gt (tgt := 739) hx hb dL_law_23 (by decide) (fun c23 => ?_) (fun c23 => ?_)
    · refine lv_iconst (v := 1) hx hb dL_law_739 (by decide) ?_
      refine va_forget (fun q hq => hS.2.2 q hq) ?_
      exact lw_ret hx hb hr hlocks dL_law_740
    · have hi4 : i + 4 ≤ L := by
        rcases Nat.lt_or_ge L (i + 4) with q | q
        · exact absurd (Int32.lt_iff_toInt_lt.mpr (by rw [ht22, hti]; omega)) c23
        · exact q
      have hk : LKt prg l env s m below meth c dC dI0 cI cZ h4 h5 ba i (i + 4) 733 := by
        intro wx wm H locs hI hP hD hS ls hl
        refine lv_iinc (v := nI (i + 4)) (lv' := [(3, .int (nI (i + 4))), (0, .ref ba), (1, .ref h4), (2, .ref h5)]) hx hb dL_law_733 hl (k := 3) rfl (show nI i + Int32.ofInt 4 = nI (i + 4) from nI_add _ _) (by decide) rfl (fun ls hl => ?_)
        refine lv_goto (tgt := 18) hx hb dL_law_736 (by decide) ?_
        exact ih (i + 4) (by omega) (by omega) _ _ _ _ hI hP hD hS ls (lv_sub hl [1, 2, 3, 0] rfl)
      refine lv_aload_n hx hb dL_law_26 rfl (lv_at hl 0 rfl) ?_
      refine lv_iload_n hx hb dL_law_27 rfl (lv_at hl 3 rfl) ?_
      refine va_sld hx hb hX hbl hbA hS (vp_in_nI (by omega) (by omega)) dL_law_28 ?_
      refine lv_bipush (v := nI 31) hx hb dL_law_29 (by decide) ?_
      refine lv_iand hx hb dL_law_31 ?_
      refine lv_topi (fun x31 e31 => ?_)
      obtain ⟨w0, hw0, ew0⟩ := and31 (xs (nI i).toNatClampNeg)
      obtain rfl : x31 = nI w0 := e31.trans ew0
      have hsw : (nI w0).toInt = (w0 : Nat) := nI_toInt (by omega)
      by_cases c32_0 : w0 = 0
      ·
        refine lv_tableIn (off := 112) (tgt := 144) hx hb dL_law_32 (by rw [hsw, c32_0]; decide) (by rw [hsw, c32_0]; decide) (by rw [hsw, c32_0]; rfl) (by decide) ?_
        exact LC0 hL C0 hK hST hi4 hk wx wm H locs hI hP hD hS ls hl
      by_cases c32_1 : w0 = 1
      ·
        refine lv_tableIn (off := 135) (tgt := 167) hx hb dL_law_32 (by rw [hsw, c32_1]; decide) (by rw [hsw, c32_1]; decide) (by rw [hsw, c32_1]; rfl) (by decide) ?_
        exact LC1 hL C0 hK hST hi4 hk wx wm H locs hI hP hD hS ls hl
      by_cases c32_2 : w0 = 2
      ·
        refine lv_tableIn (off := 148) (tgt := 180) hx hb dL_law_32 (by rw [hsw, c32_2]; decide) (by rw [hsw, c32_2]; decide) (by rw [hsw, c32_2]; rfl) (by decide) ?_
        exact LC2 hL C0 hK hST hi4 hk wx wm H locs hI hP hD hS ls hl
      by_cases c32_3 : w0 = 3
      ·
        refine lv_tableIn (off := 161) (tgt := 193) hx hb dL_law_32 (by rw [hsw, c32_3]; decide) (by rw [hsw, c32_3]; decide) (by rw [hsw, c32_3]; rfl) (by decide) ?_
        exact LC3 hL C0 hK hST hi4 hk wx wm H locs hI hP hD hS ls hl
      by_cases c32_4 : w0 = 4
      ·
        refine lv_tableIn (off := 174) (tgt := 206) hx hb dL_law_32 (by rw [hsw, c32_4]; decide) (by rw [hsw, c32_4]; decide) (by rw [hsw, c32_4]; rfl) (by decide) ?_
        exact LC4 hL C0 hK hST hi4 hk wx wm H locs hI hP hD hS ls hl
      by_cases c32_5 : w0 = 5
      ·
        refine lv_tableIn (off := 207) (tgt := 239) hx hb dL_law_32 (by rw [hsw, c32_5]; decide) (by rw [hsw, c32_5]; decide) (by rw [hsw, c32_5]; rfl) (by decide) ?_
        exact LC5 hL C0 hK hST hi4 hk wx wm H locs hI hP hD hS ls hl
      by_cases c32_6 : w0 = 6
      ·
        refine lv_tableIn (off := 240) (tgt := 272) hx hb dL_law_32 (by rw [hsw, c32_6]; decide) (by rw [hsw, c32_6]; decide) (by rw [hsw, c32_6]; rfl) (by decide) ?_
        exact LC6 hL C0 hK hST hi4 hk wx wm H locs hI hP hD hS ls hl
      by_cases c32_7 : w0 = 7
      ·
        refine lv_tableIn (off := 273) (tgt := 305) hx hb dL_law_32 (by rw [hsw, c32_7]; decide) (by rw [hsw, c32_7]; decide) (by rw [hsw, c32_7]; rfl) (by decide) ?_
        exact LC7 hL C0 hK hST hi4 hk wx wm H locs hI hP hD hS ls hl
      by_cases c32_8 : w0 = 8
      ·
        refine lv_tableIn (off := 296) (tgt := 328) hx hb dL_law_32 (by rw [hsw, c32_8]; decide) (by rw [hsw, c32_8]; decide) (by rw [hsw, c32_8]; rfl) (by decide) ?_
        exact LC8 hL C0 hK hST hi4 hk wx wm H locs hI hP hD hS ls hl
      by_cases c32_9 : w0 = 9
      ·
        refine lv_tableIn (off := 329) (tgt := 361) hx hb dL_law_32 (by rw [hsw, c32_9]; decide) (by rw [hsw, c32_9]; decide) (by rw [hsw, c32_9]; rfl) (by decide) ?_
        exact LC9 hL C0 hK hST hi4 hk wx wm H locs hI hP hD hS ls hl
      by_cases c32_10 : w0 = 10
      ·
        refine lv_tableIn (off := 342) (tgt := 374) hx hb dL_law_32 (by rw [hsw, c32_10]; decide) (by rw [hsw, c32_10]; decide) (by rw [hsw, c32_10]; rfl) (by decide) ?_
        exact LC10 hL C0 hK hST hi4 hk wx wm H locs hI hP hD hS ls hl
      by_cases c32_11 : w0 = 11
      ·
        refine lv_tableIn (off := 375) (tgt := 407) hx hb dL_law_32 (by rw [hsw, c32_11]; decide) (by rw [hsw, c32_11]; decide) (by rw [hsw, c32_11]; rfl) (by decide) ?_
        exact LC11 hL C0 hK hST hi4 hk wx wm H locs hI hP hD hS ls hl
      by_cases c32_12 : w0 = 12
      ·
        refine lv_tableIn (off := 418) (tgt := 450) hx hb dL_law_32 (by rw [hsw, c32_12]; decide) (by rw [hsw, c32_12]; decide) (by rw [hsw, c32_12]; rfl) (by decide) ?_
        exact LC12 hL C0 hK hST hi4 hk wx wm H locs hI hP hD hS ls hl
      by_cases c32_13 : w0 = 13
      ·
        refine lv_tableIn (off := 441) (tgt := 473) hx hb dL_law_32 (by rw [hsw, c32_13]; decide) (by rw [hsw, c32_13]; decide) (by rw [hsw, c32_13]; rfl) (by decide) ?_
        exact LC13 hL C0 hK hST hi4 hk wx wm H locs hI hP hD hS ls hl
      by_cases c32_14 : w0 = 14
      ·
        refine lv_tableIn (off := 474) (tgt := 506) hx hb dL_law_32 (by rw [hsw, c32_14]; decide) (by rw [hsw, c32_14]; decide) (by rw [hsw, c32_14]; rfl) (by decide) ?_
        exact LC14 hL C0 hK hST hi4 hk wx wm H locs hI hP hD hS ls hl
      by_cases c32_15 : w0 = 15
      ·
        refine lv_tableIn (off := 487) (tgt := 519) hx hb dL_law_32 (by rw [hsw, c32_15]; decide) (by rw [hsw, c32_15]; decide) (by rw [hsw, c32_15]; rfl) (by decide) ?_
        exact LC15 hL C0 hK hST hi4 hk wx wm H locs hI hP hD hS ls hl
      by_cases c32_16 : w0 = 16
      ·
        refine lv_tableIn (off := 500) (tgt := 532) hx hb dL_law_32 (by rw [hsw, c32_16]; decide) (by rw [hsw, c32_16]; decide) (by rw [hsw, c32_16]; rfl) (by decide) ?_
        exact LC16 hL C0 hK hST hi4 hk wx wm H locs hI hP hD hS ls hl
      by_cases c32_17 : w0 = 17
      ·
        refine lv_tableIn (off := 523) (tgt := 555) hx hb dL_law_32 (by rw [hsw, c32_17]; decide) (by rw [hsw, c32_17]; decide) (by rw [hsw, c32_17]; rfl) (by decide) ?_
        exact LC17 hL C0 hK hST hi4 hk wx wm H locs hI hP hD hS ls hl
      by_cases c32_18 : w0 = 18
      ·
        refine lv_tableIn (off := 582) (tgt := 614) hx hb dL_law_32 (by rw [hsw, c32_18]; decide) (by rw [hsw, c32_18]; decide) (by rw [hsw, c32_18]; rfl) (by decide) ?_
        exact LC18 hL C0 hK hST hi4 hk wx wm H locs hI hP hD hS ls hl
      by_cases c32_19 : w0 = 19
      ·
        refine lv_tableIn (off := 595) (tgt := 627) hx hb dL_law_32 (by rw [hsw, c32_19]; decide) (by rw [hsw, c32_19]; decide) (by rw [hsw, c32_19]; rfl) (by decide) ?_
        exact LC19 hL C0 hK hST hi4 hk wx wm H locs hI hP hD hS ls hl
      by_cases c32_20 : w0 = 20
      ·
        refine lv_tableIn (off := 638) (tgt := 670) hx hb dL_law_32 (by rw [hsw, c32_20]; decide) (by rw [hsw, c32_20]; decide) (by rw [hsw, c32_20]; rfl) (by decide) ?_
        exact LC20 hL C0 hK hST hi4 hk wx wm H locs hI hP hD hS ls hl
      by_cases c32_21 : w0 = 21
      ·
        refine lv_tableIn (off := 651) (tgt := 683) hx hb dL_law_32 (by rw [hsw, c32_21]; decide) (by rw [hsw, c32_21]; decide) (by rw [hsw, c32_21]; rfl) (by decide) ?_
        exact LC21 hL C0 hK hST hi4 hk wx wm H locs hI hP hD hS ls hl
      by_cases c32_22 : w0 = 22
      ·
        refine lv_tableIn (off := 664) (tgt := 696) hx hb dL_law_32 (by rw [hsw, c32_22]; decide) (by rw [hsw, c32_22]; decide) (by rw [hsw, c32_22]; rfl) (by decide) ?_
        exact LC22 hL C0 hK hST hi4 hk wx wm H locs hI hP hD hS ls hl
      by_cases c32_23 : w0 = 23
      ·
        refine lv_tableIn (off := 687) (tgt := 719) hx hb dL_law_32 (by rw [hsw, c32_23]; decide) (by rw [hsw, c32_23]; decide) (by rw [hsw, c32_23]; rfl) (by decide) ?_
        exact LC23 hL C0 hK hST hi4 hk wx wm H locs hI hP hD hS ls hl
      refine lv_tableOut (tgt := 733) hx hb dL_law_32 (by rw [hsw]; omega) (by decide) ?_
      obtain ⟨pl, le, n, k, h, b, d, dr, sc, sp, sn, sm, cr, hd, hi, kk2, hh2, bb2, dd2, dk, ks, sp2, sn2, sm2, hBX, hBM, hdr, hdk, hhd, hn0, hcrN⟩ := hI
      exact hk wx wm H locs ⟨pl, le, n, k, h, b, d, dr, sc, sp, sn, sm, cr, hd, hi, kk2, hh2, bb2, dd2, dk, ks, sp2, sn2, sm2, hBX, hBM, hdr, hdk, hhd, hn0, Nat.le_trans hcrN (by omega)⟩ hP hD hS ls hl
