set_option maxHeartbeats 4000000 in
set_option maxRecDepth 100000 in
theorem MM_letter (l : Launch) (dC : Nat → ClassId) (dI0 : Nat → Nat → Nat) (cI cZ : ClassId) (h5 sz : Nat) (x : Int32) {pl : Nat} {le : Nat → Nat} {n : Nat} {k : Nat → Nat} {h : Nat → Nat} {b : Nat → Nat} {d : Nat → Option Nat} {dr : Nat} {sc : Nat} {sp : Nat → Nat} {sn : Nat → Nat} {sm : Nat → Bool} {cr : Nat} {hd : Nat} {hi : Bool} {kk2 : Nat → Nat} {hh2 : Nat → Nat} {bb2 : Nat → Nat} {dd2 : Nat → Option Nat} {dk : Nat} {ks : Nat} {sp2 : Nat → Nat} {sn2 : Nat → Nat} {sm2 : Nat → Bool} {wW : va_W} (hB : BM cI cZ h5 pl le n k h b d dr sc sp sn sm cr hd hi kk2 hh2 bb2 dd2 dk ks sp2 sn2 sm2 wW) : Met l yX5_letter wsX5_letter ({ frames := 1, cells := 0, slots := 0, locals := 25 } : Room) (va_Pc [.ref h5, .int x] (fun U => U.heap.size = sz ∧ va_P (dC, dI0) vwCl wW U.heap ∧ va_K (dC, dI0) vwCl [(cI, .int), (cZ, .boolean)] U ∧ va_D (fun _ => True) wW)) (va_Qi (fun (r : Int32) (u : va_W) => r = ltR pl x ∧ BM cI cZ h5 (ltP pl x) (ltL pl le x) n k h b d dr sc sp sn sm cr hd hi kk2 hh2 bb2 dd2 dk ks sp2 sn2 sm2 u) (fun (u : va_W) (t : State) => va_P (dC, dI0) vwCl u t.heap ∧ va_K (dC, dI0) vwCl [(cI, .int), (cZ, .boolean)] t ∧ va_D (va_A wW sz) u) (va_A wW sz)) 0 0 (va_A wW sz) := by
  obtain ⟨m1, m2, m3, m4, m5, m6, m7, m8, m9, m10, m11, m12, m13, m14, m15, m16, m17, lm, wm, rd, sdN, kc, dkM, ksM, hz, lB, kB, hB, dB, bB, lfA, rwA, wlA, hvA, fdA, chA, sgA, kkB, hhB, ddB, bbB, sgB, rfl, hPg, hC, hSg, hkc, hiff, hKm⟩ := hB
  refine Met_i (KX5_letter l dC dI0 cI cZ h5 m1 m2 m3 m4 m5 m6 m7 m8 m9 m10 m11 m12 m13 m14 m15 m16 m17 pl n dr cr lm wm rd hd sc sdN kc dkM ksM hz lB kB hB dB bB lfA rwA wlA hvA fdA chA sgA kkB hhB ddB bbB sgB sz le x hPg) ?_
  intro r u t hw hO
  obtain ⟨u0, u1⟩ := u
  try dsimp only at hw hO
  obtain ⟨e0, e1, e2⟩ := hw
  have e1 := Eq.symm e1
  subst e1
  exact ⟨(WM cI cZ h5 m1 m2 m3 m4 m5 m6 m7 m8 m9 m10 m11 m12 m13 m14 m15 m16 m17 (ltP pl x) n dr cr lm wm rd hd sc sdN kc dkM ksM hz u0 kB hB dB bB lfA rwA wlA hvA fdA chA sgA kkB hhB ddB bbB sgB), ⟨e0, m1, m2, m3, m4, m5, m6, m7, m8, m9, m10, m11, m12, m13, m14, m15, m16, m17, lm, wm, rd, sdN, kc, dkM, ksM, hz, u0, kB, hB, dB, bB, lfA, rwA, wlA, hvA, fdA, chA, sgA, kkB, hhB, ddB, bbB, sgB, rfl, e2, hC, hSg, hkc, hiff, hKm⟩, hO⟩
set_option maxHeartbeats 4000000 in
set_option maxRecDepth 100000 in
theorem MM_blank (l : Launch) (dC : Nat → ClassId) (dI0 : Nat → Nat → Nat) (cI cZ : ClassId) (h5 sz : Nat) {pl : Nat} {le : Nat → Nat} {n : Nat} {k : Nat → Nat} {h : Nat → Nat} {b : Nat → Nat} {d : Nat → Option Nat} {dr : Nat} {sc : Nat} {sp : Nat → Nat} {sn : Nat → Nat} {sm : Nat → Bool} {cr : Nat} {hd : Nat} {hi : Bool} {kk2 : Nat → Nat} {hh2 : Nat → Nat} {bb2 : Nat → Nat} {dd2 : Nat → Option Nat} {dk : Nat} {ks : Nat} {sp2 : Nat → Nat} {sn2 : Nat → Nat} {sm2 : Nat → Bool} {wW : va_W} (hB : BM cI cZ h5 pl le n k h b d dr sc sp sn sm cr hd hi kk2 hh2 bb2 dd2 dk ks sp2 sn2 sm2 wW) : Met l yX5_blank wsX5_blank ({ frames := 0, cells := 0, slots := 0, locals := 0 } : Room) (va_Pc [.ref h5] (fun U => U.heap.size = sz ∧ va_P (dC, dI0) vwCl wW U.heap ∧ va_K (dC, dI0) vwCl [(cI, .int), (cZ, .boolean)] U ∧ va_D (fun _ => True) wW)) (va_Qi (fun (r : Int32) (u : va_W) => r = nI pl ∧ BM cI cZ h5 0 le n k h b d dr sc sp sn sm cr hd hi kk2 hh2 bb2 dd2 dk ks sp2 sn2 sm2 u) (fun (u : va_W) (t : State) => va_P (dC, dI0) vwCl u t.heap ∧ va_K (dC, dI0) vwCl [(cI, .int), (cZ, .boolean)] t ∧ va_D (va_A wW sz) u) (va_A wW sz)) 0 0 (va_A wW sz) := by
  obtain ⟨m1, m2, m3, m4, m5, m6, m7, m8, m9, m10, m11, m12, m13, m14, m15, m16, m17, lm, wm, rd, sdN, kc, dkM, ksM, hz, lB, kB, hB, dB, bB, lfA, rwA, wlA, hvA, fdA, chA, sgA, kkB, hhB, ddB, bbB, sgB, rfl, hPg, hC, hSg, hkc, hiff, hKm⟩ := hB
  refine Met_i (KX5_blank l dC dI0 cI cZ h5 m1 m2 m3 m4 m5 m6 m7 m8 m9 m10 m11 m12 m13 m14 m15 m16 m17 pl n dr cr lm wm rd hd sc sdN kc dkM ksM hz lB kB hB dB bB lfA rwA wlA hvA fdA chA sgA kkB hhB ddB bbB sgB sz ) ?_
  intro r u0 t hw hO
  try dsimp only at hw hO
  obtain ⟨e0, e1⟩ := hw
  have e1 := Eq.symm e1
  subst e1
  exact ⟨(WM cI cZ h5 m1 m2 m3 m4 m5 m6 m7 m8 m9 m10 m11 m12 m13 m14 m15 m16 m17 0 n dr cr lm wm rd hd sc sdN kc dkM ksM hz lB kB hB dB bB lfA rwA wlA hvA fdA chA sgA kkB hhB ddB bbB sgB), ⟨e0, m1, m2, m3, m4, m5, m6, m7, m8, m9, m10, m11, m12, m13, m14, m15, m16, m17, lm, wm, rd, sdN, kc, dkM, ksM, hz, lB, kB, hB, dB, bB, lfA, rwA, wlA, hvA, fdA, chA, sgA, kkB, hhB, ddB, bbB, sgB, rfl, ⟨Nat.zero_le _, fun i hi9 => absurd hi9 (Nat.not_lt_zero _)⟩, hC, hSg, hkc, hiff, hKm⟩, hO⟩
set_option maxHeartbeats 4000000 in
set_option maxRecDepth 100000 in
theorem MM_fault (l : Launch) (dC : Nat → ClassId) (dI0 : Nat → Nat → Nat) (cI cZ : ClassId) (h5 sz : Nat) {pl : Nat} {le : Nat → Nat} {n : Nat} {k : Nat → Nat} {h : Nat → Nat} {b : Nat → Nat} {d : Nat → Option Nat} {dr : Nat} {sc : Nat} {sp : Nat → Nat} {sn : Nat → Nat} {sm : Nat → Bool} {cr : Nat} {hd : Nat} {hi : Bool} {kk2 : Nat → Nat} {hh2 : Nat → Nat} {bb2 : Nat → Nat} {dd2 : Nat → Option Nat} {dk : Nat} {ks : Nat} {sp2 : Nat → Nat} {sn2 : Nat → Nat} {sm2 : Nat → Bool} {wW : va_W} (hB : BM cI cZ h5 pl le n k h b d dr sc sp sn sm cr hd hi kk2 hh2 bb2 dd2 dk ks sp2 sn2 sm2 wW) : Met l yX5_fault wsX5_fault ({ frames := 3, cells := 0, slots := 0, locals := 68 } : Room) (va_Pc [.ref h5] (fun U => U.heap.size = sz ∧ va_P (dC, dI0) vwCl wW U.heap ∧ va_K (dC, dI0) vwCl [(cI, .int), (cZ, .boolean)] U ∧ va_D (fun _ => True) wW)) (va_Qi (fun (r : Int32) (u : va_W) => r = nI (fwS pl le) ∧ BM cI cZ h5 pl le n k h b d dr sc sp sn sm cr hd hi kk2 hh2 bb2 dd2 dk ks sp2 sn2 sm2 u) (fun (u : va_W) (t : State) => va_P (dC, dI0) vwCl u t.heap ∧ va_K (dC, dI0) vwCl [(cI, .int), (cZ, .boolean)] t ∧ va_D (va_A wW sz) u) (va_A wW sz)) 0 0 (va_A wW sz) := by
  obtain ⟨m1, m2, m3, m4, m5, m6, m7, m8, m9, m10, m11, m12, m13, m14, m15, m16, m17, lm, wm, rd, sdN, kc, dkM, ksM, hz, lB, kB, hB, dB, bB, lfA, rwA, wlA, hvA, fdA, chA, sgA, kkB, hhB, ddB, bbB, sgB, rfl, hPg, hC, hSg, hkc, hiff, hKm⟩ := hB
  refine Met_i (KX5_fault l dC dI0 cI cZ h5 m1 m2 m3 m4 m5 m6 m7 m8 m9 m10 m11 m12 m13 m14 m15 m16 m17 pl n dr cr lm wm rd hd sc sdN kc dkM ksM hz lB kB hB dB bB lfA rwA wlA hvA fdA chA sgA kkB hhB ddB bbB sgB sz le hPg) ?_
  intro r u t hw hO
  try dsimp only at hw hO
  have e0 := hw
  exact ⟨(WM cI cZ h5 m1 m2 m3 m4 m5 m6 m7 m8 m9 m10 m11 m12 m13 m14 m15 m16 m17 pl n dr cr lm wm rd hd sc sdN kc dkM ksM hz lB kB hB dB bB lfA rwA wlA hvA fdA chA sgA kkB hhB ddB bbB sgB), ⟨e0, m1, m2, m3, m4, m5, m6, m7, m8, m9, m10, m11, m12, m13, m14, m15, m16, m17, lm, wm, rd, sdN, kc, dkM, ksM, hz, lB, kB, hB, dB, bB, lfA, rwA, wlA, hvA, fdA, chA, sgA, kkB, hhB, ddB, bbB, sgB, rfl, hPg, hC, hSg, hkc, hiff, hKm⟩, hO⟩
set_option maxHeartbeats 4000000 in
set_option maxRecDepth 100000 in
theorem MM_company (l : Launch) (dC : Nat → ClassId) (dI0 : Nat → Nat → Nat) (cI cZ : ClassId) (h5 sz : Nat) {pl : Nat} {le : Nat → Nat} {n : Nat} {k : Nat → Nat} {h : Nat → Nat} {b : Nat → Nat} {d : Nat → Option Nat} {dr : Nat} {sc : Nat} {sp : Nat → Nat} {sn : Nat → Nat} {sm : Nat → Bool} {cr : Nat} {hd : Nat} {hi : Bool} {kk2 : Nat → Nat} {hh2 : Nat → Nat} {bb2 : Nat → Nat} {dd2 : Nat → Option Nat} {dk : Nat} {ks : Nat} {sp2 : Nat → Nat} {sn2 : Nat → Nat} {sm2 : Nat → Bool} {wW : va_W} (hB : BM cI cZ h5 pl le n k h b d dr sc sp sn sm cr hd hi kk2 hh2 bb2 dd2 dk ks sp2 sn2 sm2 wW) : Met l yX5_company wsX5_company ({ frames := 3, cells := 0, slots := 0, locals := 68 } : Room) (va_Pc [.ref h5] (fun U => U.heap.size = sz ∧ va_P (dC, dI0) vwCl wW U.heap ∧ va_K (dC, dI0) vwCl [(cI, .int), (cZ, .boolean)] U ∧ va_D (fun _ => True) wW)) (va_Qi (fun (r : Int32) (u : va_W) => r = (if icS pl le = true then nI ((pl + 1) / 3) else -103) ∧ BM cI cZ h5 (if icS pl le = true then 0 else pl) le (if icS pl le = true then ((pl + 1) / 3) else n) (if icS pl le = true then (kpS le) else k) (if icS pl le = true then (hpS le) else h) (if icS pl le = true then (fun _ => 0) else b) (if icS pl le = true then (fun _ => none) else d) (if icS pl le = true then 0 else dr) (if icS pl le = true then 0 else sc) sp sn sm (if icS pl le = true then (cr + 1) else cr) hd (if icS pl le = true then false else hi) kk2 hh2 bb2 dd2 dk ks sp2 sn2 sm2 u) (fun (u : va_W) (t : State) => va_P (dC, dI0) vwCl u t.heap ∧ va_K (dC, dI0) vwCl [(cI, .int), (cZ, .boolean)] t ∧ va_D (va_A wW sz) u) (va_A wW sz)) 0 0 (va_A wW sz) := by
  obtain ⟨m1, m2, m3, m4, m5, m6, m7, m8, m9, m10, m11, m12, m13, m14, m15, m16, m17, lm, wm, rd, sdN, kc, dkM, ksM, hz, lB, kB, hB, dB, bB, lfA, rwA, wlA, hvA, fdA, chA, sgA, kkB, hhB, ddB, bbB, sgB, rfl, hPg, hC, hSg, hkc, hiff, hKm⟩ := hB
  refine Met_i (KX5_company l dC dI0 cI cZ h5 m1 m2 m3 m4 m5 m6 m7 m8 m9 m10 m11 m12 m13 m14 m15 m16 m17 pl n dr cr lm wm rd hd sc sdN kc dkM ksM hz lB kB hB dB bB lfA rwA wlA hvA fdA chA sgA kkB hhB ddB bbB sgB sz le k h b d hPg hC) ?_
  intro r u t hw hO
  obtain ⟨u0, u1, u2, u3, u4, u5, u6, u7, u8⟩ := u
  try dsimp only at hw hO
  by_cases hic : icS pl le = true
  · simp only [if_pos hic] at hw
    simp only [if_pos hic]
    obtain ⟨e0, e1, e2, e3, e4, e5, e6⟩ := hw
    have e1 := Eq.symm e1
    subst e1
    have e2 := Eq.symm e2
    subst e2
    have e3 := Eq.symm e3
    subst e3
    have e4 := Eq.symm e4
    subst e4
    have e5 := Eq.symm e5
    subst e5
    exact ⟨(WM cI cZ h5 m1 m2 m3 m4 m5 m6 m7 m8 m9 m10 m11 m12 m13 m14 m15 m16 m17 0 ((pl + 1) / 3) 0 (cr + 1) lm wm rd hd 0 sdN kc dkM ksM hz lB u5 u6 u7 u8 lfA rwA wlA hvA fdA chA sgA kkB hhB ddB bbB sgB), ⟨e0, m1, m2, m3, m4, m5, m6, m7, m8, m9, m10, m11, m12, m13, m14, m15, m16, m17, lm, wm, rd, sdN, kc, dkM, ksM, hz, lB, u5, u6, u7, u8, lfA, rwA, wlA, hvA, fdA, chA, sgA, kkB, hhB, ddB, bbB, sgB, rfl, ⟨Nat.zero_le _, fun i hi9 => absurd hi9 (Nat.not_lt_zero _)⟩, e6, SgR_0, fun q hq => Nat.le_succ_of_le (hkc q hq), ⟨fun z => absurd z (by decide), fun z => absurd (hkc _ z) (by omega)⟩, fun z => absurd (hkc _ z) (by omega)⟩, hO⟩
  · simp only [if_neg hic] at hw
    simp only [if_neg hic]
    obtain ⟨e0, e1, e2, e3, e4, e5, e6⟩ := hw
    have e1 := Eq.symm e1
    subst e1
    have e2 := Eq.symm e2
    subst e2
    have e3 := Eq.symm e3
    subst e3
    have e4 := Eq.symm e4
    subst e4
    have e5 := Eq.symm e5
    subst e5
    exact ⟨(WM cI cZ h5 m1 m2 m3 m4 m5 m6 m7 m8 m9 m10 m11 m12 m13 m14 m15 m16 m17 pl n dr cr lm wm rd hd sc sdN kc dkM ksM hz lB u5 u6 u7 u8 lfA rwA wlA hvA fdA chA sgA kkB hhB ddB bbB sgB), ⟨e0, m1, m2, m3, m4, m5, m6, m7, m8, m9, m10, m11, m12, m13, m14, m15, m16, m17, lm, wm, rd, sdN, kc, dkM, ksM, hz, lB, u5, u6, u7, u8, lfA, rwA, wlA, hvA, fdA, chA, sgA, kkB, hhB, ddB, bbB, sgB, rfl, hPg, e6, hSg, hkc, hiff, hKm⟩, hO⟩
set_option maxHeartbeats 4000000 in
set_option maxRecDepth 100000 in
theorem MM_person (l : Launch) (dC : Nat → ClassId) (dI0 : Nat → Nat → Nat) (cI cZ : ClassId) (h5 sz : Nat) (x : Int32) (y : Int32) {pl : Nat} {le : Nat → Nat} {n : Nat} {k : Nat → Nat} {h : Nat → Nat} {b : Nat → Nat} {d : Nat → Option Nat} {dr : Nat} {sc : Nat} {sp : Nat → Nat} {sn : Nat → Nat} {sm : Nat → Bool} {cr : Nat} {hd : Nat} {hi : Bool} {kk2 : Nat → Nat} {hh2 : Nat → Nat} {bb2 : Nat → Nat} {dd2 : Nat → Option Nat} {dk : Nat} {ks : Nat} {sp2 : Nat → Nat} {sn2 : Nat → Nat} {sm2 : Nat → Bool} {wW : va_W} (hB : BM cI cZ h5 pl le n k h b d dr sc sp sn sm cr hd hi kk2 hh2 bb2 dd2 dk ks sp2 sn2 sm2 wW) : Met l yX5_person wsX5_person ({ frames := 7, cells := 0, slots := 0, locals := 155 } : Room) (va_Pc [.ref h5, .int x, .int y] (fun U => U.heap.size = sz ∧ va_P (dC, dI0) vwCl wW U.heap ∧ va_K (dC, dI0) vwCl [(cI, .int), (cZ, .boolean)] U ∧ va_D (fun _ => True) wW)) (va_Qi (fun (r : Int32) (u : va_W) => r = (psR n k h b d sc sp sn sm x y) ∧ BM cI cZ h5 pl le n k h b d dr sc sp sn sm cr hd hi kk2 hh2 bb2 dd2 dk ks sp2 sn2 sm2 u) (fun (u : va_W) (t : State) => va_P (dC, dI0) vwCl u t.heap ∧ va_K (dC, dI0) vwCl [(cI, .int), (cZ, .boolean)] t ∧ va_D (va_A wW sz) u) (va_A wW sz)) 0 0 (va_A wW sz) := by
  obtain ⟨m1, m2, m3, m4, m5, m6, m7, m8, m9, m10, m11, m12, m13, m14, m15, m16, m17, lm, wm, rd, sdN, kc, dkM, ksM, hz, lB, kB, hB, dB, bB, lfA, rwA, wlA, hvA, fdA, chA, sgA, kkB, hhB, ddB, bbB, sgB, rfl, hPg, hC, hSg, hkc, hiff, hKm⟩ := hB
  refine Met_i (KX5_person l dC dI0 cI cZ h5 m1 m2 m3 m4 m5 m6 m7 m8 m9 m10 m11 m12 m13 m14 m15 m16 m17 pl n dr cr lm wm rd hd sc sdN kc dkM ksM hz lB kB hB dB bB lfA rwA wlA hvA fdA chA sgA kkB hhB ddB bbB sgB sz k h b d sp sn sm x y hC hSg (fun h0 => WY_all hC (by omega))) ?_
  intro r u t hw hO
  obtain ⟨u0, u1, u2, u3, u4, u5, u6, u7⟩ := u
  try dsimp only at hw hO
  have e0 := hw
  exact ⟨(WM cI cZ h5 m1 m2 m3 m4 m5 m6 m7 m8 m9 m10 m11 m12 m13 m14 m15 m16 m17 pl n dr cr u0 u1 u2 hd sc sdN kc dkM ksM hz lB kB hB dB bB u3 u4 u5 u6 u7 chA sgA kkB hhB ddB bbB sgB), ⟨e0, m1, m2, m3, m4, m5, m6, m7, m8, m9, m10, m11, m12, m13, m14, m15, m16, m17, u0, u1, u2, sdN, kc, dkM, ksM, hz, lB, kB, hB, dB, bB, u3, u4, u5, u6, u7, chA, sgA, kkB, hhB, ddB, bbB, sgB, rfl, hPg, hC, hSg, hkc, hiff, hKm⟩, hO⟩
set_option maxHeartbeats 4000000 in
set_option maxRecDepth 100000 in
theorem MM_as (l : Launch) (dC : Nat → ClassId) (dI0 : Nat → Nat → Nat) (cI cZ : ClassId) (h5 sz : Nat) (x : Int32) (y : Int32) {pl : Nat} {le : Nat → Nat} {n : Nat} {k : Nat → Nat} {h : Nat → Nat} {b : Nat → Nat} {d : Nat → Option Nat} {dr : Nat} {sc : Nat} {sp : Nat → Nat} {sn : Nat → Nat} {sm : Nat → Bool} {cr : Nat} {hd : Nat} {hi : Bool} {kk2 : Nat → Nat} {hh2 : Nat → Nat} {bb2 : Nat → Nat} {dd2 : Nat → Option Nat} {dk : Nat} {ks : Nat} {sp2 : Nat → Nat} {sn2 : Nat → Nat} {sm2 : Nat → Bool} {wW : va_W} (hB : BM cI cZ h5 pl le n k h b d dr sc sp sn sm cr hd hi kk2 hh2 bb2 dd2 dk ks sp2 sn2 sm2 wW) : Met l yX5_as wsX5_as ({ frames := 2, cells := 0, slots := 0, locals := 46 } : Room) (va_Pc [.ref h5, .int x, .int y] (fun U => U.heap.size = sz ∧ va_P (dC, dI0) vwCl wW U.heap ∧ va_K (dC, dI0) vwCl [(cI, .int), (cZ, .boolean)] U ∧ va_D (fun _ => True) wW)) (va_Qi (fun (r : Int32) (u : va_W) => r = (asR n k x y) ∧ BM cI cZ h5 pl le n k h b d dr sc sp sn sm cr hd hi kk2 hh2 bb2 dd2 dk ks sp2 sn2 sm2 u) (fun (u : va_W) (t : State) => va_P (dC, dI0) vwCl u t.heap ∧ va_K (dC, dI0) vwCl [(cI, .int), (cZ, .boolean)] t ∧ va_D (va_A wW sz) u) (va_A wW sz)) 0 0 (va_A wW sz) := by
  obtain ⟨m1, m2, m3, m4, m5, m6, m7, m8, m9, m10, m11, m12, m13, m14, m15, m16, m17, lm, wm, rd, sdN, kc, dkM, ksM, hz, lB, kB, hB, dB, bB, lfA, rwA, wlA, hvA, fdA, chA, sgA, kkB, hhB, ddB, bbB, sgB, rfl, hPg, hC, hSg, hkc, hiff, hKm⟩ := hB
  refine Met_i (KX5_as l dC dI0 cI cZ h5 m1 m2 m3 m4 m5 m6 m7 m8 m9 m10 m11 m12 m13 m14 m15 m16 m17 pl n dr cr lm wm rd hd sc sdN kc dkM ksM hz lB kB hB dB bB lfA rwA wlA hvA fdA chA sgA kkB hhB ddB bbB sgB sz k h b d x y hC) ?_
  intro r u t hw hO
  try dsimp only at hw hO
  have e0 := hw
  exact ⟨(WM cI cZ h5 m1 m2 m3 m4 m5 m6 m7 m8 m9 m10 m11 m12 m13 m14 m15 m16 m17 pl n dr cr lm wm rd hd sc sdN kc dkM ksM hz lB kB hB dB bB lfA rwA wlA hvA fdA chA sgA kkB hhB ddB bbB sgB), ⟨e0, m1, m2, m3, m4, m5, m6, m7, m8, m9, m10, m11, m12, m13, m14, m15, m16, m17, lm, wm, rd, sdN, kc, dkM, ksM, hz, lB, kB, hB, dB, bB, lfA, rwA, wlA, hvA, fdA, chA, sgA, kkB, hhB, ddB, bbB, sgB, rfl, hPg, hC, hSg, hkc, hiff, hKm⟩, hO⟩
set_option maxHeartbeats 4000000 in
set_option maxRecDepth 100000 in
theorem MM_take (l : Launch) (dC : Nat → ClassId) (dI0 : Nat → Nat → Nat) (cI cZ : ClassId) (h5 sz : Nat) (x : Int32) (y : Int32) {pl : Nat} {le : Nat → Nat} {n : Nat} {k : Nat → Nat} {h : Nat → Nat} {b : Nat → Nat} {d : Nat → Option Nat} {dr : Nat} {sc : Nat} {sp : Nat → Nat} {sn : Nat → Nat} {sm : Nat → Bool} {cr : Nat} {hd : Nat} {hi : Bool} {kk2 : Nat → Nat} {hh2 : Nat → Nat} {bb2 : Nat → Nat} {dd2 : Nat → Option Nat} {dk : Nat} {ks : Nat} {sp2 : Nat → Nat} {sn2 : Nat → Nat} {sm2 : Nat → Bool} {wW : va_W} (hB : BM cI cZ h5 pl le n k h b d dr sc sp sn sm cr hd hi kk2 hh2 bb2 dd2 dk ks sp2 sn2 sm2 wW) (hdr : dr ≤ 9999) : Met l yX5_take wsX5_take ({ frames := 6, cells := 0, slots := 0, locals := 131 } : Room) (va_Pc [.ref h5, .int x, .int y] (fun U => U.heap.size = sz ∧ va_P (dC, dI0) vwCl wW U.heap ∧ va_K (dC, dI0) vwCl [(cI, .int), (cZ, .boolean)] U ∧ va_D (fun _ => True) wW)) (va_Qi (fun (r : Int32) (u : va_W) => r = tkR n k h b d dr x y ∧ BM cI cZ h5 pl le n k h b (tkD n k h b d dr x y) (tkN n k h b d dr x y) sc sp sn sm cr hd hi kk2 hh2 bb2 dd2 dk ks sp2 sn2 sm2 u) (fun (u : va_W) (t : State) => va_P (dC, dI0) vwCl u t.heap ∧ va_K (dC, dI0) vwCl [(cI, .int), (cZ, .boolean)] t ∧ va_D (va_A wW sz) u) (va_A wW sz)) 0 0 (va_A wW sz) := by
  obtain ⟨m1, m2, m3, m4, m5, m6, m7, m8, m9, m10, m11, m12, m13, m14, m15, m16, m17, lm, wm, rd, sdN, kc, dkM, ksM, hz, lB, kB, hB, dB, bB, lfA, rwA, wlA, hvA, fdA, chA, sgA, kkB, hhB, ddB, bbB, sgB, rfl, hPg, hC, hSg, hkc, hiff, hKm⟩ := hB
  refine Met_i (KX5_take l dC dI0 cI cZ h5 m1 m2 m3 m4 m5 m6 m7 m8 m9 m10 m11 m12 m13 m14 m15 m16 m17 pl n dr cr lm wm rd hd sc sdN kc dkM ksM hz lB kB hB dB bB lfA rwA wlA hvA fdA chA sgA kkB hhB ddB bbB sgB sz k h b d x y hC hdr (fun dX d9 h0 hC9 => WY_all hC9 (by omega))) ?_
  intro r u t hw hO
  obtain ⟨u0, u1, u2, u3, u4, u5, u6, u7, u8, u9⟩ := u
  try dsimp only at hw hO
  obtain ⟨e0, e1, e2⟩ := hw
  have e1 := Eq.symm e1
  subst e1
  exact ⟨(WM cI cZ h5 m1 m2 m3 m4 m5 m6 m7 m8 m9 m10 m11 m12 m13 m14 m15 m16 m17 pl n (tkN n k h b d dr x y) cr u2 u3 u4 hd sc sdN kc dkM ksM hz lB kB hB u0 bB u5 u6 u7 u8 u9 chA sgA kkB hhB ddB bbB sgB), ⟨e0, m1, m2, m3, m4, m5, m6, m7, m8, m9, m10, m11, m12, m13, m14, m15, m16, m17, u2, u3, u4, sdN, kc, dkM, ksM, hz, lB, kB, hB, u0, bB, u5, u6, u7, u8, u9, chA, sgA, kkB, hhB, ddB, bbB, sgB, rfl, hPg, e2, hSg, hkc, hiff, hKm⟩, hO⟩
set_option maxHeartbeats 4000000 in
set_option maxRecDepth 100000 in
theorem MM_back (l : Launch) (dC : Nat → ClassId) (dI0 : Nat → Nat → Nat) (cI cZ : ClassId) (h5 sz : Nat) (x : Int32) {pl : Nat} {le : Nat → Nat} {n : Nat} {k : Nat → Nat} {h : Nat → Nat} {b : Nat → Nat} {d : Nat → Option Nat} {dr : Nat} {sc : Nat} {sp : Nat → Nat} {sn : Nat → Nat} {sm : Nat → Bool} {cr : Nat} {hd : Nat} {hi : Bool} {kk2 : Nat → Nat} {hh2 : Nat → Nat} {bb2 : Nat → Nat} {dd2 : Nat → Option Nat} {dk : Nat} {ks : Nat} {sp2 : Nat → Nat} {sn2 : Nat → Nat} {sm2 : Nat → Bool} {wW : va_W} (hB : BM cI cZ h5 pl le n k h b d dr sc sp sn sm cr hd hi kk2 hh2 bb2 dd2 dk ks sp2 sn2 sm2 wW) : Met l yX5_back wsX5_back ({ frames := 2, cells := 0, slots := 0, locals := 46 } : Room) (va_Pc [.ref h5, .int x] (fun U => U.heap.size = sz ∧ va_P (dC, dI0) vwCl wW U.heap ∧ va_K (dC, dI0) vwCl [(cI, .int), (cZ, .boolean)] U ∧ va_D (fun _ => True) wW)) (va_Qi (fun (r : Int32) (u : va_W) => r = bkR n d x ∧ BM cI cZ h5 pl le n k h b (bkD n d x) dr sc sp sn sm cr hd hi kk2 hh2 bb2 dd2 dk ks sp2 sn2 sm2 u) (fun (u : va_W) (t : State) => va_P (dC, dI0) vwCl u t.heap ∧ va_K (dC, dI0) vwCl [(cI, .int), (cZ, .boolean)] t ∧ va_D (va_A wW sz) u) (va_A wW sz)) 0 0 (va_A wW sz) := by
  obtain ⟨m1, m2, m3, m4, m5, m6, m7, m8, m9, m10, m11, m12, m13, m14, m15, m16, m17, lm, wm, rd, sdN, kc, dkM, ksM, hz, lB, kB, hB, dB, bB, lfA, rwA, wlA, hvA, fdA, chA, sgA, kkB, hhB, ddB, bbB, sgB, rfl, hPg, hC, hSg, hkc, hiff, hKm⟩ := hB
  refine Met_i (KX5_back l dC dI0 cI cZ h5 m1 m2 m3 m4 m5 m6 m7 m8 m9 m10 m11 m12 m13 m14 m15 m16 m17 pl n dr cr lm wm rd hd sc sdN kc dkM ksM hz lB kB hB dB bB lfA rwA wlA hvA fdA chA sgA kkB hhB ddB bbB sgB sz k h b d x hC) ?_
  intro r u0 t hw hO
  try dsimp only at hw hO
  obtain ⟨e0, e1⟩ := hw
  exact ⟨(WM cI cZ h5 m1 m2 m3 m4 m5 m6 m7 m8 m9 m10 m11 m12 m13 m14 m15 m16 m17 pl n dr cr lm wm rd hd sc sdN kc dkM ksM hz lB kB hB u0 bB lfA rwA wlA hvA fdA chA sgA kkB hhB ddB bbB sgB), ⟨e0, m1, m2, m3, m4, m5, m6, m7, m8, m9, m10, m11, m12, m13, m14, m15, m16, m17, lm, wm, rd, sdN, kc, dkM, ksM, hz, lB, kB, hB, u0, bB, lfA, rwA, wlA, hvA, fdA, chA, sgA, kkB, hhB, ddB, bbB, sgB, rfl, hPg, e1, hSg, hkc, hiff, hKm⟩, hO⟩
set_option maxHeartbeats 4000000 in
set_option maxRecDepth 100000 in
theorem MM_exchange (l : Launch) (dC : Nat → ClassId) (dI0 : Nat → Nat → Nat) (cI cZ : ClassId) (h5 sz : Nat) (x : Int32) (y : Int32) {pl : Nat} {le : Nat → Nat} {n : Nat} {k : Nat → Nat} {h : Nat → Nat} {b : Nat → Nat} {d : Nat → Option Nat} {dr : Nat} {sc : Nat} {sp : Nat → Nat} {sn : Nat → Nat} {sm : Nat → Bool} {cr : Nat} {hd : Nat} {hi : Bool} {kk2 : Nat → Nat} {hh2 : Nat → Nat} {bb2 : Nat → Nat} {dd2 : Nat → Option Nat} {dk : Nat} {ks : Nat} {sp2 : Nat → Nat} {sn2 : Nat → Nat} {sm2 : Nat → Bool} {wW : va_W} (hB : BM cI cZ h5 pl le n k h b d dr sc sp sn sm cr hd hi kk2 hh2 bb2 dd2 dk ks sp2 sn2 sm2 wW) : Met l yX5_exchange wsX5_exchange ({ frames := 3, cells := 0, slots := 0, locals := 66 } : Room) (va_Pc [.ref h5, .int x, .int y] (fun U => U.heap.size = sz ∧ va_P (dC, dI0) vwCl wW U.heap ∧ va_K (dC, dI0) vwCl [(cI, .int), (cZ, .boolean)] U ∧ va_D (fun _ => True) wW)) (va_Qi (fun (r : Int32) (u : va_W) => r = exR n k h b d x y ∧ BM cI cZ h5 pl le n k h b (exD n k h b d x y) dr sc sp sn sm cr hd hi kk2 hh2 bb2 dd2 dk ks sp2 sn2 sm2 u) (fun (u : va_W) (t : State) => va_P (dC, dI0) vwCl u t.heap ∧ va_K (dC, dI0) vwCl [(cI, .int), (cZ, .boolean)] t ∧ va_D (va_A wW sz) u) (va_A wW sz)) 0 0 (va_A wW sz) := by
  obtain ⟨m1, m2, m3, m4, m5, m6, m7, m8, m9, m10, m11, m12, m13, m14, m15, m16, m17, lm, wm, rd, sdN, kc, dkM, ksM, hz, lB, kB, hB, dB, bB, lfA, rwA, wlA, hvA, fdA, chA, sgA, kkB, hhB, ddB, bbB, sgB, rfl, hPg, hC, hSg, hkc, hiff, hKm⟩ := hB
  refine Met_i (KX5_exchange l dC dI0 cI cZ h5 m1 m2 m3 m4 m5 m6 m7 m8 m9 m10 m11 m12 m13 m14 m15 m16 m17 pl n dr cr lm wm rd hd sc sdN kc dkM ksM hz lB kB hB dB bB lfA rwA wlA hvA fdA chA sgA kkB hhB ddB bbB sgB sz k h b d x y hC) ?_
  intro r u0 t hw hO
  try dsimp only at hw hO
  obtain ⟨e0, e1⟩ := hw
  exact ⟨(WM cI cZ h5 m1 m2 m3 m4 m5 m6 m7 m8 m9 m10 m11 m12 m13 m14 m15 m16 m17 pl n dr cr lm wm rd hd sc sdN kc dkM ksM hz lB kB hB u0 bB lfA rwA wlA hvA fdA chA sgA kkB hhB ddB bbB sgB), ⟨e0, m1, m2, m3, m4, m5, m6, m7, m8, m9, m10, m11, m12, m13, m14, m15, m16, m17, lm, wm, rd, sdN, kc, dkM, ksM, hz, lB, kB, hB, u0, bB, lfA, rwA, wlA, hvA, fdA, chA, sgA, kkB, hhB, ddB, bbB, sgB, rfl, hPg, e1, hSg, hkc, hiff, hKm⟩, hO⟩
set_option maxHeartbeats 4000000 in
set_option maxRecDepth 100000 in
theorem MM_all (l : Launch) (dC : Nat → ClassId) (dI0 : Nat → Nat → Nat) (cI cZ : ClassId) (h5 sz : Nat) {pl : Nat} {le : Nat → Nat} {n : Nat} {k : Nat → Nat} {h : Nat → Nat} {b : Nat → Nat} {d : Nat → Option Nat} {dr : Nat} {sc : Nat} {sp : Nat → Nat} {sn : Nat → Nat} {sm : Nat → Bool} {cr : Nat} {hd : Nat} {hi : Bool} {kk2 : Nat → Nat} {hh2 : Nat → Nat} {bb2 : Nat → Nat} {dd2 : Nat → Option Nat} {dk : Nat} {ks : Nat} {sp2 : Nat → Nat} {sn2 : Nat → Nat} {sm2 : Nat → Bool} {wW : va_W} (hB : BM cI cZ h5 pl le n k h b d dr sc sp sn sm cr hd hi kk2 hh2 bb2 dd2 dk ks sp2 sn2 sm2 wW) : Met l yX5_all wsX5_all ({ frames := 1, cells := 0, slots := 0, locals := 22 } : Room) (va_Pc [.ref h5] (fun U => U.heap.size = sz ∧ va_P (dC, dI0) vwCl wW U.heap ∧ va_K (dC, dI0) vwCl [(cI, .int), (cZ, .boolean)] U ∧ va_D (fun _ => True) wW)) (va_Qi (fun (r : Int32) (u : va_W) => r = alR n d ∧ BM cI cZ h5 pl le n k h b (fun _ => none) dr sc sp sn sm cr hd hi kk2 hh2 bb2 dd2 dk ks sp2 sn2 sm2 u) (fun (u : va_W) (t : State) => va_P (dC, dI0) vwCl u t.heap ∧ va_K (dC, dI0) vwCl [(cI, .int), (cZ, .boolean)] t ∧ va_D (va_A wW sz) u) (va_A wW sz)) 0 0 (va_A wW sz) := by
  obtain ⟨m1, m2, m3, m4, m5, m6, m7, m8, m9, m10, m11, m12, m13, m14, m15, m16, m17, lm, wm, rd, sdN, kc, dkM, ksM, hz, lB, kB, hB, dB, bB, lfA, rwA, wlA, hvA, fdA, chA, sgA, kkB, hhB, ddB, bbB, sgB, rfl, hPg, hC, hSg, hkc, hiff, hKm⟩ := hB
  refine Met_i (KX5_all l dC dI0 cI cZ h5 m1 m2 m3 m4 m5 m6 m7 m8 m9 m10 m11 m12 m13 m14 m15 m16 m17 pl n dr cr lm wm rd hd sc sdN kc dkM ksM hz lB kB hB dB bB lfA rwA wlA hvA fdA chA sgA kkB hhB ddB bbB sgB sz k h b d hC) ?_
  intro r u0 t hw hO
  try dsimp only at hw hO
  obtain ⟨e0, e1⟩ := hw
  exact ⟨(WM cI cZ h5 m1 m2 m3 m4 m5 m6 m7 m8 m9 m10 m11 m12 m13 m14 m15 m16 m17 pl n dr cr lm wm rd hd sc sdN kc dkM ksM hz lB kB hB u0 bB lfA rwA wlA hvA fdA chA sgA kkB hhB ddB bbB sgB), ⟨e0, m1, m2, m3, m4, m5, m6, m7, m8, m9, m10, m11, m12, m13, m14, m15, m16, m17, lm, wm, rd, sdN, kc, dkM, ksM, hz, lB, kB, hB, u0, bB, lfA, rwA, wlA, hvA, fdA, chA, sgA, kkB, hhB, ddB, bbB, sgB, rfl, hPg, e1, hSg, hkc, hiff, hKm⟩, hO⟩
set_option maxHeartbeats 4000000 in
set_option maxRecDepth 100000 in
theorem MM_bar (l : Launch) (dC : Nat → ClassId) (dI0 : Nat → Nat → Nat) (cI cZ : ClassId) (h5 sz : Nat) (x : Int32) (y : Int32) {pl : Nat} {le : Nat → Nat} {n : Nat} {k : Nat → Nat} {h : Nat → Nat} {b : Nat → Nat} {d : Nat → Option Nat} {dr : Nat} {sc : Nat} {sp : Nat → Nat} {sn : Nat → Nat} {sm : Nat → Bool} {cr : Nat} {hd : Nat} {hi : Bool} {kk2 : Nat → Nat} {hh2 : Nat → Nat} {bb2 : Nat → Nat} {dd2 : Nat → Option Nat} {dk : Nat} {ks : Nat} {sp2 : Nat → Nat} {sn2 : Nat → Nat} {sm2 : Nat → Bool} {wW : va_W} (hB : BM cI cZ h5 pl le n k h b d dr sc sp sn sm cr hd hi kk2 hh2 bb2 dd2 dk ks sp2 sn2 sm2 wW) : Met l yX5_bar wsX5_bar ({ frames := 4, cells := 0, slots := 0, locals := 89 } : Room) (va_Pc [.ref h5, .int x, .int y] (fun U => U.heap.size = sz ∧ va_P (dC, dI0) vwCl wW U.heap ∧ va_K (dC, dI0) vwCl [(cI, .int), (cZ, .boolean)] U ∧ va_D (fun _ => True) wW)) (va_Qi (fun (r : Int32) (u : va_W) => r = brR n k h b x y ∧ BM cI cZ h5 pl le n k h (brB n b x y) d dr sc sp sn sm cr hd hi kk2 hh2 bb2 dd2 dk ks sp2 sn2 sm2 u) (fun (u : va_W) (t : State) => va_P (dC, dI0) vwCl u t.heap ∧ va_K (dC, dI0) vwCl [(cI, .int), (cZ, .boolean)] t ∧ va_D (va_A wW sz) u) (va_A wW sz)) 0 0 (va_A wW sz) := by
  obtain ⟨m1, m2, m3, m4, m5, m6, m7, m8, m9, m10, m11, m12, m13, m14, m15, m16, m17, lm, wm, rd, sdN, kc, dkM, ksM, hz, lB, kB, hB, dB, bB, lfA, rwA, wlA, hvA, fdA, chA, sgA, kkB, hhB, ddB, bbB, sgB, rfl, hPg, hC, hSg, hkc, hiff, hKm⟩ := hB
  refine Met_i (KX5_bar l dC dI0 cI cZ h5 m1 m2 m3 m4 m5 m6 m7 m8 m9 m10 m11 m12 m13 m14 m15 m16 m17 pl n dr cr lm wm rd hd sc sdN kc dkM ksM hz lB kB hB dB bB lfA rwA wlA hvA fdA chA sgA kkB hhB ddB bbB sgB sz k h b d x y hC) ?_
  intro r u0 t hw hO
  try dsimp only at hw hO
  obtain ⟨e0, e1⟩ := hw
  exact ⟨(WM cI cZ h5 m1 m2 m3 m4 m5 m6 m7 m8 m9 m10 m11 m12 m13 m14 m15 m16 m17 pl n dr cr lm wm rd hd sc sdN kc dkM ksM hz lB kB hB dB u0 lfA rwA wlA hvA fdA chA sgA kkB hhB ddB bbB sgB), ⟨e0, m1, m2, m3, m4, m5, m6, m7, m8, m9, m10, m11, m12, m13, m14, m15, m16, m17, lm, wm, rd, sdN, kc, dkM, ksM, hz, lB, kB, hB, dB, u0, lfA, rwA, wlA, hvA, fdA, chA, sgA, kkB, hhB, ddB, bbB, sgB, rfl, hPg, e1, hSg, hkc, hiff, hKm⟩, hO⟩
set_option maxHeartbeats 4000000 in
set_option maxRecDepth 100000 in
theorem MM_change (l : Launch) (dC : Nat → ClassId) (dI0 : Nat → Nat → Nat) (cI cZ : ClassId) (h5 sz : Nat) (x : Int32) (y : Int32) (z : Int32) {pl : Nat} {le : Nat → Nat} {n : Nat} {k : Nat → Nat} {h : Nat → Nat} {b : Nat → Nat} {d : Nat → Option Nat} {dr : Nat} {sc : Nat} {sp : Nat → Nat} {sn : Nat → Nat} {sm : Nat → Bool} {cr : Nat} {hd : Nat} {hi : Bool} {kk2 : Nat → Nat} {hh2 : Nat → Nat} {bb2 : Nat → Nat} {dd2 : Nat → Option Nat} {dk : Nat} {ks : Nat} {sp2 : Nat → Nat} {sn2 : Nat → Nat} {sm2 : Nat → Bool} {wW : va_W} (hB : BM cI cZ h5 pl le n k h b d dr sc sp sn sm cr hd hi kk2 hh2 bb2 dd2 dk ks sp2 sn2 sm2 wW) : Met l yX5_change wsX5_change ({ frames := 2, cells := 0, slots := 0, locals := 46 } : Room) (va_Pc [.ref h5, .int x, .int y, .int z] (fun U => U.heap.size = sz ∧ va_P (dC, dI0) vwCl wW U.heap ∧ va_K (dC, dI0) vwCl [(cI, .int), (cZ, .boolean)] U ∧ va_D (fun _ => True) wW)) (va_Qi (fun (r : Int32) (u : va_W) => r = cgR n k x y z ∧ BM cI cZ h5 pl le n (cgK n k x y z) (cgH n h x y z) b d dr sc sp sn sm cr hd hi kk2 hh2 bb2 dd2 dk ks sp2 sn2 sm2 u) (fun (u : va_W) (t : State) => va_P (dC, dI0) vwCl u t.heap ∧ va_K (dC, dI0) vwCl [(cI, .int), (cZ, .boolean)] t ∧ va_D (va_A wW sz) u) (va_A wW sz)) 0 0 (va_A wW sz) := by
  obtain ⟨m1, m2, m3, m4, m5, m6, m7, m8, m9, m10, m11, m12, m13, m14, m15, m16, m17, lm, wm, rd, sdN, kc, dkM, ksM, hz, lB, kB, hB, dB, bB, lfA, rwA, wlA, hvA, fdA, chA, sgA, kkB, hhB, ddB, bbB, sgB, rfl, hPg, hC, hSg, hkc, hiff, hKm⟩ := hB
  refine Met_i (KX5_change l dC dI0 cI cZ h5 m1 m2 m3 m4 m5 m6 m7 m8 m9 m10 m11 m12 m13 m14 m15 m16 m17 pl n dr cr lm wm rd hd sc sdN kc dkM ksM hz lB kB hB dB bB lfA rwA wlA hvA fdA chA sgA kkB hhB ddB bbB sgB sz k h b d x y z hC) ?_
  intro r u t hw hO
  obtain ⟨u0, u1⟩ := u
  try dsimp only at hw hO
  obtain ⟨e0, e1⟩ := hw
  exact ⟨(WM cI cZ h5 m1 m2 m3 m4 m5 m6 m7 m8 m9 m10 m11 m12 m13 m14 m15 m16 m17 pl n dr cr lm wm rd hd sc sdN kc dkM ksM hz lB u0 u1 dB bB lfA rwA wlA hvA fdA chA sgA kkB hhB ddB bbB sgB), ⟨e0, m1, m2, m3, m4, m5, m6, m7, m8, m9, m10, m11, m12, m13, m14, m15, m16, m17, lm, wm, rd, sdN, kc, dkM, ksM, hz, lB, u0, u1, dB, bB, lfA, rwA, wlA, hvA, fdA, chA, sgA, kkB, hhB, ddB, bbB, sgB, rfl, hPg, e1, hSg, hkc, hiff, hKm⟩, hO⟩
set_option maxHeartbeats 4000000 in
set_option maxRecDepth 100000 in
theorem MM_ways (l : Launch) (dC : Nat → ClassId) (dI0 : Nat → Nat → Nat) (cI cZ : ClassId) (h5 sz : Nat) (x : Int32) {pl : Nat} {le : Nat → Nat} {n : Nat} {k : Nat → Nat} {h : Nat → Nat} {b : Nat → Nat} {d : Nat → Option Nat} {dr : Nat} {sc : Nat} {sp : Nat → Nat} {sn : Nat → Nat} {sm : Nat → Bool} {cr : Nat} {hd : Nat} {hi : Bool} {kk2 : Nat → Nat} {hh2 : Nat → Nat} {bb2 : Nat → Nat} {dd2 : Nat → Option Nat} {dk : Nat} {ks : Nat} {sp2 : Nat → Nat} {sn2 : Nat → Nat} {sm2 : Nat → Bool} {wW : va_W} (hB : BM cI cZ h5 pl le n k h b d dr sc sp sn sm cr hd hi kk2 hh2 bb2 dd2 dk ks sp2 sn2 sm2 wW) : Met l yX5_ways wsX5_ways ({ frames := 6, cells := 0, slots := 0, locals := 131 } : Room) (va_Pc [.ref h5, .int x] (fun U => U.heap.size = sz ∧ va_P (dC, dI0) vwCl wW U.heap ∧ va_K (dC, dI0) vwCl [(cI, .int), (cZ, .boolean)] U ∧ va_D (fun _ => True) wW)) (va_Qi (fun (r : Int32) (u : va_W) => r = (wsR n k h b d x) ∧ BM cI cZ h5 pl le n k h b d dr sc sp sn sm cr hd hi kk2 hh2 bb2 dd2 dk ks sp2 sn2 sm2 u) (fun (u : va_W) (t : State) => va_P (dC, dI0) vwCl u t.heap ∧ va_K (dC, dI0) vwCl [(cI, .int), (cZ, .boolean)] t ∧ va_D (va_A wW sz) u) (va_A wW sz)) 0 0 (va_A wW sz) := by
  obtain ⟨m1, m2, m3, m4, m5, m6, m7, m8, m9, m10, m11, m12, m13, m14, m15, m16, m17, lm, wm, rd, sdN, kc, dkM, ksM, hz, lB, kB, hB, dB, bB, lfA, rwA, wlA, hvA, fdA, chA, sgA, kkB, hhB, ddB, bbB, sgB, rfl, hPg, hC, hSg, hkc, hiff, hKm⟩ := hB
  refine Met_i (KX5_ways l dC dI0 cI cZ h5 m1 m2 m3 m4 m5 m6 m7 m8 m9 m10 m11 m12 m13 m14 m15 m16 m17 pl n dr cr lm wm rd hd sc sdN kc dkM ksM hz lB kB hB dB bB lfA rwA wlA hvA fdA chA sgA kkB hhB ddB bbB sgB sz k h b d x hC (fun h0 => WY_all hC (by omega))) ?_
  intro r u t hw hO
  obtain ⟨u0, u1, u2, u3, u4, u5, u6, u7⟩ := u
  try dsimp only at hw hO
  have e0 := hw
  exact ⟨(WM cI cZ h5 m1 m2 m3 m4 m5 m6 m7 m8 m9 m10 m11 m12 m13 m14 m15 m16 m17 pl n dr cr u0 u1 u2 hd sc sdN kc dkM ksM hz lB kB hB dB bB u3 u4 u5 u6 u7 chA sgA kkB hhB ddB bbB sgB), ⟨e0, m1, m2, m3, m4, m5, m6, m7, m8, m9, m10, m11, m12, m13, m14, m15, m16, m17, u0, u1, u2, sdN, kc, dkM, ksM, hz, lB, kB, hB, dB, bB, u3, u4, u5, u6, u7, chA, sgA, kkB, hhB, ddB, bbB, sgB, rfl, hPg, hC, hSg, hkc, hiff, hKm⟩, hO⟩
set_option maxHeartbeats 4000000 in
set_option maxRecDepth 100000 in
theorem MM_way (l : Launch) (dC : Nat → ClassId) (dI0 : Nat → Nat → Nat) (cI cZ : ClassId) (h5 sz : Nat) (x : Int32) (y : Int32) {pl : Nat} {le : Nat → Nat} {n : Nat} {k : Nat → Nat} {h : Nat → Nat} {b : Nat → Nat} {d : Nat → Option Nat} {dr : Nat} {sc : Nat} {sp : Nat → Nat} {sn : Nat → Nat} {sm : Nat → Bool} {cr : Nat} {hd : Nat} {hi : Bool} {kk2 : Nat → Nat} {hh2 : Nat → Nat} {bb2 : Nat → Nat} {dd2 : Nat → Option Nat} {dk : Nat} {ks : Nat} {sp2 : Nat → Nat} {sn2 : Nat → Nat} {sm2 : Nat → Bool} {wW : va_W} (hB : BM cI cZ h5 pl le n k h b d dr sc sp sn sm cr hd hi kk2 hh2 bb2 dd2 dk ks sp2 sn2 sm2 wW) : Met l yX5_way wsX5_way ({ frames := 5, cells := 0, slots := 0, locals := 110 } : Room) (va_Pc [.ref h5, .int x, .int y] (fun U => U.heap.size = sz ∧ va_P (dC, dI0) vwCl wW U.heap ∧ va_K (dC, dI0) vwCl [(cI, .int), (cZ, .boolean)] U ∧ va_D (fun _ => True) wW)) (va_Qi (fun (r : Int32) (u : va_W) => r = (waR n k h b d x y) ∧ BM cI cZ h5 pl le n k h b d dr sc sp sn sm cr hd hi kk2 hh2 bb2 dd2 dk ks sp2 sn2 sm2 u) (fun (u : va_W) (t : State) => va_P (dC, dI0) vwCl u t.heap ∧ va_K (dC, dI0) vwCl [(cI, .int), (cZ, .boolean)] t ∧ va_D (va_A wW sz) u) (va_A wW sz)) 0 0 (va_A wW sz) := by
  obtain ⟨m1, m2, m3, m4, m5, m6, m7, m8, m9, m10, m11, m12, m13, m14, m15, m16, m17, lm, wm, rd, sdN, kc, dkM, ksM, hz, lB, kB, hB, dB, bB, lfA, rwA, wlA, hvA, fdA, chA, sgA, kkB, hhB, ddB, bbB, sgB, rfl, hPg, hC, hSg, hkc, hiff, hKm⟩ := hB
  refine Met_i (KX5_way l dC dI0 cI cZ h5 m1 m2 m3 m4 m5 m6 m7 m8 m9 m10 m11 m12 m13 m14 m15 m16 m17 pl n dr cr lm wm rd hd sc sdN kc dkM ksM hz lB kB hB dB bB lfA rwA wlA hvA fdA chA sgA kkB hhB ddB bbB sgB sz k h b d x y hC (fun h0 => WY_all hC (by omega))) ?_
  intro r u t hw hO
  obtain ⟨u0, u1, u2, u3, u4, u5, u6, u7⟩ := u
  try dsimp only at hw hO
  have e0 := hw
  exact ⟨(WM cI cZ h5 m1 m2 m3 m4 m5 m6 m7 m8 m9 m10 m11 m12 m13 m14 m15 m16 m17 pl n dr cr u0 u1 u2 hd sc sdN kc dkM ksM hz lB kB hB dB bB u3 u4 u5 u6 u7 chA sgA kkB hhB ddB bbB sgB), ⟨e0, m1, m2, m3, m4, m5, m6, m7, m8, m9, m10, m11, m12, m13, m14, m15, m16, m17, u0, u1, u2, sdN, kc, dkM, ksM, hz, lB, kB, hB, dB, bB, u3, u4, u5, u6, u7, chA, sgA, kkB, hhB, ddB, bbB, sgB, rfl, hPg, hC, hSg, hkc, hiff, hKm⟩, hO⟩
set_option maxHeartbeats 4000000 in
set_option maxRecDepth 100000 in
theorem MM_hint (l : Launch) (dC : Nat → ClassId) (dI0 : Nat → Nat → Nat) (cI cZ : ClassId) (h5 sz : Nat) {pl : Nat} {le : Nat → Nat} {n : Nat} {k : Nat → Nat} {h : Nat → Nat} {b : Nat → Nat} {d : Nat → Option Nat} {dr : Nat} {sc : Nat} {sp : Nat → Nat} {sn : Nat → Nat} {sm : Nat → Bool} {cr : Nat} {hd : Nat} {hi : Bool} {kk2 : Nat → Nat} {hh2 : Nat → Nat} {bb2 : Nat → Nat} {dd2 : Nat → Option Nat} {dk : Nat} {ks : Nat} {sp2 : Nat → Nat} {sn2 : Nat → Nat} {sm2 : Nat → Bool} {wW : va_W} (hB : BM cI cZ h5 pl le n k h b d dr sc sp sn sm cr hd hi kk2 hh2 bb2 dd2 dk ks sp2 sn2 sm2 wW) (hhd : hd ≤ 20) : Met l yX5_hint wsX5_hint ({ frames := 6, cells := 0, slots := 0, locals := 135 } : Room) (va_Pc [.ref h5] (fun U => U.heap.size = sz ∧ va_P (dC, dI0) vwCl wW U.heap ∧ va_K (dC, dI0) vwCl [(cI, .int), (cZ, .boolean)] U ∧ va_D (fun _ => True) wW)) (va_Qi (fun (r : Int32) (u : va_W) => r = hnR n k h b d hd ∧ BM cI cZ h5 pl le n k h b d dr sc sp sn sm cr (hnD n hd) hi kk2 hh2 bb2 dd2 dk ks sp2 sn2 sm2 u) (fun (u : va_W) (t : State) => va_P (dC, dI0) vwCl u t.heap ∧ va_K (dC, dI0) vwCl [(cI, .int), (cZ, .boolean)] t ∧ va_D (va_A wW sz) u) (va_A wW sz)) 0 0 (va_A wW sz) := by
  obtain ⟨m1, m2, m3, m4, m5, m6, m7, m8, m9, m10, m11, m12, m13, m14, m15, m16, m17, lm, wm, rd, sdN, kc, dkM, ksM, hz, lB, kB, hB, dB, bB, lfA, rwA, wlA, hvA, fdA, chA, sgA, kkB, hhB, ddB, bbB, sgB, rfl, hPg, hC, hSg, hkc, hiff, hKm⟩ := hB
  refine Met_i (KX5_hint l dC dI0 cI cZ h5 m1 m2 m3 m4 m5 m6 m7 m8 m9 m10 m11 m12 m13 m14 m15 m16 m17 pl n dr cr lm wm rd hd sc sdN kc dkM ksM hz lB kB hB dB bB lfA rwA wlA hvA fdA chA sgA kkB hhB ddB bbB sgB sz k h b d hC (fun h0 => WY_all hC (by omega)) hhd) ?_
  intro r u t hw hO
  obtain ⟨u0, u1, u2, u3, u4, u5, u6, u7, u8⟩ := u
  try dsimp only at hw hO
  obtain ⟨e0, e1⟩ := hw
  have e1 := Eq.symm e1
  subst e1
  exact ⟨(WM cI cZ h5 m1 m2 m3 m4 m5 m6 m7 m8 m9 m10 m11 m12 m13 m14 m15 m16 m17 pl n dr cr u1 u2 u3 (hnD n hd) sc sdN kc dkM ksM hz lB kB hB dB bB u4 u5 u6 u7 u8 chA sgA kkB hhB ddB bbB sgB), ⟨e0, m1, m2, m3, m4, m5, m6, m7, m8, m9, m10, m11, m12, m13, m14, m15, m16, m17, u1, u2, u3, sdN, kc, dkM, ksM, hz, lB, kB, hB, dB, bB, u4, u5, u6, u7, u8, chA, sgA, kkB, hhB, ddB, bbB, sgB, rfl, hPg, hC, hSg, hkc, hiff, hKm⟩, hO⟩
set_option maxHeartbeats 4000000 in
set_option maxRecDepth 100000 in
theorem MM_likely (l : Launch) (dC : Nat → ClassId) (dI0 : Nat → Nat → Nat) (cI cZ : ClassId) (h5 sz : Nat) {pl : Nat} {le : Nat → Nat} {n : Nat} {k : Nat → Nat} {h : Nat → Nat} {b : Nat → Nat} {d : Nat → Option Nat} {dr : Nat} {sc : Nat} {sp : Nat → Nat} {sn : Nat → Nat} {sm : Nat → Bool} {cr : Nat} {hd : Nat} {hi : Bool} {kk2 : Nat → Nat} {hh2 : Nat → Nat} {bb2 : Nat → Nat} {dd2 : Nat → Option Nat} {dk : Nat} {ks : Nat} {sp2 : Nat → Nat} {sn2 : Nat → Nat} {sm2 : Nat → Bool} {wW : va_W} (hB : BM cI cZ h5 pl le n k h b d dr sc sp sn sm cr hd hi kk2 hh2 bb2 dd2 dk ks sp2 sn2 sm2 wW) : Met l yX5_likely wsX5_likely ({ frames := 4, cells := 0, slots := 0, locals := 91 } : Room) (va_Pc [.ref h5] (fun U => U.heap.size = sz ∧ va_P (dC, dI0) vwCl wW U.heap ∧ va_K (dC, dI0) vwCl [(cI, .int), (cZ, .boolean)] U ∧ va_D (fun _ => True) wW)) (va_Qi (fun (r : Int32) (u : va_W) => r = (lkR n k h b d) ∧ BM cI cZ h5 pl le n k h b d dr sc sp sn sm cr hd hi kk2 hh2 bb2 dd2 dk ks sp2 sn2 sm2 u) (fun (u : va_W) (t : State) => va_P (dC, dI0) vwCl u t.heap ∧ va_K (dC, dI0) vwCl [(cI, .int), (cZ, .boolean)] t ∧ va_D (va_A wW sz) u) (va_A wW sz)) 0 0 (va_A wW sz) := by
  obtain ⟨m1, m2, m3, m4, m5, m6, m7, m8, m9, m10, m11, m12, m13, m14, m15, m16, m17, lm, wm, rd, sdN, kc, dkM, ksM, hz, lB, kB, hB, dB, bB, lfA, rwA, wlA, hvA, fdA, chA, sgA, kkB, hhB, ddB, bbB, sgB, rfl, hPg, hC, hSg, hkc, hiff, hKm⟩ := hB
  refine Met_i (KX5_likely l dC dI0 cI cZ h5 m1 m2 m3 m4 m5 m6 m7 m8 m9 m10 m11 m12 m13 m14 m15 m16 m17 pl n dr cr lm wm rd hd sc sdN kc dkM ksM hz lB kB hB dB bB lfA rwA wlA hvA fdA chA sgA kkB hhB ddB bbB sgB sz k h b d hC (fun h0 => WY_all hC (by omega))) ?_
  intro r u t hw hO
  obtain ⟨u0, u1, u2, u3⟩ := u
  try dsimp only at hw hO
  have e0 := hw
  exact ⟨(WM cI cZ h5 m1 m2 m3 m4 m5 m6 m7 m8 m9 m10 m11 m12 m13 m14 m15 m16 m17 pl n dr cr u0 wm rd hd sc sdN kc dkM ksM hz lB kB hB dB bB u1 u2 wlA hvA fdA u3 sgA kkB hhB ddB bbB sgB), ⟨e0, m1, m2, m3, m4, m5, m6, m7, m8, m9, m10, m11, m12, m13, m14, m15, m16, m17, u0, wm, rd, sdN, kc, dkM, ksM, hz, lB, kB, hB, dB, bB, u1, u2, wlA, hvA, fdA, u3, sgA, kkB, hhB, ddB, bbB, sgB, rfl, hPg, hC, hSg, hkc, hiff, hKm⟩, hO⟩
set_option maxHeartbeats 4000000 in
set_option maxRecDepth 100000 in
theorem MM_rings (l : Launch) (dC : Nat → ClassId) (dI0 : Nat → Nat → Nat) (cI cZ : ClassId) (h5 sz : Nat) (x : Int32) {pl : Nat} {le : Nat → Nat} {n : Nat} {k : Nat → Nat} {h : Nat → Nat} {b : Nat → Nat} {d : Nat → Option Nat} {dr : Nat} {sc : Nat} {sp : Nat → Nat} {sn : Nat → Nat} {sm : Nat → Bool} {cr : Nat} {hd : Nat} {hi : Bool} {kk2 : Nat → Nat} {hh2 : Nat → Nat} {bb2 : Nat → Nat} {dd2 : Nat → Option Nat} {dk : Nat} {ks : Nat} {sp2 : Nat → Nat} {sn2 : Nat → Nat} {sm2 : Nat → Bool} {wW : va_W} (hB : BM cI cZ h5 pl le n k h b d dr sc sp sn sm cr hd hi kk2 hh2 bb2 dd2 dk ks sp2 sn2 sm2 wW) : Met l yX5_rings wsX5_rings ({ frames := 2, cells := 0, slots := 0, locals := 47 } : Room) (va_Pc [.ref h5, .int x] (fun U => U.heap.size = sz ∧ va_P (dC, dI0) vwCl wW U.heap ∧ va_K (dC, dI0) vwCl [(cI, .int), (cZ, .boolean)] U ∧ va_D (fun _ => True) wW)) (va_Qi (fun (r : Int32) (u : va_W) => r = (rgR n d x) ∧ BM cI cZ h5 pl le n k h b d dr sc sp sn sm cr hd hi kk2 hh2 bb2 dd2 dk ks sp2 sn2 sm2 u) (fun (u : va_W) (t : State) => va_P (dC, dI0) vwCl u t.heap ∧ va_K (dC, dI0) vwCl [(cI, .int), (cZ, .boolean)] t ∧ va_D (va_A wW sz) u) (va_A wW sz)) 0 0 (va_A wW sz) := by
  obtain ⟨m1, m2, m3, m4, m5, m6, m7, m8, m9, m10, m11, m12, m13, m14, m15, m16, m17, lm, wm, rd, sdN, kc, dkM, ksM, hz, lB, kB, hB, dB, bB, lfA, rwA, wlA, hvA, fdA, chA, sgA, kkB, hhB, ddB, bbB, sgB, rfl, hPg, hC, hSg, hkc, hiff, hKm⟩ := hB
  refine Met_i (KX5_rings l dC dI0 cI cZ h5 m1 m2 m3 m4 m5 m6 m7 m8 m9 m10 m11 m12 m13 m14 m15 m16 m17 pl n dr cr lm wm rd hd sc sdN kc dkM ksM hz lB kB hB dB bB lfA rwA wlA hvA fdA chA sgA kkB hhB ddB bbB sgB sz k h b d x hC) ?_
  intro r u t hw hO
  try dsimp only at hw hO
  have e0 := hw
  exact ⟨(WM cI cZ h5 m1 m2 m3 m4 m5 m6 m7 m8 m9 m10 m11 m12 m13 m14 m15 m16 m17 pl n dr cr lm wm rd hd sc sdN kc dkM ksM hz lB kB hB dB bB lfA rwA wlA hvA fdA chA sgA kkB hhB ddB bbB sgB), ⟨e0, m1, m2, m3, m4, m5, m6, m7, m8, m9, m10, m11, m12, m13, m14, m15, m16, m17, lm, wm, rd, sdN, kc, dkM, ksM, hz, lB, kB, hB, dB, bB, lfA, rwA, wlA, hvA, fdA, chA, sgA, kkB, hhB, ddB, bbB, sgB, rfl, hPg, hC, hSg, hkc, hiff, hKm⟩, hO⟩
set_option maxHeartbeats 4000000 in
set_option maxRecDepth 100000 in
theorem MM_see (l : Launch) (dC : Nat → ClassId) (dI0 : Nat → Nat → Nat) (cI cZ : ClassId) (h5 sz : Nat) (x : Int32) (y : Int32) (t : Bool) {pl : Nat} {le : Nat → Nat} {n : Nat} {k : Nat → Nat} {h : Nat → Nat} {b : Nat → Nat} {d : Nat → Option Nat} {dr : Nat} {sc : Nat} {sp : Nat → Nat} {sn : Nat → Nat} {sm : Nat → Bool} {cr : Nat} {hd : Nat} {hi : Bool} {kk2 : Nat → Nat} {hh2 : Nat → Nat} {bb2 : Nat → Nat} {dd2 : Nat → Option Nat} {dk : Nat} {ks : Nat} {sp2 : Nat → Nat} {sn2 : Nat → Nat} {sm2 : Nat → Bool} {wW : va_W} (hB : BM cI cZ h5 pl le n k h b d dr sc sp sn sm cr hd hi kk2 hh2 bb2 dd2 dk ks sp2 sn2 sm2 wW) : Met l yX5_see wsX5_see ({ frames := 2, cells := 0, slots := 0, locals := 46 } : Room) (va_Pc [.ref h5, .int x, .int y, .int (bI t)] (fun U => U.heap.size = sz ∧ va_P (dC, dI0) vwCl wW U.heap ∧ va_K (dC, dI0) vwCl [(cI, .int), (cZ, .boolean)] U ∧ va_D (fun _ => True) wW)) (va_Qi (fun (r : Int32) (u : va_W) => r = seR n sc x y ∧ BM cI cZ h5 pl le n k h b d dr (seC n sc x y) (seP n sc sp x y) (seN n sc sn x y) (seM n sc sm x y t) cr hd hi kk2 hh2 bb2 dd2 dk ks sp2 sn2 sm2 u) (fun (u : va_W) (t : State) => va_P (dC, dI0) vwCl u t.heap ∧ va_K (dC, dI0) vwCl [(cI, .int), (cZ, .boolean)] t ∧ va_D (va_A wW sz) u) (va_A wW sz)) 0 0 (va_A wW sz) := by
  obtain ⟨m1, m2, m3, m4, m5, m6, m7, m8, m9, m10, m11, m12, m13, m14, m15, m16, m17, lm, wm, rd, sdN, kc, dkM, ksM, hz, lB, kB, hB, dB, bB, lfA, rwA, wlA, hvA, fdA, chA, sgA, kkB, hhB, ddB, bbB, sgB, rfl, hPg, hC, hSg, hkc, hiff, hKm⟩ := hB
  refine Met_i (KX5_see l dC dI0 cI cZ h5 m1 m2 m3 m4 m5 m6 m7 m8 m9 m10 m11 m12 m13 m14 m15 m16 m17 pl n dr cr lm wm rd hd sc sdN kc dkM ksM hz lB kB hB dB bB lfA rwA wlA hvA fdA chA sgA kkB hhB ddB bbB sgB sz sp sn sm x y t hC.1 hSg) ?_
  intro r u t hw hO
  obtain ⟨u0, u1⟩ := u
  try dsimp only at hw hO
  obtain ⟨e0, e1, e2⟩ := hw
  have e1 := Eq.symm e1
  subst e1
  exact ⟨(WM cI cZ h5 m1 m2 m3 m4 m5 m6 m7 m8 m9 m10 m11 m12 m13 m14 m15 m16 m17 pl n dr cr lm wm rd hd (seC n sc x y) sdN kc dkM ksM hz lB kB hB dB bB lfA rwA wlA hvA fdA chA u1 kkB hhB ddB bbB sgB), ⟨e0, m1, m2, m3, m4, m5, m6, m7, m8, m9, m10, m11, m12, m13, m14, m15, m16, m17, lm, wm, rd, sdN, kc, dkM, ksM, hz, lB, kB, hB, dB, bB, lfA, rwA, wlA, hvA, fdA, chA, u1, kkB, hhB, ddB, bbB, sgB, rfl, hPg, hC, e2, hkc, hiff, hKm⟩, hO⟩
set_option maxHeartbeats 4000000 in
set_option maxRecDepth 100000 in
theorem MM_forget (l : Launch) (dC : Nat → ClassId) (dI0 : Nat → Nat → Nat) (cI cZ : ClassId) (h5 sz : Nat) {pl : Nat} {le : Nat → Nat} {n : Nat} {k : Nat → Nat} {h : Nat → Nat} {b : Nat → Nat} {d : Nat → Option Nat} {dr : Nat} {sc : Nat} {sp : Nat → Nat} {sn : Nat → Nat} {sm : Nat → Bool} {cr : Nat} {hd : Nat} {hi : Bool} {kk2 : Nat → Nat} {hh2 : Nat → Nat} {bb2 : Nat → Nat} {dd2 : Nat → Option Nat} {dk : Nat} {ks : Nat} {sp2 : Nat → Nat} {sn2 : Nat → Nat} {sm2 : Nat → Bool} {wW : va_W} (hB : BM cI cZ h5 pl le n k h b d dr sc sp sn sm cr hd hi kk2 hh2 bb2 dd2 dk ks sp2 sn2 sm2 wW) : Met l yX5_forget wsX5_forget ({ frames := 0, cells := 0, slots := 0, locals := 0 } : Room) (va_Pc [.ref h5] (fun U => U.heap.size = sz ∧ va_P (dC, dI0) vwCl wW U.heap ∧ va_K (dC, dI0) vwCl [(cI, .int), (cZ, .boolean)] U ∧ va_D (fun _ => True) wW)) (va_Qi (fun (r : Int32) (u : va_W) => r = nI sc ∧ BM cI cZ h5 pl le n k h b d dr 0 sp sn sm cr hd hi kk2 hh2 bb2 dd2 dk ks sp2 sn2 sm2 u) (fun (u : va_W) (t : State) => va_P (dC, dI0) vwCl u t.heap ∧ va_K (dC, dI0) vwCl [(cI, .int), (cZ, .boolean)] t ∧ va_D (va_A wW sz) u) (va_A wW sz)) 0 0 (va_A wW sz) := by
  obtain ⟨m1, m2, m3, m4, m5, m6, m7, m8, m9, m10, m11, m12, m13, m14, m15, m16, m17, lm, wm, rd, sdN, kc, dkM, ksM, hz, lB, kB, hB, dB, bB, lfA, rwA, wlA, hvA, fdA, chA, sgA, kkB, hhB, ddB, bbB, sgB, rfl, hPg, hC, hSg, hkc, hiff, hKm⟩ := hB
  refine Met_i (KX5_forget l dC dI0 cI cZ h5 m1 m2 m3 m4 m5 m6 m7 m8 m9 m10 m11 m12 m13 m14 m15 m16 m17 pl n dr cr lm wm rd hd sc sdN kc dkM ksM hz lB kB hB dB bB lfA rwA wlA hvA fdA chA sgA kkB hhB ddB bbB sgB sz ) ?_
  intro r u0 t hw hO
  try dsimp only at hw hO
  obtain ⟨e0, e1⟩ := hw
  have e1 := Eq.symm e1
  subst e1
  exact ⟨(WM cI cZ h5 m1 m2 m3 m4 m5 m6 m7 m8 m9 m10 m11 m12 m13 m14 m15 m16 m17 pl n dr cr lm wm rd hd 0 sdN kc dkM ksM hz lB kB hB dB bB lfA rwA wlA hvA fdA chA sgA kkB hhB ddB bbB sgB), ⟨e0, m1, m2, m3, m4, m5, m6, m7, m8, m9, m10, m11, m12, m13, m14, m15, m16, m17, lm, wm, rd, sdN, kc, dkM, ksM, hz, lB, kB, hB, dB, bB, lfA, rwA, wlA, hvA, fdA, chA, sgA, kkB, hhB, ddB, bbB, sgB, rfl, hPg, hC, SgR_0, hkc, hiff, hKm⟩, hO⟩
set_option maxHeartbeats 4000000 in
set_option maxRecDepth 100000 in
theorem MM_drawn (l : Launch) (dC : Nat → ClassId) (dI0 : Nat → Nat → Nat) (cI cZ : ClassId) (h5 sz : Nat) (x : Int32) (y : Int32) (z : Int32) {pl : Nat} {le : Nat → Nat} {n : Nat} {k : Nat → Nat} {h : Nat → Nat} {b : Nat → Nat} {d : Nat → Option Nat} {dr : Nat} {sc : Nat} {sp : Nat → Nat} {sn : Nat → Nat} {sm : Nat → Bool} {cr : Nat} {hd : Nat} {hi : Bool} {kk2 : Nat → Nat} {hh2 : Nat → Nat} {bb2 : Nat → Nat} {dd2 : Nat → Option Nat} {dk : Nat} {ks : Nat} {sp2 : Nat → Nat} {sn2 : Nat → Nat} {sm2 : Nat → Bool} {wW : va_W} (hB : BM cI cZ h5 pl le n k h b d dr sc sp sn sm cr hd hi kk2 hh2 bb2 dd2 dk ks sp2 sn2 sm2 wW) : Met l yX5_drawn wsX5_drawn ({ frames := 4, cells := 0, slots := 0, locals := 89 } : Room) (va_Pc [.ref h5, .int x, .int y, .int z] (fun U => U.heap.size = sz ∧ va_P (dC, dI0) vwCl wW U.heap ∧ va_K (dC, dI0) vwCl [(cI, .int), (cZ, .boolean)] U ∧ va_D (fun _ => True) wW)) (va_Qi (fun (r : Int32) (u : va_W) => r = (dwR n k h b d x y z) ∧ BM cI cZ h5 pl le n k h b d dr sc sp sn sm cr hd hi kk2 hh2 bb2 dd2 dk ks sp2 sn2 sm2 u) (fun (u : va_W) (t : State) => va_P (dC, dI0) vwCl u t.heap ∧ va_K (dC, dI0) vwCl [(cI, .int), (cZ, .boolean)] t ∧ va_D (va_A wW sz) u) (va_A wW sz)) 0 0 (va_A wW sz) := by
  obtain ⟨m1, m2, m3, m4, m5, m6, m7, m8, m9, m10, m11, m12, m13, m14, m15, m16, m17, lm, wm, rd, sdN, kc, dkM, ksM, hz, lB, kB, hB, dB, bB, lfA, rwA, wlA, hvA, fdA, chA, sgA, kkB, hhB, ddB, bbB, sgB, rfl, hPg, hC, hSg, hkc, hiff, hKm⟩ := hB
  refine Met_i (KX5_drawn l dC dI0 cI cZ h5 m1 m2 m3 m4 m5 m6 m7 m8 m9 m10 m11 m12 m13 m14 m15 m16 m17 pl n dr cr lm wm rd hd sc sdN kc dkM ksM hz lB kB hB dB bB lfA rwA wlA hvA fdA chA sgA kkB hhB ddB bbB sgB sz k h b d x y z hC) ?_
  intro r u t hw hO
  obtain ⟨u0, u1, u2, u3⟩ := u
  try dsimp only at hw hO
  have e0 := hw
  exact ⟨(WM cI cZ h5 m1 m2 m3 m4 m5 m6 m7 m8 m9 m10 m11 m12 m13 m14 m15 m16 m17 pl n dr cr u0 wm rd hd sc u3 kc dkM ksM hz lB kB hB dB bB u1 u2 wlA hvA fdA chA sgA kkB hhB ddB bbB sgB), ⟨e0, m1, m2, m3, m4, m5, m6, m7, m8, m9, m10, m11, m12, m13, m14, m15, m16, m17, u0, wm, rd, u3, kc, dkM, ksM, hz, lB, kB, hB, dB, bB, u1, u2, wlA, hvA, fdA, chA, sgA, kkB, hhB, ddB, bbB, sgB, rfl, hPg, hC, hSg, hkc, hiff, hKm⟩, hO⟩
set_option maxHeartbeats 4000000 in
set_option maxRecDepth 100000 in
theorem MM_image (l : Launch) (dC : Nat → ClassId) (dI0 : Nat → Nat → Nat) (cI cZ : ClassId) (h5 sz : Nat) {pl : Nat} {le : Nat → Nat} {n : Nat} {k : Nat → Nat} {h : Nat → Nat} {b : Nat → Nat} {d : Nat → Option Nat} {dr : Nat} {sc : Nat} {sp : Nat → Nat} {sn : Nat → Nat} {sm : Nat → Bool} {cr : Nat} {hd : Nat} {hi : Bool} {kk2 : Nat → Nat} {hh2 : Nat → Nat} {bb2 : Nat → Nat} {dd2 : Nat → Option Nat} {dk : Nat} {ks : Nat} {sp2 : Nat → Nat} {sn2 : Nat → Nat} {sm2 : Nat → Bool} {wW : va_W} (hB : BM cI cZ h5 pl le n k h b d dr sc sp sn sm cr hd hi kk2 hh2 bb2 dd2 dk ks sp2 sn2 sm2 wW) (hn0 : n = 0 → hi = false) : Met l yX5_image wsX5_image ({ frames := 1, cells := 0, slots := 0, locals := 22 } : Room) (va_Pc [.ref h5] (fun U => U.heap.size = sz ∧ va_P (dC, dI0) vwCl wW U.heap ∧ va_K (dC, dI0) vwCl [(cI, .int), (cZ, .boolean)] U ∧ va_D (fun _ => True) wW)) (va_Qi (fun (r : Int32) (u : va_W) => r = (if n = 0 then -103 else nI dr) ∧ BM cI cZ h5 pl le n k h b d dr sc sp sn sm cr hd (if n = 0 then hi else true) k h b d dr sc sp sn sm u) (fun (u : va_W) (t : State) => va_P (dC, dI0) vwCl u t.heap ∧ va_K (dC, dI0) vwCl [(cI, .int), (cZ, .boolean)] t ∧ va_D (va_A wW sz) u) (va_A wW sz)) 0 0 (va_A wW sz) := by
  obtain ⟨m1, m2, m3, m4, m5, m6, m7, m8, m9, m10, m11, m12, m13, m14, m15, m16, m17, lm, wm, rd, sdN, kc, dkM, ksM, hz, lB, kB, hB, dB, bB, lfA, rwA, wlA, hvA, fdA, chA, sgA, kkB, hhB, ddB, bbB, sgB, rfl, hPg, hC, hSg, hkc, hiff, hKm⟩ := hB
  refine Met_i (KX5_image l dC dI0 cI cZ h5 m1 m2 m3 m4 m5 m6 m7 m8 m9 m10 m11 m12 m13 m14 m15 m16 m17 pl n dr cr lm wm rd hd sc sdN kc dkM ksM hz lB kB hB dB bB lfA rwA wlA hvA fdA chA sgA kkB hhB ddB bbB sgB sz k h b d sp sn sm hC hSg) ?_
  intro r u t hw hO
  obtain ⟨u0, u1, u2, u3, u4, u5, u6, u7⟩ := u
  try dsimp only at hw hO
  obtain ⟨e0, e1, e2, e3⟩ := hw
  exact ⟨(WM cI cZ h5 m1 m2 m3 m4 m5 m6 m7 m8 m9 m10 m11 m12 m13 m14 m15 m16 m17 pl n dr cr lm wm rd hd sc sdN u0 u1 u2 hz lB kB hB dB bB lfA rwA wlA hvA fdA chA sgA u3 u4 u5 u6 u7), ⟨e0, m1, m2, m3, m4, m5, m6, m7, m8, m9, m10, m11, m12, m13, m14, m15, m16, m17, lm, wm, rd, sdN, u0, u1, u2, hz, lB, kB, hB, dB, bB, lfA, rwA, wlA, hvA, fdA, chA, sgA, u3, u4, u5, u6, u7, rfl, hPg, hC, hSg, (by
    by_cases hz9 : n = 0
    · rw [e1, if_pos hz9]; exact hkc
    · rw [e1, if_neg hz9]; exact fun q hq => Nat.le_of_eq (Option.some.inj hq).symm), (by
    by_cases hz9 : n = 0
    · rw [e1, if_pos hz9, if_pos hz9]; exact hiff
    · rw [e1, if_neg hz9, if_neg hz9]; exact ⟨fun _ => rfl, fun _ => rfl⟩), (by
    by_cases hz9 : n = 0
    · rw [e1, if_pos hz9]; exact fun z => absurd (hiff.mpr z) (by rw [hn0 hz9]; decide)
    · exact fun _ => e2 hz9)⟩, hO⟩
set_option maxHeartbeats 4000000 in
set_option maxRecDepth 100000 in
theorem MM_restore (l : Launch) (dC : Nat → ClassId) (dI0 : Nat → Nat → Nat) (cI cZ : ClassId) (h5 sz : Nat) {pl : Nat} {le : Nat → Nat} {n : Nat} {k : Nat → Nat} {h : Nat → Nat} {b : Nat → Nat} {d : Nat → Option Nat} {dr : Nat} {sc : Nat} {sp : Nat → Nat} {sn : Nat → Nat} {sm : Nat → Bool} {cr : Nat} {hd : Nat} {hi : Bool} {kk2 : Nat → Nat} {hh2 : Nat → Nat} {bb2 : Nat → Nat} {dd2 : Nat → Option Nat} {dk : Nat} {ks : Nat} {sp2 : Nat → Nat} {sn2 : Nat → Nat} {sm2 : Nat → Bool} {wW : va_W} (hB : BM cI cZ h5 pl le n k h b d dr sc sp sn sm cr hd hi kk2 hh2 bb2 dd2 dk ks sp2 sn2 sm2 wW) (hcr : cr < 2 ^ 30) : Met l yX5_restore wsX5_restore ({ frames := 1, cells := 0, slots := 0, locals := 22 } : Room) (va_Pc [.ref h5] (fun U => U.heap.size = sz ∧ va_P (dC, dI0) vwCl wW U.heap ∧ va_K (dC, dI0) vwCl [(cI, .int), (cZ, .boolean)] U ∧ va_D (fun _ => True) wW)) (va_Qi (fun (r : Int32) (u : va_W) => r = (if hi = true then nI dk else -103) ∧ BM cI cZ h5 pl le n (if hi = true then kk2 else k) (if hi = true then hh2 else h) (if hi = true then bb2 else b) (if hi = true then dd2 else d) (if hi = true then dk else dr) (if hi = true then ks else sc) (if hi = true then sp2 else sp) (if hi = true then sn2 else sn) (if hi = true then sm2 else sm) cr hd hi kk2 hh2 bb2 dd2 dk ks sp2 sn2 sm2 u) (fun (u : va_W) (t : State) => va_P (dC, dI0) vwCl u t.heap ∧ va_K (dC, dI0) vwCl [(cI, .int), (cZ, .boolean)] t ∧ va_D (va_A wW sz) u) (va_A wW sz)) 0 0 (va_A wW sz) := by
  obtain ⟨m1, m2, m3, m4, m5, m6, m7, m8, m9, m10, m11, m12, m13, m14, m15, m16, m17, lm, wm, rd, sdN, kc, dkM, ksM, hz, lB, kB, hB, dB, bB, lfA, rwA, wlA, hvA, fdA, chA, sgA, kkB, hhB, ddB, bbB, sgB, rfl, hPg, hC, hSg, hkc, hiff, hKm⟩ := hB
  refine Met_i (KX5_restore l dC dI0 cI cZ h5 m1 m2 m3 m4 m5 m6 m7 m8 m9 m10 m11 m12 m13 m14 m15 m16 m17 pl n dr cr lm wm rd hd sc sdN kc dkM ksM hz lB kB hB dB bB lfA rwA wlA hvA fdA chA sgA kkB hhB ddB bbB sgB sz k h b d sp sn sm kk2 hh2 bb2 dd2 dk ks sp2 sn2 sm2 hC hSg hkc hcr hKm) ?_
  intro r u t hw hO
  obtain ⟨u0, u1, u2, u3, u4, u5, u6⟩ := u
  try dsimp only at hw hO
  by_cases hh : hi = true
  · have hq := hiff.mp hh
    simp only [if_pos hq] at hw
    simp only [if_pos hh]
    obtain ⟨e0, e1, e2, e3, e4⟩ := hw
    have e1 := Eq.symm e1
    subst e1
    have e2 := Eq.symm e2
    subst e2
    exact ⟨(WM cI cZ h5 m1 m2 m3 m4 m5 m6 m7 m8 m9 m10 m11 m12 m13 m14 m15 m16 m17 pl n dk cr lm wm rd hd ks sdN kc dkM ksM hz lB u2 u3 u4 u5 lfA rwA wlA hvA fdA chA u6 kkB hhB ddB bbB sgB), ⟨e0, m1, m2, m3, m4, m5, m6, m7, m8, m9, m10, m11, m12, m13, m14, m15, m16, m17, lm, wm, rd, sdN, kc, dkM, ksM, hz, lB, u2, u3, u4, u5, lfA, rwA, wlA, hvA, fdA, chA, u6, kkB, hhB, ddB, bbB, sgB, rfl, hPg, e3, e4, hkc, hiff, hKm⟩, hO⟩
  · have hq := show ¬ kc = some cr from fun z => hh (hiff.mpr z)
    simp only [if_neg hq] at hw
    simp only [if_neg hh]
    obtain ⟨e0, e1, e2, e3, e4⟩ := hw
    have e1 := Eq.symm e1
    subst e1
    have e2 := Eq.symm e2
    subst e2
    exact ⟨(WM cI cZ h5 m1 m2 m3 m4 m5 m6 m7 m8 m9 m10 m11 m12 m13 m14 m15 m16 m17 pl n dr cr lm wm rd hd sc sdN kc dkM ksM hz lB u2 u3 u4 u5 lfA rwA wlA hvA fdA chA u6 kkB hhB ddB bbB sgB), ⟨e0, m1, m2, m3, m4, m5, m6, m7, m8, m9, m10, m11, m12, m13, m14, m15, m16, m17, lm, wm, rd, sdN, kc, dkM, ksM, hz, lB, u2, u3, u4, u5, lfA, rwA, wlA, hvA, fdA, chA, u6, kkB, hhB, ddB, bbB, sgB, rfl, hPg, e3, e4, hkc, hiff, hKm⟩, hO⟩
set_option maxHeartbeats 4000000 in
set_option maxRecDepth 100000 in
theorem MM_count (l : Launch) (dC : Nat → ClassId) (dI0 : Nat → Nat → Nat) (cI cZ : ClassId) (h5 sz : Nat) (x : Int32) {pl : Nat} {le : Nat → Nat} {n : Nat} {k : Nat → Nat} {h : Nat → Nat} {b : Nat → Nat} {d : Nat → Option Nat} {dr : Nat} {sc : Nat} {sp : Nat → Nat} {sn : Nat → Nat} {sm : Nat → Bool} {cr : Nat} {hd : Nat} {hi : Bool} {kk2 : Nat → Nat} {hh2 : Nat → Nat} {bb2 : Nat → Nat} {dd2 : Nat → Option Nat} {dk : Nat} {ks : Nat} {sp2 : Nat → Nat} {sn2 : Nat → Nat} {sm2 : Nat → Bool} {wW : va_W} (hB : BM cI cZ h5 pl le n k h b d dr sc sp sn sm cr hd hi kk2 hh2 bb2 dd2 dk ks sp2 sn2 sm2 wW) : Met l yX5_count wsX5_count ({ frames := 8, cells := 0, slots := 0, locals := 176 } : Room) (va_Pc [.ref h5, .int x] (fun U => U.heap.size = sz ∧ va_P (dC, dI0) vwCl wW U.heap ∧ va_K (dC, dI0) vwCl [(cI, .int), (cZ, .boolean)] U ∧ va_D (fun _ => True) wW)) (va_Qi (fun (r : Int32) (u : va_W) => r = (ctR n k h b d dr sc pl cr hd x) ∧ BM cI cZ h5 pl le n k h b d dr sc sp sn sm cr hd hi kk2 hh2 bb2 dd2 dk ks sp2 sn2 sm2 u) (fun (u : va_W) (t : State) => va_P (dC, dI0) vwCl u t.heap ∧ va_K (dC, dI0) vwCl [(cI, .int), (cZ, .boolean)] t ∧ va_D (va_A wW sz) u) (va_A wW sz)) 0 0 (va_A wW sz) := by
  obtain ⟨m1, m2, m3, m4, m5, m6, m7, m8, m9, m10, m11, m12, m13, m14, m15, m16, m17, lm, wm, rd, sdN, kc, dkM, ksM, hz, lB, kB, hB, dB, bB, lfA, rwA, wlA, hvA, fdA, chA, sgA, kkB, hhB, ddB, bbB, sgB, rfl, hPg, hC, hSg, hkc, hiff, hKm⟩ := hB
  refine Met_i (KX5_count l dC dI0 cI cZ h5 m1 m2 m3 m4 m5 m6 m7 m8 m9 m10 m11 m12 m13 m14 m15 m16 m17 pl n dr cr lm wm rd hd sc sdN kc dkM ksM hz lB kB hB dB bB lfA rwA wlA hvA fdA chA sgA kkB hhB ddB bbB sgB sz k h b d x hC (fun h0 => WY_all hC (by omega))) ?_
  intro r u t hw hO
  obtain ⟨u0, u1, u2, u3, u4, u5, u6, u7⟩ := u
  try dsimp only at hw hO
  have e0 := hw
  exact ⟨(WM cI cZ h5 m1 m2 m3 m4 m5 m6 m7 m8 m9 m10 m11 m12 m13 m14 m15 m16 m17 pl n dr cr u0 u1 u2 hd sc sdN kc dkM ksM hz lB kB hB dB bB u3 u4 u5 u6 u7 chA sgA kkB hhB ddB bbB sgB), ⟨e0, m1, m2, m3, m4, m5, m6, m7, m8, m9, m10, m11, m12, m13, m14, m15, m16, m17, u0, u1, u2, sdN, kc, dkM, ksM, hz, lB, kB, hB, dB, bB, u3, u4, u5, u6, u7, chA, sgA, kkB, hhB, ddB, bbB, sgB, rfl, hPg, hC, hSg, hkc, hiff, hKm⟩, hO⟩
set_option maxHeartbeats 4000000 in
set_option maxRecDepth 100000 in
theorem MM_digest (l : Launch) (dC : Nat → ClassId) (dI0 : Nat → Nat → Nat) (cI cZ : ClassId) (h5 sz : Nat) {pl : Nat} {le : Nat → Nat} {n : Nat} {k : Nat → Nat} {h : Nat → Nat} {b : Nat → Nat} {d : Nat → Option Nat} {dr : Nat} {sc : Nat} {sp : Nat → Nat} {sn : Nat → Nat} {sm : Nat → Bool} {cr : Nat} {hd : Nat} {hi : Bool} {kk2 : Nat → Nat} {hh2 : Nat → Nat} {bb2 : Nat → Nat} {dd2 : Nat → Option Nat} {dk : Nat} {ks : Nat} {sp2 : Nat → Nat} {sn2 : Nat → Nat} {sm2 : Nat → Bool} {wW : va_W} (hB : BM cI cZ h5 pl le n k h b d dr sc sp sn sm cr hd hi kk2 hh2 bb2 dd2 dk ks sp2 sn2 sm2 wW) : Met l yX5_digest wsX5_digest ({ frames := 8, cells := 0, slots := 0, locals := 176 } : Room) (va_Pc [.ref h5] (fun U => U.heap.size = sz ∧ va_P (dC, dI0) vwCl wW U.heap ∧ va_K (dC, dI0) vwCl [(cI, .int), (cZ, .boolean)] U ∧ va_D (fun _ => True) wW)) (va_Ql (fun (r : Int64) (u : va_W) => r = (dgS pl le n k h b d dr sc sp sn sm cr hd) ∧ BM cI cZ h5 pl le n k h b d dr sc sp sn sm cr hd hi kk2 hh2 bb2 dd2 dk ks sp2 sn2 sm2 u) (fun (u : va_W) (t : State) => va_P (dC, dI0) vwCl u t.heap ∧ va_K (dC, dI0) vwCl [(cI, .int), (cZ, .boolean)] t ∧ va_D (va_A wW sz) u) (va_A wW sz)) 0 0 (va_A wW sz) := by
  obtain ⟨m1, m2, m3, m4, m5, m6, m7, m8, m9, m10, m11, m12, m13, m14, m15, m16, m17, lm, wm, rd, sdN, kc, dkM, ksM, hz, lB, kB, hB, dB, bB, lfA, rwA, wlA, hvA, fdA, chA, sgA, kkB, hhB, ddB, bbB, sgB, rfl, hPg, hC, hSg, hkc, hiff, hKm⟩ := hB
  refine Met_l (KX5_digest l dC dI0 cI cZ h5 m1 m2 m3 m4 m5 m6 m7 m8 m9 m10 m11 m12 m13 m14 m15 m16 m17 pl n dr cr lm wm rd hd sc sdN kc dkM ksM hz lB kB hB dB bB lfA rwA wlA hvA fdA chA sgA kkB hhB ddB bbB sgB sz le k h b d sp sn sm hPg hC hSg (fun h0 => WY_all hC (by omega))) ?_
  intro r u t hw hO
  obtain ⟨u0, u1, u2, u3, u4, u5, u6, u7, u8, u9⟩ := u
  try dsimp only at hw hO
  have e0 := hw
  exact ⟨(WM cI cZ h5 m1 m2 m3 m4 m5 m6 m7 m8 m9 m10 m11 m12 m13 m14 m15 m16 m17 pl n dr cr u0 u1 u2 hd sc sdN kc dkM ksM u9 lB kB hB dB bB u3 u4 u5 u6 u7 u8 sgA kkB hhB ddB bbB sgB), ⟨e0, m1, m2, m3, m4, m5, m6, m7, m8, m9, m10, m11, m12, m13, m14, m15, m16, m17, u0, u1, u2, sdN, kc, dkM, ksM, u9, lB, kB, hB, dB, bB, u3, u4, u5, u6, u7, u8, sgA, kkB, hhB, ddB, bbB, sgB, rfl, hPg, hC, hSg, hkc, hiff, hKm⟩, hO⟩
