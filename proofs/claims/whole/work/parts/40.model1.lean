abbrev WA2 (cI cZ : ClassId) (a0 : Nat) (N : Nat) (f : Nat → Int32) (a9 : Nat) (g : Nat → Int32) : va_W := [(a0, .inl (cI, N, .inl f)), (a9, .inl (cI, N, .inl g))]
abbrev WM (cI cZ : ClassId) (h5 : Nat) (m1 : Nat) (m2 : Nat) (m3 : Nat) (m4 : Nat) (m5 : Nat) (m6 : Nat) (m7 : Nat) (m8 : Nat) (m9 : Nat) (m10 : Nat) (m11 : Nat) (m12 : Nat) (m13 : Nat) (m14 : Nat) (m15 : Nat) (m16 : Nat) (m17 : Nat) (pl : Nat) (n : Nat) (dr : Nat) (cr : Nat) (lm : Nat) (wm : Nat) (rd : Nat) (hd : Nat) (sc : Nat) (sdN : Nat) (kc : Option Nat) (dkM : Nat) (ksM : Nat) (hz : Int64) (lB : Nat → Int32) (kB : Nat → Int32) (hB : Nat → Int32) (dB : Nat → Int32) (bB : Nat → Int32) (lfA : Nat → Int32) (rwA : Nat → Int32) (wlA : Nat → Int32) (hvA : Nat → Int32) (fdA : Nat → Int32) (chA : Nat → Int32) (sgA : Nat → Int32) (kkB : Nat → Int32) (hhB : Nat → Int32) (ddB : Nat → Int32) (bbB : Nat → Int32) (sgB : Nat → Int32) : va_W := [(h5, .inr (5, [.ref m1, .int (nI pl), .int (nI n), .int (nI dr), .int (nI cr), .ref m2, .ref m3, .ref m4, .ref m5, .ref m6, .int (nI lm), .ref m7, .ref m8, .int (nI wm), .int (nI rd), .ref m9, .ref m10, .int (nI hd), .ref m11, .int (nI sc), .ref m12, .int (nI sdN), .int (dI kc), .int (nI dkM), .int (nI ksM), .ref m13, .ref m14, .ref m15, .ref m16, .ref m17, .long hz])), (m1, .inl (cI, 24, .inl lB)), (m2, .inl (cI, 7, .inl kB)), (m3, .inl (cI, 7, .inl hB)), (m4, .inl (cI, 7, .inl dB)), (m5, .inl (cI, 7, .inl bB)), (m6, .inl (cI, 7, .inl lfA)), (m7, .inl (cI, 7, .inl rwA)), (m8, .inl (cI, 7, .inl wlA)), (m9, .inl (cI, 49, .inl hvA)), (m10, .inl (cI, 7, .inl fdA)), (m11, .inl (cI, 128, .inl chA)), (m12, .inl (cI, 18, .inl sgA)), (m13, .inl (cI, 7, .inl kkB)), (m14, .inl (cI, 7, .inl hhB)), (m15, .inl (cI, 7, .inl ddB)), (m16, .inl (cI, 7, .inl bbB)), (m17, .inl (cI, 18, .inl sgB))]
set_option maxHeartbeats 4000000 in
set_option maxRecDepth 100000 in
theorem KX5_in (l : Launch) (dC : Nat → ClassId) (dI0 : Nat → Nat → Nat) (cI cZ : ClassId) (sz : Nat) (ja : Int64) (jb : Int64) (jc : Int64) : Met l yX5_in wsX5_in ({ frames := 0, cells := 0, slots := 0, locals := 0 } : Room) (va_Pc [.long ja, .long jb, .long jc] (fun U => U.heap.size = sz ∧ va_P (dC, dI0) vwCl (WE0 cI cZ ) U.heap ∧ va_K (dC, dI0) vwCl [(cI, .int), (cZ, .boolean)] U ∧ va_D (fun _ => True) (WE0 cI cZ ))) (va_Qi (fun (r : Int32) (u : Unit) => r = bI (inL ja jb jc)) (fun (u : Unit) (t : State) => va_P (dC, dI0) vwCl (WE0 cI cZ ) t.heap ∧ va_K (dC, dI0) vwCl [(cI, .int), (cZ, .boolean)] t ∧ va_D (va_A (WE0 cI cZ ) sz) (WE0 cI cZ )) (va_A (WE0 cI cZ ) sz)) 0 0 (va_A (WE0 cI cZ ) sz) := by
  refine Met.ofW (cc := cX5_in) (maxL := 6) (ret := (some .boolean)) (by decide) rfl ?_
  intro prg env s m args below meth c s₁ B hml hv
  obtain ⟨rfl, hsz, hP, hK, hD0⟩ := hv
  have hx := B.exec
  have hb := B.bytes
  have hr := B.returns
  have hts := atoms_spec (ws := wsX5_in) B.pre
  have hown : s.vm.findClass RX5 = some m.cls := findClass_of_methodNamed B.named
  have hlocks := B.notSynchronized
  subst hsz
  have hD := hD0.self (sz := s.heap.size)
  generalize hAe : va_A (WE0 cI cZ ) s.heap.size = A at hD ⊢
  have hA : ∀ q : Nat, s.heap.size ≤ q → A q := fun q h => by rw [← hAe]; exact Or.inr h
  have hS : va_S A s.heap s.heap [] := va_S.rf
  have hP : va_P (dC, dI0) vwCl [] s.heap := hP
  have hD : va_D A [] := hD
  have hl := lv_entry ([.long ja, .long jb, .long jc]) (n := 6) (Nat.le_of_ble_eq_true rfl)
  rw [lg_entry_eq]
  generalize (lg_sl ([.long ja, .long jb, .long jc]) ++ List.replicate (6 - (lg_sl ([.long ja, .long jb, .long jc])).length) Slot.unset).toArray = ls at hl ⊢
  have hl : lv_has ls 6 [(0, .long ja), (2, .long jb), (4, .long jc)] := hl
  obtain ⟨H, hH⟩ : ∃ H : Heap, H = s.heap := ⟨_, rfl⟩
  rw [← hH] at hP ⊢
  have hS : va_S A s.heap H [] := by rw [hH]; exact hS
  refine w_gen (fun Q hQ => ?_)
  refine lv_lload_n hx hb dX5_in_0 rfl (lv_at hl 0 rfl) ?_
  refine lv_lload_n hx hb dX5_in_1 rfl (lv_at hl 1 rfl) ?_
  refine W.lcmp hx hb dX5_in_2 ?_
  refine lv_if_lt (tgt := 17) hx hb dX5_in_3 (by decide) (fun c3 => ?_) (fun c3 => ?_)
  ·
    refine lv_iconst (v := nI 0) hx hb dX5_in_17 (by decide) ?_
    subst hQ
    have hP9 : va_P (dC, dI0) vwCl [] H := hP
    have hD9 : va_D A [] := hD
    exact W.zret (v := nI 0) hx hb hr (nar_z false) (fun t9 ht9 hW9 => ⟨⟨nI 0, (), rfl, bI_2 (inL_f1 c3), by rw [ht9]; exact hP9, va_K.moved hW9.alike hK, hD9⟩, hS.F ht9⟩) hS.2.2 dX5_in_18
  refine lv_lload_n hx hb dX5_in_6 rfl (lv_at hl 0 rfl) ?_
  refine lv_lload hx hb dX5_in_7 (lv_at hl 2 rfl) ?_
  refine W.lcmp hx hb dX5_in_9 ?_
  refine lv_if_gt (tgt := 17) hx hb dX5_in_10 (by decide) (fun c10 => ?_) (fun c10 => ?_)
  ·
    refine lv_iconst (v := nI 0) hx hb dX5_in_17 (by decide) ?_
    subst hQ
    have hP9 : va_P (dC, dI0) vwCl [] H := hP
    have hD9 : va_D A [] := hD
    exact W.zret (v := nI 0) hx hb hr (nar_z false) (fun t9 ht9 hW9 => ⟨⟨nI 0, (), rfl, bI_2 (inL_f2 c10), by rw [ht9]; exact hP9, va_K.moved hW9.alike hK, hD9⟩, hS.F ht9⟩) hS.2.2 dX5_in_18
  refine lv_iconst (v := nI 1) hx hb dX5_in_13 (by decide) ?_
  refine lv_goto (tgt := 18) hx hb dX5_in_14 (by decide) ?_
  subst hQ
  have hP9 : va_P (dC, dI0) vwCl [] H := hP
  have hD9 : va_D A [] := hD
  exact W.zret (v := nI 1) hx hb hr (nar_z true) (fun t9 ht9 hW9 => ⟨⟨nI 1, (), rfl, bI_1 (inL_t c3 c10), by rw [ht9]; exact hP9, va_K.moved hW9.alike hK, hD9⟩, hS.F ht9⟩) hS.2.2 dX5_in_18

set_option maxHeartbeats 4000000 in
set_option maxRecDepth 100000 in
theorem KX5_copy (l : Launch) (dC : Nat → ClassId) (dI0 : Nat → Nat → Nat) (cI cZ : ClassId) (a0 : Nat) (N : Nat) (f : Nat → Int32) (a9 : Nat) (g : Nat → Int32) (sz : Nat) (hN : N < 2 ^ 31) : Met l yX5_copy wsX5_copy ({ frames := 0, cells := 0, slots := 0, locals := 0 } : Room) (va_Pc [.ref a0, .ref a9] (fun U => U.heap.size = sz ∧ va_P (dC, dI0) vwCl (WA2 cI cZ a0 N f a9 g) U.heap ∧ va_K (dC, dI0) vwCl [(cI, .int), (cZ, .boolean)] U ∧ va_D (fun _ => True) (WA2 cI cZ a0 N f a9 g))) (va_Qv (fun (u : Nat → Int32) => ∀ j, j < N → u j = f j) (fun (u : Nat → Int32) (t : State) => va_P (dC, dI0) vwCl (WA2 cI cZ a0 N f a9 u) t.heap ∧ va_K (dC, dI0) vwCl [(cI, .int), (cZ, .boolean)] t ∧ va_D (va_A (WA2 cI cZ a0 N f a9 g) sz) (WA2 cI cZ a0 N f a9 u)) (va_A (WA2 cI cZ a0 N f a9 g) sz)) 0 0 (va_A (WA2 cI cZ a0 N f a9 g) sz) := by
  refine Met.ofW (cc := cX5_copy) (maxL := 3) (ret := none) (by decide) rfl ?_
  intro prg env s m args below meth c s₁ B hml hv
  obtain ⟨rfl, hsz, hP, hK, hD0⟩ := hv
  have hx := B.exec
  have hb := B.bytes
  have hr := B.returns
  have hts := atoms_spec (ws := wsX5_copy) B.pre
  have hown : s.vm.findClass RX5 = some m.cls := findClass_of_methodNamed B.named
  have hlocks := B.notSynchronized
  subst hsz
  have hD := hD0.self (sz := s.heap.size)
  generalize hAe : va_A (WA2 cI cZ a0 N f a9 g) s.heap.size = A at hD ⊢
  have hA : ∀ q : Nat, s.heap.size ≤ q → A q := fun q h => by rw [← hAe]; exact Or.inr h
  have hS : va_S A s.heap s.heap [] := va_S.rf
  have hP : va_P (dC, dI0) vwCl [(a0, .inl (cI, N, .inl f)), (a9, .inl (cI, N, .inl g))] s.heap := hP
  have hD : va_D A [(a0, .inl (cI, N, .inl f)), (a9, .inl (cI, N, .inl g))] := hD
  have hl := lv_entry ([.ref a0, .ref a9]) (n := 3) (Nat.le_of_ble_eq_true rfl)
  rw [lg_entry_eq]
  generalize (lg_sl ([.ref a0, .ref a9]) ++ List.replicate (3 - (lg_sl ([.ref a0, .ref a9])).length) Slot.unset).toArray = ls at hl ⊢
  have hl : lv_has ls 3 [(0, .ref a0), (1, .ref a9)] := hl
  obtain ⟨H, hH⟩ : ∃ H : Heap, H = s.heap := ⟨_, rfl⟩
  rw [← hH] at hP ⊢
  have hS : va_S A s.heap H [] := by rw [hH]; exact hS
  refine w_gen (fun Q hQ => ?_)
  refine lv_iconst (v := nI 0) hx hb dX5_copy_0 (by decide) ?_
  refine lv_istore_n (lv' := [(2, .int (nI 0)), (0, .ref a0), (1, .ref a9)]) hx hb dX5_copy_1 rfl hl (by decide) rfl (fun ls hl => ?_)
  have L2 : ∀ (fu : Nat) (i : Nat) (g2 : Nat → Int32), i ≤ N → (∀ j, j < i → g2 j = f j) → N - i < fu → ∀ (H : Heap) (locs : List Loc), va_P (dC, dI0) vwCl [(a0, .inl (cI, N, .inl f)), (a9, .inl (cI, N, .inl g2))] H → va_D A [(a0, .inl (cI, N, .inl f)), (a9, .inl (cI, N, .inl g2))] → va_S A s.heap H locs → ∀ (ls : Array Slot), lv_has ls 3 [(0, .ref a0), (1, .ref a9), (2, .int (nI i))] → W prg l env ({ frames := 0, cells := 0, slots := 0, locals := 0 } : Room) s m ([.ref a0, .ref a9] : List Value).toArray below meth c H locs 0 0 Q (F0 m 2 ls []) := by
    intro fu
    induction fu with
    | zero => intro i g2 hi hg hmu; exact absurd hmu (Nat.not_lt_zero _)
    | succ fu ih2 =>
      intro i g2 hi hg hmu2 H locs hP hD hS ls hl
      refine lv_iload_n hx hb dX5_copy_2 rfl (lv_at hl 2 rfl) ?_
      refine lv_aload_n hx hb dX5_copy_3 rfl (lv_at hl 0 rfl) ?_
      refine va_alen hx hb hK hP 0 0 rfl rfl (v := nI N) rfl dX5_copy_4 ?_
      refine lv_icmp_ge (tgt := 20) hx hb dX5_copy_5 (by decide) (fun c5 => ?_) (fun c5 => ?_)
      ·
        have c5 : N ≤ i := (nI_leI (a := N) (b := i) (by omega) (by omega)).mp c5
        subst hQ
        have hP9 : va_P (dC, dI0) vwCl [(a0, .inl (cI, N, .inl f)), (a9, .inl (cI, N, .inl g2))] H := hP
        have hD9 : va_D A [(a0, .inl (cI, N, .inl f)), (a9, .inl (cI, N, .inl g2))] := hD
        exact W.vret hx hb hr (fun t9 ht9 hW9 => ⟨⟨g2, rfl, fun j hj => hg j (by omega), by rw [ht9]; exact hP9, va_K.moved hW9.alike hK, hD9⟩, hS.F ht9⟩) hS.2.2 dX5_copy_20
      have c5 : ¬ N ≤ i := fun z => c5 ((nI_leI (a := N) (b := i) (by omega) (by omega)).mpr z)
      refine lv_aload_n hx hb dX5_copy_8 rfl (lv_at hl 1 rfl) ?_
      refine lv_iload_n hx hb dX5_copy_9 rfl (lv_at hl 2 rfl) ?_
      refine lv_aload_n hx hb dX5_copy_10 rfl (lv_at hl 0 rfl) ?_
      refine lv_iload_n hx hb dX5_copy_11 rfl (lv_at hl 2 rfl) ?_
      refine va_iald hx hb hK hP 0 0 rfl rfl (vp_in_nI (by omega) (by omega)) dX5_copy_12 ?_
      refine lv_topi (fun x12 e12 => ?_)
      rw [nI_clamp (n := i) (by omega)] at e12
      refine va_iast hx hb hK hP hD hS 1 0 rfl rfl (vp_in_nI (by omega) (by omega)) dX5_copy_13 (fun H locs hP hD hS => ?_)
      rw [nI_clamp (n := i) (by omega)] at hP hD
      have hP : va_P (dC, dI0) vwCl [(a0, .inl (cI, N, .inl f)), (a9, .inl (cI, N, .inl (upd g2 i x12)))] H := hP
      have hD : va_D A [(a0, .inl (cI, N, .inl f)), (a9, .inl (cI, N, .inl (upd g2 i x12)))] := hD
      refine lv_iinc (v := nI (i + 1)) (lv' := [(2, .int (nI (i + 1))), (0, .ref a0), (1, .ref a9)]) hx hb dX5_copy_14 hl (k := 2) rfl (show nI i + Int32.ofInt 1 = nI (i + 1) from nI_add _ _) (by decide) rfl (fun ls hl => ?_)
      refine lv_goto (tgt := 2) hx hb dX5_copy_17 (by decide) ?_
      exact ih2 (i + 1) (upd g2 i x12) (by omega) (upd_lt (F := f) hg e12) (by omega) _ _ hP hD hS ls (lv_sub hl [1, 2, 0] rfl)
  exact L2 _ 0 g (by omega) (fun j hj => absurd hj (Nat.not_lt_zero _)) (Nat.lt_succ_self _) _ _ hP hD hS ls (lv_sub hl [1, 2, 0] rfl)

set_option maxHeartbeats 4000000 in
set_option maxRecDepth 100000 in
theorem KX5_ones (l : Launch) (dC : Nat → ClassId) (dI0 : Nat → Nat → Nat) (cI cZ : ClassId) (sz : Nat) (x : Nat) (hx7 : x < 128) : Met l yX5_ones wsX5_ones ({ frames := 0, cells := 0, slots := 0, locals := 0 } : Room) (va_Pc [.int (nI x)] (fun U => U.heap.size = sz ∧ va_P (dC, dI0) vwCl (WE0 cI cZ ) U.heap ∧ va_K (dC, dI0) vwCl [(cI, .int), (cZ, .boolean)] U ∧ va_D (fun _ => True) (WE0 cI cZ ))) (va_Qi (fun (r : Int32) (u : Unit) => r = nI (pop x)) (fun (u : Unit) (t : State) => va_P (dC, dI0) vwCl (WE0 cI cZ ) t.heap ∧ va_K (dC, dI0) vwCl [(cI, .int), (cZ, .boolean)] t ∧ va_D (va_A (WE0 cI cZ ) sz) (WE0 cI cZ )) (va_A (WE0 cI cZ ) sz)) 0 0 (va_A (WE0 cI cZ ) sz) := by
  refine Met.ofW (cc := cX5_ones) (maxL := 3) (ret := (some .int)) (by decide) rfl ?_
  intro prg env s m args below meth c s₁ B hml hv
  obtain ⟨rfl, hsz, hP, hK, hD0⟩ := hv
  have hx := B.exec
  have hb := B.bytes
  have hr := B.returns
  have hts := atoms_spec (ws := wsX5_ones) B.pre
  have hown : s.vm.findClass RX5 = some m.cls := findClass_of_methodNamed B.named
  have hlocks := B.notSynchronized
  subst hsz
  have hD := hD0.self (sz := s.heap.size)
  generalize hAe : va_A (WE0 cI cZ ) s.heap.size = A at hD ⊢
  have hA : ∀ q : Nat, s.heap.size ≤ q → A q := fun q h => by rw [← hAe]; exact Or.inr h
  have hS : va_S A s.heap s.heap [] := va_S.rf
  have hP : va_P (dC, dI0) vwCl [] s.heap := hP
  have hD : va_D A [] := hD
  have hl := lv_entry ([.int (nI x)]) (n := 3) (Nat.le_of_ble_eq_true rfl)
  rw [lg_entry_eq]
  generalize (lg_sl ([.int (nI x)]) ++ List.replicate (3 - (lg_sl ([.int (nI x)])).length) Slot.unset).toArray = ls at hl ⊢
  have hl : lv_has ls 3 [(0, .int (nI x))] := hl
  obtain ⟨H, hH⟩ : ∃ H : Heap, H = s.heap := ⟨_, rfl⟩
  rw [← hH] at hP ⊢
  have hS : va_S A s.heap H [] := by rw [hH]; exact hS
  refine w_gen (fun Q hQ => ?_)
  refine lv_iconst (v := nI 0) hx hb dX5_ones_0 (by decide) ?_
  refine lv_istore_n (lv' := [(1, .int (nI 0)), (0, .int (nI x))]) hx hb dX5_ones_1 rfl hl (by decide) rfl (fun ls hl => ?_)
  refine lv_iconst (v := nI 0) hx hb dX5_ones_2 (by decide) ?_
  refine lv_istore_n (lv' := [(2, .int (nI 0)), (1, .int (nI 0)), (0, .int (nI x))]) hx hb dX5_ones_3 rfl hl (by decide) rfl (fun ls hl => ?_)
  have L4 : ∀ (fu : Nat) (i : Nat) (a : Nat), i ≤ 8 → a = ct x.testBit i → 8 - i < fu → ∀ (H : Heap) (locs : List Loc), va_P (dC, dI0) vwCl [] H → va_D A [] → va_S A s.heap H locs → ∀ (ls : Array Slot), lv_has ls 3 [(0, .int (nI x)), (1, .int (nI a)), (2, .int (nI i))] → W prg l env ({ frames := 0, cells := 0, slots := 0, locals := 0 } : Room) s m ([.int (nI x)] : List Value).toArray below meth c H locs 0 0 Q (F0 m 4 ls []) := by
    intro fu
    induction fu with
    | zero => intro i a hi ha hmu; exact absurd hmu (Nat.not_lt_zero _)
    | succ fu ih4 =>
      intro i a hi ha hmu4 H locs hP hD hS ls hl
      refine lv_iload_n hx hb dX5_ones_4 rfl (lv_at hl 2 rfl) ?_
      refine lv_bipush (v := nI 8) hx hb dX5_ones_5 (by decide) ?_
      refine lv_icmp_ge (tgt := 24) hx hb dX5_ones_7 (by decide) (fun c7 => ?_) (fun c7 => ?_)
      ·
        have c7 : 8 ≤ i := (nI_leI (a := 8) (b := i) (by omega) (by omega)).mp c7
        refine lv_iload_n hx hb dX5_ones_24 rfl (lv_at hl 1 rfl) ?_
        subst hQ
        have hP9 : va_P (dC, dI0) vwCl [] H := hP
        have hD9 : va_D A [] := hD
        exact W.iret (v := nI a) hx hb hr (fun t9 ht9 hW9 => ⟨⟨nI a, (), rfl, by rw [ha, show i = 8 by omega, ct8 x hx7], by rw [ht9]; exact hP9, va_K.moved hW9.alike hK, hD9⟩, hS.F ht9⟩) hS.2.2 dX5_ones_25
      have c7 : ¬ 8 ≤ i := fun z => c7 ((nI_leI (a := 8) (b := i) (by omega) (by omega)).mpr z)
      refine lv_iload_n hx hb dX5_ones_10 rfl (lv_at hl 1 rfl) ?_
      refine lv_iload_n hx hb dX5_ones_11 rfl (lv_at hl 0 rfl) ?_
      refine lv_iload_n hx hb dX5_ones_12 rfl (lv_at hl 2 rfl) ?_
      refine lv_ishr hx hb dX5_ones_13 ?_
      refine lv_topi (fun x13 e13 => ?_)
      obtain rfl : x13 = nI (x / 2 ^ i) := e13.trans (shr_nI (by omega) (by omega))
      refine lv_iconst (v := nI 1) hx hb dX5_ones_14 (by decide) ?_
      refine lv_iand hx hb dX5_ones_15 ?_
      refine lv_topi (fun x15 e15 => ?_)
      obtain rfl : x15 = nI ((x / 2 ^ i) % 2) := e15.trans (and_1 _)
      refine lv_iadd hx hb dX5_ones_16 ?_
      refine lv_topi (fun x16 e16 => ?_)
      obtain rfl : x16 = nI (a + ((x / 2 ^ i) % 2)) := e16.trans (nI_add _ _)
      refine lv_istore_n (lv' := [(1, .int (nI (a + ((x / 2 ^ i) % 2)))), (0, .int (nI x)), (2, .int (nI i))]) hx hb dX5_ones_17 rfl hl (by decide) rfl (fun ls hl => ?_)
      refine lv_iinc (v := nI (i + 1)) (lv' := [(2, .int (nI (i + 1))), (1, .int (nI (a + ((x / 2 ^ i) % 2)))), (0, .int (nI x))]) hx hb dX5_ones_18 hl (k := 2) rfl (show nI i + Int32.ofInt 1 = nI (i + 1) from nI_add _ _) (by decide) rfl (fun ls hl => ?_)
      refine lv_goto (tgt := 4) hx hb dX5_ones_21 (by decide) ?_
      exact ih4 (i + 1) (a + ((x / 2 ^ i) % 2)) (by omega) (by
        rw [ha, ct, tb_mod]
        by_cases hz9 : x / 2 ^ i % 2 = 1
        · rw [if_pos (decide_eq_true hz9), hz9]
        · rw [if_neg (by rw [decide_eq_false hz9]; decide), show x / 2 ^ i % 2 = 0 by omega]) (by omega) _ _ hP hD hS ls (lv_sub hl [2, 1, 0] rfl)
  exact L4 _ 0 0 (by omega) (rfl) (Nat.lt_succ_self _) _ _ hP hD hS ls (lv_sub hl [2, 1, 0] rfl)

set_option maxHeartbeats 4000000 in
set_option maxRecDepth 100000 in
theorem KX5_letter (l : Launch) (dC : Nat → ClassId) (dI0 : Nat → Nat → Nat) (cI cZ : ClassId) (h5 : Nat) (m1 : Nat) (m2 : Nat) (m3 : Nat) (m4 : Nat) (m5 : Nat) (m6 : Nat) (m7 : Nat) (m8 : Nat) (m9 : Nat) (m10 : Nat) (m11 : Nat) (m12 : Nat) (m13 : Nat) (m14 : Nat) (m15 : Nat) (m16 : Nat) (m17 : Nat) (pl : Nat) (n : Nat) (dr : Nat) (cr : Nat) (lm : Nat) (wm : Nat) (rd : Nat) (hd : Nat) (sc : Nat) (sdN : Nat) (kc : Option Nat) (dkM : Nat) (ksM : Nat) (hz : Int64) (lB : Nat → Int32) (kB : Nat → Int32) (hB : Nat → Int32) (dB : Nat → Int32) (bB : Nat → Int32) (lfA : Nat → Int32) (rwA : Nat → Int32) (wlA : Nat → Int32) (hvA : Nat → Int32) (fdA : Nat → Int32) (chA : Nat → Int32) (sgA : Nat → Int32) (kkB : Nat → Int32) (hhB : Nat → Int32) (ddB : Nat → Int32) (bbB : Nat → Int32) (sgB : Nat → Int32) (sz : Nat) (le : Nat → Nat) (x : Int32) (hPg : PgR pl lB le) : Met l yX5_letter wsX5_letter ({ frames := 1, cells := 0, slots := 0, locals := 25 } : Room) (va_Pc [.ref h5, .int x] (fun U => U.heap.size = sz ∧ va_P (dC, dI0) vwCl (WM cI cZ h5 m1 m2 m3 m4 m5 m6 m7 m8 m9 m10 m11 m12 m13 m14 m15 m16 m17 pl n dr cr lm wm rd hd sc sdN kc dkM ksM hz lB kB hB dB bB lfA rwA wlA hvA fdA chA sgA kkB hhB ddB bbB sgB) U.heap ∧ va_K (dC, dI0) vwCl [(cI, .int), (cZ, .boolean)] U ∧ va_D (fun _ => True) (WM cI cZ h5 m1 m2 m3 m4 m5 m6 m7 m8 m9 m10 m11 m12 m13 m14 m15 m16 m17 pl n dr cr lm wm rd hd sc sdN kc dkM ksM hz lB kB hB dB bB lfA rwA wlA hvA fdA chA sgA kkB hhB ddB bbB sgB))) (va_Qi (fun (r : Int32) (u : (Nat → Int32) × Nat) => r = ltR pl x ∧ u.2 = ltP pl x ∧ PgR (ltP pl x) u.1 (ltL pl le x)) (fun (u : (Nat → Int32) × Nat) (t : State) => va_P (dC, dI0) vwCl (WM cI cZ h5 m1 m2 m3 m4 m5 m6 m7 m8 m9 m10 m11 m12 m13 m14 m15 m16 m17 u.2 n dr cr lm wm rd hd sc sdN kc dkM ksM hz u.1 kB hB dB bB lfA rwA wlA hvA fdA chA sgA kkB hhB ddB bbB sgB) t.heap ∧ va_K (dC, dI0) vwCl [(cI, .int), (cZ, .boolean)] t ∧ va_D (va_A (WM cI cZ h5 m1 m2 m3 m4 m5 m6 m7 m8 m9 m10 m11 m12 m13 m14 m15 m16 m17 pl n dr cr lm wm rd hd sc sdN kc dkM ksM hz lB kB hB dB bB lfA rwA wlA hvA fdA chA sgA kkB hhB ddB bbB sgB) sz) (WM cI cZ h5 m1 m2 m3 m4 m5 m6 m7 m8 m9 m10 m11 m12 m13 m14 m15 m16 m17 u.2 n dr cr lm wm rd hd sc sdN kc dkM ksM hz u.1 kB hB dB bB lfA rwA wlA hvA fdA chA sgA kkB hhB ddB bbB sgB)) (va_A (WM cI cZ h5 m1 m2 m3 m4 m5 m6 m7 m8 m9 m10 m11 m12 m13 m14 m15 m16 m17 pl n dr cr lm wm rd hd sc sdN kc dkM ksM hz lB kB hB dB bB lfA rwA wlA hvA fdA chA sgA kkB hhB ddB bbB sgB) sz)) 0 0 (va_A (WM cI cZ h5 m1 m2 m3 m4 m5 m6 m7 m8 m9 m10 m11 m12 m13 m14 m15 m16 m17 pl n dr cr lm wm rd hd sc sdN kc dkM ksM hz lB kB hB dB bB lfA rwA wlA hvA fdA chA sgA kkB hhB ddB bbB sgB) sz) := by
  refine Met.ofW (cc := cX5_letter) (maxL := 2) (ret := (some .int)) (by decide) rfl ?_
  intro prg env s m args below meth c s₁ B hml hv
  obtain ⟨rfl, hsz, hP, hK, hD0⟩ := hv
  have hx := B.exec
  have hb := B.bytes
  have hr := B.returns
  have hts := atoms_spec (ws := wsX5_letter) B.pre
  have hown : s.vm.findClass RX5 = some m.cls := findClass_of_methodNamed B.named
  have hlocks := B.notSynchronized
  subst hsz
  have hD := hD0.self (sz := s.heap.size)
  generalize hAe : va_A (WM cI cZ h5 m1 m2 m3 m4 m5 m6 m7 m8 m9 m10 m11 m12 m13 m14 m15 m16 m17 pl n dr cr lm wm rd hd sc sdN kc dkM ksM hz lB kB hB dB bB lfA rwA wlA hvA fdA chA sgA kkB hhB ddB bbB sgB) s.heap.size = A at hD ⊢
  have hA : ∀ q : Nat, s.heap.size ≤ q → A q := fun q h => by rw [← hAe]; exact Or.inr h
  have hS : va_S A s.heap s.heap [] := va_S.rf
  have hP : va_P (dC, dI0) vwCl [(h5, .inr (5, [.ref m1, .int (nI pl), .int (nI n), .int (nI dr), .int (nI cr), .ref m2, .ref m3, .ref m4, .ref m5, .ref m6, .int (nI lm), .ref m7, .ref m8, .int (nI wm), .int (nI rd), .ref m9, .ref m10, .int (nI hd), .ref m11, .int (nI sc), .ref m12, .int (nI sdN), .int (dI kc), .int (nI dkM), .int (nI ksM), .ref m13, .ref m14, .ref m15, .ref m16, .ref m17, .long hz])), (m1, .inl (cI, 24, .inl lB)), (m2, .inl (cI, 7, .inl kB)), (m3, .inl (cI, 7, .inl hB)), (m4, .inl (cI, 7, .inl dB)), (m5, .inl (cI, 7, .inl bB)), (m6, .inl (cI, 7, .inl lfA)), (m7, .inl (cI, 7, .inl rwA)), (m8, .inl (cI, 7, .inl wlA)), (m9, .inl (cI, 49, .inl hvA)), (m10, .inl (cI, 7, .inl fdA)), (m11, .inl (cI, 128, .inl chA)), (m12, .inl (cI, 18, .inl sgA)), (m13, .inl (cI, 7, .inl kkB)), (m14, .inl (cI, 7, .inl hhB)), (m15, .inl (cI, 7, .inl ddB)), (m16, .inl (cI, 7, .inl bbB)), (m17, .inl (cI, 18, .inl sgB))] s.heap := hP
  have hD : va_D A [(h5, .inr (5, [.ref m1, .int (nI pl), .int (nI n), .int (nI dr), .int (nI cr), .ref m2, .ref m3, .ref m4, .ref m5, .ref m6, .int (nI lm), .ref m7, .ref m8, .int (nI wm), .int (nI rd), .ref m9, .ref m10, .int (nI hd), .ref m11, .int (nI sc), .ref m12, .int (nI sdN), .int (dI kc), .int (nI dkM), .int (nI ksM), .ref m13, .ref m14, .ref m15, .ref m16, .ref m17, .long hz])), (m1, .inl (cI, 24, .inl lB)), (m2, .inl (cI, 7, .inl kB)), (m3, .inl (cI, 7, .inl hB)), (m4, .inl (cI, 7, .inl dB)), (m5, .inl (cI, 7, .inl bB)), (m6, .inl (cI, 7, .inl lfA)), (m7, .inl (cI, 7, .inl rwA)), (m8, .inl (cI, 7, .inl wlA)), (m9, .inl (cI, 49, .inl hvA)), (m10, .inl (cI, 7, .inl fdA)), (m11, .inl (cI, 128, .inl chA)), (m12, .inl (cI, 18, .inl sgA)), (m13, .inl (cI, 7, .inl kkB)), (m14, .inl (cI, 7, .inl hhB)), (m15, .inl (cI, 7, .inl ddB)), (m16, .inl (cI, 7, .inl bbB)), (m17, .inl (cI, 18, .inl sgB))] := hD
  have hl := lv_entry ([.ref h5, .int x]) (n := 2) (Nat.le_of_ble_eq_true rfl)
  rw [lg_entry_eq]
  generalize (lg_sl ([.ref h5, .int x]) ++ List.replicate (2 - (lg_sl ([.ref h5, .int x])).length) Slot.unset).toArray = ls at hl ⊢
  have hl : lv_has ls 2 [(0, .ref h5), (1, .int x)] := hl
  obtain ⟨H, hH⟩ : ∃ H : Heap, H = s.heap := ⟨_, rfl⟩
  rw [← hH] at hP ⊢
  have hS : va_S A s.heap H [] := by rw [hH]; exact hS
  refine w_gen (fun Q hQ => ?_)
  have hk65 := hts (.constantLong RX5 65 (126)) (by decide +kernel)
  have hin_X5 : ∀ w ∈ wsX50, w ∈ wsX5_letter := by decide +kernel
  have hf71 := hts (.fieldLink RX5 71 "HatNamesModel" "pageMany" "I") (by decide +kernel)
  have hf7 := hts (.fieldLink RX5 7 "HatNamesModel" "page" "[I") (by decide +kernel)
  obtain ⟨hpl, hle⟩ := id hPg
  refine lv_iload_n hx hb dX5_letter_0 rfl (lv_at hl 1 rfl) ?_
  refine lv_i2l (v := (x).toInt64) hx hb dX5_letter_1 rfl ?_
  refine lv_lconst (v := lN 1) hx hb dX5_letter_2 (by decide) ?_
  refine lv_ldc2 (v := 126) hx hb hown hk65 dX5_letter_3 ?_
  have hPc := hP.sub (ws' := []) [] rfl
  have hDc := hD.sub (ws' := []) [] (by decide) rfl
  have hFc := va_free (wc := []) hD hS hA [] rfl
  refine va_calli (va_runS (As := [.long ((x).toInt64), .long (lN 1), .long (126 : Int64)]) (rest := []) ⟨hx, hb, hml, hown, hts⟩ (KX5_in l dC dI0 cI cZ  H.size ((x).toInt64) (lN 1) (126 : Int64)) (va_cwS 3 hts gX5_letter_X5_in rfl rfl rfl (by decide +kernel) ⟨Nat.le_of_ble_eq_true rfl, Nat.le_of_ble_eq_true rfl⟩) ⟨fun a U g mk q => by obtain ⟨q0, q1, qP, qK, qD⟩ := q; exact ⟨q0, q1, qP, va_K.moved (u := U) (U := U.calling g mk a) (Vm.Alike.refl U.vm) qK, qD⟩, fun U hU hW => ⟨rfl, by rw [hU], by rw [hU]; exact hPc, va_K.moved hW.alike hK, hDc.weaken (fun _ _ _ _ => trivial)⟩⟩ rfl rfl hl.1 rfl (lv_room (Nat.le_of_ble_eq_true rfl)) dX5_letter_6 ⟨Nat.le_of_ble_eq_true rfl, Nat.le_of_ble_eq_true rfl⟩) hS (fun q _ h => hFc q h) hFc (fun r6 u6 t7 H1 locs ht7 hvm7 hw6 hB hz1 hk1 hS => ?_)
  obtain ⟨hP1, hK1, hD1⟩ := hB
  rw [ht7] at hP1
  try dsimp only at hw6 hP1 hD1
  obtain ⟨hP, hD⟩ := va_join (wr := [(h5, .inr (5, [.ref m1, .int (nI pl), .int (nI n), .int (nI dr), .int (nI cr), .ref m2, .ref m3, .ref m4, .ref m5, .ref m6, .int (nI lm), .ref m7, .ref m8, .int (nI wm), .int (nI rd), .ref m9, .ref m10, .int (nI hd), .ref m11, .int (nI sc), .ref m12, .int (nI sdN), .int (dI kc), .int (nI dkM), .int (nI ksM), .ref m13, .ref m14, .ref m15, .ref m16, .ref m17, .long hz])), (m1, .inl (cI, 24, .inl lB)), (m2, .inl (cI, 7, .inl kB)), (m3, .inl (cI, 7, .inl hB)), (m4, .inl (cI, 7, .inl dB)), (m5, .inl (cI, 7, .inl bB)), (m6, .inl (cI, 7, .inl lfA)), (m7, .inl (cI, 7, .inl rwA)), (m8, .inl (cI, 7, .inl wlA)), (m9, .inl (cI, 49, .inl hvA)), (m10, .inl (cI, 7, .inl fdA)), (m11, .inl (cI, 128, .inl chA)), (m12, .inl (cI, 18, .inl sgA)), (m13, .inl (cI, 7, .inl kkB)), (m14, .inl (cI, 7, .inl hhB)), (m15, .inl (cI, 7, .inl ddB)), (m16, .inl (cI, 7, .inl bbB)), (m17, .inl (cI, 18, .inl sgB))]) (w1 := []) hP hD [] [0, 1, 2, 3, 4, 5, 6, 7, 8, 9, 10, 11, 12, 13, 14, 15, 16, 17] rfl rfl (by decide) (by decide) hk1 hFc hP1 hD1
  generalize H1 = H at hP hS ⊢
  have hP := hP.sub (ws' := [(h5, .inr (5, [.ref m1, .int (nI pl), .int (nI n), .int (nI dr), .int (nI cr), .ref m2, .ref m3, .ref m4, .ref m5, .ref m6, .int (nI lm), .ref m7, .ref m8, .int (nI wm), .int (nI rd), .ref m9, .ref m10, .int (nI hd), .ref m11, .int (nI sc), .ref m12, .int (nI sdN), .int (dI kc), .int (nI dkM), .int (nI ksM), .ref m13, .ref m14, .ref m15, .ref m16, .ref m17, .long hz])), (m1, .inl (cI, 24, .inl lB)), (m2, .inl (cI, 7, .inl kB)), (m3, .inl (cI, 7, .inl hB)), (m4, .inl (cI, 7, .inl dB)), (m5, .inl (cI, 7, .inl bB)), (m6, .inl (cI, 7, .inl lfA)), (m7, .inl (cI, 7, .inl rwA)), (m8, .inl (cI, 7, .inl wlA)), (m9, .inl (cI, 49, .inl hvA)), (m10, .inl (cI, 7, .inl fdA)), (m11, .inl (cI, 128, .inl chA)), (m12, .inl (cI, 18, .inl sgA)), (m13, .inl (cI, 7, .inl kkB)), (m14, .inl (cI, 7, .inl hhB)), (m15, .inl (cI, 7, .inl ddB)), (m16, .inl (cI, 7, .inl bbB)), (m17, .inl (cI, 18, .inl sgB))]) [0, 1, 2, 3, 4, 5, 6, 7, 8, 9, 10, 11, 12, 13, 14, 15, 16, 17] rfl
  have hD := hD.sub (ws' := [(h5, .inr (5, [.ref m1, .int (nI pl), .int (nI n), .int (nI dr), .int (nI cr), .ref m2, .ref m3, .ref m4, .ref m5, .ref m6, .int (nI lm), .ref m7, .ref m8, .int (nI wm), .int (nI rd), .ref m9, .ref m10, .int (nI hd), .ref m11, .int (nI sc), .ref m12, .int (nI sdN), .int (dI kc), .int (nI dkM), .int (nI ksM), .ref m13, .ref m14, .ref m15, .ref m16, .ref m17, .long hz])), (m1, .inl (cI, 24, .inl lB)), (m2, .inl (cI, 7, .inl kB)), (m3, .inl (cI, 7, .inl hB)), (m4, .inl (cI, 7, .inl dB)), (m5, .inl (cI, 7, .inl bB)), (m6, .inl (cI, 7, .inl lfA)), (m7, .inl (cI, 7, .inl rwA)), (m8, .inl (cI, 7, .inl wlA)), (m9, .inl (cI, 49, .inl hvA)), (m10, .inl (cI, 7, .inl fdA)), (m11, .inl (cI, 128, .inl chA)), (m12, .inl (cI, 18, .inl sgA)), (m13, .inl (cI, 7, .inl kkB)), (m14, .inl (cI, 7, .inl hhB)), (m15, .inl (cI, 7, .inl ddB)), (m16, .inl (cI, 7, .inl bbB)), (m17, .inl (cI, 18, .inl sgB))]) [0, 1, 2, 3, 4, 5, 6, 7, 8, 9, 10, 11, 12, 13, 14, 15, 16, 17] (by decide) rfl
  obtain rfl : r6 = bI (inR x 1 126) := hw6.trans (congrArg bI (inL_R (a' := 1) (b' := 126) (by decide) (by decide)))
  refine lv_if_ne (tgt := 15) hx hb dX5_letter_9 (by decide) (fun c9 => ?_) (fun c9 => ?_)
  ·
    have c9 : (inR x 1 126) = true := bI_n0 c9
    obtain ⟨c0, hc0, hxc0⟩ := inR1_of (b := 126) c9
    rw [hxc0.2] at hl
    have hl : lv_has ls 2 [(0, .ref h5), (1, .int (nI c0))] := hl
    refine lv_aload_n hx hb dX5_letter_15 rfl (lv_at hl 0 rfl) ?_
    refine va_get (D := (dC, dI0)) (ci := 5) (v := .int (nI pl)) (C := RX5) (T := TX5) (N := 31) hx hb hts hin_X5 hown hK hP 0 rfl rfl 1 (by decide) hf71 (fun _ h9 => h9) rfl dX5_letter_16 ?_
    refine lv_bipush (v := nI 24) hx hb dX5_letter_19 (by decide) ?_
    refine lv_icmp_ne (tgt := 27) hx hb dX5_letter_21 (by decide) (fun c21 => ?_) (fun c21 => ?_)
    ·
      have c21 : ¬ pl = 24 := fun z => c21 ((nI_eq (a := pl) (b := 24) (by omega) (by omega)).mpr z)
      refine lv_aload_n hx hb dX5_letter_27 rfl (lv_at hl 0 rfl) ?_
      refine va_get (D := (dC, dI0)) (ci := 5) (v := .ref m1) (C := RX5) (T := TX5) (N := 31) hx hb hts hin_X5 hown hK hP 0 rfl rfl 0 (by decide) hf7 (fun _ h9 => h9) rfl dX5_letter_28 ?_
      refine lv_aload_n hx hb dX5_letter_31 rfl (lv_at hl 0 rfl) ?_
      refine va_get (D := (dC, dI0)) (ci := 5) (v := .int (nI pl)) (C := RX5) (T := TX5) (N := 31) hx hb hts hin_X5 hown hK hP 0 rfl rfl 1 (by decide) hf71 (fun _ h9 => h9) rfl dX5_letter_32 ?_
      refine lv_iload_n hx hb dX5_letter_35 rfl (lv_at hl 1 rfl) ?_
      refine va_iast hx hb hK hP hD hS 1 0 rfl rfl (vp_in_nI (by omega) (by decide)) dX5_letter_36 (fun H locs hP hD hS => ?_)
      rw [nI_clamp (n := pl) (by omega)] at hP hD
      have hP : va_P (dC, dI0) vwCl [(h5, .inr (5, [.ref m1, .int (nI pl), .int (nI n), .int (nI dr), .int (nI cr), .ref m2, .ref m3, .ref m4, .ref m5, .ref m6, .int (nI lm), .ref m7, .ref m8, .int (nI wm), .int (nI rd), .ref m9, .ref m10, .int (nI hd), .ref m11, .int (nI sc), .ref m12, .int (nI sdN), .int (dI kc), .int (nI dkM), .int (nI ksM), .ref m13, .ref m14, .ref m15, .ref m16, .ref m17, .long hz])), (m1, .inl (cI, 24, .inl (upd lB pl (nI c0)))), (m2, .inl (cI, 7, .inl kB)), (m3, .inl (cI, 7, .inl hB)), (m4, .inl (cI, 7, .inl dB)), (m5, .inl (cI, 7, .inl bB)), (m6, .inl (cI, 7, .inl lfA)), (m7, .inl (cI, 7, .inl rwA)), (m8, .inl (cI, 7, .inl wlA)), (m9, .inl (cI, 49, .inl hvA)), (m10, .inl (cI, 7, .inl fdA)), (m11, .inl (cI, 128, .inl chA)), (m12, .inl (cI, 18, .inl sgA)), (m13, .inl (cI, 7, .inl kkB)), (m14, .inl (cI, 7, .inl hhB)), (m15, .inl (cI, 7, .inl ddB)), (m16, .inl (cI, 7, .inl bbB)), (m17, .inl (cI, 18, .inl sgB))] H := hP
      have hD : va_D A [(h5, .inr (5, [.ref m1, .int (nI pl), .int (nI n), .int (nI dr), .int (nI cr), .ref m2, .ref m3, .ref m4, .ref m5, .ref m6, .int (nI lm), .ref m7, .ref m8, .int (nI wm), .int (nI rd), .ref m9, .ref m10, .int (nI hd), .ref m11, .int (nI sc), .ref m12, .int (nI sdN), .int (dI kc), .int (nI dkM), .int (nI ksM), .ref m13, .ref m14, .ref m15, .ref m16, .ref m17, .long hz])), (m1, .inl (cI, 24, .inl (upd lB pl (nI c0)))), (m2, .inl (cI, 7, .inl kB)), (m3, .inl (cI, 7, .inl hB)), (m4, .inl (cI, 7, .inl dB)), (m5, .inl (cI, 7, .inl bB)), (m6, .inl (cI, 7, .inl lfA)), (m7, .inl (cI, 7, .inl rwA)), (m8, .inl (cI, 7, .inl wlA)), (m9, .inl (cI, 49, .inl hvA)), (m10, .inl (cI, 7, .inl fdA)), (m11, .inl (cI, 128, .inl chA)), (m12, .inl (cI, 18, .inl sgA)), (m13, .inl (cI, 7, .inl kkB)), (m14, .inl (cI, 7, .inl hhB)), (m15, .inl (cI, 7, .inl ddB)), (m16, .inl (cI, 7, .inl bbB)), (m17, .inl (cI, 18, .inl sgB))] := hD
      refine lv_aload_n hx hb dX5_letter_37 rfl (lv_at hl 0 rfl) ?_
      refine lv_dup hx hb dX5_letter_38 rfl ?_
      refine va_get (D := (dC, dI0)) (ci := 5) (v := .int (nI pl)) (C := RX5) (T := TX5) (N := 31) hx hb hts hin_X5 hown hK hP 0 rfl rfl 1 (by decide) hf71 (fun _ h9 => h9) rfl dX5_letter_39 ?_
      refine lv_iconst (v := nI 1) hx hb dX5_letter_42 (by decide) ?_
      refine lv_iadd hx hb dX5_letter_43 ?_
      refine lv_topi (fun x43 e43 => ?_)
      obtain rfl : x43 = nI (pl + 1) := e43.trans (nI_add _ _)
      refine va_put (D := (dC, dI0)) (ci := 5) (v := .int (nI (pl + 1))) (ty := .int) (C := RX5) (T := TX5) (N := 31) hx hb hts hin_X5 tyX5 tyX5_ok nmX5 hown hK hP hD hS 0 rfl rfl 1 (by decide) hf71 (fun _ h9 => h9) rfl (by decide +kernel) rfl rfl (Nat.le_of_ble_eq_true rfl) dX5_letter_44 (fun H locs hP hD hS => ?_)
      have hP : va_P (dC, dI0) vwCl [(h5, .inr (5, [.ref m1, .int (nI (pl + 1)), .int (nI n), .int (nI dr), .int (nI cr), .ref m2, .ref m3, .ref m4, .ref m5, .ref m6, .int (nI lm), .ref m7, .ref m8, .int (nI wm), .int (nI rd), .ref m9, .ref m10, .int (nI hd), .ref m11, .int (nI sc), .ref m12, .int (nI sdN), .int (dI kc), .int (nI dkM), .int (nI ksM), .ref m13, .ref m14, .ref m15, .ref m16, .ref m17, .long hz])), (m1, .inl (cI, 24, .inl (upd lB pl (nI c0)))), (m2, .inl (cI, 7, .inl kB)), (m3, .inl (cI, 7, .inl hB)), (m4, .inl (cI, 7, .inl dB)), (m5, .inl (cI, 7, .inl bB)), (m6, .inl (cI, 7, .inl lfA)), (m7, .inl (cI, 7, .inl rwA)), (m8, .inl (cI, 7, .inl wlA)), (m9, .inl (cI, 49, .inl hvA)), (m10, .inl (cI, 7, .inl fdA)), (m11, .inl (cI, 128, .inl chA)), (m12, .inl (cI, 18, .inl sgA)), (m13, .inl (cI, 7, .inl kkB)), (m14, .inl (cI, 7, .inl hhB)), (m15, .inl (cI, 7, .inl ddB)), (m16, .inl (cI, 7, .inl bbB)), (m17, .inl (cI, 18, .inl sgB))] H := hP
      have hD : va_D A [(h5, .inr (5, [.ref m1, .int (nI (pl + 1)), .int (nI n), .int (nI dr), .int (nI cr), .ref m2, .ref m3, .ref m4, .ref m5, .ref m6, .int (nI lm), .ref m7, .ref m8, .int (nI wm), .int (nI rd), .ref m9, .ref m10, .int (nI hd), .ref m11, .int (nI sc), .ref m12, .int (nI sdN), .int (dI kc), .int (nI dkM), .int (nI ksM), .ref m13, .ref m14, .ref m15, .ref m16, .ref m17, .long hz])), (m1, .inl (cI, 24, .inl (upd lB pl (nI c0)))), (m2, .inl (cI, 7, .inl kB)), (m3, .inl (cI, 7, .inl hB)), (m4, .inl (cI, 7, .inl dB)), (m5, .inl (cI, 7, .inl bB)), (m6, .inl (cI, 7, .inl lfA)), (m7, .inl (cI, 7, .inl rwA)), (m8, .inl (cI, 7, .inl wlA)), (m9, .inl (cI, 49, .inl hvA)), (m10, .inl (cI, 7, .inl fdA)), (m11, .inl (cI, 128, .inl chA)), (m12, .inl (cI, 18, .inl sgA)), (m13, .inl (cI, 7, .inl kkB)), (m14, .inl (cI, 7, .inl hhB)), (m15, .inl (cI, 7, .inl ddB)), (m16, .inl (cI, 7, .inl bbB)), (m17, .inl (cI, 18, .inl sgB))] := hD
      refine lv_aload_n hx hb dX5_letter_47 rfl (lv_at hl 0 rfl) ?_
      refine va_get (D := (dC, dI0)) (ci := 5) (v := .int (nI (pl + 1))) (C := RX5) (T := TX5) (N := 31) hx hb hts hin_X5 hown hK hP 0 rfl rfl 1 (by decide) hf71 (fun _ h9 => h9) rfl dX5_letter_48 ?_
      subst hQ
      have hP9 : va_P (dC, dI0) vwCl [(h5, .inr (5, [.ref m1, .int (nI (pl + 1)), .int (nI n), .int (nI dr), .int (nI cr), .ref m2, .ref m3, .ref m4, .ref m5, .ref m6, .int (nI lm), .ref m7, .ref m8, .int (nI wm), .int (nI rd), .ref m9, .ref m10, .int (nI hd), .ref m11, .int (nI sc), .ref m12, .int (nI sdN), .int (dI kc), .int (nI dkM), .int (nI ksM), .ref m13, .ref m14, .ref m15, .ref m16, .ref m17, .long hz])), (m1, .inl (cI, 24, .inl (upd lB pl (nI c0)))), (m2, .inl (cI, 7, .inl kB)), (m3, .inl (cI, 7, .inl hB)), (m4, .inl (cI, 7, .inl dB)), (m5, .inl (cI, 7, .inl bB)), (m6, .inl (cI, 7, .inl lfA)), (m7, .inl (cI, 7, .inl rwA)), (m8, .inl (cI, 7, .inl wlA)), (m9, .inl (cI, 49, .inl hvA)), (m10, .inl (cI, 7, .inl fdA)), (m11, .inl (cI, 128, .inl chA)), (m12, .inl (cI, 18, .inl sgA)), (m13, .inl (cI, 7, .inl kkB)), (m14, .inl (cI, 7, .inl hhB)), (m15, .inl (cI, 7, .inl ddB)), (m16, .inl (cI, 7, .inl bbB)), (m17, .inl (cI, 18, .inl sgB))] H := hP
      have hD9 : va_D A [(h5, .inr (5, [.ref m1, .int (nI (pl + 1)), .int (nI n), .int (nI dr), .int (nI cr), .ref m2, .ref m3, .ref m4, .ref m5, .ref m6, .int (nI lm), .ref m7, .ref m8, .int (nI wm), .int (nI rd), .ref m9, .ref m10, .int (nI hd), .ref m11, .int (nI sc), .ref m12, .int (nI sdN), .int (dI kc), .int (nI dkM), .int (nI ksM), .ref m13, .ref m14, .ref m15, .ref m16, .ref m17, .long hz])), (m1, .inl (cI, 24, .inl (upd lB pl (nI c0)))), (m2, .inl (cI, 7, .inl kB)), (m3, .inl (cI, 7, .inl hB)), (m4, .inl (cI, 7, .inl dB)), (m5, .inl (cI, 7, .inl bB)), (m6, .inl (cI, 7, .inl lfA)), (m7, .inl (cI, 7, .inl rwA)), (m8, .inl (cI, 7, .inl wlA)), (m9, .inl (cI, 49, .inl hvA)), (m10, .inl (cI, 7, .inl fdA)), (m11, .inl (cI, 128, .inl chA)), (m12, .inl (cI, 18, .inl sgA)), (m13, .inl (cI, 7, .inl kkB)), (m14, .inl (cI, 7, .inl hhB)), (m15, .inl (cI, 7, .inl ddB)), (m16, .inl (cI, 7, .inl bbB)), (m17, .inl (cI, 18, .inl sgB))] := hD
      exact W.iret (v := nI (pl + 1)) hx hb hr (fun t9 ht9 hW9 => ⟨⟨nI (pl + 1), (upd lB pl (nI c0), pl + 1), rfl, by
        have c23 : pl < 24 := by omega
        have h2 : pN x = c0 := by rw [hxc0.2, pN_nI (by omega)]
        rw [ltR, ltP, ltL, if_pos c9, if_pos c23, if_pos ⟨c9, c23⟩, if_pos ⟨c9, c23⟩, h2]
        exact ⟨rfl, rfl, PgR_add hPg c23 (by omega)⟩, by rw [ht9]; exact hP9, va_K.moved hW9.alike hK, hD9⟩, hS.F ht9⟩) hS.2.2 dX5_letter_51
    have c21 : pl = 24 := (nI_eq (a := pl) (b := 24) (by omega) (by omega)).mp c21
    refine lv_bipush (v := (-104)) hx hb dX5_letter_24 (by decide) ?_
    subst hQ
    have hP9 : va_P (dC, dI0) vwCl [(h5, .inr (5, [.ref m1, .int (nI pl), .int (nI n), .int (nI dr), .int (nI cr), .ref m2, .ref m3, .ref m4, .ref m5, .ref m6, .int (nI lm), .ref m7, .ref m8, .int (nI wm), .int (nI rd), .ref m9, .ref m10, .int (nI hd), .ref m11, .int (nI sc), .ref m12, .int (nI sdN), .int (dI kc), .int (nI dkM), .int (nI ksM), .ref m13, .ref m14, .ref m15, .ref m16, .ref m17, .long hz])), (m1, .inl (cI, 24, .inl lB)), (m2, .inl (cI, 7, .inl kB)), (m3, .inl (cI, 7, .inl hB)), (m4, .inl (cI, 7, .inl dB)), (m5, .inl (cI, 7, .inl bB)), (m6, .inl (cI, 7, .inl lfA)), (m7, .inl (cI, 7, .inl rwA)), (m8, .inl (cI, 7, .inl wlA)), (m9, .inl (cI, 49, .inl hvA)), (m10, .inl (cI, 7, .inl fdA)), (m11, .inl (cI, 128, .inl chA)), (m12, .inl (cI, 18, .inl sgA)), (m13, .inl (cI, 7, .inl kkB)), (m14, .inl (cI, 7, .inl hhB)), (m15, .inl (cI, 7, .inl ddB)), (m16, .inl (cI, 7, .inl bbB)), (m17, .inl (cI, 18, .inl sgB))] H := hP
    have hD9 : va_D A [(h5, .inr (5, [.ref m1, .int (nI pl), .int (nI n), .int (nI dr), .int (nI cr), .ref m2, .ref m3, .ref m4, .ref m5, .ref m6, .int (nI lm), .ref m7, .ref m8, .int (nI wm), .int (nI rd), .ref m9, .ref m10, .int (nI hd), .ref m11, .int (nI sc), .ref m12, .int (nI sdN), .int (dI kc), .int (nI dkM), .int (nI ksM), .ref m13, .ref m14, .ref m15, .ref m16, .ref m17, .long hz])), (m1, .inl (cI, 24, .inl lB)), (m2, .inl (cI, 7, .inl kB)), (m3, .inl (cI, 7, .inl hB)), (m4, .inl (cI, 7, .inl dB)), (m5, .inl (cI, 7, .inl bB)), (m6, .inl (cI, 7, .inl lfA)), (m7, .inl (cI, 7, .inl rwA)), (m8, .inl (cI, 7, .inl wlA)), (m9, .inl (cI, 49, .inl hvA)), (m10, .inl (cI, 7, .inl fdA)), (m11, .inl (cI, 128, .inl chA)), (m12, .inl (cI, 18, .inl sgA)), (m13, .inl (cI, 7, .inl kkB)), (m14, .inl (cI, 7, .inl hhB)), (m15, .inl (cI, 7, .inl ddB)), (m16, .inl (cI, 7, .inl bbB)), (m17, .inl (cI, 18, .inl sgB))] := hD
    exact W.iret (v := (-104)) hx hb hr (fun t9 ht9 hW9 => ⟨⟨(-104), (lB, pl), rfl, by
      have c23 : ¬ pl < 24 := by omega
      rw [ltR, ltP, ltL, if_pos c9, if_neg c23, if_neg (fun z => c23 z.2), if_neg (fun z => c23 z.2)]
      exact ⟨rfl, rfl, hPg⟩, by rw [ht9]; exact hP9, va_K.moved hW9.alike hK, hD9⟩, hS.F ht9⟩) hS.2.2 dX5_letter_26
  have c9 : (inR x 1 126) = false := bI_0 c9
  refine lv_bipush (v := (-102)) hx hb dX5_letter_12 (by decide) ?_
  subst hQ
  have hP9 : va_P (dC, dI0) vwCl [(h5, .inr (5, [.ref m1, .int (nI pl), .int (nI n), .int (nI dr), .int (nI cr), .ref m2, .ref m3, .ref m4, .ref m5, .ref m6, .int (nI lm), .ref m7, .ref m8, .int (nI wm), .int (nI rd), .ref m9, .ref m10, .int (nI hd), .ref m11, .int (nI sc), .ref m12, .int (nI sdN), .int (dI kc), .int (nI dkM), .int (nI ksM), .ref m13, .ref m14, .ref m15, .ref m16, .ref m17, .long hz])), (m1, .inl (cI, 24, .inl lB)), (m2, .inl (cI, 7, .inl kB)), (m3, .inl (cI, 7, .inl hB)), (m4, .inl (cI, 7, .inl dB)), (m5, .inl (cI, 7, .inl bB)), (m6, .inl (cI, 7, .inl lfA)), (m7, .inl (cI, 7, .inl rwA)), (m8, .inl (cI, 7, .inl wlA)), (m9, .inl (cI, 49, .inl hvA)), (m10, .inl (cI, 7, .inl fdA)), (m11, .inl (cI, 128, .inl chA)), (m12, .inl (cI, 18, .inl sgA)), (m13, .inl (cI, 7, .inl kkB)), (m14, .inl (cI, 7, .inl hhB)), (m15, .inl (cI, 7, .inl ddB)), (m16, .inl (cI, 7, .inl bbB)), (m17, .inl (cI, 18, .inl sgB))] H := hP
  have hD9 : va_D A [(h5, .inr (5, [.ref m1, .int (nI pl), .int (nI n), .int (nI dr), .int (nI cr), .ref m2, .ref m3, .ref m4, .ref m5, .ref m6, .int (nI lm), .ref m7, .ref m8, .int (nI wm), .int (nI rd), .ref m9, .ref m10, .int (nI hd), .ref m11, .int (nI sc), .ref m12, .int (nI sdN), .int (dI kc), .int (nI dkM), .int (nI ksM), .ref m13, .ref m14, .ref m15, .ref m16, .ref m17, .long hz])), (m1, .inl (cI, 24, .inl lB)), (m2, .inl (cI, 7, .inl kB)), (m3, .inl (cI, 7, .inl hB)), (m4, .inl (cI, 7, .inl dB)), (m5, .inl (cI, 7, .inl bB)), (m6, .inl (cI, 7, .inl lfA)), (m7, .inl (cI, 7, .inl rwA)), (m8, .inl (cI, 7, .inl wlA)), (m9, .inl (cI, 49, .inl hvA)), (m10, .inl (cI, 7, .inl fdA)), (m11, .inl (cI, 128, .inl chA)), (m12, .inl (cI, 18, .inl sgA)), (m13, .inl (cI, 7, .inl kkB)), (m14, .inl (cI, 7, .inl hhB)), (m15, .inl (cI, 7, .inl ddB)), (m16, .inl (cI, 7, .inl bbB)), (m17, .inl (cI, 18, .inl sgB))] := hD
  exact W.iret (v := (-102)) hx hb hr (fun t9 ht9 hW9 => ⟨⟨(-102), (lB, pl), rfl, by
    have h1 : ¬ inR x 1 126 = true := by rw [c9]; decide
    rw [ltR, ltP, ltL, if_neg h1, if_neg (fun z => h1 z.1), if_neg (fun z => h1 z.1)]
    exact ⟨rfl, rfl, hPg⟩, by rw [ht9]; exact hP9, va_K.moved hW9.alike hK, hD9⟩, hS.F ht9⟩) hS.2.2 dX5_letter_14

set_option maxHeartbeats 4000000 in
set_option maxRecDepth 100000 in
theorem KX5_blank (l : Launch) (dC : Nat → ClassId) (dI0 : Nat → Nat → Nat) (cI cZ : ClassId) (h5 : Nat) (m1 : Nat) (m2 : Nat) (m3 : Nat) (m4 : Nat) (m5 : Nat) (m6 : Nat) (m7 : Nat) (m8 : Nat) (m9 : Nat) (m10 : Nat) (m11 : Nat) (m12 : Nat) (m13 : Nat) (m14 : Nat) (m15 : Nat) (m16 : Nat) (m17 : Nat) (pl : Nat) (n : Nat) (dr : Nat) (cr : Nat) (lm : Nat) (wm : Nat) (rd : Nat) (hd : Nat) (sc : Nat) (sdN : Nat) (kc : Option Nat) (dkM : Nat) (ksM : Nat) (hz : Int64) (lB : Nat → Int32) (kB : Nat → Int32) (hB : Nat → Int32) (dB : Nat → Int32) (bB : Nat → Int32) (lfA : Nat → Int32) (rwA : Nat → Int32) (wlA : Nat → Int32) (hvA : Nat → Int32) (fdA : Nat → Int32) (chA : Nat → Int32) (sgA : Nat → Int32) (kkB : Nat → Int32) (hhB : Nat → Int32) (ddB : Nat → Int32) (bbB : Nat → Int32) (sgB : Nat → Int32) (sz : Nat) : Met l yX5_blank wsX5_blank ({ frames := 0, cells := 0, slots := 0, locals := 0 } : Room) (va_Pc [.ref h5] (fun U => U.heap.size = sz ∧ va_P (dC, dI0) vwCl (WM cI cZ h5 m1 m2 m3 m4 m5 m6 m7 m8 m9 m10 m11 m12 m13 m14 m15 m16 m17 pl n dr cr lm wm rd hd sc sdN kc dkM ksM hz lB kB hB dB bB lfA rwA wlA hvA fdA chA sgA kkB hhB ddB bbB sgB) U.heap ∧ va_K (dC, dI0) vwCl [(cI, .int), (cZ, .boolean)] U ∧ va_D (fun _ => True) (WM cI cZ h5 m1 m2 m3 m4 m5 m6 m7 m8 m9 m10 m11 m12 m13 m14 m15 m16 m17 pl n dr cr lm wm rd hd sc sdN kc dkM ksM hz lB kB hB dB bB lfA rwA wlA hvA fdA chA sgA kkB hhB ddB bbB sgB))) (va_Qi (fun (r : Int32) (u : Nat) => r = nI pl ∧ u = 0) (fun (u : Nat) (t : State) => va_P (dC, dI0) vwCl (WM cI cZ h5 m1 m2 m3 m4 m5 m6 m7 m8 m9 m10 m11 m12 m13 m14 m15 m16 m17 u n dr cr lm wm rd hd sc sdN kc dkM ksM hz lB kB hB dB bB lfA rwA wlA hvA fdA chA sgA kkB hhB ddB bbB sgB) t.heap ∧ va_K (dC, dI0) vwCl [(cI, .int), (cZ, .boolean)] t ∧ va_D (va_A (WM cI cZ h5 m1 m2 m3 m4 m5 m6 m7 m8 m9 m10 m11 m12 m13 m14 m15 m16 m17 pl n dr cr lm wm rd hd sc sdN kc dkM ksM hz lB kB hB dB bB lfA rwA wlA hvA fdA chA sgA kkB hhB ddB bbB sgB) sz) (WM cI cZ h5 m1 m2 m3 m4 m5 m6 m7 m8 m9 m10 m11 m12 m13 m14 m15 m16 m17 u n dr cr lm wm rd hd sc sdN kc dkM ksM hz lB kB hB dB bB lfA rwA wlA hvA fdA chA sgA kkB hhB ddB bbB sgB)) (va_A (WM cI cZ h5 m1 m2 m3 m4 m5 m6 m7 m8 m9 m10 m11 m12 m13 m14 m15 m16 m17 pl n dr cr lm wm rd hd sc sdN kc dkM ksM hz lB kB hB dB bB lfA rwA wlA hvA fdA chA sgA kkB hhB ddB bbB sgB) sz)) 0 0 (va_A (WM cI cZ h5 m1 m2 m3 m4 m5 m6 m7 m8 m9 m10 m11 m12 m13 m14 m15 m16 m17 pl n dr cr lm wm rd hd sc sdN kc dkM ksM hz lB kB hB dB bB lfA rwA wlA hvA fdA chA sgA kkB hhB ddB bbB sgB) sz) := by
  refine Met.ofW (cc := cX5_blank) (maxL := 2) (ret := (some .int)) (by decide) rfl ?_
  intro prg env s m args below meth c s₁ B hml hv
  obtain ⟨rfl, hsz, hP, hK, hD0⟩ := hv
  have hx := B.exec
  have hb := B.bytes
  have hr := B.returns
  have hts := atoms_spec (ws := wsX5_blank) B.pre
  have hown : s.vm.findClass RX5 = some m.cls := findClass_of_methodNamed B.named
  have hlocks := B.notSynchronized
  subst hsz
  have hD := hD0.self (sz := s.heap.size)
  generalize hAe : va_A (WM cI cZ h5 m1 m2 m3 m4 m5 m6 m7 m8 m9 m10 m11 m12 m13 m14 m15 m16 m17 pl n dr cr lm wm rd hd sc sdN kc dkM ksM hz lB kB hB dB bB lfA rwA wlA hvA fdA chA sgA kkB hhB ddB bbB sgB) s.heap.size = A at hD ⊢
  have hA : ∀ q : Nat, s.heap.size ≤ q → A q := fun q h => by rw [← hAe]; exact Or.inr h
  have hS : va_S A s.heap s.heap [] := va_S.rf
  have hP : va_P (dC, dI0) vwCl [(h5, .inr (5, [.ref m1, .int (nI pl), .int (nI n), .int (nI dr), .int (nI cr), .ref m2, .ref m3, .ref m4, .ref m5, .ref m6, .int (nI lm), .ref m7, .ref m8, .int (nI wm), .int (nI rd), .ref m9, .ref m10, .int (nI hd), .ref m11, .int (nI sc), .ref m12, .int (nI sdN), .int (dI kc), .int (nI dkM), .int (nI ksM), .ref m13, .ref m14, .ref m15, .ref m16, .ref m17, .long hz])), (m1, .inl (cI, 24, .inl lB)), (m2, .inl (cI, 7, .inl kB)), (m3, .inl (cI, 7, .inl hB)), (m4, .inl (cI, 7, .inl dB)), (m5, .inl (cI, 7, .inl bB)), (m6, .inl (cI, 7, .inl lfA)), (m7, .inl (cI, 7, .inl rwA)), (m8, .inl (cI, 7, .inl wlA)), (m9, .inl (cI, 49, .inl hvA)), (m10, .inl (cI, 7, .inl fdA)), (m11, .inl (cI, 128, .inl chA)), (m12, .inl (cI, 18, .inl sgA)), (m13, .inl (cI, 7, .inl kkB)), (m14, .inl (cI, 7, .inl hhB)), (m15, .inl (cI, 7, .inl ddB)), (m16, .inl (cI, 7, .inl bbB)), (m17, .inl (cI, 18, .inl sgB))] s.heap := hP
  have hD : va_D A [(h5, .inr (5, [.ref m1, .int (nI pl), .int (nI n), .int (nI dr), .int (nI cr), .ref m2, .ref m3, .ref m4, .ref m5, .ref m6, .int (nI lm), .ref m7, .ref m8, .int (nI wm), .int (nI rd), .ref m9, .ref m10, .int (nI hd), .ref m11, .int (nI sc), .ref m12, .int (nI sdN), .int (dI kc), .int (nI dkM), .int (nI ksM), .ref m13, .ref m14, .ref m15, .ref m16, .ref m17, .long hz])), (m1, .inl (cI, 24, .inl lB)), (m2, .inl (cI, 7, .inl kB)), (m3, .inl (cI, 7, .inl hB)), (m4, .inl (cI, 7, .inl dB)), (m5, .inl (cI, 7, .inl bB)), (m6, .inl (cI, 7, .inl lfA)), (m7, .inl (cI, 7, .inl rwA)), (m8, .inl (cI, 7, .inl wlA)), (m9, .inl (cI, 49, .inl hvA)), (m10, .inl (cI, 7, .inl fdA)), (m11, .inl (cI, 128, .inl chA)), (m12, .inl (cI, 18, .inl sgA)), (m13, .inl (cI, 7, .inl kkB)), (m14, .inl (cI, 7, .inl hhB)), (m15, .inl (cI, 7, .inl ddB)), (m16, .inl (cI, 7, .inl bbB)), (m17, .inl (cI, 18, .inl sgB))] := hD
  have hl := lv_entry ([.ref h5]) (n := 2) (Nat.le_of_ble_eq_true rfl)
  rw [lg_entry_eq]
  generalize (lg_sl ([.ref h5]) ++ List.replicate (2 - (lg_sl ([.ref h5])).length) Slot.unset).toArray = ls at hl ⊢
  have hl : lv_has ls 2 [(0, .ref h5)] := hl
  obtain ⟨H, hH⟩ : ∃ H : Heap, H = s.heap := ⟨_, rfl⟩
  rw [← hH] at hP ⊢
  have hS : va_S A s.heap H [] := by rw [hH]; exact hS
  refine w_gen (fun Q hQ => ?_)
  have hin_X5 : ∀ w ∈ wsX50, w ∈ wsX5_blank := by decide +kernel
  have hf71 := hts (.fieldLink RX5 71 "HatNamesModel" "pageMany" "I") (by decide +kernel)
  refine lv_aload_n hx hb dX5_blank_0 rfl (lv_at hl 0 rfl) ?_
  refine va_get (D := (dC, dI0)) (ci := 5) (v := .int (nI pl)) (C := RX5) (T := TX5) (N := 31) hx hb hts hin_X5 hown hK hP 0 rfl rfl 1 (by decide) hf71 (fun _ h9 => h9) rfl dX5_blank_1 ?_
  refine lv_istore_n (lv' := [(1, .int (nI pl)), (0, .ref h5)]) hx hb dX5_blank_4 rfl hl (by decide) rfl (fun ls hl => ?_)
  refine lv_aload_n hx hb dX5_blank_5 rfl (lv_at hl 1 rfl) ?_
  refine lv_iconst (v := nI 0) hx hb dX5_blank_6 (by decide) ?_
  refine va_put (D := (dC, dI0)) (ci := 5) (v := .int (nI 0)) (ty := .int) (C := RX5) (T := TX5) (N := 31) hx hb hts hin_X5 tyX5 tyX5_ok nmX5 hown hK hP hD hS 0 rfl rfl 1 (by decide) hf71 (fun _ h9 => h9) rfl (by decide +kernel) rfl rfl (Nat.le_of_ble_eq_true rfl) dX5_blank_7 (fun H locs hP hD hS => ?_)
  have hP : va_P (dC, dI0) vwCl [(h5, .inr (5, [.ref m1, .int (nI 0), .int (nI n), .int (nI dr), .int (nI cr), .ref m2, .ref m3, .ref m4, .ref m5, .ref m6, .int (nI lm), .ref m7, .ref m8, .int (nI wm), .int (nI rd), .ref m9, .ref m10, .int (nI hd), .ref m11, .int (nI sc), .ref m12, .int (nI sdN), .int (dI kc), .int (nI dkM), .int (nI ksM), .ref m13, .ref m14, .ref m15, .ref m16, .ref m17, .long hz])), (m1, .inl (cI, 24, .inl lB)), (m2, .inl (cI, 7, .inl kB)), (m3, .inl (cI, 7, .inl hB)), (m4, .inl (cI, 7, .inl dB)), (m5, .inl (cI, 7, .inl bB)), (m6, .inl (cI, 7, .inl lfA)), (m7, .inl (cI, 7, .inl rwA)), (m8, .inl (cI, 7, .inl wlA)), (m9, .inl (cI, 49, .inl hvA)), (m10, .inl (cI, 7, .inl fdA)), (m11, .inl (cI, 128, .inl chA)), (m12, .inl (cI, 18, .inl sgA)), (m13, .inl (cI, 7, .inl kkB)), (m14, .inl (cI, 7, .inl hhB)), (m15, .inl (cI, 7, .inl ddB)), (m16, .inl (cI, 7, .inl bbB)), (m17, .inl (cI, 18, .inl sgB))] H := hP
  have hD : va_D A [(h5, .inr (5, [.ref m1, .int (nI 0), .int (nI n), .int (nI dr), .int (nI cr), .ref m2, .ref m3, .ref m4, .ref m5, .ref m6, .int (nI lm), .ref m7, .ref m8, .int (nI wm), .int (nI rd), .ref m9, .ref m10, .int (nI hd), .ref m11, .int (nI sc), .ref m12, .int (nI sdN), .int (dI kc), .int (nI dkM), .int (nI ksM), .ref m13, .ref m14, .ref m15, .ref m16, .ref m17, .long hz])), (m1, .inl (cI, 24, .inl lB)), (m2, .inl (cI, 7, .inl kB)), (m3, .inl (cI, 7, .inl hB)), (m4, .inl (cI, 7, .inl dB)), (m5, .inl (cI, 7, .inl bB)), (m6, .inl (cI, 7, .inl lfA)), (m7, .inl (cI, 7, .inl rwA)), (m8, .inl (cI, 7, .inl wlA)), (m9, .inl (cI, 49, .inl hvA)), (m10, .inl (cI, 7, .inl fdA)), (m11, .inl (cI, 128, .inl chA)), (m12, .inl (cI, 18, .inl sgA)), (m13, .inl (cI, 7, .inl kkB)), (m14, .inl (cI, 7, .inl hhB)), (m15, .inl (cI, 7, .inl ddB)), (m16, .inl (cI, 7, .inl bbB)), (m17, .inl (cI, 18, .inl sgB))] := hD
  refine lv_iload_n hx hb dX5_blank_10 rfl (lv_at hl 0 rfl) ?_
  subst hQ
  have hP9 : va_P (dC, dI0) vwCl [(h5, .inr (5, [.ref m1, .int (nI 0), .int (nI n), .int (nI dr), .int (nI cr), .ref m2, .ref m3, .ref m4, .ref m5, .ref m6, .int (nI lm), .ref m7, .ref m8, .int (nI wm), .int (nI rd), .ref m9, .ref m10, .int (nI hd), .ref m11, .int (nI sc), .ref m12, .int (nI sdN), .int (dI kc), .int (nI dkM), .int (nI ksM), .ref m13, .ref m14, .ref m15, .ref m16, .ref m17, .long hz])), (m1, .inl (cI, 24, .inl lB)), (m2, .inl (cI, 7, .inl kB)), (m3, .inl (cI, 7, .inl hB)), (m4, .inl (cI, 7, .inl dB)), (m5, .inl (cI, 7, .inl bB)), (m6, .inl (cI, 7, .inl lfA)), (m7, .inl (cI, 7, .inl rwA)), (m8, .inl (cI, 7, .inl wlA)), (m9, .inl (cI, 49, .inl hvA)), (m10, .inl (cI, 7, .inl fdA)), (m11, .inl (cI, 128, .inl chA)), (m12, .inl (cI, 18, .inl sgA)), (m13, .inl (cI, 7, .inl kkB)), (m14, .inl (cI, 7, .inl hhB)), (m15, .inl (cI, 7, .inl ddB)), (m16, .inl (cI, 7, .inl bbB)), (m17, .inl (cI, 18, .inl sgB))] H := hP
  have hD9 : va_D A [(h5, .inr (5, [.ref m1, .int (nI 0), .int (nI n), .int (nI dr), .int (nI cr), .ref m2, .ref m3, .ref m4, .ref m5, .ref m6, .int (nI lm), .ref m7, .ref m8, .int (nI wm), .int (nI rd), .ref m9, .ref m10, .int (nI hd), .ref m11, .int (nI sc), .ref m12, .int (nI sdN), .int (dI kc), .int (nI dkM), .int (nI ksM), .ref m13, .ref m14, .ref m15, .ref m16, .ref m17, .long hz])), (m1, .inl (cI, 24, .inl lB)), (m2, .inl (cI, 7, .inl kB)), (m3, .inl (cI, 7, .inl hB)), (m4, .inl (cI, 7, .inl dB)), (m5, .inl (cI, 7, .inl bB)), (m6, .inl (cI, 7, .inl lfA)), (m7, .inl (cI, 7, .inl rwA)), (m8, .inl (cI, 7, .inl wlA)), (m9, .inl (cI, 49, .inl hvA)), (m10, .inl (cI, 7, .inl fdA)), (m11, .inl (cI, 128, .inl chA)), (m12, .inl (cI, 18, .inl sgA)), (m13, .inl (cI, 7, .inl kkB)), (m14, .inl (cI, 7, .inl hhB)), (m15, .inl (cI, 7, .inl ddB)), (m16, .inl (cI, 7, .inl bbB)), (m17, .inl (cI, 18, .inl sgB))] := hD
  exact W.iret (v := nI pl) hx hb hr (fun t9 ht9 hW9 => ⟨⟨nI pl, 0, rfl, ⟨rfl, rfl⟩, by rw [ht9]; exact hP9, va_K.moved hW9.alike hK, hD9⟩, hS.F ht9⟩) hS.2.2 dX5_blank_11

set_option maxHeartbeats 4000000 in
set_option maxRecDepth 100000 in
theorem KX5_kindBy (l : Launch) (dC : Nat → ClassId) (dI0 : Nat → Nat → Nat) (cI cZ : ClassId) (sz : Nat) (x : Nat) (hx8 : x < 128) : Met l yX5_kindBy wsX5_kindBy ({ frames := 0, cells := 0, slots := 0, locals := 0 } : Room) (va_Pc [.int (nI x)] (fun U => U.heap.size = sz ∧ va_P (dC, dI0) vwCl (WE0 cI cZ ) U.heap ∧ va_K (dC, dI0) vwCl [(cI, .int), (cZ, .boolean)] U ∧ va_D (fun _ => True) (WE0 cI cZ ))) (va_Qi (fun (r : Int32) (u : Unit) => r = dI (kcS x)) (fun (u : Unit) (t : State) => va_P (dC, dI0) vwCl (WE0 cI cZ ) t.heap ∧ va_K (dC, dI0) vwCl [(cI, .int), (cZ, .boolean)] t ∧ va_D (va_A (WE0 cI cZ ) sz) (WE0 cI cZ )) (va_A (WE0 cI cZ ) sz)) 0 0 (va_A (WE0 cI cZ ) sz) := by
  refine Met.ofW (cc := cX5_kindBy) (maxL := 1) (ret := (some .int)) (by decide) rfl ?_
  intro prg env s m args below meth c s₁ B hml hv
  obtain ⟨rfl, hsz, hP, hK, hD0⟩ := hv
  have hx := B.exec
  have hb := B.bytes
  have hr := B.returns
  have hts := atoms_spec (ws := wsX5_kindBy) B.pre
  have hown : s.vm.findClass RX5 = some m.cls := findClass_of_methodNamed B.named
  have hlocks := B.notSynchronized
  subst hsz
  have hD := hD0.self (sz := s.heap.size)
  generalize hAe : va_A (WE0 cI cZ ) s.heap.size = A at hD ⊢
  have hA : ∀ q : Nat, s.heap.size ≤ q → A q := fun q h => by rw [← hAe]; exact Or.inr h
  have hS : va_S A s.heap s.heap [] := va_S.rf
  have hP : va_P (dC, dI0) vwCl [] s.heap := hP
  have hD : va_D A [] := hD
  have hl := lv_entry ([.int (nI x)]) (n := 1) (Nat.le_of_ble_eq_true rfl)
  rw [lg_entry_eq]
  generalize (lg_sl ([.int (nI x)]) ++ List.replicate (1 - (lg_sl ([.int (nI x)])).length) Slot.unset).toArray = ls at hl ⊢
  have hl : lv_has ls 1 [(0, .int (nI x))] := hl
  obtain ⟨H, hH⟩ : ∃ H : Heap, H = s.heap := ⟨_, rfl⟩
  rw [← hH] at hP ⊢
  have hS : va_S A s.heap H [] := by rw [hH]; exact hS
  refine w_gen (fun Q hQ => ?_)
  refine lv_iload_n hx hb dX5_kindBy_0 rfl (lv_at hl 0 rfl) ?_
  have hsw : (nI x).toInt = (x : Nat) := nI_toInt (by omega)
  by_cases c1_101 : x = 101
  ·
    refine lv_tableIn (off := 77) (tgt := 78) hx hb dX5_kindBy_1 (by rw [hsw, c1_101]; decide) (by rw [hsw, c1_101]; decide) (by rw [hsw, c1_101]; rfl) (by decide) ?_
    refine lv_iconst (v := nI 1) hx hb dX5_kindBy_78 (by decide) ?_
    subst hQ
    have hP9 : va_P (dC, dI0) vwCl [] H := hP
    have hD9 : va_D A [] := hD
    exact W.iret (v := nI 1) hx hb hr (fun t9 ht9 hW9 => ⟨⟨nI 1, (), rfl, by rw [c1_101]; decide +kernel, by rw [ht9]; exact hP9, va_K.moved hW9.alike hK, hD9⟩, hS.F ht9⟩) hS.2.2 dX5_kindBy_79
  by_cases c1_102 : x = 102
  ·
    refine lv_tableIn (off := 85) (tgt := 86) hx hb dX5_kindBy_1 (by rw [hsw, c1_102]; decide) (by rw [hsw, c1_102]; decide) (by rw [hsw, c1_102]; rfl) (by decide) ?_
    refine lv_iconst (v := (-1)) hx hb dX5_kindBy_86 (by decide) ?_
    subst hQ
    have hP9 : va_P (dC, dI0) vwCl [] H := hP
    have hD9 : va_D A [] := hD
    exact W.iret (v := (-1)) hx hb hr (fun t9 ht9 hW9 => ⟨⟨(-1), (), rfl, by rw [c1_102]; decide +kernel, by rw [ht9]; exact hP9, va_K.moved hW9.alike hK, hD9⟩, hS.F ht9⟩) hS.2.2 dX5_kindBy_87
  by_cases c1_103 : x = 103
  ·
    refine lv_tableIn (off := 85) (tgt := 86) hx hb dX5_kindBy_1 (by rw [hsw, c1_103]; decide) (by rw [hsw, c1_103]; decide) (by rw [hsw, c1_103]; rfl) (by decide) ?_
    refine lv_iconst (v := (-1)) hx hb dX5_kindBy_86 (by decide) ?_
    subst hQ
    have hP9 : va_P (dC, dI0) vwCl [] H := hP
    have hD9 : va_D A [] := hD
    exact W.iret (v := (-1)) hx hb hr (fun t9 ht9 hW9 => ⟨⟨(-1), (), rfl, by rw [c1_103]; decide +kernel, by rw [ht9]; exact hP9, va_K.moved hW9.alike hK, hD9⟩, hS.F ht9⟩) hS.2.2 dX5_kindBy_87
  by_cases c1_104 : x = 104
  ·
    refine lv_tableIn (off := 85) (tgt := 86) hx hb dX5_kindBy_1 (by rw [hsw, c1_104]; decide) (by rw [hsw, c1_104]; decide) (by rw [hsw, c1_104]; rfl) (by decide) ?_
    refine lv_iconst (v := (-1)) hx hb dX5_kindBy_86 (by decide) ?_
    subst hQ
    have hP9 : va_P (dC, dI0) vwCl [] H := hP
    have hD9 : va_D A [] := hD
    exact W.iret (v := (-1)) hx hb hr (fun t9 ht9 hW9 => ⟨⟨(-1), (), rfl, by rw [c1_104]; decide +kernel, by rw [ht9]; exact hP9, va_K.moved hW9.alike hK, hD9⟩, hS.F ht9⟩) hS.2.2 dX5_kindBy_87
  by_cases c1_105 : x = 105
  ·
    refine lv_tableIn (off := 85) (tgt := 86) hx hb dX5_kindBy_1 (by rw [hsw, c1_105]; decide) (by rw [hsw, c1_105]; decide) (by rw [hsw, c1_105]; rfl) (by decide) ?_
    refine lv_iconst (v := (-1)) hx hb dX5_kindBy_86 (by decide) ?_
    subst hQ
    have hP9 : va_P (dC, dI0) vwCl [] H := hP
    have hD9 : va_D A [] := hD
    exact W.iret (v := (-1)) hx hb hr (fun t9 ht9 hW9 => ⟨⟨(-1), (), rfl, by rw [c1_105]; decide +kernel, by rw [ht9]; exact hP9, va_K.moved hW9.alike hK, hD9⟩, hS.F ht9⟩) hS.2.2 dX5_kindBy_87
  by_cases c1_106 : x = 106
  ·
    refine lv_tableIn (off := 85) (tgt := 86) hx hb dX5_kindBy_1 (by rw [hsw, c1_106]; decide) (by rw [hsw, c1_106]; decide) (by rw [hsw, c1_106]; rfl) (by decide) ?_
    refine lv_iconst (v := (-1)) hx hb dX5_kindBy_86 (by decide) ?_
    subst hQ
    have hP9 : va_P (dC, dI0) vwCl [] H := hP
    have hD9 : va_D A [] := hD
    exact W.iret (v := (-1)) hx hb hr (fun t9 ht9 hW9 => ⟨⟨(-1), (), rfl, by rw [c1_106]; decide +kernel, by rw [ht9]; exact hP9, va_K.moved hW9.alike hK, hD9⟩, hS.F ht9⟩) hS.2.2 dX5_kindBy_87
  by_cases c1_107 : x = 107
  ·
    refine lv_tableIn (off := 79) (tgt := 80) hx hb dX5_kindBy_1 (by rw [hsw, c1_107]; decide) (by rw [hsw, c1_107]; decide) (by rw [hsw, c1_107]; rfl) (by decide) ?_
    refine lv_iconst (v := nI 2) hx hb dX5_kindBy_80 (by decide) ?_
    subst hQ
    have hP9 : va_P (dC, dI0) vwCl [] H := hP
    have hD9 : va_D A [] := hD
    exact W.iret (v := nI 2) hx hb hr (fun t9 ht9 hW9 => ⟨⟨nI 2, (), rfl, by rw [c1_107]; decide +kernel, by rw [ht9]; exact hP9, va_K.moved hW9.alike hK, hD9⟩, hS.F ht9⟩) hS.2.2 dX5_kindBy_81
  by_cases c1_108 : x = 108
  ·
    refine lv_tableIn (off := 85) (tgt := 86) hx hb dX5_kindBy_1 (by rw [hsw, c1_108]; decide) (by rw [hsw, c1_108]; decide) (by rw [hsw, c1_108]; rfl) (by decide) ?_
    refine lv_iconst (v := (-1)) hx hb dX5_kindBy_86 (by decide) ?_
    subst hQ
    have hP9 : va_P (dC, dI0) vwCl [] H := hP
    have hD9 : va_D A [] := hD
    exact W.iret (v := (-1)) hx hb hr (fun t9 ht9 hW9 => ⟨⟨(-1), (), rfl, by rw [c1_108]; decide +kernel, by rw [ht9]; exact hP9, va_K.moved hW9.alike hK, hD9⟩, hS.F ht9⟩) hS.2.2 dX5_kindBy_87
  by_cases c1_109 : x = 109
  ·
    refine lv_tableIn (off := 85) (tgt := 86) hx hb dX5_kindBy_1 (by rw [hsw, c1_109]; decide) (by rw [hsw, c1_109]; decide) (by rw [hsw, c1_109]; rfl) (by decide) ?_
    refine lv_iconst (v := (-1)) hx hb dX5_kindBy_86 (by decide) ?_
    subst hQ
    have hP9 : va_P (dC, dI0) vwCl [] H := hP
    have hD9 : va_D A [] := hD
    exact W.iret (v := (-1)) hx hb hr (fun t9 ht9 hW9 => ⟨⟨(-1), (), rfl, by rw [c1_109]; decide +kernel, by rw [ht9]; exact hP9, va_K.moved hW9.alike hK, hD9⟩, hS.F ht9⟩) hS.2.2 dX5_kindBy_87
  by_cases c1_110 : x = 110
  ·
    refine lv_tableIn (off := 85) (tgt := 86) hx hb dX5_kindBy_1 (by rw [hsw, c1_110]; decide) (by rw [hsw, c1_110]; decide) (by rw [hsw, c1_110]; rfl) (by decide) ?_
    refine lv_iconst (v := (-1)) hx hb dX5_kindBy_86 (by decide) ?_
    subst hQ
    have hP9 : va_P (dC, dI0) vwCl [] H := hP
    have hD9 : va_D A [] := hD
    exact W.iret (v := (-1)) hx hb hr (fun t9 ht9 hW9 => ⟨⟨(-1), (), rfl, by rw [c1_110]; decide +kernel, by rw [ht9]; exact hP9, va_K.moved hW9.alike hK, hD9⟩, hS.F ht9⟩) hS.2.2 dX5_kindBy_87
  by_cases c1_111 : x = 111
  ·
    refine lv_tableIn (off := 85) (tgt := 86) hx hb dX5_kindBy_1 (by rw [hsw, c1_111]; decide) (by rw [hsw, c1_111]; decide) (by rw [hsw, c1_111]; rfl) (by decide) ?_
    refine lv_iconst (v := (-1)) hx hb dX5_kindBy_86 (by decide) ?_
    subst hQ
    have hP9 : va_P (dC, dI0) vwCl [] H := hP
    have hD9 : va_D A [] := hD
    exact W.iret (v := (-1)) hx hb hr (fun t9 ht9 hW9 => ⟨⟨(-1), (), rfl, by rw [c1_111]; decide +kernel, by rw [ht9]; exact hP9, va_K.moved hW9.alike hK, hD9⟩, hS.F ht9⟩) hS.2.2 dX5_kindBy_87
  by_cases c1_112 : x = 112
  ·
    refine lv_tableIn (off := 75) (tgt := 76) hx hb dX5_kindBy_1 (by rw [hsw, c1_112]; decide) (by rw [hsw, c1_112]; decide) (by rw [hsw, c1_112]; rfl) (by decide) ?_
    refine lv_iconst (v := nI 0) hx hb dX5_kindBy_76 (by decide) ?_
    subst hQ
    have hP9 : va_P (dC, dI0) vwCl [] H := hP
    have hD9 : va_D A [] := hD
    exact W.iret (v := nI 0) hx hb hr (fun t9 ht9 hW9 => ⟨⟨nI 0, (), rfl, by rw [c1_112]; decide +kernel, by rw [ht9]; exact hP9, va_K.moved hW9.alike hK, hD9⟩, hS.F ht9⟩) hS.2.2 dX5_kindBy_77
  by_cases c1_113 : x = 113
  ·
    refine lv_tableIn (off := 85) (tgt := 86) hx hb dX5_kindBy_1 (by rw [hsw, c1_113]; decide) (by rw [hsw, c1_113]; decide) (by rw [hsw, c1_113]; rfl) (by decide) ?_
    refine lv_iconst (v := (-1)) hx hb dX5_kindBy_86 (by decide) ?_
    subst hQ
    have hP9 : va_P (dC, dI0) vwCl [] H := hP
    have hD9 : va_D A [] := hD
    exact W.iret (v := (-1)) hx hb hr (fun t9 ht9 hW9 => ⟨⟨(-1), (), rfl, by rw [c1_113]; decide +kernel, by rw [ht9]; exact hP9, va_K.moved hW9.alike hK, hD9⟩, hS.F ht9⟩) hS.2.2 dX5_kindBy_87
  by_cases c1_114 : x = 114
  ·
    refine lv_tableIn (off := 83) (tgt := 84) hx hb dX5_kindBy_1 (by rw [hsw, c1_114]; decide) (by rw [hsw, c1_114]; decide) (by rw [hsw, c1_114]; rfl) (by decide) ?_
    refine lv_iconst (v := nI 4) hx hb dX5_kindBy_84 (by decide) ?_
    subst hQ
    have hP9 : va_P (dC, dI0) vwCl [] H := hP
    have hD9 : va_D A [] := hD
    exact W.iret (v := nI 4) hx hb hr (fun t9 ht9 hW9 => ⟨⟨nI 4, (), rfl, by rw [c1_114]; decide +kernel, by rw [ht9]; exact hP9, va_K.moved hW9.alike hK, hD9⟩, hS.F ht9⟩) hS.2.2 dX5_kindBy_85
  by_cases c1_115 : x = 115
  ·
    refine lv_tableIn (off := 81) (tgt := 82) hx hb dX5_kindBy_1 (by rw [hsw, c1_115]; decide) (by rw [hsw, c1_115]; decide) (by rw [hsw, c1_115]; rfl) (by decide) ?_
    refine lv_iconst (v := nI 3) hx hb dX5_kindBy_82 (by decide) ?_
    subst hQ
    have hP9 : va_P (dC, dI0) vwCl [] H := hP
    have hD9 : va_D A [] := hD
    exact W.iret (v := nI 3) hx hb hr (fun t9 ht9 hW9 => ⟨⟨nI 3, (), rfl, by rw [c1_115]; decide +kernel, by rw [ht9]; exact hP9, va_K.moved hW9.alike hK, hD9⟩, hS.F ht9⟩) hS.2.2 dX5_kindBy_83
  refine lv_tableOut (tgt := 86) hx hb dX5_kindBy_1 (by rw [hsw]; omega) (by decide) ?_
  refine lv_iconst (v := (-1)) hx hb dX5_kindBy_86 (by decide) ?_
  subst hQ
  have hP9 : va_P (dC, dI0) vwCl [] H := hP
  have hD9 : va_D A [] := hD
  exact W.iret (v := (-1)) hx hb hr (fun t9 ht9 hW9 => ⟨⟨(-1), (), rfl, by rw [kcS_out (by omega)]; rfl, by rw [ht9]; exact hP9, va_K.moved hW9.alike hK, hD9⟩, hS.F ht9⟩) hS.2.2 dX5_kindBy_87

set_option maxHeartbeats 4000000 in
set_option maxRecDepth 100000 in
theorem KX5_isGood (l : Launch) (dC : Nat → ClassId) (dI0 : Nat → Nat → Nat) (cI cZ : ClassId) (h5 : Nat) (m1 : Nat) (m2 : Nat) (m3 : Nat) (m4 : Nat) (m5 : Nat) (m6 : Nat) (m7 : Nat) (m8 : Nat) (m9 : Nat) (m10 : Nat) (m11 : Nat) (m12 : Nat) (m13 : Nat) (m14 : Nat) (m15 : Nat) (m16 : Nat) (m17 : Nat) (pl : Nat) (n : Nat) (dr : Nat) (cr : Nat) (lm : Nat) (wm : Nat) (rd : Nat) (hd : Nat) (sc : Nat) (sdN : Nat) (kc : Option Nat) (dkM : Nat) (ksM : Nat) (hz : Int64) (lB : Nat → Int32) (kB : Nat → Int32) (hB : Nat → Int32) (dB : Nat → Int32) (bB : Nat → Int32) (lfA : Nat → Int32) (rwA : Nat → Int32) (wlA : Nat → Int32) (hvA : Nat → Int32) (fdA : Nat → Int32) (chA : Nat → Int32) (sgA : Nat → Int32) (kkB : Nat → Int32) (hhB : Nat → Int32) (ddB : Nat → Int32) (bbB : Nat → Int32) (sgB : Nat → Int32) (sz : Nat) (le : Nat → Nat) (i : Nat) (hPg : PgR pl lB le) (hi : i < pl) : Met l yX5_isGood wsX5_isGood ({ frames := 1, cells := 0, slots := 0, locals := 25 } : Room) (va_Pc [.ref h5, .int (nI i)] (fun U => U.heap.size = sz ∧ va_P (dC, dI0) vwCl (WM cI cZ h5 m1 m2 m3 m4 m5 m6 m7 m8 m9 m10 m11 m12 m13 m14 m15 m16 m17 pl n dr cr lm wm rd hd sc sdN kc dkM ksM hz lB kB hB dB bB lfA rwA wlA hvA fdA chA sgA kkB hhB ddB bbB sgB) U.heap ∧ va_K (dC, dI0) vwCl [(cI, .int), (cZ, .boolean)] U ∧ va_D (fun _ => True) (WM cI cZ h5 m1 m2 m3 m4 m5 m6 m7 m8 m9 m10 m11 m12 m13 m14 m15 m16 m17 pl n dr cr lm wm rd hd sc sdN kc dkM ksM hz lB kB hB dB bB lfA rwA wlA hvA fdA chA sgA kkB hhB ddB bbB sgB))) (va_Qi (fun (r : Int32) (u : Unit) => r = bI (igS le i)) (fun (u : Unit) (t : State) => va_P (dC, dI0) vwCl (WM cI cZ h5 m1 m2 m3 m4 m5 m6 m7 m8 m9 m10 m11 m12 m13 m14 m15 m16 m17 pl n dr cr lm wm rd hd sc sdN kc dkM ksM hz lB kB hB dB bB lfA rwA wlA hvA fdA chA sgA kkB hhB ddB bbB sgB) t.heap ∧ va_K (dC, dI0) vwCl [(cI, .int), (cZ, .boolean)] t ∧ va_D (va_A (WM cI cZ h5 m1 m2 m3 m4 m5 m6 m7 m8 m9 m10 m11 m12 m13 m14 m15 m16 m17 pl n dr cr lm wm rd hd sc sdN kc dkM ksM hz lB kB hB dB bB lfA rwA wlA hvA fdA chA sgA kkB hhB ddB bbB sgB) sz) (WM cI cZ h5 m1 m2 m3 m4 m5 m6 m7 m8 m9 m10 m11 m12 m13 m14 m15 m16 m17 pl n dr cr lm wm rd hd sc sdN kc dkM ksM hz lB kB hB dB bB lfA rwA wlA hvA fdA chA sgA kkB hhB ddB bbB sgB)) (va_A (WM cI cZ h5 m1 m2 m3 m4 m5 m6 m7 m8 m9 m10 m11 m12 m13 m14 m15 m16 m17 pl n dr cr lm wm rd hd sc sdN kc dkM ksM hz lB kB hB dB bB lfA rwA wlA hvA fdA chA sgA kkB hhB ddB bbB sgB) sz)) 0 0 (va_A (WM cI cZ h5 m1 m2 m3 m4 m5 m6 m7 m8 m9 m10 m11 m12 m13 m14 m15 m16 m17 pl n dr cr lm wm rd hd sc sdN kc dkM ksM hz lB kB hB dB bB lfA rwA wlA hvA fdA chA sgA kkB hhB ddB bbB sgB) sz) := by
  refine Met.ofW (cc := cX5_isGood) (maxL := 3) (ret := (some .boolean)) (by decide) rfl ?_
  intro prg env s m args below meth c s₁ B hml hv
  obtain ⟨rfl, hsz, hP, hK, hD0⟩ := hv
  have hx := B.exec
  have hb := B.bytes
  have hr := B.returns
  have hts := atoms_spec (ws := wsX5_isGood) B.pre
  have hown : s.vm.findClass RX5 = some m.cls := findClass_of_methodNamed B.named
  have hlocks := B.notSynchronized
  subst hsz
  have hD := hD0.self (sz := s.heap.size)
  generalize hAe : va_A (WM cI cZ h5 m1 m2 m3 m4 m5 m6 m7 m8 m9 m10 m11 m12 m13 m14 m15 m16 m17 pl n dr cr lm wm rd hd sc sdN kc dkM ksM hz lB kB hB dB bB lfA rwA wlA hvA fdA chA sgA kkB hhB ddB bbB sgB) s.heap.size = A at hD ⊢
  have hA : ∀ q : Nat, s.heap.size ≤ q → A q := fun q h => by rw [← hAe]; exact Or.inr h
  have hS : va_S A s.heap s.heap [] := va_S.rf
  have hP : va_P (dC, dI0) vwCl [(h5, .inr (5, [.ref m1, .int (nI pl), .int (nI n), .int (nI dr), .int (nI cr), .ref m2, .ref m3, .ref m4, .ref m5, .ref m6, .int (nI lm), .ref m7, .ref m8, .int (nI wm), .int (nI rd), .ref m9, .ref m10, .int (nI hd), .ref m11, .int (nI sc), .ref m12, .int (nI sdN), .int (dI kc), .int (nI dkM), .int (nI ksM), .ref m13, .ref m14, .ref m15, .ref m16, .ref m17, .long hz])), (m1, .inl (cI, 24, .inl lB)), (m2, .inl (cI, 7, .inl kB)), (m3, .inl (cI, 7, .inl hB)), (m4, .inl (cI, 7, .inl dB)), (m5, .inl (cI, 7, .inl bB)), (m6, .inl (cI, 7, .inl lfA)), (m7, .inl (cI, 7, .inl rwA)), (m8, .inl (cI, 7, .inl wlA)), (m9, .inl (cI, 49, .inl hvA)), (m10, .inl (cI, 7, .inl fdA)), (m11, .inl (cI, 128, .inl chA)), (m12, .inl (cI, 18, .inl sgA)), (m13, .inl (cI, 7, .inl kkB)), (m14, .inl (cI, 7, .inl hhB)), (m15, .inl (cI, 7, .inl ddB)), (m16, .inl (cI, 7, .inl bbB)), (m17, .inl (cI, 18, .inl sgB))] s.heap := hP
  have hD : va_D A [(h5, .inr (5, [.ref m1, .int (nI pl), .int (nI n), .int (nI dr), .int (nI cr), .ref m2, .ref m3, .ref m4, .ref m5, .ref m6, .int (nI lm), .ref m7, .ref m8, .int (nI wm), .int (nI rd), .ref m9, .ref m10, .int (nI hd), .ref m11, .int (nI sc), .ref m12, .int (nI sdN), .int (dI kc), .int (nI dkM), .int (nI ksM), .ref m13, .ref m14, .ref m15, .ref m16, .ref m17, .long hz])), (m1, .inl (cI, 24, .inl lB)), (m2, .inl (cI, 7, .inl kB)), (m3, .inl (cI, 7, .inl hB)), (m4, .inl (cI, 7, .inl dB)), (m5, .inl (cI, 7, .inl bB)), (m6, .inl (cI, 7, .inl lfA)), (m7, .inl (cI, 7, .inl rwA)), (m8, .inl (cI, 7, .inl wlA)), (m9, .inl (cI, 49, .inl hvA)), (m10, .inl (cI, 7, .inl fdA)), (m11, .inl (cI, 128, .inl chA)), (m12, .inl (cI, 18, .inl sgA)), (m13, .inl (cI, 7, .inl kkB)), (m14, .inl (cI, 7, .inl hhB)), (m15, .inl (cI, 7, .inl ddB)), (m16, .inl (cI, 7, .inl bbB)), (m17, .inl (cI, 18, .inl sgB))] := hD
  have hl := lv_entry ([.ref h5, .int (nI i)]) (n := 3) (Nat.le_of_ble_eq_true rfl)
  rw [lg_entry_eq]
  generalize (lg_sl ([.ref h5, .int (nI i)]) ++ List.replicate (3 - (lg_sl ([.ref h5, .int (nI i)])).length) Slot.unset).toArray = ls at hl ⊢
  have hl : lv_has ls 3 [(0, .ref h5), (1, .int (nI i))] := hl
  obtain ⟨H, hH⟩ : ∃ H : Heap, H = s.heap := ⟨_, rfl⟩
  rw [← hH] at hP ⊢
  have hS : va_S A s.heap H [] := by rw [hH]; exact hS
  refine w_gen (fun Q hQ => ?_)
  have hin_X5 : ∀ w ∈ wsX50, w ∈ wsX5_isGood := by decide +kernel
  have hf7 := hts (.fieldLink RX5 7 "HatNamesModel" "page" "[I") (by decide +kernel)
  have hk78 := hts (.constantLong RX5 78 (48)) (by decide +kernel)
  have hk80 := hts (.constantLong RX5 80 (57)) (by decide +kernel)
  obtain ⟨hpl, hle⟩ := id hPg
  refine lv_aload_n hx hb dX5_isGood_0 rfl (lv_at hl 0 rfl) ?_
  refine va_get (D := (dC, dI0)) (ci := 5) (v := .ref m1) (C := RX5) (T := TX5) (N := 31) hx hb hts hin_X5 hown hK hP 0 rfl rfl 0 (by decide) hf7 (fun _ h9 => h9) rfl dX5_isGood_1 ?_
  refine lv_iload_n hx hb dX5_isGood_4 rfl (lv_at hl 1 rfl) ?_
  refine va_iald hx hb hK hP 1 0 rfl rfl (vp_in_nI (by omega) (by decide)) dX5_isGood_5 ?_
  refine lv_topi (fun x5 e5 => ?_)
  rw [nI_clamp (n := i) (by omega)] at e5
  have hle7 := (hle i (by omega)).2
  obtain rfl : x5 = nI (le i) := e5.trans (hle i (by omega)).1
  refine lv_istore_n (lv' := [(2, .int (nI (le i))), (0, .ref h5), (1, .int (nI i))]) hx hb dX5_isGood_6 rfl hl (by decide) rfl (fun ls hl => ?_)
  refine lv_iload_n hx hb dX5_isGood_7 rfl (lv_at hl 2 rfl) ?_
  refine lv_iconst (v := nI 3) hx hb dX5_isGood_8 (by decide) ?_
  refine lv_irem hx hb dX5_isGood_9 (by decide) ?_
  refine lv_topi (fun x9 e9 => ?_)
  obtain rfl : x9 = nI (i % 3) := e9.trans (pk_rem (by omega) (by omega) (by omega))
  have hsw : (nI (i % 3)).toInt = ((i % 3) : Nat) := nI_toInt (by omega)
  by_cases c10_0 : (i % 3) = 0
  ·
    refine lv_lookup (off := 26) (tgt := 36) hx hb dX5_isGood_10 (by decide) (by rw [hsw, c10_0]; rfl) (by decide) ?_
    refine lv_iload_n hx hb dX5_isGood_36 rfl (lv_at hl 0 rfl) ?_
    have hPc := hP.sub (ws' := []) [] rfl
    have hDc := hD.sub (ws' := []) [] (by decide) rfl
    have hFc := va_free (wc := []) hD hS hA [] rfl
    refine va_calli (va_runS (As := [.int (nI (le i))]) (rest := []) ⟨hx, hb, hml, hown, hts⟩ (KX5_kindBy l dC dI0 cI cZ  H.size (le i) (by first | assumption | omega)) (va_cwS 1 hts gX5_isGood_X5_kindBy rfl rfl rfl (by decide +kernel) ⟨Nat.le_of_ble_eq_true rfl, Nat.le_of_ble_eq_true rfl⟩) ⟨fun a U g mk q => by obtain ⟨q0, q1, qP, qK, qD⟩ := q; exact ⟨q0, q1, qP, va_K.moved (u := U) (U := U.calling g mk a) (Vm.Alike.refl U.vm) qK, qD⟩, fun U hU hW => ⟨rfl, by rw [hU], by rw [hU]; exact hPc, va_K.moved hW.alike hK, hDc.weaken (fun _ _ _ _ => trivial)⟩⟩ rfl rfl hl.1 rfl (lv_room (Nat.le_of_ble_eq_true rfl)) dX5_isGood_37 ⟨Nat.le_of_ble_eq_true rfl, Nat.le_of_ble_eq_true rfl⟩) hS (fun q _ h => hFc q h) hFc (fun r37 u37 t7 H1 locs ht7 hvm7 hw37 hB hz1 hk1 hS => ?_)
    obtain ⟨hP1, hK1, hD1⟩ := hB
    rw [ht7] at hP1
    try dsimp only at hw37 hP1 hD1
    obtain ⟨hP, hD⟩ := va_join (wr := [(h5, .inr (5, [.ref m1, .int (nI pl), .int (nI n), .int (nI dr), .int (nI cr), .ref m2, .ref m3, .ref m4, .ref m5, .ref m6, .int (nI lm), .ref m7, .ref m8, .int (nI wm), .int (nI rd), .ref m9, .ref m10, .int (nI hd), .ref m11, .int (nI sc), .ref m12, .int (nI sdN), .int (dI kc), .int (nI dkM), .int (nI ksM), .ref m13, .ref m14, .ref m15, .ref m16, .ref m17, .long hz])), (m1, .inl (cI, 24, .inl lB)), (m2, .inl (cI, 7, .inl kB)), (m3, .inl (cI, 7, .inl hB)), (m4, .inl (cI, 7, .inl dB)), (m5, .inl (cI, 7, .inl bB)), (m6, .inl (cI, 7, .inl lfA)), (m7, .inl (cI, 7, .inl rwA)), (m8, .inl (cI, 7, .inl wlA)), (m9, .inl (cI, 49, .inl hvA)), (m10, .inl (cI, 7, .inl fdA)), (m11, .inl (cI, 128, .inl chA)), (m12, .inl (cI, 18, .inl sgA)), (m13, .inl (cI, 7, .inl kkB)), (m14, .inl (cI, 7, .inl hhB)), (m15, .inl (cI, 7, .inl ddB)), (m16, .inl (cI, 7, .inl bbB)), (m17, .inl (cI, 18, .inl sgB))]) (w1 := []) hP hD [] [0, 1, 2, 3, 4, 5, 6, 7, 8, 9, 10, 11, 12, 13, 14, 15, 16, 17] rfl rfl (by decide) (by decide) hk1 hFc hP1 hD1
    generalize H1 = H at hP hS ⊢
    have hP := hP.sub (ws' := [(h5, .inr (5, [.ref m1, .int (nI pl), .int (nI n), .int (nI dr), .int (nI cr), .ref m2, .ref m3, .ref m4, .ref m5, .ref m6, .int (nI lm), .ref m7, .ref m8, .int (nI wm), .int (nI rd), .ref m9, .ref m10, .int (nI hd), .ref m11, .int (nI sc), .ref m12, .int (nI sdN), .int (dI kc), .int (nI dkM), .int (nI ksM), .ref m13, .ref m14, .ref m15, .ref m16, .ref m17, .long hz])), (m1, .inl (cI, 24, .inl lB)), (m2, .inl (cI, 7, .inl kB)), (m3, .inl (cI, 7, .inl hB)), (m4, .inl (cI, 7, .inl dB)), (m5, .inl (cI, 7, .inl bB)), (m6, .inl (cI, 7, .inl lfA)), (m7, .inl (cI, 7, .inl rwA)), (m8, .inl (cI, 7, .inl wlA)), (m9, .inl (cI, 49, .inl hvA)), (m10, .inl (cI, 7, .inl fdA)), (m11, .inl (cI, 128, .inl chA)), (m12, .inl (cI, 18, .inl sgA)), (m13, .inl (cI, 7, .inl kkB)), (m14, .inl (cI, 7, .inl hhB)), (m15, .inl (cI, 7, .inl ddB)), (m16, .inl (cI, 7, .inl bbB)), (m17, .inl (cI, 18, .inl sgB))]) [0, 1, 2, 3, 4, 5, 6, 7, 8, 9, 10, 11, 12, 13, 14, 15, 16, 17] rfl
    have hD := hD.sub (ws' := [(h5, .inr (5, [.ref m1, .int (nI pl), .int (nI n), .int (nI dr), .int (nI cr), .ref m2, .ref m3, .ref m4, .ref m5, .ref m6, .int (nI lm), .ref m7, .ref m8, .int (nI wm), .int (nI rd), .ref m9, .ref m10, .int (nI hd), .ref m11, .int (nI sc), .ref m12, .int (nI sdN), .int (dI kc), .int (nI dkM), .int (nI ksM), .ref m13, .ref m14, .ref m15, .ref m16, .ref m17, .long hz])), (m1, .inl (cI, 24, .inl lB)), (m2, .inl (cI, 7, .inl kB)), (m3, .inl (cI, 7, .inl hB)), (m4, .inl (cI, 7, .inl dB)), (m5, .inl (cI, 7, .inl bB)), (m6, .inl (cI, 7, .inl lfA)), (m7, .inl (cI, 7, .inl rwA)), (m8, .inl (cI, 7, .inl wlA)), (m9, .inl (cI, 49, .inl hvA)), (m10, .inl (cI, 7, .inl fdA)), (m11, .inl (cI, 128, .inl chA)), (m12, .inl (cI, 18, .inl sgA)), (m13, .inl (cI, 7, .inl kkB)), (m14, .inl (cI, 7, .inl hhB)), (m15, .inl (cI, 7, .inl ddB)), (m16, .inl (cI, 7, .inl bbB)), (m17, .inl (cI, 18, .inl sgB))]) [0, 1, 2, 3, 4, 5, 6, 7, 8, 9, 10, 11, 12, 13, 14, 15, 16, 17] (by decide) rfl
    obtain rfl : r37 = dI (kcS (le i)) := hw37
    have hob : ∀ z, kcS (le i) = some z → z < 7 := fun z hz => Nat.lt_of_lt_of_le (kcS_lt _ z hz) (by decide)
    refine lv_iconst (v := (-1)) hx hb dX5_isGood_40 (by decide) ?_
    refine lv_icmp_eq (tgt := 48) hx hb dX5_isGood_41 (by decide) (fun c41 => ?_) (fun c41 => ?_)
    ·
      have c41 : (kcS (le i)) = none := dI_none c41 (by assumption)
      refine lv_iconst (v := nI 0) hx hb dX5_isGood_48 (by decide) ?_
      subst hQ
      have hP9 : va_P (dC, dI0) vwCl [(h5, .inr (5, [.ref m1, .int (nI pl), .int (nI n), .int (nI dr), .int (nI cr), .ref m2, .ref m3, .ref m4, .ref m5, .ref m6, .int (nI lm), .ref m7, .ref m8, .int (nI wm), .int (nI rd), .ref m9, .ref m10, .int (nI hd), .ref m11, .int (nI sc), .ref m12, .int (nI sdN), .int (dI kc), .int (nI dkM), .int (nI ksM), .ref m13, .ref m14, .ref m15, .ref m16, .ref m17, .long hz])), (m1, .inl (cI, 24, .inl lB)), (m2, .inl (cI, 7, .inl kB)), (m3, .inl (cI, 7, .inl hB)), (m4, .inl (cI, 7, .inl dB)), (m5, .inl (cI, 7, .inl bB)), (m6, .inl (cI, 7, .inl lfA)), (m7, .inl (cI, 7, .inl rwA)), (m8, .inl (cI, 7, .inl wlA)), (m9, .inl (cI, 49, .inl hvA)), (m10, .inl (cI, 7, .inl fdA)), (m11, .inl (cI, 128, .inl chA)), (m12, .inl (cI, 18, .inl sgA)), (m13, .inl (cI, 7, .inl kkB)), (m14, .inl (cI, 7, .inl hhB)), (m15, .inl (cI, 7, .inl ddB)), (m16, .inl (cI, 7, .inl bbB)), (m17, .inl (cI, 18, .inl sgB))] H := hP
      have hD9 : va_D A [(h5, .inr (5, [.ref m1, .int (nI pl), .int (nI n), .int (nI dr), .int (nI cr), .ref m2, .ref m3, .ref m4, .ref m5, .ref m6, .int (nI lm), .ref m7, .ref m8, .int (nI wm), .int (nI rd), .ref m9, .ref m10, .int (nI hd), .ref m11, .int (nI sc), .ref m12, .int (nI sdN), .int (dI kc), .int (nI dkM), .int (nI ksM), .ref m13, .ref m14, .ref m15, .ref m16, .ref m17, .long hz])), (m1, .inl (cI, 24, .inl lB)), (m2, .inl (cI, 7, .inl kB)), (m3, .inl (cI, 7, .inl hB)), (m4, .inl (cI, 7, .inl dB)), (m5, .inl (cI, 7, .inl bB)), (m6, .inl (cI, 7, .inl lfA)), (m7, .inl (cI, 7, .inl rwA)), (m8, .inl (cI, 7, .inl wlA)), (m9, .inl (cI, 49, .inl hvA)), (m10, .inl (cI, 7, .inl fdA)), (m11, .inl (cI, 128, .inl chA)), (m12, .inl (cI, 18, .inl sgA)), (m13, .inl (cI, 7, .inl kkB)), (m14, .inl (cI, 7, .inl hhB)), (m15, .inl (cI, 7, .inl ddB)), (m16, .inl (cI, 7, .inl bbB)), (m17, .inl (cI, 18, .inl sgB))] := hD
      exact W.zret (v := nI 0) hx hb hr (nar_z false) (fun t9 ht9 hW9 => ⟨⟨nI 0, (), rfl, bI_2 (by rw [igS, if_pos c10_0, c41]; rfl), by rw [ht9]; exact hP9, va_K.moved hW9.alike hK, hD9⟩, hS.F ht9⟩) hS.2.2 dX5_isGood_49
    have c41 : ¬ (kcS (le i)) = none := fun z => c41 (by rw [z]; rfl)
    refine lv_iconst (v := nI 1) hx hb dX5_isGood_44 (by decide) ?_
    refine lv_goto (tgt := 49) hx hb dX5_isGood_45 (by decide) ?_
    subst hQ
    have hP9 : va_P (dC, dI0) vwCl [(h5, .inr (5, [.ref m1, .int (nI pl), .int (nI n), .int (nI dr), .int (nI cr), .ref m2, .ref m3, .ref m4, .ref m5, .ref m6, .int (nI lm), .ref m7, .ref m8, .int (nI wm), .int (nI rd), .ref m9, .ref m10, .int (nI hd), .ref m11, .int (nI sc), .ref m12, .int (nI sdN), .int (dI kc), .int (nI dkM), .int (nI ksM), .ref m13, .ref m14, .ref m15, .ref m16, .ref m17, .long hz])), (m1, .inl (cI, 24, .inl lB)), (m2, .inl (cI, 7, .inl kB)), (m3, .inl (cI, 7, .inl hB)), (m4, .inl (cI, 7, .inl dB)), (m5, .inl (cI, 7, .inl bB)), (m6, .inl (cI, 7, .inl lfA)), (m7, .inl (cI, 7, .inl rwA)), (m8, .inl (cI, 7, .inl wlA)), (m9, .inl (cI, 49, .inl hvA)), (m10, .inl (cI, 7, .inl fdA)), (m11, .inl (cI, 128, .inl chA)), (m12, .inl (cI, 18, .inl sgA)), (m13, .inl (cI, 7, .inl kkB)), (m14, .inl (cI, 7, .inl hhB)), (m15, .inl (cI, 7, .inl ddB)), (m16, .inl (cI, 7, .inl bbB)), (m17, .inl (cI, 18, .inl sgB))] H := hP
    have hD9 : va_D A [(h5, .inr (5, [.ref m1, .int (nI pl), .int (nI n), .int (nI dr), .int (nI cr), .ref m2, .ref m3, .ref m4, .ref m5, .ref m6, .int (nI lm), .ref m7, .ref m8, .int (nI wm), .int (nI rd), .ref m9, .ref m10, .int (nI hd), .ref m11, .int (nI sc), .ref m12, .int (nI sdN), .int (dI kc), .int (nI dkM), .int (nI ksM), .ref m13, .ref m14, .ref m15, .ref m16, .ref m17, .long hz])), (m1, .inl (cI, 24, .inl lB)), (m2, .inl (cI, 7, .inl kB)), (m3, .inl (cI, 7, .inl hB)), (m4, .inl (cI, 7, .inl dB)), (m5, .inl (cI, 7, .inl bB)), (m6, .inl (cI, 7, .inl lfA)), (m7, .inl (cI, 7, .inl rwA)), (m8, .inl (cI, 7, .inl wlA)), (m9, .inl (cI, 49, .inl hvA)), (m10, .inl (cI, 7, .inl fdA)), (m11, .inl (cI, 128, .inl chA)), (m12, .inl (cI, 18, .inl sgA)), (m13, .inl (cI, 7, .inl kkB)), (m14, .inl (cI, 7, .inl hhB)), (m15, .inl (cI, 7, .inl ddB)), (m16, .inl (cI, 7, .inl bbB)), (m17, .inl (cI, 18, .inl sgB))] := hD
    exact W.zret (v := nI 1) hx hb hr (nar_z true) (fun t9 ht9 hW9 => ⟨⟨nI 1, (), rfl, bI_1 (by rw [igS, if_pos c10_0]; exact Option.isSome_iff_ne_none.mpr c41), by rw [ht9]; exact hP9, va_K.moved hW9.alike hK, hD9⟩, hS.F ht9⟩) hS.2.2 dX5_isGood_49
  by_cases c10_1 : (i % 3) = 1
  ·
    refine lv_lookup (off := 40) (tgt := 50) hx hb dX5_isGood_10 (by decide) (by rw [hsw, c10_1]; rfl) (by decide) ?_
    refine lv_iload_n hx hb dX5_isGood_50 rfl (lv_at hl 0 rfl) ?_
    refine lv_i2l (v := (nI (le i)).toInt64) hx hb dX5_isGood_51 rfl ?_
    refine lv_ldc2 (v := 48) hx hb hown hk78 dX5_isGood_52 ?_
    refine lv_ldc2 (v := 57) hx hb hown hk80 dX5_isGood_55 ?_
    have hPc := hP.sub (ws' := []) [] rfl
    have hDc := hD.sub (ws' := []) [] (by decide) rfl
    have hFc := va_free (wc := []) hD hS hA [] rfl
    refine va_calli (va_runS (As := [.long ((nI (le i)).toInt64), .long (48 : Int64), .long (57 : Int64)]) (rest := []) ⟨hx, hb, hml, hown, hts⟩ (KX5_in l dC dI0 cI cZ  H.size ((nI (le i)).toInt64) (48 : Int64) (57 : Int64)) (va_cwS 3 hts gX5_isGood_X5_in rfl rfl rfl (by decide +kernel) ⟨Nat.le_of_ble_eq_true rfl, Nat.le_of_ble_eq_true rfl⟩) ⟨fun a U g mk q => by obtain ⟨q0, q1, qP, qK, qD⟩ := q; exact ⟨q0, q1, qP, va_K.moved (u := U) (U := U.calling g mk a) (Vm.Alike.refl U.vm) qK, qD⟩, fun U hU hW => ⟨rfl, by rw [hU], by rw [hU]; exact hPc, va_K.moved hW.alike hK, hDc.weaken (fun _ _ _ _ => trivial)⟩⟩ rfl rfl hl.1 rfl (lv_room (Nat.le_of_ble_eq_true rfl)) dX5_isGood_58 ⟨Nat.le_of_ble_eq_true rfl, Nat.le_of_ble_eq_true rfl⟩) hS (fun q _ h => hFc q h) hFc (fun r58 u58 t7 H1 locs ht7 hvm7 hw58 hB hz1 hk1 hS => ?_)
    obtain ⟨hP1, hK1, hD1⟩ := hB
    rw [ht7] at hP1
    try dsimp only at hw58 hP1 hD1
    obtain ⟨hP, hD⟩ := va_join (wr := [(h5, .inr (5, [.ref m1, .int (nI pl), .int (nI n), .int (nI dr), .int (nI cr), .ref m2, .ref m3, .ref m4, .ref m5, .ref m6, .int (nI lm), .ref m7, .ref m8, .int (nI wm), .int (nI rd), .ref m9, .ref m10, .int (nI hd), .ref m11, .int (nI sc), .ref m12, .int (nI sdN), .int (dI kc), .int (nI dkM), .int (nI ksM), .ref m13, .ref m14, .ref m15, .ref m16, .ref m17, .long hz])), (m1, .inl (cI, 24, .inl lB)), (m2, .inl (cI, 7, .inl kB)), (m3, .inl (cI, 7, .inl hB)), (m4, .inl (cI, 7, .inl dB)), (m5, .inl (cI, 7, .inl bB)), (m6, .inl (cI, 7, .inl lfA)), (m7, .inl (cI, 7, .inl rwA)), (m8, .inl (cI, 7, .inl wlA)), (m9, .inl (cI, 49, .inl hvA)), (m10, .inl (cI, 7, .inl fdA)), (m11, .inl (cI, 128, .inl chA)), (m12, .inl (cI, 18, .inl sgA)), (m13, .inl (cI, 7, .inl kkB)), (m14, .inl (cI, 7, .inl hhB)), (m15, .inl (cI, 7, .inl ddB)), (m16, .inl (cI, 7, .inl bbB)), (m17, .inl (cI, 18, .inl sgB))]) (w1 := []) hP hD [] [0, 1, 2, 3, 4, 5, 6, 7, 8, 9, 10, 11, 12, 13, 14, 15, 16, 17] rfl rfl (by decide) (by decide) hk1 hFc hP1 hD1
    generalize H1 = H at hP hS ⊢
    have hP := hP.sub (ws' := [(h5, .inr (5, [.ref m1, .int (nI pl), .int (nI n), .int (nI dr), .int (nI cr), .ref m2, .ref m3, .ref m4, .ref m5, .ref m6, .int (nI lm), .ref m7, .ref m8, .int (nI wm), .int (nI rd), .ref m9, .ref m10, .int (nI hd), .ref m11, .int (nI sc), .ref m12, .int (nI sdN), .int (dI kc), .int (nI dkM), .int (nI ksM), .ref m13, .ref m14, .ref m15, .ref m16, .ref m17, .long hz])), (m1, .inl (cI, 24, .inl lB)), (m2, .inl (cI, 7, .inl kB)), (m3, .inl (cI, 7, .inl hB)), (m4, .inl (cI, 7, .inl dB)), (m5, .inl (cI, 7, .inl bB)), (m6, .inl (cI, 7, .inl lfA)), (m7, .inl (cI, 7, .inl rwA)), (m8, .inl (cI, 7, .inl wlA)), (m9, .inl (cI, 49, .inl hvA)), (m10, .inl (cI, 7, .inl fdA)), (m11, .inl (cI, 128, .inl chA)), (m12, .inl (cI, 18, .inl sgA)), (m13, .inl (cI, 7, .inl kkB)), (m14, .inl (cI, 7, .inl hhB)), (m15, .inl (cI, 7, .inl ddB)), (m16, .inl (cI, 7, .inl bbB)), (m17, .inl (cI, 18, .inl sgB))]) [0, 1, 2, 3, 4, 5, 6, 7, 8, 9, 10, 11, 12, 13, 14, 15, 16, 17] rfl
    have hD := hD.sub (ws' := [(h5, .inr (5, [.ref m1, .int (nI pl), .int (nI n), .int (nI dr), .int (nI cr), .ref m2, .ref m3, .ref m4, .ref m5, .ref m6, .int (nI lm), .ref m7, .ref m8, .int (nI wm), .int (nI rd), .ref m9, .ref m10, .int (nI hd), .ref m11, .int (nI sc), .ref m12, .int (nI sdN), .int (dI kc), .int (nI dkM), .int (nI ksM), .ref m13, .ref m14, .ref m15, .ref m16, .ref m17, .long hz])), (m1, .inl (cI, 24, .inl lB)), (m2, .inl (cI, 7, .inl kB)), (m3, .inl (cI, 7, .inl hB)), (m4, .inl (cI, 7, .inl dB)), (m5, .inl (cI, 7, .inl bB)), (m6, .inl (cI, 7, .inl lfA)), (m7, .inl (cI, 7, .inl rwA)), (m8, .inl (cI, 7, .inl wlA)), (m9, .inl (cI, 49, .inl hvA)), (m10, .inl (cI, 7, .inl fdA)), (m11, .inl (cI, 128, .inl chA)), (m12, .inl (cI, 18, .inl sgA)), (m13, .inl (cI, 7, .inl kkB)), (m14, .inl (cI, 7, .inl hhB)), (m15, .inl (cI, 7, .inl ddB)), (m16, .inl (cI, 7, .inl bbB)), (m17, .inl (cI, 18, .inl sgB))]) [0, 1, 2, 3, 4, 5, 6, 7, 8, 9, 10, 11, 12, 13, 14, 15, 16, 17] (by decide) rfl
    obtain rfl : r58 = bI (inR (nI (le i)) 48 57) := hw58.trans (congrArg bI (inL_R (a' := 48) (b' := 57) (by decide) (by decide)))
    subst hQ
    have hP9 : va_P (dC, dI0) vwCl [(h5, .inr (5, [.ref m1, .int (nI pl), .int (nI n), .int (nI dr), .int (nI cr), .ref m2, .ref m3, .ref m4, .ref m5, .ref m6, .int (nI lm), .ref m7, .ref m8, .int (nI wm), .int (nI rd), .ref m9, .ref m10, .int (nI hd), .ref m11, .int (nI sc), .ref m12, .int (nI sdN), .int (dI kc), .int (nI dkM), .int (nI ksM), .ref m13, .ref m14, .ref m15, .ref m16, .ref m17, .long hz])), (m1, .inl (cI, 24, .inl lB)), (m2, .inl (cI, 7, .inl kB)), (m3, .inl (cI, 7, .inl hB)), (m4, .inl (cI, 7, .inl dB)), (m5, .inl (cI, 7, .inl bB)), (m6, .inl (cI, 7, .inl lfA)), (m7, .inl (cI, 7, .inl rwA)), (m8, .inl (cI, 7, .inl wlA)), (m9, .inl (cI, 49, .inl hvA)), (m10, .inl (cI, 7, .inl fdA)), (m11, .inl (cI, 128, .inl chA)), (m12, .inl (cI, 18, .inl sgA)), (m13, .inl (cI, 7, .inl kkB)), (m14, .inl (cI, 7, .inl hhB)), (m15, .inl (cI, 7, .inl ddB)), (m16, .inl (cI, 7, .inl bbB)), (m17, .inl (cI, 18, .inl sgB))] H := hP
    have hD9 : va_D A [(h5, .inr (5, [.ref m1, .int (nI pl), .int (nI n), .int (nI dr), .int (nI cr), .ref m2, .ref m3, .ref m4, .ref m5, .ref m6, .int (nI lm), .ref m7, .ref m8, .int (nI wm), .int (nI rd), .ref m9, .ref m10, .int (nI hd), .ref m11, .int (nI sc), .ref m12, .int (nI sdN), .int (dI kc), .int (nI dkM), .int (nI ksM), .ref m13, .ref m14, .ref m15, .ref m16, .ref m17, .long hz])), (m1, .inl (cI, 24, .inl lB)), (m2, .inl (cI, 7, .inl kB)), (m3, .inl (cI, 7, .inl hB)), (m4, .inl (cI, 7, .inl dB)), (m5, .inl (cI, 7, .inl bB)), (m6, .inl (cI, 7, .inl lfA)), (m7, .inl (cI, 7, .inl rwA)), (m8, .inl (cI, 7, .inl wlA)), (m9, .inl (cI, 49, .inl hvA)), (m10, .inl (cI, 7, .inl fdA)), (m11, .inl (cI, 128, .inl chA)), (m12, .inl (cI, 18, .inl sgA)), (m13, .inl (cI, 7, .inl kkB)), (m14, .inl (cI, 7, .inl hhB)), (m15, .inl (cI, 7, .inl ddB)), (m16, .inl (cI, 7, .inl bbB)), (m17, .inl (cI, 18, .inl sgB))] := hD
    exact W.zret (v := bI (inR (nI (le i)) 48 57)) hx hb hr (nar_z _) (fun t9 ht9 hW9 => ⟨⟨bI (inR (nI (le i)) 48 57), (), rfl, by rw [igS, if_neg c10_0, if_pos c10_1, inR_nI (by omega)]; exact congrArg bI (decide_eq_decide.mpr (by omega)), by rw [ht9]; exact hP9, va_K.moved hW9.alike hK, hD9⟩, hS.F ht9⟩) hS.2.2 dX5_isGood_61
  have cdft : i % 3 = 2 := by omega
  refine lv_lookup (off := 52) (tgt := 62) hx hb dX5_isGood_10 (by decide) (by rw [hsw, cdft]; rfl) (by decide) ?_
  refine lv_iload_n hx hb dX5_isGood_62 rfl (lv_at hl 0 rfl) ?_
  refine lv_bipush (v := nI 44) hx hb dX5_isGood_63 (by decide) ?_
  refine lv_icmp_ne (tgt := 78) hx hb dX5_isGood_65 (by decide) (fun c65 => ?_) (fun c65 => ?_)
  ·
    have c65 : ¬ (le i) = 44 := fun z => c65 ((nI_eq (a := (le i)) (b := 44) (by omega) (by omega)).mpr z)
    refine lv_iconst (v := nI 0) hx hb dX5_isGood_78 (by decide) ?_
    subst hQ
    have hP9 : va_P (dC, dI0) vwCl [(h5, .inr (5, [.ref m1, .int (nI pl), .int (nI n), .int (nI dr), .int (nI cr), .ref m2, .ref m3, .ref m4, .ref m5, .ref m6, .int (nI lm), .ref m7, .ref m8, .int (nI wm), .int (nI rd), .ref m9, .ref m10, .int (nI hd), .ref m11, .int (nI sc), .ref m12, .int (nI sdN), .int (dI kc), .int (nI dkM), .int (nI ksM), .ref m13, .ref m14, .ref m15, .ref m16, .ref m17, .long hz])), (m1, .inl (cI, 24, .inl lB)), (m2, .inl (cI, 7, .inl kB)), (m3, .inl (cI, 7, .inl hB)), (m4, .inl (cI, 7, .inl dB)), (m5, .inl (cI, 7, .inl bB)), (m6, .inl (cI, 7, .inl lfA)), (m7, .inl (cI, 7, .inl rwA)), (m8, .inl (cI, 7, .inl wlA)), (m9, .inl (cI, 49, .inl hvA)), (m10, .inl (cI, 7, .inl fdA)), (m11, .inl (cI, 128, .inl chA)), (m12, .inl (cI, 18, .inl sgA)), (m13, .inl (cI, 7, .inl kkB)), (m14, .inl (cI, 7, .inl hhB)), (m15, .inl (cI, 7, .inl ddB)), (m16, .inl (cI, 7, .inl bbB)), (m17, .inl (cI, 18, .inl sgB))] H := hP
    have hD9 : va_D A [(h5, .inr (5, [.ref m1, .int (nI pl), .int (nI n), .int (nI dr), .int (nI cr), .ref m2, .ref m3, .ref m4, .ref m5, .ref m6, .int (nI lm), .ref m7, .ref m8, .int (nI wm), .int (nI rd), .ref m9, .ref m10, .int (nI hd), .ref m11, .int (nI sc), .ref m12, .int (nI sdN), .int (dI kc), .int (nI dkM), .int (nI ksM), .ref m13, .ref m14, .ref m15, .ref m16, .ref m17, .long hz])), (m1, .inl (cI, 24, .inl lB)), (m2, .inl (cI, 7, .inl kB)), (m3, .inl (cI, 7, .inl hB)), (m4, .inl (cI, 7, .inl dB)), (m5, .inl (cI, 7, .inl bB)), (m6, .inl (cI, 7, .inl lfA)), (m7, .inl (cI, 7, .inl rwA)), (m8, .inl (cI, 7, .inl wlA)), (m9, .inl (cI, 49, .inl hvA)), (m10, .inl (cI, 7, .inl fdA)), (m11, .inl (cI, 128, .inl chA)), (m12, .inl (cI, 18, .inl sgA)), (m13, .inl (cI, 7, .inl kkB)), (m14, .inl (cI, 7, .inl hhB)), (m15, .inl (cI, 7, .inl ddB)), (m16, .inl (cI, 7, .inl bbB)), (m17, .inl (cI, 18, .inl sgB))] := hD
    exact W.zret (v := nI 0) hx hb hr (nar_z false) (fun t9 ht9 hW9 => ⟨⟨nI 0, (), rfl, bI_2 (by rw [igS, if_neg c10_0, if_neg c10_1]; exact decide_eq_false (fun z => c65 z.1)), by rw [ht9]; exact hP9, va_K.moved hW9.alike hK, hD9⟩, hS.F ht9⟩) hS.2.2 dX5_isGood_79
  have c65 : (le i) = 44 := (nI_eq (a := (le i)) (b := 44) (by omega) (by omega)).mp c65
  refine lv_iload_n hx hb dX5_isGood_68 rfl (lv_at hl 2 rfl) ?_
  refine lv_bipush (v := nI 20) hx hb dX5_isGood_69 (by decide) ?_
  refine lv_icmp_ge (tgt := 78) hx hb dX5_isGood_71 (by decide) (fun c71 => ?_) (fun c71 => ?_)
  ·
    have c71 : 20 ≤ i := (nI_leI (a := 20) (b := i) (by omega) (by omega)).mp c71
    refine lv_iconst (v := nI 0) hx hb dX5_isGood_78 (by decide) ?_
    subst hQ
    have hP9 : va_P (dC, dI0) vwCl [(h5, .inr (5, [.ref m1, .int (nI pl), .int (nI n), .int (nI dr), .int (nI cr), .ref m2, .ref m3, .ref m4, .ref m5, .ref m6, .int (nI lm), .ref m7, .ref m8, .int (nI wm), .int (nI rd), .ref m9, .ref m10, .int (nI hd), .ref m11, .int (nI sc), .ref m12, .int (nI sdN), .int (dI kc), .int (nI dkM), .int (nI ksM), .ref m13, .ref m14, .ref m15, .ref m16, .ref m17, .long hz])), (m1, .inl (cI, 24, .inl lB)), (m2, .inl (cI, 7, .inl kB)), (m3, .inl (cI, 7, .inl hB)), (m4, .inl (cI, 7, .inl dB)), (m5, .inl (cI, 7, .inl bB)), (m6, .inl (cI, 7, .inl lfA)), (m7, .inl (cI, 7, .inl rwA)), (m8, .inl (cI, 7, .inl wlA)), (m9, .inl (cI, 49, .inl hvA)), (m10, .inl (cI, 7, .inl fdA)), (m11, .inl (cI, 128, .inl chA)), (m12, .inl (cI, 18, .inl sgA)), (m13, .inl (cI, 7, .inl kkB)), (m14, .inl (cI, 7, .inl hhB)), (m15, .inl (cI, 7, .inl ddB)), (m16, .inl (cI, 7, .inl bbB)), (m17, .inl (cI, 18, .inl sgB))] H := hP
    have hD9 : va_D A [(h5, .inr (5, [.ref m1, .int (nI pl), .int (nI n), .int (nI dr), .int (nI cr), .ref m2, .ref m3, .ref m4, .ref m5, .ref m6, .int (nI lm), .ref m7, .ref m8, .int (nI wm), .int (nI rd), .ref m9, .ref m10, .int (nI hd), .ref m11, .int (nI sc), .ref m12, .int (nI sdN), .int (dI kc), .int (nI dkM), .int (nI ksM), .ref m13, .ref m14, .ref m15, .ref m16, .ref m17, .long hz])), (m1, .inl (cI, 24, .inl lB)), (m2, .inl (cI, 7, .inl kB)), (m3, .inl (cI, 7, .inl hB)), (m4, .inl (cI, 7, .inl dB)), (m5, .inl (cI, 7, .inl bB)), (m6, .inl (cI, 7, .inl lfA)), (m7, .inl (cI, 7, .inl rwA)), (m8, .inl (cI, 7, .inl wlA)), (m9, .inl (cI, 49, .inl hvA)), (m10, .inl (cI, 7, .inl fdA)), (m11, .inl (cI, 128, .inl chA)), (m12, .inl (cI, 18, .inl sgA)), (m13, .inl (cI, 7, .inl kkB)), (m14, .inl (cI, 7, .inl hhB)), (m15, .inl (cI, 7, .inl ddB)), (m16, .inl (cI, 7, .inl bbB)), (m17, .inl (cI, 18, .inl sgB))] := hD
    exact W.zret (v := nI 0) hx hb hr (nar_z false) (fun t9 ht9 hW9 => ⟨⟨nI 0, (), rfl, bI_2 (by rw [igS, if_neg c10_0, if_neg c10_1]; exact decide_eq_false (by omega)), by rw [ht9]; exact hP9, va_K.moved hW9.alike hK, hD9⟩, hS.F ht9⟩) hS.2.2 dX5_isGood_79
  have c71 : ¬ 20 ≤ i := fun z => c71 ((nI_leI (a := 20) (b := i) (by omega) (by omega)).mpr z)
  refine lv_iconst (v := nI 1) hx hb dX5_isGood_74 (by decide) ?_
  refine lv_goto (tgt := 79) hx hb dX5_isGood_75 (by decide) ?_
  subst hQ
  have hP9 : va_P (dC, dI0) vwCl [(h5, .inr (5, [.ref m1, .int (nI pl), .int (nI n), .int (nI dr), .int (nI cr), .ref m2, .ref m3, .ref m4, .ref m5, .ref m6, .int (nI lm), .ref m7, .ref m8, .int (nI wm), .int (nI rd), .ref m9, .ref m10, .int (nI hd), .ref m11, .int (nI sc), .ref m12, .int (nI sdN), .int (dI kc), .int (nI dkM), .int (nI ksM), .ref m13, .ref m14, .ref m15, .ref m16, .ref m17, .long hz])), (m1, .inl (cI, 24, .inl lB)), (m2, .inl (cI, 7, .inl kB)), (m3, .inl (cI, 7, .inl hB)), (m4, .inl (cI, 7, .inl dB)), (m5, .inl (cI, 7, .inl bB)), (m6, .inl (cI, 7, .inl lfA)), (m7, .inl (cI, 7, .inl rwA)), (m8, .inl (cI, 7, .inl wlA)), (m9, .inl (cI, 49, .inl hvA)), (m10, .inl (cI, 7, .inl fdA)), (m11, .inl (cI, 128, .inl chA)), (m12, .inl (cI, 18, .inl sgA)), (m13, .inl (cI, 7, .inl kkB)), (m14, .inl (cI, 7, .inl hhB)), (m15, .inl (cI, 7, .inl ddB)), (m16, .inl (cI, 7, .inl bbB)), (m17, .inl (cI, 18, .inl sgB))] H := hP
  have hD9 : va_D A [(h5, .inr (5, [.ref m1, .int (nI pl), .int (nI n), .int (nI dr), .int (nI cr), .ref m2, .ref m3, .ref m4, .ref m5, .ref m6, .int (nI lm), .ref m7, .ref m8, .int (nI wm), .int (nI rd), .ref m9, .ref m10, .int (nI hd), .ref m11, .int (nI sc), .ref m12, .int (nI sdN), .int (dI kc), .int (nI dkM), .int (nI ksM), .ref m13, .ref m14, .ref m15, .ref m16, .ref m17, .long hz])), (m1, .inl (cI, 24, .inl lB)), (m2, .inl (cI, 7, .inl kB)), (m3, .inl (cI, 7, .inl hB)), (m4, .inl (cI, 7, .inl dB)), (m5, .inl (cI, 7, .inl bB)), (m6, .inl (cI, 7, .inl lfA)), (m7, .inl (cI, 7, .inl rwA)), (m8, .inl (cI, 7, .inl wlA)), (m9, .inl (cI, 49, .inl hvA)), (m10, .inl (cI, 7, .inl fdA)), (m11, .inl (cI, 128, .inl chA)), (m12, .inl (cI, 18, .inl sgA)), (m13, .inl (cI, 7, .inl kkB)), (m14, .inl (cI, 7, .inl hhB)), (m15, .inl (cI, 7, .inl ddB)), (m16, .inl (cI, 7, .inl bbB)), (m17, .inl (cI, 18, .inl sgB))] := hD
  exact W.zret (v := nI 1) hx hb hr (nar_z true) (fun t9 ht9 hW9 => ⟨⟨nI 1, (), rfl, bI_1 (by rw [igS, if_neg c10_0, if_neg c10_1]; exact decide_eq_true (by omega)), by rw [ht9]; exact hP9, va_K.moved hW9.alike hK, hD9⟩, hS.F ht9⟩) hS.2.2 dX5_isGood_79

set_option maxHeartbeats 4000000 in
set_option maxRecDepth 100000 in
theorem KX5_faultOf (l : Launch) (dC : Nat → ClassId) (dI0 : Nat → Nat → Nat) (cI cZ : ClassId) (h5 : Nat) (m1 : Nat) (m2 : Nat) (m3 : Nat) (m4 : Nat) (m5 : Nat) (m6 : Nat) (m7 : Nat) (m8 : Nat) (m9 : Nat) (m10 : Nat) (m11 : Nat) (m12 : Nat) (m13 : Nat) (m14 : Nat) (m15 : Nat) (m16 : Nat) (m17 : Nat) (pl : Nat) (n : Nat) (dr : Nat) (cr : Nat) (lm : Nat) (wm : Nat) (rd : Nat) (hd : Nat) (sc : Nat) (sdN : Nat) (kc : Option Nat) (dkM : Nat) (ksM : Nat) (hz : Int64) (lB : Nat → Int32) (kB : Nat → Int32) (hB : Nat → Int32) (dB : Nat → Int32) (bB : Nat → Int32) (lfA : Nat → Int32) (rwA : Nat → Int32) (wlA : Nat → Int32) (hvA : Nat → Int32) (fdA : Nat → Int32) (chA : Nat → Int32) (sgA : Nat → Int32) (kkB : Nat → Int32) (hhB : Nat → Int32) (ddB : Nat → Int32) (bbB : Nat → Int32) (sgB : Nat → Int32) (sz : Nat) (le : Nat → Nat) (hPg : PgR pl lB le) : Met l yX5_faultOf wsX5_faultOf ({ frames := 2, cells := 0, slots := 0, locals := 47 } : Room) (va_Pc [.ref h5] (fun U => U.heap.size = sz ∧ va_P (dC, dI0) vwCl (WM cI cZ h5 m1 m2 m3 m4 m5 m6 m7 m8 m9 m10 m11 m12 m13 m14 m15 m16 m17 pl n dr cr lm wm rd hd sc sdN kc dkM ksM hz lB kB hB dB bB lfA rwA wlA hvA fdA chA sgA kkB hhB ddB bbB sgB) U.heap ∧ va_K (dC, dI0) vwCl [(cI, .int), (cZ, .boolean)] U ∧ va_D (fun _ => True) (WM cI cZ h5 m1 m2 m3 m4 m5 m6 m7 m8 m9 m10 m11 m12 m13 m14 m15 m16 m17 pl n dr cr lm wm rd hd sc sdN kc dkM ksM hz lB kB hB dB bB lfA rwA wlA hvA fdA chA sgA kkB hhB ddB bbB sgB))) (va_Qi (fun (r : Int32) (u : Unit) => r = nI (fwS pl le)) (fun (u : Unit) (t : State) => va_P (dC, dI0) vwCl (WM cI cZ h5 m1 m2 m3 m4 m5 m6 m7 m8 m9 m10 m11 m12 m13 m14 m15 m16 m17 pl n dr cr lm wm rd hd sc sdN kc dkM ksM hz lB kB hB dB bB lfA rwA wlA hvA fdA chA sgA kkB hhB ddB bbB sgB) t.heap ∧ va_K (dC, dI0) vwCl [(cI, .int), (cZ, .boolean)] t ∧ va_D (va_A (WM cI cZ h5 m1 m2 m3 m4 m5 m6 m7 m8 m9 m10 m11 m12 m13 m14 m15 m16 m17 pl n dr cr lm wm rd hd sc sdN kc dkM ksM hz lB kB hB dB bB lfA rwA wlA hvA fdA chA sgA kkB hhB ddB bbB sgB) sz) (WM cI cZ h5 m1 m2 m3 m4 m5 m6 m7 m8 m9 m10 m11 m12 m13 m14 m15 m16 m17 pl n dr cr lm wm rd hd sc sdN kc dkM ksM hz lB kB hB dB bB lfA rwA wlA hvA fdA chA sgA kkB hhB ddB bbB sgB)) (va_A (WM cI cZ h5 m1 m2 m3 m4 m5 m6 m7 m8 m9 m10 m11 m12 m13 m14 m15 m16 m17 pl n dr cr lm wm rd hd sc sdN kc dkM ksM hz lB kB hB dB bB lfA rwA wlA hvA fdA chA sgA kkB hhB ddB bbB sgB) sz)) 0 0 (va_A (WM cI cZ h5 m1 m2 m3 m4 m5 m6 m7 m8 m9 m10 m11 m12 m13 m14 m15 m16 m17 pl n dr cr lm wm rd hd sc sdN kc dkM ksM hz lB kB hB dB bB lfA rwA wlA hvA fdA chA sgA kkB hhB ddB bbB sgB) sz) := by
  refine Met.ofW (cc := cX5_faultOf) (maxL := 2) (ret := (some .int)) (by decide) rfl ?_
  intro prg env s m args below meth c s₁ B hml hv
  obtain ⟨rfl, hsz, hP, hK, hD0⟩ := hv
  have hx := B.exec
  have hb := B.bytes
  have hr := B.returns
  have hts := atoms_spec (ws := wsX5_faultOf) B.pre
  have hown : s.vm.findClass RX5 = some m.cls := findClass_of_methodNamed B.named
  have hlocks := B.notSynchronized
  subst hsz
  have hD := hD0.self (sz := s.heap.size)
  generalize hAe : va_A (WM cI cZ h5 m1 m2 m3 m4 m5 m6 m7 m8 m9 m10 m11 m12 m13 m14 m15 m16 m17 pl n dr cr lm wm rd hd sc sdN kc dkM ksM hz lB kB hB dB bB lfA rwA wlA hvA fdA chA sgA kkB hhB ddB bbB sgB) s.heap.size = A at hD ⊢
  have hA : ∀ q : Nat, s.heap.size ≤ q → A q := fun q h => by rw [← hAe]; exact Or.inr h
  have hS : va_S A s.heap s.heap [] := va_S.rf
  have hP : va_P (dC, dI0) vwCl [(h5, .inr (5, [.ref m1, .int (nI pl), .int (nI n), .int (nI dr), .int (nI cr), .ref m2, .ref m3, .ref m4, .ref m5, .ref m6, .int (nI lm), .ref m7, .ref m8, .int (nI wm), .int (nI rd), .ref m9, .ref m10, .int (nI hd), .ref m11, .int (nI sc), .ref m12, .int (nI sdN), .int (dI kc), .int (nI dkM), .int (nI ksM), .ref m13, .ref m14, .ref m15, .ref m16, .ref m17, .long hz])), (m1, .inl (cI, 24, .inl lB)), (m2, .inl (cI, 7, .inl kB)), (m3, .inl (cI, 7, .inl hB)), (m4, .inl (cI, 7, .inl dB)), (m5, .inl (cI, 7, .inl bB)), (m6, .inl (cI, 7, .inl lfA)), (m7, .inl (cI, 7, .inl rwA)), (m8, .inl (cI, 7, .inl wlA)), (m9, .inl (cI, 49, .inl hvA)), (m10, .inl (cI, 7, .inl fdA)), (m11, .inl (cI, 128, .inl chA)), (m12, .inl (cI, 18, .inl sgA)), (m13, .inl (cI, 7, .inl kkB)), (m14, .inl (cI, 7, .inl hhB)), (m15, .inl (cI, 7, .inl ddB)), (m16, .inl (cI, 7, .inl bbB)), (m17, .inl (cI, 18, .inl sgB))] s.heap := hP
  have hD : va_D A [(h5, .inr (5, [.ref m1, .int (nI pl), .int (nI n), .int (nI dr), .int (nI cr), .ref m2, .ref m3, .ref m4, .ref m5, .ref m6, .int (nI lm), .ref m7, .ref m8, .int (nI wm), .int (nI rd), .ref m9, .ref m10, .int (nI hd), .ref m11, .int (nI sc), .ref m12, .int (nI sdN), .int (dI kc), .int (nI dkM), .int (nI ksM), .ref m13, .ref m14, .ref m15, .ref m16, .ref m17, .long hz])), (m1, .inl (cI, 24, .inl lB)), (m2, .inl (cI, 7, .inl kB)), (m3, .inl (cI, 7, .inl hB)), (m4, .inl (cI, 7, .inl dB)), (m5, .inl (cI, 7, .inl bB)), (m6, .inl (cI, 7, .inl lfA)), (m7, .inl (cI, 7, .inl rwA)), (m8, .inl (cI, 7, .inl wlA)), (m9, .inl (cI, 49, .inl hvA)), (m10, .inl (cI, 7, .inl fdA)), (m11, .inl (cI, 128, .inl chA)), (m12, .inl (cI, 18, .inl sgA)), (m13, .inl (cI, 7, .inl kkB)), (m14, .inl (cI, 7, .inl hhB)), (m15, .inl (cI, 7, .inl ddB)), (m16, .inl (cI, 7, .inl bbB)), (m17, .inl (cI, 18, .inl sgB))] := hD
  have hl := lv_entry ([.ref h5]) (n := 2) (Nat.le_of_ble_eq_true rfl)
  rw [lg_entry_eq]
  generalize (lg_sl ([.ref h5]) ++ List.replicate (2 - (lg_sl ([.ref h5])).length) Slot.unset).toArray = ls at hl ⊢
  have hl : lv_has ls 2 [(0, .ref h5)] := hl
  obtain ⟨H, hH⟩ : ∃ H : Heap, H = s.heap := ⟨_, rfl⟩
  rw [← hH] at hP ⊢
  have hS : va_S A s.heap H [] := by rw [hH]; exact hS
  refine w_gen (fun Q hQ => ?_)
  have hin_X5 : ∀ w ∈ wsX50, w ∈ wsX5_faultOf := by decide +kernel
  have hf71 := hts (.fieldLink RX5 71 "HatNamesModel" "pageMany" "I") (by decide +kernel)
  obtain ⟨hpl, hle⟩ := id hPg
  refine lv_iconst (v := nI 0) hx hb dX5_faultOf_0 (by decide) ?_
  refine lv_istore_n (lv' := [(1, .int (nI 0)), (0, .ref h5)]) hx hb dX5_faultOf_1 rfl hl (by decide) rfl (fun ls hl => ?_)
  have L2 : ∀ (fu : Nat) (i : Nat), i ≤ pl → fF (fun j => !igS le j) pl 0 = fF (fun j => !igS le j) (pl - i) i → pl - i < fu → ∀ (H : Heap) (locs : List Loc), va_P (dC, dI0) vwCl [(h5, .inr (5, [.ref m1, .int (nI pl), .int (nI n), .int (nI dr), .int (nI cr), .ref m2, .ref m3, .ref m4, .ref m5, .ref m6, .int (nI lm), .ref m7, .ref m8, .int (nI wm), .int (nI rd), .ref m9, .ref m10, .int (nI hd), .ref m11, .int (nI sc), .ref m12, .int (nI sdN), .int (dI kc), .int (nI dkM), .int (nI ksM), .ref m13, .ref m14, .ref m15, .ref m16, .ref m17, .long hz])), (m1, .inl (cI, 24, .inl lB)), (m2, .inl (cI, 7, .inl kB)), (m3, .inl (cI, 7, .inl hB)), (m4, .inl (cI, 7, .inl dB)), (m5, .inl (cI, 7, .inl bB)), (m6, .inl (cI, 7, .inl lfA)), (m7, .inl (cI, 7, .inl rwA)), (m8, .inl (cI, 7, .inl wlA)), (m9, .inl (cI, 49, .inl hvA)), (m10, .inl (cI, 7, .inl fdA)), (m11, .inl (cI, 128, .inl chA)), (m12, .inl (cI, 18, .inl sgA)), (m13, .inl (cI, 7, .inl kkB)), (m14, .inl (cI, 7, .inl hhB)), (m15, .inl (cI, 7, .inl ddB)), (m16, .inl (cI, 7, .inl bbB)), (m17, .inl (cI, 18, .inl sgB))] H → va_D A [(h5, .inr (5, [.ref m1, .int (nI pl), .int (nI n), .int (nI dr), .int (nI cr), .ref m2, .ref m3, .ref m4, .ref m5, .ref m6, .int (nI lm), .ref m7, .ref m8, .int (nI wm), .int (nI rd), .ref m9, .ref m10, .int (nI hd), .ref m11, .int (nI sc), .ref m12, .int (nI sdN), .int (dI kc), .int (nI dkM), .int (nI ksM), .ref m13, .ref m14, .ref m15, .ref m16, .ref m17, .long hz])), (m1, .inl (cI, 24, .inl lB)), (m2, .inl (cI, 7, .inl kB)), (m3, .inl (cI, 7, .inl hB)), (m4, .inl (cI, 7, .inl dB)), (m5, .inl (cI, 7, .inl bB)), (m6, .inl (cI, 7, .inl lfA)), (m7, .inl (cI, 7, .inl rwA)), (m8, .inl (cI, 7, .inl wlA)), (m9, .inl (cI, 49, .inl hvA)), (m10, .inl (cI, 7, .inl fdA)), (m11, .inl (cI, 128, .inl chA)), (m12, .inl (cI, 18, .inl sgA)), (m13, .inl (cI, 7, .inl kkB)), (m14, .inl (cI, 7, .inl hhB)), (m15, .inl (cI, 7, .inl ddB)), (m16, .inl (cI, 7, .inl bbB)), (m17, .inl (cI, 18, .inl sgB))] → va_S A s.heap H locs → ∀ (ls : Array Slot), lv_has ls 2 [(0, .ref h5), (1, .int (nI i))] → W prg l env ({ frames := 2, cells := 0, slots := 0, locals := 47 } : Room) s m ([.ref h5] : List Value).toArray below meth c H locs 0 0 Q (F0 m 2 ls []) := by
    intro fu
    induction fu with
    | zero => intro i hi ht hmu; exact absurd hmu (Nat.not_lt_zero _)
    | succ fu ih2 =>
      intro i hi ht hmu2 H locs hP hD hS ls hl
      refine lv_iload_n hx hb dX5_faultOf_2 rfl (lv_at hl 1 rfl) ?_
      refine lv_aload_n hx hb dX5_faultOf_3 rfl (lv_at hl 0 rfl) ?_
      refine va_get (D := (dC, dI0)) (ci := 5) (v := .int (nI pl)) (C := RX5) (T := TX5) (N := 31) hx hb hts hin_X5 hown hK hP 0 rfl rfl 1 (by decide) hf71 (fun _ h9 => h9) rfl dX5_faultOf_4 ?_
      refine lv_icmp_ge (tgt := 24) hx hb dX5_faultOf_7 (by decide) (fun c7 => ?_) (fun c7 => ?_)
      ·
        have c7 : pl ≤ i := (nI_leI (a := pl) (b := i) (by omega) (by omega)).mp c7
        refine lv_iload_n hx hb dX5_faultOf_24 rfl (lv_at hl 1 rfl) ?_
        subst hQ
        have hP9 : va_P (dC, dI0) vwCl [(h5, .inr (5, [.ref m1, .int (nI pl), .int (nI n), .int (nI dr), .int (nI cr), .ref m2, .ref m3, .ref m4, .ref m5, .ref m6, .int (nI lm), .ref m7, .ref m8, .int (nI wm), .int (nI rd), .ref m9, .ref m10, .int (nI hd), .ref m11, .int (nI sc), .ref m12, .int (nI sdN), .int (dI kc), .int (nI dkM), .int (nI ksM), .ref m13, .ref m14, .ref m15, .ref m16, .ref m17, .long hz])), (m1, .inl (cI, 24, .inl lB)), (m2, .inl (cI, 7, .inl kB)), (m3, .inl (cI, 7, .inl hB)), (m4, .inl (cI, 7, .inl dB)), (m5, .inl (cI, 7, .inl bB)), (m6, .inl (cI, 7, .inl lfA)), (m7, .inl (cI, 7, .inl rwA)), (m8, .inl (cI, 7, .inl wlA)), (m9, .inl (cI, 49, .inl hvA)), (m10, .inl (cI, 7, .inl fdA)), (m11, .inl (cI, 128, .inl chA)), (m12, .inl (cI, 18, .inl sgA)), (m13, .inl (cI, 7, .inl kkB)), (m14, .inl (cI, 7, .inl hhB)), (m15, .inl (cI, 7, .inl ddB)), (m16, .inl (cI, 7, .inl bbB)), (m17, .inl (cI, 18, .inl sgB))] H := hP
        have hD9 : va_D A [(h5, .inr (5, [.ref m1, .int (nI pl), .int (nI n), .int (nI dr), .int (nI cr), .ref m2, .ref m3, .ref m4, .ref m5, .ref m6, .int (nI lm), .ref m7, .ref m8, .int (nI wm), .int (nI rd), .ref m9, .ref m10, .int (nI hd), .ref m11, .int (nI sc), .ref m12, .int (nI sdN), .int (dI kc), .int (nI dkM), .int (nI ksM), .ref m13, .ref m14, .ref m15, .ref m16, .ref m17, .long hz])), (m1, .inl (cI, 24, .inl lB)), (m2, .inl (cI, 7, .inl kB)), (m3, .inl (cI, 7, .inl hB)), (m4, .inl (cI, 7, .inl dB)), (m5, .inl (cI, 7, .inl bB)), (m6, .inl (cI, 7, .inl lfA)), (m7, .inl (cI, 7, .inl rwA)), (m8, .inl (cI, 7, .inl wlA)), (m9, .inl (cI, 49, .inl hvA)), (m10, .inl (cI, 7, .inl fdA)), (m11, .inl (cI, 128, .inl chA)), (m12, .inl (cI, 18, .inl sgA)), (m13, .inl (cI, 7, .inl kkB)), (m14, .inl (cI, 7, .inl hhB)), (m15, .inl (cI, 7, .inl ddB)), (m16, .inl (cI, 7, .inl bbB)), (m17, .inl (cI, 18, .inl sgB))] := hD
        exact W.iret (v := nI i) hx hb hr (fun t9 ht9 hW9 => ⟨⟨nI i, (), rfl, by rw [fwS, ← fg_fw, ht, fF_e (by omega), show i = pl by omega]; rfl, by rw [ht9]; exact hP9, va_K.moved hW9.alike hK, hD9⟩, hS.F ht9⟩) hS.2.2 dX5_faultOf_25
      have c7 : ¬ pl ≤ i := fun z => c7 ((nI_leI (a := pl) (b := i) (by omega) (by omega)).mpr z)
      refine lv_aload_n hx hb dX5_faultOf_10 rfl (lv_at hl 0 rfl) ?_
      refine lv_iload_n hx hb dX5_faultOf_11 rfl (lv_at hl 1 rfl) ?_
      have hPc := hP.sub (ws' := [(h5, .inr (5, [.ref m1, .int (nI pl), .int (nI n), .int (nI dr), .int (nI cr), .ref m2, .ref m3, .ref m4, .ref m5, .ref m6, .int (nI lm), .ref m7, .ref m8, .int (nI wm), .int (nI rd), .ref m9, .ref m10, .int (nI hd), .ref m11, .int (nI sc), .ref m12, .int (nI sdN), .int (dI kc), .int (nI dkM), .int (nI ksM), .ref m13, .ref m14, .ref m15, .ref m16, .ref m17, .long hz])), (m1, .inl (cI, 24, .inl lB)), (m2, .inl (cI, 7, .inl kB)), (m3, .inl (cI, 7, .inl hB)), (m4, .inl (cI, 7, .inl dB)), (m5, .inl (cI, 7, .inl bB)), (m6, .inl (cI, 7, .inl lfA)), (m7, .inl (cI, 7, .inl rwA)), (m8, .inl (cI, 7, .inl wlA)), (m9, .inl (cI, 49, .inl hvA)), (m10, .inl (cI, 7, .inl fdA)), (m11, .inl (cI, 128, .inl chA)), (m12, .inl (cI, 18, .inl sgA)), (m13, .inl (cI, 7, .inl kkB)), (m14, .inl (cI, 7, .inl hhB)), (m15, .inl (cI, 7, .inl ddB)), (m16, .inl (cI, 7, .inl bbB)), (m17, .inl (cI, 18, .inl sgB))]) [0, 1, 2, 3, 4, 5, 6, 7, 8, 9, 10, 11, 12, 13, 14, 15, 16, 17] rfl
      have hDc := hD.sub (ws' := [(h5, .inr (5, [.ref m1, .int (nI pl), .int (nI n), .int (nI dr), .int (nI cr), .ref m2, .ref m3, .ref m4, .ref m5, .ref m6, .int (nI lm), .ref m7, .ref m8, .int (nI wm), .int (nI rd), .ref m9, .ref m10, .int (nI hd), .ref m11, .int (nI sc), .ref m12, .int (nI sdN), .int (dI kc), .int (nI dkM), .int (nI ksM), .ref m13, .ref m14, .ref m15, .ref m16, .ref m17, .long hz])), (m1, .inl (cI, 24, .inl lB)), (m2, .inl (cI, 7, .inl kB)), (m3, .inl (cI, 7, .inl hB)), (m4, .inl (cI, 7, .inl dB)), (m5, .inl (cI, 7, .inl bB)), (m6, .inl (cI, 7, .inl lfA)), (m7, .inl (cI, 7, .inl rwA)), (m8, .inl (cI, 7, .inl wlA)), (m9, .inl (cI, 49, .inl hvA)), (m10, .inl (cI, 7, .inl fdA)), (m11, .inl (cI, 128, .inl chA)), (m12, .inl (cI, 18, .inl sgA)), (m13, .inl (cI, 7, .inl kkB)), (m14, .inl (cI, 7, .inl hhB)), (m15, .inl (cI, 7, .inl ddB)), (m16, .inl (cI, 7, .inl bbB)), (m17, .inl (cI, 18, .inl sgB))]) [0, 1, 2, 3, 4, 5, 6, 7, 8, 9, 10, 11, 12, 13, 14, 15, 16, 17] (by decide) rfl
      have hFc := va_free (wc := [(h5, .inr (5, [.ref m1, .int (nI pl), .int (nI n), .int (nI dr), .int (nI cr), .ref m2, .ref m3, .ref m4, .ref m5, .ref m6, .int (nI lm), .ref m7, .ref m8, .int (nI wm), .int (nI rd), .ref m9, .ref m10, .int (nI hd), .ref m11, .int (nI sc), .ref m12, .int (nI sdN), .int (dI kc), .int (nI dkM), .int (nI ksM), .ref m13, .ref m14, .ref m15, .ref m16, .ref m17, .long hz])), (m1, .inl (cI, 24, .inl lB)), (m2, .inl (cI, 7, .inl kB)), (m3, .inl (cI, 7, .inl hB)), (m4, .inl (cI, 7, .inl dB)), (m5, .inl (cI, 7, .inl bB)), (m6, .inl (cI, 7, .inl lfA)), (m7, .inl (cI, 7, .inl rwA)), (m8, .inl (cI, 7, .inl wlA)), (m9, .inl (cI, 49, .inl hvA)), (m10, .inl (cI, 7, .inl fdA)), (m11, .inl (cI, 128, .inl chA)), (m12, .inl (cI, 18, .inl sgA)), (m13, .inl (cI, 7, .inl kkB)), (m14, .inl (cI, 7, .inl hhB)), (m15, .inl (cI, 7, .inl ddB)), (m16, .inl (cI, 7, .inl bbB)), (m17, .inl (cI, 18, .inl sgB))]) hD hS hA [0, 1, 2, 3, 4, 5, 6, 7, 8, 9, 10, 11, 12, 13, 14, 15, 16, 17] rfl
      refine va_calli (va_runV (As := [.int (nI i)]) (rest := []) ⟨hx, hb, hml, hown, hts⟩ (KX5_isGood l dC dI0 cI cZ h5 m1 m2 m3 m4 m5 m6 m7 m8 m9 m10 m11 m12 m13 m14 m15 m16 m17 pl n dr cr lm wm rd hd sc sdN kc dkM ksM hz lB kB hB dB bB lfA rwA wlA hvA fdA chA sgA kkB hhB ddB bbB sgB H.size le i (by first | assumption | omega) (by first | assumption | omega)) (cwV 1 hts gX5_faultOf_X5_isGood rfl rfl rfl (by decide +kernel) ⟨Nat.le_of_ble_eq_true rfl, Nat.le_of_ble_eq_true rfl⟩) ⟨fun a U g mk q => by obtain ⟨q0, q1, qP, qK, qD⟩ := q; exact ⟨q0, q1, qP, va_K.moved (u := U) (U := U.calling g mk a) (Vm.Alike.refl U.vm) qK, qD⟩, va_recv hK hPc (ci := 5) (q0 := 0) rfl rfl, fun U hU hW => ⟨rfl, by rw [hU], by rw [hU]; exact hPc, va_K.moved hW.alike hK, hDc.weaken (fun _ _ _ _ => trivial)⟩⟩ rfl rfl hl.1 rfl (lv_room (Nat.le_of_ble_eq_true rfl)) dX5_faultOf_12 ⟨Nat.le_of_ble_eq_true rfl, Nat.le_of_ble_eq_true rfl⟩) hS (fun q _ h => hFc q h) hFc (fun r12 u12 t7 H1 locs ht7 hvm7 hw12 hB hz1 hk1 hS => ?_)
      obtain ⟨hP1, hK1, hD1⟩ := hB
      rw [ht7] at hP1
      try dsimp only at hw12 hP1 hD1
      obtain ⟨hP, hD⟩ := va_join (wr := []) (w1 := [(h5, .inr (5, [.ref m1, .int (nI pl), .int (nI n), .int (nI dr), .int (nI cr), .ref m2, .ref m3, .ref m4, .ref m5, .ref m6, .int (nI lm), .ref m7, .ref m8, .int (nI wm), .int (nI rd), .ref m9, .ref m10, .int (nI hd), .ref m11, .int (nI sc), .ref m12, .int (nI sdN), .int (dI kc), .int (nI dkM), .int (nI ksM), .ref m13, .ref m14, .ref m15, .ref m16, .ref m17, .long hz])), (m1, .inl (cI, 24, .inl lB)), (m2, .inl (cI, 7, .inl kB)), (m3, .inl (cI, 7, .inl hB)), (m4, .inl (cI, 7, .inl dB)), (m5, .inl (cI, 7, .inl bB)), (m6, .inl (cI, 7, .inl lfA)), (m7, .inl (cI, 7, .inl rwA)), (m8, .inl (cI, 7, .inl wlA)), (m9, .inl (cI, 49, .inl hvA)), (m10, .inl (cI, 7, .inl fdA)), (m11, .inl (cI, 128, .inl chA)), (m12, .inl (cI, 18, .inl sgA)), (m13, .inl (cI, 7, .inl kkB)), (m14, .inl (cI, 7, .inl hhB)), (m15, .inl (cI, 7, .inl ddB)), (m16, .inl (cI, 7, .inl bbB)), (m17, .inl (cI, 18, .inl sgB))]) hP hD [0, 1, 2, 3, 4, 5, 6, 7, 8, 9, 10, 11, 12, 13, 14, 15, 16, 17] [] rfl rfl (by decide) (by decide) hk1 hFc hP1 hD1
      generalize H1 = H at hP hS ⊢
      have hP := hP.sub (ws' := [(h5, .inr (5, [.ref m1, .int (nI pl), .int (nI n), .int (nI dr), .int (nI cr), .ref m2, .ref m3, .ref m4, .ref m5, .ref m6, .int (nI lm), .ref m7, .ref m8, .int (nI wm), .int (nI rd), .ref m9, .ref m10, .int (nI hd), .ref m11, .int (nI sc), .ref m12, .int (nI sdN), .int (dI kc), .int (nI dkM), .int (nI ksM), .ref m13, .ref m14, .ref m15, .ref m16, .ref m17, .long hz])), (m1, .inl (cI, 24, .inl lB)), (m2, .inl (cI, 7, .inl kB)), (m3, .inl (cI, 7, .inl hB)), (m4, .inl (cI, 7, .inl dB)), (m5, .inl (cI, 7, .inl bB)), (m6, .inl (cI, 7, .inl lfA)), (m7, .inl (cI, 7, .inl rwA)), (m8, .inl (cI, 7, .inl wlA)), (m9, .inl (cI, 49, .inl hvA)), (m10, .inl (cI, 7, .inl fdA)), (m11, .inl (cI, 128, .inl chA)), (m12, .inl (cI, 18, .inl sgA)), (m13, .inl (cI, 7, .inl kkB)), (m14, .inl (cI, 7, .inl hhB)), (m15, .inl (cI, 7, .inl ddB)), (m16, .inl (cI, 7, .inl bbB)), (m17, .inl (cI, 18, .inl sgB))]) [0, 1, 2, 3, 4, 5, 6, 7, 8, 9, 10, 11, 12, 13, 14, 15, 16, 17] rfl
      have hD := hD.sub (ws' := [(h5, .inr (5, [.ref m1, .int (nI pl), .int (nI n), .int (nI dr), .int (nI cr), .ref m2, .ref m3, .ref m4, .ref m5, .ref m6, .int (nI lm), .ref m7, .ref m8, .int (nI wm), .int (nI rd), .ref m9, .ref m10, .int (nI hd), .ref m11, .int (nI sc), .ref m12, .int (nI sdN), .int (dI kc), .int (nI dkM), .int (nI ksM), .ref m13, .ref m14, .ref m15, .ref m16, .ref m17, .long hz])), (m1, .inl (cI, 24, .inl lB)), (m2, .inl (cI, 7, .inl kB)), (m3, .inl (cI, 7, .inl hB)), (m4, .inl (cI, 7, .inl dB)), (m5, .inl (cI, 7, .inl bB)), (m6, .inl (cI, 7, .inl lfA)), (m7, .inl (cI, 7, .inl rwA)), (m8, .inl (cI, 7, .inl wlA)), (m9, .inl (cI, 49, .inl hvA)), (m10, .inl (cI, 7, .inl fdA)), (m11, .inl (cI, 128, .inl chA)), (m12, .inl (cI, 18, .inl sgA)), (m13, .inl (cI, 7, .inl kkB)), (m14, .inl (cI, 7, .inl hhB)), (m15, .inl (cI, 7, .inl ddB)), (m16, .inl (cI, 7, .inl bbB)), (m17, .inl (cI, 18, .inl sgB))]) [0, 1, 2, 3, 4, 5, 6, 7, 8, 9, 10, 11, 12, 13, 14, 15, 16, 17] (by decide) rfl
      obtain rfl : r12 = bI (igS le i) := hw12
      refine lv_if_eq (tgt := 24) hx hb dX5_faultOf_15 (by decide) (fun c15 => ?_) (fun c15 => ?_)
      ·
        have c15 : (igS le i) = false := bI_0 c15
        refine lv_iload_n hx hb dX5_faultOf_24 rfl (lv_at hl 1 rfl) ?_
        subst hQ
        have hP9 : va_P (dC, dI0) vwCl [(h5, .inr (5, [.ref m1, .int (nI pl), .int (nI n), .int (nI dr), .int (nI cr), .ref m2, .ref m3, .ref m4, .ref m5, .ref m6, .int (nI lm), .ref m7, .ref m8, .int (nI wm), .int (nI rd), .ref m9, .ref m10, .int (nI hd), .ref m11, .int (nI sc), .ref m12, .int (nI sdN), .int (dI kc), .int (nI dkM), .int (nI ksM), .ref m13, .ref m14, .ref m15, .ref m16, .ref m17, .long hz])), (m1, .inl (cI, 24, .inl lB)), (m2, .inl (cI, 7, .inl kB)), (m3, .inl (cI, 7, .inl hB)), (m4, .inl (cI, 7, .inl dB)), (m5, .inl (cI, 7, .inl bB)), (m6, .inl (cI, 7, .inl lfA)), (m7, .inl (cI, 7, .inl rwA)), (m8, .inl (cI, 7, .inl wlA)), (m9, .inl (cI, 49, .inl hvA)), (m10, .inl (cI, 7, .inl fdA)), (m11, .inl (cI, 128, .inl chA)), (m12, .inl (cI, 18, .inl sgA)), (m13, .inl (cI, 7, .inl kkB)), (m14, .inl (cI, 7, .inl hhB)), (m15, .inl (cI, 7, .inl ddB)), (m16, .inl (cI, 7, .inl bbB)), (m17, .inl (cI, 18, .inl sgB))] H := hP
        have hD9 : va_D A [(h5, .inr (5, [.ref m1, .int (nI pl), .int (nI n), .int (nI dr), .int (nI cr), .ref m2, .ref m3, .ref m4, .ref m5, .ref m6, .int (nI lm), .ref m7, .ref m8, .int (nI wm), .int (nI rd), .ref m9, .ref m10, .int (nI hd), .ref m11, .int (nI sc), .ref m12, .int (nI sdN), .int (dI kc), .int (nI dkM), .int (nI ksM), .ref m13, .ref m14, .ref m15, .ref m16, .ref m17, .long hz])), (m1, .inl (cI, 24, .inl lB)), (m2, .inl (cI, 7, .inl kB)), (m3, .inl (cI, 7, .inl hB)), (m4, .inl (cI, 7, .inl dB)), (m5, .inl (cI, 7, .inl bB)), (m6, .inl (cI, 7, .inl lfA)), (m7, .inl (cI, 7, .inl rwA)), (m8, .inl (cI, 7, .inl wlA)), (m9, .inl (cI, 49, .inl hvA)), (m10, .inl (cI, 7, .inl fdA)), (m11, .inl (cI, 128, .inl chA)), (m12, .inl (cI, 18, .inl sgA)), (m13, .inl (cI, 7, .inl kkB)), (m14, .inl (cI, 7, .inl hhB)), (m15, .inl (cI, 7, .inl ddB)), (m16, .inl (cI, 7, .inl bbB)), (m17, .inl (cI, 18, .inl sgB))] := hD
        exact W.iret (v := nI i) hx hb hr (fun t9 ht9 hW9 => ⟨⟨nI i, (), rfl, by rw [fwS, ← fg_fw, ht, fF_t (by omega) (by rw [c15]; rfl)]; rfl, by rw [ht9]; exact hP9, va_K.moved hW9.alike hK, hD9⟩, hS.F ht9⟩) hS.2.2 dX5_faultOf_25
      have c15 : (igS le i) = true := bI_n0 c15
      refine lv_iinc (v := nI (i + 1)) (lv' := [(1, .int (nI (i + 1))), (0, .ref h5)]) hx hb dX5_faultOf_18 hl (k := 1) rfl (show nI i + Int32.ofInt 1 = nI (i + 1) from nI_add _ _) (by decide) rfl (fun ls hl => ?_)
      refine lv_goto (tgt := 2) hx hb dX5_faultOf_21 (by decide) ?_
      exact ih2 (i + 1) (by omega) (ht.trans (fF_f (by omega) (by rw [c15]; rfl))) (by omega) _ _ hP hD hS ls (lv_sub hl [1, 0] rfl)
  exact L2 _ 0 (by omega) (rfl) (Nat.lt_succ_self _) _ _ hP hD hS ls (lv_sub hl [1, 0] rfl)

set_option maxHeartbeats 4000000 in
set_option maxRecDepth 100000 in
theorem KX5_fault (l : Launch) (dC : Nat → ClassId) (dI0 : Nat → Nat → Nat) (cI cZ : ClassId) (h5 : Nat) (m1 : Nat) (m2 : Nat) (m3 : Nat) (m4 : Nat) (m5 : Nat) (m6 : Nat) (m7 : Nat) (m8 : Nat) (m9 : Nat) (m10 : Nat) (m11 : Nat) (m12 : Nat) (m13 : Nat) (m14 : Nat) (m15 : Nat) (m16 : Nat) (m17 : Nat) (pl : Nat) (n : Nat) (dr : Nat) (cr : Nat) (lm : Nat) (wm : Nat) (rd : Nat) (hd : Nat) (sc : Nat) (sdN : Nat) (kc : Option Nat) (dkM : Nat) (ksM : Nat) (hz : Int64) (lB : Nat → Int32) (kB : Nat → Int32) (hB : Nat → Int32) (dB : Nat → Int32) (bB : Nat → Int32) (lfA : Nat → Int32) (rwA : Nat → Int32) (wlA : Nat → Int32) (hvA : Nat → Int32) (fdA : Nat → Int32) (chA : Nat → Int32) (sgA : Nat → Int32) (kkB : Nat → Int32) (hhB : Nat → Int32) (ddB : Nat → Int32) (bbB : Nat → Int32) (sgB : Nat → Int32) (sz : Nat) (le : Nat → Nat) (hPg : PgR pl lB le) : Met l yX5_fault wsX5_fault ({ frames := 3, cells := 0, slots := 0, locals := 68 } : Room) (va_Pc [.ref h5] (fun U => U.heap.size = sz ∧ va_P (dC, dI0) vwCl (WM cI cZ h5 m1 m2 m3 m4 m5 m6 m7 m8 m9 m10 m11 m12 m13 m14 m15 m16 m17 pl n dr cr lm wm rd hd sc sdN kc dkM ksM hz lB kB hB dB bB lfA rwA wlA hvA fdA chA sgA kkB hhB ddB bbB sgB) U.heap ∧ va_K (dC, dI0) vwCl [(cI, .int), (cZ, .boolean)] U ∧ va_D (fun _ => True) (WM cI cZ h5 m1 m2 m3 m4 m5 m6 m7 m8 m9 m10 m11 m12 m13 m14 m15 m16 m17 pl n dr cr lm wm rd hd sc sdN kc dkM ksM hz lB kB hB dB bB lfA rwA wlA hvA fdA chA sgA kkB hhB ddB bbB sgB))) (va_Qi (fun (r : Int32) (u : Unit) => r = nI (fwS pl le)) (fun (u : Unit) (t : State) => va_P (dC, dI0) vwCl (WM cI cZ h5 m1 m2 m3 m4 m5 m6 m7 m8 m9 m10 m11 m12 m13 m14 m15 m16 m17 pl n dr cr lm wm rd hd sc sdN kc dkM ksM hz lB kB hB dB bB lfA rwA wlA hvA fdA chA sgA kkB hhB ddB bbB sgB) t.heap ∧ va_K (dC, dI0) vwCl [(cI, .int), (cZ, .boolean)] t ∧ va_D (va_A (WM cI cZ h5 m1 m2 m3 m4 m5 m6 m7 m8 m9 m10 m11 m12 m13 m14 m15 m16 m17 pl n dr cr lm wm rd hd sc sdN kc dkM ksM hz lB kB hB dB bB lfA rwA wlA hvA fdA chA sgA kkB hhB ddB bbB sgB) sz) (WM cI cZ h5 m1 m2 m3 m4 m5 m6 m7 m8 m9 m10 m11 m12 m13 m14 m15 m16 m17 pl n dr cr lm wm rd hd sc sdN kc dkM ksM hz lB kB hB dB bB lfA rwA wlA hvA fdA chA sgA kkB hhB ddB bbB sgB)) (va_A (WM cI cZ h5 m1 m2 m3 m4 m5 m6 m7 m8 m9 m10 m11 m12 m13 m14 m15 m16 m17 pl n dr cr lm wm rd hd sc sdN kc dkM ksM hz lB kB hB dB bB lfA rwA wlA hvA fdA chA sgA kkB hhB ddB bbB sgB) sz)) 0 0 (va_A (WM cI cZ h5 m1 m2 m3 m4 m5 m6 m7 m8 m9 m10 m11 m12 m13 m14 m15 m16 m17 pl n dr cr lm wm rd hd sc sdN kc dkM ksM hz lB kB hB dB bB lfA rwA wlA hvA fdA chA sgA kkB hhB ddB bbB sgB) sz) := by
  refine Met.ofW (cc := cX5_fault) (maxL := 1) (ret := (some .int)) (by decide) rfl ?_
  intro prg env s m args below meth c s₁ B hml hv
  obtain ⟨rfl, hsz, hP, hK, hD0⟩ := hv
  have hx := B.exec
  have hb := B.bytes
  have hr := B.returns
  have hts := atoms_spec (ws := wsX5_fault) B.pre
  have hown : s.vm.findClass RX5 = some m.cls := findClass_of_methodNamed B.named
  have hlocks := B.notSynchronized
  subst hsz
  have hD := hD0.self (sz := s.heap.size)
  generalize hAe : va_A (WM cI cZ h5 m1 m2 m3 m4 m5 m6 m7 m8 m9 m10 m11 m12 m13 m14 m15 m16 m17 pl n dr cr lm wm rd hd sc sdN kc dkM ksM hz lB kB hB dB bB lfA rwA wlA hvA fdA chA sgA kkB hhB ddB bbB sgB) s.heap.size = A at hD ⊢
  have hA : ∀ q : Nat, s.heap.size ≤ q → A q := fun q h => by rw [← hAe]; exact Or.inr h
  have hS : va_S A s.heap s.heap [] := va_S.rf
  have hP : va_P (dC, dI0) vwCl [(h5, .inr (5, [.ref m1, .int (nI pl), .int (nI n), .int (nI dr), .int (nI cr), .ref m2, .ref m3, .ref m4, .ref m5, .ref m6, .int (nI lm), .ref m7, .ref m8, .int (nI wm), .int (nI rd), .ref m9, .ref m10, .int (nI hd), .ref m11, .int (nI sc), .ref m12, .int (nI sdN), .int (dI kc), .int (nI dkM), .int (nI ksM), .ref m13, .ref m14, .ref m15, .ref m16, .ref m17, .long hz])), (m1, .inl (cI, 24, .inl lB)), (m2, .inl (cI, 7, .inl kB)), (m3, .inl (cI, 7, .inl hB)), (m4, .inl (cI, 7, .inl dB)), (m5, .inl (cI, 7, .inl bB)), (m6, .inl (cI, 7, .inl lfA)), (m7, .inl (cI, 7, .inl rwA)), (m8, .inl (cI, 7, .inl wlA)), (m9, .inl (cI, 49, .inl hvA)), (m10, .inl (cI, 7, .inl fdA)), (m11, .inl (cI, 128, .inl chA)), (m12, .inl (cI, 18, .inl sgA)), (m13, .inl (cI, 7, .inl kkB)), (m14, .inl (cI, 7, .inl hhB)), (m15, .inl (cI, 7, .inl ddB)), (m16, .inl (cI, 7, .inl bbB)), (m17, .inl (cI, 18, .inl sgB))] s.heap := hP
  have hD : va_D A [(h5, .inr (5, [.ref m1, .int (nI pl), .int (nI n), .int (nI dr), .int (nI cr), .ref m2, .ref m3, .ref m4, .ref m5, .ref m6, .int (nI lm), .ref m7, .ref m8, .int (nI wm), .int (nI rd), .ref m9, .ref m10, .int (nI hd), .ref m11, .int (nI sc), .ref m12, .int (nI sdN), .int (dI kc), .int (nI dkM), .int (nI ksM), .ref m13, .ref m14, .ref m15, .ref m16, .ref m17, .long hz])), (m1, .inl (cI, 24, .inl lB)), (m2, .inl (cI, 7, .inl kB)), (m3, .inl (cI, 7, .inl hB)), (m4, .inl (cI, 7, .inl dB)), (m5, .inl (cI, 7, .inl bB)), (m6, .inl (cI, 7, .inl lfA)), (m7, .inl (cI, 7, .inl rwA)), (m8, .inl (cI, 7, .inl wlA)), (m9, .inl (cI, 49, .inl hvA)), (m10, .inl (cI, 7, .inl fdA)), (m11, .inl (cI, 128, .inl chA)), (m12, .inl (cI, 18, .inl sgA)), (m13, .inl (cI, 7, .inl kkB)), (m14, .inl (cI, 7, .inl hhB)), (m15, .inl (cI, 7, .inl ddB)), (m16, .inl (cI, 7, .inl bbB)), (m17, .inl (cI, 18, .inl sgB))] := hD
  have hl := lv_entry ([.ref h5]) (n := 1) (Nat.le_of_ble_eq_true rfl)
  rw [lg_entry_eq]
  generalize (lg_sl ([.ref h5]) ++ List.replicate (1 - (lg_sl ([.ref h5])).length) Slot.unset).toArray = ls at hl ⊢
  have hl : lv_has ls 1 [(0, .ref h5)] := hl
  obtain ⟨H, hH⟩ : ∃ H : Heap, H = s.heap := ⟨_, rfl⟩
  rw [← hH] at hP ⊢
  have hS : va_S A s.heap H [] := by rw [hH]; exact hS
  refine w_gen (fun Q hQ => ?_)
  obtain ⟨hpl, hle⟩ := id hPg
  refine lv_aload_n hx hb dX5_fault_0 rfl (lv_at hl 0 rfl) ?_
  have hPc := hP.sub (ws' := [(h5, .inr (5, [.ref m1, .int (nI pl), .int (nI n), .int (nI dr), .int (nI cr), .ref m2, .ref m3, .ref m4, .ref m5, .ref m6, .int (nI lm), .ref m7, .ref m8, .int (nI wm), .int (nI rd), .ref m9, .ref m10, .int (nI hd), .ref m11, .int (nI sc), .ref m12, .int (nI sdN), .int (dI kc), .int (nI dkM), .int (nI ksM), .ref m13, .ref m14, .ref m15, .ref m16, .ref m17, .long hz])), (m1, .inl (cI, 24, .inl lB)), (m2, .inl (cI, 7, .inl kB)), (m3, .inl (cI, 7, .inl hB)), (m4, .inl (cI, 7, .inl dB)), (m5, .inl (cI, 7, .inl bB)), (m6, .inl (cI, 7, .inl lfA)), (m7, .inl (cI, 7, .inl rwA)), (m8, .inl (cI, 7, .inl wlA)), (m9, .inl (cI, 49, .inl hvA)), (m10, .inl (cI, 7, .inl fdA)), (m11, .inl (cI, 128, .inl chA)), (m12, .inl (cI, 18, .inl sgA)), (m13, .inl (cI, 7, .inl kkB)), (m14, .inl (cI, 7, .inl hhB)), (m15, .inl (cI, 7, .inl ddB)), (m16, .inl (cI, 7, .inl bbB)), (m17, .inl (cI, 18, .inl sgB))]) [0, 1, 2, 3, 4, 5, 6, 7, 8, 9, 10, 11, 12, 13, 14, 15, 16, 17] rfl
  have hDc := hD.sub (ws' := [(h5, .inr (5, [.ref m1, .int (nI pl), .int (nI n), .int (nI dr), .int (nI cr), .ref m2, .ref m3, .ref m4, .ref m5, .ref m6, .int (nI lm), .ref m7, .ref m8, .int (nI wm), .int (nI rd), .ref m9, .ref m10, .int (nI hd), .ref m11, .int (nI sc), .ref m12, .int (nI sdN), .int (dI kc), .int (nI dkM), .int (nI ksM), .ref m13, .ref m14, .ref m15, .ref m16, .ref m17, .long hz])), (m1, .inl (cI, 24, .inl lB)), (m2, .inl (cI, 7, .inl kB)), (m3, .inl (cI, 7, .inl hB)), (m4, .inl (cI, 7, .inl dB)), (m5, .inl (cI, 7, .inl bB)), (m6, .inl (cI, 7, .inl lfA)), (m7, .inl (cI, 7, .inl rwA)), (m8, .inl (cI, 7, .inl wlA)), (m9, .inl (cI, 49, .inl hvA)), (m10, .inl (cI, 7, .inl fdA)), (m11, .inl (cI, 128, .inl chA)), (m12, .inl (cI, 18, .inl sgA)), (m13, .inl (cI, 7, .inl kkB)), (m14, .inl (cI, 7, .inl hhB)), (m15, .inl (cI, 7, .inl ddB)), (m16, .inl (cI, 7, .inl bbB)), (m17, .inl (cI, 18, .inl sgB))]) [0, 1, 2, 3, 4, 5, 6, 7, 8, 9, 10, 11, 12, 13, 14, 15, 16, 17] (by decide) rfl
  have hFc := va_free (wc := [(h5, .inr (5, [.ref m1, .int (nI pl), .int (nI n), .int (nI dr), .int (nI cr), .ref m2, .ref m3, .ref m4, .ref m5, .ref m6, .int (nI lm), .ref m7, .ref m8, .int (nI wm), .int (nI rd), .ref m9, .ref m10, .int (nI hd), .ref m11, .int (nI sc), .ref m12, .int (nI sdN), .int (dI kc), .int (nI dkM), .int (nI ksM), .ref m13, .ref m14, .ref m15, .ref m16, .ref m17, .long hz])), (m1, .inl (cI, 24, .inl lB)), (m2, .inl (cI, 7, .inl kB)), (m3, .inl (cI, 7, .inl hB)), (m4, .inl (cI, 7, .inl dB)), (m5, .inl (cI, 7, .inl bB)), (m6, .inl (cI, 7, .inl lfA)), (m7, .inl (cI, 7, .inl rwA)), (m8, .inl (cI, 7, .inl wlA)), (m9, .inl (cI, 49, .inl hvA)), (m10, .inl (cI, 7, .inl fdA)), (m11, .inl (cI, 128, .inl chA)), (m12, .inl (cI, 18, .inl sgA)), (m13, .inl (cI, 7, .inl kkB)), (m14, .inl (cI, 7, .inl hhB)), (m15, .inl (cI, 7, .inl ddB)), (m16, .inl (cI, 7, .inl bbB)), (m17, .inl (cI, 18, .inl sgB))]) hD hS hA [0, 1, 2, 3, 4, 5, 6, 7, 8, 9, 10, 11, 12, 13, 14, 15, 16, 17] rfl
  refine va_calli (va_runV (As := []) (rest := []) ⟨hx, hb, hml, hown, hts⟩ (KX5_faultOf l dC dI0 cI cZ h5 m1 m2 m3 m4 m5 m6 m7 m8 m9 m10 m11 m12 m13 m14 m15 m16 m17 pl n dr cr lm wm rd hd sc sdN kc dkM ksM hz lB kB hB dB bB lfA rwA wlA hvA fdA chA sgA kkB hhB ddB bbB sgB H.size le (by first | assumption | omega)) (cwV 0 hts gX5_fault_X5_faultOf rfl rfl rfl (by decide +kernel) ⟨Nat.le_of_ble_eq_true rfl, Nat.le_of_ble_eq_true rfl⟩) ⟨fun a U g mk q => by obtain ⟨q0, q1, qP, qK, qD⟩ := q; exact ⟨q0, q1, qP, va_K.moved (u := U) (U := U.calling g mk a) (Vm.Alike.refl U.vm) qK, qD⟩, va_recv hK hPc (ci := 5) (q0 := 0) rfl rfl, fun U hU hW => ⟨rfl, by rw [hU], by rw [hU]; exact hPc, va_K.moved hW.alike hK, hDc.weaken (fun _ _ _ _ => trivial)⟩⟩ rfl rfl hl.1 rfl (lv_room (Nat.le_of_ble_eq_true rfl)) dX5_fault_1 ⟨Nat.le_of_ble_eq_true rfl, Nat.le_of_ble_eq_true rfl⟩) hS (fun q _ h => hFc q h) hFc (fun r1 u1 t7 H1 locs ht7 hvm7 hw1 hB hz1 hk1 hS => ?_)
  obtain ⟨hP1, hK1, hD1⟩ := hB
  rw [ht7] at hP1
  try dsimp only at hw1 hP1 hD1
  obtain ⟨hP, hD⟩ := va_join (wr := []) (w1 := [(h5, .inr (5, [.ref m1, .int (nI pl), .int (nI n), .int (nI dr), .int (nI cr), .ref m2, .ref m3, .ref m4, .ref m5, .ref m6, .int (nI lm), .ref m7, .ref m8, .int (nI wm), .int (nI rd), .ref m9, .ref m10, .int (nI hd), .ref m11, .int (nI sc), .ref m12, .int (nI sdN), .int (dI kc), .int (nI dkM), .int (nI ksM), .ref m13, .ref m14, .ref m15, .ref m16, .ref m17, .long hz])), (m1, .inl (cI, 24, .inl lB)), (m2, .inl (cI, 7, .inl kB)), (m3, .inl (cI, 7, .inl hB)), (m4, .inl (cI, 7, .inl dB)), (m5, .inl (cI, 7, .inl bB)), (m6, .inl (cI, 7, .inl lfA)), (m7, .inl (cI, 7, .inl rwA)), (m8, .inl (cI, 7, .inl wlA)), (m9, .inl (cI, 49, .inl hvA)), (m10, .inl (cI, 7, .inl fdA)), (m11, .inl (cI, 128, .inl chA)), (m12, .inl (cI, 18, .inl sgA)), (m13, .inl (cI, 7, .inl kkB)), (m14, .inl (cI, 7, .inl hhB)), (m15, .inl (cI, 7, .inl ddB)), (m16, .inl (cI, 7, .inl bbB)), (m17, .inl (cI, 18, .inl sgB))]) hP hD [0, 1, 2, 3, 4, 5, 6, 7, 8, 9, 10, 11, 12, 13, 14, 15, 16, 17] [] rfl rfl (by decide) (by decide) hk1 hFc hP1 hD1
  generalize H1 = H at hP hS ⊢
  have hP := hP.sub (ws' := [(h5, .inr (5, [.ref m1, .int (nI pl), .int (nI n), .int (nI dr), .int (nI cr), .ref m2, .ref m3, .ref m4, .ref m5, .ref m6, .int (nI lm), .ref m7, .ref m8, .int (nI wm), .int (nI rd), .ref m9, .ref m10, .int (nI hd), .ref m11, .int (nI sc), .ref m12, .int (nI sdN), .int (dI kc), .int (nI dkM), .int (nI ksM), .ref m13, .ref m14, .ref m15, .ref m16, .ref m17, .long hz])), (m1, .inl (cI, 24, .inl lB)), (m2, .inl (cI, 7, .inl kB)), (m3, .inl (cI, 7, .inl hB)), (m4, .inl (cI, 7, .inl dB)), (m5, .inl (cI, 7, .inl bB)), (m6, .inl (cI, 7, .inl lfA)), (m7, .inl (cI, 7, .inl rwA)), (m8, .inl (cI, 7, .inl wlA)), (m9, .inl (cI, 49, .inl hvA)), (m10, .inl (cI, 7, .inl fdA)), (m11, .inl (cI, 128, .inl chA)), (m12, .inl (cI, 18, .inl sgA)), (m13, .inl (cI, 7, .inl kkB)), (m14, .inl (cI, 7, .inl hhB)), (m15, .inl (cI, 7, .inl ddB)), (m16, .inl (cI, 7, .inl bbB)), (m17, .inl (cI, 18, .inl sgB))]) [0, 1, 2, 3, 4, 5, 6, 7, 8, 9, 10, 11, 12, 13, 14, 15, 16, 17] rfl
  have hD := hD.sub (ws' := [(h5, .inr (5, [.ref m1, .int (nI pl), .int (nI n), .int (nI dr), .int (nI cr), .ref m2, .ref m3, .ref m4, .ref m5, .ref m6, .int (nI lm), .ref m7, .ref m8, .int (nI wm), .int (nI rd), .ref m9, .ref m10, .int (nI hd), .ref m11, .int (nI sc), .ref m12, .int (nI sdN), .int (dI kc), .int (nI dkM), .int (nI ksM), .ref m13, .ref m14, .ref m15, .ref m16, .ref m17, .long hz])), (m1, .inl (cI, 24, .inl lB)), (m2, .inl (cI, 7, .inl kB)), (m3, .inl (cI, 7, .inl hB)), (m4, .inl (cI, 7, .inl dB)), (m5, .inl (cI, 7, .inl bB)), (m6, .inl (cI, 7, .inl lfA)), (m7, .inl (cI, 7, .inl rwA)), (m8, .inl (cI, 7, .inl wlA)), (m9, .inl (cI, 49, .inl hvA)), (m10, .inl (cI, 7, .inl fdA)), (m11, .inl (cI, 128, .inl chA)), (m12, .inl (cI, 18, .inl sgA)), (m13, .inl (cI, 7, .inl kkB)), (m14, .inl (cI, 7, .inl hhB)), (m15, .inl (cI, 7, .inl ddB)), (m16, .inl (cI, 7, .inl bbB)), (m17, .inl (cI, 18, .inl sgB))]) [0, 1, 2, 3, 4, 5, 6, 7, 8, 9, 10, 11, 12, 13, 14, 15, 16, 17] (by decide) rfl
  obtain rfl : r1 = nI (fwS pl le) := hw1
  subst hQ
  have hP9 : va_P (dC, dI0) vwCl [(h5, .inr (5, [.ref m1, .int (nI pl), .int (nI n), .int (nI dr), .int (nI cr), .ref m2, .ref m3, .ref m4, .ref m5, .ref m6, .int (nI lm), .ref m7, .ref m8, .int (nI wm), .int (nI rd), .ref m9, .ref m10, .int (nI hd), .ref m11, .int (nI sc), .ref m12, .int (nI sdN), .int (dI kc), .int (nI dkM), .int (nI ksM), .ref m13, .ref m14, .ref m15, .ref m16, .ref m17, .long hz])), (m1, .inl (cI, 24, .inl lB)), (m2, .inl (cI, 7, .inl kB)), (m3, .inl (cI, 7, .inl hB)), (m4, .inl (cI, 7, .inl dB)), (m5, .inl (cI, 7, .inl bB)), (m6, .inl (cI, 7, .inl lfA)), (m7, .inl (cI, 7, .inl rwA)), (m8, .inl (cI, 7, .inl wlA)), (m9, .inl (cI, 49, .inl hvA)), (m10, .inl (cI, 7, .inl fdA)), (m11, .inl (cI, 128, .inl chA)), (m12, .inl (cI, 18, .inl sgA)), (m13, .inl (cI, 7, .inl kkB)), (m14, .inl (cI, 7, .inl hhB)), (m15, .inl (cI, 7, .inl ddB)), (m16, .inl (cI, 7, .inl bbB)), (m17, .inl (cI, 18, .inl sgB))] H := hP
  have hD9 : va_D A [(h5, .inr (5, [.ref m1, .int (nI pl), .int (nI n), .int (nI dr), .int (nI cr), .ref m2, .ref m3, .ref m4, .ref m5, .ref m6, .int (nI lm), .ref m7, .ref m8, .int (nI wm), .int (nI rd), .ref m9, .ref m10, .int (nI hd), .ref m11, .int (nI sc), .ref m12, .int (nI sdN), .int (dI kc), .int (nI dkM), .int (nI ksM), .ref m13, .ref m14, .ref m15, .ref m16, .ref m17, .long hz])), (m1, .inl (cI, 24, .inl lB)), (m2, .inl (cI, 7, .inl kB)), (m3, .inl (cI, 7, .inl hB)), (m4, .inl (cI, 7, .inl dB)), (m5, .inl (cI, 7, .inl bB)), (m6, .inl (cI, 7, .inl lfA)), (m7, .inl (cI, 7, .inl rwA)), (m8, .inl (cI, 7, .inl wlA)), (m9, .inl (cI, 49, .inl hvA)), (m10, .inl (cI, 7, .inl fdA)), (m11, .inl (cI, 128, .inl chA)), (m12, .inl (cI, 18, .inl sgA)), (m13, .inl (cI, 7, .inl kkB)), (m14, .inl (cI, 7, .inl hhB)), (m15, .inl (cI, 7, .inl ddB)), (m16, .inl (cI, 7, .inl bbB)), (m17, .inl (cI, 18, .inl sgB))] := hD
  exact W.iret (v := nI (fwS pl le)) hx hb hr (fun t9 ht9 hW9 => ⟨⟨nI (fwS pl le), (), rfl, rfl, by rw [ht9]; exact hP9, va_K.moved hW9.alike hK, hD9⟩, hS.F ht9⟩) hS.2.2 dX5_fault_4

set_option maxHeartbeats 4000000 in
set_option maxRecDepth 100000 in
theorem KX5_company (l : Launch) (dC : Nat → ClassId) (dI0 : Nat → Nat → Nat) (cI cZ : ClassId) (h5 : Nat) (m1 : Nat) (m2 : Nat) (m3 : Nat) (m4 : Nat) (m5 : Nat) (m6 : Nat) (m7 : Nat) (m8 : Nat) (m9 : Nat) (m10 : Nat) (m11 : Nat) (m12 : Nat) (m13 : Nat) (m14 : Nat) (m15 : Nat) (m16 : Nat) (m17 : Nat) (pl : Nat) (n : Nat) (dr : Nat) (cr : Nat) (lm : Nat) (wm : Nat) (rd : Nat) (hd : Nat) (sc : Nat) (sdN : Nat) (kc : Option Nat) (dkM : Nat) (ksM : Nat) (hz : Int64) (lB : Nat → Int32) (kB : Nat → Int32) (hB : Nat → Int32) (dB : Nat → Int32) (bB : Nat → Int32) (lfA : Nat → Int32) (rwA : Nat → Int32) (wlA : Nat → Int32) (hvA : Nat → Int32) (fdA : Nat → Int32) (chA : Nat → Int32) (sgA : Nat → Int32) (kkB : Nat → Int32) (hhB : Nat → Int32) (ddB : Nat → Int32) (bbB : Nat → Int32) (sgB : Nat → Int32) (sz : Nat) (le : Nat → Nat) (k : Nat → Nat) (h : Nat → Nat) (b : Nat → Nat) (d : Nat → Option Nat) (hPg : PgR pl lB le) (hC : CoR n kB hB dB bB k h b d) : Met l yX5_company wsX5_company ({ frames := 3, cells := 0, slots := 0, locals := 68 } : Room) (va_Pc [.ref h5] (fun U => U.heap.size = sz ∧ va_P (dC, dI0) vwCl (WM cI cZ h5 m1 m2 m3 m4 m5 m6 m7 m8 m9 m10 m11 m12 m13 m14 m15 m16 m17 pl n dr cr lm wm rd hd sc sdN kc dkM ksM hz lB kB hB dB bB lfA rwA wlA hvA fdA chA sgA kkB hhB ddB bbB sgB) U.heap ∧ va_K (dC, dI0) vwCl [(cI, .int), (cZ, .boolean)] U ∧ va_D (fun _ => True) (WM cI cZ h5 m1 m2 m3 m4 m5 m6 m7 m8 m9 m10 m11 m12 m13 m14 m15 m16 m17 pl n dr cr lm wm rd hd sc sdN kc dkM ksM hz lB kB hB dB bB lfA rwA wlA hvA fdA chA sgA kkB hhB ddB bbB sgB))) (va_Qi (fun (r : Int32) (u : Nat × Nat × Nat × Nat × Nat × (Nat → Int32) × (Nat → Int32) × (Nat → Int32) × (Nat → Int32)) => r = (if icS pl le = true then nI ((pl + 1) / 3) else -103) ∧ u.1 = (if icS pl le = true then 0 else pl) ∧ u.2.1 = (if icS pl le = true then ((pl + 1) / 3) else n) ∧ u.2.2.1 = (if icS pl le = true then 0 else dr) ∧ u.2.2.2.1 = (if icS pl le = true then 0 else sc) ∧ u.2.2.2.2.1 = (if icS pl le = true then (cr + 1) else cr) ∧ CoR (if icS pl le = true then ((pl + 1) / 3) else n) u.2.2.2.2.2.1 u.2.2.2.2.2.2.1 u.2.2.2.2.2.2.2.1 u.2.2.2.2.2.2.2.2 (if icS pl le = true then (kpS le) else k) (if icS pl le = true then (hpS le) else h) (if icS pl le = true then (fun _ => 0) else b) (if icS pl le = true then (fun _ => none) else d)) (fun (u : Nat × Nat × Nat × Nat × Nat × (Nat → Int32) × (Nat → Int32) × (Nat → Int32) × (Nat → Int32)) (t : State) => va_P (dC, dI0) vwCl (WM cI cZ h5 m1 m2 m3 m4 m5 m6 m7 m8 m9 m10 m11 m12 m13 m14 m15 m16 m17 u.1 u.2.1 u.2.2.1 u.2.2.2.2.1 lm wm rd hd u.2.2.2.1 sdN kc dkM ksM hz lB u.2.2.2.2.2.1 u.2.2.2.2.2.2.1 u.2.2.2.2.2.2.2.1 u.2.2.2.2.2.2.2.2 lfA rwA wlA hvA fdA chA sgA kkB hhB ddB bbB sgB) t.heap ∧ va_K (dC, dI0) vwCl [(cI, .int), (cZ, .boolean)] t ∧ va_D (va_A (WM cI cZ h5 m1 m2 m3 m4 m5 m6 m7 m8 m9 m10 m11 m12 m13 m14 m15 m16 m17 pl n dr cr lm wm rd hd sc sdN kc dkM ksM hz lB kB hB dB bB lfA rwA wlA hvA fdA chA sgA kkB hhB ddB bbB sgB) sz) (WM cI cZ h5 m1 m2 m3 m4 m5 m6 m7 m8 m9 m10 m11 m12 m13 m14 m15 m16 m17 u.1 u.2.1 u.2.2.1 u.2.2.2.2.1 lm wm rd hd u.2.2.2.1 sdN kc dkM ksM hz lB u.2.2.2.2.2.1 u.2.2.2.2.2.2.1 u.2.2.2.2.2.2.2.1 u.2.2.2.2.2.2.2.2 lfA rwA wlA hvA fdA chA sgA kkB hhB ddB bbB sgB)) (va_A (WM cI cZ h5 m1 m2 m3 m4 m5 m6 m7 m8 m9 m10 m11 m12 m13 m14 m15 m16 m17 pl n dr cr lm wm rd hd sc sdN kc dkM ksM hz lB kB hB dB bB lfA rwA wlA hvA fdA chA sgA kkB hhB ddB bbB sgB) sz)) 0 0 (va_A (WM cI cZ h5 m1 m2 m3 m4 m5 m6 m7 m8 m9 m10 m11 m12 m13 m14 m15 m16 m17 pl n dr cr lm wm rd hd sc sdN kc dkM ksM hz lB kB hB dB bB lfA rwA wlA hvA fdA chA sgA kkB hhB ddB bbB sgB) sz) := by
  refine Met.ofW (cc := cX5_company) (maxL := 2) (ret := (some .int)) (by decide) rfl ?_
  intro prg env s m args below meth c s₁ B hml hv
  obtain ⟨rfl, hsz, hP, hK, hD0⟩ := hv
  have hx := B.exec
  have hb := B.bytes
  have hr := B.returns
  have hts := atoms_spec (ws := wsX5_company) B.pre
  have hown : s.vm.findClass RX5 = some m.cls := findClass_of_methodNamed B.named
  have hlocks := B.notSynchronized
  subst hsz
  have hD := hD0.self (sz := s.heap.size)
  generalize hAe : va_A (WM cI cZ h5 m1 m2 m3 m4 m5 m6 m7 m8 m9 m10 m11 m12 m13 m14 m15 m16 m17 pl n dr cr lm wm rd hd sc sdN kc dkM ksM hz lB kB hB dB bB lfA rwA wlA hvA fdA chA sgA kkB hhB ddB bbB sgB) s.heap.size = A at hD ⊢
  have hA : ∀ q : Nat, s.heap.size ≤ q → A q := fun q h => by rw [← hAe]; exact Or.inr h
  have hS : va_S A s.heap s.heap [] := va_S.rf
  have hP : va_P (dC, dI0) vwCl [(h5, .inr (5, [.ref m1, .int (nI pl), .int (nI n), .int (nI dr), .int (nI cr), .ref m2, .ref m3, .ref m4, .ref m5, .ref m6, .int (nI lm), .ref m7, .ref m8, .int (nI wm), .int (nI rd), .ref m9, .ref m10, .int (nI hd), .ref m11, .int (nI sc), .ref m12, .int (nI sdN), .int (dI kc), .int (nI dkM), .int (nI ksM), .ref m13, .ref m14, .ref m15, .ref m16, .ref m17, .long hz])), (m1, .inl (cI, 24, .inl lB)), (m2, .inl (cI, 7, .inl kB)), (m3, .inl (cI, 7, .inl hB)), (m4, .inl (cI, 7, .inl dB)), (m5, .inl (cI, 7, .inl bB)), (m6, .inl (cI, 7, .inl lfA)), (m7, .inl (cI, 7, .inl rwA)), (m8, .inl (cI, 7, .inl wlA)), (m9, .inl (cI, 49, .inl hvA)), (m10, .inl (cI, 7, .inl fdA)), (m11, .inl (cI, 128, .inl chA)), (m12, .inl (cI, 18, .inl sgA)), (m13, .inl (cI, 7, .inl kkB)), (m14, .inl (cI, 7, .inl hhB)), (m15, .inl (cI, 7, .inl ddB)), (m16, .inl (cI, 7, .inl bbB)), (m17, .inl (cI, 18, .inl sgB))] s.heap := hP
  have hD : va_D A [(h5, .inr (5, [.ref m1, .int (nI pl), .int (nI n), .int (nI dr), .int (nI cr), .ref m2, .ref m3, .ref m4, .ref m5, .ref m6, .int (nI lm), .ref m7, .ref m8, .int (nI wm), .int (nI rd), .ref m9, .ref m10, .int (nI hd), .ref m11, .int (nI sc), .ref m12, .int (nI sdN), .int (dI kc), .int (nI dkM), .int (nI ksM), .ref m13, .ref m14, .ref m15, .ref m16, .ref m17, .long hz])), (m1, .inl (cI, 24, .inl lB)), (m2, .inl (cI, 7, .inl kB)), (m3, .inl (cI, 7, .inl hB)), (m4, .inl (cI, 7, .inl dB)), (m5, .inl (cI, 7, .inl bB)), (m6, .inl (cI, 7, .inl lfA)), (m7, .inl (cI, 7, .inl rwA)), (m8, .inl (cI, 7, .inl wlA)), (m9, .inl (cI, 49, .inl hvA)), (m10, .inl (cI, 7, .inl fdA)), (m11, .inl (cI, 128, .inl chA)), (m12, .inl (cI, 18, .inl sgA)), (m13, .inl (cI, 7, .inl kkB)), (m14, .inl (cI, 7, .inl hhB)), (m15, .inl (cI, 7, .inl ddB)), (m16, .inl (cI, 7, .inl bbB)), (m17, .inl (cI, 18, .inl sgB))] := hD
  have hl := lv_entry ([.ref h5]) (n := 2) (Nat.le_of_ble_eq_true rfl)
  rw [lg_entry_eq]
  generalize (lg_sl ([.ref h5]) ++ List.replicate (2 - (lg_sl ([.ref h5])).length) Slot.unset).toArray = ls at hl ⊢
  have hl : lv_has ls 2 [(0, .ref h5)] := hl
  obtain ⟨H, hH⟩ : ∃ H : Heap, H = s.heap := ⟨_, rfl⟩
  rw [← hH] at hP ⊢
  have hS : va_S A s.heap H [] := by rw [hH]; exact hS
  refine w_gen (fun Q hQ => ?_)
  have hin_X5 : ∀ w ∈ wsX50, w ∈ wsX5_company := by decide +kernel
  have hf71 := hts (.fieldLink RX5 71 "HatNamesModel" "pageMany" "I") (by decide +kernel)
  have hf90 := hts (.fieldLink RX5 90 "HatNamesModel" "persons" "I") (by decide +kernel)
  have hf93 := hts (.fieldLink RX5 93 "HatNamesModel" "draws" "I") (by decide +kernel)
  have hf96 := hts (.fieldLink RX5 96 "HatNamesModel" "seenMany" "I") (by decide +kernel)
  have hf99 := hts (.fieldLink RX5 99 "HatNamesModel" "companiesRead" "I") (by decide +kernel)
  have hf13 := hts (.fieldLink RX5 13 "HatNamesModel" "kinds" "[I") (by decide +kernel)
  have hf7 := hts (.fieldLink RX5 7 "HatNamesModel" "page" "[I") (by decide +kernel)
  have hf16 := hts (.fieldLink RX5 16 "HatNamesModel" "houses" "[I") (by decide +kernel)
  have hf19 := hts (.fieldLink RX5 19 "HatNamesModel" "has" "[I") (by decide +kernel)
  have hf22 := hts (.fieldLink RX5 22 "HatNamesModel" "bars" "[I") (by decide +kernel)
  obtain ⟨hpl, hle⟩ := id hPg
  obtain ⟨hn7, hkk, hhh, hbb, hdd, hdn, hdi⟩ := id hC
  have h2p := Nat.two_pow_pos n
  have h2e := ev_le hn7
  refine lv_aload_n hx hb dX5_company_0 rfl (lv_at hl 0 rfl) ?_
  refine va_get (D := (dC, dI0)) (ci := 5) (v := .int (nI pl)) (C := RX5) (T := TX5) (N := 31) hx hb hts hin_X5 hown hK hP 0 rfl rfl 1 (by decide) hf71 (fun _ h9 => h9) rfl dX5_company_1 ?_
  refine lv_iconst (v := nI 5) hx hb dX5_company_4 (by decide) ?_
  refine lv_icmp_lt (tgt := 29) hx hb dX5_company_5 (by decide) (fun c5 => ?_) (fun c5 => ?_)
  ·
    have c5 : pl < 5 := (nI_ltI (a := pl) (b := 5) (by omega) (by omega)).mp c5
    refine lv_bipush (v := (-103)) hx hb dX5_company_29 (by decide) ?_
    subst hQ
    have hP9 : va_P (dC, dI0) vwCl [(h5, .inr (5, [.ref m1, .int (nI pl), .int (nI n), .int (nI dr), .int (nI cr), .ref m2, .ref m3, .ref m4, .ref m5, .ref m6, .int (nI lm), .ref m7, .ref m8, .int (nI wm), .int (nI rd), .ref m9, .ref m10, .int (nI hd), .ref m11, .int (nI sc), .ref m12, .int (nI sdN), .int (dI kc), .int (nI dkM), .int (nI ksM), .ref m13, .ref m14, .ref m15, .ref m16, .ref m17, .long hz])), (m1, .inl (cI, 24, .inl lB)), (m2, .inl (cI, 7, .inl kB)), (m3, .inl (cI, 7, .inl hB)), (m4, .inl (cI, 7, .inl dB)), (m5, .inl (cI, 7, .inl bB)), (m6, .inl (cI, 7, .inl lfA)), (m7, .inl (cI, 7, .inl rwA)), (m8, .inl (cI, 7, .inl wlA)), (m9, .inl (cI, 49, .inl hvA)), (m10, .inl (cI, 7, .inl fdA)), (m11, .inl (cI, 128, .inl chA)), (m12, .inl (cI, 18, .inl sgA)), (m13, .inl (cI, 7, .inl kkB)), (m14, .inl (cI, 7, .inl hhB)), (m15, .inl (cI, 7, .inl ddB)), (m16, .inl (cI, 7, .inl bbB)), (m17, .inl (cI, 18, .inl sgB))] H := hP
    have hD9 : va_D A [(h5, .inr (5, [.ref m1, .int (nI pl), .int (nI n), .int (nI dr), .int (nI cr), .ref m2, .ref m3, .ref m4, .ref m5, .ref m6, .int (nI lm), .ref m7, .ref m8, .int (nI wm), .int (nI rd), .ref m9, .ref m10, .int (nI hd), .ref m11, .int (nI sc), .ref m12, .int (nI sdN), .int (dI kc), .int (nI dkM), .int (nI ksM), .ref m13, .ref m14, .ref m15, .ref m16, .ref m17, .long hz])), (m1, .inl (cI, 24, .inl lB)), (m2, .inl (cI, 7, .inl kB)), (m3, .inl (cI, 7, .inl hB)), (m4, .inl (cI, 7, .inl dB)), (m5, .inl (cI, 7, .inl bB)), (m6, .inl (cI, 7, .inl lfA)), (m7, .inl (cI, 7, .inl rwA)), (m8, .inl (cI, 7, .inl wlA)), (m9, .inl (cI, 49, .inl hvA)), (m10, .inl (cI, 7, .inl fdA)), (m11, .inl (cI, 128, .inl chA)), (m12, .inl (cI, 18, .inl sgA)), (m13, .inl (cI, 7, .inl kkB)), (m14, .inl (cI, 7, .inl hhB)), (m15, .inl (cI, 7, .inl ddB)), (m16, .inl (cI, 7, .inl bbB)), (m17, .inl (cI, 18, .inl sgB))] := hD
    exact W.iret (v := (-103)) hx hb hr (fun t9 ht9 hW9 => ⟨⟨(-103), (pl, n, dr, sc, cr, kB, hB, dB, bB), rfl, by
      have h1 : ¬ icS pl le = true := fun z => by have := icS_of z; omega
      simp only [if_neg h1]
      exact ⟨trivial, trivial, trivial, trivial, trivial, trivial, hC⟩, by rw [ht9]; exact hP9, va_K.moved hW9.alike hK, hD9⟩, hS.F ht9⟩) hS.2.2 dX5_company_31
  have c5 : ¬ pl < 5 := fun z => c5 ((nI_ltI (a := pl) (b := 5) (by omega) (by omega)).mpr z)
  refine lv_aload_n hx hb dX5_company_8 rfl (lv_at hl 0 rfl) ?_
  refine va_get (D := (dC, dI0)) (ci := 5) (v := .int (nI pl)) (C := RX5) (T := TX5) (N := 31) hx hb hts hin_X5 hown hK hP 0 rfl rfl 1 (by decide) hf71 (fun _ h9 => h9) rfl dX5_company_9 ?_
  refine lv_iconst (v := nI 3) hx hb dX5_company_12 (by decide) ?_
  refine lv_irem hx hb dX5_company_13 (by decide) ?_
  refine lv_topi (fun x13 e13 => ?_)
  obtain rfl : x13 = nI (pl % 3) := e13.trans (pk_rem (by omega) (by omega) (by omega))
  refine lv_iconst (v := nI 2) hx hb dX5_company_14 (by decide) ?_
  refine lv_icmp_ne (tgt := 29) hx hb dX5_company_15 (by decide) (fun c15 => ?_) (fun c15 => ?_)
  ·
    have c15 : ¬ (pl % 3) = 2 := fun z => c15 ((nI_eq (a := (pl % 3)) (b := 2) (by omega) (by omega)).mpr z)
    refine lv_bipush (v := (-103)) hx hb dX5_company_29 (by decide) ?_
    subst hQ
    have hP9 : va_P (dC, dI0) vwCl [(h5, .inr (5, [.ref m1, .int (nI pl), .int (nI n), .int (nI dr), .int (nI cr), .ref m2, .ref m3, .ref m4, .ref m5, .ref m6, .int (nI lm), .ref m7, .ref m8, .int (nI wm), .int (nI rd), .ref m9, .ref m10, .int (nI hd), .ref m11, .int (nI sc), .ref m12, .int (nI sdN), .int (dI kc), .int (nI dkM), .int (nI ksM), .ref m13, .ref m14, .ref m15, .ref m16, .ref m17, .long hz])), (m1, .inl (cI, 24, .inl lB)), (m2, .inl (cI, 7, .inl kB)), (m3, .inl (cI, 7, .inl hB)), (m4, .inl (cI, 7, .inl dB)), (m5, .inl (cI, 7, .inl bB)), (m6, .inl (cI, 7, .inl lfA)), (m7, .inl (cI, 7, .inl rwA)), (m8, .inl (cI, 7, .inl wlA)), (m9, .inl (cI, 49, .inl hvA)), (m10, .inl (cI, 7, .inl fdA)), (m11, .inl (cI, 128, .inl chA)), (m12, .inl (cI, 18, .inl sgA)), (m13, .inl (cI, 7, .inl kkB)), (m14, .inl (cI, 7, .inl hhB)), (m15, .inl (cI, 7, .inl ddB)), (m16, .inl (cI, 7, .inl bbB)), (m17, .inl (cI, 18, .inl sgB))] H := hP
    have hD9 : va_D A [(h5, .inr (5, [.ref m1, .int (nI pl), .int (nI n), .int (nI dr), .int (nI cr), .ref m2, .ref m3, .ref m4, .ref m5, .ref m6, .int (nI lm), .ref m7, .ref m8, .int (nI wm), .int (nI rd), .ref m9, .ref m10, .int (nI hd), .ref m11, .int (nI sc), .ref m12, .int (nI sdN), .int (dI kc), .int (nI dkM), .int (nI ksM), .ref m13, .ref m14, .ref m15, .ref m16, .ref m17, .long hz])), (m1, .inl (cI, 24, .inl lB)), (m2, .inl (cI, 7, .inl kB)), (m3, .inl (cI, 7, .inl hB)), (m4, .inl (cI, 7, .inl dB)), (m5, .inl (cI, 7, .inl bB)), (m6, .inl (cI, 7, .inl lfA)), (m7, .inl (cI, 7, .inl rwA)), (m8, .inl (cI, 7, .inl wlA)), (m9, .inl (cI, 49, .inl hvA)), (m10, .inl (cI, 7, .inl fdA)), (m11, .inl (cI, 128, .inl chA)), (m12, .inl (cI, 18, .inl sgA)), (m13, .inl (cI, 7, .inl kkB)), (m14, .inl (cI, 7, .inl hhB)), (m15, .inl (cI, 7, .inl ddB)), (m16, .inl (cI, 7, .inl bbB)), (m17, .inl (cI, 18, .inl sgB))] := hD
    exact W.iret (v := (-103)) hx hb hr (fun t9 ht9 hW9 => ⟨⟨(-103), (pl, n, dr, sc, cr, kB, hB, dB, bB), rfl, by
      have h1 : ¬ icS pl le = true := fun z => by have := icS_of z; omega
      simp only [if_neg h1]
      exact ⟨trivial, trivial, trivial, trivial, trivial, trivial, hC⟩, by rw [ht9]; exact hP9, va_K.moved hW9.alike hK, hD9⟩, hS.F ht9⟩) hS.2.2 dX5_company_31
  have c15 : (pl % 3) = 2 := (nI_eq (a := (pl % 3)) (b := 2) (by omega) (by omega)).mp c15
  refine lv_aload_n hx hb dX5_company_18 rfl (lv_at hl 0 rfl) ?_
  have hPc := hP.sub (ws' := [(h5, .inr (5, [.ref m1, .int (nI pl), .int (nI n), .int (nI dr), .int (nI cr), .ref m2, .ref m3, .ref m4, .ref m5, .ref m6, .int (nI lm), .ref m7, .ref m8, .int (nI wm), .int (nI rd), .ref m9, .ref m10, .int (nI hd), .ref m11, .int (nI sc), .ref m12, .int (nI sdN), .int (dI kc), .int (nI dkM), .int (nI ksM), .ref m13, .ref m14, .ref m15, .ref m16, .ref m17, .long hz])), (m1, .inl (cI, 24, .inl lB)), (m2, .inl (cI, 7, .inl kB)), (m3, .inl (cI, 7, .inl hB)), (m4, .inl (cI, 7, .inl dB)), (m5, .inl (cI, 7, .inl bB)), (m6, .inl (cI, 7, .inl lfA)), (m7, .inl (cI, 7, .inl rwA)), (m8, .inl (cI, 7, .inl wlA)), (m9, .inl (cI, 49, .inl hvA)), (m10, .inl (cI, 7, .inl fdA)), (m11, .inl (cI, 128, .inl chA)), (m12, .inl (cI, 18, .inl sgA)), (m13, .inl (cI, 7, .inl kkB)), (m14, .inl (cI, 7, .inl hhB)), (m15, .inl (cI, 7, .inl ddB)), (m16, .inl (cI, 7, .inl bbB)), (m17, .inl (cI, 18, .inl sgB))]) [0, 1, 2, 3, 4, 5, 6, 7, 8, 9, 10, 11, 12, 13, 14, 15, 16, 17] rfl
  have hDc := hD.sub (ws' := [(h5, .inr (5, [.ref m1, .int (nI pl), .int (nI n), .int (nI dr), .int (nI cr), .ref m2, .ref m3, .ref m4, .ref m5, .ref m6, .int (nI lm), .ref m7, .ref m8, .int (nI wm), .int (nI rd), .ref m9, .ref m10, .int (nI hd), .ref m11, .int (nI sc), .ref m12, .int (nI sdN), .int (dI kc), .int (nI dkM), .int (nI ksM), .ref m13, .ref m14, .ref m15, .ref m16, .ref m17, .long hz])), (m1, .inl (cI, 24, .inl lB)), (m2, .inl (cI, 7, .inl kB)), (m3, .inl (cI, 7, .inl hB)), (m4, .inl (cI, 7, .inl dB)), (m5, .inl (cI, 7, .inl bB)), (m6, .inl (cI, 7, .inl lfA)), (m7, .inl (cI, 7, .inl rwA)), (m8, .inl (cI, 7, .inl wlA)), (m9, .inl (cI, 49, .inl hvA)), (m10, .inl (cI, 7, .inl fdA)), (m11, .inl (cI, 128, .inl chA)), (m12, .inl (cI, 18, .inl sgA)), (m13, .inl (cI, 7, .inl kkB)), (m14, .inl (cI, 7, .inl hhB)), (m15, .inl (cI, 7, .inl ddB)), (m16, .inl (cI, 7, .inl bbB)), (m17, .inl (cI, 18, .inl sgB))]) [0, 1, 2, 3, 4, 5, 6, 7, 8, 9, 10, 11, 12, 13, 14, 15, 16, 17] (by decide) rfl
  have hFc := va_free (wc := [(h5, .inr (5, [.ref m1, .int (nI pl), .int (nI n), .int (nI dr), .int (nI cr), .ref m2, .ref m3, .ref m4, .ref m5, .ref m6, .int (nI lm), .ref m7, .ref m8, .int (nI wm), .int (nI rd), .ref m9, .ref m10, .int (nI hd), .ref m11, .int (nI sc), .ref m12, .int (nI sdN), .int (dI kc), .int (nI dkM), .int (nI ksM), .ref m13, .ref m14, .ref m15, .ref m16, .ref m17, .long hz])), (m1, .inl (cI, 24, .inl lB)), (m2, .inl (cI, 7, .inl kB)), (m3, .inl (cI, 7, .inl hB)), (m4, .inl (cI, 7, .inl dB)), (m5, .inl (cI, 7, .inl bB)), (m6, .inl (cI, 7, .inl lfA)), (m7, .inl (cI, 7, .inl rwA)), (m8, .inl (cI, 7, .inl wlA)), (m9, .inl (cI, 49, .inl hvA)), (m10, .inl (cI, 7, .inl fdA)), (m11, .inl (cI, 128, .inl chA)), (m12, .inl (cI, 18, .inl sgA)), (m13, .inl (cI, 7, .inl kkB)), (m14, .inl (cI, 7, .inl hhB)), (m15, .inl (cI, 7, .inl ddB)), (m16, .inl (cI, 7, .inl bbB)), (m17, .inl (cI, 18, .inl sgB))]) hD hS hA [0, 1, 2, 3, 4, 5, 6, 7, 8, 9, 10, 11, 12, 13, 14, 15, 16, 17] rfl
  refine va_calli (va_runV (As := []) (rest := []) ⟨hx, hb, hml, hown, hts⟩ (KX5_faultOf l dC dI0 cI cZ h5 m1 m2 m3 m4 m5 m6 m7 m8 m9 m10 m11 m12 m13 m14 m15 m16 m17 pl n dr cr lm wm rd hd sc sdN kc dkM ksM hz lB kB hB dB bB lfA rwA wlA hvA fdA chA sgA kkB hhB ddB bbB sgB H.size le (by first | assumption | omega)) (cwV 0 hts gX5_company_X5_faultOf rfl rfl rfl (by decide +kernel) ⟨Nat.le_of_ble_eq_true rfl, Nat.le_of_ble_eq_true rfl⟩) ⟨fun a U g mk q => by obtain ⟨q0, q1, qP, qK, qD⟩ := q; exact ⟨q0, q1, qP, va_K.moved (u := U) (U := U.calling g mk a) (Vm.Alike.refl U.vm) qK, qD⟩, va_recv hK hPc (ci := 5) (q0 := 0) rfl rfl, fun U hU hW => ⟨rfl, by rw [hU], by rw [hU]; exact hPc, va_K.moved hW.alike hK, hDc.weaken (fun _ _ _ _ => trivial)⟩⟩ rfl rfl hl.1 rfl (lv_room (Nat.le_of_ble_eq_true rfl)) dX5_company_19 ⟨Nat.le_of_ble_eq_true rfl, Nat.le_of_ble_eq_true rfl⟩) hS (fun q _ h => hFc q h) hFc (fun r19 u19 t7 H1 locs ht7 hvm7 hw19 hB hz1 hk1 hS => ?_)
  obtain ⟨hP1, hK1, hD1⟩ := hB
  rw [ht7] at hP1
  try dsimp only at hw19 hP1 hD1
  obtain ⟨hP, hD⟩ := va_join (wr := []) (w1 := [(h5, .inr (5, [.ref m1, .int (nI pl), .int (nI n), .int (nI dr), .int (nI cr), .ref m2, .ref m3, .ref m4, .ref m5, .ref m6, .int (nI lm), .ref m7, .ref m8, .int (nI wm), .int (nI rd), .ref m9, .ref m10, .int (nI hd), .ref m11, .int (nI sc), .ref m12, .int (nI sdN), .int (dI kc), .int (nI dkM), .int (nI ksM), .ref m13, .ref m14, .ref m15, .ref m16, .ref m17, .long hz])), (m1, .inl (cI, 24, .inl lB)), (m2, .inl (cI, 7, .inl kB)), (m3, .inl (cI, 7, .inl hB)), (m4, .inl (cI, 7, .inl dB)), (m5, .inl (cI, 7, .inl bB)), (m6, .inl (cI, 7, .inl lfA)), (m7, .inl (cI, 7, .inl rwA)), (m8, .inl (cI, 7, .inl wlA)), (m9, .inl (cI, 49, .inl hvA)), (m10, .inl (cI, 7, .inl fdA)), (m11, .inl (cI, 128, .inl chA)), (m12, .inl (cI, 18, .inl sgA)), (m13, .inl (cI, 7, .inl kkB)), (m14, .inl (cI, 7, .inl hhB)), (m15, .inl (cI, 7, .inl ddB)), (m16, .inl (cI, 7, .inl bbB)), (m17, .inl (cI, 18, .inl sgB))]) hP hD [0, 1, 2, 3, 4, 5, 6, 7, 8, 9, 10, 11, 12, 13, 14, 15, 16, 17] [] rfl rfl (by decide) (by decide) hk1 hFc hP1 hD1
  generalize H1 = H at hP hS ⊢
  have hP := hP.sub (ws' := [(h5, .inr (5, [.ref m1, .int (nI pl), .int (nI n), .int (nI dr), .int (nI cr), .ref m2, .ref m3, .ref m4, .ref m5, .ref m6, .int (nI lm), .ref m7, .ref m8, .int (nI wm), .int (nI rd), .ref m9, .ref m10, .int (nI hd), .ref m11, .int (nI sc), .ref m12, .int (nI sdN), .int (dI kc), .int (nI dkM), .int (nI ksM), .ref m13, .ref m14, .ref m15, .ref m16, .ref m17, .long hz])), (m1, .inl (cI, 24, .inl lB)), (m2, .inl (cI, 7, .inl kB)), (m3, .inl (cI, 7, .inl hB)), (m4, .inl (cI, 7, .inl dB)), (m5, .inl (cI, 7, .inl bB)), (m6, .inl (cI, 7, .inl lfA)), (m7, .inl (cI, 7, .inl rwA)), (m8, .inl (cI, 7, .inl wlA)), (m9, .inl (cI, 49, .inl hvA)), (m10, .inl (cI, 7, .inl fdA)), (m11, .inl (cI, 128, .inl chA)), (m12, .inl (cI, 18, .inl sgA)), (m13, .inl (cI, 7, .inl kkB)), (m14, .inl (cI, 7, .inl hhB)), (m15, .inl (cI, 7, .inl ddB)), (m16, .inl (cI, 7, .inl bbB)), (m17, .inl (cI, 18, .inl sgB))]) [0, 1, 2, 3, 4, 5, 6, 7, 8, 9, 10, 11, 12, 13, 14, 15, 16, 17] rfl
  have hD := hD.sub (ws' := [(h5, .inr (5, [.ref m1, .int (nI pl), .int (nI n), .int (nI dr), .int (nI cr), .ref m2, .ref m3, .ref m4, .ref m5, .ref m6, .int (nI lm), .ref m7, .ref m8, .int (nI wm), .int (nI rd), .ref m9, .ref m10, .int (nI hd), .ref m11, .int (nI sc), .ref m12, .int (nI sdN), .int (dI kc), .int (nI dkM), .int (nI ksM), .ref m13, .ref m14, .ref m15, .ref m16, .ref m17, .long hz])), (m1, .inl (cI, 24, .inl lB)), (m2, .inl (cI, 7, .inl kB)), (m3, .inl (cI, 7, .inl hB)), (m4, .inl (cI, 7, .inl dB)), (m5, .inl (cI, 7, .inl bB)), (m6, .inl (cI, 7, .inl lfA)), (m7, .inl (cI, 7, .inl rwA)), (m8, .inl (cI, 7, .inl wlA)), (m9, .inl (cI, 49, .inl hvA)), (m10, .inl (cI, 7, .inl fdA)), (m11, .inl (cI, 128, .inl chA)), (m12, .inl (cI, 18, .inl sgA)), (m13, .inl (cI, 7, .inl kkB)), (m14, .inl (cI, 7, .inl hhB)), (m15, .inl (cI, 7, .inl ddB)), (m16, .inl (cI, 7, .inl bbB)), (m17, .inl (cI, 18, .inl sgB))]) [0, 1, 2, 3, 4, 5, 6, 7, 8, 9, 10, 11, 12, 13, 14, 15, 16, 17] (by decide) rfl
  obtain rfl : r19 = nI (fwS pl le) := hw19
  have hfl := fwS_le pl le
  refine lv_aload_n hx hb dX5_company_22 rfl (lv_at hl 0 rfl) ?_
  refine va_get (D := (dC, dI0)) (ci := 5) (v := .int (nI pl)) (C := RX5) (T := TX5) (N := 31) hx hb hts hin_X5 hown hK hP 0 rfl rfl 1 (by decide) hf71 (fun _ h9 => h9) rfl dX5_company_23 ?_
  refine lv_icmp_ge (tgt := 32) hx hb dX5_company_26 (by decide) (fun c26 => ?_) (fun c26 => ?_)
  ·
    have c26 : pl ≤ (fwS pl le) := (nI_leI (a := pl) (b := (fwS pl le)) (by omega) (by omega)).mp c26
    have hfw : fwS pl le = pl := by omega
    have hic : icS pl le = true := decide_eq_true ⟨by omega, by omega, hfw⟩
    have hfit := fwS_all hfw
    have hpl20 := ic_20 (by omega) hfw
    refine lv_aload_n hx hb dX5_company_32 rfl (lv_at hl 0 rfl) ?_
    refine lv_aload_n hx hb dX5_company_33 rfl (lv_at hl 0 rfl) ?_
    refine va_get (D := (dC, dI0)) (ci := 5) (v := .int (nI pl)) (C := RX5) (T := TX5) (N := 31) hx hb hts hin_X5 hown hK hP 0 rfl rfl 1 (by decide) hf71 (fun _ h9 => h9) rfl dX5_company_34 ?_
    refine lv_iconst (v := nI 1) hx hb dX5_company_37 (by decide) ?_
    refine lv_iadd hx hb dX5_company_38 ?_
    refine lv_topi (fun x38 e38 => ?_)
    obtain rfl : x38 = nI (pl + 1) := e38.trans (nI_add _ _)
    refine lv_iconst (v := nI 3) hx hb dX5_company_39 (by decide) ?_
    refine lv_idiv hx hb dX5_company_40 (by decide) ?_
    refine lv_topi (fun x40 e40 => ?_)
    obtain rfl : x40 = nI ((pl + 1) / 3) := e40.trans (pk_div (by omega) (by omega) (by omega))
    refine va_put (D := (dC, dI0)) (ci := 5) (v := .int (nI ((pl + 1) / 3))) (ty := .int) (C := RX5) (T := TX5) (N := 31) hx hb hts hin_X5 tyX5 tyX5_ok nmX5 hown hK hP hD hS 0 rfl rfl 2 (by decide) hf90 (fun _ h9 => h9) rfl (by decide +kernel) rfl rfl (Nat.le_of_ble_eq_true rfl) dX5_company_41 (fun H locs hP hD hS => ?_)
    have hP : va_P (dC, dI0) vwCl [(h5, .inr (5, [.ref m1, .int (nI pl), .int (nI ((pl + 1) / 3)), .int (nI dr), .int (nI cr), .ref m2, .ref m3, .ref m4, .ref m5, .ref m6, .int (nI lm), .ref m7, .ref m8, .int (nI wm), .int (nI rd), .ref m9, .ref m10, .int (nI hd), .ref m11, .int (nI sc), .ref m12, .int (nI sdN), .int (dI kc), .int (nI dkM), .int (nI ksM), .ref m13, .ref m14, .ref m15, .ref m16, .ref m17, .long hz])), (m1, .inl (cI, 24, .inl lB)), (m2, .inl (cI, 7, .inl kB)), (m3, .inl (cI, 7, .inl hB)), (m4, .inl (cI, 7, .inl dB)), (m5, .inl (cI, 7, .inl bB)), (m6, .inl (cI, 7, .inl lfA)), (m7, .inl (cI, 7, .inl rwA)), (m8, .inl (cI, 7, .inl wlA)), (m9, .inl (cI, 49, .inl hvA)), (m10, .inl (cI, 7, .inl fdA)), (m11, .inl (cI, 128, .inl chA)), (m12, .inl (cI, 18, .inl sgA)), (m13, .inl (cI, 7, .inl kkB)), (m14, .inl (cI, 7, .inl hhB)), (m15, .inl (cI, 7, .inl ddB)), (m16, .inl (cI, 7, .inl bbB)), (m17, .inl (cI, 18, .inl sgB))] H := hP
    have hD : va_D A [(h5, .inr (5, [.ref m1, .int (nI pl), .int (nI ((pl + 1) / 3)), .int (nI dr), .int (nI cr), .ref m2, .ref m3, .ref m4, .ref m5, .ref m6, .int (nI lm), .ref m7, .ref m8, .int (nI wm), .int (nI rd), .ref m9, .ref m10, .int (nI hd), .ref m11, .int (nI sc), .ref m12, .int (nI sdN), .int (dI kc), .int (nI dkM), .int (nI ksM), .ref m13, .ref m14, .ref m15, .ref m16, .ref m17, .long hz])), (m1, .inl (cI, 24, .inl lB)), (m2, .inl (cI, 7, .inl kB)), (m3, .inl (cI, 7, .inl hB)), (m4, .inl (cI, 7, .inl dB)), (m5, .inl (cI, 7, .inl bB)), (m6, .inl (cI, 7, .inl lfA)), (m7, .inl (cI, 7, .inl rwA)), (m8, .inl (cI, 7, .inl wlA)), (m9, .inl (cI, 49, .inl hvA)), (m10, .inl (cI, 7, .inl fdA)), (m11, .inl (cI, 128, .inl chA)), (m12, .inl (cI, 18, .inl sgA)), (m13, .inl (cI, 7, .inl kkB)), (m14, .inl (cI, 7, .inl hhB)), (m15, .inl (cI, 7, .inl ddB)), (m16, .inl (cI, 7, .inl bbB)), (m17, .inl (cI, 18, .inl sgB))] := hD
    refine lv_iconst (v := nI 0) hx hb dX5_company_44 (by decide) ?_
    refine lv_istore_n (lv' := [(1, .int (nI 0)), (0, .ref h5)]) hx hb dX5_company_45 rfl hl (by decide) rfl (fun ls hl => ?_)
    have L46 : ∀ (fu : Nat) (i : Nat) (g1 : Nat → Int32) (g2 : Nat → Int32) (g3 : Nat → Int32) (g4 : Nat → Int32), i ≤ (pl + 1) / 3 → (∀ p, p < i → g1 p = nI (kpS le p)) → (∀ p, p < i → g2 p = nI (hpS le p)) → (∀ p, p < i → g3 p = -1) → (∀ p, p < i → g4 p = 0) → (pl + 1) / 3 - i < fu → ∀ (H : Heap) (locs : List Loc), va_P (dC, dI0) vwCl [(h5, .inr (5, [.ref m1, .int (nI pl), .int (nI ((pl + 1) / 3)), .int (nI dr), .int (nI cr), .ref m2, .ref m3, .ref m4, .ref m5, .ref m6, .int (nI lm), .ref m7, .ref m8, .int (nI wm), .int (nI rd), .ref m9, .ref m10, .int (nI hd), .ref m11, .int (nI sc), .ref m12, .int (nI sdN), .int (dI kc), .int (nI dkM), .int (nI ksM), .ref m13, .ref m14, .ref m15, .ref m16, .ref m17, .long hz])), (m1, .inl (cI, 24, .inl lB)), (m2, .inl (cI, 7, .inl g1)), (m3, .inl (cI, 7, .inl g2)), (m4, .inl (cI, 7, .inl g3)), (m5, .inl (cI, 7, .inl g4)), (m6, .inl (cI, 7, .inl lfA)), (m7, .inl (cI, 7, .inl rwA)), (m8, .inl (cI, 7, .inl wlA)), (m9, .inl (cI, 49, .inl hvA)), (m10, .inl (cI, 7, .inl fdA)), (m11, .inl (cI, 128, .inl chA)), (m12, .inl (cI, 18, .inl sgA)), (m13, .inl (cI, 7, .inl kkB)), (m14, .inl (cI, 7, .inl hhB)), (m15, .inl (cI, 7, .inl ddB)), (m16, .inl (cI, 7, .inl bbB)), (m17, .inl (cI, 18, .inl sgB))] H → va_D A [(h5, .inr (5, [.ref m1, .int (nI pl), .int (nI ((pl + 1) / 3)), .int (nI dr), .int (nI cr), .ref m2, .ref m3, .ref m4, .ref m5, .ref m6, .int (nI lm), .ref m7, .ref m8, .int (nI wm), .int (nI rd), .ref m9, .ref m10, .int (nI hd), .ref m11, .int (nI sc), .ref m12, .int (nI sdN), .int (dI kc), .int (nI dkM), .int (nI ksM), .ref m13, .ref m14, .ref m15, .ref m16, .ref m17, .long hz])), (m1, .inl (cI, 24, .inl lB)), (m2, .inl (cI, 7, .inl g1)), (m3, .inl (cI, 7, .inl g2)), (m4, .inl (cI, 7, .inl g3)), (m5, .inl (cI, 7, .inl g4)), (m6, .inl (cI, 7, .inl lfA)), (m7, .inl (cI, 7, .inl rwA)), (m8, .inl (cI, 7, .inl wlA)), (m9, .inl (cI, 49, .inl hvA)), (m10, .inl (cI, 7, .inl fdA)), (m11, .inl (cI, 128, .inl chA)), (m12, .inl (cI, 18, .inl sgA)), (m13, .inl (cI, 7, .inl kkB)), (m14, .inl (cI, 7, .inl hhB)), (m15, .inl (cI, 7, .inl ddB)), (m16, .inl (cI, 7, .inl bbB)), (m17, .inl (cI, 18, .inl sgB))] → va_S A s.heap H locs → ∀ (ls : Array Slot), lv_has ls 2 [(0, .ref h5), (1, .int (nI i))] → W prg l env ({ frames := 3, cells := 0, slots := 0, locals := 68 } : Room) s m ([.ref h5] : List Value).toArray below meth c H locs 0 0 Q (F0 m 46 ls []) := by
      intro fu
      induction fu with
      | zero => intro i g1 g2 g3 g4 hi hg1 hg2 hg3 hg4 hmu; exact absurd hmu (Nat.not_lt_zero _)
      | succ fu ih46 =>
        intro i g1 g2 g3 g4 hi hg1 hg2 hg3 hg4 hmu46 H locs hP hD hS ls hl
        refine lv_iload_n hx hb dX5_company_46 rfl (lv_at hl 1 rfl) ?_
        refine lv_aload_n hx hb dX5_company_47 rfl (lv_at hl 0 rfl) ?_
        refine va_get (D := (dC, dI0)) (ci := 5) (v := .int (nI ((pl + 1) / 3))) (C := RX5) (T := TX5) (N := 31) hx hb hts hin_X5 hown hK hP 0 rfl rfl 2 (by decide) hf90 (fun _ h9 => h9) rfl dX5_company_48 ?_
        refine lv_icmp_ge (tgt := 110) hx hb dX5_company_51 (by decide) (fun c51 => ?_) (fun c51 => ?_)
        ·
          have c51 : ((pl + 1) / 3) ≤ i := (nI_leI (a := ((pl + 1) / 3)) (b := i) (by omega) (by omega)).mp c51
          refine lv_aload_n hx hb dX5_company_110 rfl (lv_at hl 0 rfl) ?_
          refine lv_iconst (v := nI 0) hx hb dX5_company_111 (by decide) ?_
          refine va_put (D := (dC, dI0)) (ci := 5) (v := .int (nI 0)) (ty := .int) (C := RX5) (T := TX5) (N := 31) hx hb hts hin_X5 tyX5 tyX5_ok nmX5 hown hK hP hD hS 0 rfl rfl 3 (by decide) hf93 (fun _ h9 => h9) rfl (by decide +kernel) rfl rfl (Nat.le_of_ble_eq_true rfl) dX5_company_112 (fun H locs hP hD hS => ?_)
          have hP : va_P (dC, dI0) vwCl [(h5, .inr (5, [.ref m1, .int (nI pl), .int (nI ((pl + 1) / 3)), .int (nI 0), .int (nI cr), .ref m2, .ref m3, .ref m4, .ref m5, .ref m6, .int (nI lm), .ref m7, .ref m8, .int (nI wm), .int (nI rd), .ref m9, .ref m10, .int (nI hd), .ref m11, .int (nI sc), .ref m12, .int (nI sdN), .int (dI kc), .int (nI dkM), .int (nI ksM), .ref m13, .ref m14, .ref m15, .ref m16, .ref m17, .long hz])), (m1, .inl (cI, 24, .inl lB)), (m2, .inl (cI, 7, .inl g1)), (m3, .inl (cI, 7, .inl g2)), (m4, .inl (cI, 7, .inl g3)), (m5, .inl (cI, 7, .inl g4)), (m6, .inl (cI, 7, .inl lfA)), (m7, .inl (cI, 7, .inl rwA)), (m8, .inl (cI, 7, .inl wlA)), (m9, .inl (cI, 49, .inl hvA)), (m10, .inl (cI, 7, .inl fdA)), (m11, .inl (cI, 128, .inl chA)), (m12, .inl (cI, 18, .inl sgA)), (m13, .inl (cI, 7, .inl kkB)), (m14, .inl (cI, 7, .inl hhB)), (m15, .inl (cI, 7, .inl ddB)), (m16, .inl (cI, 7, .inl bbB)), (m17, .inl (cI, 18, .inl sgB))] H := hP
          have hD : va_D A [(h5, .inr (5, [.ref m1, .int (nI pl), .int (nI ((pl + 1) / 3)), .int (nI 0), .int (nI cr), .ref m2, .ref m3, .ref m4, .ref m5, .ref m6, .int (nI lm), .ref m7, .ref m8, .int (nI wm), .int (nI rd), .ref m9, .ref m10, .int (nI hd), .ref m11, .int (nI sc), .ref m12, .int (nI sdN), .int (dI kc), .int (nI dkM), .int (nI ksM), .ref m13, .ref m14, .ref m15, .ref m16, .ref m17, .long hz])), (m1, .inl (cI, 24, .inl lB)), (m2, .inl (cI, 7, .inl g1)), (m3, .inl (cI, 7, .inl g2)), (m4, .inl (cI, 7, .inl g3)), (m5, .inl (cI, 7, .inl g4)), (m6, .inl (cI, 7, .inl lfA)), (m7, .inl (cI, 7, .inl rwA)), (m8, .inl (cI, 7, .inl wlA)), (m9, .inl (cI, 49, .inl hvA)), (m10, .inl (cI, 7, .inl fdA)), (m11, .inl (cI, 128, .inl chA)), (m12, .inl (cI, 18, .inl sgA)), (m13, .inl (cI, 7, .inl kkB)), (m14, .inl (cI, 7, .inl hhB)), (m15, .inl (cI, 7, .inl ddB)), (m16, .inl (cI, 7, .inl bbB)), (m17, .inl (cI, 18, .inl sgB))] := hD
          refine lv_aload_n hx hb dX5_company_115 rfl (lv_at hl 0 rfl) ?_
          refine lv_iconst (v := nI 0) hx hb dX5_company_116 (by decide) ?_
          refine va_put (D := (dC, dI0)) (ci := 5) (v := .int (nI 0)) (ty := .int) (C := RX5) (T := TX5) (N := 31) hx hb hts hin_X5 tyX5 tyX5_ok nmX5 hown hK hP hD hS 0 rfl rfl 19 (by decide) hf96 (fun _ h9 => h9) rfl (by decide +kernel) rfl rfl (Nat.le_of_ble_eq_true rfl) dX5_company_117 (fun H locs hP hD hS => ?_)
          have hP : va_P (dC, dI0) vwCl [(h5, .inr (5, [.ref m1, .int (nI pl), .int (nI ((pl + 1) / 3)), .int (nI 0), .int (nI cr), .ref m2, .ref m3, .ref m4, .ref m5, .ref m6, .int (nI lm), .ref m7, .ref m8, .int (nI wm), .int (nI rd), .ref m9, .ref m10, .int (nI hd), .ref m11, .int (nI 0), .ref m12, .int (nI sdN), .int (dI kc), .int (nI dkM), .int (nI ksM), .ref m13, .ref m14, .ref m15, .ref m16, .ref m17, .long hz])), (m1, .inl (cI, 24, .inl lB)), (m2, .inl (cI, 7, .inl g1)), (m3, .inl (cI, 7, .inl g2)), (m4, .inl (cI, 7, .inl g3)), (m5, .inl (cI, 7, .inl g4)), (m6, .inl (cI, 7, .inl lfA)), (m7, .inl (cI, 7, .inl rwA)), (m8, .inl (cI, 7, .inl wlA)), (m9, .inl (cI, 49, .inl hvA)), (m10, .inl (cI, 7, .inl fdA)), (m11, .inl (cI, 128, .inl chA)), (m12, .inl (cI, 18, .inl sgA)), (m13, .inl (cI, 7, .inl kkB)), (m14, .inl (cI, 7, .inl hhB)), (m15, .inl (cI, 7, .inl ddB)), (m16, .inl (cI, 7, .inl bbB)), (m17, .inl (cI, 18, .inl sgB))] H := hP
          have hD : va_D A [(h5, .inr (5, [.ref m1, .int (nI pl), .int (nI ((pl + 1) / 3)), .int (nI 0), .int (nI cr), .ref m2, .ref m3, .ref m4, .ref m5, .ref m6, .int (nI lm), .ref m7, .ref m8, .int (nI wm), .int (nI rd), .ref m9, .ref m10, .int (nI hd), .ref m11, .int (nI 0), .ref m12, .int (nI sdN), .int (dI kc), .int (nI dkM), .int (nI ksM), .ref m13, .ref m14, .ref m15, .ref m16, .ref m17, .long hz])), (m1, .inl (cI, 24, .inl lB)), (m2, .inl (cI, 7, .inl g1)), (m3, .inl (cI, 7, .inl g2)), (m4, .inl (cI, 7, .inl g3)), (m5, .inl (cI, 7, .inl g4)), (m6, .inl (cI, 7, .inl lfA)), (m7, .inl (cI, 7, .inl rwA)), (m8, .inl (cI, 7, .inl wlA)), (m9, .inl (cI, 49, .inl hvA)), (m10, .inl (cI, 7, .inl fdA)), (m11, .inl (cI, 128, .inl chA)), (m12, .inl (cI, 18, .inl sgA)), (m13, .inl (cI, 7, .inl kkB)), (m14, .inl (cI, 7, .inl hhB)), (m15, .inl (cI, 7, .inl ddB)), (m16, .inl (cI, 7, .inl bbB)), (m17, .inl (cI, 18, .inl sgB))] := hD
          refine lv_aload_n hx hb dX5_company_120 rfl (lv_at hl 0 rfl) ?_
          refine lv_dup hx hb dX5_company_121 rfl ?_
          refine va_get (D := (dC, dI0)) (ci := 5) (v := .int (nI cr)) (C := RX5) (T := TX5) (N := 31) hx hb hts hin_X5 hown hK hP 0 rfl rfl 4 (by decide) hf99 (fun _ h9 => h9) rfl dX5_company_122 ?_
          refine lv_iconst (v := nI 1) hx hb dX5_company_125 (by decide) ?_
          refine lv_iadd hx hb dX5_company_126 ?_
          refine lv_topi (fun x126 e126 => ?_)
          obtain rfl : x126 = nI (cr + 1) := e126.trans (nI_add _ _)
          refine va_put (D := (dC, dI0)) (ci := 5) (v := .int (nI (cr + 1))) (ty := .int) (C := RX5) (T := TX5) (N := 31) hx hb hts hin_X5 tyX5 tyX5_ok nmX5 hown hK hP hD hS 0 rfl rfl 4 (by decide) hf99 (fun _ h9 => h9) rfl (by decide +kernel) rfl rfl (Nat.le_of_ble_eq_true rfl) dX5_company_127 (fun H locs hP hD hS => ?_)
          have hP : va_P (dC, dI0) vwCl [(h5, .inr (5, [.ref m1, .int (nI pl), .int (nI ((pl + 1) / 3)), .int (nI 0), .int (nI (cr + 1)), .ref m2, .ref m3, .ref m4, .ref m5, .ref m6, .int (nI lm), .ref m7, .ref m8, .int (nI wm), .int (nI rd), .ref m9, .ref m10, .int (nI hd), .ref m11, .int (nI 0), .ref m12, .int (nI sdN), .int (dI kc), .int (nI dkM), .int (nI ksM), .ref m13, .ref m14, .ref m15, .ref m16, .ref m17, .long hz])), (m1, .inl (cI, 24, .inl lB)), (m2, .inl (cI, 7, .inl g1)), (m3, .inl (cI, 7, .inl g2)), (m4, .inl (cI, 7, .inl g3)), (m5, .inl (cI, 7, .inl g4)), (m6, .inl (cI, 7, .inl lfA)), (m7, .inl (cI, 7, .inl rwA)), (m8, .inl (cI, 7, .inl wlA)), (m9, .inl (cI, 49, .inl hvA)), (m10, .inl (cI, 7, .inl fdA)), (m11, .inl (cI, 128, .inl chA)), (m12, .inl (cI, 18, .inl sgA)), (m13, .inl (cI, 7, .inl kkB)), (m14, .inl (cI, 7, .inl hhB)), (m15, .inl (cI, 7, .inl ddB)), (m16, .inl (cI, 7, .inl bbB)), (m17, .inl (cI, 18, .inl sgB))] H := hP
          have hD : va_D A [(h5, .inr (5, [.ref m1, .int (nI pl), .int (nI ((pl + 1) / 3)), .int (nI 0), .int (nI (cr + 1)), .ref m2, .ref m3, .ref m4, .ref m5, .ref m6, .int (nI lm), .ref m7, .ref m8, .int (nI wm), .int (nI rd), .ref m9, .ref m10, .int (nI hd), .ref m11, .int (nI 0), .ref m12, .int (nI sdN), .int (dI kc), .int (nI dkM), .int (nI ksM), .ref m13, .ref m14, .ref m15, .ref m16, .ref m17, .long hz])), (m1, .inl (cI, 24, .inl lB)), (m2, .inl (cI, 7, .inl g1)), (m3, .inl (cI, 7, .inl g2)), (m4, .inl (cI, 7, .inl g3)), (m5, .inl (cI, 7, .inl g4)), (m6, .inl (cI, 7, .inl lfA)), (m7, .inl (cI, 7, .inl rwA)), (m8, .inl (cI, 7, .inl wlA)), (m9, .inl (cI, 49, .inl hvA)), (m10, .inl (cI, 7, .inl fdA)), (m11, .inl (cI, 128, .inl chA)), (m12, .inl (cI, 18, .inl sgA)), (m13, .inl (cI, 7, .inl kkB)), (m14, .inl (cI, 7, .inl hhB)), (m15, .inl (cI, 7, .inl ddB)), (m16, .inl (cI, 7, .inl bbB)), (m17, .inl (cI, 18, .inl sgB))] := hD
          refine lv_aload_n hx hb dX5_company_130 rfl (lv_at hl 0 rfl) ?_
          refine lv_iconst (v := nI 0) hx hb dX5_company_131 (by decide) ?_
          refine va_put (D := (dC, dI0)) (ci := 5) (v := .int (nI 0)) (ty := .int) (C := RX5) (T := TX5) (N := 31) hx hb hts hin_X5 tyX5 tyX5_ok nmX5 hown hK hP hD hS 0 rfl rfl 1 (by decide) hf71 (fun _ h9 => h9) rfl (by decide +kernel) rfl rfl (Nat.le_of_ble_eq_true rfl) dX5_company_132 (fun H locs hP hD hS => ?_)
          have hP : va_P (dC, dI0) vwCl [(h5, .inr (5, [.ref m1, .int (nI 0), .int (nI ((pl + 1) / 3)), .int (nI 0), .int (nI (cr + 1)), .ref m2, .ref m3, .ref m4, .ref m5, .ref m6, .int (nI lm), .ref m7, .ref m8, .int (nI wm), .int (nI rd), .ref m9, .ref m10, .int (nI hd), .ref m11, .int (nI 0), .ref m12, .int (nI sdN), .int (dI kc), .int (nI dkM), .int (nI ksM), .ref m13, .ref m14, .ref m15, .ref m16, .ref m17, .long hz])), (m1, .inl (cI, 24, .inl lB)), (m2, .inl (cI, 7, .inl g1)), (m3, .inl (cI, 7, .inl g2)), (m4, .inl (cI, 7, .inl g3)), (m5, .inl (cI, 7, .inl g4)), (m6, .inl (cI, 7, .inl lfA)), (m7, .inl (cI, 7, .inl rwA)), (m8, .inl (cI, 7, .inl wlA)), (m9, .inl (cI, 49, .inl hvA)), (m10, .inl (cI, 7, .inl fdA)), (m11, .inl (cI, 128, .inl chA)), (m12, .inl (cI, 18, .inl sgA)), (m13, .inl (cI, 7, .inl kkB)), (m14, .inl (cI, 7, .inl hhB)), (m15, .inl (cI, 7, .inl ddB)), (m16, .inl (cI, 7, .inl bbB)), (m17, .inl (cI, 18, .inl sgB))] H := hP
          have hD : va_D A [(h5, .inr (5, [.ref m1, .int (nI 0), .int (nI ((pl + 1) / 3)), .int (nI 0), .int (nI (cr + 1)), .ref m2, .ref m3, .ref m4, .ref m5, .ref m6, .int (nI lm), .ref m7, .ref m8, .int (nI wm), .int (nI rd), .ref m9, .ref m10, .int (nI hd), .ref m11, .int (nI 0), .ref m12, .int (nI sdN), .int (dI kc), .int (nI dkM), .int (nI ksM), .ref m13, .ref m14, .ref m15, .ref m16, .ref m17, .long hz])), (m1, .inl (cI, 24, .inl lB)), (m2, .inl (cI, 7, .inl g1)), (m3, .inl (cI, 7, .inl g2)), (m4, .inl (cI, 7, .inl g3)), (m5, .inl (cI, 7, .inl g4)), (m6, .inl (cI, 7, .inl lfA)), (m7, .inl (cI, 7, .inl rwA)), (m8, .inl (cI, 7, .inl wlA)), (m9, .inl (cI, 49, .inl hvA)), (m10, .inl (cI, 7, .inl fdA)), (m11, .inl (cI, 128, .inl chA)), (m12, .inl (cI, 18, .inl sgA)), (m13, .inl (cI, 7, .inl kkB)), (m14, .inl (cI, 7, .inl hhB)), (m15, .inl (cI, 7, .inl ddB)), (m16, .inl (cI, 7, .inl bbB)), (m17, .inl (cI, 18, .inl sgB))] := hD
          refine lv_aload_n hx hb dX5_company_135 rfl (lv_at hl 0 rfl) ?_
          refine va_get (D := (dC, dI0)) (ci := 5) (v := .int (nI ((pl + 1) / 3))) (C := RX5) (T := TX5) (N := 31) hx hb hts hin_X5 hown hK hP 0 rfl rfl 2 (by decide) hf90 (fun _ h9 => h9) rfl dX5_company_136 ?_
          subst hQ
          have hP9 : va_P (dC, dI0) vwCl [(h5, .inr (5, [.ref m1, .int (nI 0), .int (nI ((pl + 1) / 3)), .int (nI 0), .int (nI (cr + 1)), .ref m2, .ref m3, .ref m4, .ref m5, .ref m6, .int (nI lm), .ref m7, .ref m8, .int (nI wm), .int (nI rd), .ref m9, .ref m10, .int (nI hd), .ref m11, .int (nI 0), .ref m12, .int (nI sdN), .int (dI kc), .int (nI dkM), .int (nI ksM), .ref m13, .ref m14, .ref m15, .ref m16, .ref m17, .long hz])), (m1, .inl (cI, 24, .inl lB)), (m2, .inl (cI, 7, .inl g1)), (m3, .inl (cI, 7, .inl g2)), (m4, .inl (cI, 7, .inl g3)), (m5, .inl (cI, 7, .inl g4)), (m6, .inl (cI, 7, .inl lfA)), (m7, .inl (cI, 7, .inl rwA)), (m8, .inl (cI, 7, .inl wlA)), (m9, .inl (cI, 49, .inl hvA)), (m10, .inl (cI, 7, .inl fdA)), (m11, .inl (cI, 128, .inl chA)), (m12, .inl (cI, 18, .inl sgA)), (m13, .inl (cI, 7, .inl kkB)), (m14, .inl (cI, 7, .inl hhB)), (m15, .inl (cI, 7, .inl ddB)), (m16, .inl (cI, 7, .inl bbB)), (m17, .inl (cI, 18, .inl sgB))] H := hP
          have hD9 : va_D A [(h5, .inr (5, [.ref m1, .int (nI 0), .int (nI ((pl + 1) / 3)), .int (nI 0), .int (nI (cr + 1)), .ref m2, .ref m3, .ref m4, .ref m5, .ref m6, .int (nI lm), .ref m7, .ref m8, .int (nI wm), .int (nI rd), .ref m9, .ref m10, .int (nI hd), .ref m11, .int (nI 0), .ref m12, .int (nI sdN), .int (dI kc), .int (nI dkM), .int (nI ksM), .ref m13, .ref m14, .ref m15, .ref m16, .ref m17, .long hz])), (m1, .inl (cI, 24, .inl lB)), (m2, .inl (cI, 7, .inl g1)), (m3, .inl (cI, 7, .inl g2)), (m4, .inl (cI, 7, .inl g3)), (m5, .inl (cI, 7, .inl g4)), (m6, .inl (cI, 7, .inl lfA)), (m7, .inl (cI, 7, .inl rwA)), (m8, .inl (cI, 7, .inl wlA)), (m9, .inl (cI, 49, .inl hvA)), (m10, .inl (cI, 7, .inl fdA)), (m11, .inl (cI, 128, .inl chA)), (m12, .inl (cI, 18, .inl sgA)), (m13, .inl (cI, 7, .inl kkB)), (m14, .inl (cI, 7, .inl hhB)), (m15, .inl (cI, 7, .inl ddB)), (m16, .inl (cI, 7, .inl bbB)), (m17, .inl (cI, 18, .inl sgB))] := hD
          exact W.iret (v := nI ((pl + 1) / 3)) hx hb hr (fun t9 ht9 hW9 => ⟨⟨nI ((pl + 1) / 3), (0, (pl + 1) / 3, 0, 0, cr + 1, g1, g2, g3, g4), rfl, by
            simp only [if_pos hic]
            exact ⟨trivial, trivial, trivial, trivial, trivial, trivial, CoR_read hic (fun p hp => hg1 p (by omega)) (fun p hp => hg2 p (by omega)) (fun p hp => hg3 p (by omega)) (fun p hp => hg4 p (by omega))⟩, by rw [ht9]; exact hP9, va_K.moved hW9.alike hK, hD9⟩, hS.F ht9⟩) hS.2.2 dX5_company_139
        have c51 : ¬ ((pl + 1) / 3) ≤ i := fun z => c51 ((nI_leI (a := ((pl + 1) / 3)) (b := i) (by omega) (by omega)).mpr z)
        have hkc1 := ft_k (hfit (i * 3) (by omega)) (by omega)
        have hh1 := ft_h (hfit (i * 3 + 1) (by omega)) (by omega)
        rw [Nat.mul_comm i 3] at hkc1 hh1
        refine lv_aload_n hx hb dX5_company_54 rfl (lv_at hl 0 rfl) ?_
        refine va_get (D := (dC, dI0)) (ci := 5) (v := .ref m2) (C := RX5) (T := TX5) (N := 31) hx hb hts hin_X5 hown hK hP 0 rfl rfl 5 (by decide) hf13 (fun _ h9 => h9) rfl dX5_company_55 ?_
        refine lv_iload_n hx hb dX5_company_58 rfl (lv_at hl 1 rfl) ?_
        refine lv_aload_n hx hb dX5_company_59 rfl (lv_at hl 0 rfl) ?_
        refine va_get (D := (dC, dI0)) (ci := 5) (v := .ref m1) (C := RX5) (T := TX5) (N := 31) hx hb hts hin_X5 hown hK hP 0 rfl rfl 0 (by decide) hf7 (fun _ h9 => h9) rfl dX5_company_60 ?_
        refine lv_iconst (v := nI 3) hx hb dX5_company_63 (by decide) ?_
        refine lv_iload_n hx hb dX5_company_64 rfl (lv_at hl 1 rfl) ?_
        refine lv_imul hx hb dX5_company_65 ?_
        refine lv_topi (fun x65 e65 => ?_)
        obtain rfl : x65 = nI (3 * i) := e65.trans (pk_mul _ _)
        refine va_iald hx hb hK hP 1 0 rfl rfl (vp_in_nI (by omega) (by decide)) dX5_company_66 ?_
        refine lv_topi (fun x66 e66 => ?_)
        rw [nI_clamp (n := 3 * i) (by omega)] at e66
        have hle7 := (hle (3 * i) (by omega)).2
        obtain rfl : x66 = nI (le (3 * i)) := e66.trans (hle (3 * i) (by omega)).1
        have hPc := hP.sub (ws' := []) [] rfl
        have hDc := hD.sub (ws' := []) [] (by decide) rfl
        have hFc := va_free (wc := []) hD hS hA [] rfl
        refine va_calli (va_runS (As := [.int (nI (le (3 * i)))]) (rest := [.int (nI i), .ref m2]) ⟨hx, hb, hml, hown, hts⟩ (KX5_kindBy l dC dI0 cI cZ  H.size (le (3 * i)) (by first | assumption | omega)) (va_cwS 1 hts gX5_company_X5_kindBy rfl rfl rfl (by decide +kernel) ⟨Nat.le_of_ble_eq_true rfl, Nat.le_of_ble_eq_true rfl⟩) ⟨fun a U g mk q => by obtain ⟨q0, q1, qP, qK, qD⟩ := q; exact ⟨q0, q1, qP, va_K.moved (u := U) (U := U.calling g mk a) (Vm.Alike.refl U.vm) qK, qD⟩, fun U hU hW => ⟨rfl, by rw [hU], by rw [hU]; exact hPc, va_K.moved hW.alike hK, hDc.weaken (fun _ _ _ _ => trivial)⟩⟩ rfl rfl hl.1 rfl (lv_room (Nat.le_of_ble_eq_true rfl)) dX5_company_67 ⟨Nat.le_of_ble_eq_true rfl, Nat.le_of_ble_eq_true rfl⟩) hS (fun q _ h => hFc q h) hFc (fun r67 u67 t7 H1 locs ht7 hvm7 hw67 hB hz1 hk1 hS => ?_)
        obtain ⟨hP1, hK1, hD1⟩ := hB
        rw [ht7] at hP1
        try dsimp only at hw67 hP1 hD1
        obtain ⟨hP, hD⟩ := va_join (wr := [(h5, .inr (5, [.ref m1, .int (nI pl), .int (nI ((pl + 1) / 3)), .int (nI dr), .int (nI cr), .ref m2, .ref m3, .ref m4, .ref m5, .ref m6, .int (nI lm), .ref m7, .ref m8, .int (nI wm), .int (nI rd), .ref m9, .ref m10, .int (nI hd), .ref m11, .int (nI sc), .ref m12, .int (nI sdN), .int (dI kc), .int (nI dkM), .int (nI ksM), .ref m13, .ref m14, .ref m15, .ref m16, .ref m17, .long hz])), (m1, .inl (cI, 24, .inl lB)), (m2, .inl (cI, 7, .inl g1)), (m3, .inl (cI, 7, .inl g2)), (m4, .inl (cI, 7, .inl g3)), (m5, .inl (cI, 7, .inl g4)), (m6, .inl (cI, 7, .inl lfA)), (m7, .inl (cI, 7, .inl rwA)), (m8, .inl (cI, 7, .inl wlA)), (m9, .inl (cI, 49, .inl hvA)), (m10, .inl (cI, 7, .inl fdA)), (m11, .inl (cI, 128, .inl chA)), (m12, .inl (cI, 18, .inl sgA)), (m13, .inl (cI, 7, .inl kkB)), (m14, .inl (cI, 7, .inl hhB)), (m15, .inl (cI, 7, .inl ddB)), (m16, .inl (cI, 7, .inl bbB)), (m17, .inl (cI, 18, .inl sgB))]) (w1 := []) hP hD [] [0, 1, 2, 3, 4, 5, 6, 7, 8, 9, 10, 11, 12, 13, 14, 15, 16, 17] rfl rfl (by decide) (by decide) hk1 hFc hP1 hD1
        generalize H1 = H at hP hS ⊢
        have hP := hP.sub (ws' := [(h5, .inr (5, [.ref m1, .int (nI pl), .int (nI ((pl + 1) / 3)), .int (nI dr), .int (nI cr), .ref m2, .ref m3, .ref m4, .ref m5, .ref m6, .int (nI lm), .ref m7, .ref m8, .int (nI wm), .int (nI rd), .ref m9, .ref m10, .int (nI hd), .ref m11, .int (nI sc), .ref m12, .int (nI sdN), .int (dI kc), .int (nI dkM), .int (nI ksM), .ref m13, .ref m14, .ref m15, .ref m16, .ref m17, .long hz])), (m1, .inl (cI, 24, .inl lB)), (m2, .inl (cI, 7, .inl g1)), (m3, .inl (cI, 7, .inl g2)), (m4, .inl (cI, 7, .inl g3)), (m5, .inl (cI, 7, .inl g4)), (m6, .inl (cI, 7, .inl lfA)), (m7, .inl (cI, 7, .inl rwA)), (m8, .inl (cI, 7, .inl wlA)), (m9, .inl (cI, 49, .inl hvA)), (m10, .inl (cI, 7, .inl fdA)), (m11, .inl (cI, 128, .inl chA)), (m12, .inl (cI, 18, .inl sgA)), (m13, .inl (cI, 7, .inl kkB)), (m14, .inl (cI, 7, .inl hhB)), (m15, .inl (cI, 7, .inl ddB)), (m16, .inl (cI, 7, .inl bbB)), (m17, .inl (cI, 18, .inl sgB))]) [0, 1, 2, 3, 4, 5, 6, 7, 8, 9, 10, 11, 12, 13, 14, 15, 16, 17] rfl
        have hD := hD.sub (ws' := [(h5, .inr (5, [.ref m1, .int (nI pl), .int (nI ((pl + 1) / 3)), .int (nI dr), .int (nI cr), .ref m2, .ref m3, .ref m4, .ref m5, .ref m6, .int (nI lm), .ref m7, .ref m8, .int (nI wm), .int (nI rd), .ref m9, .ref m10, .int (nI hd), .ref m11, .int (nI sc), .ref m12, .int (nI sdN), .int (dI kc), .int (nI dkM), .int (nI ksM), .ref m13, .ref m14, .ref m15, .ref m16, .ref m17, .long hz])), (m1, .inl (cI, 24, .inl lB)), (m2, .inl (cI, 7, .inl g1)), (m3, .inl (cI, 7, .inl g2)), (m4, .inl (cI, 7, .inl g3)), (m5, .inl (cI, 7, .inl g4)), (m6, .inl (cI, 7, .inl lfA)), (m7, .inl (cI, 7, .inl rwA)), (m8, .inl (cI, 7, .inl wlA)), (m9, .inl (cI, 49, .inl hvA)), (m10, .inl (cI, 7, .inl fdA)), (m11, .inl (cI, 128, .inl chA)), (m12, .inl (cI, 18, .inl sgA)), (m13, .inl (cI, 7, .inl kkB)), (m14, .inl (cI, 7, .inl hhB)), (m15, .inl (cI, 7, .inl ddB)), (m16, .inl (cI, 7, .inl bbB)), (m17, .inl (cI, 18, .inl sgB))]) [0, 1, 2, 3, 4, 5, 6, 7, 8, 9, 10, 11, 12, 13, 14, 15, 16, 17] (by decide) rfl
        obtain rfl : r67 = dI (kcS (le (3 * i))) := hw67
        refine W.eq (g2 := F0 m 70 ls [.int (nI (kpS le i)), .int (nI i), .ref m2]) (by rw [Nat.mul_comm 3 i, kp_eq (by rw [Nat.mul_comm i 3]; exact hkc1)]) ?_
        refine va_iast hx hb hK hP hD hS 2 0 rfl rfl (vp_in_nI (by omega) (by decide)) dX5_company_70 (fun H locs hP hD hS => ?_)
        rw [nI_clamp (n := i) (by omega)] at hP hD
        have hP : va_P (dC, dI0) vwCl [(h5, .inr (5, [.ref m1, .int (nI pl), .int (nI ((pl + 1) / 3)), .int (nI dr), .int (nI cr), .ref m2, .ref m3, .ref m4, .ref m5, .ref m6, .int (nI lm), .ref m7, .ref m8, .int (nI wm), .int (nI rd), .ref m9, .ref m10, .int (nI hd), .ref m11, .int (nI sc), .ref m12, .int (nI sdN), .int (dI kc), .int (nI dkM), .int (nI ksM), .ref m13, .ref m14, .ref m15, .ref m16, .ref m17, .long hz])), (m1, .inl (cI, 24, .inl lB)), (m2, .inl (cI, 7, .inl (upd g1 i (nI (kpS le i))))), (m3, .inl (cI, 7, .inl g2)), (m4, .inl (cI, 7, .inl g3)), (m5, .inl (cI, 7, .inl g4)), (m6, .inl (cI, 7, .inl lfA)), (m7, .inl (cI, 7, .inl rwA)), (m8, .inl (cI, 7, .inl wlA)), (m9, .inl (cI, 49, .inl hvA)), (m10, .inl (cI, 7, .inl fdA)), (m11, .inl (cI, 128, .inl chA)), (m12, .inl (cI, 18, .inl sgA)), (m13, .inl (cI, 7, .inl kkB)), (m14, .inl (cI, 7, .inl hhB)), (m15, .inl (cI, 7, .inl ddB)), (m16, .inl (cI, 7, .inl bbB)), (m17, .inl (cI, 18, .inl sgB))] H := hP
        have hD : va_D A [(h5, .inr (5, [.ref m1, .int (nI pl), .int (nI ((pl + 1) / 3)), .int (nI dr), .int (nI cr), .ref m2, .ref m3, .ref m4, .ref m5, .ref m6, .int (nI lm), .ref m7, .ref m8, .int (nI wm), .int (nI rd), .ref m9, .ref m10, .int (nI hd), .ref m11, .int (nI sc), .ref m12, .int (nI sdN), .int (dI kc), .int (nI dkM), .int (nI ksM), .ref m13, .ref m14, .ref m15, .ref m16, .ref m17, .long hz])), (m1, .inl (cI, 24, .inl lB)), (m2, .inl (cI, 7, .inl (upd g1 i (nI (kpS le i))))), (m3, .inl (cI, 7, .inl g2)), (m4, .inl (cI, 7, .inl g3)), (m5, .inl (cI, 7, .inl g4)), (m6, .inl (cI, 7, .inl lfA)), (m7, .inl (cI, 7, .inl rwA)), (m8, .inl (cI, 7, .inl wlA)), (m9, .inl (cI, 49, .inl hvA)), (m10, .inl (cI, 7, .inl fdA)), (m11, .inl (cI, 128, .inl chA)), (m12, .inl (cI, 18, .inl sgA)), (m13, .inl (cI, 7, .inl kkB)), (m14, .inl (cI, 7, .inl hhB)), (m15, .inl (cI, 7, .inl ddB)), (m16, .inl (cI, 7, .inl bbB)), (m17, .inl (cI, 18, .inl sgB))] := hD
        refine lv_aload_n hx hb dX5_company_71 rfl (lv_at hl 0 rfl) ?_
        refine va_get (D := (dC, dI0)) (ci := 5) (v := .ref m3) (C := RX5) (T := TX5) (N := 31) hx hb hts hin_X5 hown hK hP 0 rfl rfl 6 (by decide) hf16 (fun _ h9 => h9) rfl dX5_company_72 ?_
        refine lv_iload_n hx hb dX5_company_75 rfl (lv_at hl 1 rfl) ?_
        refine lv_aload_n hx hb dX5_company_76 rfl (lv_at hl 0 rfl) ?_
        refine va_get (D := (dC, dI0)) (ci := 5) (v := .ref m1) (C := RX5) (T := TX5) (N := 31) hx hb hts hin_X5 hown hK hP 0 rfl rfl 0 (by decide) hf7 (fun _ h9 => h9) rfl dX5_company_77 ?_
        refine lv_iconst (v := nI 3) hx hb dX5_company_80 (by decide) ?_
        refine lv_iload_n hx hb dX5_company_81 rfl (lv_at hl 1 rfl) ?_
        refine lv_imul hx hb dX5_company_82 ?_
        refine lv_topi (fun x82 e82 => ?_)
        obtain rfl : x82 = nI (3 * i) := e82.trans (pk_mul _ _)
        refine lv_iconst (v := nI 1) hx hb dX5_company_83 (by decide) ?_
        refine lv_iadd hx hb dX5_company_84 ?_
        refine lv_topi (fun x84 e84 => ?_)
        obtain rfl : x84 = nI ((3 * i) + 1) := e84.trans (nI_add _ _)
        refine va_iald hx hb hK hP 1 0 rfl rfl (vp_in_nI (by omega) (by decide)) dX5_company_85 ?_
        refine lv_topi (fun x85 e85 => ?_)
        rw [nI_clamp (n := (3 * i) + 1) (by omega)] at e85
        have hle7 := (hle ((3 * i) + 1) (by omega)).2
        obtain rfl : x85 = nI (le ((3 * i) + 1)) := e85.trans (hle ((3 * i) + 1) (by omega)).1
        refine lv_bipush (v := nI 48) hx hb dX5_company_86 (by decide) ?_
        refine lv_isub hx hb dX5_company_88 ?_
        refine lv_topi (fun x88 e88 => ?_)
        obtain rfl : x88 = nI ((le ((3 * i) + 1)) - 48) := e88.trans (pk_sub (by omega))
        refine va_iast hx hb hK hP hD hS 3 0 rfl rfl (vp_in_nI (by omega) (by decide)) dX5_company_89 (fun H locs hP hD hS => ?_)
        rw [nI_clamp (n := i) (by omega)] at hP hD
        have hP : va_P (dC, dI0) vwCl [(h5, .inr (5, [.ref m1, .int (nI pl), .int (nI ((pl + 1) / 3)), .int (nI dr), .int (nI cr), .ref m2, .ref m3, .ref m4, .ref m5, .ref m6, .int (nI lm), .ref m7, .ref m8, .int (nI wm), .int (nI rd), .ref m9, .ref m10, .int (nI hd), .ref m11, .int (nI sc), .ref m12, .int (nI sdN), .int (dI kc), .int (nI dkM), .int (nI ksM), .ref m13, .ref m14, .ref m15, .ref m16, .ref m17, .long hz])), (m1, .inl (cI, 24, .inl lB)), (m2, .inl (cI, 7, .inl (upd g1 i (nI (kpS le i))))), (m3, .inl (cI, 7, .inl (upd g2 i (nI ((le ((3 * i) + 1)) - 48))))), (m4, .inl (cI, 7, .inl g3)), (m5, .inl (cI, 7, .inl g4)), (m6, .inl (cI, 7, .inl lfA)), (m7, .inl (cI, 7, .inl rwA)), (m8, .inl (cI, 7, .inl wlA)), (m9, .inl (cI, 49, .inl hvA)), (m10, .inl (cI, 7, .inl fdA)), (m11, .inl (cI, 128, .inl chA)), (m12, .inl (cI, 18, .inl sgA)), (m13, .inl (cI, 7, .inl kkB)), (m14, .inl (cI, 7, .inl hhB)), (m15, .inl (cI, 7, .inl ddB)), (m16, .inl (cI, 7, .inl bbB)), (m17, .inl (cI, 18, .inl sgB))] H := hP
        have hD : va_D A [(h5, .inr (5, [.ref m1, .int (nI pl), .int (nI ((pl + 1) / 3)), .int (nI dr), .int (nI cr), .ref m2, .ref m3, .ref m4, .ref m5, .ref m6, .int (nI lm), .ref m7, .ref m8, .int (nI wm), .int (nI rd), .ref m9, .ref m10, .int (nI hd), .ref m11, .int (nI sc), .ref m12, .int (nI sdN), .int (dI kc), .int (nI dkM), .int (nI ksM), .ref m13, .ref m14, .ref m15, .ref m16, .ref m17, .long hz])), (m1, .inl (cI, 24, .inl lB)), (m2, .inl (cI, 7, .inl (upd g1 i (nI (kpS le i))))), (m3, .inl (cI, 7, .inl (upd g2 i (nI ((le ((3 * i) + 1)) - 48))))), (m4, .inl (cI, 7, .inl g3)), (m5, .inl (cI, 7, .inl g4)), (m6, .inl (cI, 7, .inl lfA)), (m7, .inl (cI, 7, .inl rwA)), (m8, .inl (cI, 7, .inl wlA)), (m9, .inl (cI, 49, .inl hvA)), (m10, .inl (cI, 7, .inl fdA)), (m11, .inl (cI, 128, .inl chA)), (m12, .inl (cI, 18, .inl sgA)), (m13, .inl (cI, 7, .inl kkB)), (m14, .inl (cI, 7, .inl hhB)), (m15, .inl (cI, 7, .inl ddB)), (m16, .inl (cI, 7, .inl bbB)), (m17, .inl (cI, 18, .inl sgB))] := hD
        refine lv_aload_n hx hb dX5_company_90 rfl (lv_at hl 0 rfl) ?_
        refine va_get (D := (dC, dI0)) (ci := 5) (v := .ref m4) (C := RX5) (T := TX5) (N := 31) hx hb hts hin_X5 hown hK hP 0 rfl rfl 7 (by decide) hf19 (fun _ h9 => h9) rfl dX5_company_91 ?_
        refine lv_iload_n hx hb dX5_company_94 rfl (lv_at hl 1 rfl) ?_
        refine lv_iconst (v := (-1)) hx hb dX5_company_95 (by decide) ?_
        refine va_iast hx hb hK hP hD hS 4 0 rfl rfl (vp_in_nI (by omega) (by decide)) dX5_company_96 (fun H locs hP hD hS => ?_)
        rw [nI_clamp (n := i) (by omega)] at hP hD
        have hP : va_P (dC, dI0) vwCl [(h5, .inr (5, [.ref m1, .int (nI pl), .int (nI ((pl + 1) / 3)), .int (nI dr), .int (nI cr), .ref m2, .ref m3, .ref m4, .ref m5, .ref m6, .int (nI lm), .ref m7, .ref m8, .int (nI wm), .int (nI rd), .ref m9, .ref m10, .int (nI hd), .ref m11, .int (nI sc), .ref m12, .int (nI sdN), .int (dI kc), .int (nI dkM), .int (nI ksM), .ref m13, .ref m14, .ref m15, .ref m16, .ref m17, .long hz])), (m1, .inl (cI, 24, .inl lB)), (m2, .inl (cI, 7, .inl (upd g1 i (nI (kpS le i))))), (m3, .inl (cI, 7, .inl (upd g2 i (nI ((le ((3 * i) + 1)) - 48))))), (m4, .inl (cI, 7, .inl (upd g3 i (-1)))), (m5, .inl (cI, 7, .inl g4)), (m6, .inl (cI, 7, .inl lfA)), (m7, .inl (cI, 7, .inl rwA)), (m8, .inl (cI, 7, .inl wlA)), (m9, .inl (cI, 49, .inl hvA)), (m10, .inl (cI, 7, .inl fdA)), (m11, .inl (cI, 128, .inl chA)), (m12, .inl (cI, 18, .inl sgA)), (m13, .inl (cI, 7, .inl kkB)), (m14, .inl (cI, 7, .inl hhB)), (m15, .inl (cI, 7, .inl ddB)), (m16, .inl (cI, 7, .inl bbB)), (m17, .inl (cI, 18, .inl sgB))] H := hP
        have hD : va_D A [(h5, .inr (5, [.ref m1, .int (nI pl), .int (nI ((pl + 1) / 3)), .int (nI dr), .int (nI cr), .ref m2, .ref m3, .ref m4, .ref m5, .ref m6, .int (nI lm), .ref m7, .ref m8, .int (nI wm), .int (nI rd), .ref m9, .ref m10, .int (nI hd), .ref m11, .int (nI sc), .ref m12, .int (nI sdN), .int (dI kc), .int (nI dkM), .int (nI ksM), .ref m13, .ref m14, .ref m15, .ref m16, .ref m17, .long hz])), (m1, .inl (cI, 24, .inl lB)), (m2, .inl (cI, 7, .inl (upd g1 i (nI (kpS le i))))), (m3, .inl (cI, 7, .inl (upd g2 i (nI ((le ((3 * i) + 1)) - 48))))), (m4, .inl (cI, 7, .inl (upd g3 i (-1)))), (m5, .inl (cI, 7, .inl g4)), (m6, .inl (cI, 7, .inl lfA)), (m7, .inl (cI, 7, .inl rwA)), (m8, .inl (cI, 7, .inl wlA)), (m9, .inl (cI, 49, .inl hvA)), (m10, .inl (cI, 7, .inl fdA)), (m11, .inl (cI, 128, .inl chA)), (m12, .inl (cI, 18, .inl sgA)), (m13, .inl (cI, 7, .inl kkB)), (m14, .inl (cI, 7, .inl hhB)), (m15, .inl (cI, 7, .inl ddB)), (m16, .inl (cI, 7, .inl bbB)), (m17, .inl (cI, 18, .inl sgB))] := hD
        refine lv_aload_n hx hb dX5_company_97 rfl (lv_at hl 0 rfl) ?_
        refine va_get (D := (dC, dI0)) (ci := 5) (v := .ref m5) (C := RX5) (T := TX5) (N := 31) hx hb hts hin_X5 hown hK hP 0 rfl rfl 8 (by decide) hf22 (fun _ h9 => h9) rfl dX5_company_98 ?_
        refine lv_iload_n hx hb dX5_company_101 rfl (lv_at hl 1 rfl) ?_
        refine lv_iconst (v := nI 0) hx hb dX5_company_102 (by decide) ?_
        refine va_iast hx hb hK hP hD hS 5 0 rfl rfl (vp_in_nI (by omega) (by decide)) dX5_company_103 (fun H locs hP hD hS => ?_)
        rw [nI_clamp (n := i) (by omega)] at hP hD
        have hP : va_P (dC, dI0) vwCl [(h5, .inr (5, [.ref m1, .int (nI pl), .int (nI ((pl + 1) / 3)), .int (nI dr), .int (nI cr), .ref m2, .ref m3, .ref m4, .ref m5, .ref m6, .int (nI lm), .ref m7, .ref m8, .int (nI wm), .int (nI rd), .ref m9, .ref m10, .int (nI hd), .ref m11, .int (nI sc), .ref m12, .int (nI sdN), .int (dI kc), .int (nI dkM), .int (nI ksM), .ref m13, .ref m14, .ref m15, .ref m16, .ref m17, .long hz])), (m1, .inl (cI, 24, .inl lB)), (m2, .inl (cI, 7, .inl (upd g1 i (nI (kpS le i))))), (m3, .inl (cI, 7, .inl (upd g2 i (nI ((le ((3 * i) + 1)) - 48))))), (m4, .inl (cI, 7, .inl (upd g3 i (-1)))), (m5, .inl (cI, 7, .inl (upd g4 i (nI 0)))), (m6, .inl (cI, 7, .inl lfA)), (m7, .inl (cI, 7, .inl rwA)), (m8, .inl (cI, 7, .inl wlA)), (m9, .inl (cI, 49, .inl hvA)), (m10, .inl (cI, 7, .inl fdA)), (m11, .inl (cI, 128, .inl chA)), (m12, .inl (cI, 18, .inl sgA)), (m13, .inl (cI, 7, .inl kkB)), (m14, .inl (cI, 7, .inl hhB)), (m15, .inl (cI, 7, .inl ddB)), (m16, .inl (cI, 7, .inl bbB)), (m17, .inl (cI, 18, .inl sgB))] H := hP
        have hD : va_D A [(h5, .inr (5, [.ref m1, .int (nI pl), .int (nI ((pl + 1) / 3)), .int (nI dr), .int (nI cr), .ref m2, .ref m3, .ref m4, .ref m5, .ref m6, .int (nI lm), .ref m7, .ref m8, .int (nI wm), .int (nI rd), .ref m9, .ref m10, .int (nI hd), .ref m11, .int (nI sc), .ref m12, .int (nI sdN), .int (dI kc), .int (nI dkM), .int (nI ksM), .ref m13, .ref m14, .ref m15, .ref m16, .ref m17, .long hz])), (m1, .inl (cI, 24, .inl lB)), (m2, .inl (cI, 7, .inl (upd g1 i (nI (kpS le i))))), (m3, .inl (cI, 7, .inl (upd g2 i (nI ((le ((3 * i) + 1)) - 48))))), (m4, .inl (cI, 7, .inl (upd g3 i (-1)))), (m5, .inl (cI, 7, .inl (upd g4 i (nI 0)))), (m6, .inl (cI, 7, .inl lfA)), (m7, .inl (cI, 7, .inl rwA)), (m8, .inl (cI, 7, .inl wlA)), (m9, .inl (cI, 49, .inl hvA)), (m10, .inl (cI, 7, .inl fdA)), (m11, .inl (cI, 128, .inl chA)), (m12, .inl (cI, 18, .inl sgA)), (m13, .inl (cI, 7, .inl kkB)), (m14, .inl (cI, 7, .inl hhB)), (m15, .inl (cI, 7, .inl ddB)), (m16, .inl (cI, 7, .inl bbB)), (m17, .inl (cI, 18, .inl sgB))] := hD
        refine lv_iinc (v := nI (i + 1)) (lv' := [(1, .int (nI (i + 1))), (0, .ref h5)]) hx hb dX5_company_104 hl (k := 1) rfl (show nI i + Int32.ofInt 1 = nI (i + 1) from nI_add _ _) (by decide) rfl (fun ls hl => ?_)
        refine lv_goto (tgt := 46) hx hb dX5_company_107 (by decide) ?_
        exact ih46 (i + 1) (upd g1 i (nI (kpS le i))) (upd g2 i (nI ((le ((3 * i) + 1)) - 48))) (upd g3 i (-1)) (upd g4 i (nI 0)) (by omega) (upd_lt (F := fun p => nI (kpS le p)) hg1 rfl) (upd_lt (F := fun p => nI (hpS le p)) hg2 (by unfold hpS; rw [Nat.mul_comm 3 i])) (upd_lt (F := fun _ => -1) hg3 rfl) (upd_lt (F := fun _ => 0) hg4 rfl) (by omega) _ _ hP hD hS ls (lv_sub hl [1, 0] rfl)
    exact L46 _ 0 kB hB dB bB (by omega) (fun p hp => absurd hp (Nat.not_lt_zero _)) (fun p hp => absurd hp (Nat.not_lt_zero _)) (fun p hp => absurd hp (Nat.not_lt_zero _)) (fun p hp => absurd hp (Nat.not_lt_zero _)) (Nat.lt_succ_self _) _ _ hP hD hS ls (lv_sub hl [1, 0] rfl)
  have c26 : ¬ pl ≤ (fwS pl le) := fun z => c26 ((nI_leI (a := pl) (b := (fwS pl le)) (by omega) (by omega)).mpr z)
  refine lv_bipush (v := (-103)) hx hb dX5_company_29 (by decide) ?_
  subst hQ
  have hP9 : va_P (dC, dI0) vwCl [(h5, .inr (5, [.ref m1, .int (nI pl), .int (nI n), .int (nI dr), .int (nI cr), .ref m2, .ref m3, .ref m4, .ref m5, .ref m6, .int (nI lm), .ref m7, .ref m8, .int (nI wm), .int (nI rd), .ref m9, .ref m10, .int (nI hd), .ref m11, .int (nI sc), .ref m12, .int (nI sdN), .int (dI kc), .int (nI dkM), .int (nI ksM), .ref m13, .ref m14, .ref m15, .ref m16, .ref m17, .long hz])), (m1, .inl (cI, 24, .inl lB)), (m2, .inl (cI, 7, .inl kB)), (m3, .inl (cI, 7, .inl hB)), (m4, .inl (cI, 7, .inl dB)), (m5, .inl (cI, 7, .inl bB)), (m6, .inl (cI, 7, .inl lfA)), (m7, .inl (cI, 7, .inl rwA)), (m8, .inl (cI, 7, .inl wlA)), (m9, .inl (cI, 49, .inl hvA)), (m10, .inl (cI, 7, .inl fdA)), (m11, .inl (cI, 128, .inl chA)), (m12, .inl (cI, 18, .inl sgA)), (m13, .inl (cI, 7, .inl kkB)), (m14, .inl (cI, 7, .inl hhB)), (m15, .inl (cI, 7, .inl ddB)), (m16, .inl (cI, 7, .inl bbB)), (m17, .inl (cI, 18, .inl sgB))] H := hP
  have hD9 : va_D A [(h5, .inr (5, [.ref m1, .int (nI pl), .int (nI n), .int (nI dr), .int (nI cr), .ref m2, .ref m3, .ref m4, .ref m5, .ref m6, .int (nI lm), .ref m7, .ref m8, .int (nI wm), .int (nI rd), .ref m9, .ref m10, .int (nI hd), .ref m11, .int (nI sc), .ref m12, .int (nI sdN), .int (dI kc), .int (nI dkM), .int (nI ksM), .ref m13, .ref m14, .ref m15, .ref m16, .ref m17, .long hz])), (m1, .inl (cI, 24, .inl lB)), (m2, .inl (cI, 7, .inl kB)), (m3, .inl (cI, 7, .inl hB)), (m4, .inl (cI, 7, .inl dB)), (m5, .inl (cI, 7, .inl bB)), (m6, .inl (cI, 7, .inl lfA)), (m7, .inl (cI, 7, .inl rwA)), (m8, .inl (cI, 7, .inl wlA)), (m9, .inl (cI, 49, .inl hvA)), (m10, .inl (cI, 7, .inl fdA)), (m11, .inl (cI, 128, .inl chA)), (m12, .inl (cI, 18, .inl sgA)), (m13, .inl (cI, 7, .inl kkB)), (m14, .inl (cI, 7, .inl hhB)), (m15, .inl (cI, 7, .inl ddB)), (m16, .inl (cI, 7, .inl bbB)), (m17, .inl (cI, 18, .inl sgB))] := hD
  exact W.iret (v := (-103)) hx hb hr (fun t9 ht9 hW9 => ⟨⟨(-103), (pl, n, dr, sc, cr, kB, hB, dB, bB), rfl, by
    have h1 : ¬ icS pl le = true := fun z => by have := icS_of z; omega
    simp only [if_neg h1]
    exact ⟨trivial, trivial, trivial, trivial, trivial, trivial, hC⟩, by rw [ht9]; exact hP9, va_K.moved hW9.alike hK, hD9⟩, hS.F ht9⟩) hS.2.2 dX5_company_31

set_option maxHeartbeats 4000000 in
set_option maxRecDepth 100000 in
theorem KX5_lacks (l : Launch) (dC : Nat → ClassId) (dI0 : Nat → Nat → Nat) (cI cZ : ClassId) (h5 : Nat) (m1 : Nat) (m2 : Nat) (m3 : Nat) (m4 : Nat) (m5 : Nat) (m6 : Nat) (m7 : Nat) (m8 : Nat) (m9 : Nat) (m10 : Nat) (m11 : Nat) (m12 : Nat) (m13 : Nat) (m14 : Nat) (m15 : Nat) (m16 : Nat) (m17 : Nat) (pl : Nat) (n : Nat) (dr : Nat) (cr : Nat) (lm : Nat) (wm : Nat) (rd : Nat) (hd : Nat) (sc : Nat) (sdN : Nat) (kc : Option Nat) (dkM : Nat) (ksM : Nat) (hz : Int64) (lB : Nat → Int32) (kB : Nat → Int32) (hB : Nat → Int32) (dB : Nat → Int32) (bB : Nat → Int32) (lfA : Nat → Int32) (rwA : Nat → Int32) (wlA : Nat → Int32) (hvA : Nat → Int32) (fdA : Nat → Int32) (chA : Nat → Int32) (sgA : Nat → Int32) (kkB : Nat → Int32) (hhB : Nat → Int32) (ddB : Nat → Int32) (bbB : Nat → Int32) (sgB : Nat → Int32) (sz : Nat) (hn7 : n ≤ 7) : Met l yX5_lacks wsX5_lacks ({ frames := 0, cells := 0, slots := 0, locals := 0 } : Room) (va_Pc [.ref h5] (fun U => U.heap.size = sz ∧ va_P (dC, dI0) vwCl (WM cI cZ h5 m1 m2 m3 m4 m5 m6 m7 m8 m9 m10 m11 m12 m13 m14 m15 m16 m17 pl n dr cr lm wm rd hd sc sdN kc dkM ksM hz lB kB hB dB bB lfA rwA wlA hvA fdA chA sgA kkB hhB ddB bbB sgB) U.heap ∧ va_K (dC, dI0) vwCl [(cI, .int), (cZ, .boolean)] U ∧ va_D (fun _ => True) (WM cI cZ h5 m1 m2 m3 m4 m5 m6 m7 m8 m9 m10 m11 m12 m13 m14 m15 m16 m17 pl n dr cr lm wm rd hd sc sdN kc dkM ksM hz lB kB hB dB bB lfA rwA wlA hvA fdA chA sgA kkB hhB ddB bbB sgB))) (va_Qi (fun (r : Int32) (u : Unit) => r = bI (decide (n = 0))) (fun (u : Unit) (t : State) => va_P (dC, dI0) vwCl (WM cI cZ h5 m1 m2 m3 m4 m5 m6 m7 m8 m9 m10 m11 m12 m13 m14 m15 m16 m17 pl n dr cr lm wm rd hd sc sdN kc dkM ksM hz lB kB hB dB bB lfA rwA wlA hvA fdA chA sgA kkB hhB ddB bbB sgB) t.heap ∧ va_K (dC, dI0) vwCl [(cI, .int), (cZ, .boolean)] t ∧ va_D (va_A (WM cI cZ h5 m1 m2 m3 m4 m5 m6 m7 m8 m9 m10 m11 m12 m13 m14 m15 m16 m17 pl n dr cr lm wm rd hd sc sdN kc dkM ksM hz lB kB hB dB bB lfA rwA wlA hvA fdA chA sgA kkB hhB ddB bbB sgB) sz) (WM cI cZ h5 m1 m2 m3 m4 m5 m6 m7 m8 m9 m10 m11 m12 m13 m14 m15 m16 m17 pl n dr cr lm wm rd hd sc sdN kc dkM ksM hz lB kB hB dB bB lfA rwA wlA hvA fdA chA sgA kkB hhB ddB bbB sgB)) (va_A (WM cI cZ h5 m1 m2 m3 m4 m5 m6 m7 m8 m9 m10 m11 m12 m13 m14 m15 m16 m17 pl n dr cr lm wm rd hd sc sdN kc dkM ksM hz lB kB hB dB bB lfA rwA wlA hvA fdA chA sgA kkB hhB ddB bbB sgB) sz)) 0 0 (va_A (WM cI cZ h5 m1 m2 m3 m4 m5 m6 m7 m8 m9 m10 m11 m12 m13 m14 m15 m16 m17 pl n dr cr lm wm rd hd sc sdN kc dkM ksM hz lB kB hB dB bB lfA rwA wlA hvA fdA chA sgA kkB hhB ddB bbB sgB) sz) := by
  refine Met.ofW (cc := cX5_lacks) (maxL := 1) (ret := (some .boolean)) (by decide) rfl ?_
  intro prg env s m args below meth c s₁ B hml hv
  obtain ⟨rfl, hsz, hP, hK, hD0⟩ := hv
  have hx := B.exec
  have hb := B.bytes
  have hr := B.returns
  have hts := atoms_spec (ws := wsX5_lacks) B.pre
  have hown : s.vm.findClass RX5 = some m.cls := findClass_of_methodNamed B.named
  have hlocks := B.notSynchronized
  subst hsz
  have hD := hD0.self (sz := s.heap.size)
  generalize hAe : va_A (WM cI cZ h5 m1 m2 m3 m4 m5 m6 m7 m8 m9 m10 m11 m12 m13 m14 m15 m16 m17 pl n dr cr lm wm rd hd sc sdN kc dkM ksM hz lB kB hB dB bB lfA rwA wlA hvA fdA chA sgA kkB hhB ddB bbB sgB) s.heap.size = A at hD ⊢
  have hA : ∀ q : Nat, s.heap.size ≤ q → A q := fun q h => by rw [← hAe]; exact Or.inr h
  have hS : va_S A s.heap s.heap [] := va_S.rf
  have hP : va_P (dC, dI0) vwCl [(h5, .inr (5, [.ref m1, .int (nI pl), .int (nI n), .int (nI dr), .int (nI cr), .ref m2, .ref m3, .ref m4, .ref m5, .ref m6, .int (nI lm), .ref m7, .ref m8, .int (nI wm), .int (nI rd), .ref m9, .ref m10, .int (nI hd), .ref m11, .int (nI sc), .ref m12, .int (nI sdN), .int (dI kc), .int (nI dkM), .int (nI ksM), .ref m13, .ref m14, .ref m15, .ref m16, .ref m17, .long hz])), (m1, .inl (cI, 24, .inl lB)), (m2, .inl (cI, 7, .inl kB)), (m3, .inl (cI, 7, .inl hB)), (m4, .inl (cI, 7, .inl dB)), (m5, .inl (cI, 7, .inl bB)), (m6, .inl (cI, 7, .inl lfA)), (m7, .inl (cI, 7, .inl rwA)), (m8, .inl (cI, 7, .inl wlA)), (m9, .inl (cI, 49, .inl hvA)), (m10, .inl (cI, 7, .inl fdA)), (m11, .inl (cI, 128, .inl chA)), (m12, .inl (cI, 18, .inl sgA)), (m13, .inl (cI, 7, .inl kkB)), (m14, .inl (cI, 7, .inl hhB)), (m15, .inl (cI, 7, .inl ddB)), (m16, .inl (cI, 7, .inl bbB)), (m17, .inl (cI, 18, .inl sgB))] s.heap := hP
  have hD : va_D A [(h5, .inr (5, [.ref m1, .int (nI pl), .int (nI n), .int (nI dr), .int (nI cr), .ref m2, .ref m3, .ref m4, .ref m5, .ref m6, .int (nI lm), .ref m7, .ref m8, .int (nI wm), .int (nI rd), .ref m9, .ref m10, .int (nI hd), .ref m11, .int (nI sc), .ref m12, .int (nI sdN), .int (dI kc), .int (nI dkM), .int (nI ksM), .ref m13, .ref m14, .ref m15, .ref m16, .ref m17, .long hz])), (m1, .inl (cI, 24, .inl lB)), (m2, .inl (cI, 7, .inl kB)), (m3, .inl (cI, 7, .inl hB)), (m4, .inl (cI, 7, .inl dB)), (m5, .inl (cI, 7, .inl bB)), (m6, .inl (cI, 7, .inl lfA)), (m7, .inl (cI, 7, .inl rwA)), (m8, .inl (cI, 7, .inl wlA)), (m9, .inl (cI, 49, .inl hvA)), (m10, .inl (cI, 7, .inl fdA)), (m11, .inl (cI, 128, .inl chA)), (m12, .inl (cI, 18, .inl sgA)), (m13, .inl (cI, 7, .inl kkB)), (m14, .inl (cI, 7, .inl hhB)), (m15, .inl (cI, 7, .inl ddB)), (m16, .inl (cI, 7, .inl bbB)), (m17, .inl (cI, 18, .inl sgB))] := hD
  have hl := lv_entry ([.ref h5]) (n := 1) (Nat.le_of_ble_eq_true rfl)
  rw [lg_entry_eq]
  generalize (lg_sl ([.ref h5]) ++ List.replicate (1 - (lg_sl ([.ref h5])).length) Slot.unset).toArray = ls at hl ⊢
  have hl : lv_has ls 1 [(0, .ref h5)] := hl
  obtain ⟨H, hH⟩ : ∃ H : Heap, H = s.heap := ⟨_, rfl⟩
  rw [← hH] at hP ⊢
  have hS : va_S A s.heap H [] := by rw [hH]; exact hS
  refine w_gen (fun Q hQ => ?_)
  have hin_X5 : ∀ w ∈ wsX50, w ∈ wsX5_lacks := by decide +kernel
  have hf90 := hts (.fieldLink RX5 90 "HatNamesModel" "persons" "I") (by decide +kernel)
  refine lv_aload_n hx hb dX5_lacks_0 rfl (lv_at hl 0 rfl) ?_
  refine va_get (D := (dC, dI0)) (ci := 5) (v := .int (nI n)) (C := RX5) (T := TX5) (N := 31) hx hb hts hin_X5 hown hK hP 0 rfl rfl 2 (by decide) hf90 (fun _ h9 => h9) rfl dX5_lacks_1 ?_
  refine lv_if_ne (tgt := 11) hx hb dX5_lacks_4 (by decide) (fun c4 => ?_) (fun c4 => ?_)
  ·
    have c4 : ¬ n = 0 := fun z => c4 ((nI_eq (a := n) (b := 0) (by omega) (by omega)).mpr z)
    refine lv_iconst (v := nI 0) hx hb dX5_lacks_11 (by decide) ?_
    subst hQ
    have hP9 : va_P (dC, dI0) vwCl [(h5, .inr (5, [.ref m1, .int (nI pl), .int (nI n), .int (nI dr), .int (nI cr), .ref m2, .ref m3, .ref m4, .ref m5, .ref m6, .int (nI lm), .ref m7, .ref m8, .int (nI wm), .int (nI rd), .ref m9, .ref m10, .int (nI hd), .ref m11, .int (nI sc), .ref m12, .int (nI sdN), .int (dI kc), .int (nI dkM), .int (nI ksM), .ref m13, .ref m14, .ref m15, .ref m16, .ref m17, .long hz])), (m1, .inl (cI, 24, .inl lB)), (m2, .inl (cI, 7, .inl kB)), (m3, .inl (cI, 7, .inl hB)), (m4, .inl (cI, 7, .inl dB)), (m5, .inl (cI, 7, .inl bB)), (m6, .inl (cI, 7, .inl lfA)), (m7, .inl (cI, 7, .inl rwA)), (m8, .inl (cI, 7, .inl wlA)), (m9, .inl (cI, 49, .inl hvA)), (m10, .inl (cI, 7, .inl fdA)), (m11, .inl (cI, 128, .inl chA)), (m12, .inl (cI, 18, .inl sgA)), (m13, .inl (cI, 7, .inl kkB)), (m14, .inl (cI, 7, .inl hhB)), (m15, .inl (cI, 7, .inl ddB)), (m16, .inl (cI, 7, .inl bbB)), (m17, .inl (cI, 18, .inl sgB))] H := hP
    have hD9 : va_D A [(h5, .inr (5, [.ref m1, .int (nI pl), .int (nI n), .int (nI dr), .int (nI cr), .ref m2, .ref m3, .ref m4, .ref m5, .ref m6, .int (nI lm), .ref m7, .ref m8, .int (nI wm), .int (nI rd), .ref m9, .ref m10, .int (nI hd), .ref m11, .int (nI sc), .ref m12, .int (nI sdN), .int (dI kc), .int (nI dkM), .int (nI ksM), .ref m13, .ref m14, .ref m15, .ref m16, .ref m17, .long hz])), (m1, .inl (cI, 24, .inl lB)), (m2, .inl (cI, 7, .inl kB)), (m3, .inl (cI, 7, .inl hB)), (m4, .inl (cI, 7, .inl dB)), (m5, .inl (cI, 7, .inl bB)), (m6, .inl (cI, 7, .inl lfA)), (m7, .inl (cI, 7, .inl rwA)), (m8, .inl (cI, 7, .inl wlA)), (m9, .inl (cI, 49, .inl hvA)), (m10, .inl (cI, 7, .inl fdA)), (m11, .inl (cI, 128, .inl chA)), (m12, .inl (cI, 18, .inl sgA)), (m13, .inl (cI, 7, .inl kkB)), (m14, .inl (cI, 7, .inl hhB)), (m15, .inl (cI, 7, .inl ddB)), (m16, .inl (cI, 7, .inl bbB)), (m17, .inl (cI, 18, .inl sgB))] := hD
    exact W.zret (v := nI 0) hx hb hr (nar_z false) (fun t9 ht9 hW9 => ⟨⟨nI 0, (), rfl, bI_2 (decide_eq_false c4), by rw [ht9]; exact hP9, va_K.moved hW9.alike hK, hD9⟩, hS.F ht9⟩) hS.2.2 dX5_lacks_12
  have c4 : n = 0 := (nI_eq (a := n) (b := 0) (by omega) (by omega)).mp c4
  refine lv_iconst (v := nI 1) hx hb dX5_lacks_7 (by decide) ?_
  refine lv_goto (tgt := 12) hx hb dX5_lacks_8 (by decide) ?_
  subst hQ
  have hP9 : va_P (dC, dI0) vwCl [(h5, .inr (5, [.ref m1, .int (nI pl), .int (nI n), .int (nI dr), .int (nI cr), .ref m2, .ref m3, .ref m4, .ref m5, .ref m6, .int (nI lm), .ref m7, .ref m8, .int (nI wm), .int (nI rd), .ref m9, .ref m10, .int (nI hd), .ref m11, .int (nI sc), .ref m12, .int (nI sdN), .int (dI kc), .int (nI dkM), .int (nI ksM), .ref m13, .ref m14, .ref m15, .ref m16, .ref m17, .long hz])), (m1, .inl (cI, 24, .inl lB)), (m2, .inl (cI, 7, .inl kB)), (m3, .inl (cI, 7, .inl hB)), (m4, .inl (cI, 7, .inl dB)), (m5, .inl (cI, 7, .inl bB)), (m6, .inl (cI, 7, .inl lfA)), (m7, .inl (cI, 7, .inl rwA)), (m8, .inl (cI, 7, .inl wlA)), (m9, .inl (cI, 49, .inl hvA)), (m10, .inl (cI, 7, .inl fdA)), (m11, .inl (cI, 128, .inl chA)), (m12, .inl (cI, 18, .inl sgA)), (m13, .inl (cI, 7, .inl kkB)), (m14, .inl (cI, 7, .inl hhB)), (m15, .inl (cI, 7, .inl ddB)), (m16, .inl (cI, 7, .inl bbB)), (m17, .inl (cI, 18, .inl sgB))] H := hP
  have hD9 : va_D A [(h5, .inr (5, [.ref m1, .int (nI pl), .int (nI n), .int (nI dr), .int (nI cr), .ref m2, .ref m3, .ref m4, .ref m5, .ref m6, .int (nI lm), .ref m7, .ref m8, .int (nI wm), .int (nI rd), .ref m9, .ref m10, .int (nI hd), .ref m11, .int (nI sc), .ref m12, .int (nI sdN), .int (dI kc), .int (nI dkM), .int (nI ksM), .ref m13, .ref m14, .ref m15, .ref m16, .ref m17, .long hz])), (m1, .inl (cI, 24, .inl lB)), (m2, .inl (cI, 7, .inl kB)), (m3, .inl (cI, 7, .inl hB)), (m4, .inl (cI, 7, .inl dB)), (m5, .inl (cI, 7, .inl bB)), (m6, .inl (cI, 7, .inl lfA)), (m7, .inl (cI, 7, .inl rwA)), (m8, .inl (cI, 7, .inl wlA)), (m9, .inl (cI, 49, .inl hvA)), (m10, .inl (cI, 7, .inl fdA)), (m11, .inl (cI, 128, .inl chA)), (m12, .inl (cI, 18, .inl sgA)), (m13, .inl (cI, 7, .inl kkB)), (m14, .inl (cI, 7, .inl hhB)), (m15, .inl (cI, 7, .inl ddB)), (m16, .inl (cI, 7, .inl bbB)), (m17, .inl (cI, 18, .inl sgB))] := hD
  exact W.zret (v := nI 1) hx hb hr (nar_z true) (fun t9 ht9 hW9 => ⟨⟨nI 1, (), rfl, bI_1 (decide_eq_true c4), by rw [ht9]; exact hP9, va_K.moved hW9.alike hK, hD9⟩, hS.F ht9⟩) hS.2.2 dX5_lacks_12

set_option maxHeartbeats 4000000 in
set_option maxRecDepth 100000 in
theorem KX5_isPerson (l : Launch) (dC : Nat → ClassId) (dI0 : Nat → Nat → Nat) (cI cZ : ClassId) (h5 : Nat) (m1 : Nat) (m2 : Nat) (m3 : Nat) (m4 : Nat) (m5 : Nat) (m6 : Nat) (m7 : Nat) (m8 : Nat) (m9 : Nat) (m10 : Nat) (m11 : Nat) (m12 : Nat) (m13 : Nat) (m14 : Nat) (m15 : Nat) (m16 : Nat) (m17 : Nat) (pl : Nat) (n : Nat) (dr : Nat) (cr : Nat) (lm : Nat) (wm : Nat) (rd : Nat) (hd : Nat) (sc : Nat) (sdN : Nat) (kc : Option Nat) (dkM : Nat) (ksM : Nat) (hz : Int64) (lB : Nat → Int32) (kB : Nat → Int32) (hB : Nat → Int32) (dB : Nat → Int32) (bB : Nat → Int32) (lfA : Nat → Int32) (rwA : Nat → Int32) (wlA : Nat → Int32) (hvA : Nat → Int32) (fdA : Nat → Int32) (chA : Nat → Int32) (sgA : Nat → Int32) (kkB : Nat → Int32) (hhB : Nat → Int32) (ddB : Nat → Int32) (bbB : Nat → Int32) (sgB : Nat → Int32) (sz : Nat) (x : Int32) (hn7 : n ≤ 7) : Met l yX5_isPerson wsX5_isPerson ({ frames := 1, cells := 0, slots := 0, locals := 25 } : Room) (va_Pc [.ref h5, .int x] (fun U => U.heap.size = sz ∧ va_P (dC, dI0) vwCl (WM cI cZ h5 m1 m2 m3 m4 m5 m6 m7 m8 m9 m10 m11 m12 m13 m14 m15 m16 m17 pl n dr cr lm wm rd hd sc sdN kc dkM ksM hz lB kB hB dB bB lfA rwA wlA hvA fdA chA sgA kkB hhB ddB bbB sgB) U.heap ∧ va_K (dC, dI0) vwCl [(cI, .int), (cZ, .boolean)] U ∧ va_D (fun _ => True) (WM cI cZ h5 m1 m2 m3 m4 m5 m6 m7 m8 m9 m10 m11 m12 m13 m14 m15 m16 m17 pl n dr cr lm wm rd hd sc sdN kc dkM ksM hz lB kB hB dB bB lfA rwA wlA hvA fdA chA sgA kkB hhB ddB bbB sgB))) (va_Qi (fun (r : Int32) (u : Unit) => r = bI (hasS n x)) (fun (u : Unit) (t : State) => va_P (dC, dI0) vwCl (WM cI cZ h5 m1 m2 m3 m4 m5 m6 m7 m8 m9 m10 m11 m12 m13 m14 m15 m16 m17 pl n dr cr lm wm rd hd sc sdN kc dkM ksM hz lB kB hB dB bB lfA rwA wlA hvA fdA chA sgA kkB hhB ddB bbB sgB) t.heap ∧ va_K (dC, dI0) vwCl [(cI, .int), (cZ, .boolean)] t ∧ va_D (va_A (WM cI cZ h5 m1 m2 m3 m4 m5 m6 m7 m8 m9 m10 m11 m12 m13 m14 m15 m16 m17 pl n dr cr lm wm rd hd sc sdN kc dkM ksM hz lB kB hB dB bB lfA rwA wlA hvA fdA chA sgA kkB hhB ddB bbB sgB) sz) (WM cI cZ h5 m1 m2 m3 m4 m5 m6 m7 m8 m9 m10 m11 m12 m13 m14 m15 m16 m17 pl n dr cr lm wm rd hd sc sdN kc dkM ksM hz lB kB hB dB bB lfA rwA wlA hvA fdA chA sgA kkB hhB ddB bbB sgB)) (va_A (WM cI cZ h5 m1 m2 m3 m4 m5 m6 m7 m8 m9 m10 m11 m12 m13 m14 m15 m16 m17 pl n dr cr lm wm rd hd sc sdN kc dkM ksM hz lB kB hB dB bB lfA rwA wlA hvA fdA chA sgA kkB hhB ddB bbB sgB) sz)) 0 0 (va_A (WM cI cZ h5 m1 m2 m3 m4 m5 m6 m7 m8 m9 m10 m11 m12 m13 m14 m15 m16 m17 pl n dr cr lm wm rd hd sc sdN kc dkM ksM hz lB kB hB dB bB lfA rwA wlA hvA fdA chA sgA kkB hhB ddB bbB sgB) sz) := by
  refine Met.ofW (cc := cX5_isPerson) (maxL := 2) (ret := (some .boolean)) (by decide) rfl ?_
  intro prg env s m args below meth c s₁ B hml hv
  obtain ⟨rfl, hsz, hP, hK, hD0⟩ := hv
  have hx := B.exec
  have hb := B.bytes
  have hr := B.returns
  have hts := atoms_spec (ws := wsX5_isPerson) B.pre
  have hown : s.vm.findClass RX5 = some m.cls := findClass_of_methodNamed B.named
  have hlocks := B.notSynchronized
  subst hsz
  have hD := hD0.self (sz := s.heap.size)
  generalize hAe : va_A (WM cI cZ h5 m1 m2 m3 m4 m5 m6 m7 m8 m9 m10 m11 m12 m13 m14 m15 m16 m17 pl n dr cr lm wm rd hd sc sdN kc dkM ksM hz lB kB hB dB bB lfA rwA wlA hvA fdA chA sgA kkB hhB ddB bbB sgB) s.heap.size = A at hD ⊢
  have hA : ∀ q : Nat, s.heap.size ≤ q → A q := fun q h => by rw [← hAe]; exact Or.inr h
  have hS : va_S A s.heap s.heap [] := va_S.rf
  have hP : va_P (dC, dI0) vwCl [(h5, .inr (5, [.ref m1, .int (nI pl), .int (nI n), .int (nI dr), .int (nI cr), .ref m2, .ref m3, .ref m4, .ref m5, .ref m6, .int (nI lm), .ref m7, .ref m8, .int (nI wm), .int (nI rd), .ref m9, .ref m10, .int (nI hd), .ref m11, .int (nI sc), .ref m12, .int (nI sdN), .int (dI kc), .int (nI dkM), .int (nI ksM), .ref m13, .ref m14, .ref m15, .ref m16, .ref m17, .long hz])), (m1, .inl (cI, 24, .inl lB)), (m2, .inl (cI, 7, .inl kB)), (m3, .inl (cI, 7, .inl hB)), (m4, .inl (cI, 7, .inl dB)), (m5, .inl (cI, 7, .inl bB)), (m6, .inl (cI, 7, .inl lfA)), (m7, .inl (cI, 7, .inl rwA)), (m8, .inl (cI, 7, .inl wlA)), (m9, .inl (cI, 49, .inl hvA)), (m10, .inl (cI, 7, .inl fdA)), (m11, .inl (cI, 128, .inl chA)), (m12, .inl (cI, 18, .inl sgA)), (m13, .inl (cI, 7, .inl kkB)), (m14, .inl (cI, 7, .inl hhB)), (m15, .inl (cI, 7, .inl ddB)), (m16, .inl (cI, 7, .inl bbB)), (m17, .inl (cI, 18, .inl sgB))] s.heap := hP
  have hD : va_D A [(h5, .inr (5, [.ref m1, .int (nI pl), .int (nI n), .int (nI dr), .int (nI cr), .ref m2, .ref m3, .ref m4, .ref m5, .ref m6, .int (nI lm), .ref m7, .ref m8, .int (nI wm), .int (nI rd), .ref m9, .ref m10, .int (nI hd), .ref m11, .int (nI sc), .ref m12, .int (nI sdN), .int (dI kc), .int (nI dkM), .int (nI ksM), .ref m13, .ref m14, .ref m15, .ref m16, .ref m17, .long hz])), (m1, .inl (cI, 24, .inl lB)), (m2, .inl (cI, 7, .inl kB)), (m3, .inl (cI, 7, .inl hB)), (m4, .inl (cI, 7, .inl dB)), (m5, .inl (cI, 7, .inl bB)), (m6, .inl (cI, 7, .inl lfA)), (m7, .inl (cI, 7, .inl rwA)), (m8, .inl (cI, 7, .inl wlA)), (m9, .inl (cI, 49, .inl hvA)), (m10, .inl (cI, 7, .inl fdA)), (m11, .inl (cI, 128, .inl chA)), (m12, .inl (cI, 18, .inl sgA)), (m13, .inl (cI, 7, .inl kkB)), (m14, .inl (cI, 7, .inl hhB)), (m15, .inl (cI, 7, .inl ddB)), (m16, .inl (cI, 7, .inl bbB)), (m17, .inl (cI, 18, .inl sgB))] := hD
  have hl := lv_entry ([.ref h5, .int x]) (n := 2) (Nat.le_of_ble_eq_true rfl)
  rw [lg_entry_eq]
  generalize (lg_sl ([.ref h5, .int x]) ++ List.replicate (2 - (lg_sl ([.ref h5, .int x])).length) Slot.unset).toArray = ls at hl ⊢
  have hl : lv_has ls 2 [(0, .ref h5), (1, .int x)] := hl
  obtain ⟨H, hH⟩ : ∃ H : Heap, H = s.heap := ⟨_, rfl⟩
  rw [← hH] at hP ⊢
  have hS : va_S A s.heap H [] := by rw [hH]; exact hS
  refine w_gen (fun Q hQ => ?_)
  have hin_X5 : ∀ w ∈ wsX50, w ∈ wsX5_isPerson := by decide +kernel
  have hf90 := hts (.fieldLink RX5 90 "HatNamesModel" "persons" "I") (by decide +kernel)
  refine lv_iload_n hx hb dX5_isPerson_0 rfl (lv_at hl 1 rfl) ?_
  refine lv_i2l (v := (x).toInt64) hx hb dX5_isPerson_1 rfl ?_
  refine lv_lconst (v := lN 0) hx hb dX5_isPerson_2 (by decide) ?_
  refine lv_aload_n hx hb dX5_isPerson_3 rfl (lv_at hl 0 rfl) ?_
  refine va_get (D := (dC, dI0)) (ci := 5) (v := .int (nI n)) (C := RX5) (T := TX5) (N := 31) hx hb hts hin_X5 hown hK hP 0 rfl rfl 2 (by decide) hf90 (fun _ h9 => h9) rfl dX5_isPerson_4 ?_
  refine lv_iconst (v := nI 1) hx hb dX5_isPerson_7 (by decide) ?_
  refine lv_isub hx hb dX5_isPerson_8 ?_
  refine lv_topi (fun x8 e8 => ?_)
  have hq9 := e8
  refine lv_i2l (v := (x8).toInt64) hx hb dX5_isPerson_9 rfl ?_
  have hPc := hP.sub (ws' := []) [] rfl
  have hDc := hD.sub (ws' := []) [] (by decide) rfl
  have hFc := va_free (wc := []) hD hS hA [] rfl
  refine va_calli (va_runS (As := [.long ((x).toInt64), .long (lN 0), .long ((x8).toInt64)]) (rest := []) ⟨hx, hb, hml, hown, hts⟩ (KX5_in l dC dI0 cI cZ  H.size ((x).toInt64) (lN 0) ((x8).toInt64)) (va_cwS 3 hts gX5_isPerson_X5_in rfl rfl rfl (by decide +kernel) ⟨Nat.le_of_ble_eq_true rfl, Nat.le_of_ble_eq_true rfl⟩) ⟨fun a U g mk q => by obtain ⟨q0, q1, qP, qK, qD⟩ := q; exact ⟨q0, q1, qP, va_K.moved (u := U) (U := U.calling g mk a) (Vm.Alike.refl U.vm) qK, qD⟩, fun U hU hW => ⟨rfl, by rw [hU], by rw [hU]; exact hPc, va_K.moved hW.alike hK, hDc.weaken (fun _ _ _ _ => trivial)⟩⟩ rfl rfl hl.1 rfl (lv_room (Nat.le_of_ble_eq_true rfl)) dX5_isPerson_10 ⟨Nat.le_of_ble_eq_true rfl, Nat.le_of_ble_eq_true rfl⟩) hS (fun q _ h => hFc q h) hFc (fun r10 u10 t7 H1 locs ht7 hvm7 hw10 hB hz1 hk1 hS => ?_)
  obtain ⟨hP1, hK1, hD1⟩ := hB
  rw [ht7] at hP1
  try dsimp only at hw10 hP1 hD1
  obtain ⟨hP, hD⟩ := va_join (wr := [(h5, .inr (5, [.ref m1, .int (nI pl), .int (nI n), .int (nI dr), .int (nI cr), .ref m2, .ref m3, .ref m4, .ref m5, .ref m6, .int (nI lm), .ref m7, .ref m8, .int (nI wm), .int (nI rd), .ref m9, .ref m10, .int (nI hd), .ref m11, .int (nI sc), .ref m12, .int (nI sdN), .int (dI kc), .int (nI dkM), .int (nI ksM), .ref m13, .ref m14, .ref m15, .ref m16, .ref m17, .long hz])), (m1, .inl (cI, 24, .inl lB)), (m2, .inl (cI, 7, .inl kB)), (m3, .inl (cI, 7, .inl hB)), (m4, .inl (cI, 7, .inl dB)), (m5, .inl (cI, 7, .inl bB)), (m6, .inl (cI, 7, .inl lfA)), (m7, .inl (cI, 7, .inl rwA)), (m8, .inl (cI, 7, .inl wlA)), (m9, .inl (cI, 49, .inl hvA)), (m10, .inl (cI, 7, .inl fdA)), (m11, .inl (cI, 128, .inl chA)), (m12, .inl (cI, 18, .inl sgA)), (m13, .inl (cI, 7, .inl kkB)), (m14, .inl (cI, 7, .inl hhB)), (m15, .inl (cI, 7, .inl ddB)), (m16, .inl (cI, 7, .inl bbB)), (m17, .inl (cI, 18, .inl sgB))]) (w1 := []) hP hD [] [0, 1, 2, 3, 4, 5, 6, 7, 8, 9, 10, 11, 12, 13, 14, 15, 16, 17] rfl rfl (by decide) (by decide) hk1 hFc hP1 hD1
  generalize H1 = H at hP hS ⊢
  have hP := hP.sub (ws' := [(h5, .inr (5, [.ref m1, .int (nI pl), .int (nI n), .int (nI dr), .int (nI cr), .ref m2, .ref m3, .ref m4, .ref m5, .ref m6, .int (nI lm), .ref m7, .ref m8, .int (nI wm), .int (nI rd), .ref m9, .ref m10, .int (nI hd), .ref m11, .int (nI sc), .ref m12, .int (nI sdN), .int (dI kc), .int (nI dkM), .int (nI ksM), .ref m13, .ref m14, .ref m15, .ref m16, .ref m17, .long hz])), (m1, .inl (cI, 24, .inl lB)), (m2, .inl (cI, 7, .inl kB)), (m3, .inl (cI, 7, .inl hB)), (m4, .inl (cI, 7, .inl dB)), (m5, .inl (cI, 7, .inl bB)), (m6, .inl (cI, 7, .inl lfA)), (m7, .inl (cI, 7, .inl rwA)), (m8, .inl (cI, 7, .inl wlA)), (m9, .inl (cI, 49, .inl hvA)), (m10, .inl (cI, 7, .inl fdA)), (m11, .inl (cI, 128, .inl chA)), (m12, .inl (cI, 18, .inl sgA)), (m13, .inl (cI, 7, .inl kkB)), (m14, .inl (cI, 7, .inl hhB)), (m15, .inl (cI, 7, .inl ddB)), (m16, .inl (cI, 7, .inl bbB)), (m17, .inl (cI, 18, .inl sgB))]) [0, 1, 2, 3, 4, 5, 6, 7, 8, 9, 10, 11, 12, 13, 14, 15, 16, 17] rfl
  have hD := hD.sub (ws' := [(h5, .inr (5, [.ref m1, .int (nI pl), .int (nI n), .int (nI dr), .int (nI cr), .ref m2, .ref m3, .ref m4, .ref m5, .ref m6, .int (nI lm), .ref m7, .ref m8, .int (nI wm), .int (nI rd), .ref m9, .ref m10, .int (nI hd), .ref m11, .int (nI sc), .ref m12, .int (nI sdN), .int (dI kc), .int (nI dkM), .int (nI ksM), .ref m13, .ref m14, .ref m15, .ref m16, .ref m17, .long hz])), (m1, .inl (cI, 24, .inl lB)), (m2, .inl (cI, 7, .inl kB)), (m3, .inl (cI, 7, .inl hB)), (m4, .inl (cI, 7, .inl dB)), (m5, .inl (cI, 7, .inl bB)), (m6, .inl (cI, 7, .inl lfA)), (m7, .inl (cI, 7, .inl rwA)), (m8, .inl (cI, 7, .inl wlA)), (m9, .inl (cI, 49, .inl hvA)), (m10, .inl (cI, 7, .inl fdA)), (m11, .inl (cI, 128, .inl chA)), (m12, .inl (cI, 18, .inl sgA)), (m13, .inl (cI, 7, .inl kkB)), (m14, .inl (cI, 7, .inl hhB)), (m15, .inl (cI, 7, .inl ddB)), (m16, .inl (cI, 7, .inl bbB)), (m17, .inl (cI, 18, .inl sgB))]) [0, 1, 2, 3, 4, 5, 6, 7, 8, 9, 10, 11, 12, 13, 14, 15, 16, 17] (by decide) rfl
  obtain rfl : r10 = bI (hasS n x) := hw10.trans (congrArg bI (by rw [e8]; exact inL_has hn7))
  subst hQ
  have hP9 : va_P (dC, dI0) vwCl [(h5, .inr (5, [.ref m1, .int (nI pl), .int (nI n), .int (nI dr), .int (nI cr), .ref m2, .ref m3, .ref m4, .ref m5, .ref m6, .int (nI lm), .ref m7, .ref m8, .int (nI wm), .int (nI rd), .ref m9, .ref m10, .int (nI hd), .ref m11, .int (nI sc), .ref m12, .int (nI sdN), .int (dI kc), .int (nI dkM), .int (nI ksM), .ref m13, .ref m14, .ref m15, .ref m16, .ref m17, .long hz])), (m1, .inl (cI, 24, .inl lB)), (m2, .inl (cI, 7, .inl kB)), (m3, .inl (cI, 7, .inl hB)), (m4, .inl (cI, 7, .inl dB)), (m5, .inl (cI, 7, .inl bB)), (m6, .inl (cI, 7, .inl lfA)), (m7, .inl (cI, 7, .inl rwA)), (m8, .inl (cI, 7, .inl wlA)), (m9, .inl (cI, 49, .inl hvA)), (m10, .inl (cI, 7, .inl fdA)), (m11, .inl (cI, 128, .inl chA)), (m12, .inl (cI, 18, .inl sgA)), (m13, .inl (cI, 7, .inl kkB)), (m14, .inl (cI, 7, .inl hhB)), (m15, .inl (cI, 7, .inl ddB)), (m16, .inl (cI, 7, .inl bbB)), (m17, .inl (cI, 18, .inl sgB))] H := hP
  have hD9 : va_D A [(h5, .inr (5, [.ref m1, .int (nI pl), .int (nI n), .int (nI dr), .int (nI cr), .ref m2, .ref m3, .ref m4, .ref m5, .ref m6, .int (nI lm), .ref m7, .ref m8, .int (nI wm), .int (nI rd), .ref m9, .ref m10, .int (nI hd), .ref m11, .int (nI sc), .ref m12, .int (nI sdN), .int (dI kc), .int (nI dkM), .int (nI ksM), .ref m13, .ref m14, .ref m15, .ref m16, .ref m17, .long hz])), (m1, .inl (cI, 24, .inl lB)), (m2, .inl (cI, 7, .inl kB)), (m3, .inl (cI, 7, .inl hB)), (m4, .inl (cI, 7, .inl dB)), (m5, .inl (cI, 7, .inl bB)), (m6, .inl (cI, 7, .inl lfA)), (m7, .inl (cI, 7, .inl rwA)), (m8, .inl (cI, 7, .inl wlA)), (m9, .inl (cI, 49, .inl hvA)), (m10, .inl (cI, 7, .inl fdA)), (m11, .inl (cI, 128, .inl chA)), (m12, .inl (cI, 18, .inl sgA)), (m13, .inl (cI, 7, .inl kkB)), (m14, .inl (cI, 7, .inl hhB)), (m15, .inl (cI, 7, .inl ddB)), (m16, .inl (cI, 7, .inl bbB)), (m17, .inl (cI, 18, .inl sgB))] := hD
  exact W.zret (v := bI (hasS n x)) hx hb hr (nar_z _) (fun t9 ht9 hW9 => ⟨⟨bI (hasS n x), (), rfl, rfl, by rw [ht9]; exact hP9, va_K.moved hW9.alike hK, hD9⟩, hS.F ht9⟩) hS.2.2 dX5_isPerson_13

set_option maxHeartbeats 4000000 in
set_option maxRecDepth 100000 in
theorem KX5_isBeside (l : Launch) (dC : Nat → ClassId) (dI0 : Nat → Nat → Nat) (cI cZ : ClassId) (sz : Nat) (a : Nat) (b : Nat) (ha : a < 2 ^ 30) (hb9 : b < 2 ^ 30) : Met l yX5_isBeside wsX5_isBeside ({ frames := 0, cells := 0, slots := 0, locals := 0 } : Room) (va_Pc [.int (nI a), .int (nI b)] (fun U => U.heap.size = sz ∧ va_P (dC, dI0) vwCl (WE0 cI cZ ) U.heap ∧ va_K (dC, dI0) vwCl [(cI, .int), (cZ, .boolean)] U ∧ va_D (fun _ => True) (WE0 cI cZ ))) (va_Qi (fun (r : Int32) (u : Unit) => r = bI (decide (adf a b = 1))) (fun (u : Unit) (t : State) => va_P (dC, dI0) vwCl (WE0 cI cZ ) t.heap ∧ va_K (dC, dI0) vwCl [(cI, .int), (cZ, .boolean)] t ∧ va_D (va_A (WE0 cI cZ ) sz) (WE0 cI cZ )) (va_A (WE0 cI cZ ) sz)) 0 0 (va_A (WE0 cI cZ ) sz) := by
  refine Met.ofW (cc := cX5_isBeside) (maxL := 2) (ret := (some .boolean)) (by decide) rfl ?_
  intro prg env s m args below meth c s₁ B hml hv
  obtain ⟨rfl, hsz, hP, hK, hD0⟩ := hv
  have hx := B.exec
  have hb := B.bytes
  have hr := B.returns
  have hts := atoms_spec (ws := wsX5_isBeside) B.pre
  have hown : s.vm.findClass RX5 = some m.cls := findClass_of_methodNamed B.named
  have hlocks := B.notSynchronized
  subst hsz
  have hD := hD0.self (sz := s.heap.size)
  generalize hAe : va_A (WE0 cI cZ ) s.heap.size = A at hD ⊢
  have hA : ∀ q : Nat, s.heap.size ≤ q → A q := fun q h => by rw [← hAe]; exact Or.inr h
  have hS : va_S A s.heap s.heap [] := va_S.rf
  have hP : va_P (dC, dI0) vwCl [] s.heap := hP
  have hD : va_D A [] := hD
  have hl := lv_entry ([.int (nI a), .int (nI b)]) (n := 2) (Nat.le_of_ble_eq_true rfl)
  rw [lg_entry_eq]
  generalize (lg_sl ([.int (nI a), .int (nI b)]) ++ List.replicate (2 - (lg_sl ([.int (nI a), .int (nI b)])).length) Slot.unset).toArray = ls at hl ⊢
  have hl : lv_has ls 2 [(0, .int (nI a)), (1, .int (nI b))] := hl
  obtain ⟨H, hH⟩ : ∃ H : Heap, H = s.heap := ⟨_, rfl⟩
  rw [← hH] at hP ⊢
  have hS : va_S A s.heap H [] := by rw [hH]; exact hS
  refine w_gen (fun Q hQ => ?_)
  refine lv_iload_n hx hb dX5_isBeside_0 rfl (lv_at hl 0 rfl) ?_
  refine lv_iload_n hx hb dX5_isBeside_1 rfl (lv_at hl 1 rfl) ?_
  refine lv_isub hx hb dX5_isBeside_2 ?_
  refine lv_topi (fun x2 e2 => ?_)
  refine lv_iconst (v := nI 1) hx hb dX5_isBeside_3 (by decide) ?_
  refine lv_icmp_eq (tgt := 14) hx hb dX5_isBeside_4 (by decide) (fun c4 => ?_) (fun c4 => ?_)
  ·
    have c4 := (sub_1 ha hb9).mp (e2.symm.trans c4)
    refine lv_iconst (v := nI 1) hx hb dX5_isBeside_14 (by decide) ?_
    refine lv_goto (tgt := 19) hx hb dX5_isBeside_15 (by decide) ?_
    subst hQ
    have hP9 : va_P (dC, dI0) vwCl [] H := hP
    have hD9 : va_D A [] := hD
    exact W.zret (v := nI 1) hx hb hr (nar_z true) (fun t9 ht9 hW9 => ⟨⟨nI 1, (), rfl, bI_1 (decide_eq_true (by unfold adf; omega)), by rw [ht9]; exact hP9, va_K.moved hW9.alike hK, hD9⟩, hS.F ht9⟩) hS.2.2 dX5_isBeside_19
  have c4 : ¬ a = b + 1 := fun z => c4 (e2.trans ((sub_1 ha hb9).mpr z))
  refine lv_iload_n hx hb dX5_isBeside_7 rfl (lv_at hl 1 rfl) ?_
  refine lv_iload_n hx hb dX5_isBeside_8 rfl (lv_at hl 0 rfl) ?_
  refine lv_isub hx hb dX5_isBeside_9 ?_
  refine lv_topi (fun x9 e9 => ?_)
  refine lv_iconst (v := nI 1) hx hb dX5_isBeside_10 (by decide) ?_
  refine lv_icmp_ne (tgt := 18) hx hb dX5_isBeside_11 (by decide) (fun c11 => ?_) (fun c11 => ?_)
  ·
    have c11 : ¬ b = a + 1 := fun z => c11 (e9.trans ((sub_1 hb9 ha).mpr z))
    refine lv_iconst (v := nI 0) hx hb dX5_isBeside_18 (by decide) ?_
    subst hQ
    have hP9 : va_P (dC, dI0) vwCl [] H := hP
    have hD9 : va_D A [] := hD
    exact W.zret (v := nI 0) hx hb hr (nar_z false) (fun t9 ht9 hW9 => ⟨⟨nI 0, (), rfl, bI_2 (decide_eq_false (by unfold adf; omega)), by rw [ht9]; exact hP9, va_K.moved hW9.alike hK, hD9⟩, hS.F ht9⟩) hS.2.2 dX5_isBeside_19
  have c11 := (sub_1 hb9 ha).mp (e9.symm.trans c11)
  refine lv_iconst (v := nI 1) hx hb dX5_isBeside_14 (by decide) ?_
  refine lv_goto (tgt := 19) hx hb dX5_isBeside_15 (by decide) ?_
  subst hQ
  have hP9 : va_P (dC, dI0) vwCl [] H := hP
  have hD9 : va_D A [] := hD
  exact W.zret (v := nI 1) hx hb hr (nar_z true) (fun t9 ht9 hW9 => ⟨⟨nI 1, (), rfl, bI_1 (decide_eq_true (by unfold adf; omega)), by rw [ht9]; exact hP9, va_K.moved hW9.alike hK, hD9⟩, hS.F ht9⟩) hS.2.2 dX5_isBeside_19

set_option maxHeartbeats 4000000 in
set_option maxRecDepth 100000 in
theorem KX5_mayBy (l : Launch) (dC : Nat → ClassId) (dI0 : Nat → Nat → Nat) (cI cZ : ClassId) (h5 : Nat) (m1 : Nat) (m2 : Nat) (m3 : Nat) (m4 : Nat) (m5 : Nat) (m6 : Nat) (m7 : Nat) (m8 : Nat) (m9 : Nat) (m10 : Nat) (m11 : Nat) (m12 : Nat) (m13 : Nat) (m14 : Nat) (m15 : Nat) (m16 : Nat) (m17 : Nat) (pl : Nat) (n : Nat) (dr : Nat) (cr : Nat) (lm : Nat) (wm : Nat) (rd : Nat) (hd : Nat) (sc : Nat) (sdN : Nat) (kc : Option Nat) (dkM : Nat) (ksM : Nat) (hz : Int64) (lB : Nat → Int32) (kB : Nat → Int32) (hB : Nat → Int32) (dB : Nat → Int32) (bB : Nat → Int32) (lfA : Nat → Int32) (rwA : Nat → Int32) (wlA : Nat → Int32) (hvA : Nat → Int32) (fdA : Nat → Int32) (chA : Nat → Int32) (sgA : Nat → Int32) (kkB : Nat → Int32) (hhB : Nat → Int32) (ddB : Nat → Int32) (bbB : Nat → Int32) (sgB : Nat → Int32) (sz : Nat) (k : Nat → Nat) (h : Nat → Nat) (b : Nat → Nat) (d : Nat → Option Nat) (kd : Nat) (p : Nat) (q : Nat) (hC : CoR n kB hB dB bB k h b d) (hkd : kd ≤ 4) (hp : p < n) (hq : q < n) : Met l yX5_mayBy wsX5_mayBy ({ frames := 1, cells := 0, slots := 0, locals := 21 } : Room) (va_Pc [.ref h5, .int (nI kd), .int (nI p), .int (nI q)] (fun U => U.heap.size = sz ∧ va_P (dC, dI0) vwCl (WM cI cZ h5 m1 m2 m3 m4 m5 m6 m7 m8 m9 m10 m11 m12 m13 m14 m15 m16 m17 pl n dr cr lm wm rd hd sc sdN kc dkM ksM hz lB kB hB dB bB lfA rwA wlA hvA fdA chA sgA kkB hhB ddB bbB sgB) U.heap ∧ va_K (dC, dI0) vwCl [(cI, .int), (cZ, .boolean)] U ∧ va_D (fun _ => True) (WM cI cZ h5 m1 m2 m3 m4 m5 m6 m7 m8 m9 m10 m11 m12 m13 m14 m15 m16 m17 pl n dr cr lm wm rd hd sc sdN kc dkM ksM hz lB kB hB dB bB lfA rwA wlA hvA fdA chA sgA kkB hhB ddB bbB sgB))) (va_Qi (fun (r : Int32) (u : Unit) => r = bI (kM h kd p q)) (fun (u : Unit) (t : State) => va_P (dC, dI0) vwCl (WM cI cZ h5 m1 m2 m3 m4 m5 m6 m7 m8 m9 m10 m11 m12 m13 m14 m15 m16 m17 pl n dr cr lm wm rd hd sc sdN kc dkM ksM hz lB kB hB dB bB lfA rwA wlA hvA fdA chA sgA kkB hhB ddB bbB sgB) t.heap ∧ va_K (dC, dI0) vwCl [(cI, .int), (cZ, .boolean)] t ∧ va_D (va_A (WM cI cZ h5 m1 m2 m3 m4 m5 m6 m7 m8 m9 m10 m11 m12 m13 m14 m15 m16 m17 pl n dr cr lm wm rd hd sc sdN kc dkM ksM hz lB kB hB dB bB lfA rwA wlA hvA fdA chA sgA kkB hhB ddB bbB sgB) sz) (WM cI cZ h5 m1 m2 m3 m4 m5 m6 m7 m8 m9 m10 m11 m12 m13 m14 m15 m16 m17 pl n dr cr lm wm rd hd sc sdN kc dkM ksM hz lB kB hB dB bB lfA rwA wlA hvA fdA chA sgA kkB hhB ddB bbB sgB)) (va_A (WM cI cZ h5 m1 m2 m3 m4 m5 m6 m7 m8 m9 m10 m11 m12 m13 m14 m15 m16 m17 pl n dr cr lm wm rd hd sc sdN kc dkM ksM hz lB kB hB dB bB lfA rwA wlA hvA fdA chA sgA kkB hhB ddB bbB sgB) sz)) 0 0 (va_A (WM cI cZ h5 m1 m2 m3 m4 m5 m6 m7 m8 m9 m10 m11 m12 m13 m14 m15 m16 m17 pl n dr cr lm wm rd hd sc sdN kc dkM ksM hz lB kB hB dB bB lfA rwA wlA hvA fdA chA sgA kkB hhB ddB bbB sgB) sz) := by
  refine Met.ofW (cc := cX5_mayBy) (maxL := 4) (ret := (some .boolean)) (by decide) rfl ?_
  intro prg env s m args below meth c s₁ B hml hv
  obtain ⟨rfl, hsz, hP, hK, hD0⟩ := hv
  have hx := B.exec
  have hb := B.bytes
  have hr := B.returns
  have hts := atoms_spec (ws := wsX5_mayBy) B.pre
  have hown : s.vm.findClass RX5 = some m.cls := findClass_of_methodNamed B.named
  have hlocks := B.notSynchronized
  subst hsz
  have hD := hD0.self (sz := s.heap.size)
  generalize hAe : va_A (WM cI cZ h5 m1 m2 m3 m4 m5 m6 m7 m8 m9 m10 m11 m12 m13 m14 m15 m16 m17 pl n dr cr lm wm rd hd sc sdN kc dkM ksM hz lB kB hB dB bB lfA rwA wlA hvA fdA chA sgA kkB hhB ddB bbB sgB) s.heap.size = A at hD ⊢
  have hA : ∀ q : Nat, s.heap.size ≤ q → A q := fun q h => by rw [← hAe]; exact Or.inr h
  have hS : va_S A s.heap s.heap [] := va_S.rf
  have hP : va_P (dC, dI0) vwCl [(h5, .inr (5, [.ref m1, .int (nI pl), .int (nI n), .int (nI dr), .int (nI cr), .ref m2, .ref m3, .ref m4, .ref m5, .ref m6, .int (nI lm), .ref m7, .ref m8, .int (nI wm), .int (nI rd), .ref m9, .ref m10, .int (nI hd), .ref m11, .int (nI sc), .ref m12, .int (nI sdN), .int (dI kc), .int (nI dkM), .int (nI ksM), .ref m13, .ref m14, .ref m15, .ref m16, .ref m17, .long hz])), (m1, .inl (cI, 24, .inl lB)), (m2, .inl (cI, 7, .inl kB)), (m3, .inl (cI, 7, .inl hB)), (m4, .inl (cI, 7, .inl dB)), (m5, .inl (cI, 7, .inl bB)), (m6, .inl (cI, 7, .inl lfA)), (m7, .inl (cI, 7, .inl rwA)), (m8, .inl (cI, 7, .inl wlA)), (m9, .inl (cI, 49, .inl hvA)), (m10, .inl (cI, 7, .inl fdA)), (m11, .inl (cI, 128, .inl chA)), (m12, .inl (cI, 18, .inl sgA)), (m13, .inl (cI, 7, .inl kkB)), (m14, .inl (cI, 7, .inl hhB)), (m15, .inl (cI, 7, .inl ddB)), (m16, .inl (cI, 7, .inl bbB)), (m17, .inl (cI, 18, .inl sgB))] s.heap := hP
  have hD : va_D A [(h5, .inr (5, [.ref m1, .int (nI pl), .int (nI n), .int (nI dr), .int (nI cr), .ref m2, .ref m3, .ref m4, .ref m5, .ref m6, .int (nI lm), .ref m7, .ref m8, .int (nI wm), .int (nI rd), .ref m9, .ref m10, .int (nI hd), .ref m11, .int (nI sc), .ref m12, .int (nI sdN), .int (dI kc), .int (nI dkM), .int (nI ksM), .ref m13, .ref m14, .ref m15, .ref m16, .ref m17, .long hz])), (m1, .inl (cI, 24, .inl lB)), (m2, .inl (cI, 7, .inl kB)), (m3, .inl (cI, 7, .inl hB)), (m4, .inl (cI, 7, .inl dB)), (m5, .inl (cI, 7, .inl bB)), (m6, .inl (cI, 7, .inl lfA)), (m7, .inl (cI, 7, .inl rwA)), (m8, .inl (cI, 7, .inl wlA)), (m9, .inl (cI, 49, .inl hvA)), (m10, .inl (cI, 7, .inl fdA)), (m11, .inl (cI, 128, .inl chA)), (m12, .inl (cI, 18, .inl sgA)), (m13, .inl (cI, 7, .inl kkB)), (m14, .inl (cI, 7, .inl hhB)), (m15, .inl (cI, 7, .inl ddB)), (m16, .inl (cI, 7, .inl bbB)), (m17, .inl (cI, 18, .inl sgB))] := hD
  have hl := lv_entry ([.ref h5, .int (nI kd), .int (nI p), .int (nI q)]) (n := 4) (Nat.le_of_ble_eq_true rfl)
  rw [lg_entry_eq]
  generalize (lg_sl ([.ref h5, .int (nI kd), .int (nI p), .int (nI q)]) ++ List.replicate (4 - (lg_sl ([.ref h5, .int (nI kd), .int (nI p), .int (nI q)])).length) Slot.unset).toArray = ls at hl ⊢
  have hl : lv_has ls 4 [(0, .ref h5), (1, .int (nI kd)), (2, .int (nI p)), (3, .int (nI q))] := hl
  obtain ⟨H, hH⟩ : ∃ H : Heap, H = s.heap := ⟨_, rfl⟩
  rw [← hH] at hP ⊢
  have hS : va_S A s.heap H [] := by rw [hH]; exact hS
  refine w_gen (fun Q hQ => ?_)
  have hin_X5 : ∀ w ∈ wsX50, w ∈ wsX5_mayBy := by decide +kernel
  have hf16 := hts (.fieldLink RX5 16 "HatNamesModel" "houses" "[I") (by decide +kernel)
  obtain ⟨hn7, hkk, hhh, hbb, hdd, hdn, hdi⟩ := id hC
  have h2p := Nat.two_pow_pos n
  have h2e := ev_le hn7
  refine lv_iload_n hx hb dX5_mayBy_0 rfl (lv_at hl 1 rfl) ?_
  have hsw : (nI kd).toInt = (kd : Nat) := nI_toInt (by omega)
  by_cases c1_1 : kd = 1
  ·
    refine lv_tableIn (off := 31) (tgt := 32) hx hb dX5_mayBy_1 (by rw [hsw, c1_1]; decide) (by rw [hsw, c1_1]; decide) (by rw [hsw, c1_1]; rfl) (by decide) ?_
    refine lv_iconst (v := nI 1) hx hb dX5_mayBy_32 (by decide) ?_
    subst hQ
    have hP9 : va_P (dC, dI0) vwCl [(h5, .inr (5, [.ref m1, .int (nI pl), .int (nI n), .int (nI dr), .int (nI cr), .ref m2, .ref m3, .ref m4, .ref m5, .ref m6, .int (nI lm), .ref m7, .ref m8, .int (nI wm), .int (nI rd), .ref m9, .ref m10, .int (nI hd), .ref m11, .int (nI sc), .ref m12, .int (nI sdN), .int (dI kc), .int (nI dkM), .int (nI ksM), .ref m13, .ref m14, .ref m15, .ref m16, .ref m17, .long hz])), (m1, .inl (cI, 24, .inl lB)), (m2, .inl (cI, 7, .inl kB)), (m3, .inl (cI, 7, .inl hB)), (m4, .inl (cI, 7, .inl dB)), (m5, .inl (cI, 7, .inl bB)), (m6, .inl (cI, 7, .inl lfA)), (m7, .inl (cI, 7, .inl rwA)), (m8, .inl (cI, 7, .inl wlA)), (m9, .inl (cI, 49, .inl hvA)), (m10, .inl (cI, 7, .inl fdA)), (m11, .inl (cI, 128, .inl chA)), (m12, .inl (cI, 18, .inl sgA)), (m13, .inl (cI, 7, .inl kkB)), (m14, .inl (cI, 7, .inl hhB)), (m15, .inl (cI, 7, .inl ddB)), (m16, .inl (cI, 7, .inl bbB)), (m17, .inl (cI, 18, .inl sgB))] H := hP
    have hD9 : va_D A [(h5, .inr (5, [.ref m1, .int (nI pl), .int (nI n), .int (nI dr), .int (nI cr), .ref m2, .ref m3, .ref m4, .ref m5, .ref m6, .int (nI lm), .ref m7, .ref m8, .int (nI wm), .int (nI rd), .ref m9, .ref m10, .int (nI hd), .ref m11, .int (nI sc), .ref m12, .int (nI sdN), .int (dI kc), .int (nI dkM), .int (nI ksM), .ref m13, .ref m14, .ref m15, .ref m16, .ref m17, .long hz])), (m1, .inl (cI, 24, .inl lB)), (m2, .inl (cI, 7, .inl kB)), (m3, .inl (cI, 7, .inl hB)), (m4, .inl (cI, 7, .inl dB)), (m5, .inl (cI, 7, .inl bB)), (m6, .inl (cI, 7, .inl lfA)), (m7, .inl (cI, 7, .inl rwA)), (m8, .inl (cI, 7, .inl wlA)), (m9, .inl (cI, 49, .inl hvA)), (m10, .inl (cI, 7, .inl fdA)), (m11, .inl (cI, 128, .inl chA)), (m12, .inl (cI, 18, .inl sgA)), (m13, .inl (cI, 7, .inl kkB)), (m14, .inl (cI, 7, .inl hhB)), (m15, .inl (cI, 7, .inl ddB)), (m16, .inl (cI, 7, .inl bbB)), (m17, .inl (cI, 18, .inl sgB))] := hD
    exact W.zret (v := nI 1) hx hb hr (nar_z true) (fun t9 ht9 hW9 => ⟨⟨nI 1, (), rfl, bI_1 (by simp [kM, c1_1]), by rw [ht9]; exact hP9, va_K.moved hW9.alike hK, hD9⟩, hS.F ht9⟩) hS.2.2 dX5_mayBy_33
  by_cases c1_2 : kd = 2
  ·
    refine lv_tableIn (off := 33) (tgt := 34) hx hb dX5_mayBy_1 (by rw [hsw, c1_2]; decide) (by rw [hsw, c1_2]; decide) (by rw [hsw, c1_2]; rfl) (by decide) ?_
    refine lv_aload_n hx hb dX5_mayBy_34 rfl (lv_at hl 0 rfl) ?_
    refine va_get (D := (dC, dI0)) (ci := 5) (v := .ref m3) (C := RX5) (T := TX5) (N := 31) hx hb hts hin_X5 hown hK hP 0 rfl rfl 6 (by decide) hf16 (fun _ h9 => h9) rfl dX5_mayBy_35 ?_
    refine lv_iload_n hx hb dX5_mayBy_38 rfl (lv_at hl 2 rfl) ?_
    refine va_iald hx hb hK hP 3 0 rfl rfl (vp_in_nI (by omega) (by decide)) dX5_mayBy_39 ?_
    refine lv_topi (fun x39 e39 => ?_)
    rw [nI_clamp (n := p) (by omega)] at e39
    have hh9 := (hhh p (by omega)).2
    obtain rfl : x39 = nI (h p) := e39.trans (hhh p (by omega)).1
    refine lv_aload_n hx hb dX5_mayBy_40 rfl (lv_at hl 0 rfl) ?_
    refine va_get (D := (dC, dI0)) (ci := 5) (v := .ref m3) (C := RX5) (T := TX5) (N := 31) hx hb hts hin_X5 hown hK hP 0 rfl rfl 6 (by decide) hf16 (fun _ h9 => h9) rfl dX5_mayBy_41 ?_
    refine lv_iload_n hx hb dX5_mayBy_44 rfl (lv_at hl 3 rfl) ?_
    refine va_iald hx hb hK hP 3 0 rfl rfl (vp_in_nI (by omega) (by decide)) dX5_mayBy_45 ?_
    refine lv_topi (fun x45 e45 => ?_)
    rw [nI_clamp (n := q) (by omega)] at e45
    have hh9 := (hhh q (by omega)).2
    obtain rfl : x45 = nI (h q) := e45.trans (hhh q (by omega)).1
    refine lv_icmp_eq (tgt := 53) hx hb dX5_mayBy_46 (by decide) (fun c46 => ?_) (fun c46 => ?_)
    ·
      have c46 : (h p) = (h q) := (nI_eq (a := (h p)) (b := (h q)) (by omega) (by omega)).mp c46
      refine lv_iconst (v := nI 0) hx hb dX5_mayBy_53 (by decide) ?_
      subst hQ
      have hP9 : va_P (dC, dI0) vwCl [(h5, .inr (5, [.ref m1, .int (nI pl), .int (nI n), .int (nI dr), .int (nI cr), .ref m2, .ref m3, .ref m4, .ref m5, .ref m6, .int (nI lm), .ref m7, .ref m8, .int (nI wm), .int (nI rd), .ref m9, .ref m10, .int (nI hd), .ref m11, .int (nI sc), .ref m12, .int (nI sdN), .int (dI kc), .int (nI dkM), .int (nI ksM), .ref m13, .ref m14, .ref m15, .ref m16, .ref m17, .long hz])), (m1, .inl (cI, 24, .inl lB)), (m2, .inl (cI, 7, .inl kB)), (m3, .inl (cI, 7, .inl hB)), (m4, .inl (cI, 7, .inl dB)), (m5, .inl (cI, 7, .inl bB)), (m6, .inl (cI, 7, .inl lfA)), (m7, .inl (cI, 7, .inl rwA)), (m8, .inl (cI, 7, .inl wlA)), (m9, .inl (cI, 49, .inl hvA)), (m10, .inl (cI, 7, .inl fdA)), (m11, .inl (cI, 128, .inl chA)), (m12, .inl (cI, 18, .inl sgA)), (m13, .inl (cI, 7, .inl kkB)), (m14, .inl (cI, 7, .inl hhB)), (m15, .inl (cI, 7, .inl ddB)), (m16, .inl (cI, 7, .inl bbB)), (m17, .inl (cI, 18, .inl sgB))] H := hP
      have hD9 : va_D A [(h5, .inr (5, [.ref m1, .int (nI pl), .int (nI n), .int (nI dr), .int (nI cr), .ref m2, .ref m3, .ref m4, .ref m5, .ref m6, .int (nI lm), .ref m7, .ref m8, .int (nI wm), .int (nI rd), .ref m9, .ref m10, .int (nI hd), .ref m11, .int (nI sc), .ref m12, .int (nI sdN), .int (dI kc), .int (nI dkM), .int (nI ksM), .ref m13, .ref m14, .ref m15, .ref m16, .ref m17, .long hz])), (m1, .inl (cI, 24, .inl lB)), (m2, .inl (cI, 7, .inl kB)), (m3, .inl (cI, 7, .inl hB)), (m4, .inl (cI, 7, .inl dB)), (m5, .inl (cI, 7, .inl bB)), (m6, .inl (cI, 7, .inl lfA)), (m7, .inl (cI, 7, .inl rwA)), (m8, .inl (cI, 7, .inl wlA)), (m9, .inl (cI, 49, .inl hvA)), (m10, .inl (cI, 7, .inl fdA)), (m11, .inl (cI, 128, .inl chA)), (m12, .inl (cI, 18, .inl sgA)), (m13, .inl (cI, 7, .inl kkB)), (m14, .inl (cI, 7, .inl hhB)), (m15, .inl (cI, 7, .inl ddB)), (m16, .inl (cI, 7, .inl bbB)), (m17, .inl (cI, 18, .inl sgB))] := hD
      exact W.zret (v := nI 0) hx hb hr (nar_z false) (fun t9 ht9 hW9 => ⟨⟨nI 0, (), rfl, bI_2 (by simp [kM, c1_2, c46]), by rw [ht9]; exact hP9, va_K.moved hW9.alike hK, hD9⟩, hS.F ht9⟩) hS.2.2 dX5_mayBy_54
    have c46 : ¬ (h p) = (h q) := fun z => c46 ((nI_eq (a := (h p)) (b := (h q)) (by omega) (by omega)).mpr z)
    refine lv_iconst (v := nI 1) hx hb dX5_mayBy_49 (by decide) ?_
    refine lv_goto (tgt := 54) hx hb dX5_mayBy_50 (by decide) ?_
    subst hQ
    have hP9 : va_P (dC, dI0) vwCl [(h5, .inr (5, [.ref m1, .int (nI pl), .int (nI n), .int (nI dr), .int (nI cr), .ref m2, .ref m3, .ref m4, .ref m5, .ref m6, .int (nI lm), .ref m7, .ref m8, .int (nI wm), .int (nI rd), .ref m9, .ref m10, .int (nI hd), .ref m11, .int (nI sc), .ref m12, .int (nI sdN), .int (dI kc), .int (nI dkM), .int (nI ksM), .ref m13, .ref m14, .ref m15, .ref m16, .ref m17, .long hz])), (m1, .inl (cI, 24, .inl lB)), (m2, .inl (cI, 7, .inl kB)), (m3, .inl (cI, 7, .inl hB)), (m4, .inl (cI, 7, .inl dB)), (m5, .inl (cI, 7, .inl bB)), (m6, .inl (cI, 7, .inl lfA)), (m7, .inl (cI, 7, .inl rwA)), (m8, .inl (cI, 7, .inl wlA)), (m9, .inl (cI, 49, .inl hvA)), (m10, .inl (cI, 7, .inl fdA)), (m11, .inl (cI, 128, .inl chA)), (m12, .inl (cI, 18, .inl sgA)), (m13, .inl (cI, 7, .inl kkB)), (m14, .inl (cI, 7, .inl hhB)), (m15, .inl (cI, 7, .inl ddB)), (m16, .inl (cI, 7, .inl bbB)), (m17, .inl (cI, 18, .inl sgB))] H := hP
    have hD9 : va_D A [(h5, .inr (5, [.ref m1, .int (nI pl), .int (nI n), .int (nI dr), .int (nI cr), .ref m2, .ref m3, .ref m4, .ref m5, .ref m6, .int (nI lm), .ref m7, .ref m8, .int (nI wm), .int (nI rd), .ref m9, .ref m10, .int (nI hd), .ref m11, .int (nI sc), .ref m12, .int (nI sdN), .int (dI kc), .int (nI dkM), .int (nI ksM), .ref m13, .ref m14, .ref m15, .ref m16, .ref m17, .long hz])), (m1, .inl (cI, 24, .inl lB)), (m2, .inl (cI, 7, .inl kB)), (m3, .inl (cI, 7, .inl hB)), (m4, .inl (cI, 7, .inl dB)), (m5, .inl (cI, 7, .inl bB)), (m6, .inl (cI, 7, .inl lfA)), (m7, .inl (cI, 7, .inl rwA)), (m8, .inl (cI, 7, .inl wlA)), (m9, .inl (cI, 49, .inl hvA)), (m10, .inl (cI, 7, .inl fdA)), (m11, .inl (cI, 128, .inl chA)), (m12, .inl (cI, 18, .inl sgA)), (m13, .inl (cI, 7, .inl kkB)), (m14, .inl (cI, 7, .inl hhB)), (m15, .inl (cI, 7, .inl ddB)), (m16, .inl (cI, 7, .inl bbB)), (m17, .inl (cI, 18, .inl sgB))] := hD
    exact W.zret (v := nI 1) hx hb hr (nar_z true) (fun t9 ht9 hW9 => ⟨⟨nI 1, (), rfl, bI_1 (by simp [kM, c1_2, c46]), by rw [ht9]; exact hP9, va_K.moved hW9.alike hK, hD9⟩, hS.F ht9⟩) hS.2.2 dX5_mayBy_54
  by_cases c1_3 : kd = 3
  ·
    refine lv_tableIn (off := 54) (tgt := 55) hx hb dX5_mayBy_1 (by rw [hsw, c1_3]; decide) (by rw [hsw, c1_3]; decide) (by rw [hsw, c1_3]; rfl) (by decide) ?_
    refine lv_iload_n hx hb dX5_mayBy_55 rfl (lv_at hl 2 rfl) ?_
    refine lv_iload_n hx hb dX5_mayBy_56 rfl (lv_at hl 3 rfl) ?_
    refine lv_icmp_eq (tgt := 72) hx hb dX5_mayBy_57 (by decide) (fun c57 => ?_) (fun c57 => ?_)
    ·
      have c57 : p = q := (nI_eq (a := p) (b := q) (by omega) (by omega)).mp c57
      refine lv_iconst (v := nI 0) hx hb dX5_mayBy_72 (by decide) ?_
      subst hQ
      have hP9 : va_P (dC, dI0) vwCl [(h5, .inr (5, [.ref m1, .int (nI pl), .int (nI n), .int (nI dr), .int (nI cr), .ref m2, .ref m3, .ref m4, .ref m5, .ref m6, .int (nI lm), .ref m7, .ref m8, .int (nI wm), .int (nI rd), .ref m9, .ref m10, .int (nI hd), .ref m11, .int (nI sc), .ref m12, .int (nI sdN), .int (dI kc), .int (nI dkM), .int (nI ksM), .ref m13, .ref m14, .ref m15, .ref m16, .ref m17, .long hz])), (m1, .inl (cI, 24, .inl lB)), (m2, .inl (cI, 7, .inl kB)), (m3, .inl (cI, 7, .inl hB)), (m4, .inl (cI, 7, .inl dB)), (m5, .inl (cI, 7, .inl bB)), (m6, .inl (cI, 7, .inl lfA)), (m7, .inl (cI, 7, .inl rwA)), (m8, .inl (cI, 7, .inl wlA)), (m9, .inl (cI, 49, .inl hvA)), (m10, .inl (cI, 7, .inl fdA)), (m11, .inl (cI, 128, .inl chA)), (m12, .inl (cI, 18, .inl sgA)), (m13, .inl (cI, 7, .inl kkB)), (m14, .inl (cI, 7, .inl hhB)), (m15, .inl (cI, 7, .inl ddB)), (m16, .inl (cI, 7, .inl bbB)), (m17, .inl (cI, 18, .inl sgB))] H := hP
      have hD9 : va_D A [(h5, .inr (5, [.ref m1, .int (nI pl), .int (nI n), .int (nI dr), .int (nI cr), .ref m2, .ref m3, .ref m4, .ref m5, .ref m6, .int (nI lm), .ref m7, .ref m8, .int (nI wm), .int (nI rd), .ref m9, .ref m10, .int (nI hd), .ref m11, .int (nI sc), .ref m12, .int (nI sdN), .int (dI kc), .int (nI dkM), .int (nI ksM), .ref m13, .ref m14, .ref m15, .ref m16, .ref m17, .long hz])), (m1, .inl (cI, 24, .inl lB)), (m2, .inl (cI, 7, .inl kB)), (m3, .inl (cI, 7, .inl hB)), (m4, .inl (cI, 7, .inl dB)), (m5, .inl (cI, 7, .inl bB)), (m6, .inl (cI, 7, .inl lfA)), (m7, .inl (cI, 7, .inl rwA)), (m8, .inl (cI, 7, .inl wlA)), (m9, .inl (cI, 49, .inl hvA)), (m10, .inl (cI, 7, .inl fdA)), (m11, .inl (cI, 128, .inl chA)), (m12, .inl (cI, 18, .inl sgA)), (m13, .inl (cI, 7, .inl kkB)), (m14, .inl (cI, 7, .inl hhB)), (m15, .inl (cI, 7, .inl ddB)), (m16, .inl (cI, 7, .inl bbB)), (m17, .inl (cI, 18, .inl sgB))] := hD
      exact W.zret (v := nI 0) hx hb hr (nar_z false) (fun t9 ht9 hW9 => ⟨⟨nI 0, (), rfl, bI_2 (by simp [kM, c1_3, c57, adf]), by rw [ht9]; exact hP9, va_K.moved hW9.alike hK, hD9⟩, hS.F ht9⟩) hS.2.2 dX5_mayBy_73
    have c57 : ¬ p = q := fun z => c57 ((nI_eq (a := p) (b := q) (by omega) (by omega)).mpr z)
    refine lv_iload_n hx hb dX5_mayBy_60 rfl (lv_at hl 2 rfl) ?_
    refine lv_iload_n hx hb dX5_mayBy_61 rfl (lv_at hl 3 rfl) ?_
    have hPc := hP.sub (ws' := []) [] rfl
    have hDc := hD.sub (ws' := []) [] (by decide) rfl
    have hFc := va_free (wc := []) hD hS hA [] rfl
    refine va_calli (va_runS (As := [.int (nI p), .int (nI q)]) (rest := []) ⟨hx, hb, hml, hown, hts⟩ (KX5_isBeside l dC dI0 cI cZ  H.size p q (by first | assumption | omega) (by first | assumption | omega)) (va_cwS 2 hts gX5_mayBy_X5_isBeside rfl rfl rfl (by decide +kernel) ⟨Nat.le_of_ble_eq_true rfl, Nat.le_of_ble_eq_true rfl⟩) ⟨fun a U g mk q => by obtain ⟨q0, q1, qP, qK, qD⟩ := q; exact ⟨q0, q1, qP, va_K.moved (u := U) (U := U.calling g mk a) (Vm.Alike.refl U.vm) qK, qD⟩, fun U hU hW => ⟨rfl, by rw [hU], by rw [hU]; exact hPc, va_K.moved hW.alike hK, hDc.weaken (fun _ _ _ _ => trivial)⟩⟩ rfl rfl hl.1 rfl (lv_room (Nat.le_of_ble_eq_true rfl)) dX5_mayBy_62 ⟨Nat.le_of_ble_eq_true rfl, Nat.le_of_ble_eq_true rfl⟩) hS (fun q _ h => hFc q h) hFc (fun r62 u62 t7 H1 locs ht7 hvm7 hw62 hB hz1 hk1 hS => ?_)
    obtain ⟨hP1, hK1, hD1⟩ := hB
    rw [ht7] at hP1
    try dsimp only at hw62 hP1 hD1
    obtain ⟨hP, hD⟩ := va_join (wr := [(h5, .inr (5, [.ref m1, .int (nI pl), .int (nI n), .int (nI dr), .int (nI cr), .ref m2, .ref m3, .ref m4, .ref m5, .ref m6, .int (nI lm), .ref m7, .ref m8, .int (nI wm), .int (nI rd), .ref m9, .ref m10, .int (nI hd), .ref m11, .int (nI sc), .ref m12, .int (nI sdN), .int (dI kc), .int (nI dkM), .int (nI ksM), .ref m13, .ref m14, .ref m15, .ref m16, .ref m17, .long hz])), (m1, .inl (cI, 24, .inl lB)), (m2, .inl (cI, 7, .inl kB)), (m3, .inl (cI, 7, .inl hB)), (m4, .inl (cI, 7, .inl dB)), (m5, .inl (cI, 7, .inl bB)), (m6, .inl (cI, 7, .inl lfA)), (m7, .inl (cI, 7, .inl rwA)), (m8, .inl (cI, 7, .inl wlA)), (m9, .inl (cI, 49, .inl hvA)), (m10, .inl (cI, 7, .inl fdA)), (m11, .inl (cI, 128, .inl chA)), (m12, .inl (cI, 18, .inl sgA)), (m13, .inl (cI, 7, .inl kkB)), (m14, .inl (cI, 7, .inl hhB)), (m15, .inl (cI, 7, .inl ddB)), (m16, .inl (cI, 7, .inl bbB)), (m17, .inl (cI, 18, .inl sgB))]) (w1 := []) hP hD [] [0, 1, 2, 3, 4, 5, 6, 7, 8, 9, 10, 11, 12, 13, 14, 15, 16, 17] rfl rfl (by decide) (by decide) hk1 hFc hP1 hD1
    generalize H1 = H at hP hS ⊢
    have hP := hP.sub (ws' := [(h5, .inr (5, [.ref m1, .int (nI pl), .int (nI n), .int (nI dr), .int (nI cr), .ref m2, .ref m3, .ref m4, .ref m5, .ref m6, .int (nI lm), .ref m7, .ref m8, .int (nI wm), .int (nI rd), .ref m9, .ref m10, .int (nI hd), .ref m11, .int (nI sc), .ref m12, .int (nI sdN), .int (dI kc), .int (nI dkM), .int (nI ksM), .ref m13, .ref m14, .ref m15, .ref m16, .ref m17, .long hz])), (m1, .inl (cI, 24, .inl lB)), (m2, .inl (cI, 7, .inl kB)), (m3, .inl (cI, 7, .inl hB)), (m4, .inl (cI, 7, .inl dB)), (m5, .inl (cI, 7, .inl bB)), (m6, .inl (cI, 7, .inl lfA)), (m7, .inl (cI, 7, .inl rwA)), (m8, .inl (cI, 7, .inl wlA)), (m9, .inl (cI, 49, .inl hvA)), (m10, .inl (cI, 7, .inl fdA)), (m11, .inl (cI, 128, .inl chA)), (m12, .inl (cI, 18, .inl sgA)), (m13, .inl (cI, 7, .inl kkB)), (m14, .inl (cI, 7, .inl hhB)), (m15, .inl (cI, 7, .inl ddB)), (m16, .inl (cI, 7, .inl bbB)), (m17, .inl (cI, 18, .inl sgB))]) [0, 1, 2, 3, 4, 5, 6, 7, 8, 9, 10, 11, 12, 13, 14, 15, 16, 17] rfl
    have hD := hD.sub (ws' := [(h5, .inr (5, [.ref m1, .int (nI pl), .int (nI n), .int (nI dr), .int (nI cr), .ref m2, .ref m3, .ref m4, .ref m5, .ref m6, .int (nI lm), .ref m7, .ref m8, .int (nI wm), .int (nI rd), .ref m9, .ref m10, .int (nI hd), .ref m11, .int (nI sc), .ref m12, .int (nI sdN), .int (dI kc), .int (nI dkM), .int (nI ksM), .ref m13, .ref m14, .ref m15, .ref m16, .ref m17, .long hz])), (m1, .inl (cI, 24, .inl lB)), (m2, .inl (cI, 7, .inl kB)), (m3, .inl (cI, 7, .inl hB)), (m4, .inl (cI, 7, .inl dB)), (m5, .inl (cI, 7, .inl bB)), (m6, .inl (cI, 7, .inl lfA)), (m7, .inl (cI, 7, .inl rwA)), (m8, .inl (cI, 7, .inl wlA)), (m9, .inl (cI, 49, .inl hvA)), (m10, .inl (cI, 7, .inl fdA)), (m11, .inl (cI, 128, .inl chA)), (m12, .inl (cI, 18, .inl sgA)), (m13, .inl (cI, 7, .inl kkB)), (m14, .inl (cI, 7, .inl hhB)), (m15, .inl (cI, 7, .inl ddB)), (m16, .inl (cI, 7, .inl bbB)), (m17, .inl (cI, 18, .inl sgB))]) [0, 1, 2, 3, 4, 5, 6, 7, 8, 9, 10, 11, 12, 13, 14, 15, 16, 17] (by decide) rfl
    obtain rfl : r62 = bI (decide (adf p q = 1)) := hw62
    refine lv_if_ne (tgt := 72) hx hb dX5_mayBy_65 (by decide) (fun c65 => ?_) (fun c65 => ?_)
    ·
      have c65 : (decide (adf p q = 1)) = true := bI_n0 c65
      refine lv_iconst (v := nI 0) hx hb dX5_mayBy_72 (by decide) ?_
      subst hQ
      have hP9 : va_P (dC, dI0) vwCl [(h5, .inr (5, [.ref m1, .int (nI pl), .int (nI n), .int (nI dr), .int (nI cr), .ref m2, .ref m3, .ref m4, .ref m5, .ref m6, .int (nI lm), .ref m7, .ref m8, .int (nI wm), .int (nI rd), .ref m9, .ref m10, .int (nI hd), .ref m11, .int (nI sc), .ref m12, .int (nI sdN), .int (dI kc), .int (nI dkM), .int (nI ksM), .ref m13, .ref m14, .ref m15, .ref m16, .ref m17, .long hz])), (m1, .inl (cI, 24, .inl lB)), (m2, .inl (cI, 7, .inl kB)), (m3, .inl (cI, 7, .inl hB)), (m4, .inl (cI, 7, .inl dB)), (m5, .inl (cI, 7, .inl bB)), (m6, .inl (cI, 7, .inl lfA)), (m7, .inl (cI, 7, .inl rwA)), (m8, .inl (cI, 7, .inl wlA)), (m9, .inl (cI, 49, .inl hvA)), (m10, .inl (cI, 7, .inl fdA)), (m11, .inl (cI, 128, .inl chA)), (m12, .inl (cI, 18, .inl sgA)), (m13, .inl (cI, 7, .inl kkB)), (m14, .inl (cI, 7, .inl hhB)), (m15, .inl (cI, 7, .inl ddB)), (m16, .inl (cI, 7, .inl bbB)), (m17, .inl (cI, 18, .inl sgB))] H := hP
      have hD9 : va_D A [(h5, .inr (5, [.ref m1, .int (nI pl), .int (nI n), .int (nI dr), .int (nI cr), .ref m2, .ref m3, .ref m4, .ref m5, .ref m6, .int (nI lm), .ref m7, .ref m8, .int (nI wm), .int (nI rd), .ref m9, .ref m10, .int (nI hd), .ref m11, .int (nI sc), .ref m12, .int (nI sdN), .int (dI kc), .int (nI dkM), .int (nI ksM), .ref m13, .ref m14, .ref m15, .ref m16, .ref m17, .long hz])), (m1, .inl (cI, 24, .inl lB)), (m2, .inl (cI, 7, .inl kB)), (m3, .inl (cI, 7, .inl hB)), (m4, .inl (cI, 7, .inl dB)), (m5, .inl (cI, 7, .inl bB)), (m6, .inl (cI, 7, .inl lfA)), (m7, .inl (cI, 7, .inl rwA)), (m8, .inl (cI, 7, .inl wlA)), (m9, .inl (cI, 49, .inl hvA)), (m10, .inl (cI, 7, .inl fdA)), (m11, .inl (cI, 128, .inl chA)), (m12, .inl (cI, 18, .inl sgA)), (m13, .inl (cI, 7, .inl kkB)), (m14, .inl (cI, 7, .inl hhB)), (m15, .inl (cI, 7, .inl ddB)), (m16, .inl (cI, 7, .inl bbB)), (m17, .inl (cI, 18, .inl sgB))] := hD
      exact W.zret (v := nI 0) hx hb hr (nar_z false) (fun t9 ht9 hW9 => ⟨⟨nI 0, (), rfl, bI_2 (by have := of_decide_eq_true c65; simp [kM, c1_3]; omega), by rw [ht9]; exact hP9, va_K.moved hW9.alike hK, hD9⟩, hS.F ht9⟩) hS.2.2 dX5_mayBy_73
    have c65 : (decide (adf p q = 1)) = false := bI_0 c65
    refine lv_iconst (v := nI 1) hx hb dX5_mayBy_68 (by decide) ?_
    refine lv_goto (tgt := 73) hx hb dX5_mayBy_69 (by decide) ?_
    subst hQ
    have hP9 : va_P (dC, dI0) vwCl [(h5, .inr (5, [.ref m1, .int (nI pl), .int (nI n), .int (nI dr), .int (nI cr), .ref m2, .ref m3, .ref m4, .ref m5, .ref m6, .int (nI lm), .ref m7, .ref m8, .int (nI wm), .int (nI rd), .ref m9, .ref m10, .int (nI hd), .ref m11, .int (nI sc), .ref m12, .int (nI sdN), .int (dI kc), .int (nI dkM), .int (nI ksM), .ref m13, .ref m14, .ref m15, .ref m16, .ref m17, .long hz])), (m1, .inl (cI, 24, .inl lB)), (m2, .inl (cI, 7, .inl kB)), (m3, .inl (cI, 7, .inl hB)), (m4, .inl (cI, 7, .inl dB)), (m5, .inl (cI, 7, .inl bB)), (m6, .inl (cI, 7, .inl lfA)), (m7, .inl (cI, 7, .inl rwA)), (m8, .inl (cI, 7, .inl wlA)), (m9, .inl (cI, 49, .inl hvA)), (m10, .inl (cI, 7, .inl fdA)), (m11, .inl (cI, 128, .inl chA)), (m12, .inl (cI, 18, .inl sgA)), (m13, .inl (cI, 7, .inl kkB)), (m14, .inl (cI, 7, .inl hhB)), (m15, .inl (cI, 7, .inl ddB)), (m16, .inl (cI, 7, .inl bbB)), (m17, .inl (cI, 18, .inl sgB))] H := hP
    have hD9 : va_D A [(h5, .inr (5, [.ref m1, .int (nI pl), .int (nI n), .int (nI dr), .int (nI cr), .ref m2, .ref m3, .ref m4, .ref m5, .ref m6, .int (nI lm), .ref m7, .ref m8, .int (nI wm), .int (nI rd), .ref m9, .ref m10, .int (nI hd), .ref m11, .int (nI sc), .ref m12, .int (nI sdN), .int (dI kc), .int (nI dkM), .int (nI ksM), .ref m13, .ref m14, .ref m15, .ref m16, .ref m17, .long hz])), (m1, .inl (cI, 24, .inl lB)), (m2, .inl (cI, 7, .inl kB)), (m3, .inl (cI, 7, .inl hB)), (m4, .inl (cI, 7, .inl dB)), (m5, .inl (cI, 7, .inl bB)), (m6, .inl (cI, 7, .inl lfA)), (m7, .inl (cI, 7, .inl rwA)), (m8, .inl (cI, 7, .inl wlA)), (m9, .inl (cI, 49, .inl hvA)), (m10, .inl (cI, 7, .inl fdA)), (m11, .inl (cI, 128, .inl chA)), (m12, .inl (cI, 18, .inl sgA)), (m13, .inl (cI, 7, .inl kkB)), (m14, .inl (cI, 7, .inl hhB)), (m15, .inl (cI, 7, .inl ddB)), (m16, .inl (cI, 7, .inl bbB)), (m17, .inl (cI, 18, .inl sgB))] := hD
    exact W.zret (v := nI 1) hx hb hr (nar_z true) (fun t9 ht9 hW9 => ⟨⟨nI 1, (), rfl, bI_1 (by have := of_decide_eq_false c65; simp [kM, c1_3]; unfold adf at this ⊢; omega), by rw [ht9]; exact hP9, va_K.moved hW9.alike hK, hD9⟩, hS.F ht9⟩) hS.2.2 dX5_mayBy_73
  by_cases c1_4 : kd = 4
  ·
    refine lv_tableIn (off := 73) (tgt := 74) hx hb dX5_mayBy_1 (by rw [hsw, c1_4]; decide) (by rw [hsw, c1_4]; decide) (by rw [hsw, c1_4]; rfl) (by decide) ?_
    refine lv_aload_n hx hb dX5_mayBy_74 rfl (lv_at hl 0 rfl) ?_
    refine va_get (D := (dC, dI0)) (ci := 5) (v := .ref m3) (C := RX5) (T := TX5) (N := 31) hx hb hts hin_X5 hown hK hP 0 rfl rfl 6 (by decide) hf16 (fun _ h9 => h9) rfl dX5_mayBy_75 ?_
    refine lv_iload_n hx hb dX5_mayBy_78 rfl (lv_at hl 2 rfl) ?_
    refine va_iald hx hb hK hP 3 0 rfl rfl (vp_in_nI (by omega) (by decide)) dX5_mayBy_79 ?_
    refine lv_topi (fun x79 e79 => ?_)
    rw [nI_clamp (n := p) (by omega)] at e79
    have hh9 := (hhh p (by omega)).2
    obtain rfl : x79 = nI (h p) := e79.trans (hhh p (by omega)).1
    refine lv_aload_n hx hb dX5_mayBy_80 rfl (lv_at hl 0 rfl) ?_
    refine va_get (D := (dC, dI0)) (ci := 5) (v := .ref m3) (C := RX5) (T := TX5) (N := 31) hx hb hts hin_X5 hown hK hP 0 rfl rfl 6 (by decide) hf16 (fun _ h9 => h9) rfl dX5_mayBy_81 ?_
    refine lv_iload_n hx hb dX5_mayBy_84 rfl (lv_at hl 3 rfl) ?_
    refine va_iald hx hb hK hP 3 0 rfl rfl (vp_in_nI (by omega) (by decide)) dX5_mayBy_85 ?_
    refine lv_topi (fun x85 e85 => ?_)
    rw [nI_clamp (n := q) (by omega)] at e85
    have hh9 := (hhh q (by omega)).2
    obtain rfl : x85 = nI (h q) := e85.trans (hhh q (by omega)).1
    refine lv_icmp_eq (tgt := 111) hx hb dX5_mayBy_86 (by decide) (fun c86 => ?_) (fun c86 => ?_)
    ·
      have c86 : (h p) = (h q) := (nI_eq (a := (h p)) (b := (h q)) (by omega) (by omega)).mp c86
      refine lv_iconst (v := nI 0) hx hb dX5_mayBy_111 (by decide) ?_
      subst hQ
      have hP9 : va_P (dC, dI0) vwCl [(h5, .inr (5, [.ref m1, .int (nI pl), .int (nI n), .int (nI dr), .int (nI cr), .ref m2, .ref m3, .ref m4, .ref m5, .ref m6, .int (nI lm), .ref m7, .ref m8, .int (nI wm), .int (nI rd), .ref m9, .ref m10, .int (nI hd), .ref m11, .int (nI sc), .ref m12, .int (nI sdN), .int (dI kc), .int (nI dkM), .int (nI ksM), .ref m13, .ref m14, .ref m15, .ref m16, .ref m17, .long hz])), (m1, .inl (cI, 24, .inl lB)), (m2, .inl (cI, 7, .inl kB)), (m3, .inl (cI, 7, .inl hB)), (m4, .inl (cI, 7, .inl dB)), (m5, .inl (cI, 7, .inl bB)), (m6, .inl (cI, 7, .inl lfA)), (m7, .inl (cI, 7, .inl rwA)), (m8, .inl (cI, 7, .inl wlA)), (m9, .inl (cI, 49, .inl hvA)), (m10, .inl (cI, 7, .inl fdA)), (m11, .inl (cI, 128, .inl chA)), (m12, .inl (cI, 18, .inl sgA)), (m13, .inl (cI, 7, .inl kkB)), (m14, .inl (cI, 7, .inl hhB)), (m15, .inl (cI, 7, .inl ddB)), (m16, .inl (cI, 7, .inl bbB)), (m17, .inl (cI, 18, .inl sgB))] H := hP
      have hD9 : va_D A [(h5, .inr (5, [.ref m1, .int (nI pl), .int (nI n), .int (nI dr), .int (nI cr), .ref m2, .ref m3, .ref m4, .ref m5, .ref m6, .int (nI lm), .ref m7, .ref m8, .int (nI wm), .int (nI rd), .ref m9, .ref m10, .int (nI hd), .ref m11, .int (nI sc), .ref m12, .int (nI sdN), .int (dI kc), .int (nI dkM), .int (nI ksM), .ref m13, .ref m14, .ref m15, .ref m16, .ref m17, .long hz])), (m1, .inl (cI, 24, .inl lB)), (m2, .inl (cI, 7, .inl kB)), (m3, .inl (cI, 7, .inl hB)), (m4, .inl (cI, 7, .inl dB)), (m5, .inl (cI, 7, .inl bB)), (m6, .inl (cI, 7, .inl lfA)), (m7, .inl (cI, 7, .inl rwA)), (m8, .inl (cI, 7, .inl wlA)), (m9, .inl (cI, 49, .inl hvA)), (m10, .inl (cI, 7, .inl fdA)), (m11, .inl (cI, 128, .inl chA)), (m12, .inl (cI, 18, .inl sgA)), (m13, .inl (cI, 7, .inl kkB)), (m14, .inl (cI, 7, .inl hhB)), (m15, .inl (cI, 7, .inl ddB)), (m16, .inl (cI, 7, .inl bbB)), (m17, .inl (cI, 18, .inl sgB))] := hD
      exact W.zret (v := nI 0) hx hb hr (nar_z false) (fun t9 ht9 hW9 => ⟨⟨nI 0, (), rfl, bI_2 (by simp [kM, c1_4, c86, adf]), by rw [ht9]; exact hP9, va_K.moved hW9.alike hK, hD9⟩, hS.F ht9⟩) hS.2.2 dX5_mayBy_112
    have c86 : ¬ (h p) = (h q) := fun z => c86 ((nI_eq (a := (h p)) (b := (h q)) (by omega) (by omega)).mpr z)
    refine lv_aload_n hx hb dX5_mayBy_89 rfl (lv_at hl 0 rfl) ?_
    refine va_get (D := (dC, dI0)) (ci := 5) (v := .ref m3) (C := RX5) (T := TX5) (N := 31) hx hb hts hin_X5 hown hK hP 0 rfl rfl 6 (by decide) hf16 (fun _ h9 => h9) rfl dX5_mayBy_90 ?_
    refine lv_iload_n hx hb dX5_mayBy_93 rfl (lv_at hl 2 rfl) ?_
    refine va_iald hx hb hK hP 3 0 rfl rfl (vp_in_nI (by omega) (by decide)) dX5_mayBy_94 ?_
    refine lv_topi (fun x94 e94 => ?_)
    rw [nI_clamp (n := p) (by omega)] at e94
    have hh9 := (hhh p (by omega)).2
    obtain rfl : x94 = nI (h p) := e94.trans (hhh p (by omega)).1
    refine lv_aload_n hx hb dX5_mayBy_95 rfl (lv_at hl 0 rfl) ?_
    refine va_get (D := (dC, dI0)) (ci := 5) (v := .ref m3) (C := RX5) (T := TX5) (N := 31) hx hb hts hin_X5 hown hK hP 0 rfl rfl 6 (by decide) hf16 (fun _ h9 => h9) rfl dX5_mayBy_96 ?_
    refine lv_iload_n hx hb dX5_mayBy_99 rfl (lv_at hl 3 rfl) ?_
    refine va_iald hx hb hK hP 3 0 rfl rfl (vp_in_nI (by omega) (by decide)) dX5_mayBy_100 ?_
    refine lv_topi (fun x100 e100 => ?_)
    rw [nI_clamp (n := q) (by omega)] at e100
    have hh9 := (hhh q (by omega)).2
    obtain rfl : x100 = nI (h q) := e100.trans (hhh q (by omega)).1
    have hPc := hP.sub (ws' := []) [] rfl
    have hDc := hD.sub (ws' := []) [] (by decide) rfl
    have hFc := va_free (wc := []) hD hS hA [] rfl
    refine va_calli (va_runS (As := [.int (nI (h p)), .int (nI (h q))]) (rest := []) ⟨hx, hb, hml, hown, hts⟩ (KX5_isBeside l dC dI0 cI cZ  H.size (h p) (h q) (by first | assumption | omega) (by first | assumption | omega)) (va_cwS 2 hts gX5_mayBy_X5_isBeside rfl rfl rfl (by decide +kernel) ⟨Nat.le_of_ble_eq_true rfl, Nat.le_of_ble_eq_true rfl⟩) ⟨fun a U g mk q => by obtain ⟨q0, q1, qP, qK, qD⟩ := q; exact ⟨q0, q1, qP, va_K.moved (u := U) (U := U.calling g mk a) (Vm.Alike.refl U.vm) qK, qD⟩, fun U hU hW => ⟨rfl, by rw [hU], by rw [hU]; exact hPc, va_K.moved hW.alike hK, hDc.weaken (fun _ _ _ _ => trivial)⟩⟩ rfl rfl hl.1 rfl (lv_room (Nat.le_of_ble_eq_true rfl)) dX5_mayBy_101 ⟨Nat.le_of_ble_eq_true rfl, Nat.le_of_ble_eq_true rfl⟩) hS (fun q _ h => hFc q h) hFc (fun r101 u101 t7 H1 locs ht7 hvm7 hw101 hB hz1 hk1 hS => ?_)
    obtain ⟨hP1, hK1, hD1⟩ := hB
    rw [ht7] at hP1
    try dsimp only at hw101 hP1 hD1
    obtain ⟨hP, hD⟩ := va_join (wr := [(h5, .inr (5, [.ref m1, .int (nI pl), .int (nI n), .int (nI dr), .int (nI cr), .ref m2, .ref m3, .ref m4, .ref m5, .ref m6, .int (nI lm), .ref m7, .ref m8, .int (nI wm), .int (nI rd), .ref m9, .ref m10, .int (nI hd), .ref m11, .int (nI sc), .ref m12, .int (nI sdN), .int (dI kc), .int (nI dkM), .int (nI ksM), .ref m13, .ref m14, .ref m15, .ref m16, .ref m17, .long hz])), (m1, .inl (cI, 24, .inl lB)), (m2, .inl (cI, 7, .inl kB)), (m3, .inl (cI, 7, .inl hB)), (m4, .inl (cI, 7, .inl dB)), (m5, .inl (cI, 7, .inl bB)), (m6, .inl (cI, 7, .inl lfA)), (m7, .inl (cI, 7, .inl rwA)), (m8, .inl (cI, 7, .inl wlA)), (m9, .inl (cI, 49, .inl hvA)), (m10, .inl (cI, 7, .inl fdA)), (m11, .inl (cI, 128, .inl chA)), (m12, .inl (cI, 18, .inl sgA)), (m13, .inl (cI, 7, .inl kkB)), (m14, .inl (cI, 7, .inl hhB)), (m15, .inl (cI, 7, .inl ddB)), (m16, .inl (cI, 7, .inl bbB)), (m17, .inl (cI, 18, .inl sgB))]) (w1 := []) hP hD [] [0, 1, 2, 3, 4, 5, 6, 7, 8, 9, 10, 11, 12, 13, 14, 15, 16, 17] rfl rfl (by decide) (by decide) hk1 hFc hP1 hD1
    generalize H1 = H at hP hS ⊢
    have hP := hP.sub (ws' := [(h5, .inr (5, [.ref m1, .int (nI pl), .int (nI n), .int (nI dr), .int (nI cr), .ref m2, .ref m3, .ref m4, .ref m5, .ref m6, .int (nI lm), .ref m7, .ref m8, .int (nI wm), .int (nI rd), .ref m9, .ref m10, .int (nI hd), .ref m11, .int (nI sc), .ref m12, .int (nI sdN), .int (dI kc), .int (nI dkM), .int (nI ksM), .ref m13, .ref m14, .ref m15, .ref m16, .ref m17, .long hz])), (m1, .inl (cI, 24, .inl lB)), (m2, .inl (cI, 7, .inl kB)), (m3, .inl (cI, 7, .inl hB)), (m4, .inl (cI, 7, .inl dB)), (m5, .inl (cI, 7, .inl bB)), (m6, .inl (cI, 7, .inl lfA)), (m7, .inl (cI, 7, .inl rwA)), (m8, .inl (cI, 7, .inl wlA)), (m9, .inl (cI, 49, .inl hvA)), (m10, .inl (cI, 7, .inl fdA)), (m11, .inl (cI, 128, .inl chA)), (m12, .inl (cI, 18, .inl sgA)), (m13, .inl (cI, 7, .inl kkB)), (m14, .inl (cI, 7, .inl hhB)), (m15, .inl (cI, 7, .inl ddB)), (m16, .inl (cI, 7, .inl bbB)), (m17, .inl (cI, 18, .inl sgB))]) [0, 1, 2, 3, 4, 5, 6, 7, 8, 9, 10, 11, 12, 13, 14, 15, 16, 17] rfl
    have hD := hD.sub (ws' := [(h5, .inr (5, [.ref m1, .int (nI pl), .int (nI n), .int (nI dr), .int (nI cr), .ref m2, .ref m3, .ref m4, .ref m5, .ref m6, .int (nI lm), .ref m7, .ref m8, .int (nI wm), .int (nI rd), .ref m9, .ref m10, .int (nI hd), .ref m11, .int (nI sc), .ref m12, .int (nI sdN), .int (dI kc), .int (nI dkM), .int (nI ksM), .ref m13, .ref m14, .ref m15, .ref m16, .ref m17, .long hz])), (m1, .inl (cI, 24, .inl lB)), (m2, .inl (cI, 7, .inl kB)), (m3, .inl (cI, 7, .inl hB)), (m4, .inl (cI, 7, .inl dB)), (m5, .inl (cI, 7, .inl bB)), (m6, .inl (cI, 7, .inl lfA)), (m7, .inl (cI, 7, .inl rwA)), (m8, .inl (cI, 7, .inl wlA)), (m9, .inl (cI, 49, .inl hvA)), (m10, .inl (cI, 7, .inl fdA)), (m11, .inl (cI, 128, .inl chA)), (m12, .inl (cI, 18, .inl sgA)), (m13, .inl (cI, 7, .inl kkB)), (m14, .inl (cI, 7, .inl hhB)), (m15, .inl (cI, 7, .inl ddB)), (m16, .inl (cI, 7, .inl bbB)), (m17, .inl (cI, 18, .inl sgB))]) [0, 1, 2, 3, 4, 5, 6, 7, 8, 9, 10, 11, 12, 13, 14, 15, 16, 17] (by decide) rfl
    obtain rfl : r101 = bI (decide (adf (h p) (h q) = 1)) := hw101
    refine lv_if_ne (tgt := 111) hx hb dX5_mayBy_104 (by decide) (fun c104 => ?_) (fun c104 => ?_)
    ·
      have c104 : (decide (adf (h p) (h q) = 1)) = true := bI_n0 c104
      refine lv_iconst (v := nI 0) hx hb dX5_mayBy_111 (by decide) ?_
      subst hQ
      have hP9 : va_P (dC, dI0) vwCl [(h5, .inr (5, [.ref m1, .int (nI pl), .int (nI n), .int (nI dr), .int (nI cr), .ref m2, .ref m3, .ref m4, .ref m5, .ref m6, .int (nI lm), .ref m7, .ref m8, .int (nI wm), .int (nI rd), .ref m9, .ref m10, .int (nI hd), .ref m11, .int (nI sc), .ref m12, .int (nI sdN), .int (dI kc), .int (nI dkM), .int (nI ksM), .ref m13, .ref m14, .ref m15, .ref m16, .ref m17, .long hz])), (m1, .inl (cI, 24, .inl lB)), (m2, .inl (cI, 7, .inl kB)), (m3, .inl (cI, 7, .inl hB)), (m4, .inl (cI, 7, .inl dB)), (m5, .inl (cI, 7, .inl bB)), (m6, .inl (cI, 7, .inl lfA)), (m7, .inl (cI, 7, .inl rwA)), (m8, .inl (cI, 7, .inl wlA)), (m9, .inl (cI, 49, .inl hvA)), (m10, .inl (cI, 7, .inl fdA)), (m11, .inl (cI, 128, .inl chA)), (m12, .inl (cI, 18, .inl sgA)), (m13, .inl (cI, 7, .inl kkB)), (m14, .inl (cI, 7, .inl hhB)), (m15, .inl (cI, 7, .inl ddB)), (m16, .inl (cI, 7, .inl bbB)), (m17, .inl (cI, 18, .inl sgB))] H := hP
      have hD9 : va_D A [(h5, .inr (5, [.ref m1, .int (nI pl), .int (nI n), .int (nI dr), .int (nI cr), .ref m2, .ref m3, .ref m4, .ref m5, .ref m6, .int (nI lm), .ref m7, .ref m8, .int (nI wm), .int (nI rd), .ref m9, .ref m10, .int (nI hd), .ref m11, .int (nI sc), .ref m12, .int (nI sdN), .int (dI kc), .int (nI dkM), .int (nI ksM), .ref m13, .ref m14, .ref m15, .ref m16, .ref m17, .long hz])), (m1, .inl (cI, 24, .inl lB)), (m2, .inl (cI, 7, .inl kB)), (m3, .inl (cI, 7, .inl hB)), (m4, .inl (cI, 7, .inl dB)), (m5, .inl (cI, 7, .inl bB)), (m6, .inl (cI, 7, .inl lfA)), (m7, .inl (cI, 7, .inl rwA)), (m8, .inl (cI, 7, .inl wlA)), (m9, .inl (cI, 49, .inl hvA)), (m10, .inl (cI, 7, .inl fdA)), (m11, .inl (cI, 128, .inl chA)), (m12, .inl (cI, 18, .inl sgA)), (m13, .inl (cI, 7, .inl kkB)), (m14, .inl (cI, 7, .inl hhB)), (m15, .inl (cI, 7, .inl ddB)), (m16, .inl (cI, 7, .inl bbB)), (m17, .inl (cI, 18, .inl sgB))] := hD
      exact W.zret (v := nI 0) hx hb hr (nar_z false) (fun t9 ht9 hW9 => ⟨⟨nI 0, (), rfl, bI_2 (by have := of_decide_eq_true c104; simp [kM, c1_4]; omega), by rw [ht9]; exact hP9, va_K.moved hW9.alike hK, hD9⟩, hS.F ht9⟩) hS.2.2 dX5_mayBy_112
    have c104 : (decide (adf (h p) (h q) = 1)) = false := bI_0 c104
    refine lv_iconst (v := nI 1) hx hb dX5_mayBy_107 (by decide) ?_
    refine lv_goto (tgt := 112) hx hb dX5_mayBy_108 (by decide) ?_
    subst hQ
    have hP9 : va_P (dC, dI0) vwCl [(h5, .inr (5, [.ref m1, .int (nI pl), .int (nI n), .int (nI dr), .int (nI cr), .ref m2, .ref m3, .ref m4, .ref m5, .ref m6, .int (nI lm), .ref m7, .ref m8, .int (nI wm), .int (nI rd), .ref m9, .ref m10, .int (nI hd), .ref m11, .int (nI sc), .ref m12, .int (nI sdN), .int (dI kc), .int (nI dkM), .int (nI ksM), .ref m13, .ref m14, .ref m15, .ref m16, .ref m17, .long hz])), (m1, .inl (cI, 24, .inl lB)), (m2, .inl (cI, 7, .inl kB)), (m3, .inl (cI, 7, .inl hB)), (m4, .inl (cI, 7, .inl dB)), (m5, .inl (cI, 7, .inl bB)), (m6, .inl (cI, 7, .inl lfA)), (m7, .inl (cI, 7, .inl rwA)), (m8, .inl (cI, 7, .inl wlA)), (m9, .inl (cI, 49, .inl hvA)), (m10, .inl (cI, 7, .inl fdA)), (m11, .inl (cI, 128, .inl chA)), (m12, .inl (cI, 18, .inl sgA)), (m13, .inl (cI, 7, .inl kkB)), (m14, .inl (cI, 7, .inl hhB)), (m15, .inl (cI, 7, .inl ddB)), (m16, .inl (cI, 7, .inl bbB)), (m17, .inl (cI, 18, .inl sgB))] H := hP
    have hD9 : va_D A [(h5, .inr (5, [.ref m1, .int (nI pl), .int (nI n), .int (nI dr), .int (nI cr), .ref m2, .ref m3, .ref m4, .ref m5, .ref m6, .int (nI lm), .ref m7, .ref m8, .int (nI wm), .int (nI rd), .ref m9, .ref m10, .int (nI hd), .ref m11, .int (nI sc), .ref m12, .int (nI sdN), .int (dI kc), .int (nI dkM), .int (nI ksM), .ref m13, .ref m14, .ref m15, .ref m16, .ref m17, .long hz])), (m1, .inl (cI, 24, .inl lB)), (m2, .inl (cI, 7, .inl kB)), (m3, .inl (cI, 7, .inl hB)), (m4, .inl (cI, 7, .inl dB)), (m5, .inl (cI, 7, .inl bB)), (m6, .inl (cI, 7, .inl lfA)), (m7, .inl (cI, 7, .inl rwA)), (m8, .inl (cI, 7, .inl wlA)), (m9, .inl (cI, 49, .inl hvA)), (m10, .inl (cI, 7, .inl fdA)), (m11, .inl (cI, 128, .inl chA)), (m12, .inl (cI, 18, .inl sgA)), (m13, .inl (cI, 7, .inl kkB)), (m14, .inl (cI, 7, .inl hhB)), (m15, .inl (cI, 7, .inl ddB)), (m16, .inl (cI, 7, .inl bbB)), (m17, .inl (cI, 18, .inl sgB))] := hD
    exact W.zret (v := nI 1) hx hb hr (nar_z true) (fun t9 ht9 hW9 => ⟨⟨nI 1, (), rfl, bI_1 (by have := of_decide_eq_false c104; simp [kM, c1_4]; unfold adf at this ⊢; omega), by rw [ht9]; exact hP9, va_K.moved hW9.alike hK, hD9⟩, hS.F ht9⟩) hS.2.2 dX5_mayBy_112
  refine lv_tableOut (tgt := 113) hx hb dX5_mayBy_1 (by rw [hsw]; omega) (by decide) ?_
  refine lv_iload_n hx hb dX5_mayBy_113 rfl (lv_at hl 2 rfl) ?_
  refine lv_iload_n hx hb dX5_mayBy_114 rfl (lv_at hl 3 rfl) ?_
  refine lv_icmp_eq (tgt := 122) hx hb dX5_mayBy_115 (by decide) (fun c115 => ?_) (fun c115 => ?_)
  ·
    have c115 : p = q := (nI_eq (a := p) (b := q) (by omega) (by omega)).mp c115
    refine lv_iconst (v := nI 0) hx hb dX5_mayBy_122 (by decide) ?_
    subst hQ
    have hP9 : va_P (dC, dI0) vwCl [(h5, .inr (5, [.ref m1, .int (nI pl), .int (nI n), .int (nI dr), .int (nI cr), .ref m2, .ref m3, .ref m4, .ref m5, .ref m6, .int (nI lm), .ref m7, .ref m8, .int (nI wm), .int (nI rd), .ref m9, .ref m10, .int (nI hd), .ref m11, .int (nI sc), .ref m12, .int (nI sdN), .int (dI kc), .int (nI dkM), .int (nI ksM), .ref m13, .ref m14, .ref m15, .ref m16, .ref m17, .long hz])), (m1, .inl (cI, 24, .inl lB)), (m2, .inl (cI, 7, .inl kB)), (m3, .inl (cI, 7, .inl hB)), (m4, .inl (cI, 7, .inl dB)), (m5, .inl (cI, 7, .inl bB)), (m6, .inl (cI, 7, .inl lfA)), (m7, .inl (cI, 7, .inl rwA)), (m8, .inl (cI, 7, .inl wlA)), (m9, .inl (cI, 49, .inl hvA)), (m10, .inl (cI, 7, .inl fdA)), (m11, .inl (cI, 128, .inl chA)), (m12, .inl (cI, 18, .inl sgA)), (m13, .inl (cI, 7, .inl kkB)), (m14, .inl (cI, 7, .inl hhB)), (m15, .inl (cI, 7, .inl ddB)), (m16, .inl (cI, 7, .inl bbB)), (m17, .inl (cI, 18, .inl sgB))] H := hP
    have hD9 : va_D A [(h5, .inr (5, [.ref m1, .int (nI pl), .int (nI n), .int (nI dr), .int (nI cr), .ref m2, .ref m3, .ref m4, .ref m5, .ref m6, .int (nI lm), .ref m7, .ref m8, .int (nI wm), .int (nI rd), .ref m9, .ref m10, .int (nI hd), .ref m11, .int (nI sc), .ref m12, .int (nI sdN), .int (dI kc), .int (nI dkM), .int (nI ksM), .ref m13, .ref m14, .ref m15, .ref m16, .ref m17, .long hz])), (m1, .inl (cI, 24, .inl lB)), (m2, .inl (cI, 7, .inl kB)), (m3, .inl (cI, 7, .inl hB)), (m4, .inl (cI, 7, .inl dB)), (m5, .inl (cI, 7, .inl bB)), (m6, .inl (cI, 7, .inl lfA)), (m7, .inl (cI, 7, .inl rwA)), (m8, .inl (cI, 7, .inl wlA)), (m9, .inl (cI, 49, .inl hvA)), (m10, .inl (cI, 7, .inl fdA)), (m11, .inl (cI, 128, .inl chA)), (m12, .inl (cI, 18, .inl sgA)), (m13, .inl (cI, 7, .inl kkB)), (m14, .inl (cI, 7, .inl hhB)), (m15, .inl (cI, 7, .inl ddB)), (m16, .inl (cI, 7, .inl bbB)), (m17, .inl (cI, 18, .inl sgB))] := hD
    exact W.zret (v := nI 0) hx hb hr (nar_z false) (fun t9 ht9 hW9 => ⟨⟨nI 0, (), rfl, bI_2 (by simp [kM, c1_1, c1_2, c1_3, c1_4, c115]), by rw [ht9]; exact hP9, va_K.moved hW9.alike hK, hD9⟩, hS.F ht9⟩) hS.2.2 dX5_mayBy_123
  have c115 : ¬ p = q := fun z => c115 ((nI_eq (a := p) (b := q) (by omega) (by omega)).mpr z)
  refine lv_iconst (v := nI 1) hx hb dX5_mayBy_118 (by decide) ?_
  refine lv_goto (tgt := 123) hx hb dX5_mayBy_119 (by decide) ?_
  subst hQ
  have hP9 : va_P (dC, dI0) vwCl [(h5, .inr (5, [.ref m1, .int (nI pl), .int (nI n), .int (nI dr), .int (nI cr), .ref m2, .ref m3, .ref m4, .ref m5, .ref m6, .int (nI lm), .ref m7, .ref m8, .int (nI wm), .int (nI rd), .ref m9, .ref m10, .int (nI hd), .ref m11, .int (nI sc), .ref m12, .int (nI sdN), .int (dI kc), .int (nI dkM), .int (nI ksM), .ref m13, .ref m14, .ref m15, .ref m16, .ref m17, .long hz])), (m1, .inl (cI, 24, .inl lB)), (m2, .inl (cI, 7, .inl kB)), (m3, .inl (cI, 7, .inl hB)), (m4, .inl (cI, 7, .inl dB)), (m5, .inl (cI, 7, .inl bB)), (m6, .inl (cI, 7, .inl lfA)), (m7, .inl (cI, 7, .inl rwA)), (m8, .inl (cI, 7, .inl wlA)), (m9, .inl (cI, 49, .inl hvA)), (m10, .inl (cI, 7, .inl fdA)), (m11, .inl (cI, 128, .inl chA)), (m12, .inl (cI, 18, .inl sgA)), (m13, .inl (cI, 7, .inl kkB)), (m14, .inl (cI, 7, .inl hhB)), (m15, .inl (cI, 7, .inl ddB)), (m16, .inl (cI, 7, .inl bbB)), (m17, .inl (cI, 18, .inl sgB))] H := hP
  have hD9 : va_D A [(h5, .inr (5, [.ref m1, .int (nI pl), .int (nI n), .int (nI dr), .int (nI cr), .ref m2, .ref m3, .ref m4, .ref m5, .ref m6, .int (nI lm), .ref m7, .ref m8, .int (nI wm), .int (nI rd), .ref m9, .ref m10, .int (nI hd), .ref m11, .int (nI sc), .ref m12, .int (nI sdN), .int (dI kc), .int (nI dkM), .int (nI ksM), .ref m13, .ref m14, .ref m15, .ref m16, .ref m17, .long hz])), (m1, .inl (cI, 24, .inl lB)), (m2, .inl (cI, 7, .inl kB)), (m3, .inl (cI, 7, .inl hB)), (m4, .inl (cI, 7, .inl dB)), (m5, .inl (cI, 7, .inl bB)), (m6, .inl (cI, 7, .inl lfA)), (m7, .inl (cI, 7, .inl rwA)), (m8, .inl (cI, 7, .inl wlA)), (m9, .inl (cI, 49, .inl hvA)), (m10, .inl (cI, 7, .inl fdA)), (m11, .inl (cI, 128, .inl chA)), (m12, .inl (cI, 18, .inl sgA)), (m13, .inl (cI, 7, .inl kkB)), (m14, .inl (cI, 7, .inl hhB)), (m15, .inl (cI, 7, .inl ddB)), (m16, .inl (cI, 7, .inl bbB)), (m17, .inl (cI, 18, .inl sgB))] := hD
  exact W.zret (v := nI 1) hx hb hr (nar_z true) (fun t9 ht9 hW9 => ⟨⟨nI 1, (), rfl, bI_1 (by simp [kM, c1_1, c1_2, c1_3, c1_4, c115]), by rw [ht9]; exact hP9, va_K.moved hW9.alike hK, hD9⟩, hS.F ht9⟩) hS.2.2 dX5_mayBy_123

set_option maxHeartbeats 4000000 in
set_option maxRecDepth 100000 in
theorem KX5_may (l : Launch) (dC : Nat → ClassId) (dI0 : Nat → Nat → Nat) (cI cZ : ClassId) (h5 : Nat) (m1 : Nat) (m2 : Nat) (m3 : Nat) (m4 : Nat) (m5 : Nat) (m6 : Nat) (m7 : Nat) (m8 : Nat) (m9 : Nat) (m10 : Nat) (m11 : Nat) (m12 : Nat) (m13 : Nat) (m14 : Nat) (m15 : Nat) (m16 : Nat) (m17 : Nat) (pl : Nat) (n : Nat) (dr : Nat) (cr : Nat) (lm : Nat) (wm : Nat) (rd : Nat) (hd : Nat) (sc : Nat) (sdN : Nat) (kc : Option Nat) (dkM : Nat) (ksM : Nat) (hz : Int64) (lB : Nat → Int32) (kB : Nat → Int32) (hB : Nat → Int32) (dB : Nat → Int32) (bB : Nat → Int32) (lfA : Nat → Int32) (rwA : Nat → Int32) (wlA : Nat → Int32) (hvA : Nat → Int32) (fdA : Nat → Int32) (chA : Nat → Int32) (sgA : Nat → Int32) (kkB : Nat → Int32) (hhB : Nat → Int32) (ddB : Nat → Int32) (bbB : Nat → Int32) (sgB : Nat → Int32) (sz : Nat) (k : Nat → Nat) (h : Nat → Nat) (b : Nat → Nat) (d : Nat → Option Nat) (p : Nat) (q : Nat) (hC : CoR n kB hB dB bB k h b d) (hp : p < n) (hq : q < n) : Met l yX5_may wsX5_may ({ frames := 2, cells := 0, slots := 0, locals := 44 } : Room) (va_Pc [.ref h5, .int (nI p), .int (nI q)] (fun U => U.heap.size = sz ∧ va_P (dC, dI0) vwCl (WM cI cZ h5 m1 m2 m3 m4 m5 m6 m7 m8 m9 m10 m11 m12 m13 m14 m15 m16 m17 pl n dr cr lm wm rd hd sc sdN kc dkM ksM hz lB kB hB dB bB lfA rwA wlA hvA fdA chA sgA kkB hhB ddB bbB sgB) U.heap ∧ va_K (dC, dI0) vwCl [(cI, .int), (cZ, .boolean)] U ∧ va_D (fun _ => True) (WM cI cZ h5 m1 m2 m3 m4 m5 m6 m7 m8 m9 m10 m11 m12 m13 m14 m15 m16 m17 pl n dr cr lm wm rd hd sc sdN kc dkM ksM hz lB kB hB dB bB lfA rwA wlA hvA fdA chA sgA kkB hhB ddB bbB sgB))) (va_Qi (fun (r : Int32) (u : Unit) => r = bI (mayS k h b p q)) (fun (u : Unit) (t : State) => va_P (dC, dI0) vwCl (WM cI cZ h5 m1 m2 m3 m4 m5 m6 m7 m8 m9 m10 m11 m12 m13 m14 m15 m16 m17 pl n dr cr lm wm rd hd sc sdN kc dkM ksM hz lB kB hB dB bB lfA rwA wlA hvA fdA chA sgA kkB hhB ddB bbB sgB) t.heap ∧ va_K (dC, dI0) vwCl [(cI, .int), (cZ, .boolean)] t ∧ va_D (va_A (WM cI cZ h5 m1 m2 m3 m4 m5 m6 m7 m8 m9 m10 m11 m12 m13 m14 m15 m16 m17 pl n dr cr lm wm rd hd sc sdN kc dkM ksM hz lB kB hB dB bB lfA rwA wlA hvA fdA chA sgA kkB hhB ddB bbB sgB) sz) (WM cI cZ h5 m1 m2 m3 m4 m5 m6 m7 m8 m9 m10 m11 m12 m13 m14 m15 m16 m17 pl n dr cr lm wm rd hd sc sdN kc dkM ksM hz lB kB hB dB bB lfA rwA wlA hvA fdA chA sgA kkB hhB ddB bbB sgB)) (va_A (WM cI cZ h5 m1 m2 m3 m4 m5 m6 m7 m8 m9 m10 m11 m12 m13 m14 m15 m16 m17 pl n dr cr lm wm rd hd sc sdN kc dkM ksM hz lB kB hB dB bB lfA rwA wlA hvA fdA chA sgA kkB hhB ddB bbB sgB) sz)) 0 0 (va_A (WM cI cZ h5 m1 m2 m3 m4 m5 m6 m7 m8 m9 m10 m11 m12 m13 m14 m15 m16 m17 pl n dr cr lm wm rd hd sc sdN kc dkM ksM hz lB kB hB dB bB lfA rwA wlA hvA fdA chA sgA kkB hhB ddB bbB sgB) sz) := by
  refine Met.ofW (cc := cX5_may) (maxL := 3) (ret := (some .boolean)) (by decide) rfl ?_
  intro prg env s m args below meth c s₁ B hml hv
  obtain ⟨rfl, hsz, hP, hK, hD0⟩ := hv
  have hx := B.exec
  have hb := B.bytes
  have hr := B.returns
  have hts := atoms_spec (ws := wsX5_may) B.pre
  have hown : s.vm.findClass RX5 = some m.cls := findClass_of_methodNamed B.named
  have hlocks := B.notSynchronized
  subst hsz
  have hD := hD0.self (sz := s.heap.size)
  generalize hAe : va_A (WM cI cZ h5 m1 m2 m3 m4 m5 m6 m7 m8 m9 m10 m11 m12 m13 m14 m15 m16 m17 pl n dr cr lm wm rd hd sc sdN kc dkM ksM hz lB kB hB dB bB lfA rwA wlA hvA fdA chA sgA kkB hhB ddB bbB sgB) s.heap.size = A at hD ⊢
  have hA : ∀ q : Nat, s.heap.size ≤ q → A q := fun q h => by rw [← hAe]; exact Or.inr h
  have hS : va_S A s.heap s.heap [] := va_S.rf
  have hP : va_P (dC, dI0) vwCl [(h5, .inr (5, [.ref m1, .int (nI pl), .int (nI n), .int (nI dr), .int (nI cr), .ref m2, .ref m3, .ref m4, .ref m5, .ref m6, .int (nI lm), .ref m7, .ref m8, .int (nI wm), .int (nI rd), .ref m9, .ref m10, .int (nI hd), .ref m11, .int (nI sc), .ref m12, .int (nI sdN), .int (dI kc), .int (nI dkM), .int (nI ksM), .ref m13, .ref m14, .ref m15, .ref m16, .ref m17, .long hz])), (m1, .inl (cI, 24, .inl lB)), (m2, .inl (cI, 7, .inl kB)), (m3, .inl (cI, 7, .inl hB)), (m4, .inl (cI, 7, .inl dB)), (m5, .inl (cI, 7, .inl bB)), (m6, .inl (cI, 7, .inl lfA)), (m7, .inl (cI, 7, .inl rwA)), (m8, .inl (cI, 7, .inl wlA)), (m9, .inl (cI, 49, .inl hvA)), (m10, .inl (cI, 7, .inl fdA)), (m11, .inl (cI, 128, .inl chA)), (m12, .inl (cI, 18, .inl sgA)), (m13, .inl (cI, 7, .inl kkB)), (m14, .inl (cI, 7, .inl hhB)), (m15, .inl (cI, 7, .inl ddB)), (m16, .inl (cI, 7, .inl bbB)), (m17, .inl (cI, 18, .inl sgB))] s.heap := hP
  have hD : va_D A [(h5, .inr (5, [.ref m1, .int (nI pl), .int (nI n), .int (nI dr), .int (nI cr), .ref m2, .ref m3, .ref m4, .ref m5, .ref m6, .int (nI lm), .ref m7, .ref m8, .int (nI wm), .int (nI rd), .ref m9, .ref m10, .int (nI hd), .ref m11, .int (nI sc), .ref m12, .int (nI sdN), .int (dI kc), .int (nI dkM), .int (nI ksM), .ref m13, .ref m14, .ref m15, .ref m16, .ref m17, .long hz])), (m1, .inl (cI, 24, .inl lB)), (m2, .inl (cI, 7, .inl kB)), (m3, .inl (cI, 7, .inl hB)), (m4, .inl (cI, 7, .inl dB)), (m5, .inl (cI, 7, .inl bB)), (m6, .inl (cI, 7, .inl lfA)), (m7, .inl (cI, 7, .inl rwA)), (m8, .inl (cI, 7, .inl wlA)), (m9, .inl (cI, 49, .inl hvA)), (m10, .inl (cI, 7, .inl fdA)), (m11, .inl (cI, 128, .inl chA)), (m12, .inl (cI, 18, .inl sgA)), (m13, .inl (cI, 7, .inl kkB)), (m14, .inl (cI, 7, .inl hhB)), (m15, .inl (cI, 7, .inl ddB)), (m16, .inl (cI, 7, .inl bbB)), (m17, .inl (cI, 18, .inl sgB))] := hD
  have hl := lv_entry ([.ref h5, .int (nI p), .int (nI q)]) (n := 3) (Nat.le_of_ble_eq_true rfl)
  rw [lg_entry_eq]
  generalize (lg_sl ([.ref h5, .int (nI p), .int (nI q)]) ++ List.replicate (3 - (lg_sl ([.ref h5, .int (nI p), .int (nI q)])).length) Slot.unset).toArray = ls at hl ⊢
  have hl : lv_has ls 3 [(0, .ref h5), (1, .int (nI p)), (2, .int (nI q))] := hl
  obtain ⟨H, hH⟩ : ∃ H : Heap, H = s.heap := ⟨_, rfl⟩
  rw [← hH] at hP ⊢
  have hS : va_S A s.heap H [] := by rw [hH]; exact hS
  refine w_gen (fun Q hQ => ?_)
  have hin_X5 : ∀ w ∈ wsX50, w ∈ wsX5_may := by decide +kernel
  have hf22 := hts (.fieldLink RX5 22 "HatNamesModel" "bars" "[I") (by decide +kernel)
  have hf13 := hts (.fieldLink RX5 13 "HatNamesModel" "kinds" "[I") (by decide +kernel)
  obtain ⟨hn7, hkk, hhh, hbb, hdd, hdn, hdi⟩ := id hC
  have h2p := Nat.two_pow_pos n
  have h2e := ev_le hn7
  refine lv_aload_n hx hb dX5_may_0 rfl (lv_at hl 0 rfl) ?_
  refine va_get (D := (dC, dI0)) (ci := 5) (v := .ref m5) (C := RX5) (T := TX5) (N := 31) hx hb hts hin_X5 hown hK hP 0 rfl rfl 8 (by decide) hf22 (fun _ h9 => h9) rfl dX5_may_1 ?_
  refine lv_iload_n hx hb dX5_may_4 rfl (lv_at hl 1 rfl) ?_
  refine va_iald hx hb hK hP 5 0 rfl rfl (vp_in_nI (by omega) (by decide)) dX5_may_5 ?_
  refine lv_topi (fun x5 e5 => ?_)
  rw [nI_clamp (n := p) (by omega)] at e5
  have hb7 := b_lt hn7 (hbb p (by omega)).2
  obtain rfl : x5 = nI (b p) := e5.trans (hbb p (by omega)).1
  refine lv_iload_n hx hb dX5_may_6 rfl (lv_at hl 2 rfl) ?_
  refine lv_ishr hx hb dX5_may_7 ?_
  refine lv_topi (fun x7 e7 => ?_)
  obtain rfl : x7 = nI ((b p) / 2 ^ q) := e7.trans (shr_nI (by omega) (by omega))
  refine lv_iconst (v := nI 1) hx hb dX5_may_8 (by decide) ?_
  refine lv_iand hx hb dX5_may_9 ?_
  refine lv_topi (fun x9 e9 => ?_)
  obtain rfl : x9 = nI (((b p) / 2 ^ q) % 2) := e9.trans (and_1 _)
  refine lv_if_ne (tgt := 32) hx hb dX5_may_10 (by decide) (fun c10 => ?_) (fun c10 => ?_)
  ·
    have c10 : ¬ (((b p) / 2 ^ q) % 2) = 0 := fun z => c10 ((nI_eq (a := (((b p) / 2 ^ q) % 2)) (b := 0) (by omega) (by omega)).mpr z)
    refine lv_iconst (v := nI 0) hx hb dX5_may_32 (by decide) ?_
    subst hQ
    have hP9 : va_P (dC, dI0) vwCl [(h5, .inr (5, [.ref m1, .int (nI pl), .int (nI n), .int (nI dr), .int (nI cr), .ref m2, .ref m3, .ref m4, .ref m5, .ref m6, .int (nI lm), .ref m7, .ref m8, .int (nI wm), .int (nI rd), .ref m9, .ref m10, .int (nI hd), .ref m11, .int (nI sc), .ref m12, .int (nI sdN), .int (dI kc), .int (nI dkM), .int (nI ksM), .ref m13, .ref m14, .ref m15, .ref m16, .ref m17, .long hz])), (m1, .inl (cI, 24, .inl lB)), (m2, .inl (cI, 7, .inl kB)), (m3, .inl (cI, 7, .inl hB)), (m4, .inl (cI, 7, .inl dB)), (m5, .inl (cI, 7, .inl bB)), (m6, .inl (cI, 7, .inl lfA)), (m7, .inl (cI, 7, .inl rwA)), (m8, .inl (cI, 7, .inl wlA)), (m9, .inl (cI, 49, .inl hvA)), (m10, .inl (cI, 7, .inl fdA)), (m11, .inl (cI, 128, .inl chA)), (m12, .inl (cI, 18, .inl sgA)), (m13, .inl (cI, 7, .inl kkB)), (m14, .inl (cI, 7, .inl hhB)), (m15, .inl (cI, 7, .inl ddB)), (m16, .inl (cI, 7, .inl bbB)), (m17, .inl (cI, 18, .inl sgB))] H := hP
    have hD9 : va_D A [(h5, .inr (5, [.ref m1, .int (nI pl), .int (nI n), .int (nI dr), .int (nI cr), .ref m2, .ref m3, .ref m4, .ref m5, .ref m6, .int (nI lm), .ref m7, .ref m8, .int (nI wm), .int (nI rd), .ref m9, .ref m10, .int (nI hd), .ref m11, .int (nI sc), .ref m12, .int (nI sdN), .int (dI kc), .int (nI dkM), .int (nI ksM), .ref m13, .ref m14, .ref m15, .ref m16, .ref m17, .long hz])), (m1, .inl (cI, 24, .inl lB)), (m2, .inl (cI, 7, .inl kB)), (m3, .inl (cI, 7, .inl hB)), (m4, .inl (cI, 7, .inl dB)), (m5, .inl (cI, 7, .inl bB)), (m6, .inl (cI, 7, .inl lfA)), (m7, .inl (cI, 7, .inl rwA)), (m8, .inl (cI, 7, .inl wlA)), (m9, .inl (cI, 49, .inl hvA)), (m10, .inl (cI, 7, .inl fdA)), (m11, .inl (cI, 128, .inl chA)), (m12, .inl (cI, 18, .inl sgA)), (m13, .inl (cI, 7, .inl kkB)), (m14, .inl (cI, 7, .inl hhB)), (m15, .inl (cI, 7, .inl ddB)), (m16, .inl (cI, 7, .inl bbB)), (m17, .inl (cI, 18, .inl sgB))] := hD
    exact W.zret (v := nI 0) hx hb hr (nar_z false) (fun t9 ht9 hW9 => ⟨⟨nI 0, (), rfl, bI_2 (by rw [mayS, tb_nz c10, Bool.not_true, Bool.and_false]), by rw [ht9]; exact hP9, va_K.moved hW9.alike hK, hD9⟩, hS.F ht9⟩) hS.2.2 dX5_may_33
  have c10 : (((b p) / 2 ^ q) % 2) = 0 := (nI_eq (a := (((b p) / 2 ^ q) % 2)) (b := 0) (by omega) (by omega)).mp c10
  refine lv_aload_n hx hb dX5_may_13 rfl (lv_at hl 0 rfl) ?_
  refine lv_aload_n hx hb dX5_may_14 rfl (lv_at hl 0 rfl) ?_
  refine va_get (D := (dC, dI0)) (ci := 5) (v := .ref m2) (C := RX5) (T := TX5) (N := 31) hx hb hts hin_X5 hown hK hP 0 rfl rfl 5 (by decide) hf13 (fun _ h9 => h9) rfl dX5_may_15 ?_
  refine lv_iload_n hx hb dX5_may_18 rfl (lv_at hl 1 rfl) ?_
  refine va_iald hx hb hK hP 2 0 rfl rfl (vp_in_nI (by omega) (by decide)) dX5_may_19 ?_
  refine lv_topi (fun x19 e19 => ?_)
  rw [nI_clamp (n := p) (by omega)] at e19
  have hk4 := (hkk p (by omega)).2
  obtain rfl : x19 = nI (k p) := e19.trans (hkk p (by omega)).1
  refine lv_iload_n hx hb dX5_may_20 rfl (lv_at hl 1 rfl) ?_
  refine lv_iload_n hx hb dX5_may_21 rfl (lv_at hl 2 rfl) ?_
  have hPc := hP.sub (ws' := [(h5, .inr (5, [.ref m1, .int (nI pl), .int (nI n), .int (nI dr), .int (nI cr), .ref m2, .ref m3, .ref m4, .ref m5, .ref m6, .int (nI lm), .ref m7, .ref m8, .int (nI wm), .int (nI rd), .ref m9, .ref m10, .int (nI hd), .ref m11, .int (nI sc), .ref m12, .int (nI sdN), .int (dI kc), .int (nI dkM), .int (nI ksM), .ref m13, .ref m14, .ref m15, .ref m16, .ref m17, .long hz])), (m1, .inl (cI, 24, .inl lB)), (m2, .inl (cI, 7, .inl kB)), (m3, .inl (cI, 7, .inl hB)), (m4, .inl (cI, 7, .inl dB)), (m5, .inl (cI, 7, .inl bB)), (m6, .inl (cI, 7, .inl lfA)), (m7, .inl (cI, 7, .inl rwA)), (m8, .inl (cI, 7, .inl wlA)), (m9, .inl (cI, 49, .inl hvA)), (m10, .inl (cI, 7, .inl fdA)), (m11, .inl (cI, 128, .inl chA)), (m12, .inl (cI, 18, .inl sgA)), (m13, .inl (cI, 7, .inl kkB)), (m14, .inl (cI, 7, .inl hhB)), (m15, .inl (cI, 7, .inl ddB)), (m16, .inl (cI, 7, .inl bbB)), (m17, .inl (cI, 18, .inl sgB))]) [0, 1, 2, 3, 4, 5, 6, 7, 8, 9, 10, 11, 12, 13, 14, 15, 16, 17] rfl
  have hDc := hD.sub (ws' := [(h5, .inr (5, [.ref m1, .int (nI pl), .int (nI n), .int (nI dr), .int (nI cr), .ref m2, .ref m3, .ref m4, .ref m5, .ref m6, .int (nI lm), .ref m7, .ref m8, .int (nI wm), .int (nI rd), .ref m9, .ref m10, .int (nI hd), .ref m11, .int (nI sc), .ref m12, .int (nI sdN), .int (dI kc), .int (nI dkM), .int (nI ksM), .ref m13, .ref m14, .ref m15, .ref m16, .ref m17, .long hz])), (m1, .inl (cI, 24, .inl lB)), (m2, .inl (cI, 7, .inl kB)), (m3, .inl (cI, 7, .inl hB)), (m4, .inl (cI, 7, .inl dB)), (m5, .inl (cI, 7, .inl bB)), (m6, .inl (cI, 7, .inl lfA)), (m7, .inl (cI, 7, .inl rwA)), (m8, .inl (cI, 7, .inl wlA)), (m9, .inl (cI, 49, .inl hvA)), (m10, .inl (cI, 7, .inl fdA)), (m11, .inl (cI, 128, .inl chA)), (m12, .inl (cI, 18, .inl sgA)), (m13, .inl (cI, 7, .inl kkB)), (m14, .inl (cI, 7, .inl hhB)), (m15, .inl (cI, 7, .inl ddB)), (m16, .inl (cI, 7, .inl bbB)), (m17, .inl (cI, 18, .inl sgB))]) [0, 1, 2, 3, 4, 5, 6, 7, 8, 9, 10, 11, 12, 13, 14, 15, 16, 17] (by decide) rfl
  have hFc := va_free (wc := [(h5, .inr (5, [.ref m1, .int (nI pl), .int (nI n), .int (nI dr), .int (nI cr), .ref m2, .ref m3, .ref m4, .ref m5, .ref m6, .int (nI lm), .ref m7, .ref m8, .int (nI wm), .int (nI rd), .ref m9, .ref m10, .int (nI hd), .ref m11, .int (nI sc), .ref m12, .int (nI sdN), .int (dI kc), .int (nI dkM), .int (nI ksM), .ref m13, .ref m14, .ref m15, .ref m16, .ref m17, .long hz])), (m1, .inl (cI, 24, .inl lB)), (m2, .inl (cI, 7, .inl kB)), (m3, .inl (cI, 7, .inl hB)), (m4, .inl (cI, 7, .inl dB)), (m5, .inl (cI, 7, .inl bB)), (m6, .inl (cI, 7, .inl lfA)), (m7, .inl (cI, 7, .inl rwA)), (m8, .inl (cI, 7, .inl wlA)), (m9, .inl (cI, 49, .inl hvA)), (m10, .inl (cI, 7, .inl fdA)), (m11, .inl (cI, 128, .inl chA)), (m12, .inl (cI, 18, .inl sgA)), (m13, .inl (cI, 7, .inl kkB)), (m14, .inl (cI, 7, .inl hhB)), (m15, .inl (cI, 7, .inl ddB)), (m16, .inl (cI, 7, .inl bbB)), (m17, .inl (cI, 18, .inl sgB))]) hD hS hA [0, 1, 2, 3, 4, 5, 6, 7, 8, 9, 10, 11, 12, 13, 14, 15, 16, 17] rfl
  refine va_calli (va_runV (As := [.int (nI (k p)), .int (nI p), .int (nI q)]) (rest := []) ⟨hx, hb, hml, hown, hts⟩ (KX5_mayBy l dC dI0 cI cZ h5 m1 m2 m3 m4 m5 m6 m7 m8 m9 m10 m11 m12 m13 m14 m15 m16 m17 pl n dr cr lm wm rd hd sc sdN kc dkM ksM hz lB kB hB dB bB lfA rwA wlA hvA fdA chA sgA kkB hhB ddB bbB sgB H.size k h b d (k p) p q (by first | assumption | omega) (by first | assumption | omega) (by first | assumption | omega) (by first | assumption | omega)) (cwV 3 hts gX5_may_X5_mayBy rfl rfl rfl (by decide +kernel) ⟨Nat.le_of_ble_eq_true rfl, Nat.le_of_ble_eq_true rfl⟩) ⟨fun a U g mk q => by obtain ⟨q0, q1, qP, qK, qD⟩ := q; exact ⟨q0, q1, qP, va_K.moved (u := U) (U := U.calling g mk a) (Vm.Alike.refl U.vm) qK, qD⟩, va_recv hK hPc (ci := 5) (q0 := 0) rfl rfl, fun U hU hW => ⟨rfl, by rw [hU], by rw [hU]; exact hPc, va_K.moved hW.alike hK, hDc.weaken (fun _ _ _ _ => trivial)⟩⟩ rfl rfl hl.1 rfl (lv_room (Nat.le_of_ble_eq_true rfl)) dX5_may_22 ⟨Nat.le_of_ble_eq_true rfl, Nat.le_of_ble_eq_true rfl⟩) hS (fun q _ h => hFc q h) hFc (fun r22 u22 t7 H1 locs ht7 hvm7 hw22 hB hz1 hk1 hS => ?_)
  obtain ⟨hP1, hK1, hD1⟩ := hB
  rw [ht7] at hP1
  try dsimp only at hw22 hP1 hD1
  obtain ⟨hP, hD⟩ := va_join (wr := []) (w1 := [(h5, .inr (5, [.ref m1, .int (nI pl), .int (nI n), .int (nI dr), .int (nI cr), .ref m2, .ref m3, .ref m4, .ref m5, .ref m6, .int (nI lm), .ref m7, .ref m8, .int (nI wm), .int (nI rd), .ref m9, .ref m10, .int (nI hd), .ref m11, .int (nI sc), .ref m12, .int (nI sdN), .int (dI kc), .int (nI dkM), .int (nI ksM), .ref m13, .ref m14, .ref m15, .ref m16, .ref m17, .long hz])), (m1, .inl (cI, 24, .inl lB)), (m2, .inl (cI, 7, .inl kB)), (m3, .inl (cI, 7, .inl hB)), (m4, .inl (cI, 7, .inl dB)), (m5, .inl (cI, 7, .inl bB)), (m6, .inl (cI, 7, .inl lfA)), (m7, .inl (cI, 7, .inl rwA)), (m8, .inl (cI, 7, .inl wlA)), (m9, .inl (cI, 49, .inl hvA)), (m10, .inl (cI, 7, .inl fdA)), (m11, .inl (cI, 128, .inl chA)), (m12, .inl (cI, 18, .inl sgA)), (m13, .inl (cI, 7, .inl kkB)), (m14, .inl (cI, 7, .inl hhB)), (m15, .inl (cI, 7, .inl ddB)), (m16, .inl (cI, 7, .inl bbB)), (m17, .inl (cI, 18, .inl sgB))]) hP hD [0, 1, 2, 3, 4, 5, 6, 7, 8, 9, 10, 11, 12, 13, 14, 15, 16, 17] [] rfl rfl (by decide) (by decide) hk1 hFc hP1 hD1
  generalize H1 = H at hP hS ⊢
  have hP := hP.sub (ws' := [(h5, .inr (5, [.ref m1, .int (nI pl), .int (nI n), .int (nI dr), .int (nI cr), .ref m2, .ref m3, .ref m4, .ref m5, .ref m6, .int (nI lm), .ref m7, .ref m8, .int (nI wm), .int (nI rd), .ref m9, .ref m10, .int (nI hd), .ref m11, .int (nI sc), .ref m12, .int (nI sdN), .int (dI kc), .int (nI dkM), .int (nI ksM), .ref m13, .ref m14, .ref m15, .ref m16, .ref m17, .long hz])), (m1, .inl (cI, 24, .inl lB)), (m2, .inl (cI, 7, .inl kB)), (m3, .inl (cI, 7, .inl hB)), (m4, .inl (cI, 7, .inl dB)), (m5, .inl (cI, 7, .inl bB)), (m6, .inl (cI, 7, .inl lfA)), (m7, .inl (cI, 7, .inl rwA)), (m8, .inl (cI, 7, .inl wlA)), (m9, .inl (cI, 49, .inl hvA)), (m10, .inl (cI, 7, .inl fdA)), (m11, .inl (cI, 128, .inl chA)), (m12, .inl (cI, 18, .inl sgA)), (m13, .inl (cI, 7, .inl kkB)), (m14, .inl (cI, 7, .inl hhB)), (m15, .inl (cI, 7, .inl ddB)), (m16, .inl (cI, 7, .inl bbB)), (m17, .inl (cI, 18, .inl sgB))]) [0, 1, 2, 3, 4, 5, 6, 7, 8, 9, 10, 11, 12, 13, 14, 15, 16, 17] rfl
  have hD := hD.sub (ws' := [(h5, .inr (5, [.ref m1, .int (nI pl), .int (nI n), .int (nI dr), .int (nI cr), .ref m2, .ref m3, .ref m4, .ref m5, .ref m6, .int (nI lm), .ref m7, .ref m8, .int (nI wm), .int (nI rd), .ref m9, .ref m10, .int (nI hd), .ref m11, .int (nI sc), .ref m12, .int (nI sdN), .int (dI kc), .int (nI dkM), .int (nI ksM), .ref m13, .ref m14, .ref m15, .ref m16, .ref m17, .long hz])), (m1, .inl (cI, 24, .inl lB)), (m2, .inl (cI, 7, .inl kB)), (m3, .inl (cI, 7, .inl hB)), (m4, .inl (cI, 7, .inl dB)), (m5, .inl (cI, 7, .inl bB)), (m6, .inl (cI, 7, .inl lfA)), (m7, .inl (cI, 7, .inl rwA)), (m8, .inl (cI, 7, .inl wlA)), (m9, .inl (cI, 49, .inl hvA)), (m10, .inl (cI, 7, .inl fdA)), (m11, .inl (cI, 128, .inl chA)), (m12, .inl (cI, 18, .inl sgA)), (m13, .inl (cI, 7, .inl kkB)), (m14, .inl (cI, 7, .inl hhB)), (m15, .inl (cI, 7, .inl ddB)), (m16, .inl (cI, 7, .inl bbB)), (m17, .inl (cI, 18, .inl sgB))]) [0, 1, 2, 3, 4, 5, 6, 7, 8, 9, 10, 11, 12, 13, 14, 15, 16, 17] (by decide) rfl
  obtain rfl : r22 = bI (kM h (k p) p q) := hw22
  refine lv_if_eq (tgt := 32) hx hb dX5_may_25 (by decide) (fun c25 => ?_) (fun c25 => ?_)
  ·
    have c25 : (kM h (k p) p q) = false := bI_0 c25
    refine lv_iconst (v := nI 0) hx hb dX5_may_32 (by decide) ?_
    subst hQ
    have hP9 : va_P (dC, dI0) vwCl [(h5, .inr (5, [.ref m1, .int (nI pl), .int (nI n), .int (nI dr), .int (nI cr), .ref m2, .ref m3, .ref m4, .ref m5, .ref m6, .int (nI lm), .ref m7, .ref m8, .int (nI wm), .int (nI rd), .ref m9, .ref m10, .int (nI hd), .ref m11, .int (nI sc), .ref m12, .int (nI sdN), .int (dI kc), .int (nI dkM), .int (nI ksM), .ref m13, .ref m14, .ref m15, .ref m16, .ref m17, .long hz])), (m1, .inl (cI, 24, .inl lB)), (m2, .inl (cI, 7, .inl kB)), (m3, .inl (cI, 7, .inl hB)), (m4, .inl (cI, 7, .inl dB)), (m5, .inl (cI, 7, .inl bB)), (m6, .inl (cI, 7, .inl lfA)), (m7, .inl (cI, 7, .inl rwA)), (m8, .inl (cI, 7, .inl wlA)), (m9, .inl (cI, 49, .inl hvA)), (m10, .inl (cI, 7, .inl fdA)), (m11, .inl (cI, 128, .inl chA)), (m12, .inl (cI, 18, .inl sgA)), (m13, .inl (cI, 7, .inl kkB)), (m14, .inl (cI, 7, .inl hhB)), (m15, .inl (cI, 7, .inl ddB)), (m16, .inl (cI, 7, .inl bbB)), (m17, .inl (cI, 18, .inl sgB))] H := hP
    have hD9 : va_D A [(h5, .inr (5, [.ref m1, .int (nI pl), .int (nI n), .int (nI dr), .int (nI cr), .ref m2, .ref m3, .ref m4, .ref m5, .ref m6, .int (nI lm), .ref m7, .ref m8, .int (nI wm), .int (nI rd), .ref m9, .ref m10, .int (nI hd), .ref m11, .int (nI sc), .ref m12, .int (nI sdN), .int (dI kc), .int (nI dkM), .int (nI ksM), .ref m13, .ref m14, .ref m15, .ref m16, .ref m17, .long hz])), (m1, .inl (cI, 24, .inl lB)), (m2, .inl (cI, 7, .inl kB)), (m3, .inl (cI, 7, .inl hB)), (m4, .inl (cI, 7, .inl dB)), (m5, .inl (cI, 7, .inl bB)), (m6, .inl (cI, 7, .inl lfA)), (m7, .inl (cI, 7, .inl rwA)), (m8, .inl (cI, 7, .inl wlA)), (m9, .inl (cI, 49, .inl hvA)), (m10, .inl (cI, 7, .inl fdA)), (m11, .inl (cI, 128, .inl chA)), (m12, .inl (cI, 18, .inl sgA)), (m13, .inl (cI, 7, .inl kkB)), (m14, .inl (cI, 7, .inl hhB)), (m15, .inl (cI, 7, .inl ddB)), (m16, .inl (cI, 7, .inl bbB)), (m17, .inl (cI, 18, .inl sgB))] := hD
    exact W.zret (v := nI 0) hx hb hr (nar_z false) (fun t9 ht9 hW9 => ⟨⟨nI 0, (), rfl, bI_2 (by rw [mayS, c25, Bool.false_and]), by rw [ht9]; exact hP9, va_K.moved hW9.alike hK, hD9⟩, hS.F ht9⟩) hS.2.2 dX5_may_33
  have c25 : (kM h (k p) p q) = true := bI_n0 c25
  refine lv_iconst (v := nI 1) hx hb dX5_may_28 (by decide) ?_
  refine lv_goto (tgt := 33) hx hb dX5_may_29 (by decide) ?_
  subst hQ
  have hP9 : va_P (dC, dI0) vwCl [(h5, .inr (5, [.ref m1, .int (nI pl), .int (nI n), .int (nI dr), .int (nI cr), .ref m2, .ref m3, .ref m4, .ref m5, .ref m6, .int (nI lm), .ref m7, .ref m8, .int (nI wm), .int (nI rd), .ref m9, .ref m10, .int (nI hd), .ref m11, .int (nI sc), .ref m12, .int (nI sdN), .int (dI kc), .int (nI dkM), .int (nI ksM), .ref m13, .ref m14, .ref m15, .ref m16, .ref m17, .long hz])), (m1, .inl (cI, 24, .inl lB)), (m2, .inl (cI, 7, .inl kB)), (m3, .inl (cI, 7, .inl hB)), (m4, .inl (cI, 7, .inl dB)), (m5, .inl (cI, 7, .inl bB)), (m6, .inl (cI, 7, .inl lfA)), (m7, .inl (cI, 7, .inl rwA)), (m8, .inl (cI, 7, .inl wlA)), (m9, .inl (cI, 49, .inl hvA)), (m10, .inl (cI, 7, .inl fdA)), (m11, .inl (cI, 128, .inl chA)), (m12, .inl (cI, 18, .inl sgA)), (m13, .inl (cI, 7, .inl kkB)), (m14, .inl (cI, 7, .inl hhB)), (m15, .inl (cI, 7, .inl ddB)), (m16, .inl (cI, 7, .inl bbB)), (m17, .inl (cI, 18, .inl sgB))] H := hP
  have hD9 : va_D A [(h5, .inr (5, [.ref m1, .int (nI pl), .int (nI n), .int (nI dr), .int (nI cr), .ref m2, .ref m3, .ref m4, .ref m5, .ref m6, .int (nI lm), .ref m7, .ref m8, .int (nI wm), .int (nI rd), .ref m9, .ref m10, .int (nI hd), .ref m11, .int (nI sc), .ref m12, .int (nI sdN), .int (dI kc), .int (nI dkM), .int (nI ksM), .ref m13, .ref m14, .ref m15, .ref m16, .ref m17, .long hz])), (m1, .inl (cI, 24, .inl lB)), (m2, .inl (cI, 7, .inl kB)), (m3, .inl (cI, 7, .inl hB)), (m4, .inl (cI, 7, .inl dB)), (m5, .inl (cI, 7, .inl bB)), (m6, .inl (cI, 7, .inl lfA)), (m7, .inl (cI, 7, .inl rwA)), (m8, .inl (cI, 7, .inl wlA)), (m9, .inl (cI, 49, .inl hvA)), (m10, .inl (cI, 7, .inl fdA)), (m11, .inl (cI, 128, .inl chA)), (m12, .inl (cI, 18, .inl sgA)), (m13, .inl (cI, 7, .inl kkB)), (m14, .inl (cI, 7, .inl hhB)), (m15, .inl (cI, 7, .inl ddB)), (m16, .inl (cI, 7, .inl bbB)), (m17, .inl (cI, 18, .inl sgB))] := hD
  exact W.zret (v := nI 1) hx hb hr (nar_z true) (fun t9 ht9 hW9 => ⟨⟨nI 1, (), rfl, bI_1 (by rw [mayS, c25, tb_z c10]; rfl), by rw [ht9]; exact hP9, va_K.moved hW9.alike hK, hD9⟩, hS.F ht9⟩) hS.2.2 dX5_may_33

set_option maxHeartbeats 4000000 in
set_option maxRecDepth 100000 in
theorem KX5_mayBits (l : Launch) (dC : Nat → ClassId) (dI0 : Nat → Nat → Nat) (cI cZ : ClassId) (h5 : Nat) (m1 : Nat) (m2 : Nat) (m3 : Nat) (m4 : Nat) (m5 : Nat) (m6 : Nat) (m7 : Nat) (m8 : Nat) (m9 : Nat) (m10 : Nat) (m11 : Nat) (m12 : Nat) (m13 : Nat) (m14 : Nat) (m15 : Nat) (m16 : Nat) (m17 : Nat) (pl : Nat) (n : Nat) (dr : Nat) (cr : Nat) (lm : Nat) (wm : Nat) (rd : Nat) (hd : Nat) (sc : Nat) (sdN : Nat) (kc : Option Nat) (dkM : Nat) (ksM : Nat) (hz : Int64) (lB : Nat → Int32) (kB : Nat → Int32) (hB : Nat → Int32) (dB : Nat → Int32) (bB : Nat → Int32) (lfA : Nat → Int32) (rwA : Nat → Int32) (wlA : Nat → Int32) (hvA : Nat → Int32) (fdA : Nat → Int32) (chA : Nat → Int32) (sgA : Nat → Int32) (kkB : Nat → Int32) (hhB : Nat → Int32) (ddB : Nat → Int32) (bbB : Nat → Int32) (sgB : Nat → Int32) (sz : Nat) (k : Nat → Nat) (h : Nat → Nat) (b : Nat → Nat) (d : Nat → Option Nat) (p : Nat) (hC : CoR n kB hB dB bB k h b d) (hp : p < n) : Met l yX5_mayBits wsX5_mayBits ({ frames := 3, cells := 0, slots := 0, locals := 66 } : Room) (va_Pc [.ref h5, .int (nI p)] (fun U => U.heap.size = sz ∧ va_P (dC, dI0) vwCl (WM cI cZ h5 m1 m2 m3 m4 m5 m6 m7 m8 m9 m10 m11 m12 m13 m14 m15 m16 m17 pl n dr cr lm wm rd hd sc sdN kc dkM ksM hz lB kB hB dB bB lfA rwA wlA hvA fdA chA sgA kkB hhB ddB bbB sgB) U.heap ∧ va_K (dC, dI0) vwCl [(cI, .int), (cZ, .boolean)] U ∧ va_D (fun _ => True) (WM cI cZ h5 m1 m2 m3 m4 m5 m6 m7 m8 m9 m10 m11 m12 m13 m14 m15 m16 m17 pl n dr cr lm wm rd hd sc sdN kc dkM ksM hz lB kB hB dB bB lfA rwA wlA hvA fdA chA sgA kkB hhB ddB bbB sgB))) (va_Qi (fun (r : Int32) (u : Unit) => r = nI (pb (mayS k h b p) n)) (fun (u : Unit) (t : State) => va_P (dC, dI0) vwCl (WM cI cZ h5 m1 m2 m3 m4 m5 m6 m7 m8 m9 m10 m11 m12 m13 m14 m15 m16 m17 pl n dr cr lm wm rd hd sc sdN kc dkM ksM hz lB kB hB dB bB lfA rwA wlA hvA fdA chA sgA kkB hhB ddB bbB sgB) t.heap ∧ va_K (dC, dI0) vwCl [(cI, .int), (cZ, .boolean)] t ∧ va_D (va_A (WM cI cZ h5 m1 m2 m3 m4 m5 m6 m7 m8 m9 m10 m11 m12 m13 m14 m15 m16 m17 pl n dr cr lm wm rd hd sc sdN kc dkM ksM hz lB kB hB dB bB lfA rwA wlA hvA fdA chA sgA kkB hhB ddB bbB sgB) sz) (WM cI cZ h5 m1 m2 m3 m4 m5 m6 m7 m8 m9 m10 m11 m12 m13 m14 m15 m16 m17 pl n dr cr lm wm rd hd sc sdN kc dkM ksM hz lB kB hB dB bB lfA rwA wlA hvA fdA chA sgA kkB hhB ddB bbB sgB)) (va_A (WM cI cZ h5 m1 m2 m3 m4 m5 m6 m7 m8 m9 m10 m11 m12 m13 m14 m15 m16 m17 pl n dr cr lm wm rd hd sc sdN kc dkM ksM hz lB kB hB dB bB lfA rwA wlA hvA fdA chA sgA kkB hhB ddB bbB sgB) sz)) 0 0 (va_A (WM cI cZ h5 m1 m2 m3 m4 m5 m6 m7 m8 m9 m10 m11 m12 m13 m14 m15 m16 m17 pl n dr cr lm wm rd hd sc sdN kc dkM ksM hz lB kB hB dB bB lfA rwA wlA hvA fdA chA sgA kkB hhB ddB bbB sgB) sz) := by
  refine Met.ofW (cc := cX5_mayBits) (maxL := 4) (ret := (some .int)) (by decide) rfl ?_
  intro prg env s m args below meth c s₁ B hml hv
  obtain ⟨rfl, hsz, hP, hK, hD0⟩ := hv
  have hx := B.exec
  have hb := B.bytes
  have hr := B.returns
  have hts := atoms_spec (ws := wsX5_mayBits) B.pre
  have hown : s.vm.findClass RX5 = some m.cls := findClass_of_methodNamed B.named
  have hlocks := B.notSynchronized
  subst hsz
  have hD := hD0.self (sz := s.heap.size)
  generalize hAe : va_A (WM cI cZ h5 m1 m2 m3 m4 m5 m6 m7 m8 m9 m10 m11 m12 m13 m14 m15 m16 m17 pl n dr cr lm wm rd hd sc sdN kc dkM ksM hz lB kB hB dB bB lfA rwA wlA hvA fdA chA sgA kkB hhB ddB bbB sgB) s.heap.size = A at hD ⊢
  have hA : ∀ q : Nat, s.heap.size ≤ q → A q := fun q h => by rw [← hAe]; exact Or.inr h
  have hS : va_S A s.heap s.heap [] := va_S.rf
  have hP : va_P (dC, dI0) vwCl [(h5, .inr (5, [.ref m1, .int (nI pl), .int (nI n), .int (nI dr), .int (nI cr), .ref m2, .ref m3, .ref m4, .ref m5, .ref m6, .int (nI lm), .ref m7, .ref m8, .int (nI wm), .int (nI rd), .ref m9, .ref m10, .int (nI hd), .ref m11, .int (nI sc), .ref m12, .int (nI sdN), .int (dI kc), .int (nI dkM), .int (nI ksM), .ref m13, .ref m14, .ref m15, .ref m16, .ref m17, .long hz])), (m1, .inl (cI, 24, .inl lB)), (m2, .inl (cI, 7, .inl kB)), (m3, .inl (cI, 7, .inl hB)), (m4, .inl (cI, 7, .inl dB)), (m5, .inl (cI, 7, .inl bB)), (m6, .inl (cI, 7, .inl lfA)), (m7, .inl (cI, 7, .inl rwA)), (m8, .inl (cI, 7, .inl wlA)), (m9, .inl (cI, 49, .inl hvA)), (m10, .inl (cI, 7, .inl fdA)), (m11, .inl (cI, 128, .inl chA)), (m12, .inl (cI, 18, .inl sgA)), (m13, .inl (cI, 7, .inl kkB)), (m14, .inl (cI, 7, .inl hhB)), (m15, .inl (cI, 7, .inl ddB)), (m16, .inl (cI, 7, .inl bbB)), (m17, .inl (cI, 18, .inl sgB))] s.heap := hP
  have hD : va_D A [(h5, .inr (5, [.ref m1, .int (nI pl), .int (nI n), .int (nI dr), .int (nI cr), .ref m2, .ref m3, .ref m4, .ref m5, .ref m6, .int (nI lm), .ref m7, .ref m8, .int (nI wm), .int (nI rd), .ref m9, .ref m10, .int (nI hd), .ref m11, .int (nI sc), .ref m12, .int (nI sdN), .int (dI kc), .int (nI dkM), .int (nI ksM), .ref m13, .ref m14, .ref m15, .ref m16, .ref m17, .long hz])), (m1, .inl (cI, 24, .inl lB)), (m2, .inl (cI, 7, .inl kB)), (m3, .inl (cI, 7, .inl hB)), (m4, .inl (cI, 7, .inl dB)), (m5, .inl (cI, 7, .inl bB)), (m6, .inl (cI, 7, .inl lfA)), (m7, .inl (cI, 7, .inl rwA)), (m8, .inl (cI, 7, .inl wlA)), (m9, .inl (cI, 49, .inl hvA)), (m10, .inl (cI, 7, .inl fdA)), (m11, .inl (cI, 128, .inl chA)), (m12, .inl (cI, 18, .inl sgA)), (m13, .inl (cI, 7, .inl kkB)), (m14, .inl (cI, 7, .inl hhB)), (m15, .inl (cI, 7, .inl ddB)), (m16, .inl (cI, 7, .inl bbB)), (m17, .inl (cI, 18, .inl sgB))] := hD
  have hl := lv_entry ([.ref h5, .int (nI p)]) (n := 4) (Nat.le_of_ble_eq_true rfl)
  rw [lg_entry_eq]
  generalize (lg_sl ([.ref h5, .int (nI p)]) ++ List.replicate (4 - (lg_sl ([.ref h5, .int (nI p)])).length) Slot.unset).toArray = ls at hl ⊢
  have hl : lv_has ls 4 [(0, .ref h5), (1, .int (nI p))] := hl
  obtain ⟨H, hH⟩ : ∃ H : Heap, H = s.heap := ⟨_, rfl⟩
  rw [← hH] at hP ⊢
  have hS : va_S A s.heap H [] := by rw [hH]; exact hS
  refine w_gen (fun Q hQ => ?_)
  have hin_X5 : ∀ w ∈ wsX50, w ∈ wsX5_mayBits := by decide +kernel
  have hf90 := hts (.fieldLink RX5 90 "HatNamesModel" "persons" "I") (by decide +kernel)
  obtain ⟨hn7, hkk, hhh, hbb, hdd, hdn, hdi⟩ := id hC
  have h2p := Nat.two_pow_pos n
  have h2e := ev_le hn7
  refine lv_iconst (v := nI 0) hx hb dX5_mayBits_0 (by decide) ?_
  refine lv_istore_n (lv' := [(2, .int (nI 0)), (0, .ref h5), (1, .int (nI p))]) hx hb dX5_mayBits_1 rfl hl (by decide) rfl (fun ls hl => ?_)
  refine lv_iconst (v := nI 0) hx hb dX5_mayBits_2 (by decide) ?_
  refine lv_istore_n (lv' := [(3, .int (nI 0)), (2, .int (nI 0)), (0, .ref h5), (1, .int (nI p))]) hx hb dX5_mayBits_3 rfl hl (by decide) rfl (fun ls hl => ?_)
  have L4 : ∀ (fu : Nat) (i : Nat) (a : Nat), i ≤ n → a = pb (mayS k h b p) i → n - i < fu → ∀ (H : Heap) (locs : List Loc), va_P (dC, dI0) vwCl [(h5, .inr (5, [.ref m1, .int (nI pl), .int (nI n), .int (nI dr), .int (nI cr), .ref m2, .ref m3, .ref m4, .ref m5, .ref m6, .int (nI lm), .ref m7, .ref m8, .int (nI wm), .int (nI rd), .ref m9, .ref m10, .int (nI hd), .ref m11, .int (nI sc), .ref m12, .int (nI sdN), .int (dI kc), .int (nI dkM), .int (nI ksM), .ref m13, .ref m14, .ref m15, .ref m16, .ref m17, .long hz])), (m1, .inl (cI, 24, .inl lB)), (m2, .inl (cI, 7, .inl kB)), (m3, .inl (cI, 7, .inl hB)), (m4, .inl (cI, 7, .inl dB)), (m5, .inl (cI, 7, .inl bB)), (m6, .inl (cI, 7, .inl lfA)), (m7, .inl (cI, 7, .inl rwA)), (m8, .inl (cI, 7, .inl wlA)), (m9, .inl (cI, 49, .inl hvA)), (m10, .inl (cI, 7, .inl fdA)), (m11, .inl (cI, 128, .inl chA)), (m12, .inl (cI, 18, .inl sgA)), (m13, .inl (cI, 7, .inl kkB)), (m14, .inl (cI, 7, .inl hhB)), (m15, .inl (cI, 7, .inl ddB)), (m16, .inl (cI, 7, .inl bbB)), (m17, .inl (cI, 18, .inl sgB))] H → va_D A [(h5, .inr (5, [.ref m1, .int (nI pl), .int (nI n), .int (nI dr), .int (nI cr), .ref m2, .ref m3, .ref m4, .ref m5, .ref m6, .int (nI lm), .ref m7, .ref m8, .int (nI wm), .int (nI rd), .ref m9, .ref m10, .int (nI hd), .ref m11, .int (nI sc), .ref m12, .int (nI sdN), .int (dI kc), .int (nI dkM), .int (nI ksM), .ref m13, .ref m14, .ref m15, .ref m16, .ref m17, .long hz])), (m1, .inl (cI, 24, .inl lB)), (m2, .inl (cI, 7, .inl kB)), (m3, .inl (cI, 7, .inl hB)), (m4, .inl (cI, 7, .inl dB)), (m5, .inl (cI, 7, .inl bB)), (m6, .inl (cI, 7, .inl lfA)), (m7, .inl (cI, 7, .inl rwA)), (m8, .inl (cI, 7, .inl wlA)), (m9, .inl (cI, 49, .inl hvA)), (m10, .inl (cI, 7, .inl fdA)), (m11, .inl (cI, 128, .inl chA)), (m12, .inl (cI, 18, .inl sgA)), (m13, .inl (cI, 7, .inl kkB)), (m14, .inl (cI, 7, .inl hhB)), (m15, .inl (cI, 7, .inl ddB)), (m16, .inl (cI, 7, .inl bbB)), (m17, .inl (cI, 18, .inl sgB))] → va_S A s.heap H locs → ∀ (ls : Array Slot), lv_has ls 4 [(0, .ref h5), (1, .int (nI p)), (2, .int (nI a)), (3, .int (nI i))] → W prg l env ({ frames := 3, cells := 0, slots := 0, locals := 66 } : Room) s m ([.ref h5, .int (nI p)] : List Value).toArray below meth c H locs 0 0 Q (F0 m 4 ls []) := by
    intro fu
    induction fu with
    | zero => intro i a hi ha hmu; exact absurd hmu (Nat.not_lt_zero _)
    | succ fu ih4 =>
      intro i a hi ha hmu4 H locs hP hD hS ls hl
      refine lv_iload_n hx hb dX5_mayBits_4 rfl (lv_at hl 3 rfl) ?_
      refine lv_aload_n hx hb dX5_mayBits_5 rfl (lv_at hl 0 rfl) ?_
      refine va_get (D := (dC, dI0)) (ci := 5) (v := .int (nI n)) (C := RX5) (T := TX5) (N := 31) hx hb hts hin_X5 hown hK hP 0 rfl rfl 2 (by decide) hf90 (fun _ h9 => h9) rfl dX5_mayBits_6 ?_
      refine lv_icmp_ge (tgt := 37) hx hb dX5_mayBits_9 (by decide) (fun c9 => ?_) (fun c9 => ?_)
      ·
        have c9 : n ≤ i := (nI_leI (a := n) (b := i) (by omega) (by omega)).mp c9
        refine lv_iload_n hx hb dX5_mayBits_37 rfl (lv_at hl 2 rfl) ?_
        subst hQ
        have hP9 : va_P (dC, dI0) vwCl [(h5, .inr (5, [.ref m1, .int (nI pl), .int (nI n), .int (nI dr), .int (nI cr), .ref m2, .ref m3, .ref m4, .ref m5, .ref m6, .int (nI lm), .ref m7, .ref m8, .int (nI wm), .int (nI rd), .ref m9, .ref m10, .int (nI hd), .ref m11, .int (nI sc), .ref m12, .int (nI sdN), .int (dI kc), .int (nI dkM), .int (nI ksM), .ref m13, .ref m14, .ref m15, .ref m16, .ref m17, .long hz])), (m1, .inl (cI, 24, .inl lB)), (m2, .inl (cI, 7, .inl kB)), (m3, .inl (cI, 7, .inl hB)), (m4, .inl (cI, 7, .inl dB)), (m5, .inl (cI, 7, .inl bB)), (m6, .inl (cI, 7, .inl lfA)), (m7, .inl (cI, 7, .inl rwA)), (m8, .inl (cI, 7, .inl wlA)), (m9, .inl (cI, 49, .inl hvA)), (m10, .inl (cI, 7, .inl fdA)), (m11, .inl (cI, 128, .inl chA)), (m12, .inl (cI, 18, .inl sgA)), (m13, .inl (cI, 7, .inl kkB)), (m14, .inl (cI, 7, .inl hhB)), (m15, .inl (cI, 7, .inl ddB)), (m16, .inl (cI, 7, .inl bbB)), (m17, .inl (cI, 18, .inl sgB))] H := hP
        have hD9 : va_D A [(h5, .inr (5, [.ref m1, .int (nI pl), .int (nI n), .int (nI dr), .int (nI cr), .ref m2, .ref m3, .ref m4, .ref m5, .ref m6, .int (nI lm), .ref m7, .ref m8, .int (nI wm), .int (nI rd), .ref m9, .ref m10, .int (nI hd), .ref m11, .int (nI sc), .ref m12, .int (nI sdN), .int (dI kc), .int (nI dkM), .int (nI ksM), .ref m13, .ref m14, .ref m15, .ref m16, .ref m17, .long hz])), (m1, .inl (cI, 24, .inl lB)), (m2, .inl (cI, 7, .inl kB)), (m3, .inl (cI, 7, .inl hB)), (m4, .inl (cI, 7, .inl dB)), (m5, .inl (cI, 7, .inl bB)), (m6, .inl (cI, 7, .inl lfA)), (m7, .inl (cI, 7, .inl rwA)), (m8, .inl (cI, 7, .inl wlA)), (m9, .inl (cI, 49, .inl hvA)), (m10, .inl (cI, 7, .inl fdA)), (m11, .inl (cI, 128, .inl chA)), (m12, .inl (cI, 18, .inl sgA)), (m13, .inl (cI, 7, .inl kkB)), (m14, .inl (cI, 7, .inl hhB)), (m15, .inl (cI, 7, .inl ddB)), (m16, .inl (cI, 7, .inl bbB)), (m17, .inl (cI, 18, .inl sgB))] := hD
        exact W.iret (v := nI a) hx hb hr (fun t9 ht9 hW9 => ⟨⟨nI a, (), rfl, by rw [ha, show i = n by omega], by rw [ht9]; exact hP9, va_K.moved hW9.alike hK, hD9⟩, hS.F ht9⟩) hS.2.2 dX5_mayBits_38
      have c9 : ¬ n ≤ i := fun z => c9 ((nI_leI (a := n) (b := i) (by omega) (by omega)).mpr z)
      refine lv_iload_n hx hb dX5_mayBits_12 rfl (lv_at hl 2 rfl) ?_
      refine lv_aload_n hx hb dX5_mayBits_13 rfl (lv_at hl 0 rfl) ?_
      refine lv_iload_n hx hb dX5_mayBits_14 rfl (lv_at hl 1 rfl) ?_
      refine lv_iload_n hx hb dX5_mayBits_15 rfl (lv_at hl 3 rfl) ?_
      have hPc := hP.sub (ws' := [(h5, .inr (5, [.ref m1, .int (nI pl), .int (nI n), .int (nI dr), .int (nI cr), .ref m2, .ref m3, .ref m4, .ref m5, .ref m6, .int (nI lm), .ref m7, .ref m8, .int (nI wm), .int (nI rd), .ref m9, .ref m10, .int (nI hd), .ref m11, .int (nI sc), .ref m12, .int (nI sdN), .int (dI kc), .int (nI dkM), .int (nI ksM), .ref m13, .ref m14, .ref m15, .ref m16, .ref m17, .long hz])), (m1, .inl (cI, 24, .inl lB)), (m2, .inl (cI, 7, .inl kB)), (m3, .inl (cI, 7, .inl hB)), (m4, .inl (cI, 7, .inl dB)), (m5, .inl (cI, 7, .inl bB)), (m6, .inl (cI, 7, .inl lfA)), (m7, .inl (cI, 7, .inl rwA)), (m8, .inl (cI, 7, .inl wlA)), (m9, .inl (cI, 49, .inl hvA)), (m10, .inl (cI, 7, .inl fdA)), (m11, .inl (cI, 128, .inl chA)), (m12, .inl (cI, 18, .inl sgA)), (m13, .inl (cI, 7, .inl kkB)), (m14, .inl (cI, 7, .inl hhB)), (m15, .inl (cI, 7, .inl ddB)), (m16, .inl (cI, 7, .inl bbB)), (m17, .inl (cI, 18, .inl sgB))]) [0, 1, 2, 3, 4, 5, 6, 7, 8, 9, 10, 11, 12, 13, 14, 15, 16, 17] rfl
      have hDc := hD.sub (ws' := [(h5, .inr (5, [.ref m1, .int (nI pl), .int (nI n), .int (nI dr), .int (nI cr), .ref m2, .ref m3, .ref m4, .ref m5, .ref m6, .int (nI lm), .ref m7, .ref m8, .int (nI wm), .int (nI rd), .ref m9, .ref m10, .int (nI hd), .ref m11, .int (nI sc), .ref m12, .int (nI sdN), .int (dI kc), .int (nI dkM), .int (nI ksM), .ref m13, .ref m14, .ref m15, .ref m16, .ref m17, .long hz])), (m1, .inl (cI, 24, .inl lB)), (m2, .inl (cI, 7, .inl kB)), (m3, .inl (cI, 7, .inl hB)), (m4, .inl (cI, 7, .inl dB)), (m5, .inl (cI, 7, .inl bB)), (m6, .inl (cI, 7, .inl lfA)), (m7, .inl (cI, 7, .inl rwA)), (m8, .inl (cI, 7, .inl wlA)), (m9, .inl (cI, 49, .inl hvA)), (m10, .inl (cI, 7, .inl fdA)), (m11, .inl (cI, 128, .inl chA)), (m12, .inl (cI, 18, .inl sgA)), (m13, .inl (cI, 7, .inl kkB)), (m14, .inl (cI, 7, .inl hhB)), (m15, .inl (cI, 7, .inl ddB)), (m16, .inl (cI, 7, .inl bbB)), (m17, .inl (cI, 18, .inl sgB))]) [0, 1, 2, 3, 4, 5, 6, 7, 8, 9, 10, 11, 12, 13, 14, 15, 16, 17] (by decide) rfl
      have hFc := va_free (wc := [(h5, .inr (5, [.ref m1, .int (nI pl), .int (nI n), .int (nI dr), .int (nI cr), .ref m2, .ref m3, .ref m4, .ref m5, .ref m6, .int (nI lm), .ref m7, .ref m8, .int (nI wm), .int (nI rd), .ref m9, .ref m10, .int (nI hd), .ref m11, .int (nI sc), .ref m12, .int (nI sdN), .int (dI kc), .int (nI dkM), .int (nI ksM), .ref m13, .ref m14, .ref m15, .ref m16, .ref m17, .long hz])), (m1, .inl (cI, 24, .inl lB)), (m2, .inl (cI, 7, .inl kB)), (m3, .inl (cI, 7, .inl hB)), (m4, .inl (cI, 7, .inl dB)), (m5, .inl (cI, 7, .inl bB)), (m6, .inl (cI, 7, .inl lfA)), (m7, .inl (cI, 7, .inl rwA)), (m8, .inl (cI, 7, .inl wlA)), (m9, .inl (cI, 49, .inl hvA)), (m10, .inl (cI, 7, .inl fdA)), (m11, .inl (cI, 128, .inl chA)), (m12, .inl (cI, 18, .inl sgA)), (m13, .inl (cI, 7, .inl kkB)), (m14, .inl (cI, 7, .inl hhB)), (m15, .inl (cI, 7, .inl ddB)), (m16, .inl (cI, 7, .inl bbB)), (m17, .inl (cI, 18, .inl sgB))]) hD hS hA [0, 1, 2, 3, 4, 5, 6, 7, 8, 9, 10, 11, 12, 13, 14, 15, 16, 17] rfl
      refine va_calli (va_runV (As := [.int (nI p), .int (nI i)]) (rest := [.int (nI a)]) ⟨hx, hb, hml, hown, hts⟩ (KX5_may l dC dI0 cI cZ h5 m1 m2 m3 m4 m5 m6 m7 m8 m9 m10 m11 m12 m13 m14 m15 m16 m17 pl n dr cr lm wm rd hd sc sdN kc dkM ksM hz lB kB hB dB bB lfA rwA wlA hvA fdA chA sgA kkB hhB ddB bbB sgB H.size k h b d p i (by first | assumption | omega) (by first | assumption | omega) (by first | assumption | omega)) (cwV 2 hts gX5_mayBits_X5_may rfl rfl rfl (by decide +kernel) ⟨Nat.le_of_ble_eq_true rfl, Nat.le_of_ble_eq_true rfl⟩) ⟨fun a U g mk q => by obtain ⟨q0, q1, qP, qK, qD⟩ := q; exact ⟨q0, q1, qP, va_K.moved (u := U) (U := U.calling g mk a) (Vm.Alike.refl U.vm) qK, qD⟩, va_recv hK hPc (ci := 5) (q0 := 0) rfl rfl, fun U hU hW => ⟨rfl, by rw [hU], by rw [hU]; exact hPc, va_K.moved hW.alike hK, hDc.weaken (fun _ _ _ _ => trivial)⟩⟩ rfl rfl hl.1 rfl (lv_room (Nat.le_of_ble_eq_true rfl)) dX5_mayBits_16 ⟨Nat.le_of_ble_eq_true rfl, Nat.le_of_ble_eq_true rfl⟩) hS (fun q _ h => hFc q h) hFc (fun r16 u16 t7 H1 locs ht7 hvm7 hw16 hB hz1 hk1 hS => ?_)
      obtain ⟨hP1, hK1, hD1⟩ := hB
      rw [ht7] at hP1
      try dsimp only at hw16 hP1 hD1
      obtain ⟨hP, hD⟩ := va_join (wr := []) (w1 := [(h5, .inr (5, [.ref m1, .int (nI pl), .int (nI n), .int (nI dr), .int (nI cr), .ref m2, .ref m3, .ref m4, .ref m5, .ref m6, .int (nI lm), .ref m7, .ref m8, .int (nI wm), .int (nI rd), .ref m9, .ref m10, .int (nI hd), .ref m11, .int (nI sc), .ref m12, .int (nI sdN), .int (dI kc), .int (nI dkM), .int (nI ksM), .ref m13, .ref m14, .ref m15, .ref m16, .ref m17, .long hz])), (m1, .inl (cI, 24, .inl lB)), (m2, .inl (cI, 7, .inl kB)), (m3, .inl (cI, 7, .inl hB)), (m4, .inl (cI, 7, .inl dB)), (m5, .inl (cI, 7, .inl bB)), (m6, .inl (cI, 7, .inl lfA)), (m7, .inl (cI, 7, .inl rwA)), (m8, .inl (cI, 7, .inl wlA)), (m9, .inl (cI, 49, .inl hvA)), (m10, .inl (cI, 7, .inl fdA)), (m11, .inl (cI, 128, .inl chA)), (m12, .inl (cI, 18, .inl sgA)), (m13, .inl (cI, 7, .inl kkB)), (m14, .inl (cI, 7, .inl hhB)), (m15, .inl (cI, 7, .inl ddB)), (m16, .inl (cI, 7, .inl bbB)), (m17, .inl (cI, 18, .inl sgB))]) hP hD [0, 1, 2, 3, 4, 5, 6, 7, 8, 9, 10, 11, 12, 13, 14, 15, 16, 17] [] rfl rfl (by decide) (by decide) hk1 hFc hP1 hD1
      generalize H1 = H at hP hS ⊢
      have hP := hP.sub (ws' := [(h5, .inr (5, [.ref m1, .int (nI pl), .int (nI n), .int (nI dr), .int (nI cr), .ref m2, .ref m3, .ref m4, .ref m5, .ref m6, .int (nI lm), .ref m7, .ref m8, .int (nI wm), .int (nI rd), .ref m9, .ref m10, .int (nI hd), .ref m11, .int (nI sc), .ref m12, .int (nI sdN), .int (dI kc), .int (nI dkM), .int (nI ksM), .ref m13, .ref m14, .ref m15, .ref m16, .ref m17, .long hz])), (m1, .inl (cI, 24, .inl lB)), (m2, .inl (cI, 7, .inl kB)), (m3, .inl (cI, 7, .inl hB)), (m4, .inl (cI, 7, .inl dB)), (m5, .inl (cI, 7, .inl bB)), (m6, .inl (cI, 7, .inl lfA)), (m7, .inl (cI, 7, .inl rwA)), (m8, .inl (cI, 7, .inl wlA)), (m9, .inl (cI, 49, .inl hvA)), (m10, .inl (cI, 7, .inl fdA)), (m11, .inl (cI, 128, .inl chA)), (m12, .inl (cI, 18, .inl sgA)), (m13, .inl (cI, 7, .inl kkB)), (m14, .inl (cI, 7, .inl hhB)), (m15, .inl (cI, 7, .inl ddB)), (m16, .inl (cI, 7, .inl bbB)), (m17, .inl (cI, 18, .inl sgB))]) [0, 1, 2, 3, 4, 5, 6, 7, 8, 9, 10, 11, 12, 13, 14, 15, 16, 17] rfl
      have hD := hD.sub (ws' := [(h5, .inr (5, [.ref m1, .int (nI pl), .int (nI n), .int (nI dr), .int (nI cr), .ref m2, .ref m3, .ref m4, .ref m5, .ref m6, .int (nI lm), .ref m7, .ref m8, .int (nI wm), .int (nI rd), .ref m9, .ref m10, .int (nI hd), .ref m11, .int (nI sc), .ref m12, .int (nI sdN), .int (dI kc), .int (nI dkM), .int (nI ksM), .ref m13, .ref m14, .ref m15, .ref m16, .ref m17, .long hz])), (m1, .inl (cI, 24, .inl lB)), (m2, .inl (cI, 7, .inl kB)), (m3, .inl (cI, 7, .inl hB)), (m4, .inl (cI, 7, .inl dB)), (m5, .inl (cI, 7, .inl bB)), (m6, .inl (cI, 7, .inl lfA)), (m7, .inl (cI, 7, .inl rwA)), (m8, .inl (cI, 7, .inl wlA)), (m9, .inl (cI, 49, .inl hvA)), (m10, .inl (cI, 7, .inl fdA)), (m11, .inl (cI, 128, .inl chA)), (m12, .inl (cI, 18, .inl sgA)), (m13, .inl (cI, 7, .inl kkB)), (m14, .inl (cI, 7, .inl hhB)), (m15, .inl (cI, 7, .inl ddB)), (m16, .inl (cI, 7, .inl bbB)), (m17, .inl (cI, 18, .inl sgB))]) [0, 1, 2, 3, 4, 5, 6, 7, 8, 9, 10, 11, 12, 13, 14, 15, 16, 17] (by decide) rfl
      obtain rfl : r16 = bI (mayS k h b p i) := hw16
      refine lv_if_eq (tgt := 28) hx hb dX5_mayBits_19 (by decide) (fun c19 => ?_) (fun c19 => ?_)
      ·
        have c19 : (mayS k h b p i) = false := bI_0 c19
        refine lv_iconst (v := nI 0) hx hb dX5_mayBits_28 (by decide) ?_
        refine lv_ior hx hb dX5_mayBits_29 ?_
        refine lv_topi (fun x29 e29 => ?_)
        obtain rfl : x29 = nI (a ||| 0) := e29.trans (or_nI _ _)
        refine lv_istore_n (lv' := [(2, .int (nI (a ||| 0))), (0, .ref h5), (1, .int (nI p)), (3, .int (nI i))]) hx hb dX5_mayBits_30 rfl hl (by decide) rfl (fun ls hl => ?_)
        refine lv_iinc (v := nI (i + 1)) (lv' := [(3, .int (nI (i + 1))), (2, .int (nI (a ||| 0))), (0, .ref h5), (1, .int (nI p))]) hx hb dX5_mayBits_31 hl (k := 3) rfl (show nI i + Int32.ofInt 1 = nI (i + 1) from nI_add _ _) (by decide) rfl (fun ls hl => ?_)
        refine lv_goto (tgt := 4) hx hb dX5_mayBits_34 (by decide) ?_
        exact ih4 (i + 1) (a ||| 0) (by omega) (by rw [ha, Nat.or_zero]; exact pb_no _ _ c19) (by omega) _ _ hP hD hS ls (lv_sub hl [2, 3, 1, 0] rfl)
      have c19 : (mayS k h b p i) = true := bI_n0 c19
      refine lv_iconst (v := nI 1) hx hb dX5_mayBits_22 (by decide) ?_
      refine lv_iload_n hx hb dX5_mayBits_23 rfl (lv_at hl 3 rfl) ?_
      refine lv_ishl hx hb dX5_mayBits_24 ?_
      refine lv_topi (fun x24 e24 => ?_)
      obtain rfl : x24 = nI (2 ^ i) := e24.trans (shl_1 (by omega))
      refine lv_goto (tgt := 29) hx hb dX5_mayBits_25 (by decide) ?_
      refine lv_ior hx hb dX5_mayBits_29 ?_
      refine lv_topi (fun x29 e29 => ?_)
      obtain rfl : x29 = nI (a ||| (2 ^ i)) := e29.trans (or_nI _ _)
      refine lv_istore_n (lv' := [(2, .int (nI (a ||| (2 ^ i)))), (0, .ref h5), (1, .int (nI p)), (3, .int (nI i))]) hx hb dX5_mayBits_30 rfl hl (by decide) rfl (fun ls hl => ?_)
      refine lv_iinc (v := nI (i + 1)) (lv' := [(3, .int (nI (i + 1))), (2, .int (nI (a ||| (2 ^ i)))), (0, .ref h5), (1, .int (nI p))]) hx hb dX5_mayBits_31 hl (k := 3) rfl (show nI i + Int32.ofInt 1 = nI (i + 1) from nI_add _ _) (by decide) rfl (fun ls hl => ?_)
      refine lv_goto (tgt := 4) hx hb dX5_mayBits_34 (by decide) ?_
      exact ih4 (i + 1) (a ||| (2 ^ i)) (by omega) (by rw [ha]; exact pb_or _ _ c19) (by omega) _ _ hP hD hS ls (lv_sub hl [2, 3, 1, 0] rfl)
  exact L4 _ 0 0 (by omega) (rfl) (Nat.lt_succ_self _) _ _ hP hD hS ls (lv_sub hl [2, 3, 1, 0] rfl)

set_option maxHeartbeats 4000000 in
set_option maxRecDepth 100000 in
theorem KX5_drawnBits (l : Launch) (dC : Nat → ClassId) (dI0 : Nat → Nat → Nat) (cI cZ : ClassId) (h5 : Nat) (m1 : Nat) (m2 : Nat) (m3 : Nat) (m4 : Nat) (m5 : Nat) (m6 : Nat) (m7 : Nat) (m8 : Nat) (m9 : Nat) (m10 : Nat) (m11 : Nat) (m12 : Nat) (m13 : Nat) (m14 : Nat) (m15 : Nat) (m16 : Nat) (m17 : Nat) (pl : Nat) (n : Nat) (dr : Nat) (cr : Nat) (lm : Nat) (wm : Nat) (rd : Nat) (hd : Nat) (sc : Nat) (sdN : Nat) (kc : Option Nat) (dkM : Nat) (ksM : Nat) (hz : Int64) (lB : Nat → Int32) (kB : Nat → Int32) (hB : Nat → Int32) (dB : Nat → Int32) (bB : Nat → Int32) (lfA : Nat → Int32) (rwA : Nat → Int32) (wlA : Nat → Int32) (hvA : Nat → Int32) (fdA : Nat → Int32) (chA : Nat → Int32) (sgA : Nat → Int32) (kkB : Nat → Int32) (hhB : Nat → Int32) (ddB : Nat → Int32) (bbB : Nat → Int32) (sgB : Nat → Int32) (sz : Nat) (k : Nat → Nat) (h : Nat → Nat) (b : Nat → Nat) (d : Nat → Option Nat) (hC : CoR n kB hB dB bB k h b d) : Met l yX5_drawnBits wsX5_drawnBits ({ frames := 0, cells := 0, slots := 0, locals := 0 } : Room) (va_Pc [.ref h5] (fun U => U.heap.size = sz ∧ va_P (dC, dI0) vwCl (WM cI cZ h5 m1 m2 m3 m4 m5 m6 m7 m8 m9 m10 m11 m12 m13 m14 m15 m16 m17 pl n dr cr lm wm rd hd sc sdN kc dkM ksM hz lB kB hB dB bB lfA rwA wlA hvA fdA chA sgA kkB hhB ddB bbB sgB) U.heap ∧ va_K (dC, dI0) vwCl [(cI, .int), (cZ, .boolean)] U ∧ va_D (fun _ => True) (WM cI cZ h5 m1 m2 m3 m4 m5 m6 m7 m8 m9 m10 m11 m12 m13 m14 m15 m16 m17 pl n dr cr lm wm rd hd sc sdN kc dkM ksM hz lB kB hB dB bB lfA rwA wlA hvA fdA chA sgA kkB hhB ddB bbB sgB))) (va_Qi (fun (r : Int32) (u : Unit) => r = nI (dbS n d)) (fun (u : Unit) (t : State) => va_P (dC, dI0) vwCl (WM cI cZ h5 m1 m2 m3 m4 m5 m6 m7 m8 m9 m10 m11 m12 m13 m14 m15 m16 m17 pl n dr cr lm wm rd hd sc sdN kc dkM ksM hz lB kB hB dB bB lfA rwA wlA hvA fdA chA sgA kkB hhB ddB bbB sgB) t.heap ∧ va_K (dC, dI0) vwCl [(cI, .int), (cZ, .boolean)] t ∧ va_D (va_A (WM cI cZ h5 m1 m2 m3 m4 m5 m6 m7 m8 m9 m10 m11 m12 m13 m14 m15 m16 m17 pl n dr cr lm wm rd hd sc sdN kc dkM ksM hz lB kB hB dB bB lfA rwA wlA hvA fdA chA sgA kkB hhB ddB bbB sgB) sz) (WM cI cZ h5 m1 m2 m3 m4 m5 m6 m7 m8 m9 m10 m11 m12 m13 m14 m15 m16 m17 pl n dr cr lm wm rd hd sc sdN kc dkM ksM hz lB kB hB dB bB lfA rwA wlA hvA fdA chA sgA kkB hhB ddB bbB sgB)) (va_A (WM cI cZ h5 m1 m2 m3 m4 m5 m6 m7 m8 m9 m10 m11 m12 m13 m14 m15 m16 m17 pl n dr cr lm wm rd hd sc sdN kc dkM ksM hz lB kB hB dB bB lfA rwA wlA hvA fdA chA sgA kkB hhB ddB bbB sgB) sz)) 0 0 (va_A (WM cI cZ h5 m1 m2 m3 m4 m5 m6 m7 m8 m9 m10 m11 m12 m13 m14 m15 m16 m17 pl n dr cr lm wm rd hd sc sdN kc dkM ksM hz lB kB hB dB bB lfA rwA wlA hvA fdA chA sgA kkB hhB ddB bbB sgB) sz) := by
  refine Met.ofW (cc := cX5_drawnBits) (maxL := 3) (ret := (some .int)) (by decide) rfl ?_
  intro prg env s m args below meth c s₁ B hml hv
  obtain ⟨rfl, hsz, hP, hK, hD0⟩ := hv
  have hx := B.exec
  have hb := B.bytes
  have hr := B.returns
  have hts := atoms_spec (ws := wsX5_drawnBits) B.pre
  have hown : s.vm.findClass RX5 = some m.cls := findClass_of_methodNamed B.named
  have hlocks := B.notSynchronized
  subst hsz
  have hD := hD0.self (sz := s.heap.size)
  generalize hAe : va_A (WM cI cZ h5 m1 m2 m3 m4 m5 m6 m7 m8 m9 m10 m11 m12 m13 m14 m15 m16 m17 pl n dr cr lm wm rd hd sc sdN kc dkM ksM hz lB kB hB dB bB lfA rwA wlA hvA fdA chA sgA kkB hhB ddB bbB sgB) s.heap.size = A at hD ⊢
  have hA : ∀ q : Nat, s.heap.size ≤ q → A q := fun q h => by rw [← hAe]; exact Or.inr h
  have hS : va_S A s.heap s.heap [] := va_S.rf
  have hP : va_P (dC, dI0) vwCl [(h5, .inr (5, [.ref m1, .int (nI pl), .int (nI n), .int (nI dr), .int (nI cr), .ref m2, .ref m3, .ref m4, .ref m5, .ref m6, .int (nI lm), .ref m7, .ref m8, .int (nI wm), .int (nI rd), .ref m9, .ref m10, .int (nI hd), .ref m11, .int (nI sc), .ref m12, .int (nI sdN), .int (dI kc), .int (nI dkM), .int (nI ksM), .ref m13, .ref m14, .ref m15, .ref m16, .ref m17, .long hz])), (m1, .inl (cI, 24, .inl lB)), (m2, .inl (cI, 7, .inl kB)), (m3, .inl (cI, 7, .inl hB)), (m4, .inl (cI, 7, .inl dB)), (m5, .inl (cI, 7, .inl bB)), (m6, .inl (cI, 7, .inl lfA)), (m7, .inl (cI, 7, .inl rwA)), (m8, .inl (cI, 7, .inl wlA)), (m9, .inl (cI, 49, .inl hvA)), (m10, .inl (cI, 7, .inl fdA)), (m11, .inl (cI, 128, .inl chA)), (m12, .inl (cI, 18, .inl sgA)), (m13, .inl (cI, 7, .inl kkB)), (m14, .inl (cI, 7, .inl hhB)), (m15, .inl (cI, 7, .inl ddB)), (m16, .inl (cI, 7, .inl bbB)), (m17, .inl (cI, 18, .inl sgB))] s.heap := hP
  have hD : va_D A [(h5, .inr (5, [.ref m1, .int (nI pl), .int (nI n), .int (nI dr), .int (nI cr), .ref m2, .ref m3, .ref m4, .ref m5, .ref m6, .int (nI lm), .ref m7, .ref m8, .int (nI wm), .int (nI rd), .ref m9, .ref m10, .int (nI hd), .ref m11, .int (nI sc), .ref m12, .int (nI sdN), .int (dI kc), .int (nI dkM), .int (nI ksM), .ref m13, .ref m14, .ref m15, .ref m16, .ref m17, .long hz])), (m1, .inl (cI, 24, .inl lB)), (m2, .inl (cI, 7, .inl kB)), (m3, .inl (cI, 7, .inl hB)), (m4, .inl (cI, 7, .inl dB)), (m5, .inl (cI, 7, .inl bB)), (m6, .inl (cI, 7, .inl lfA)), (m7, .inl (cI, 7, .inl rwA)), (m8, .inl (cI, 7, .inl wlA)), (m9, .inl (cI, 49, .inl hvA)), (m10, .inl (cI, 7, .inl fdA)), (m11, .inl (cI, 128, .inl chA)), (m12, .inl (cI, 18, .inl sgA)), (m13, .inl (cI, 7, .inl kkB)), (m14, .inl (cI, 7, .inl hhB)), (m15, .inl (cI, 7, .inl ddB)), (m16, .inl (cI, 7, .inl bbB)), (m17, .inl (cI, 18, .inl sgB))] := hD
  have hl := lv_entry ([.ref h5]) (n := 3) (Nat.le_of_ble_eq_true rfl)
  rw [lg_entry_eq]
  generalize (lg_sl ([.ref h5]) ++ List.replicate (3 - (lg_sl ([.ref h5])).length) Slot.unset).toArray = ls at hl ⊢
  have hl : lv_has ls 3 [(0, .ref h5)] := hl
  obtain ⟨H, hH⟩ : ∃ H : Heap, H = s.heap := ⟨_, rfl⟩
  rw [← hH] at hP ⊢
  have hS : va_S A s.heap H [] := by rw [hH]; exact hS
  refine w_gen (fun Q hQ => ?_)
  have hin_X5 : ∀ w ∈ wsX50, w ∈ wsX5_drawnBits := by decide +kernel
  have hf90 := hts (.fieldLink RX5 90 "HatNamesModel" "persons" "I") (by decide +kernel)
  have hf19 := hts (.fieldLink RX5 19 "HatNamesModel" "has" "[I") (by decide +kernel)
  obtain ⟨hn7, hkk, hhh, hbb, hdd, hdn, hdi⟩ := id hC
  have h2p := Nat.two_pow_pos n
  have h2e := ev_le hn7
  refine lv_iconst (v := nI 0) hx hb dX5_drawnBits_0 (by decide) ?_
  refine lv_istore_n (lv' := [(1, .int (nI 0)), (0, .ref h5)]) hx hb dX5_drawnBits_1 rfl hl (by decide) rfl (fun ls hl => ?_)
  refine lv_iconst (v := nI 0) hx hb dX5_drawnBits_2 (by decide) ?_
  refine lv_istore_n (lv' := [(2, .int (nI 0)), (1, .int (nI 0)), (0, .ref h5)]) hx hb dX5_drawnBits_3 rfl hl (by decide) rfl (fun ls hl => ?_)
  have L4 : ∀ (fu : Nat) (i : Nat) (a : Nat), i ≤ n → a = pb (fun q => tk d q i) n → n - i < fu → ∀ (H : Heap) (locs : List Loc), va_P (dC, dI0) vwCl [(h5, .inr (5, [.ref m1, .int (nI pl), .int (nI n), .int (nI dr), .int (nI cr), .ref m2, .ref m3, .ref m4, .ref m5, .ref m6, .int (nI lm), .ref m7, .ref m8, .int (nI wm), .int (nI rd), .ref m9, .ref m10, .int (nI hd), .ref m11, .int (nI sc), .ref m12, .int (nI sdN), .int (dI kc), .int (nI dkM), .int (nI ksM), .ref m13, .ref m14, .ref m15, .ref m16, .ref m17, .long hz])), (m1, .inl (cI, 24, .inl lB)), (m2, .inl (cI, 7, .inl kB)), (m3, .inl (cI, 7, .inl hB)), (m4, .inl (cI, 7, .inl dB)), (m5, .inl (cI, 7, .inl bB)), (m6, .inl (cI, 7, .inl lfA)), (m7, .inl (cI, 7, .inl rwA)), (m8, .inl (cI, 7, .inl wlA)), (m9, .inl (cI, 49, .inl hvA)), (m10, .inl (cI, 7, .inl fdA)), (m11, .inl (cI, 128, .inl chA)), (m12, .inl (cI, 18, .inl sgA)), (m13, .inl (cI, 7, .inl kkB)), (m14, .inl (cI, 7, .inl hhB)), (m15, .inl (cI, 7, .inl ddB)), (m16, .inl (cI, 7, .inl bbB)), (m17, .inl (cI, 18, .inl sgB))] H → va_D A [(h5, .inr (5, [.ref m1, .int (nI pl), .int (nI n), .int (nI dr), .int (nI cr), .ref m2, .ref m3, .ref m4, .ref m5, .ref m6, .int (nI lm), .ref m7, .ref m8, .int (nI wm), .int (nI rd), .ref m9, .ref m10, .int (nI hd), .ref m11, .int (nI sc), .ref m12, .int (nI sdN), .int (dI kc), .int (nI dkM), .int (nI ksM), .ref m13, .ref m14, .ref m15, .ref m16, .ref m17, .long hz])), (m1, .inl (cI, 24, .inl lB)), (m2, .inl (cI, 7, .inl kB)), (m3, .inl (cI, 7, .inl hB)), (m4, .inl (cI, 7, .inl dB)), (m5, .inl (cI, 7, .inl bB)), (m6, .inl (cI, 7, .inl lfA)), (m7, .inl (cI, 7, .inl rwA)), (m8, .inl (cI, 7, .inl wlA)), (m9, .inl (cI, 49, .inl hvA)), (m10, .inl (cI, 7, .inl fdA)), (m11, .inl (cI, 128, .inl chA)), (m12, .inl (cI, 18, .inl sgA)), (m13, .inl (cI, 7, .inl kkB)), (m14, .inl (cI, 7, .inl hhB)), (m15, .inl (cI, 7, .inl ddB)), (m16, .inl (cI, 7, .inl bbB)), (m17, .inl (cI, 18, .inl sgB))] → va_S A s.heap H locs → ∀ (ls : Array Slot), lv_has ls 3 [(0, .ref h5), (1, .int (nI a)), (2, .int (nI i))] → W prg l env ({ frames := 0, cells := 0, slots := 0, locals := 0 } : Room) s m ([.ref h5] : List Value).toArray below meth c H locs 0 0 Q (F0 m 4 ls []) := by
    intro fu
    induction fu with
    | zero => intro i a hi ha hmu; exact absurd hmu (Nat.not_lt_zero _)
    | succ fu ih4 =>
      intro i a hi ha hmu4 H locs hP hD hS ls hl
      refine lv_iload_n hx hb dX5_drawnBits_4 rfl (lv_at hl 2 rfl) ?_
      refine lv_aload_n hx hb dX5_drawnBits_5 rfl (lv_at hl 0 rfl) ?_
      refine va_get (D := (dC, dI0)) (ci := 5) (v := .int (nI n)) (C := RX5) (T := TX5) (N := 31) hx hb hts hin_X5 hown hK hP 0 rfl rfl 2 (by decide) hf90 (fun _ h9 => h9) rfl dX5_drawnBits_6 ?_
      refine lv_icmp_ge (tgt := 43) hx hb dX5_drawnBits_9 (by decide) (fun c9 => ?_) (fun c9 => ?_)
      ·
        have c9 : n ≤ i := (nI_leI (a := n) (b := i) (by omega) (by omega)).mp c9
        refine lv_iload_n hx hb dX5_drawnBits_43 rfl (lv_at hl 1 rfl) ?_
        subst hQ
        have hP9 : va_P (dC, dI0) vwCl [(h5, .inr (5, [.ref m1, .int (nI pl), .int (nI n), .int (nI dr), .int (nI cr), .ref m2, .ref m3, .ref m4, .ref m5, .ref m6, .int (nI lm), .ref m7, .ref m8, .int (nI wm), .int (nI rd), .ref m9, .ref m10, .int (nI hd), .ref m11, .int (nI sc), .ref m12, .int (nI sdN), .int (dI kc), .int (nI dkM), .int (nI ksM), .ref m13, .ref m14, .ref m15, .ref m16, .ref m17, .long hz])), (m1, .inl (cI, 24, .inl lB)), (m2, .inl (cI, 7, .inl kB)), (m3, .inl (cI, 7, .inl hB)), (m4, .inl (cI, 7, .inl dB)), (m5, .inl (cI, 7, .inl bB)), (m6, .inl (cI, 7, .inl lfA)), (m7, .inl (cI, 7, .inl rwA)), (m8, .inl (cI, 7, .inl wlA)), (m9, .inl (cI, 49, .inl hvA)), (m10, .inl (cI, 7, .inl fdA)), (m11, .inl (cI, 128, .inl chA)), (m12, .inl (cI, 18, .inl sgA)), (m13, .inl (cI, 7, .inl kkB)), (m14, .inl (cI, 7, .inl hhB)), (m15, .inl (cI, 7, .inl ddB)), (m16, .inl (cI, 7, .inl bbB)), (m17, .inl (cI, 18, .inl sgB))] H := hP
        have hD9 : va_D A [(h5, .inr (5, [.ref m1, .int (nI pl), .int (nI n), .int (nI dr), .int (nI cr), .ref m2, .ref m3, .ref m4, .ref m5, .ref m6, .int (nI lm), .ref m7, .ref m8, .int (nI wm), .int (nI rd), .ref m9, .ref m10, .int (nI hd), .ref m11, .int (nI sc), .ref m12, .int (nI sdN), .int (dI kc), .int (nI dkM), .int (nI ksM), .ref m13, .ref m14, .ref m15, .ref m16, .ref m17, .long hz])), (m1, .inl (cI, 24, .inl lB)), (m2, .inl (cI, 7, .inl kB)), (m3, .inl (cI, 7, .inl hB)), (m4, .inl (cI, 7, .inl dB)), (m5, .inl (cI, 7, .inl bB)), (m6, .inl (cI, 7, .inl lfA)), (m7, .inl (cI, 7, .inl rwA)), (m8, .inl (cI, 7, .inl wlA)), (m9, .inl (cI, 49, .inl hvA)), (m10, .inl (cI, 7, .inl fdA)), (m11, .inl (cI, 128, .inl chA)), (m12, .inl (cI, 18, .inl sgA)), (m13, .inl (cI, 7, .inl kkB)), (m14, .inl (cI, 7, .inl hhB)), (m15, .inl (cI, 7, .inl ddB)), (m16, .inl (cI, 7, .inl bbB)), (m17, .inl (cI, 18, .inl sgB))] := hD
        exact W.iret (v := nI a) hx hb hr (fun t9 ht9 hW9 => ⟨⟨nI a, (), rfl, by rw [ha, show i = n by omega]; rfl, by rw [ht9]; exact hP9, va_K.moved hW9.alike hK, hD9⟩, hS.F ht9⟩) hS.2.2 dX5_drawnBits_44
      have c9 : ¬ n ≤ i := fun z => c9 ((nI_leI (a := n) (b := i) (by omega) (by omega)).mpr z)
      refine lv_iload_n hx hb dX5_drawnBits_12 rfl (lv_at hl 1 rfl) ?_
      refine lv_aload_n hx hb dX5_drawnBits_13 rfl (lv_at hl 0 rfl) ?_
      refine va_get (D := (dC, dI0)) (ci := 5) (v := .ref m4) (C := RX5) (T := TX5) (N := 31) hx hb hts hin_X5 hown hK hP 0 rfl rfl 7 (by decide) hf19 (fun _ h9 => h9) rfl dX5_drawnBits_14 ?_
      refine lv_iload_n hx hb dX5_drawnBits_17 rfl (lv_at hl 2 rfl) ?_
      refine va_iald hx hb hK hP 4 0 rfl rfl (vp_in_nI (by omega) (by decide)) dX5_drawnBits_18 ?_
      refine lv_topi (fun x18 e18 => ?_)
      rw [nI_clamp (n := i) (by omega)] at e18
      obtain rfl : x18 = dI (d i) := e18.trans (hdd i (by omega))
      refine lv_iconst (v := (-1)) hx hb dX5_drawnBits_19 (by decide) ?_
      refine lv_icmp_ne (tgt := 27) hx hb dX5_drawnBits_20 (by decide) (fun c20 => ?_) (fun c20 => ?_)
      ·
        have c20 : ¬ (d i) = none := fun z => c20 (by rw [z]; rfl)
        refine lv_iconst (v := nI 1) hx hb dX5_drawnBits_27 (by decide) ?_
        refine lv_aload_n hx hb dX5_drawnBits_28 rfl (lv_at hl 0 rfl) ?_
        refine va_get (D := (dC, dI0)) (ci := 5) (v := .ref m4) (C := RX5) (T := TX5) (N := 31) hx hb hts hin_X5 hown hK hP 0 rfl rfl 7 (by decide) hf19 (fun _ h9 => h9) rfl dX5_drawnBits_29 ?_
        refine lv_iload_n hx hb dX5_drawnBits_32 rfl (lv_at hl 2 rfl) ?_
        refine va_iald hx hb hK hP 4 0 rfl rfl (vp_in_nI (by omega) (by decide)) dX5_drawnBits_33 ?_
        refine lv_topi (fun x33 e33 => ?_)
        rw [nI_clamp (n := i) (by omega)] at e33
        obtain rfl : x33 = dI (d i) := e33.trans (hdd i (by omega))
        obtain ⟨q, hq⟩ := Option.ne_none_iff_exists'.mp c20
        refine W.eq (g2 := F0 m 34 ls [.int (nI q), .int (nI 1), .int (nI a)]) (by rw [hq]; rfl) ?_
        have hqn := hdn i (by omega) q hq
        refine lv_ishl hx hb dX5_drawnBits_34 ?_
        refine lv_topi (fun x34 e34 => ?_)
        obtain rfl : x34 = nI (2 ^ q) := e34.trans (shl_1 (by omega))
        refine lv_ior hx hb dX5_drawnBits_35 ?_
        refine lv_topi (fun x35 e35 => ?_)
        obtain rfl : x35 = nI (a ||| (2 ^ q)) := e35.trans (or_nI _ _)
        refine lv_istore_n (lv' := [(1, .int (nI (a ||| (2 ^ q)))), (0, .ref h5), (2, .int (nI i))]) hx hb dX5_drawnBits_36 rfl hl (by decide) rfl (fun ls hl => ?_)
        refine lv_iinc (v := nI (i + 1)) (lv' := [(2, .int (nI (i + 1))), (1, .int (nI (a ||| (2 ^ q)))), (0, .ref h5)]) hx hb dX5_drawnBits_37 hl (k := 2) rfl (show nI i + Int32.ofInt 1 = nI (i + 1) from nI_add _ _) (by decide) rfl (fun ls hl => ?_)
        refine lv_goto (tgt := 4) hx hb dX5_drawnBits_40 (by decide) ?_
        exact ih4 (i + 1) (a ||| (2 ^ q)) (by omega) (by rw [ha]; exact db_yes hqn hq) (by omega) _ _ hP hD hS ls (lv_sub hl [2, 1, 0] rfl)
      have c20 : (d i) = none := dI_none c20 (fun q9 hq9 => Nat.lt_of_lt_of_le (hdn i (by omega) q9 hq9) hn7)
      refine lv_iconst (v := nI 0) hx hb dX5_drawnBits_23 (by decide) ?_
      refine lv_goto (tgt := 35) hx hb dX5_drawnBits_24 (by decide) ?_
      refine lv_ior hx hb dX5_drawnBits_35 ?_
      refine lv_topi (fun x35 e35 => ?_)
      obtain rfl : x35 = nI (a ||| 0) := e35.trans (or_nI _ _)
      refine lv_istore_n (lv' := [(1, .int (nI (a ||| 0))), (0, .ref h5), (2, .int (nI i))]) hx hb dX5_drawnBits_36 rfl hl (by decide) rfl (fun ls hl => ?_)
      refine lv_iinc (v := nI (i + 1)) (lv' := [(2, .int (nI (i + 1))), (1, .int (nI (a ||| 0))), (0, .ref h5)]) hx hb dX5_drawnBits_37 hl (k := 2) rfl (show nI i + Int32.ofInt 1 = nI (i + 1) from nI_add _ _) (by decide) rfl (fun ls hl => ?_)
      refine lv_goto (tgt := 4) hx hb dX5_drawnBits_40 (by decide) ?_
      exact ih4 (i + 1) (a ||| 0) (by omega) (by rw [ha, Nat.or_zero]; exact db_no c20) (by omega) _ _ hP hD hS ls (lv_sub hl [2, 1, 0] rfl)
  exact L4 _ 0 0 (by omega) (db_0 n d) (Nat.lt_succ_self _) _ _ hP hD hS ls (lv_sub hl [2, 1, 0] rfl)

set_option maxHeartbeats 4000000 in
set_option maxRecDepth 100000 in
theorem KX5_hat (l : Launch) (dC : Nat → ClassId) (dI0 : Nat → Nat → Nat) (cI cZ : ClassId) (h5 : Nat) (m1 : Nat) (m2 : Nat) (m3 : Nat) (m4 : Nat) (m5 : Nat) (m6 : Nat) (m7 : Nat) (m8 : Nat) (m9 : Nat) (m10 : Nat) (m11 : Nat) (m12 : Nat) (m13 : Nat) (m14 : Nat) (m15 : Nat) (m16 : Nat) (m17 : Nat) (pl : Nat) (n : Nat) (dr : Nat) (cr : Nat) (lm : Nat) (wm : Nat) (rd : Nat) (hd : Nat) (sc : Nat) (sdN : Nat) (kc : Option Nat) (dkM : Nat) (ksM : Nat) (hz : Int64) (lB : Nat → Int32) (kB : Nat → Int32) (hB : Nat → Int32) (dB : Nat → Int32) (bB : Nat → Int32) (lfA : Nat → Int32) (rwA : Nat → Int32) (wlA : Nat → Int32) (hvA : Nat → Int32) (fdA : Nat → Int32) (chA : Nat → Int32) (sgA : Nat → Int32) (kkB : Nat → Int32) (hhB : Nat → Int32) (ddB : Nat → Int32) (bbB : Nat → Int32) (sgB : Nat → Int32) (sz : Nat) (k : Nat → Nat) (h : Nat → Nat) (b : Nat → Nat) (d : Nat → Option Nat) (hC : CoR n kB hB dB bB k h b d) : Met l yX5_hat wsX5_hat ({ frames := 1, cells := 0, slots := 0, locals := 22 } : Room) (va_Pc [.ref h5] (fun U => U.heap.size = sz ∧ va_P (dC, dI0) vwCl (WM cI cZ h5 m1 m2 m3 m4 m5 m6 m7 m8 m9 m10 m11 m12 m13 m14 m15 m16 m17 pl n dr cr lm wm rd hd sc sdN kc dkM ksM hz lB kB hB dB bB lfA rwA wlA hvA fdA chA sgA kkB hhB ddB bbB sgB) U.heap ∧ va_K (dC, dI0) vwCl [(cI, .int), (cZ, .boolean)] U ∧ va_D (fun _ => True) (WM cI cZ h5 m1 m2 m3 m4 m5 m6 m7 m8 m9 m10 m11 m12 m13 m14 m15 m16 m17 pl n dr cr lm wm rd hd sc sdN kc dkM ksM hz lB kB hB dB bB lfA rwA wlA hvA fdA chA sgA kkB hhB ddB bbB sgB))) (va_Qi (fun (r : Int32) (u : Unit) => r = nI (hatS n d)) (fun (u : Unit) (t : State) => va_P (dC, dI0) vwCl (WM cI cZ h5 m1 m2 m3 m4 m5 m6 m7 m8 m9 m10 m11 m12 m13 m14 m15 m16 m17 pl n dr cr lm wm rd hd sc sdN kc dkM ksM hz lB kB hB dB bB lfA rwA wlA hvA fdA chA sgA kkB hhB ddB bbB sgB) t.heap ∧ va_K (dC, dI0) vwCl [(cI, .int), (cZ, .boolean)] t ∧ va_D (va_A (WM cI cZ h5 m1 m2 m3 m4 m5 m6 m7 m8 m9 m10 m11 m12 m13 m14 m15 m16 m17 pl n dr cr lm wm rd hd sc sdN kc dkM ksM hz lB kB hB dB bB lfA rwA wlA hvA fdA chA sgA kkB hhB ddB bbB sgB) sz) (WM cI cZ h5 m1 m2 m3 m4 m5 m6 m7 m8 m9 m10 m11 m12 m13 m14 m15 m16 m17 pl n dr cr lm wm rd hd sc sdN kc dkM ksM hz lB kB hB dB bB lfA rwA wlA hvA fdA chA sgA kkB hhB ddB bbB sgB)) (va_A (WM cI cZ h5 m1 m2 m3 m4 m5 m6 m7 m8 m9 m10 m11 m12 m13 m14 m15 m16 m17 pl n dr cr lm wm rd hd sc sdN kc dkM ksM hz lB kB hB dB bB lfA rwA wlA hvA fdA chA sgA kkB hhB ddB bbB sgB) sz)) 0 0 (va_A (WM cI cZ h5 m1 m2 m3 m4 m5 m6 m7 m8 m9 m10 m11 m12 m13 m14 m15 m16 m17 pl n dr cr lm wm rd hd sc sdN kc dkM ksM hz lB kB hB dB bB lfA rwA wlA hvA fdA chA sgA kkB hhB ddB bbB sgB) sz) := by
  refine Met.ofW (cc := cX5_hat) (maxL := 1) (ret := (some .int)) (by decide) rfl ?_
  intro prg env s m args below meth c s₁ B hml hv
  obtain ⟨rfl, hsz, hP, hK, hD0⟩ := hv
  have hx := B.exec
  have hb := B.bytes
  have hr := B.returns
  have hts := atoms_spec (ws := wsX5_hat) B.pre
  have hown : s.vm.findClass RX5 = some m.cls := findClass_of_methodNamed B.named
  have hlocks := B.notSynchronized
  subst hsz
  have hD := hD0.self (sz := s.heap.size)
  generalize hAe : va_A (WM cI cZ h5 m1 m2 m3 m4 m5 m6 m7 m8 m9 m10 m11 m12 m13 m14 m15 m16 m17 pl n dr cr lm wm rd hd sc sdN kc dkM ksM hz lB kB hB dB bB lfA rwA wlA hvA fdA chA sgA kkB hhB ddB bbB sgB) s.heap.size = A at hD ⊢
  have hA : ∀ q : Nat, s.heap.size ≤ q → A q := fun q h => by rw [← hAe]; exact Or.inr h
  have hS : va_S A s.heap s.heap [] := va_S.rf
  have hP : va_P (dC, dI0) vwCl [(h5, .inr (5, [.ref m1, .int (nI pl), .int (nI n), .int (nI dr), .int (nI cr), .ref m2, .ref m3, .ref m4, .ref m5, .ref m6, .int (nI lm), .ref m7, .ref m8, .int (nI wm), .int (nI rd), .ref m9, .ref m10, .int (nI hd), .ref m11, .int (nI sc), .ref m12, .int (nI sdN), .int (dI kc), .int (nI dkM), .int (nI ksM), .ref m13, .ref m14, .ref m15, .ref m16, .ref m17, .long hz])), (m1, .inl (cI, 24, .inl lB)), (m2, .inl (cI, 7, .inl kB)), (m3, .inl (cI, 7, .inl hB)), (m4, .inl (cI, 7, .inl dB)), (m5, .inl (cI, 7, .inl bB)), (m6, .inl (cI, 7, .inl lfA)), (m7, .inl (cI, 7, .inl rwA)), (m8, .inl (cI, 7, .inl wlA)), (m9, .inl (cI, 49, .inl hvA)), (m10, .inl (cI, 7, .inl fdA)), (m11, .inl (cI, 128, .inl chA)), (m12, .inl (cI, 18, .inl sgA)), (m13, .inl (cI, 7, .inl kkB)), (m14, .inl (cI, 7, .inl hhB)), (m15, .inl (cI, 7, .inl ddB)), (m16, .inl (cI, 7, .inl bbB)), (m17, .inl (cI, 18, .inl sgB))] s.heap := hP
  have hD : va_D A [(h5, .inr (5, [.ref m1, .int (nI pl), .int (nI n), .int (nI dr), .int (nI cr), .ref m2, .ref m3, .ref m4, .ref m5, .ref m6, .int (nI lm), .ref m7, .ref m8, .int (nI wm), .int (nI rd), .ref m9, .ref m10, .int (nI hd), .ref m11, .int (nI sc), .ref m12, .int (nI sdN), .int (dI kc), .int (nI dkM), .int (nI ksM), .ref m13, .ref m14, .ref m15, .ref m16, .ref m17, .long hz])), (m1, .inl (cI, 24, .inl lB)), (m2, .inl (cI, 7, .inl kB)), (m3, .inl (cI, 7, .inl hB)), (m4, .inl (cI, 7, .inl dB)), (m5, .inl (cI, 7, .inl bB)), (m6, .inl (cI, 7, .inl lfA)), (m7, .inl (cI, 7, .inl rwA)), (m8, .inl (cI, 7, .inl wlA)), (m9, .inl (cI, 49, .inl hvA)), (m10, .inl (cI, 7, .inl fdA)), (m11, .inl (cI, 128, .inl chA)), (m12, .inl (cI, 18, .inl sgA)), (m13, .inl (cI, 7, .inl kkB)), (m14, .inl (cI, 7, .inl hhB)), (m15, .inl (cI, 7, .inl ddB)), (m16, .inl (cI, 7, .inl bbB)), (m17, .inl (cI, 18, .inl sgB))] := hD
  have hl := lv_entry ([.ref h5]) (n := 1) (Nat.le_of_ble_eq_true rfl)
  rw [lg_entry_eq]
  generalize (lg_sl ([.ref h5]) ++ List.replicate (1 - (lg_sl ([.ref h5])).length) Slot.unset).toArray = ls at hl ⊢
  have hl : lv_has ls 1 [(0, .ref h5)] := hl
  obtain ⟨H, hH⟩ : ∃ H : Heap, H = s.heap := ⟨_, rfl⟩
  rw [← hH] at hP ⊢
  have hS : va_S A s.heap H [] := by rw [hH]; exact hS
  refine w_gen (fun Q hQ => ?_)
  have hin_X5 : ∀ w ∈ wsX50, w ∈ wsX5_hat := by decide +kernel
  have hf90 := hts (.fieldLink RX5 90 "HatNamesModel" "persons" "I") (by decide +kernel)
  obtain ⟨hn7, hkk, hhh, hbb, hdd, hdn, hdi⟩ := id hC
  have h2p := Nat.two_pow_pos n
  have h2e := ev_le hn7
  refine lv_iconst (v := nI 1) hx hb dX5_hat_0 (by decide) ?_
  refine lv_aload_n hx hb dX5_hat_1 rfl (lv_at hl 0 rfl) ?_
  refine va_get (D := (dC, dI0)) (ci := 5) (v := .int (nI n)) (C := RX5) (T := TX5) (N := 31) hx hb hts hin_X5 hown hK hP 0 rfl rfl 2 (by decide) hf90 (fun _ h9 => h9) rfl dX5_hat_2 ?_
  refine lv_ishl hx hb dX5_hat_5 ?_
  refine lv_topi (fun x5 e5 => ?_)
  obtain rfl : x5 = nI (2 ^ n) := e5.trans (shl_1 (by omega))
  refine lv_iconst (v := nI 1) hx hb dX5_hat_6 (by decide) ?_
  refine lv_isub hx hb dX5_hat_7 ?_
  refine lv_topi (fun x7 e7 => ?_)
  obtain rfl : x7 = nI (2 ^ n - 1) := e7.trans (pk_sub (Nat.two_pow_pos n))
  refine lv_aload_n hx hb dX5_hat_8 rfl (lv_at hl 0 rfl) ?_
  have hPc := hP.sub (ws' := [(h5, .inr (5, [.ref m1, .int (nI pl), .int (nI n), .int (nI dr), .int (nI cr), .ref m2, .ref m3, .ref m4, .ref m5, .ref m6, .int (nI lm), .ref m7, .ref m8, .int (nI wm), .int (nI rd), .ref m9, .ref m10, .int (nI hd), .ref m11, .int (nI sc), .ref m12, .int (nI sdN), .int (dI kc), .int (nI dkM), .int (nI ksM), .ref m13, .ref m14, .ref m15, .ref m16, .ref m17, .long hz])), (m1, .inl (cI, 24, .inl lB)), (m2, .inl (cI, 7, .inl kB)), (m3, .inl (cI, 7, .inl hB)), (m4, .inl (cI, 7, .inl dB)), (m5, .inl (cI, 7, .inl bB)), (m6, .inl (cI, 7, .inl lfA)), (m7, .inl (cI, 7, .inl rwA)), (m8, .inl (cI, 7, .inl wlA)), (m9, .inl (cI, 49, .inl hvA)), (m10, .inl (cI, 7, .inl fdA)), (m11, .inl (cI, 128, .inl chA)), (m12, .inl (cI, 18, .inl sgA)), (m13, .inl (cI, 7, .inl kkB)), (m14, .inl (cI, 7, .inl hhB)), (m15, .inl (cI, 7, .inl ddB)), (m16, .inl (cI, 7, .inl bbB)), (m17, .inl (cI, 18, .inl sgB))]) [0, 1, 2, 3, 4, 5, 6, 7, 8, 9, 10, 11, 12, 13, 14, 15, 16, 17] rfl
  have hDc := hD.sub (ws' := [(h5, .inr (5, [.ref m1, .int (nI pl), .int (nI n), .int (nI dr), .int (nI cr), .ref m2, .ref m3, .ref m4, .ref m5, .ref m6, .int (nI lm), .ref m7, .ref m8, .int (nI wm), .int (nI rd), .ref m9, .ref m10, .int (nI hd), .ref m11, .int (nI sc), .ref m12, .int (nI sdN), .int (dI kc), .int (nI dkM), .int (nI ksM), .ref m13, .ref m14, .ref m15, .ref m16, .ref m17, .long hz])), (m1, .inl (cI, 24, .inl lB)), (m2, .inl (cI, 7, .inl kB)), (m3, .inl (cI, 7, .inl hB)), (m4, .inl (cI, 7, .inl dB)), (m5, .inl (cI, 7, .inl bB)), (m6, .inl (cI, 7, .inl lfA)), (m7, .inl (cI, 7, .inl rwA)), (m8, .inl (cI, 7, .inl wlA)), (m9, .inl (cI, 49, .inl hvA)), (m10, .inl (cI, 7, .inl fdA)), (m11, .inl (cI, 128, .inl chA)), (m12, .inl (cI, 18, .inl sgA)), (m13, .inl (cI, 7, .inl kkB)), (m14, .inl (cI, 7, .inl hhB)), (m15, .inl (cI, 7, .inl ddB)), (m16, .inl (cI, 7, .inl bbB)), (m17, .inl (cI, 18, .inl sgB))]) [0, 1, 2, 3, 4, 5, 6, 7, 8, 9, 10, 11, 12, 13, 14, 15, 16, 17] (by decide) rfl
  have hFc := va_free (wc := [(h5, .inr (5, [.ref m1, .int (nI pl), .int (nI n), .int (nI dr), .int (nI cr), .ref m2, .ref m3, .ref m4, .ref m5, .ref m6, .int (nI lm), .ref m7, .ref m8, .int (nI wm), .int (nI rd), .ref m9, .ref m10, .int (nI hd), .ref m11, .int (nI sc), .ref m12, .int (nI sdN), .int (dI kc), .int (nI dkM), .int (nI ksM), .ref m13, .ref m14, .ref m15, .ref m16, .ref m17, .long hz])), (m1, .inl (cI, 24, .inl lB)), (m2, .inl (cI, 7, .inl kB)), (m3, .inl (cI, 7, .inl hB)), (m4, .inl (cI, 7, .inl dB)), (m5, .inl (cI, 7, .inl bB)), (m6, .inl (cI, 7, .inl lfA)), (m7, .inl (cI, 7, .inl rwA)), (m8, .inl (cI, 7, .inl wlA)), (m9, .inl (cI, 49, .inl hvA)), (m10, .inl (cI, 7, .inl fdA)), (m11, .inl (cI, 128, .inl chA)), (m12, .inl (cI, 18, .inl sgA)), (m13, .inl (cI, 7, .inl kkB)), (m14, .inl (cI, 7, .inl hhB)), (m15, .inl (cI, 7, .inl ddB)), (m16, .inl (cI, 7, .inl bbB)), (m17, .inl (cI, 18, .inl sgB))]) hD hS hA [0, 1, 2, 3, 4, 5, 6, 7, 8, 9, 10, 11, 12, 13, 14, 15, 16, 17] rfl
  refine va_calli (va_runV (As := []) (rest := [.int (nI (2 ^ n - 1))]) ⟨hx, hb, hml, hown, hts⟩ (KX5_drawnBits l dC dI0 cI cZ h5 m1 m2 m3 m4 m5 m6 m7 m8 m9 m10 m11 m12 m13 m14 m15 m16 m17 pl n dr cr lm wm rd hd sc sdN kc dkM ksM hz lB kB hB dB bB lfA rwA wlA hvA fdA chA sgA kkB hhB ddB bbB sgB H.size k h b d (by first | assumption | omega)) (cwV 0 hts gX5_hat_X5_drawnBits rfl rfl rfl (by decide +kernel) ⟨Nat.le_of_ble_eq_true rfl, Nat.le_of_ble_eq_true rfl⟩) ⟨fun a U g mk q => by obtain ⟨q0, q1, qP, qK, qD⟩ := q; exact ⟨q0, q1, qP, va_K.moved (u := U) (U := U.calling g mk a) (Vm.Alike.refl U.vm) qK, qD⟩, va_recv hK hPc (ci := 5) (q0 := 0) rfl rfl, fun U hU hW => ⟨rfl, by rw [hU], by rw [hU]; exact hPc, va_K.moved hW.alike hK, hDc.weaken (fun _ _ _ _ => trivial)⟩⟩ rfl rfl hl.1 rfl (lv_room (Nat.le_of_ble_eq_true rfl)) dX5_hat_9 ⟨Nat.le_of_ble_eq_true rfl, Nat.le_of_ble_eq_true rfl⟩) hS (fun q _ h => hFc q h) hFc (fun r9 u9 t7 H1 locs ht7 hvm7 hw9 hB hz1 hk1 hS => ?_)
  obtain ⟨hP1, hK1, hD1⟩ := hB
  rw [ht7] at hP1
  try dsimp only at hw9 hP1 hD1
  obtain ⟨hP, hD⟩ := va_join (wr := []) (w1 := [(h5, .inr (5, [.ref m1, .int (nI pl), .int (nI n), .int (nI dr), .int (nI cr), .ref m2, .ref m3, .ref m4, .ref m5, .ref m6, .int (nI lm), .ref m7, .ref m8, .int (nI wm), .int (nI rd), .ref m9, .ref m10, .int (nI hd), .ref m11, .int (nI sc), .ref m12, .int (nI sdN), .int (dI kc), .int (nI dkM), .int (nI ksM), .ref m13, .ref m14, .ref m15, .ref m16, .ref m17, .long hz])), (m1, .inl (cI, 24, .inl lB)), (m2, .inl (cI, 7, .inl kB)), (m3, .inl (cI, 7, .inl hB)), (m4, .inl (cI, 7, .inl dB)), (m5, .inl (cI, 7, .inl bB)), (m6, .inl (cI, 7, .inl lfA)), (m7, .inl (cI, 7, .inl rwA)), (m8, .inl (cI, 7, .inl wlA)), (m9, .inl (cI, 49, .inl hvA)), (m10, .inl (cI, 7, .inl fdA)), (m11, .inl (cI, 128, .inl chA)), (m12, .inl (cI, 18, .inl sgA)), (m13, .inl (cI, 7, .inl kkB)), (m14, .inl (cI, 7, .inl hhB)), (m15, .inl (cI, 7, .inl ddB)), (m16, .inl (cI, 7, .inl bbB)), (m17, .inl (cI, 18, .inl sgB))]) hP hD [0, 1, 2, 3, 4, 5, 6, 7, 8, 9, 10, 11, 12, 13, 14, 15, 16, 17] [] rfl rfl (by decide) (by decide) hk1 hFc hP1 hD1
  generalize H1 = H at hP hS ⊢
  have hP := hP.sub (ws' := [(h5, .inr (5, [.ref m1, .int (nI pl), .int (nI n), .int (nI dr), .int (nI cr), .ref m2, .ref m3, .ref m4, .ref m5, .ref m6, .int (nI lm), .ref m7, .ref m8, .int (nI wm), .int (nI rd), .ref m9, .ref m10, .int (nI hd), .ref m11, .int (nI sc), .ref m12, .int (nI sdN), .int (dI kc), .int (nI dkM), .int (nI ksM), .ref m13, .ref m14, .ref m15, .ref m16, .ref m17, .long hz])), (m1, .inl (cI, 24, .inl lB)), (m2, .inl (cI, 7, .inl kB)), (m3, .inl (cI, 7, .inl hB)), (m4, .inl (cI, 7, .inl dB)), (m5, .inl (cI, 7, .inl bB)), (m6, .inl (cI, 7, .inl lfA)), (m7, .inl (cI, 7, .inl rwA)), (m8, .inl (cI, 7, .inl wlA)), (m9, .inl (cI, 49, .inl hvA)), (m10, .inl (cI, 7, .inl fdA)), (m11, .inl (cI, 128, .inl chA)), (m12, .inl (cI, 18, .inl sgA)), (m13, .inl (cI, 7, .inl kkB)), (m14, .inl (cI, 7, .inl hhB)), (m15, .inl (cI, 7, .inl ddB)), (m16, .inl (cI, 7, .inl bbB)), (m17, .inl (cI, 18, .inl sgB))]) [0, 1, 2, 3, 4, 5, 6, 7, 8, 9, 10, 11, 12, 13, 14, 15, 16, 17] rfl
  have hD := hD.sub (ws' := [(h5, .inr (5, [.ref m1, .int (nI pl), .int (nI n), .int (nI dr), .int (nI cr), .ref m2, .ref m3, .ref m4, .ref m5, .ref m6, .int (nI lm), .ref m7, .ref m8, .int (nI wm), .int (nI rd), .ref m9, .ref m10, .int (nI hd), .ref m11, .int (nI sc), .ref m12, .int (nI sdN), .int (dI kc), .int (nI dkM), .int (nI ksM), .ref m13, .ref m14, .ref m15, .ref m16, .ref m17, .long hz])), (m1, .inl (cI, 24, .inl lB)), (m2, .inl (cI, 7, .inl kB)), (m3, .inl (cI, 7, .inl hB)), (m4, .inl (cI, 7, .inl dB)), (m5, .inl (cI, 7, .inl bB)), (m6, .inl (cI, 7, .inl lfA)), (m7, .inl (cI, 7, .inl rwA)), (m8, .inl (cI, 7, .inl wlA)), (m9, .inl (cI, 49, .inl hvA)), (m10, .inl (cI, 7, .inl fdA)), (m11, .inl (cI, 128, .inl chA)), (m12, .inl (cI, 18, .inl sgA)), (m13, .inl (cI, 7, .inl kkB)), (m14, .inl (cI, 7, .inl hhB)), (m15, .inl (cI, 7, .inl ddB)), (m16, .inl (cI, 7, .inl bbB)), (m17, .inl (cI, 18, .inl sgB))]) [0, 1, 2, 3, 4, 5, 6, 7, 8, 9, 10, 11, 12, 13, 14, 15, 16, 17] (by decide) rfl
  obtain rfl : r9 = nI (dbS n d) := hw9
  refine lv_iconst (v := (-1)) hx hb dX5_hat_12 (by decide) ?_
  refine lv_ixor hx hb dX5_hat_13 ?_
  refine lv_topi (fun x13 e13 => ?_)
  refine lv_iand hx hb dX5_hat_14 ?_
  refine lv_topi (fun x14 e14 => ?_)
  obtain rfl : x14 = nI (andn (2 ^ n - 1) (dbS n d)) := e14.trans (by rw [e13]; exact andn_nI _ _)
  subst hQ
  have hP9 : va_P (dC, dI0) vwCl [(h5, .inr (5, [.ref m1, .int (nI pl), .int (nI n), .int (nI dr), .int (nI cr), .ref m2, .ref m3, .ref m4, .ref m5, .ref m6, .int (nI lm), .ref m7, .ref m8, .int (nI wm), .int (nI rd), .ref m9, .ref m10, .int (nI hd), .ref m11, .int (nI sc), .ref m12, .int (nI sdN), .int (dI kc), .int (nI dkM), .int (nI ksM), .ref m13, .ref m14, .ref m15, .ref m16, .ref m17, .long hz])), (m1, .inl (cI, 24, .inl lB)), (m2, .inl (cI, 7, .inl kB)), (m3, .inl (cI, 7, .inl hB)), (m4, .inl (cI, 7, .inl dB)), (m5, .inl (cI, 7, .inl bB)), (m6, .inl (cI, 7, .inl lfA)), (m7, .inl (cI, 7, .inl rwA)), (m8, .inl (cI, 7, .inl wlA)), (m9, .inl (cI, 49, .inl hvA)), (m10, .inl (cI, 7, .inl fdA)), (m11, .inl (cI, 128, .inl chA)), (m12, .inl (cI, 18, .inl sgA)), (m13, .inl (cI, 7, .inl kkB)), (m14, .inl (cI, 7, .inl hhB)), (m15, .inl (cI, 7, .inl ddB)), (m16, .inl (cI, 7, .inl bbB)), (m17, .inl (cI, 18, .inl sgB))] H := hP
  have hD9 : va_D A [(h5, .inr (5, [.ref m1, .int (nI pl), .int (nI n), .int (nI dr), .int (nI cr), .ref m2, .ref m3, .ref m4, .ref m5, .ref m6, .int (nI lm), .ref m7, .ref m8, .int (nI wm), .int (nI rd), .ref m9, .ref m10, .int (nI hd), .ref m11, .int (nI sc), .ref m12, .int (nI sdN), .int (dI kc), .int (nI dkM), .int (nI ksM), .ref m13, .ref m14, .ref m15, .ref m16, .ref m17, .long hz])), (m1, .inl (cI, 24, .inl lB)), (m2, .inl (cI, 7, .inl kB)), (m3, .inl (cI, 7, .inl hB)), (m4, .inl (cI, 7, .inl dB)), (m5, .inl (cI, 7, .inl bB)), (m6, .inl (cI, 7, .inl lfA)), (m7, .inl (cI, 7, .inl rwA)), (m8, .inl (cI, 7, .inl wlA)), (m9, .inl (cI, 49, .inl hvA)), (m10, .inl (cI, 7, .inl fdA)), (m11, .inl (cI, 128, .inl chA)), (m12, .inl (cI, 18, .inl sgA)), (m13, .inl (cI, 7, .inl kkB)), (m14, .inl (cI, 7, .inl hhB)), (m15, .inl (cI, 7, .inl ddB)), (m16, .inl (cI, 7, .inl bbB)), (m17, .inl (cI, 18, .inl sgB))] := hD
  exact W.iret (v := nI (andn (2 ^ n - 1) (dbS n d))) hx hb hr (fun t9 ht9 hW9 => ⟨⟨nI (andn (2 ^ n - 1) (dbS n d)), (), rfl, by rw [hat_db], by rw [ht9]; exact hP9, va_K.moved hW9.alike hK, hD9⟩, hS.F ht9⟩) hS.2.2 dX5_hat_15
