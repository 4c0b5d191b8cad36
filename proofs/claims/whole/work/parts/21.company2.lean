abbrev WA1 (cI cZ : ClassId) (a0 : Nat) (N : Nat) (f : Nat → Int32) : va_W := [(a0, .inl (cI, N, .inl f))]
set_option maxHeartbeats 4000000 in
set_option maxRecDepth 100000 in
theorem KJ7_fill_53178 (l : Launch) (dC : Nat → ClassId) (dI0 : Nat → Nat → Nat) (cI cZ : ClassId) (a0 : Nat) (N : Nat) (f : Nat → Int32) (sz : Nat) (v : Int32) (hN : N < 2 ^ 31) : Met l yJ7_fill_53178 wsJ7_fill_53178 ({ frames := 0, cells := 0, slots := 0, locals := 0 } : Room) (va_Pc [.ref a0, .int v] (fun U => U.heap.size = sz ∧ va_P (dC, dI0) vwCl (WA1 cI cZ a0 N f) U.heap ∧ va_K (dC, dI0) vwCl [(cI, .int), (cZ, .boolean)] U ∧ va_D (fun _ => True) (WA1 cI cZ a0 N f))) (va_Qv (fun (u : Nat → Int32) => u = fillF v f N) (fun (u : Nat → Int32) (t : State) => va_P (dC, dI0) vwCl (WA1 cI cZ a0 N u) t.heap ∧ va_K (dC, dI0) vwCl [(cI, .int), (cZ, .boolean)] t ∧ va_D (va_A (WA1 cI cZ a0 N f) sz) (WA1 cI cZ a0 N u)) (va_A (WA1 cI cZ a0 N f) sz)) 0 0 (va_A (WA1 cI cZ a0 N f) sz) := by
  refine Met.ofW (cc := cJ7_fill_53178) (maxL := 4) (ret := none) (by decide) rfl ?_
  intro prg env s m args below meth c s₁ B hml hv
  obtain ⟨rfl, hsz, hP, hK, hD0⟩ := hv
  have hx := B.exec
  have hb := B.bytes
  have hr := B.returns
  have hts := atoms_spec (ws := wsJ7_fill_53178) B.pre
  have hown : s.vm.findClass RJ7 = some m.cls := findClass_of_methodNamed B.named
  have hlocks := B.notSynchronized
  subst hsz
  have hD := hD0.self (sz := s.heap.size)
  generalize hAe : va_A (WA1 cI cZ a0 N f) s.heap.size = A at hD ⊢
  have hA : ∀ q : Nat, s.heap.size ≤ q → A q := fun q h => by rw [← hAe]; exact Or.inr h
  have hS : va_S A s.heap s.heap [] := va_S.rf
  have hP : va_P (dC, dI0) vwCl [(a0, .inl (cI, N, .inl f))] s.heap := hP
  have hD : va_D A [(a0, .inl (cI, N, .inl f))] := hD
  have hl := lv_entry ([.ref a0, .int v]) (n := 4) (Nat.le_of_ble_eq_true rfl)
  rw [lg_entry_eq]
  generalize (lg_sl ([.ref a0, .int v]) ++ List.replicate (4 - (lg_sl ([.ref a0, .int v])).length) Slot.unset).toArray = ls at hl ⊢
  have hl : lv_has ls 4 [(0, .ref a0), (1, .int v)] := hl
  obtain ⟨H, hH⟩ : ∃ H : Heap, H = s.heap := ⟨_, rfl⟩
  rw [← hH] at hP ⊢
  have hS : va_S A s.heap H [] := by rw [hH]; exact hS
  refine w_gen (fun Q hQ => ?_)
  refine lv_iconst (v := nI 0) hx hb dJ7_fill_53178_0 (by decide) ?_
  refine lv_istore_n (lv' := [(2, .int (nI 0)), (0, .ref a0), (1, .int v)]) hx hb dJ7_fill_53178_1 rfl hl (by decide) rfl (fun ls hl => ?_)
  refine lv_aload_n hx hb dJ7_fill_53178_2 rfl (lv_at hl 1 rfl) ?_
  refine va_alen hx hb hK hP 0 0 rfl rfl (v := nI N) rfl dJ7_fill_53178_3 ?_
  refine lv_istore_n (lv' := [(3, .int (nI N)), (2, .int (nI 0)), (0, .ref a0), (1, .int v)]) hx hb dJ7_fill_53178_4 rfl hl (by decide) rfl (fun ls hl => ?_)
  have L5 : ∀ (fu : Nat) (i : Nat) (g : Nat → Int32), i ≤ N → g = fillF v f i → N - i < fu → ∀ (H : Heap) (locs : List Loc), va_P (dC, dI0) vwCl [(a0, .inl (cI, N, .inl g))] H → va_D A [(a0, .inl (cI, N, .inl g))] → va_S A s.heap H locs → ∀ (ls : Array Slot), lv_has ls 4 [(0, .ref a0), (1, .int v), (2, .int (nI i)), (3, .int (nI N))] → W prg l env ({ frames := 0, cells := 0, slots := 0, locals := 0 } : Room) s m ([.ref a0, .int v] : List Value).toArray below meth c H locs 0 0 Q (F0 m 5 ls []) := by
    intro fu
    induction fu with
    | zero => intro i g hi hg hmu; exact absurd hmu (Nat.not_lt_zero _)
    | succ fu ih5 =>
      intro i g hi hg hmu5 H locs hP hD hS ls hl
      refine lv_iload_n hx hb dJ7_fill_53178_5 rfl (lv_at hl 2 rfl) ?_
      refine lv_iload_n hx hb dJ7_fill_53178_6 rfl (lv_at hl 3 rfl) ?_
      refine lv_icmp_ge (tgt := 20) hx hb dJ7_fill_53178_7 (by decide) (fun c7 => ?_) (fun c7 => ?_)
      ·
        have c7 : N ≤ i := (nI_leI (a := N) (b := i) (by omega) (by omega)).mp c7
        subst hQ
        have hP9 : va_P (dC, dI0) vwCl [(a0, .inl (cI, N, .inl g))] H := hP
        have hD9 : va_D A [(a0, .inl (cI, N, .inl g))] := hD
        exact W.vret hx hb hr (fun t9 ht9 hW9 => ⟨⟨g, rfl, by rw [hg, show i = N by omega], by rw [ht9]; exact hP9, va_K.moved hW9.alike hK, hD9⟩, hS.F ht9⟩) hS.2.2 dJ7_fill_53178_20
      have c7 : ¬ N ≤ i := fun z => c7 ((nI_leI (a := N) (b := i) (by omega) (by omega)).mpr z)
      refine lv_aload_n hx hb dJ7_fill_53178_10 rfl (lv_at hl 0 rfl) ?_
      refine lv_iload_n hx hb dJ7_fill_53178_11 rfl (lv_at hl 2 rfl) ?_
      refine lv_iload_n hx hb dJ7_fill_53178_12 rfl (lv_at hl 1 rfl) ?_
      refine va_iast hx hb hK hP hD hS 0 0 rfl rfl (vp_in_nI (by omega) (by omega)) dJ7_fill_53178_13 (fun H locs hP hD hS => ?_)
      rw [nI_clamp (n := i) (by omega)] at hP hD
      have hP : va_P (dC, dI0) vwCl [(a0, .inl (cI, N, .inl (upd g i v)))] H := hP
      have hD : va_D A [(a0, .inl (cI, N, .inl (upd g i v)))] := hD
      refine lv_iinc (v := nI (i + 1)) (lv' := [(2, .int (nI (i + 1))), (0, .ref a0), (1, .int v), (3, .int (nI N))]) hx hb dJ7_fill_53178_14 hl (k := 2) rfl (show nI i + Int32.ofInt 1 = nI (i + 1) from nI_add _ _) (by decide) rfl (fun ls hl => ?_)
      refine lv_goto (tgt := 5) hx hb dJ7_fill_53178_17 (by decide) ?_
      exact ih5 (i + 1) (upd g i v) (by omega) (by rw [hg]; exact fillF_s v f i) (by omega) _ _ hP hD hS ls (lv_sub hl [1, 2, 0, 3] rfl)
  exact L5 _ 0 f (by omega) (fillF_0 v f).symm (Nat.lt_succ_self _) _ _ hP hD hS ls (lv_sub hl [2, 3, 1, 0] rfl)

set_option maxHeartbeats 4000000 in
set_option maxRecDepth 100000 in
theorem KJ6_bitCount_0f7a4 (l : Launch) (dC : Nat → ClassId) (dI0 : Nat → Nat → Nat) (cI cZ : ClassId) (sz : Nat) (x : Nat) (hx7 : x < 128) : Met l yJ6_bitCount_0f7a4 wsJ6_bitCount_0f7a4 ({ frames := 0, cells := 0, slots := 0, locals := 0 } : Room) (va_Pc [.int (nI x)] (fun U => U.heap.size = sz ∧ va_P (dC, dI0) vwCl (WE0 cI cZ ) U.heap ∧ va_K (dC, dI0) vwCl [(cI, .int), (cZ, .boolean)] U ∧ va_D (fun _ => True) (WE0 cI cZ ))) (va_Qi (fun (r : Int32) (u : Unit) => r = nI (pop x)) (fun (u : Unit) (t : State) => va_P (dC, dI0) vwCl (WE0 cI cZ ) t.heap ∧ va_K (dC, dI0) vwCl [(cI, .int), (cZ, .boolean)] t ∧ va_D (va_A (WE0 cI cZ ) sz) (WE0 cI cZ )) (va_A (WE0 cI cZ ) sz)) 0 0 (va_A (WE0 cI cZ ) sz) := by
  refine Met.ofW (cc := cJ6_bitCount_0f7a4) (maxL := 1) (ret := (some .int)) (by decide) rfl ?_
  intro prg env s m args below meth c s₁ B hml hv
  obtain ⟨rfl, hsz, hP, hK, hD0⟩ := hv
  have hx := B.exec
  have hb := B.bytes
  have hr := B.returns
  have hts := atoms_spec (ws := wsJ6_bitCount_0f7a4) B.pre
  have hown : s.vm.findClass RJ6 = some m.cls := findClass_of_methodNamed B.named
  have hlocks := B.notSynchronized
  subst hsz
  have hD := hD0.self (sz := s.heap.size)
  generalize hAe : va_A (WE0 cI cZ ) s.heap.size = A at hD ⊢
  have hA : ∀ q : Nat, s.heap.size ≤ q → A q := fun q h => by rw [← hAe]; exact Or.inr h
  have hS : va_S A s.heap s.heap [] := va_S.rf
  have hP : va_P (dC, dI0) vwCl [] s.heap := hP
  have hD : va_D A [] := hD
  have hl := lv_entry ([.int (nI x)]) (n := 1) (Nat.le_of_ble_eq_true rfl)
  rw [lg_entry_eq]
  generalize (lg_sl ([.int (nI x)]) ++ List.replicate (1 - (lg_sl ([.int (nI x)])).length) Slot.unset).toArray = ls at hl ⊢
  have hl : lv_has ls 1 [(0, .int (nI x))] := hl
  obtain ⟨H, hH⟩ : ∃ H : Heap, H = s.heap := ⟨_, rfl⟩
  rw [← hH] at hP ⊢
  have hS : va_S A s.heap H [] := by rw [hH]; exact hS
  refine w_gen (fun Q hQ => ?_)
  have hk265 := hts (.constant RJ6 265 (1431655765)) (by decide +kernel)
  have hk266 := hts (.constant RJ6 266 (858993459)) (by decide +kernel)
  have hk267 := hts (.constant RJ6 267 (252645135)) (by decide +kernel)
  refine lv_iload_n hx hb dJ6_bitCount_0f7a4_0 rfl (lv_at hl 0 rfl) ?_
  refine lv_iload_n hx hb dJ6_bitCount_0f7a4_1 rfl (lv_at hl 0 rfl) ?_
  refine lv_iconst (v := nI 1) hx hb dJ6_bitCount_0f7a4_2 (by decide) ?_
  refine lv_iushr hx hb dJ6_bitCount_0f7a4_3 rfl ?_
  refine lv_topi (fun x3 e3 => ?_)
  refine lv_ldcw (v := nI 1431655765) hx hb hown hk265 dJ6_bitCount_0f7a4_4 ?_
  refine lv_iand hx hb dJ6_bitCount_0f7a4_7 ?_
  refine lv_topi (fun x7 e7 => ?_)
  refine lv_isub hx hb dJ6_bitCount_0f7a4_8 ?_
  refine lv_topi (fun x8 e8 => ?_)
  refine lv_istore_n (lv' := [(0, .int x8)]) hx hb dJ6_bitCount_0f7a4_9 rfl hl (by decide) rfl (fun ls hl => ?_)
  refine lv_iload_n hx hb dJ6_bitCount_0f7a4_10 rfl (lv_at hl 0 rfl) ?_
  refine lv_ldcw (v := nI 858993459) hx hb hown hk266 dJ6_bitCount_0f7a4_11 ?_
  refine lv_iand hx hb dJ6_bitCount_0f7a4_14 ?_
  refine lv_topi (fun x14 e14 => ?_)
  refine lv_iload_n hx hb dJ6_bitCount_0f7a4_15 rfl (lv_at hl 0 rfl) ?_
  refine lv_iconst (v := nI 2) hx hb dJ6_bitCount_0f7a4_16 (by decide) ?_
  refine lv_iushr hx hb dJ6_bitCount_0f7a4_17 rfl ?_
  refine lv_topi (fun x17 e17 => ?_)
  refine lv_ldcw (v := nI 858993459) hx hb hown hk266 dJ6_bitCount_0f7a4_18 ?_
  refine lv_iand hx hb dJ6_bitCount_0f7a4_21 ?_
  refine lv_topi (fun x21 e21 => ?_)
  refine lv_iadd hx hb dJ6_bitCount_0f7a4_22 ?_
  refine lv_topi (fun x22 e22 => ?_)
  refine lv_istore_n (lv' := [(0, .int x22)]) hx hb dJ6_bitCount_0f7a4_23 rfl hl (by decide) rfl (fun ls hl => ?_)
  refine lv_iload_n hx hb dJ6_bitCount_0f7a4_24 rfl (lv_at hl 0 rfl) ?_
  refine lv_iload_n hx hb dJ6_bitCount_0f7a4_25 rfl (lv_at hl 0 rfl) ?_
  refine lv_iconst (v := nI 4) hx hb dJ6_bitCount_0f7a4_26 (by decide) ?_
  refine lv_iushr hx hb dJ6_bitCount_0f7a4_27 rfl ?_
  refine lv_topi (fun x27 e27 => ?_)
  refine lv_iadd hx hb dJ6_bitCount_0f7a4_28 ?_
  refine lv_topi (fun x28 e28 => ?_)
  refine lv_ldcw (v := nI 252645135) hx hb hown hk267 dJ6_bitCount_0f7a4_29 ?_
  refine lv_iand hx hb dJ6_bitCount_0f7a4_32 ?_
  refine lv_topi (fun x32 e32 => ?_)
  refine lv_istore_n (lv' := [(0, .int x32)]) hx hb dJ6_bitCount_0f7a4_33 rfl hl (by decide) rfl (fun ls hl => ?_)
  refine lv_iload_n hx hb dJ6_bitCount_0f7a4_34 rfl (lv_at hl 0 rfl) ?_
  refine lv_iload_n hx hb dJ6_bitCount_0f7a4_35 rfl (lv_at hl 0 rfl) ?_
  refine lv_bipush (v := nI 8) hx hb dJ6_bitCount_0f7a4_36 (by decide) ?_
  refine lv_iushr hx hb dJ6_bitCount_0f7a4_38 rfl ?_
  refine lv_topi (fun x38 e38 => ?_)
  refine lv_iadd hx hb dJ6_bitCount_0f7a4_39 ?_
  refine lv_topi (fun x39 e39 => ?_)
  refine lv_istore_n (lv' := [(0, .int x39)]) hx hb dJ6_bitCount_0f7a4_40 rfl hl (by decide) rfl (fun ls hl => ?_)
  refine lv_iload_n hx hb dJ6_bitCount_0f7a4_41 rfl (lv_at hl 0 rfl) ?_
  refine lv_iload_n hx hb dJ6_bitCount_0f7a4_42 rfl (lv_at hl 0 rfl) ?_
  refine lv_bipush (v := nI 16) hx hb dJ6_bitCount_0f7a4_43 (by decide) ?_
  refine lv_iushr hx hb dJ6_bitCount_0f7a4_45 rfl ?_
  refine lv_topi (fun x45 e45 => ?_)
  refine lv_iadd hx hb dJ6_bitCount_0f7a4_46 ?_
  refine lv_topi (fun x46 e46 => ?_)
  refine lv_istore_n (lv' := [(0, .int x46)]) hx hb dJ6_bitCount_0f7a4_47 rfl hl (by decide) rfl (fun ls hl => ?_)
  refine lv_iload_n hx hb dJ6_bitCount_0f7a4_48 rfl (lv_at hl 0 rfl) ?_
  refine lv_bipush (v := nI 63) hx hb dJ6_bitCount_0f7a4_49 (by decide) ?_
  refine lv_iand hx hb dJ6_bitCount_0f7a4_51 ?_
  refine lv_topi (fun x51 e51 => ?_)
  subst hQ
  have hP9 : va_P (dC, dI0) vwCl [] H := hP
  have hD9 : va_D A [] := hD
  exact W.iret (v := x51) hx hb hr (fun t9 ht9 hW9 => ⟨⟨x51, (), rfl, by simp only [e51, e46, e45, e39, e38, e32, e28, e27, e22, e21, e17, e14, e8, e7, e3]; exact bc_ok x hx7, by rw [ht9]; exact hP9, va_K.moved hW9.alike hK, hD9⟩, hS.F ht9⟩) hS.2.2 dJ6_bitCount_0f7a4_52

set_option maxHeartbeats 4000000 in
set_option maxRecDepth 100000 in
theorem KX0_hatBits (l : Launch) (dC : Nat → ClassId) (dI0 : Nat → Nat → Nat) (cI cZ : ClassId) (h0 : Nat) (a1 : Nat) (a2 : Nat) (a3 : Nat) (a4 : Nat) (a5 : Nat) (a6 : Nat) (a7 : Nat) (n : Nat) (dr : Nat) (sc : Nat) (kA : Nat → Int32) (hsA : Nat → Int32) (dA : Nat → Int32) (bA : Nat → Int32) (pA : Nat → Int32) (nA : Nat → Int32) (mA : Nat → Int32) (sz : Nat) (k : Nat → Nat) (h : Nat → Nat) (b : Nat → Nat) (d : Nat → Option Nat) (hC : CoR n kA hsA dA bA k h b d) : Met l yX0_hatBits wsX0_hatBits ({ frames := 1, cells := 0, slots := 0, locals := 21 } : Room) (va_Pc [.ref h0] (fun U => U.heap.size = sz ∧ va_P (dC, dI0) vwCl (WCo cI cZ h0 a1 a2 a3 a4 a5 a6 a7 n dr sc kA hsA dA bA pA nA mA) U.heap ∧ va_K (dC, dI0) vwCl [(cI, .int), (cZ, .boolean)] U ∧ va_D (fun _ => True) (WCo cI cZ h0 a1 a2 a3 a4 a5 a6 a7 n dr sc kA hsA dA bA pA nA mA))) (va_Qi (fun (r : Int32) (u : Unit) => r = nI (hatS n d)) (fun (u : Unit) (t : State) => va_P (dC, dI0) vwCl (WCo cI cZ h0 a1 a2 a3 a4 a5 a6 a7 n dr sc kA hsA dA bA pA nA mA) t.heap ∧ va_K (dC, dI0) vwCl [(cI, .int), (cZ, .boolean)] t ∧ va_D (va_A (WCo cI cZ h0 a1 a2 a3 a4 a5 a6 a7 n dr sc kA hsA dA bA pA nA mA) sz) (WCo cI cZ h0 a1 a2 a3 a4 a5 a6 a7 n dr sc kA hsA dA bA pA nA mA)) (va_A (WCo cI cZ h0 a1 a2 a3 a4 a5 a6 a7 n dr sc kA hsA dA bA pA nA mA) sz)) 0 0 (va_A (WCo cI cZ h0 a1 a2 a3 a4 a5 a6 a7 n dr sc kA hsA dA bA pA nA mA) sz) := by
  refine Met.ofW (cc := cX0_hatBits) (maxL := 3) (ret := (some .int)) (by decide) rfl ?_
  intro prg env s m args below meth c s₁ B hml hv
  obtain ⟨rfl, hsz, hP, hK, hD0⟩ := hv
  have hx := B.exec
  have hb := B.bytes
  have hr := B.returns
  have hts := atoms_spec (ws := wsX0_hatBits) B.pre
  have hown : s.vm.findClass RX0 = some m.cls := findClass_of_methodNamed B.named
  have hlocks := B.notSynchronized
  subst hsz
  have hD := hD0.self (sz := s.heap.size)
  generalize hAe : va_A (WCo cI cZ h0 a1 a2 a3 a4 a5 a6 a7 n dr sc kA hsA dA bA pA nA mA) s.heap.size = A at hD ⊢
  have hA : ∀ q : Nat, s.heap.size ≤ q → A q := fun q h => by rw [← hAe]; exact Or.inr h
  have hS : va_S A s.heap s.heap [] := va_S.rf
  have hP : va_P (dC, dI0) vwCl [(h0, .inr (0, [.ref a1, .ref a2, .ref a3, .ref a4, .int (nI n), .int (nI dr), .int (nI sc), .ref a5, .ref a6, .ref a7])), (a1, .inl (cI, 7, .inl kA)), (a2, .inl (cI, 7, .inl hsA)), (a3, .inl (cI, 7, .inl dA)), (a4, .inl (cI, 7, .inl bA)), (a5, .inl (cI, 6, .inl pA)), (a6, .inl (cI, 6, .inl nA)), (a7, .inl (cZ, 6, .inl mA))] s.heap := hP
  have hD : va_D A [(h0, .inr (0, [.ref a1, .ref a2, .ref a3, .ref a4, .int (nI n), .int (nI dr), .int (nI sc), .ref a5, .ref a6, .ref a7])), (a1, .inl (cI, 7, .inl kA)), (a2, .inl (cI, 7, .inl hsA)), (a3, .inl (cI, 7, .inl dA)), (a4, .inl (cI, 7, .inl bA)), (a5, .inl (cI, 6, .inl pA)), (a6, .inl (cI, 6, .inl nA)), (a7, .inl (cZ, 6, .inl mA))] := hD
  have hl := lv_entry ([.ref h0]) (n := 3) (Nat.le_of_ble_eq_true rfl)
  rw [lg_entry_eq]
  generalize (lg_sl ([.ref h0]) ++ List.replicate (3 - (lg_sl ([.ref h0])).length) Slot.unset).toArray = ls at hl ⊢
  have hl : lv_has ls 3 [(0, .ref h0)] := hl
  obtain ⟨H, hH⟩ : ∃ H : Heap, H = s.heap := ⟨_, rfl⟩
  rw [← hH] at hP ⊢
  have hS : va_S A s.heap H [] := by rw [hH]; exact hS
  refine w_gen (fun Q hQ => ?_)
  have hin_X0 : ∀ w ∈ wsX00, w ∈ wsX0_hatBits := by decide +kernel
  have hf46 := hts (.fieldLink RX0 46 "HatNames$Company" "size" "I") (by decide +kernel)
  have hf18 := hts (.fieldLink RX0 18 "HatNames$Company" "drawn" "[I") (by decide +kernel)
  obtain ⟨hn7, hkk, hhh, hbb, hdd, hdn, hdi⟩ := id hC
  refine lv_iconst (v := nI 1) hx hb dX0_hatBits_0 (by decide) ?_
  refine lv_aload_n hx hb dX0_hatBits_1 rfl (lv_at hl 0 rfl) ?_
  refine va_get (D := (dC, dI0)) (ci := 0) (v := .int (nI n)) (C := RX0) (T := TX0) (N := 10) hx hb hts hin_X0 hown hK hP 0 rfl rfl 4 (by decide) hf46 (fun _ h9 => h9) rfl dX0_hatBits_2 ?_
  refine lv_ishl hx hb dX0_hatBits_5 ?_
  refine lv_topi (fun x5 e5 => ?_)
  obtain rfl : x5 = nI (2 ^ n) := e5.trans (shl_1 (by omega))
  refine lv_iconst (v := nI 1) hx hb dX0_hatBits_6 (by decide) ?_
  refine lv_isub hx hb dX0_hatBits_7 ?_
  refine lv_topi (fun x7 e7 => ?_)
  obtain rfl : x7 = nI (2 ^ n - 1) := e7.trans (pk_sub (Nat.two_pow_pos n))
  refine lv_istore_n (lv' := [(1, .int (nI (2 ^ n - 1))), (0, .ref h0)]) hx hb dX0_hatBits_8 rfl hl (by decide) rfl (fun ls hl => ?_)
  refine lv_iconst (v := nI 0) hx hb dX0_hatBits_9 (by decide) ?_
  refine lv_istore_n (lv' := [(2, .int (nI 0)), (1, .int (nI (2 ^ n - 1))), (0, .ref h0)]) hx hb dX0_hatBits_10 rfl hl (by decide) rfl (fun ls hl => ?_)
  have L11 : ∀ (fu : Nat) (i : Nat) (a : Nat), i ≤ n → a = pb (fun q => !tk d q i) n → n - i < fu → ∀ (H : Heap) (locs : List Loc), va_P (dC, dI0) vwCl [(h0, .inr (0, [.ref a1, .ref a2, .ref a3, .ref a4, .int (nI n), .int (nI dr), .int (nI sc), .ref a5, .ref a6, .ref a7])), (a1, .inl (cI, 7, .inl kA)), (a2, .inl (cI, 7, .inl hsA)), (a3, .inl (cI, 7, .inl dA)), (a4, .inl (cI, 7, .inl bA)), (a5, .inl (cI, 6, .inl pA)), (a6, .inl (cI, 6, .inl nA)), (a7, .inl (cZ, 6, .inl mA))] H → va_D A [(h0, .inr (0, [.ref a1, .ref a2, .ref a3, .ref a4, .int (nI n), .int (nI dr), .int (nI sc), .ref a5, .ref a6, .ref a7])), (a1, .inl (cI, 7, .inl kA)), (a2, .inl (cI, 7, .inl hsA)), (a3, .inl (cI, 7, .inl dA)), (a4, .inl (cI, 7, .inl bA)), (a5, .inl (cI, 6, .inl pA)), (a6, .inl (cI, 6, .inl nA)), (a7, .inl (cZ, 6, .inl mA))] → va_S A s.heap H locs → ∀ (ls : Array Slot), lv_has ls 3 [(0, .ref h0), (1, .int (nI a)), (2, .int (nI i))] → W prg l env ({ frames := 1, cells := 0, slots := 0, locals := 21 } : Room) s m ([.ref h0] : List Value).toArray below meth c H locs 0 0 Q (F0 m 11 ls []) := by
    intro fu
    induction fu with
    | zero => intro i a hi ha hmu; exact absurd hmu (Nat.not_lt_zero _)
    | succ fu ih11 =>
      intro i a hi ha hmu11 H locs hP hD hS ls hl
      refine lv_iload_n hx hb dX0_hatBits_11 rfl (lv_at hl 2 rfl) ?_
      refine lv_aload_n hx hb dX0_hatBits_12 rfl (lv_at hl 0 rfl) ?_
      refine va_get (D := (dC, dI0)) (ci := 0) (v := .int (nI n)) (C := RX0) (T := TX0) (N := 10) hx hb hts hin_X0 hown hK hP 0 rfl rfl 4 (by decide) hf46 (fun _ h9 => h9) rfl dX0_hatBits_13 ?_
      refine lv_icmp_ge (tgt := 46) hx hb dX0_hatBits_16 (by decide) (fun c16 => ?_) (fun c16 => ?_)
      ·
        have c16 : n ≤ i := (nI_leI (a := n) (b := i) (by omega) (by omega)).mp c16
        refine lv_iload_n hx hb dX0_hatBits_46 rfl (lv_at hl 1 rfl) ?_
        subst hQ
        have hP9 : va_P (dC, dI0) vwCl [(h0, .inr (0, [.ref a1, .ref a2, .ref a3, .ref a4, .int (nI n), .int (nI dr), .int (nI sc), .ref a5, .ref a6, .ref a7])), (a1, .inl (cI, 7, .inl kA)), (a2, .inl (cI, 7, .inl hsA)), (a3, .inl (cI, 7, .inl dA)), (a4, .inl (cI, 7, .inl bA)), (a5, .inl (cI, 6, .inl pA)), (a6, .inl (cI, 6, .inl nA)), (a7, .inl (cZ, 6, .inl mA))] H := hP
        have hD9 : va_D A [(h0, .inr (0, [.ref a1, .ref a2, .ref a3, .ref a4, .int (nI n), .int (nI dr), .int (nI sc), .ref a5, .ref a6, .ref a7])), (a1, .inl (cI, 7, .inl kA)), (a2, .inl (cI, 7, .inl hsA)), (a3, .inl (cI, 7, .inl dA)), (a4, .inl (cI, 7, .inl bA)), (a5, .inl (cI, 6, .inl pA)), (a6, .inl (cI, 6, .inl nA)), (a7, .inl (cZ, 6, .inl mA))] := hD
        exact W.iret (v := nI a) hx hb hr (fun t9 ht9 hW9 => ⟨⟨nI a, (), rfl, by rw [ha, show i = n by omega]; rfl, by rw [ht9]; exact hP9, va_K.moved hW9.alike hK, hD9⟩, hS.F ht9⟩) hS.2.2 dX0_hatBits_47
      have c16 : ¬ n ≤ i := fun z => c16 ((nI_leI (a := n) (b := i) (by omega) (by omega)).mpr z)
      refine lv_aload_n hx hb dX0_hatBits_19 rfl (lv_at hl 0 rfl) ?_
      refine lv_iload_n hx hb dX0_hatBits_20 rfl (lv_at hl 2 rfl) ?_
      have hPc := hP.sub (ws' := [(h0, .inr (0, [.ref a1, .ref a2, .ref a3, .ref a4, .int (nI n), .int (nI dr), .int (nI sc), .ref a5, .ref a6, .ref a7])), (a1, .inl (cI, 7, .inl kA)), (a2, .inl (cI, 7, .inl hsA)), (a3, .inl (cI, 7, .inl dA)), (a4, .inl (cI, 7, .inl bA)), (a5, .inl (cI, 6, .inl pA)), (a6, .inl (cI, 6, .inl nA)), (a7, .inl (cZ, 6, .inl mA))]) [0, 1, 2, 3, 4, 5, 6, 7] rfl
      have hDc := hD.sub (ws' := [(h0, .inr (0, [.ref a1, .ref a2, .ref a3, .ref a4, .int (nI n), .int (nI dr), .int (nI sc), .ref a5, .ref a6, .ref a7])), (a1, .inl (cI, 7, .inl kA)), (a2, .inl (cI, 7, .inl hsA)), (a3, .inl (cI, 7, .inl dA)), (a4, .inl (cI, 7, .inl bA)), (a5, .inl (cI, 6, .inl pA)), (a6, .inl (cI, 6, .inl nA)), (a7, .inl (cZ, 6, .inl mA))]) [0, 1, 2, 3, 4, 5, 6, 7] (by decide) rfl
      have hFc := va_free (wc := [(h0, .inr (0, [.ref a1, .ref a2, .ref a3, .ref a4, .int (nI n), .int (nI dr), .int (nI sc), .ref a5, .ref a6, .ref a7])), (a1, .inl (cI, 7, .inl kA)), (a2, .inl (cI, 7, .inl hsA)), (a3, .inl (cI, 7, .inl dA)), (a4, .inl (cI, 7, .inl bA)), (a5, .inl (cI, 6, .inl pA)), (a6, .inl (cI, 6, .inl nA)), (a7, .inl (cZ, 6, .inl mA))]) hD hS hA [0, 1, 2, 3, 4, 5, 6, 7] rfl
      refine va_calli (va_runV (As := [.int (nI i)]) (rest := []) ⟨hx, hb, hml, hown, hts⟩ (KX0_hasDrawn l dC dI0 cI cZ h0 a1 a2 a3 a4 a5 a6 a7 n dr sc kA hsA dA bA pA nA mA H.size k h b d i (by first | assumption | omega) (by first | assumption | omega)) (cwV 1 hts gX0_hatBits_X0_hasDrawn rfl rfl rfl (by decide +kernel) ⟨Nat.le_of_ble_eq_true rfl, Nat.le_of_ble_eq_true rfl⟩) ⟨fun a U g mk q => by obtain ⟨q0, q1, qP, qK, qD⟩ := q; exact ⟨q0, q1, qP, va_K.moved (u := U) (U := U.calling g mk a) (Vm.Alike.refl U.vm) qK, qD⟩, va_recv hK hPc (ci := 0) (q0 := 0) rfl rfl, fun U hU hW => ⟨rfl, by rw [hU], by rw [hU]; exact hPc, va_K.moved hW.alike hK, hDc.weaken (fun _ _ _ _ => trivial)⟩⟩ rfl rfl hl.1 rfl (lv_room (Nat.le_of_ble_eq_true rfl)) dX0_hatBits_21 ⟨Nat.le_of_ble_eq_true rfl, Nat.le_of_ble_eq_true rfl⟩) hS (fun q _ h => hFc q h) hFc (fun r21 u21 t7 H1 locs ht7 hvm7 hw21 hB hz1 hk1 hS => ?_)
      obtain ⟨hP1, hK1, hD1⟩ := hB
      rw [ht7] at hP1
      try dsimp only at hw21 hP1 hD1
      obtain ⟨hP, hD⟩ := va_join (wr := []) (w1 := [(h0, .inr (0, [.ref a1, .ref a2, .ref a3, .ref a4, .int (nI n), .int (nI dr), .int (nI sc), .ref a5, .ref a6, .ref a7])), (a1, .inl (cI, 7, .inl kA)), (a2, .inl (cI, 7, .inl hsA)), (a3, .inl (cI, 7, .inl dA)), (a4, .inl (cI, 7, .inl bA)), (a5, .inl (cI, 6, .inl pA)), (a6, .inl (cI, 6, .inl nA)), (a7, .inl (cZ, 6, .inl mA))]) hP hD [0, 1, 2, 3, 4, 5, 6, 7] [] rfl rfl (by decide) (by decide) hk1 hFc hP1 hD1
      generalize H1 = H at hP hS ⊢
      have hP := hP.sub (ws' := [(h0, .inr (0, [.ref a1, .ref a2, .ref a3, .ref a4, .int (nI n), .int (nI dr), .int (nI sc), .ref a5, .ref a6, .ref a7])), (a1, .inl (cI, 7, .inl kA)), (a2, .inl (cI, 7, .inl hsA)), (a3, .inl (cI, 7, .inl dA)), (a4, .inl (cI, 7, .inl bA)), (a5, .inl (cI, 6, .inl pA)), (a6, .inl (cI, 6, .inl nA)), (a7, .inl (cZ, 6, .inl mA))]) [0, 1, 2, 3, 4, 5, 6, 7] rfl
      have hD := hD.sub (ws' := [(h0, .inr (0, [.ref a1, .ref a2, .ref a3, .ref a4, .int (nI n), .int (nI dr), .int (nI sc), .ref a5, .ref a6, .ref a7])), (a1, .inl (cI, 7, .inl kA)), (a2, .inl (cI, 7, .inl hsA)), (a3, .inl (cI, 7, .inl dA)), (a4, .inl (cI, 7, .inl bA)), (a5, .inl (cI, 6, .inl pA)), (a6, .inl (cI, 6, .inl nA)), (a7, .inl (cZ, 6, .inl mA))]) [0, 1, 2, 3, 4, 5, 6, 7] (by decide) rfl
      obtain rfl : r21 = bI ((d i).isSome) := hw21
      refine lv_if_eq (tgt := 40) hx hb dX0_hatBits_24 (by decide) (fun c24 => ?_) (fun c24 => ?_)
      ·
        have c24 : ((d i).isSome) = false := bI_0 c24
        refine lv_iinc (v := nI (i + 1)) (lv' := [(2, .int (nI (i + 1))), (0, .ref h0), (1, .int (nI a))]) hx hb dX0_hatBits_40 hl (k := 2) rfl (show nI i + Int32.ofInt 1 = nI (i + 1) from nI_add _ _) (by decide) rfl (fun ls hl => ?_)
        refine lv_goto (tgt := 11) hx hb dX0_hatBits_43 (by decide) ?_
        exact ih11 (i + 1) a (by omega) (by rw [ha]; exact hat_no (Option.isSome_eq_false_iff.mp c24 |> Option.isNone_iff_eq_none.mp)) (by omega) _ _ hP hD hS ls (lv_sub hl [1, 2, 0] rfl)
      have c24 : ((d i).isSome) = true := bI_n0 c24
      refine lv_iload_n hx hb dX0_hatBits_27 rfl (lv_at hl 1 rfl) ?_
      refine lv_iconst (v := nI 1) hx hb dX0_hatBits_28 (by decide) ?_
      refine lv_aload_n hx hb dX0_hatBits_29 rfl (lv_at hl 0 rfl) ?_
      refine va_get (D := (dC, dI0)) (ci := 0) (v := .ref a3) (C := RX0) (T := TX0) (N := 10) hx hb hts hin_X0 hown hK hP 0 rfl rfl 2 (by decide) hf18 (fun _ h9 => h9) rfl dX0_hatBits_30 ?_
      refine lv_iload_n hx hb dX0_hatBits_33 rfl (lv_at hl 2 rfl) ?_
      refine va_iald hx hb hK hP 3 0 rfl rfl (vp_in_nI (by omega) (by decide)) dX0_hatBits_34 ?_
      refine lv_topi (fun x34 e34 => ?_)
      rw [nI_clamp (n := i) (by omega)] at e34
      obtain rfl : x34 = dI (d i) := e34.trans (hdd i (by omega))
      obtain ⟨q, hq⟩ := Option.isSome_iff_exists.mp c24
      refine W.eq (g2 := F0 m 35 ls [.int (nI q), .int (nI 1), .int (nI a)]) (by rw [hq]; rfl) ?_
      have hqn := hdn i (by omega) q hq
      refine lv_ishl hx hb dX0_hatBits_35 ?_
      refine lv_topi (fun x35 e35 => ?_)
      obtain rfl : x35 = nI (2 ^ q) := e35.trans (shl_1 (by omega))
      refine lv_iconst (v := (-1)) hx hb dX0_hatBits_36 (by decide) ?_
      refine lv_ixor hx hb dX0_hatBits_37 ?_
      refine lv_topi (fun x37 e37 => ?_)
      refine lv_iand hx hb dX0_hatBits_38 ?_
      refine lv_topi (fun x38 e38 => ?_)
      obtain rfl : x38 = nI (andn a (2 ^ q)) := e38.trans (by rw [e37]; exact andn_nI _ _)
      refine lv_istore_n (lv' := [(1, .int (nI (andn a (2 ^ q)))), (0, .ref h0), (2, .int (nI i))]) hx hb dX0_hatBits_39 rfl hl (by decide) rfl (fun ls hl => ?_)
      refine lv_iinc (v := nI (i + 1)) (lv' := [(2, .int (nI (i + 1))), (1, .int (nI (andn a (2 ^ q)))), (0, .ref h0)]) hx hb dX0_hatBits_40 hl (k := 2) rfl (show nI i + Int32.ofInt 1 = nI (i + 1) from nI_add _ _) (by decide) rfl (fun ls hl => ?_)
      refine lv_goto (tgt := 11) hx hb dX0_hatBits_43 (by decide) ?_
      exact ih11 (i + 1) (andn a (2 ^ q)) (by omega) (by rw [ha]; exact hat_yes hq) (by omega) _ _ hP hD hS ls (lv_sub hl [2, 1, 0] rfl)
  exact L11 _ 0 (2 ^ n - 1) (by omega) (hat_0 n d) (Nat.lt_succ_self _) _ _ hP hD hS ls (lv_sub hl [2, 1, 0] rfl)

set_option maxHeartbeats 4000000 in
set_option maxRecDepth 100000 in
theorem KX0_putAllBack (l : Launch) (dC : Nat → ClassId) (dI0 : Nat → Nat → Nat) (cI cZ : ClassId) (h0 : Nat) (a1 : Nat) (a2 : Nat) (a3 : Nat) (a4 : Nat) (a5 : Nat) (a6 : Nat) (a7 : Nat) (n : Nat) (dr : Nat) (sc : Nat) (kA : Nat → Int32) (hsA : Nat → Int32) (dA : Nat → Int32) (bA : Nat → Int32) (pA : Nat → Int32) (nA : Nat → Int32) (mA : Nat → Int32) (sz : Nat) : Met l yX0_putAllBack wsX0_putAllBack ({ frames := 1, cells := 0, slots := 0, locals := 23 } : Room) (va_Pc [.ref h0] (fun U => U.heap.size = sz ∧ va_P (dC, dI0) vwCl (WCo cI cZ h0 a1 a2 a3 a4 a5 a6 a7 n dr sc kA hsA dA bA pA nA mA) U.heap ∧ va_K (dC, dI0) vwCl [(cI, .int), (cZ, .boolean)] U ∧ va_D (fun _ => True) (WCo cI cZ h0 a1 a2 a3 a4 a5 a6 a7 n dr sc kA hsA dA bA pA nA mA))) (va_Qv (fun (u : Nat → Int32) => u = fillF (-1) dA 7) (fun (u : Nat → Int32) (t : State) => va_P (dC, dI0) vwCl (WCo cI cZ h0 a1 a2 a3 a4 a5 a6 a7 n dr sc kA hsA u bA pA nA mA) t.heap ∧ va_K (dC, dI0) vwCl [(cI, .int), (cZ, .boolean)] t ∧ va_D (va_A (WCo cI cZ h0 a1 a2 a3 a4 a5 a6 a7 n dr sc kA hsA dA bA pA nA mA) sz) (WCo cI cZ h0 a1 a2 a3 a4 a5 a6 a7 n dr sc kA hsA u bA pA nA mA)) (va_A (WCo cI cZ h0 a1 a2 a3 a4 a5 a6 a7 n dr sc kA hsA dA bA pA nA mA) sz)) 0 0 (va_A (WCo cI cZ h0 a1 a2 a3 a4 a5 a6 a7 n dr sc kA hsA dA bA pA nA mA) sz) := by
  refine Met.ofW (cc := cX0_putAllBack) (maxL := 1) (ret := none) (by decide) rfl ?_
  intro prg env s m args below meth c s₁ B hml hv
  obtain ⟨rfl, hsz, hP, hK, hD0⟩ := hv
  have hx := B.exec
  have hb := B.bytes
  have hr := B.returns
  have hts := atoms_spec (ws := wsX0_putAllBack) B.pre
  have hown : s.vm.findClass RX0 = some m.cls := findClass_of_methodNamed B.named
  have hlocks := B.notSynchronized
  subst hsz
  have hD := hD0.self (sz := s.heap.size)
  generalize hAe : va_A (WCo cI cZ h0 a1 a2 a3 a4 a5 a6 a7 n dr sc kA hsA dA bA pA nA mA) s.heap.size = A at hD ⊢
  have hA : ∀ q : Nat, s.heap.size ≤ q → A q := fun q h => by rw [← hAe]; exact Or.inr h
  have hS : va_S A s.heap s.heap [] := va_S.rf
  have hP : va_P (dC, dI0) vwCl [(h0, .inr (0, [.ref a1, .ref a2, .ref a3, .ref a4, .int (nI n), .int (nI dr), .int (nI sc), .ref a5, .ref a6, .ref a7])), (a1, .inl (cI, 7, .inl kA)), (a2, .inl (cI, 7, .inl hsA)), (a3, .inl (cI, 7, .inl dA)), (a4, .inl (cI, 7, .inl bA)), (a5, .inl (cI, 6, .inl pA)), (a6, .inl (cI, 6, .inl nA)), (a7, .inl (cZ, 6, .inl mA))] s.heap := hP
  have hD : va_D A [(h0, .inr (0, [.ref a1, .ref a2, .ref a3, .ref a4, .int (nI n), .int (nI dr), .int (nI sc), .ref a5, .ref a6, .ref a7])), (a1, .inl (cI, 7, .inl kA)), (a2, .inl (cI, 7, .inl hsA)), (a3, .inl (cI, 7, .inl dA)), (a4, .inl (cI, 7, .inl bA)), (a5, .inl (cI, 6, .inl pA)), (a6, .inl (cI, 6, .inl nA)), (a7, .inl (cZ, 6, .inl mA))] := hD
  have hl := lv_entry ([.ref h0]) (n := 1) (Nat.le_of_ble_eq_true rfl)
  rw [lg_entry_eq]
  generalize (lg_sl ([.ref h0]) ++ List.replicate (1 - (lg_sl ([.ref h0])).length) Slot.unset).toArray = ls at hl ⊢
  have hl : lv_has ls 1 [(0, .ref h0)] := hl
  obtain ⟨H, hH⟩ : ∃ H : Heap, H = s.heap := ⟨_, rfl⟩
  rw [← hH] at hP ⊢
  have hS : va_S A s.heap H [] := by rw [hH]; exact hS
  refine w_gen (fun Q hQ => ?_)
  have hin_X0 : ∀ w ∈ wsX00, w ∈ wsX0_putAllBack := by decide +kernel
  have hf18 := hts (.fieldLink RX0 18 "HatNames$Company" "drawn" "[I") (by decide +kernel)
  refine lv_aload_n hx hb dX0_putAllBack_0 rfl (lv_at hl 0 rfl) ?_
  refine va_get (D := (dC, dI0)) (ci := 0) (v := .ref a3) (C := RX0) (T := TX0) (N := 10) hx hb hts hin_X0 hown hK hP 0 rfl rfl 2 (by decide) hf18 (fun _ h9 => h9) rfl dX0_putAllBack_1 ?_
  refine lv_iconst (v := (-1)) hx hb dX0_putAllBack_4 (by decide) ?_
  have hPc := hP.sub (ws' := [(a3, .inl (cI, 7, .inl dA))]) [3] rfl
  have hDc := hD.sub (ws' := [(a3, .inl (cI, 7, .inl dA))]) [3] (by decide) rfl
  have hFc := va_free (wc := [(a3, .inl (cI, 7, .inl dA))]) hD hS hA [3] rfl
  refine va_callv (va_runS (As := [.ref a3, .int (-1)]) (rest := []) ⟨hx, hb, hml, hown, hts⟩ (KJ7_fill_53178 l dC dI0 cI cZ a3 7 dA H.size (-1) (by first | assumption | omega)) (va_cwS 2 hts gX0_putAllBack_J7_fill_53178 rfl rfl rfl (by decide +kernel) ⟨Nat.le_of_ble_eq_true rfl, Nat.le_of_ble_eq_true rfl⟩) ⟨fun a U g mk q => by obtain ⟨q0, q1, qP, qK, qD⟩ := q; exact ⟨q0, q1, qP, va_K.moved (u := U) (U := U.calling g mk a) (Vm.Alike.refl U.vm) qK, qD⟩, fun U hU hW => ⟨rfl, by rw [hU], by rw [hU]; exact hPc, va_K.moved hW.alike hK, hDc.weaken (fun _ _ _ _ => trivial)⟩⟩ rfl rfl hl.1 rfl (lv_room (Nat.le_of_ble_eq_true rfl)) dX0_putAllBack_5 ⟨Nat.le_of_ble_eq_true rfl, Nat.le_of_ble_eq_true rfl⟩) hS (fun q _ h => hFc q h) hFc (fun u5 t7 H1 locs ht7 hvm7 hw5 hB hz1 hk1 hS => ?_)
  obtain ⟨u5_0, eu5_0⟩ : ∃ z, z = u5 := ⟨_, rfl⟩; subst eu5_0
  obtain ⟨hP1, hK1, hD1⟩ := hB
  rw [ht7] at hP1
  try dsimp only at hw5 hP1 hD1
  obtain ⟨hP, hD⟩ := va_join (wr := [(h0, .inr (0, [.ref a1, .ref a2, .ref a3, .ref a4, .int (nI n), .int (nI dr), .int (nI sc), .ref a5, .ref a6, .ref a7])), (a1, .inl (cI, 7, .inl kA)), (a2, .inl (cI, 7, .inl hsA)), (a4, .inl (cI, 7, .inl bA)), (a5, .inl (cI, 6, .inl pA)), (a6, .inl (cI, 6, .inl nA)), (a7, .inl (cZ, 6, .inl mA))]) (w1 := [(a3, .inl (cI, 7, .inl u5_0))]) hP hD [3] [0, 1, 2, 4, 5, 6, 7] rfl rfl (by decide) (by decide) hk1 hFc hP1 hD1
  generalize H1 = H at hP hS ⊢
  have hP := hP.sub (ws' := [(h0, .inr (0, [.ref a1, .ref a2, .ref a3, .ref a4, .int (nI n), .int (nI dr), .int (nI sc), .ref a5, .ref a6, .ref a7])), (a1, .inl (cI, 7, .inl kA)), (a2, .inl (cI, 7, .inl hsA)), (a3, .inl (cI, 7, .inl u5_0)), (a4, .inl (cI, 7, .inl bA)), (a5, .inl (cI, 6, .inl pA)), (a6, .inl (cI, 6, .inl nA)), (a7, .inl (cZ, 6, .inl mA))]) [0, 1, 2, 7, 3, 4, 5, 6] rfl
  have hD := hD.sub (ws' := [(h0, .inr (0, [.ref a1, .ref a2, .ref a3, .ref a4, .int (nI n), .int (nI dr), .int (nI sc), .ref a5, .ref a6, .ref a7])), (a1, .inl (cI, 7, .inl kA)), (a2, .inl (cI, 7, .inl hsA)), (a3, .inl (cI, 7, .inl u5_0)), (a4, .inl (cI, 7, .inl bA)), (a5, .inl (cI, 6, .inl pA)), (a6, .inl (cI, 6, .inl nA)), (a7, .inl (cZ, 6, .inl mA))]) [0, 1, 2, 7, 3, 4, 5, 6] (by decide) rfl
  subst hQ
  have hP9 : va_P (dC, dI0) vwCl [(h0, .inr (0, [.ref a1, .ref a2, .ref a3, .ref a4, .int (nI n), .int (nI dr), .int (nI sc), .ref a5, .ref a6, .ref a7])), (a1, .inl (cI, 7, .inl kA)), (a2, .inl (cI, 7, .inl hsA)), (a3, .inl (cI, 7, .inl u5_0)), (a4, .inl (cI, 7, .inl bA)), (a5, .inl (cI, 6, .inl pA)), (a6, .inl (cI, 6, .inl nA)), (a7, .inl (cZ, 6, .inl mA))] H := hP
  have hD9 : va_D A [(h0, .inr (0, [.ref a1, .ref a2, .ref a3, .ref a4, .int (nI n), .int (nI dr), .int (nI sc), .ref a5, .ref a6, .ref a7])), (a1, .inl (cI, 7, .inl kA)), (a2, .inl (cI, 7, .inl hsA)), (a3, .inl (cI, 7, .inl u5_0)), (a4, .inl (cI, 7, .inl bA)), (a5, .inl (cI, 6, .inl pA)), (a6, .inl (cI, 6, .inl nA)), (a7, .inl (cZ, 6, .inl mA))] := hD
  exact W.vret hx hb hr (fun t9 ht9 hW9 => ⟨⟨u5_0, rfl, hw5, by rw [ht9]; exact hP9, va_K.moved hW9.alike hK, hD9⟩, hS.F ht9⟩) hS.2.2 dX0_putAllBack_8

set_option maxHeartbeats 4000000 in
set_option maxRecDepth 100000 in
theorem KX0_drawnCount (l : Launch) (dC : Nat → ClassId) (dI0 : Nat → Nat → Nat) (cI cZ : ClassId) (h0 : Nat) (a1 : Nat) (a2 : Nat) (a3 : Nat) (a4 : Nat) (a5 : Nat) (a6 : Nat) (a7 : Nat) (n : Nat) (dr : Nat) (sc : Nat) (kA : Nat → Int32) (hsA : Nat → Int32) (dA : Nat → Int32) (bA : Nat → Int32) (pA : Nat → Int32) (nA : Nat → Int32) (mA : Nat → Int32) (sz : Nat) (k : Nat → Nat) (h : Nat → Nat) (b : Nat → Nat) (d : Nat → Option Nat) (hC : CoR n kA hsA dA bA k h b d) : Met l yX0_drawnCount wsX0_drawnCount ({ frames := 1, cells := 0, slots := 0, locals := 21 } : Room) (va_Pc [.ref h0] (fun U => U.heap.size = sz ∧ va_P (dC, dI0) vwCl (WCo cI cZ h0 a1 a2 a3 a4 a5 a6 a7 n dr sc kA hsA dA bA pA nA mA) U.heap ∧ va_K (dC, dI0) vwCl [(cI, .int), (cZ, .boolean)] U ∧ va_D (fun _ => True) (WCo cI cZ h0 a1 a2 a3 a4 a5 a6 a7 n dr sc kA hsA dA bA pA nA mA))) (va_Qi (fun (r : Int32) (u : Unit) => r = nI (ct (fun p => (d p).isSome) n)) (fun (u : Unit) (t : State) => va_P (dC, dI0) vwCl (WCo cI cZ h0 a1 a2 a3 a4 a5 a6 a7 n dr sc kA hsA dA bA pA nA mA) t.heap ∧ va_K (dC, dI0) vwCl [(cI, .int), (cZ, .boolean)] t ∧ va_D (va_A (WCo cI cZ h0 a1 a2 a3 a4 a5 a6 a7 n dr sc kA hsA dA bA pA nA mA) sz) (WCo cI cZ h0 a1 a2 a3 a4 a5 a6 a7 n dr sc kA hsA dA bA pA nA mA)) (va_A (WCo cI cZ h0 a1 a2 a3 a4 a5 a6 a7 n dr sc kA hsA dA bA pA nA mA) sz)) 0 0 (va_A (WCo cI cZ h0 a1 a2 a3 a4 a5 a6 a7 n dr sc kA hsA dA bA pA nA mA) sz) := by
  refine Met.ofW (cc := cX0_drawnCount) (maxL := 3) (ret := (some .int)) (by decide) rfl ?_
  intro prg env s m args below meth c s₁ B hml hv
  obtain ⟨rfl, hsz, hP, hK, hD0⟩ := hv
  have hx := B.exec
  have hb := B.bytes
  have hr := B.returns
  have hts := atoms_spec (ws := wsX0_drawnCount) B.pre
  have hown : s.vm.findClass RX0 = some m.cls := findClass_of_methodNamed B.named
  have hlocks := B.notSynchronized
  subst hsz
  have hD := hD0.self (sz := s.heap.size)
  generalize hAe : va_A (WCo cI cZ h0 a1 a2 a3 a4 a5 a6 a7 n dr sc kA hsA dA bA pA nA mA) s.heap.size = A at hD ⊢
  have hA : ∀ q : Nat, s.heap.size ≤ q → A q := fun q h => by rw [← hAe]; exact Or.inr h
  have hS : va_S A s.heap s.heap [] := va_S.rf
  have hP : va_P (dC, dI0) vwCl [(h0, .inr (0, [.ref a1, .ref a2, .ref a3, .ref a4, .int (nI n), .int (nI dr), .int (nI sc), .ref a5, .ref a6, .ref a7])), (a1, .inl (cI, 7, .inl kA)), (a2, .inl (cI, 7, .inl hsA)), (a3, .inl (cI, 7, .inl dA)), (a4, .inl (cI, 7, .inl bA)), (a5, .inl (cI, 6, .inl pA)), (a6, .inl (cI, 6, .inl nA)), (a7, .inl (cZ, 6, .inl mA))] s.heap := hP
  have hD : va_D A [(h0, .inr (0, [.ref a1, .ref a2, .ref a3, .ref a4, .int (nI n), .int (nI dr), .int (nI sc), .ref a5, .ref a6, .ref a7])), (a1, .inl (cI, 7, .inl kA)), (a2, .inl (cI, 7, .inl hsA)), (a3, .inl (cI, 7, .inl dA)), (a4, .inl (cI, 7, .inl bA)), (a5, .inl (cI, 6, .inl pA)), (a6, .inl (cI, 6, .inl nA)), (a7, .inl (cZ, 6, .inl mA))] := hD
  have hl := lv_entry ([.ref h0]) (n := 3) (Nat.le_of_ble_eq_true rfl)
  rw [lg_entry_eq]
  generalize (lg_sl ([.ref h0]) ++ List.replicate (3 - (lg_sl ([.ref h0])).length) Slot.unset).toArray = ls at hl ⊢
  have hl : lv_has ls 3 [(0, .ref h0)] := hl
  obtain ⟨H, hH⟩ : ∃ H : Heap, H = s.heap := ⟨_, rfl⟩
  rw [← hH] at hP ⊢
  have hS : va_S A s.heap H [] := by rw [hH]; exact hS
  refine w_gen (fun Q hQ => ?_)
  have hin_X0 : ∀ w ∈ wsX00, w ∈ wsX0_drawnCount := by decide +kernel
  have hf46 := hts (.fieldLink RX0 46 "HatNames$Company" "size" "I") (by decide +kernel)
  obtain ⟨hn7, hkk, hhh, hbb, hdd, hdn, hdi⟩ := id hC
  refine lv_iconst (v := nI 0) hx hb dX0_drawnCount_0 (by decide) ?_
  refine lv_istore_n (lv' := [(1, .int (nI 0)), (0, .ref h0)]) hx hb dX0_drawnCount_1 rfl hl (by decide) rfl (fun ls hl => ?_)
  refine lv_iconst (v := nI 0) hx hb dX0_drawnCount_2 (by decide) ?_
  refine lv_istore_n (lv' := [(2, .int (nI 0)), (1, .int (nI 0)), (0, .ref h0)]) hx hb dX0_drawnCount_3 rfl hl (by decide) rfl (fun ls hl => ?_)
  have L4 : ∀ (fu : Nat) (i : Nat) (a : Nat), i ≤ n → a = ct (fun p => (d p).isSome) i → n - i < fu → ∀ (H : Heap) (locs : List Loc), va_P (dC, dI0) vwCl [(h0, .inr (0, [.ref a1, .ref a2, .ref a3, .ref a4, .int (nI n), .int (nI dr), .int (nI sc), .ref a5, .ref a6, .ref a7])), (a1, .inl (cI, 7, .inl kA)), (a2, .inl (cI, 7, .inl hsA)), (a3, .inl (cI, 7, .inl dA)), (a4, .inl (cI, 7, .inl bA)), (a5, .inl (cI, 6, .inl pA)), (a6, .inl (cI, 6, .inl nA)), (a7, .inl (cZ, 6, .inl mA))] H → va_D A [(h0, .inr (0, [.ref a1, .ref a2, .ref a3, .ref a4, .int (nI n), .int (nI dr), .int (nI sc), .ref a5, .ref a6, .ref a7])), (a1, .inl (cI, 7, .inl kA)), (a2, .inl (cI, 7, .inl hsA)), (a3, .inl (cI, 7, .inl dA)), (a4, .inl (cI, 7, .inl bA)), (a5, .inl (cI, 6, .inl pA)), (a6, .inl (cI, 6, .inl nA)), (a7, .inl (cZ, 6, .inl mA))] → va_S A s.heap H locs → ∀ (ls : Array Slot), lv_has ls 3 [(0, .ref h0), (1, .int (nI a)), (2, .int (nI i))] → W prg l env ({ frames := 1, cells := 0, slots := 0, locals := 21 } : Room) s m ([.ref h0] : List Value).toArray below meth c H locs 0 0 Q (F0 m 4 ls []) := by
    intro fu
    induction fu with
    | zero => intro i a hi ha hmu; exact absurd hmu (Nat.not_lt_zero _)
    | succ fu ih4 =>
      intro i a hi ha hmu4 H locs hP hD hS ls hl
      refine lv_iload_n hx hb dX0_drawnCount_4 rfl (lv_at hl 2 rfl) ?_
      refine lv_aload_n hx hb dX0_drawnCount_5 rfl (lv_at hl 0 rfl) ?_
      refine va_get (D := (dC, dI0)) (ci := 0) (v := .int (nI n)) (C := RX0) (T := TX0) (N := 10) hx hb hts hin_X0 hown hK hP 0 rfl rfl 4 (by decide) hf46 (fun _ h9 => h9) rfl dX0_drawnCount_6 ?_
      refine lv_icmp_ge (tgt := 29) hx hb dX0_drawnCount_9 (by decide) (fun c9 => ?_) (fun c9 => ?_)
      ·
        have c9 : n ≤ i := (nI_leI (a := n) (b := i) (by omega) (by omega)).mp c9
        refine lv_iload_n hx hb dX0_drawnCount_29 rfl (lv_at hl 1 rfl) ?_
        subst hQ
        have hP9 : va_P (dC, dI0) vwCl [(h0, .inr (0, [.ref a1, .ref a2, .ref a3, .ref a4, .int (nI n), .int (nI dr), .int (nI sc), .ref a5, .ref a6, .ref a7])), (a1, .inl (cI, 7, .inl kA)), (a2, .inl (cI, 7, .inl hsA)), (a3, .inl (cI, 7, .inl dA)), (a4, .inl (cI, 7, .inl bA)), (a5, .inl (cI, 6, .inl pA)), (a6, .inl (cI, 6, .inl nA)), (a7, .inl (cZ, 6, .inl mA))] H := hP
        have hD9 : va_D A [(h0, .inr (0, [.ref a1, .ref a2, .ref a3, .ref a4, .int (nI n), .int (nI dr), .int (nI sc), .ref a5, .ref a6, .ref a7])), (a1, .inl (cI, 7, .inl kA)), (a2, .inl (cI, 7, .inl hsA)), (a3, .inl (cI, 7, .inl dA)), (a4, .inl (cI, 7, .inl bA)), (a5, .inl (cI, 6, .inl pA)), (a6, .inl (cI, 6, .inl nA)), (a7, .inl (cZ, 6, .inl mA))] := hD
        exact W.iret (v := nI a) hx hb hr (fun t9 ht9 hW9 => ⟨⟨nI a, (), rfl, by rw [ha, show i = n by omega], by rw [ht9]; exact hP9, va_K.moved hW9.alike hK, hD9⟩, hS.F ht9⟩) hS.2.2 dX0_drawnCount_30
      have c9 : ¬ n ≤ i := fun z => c9 ((nI_leI (a := n) (b := i) (by omega) (by omega)).mpr z)
      refine lv_aload_n hx hb dX0_drawnCount_12 rfl (lv_at hl 0 rfl) ?_
      refine lv_iload_n hx hb dX0_drawnCount_13 rfl (lv_at hl 2 rfl) ?_
      have hPc := hP.sub (ws' := [(h0, .inr (0, [.ref a1, .ref a2, .ref a3, .ref a4, .int (nI n), .int (nI dr), .int (nI sc), .ref a5, .ref a6, .ref a7])), (a1, .inl (cI, 7, .inl kA)), (a2, .inl (cI, 7, .inl hsA)), (a3, .inl (cI, 7, .inl dA)), (a4, .inl (cI, 7, .inl bA)), (a5, .inl (cI, 6, .inl pA)), (a6, .inl (cI, 6, .inl nA)), (a7, .inl (cZ, 6, .inl mA))]) [0, 1, 2, 3, 4, 5, 6, 7] rfl
      have hDc := hD.sub (ws' := [(h0, .inr (0, [.ref a1, .ref a2, .ref a3, .ref a4, .int (nI n), .int (nI dr), .int (nI sc), .ref a5, .ref a6, .ref a7])), (a1, .inl (cI, 7, .inl kA)), (a2, .inl (cI, 7, .inl hsA)), (a3, .inl (cI, 7, .inl dA)), (a4, .inl (cI, 7, .inl bA)), (a5, .inl (cI, 6, .inl pA)), (a6, .inl (cI, 6, .inl nA)), (a7, .inl (cZ, 6, .inl mA))]) [0, 1, 2, 3, 4, 5, 6, 7] (by decide) rfl
      have hFc := va_free (wc := [(h0, .inr (0, [.ref a1, .ref a2, .ref a3, .ref a4, .int (nI n), .int (nI dr), .int (nI sc), .ref a5, .ref a6, .ref a7])), (a1, .inl (cI, 7, .inl kA)), (a2, .inl (cI, 7, .inl hsA)), (a3, .inl (cI, 7, .inl dA)), (a4, .inl (cI, 7, .inl bA)), (a5, .inl (cI, 6, .inl pA)), (a6, .inl (cI, 6, .inl nA)), (a7, .inl (cZ, 6, .inl mA))]) hD hS hA [0, 1, 2, 3, 4, 5, 6, 7] rfl
      refine va_calli (va_runV (As := [.int (nI i)]) (rest := []) ⟨hx, hb, hml, hown, hts⟩ (KX0_hasDrawn l dC dI0 cI cZ h0 a1 a2 a3 a4 a5 a6 a7 n dr sc kA hsA dA bA pA nA mA H.size k h b d i (by first | assumption | omega) (by first | assumption | omega)) (cwV 1 hts gX0_drawnCount_X0_hasDrawn rfl rfl rfl (by decide +kernel) ⟨Nat.le_of_ble_eq_true rfl, Nat.le_of_ble_eq_true rfl⟩) ⟨fun a U g mk q => by obtain ⟨q0, q1, qP, qK, qD⟩ := q; exact ⟨q0, q1, qP, va_K.moved (u := U) (U := U.calling g mk a) (Vm.Alike.refl U.vm) qK, qD⟩, va_recv hK hPc (ci := 0) (q0 := 0) rfl rfl, fun U hU hW => ⟨rfl, by rw [hU], by rw [hU]; exact hPc, va_K.moved hW.alike hK, hDc.weaken (fun _ _ _ _ => trivial)⟩⟩ rfl rfl hl.1 rfl (lv_room (Nat.le_of_ble_eq_true rfl)) dX0_drawnCount_14 ⟨Nat.le_of_ble_eq_true rfl, Nat.le_of_ble_eq_true rfl⟩) hS (fun q _ h => hFc q h) hFc (fun r14 u14 t7 H1 locs ht7 hvm7 hw14 hB hz1 hk1 hS => ?_)
      obtain ⟨hP1, hK1, hD1⟩ := hB
      rw [ht7] at hP1
      try dsimp only at hw14 hP1 hD1
      obtain ⟨hP, hD⟩ := va_join (wr := []) (w1 := [(h0, .inr (0, [.ref a1, .ref a2, .ref a3, .ref a4, .int (nI n), .int (nI dr), .int (nI sc), .ref a5, .ref a6, .ref a7])), (a1, .inl (cI, 7, .inl kA)), (a2, .inl (cI, 7, .inl hsA)), (a3, .inl (cI, 7, .inl dA)), (a4, .inl (cI, 7, .inl bA)), (a5, .inl (cI, 6, .inl pA)), (a6, .inl (cI, 6, .inl nA)), (a7, .inl (cZ, 6, .inl mA))]) hP hD [0, 1, 2, 3, 4, 5, 6, 7] [] rfl rfl (by decide) (by decide) hk1 hFc hP1 hD1
      generalize H1 = H at hP hS ⊢
      have hP := hP.sub (ws' := [(h0, .inr (0, [.ref a1, .ref a2, .ref a3, .ref a4, .int (nI n), .int (nI dr), .int (nI sc), .ref a5, .ref a6, .ref a7])), (a1, .inl (cI, 7, .inl kA)), (a2, .inl (cI, 7, .inl hsA)), (a3, .inl (cI, 7, .inl dA)), (a4, .inl (cI, 7, .inl bA)), (a5, .inl (cI, 6, .inl pA)), (a6, .inl (cI, 6, .inl nA)), (a7, .inl (cZ, 6, .inl mA))]) [0, 1, 2, 3, 4, 5, 6, 7] rfl
      have hD := hD.sub (ws' := [(h0, .inr (0, [.ref a1, .ref a2, .ref a3, .ref a4, .int (nI n), .int (nI dr), .int (nI sc), .ref a5, .ref a6, .ref a7])), (a1, .inl (cI, 7, .inl kA)), (a2, .inl (cI, 7, .inl hsA)), (a3, .inl (cI, 7, .inl dA)), (a4, .inl (cI, 7, .inl bA)), (a5, .inl (cI, 6, .inl pA)), (a6, .inl (cI, 6, .inl nA)), (a7, .inl (cZ, 6, .inl mA))]) [0, 1, 2, 3, 4, 5, 6, 7] (by decide) rfl
      obtain rfl : r14 = bI ((d i).isSome) := hw14
      refine lv_if_eq (tgt := 23) hx hb dX0_drawnCount_17 (by decide) (fun c17 => ?_) (fun c17 => ?_)
      ·
        have c17 : ((d i).isSome) = false := bI_0 c17
        refine lv_iinc (v := nI (i + 1)) (lv' := [(2, .int (nI (i + 1))), (0, .ref h0), (1, .int (nI a))]) hx hb dX0_drawnCount_23 hl (k := 2) rfl (show nI i + Int32.ofInt 1 = nI (i + 1) from nI_add _ _) (by decide) rfl (fun ls hl => ?_)
        refine lv_goto (tgt := 4) hx hb dX0_drawnCount_26 (by decide) ?_
        exact ih4 (i + 1) a (by omega) (by rw [ha]; exact ct_f (f := fun p => (d p).isSome) c17) (by omega) _ _ hP hD hS ls (lv_sub hl [1, 2, 0] rfl)
      have c17 : ((d i).isSome) = true := bI_n0 c17
      refine lv_iinc (v := nI (a + 1)) (lv' := [(1, .int (nI (a + 1))), (0, .ref h0), (2, .int (nI i))]) hx hb dX0_drawnCount_20 hl (k := 1) rfl (show nI a + Int32.ofInt 1 = nI (a + 1) from nI_add _ _) (by decide) rfl (fun ls hl => ?_)
      refine lv_iinc (v := nI (i + 1)) (lv' := [(2, .int (nI (i + 1))), (1, .int (nI (a + 1))), (0, .ref h0)]) hx hb dX0_drawnCount_23 hl (k := 2) rfl (show nI i + Int32.ofInt 1 = nI (i + 1) from nI_add _ _) (by decide) rfl (fun ls hl => ?_)
      refine lv_goto (tgt := 4) hx hb dX0_drawnCount_26 (by decide) ?_
      exact ih4 (i + 1) (a + 1) (by omega) (by rw [ha]; exact ct_t (f := fun p => (d p).isSome) c17) (by omega) _ _ hP hD hS ls (lv_sub hl [2, 1, 0] rfl)
  exact L4 _ 0 0 (by omega) (rfl) (Nat.lt_succ_self _) _ _ hP hD hS ls (lv_sub hl [2, 1, 0] rfl)

set_option maxHeartbeats 4000000 in
set_option maxRecDepth 100000 in
theorem KX0_drawnAmissCount (l : Launch) (dC : Nat → ClassId) (dI0 : Nat → Nat → Nat) (cI cZ : ClassId) (h0 : Nat) (a1 : Nat) (a2 : Nat) (a3 : Nat) (a4 : Nat) (a5 : Nat) (a6 : Nat) (a7 : Nat) (n : Nat) (dr : Nat) (sc : Nat) (kA : Nat → Int32) (hsA : Nat → Int32) (dA : Nat → Int32) (bA : Nat → Int32) (pA : Nat → Int32) (nA : Nat → Int32) (mA : Nat → Int32) (sz : Nat) (k : Nat → Nat) (h : Nat → Nat) (b : Nat → Nat) (d : Nat → Option Nat) (hC : CoR n kA hsA dA bA k h b d) : Met l yX0_drawnAmissCount wsX0_drawnAmissCount ({ frames := 3, cells := 0, slots := 0, locals := 59 } : Room) (va_Pc [.ref h0] (fun U => U.heap.size = sz ∧ va_P (dC, dI0) vwCl (WCo cI cZ h0 a1 a2 a3 a4 a5 a6 a7 n dr sc kA hsA dA bA pA nA mA) U.heap ∧ va_K (dC, dI0) vwCl [(cI, .int), (cZ, .boolean)] U ∧ va_D (fun _ => True) (WCo cI cZ h0 a1 a2 a3 a4 a5 a6 a7 n dr sc kA hsA dA bA pA nA mA))) (va_Qi (fun (r : Int32) (u : Unit) => r = nI (ct (amF k h b d) n)) (fun (u : Unit) (t : State) => va_P (dC, dI0) vwCl (WCo cI cZ h0 a1 a2 a3 a4 a5 a6 a7 n dr sc kA hsA dA bA pA nA mA) t.heap ∧ va_K (dC, dI0) vwCl [(cI, .int), (cZ, .boolean)] t ∧ va_D (va_A (WCo cI cZ h0 a1 a2 a3 a4 a5 a6 a7 n dr sc kA hsA dA bA pA nA mA) sz) (WCo cI cZ h0 a1 a2 a3 a4 a5 a6 a7 n dr sc kA hsA dA bA pA nA mA)) (va_A (WCo cI cZ h0 a1 a2 a3 a4 a5 a6 a7 n dr sc kA hsA dA bA pA nA mA) sz)) 0 0 (va_A (WCo cI cZ h0 a1 a2 a3 a4 a5 a6 a7 n dr sc kA hsA dA bA pA nA mA) sz) := by
  refine Met.ofW (cc := cX0_drawnAmissCount) (maxL := 3) (ret := (some .int)) (by decide) rfl ?_
  intro prg env s m args below meth c s₁ B hml hv
  obtain ⟨rfl, hsz, hP, hK, hD0⟩ := hv
  have hx := B.exec
  have hb := B.bytes
  have hr := B.returns
  have hts := atoms_spec (ws := wsX0_drawnAmissCount) B.pre
  have hown : s.vm.findClass RX0 = some m.cls := findClass_of_methodNamed B.named
  have hlocks := B.notSynchronized
  subst hsz
  have hD := hD0.self (sz := s.heap.size)
  generalize hAe : va_A (WCo cI cZ h0 a1 a2 a3 a4 a5 a6 a7 n dr sc kA hsA dA bA pA nA mA) s.heap.size = A at hD ⊢
  have hA : ∀ q : Nat, s.heap.size ≤ q → A q := fun q h => by rw [← hAe]; exact Or.inr h
  have hS : va_S A s.heap s.heap [] := va_S.rf
  have hP : va_P (dC, dI0) vwCl [(h0, .inr (0, [.ref a1, .ref a2, .ref a3, .ref a4, .int (nI n), .int (nI dr), .int (nI sc), .ref a5, .ref a6, .ref a7])), (a1, .inl (cI, 7, .inl kA)), (a2, .inl (cI, 7, .inl hsA)), (a3, .inl (cI, 7, .inl dA)), (a4, .inl (cI, 7, .inl bA)), (a5, .inl (cI, 6, .inl pA)), (a6, .inl (cI, 6, .inl nA)), (a7, .inl (cZ, 6, .inl mA))] s.heap := hP
  have hD : va_D A [(h0, .inr (0, [.ref a1, .ref a2, .ref a3, .ref a4, .int (nI n), .int (nI dr), .int (nI sc), .ref a5, .ref a6, .ref a7])), (a1, .inl (cI, 7, .inl kA)), (a2, .inl (cI, 7, .inl hsA)), (a3, .inl (cI, 7, .inl dA)), (a4, .inl (cI, 7, .inl bA)), (a5, .inl (cI, 6, .inl pA)), (a6, .inl (cI, 6, .inl nA)), (a7, .inl (cZ, 6, .inl mA))] := hD
  have hl := lv_entry ([.ref h0]) (n := 3) (Nat.le_of_ble_eq_true rfl)
  rw [lg_entry_eq]
  generalize (lg_sl ([.ref h0]) ++ List.replicate (3 - (lg_sl ([.ref h0])).length) Slot.unset).toArray = ls at hl ⊢
  have hl : lv_has ls 3 [(0, .ref h0)] := hl
  obtain ⟨H, hH⟩ : ∃ H : Heap, H = s.heap := ⟨_, rfl⟩
  rw [← hH] at hP ⊢
  have hS : va_S A s.heap H [] := by rw [hH]; exact hS
  refine w_gen (fun Q hQ => ?_)
  have hin_X0 : ∀ w ∈ wsX00, w ∈ wsX0_drawnAmissCount := by decide +kernel
  have hf46 := hts (.fieldLink RX0 46 "HatNames$Company" "size" "I") (by decide +kernel)
  have hf18 := hts (.fieldLink RX0 18 "HatNames$Company" "drawn" "[I") (by decide +kernel)
  obtain ⟨hn7, hkk, hhh, hbb, hdd, hdn, hdi⟩ := id hC
  refine lv_iconst (v := nI 0) hx hb dX0_drawnAmissCount_0 (by decide) ?_
  refine lv_istore_n (lv' := [(1, .int (nI 0)), (0, .ref h0)]) hx hb dX0_drawnAmissCount_1 rfl hl (by decide) rfl (fun ls hl => ?_)
  refine lv_iconst (v := nI 0) hx hb dX0_drawnAmissCount_2 (by decide) ?_
  refine lv_istore_n (lv' := [(2, .int (nI 0)), (1, .int (nI 0)), (0, .ref h0)]) hx hb dX0_drawnAmissCount_3 rfl hl (by decide) rfl (fun ls hl => ?_)
  have L4 : ∀ (fu : Nat) (i : Nat) (a : Nat), i ≤ n → a = ct (amF k h b d) i → n - i < fu → ∀ (H : Heap) (locs : List Loc), va_P (dC, dI0) vwCl [(h0, .inr (0, [.ref a1, .ref a2, .ref a3, .ref a4, .int (nI n), .int (nI dr), .int (nI sc), .ref a5, .ref a6, .ref a7])), (a1, .inl (cI, 7, .inl kA)), (a2, .inl (cI, 7, .inl hsA)), (a3, .inl (cI, 7, .inl dA)), (a4, .inl (cI, 7, .inl bA)), (a5, .inl (cI, 6, .inl pA)), (a6, .inl (cI, 6, .inl nA)), (a7, .inl (cZ, 6, .inl mA))] H → va_D A [(h0, .inr (0, [.ref a1, .ref a2, .ref a3, .ref a4, .int (nI n), .int (nI dr), .int (nI sc), .ref a5, .ref a6, .ref a7])), (a1, .inl (cI, 7, .inl kA)), (a2, .inl (cI, 7, .inl hsA)), (a3, .inl (cI, 7, .inl dA)), (a4, .inl (cI, 7, .inl bA)), (a5, .inl (cI, 6, .inl pA)), (a6, .inl (cI, 6, .inl nA)), (a7, .inl (cZ, 6, .inl mA))] → va_S A s.heap H locs → ∀ (ls : Array Slot), lv_has ls 3 [(0, .ref h0), (1, .int (nI a)), (2, .int (nI i))] → W prg l env ({ frames := 3, cells := 0, slots := 0, locals := 59 } : Room) s m ([.ref h0] : List Value).toArray below meth c H locs 0 0 Q (F0 m 4 ls []) := by
    intro fu
    induction fu with
    | zero => intro i a hi ha hmu; exact absurd hmu (Nat.not_lt_zero _)
    | succ fu ih4 =>
      intro i a hi ha hmu4 H locs hP hD hS ls hl
      refine lv_iload_n hx hb dX0_drawnAmissCount_4 rfl (lv_at hl 2 rfl) ?_
      refine lv_aload_n hx hb dX0_drawnAmissCount_5 rfl (lv_at hl 0 rfl) ?_
      refine va_get (D := (dC, dI0)) (ci := 0) (v := .int (nI n)) (C := RX0) (T := TX0) (N := 10) hx hb hts hin_X0 hown hK hP 0 rfl rfl 4 (by decide) hf46 (fun _ h9 => h9) rfl dX0_drawnAmissCount_6 ?_
      refine lv_icmp_ge (tgt := 43) hx hb dX0_drawnAmissCount_9 (by decide) (fun c9 => ?_) (fun c9 => ?_)
      ·
        have c9 : n ≤ i := (nI_leI (a := n) (b := i) (by omega) (by omega)).mp c9
        refine lv_iload_n hx hb dX0_drawnAmissCount_43 rfl (lv_at hl 1 rfl) ?_
        subst hQ
        have hP9 : va_P (dC, dI0) vwCl [(h0, .inr (0, [.ref a1, .ref a2, .ref a3, .ref a4, .int (nI n), .int (nI dr), .int (nI sc), .ref a5, .ref a6, .ref a7])), (a1, .inl (cI, 7, .inl kA)), (a2, .inl (cI, 7, .inl hsA)), (a3, .inl (cI, 7, .inl dA)), (a4, .inl (cI, 7, .inl bA)), (a5, .inl (cI, 6, .inl pA)), (a6, .inl (cI, 6, .inl nA)), (a7, .inl (cZ, 6, .inl mA))] H := hP
        have hD9 : va_D A [(h0, .inr (0, [.ref a1, .ref a2, .ref a3, .ref a4, .int (nI n), .int (nI dr), .int (nI sc), .ref a5, .ref a6, .ref a7])), (a1, .inl (cI, 7, .inl kA)), (a2, .inl (cI, 7, .inl hsA)), (a3, .inl (cI, 7, .inl dA)), (a4, .inl (cI, 7, .inl bA)), (a5, .inl (cI, 6, .inl pA)), (a6, .inl (cI, 6, .inl nA)), (a7, .inl (cZ, 6, .inl mA))] := hD
        exact W.iret (v := nI a) hx hb hr (fun t9 ht9 hW9 => ⟨⟨nI a, (), rfl, by rw [ha, show i = n by omega], by rw [ht9]; exact hP9, va_K.moved hW9.alike hK, hD9⟩, hS.F ht9⟩) hS.2.2 dX0_drawnAmissCount_44
      have c9 : ¬ n ≤ i := fun z => c9 ((nI_leI (a := n) (b := i) (by omega) (by omega)).mpr z)
      refine lv_aload_n hx hb dX0_drawnAmissCount_12 rfl (lv_at hl 0 rfl) ?_
      refine lv_iload_n hx hb dX0_drawnAmissCount_13 rfl (lv_at hl 2 rfl) ?_
      have hPc := hP.sub (ws' := [(h0, .inr (0, [.ref a1, .ref a2, .ref a3, .ref a4, .int (nI n), .int (nI dr), .int (nI sc), .ref a5, .ref a6, .ref a7])), (a1, .inl (cI, 7, .inl kA)), (a2, .inl (cI, 7, .inl hsA)), (a3, .inl (cI, 7, .inl dA)), (a4, .inl (cI, 7, .inl bA)), (a5, .inl (cI, 6, .inl pA)), (a6, .inl (cI, 6, .inl nA)), (a7, .inl (cZ, 6, .inl mA))]) [0, 1, 2, 3, 4, 5, 6, 7] rfl
      have hDc := hD.sub (ws' := [(h0, .inr (0, [.ref a1, .ref a2, .ref a3, .ref a4, .int (nI n), .int (nI dr), .int (nI sc), .ref a5, .ref a6, .ref a7])), (a1, .inl (cI, 7, .inl kA)), (a2, .inl (cI, 7, .inl hsA)), (a3, .inl (cI, 7, .inl dA)), (a4, .inl (cI, 7, .inl bA)), (a5, .inl (cI, 6, .inl pA)), (a6, .inl (cI, 6, .inl nA)), (a7, .inl (cZ, 6, .inl mA))]) [0, 1, 2, 3, 4, 5, 6, 7] (by decide) rfl
      have hFc := va_free (wc := [(h0, .inr (0, [.ref a1, .ref a2, .ref a3, .ref a4, .int (nI n), .int (nI dr), .int (nI sc), .ref a5, .ref a6, .ref a7])), (a1, .inl (cI, 7, .inl kA)), (a2, .inl (cI, 7, .inl hsA)), (a3, .inl (cI, 7, .inl dA)), (a4, .inl (cI, 7, .inl bA)), (a5, .inl (cI, 6, .inl pA)), (a6, .inl (cI, 6, .inl nA)), (a7, .inl (cZ, 6, .inl mA))]) hD hS hA [0, 1, 2, 3, 4, 5, 6, 7] rfl
      refine va_calli (va_runV (As := [.int (nI i)]) (rest := []) ⟨hx, hb, hml, hown, hts⟩ (KX0_hasDrawn l dC dI0 cI cZ h0 a1 a2 a3 a4 a5 a6 a7 n dr sc kA hsA dA bA pA nA mA H.size k h b d i (by first | assumption | omega) (by first | assumption | omega)) (cwV 1 hts gX0_drawnAmissCount_X0_hasDrawn rfl rfl rfl (by decide +kernel) ⟨Nat.le_of_ble_eq_true rfl, Nat.le_of_ble_eq_true rfl⟩) ⟨fun a U g mk q => by obtain ⟨q0, q1, qP, qK, qD⟩ := q; exact ⟨q0, q1, qP, va_K.moved (u := U) (U := U.calling g mk a) (Vm.Alike.refl U.vm) qK, qD⟩, va_recv hK hPc (ci := 0) (q0 := 0) rfl rfl, fun U hU hW => ⟨rfl, by rw [hU], by rw [hU]; exact hPc, va_K.moved hW.alike hK, hDc.weaken (fun _ _ _ _ => trivial)⟩⟩ rfl rfl hl.1 rfl (lv_room (Nat.le_of_ble_eq_true rfl)) dX0_drawnAmissCount_14 ⟨Nat.le_of_ble_eq_true rfl, Nat.le_of_ble_eq_true rfl⟩) hS (fun q _ h => hFc q h) hFc (fun r14 u14 t7 H1 locs ht7 hvm7 hw14 hB hz1 hk1 hS => ?_)
      obtain ⟨hP1, hK1, hD1⟩ := hB
      rw [ht7] at hP1
      try dsimp only at hw14 hP1 hD1
      obtain ⟨hP, hD⟩ := va_join (wr := []) (w1 := [(h0, .inr (0, [.ref a1, .ref a2, .ref a3, .ref a4, .int (nI n), .int (nI dr), .int (nI sc), .ref a5, .ref a6, .ref a7])), (a1, .inl (cI, 7, .inl kA)), (a2, .inl (cI, 7, .inl hsA)), (a3, .inl (cI, 7, .inl dA)), (a4, .inl (cI, 7, .inl bA)), (a5, .inl (cI, 6, .inl pA)), (a6, .inl (cI, 6, .inl nA)), (a7, .inl (cZ, 6, .inl mA))]) hP hD [0, 1, 2, 3, 4, 5, 6, 7] [] rfl rfl (by decide) (by decide) hk1 hFc hP1 hD1
      generalize H1 = H at hP hS ⊢
      have hP := hP.sub (ws' := [(h0, .inr (0, [.ref a1, .ref a2, .ref a3, .ref a4, .int (nI n), .int (nI dr), .int (nI sc), .ref a5, .ref a6, .ref a7])), (a1, .inl (cI, 7, .inl kA)), (a2, .inl (cI, 7, .inl hsA)), (a3, .inl (cI, 7, .inl dA)), (a4, .inl (cI, 7, .inl bA)), (a5, .inl (cI, 6, .inl pA)), (a6, .inl (cI, 6, .inl nA)), (a7, .inl (cZ, 6, .inl mA))]) [0, 1, 2, 3, 4, 5, 6, 7] rfl
      have hD := hD.sub (ws' := [(h0, .inr (0, [.ref a1, .ref a2, .ref a3, .ref a4, .int (nI n), .int (nI dr), .int (nI sc), .ref a5, .ref a6, .ref a7])), (a1, .inl (cI, 7, .inl kA)), (a2, .inl (cI, 7, .inl hsA)), (a3, .inl (cI, 7, .inl dA)), (a4, .inl (cI, 7, .inl bA)), (a5, .inl (cI, 6, .inl pA)), (a6, .inl (cI, 6, .inl nA)), (a7, .inl (cZ, 6, .inl mA))]) [0, 1, 2, 3, 4, 5, 6, 7] (by decide) rfl
      obtain rfl : r14 = bI ((d i).isSome) := hw14
      refine lv_if_eq (tgt := 37) hx hb dX0_drawnAmissCount_17 (by decide) (fun c17 => ?_) (fun c17 => ?_)
      ·
        have c17 : ((d i).isSome) = false := bI_0 c17
        refine lv_iinc (v := nI (i + 1)) (lv' := [(2, .int (nI (i + 1))), (0, .ref h0), (1, .int (nI a))]) hx hb dX0_drawnAmissCount_37 hl (k := 2) rfl (show nI i + Int32.ofInt 1 = nI (i + 1) from nI_add _ _) (by decide) rfl (fun ls hl => ?_)
        refine lv_goto (tgt := 4) hx hb dX0_drawnAmissCount_40 (by decide) ?_
        exact ih4 (i + 1) a (by omega) (by rw [ha]; exact ct_f (amF_n c17)) (by omega) _ _ hP hD hS ls (lv_sub hl [1, 2, 0] rfl)
      have c17 : ((d i).isSome) = true := bI_n0 c17
      refine lv_aload_n hx hb dX0_drawnAmissCount_20 rfl (lv_at hl 0 rfl) ?_
      refine lv_iload_n hx hb dX0_drawnAmissCount_21 rfl (lv_at hl 2 rfl) ?_
      refine lv_aload_n hx hb dX0_drawnAmissCount_22 rfl (lv_at hl 0 rfl) ?_
      refine va_get (D := (dC, dI0)) (ci := 0) (v := .ref a3) (C := RX0) (T := TX0) (N := 10) hx hb hts hin_X0 hown hK hP 0 rfl rfl 2 (by decide) hf18 (fun _ h9 => h9) rfl dX0_drawnAmissCount_23 ?_
      refine lv_iload_n hx hb dX0_drawnAmissCount_26 rfl (lv_at hl 2 rfl) ?_
      refine va_iald hx hb hK hP 3 0 rfl rfl (vp_in_nI (by omega) (by decide)) dX0_drawnAmissCount_27 ?_
      refine lv_topi (fun x27 e27 => ?_)
      rw [nI_clamp (n := i) (by omega)] at e27
      obtain rfl : x27 = dI (d i) := e27.trans (hdd i (by omega))
      obtain ⟨q, hq⟩ := Option.isSome_iff_exists.mp c17
      refine W.eq (g2 := F0 m 28 ls [.int (nI q), .int (nI i), .ref h0]) (by rw [hq]; rfl) ?_
      have hqn := hdn i (by omega) q hq
      have hPc := hP.sub (ws' := [(h0, .inr (0, [.ref a1, .ref a2, .ref a3, .ref a4, .int (nI n), .int (nI dr), .int (nI sc), .ref a5, .ref a6, .ref a7])), (a1, .inl (cI, 7, .inl kA)), (a2, .inl (cI, 7, .inl hsA)), (a3, .inl (cI, 7, .inl dA)), (a4, .inl (cI, 7, .inl bA)), (a5, .inl (cI, 6, .inl pA)), (a6, .inl (cI, 6, .inl nA)), (a7, .inl (cZ, 6, .inl mA))]) [0, 1, 2, 3, 4, 5, 6, 7] rfl
      have hDc := hD.sub (ws' := [(h0, .inr (0, [.ref a1, .ref a2, .ref a3, .ref a4, .int (nI n), .int (nI dr), .int (nI sc), .ref a5, .ref a6, .ref a7])), (a1, .inl (cI, 7, .inl kA)), (a2, .inl (cI, 7, .inl hsA)), (a3, .inl (cI, 7, .inl dA)), (a4, .inl (cI, 7, .inl bA)), (a5, .inl (cI, 6, .inl pA)), (a6, .inl (cI, 6, .inl nA)), (a7, .inl (cZ, 6, .inl mA))]) [0, 1, 2, 3, 4, 5, 6, 7] (by decide) rfl
      have hFc := va_free (wc := [(h0, .inr (0, [.ref a1, .ref a2, .ref a3, .ref a4, .int (nI n), .int (nI dr), .int (nI sc), .ref a5, .ref a6, .ref a7])), (a1, .inl (cI, 7, .inl kA)), (a2, .inl (cI, 7, .inl hsA)), (a3, .inl (cI, 7, .inl dA)), (a4, .inl (cI, 7, .inl bA)), (a5, .inl (cI, 6, .inl pA)), (a6, .inl (cI, 6, .inl nA)), (a7, .inl (cZ, 6, .inl mA))]) hD hS hA [0, 1, 2, 3, 4, 5, 6, 7] rfl
      refine va_calli (va_runV (As := [.int (nI i), .int (nI q)]) (rest := []) ⟨hx, hb, hml, hown, hts⟩ (KX0_may l dC dI0 cI cZ h0 a1 a2 a3 a4 a5 a6 a7 n dr sc kA hsA dA bA pA nA mA H.size k h b d i q (by first | assumption | omega) (by first | assumption | omega) (by first | assumption | omega)) (cwV 2 hts gX0_drawnAmissCount_X0_may rfl rfl rfl (by decide +kernel) ⟨Nat.le_of_ble_eq_true rfl, Nat.le_of_ble_eq_true rfl⟩) ⟨fun a U g mk q => by obtain ⟨q0, q1, qP, qK, qD⟩ := q; exact ⟨q0, q1, qP, va_K.moved (u := U) (U := U.calling g mk a) (Vm.Alike.refl U.vm) qK, qD⟩, va_recv hK hPc (ci := 0) (q0 := 0) rfl rfl, fun U hU hW => ⟨rfl, by rw [hU], by rw [hU]; exact hPc, va_K.moved hW.alike hK, hDc.weaken (fun _ _ _ _ => trivial)⟩⟩ rfl rfl hl.1 rfl (lv_room (Nat.le_of_ble_eq_true rfl)) dX0_drawnAmissCount_28 ⟨Nat.le_of_ble_eq_true rfl, Nat.le_of_ble_eq_true rfl⟩) hS (fun q _ h => hFc q h) hFc (fun r28 u28 t7 H1 locs ht7 hvm7 hw28 hB hz1 hk1 hS => ?_)
      obtain ⟨hP1, hK1, hD1⟩ := hB
      rw [ht7] at hP1
      try dsimp only at hw28 hP1 hD1
      obtain ⟨hP, hD⟩ := va_join (wr := []) (w1 := [(h0, .inr (0, [.ref a1, .ref a2, .ref a3, .ref a4, .int (nI n), .int (nI dr), .int (nI sc), .ref a5, .ref a6, .ref a7])), (a1, .inl (cI, 7, .inl kA)), (a2, .inl (cI, 7, .inl hsA)), (a3, .inl (cI, 7, .inl dA)), (a4, .inl (cI, 7, .inl bA)), (a5, .inl (cI, 6, .inl pA)), (a6, .inl (cI, 6, .inl nA)), (a7, .inl (cZ, 6, .inl mA))]) hP hD [0, 1, 2, 3, 4, 5, 6, 7] [] rfl rfl (by decide) (by decide) hk1 hFc hP1 hD1
      generalize H1 = H at hP hS ⊢
      have hP := hP.sub (ws' := [(h0, .inr (0, [.ref a1, .ref a2, .ref a3, .ref a4, .int (nI n), .int (nI dr), .int (nI sc), .ref a5, .ref a6, .ref a7])), (a1, .inl (cI, 7, .inl kA)), (a2, .inl (cI, 7, .inl hsA)), (a3, .inl (cI, 7, .inl dA)), (a4, .inl (cI, 7, .inl bA)), (a5, .inl (cI, 6, .inl pA)), (a6, .inl (cI, 6, .inl nA)), (a7, .inl (cZ, 6, .inl mA))]) [0, 1, 2, 3, 4, 5, 6, 7] rfl
      have hD := hD.sub (ws' := [(h0, .inr (0, [.ref a1, .ref a2, .ref a3, .ref a4, .int (nI n), .int (nI dr), .int (nI sc), .ref a5, .ref a6, .ref a7])), (a1, .inl (cI, 7, .inl kA)), (a2, .inl (cI, 7, .inl hsA)), (a3, .inl (cI, 7, .inl dA)), (a4, .inl (cI, 7, .inl bA)), (a5, .inl (cI, 6, .inl pA)), (a6, .inl (cI, 6, .inl nA)), (a7, .inl (cZ, 6, .inl mA))]) [0, 1, 2, 3, 4, 5, 6, 7] (by decide) rfl
      obtain rfl : r28 = bI (mayS k h b i q) := hw28
      refine lv_if_ne (tgt := 37) hx hb dX0_drawnAmissCount_31 (by decide) (fun c31 => ?_) (fun c31 => ?_)
      ·
        have c31 : (mayS k h b i q) = true := bI_n0 c31
        refine lv_iinc (v := nI (i + 1)) (lv' := [(2, .int (nI (i + 1))), (0, .ref h0), (1, .int (nI a))]) hx hb dX0_drawnAmissCount_37 hl (k := 2) rfl (show nI i + Int32.ofInt 1 = nI (i + 1) from nI_add _ _) (by decide) rfl (fun ls hl => ?_)
        refine lv_goto (tgt := 4) hx hb dX0_drawnAmissCount_40 (by decide) ?_
        exact ih4 (i + 1) a (by omega) (by rw [ha]; exact ct_f (by rw [amF_s hq, c31]; rfl)) (by omega) _ _ hP hD hS ls (lv_sub hl [1, 2, 0] rfl)
      have c31 : (mayS k h b i q) = false := bI_0 c31
      refine lv_iinc (v := nI (a + 1)) (lv' := [(1, .int (nI (a + 1))), (0, .ref h0), (2, .int (nI i))]) hx hb dX0_drawnAmissCount_34 hl (k := 1) rfl (show nI a + Int32.ofInt 1 = nI (a + 1) from nI_add _ _) (by decide) rfl (fun ls hl => ?_)
      refine lv_iinc (v := nI (i + 1)) (lv' := [(2, .int (nI (i + 1))), (1, .int (nI (a + 1))), (0, .ref h0)]) hx hb dX0_drawnAmissCount_37 hl (k := 2) rfl (show nI i + Int32.ofInt 1 = nI (i + 1) from nI_add _ _) (by decide) rfl (fun ls hl => ?_)
      refine lv_goto (tgt := 4) hx hb dX0_drawnAmissCount_40 (by decide) ?_
      exact ih4 (i + 1) (a + 1) (by omega) (by rw [ha]; exact ct_t (by rw [amF_s hq, c31]; rfl)) (by omega) _ _ hP hD hS ls (lv_sub hl [2, 1, 0] rfl)
  exact L4 _ 0 0 (by omega) (rfl) (Nat.lt_succ_self _) _ _ hP hD hS ls (lv_sub hl [2, 1, 0] rfl)

set_option maxHeartbeats 4000000 in
set_option maxRecDepth 100000 in
theorem KX0_barredCount (l : Launch) (dC : Nat → ClassId) (dI0 : Nat → Nat → Nat) (cI cZ : ClassId) (h0 : Nat) (a1 : Nat) (a2 : Nat) (a3 : Nat) (a4 : Nat) (a5 : Nat) (a6 : Nat) (a7 : Nat) (n : Nat) (dr : Nat) (sc : Nat) (kA : Nat → Int32) (hsA : Nat → Int32) (dA : Nat → Int32) (bA : Nat → Int32) (pA : Nat → Int32) (nA : Nat → Int32) (mA : Nat → Int32) (sz : Nat) (k : Nat → Nat) (h : Nat → Nat) (b : Nat → Nat) (d : Nat → Option Nat) (hC : CoR n kA hsA dA bA k h b d) : Met l yX0_barredCount wsX0_barredCount ({ frames := 1, cells := 0, slots := 0, locals := 20 } : Room) (va_Pc [.ref h0] (fun U => U.heap.size = sz ∧ va_P (dC, dI0) vwCl (WCo cI cZ h0 a1 a2 a3 a4 a5 a6 a7 n dr sc kA hsA dA bA pA nA mA) U.heap ∧ va_K (dC, dI0) vwCl [(cI, .int), (cZ, .boolean)] U ∧ va_D (fun _ => True) (WCo cI cZ h0 a1 a2 a3 a4 a5 a6 a7 n dr sc kA hsA dA bA pA nA mA))) (va_Qi (fun (r : Int32) (u : Unit) => r = nI (smS (fun p => pop (b p)) n)) (fun (u : Unit) (t : State) => va_P (dC, dI0) vwCl (WCo cI cZ h0 a1 a2 a3 a4 a5 a6 a7 n dr sc kA hsA dA bA pA nA mA) t.heap ∧ va_K (dC, dI0) vwCl [(cI, .int), (cZ, .boolean)] t ∧ va_D (va_A (WCo cI cZ h0 a1 a2 a3 a4 a5 a6 a7 n dr sc kA hsA dA bA pA nA mA) sz) (WCo cI cZ h0 a1 a2 a3 a4 a5 a6 a7 n dr sc kA hsA dA bA pA nA mA)) (va_A (WCo cI cZ h0 a1 a2 a3 a4 a5 a6 a7 n dr sc kA hsA dA bA pA nA mA) sz)) 0 0 (va_A (WCo cI cZ h0 a1 a2 a3 a4 a5 a6 a7 n dr sc kA hsA dA bA pA nA mA) sz) := by
  refine Met.ofW (cc := cX0_barredCount) (maxL := 3) (ret := (some .int)) (by decide) rfl ?_
  intro prg env s m args below meth c s₁ B hml hv
  obtain ⟨rfl, hsz, hP, hK, hD0⟩ := hv
  have hx := B.exec
  have hb := B.bytes
  have hr := B.returns
  have hts := atoms_spec (ws := wsX0_barredCount) B.pre
  have hown : s.vm.findClass RX0 = some m.cls := findClass_of_methodNamed B.named
  have hlocks := B.notSynchronized
  subst hsz
  have hD := hD0.self (sz := s.heap.size)
  generalize hAe : va_A (WCo cI cZ h0 a1 a2 a3 a4 a5 a6 a7 n dr sc kA hsA dA bA pA nA mA) s.heap.size = A at hD ⊢
  have hA : ∀ q : Nat, s.heap.size ≤ q → A q := fun q h => by rw [← hAe]; exact Or.inr h
  have hS : va_S A s.heap s.heap [] := va_S.rf
  have hP : va_P (dC, dI0) vwCl [(h0, .inr (0, [.ref a1, .ref a2, .ref a3, .ref a4, .int (nI n), .int (nI dr), .int (nI sc), .ref a5, .ref a6, .ref a7])), (a1, .inl (cI, 7, .inl kA)), (a2, .inl (cI, 7, .inl hsA)), (a3, .inl (cI, 7, .inl dA)), (a4, .inl (cI, 7, .inl bA)), (a5, .inl (cI, 6, .inl pA)), (a6, .inl (cI, 6, .inl nA)), (a7, .inl (cZ, 6, .inl mA))] s.heap := hP
  have hD : va_D A [(h0, .inr (0, [.ref a1, .ref a2, .ref a3, .ref a4, .int (nI n), .int (nI dr), .int (nI sc), .ref a5, .ref a6, .ref a7])), (a1, .inl (cI, 7, .inl kA)), (a2, .inl (cI, 7, .inl hsA)), (a3, .inl (cI, 7, .inl dA)), (a4, .inl (cI, 7, .inl bA)), (a5, .inl (cI, 6, .inl pA)), (a6, .inl (cI, 6, .inl nA)), (a7, .inl (cZ, 6, .inl mA))] := hD
  have hl := lv_entry ([.ref h0]) (n := 3) (Nat.le_of_ble_eq_true rfl)
  rw [lg_entry_eq]
  generalize (lg_sl ([.ref h0]) ++ List.replicate (3 - (lg_sl ([.ref h0])).length) Slot.unset).toArray = ls at hl ⊢
  have hl : lv_has ls 3 [(0, .ref h0)] := hl
  obtain ⟨H, hH⟩ : ∃ H : Heap, H = s.heap := ⟨_, rfl⟩
  rw [← hH] at hP ⊢
  have hS : va_S A s.heap H [] := by rw [hH]; exact hS
  refine w_gen (fun Q hQ => ?_)
  have hin_X0 : ∀ w ∈ wsX00, w ∈ wsX0_barredCount := by decide +kernel
  have hf46 := hts (.fieldLink RX0 46 "HatNames$Company" "size" "I") (by decide +kernel)
  have hf21 := hts (.fieldLink RX0 21 "HatNames$Company" "barred" "[I") (by decide +kernel)
  obtain ⟨hn7, hkk, hhh, hbb, hdd, hdn, hdi⟩ := id hC
  refine lv_iconst (v := nI 0) hx hb dX0_barredCount_0 (by decide) ?_
  refine lv_istore_n (lv' := [(1, .int (nI 0)), (0, .ref h0)]) hx hb dX0_barredCount_1 rfl hl (by decide) rfl (fun ls hl => ?_)
  refine lv_iconst (v := nI 0) hx hb dX0_barredCount_2 (by decide) ?_
  refine lv_istore_n (lv' := [(2, .int (nI 0)), (1, .int (nI 0)), (0, .ref h0)]) hx hb dX0_barredCount_3 rfl hl (by decide) rfl (fun ls hl => ?_)
  have L4 : ∀ (fu : Nat) (i : Nat) (a : Nat), i ≤ n → a = smS (fun p => pop (b p)) i → n - i < fu → ∀ (H : Heap) (locs : List Loc), va_P (dC, dI0) vwCl [(h0, .inr (0, [.ref a1, .ref a2, .ref a3, .ref a4, .int (nI n), .int (nI dr), .int (nI sc), .ref a5, .ref a6, .ref a7])), (a1, .inl (cI, 7, .inl kA)), (a2, .inl (cI, 7, .inl hsA)), (a3, .inl (cI, 7, .inl dA)), (a4, .inl (cI, 7, .inl bA)), (a5, .inl (cI, 6, .inl pA)), (a6, .inl (cI, 6, .inl nA)), (a7, .inl (cZ, 6, .inl mA))] H → va_D A [(h0, .inr (0, [.ref a1, .ref a2, .ref a3, .ref a4, .int (nI n), .int (nI dr), .int (nI sc), .ref a5, .ref a6, .ref a7])), (a1, .inl (cI, 7, .inl kA)), (a2, .inl (cI, 7, .inl hsA)), (a3, .inl (cI, 7, .inl dA)), (a4, .inl (cI, 7, .inl bA)), (a5, .inl (cI, 6, .inl pA)), (a6, .inl (cI, 6, .inl nA)), (a7, .inl (cZ, 6, .inl mA))] → va_S A s.heap H locs → ∀ (ls : Array Slot), lv_has ls 3 [(0, .ref h0), (1, .int (nI a)), (2, .int (nI i))] → W prg l env ({ frames := 1, cells := 0, slots := 0, locals := 20 } : Room) s m ([.ref h0] : List Value).toArray below meth c H locs 0 0 Q (F0 m 4 ls []) := by
    intro fu
    induction fu with
    | zero => intro i a hi ha hmu; exact absurd hmu (Nat.not_lt_zero _)
    | succ fu ih4 =>
      intro i a hi ha hmu4 H locs hP hD hS ls hl
      refine lv_iload_n hx hb dX0_barredCount_4 rfl (lv_at hl 2 rfl) ?_
      refine lv_aload_n hx hb dX0_barredCount_5 rfl (lv_at hl 0 rfl) ?_
      refine va_get (D := (dC, dI0)) (ci := 0) (v := .int (nI n)) (C := RX0) (T := TX0) (N := 10) hx hb hts hin_X0 hown hK hP 0 rfl rfl 4 (by decide) hf46 (fun _ h9 => h9) rfl dX0_barredCount_6 ?_
      refine lv_icmp_ge (tgt := 30) hx hb dX0_barredCount_9 (by decide) (fun c9 => ?_) (fun c9 => ?_)
      ·
        have c9 : n ≤ i := (nI_leI (a := n) (b := i) (by omega) (by omega)).mp c9
        refine lv_iload_n hx hb dX0_barredCount_30 rfl (lv_at hl 1 rfl) ?_
        subst hQ
        have hP9 : va_P (dC, dI0) vwCl [(h0, .inr (0, [.ref a1, .ref a2, .ref a3, .ref a4, .int (nI n), .int (nI dr), .int (nI sc), .ref a5, .ref a6, .ref a7])), (a1, .inl (cI, 7, .inl kA)), (a2, .inl (cI, 7, .inl hsA)), (a3, .inl (cI, 7, .inl dA)), (a4, .inl (cI, 7, .inl bA)), (a5, .inl (cI, 6, .inl pA)), (a6, .inl (cI, 6, .inl nA)), (a7, .inl (cZ, 6, .inl mA))] H := hP
        have hD9 : va_D A [(h0, .inr (0, [.ref a1, .ref a2, .ref a3, .ref a4, .int (nI n), .int (nI dr), .int (nI sc), .ref a5, .ref a6, .ref a7])), (a1, .inl (cI, 7, .inl kA)), (a2, .inl (cI, 7, .inl hsA)), (a3, .inl (cI, 7, .inl dA)), (a4, .inl (cI, 7, .inl bA)), (a5, .inl (cI, 6, .inl pA)), (a6, .inl (cI, 6, .inl nA)), (a7, .inl (cZ, 6, .inl mA))] := hD
        exact W.iret (v := nI a) hx hb hr (fun t9 ht9 hW9 => ⟨⟨nI a, (), rfl, by rw [ha, show i = n by omega], by rw [ht9]; exact hP9, va_K.moved hW9.alike hK, hD9⟩, hS.F ht9⟩) hS.2.2 dX0_barredCount_31
      have c9 : ¬ n ≤ i := fun z => c9 ((nI_leI (a := n) (b := i) (by omega) (by omega)).mpr z)
      refine lv_iload_n hx hb dX0_barredCount_12 rfl (lv_at hl 1 rfl) ?_
      refine lv_aload_n hx hb dX0_barredCount_13 rfl (lv_at hl 0 rfl) ?_
      refine va_get (D := (dC, dI0)) (ci := 0) (v := .ref a4) (C := RX0) (T := TX0) (N := 10) hx hb hts hin_X0 hown hK hP 0 rfl rfl 3 (by decide) hf21 (fun _ h9 => h9) rfl dX0_barredCount_14 ?_
      refine lv_iload_n hx hb dX0_barredCount_17 rfl (lv_at hl 2 rfl) ?_
      refine va_iald hx hb hK hP 4 0 rfl rfl (vp_in_nI (by omega) (by decide)) dX0_barredCount_18 ?_
      refine lv_topi (fun x18 e18 => ?_)
      rw [nI_clamp (n := i) (by omega)] at e18
      have hb7 := b_lt hn7 (hbb i (by omega)).2
      obtain rfl : x18 = nI (b i) := e18.trans (hbb i (by omega)).1
      have hPc := hP.sub (ws' := []) [] rfl
      have hDc := hD.sub (ws' := []) [] (by decide) rfl
      have hFc := va_free (wc := []) hD hS hA [] rfl
      refine va_calli (va_runS (As := [.int (nI (b i))]) (rest := [.int (nI a)]) ⟨hx, hb, hml, hown, hts⟩ (KJ6_bitCount_0f7a4 l dC dI0 cI cZ  H.size (b i) (by first | assumption | omega)) (va_cwS 1 hts gX0_barredCount_J6_bitCount_0f7a4 rfl rfl rfl (by decide +kernel) ⟨Nat.le_of_ble_eq_true rfl, Nat.le_of_ble_eq_true rfl⟩) ⟨fun a U g mk q => by obtain ⟨q0, q1, qP, qK, qD⟩ := q; exact ⟨q0, q1, qP, va_K.moved (u := U) (U := U.calling g mk a) (Vm.Alike.refl U.vm) qK, qD⟩, fun U hU hW => ⟨rfl, by rw [hU], by rw [hU]; exact hPc, va_K.moved hW.alike hK, hDc.weaken (fun _ _ _ _ => trivial)⟩⟩ rfl rfl hl.1 rfl (lv_room (Nat.le_of_ble_eq_true rfl)) dX0_barredCount_19 ⟨Nat.le_of_ble_eq_true rfl, Nat.le_of_ble_eq_true rfl⟩) hS (fun q _ h => hFc q h) hFc (fun r19 u19 t7 H1 locs ht7 hvm7 hw19 hB hz1 hk1 hS => ?_)
      obtain ⟨hP1, hK1, hD1⟩ := hB
      rw [ht7] at hP1
      try dsimp only at hw19 hP1 hD1
      obtain ⟨hP, hD⟩ := va_join (wr := [(h0, .inr (0, [.ref a1, .ref a2, .ref a3, .ref a4, .int (nI n), .int (nI dr), .int (nI sc), .ref a5, .ref a6, .ref a7])), (a1, .inl (cI, 7, .inl kA)), (a2, .inl (cI, 7, .inl hsA)), (a3, .inl (cI, 7, .inl dA)), (a4, .inl (cI, 7, .inl bA)), (a5, .inl (cI, 6, .inl pA)), (a6, .inl (cI, 6, .inl nA)), (a7, .inl (cZ, 6, .inl mA))]) (w1 := []) hP hD [] [0, 1, 2, 3, 4, 5, 6, 7] rfl rfl (by decide) (by decide) hk1 hFc hP1 hD1
      generalize H1 = H at hP hS ⊢
      have hP := hP.sub (ws' := [(h0, .inr (0, [.ref a1, .ref a2, .ref a3, .ref a4, .int (nI n), .int (nI dr), .int (nI sc), .ref a5, .ref a6, .ref a7])), (a1, .inl (cI, 7, .inl kA)), (a2, .inl (cI, 7, .inl hsA)), (a3, .inl (cI, 7, .inl dA)), (a4, .inl (cI, 7, .inl bA)), (a5, .inl (cI, 6, .inl pA)), (a6, .inl (cI, 6, .inl nA)), (a7, .inl (cZ, 6, .inl mA))]) [0, 1, 2, 3, 4, 5, 6, 7] rfl
      have hD := hD.sub (ws' := [(h0, .inr (0, [.ref a1, .ref a2, .ref a3, .ref a4, .int (nI n), .int (nI dr), .int (nI sc), .ref a5, .ref a6, .ref a7])), (a1, .inl (cI, 7, .inl kA)), (a2, .inl (cI, 7, .inl hsA)), (a3, .inl (cI, 7, .inl dA)), (a4, .inl (cI, 7, .inl bA)), (a5, .inl (cI, 6, .inl pA)), (a6, .inl (cI, 6, .inl nA)), (a7, .inl (cZ, 6, .inl mA))]) [0, 1, 2, 3, 4, 5, 6, 7] (by decide) rfl
      obtain rfl : r19 = nI (pop (b i)) := hw19
      refine lv_iadd hx hb dX0_barredCount_22 ?_
      refine lv_topi (fun x22 e22 => ?_)
      obtain rfl : x22 = nI (a + (pop (b i))) := e22.trans (nI_add _ _)
      refine lv_istore_n (lv' := [(1, .int (nI (a + (pop (b i))))), (0, .ref h0), (2, .int (nI i))]) hx hb dX0_barredCount_23 rfl hl (by decide) rfl (fun ls hl => ?_)
      refine lv_iinc (v := nI (i + 1)) (lv' := [(2, .int (nI (i + 1))), (1, .int (nI (a + (pop (b i))))), (0, .ref h0)]) hx hb dX0_barredCount_24 hl (k := 2) rfl (show nI i + Int32.ofInt 1 = nI (i + 1) from nI_add _ _) (by decide) rfl (fun ls hl => ?_)
      refine lv_goto (tgt := 4) hx hb dX0_barredCount_27 (by decide) ?_
      exact ih4 (i + 1) (a + (pop (b i))) (by omega) (by rw [ha]; rfl) (by omega) _ _ hP hD hS ls (lv_sub hl [2, 1, 0] rfl)
  exact L4 _ 0 0 (by omega) (rfl) (Nat.lt_succ_self _) _ _ hP hD hS ls (lv_sub hl [2, 1, 0] rfl)

set_option maxHeartbeats 4000000 in
set_option maxRecDepth 100000 in
theorem KX0_ringOf (l : Launch) (dC : Nat → ClassId) (dI0 : Nat → Nat → Nat) (cI cZ : ClassId) (h0 : Nat) (a1 : Nat) (a2 : Nat) (a3 : Nat) (a4 : Nat) (a5 : Nat) (a6 : Nat) (a7 : Nat) (n : Nat) (dr : Nat) (sc : Nat) (kA : Nat → Int32) (hsA : Nat → Int32) (dA : Nat → Int32) (bA : Nat → Int32) (pA : Nat → Int32) (nA : Nat → Int32) (mA : Nat → Int32) (sz : Nat) (k : Nat → Nat) (h : Nat → Nat) (b : Nat → Nat) (d : Nat → Option Nat) (p : Nat) (hC : CoR n kA hsA dA bA k h b d) (hp : p < n) : Met l yX0_ringOf wsX0_ringOf ({ frames := 0, cells := 0, slots := 0, locals := 0 } : Room) (va_Pc [.ref h0, .int (nI p)] (fun U => U.heap.size = sz ∧ va_P (dC, dI0) vwCl (WCo cI cZ h0 a1 a2 a3 a4 a5 a6 a7 n dr sc kA hsA dA bA pA nA mA) U.heap ∧ va_K (dC, dI0) vwCl [(cI, .int), (cZ, .boolean)] U ∧ va_D (fun _ => True) (WCo cI cZ h0 a1 a2 a3 a4 a5 a6 a7 n dr sc kA hsA dA bA pA nA mA))) (va_Qi (fun (r : Int32) (u : Unit) => r = nI (rgS n d p)) (fun (u : Unit) (t : State) => va_P (dC, dI0) vwCl (WCo cI cZ h0 a1 a2 a3 a4 a5 a6 a7 n dr sc kA hsA dA bA pA nA mA) t.heap ∧ va_K (dC, dI0) vwCl [(cI, .int), (cZ, .boolean)] t ∧ va_D (va_A (WCo cI cZ h0 a1 a2 a3 a4 a5 a6 a7 n dr sc kA hsA dA bA pA nA mA) sz) (WCo cI cZ h0 a1 a2 a3 a4 a5 a6 a7 n dr sc kA hsA dA bA pA nA mA)) (va_A (WCo cI cZ h0 a1 a2 a3 a4 a5 a6 a7 n dr sc kA hsA dA bA pA nA mA) sz)) 0 0 (va_A (WCo cI cZ h0 a1 a2 a3 a4 a5 a6 a7 n dr sc kA hsA dA bA pA nA mA) sz) := by
  refine Met.ofW (cc := cX0_ringOf) (maxL := 5) (ret := (some .int)) (by decide) rfl ?_
  intro prg env s m args below meth c s₁ B hml hv
  obtain ⟨rfl, hsz, hP, hK, hD0⟩ := hv
  have hx := B.exec
  have hb := B.bytes
  have hr := B.returns
  have hts := atoms_spec (ws := wsX0_ringOf) B.pre
  have hown : s.vm.findClass RX0 = some m.cls := findClass_of_methodNamed B.named
  have hlocks := B.notSynchronized
  subst hsz
  have hD := hD0.self (sz := s.heap.size)
  generalize hAe : va_A (WCo cI cZ h0 a1 a2 a3 a4 a5 a6 a7 n dr sc kA hsA dA bA pA nA mA) s.heap.size = A at hD ⊢
  have hA : ∀ q : Nat, s.heap.size ≤ q → A q := fun q h => by rw [← hAe]; exact Or.inr h
  have hS : va_S A s.heap s.heap [] := va_S.rf
  have hP : va_P (dC, dI0) vwCl [(h0, .inr (0, [.ref a1, .ref a2, .ref a3, .ref a4, .int (nI n), .int (nI dr), .int (nI sc), .ref a5, .ref a6, .ref a7])), (a1, .inl (cI, 7, .inl kA)), (a2, .inl (cI, 7, .inl hsA)), (a3, .inl (cI, 7, .inl dA)), (a4, .inl (cI, 7, .inl bA)), (a5, .inl (cI, 6, .inl pA)), (a6, .inl (cI, 6, .inl nA)), (a7, .inl (cZ, 6, .inl mA))] s.heap := hP
  have hD : va_D A [(h0, .inr (0, [.ref a1, .ref a2, .ref a3, .ref a4, .int (nI n), .int (nI dr), .int (nI sc), .ref a5, .ref a6, .ref a7])), (a1, .inl (cI, 7, .inl kA)), (a2, .inl (cI, 7, .inl hsA)), (a3, .inl (cI, 7, .inl dA)), (a4, .inl (cI, 7, .inl bA)), (a5, .inl (cI, 6, .inl pA)), (a6, .inl (cI, 6, .inl nA)), (a7, .inl (cZ, 6, .inl mA))] := hD
  have hl := lv_entry ([.ref h0, .int (nI p)]) (n := 5) (Nat.le_of_ble_eq_true rfl)
  rw [lg_entry_eq]
  generalize (lg_sl ([.ref h0, .int (nI p)]) ++ List.replicate (5 - (lg_sl ([.ref h0, .int (nI p)])).length) Slot.unset).toArray = ls at hl ⊢
  have hl : lv_has ls 5 [(0, .ref h0), (1, .int (nI p))] := hl
  obtain ⟨H, hH⟩ : ∃ H : Heap, H = s.heap := ⟨_, rfl⟩
  rw [← hH] at hP ⊢
  have hS : va_S A s.heap H [] := by rw [hH]; exact hS
  refine w_gen (fun Q hQ => ?_)
  have hin_X0 : ∀ w ∈ wsX00, w ∈ wsX0_ringOf := by decide +kernel
  have hf46 := hts (.fieldLink RX0 46 "HatNames$Company" "size" "I") (by decide +kernel)
  have hf18 := hts (.fieldLink RX0 18 "HatNames$Company" "drawn" "[I") (by decide +kernel)
  obtain ⟨hn7, hkk, hhh, hbb, hdd, hdn, hdi⟩ := id hC
  refine lv_iconst (v := nI 0) hx hb dX0_ringOf_0 (by decide) ?_
  refine lv_istore_n (lv' := [(2, .int (nI 0)), (0, .ref h0), (1, .int (nI p))]) hx hb dX0_ringOf_1 rfl hl (by decide) rfl (fun ls hl => ?_)
  refine lv_iload_n hx hb dX0_ringOf_2 rfl (lv_at hl 2 rfl) ?_
  refine lv_istore_n (lv' := [(3, .int (nI p)), (2, .int (nI 0)), (0, .ref h0), (1, .int (nI p))]) hx hb dX0_ringOf_3 rfl hl (by decide) rfl (fun ls hl => ?_)
  refine lv_iconst (v := nI 0) hx hb dX0_ringOf_4 (by decide) ?_
  refine lv_istore (lv' := [(4, .int (nI 0)), (3, .int (nI p)), (2, .int (nI 0)), (0, .ref h0), (1, .int (nI p))]) hx hb dX0_ringOf_5 hl (by decide) rfl (fun ls hl => ?_)
  have L7 : ∀ (fu : Nat) (j : Nat) (ac : Nat) (o : Option Nat), j ≤ n → (∀ q, o = some q → q < n) → rgS n d p = rgO d p (n - j) o ac → n - j < fu → ∀ (H : Heap) (locs : List Loc), va_P (dC, dI0) vwCl [(h0, .inr (0, [.ref a1, .ref a2, .ref a3, .ref a4, .int (nI n), .int (nI dr), .int (nI sc), .ref a5, .ref a6, .ref a7])), (a1, .inl (cI, 7, .inl kA)), (a2, .inl (cI, 7, .inl hsA)), (a3, .inl (cI, 7, .inl dA)), (a4, .inl (cI, 7, .inl bA)), (a5, .inl (cI, 6, .inl pA)), (a6, .inl (cI, 6, .inl nA)), (a7, .inl (cZ, 6, .inl mA))] H → va_D A [(h0, .inr (0, [.ref a1, .ref a2, .ref a3, .ref a4, .int (nI n), .int (nI dr), .int (nI sc), .ref a5, .ref a6, .ref a7])), (a1, .inl (cI, 7, .inl kA)), (a2, .inl (cI, 7, .inl hsA)), (a3, .inl (cI, 7, .inl dA)), (a4, .inl (cI, 7, .inl bA)), (a5, .inl (cI, 6, .inl pA)), (a6, .inl (cI, 6, .inl nA)), (a7, .inl (cZ, 6, .inl mA))] → va_S A s.heap H locs → ∀ (ls : Array Slot), lv_has ls 5 [(0, .ref h0), (1, .int (nI p)), (2, .int (nI ac)), (3, .int (dI o)), (4, .int (nI j))] → W prg l env ({ frames := 0, cells := 0, slots := 0, locals := 0 } : Room) s m ([.ref h0, .int (nI p)] : List Value).toArray below meth c H locs 0 0 Q (F0 m 7 ls []) := by
    intro fu
    induction fu with
    | zero => intro j ac o hj ho hT hmu; exact absurd hmu (Nat.not_lt_zero _)
    | succ fu ih7 =>
      intro j ac o hj ho hT hmu7 H locs hP hD hS ls hl
      refine lv_iload hx hb dX0_ringOf_7 (lv_at hl 4 rfl) ?_
      refine lv_aload_n hx hb dX0_ringOf_9 rfl (lv_at hl 0 rfl) ?_
      refine va_get (D := (dC, dI0)) (ci := 0) (v := .int (nI n)) (C := RX0) (T := TX0) (N := 10) hx hb hts hin_X0 hown hK hP 0 rfl rfl 4 (by decide) hf46 (fun _ h9 => h9) rfl dX0_ringOf_10 ?_
      refine lv_icmp_ge (tgt := 47) hx hb dX0_ringOf_13 (by decide) (fun c13 => ?_) (fun c13 => ?_)
      ·
        have c13 : n ≤ j := (nI_leI (a := n) (b := j) (by omega) (by omega)).mp c13
        refine lv_iconst (v := nI 0) hx hb dX0_ringOf_47 (by decide) ?_
        subst hQ
        have hP9 : va_P (dC, dI0) vwCl [(h0, .inr (0, [.ref a1, .ref a2, .ref a3, .ref a4, .int (nI n), .int (nI dr), .int (nI sc), .ref a5, .ref a6, .ref a7])), (a1, .inl (cI, 7, .inl kA)), (a2, .inl (cI, 7, .inl hsA)), (a3, .inl (cI, 7, .inl dA)), (a4, .inl (cI, 7, .inl bA)), (a5, .inl (cI, 6, .inl pA)), (a6, .inl (cI, 6, .inl nA)), (a7, .inl (cZ, 6, .inl mA))] H := hP
        have hD9 : va_D A [(h0, .inr (0, [.ref a1, .ref a2, .ref a3, .ref a4, .int (nI n), .int (nI dr), .int (nI sc), .ref a5, .ref a6, .ref a7])), (a1, .inl (cI, 7, .inl kA)), (a2, .inl (cI, 7, .inl hsA)), (a3, .inl (cI, 7, .inl dA)), (a4, .inl (cI, 7, .inl bA)), (a5, .inl (cI, 6, .inl pA)), (a6, .inl (cI, 6, .inl nA)), (a7, .inl (cZ, 6, .inl mA))] := hD
        exact W.iret (v := nI 0) hx hb hr (fun t9 ht9 hW9 => ⟨⟨nI 0, (), rfl, by rw [hT, show n - j = 0 by omega]; cases o <;> rfl, by rw [ht9]; exact hP9, va_K.moved hW9.alike hK, hD9⟩, hS.F ht9⟩) hS.2.2 dX0_ringOf_48
      have c13 : ¬ n ≤ j := fun z => c13 ((nI_leI (a := n) (b := j) (by omega) (by omega)).mpr z)
      refine lv_iload_n hx hb dX0_ringOf_16 rfl (lv_at hl 3 rfl) ?_
      refine lv_iconst (v := (-1)) hx hb dX0_ringOf_17 (by decide) ?_
      refine lv_icmp_eq (tgt := 47) hx hb dX0_ringOf_18 (by decide) (fun c18 => ?_) (fun c18 => ?_)
      ·
        have c18 : o = none := dI_none c18 (fun q hq => Nat.lt_of_lt_of_le (ho q hq) hn7)
        refine lv_iconst (v := nI 0) hx hb dX0_ringOf_47 (by decide) ?_
        subst hQ
        have hP9 : va_P (dC, dI0) vwCl [(h0, .inr (0, [.ref a1, .ref a2, .ref a3, .ref a4, .int (nI n), .int (nI dr), .int (nI sc), .ref a5, .ref a6, .ref a7])), (a1, .inl (cI, 7, .inl kA)), (a2, .inl (cI, 7, .inl hsA)), (a3, .inl (cI, 7, .inl dA)), (a4, .inl (cI, 7, .inl bA)), (a5, .inl (cI, 6, .inl pA)), (a6, .inl (cI, 6, .inl nA)), (a7, .inl (cZ, 6, .inl mA))] H := hP
        have hD9 : va_D A [(h0, .inr (0, [.ref a1, .ref a2, .ref a3, .ref a4, .int (nI n), .int (nI dr), .int (nI sc), .ref a5, .ref a6, .ref a7])), (a1, .inl (cI, 7, .inl kA)), (a2, .inl (cI, 7, .inl hsA)), (a3, .inl (cI, 7, .inl dA)), (a4, .inl (cI, 7, .inl bA)), (a5, .inl (cI, 6, .inl pA)), (a6, .inl (cI, 6, .inl nA)), (a7, .inl (cZ, 6, .inl mA))] := hD
        exact W.iret (v := nI 0) hx hb hr (fun t9 ht9 hW9 => ⟨⟨nI 0, (), rfl, by rw [hT, c18]; rfl, by rw [ht9]; exact hP9, va_K.moved hW9.alike hK, hD9⟩, hS.F ht9⟩) hS.2.2 dX0_ringOf_48
      have c18 : ¬ o = none := fun z => c18 (by rw [z]; rfl)
      obtain ⟨v, rfl⟩ := Option.ne_none_iff_exists'.mp c18
      have hv : v < n := ho v rfl
      have hl : lv_has ls 5 [(0, .ref h0), (1, .int (nI p)), (2, .int (nI ac)), (3, .int (nI v)), (4, .int (nI j))] := hl
      refine lv_iload_n hx hb dX0_ringOf_21 rfl (lv_at hl 2 rfl) ?_
      refine lv_iconst (v := nI 1) hx hb dX0_ringOf_22 (by decide) ?_
      refine lv_iload_n hx hb dX0_ringOf_23 rfl (lv_at hl 3 rfl) ?_
      refine lv_ishl hx hb dX0_ringOf_24 ?_
      refine lv_topi (fun x24 e24 => ?_)
      obtain rfl : x24 = nI (2 ^ v) := e24.trans (shl_1 (by omega))
      refine lv_ior hx hb dX0_ringOf_25 ?_
      refine lv_topi (fun x25 e25 => ?_)
      obtain rfl : x25 = nI (ac ||| (2 ^ v)) := e25.trans (or_nI _ _)
      refine lv_istore_n (lv' := [(2, .int (nI (ac ||| (2 ^ v)))), (0, .ref h0), (1, .int (nI p)), (3, .int (nI v)), (4, .int (nI j))]) hx hb dX0_ringOf_26 rfl hl (by decide) rfl (fun ls hl => ?_)
      refine lv_aload_n hx hb dX0_ringOf_27 rfl (lv_at hl 1 rfl) ?_
      refine va_get (D := (dC, dI0)) (ci := 0) (v := .ref a3) (C := RX0) (T := TX0) (N := 10) hx hb hts hin_X0 hown hK hP 0 rfl rfl 2 (by decide) hf18 (fun _ h9 => h9) rfl dX0_ringOf_28 ?_
      refine lv_iload_n hx hb dX0_ringOf_31 rfl (lv_at hl 3 rfl) ?_
      refine va_iald hx hb hK hP 3 0 rfl rfl (vp_in_nI (by omega) (by decide)) dX0_ringOf_32 ?_
      refine lv_topi (fun x32 e32 => ?_)
      rw [nI_clamp (n := v) (by omega)] at e32
      obtain rfl : x32 = dI (d v) := e32.trans (hdd v (by omega))
      refine lv_istore_n (lv' := [(3, .int (dI (d v))), (2, .int (nI (ac ||| (2 ^ v)))), (0, .ref h0), (1, .int (nI p)), (4, .int (nI j))]) hx hb dX0_ringOf_33 rfl hl (by decide) rfl (fun ls hl => ?_)
      refine lv_iload_n hx hb dX0_ringOf_34 rfl (lv_at hl 0 rfl) ?_
      refine lv_iload_n hx hb dX0_ringOf_35 rfl (lv_at hl 3 rfl) ?_
      refine lv_icmp_ne (tgt := 41) hx hb dX0_ringOf_36 (by decide) (fun c36 => ?_) (fun c36 => ?_)
      ·
        refine lv_iinc (v := nI (j + 1)) (lv' := [(4, .int (nI (j + 1))), (3, .int (dI (d v))), (2, .int (nI (ac ||| (2 ^ v)))), (0, .ref h0), (1, .int (nI p))]) hx hb dX0_ringOf_41 hl (k := 4) rfl (show nI j + Int32.ofInt 1 = nI (j + 1) from nI_add _ _) (by decide) rfl (fun ls hl => ?_)
        refine lv_goto (tgt := 7) hx hb dX0_ringOf_44 (by decide) ?_
        exact ih7 (j + 1) (ac ||| (2 ^ v)) (d v) (by omega) (fun q hq => hdn v hv q hq) (hT.trans (rgo_go (by omega) (fun z => c36 (by rw [z]; rfl)))) (by omega) _ _ hP hD hS ls (lv_sub hl [3, 4, 2, 1, 0] rfl)
      refine lv_iload_n hx hb dX0_ringOf_39 rfl (lv_at hl 1 rfl) ?_
      subst hQ
      have hP9 : va_P (dC, dI0) vwCl [(h0, .inr (0, [.ref a1, .ref a2, .ref a3, .ref a4, .int (nI n), .int (nI dr), .int (nI sc), .ref a5, .ref a6, .ref a7])), (a1, .inl (cI, 7, .inl kA)), (a2, .inl (cI, 7, .inl hsA)), (a3, .inl (cI, 7, .inl dA)), (a4, .inl (cI, 7, .inl bA)), (a5, .inl (cI, 6, .inl pA)), (a6, .inl (cI, 6, .inl nA)), (a7, .inl (cZ, 6, .inl mA))] H := hP
      have hD9 : va_D A [(h0, .inr (0, [.ref a1, .ref a2, .ref a3, .ref a4, .int (nI n), .int (nI dr), .int (nI sc), .ref a5, .ref a6, .ref a7])), (a1, .inl (cI, 7, .inl kA)), (a2, .inl (cI, 7, .inl hsA)), (a3, .inl (cI, 7, .inl dA)), (a4, .inl (cI, 7, .inl bA)), (a5, .inl (cI, 6, .inl pA)), (a6, .inl (cI, 6, .inl nA)), (a7, .inl (cZ, 6, .inl mA))] := hD
      exact W.iret (v := nI (ac ||| (2 ^ v))) hx hb hr (fun t9 ht9 hW9 => ⟨⟨nI (ac ||| (2 ^ v)), (), rfl, by rw [hT]; exact congrArg nI (rgo_hit (by omega) (dI_inj (b := some p) c36 (fun q hq => Nat.lt_of_lt_of_le (hdn v hv q hq) hn7) (fun r hr => by cases hr; omega))).symm, by rw [ht9]; exact hP9, va_K.moved hW9.alike hK, hD9⟩, hS.F ht9⟩) hS.2.2 dX0_ringOf_40
  exact L7 _ 0 0 (some p) (by omega) (fun q hq => by cases hq; exact hp) (rfl) (Nat.lt_succ_self _) _ _ hP hD hS ls (lv_sub hl [3, 4, 2, 1, 0] rfl)

set_option maxHeartbeats 4000000 in
set_option maxRecDepth 100000 in
theorem KX0_ringCount (l : Launch) (dC : Nat → ClassId) (dI0 : Nat → Nat → Nat) (cI cZ : ClassId) (h0 : Nat) (a1 : Nat) (a2 : Nat) (a3 : Nat) (a4 : Nat) (a5 : Nat) (a6 : Nat) (a7 : Nat) (n : Nat) (dr : Nat) (sc : Nat) (kA : Nat → Int32) (hsA : Nat → Int32) (dA : Nat → Int32) (bA : Nat → Int32) (pA : Nat → Int32) (nA : Nat → Int32) (mA : Nat → Int32) (sz : Nat) (k : Nat → Nat) (h : Nat → Nat) (b : Nat → Nat) (d : Nat → Option Nat) (hC : CoR n kA hsA dA bA k h b d) : Met l yX0_ringCount wsX0_ringCount ({ frames := 1, cells := 0, slots := 0, locals := 24 } : Room) (va_Pc [.ref h0] (fun U => U.heap.size = sz ∧ va_P (dC, dI0) vwCl (WCo cI cZ h0 a1 a2 a3 a4 a5 a6 a7 n dr sc kA hsA dA bA pA nA mA) U.heap ∧ va_K (dC, dI0) vwCl [(cI, .int), (cZ, .boolean)] U ∧ va_D (fun _ => True) (WCo cI cZ h0 a1 a2 a3 a4 a5 a6 a7 n dr sc kA hsA dA bA pA nA mA))) (va_Qi (fun (r : Int32) (u : Unit) => r = nI ((rcS n d n).1)) (fun (u : Unit) (t : State) => va_P (dC, dI0) vwCl (WCo cI cZ h0 a1 a2 a3 a4 a5 a6 a7 n dr sc kA hsA dA bA pA nA mA) t.heap ∧ va_K (dC, dI0) vwCl [(cI, .int), (cZ, .boolean)] t ∧ va_D (va_A (WCo cI cZ h0 a1 a2 a3 a4 a5 a6 a7 n dr sc kA hsA dA bA pA nA mA) sz) (WCo cI cZ h0 a1 a2 a3 a4 a5 a6 a7 n dr sc kA hsA dA bA pA nA mA)) (va_A (WCo cI cZ h0 a1 a2 a3 a4 a5 a6 a7 n dr sc kA hsA dA bA pA nA mA) sz)) 0 0 (va_A (WCo cI cZ h0 a1 a2 a3 a4 a5 a6 a7 n dr sc kA hsA dA bA pA nA mA) sz) := by
  refine Met.ofW (cc := cX0_ringCount) (maxL := 5) (ret := (some .int)) (by decide) rfl ?_
  intro prg env s m args below meth c s₁ B hml hv
  obtain ⟨rfl, hsz, hP, hK, hD0⟩ := hv
  have hx := B.exec
  have hb := B.bytes
  have hr := B.returns
  have hts := atoms_spec (ws := wsX0_ringCount) B.pre
  have hown : s.vm.findClass RX0 = some m.cls := findClass_of_methodNamed B.named
  have hlocks := B.notSynchronized
  subst hsz
  have hD := hD0.self (sz := s.heap.size)
  generalize hAe : va_A (WCo cI cZ h0 a1 a2 a3 a4 a5 a6 a7 n dr sc kA hsA dA bA pA nA mA) s.heap.size = A at hD ⊢
  have hA : ∀ q : Nat, s.heap.size ≤ q → A q := fun q h => by rw [← hAe]; exact Or.inr h
  have hS : va_S A s.heap s.heap [] := va_S.rf
  have hP : va_P (dC, dI0) vwCl [(h0, .inr (0, [.ref a1, .ref a2, .ref a3, .ref a4, .int (nI n), .int (nI dr), .int (nI sc), .ref a5, .ref a6, .ref a7])), (a1, .inl (cI, 7, .inl kA)), (a2, .inl (cI, 7, .inl hsA)), (a3, .inl (cI, 7, .inl dA)), (a4, .inl (cI, 7, .inl bA)), (a5, .inl (cI, 6, .inl pA)), (a6, .inl (cI, 6, .inl nA)), (a7, .inl (cZ, 6, .inl mA))] s.heap := hP
  have hD : va_D A [(h0, .inr (0, [.ref a1, .ref a2, .ref a3, .ref a4, .int (nI n), .int (nI dr), .int (nI sc), .ref a5, .ref a6, .ref a7])), (a1, .inl (cI, 7, .inl kA)), (a2, .inl (cI, 7, .inl hsA)), (a3, .inl (cI, 7, .inl dA)), (a4, .inl (cI, 7, .inl bA)), (a5, .inl (cI, 6, .inl pA)), (a6, .inl (cI, 6, .inl nA)), (a7, .inl (cZ, 6, .inl mA))] := hD
  have hl := lv_entry ([.ref h0]) (n := 5) (Nat.le_of_ble_eq_true rfl)
  rw [lg_entry_eq]
  generalize (lg_sl ([.ref h0]) ++ List.replicate (5 - (lg_sl ([.ref h0])).length) Slot.unset).toArray = ls at hl ⊢
  have hl : lv_has ls 5 [(0, .ref h0)] := hl
  obtain ⟨H, hH⟩ : ∃ H : Heap, H = s.heap := ⟨_, rfl⟩
  rw [← hH] at hP ⊢
  have hS : va_S A s.heap H [] := by rw [hH]; exact hS
  refine w_gen (fun Q hQ => ?_)
  have hin_X0 : ∀ w ∈ wsX00, w ∈ wsX0_ringCount := by decide +kernel
  have hf46 := hts (.fieldLink RX0 46 "HatNames$Company" "size" "I") (by decide +kernel)
  obtain ⟨hn7, hkk, hhh, hbb, hdd, hdn, hdi⟩ := id hC
  refine lv_iconst (v := nI 0) hx hb dX0_ringCount_0 (by decide) ?_
  refine lv_istore_n (lv' := [(1, .int (nI 0)), (0, .ref h0)]) hx hb dX0_ringCount_1 rfl hl (by decide) rfl (fun ls hl => ?_)
  refine lv_iconst (v := nI 0) hx hb dX0_ringCount_2 (by decide) ?_
  refine lv_istore_n (lv' := [(2, .int (nI 0)), (1, .int (nI 0)), (0, .ref h0)]) hx hb dX0_ringCount_3 rfl hl (by decide) rfl (fun ls hl => ?_)
  refine lv_iconst (v := nI 0) hx hb dX0_ringCount_4 (by decide) ?_
  refine lv_istore_n (lv' := [(3, .int (nI 0)), (2, .int (nI 0)), (1, .int (nI 0)), (0, .ref h0)]) hx hb dX0_ringCount_5 rfl hl (by decide) rfl (fun ls hl => ?_)
  have L6 : ∀ (fu : Nat) (i : Nat) (a : Nat) (cm : Nat), i ≤ n → a = (rcS n d i).1 → cm = (rcS n d i).2 → n - i < fu → ∀ (H : Heap) (locs : List Loc), va_P (dC, dI0) vwCl [(h0, .inr (0, [.ref a1, .ref a2, .ref a3, .ref a4, .int (nI n), .int (nI dr), .int (nI sc), .ref a5, .ref a6, .ref a7])), (a1, .inl (cI, 7, .inl kA)), (a2, .inl (cI, 7, .inl hsA)), (a3, .inl (cI, 7, .inl dA)), (a4, .inl (cI, 7, .inl bA)), (a5, .inl (cI, 6, .inl pA)), (a6, .inl (cI, 6, .inl nA)), (a7, .inl (cZ, 6, .inl mA))] H → va_D A [(h0, .inr (0, [.ref a1, .ref a2, .ref a3, .ref a4, .int (nI n), .int (nI dr), .int (nI sc), .ref a5, .ref a6, .ref a7])), (a1, .inl (cI, 7, .inl kA)), (a2, .inl (cI, 7, .inl hsA)), (a3, .inl (cI, 7, .inl dA)), (a4, .inl (cI, 7, .inl bA)), (a5, .inl (cI, 6, .inl pA)), (a6, .inl (cI, 6, .inl nA)), (a7, .inl (cZ, 6, .inl mA))] → va_S A s.heap H locs → ∀ (ls : Array Slot), lv_has ls 5 [(0, .ref h0), (1, .int (nI a)), (2, .int (nI cm)), (3, .int (nI i))] → W prg l env ({ frames := 1, cells := 0, slots := 0, locals := 24 } : Room) s m ([.ref h0] : List Value).toArray below meth c H locs 0 0 Q (F0 m 6 ls []) := by
    intro fu
    induction fu with
    | zero => intro i a cm hi ha hcm hmu; exact absurd hmu (Nat.not_lt_zero _)
    | succ fu ih6 =>
      intro i a cm hi ha hcm hmu6 H locs hP hD hS ls hl
      refine lv_iload_n hx hb dX0_ringCount_6 rfl (lv_at hl 3 rfl) ?_
      refine lv_aload_n hx hb dX0_ringCount_7 rfl (lv_at hl 0 rfl) ?_
      refine va_get (D := (dC, dI0)) (ci := 0) (v := .int (nI n)) (C := RX0) (T := TX0) (N := 10) hx hb hts hin_X0 hown hK hP 0 rfl rfl 4 (by decide) hf46 (fun _ h9 => h9) rfl dX0_ringCount_8 ?_
      refine lv_icmp_ge (tgt := 47) hx hb dX0_ringCount_11 (by decide) (fun c11 => ?_) (fun c11 => ?_)
      ·
        have c11 : n ≤ i := (nI_leI (a := n) (b := i) (by omega) (by omega)).mp c11
        refine lv_iload_n hx hb dX0_ringCount_47 rfl (lv_at hl 1 rfl) ?_
        subst hQ
        have hP9 : va_P (dC, dI0) vwCl [(h0, .inr (0, [.ref a1, .ref a2, .ref a3, .ref a4, .int (nI n), .int (nI dr), .int (nI sc), .ref a5, .ref a6, .ref a7])), (a1, .inl (cI, 7, .inl kA)), (a2, .inl (cI, 7, .inl hsA)), (a3, .inl (cI, 7, .inl dA)), (a4, .inl (cI, 7, .inl bA)), (a5, .inl (cI, 6, .inl pA)), (a6, .inl (cI, 6, .inl nA)), (a7, .inl (cZ, 6, .inl mA))] H := hP
        have hD9 : va_D A [(h0, .inr (0, [.ref a1, .ref a2, .ref a3, .ref a4, .int (nI n), .int (nI dr), .int (nI sc), .ref a5, .ref a6, .ref a7])), (a1, .inl (cI, 7, .inl kA)), (a2, .inl (cI, 7, .inl hsA)), (a3, .inl (cI, 7, .inl dA)), (a4, .inl (cI, 7, .inl bA)), (a5, .inl (cI, 6, .inl pA)), (a6, .inl (cI, 6, .inl nA)), (a7, .inl (cZ, 6, .inl mA))] := hD
        exact W.iret (v := nI a) hx hb hr (fun t9 ht9 hW9 => ⟨⟨nI a, (), rfl, by rw [ha, show i = n by omega], by rw [ht9]; exact hP9, va_K.moved hW9.alike hK, hD9⟩, hS.F ht9⟩) hS.2.2 dX0_ringCount_48
      have c11 : ¬ n ≤ i := fun z => c11 ((nI_leI (a := n) (b := i) (by omega) (by omega)).mpr z)
      refine lv_aload_n hx hb dX0_ringCount_14 rfl (lv_at hl 0 rfl) ?_
      refine lv_iload_n hx hb dX0_ringCount_15 rfl (lv_at hl 3 rfl) ?_
      have hPc := hP.sub (ws' := [(h0, .inr (0, [.ref a1, .ref a2, .ref a3, .ref a4, .int (nI n), .int (nI dr), .int (nI sc), .ref a5, .ref a6, .ref a7])), (a1, .inl (cI, 7, .inl kA)), (a2, .inl (cI, 7, .inl hsA)), (a3, .inl (cI, 7, .inl dA)), (a4, .inl (cI, 7, .inl bA)), (a5, .inl (cI, 6, .inl pA)), (a6, .inl (cI, 6, .inl nA)), (a7, .inl (cZ, 6, .inl mA))]) [0, 1, 2, 3, 4, 5, 6, 7] rfl
      have hDc := hD.sub (ws' := [(h0, .inr (0, [.ref a1, .ref a2, .ref a3, .ref a4, .int (nI n), .int (nI dr), .int (nI sc), .ref a5, .ref a6, .ref a7])), (a1, .inl (cI, 7, .inl kA)), (a2, .inl (cI, 7, .inl hsA)), (a3, .inl (cI, 7, .inl dA)), (a4, .inl (cI, 7, .inl bA)), (a5, .inl (cI, 6, .inl pA)), (a6, .inl (cI, 6, .inl nA)), (a7, .inl (cZ, 6, .inl mA))]) [0, 1, 2, 3, 4, 5, 6, 7] (by decide) rfl
      have hFc := va_free (wc := [(h0, .inr (0, [.ref a1, .ref a2, .ref a3, .ref a4, .int (nI n), .int (nI dr), .int (nI sc), .ref a5, .ref a6, .ref a7])), (a1, .inl (cI, 7, .inl kA)), (a2, .inl (cI, 7, .inl hsA)), (a3, .inl (cI, 7, .inl dA)), (a4, .inl (cI, 7, .inl bA)), (a5, .inl (cI, 6, .inl pA)), (a6, .inl (cI, 6, .inl nA)), (a7, .inl (cZ, 6, .inl mA))]) hD hS hA [0, 1, 2, 3, 4, 5, 6, 7] rfl
      refine va_calli (va_runV (As := [.int (nI i)]) (rest := []) ⟨hx, hb, hml, hown, hts⟩ (KX0_ringOf l dC dI0 cI cZ h0 a1 a2 a3 a4 a5 a6 a7 n dr sc kA hsA dA bA pA nA mA H.size k h b d i (by first | assumption | omega) (by first | assumption | omega)) (cwV 1 hts gX0_ringCount_X0_ringOf rfl rfl rfl (by decide +kernel) ⟨Nat.le_of_ble_eq_true rfl, Nat.le_of_ble_eq_true rfl⟩) ⟨fun a U g mk q => by obtain ⟨q0, q1, qP, qK, qD⟩ := q; exact ⟨q0, q1, qP, va_K.moved (u := U) (U := U.calling g mk a) (Vm.Alike.refl U.vm) qK, qD⟩, va_recv hK hPc (ci := 0) (q0 := 0) rfl rfl, fun U hU hW => ⟨rfl, by rw [hU], by rw [hU]; exact hPc, va_K.moved hW.alike hK, hDc.weaken (fun _ _ _ _ => trivial)⟩⟩ rfl rfl hl.1 rfl (lv_room (Nat.le_of_ble_eq_true rfl)) dX0_ringCount_16 ⟨Nat.le_of_ble_eq_true rfl, Nat.le_of_ble_eq_true rfl⟩) hS (fun q _ h => hFc q h) hFc (fun r16 u16 t7 H1 locs ht7 hvm7 hw16 hB hz1 hk1 hS => ?_)
      obtain ⟨hP1, hK1, hD1⟩ := hB
      rw [ht7] at hP1
      try dsimp only at hw16 hP1 hD1
      obtain ⟨hP, hD⟩ := va_join (wr := []) (w1 := [(h0, .inr (0, [.ref a1, .ref a2, .ref a3, .ref a4, .int (nI n), .int (nI dr), .int (nI sc), .ref a5, .ref a6, .ref a7])), (a1, .inl (cI, 7, .inl kA)), (a2, .inl (cI, 7, .inl hsA)), (a3, .inl (cI, 7, .inl dA)), (a4, .inl (cI, 7, .inl bA)), (a5, .inl (cI, 6, .inl pA)), (a6, .inl (cI, 6, .inl nA)), (a7, .inl (cZ, 6, .inl mA))]) hP hD [0, 1, 2, 3, 4, 5, 6, 7] [] rfl rfl (by decide) (by decide) hk1 hFc hP1 hD1
      generalize H1 = H at hP hS ⊢
      have hP := hP.sub (ws' := [(h0, .inr (0, [.ref a1, .ref a2, .ref a3, .ref a4, .int (nI n), .int (nI dr), .int (nI sc), .ref a5, .ref a6, .ref a7])), (a1, .inl (cI, 7, .inl kA)), (a2, .inl (cI, 7, .inl hsA)), (a3, .inl (cI, 7, .inl dA)), (a4, .inl (cI, 7, .inl bA)), (a5, .inl (cI, 6, .inl pA)), (a6, .inl (cI, 6, .inl nA)), (a7, .inl (cZ, 6, .inl mA))]) [0, 1, 2, 3, 4, 5, 6, 7] rfl
      have hD := hD.sub (ws' := [(h0, .inr (0, [.ref a1, .ref a2, .ref a3, .ref a4, .int (nI n), .int (nI dr), .int (nI sc), .ref a5, .ref a6, .ref a7])), (a1, .inl (cI, 7, .inl kA)), (a2, .inl (cI, 7, .inl hsA)), (a3, .inl (cI, 7, .inl dA)), (a4, .inl (cI, 7, .inl bA)), (a5, .inl (cI, 6, .inl pA)), (a6, .inl (cI, 6, .inl nA)), (a7, .inl (cZ, 6, .inl mA))]) [0, 1, 2, 3, 4, 5, 6, 7] (by decide) rfl
      obtain rfl : r16 = nI (rgS n d i) := hw16
      have hrg := rgS_lt hn7 hdn (show i < n by omega)
      refine lv_istore (lv' := [(4, .int (nI (rgS n d i))), (0, .ref h0), (1, .int (nI a)), (2, .int (nI cm)), (3, .int (nI i))]) hx hb dX0_ringCount_19 hl (by decide) rfl (fun ls hl => ?_)
      refine lv_iload hx hb dX0_ringCount_21 (lv_at hl 0 rfl) ?_
      refine lv_if_eq (tgt := 41) hx hb dX0_ringCount_23 (by decide) (fun c23 => ?_) (fun c23 => ?_)
      ·
        have c23 : (rgS n d i) = 0 := (nI_eq (a := (rgS n d i)) (b := 0) (by omega) (by omega)).mp c23
        refine lv_iinc (v := nI (i + 1)) (lv' := [(3, .int (nI (i + 1))), (4, .int (nI (rgS n d i))), (0, .ref h0), (1, .int (nI a)), (2, .int (nI cm))]) hx hb dX0_ringCount_41 hl (k := 4) rfl (show nI i + Int32.ofInt 1 = nI (i + 1) from nI_add _ _) (by decide) rfl (fun ls hl => ?_)
        refine lv_goto (tgt := 6) hx hb dX0_ringCount_44 (by decide) ?_
        exact ih6 (i + 1) a cm (by omega) (by rw [ha, rcS, if_pos c23]) (by rw [hcm, rcS, if_pos c23]) (by omega) _ _ hP hD hS ls (lv_sub hl [2, 3, 4, 0] rfl)
      have c23 : ¬ (rgS n d i) = 0 := fun z => c23 ((nI_eq (a := (rgS n d i)) (b := 0) (by omega) (by omega)).mpr z)
      refine lv_iload hx hb dX0_ringCount_26 (lv_at hl 0 rfl) ?_
      refine lv_iload_n hx hb dX0_ringCount_28 rfl (lv_at hl 3 rfl) ?_
      refine lv_iand hx hb dX0_ringCount_29 ?_
      refine lv_topi (fun x29 e29 => ?_)
      obtain rfl : x29 = nI ((rgS n d i) &&& cm) := e29.trans (and_nI _ _)
      have hand := Nat.and_le_left (n := rgS n d i) (m := cm)
      refine lv_if_ne (tgt := 41) hx hb dX0_ringCount_30 (by decide) (fun c30 => ?_) (fun c30 => ?_)
      ·
        have c30 : ¬ ((rgS n d i) &&& cm) = 0 := fun z => c30 ((nI_eq (a := ((rgS n d i) &&& cm)) (b := 0) (by omega) (by omega)).mpr z)
        refine lv_iinc (v := nI (i + 1)) (lv' := [(3, .int (nI (i + 1))), (4, .int (nI (rgS n d i))), (0, .ref h0), (1, .int (nI a)), (2, .int (nI cm))]) hx hb dX0_ringCount_41 hl (k := 4) rfl (show nI i + Int32.ofInt 1 = nI (i + 1) from nI_add _ _) (by decide) rfl (fun ls hl => ?_)
        refine lv_goto (tgt := 6) hx hb dX0_ringCount_44 (by decide) ?_
        exact ih6 (i + 1) a cm (by omega) (by rw [ha, rcS, if_neg c23, if_neg (by rw [← hcm]; exact c30)]) (by rw [hcm, rcS, if_neg c23, if_neg (by rw [← hcm]; exact c30)]) (by omega) _ _ hP hD hS ls (lv_sub hl [2, 3, 4, 0] rfl)
      have c30 : ((rgS n d i) &&& cm) = 0 := (nI_eq (a := ((rgS n d i) &&& cm)) (b := 0) (by omega) (by omega)).mp c30
      refine lv_iinc (v := nI (a + 1)) (lv' := [(1, .int (nI (a + 1))), (4, .int (nI (rgS n d i))), (0, .ref h0), (2, .int (nI cm)), (3, .int (nI i))]) hx hb dX0_ringCount_33 hl (k := 2) rfl (show nI a + Int32.ofInt 1 = nI (a + 1) from nI_add _ _) (by decide) rfl (fun ls hl => ?_)
      refine lv_iload_n hx hb dX0_ringCount_36 rfl (lv_at hl 3 rfl) ?_
      refine lv_iload hx hb dX0_ringCount_37 (lv_at hl 1 rfl) ?_
      refine lv_ior hx hb dX0_ringCount_39 ?_
      refine lv_topi (fun x39 e39 => ?_)
      obtain rfl : x39 = nI (cm ||| (rgS n d i)) := e39.trans (or_nI _ _)
      refine lv_istore_n (lv' := [(2, .int (nI (cm ||| (rgS n d i)))), (1, .int (nI (a + 1))), (4, .int (nI (rgS n d i))), (0, .ref h0), (3, .int (nI i))]) hx hb dX0_ringCount_40 rfl hl (by decide) rfl (fun ls hl => ?_)
      refine lv_iinc (v := nI (i + 1)) (lv' := [(3, .int (nI (i + 1))), (2, .int (nI (cm ||| (rgS n d i)))), (1, .int (nI (a + 1))), (4, .int (nI (rgS n d i))), (0, .ref h0)]) hx hb dX0_ringCount_41 hl (k := 4) rfl (show nI i + Int32.ofInt 1 = nI (i + 1) from nI_add _ _) (by decide) rfl (fun ls hl => ?_)
      refine lv_goto (tgt := 6) hx hb dX0_ringCount_44 (by decide) ?_
      exact ih6 (i + 1) (a + 1) (cm ||| (rgS n d i)) (by omega) (by rw [ha, rcS, if_neg c23, if_pos (by rw [← hcm]; exact c30)]) (by rw [hcm, rcS, if_neg c23, if_pos (by rw [← hcm]; exact c30)]) (by omega) _ _ hP hD hS ls (lv_sub hl [4, 2, 1, 0] rfl)
  exact L6 _ 0 0 0 (by omega) (rfl) (rfl) (Nat.lt_succ_self _) _ _ hP hD hS ls (lv_sub hl [3, 2, 1, 0] rfl)

set_option maxHeartbeats 4000000 in
set_option maxRecDepth 100000 in
theorem KX0_longestRing (l : Launch) (dC : Nat → ClassId) (dI0 : Nat → Nat → Nat) (cI cZ : ClassId) (h0 : Nat) (a1 : Nat) (a2 : Nat) (a3 : Nat) (a4 : Nat) (a5 : Nat) (a6 : Nat) (a7 : Nat) (n : Nat) (dr : Nat) (sc : Nat) (kA : Nat → Int32) (hsA : Nat → Int32) (dA : Nat → Int32) (bA : Nat → Int32) (pA : Nat → Int32) (nA : Nat → Int32) (mA : Nat → Int32) (sz : Nat) (k : Nat → Nat) (h : Nat → Nat) (b : Nat → Nat) (d : Nat → Option Nat) (hC : CoR n kA hsA dA bA k h b d) : Met l yX0_longestRing wsX0_longestRing ({ frames := 1, cells := 0, slots := 0, locals := 24 } : Room) (va_Pc [.ref h0] (fun U => U.heap.size = sz ∧ va_P (dC, dI0) vwCl (WCo cI cZ h0 a1 a2 a3 a4 a5 a6 a7 n dr sc kA hsA dA bA pA nA mA) U.heap ∧ va_K (dC, dI0) vwCl [(cI, .int), (cZ, .boolean)] U ∧ va_D (fun _ => True) (WCo cI cZ h0 a1 a2 a3 a4 a5 a6 a7 n dr sc kA hsA dA bA pA nA mA))) (va_Qi (fun (r : Int32) (u : Unit) => r = nI (mxS (fun p => pop (rgS n d p)) n)) (fun (u : Unit) (t : State) => va_P (dC, dI0) vwCl (WCo cI cZ h0 a1 a2 a3 a4 a5 a6 a7 n dr sc kA hsA dA bA pA nA mA) t.heap ∧ va_K (dC, dI0) vwCl [(cI, .int), (cZ, .boolean)] t ∧ va_D (va_A (WCo cI cZ h0 a1 a2 a3 a4 a5 a6 a7 n dr sc kA hsA dA bA pA nA mA) sz) (WCo cI cZ h0 a1 a2 a3 a4 a5 a6 a7 n dr sc kA hsA dA bA pA nA mA)) (va_A (WCo cI cZ h0 a1 a2 a3 a4 a5 a6 a7 n dr sc kA hsA dA bA pA nA mA) sz)) 0 0 (va_A (WCo cI cZ h0 a1 a2 a3 a4 a5 a6 a7 n dr sc kA hsA dA bA pA nA mA) sz) := by
  refine Met.ofW (cc := cX0_longestRing) (maxL := 3) (ret := (some .int)) (by decide) rfl ?_
  intro prg env s m args below meth c s₁ B hml hv
  obtain ⟨rfl, hsz, hP, hK, hD0⟩ := hv
  have hx := B.exec
  have hb := B.bytes
  have hr := B.returns
  have hts := atoms_spec (ws := wsX0_longestRing) B.pre
  have hown : s.vm.findClass RX0 = some m.cls := findClass_of_methodNamed B.named
  have hlocks := B.notSynchronized
  subst hsz
  have hD := hD0.self (sz := s.heap.size)
  generalize hAe : va_A (WCo cI cZ h0 a1 a2 a3 a4 a5 a6 a7 n dr sc kA hsA dA bA pA nA mA) s.heap.size = A at hD ⊢
  have hA : ∀ q : Nat, s.heap.size ≤ q → A q := fun q h => by rw [← hAe]; exact Or.inr h
  have hS : va_S A s.heap s.heap [] := va_S.rf
  have hP : va_P (dC, dI0) vwCl [(h0, .inr (0, [.ref a1, .ref a2, .ref a3, .ref a4, .int (nI n), .int (nI dr), .int (nI sc), .ref a5, .ref a6, .ref a7])), (a1, .inl (cI, 7, .inl kA)), (a2, .inl (cI, 7, .inl hsA)), (a3, .inl (cI, 7, .inl dA)), (a4, .inl (cI, 7, .inl bA)), (a5, .inl (cI, 6, .inl pA)), (a6, .inl (cI, 6, .inl nA)), (a7, .inl (cZ, 6, .inl mA))] s.heap := hP
  have hD : va_D A [(h0, .inr (0, [.ref a1, .ref a2, .ref a3, .ref a4, .int (nI n), .int (nI dr), .int (nI sc), .ref a5, .ref a6, .ref a7])), (a1, .inl (cI, 7, .inl kA)), (a2, .inl (cI, 7, .inl hsA)), (a3, .inl (cI, 7, .inl dA)), (a4, .inl (cI, 7, .inl bA)), (a5, .inl (cI, 6, .inl pA)), (a6, .inl (cI, 6, .inl nA)), (a7, .inl (cZ, 6, .inl mA))] := hD
  have hl := lv_entry ([.ref h0]) (n := 3) (Nat.le_of_ble_eq_true rfl)
  rw [lg_entry_eq]
  generalize (lg_sl ([.ref h0]) ++ List.replicate (3 - (lg_sl ([.ref h0])).length) Slot.unset).toArray = ls at hl ⊢
  have hl : lv_has ls 3 [(0, .ref h0)] := hl
  obtain ⟨H, hH⟩ : ∃ H : Heap, H = s.heap := ⟨_, rfl⟩
  rw [← hH] at hP ⊢
  have hS : va_S A s.heap H [] := by rw [hH]; exact hS
  refine w_gen (fun Q hQ => ?_)
  have hin_X0 : ∀ w ∈ wsX00, w ∈ wsX0_longestRing := by decide +kernel
  have hf46 := hts (.fieldLink RX0 46 "HatNames$Company" "size" "I") (by decide +kernel)
  have hmmax1 := hts (.methodLink RX0 98 Lib.Math.max.name) (by decide +kernel)
  have hmmax2 := hts (.static Lib.Math.max.name) (by decide +kernel)
  have hm3 := hts (.initialized "java/lang/Math") (by decide +kernel)
  have hmmax4 := hts (.code Lib.Math.max.name Lib.Math.max.code 2 (some .int)) (by decide +kernel)
  obtain ⟨hn7, hkk, hhh, hbb, hdd, hdn, hdi⟩ := id hC
  refine lv_iconst (v := nI 0) hx hb dX0_longestRing_0 (by decide) ?_
  refine lv_istore_n (lv' := [(1, .int (nI 0)), (0, .ref h0)]) hx hb dX0_longestRing_1 rfl hl (by decide) rfl (fun ls hl => ?_)
  refine lv_iconst (v := nI 0) hx hb dX0_longestRing_2 (by decide) ?_
  refine lv_istore_n (lv' := [(2, .int (nI 0)), (1, .int (nI 0)), (0, .ref h0)]) hx hb dX0_longestRing_3 rfl hl (by decide) rfl (fun ls hl => ?_)
  have L4 : ∀ (fu : Nat) (i : Nat) (a : Nat), i ≤ n → a ≤ 7 → a = mxS (fun p => pop (rgS n d p)) i → n - i < fu → ∀ (H : Heap) (locs : List Loc), va_P (dC, dI0) vwCl [(h0, .inr (0, [.ref a1, .ref a2, .ref a3, .ref a4, .int (nI n), .int (nI dr), .int (nI sc), .ref a5, .ref a6, .ref a7])), (a1, .inl (cI, 7, .inl kA)), (a2, .inl (cI, 7, .inl hsA)), (a3, .inl (cI, 7, .inl dA)), (a4, .inl (cI, 7, .inl bA)), (a5, .inl (cI, 6, .inl pA)), (a6, .inl (cI, 6, .inl nA)), (a7, .inl (cZ, 6, .inl mA))] H → va_D A [(h0, .inr (0, [.ref a1, .ref a2, .ref a3, .ref a4, .int (nI n), .int (nI dr), .int (nI sc), .ref a5, .ref a6, .ref a7])), (a1, .inl (cI, 7, .inl kA)), (a2, .inl (cI, 7, .inl hsA)), (a3, .inl (cI, 7, .inl dA)), (a4, .inl (cI, 7, .inl bA)), (a5, .inl (cI, 6, .inl pA)), (a6, .inl (cI, 6, .inl nA)), (a7, .inl (cZ, 6, .inl mA))] → va_S A s.heap H locs → ∀ (ls : Array Slot), lv_has ls 3 [(0, .ref h0), (1, .int (nI a)), (2, .int (nI i))] → W prg l env ({ frames := 1, cells := 0, slots := 0, locals := 24 } : Room) s m ([.ref h0] : List Value).toArray below meth c H locs 0 0 Q (F0 m 4 ls []) := by
    intro fu
    induction fu with
    | zero => intro i a hi ha7 ha hmu; exact absurd hmu (Nat.not_lt_zero _)
    | succ fu ih4 =>
      intro i a hi ha7 ha hmu4 H locs hP hD hS ls hl
      refine lv_iload_n hx hb dX0_longestRing_4 rfl (lv_at hl 2 rfl) ?_
      refine lv_aload_n hx hb dX0_longestRing_5 rfl (lv_at hl 0 rfl) ?_
      refine va_get (D := (dC, dI0)) (ci := 0) (v := .int (nI n)) (C := RX0) (T := TX0) (N := 10) hx hb hts hin_X0 hown hK hP 0 rfl rfl 4 (by decide) hf46 (fun _ h9 => h9) rfl dX0_longestRing_6 ?_
      refine lv_icmp_ge (tgt := 31) hx hb dX0_longestRing_9 (by decide) (fun c9 => ?_) (fun c9 => ?_)
      ·
        have c9 : n ≤ i := (nI_leI (a := n) (b := i) (by omega) (by omega)).mp c9
        refine lv_iload_n hx hb dX0_longestRing_31 rfl (lv_at hl 1 rfl) ?_
        subst hQ
        have hP9 : va_P (dC, dI0) vwCl [(h0, .inr (0, [.ref a1, .ref a2, .ref a3, .ref a4, .int (nI n), .int (nI dr), .int (nI sc), .ref a5, .ref a6, .ref a7])), (a1, .inl (cI, 7, .inl kA)), (a2, .inl (cI, 7, .inl hsA)), (a3, .inl (cI, 7, .inl dA)), (a4, .inl (cI, 7, .inl bA)), (a5, .inl (cI, 6, .inl pA)), (a6, .inl (cI, 6, .inl nA)), (a7, .inl (cZ, 6, .inl mA))] H := hP
        have hD9 : va_D A [(h0, .inr (0, [.ref a1, .ref a2, .ref a3, .ref a4, .int (nI n), .int (nI dr), .int (nI sc), .ref a5, .ref a6, .ref a7])), (a1, .inl (cI, 7, .inl kA)), (a2, .inl (cI, 7, .inl hsA)), (a3, .inl (cI, 7, .inl dA)), (a4, .inl (cI, 7, .inl bA)), (a5, .inl (cI, 6, .inl pA)), (a6, .inl (cI, 6, .inl nA)), (a7, .inl (cZ, 6, .inl mA))] := hD
        exact W.iret (v := nI a) hx hb hr (fun t9 ht9 hW9 => ⟨⟨nI a, (), rfl, by rw [ha, show i = n by omega], by rw [ht9]; exact hP9, va_K.moved hW9.alike hK, hD9⟩, hS.F ht9⟩) hS.2.2 dX0_longestRing_32
      have c9 : ¬ n ≤ i := fun z => c9 ((nI_leI (a := n) (b := i) (by omega) (by omega)).mpr z)
      refine lv_iload_n hx hb dX0_longestRing_12 rfl (lv_at hl 1 rfl) ?_
      refine lv_aload_n hx hb dX0_longestRing_13 rfl (lv_at hl 0 rfl) ?_
      refine lv_iload_n hx hb dX0_longestRing_14 rfl (lv_at hl 2 rfl) ?_
      have hPc := hP.sub (ws' := [(h0, .inr (0, [.ref a1, .ref a2, .ref a3, .ref a4, .int (nI n), .int (nI dr), .int (nI sc), .ref a5, .ref a6, .ref a7])), (a1, .inl (cI, 7, .inl kA)), (a2, .inl (cI, 7, .inl hsA)), (a3, .inl (cI, 7, .inl dA)), (a4, .inl (cI, 7, .inl bA)), (a5, .inl (cI, 6, .inl pA)), (a6, .inl (cI, 6, .inl nA)), (a7, .inl (cZ, 6, .inl mA))]) [0, 1, 2, 3, 4, 5, 6, 7] rfl
      have hDc := hD.sub (ws' := [(h0, .inr (0, [.ref a1, .ref a2, .ref a3, .ref a4, .int (nI n), .int (nI dr), .int (nI sc), .ref a5, .ref a6, .ref a7])), (a1, .inl (cI, 7, .inl kA)), (a2, .inl (cI, 7, .inl hsA)), (a3, .inl (cI, 7, .inl dA)), (a4, .inl (cI, 7, .inl bA)), (a5, .inl (cI, 6, .inl pA)), (a6, .inl (cI, 6, .inl nA)), (a7, .inl (cZ, 6, .inl mA))]) [0, 1, 2, 3, 4, 5, 6, 7] (by decide) rfl
      have hFc := va_free (wc := [(h0, .inr (0, [.ref a1, .ref a2, .ref a3, .ref a4, .int (nI n), .int (nI dr), .int (nI sc), .ref a5, .ref a6, .ref a7])), (a1, .inl (cI, 7, .inl kA)), (a2, .inl (cI, 7, .inl hsA)), (a3, .inl (cI, 7, .inl dA)), (a4, .inl (cI, 7, .inl bA)), (a5, .inl (cI, 6, .inl pA)), (a6, .inl (cI, 6, .inl nA)), (a7, .inl (cZ, 6, .inl mA))]) hD hS hA [0, 1, 2, 3, 4, 5, 6, 7] rfl
      refine va_calli (va_runV (As := [.int (nI i)]) (rest := [.int (nI a)]) ⟨hx, hb, hml, hown, hts⟩ (KX0_ringOf l dC dI0 cI cZ h0 a1 a2 a3 a4 a5 a6 a7 n dr sc kA hsA dA bA pA nA mA H.size k h b d i (by first | assumption | omega) (by first | assumption | omega)) (cwV 1 hts gX0_longestRing_X0_ringOf rfl rfl rfl (by decide +kernel) ⟨Nat.le_of_ble_eq_true rfl, Nat.le_of_ble_eq_true rfl⟩) ⟨fun a U g mk q => by obtain ⟨q0, q1, qP, qK, qD⟩ := q; exact ⟨q0, q1, qP, va_K.moved (u := U) (U := U.calling g mk a) (Vm.Alike.refl U.vm) qK, qD⟩, va_recv hK hPc (ci := 0) (q0 := 0) rfl rfl, fun U hU hW => ⟨rfl, by rw [hU], by rw [hU]; exact hPc, va_K.moved hW.alike hK, hDc.weaken (fun _ _ _ _ => trivial)⟩⟩ rfl rfl hl.1 rfl (lv_room (Nat.le_of_ble_eq_true rfl)) dX0_longestRing_15 ⟨Nat.le_of_ble_eq_true rfl, Nat.le_of_ble_eq_true rfl⟩) hS (fun q _ h => hFc q h) hFc (fun r15 u15 t7 H1 locs ht7 hvm7 hw15 hB hz1 hk1 hS => ?_)
      obtain ⟨hP1, hK1, hD1⟩ := hB
      rw [ht7] at hP1
      try dsimp only at hw15 hP1 hD1
      obtain ⟨hP, hD⟩ := va_join (wr := []) (w1 := [(h0, .inr (0, [.ref a1, .ref a2, .ref a3, .ref a4, .int (nI n), .int (nI dr), .int (nI sc), .ref a5, .ref a6, .ref a7])), (a1, .inl (cI, 7, .inl kA)), (a2, .inl (cI, 7, .inl hsA)), (a3, .inl (cI, 7, .inl dA)), (a4, .inl (cI, 7, .inl bA)), (a5, .inl (cI, 6, .inl pA)), (a6, .inl (cI, 6, .inl nA)), (a7, .inl (cZ, 6, .inl mA))]) hP hD [0, 1, 2, 3, 4, 5, 6, 7] [] rfl rfl (by decide) (by decide) hk1 hFc hP1 hD1
      generalize H1 = H at hP hS ⊢
      have hP := hP.sub (ws' := [(h0, .inr (0, [.ref a1, .ref a2, .ref a3, .ref a4, .int (nI n), .int (nI dr), .int (nI sc), .ref a5, .ref a6, .ref a7])), (a1, .inl (cI, 7, .inl kA)), (a2, .inl (cI, 7, .inl hsA)), (a3, .inl (cI, 7, .inl dA)), (a4, .inl (cI, 7, .inl bA)), (a5, .inl (cI, 6, .inl pA)), (a6, .inl (cI, 6, .inl nA)), (a7, .inl (cZ, 6, .inl mA))]) [0, 1, 2, 3, 4, 5, 6, 7] rfl
      have hD := hD.sub (ws' := [(h0, .inr (0, [.ref a1, .ref a2, .ref a3, .ref a4, .int (nI n), .int (nI dr), .int (nI sc), .ref a5, .ref a6, .ref a7])), (a1, .inl (cI, 7, .inl kA)), (a2, .inl (cI, 7, .inl hsA)), (a3, .inl (cI, 7, .inl dA)), (a4, .inl (cI, 7, .inl bA)), (a5, .inl (cI, 6, .inl pA)), (a6, .inl (cI, 6, .inl nA)), (a7, .inl (cZ, 6, .inl mA))]) [0, 1, 2, 3, 4, 5, 6, 7] (by decide) rfl
      obtain rfl : r15 = nI (rgS n d i) := hw15
      have hrg := rgS_lt hn7 hdn (show i < n by omega)
      have hPc := hP.sub (ws' := []) [] rfl
      have hDc := hD.sub (ws' := []) [] (by decide) rfl
      have hFc := va_free (wc := []) hD hS hA [] rfl
      refine va_calli (va_runS (As := [.int (nI (rgS n d i))]) (rest := [.int (nI a)]) ⟨hx, hb, hml, hown, hts⟩ (KJ6_bitCount_0f7a4 l dC dI0 cI cZ  H.size (rgS n d i) (by first | assumption | omega)) (va_cwS 1 hts gX0_longestRing_J6_bitCount_0f7a4 rfl rfl rfl (by decide +kernel) ⟨Nat.le_of_ble_eq_true rfl, Nat.le_of_ble_eq_true rfl⟩) ⟨fun a U g mk q => by obtain ⟨q0, q1, qP, qK, qD⟩ := q; exact ⟨q0, q1, qP, va_K.moved (u := U) (U := U.calling g mk a) (Vm.Alike.refl U.vm) qK, qD⟩, fun U hU hW => ⟨rfl, by rw [hU], by rw [hU]; exact hPc, va_K.moved hW.alike hK, hDc.weaken (fun _ _ _ _ => trivial)⟩⟩ rfl rfl hl.1 rfl (lv_room (Nat.le_of_ble_eq_true rfl)) dX0_longestRing_18 ⟨Nat.le_of_ble_eq_true rfl, Nat.le_of_ble_eq_true rfl⟩) hS (fun q _ h => hFc q h) hFc (fun r18 u18 t7 H1 locs ht7 hvm7 hw18 hB hz1 hk1 hS => ?_)
      obtain ⟨hP1, hK1, hD1⟩ := hB
      rw [ht7] at hP1
      try dsimp only at hw18 hP1 hD1
      obtain ⟨hP, hD⟩ := va_join (wr := [(h0, .inr (0, [.ref a1, .ref a2, .ref a3, .ref a4, .int (nI n), .int (nI dr), .int (nI sc), .ref a5, .ref a6, .ref a7])), (a1, .inl (cI, 7, .inl kA)), (a2, .inl (cI, 7, .inl hsA)), (a3, .inl (cI, 7, .inl dA)), (a4, .inl (cI, 7, .inl bA)), (a5, .inl (cI, 6, .inl pA)), (a6, .inl (cI, 6, .inl nA)), (a7, .inl (cZ, 6, .inl mA))]) (w1 := []) hP hD [] [0, 1, 2, 3, 4, 5, 6, 7] rfl rfl (by decide) (by decide) hk1 hFc hP1 hD1
      generalize H1 = H at hP hS ⊢
      have hP := hP.sub (ws' := [(h0, .inr (0, [.ref a1, .ref a2, .ref a3, .ref a4, .int (nI n), .int (nI dr), .int (nI sc), .ref a5, .ref a6, .ref a7])), (a1, .inl (cI, 7, .inl kA)), (a2, .inl (cI, 7, .inl hsA)), (a3, .inl (cI, 7, .inl dA)), (a4, .inl (cI, 7, .inl bA)), (a5, .inl (cI, 6, .inl pA)), (a6, .inl (cI, 6, .inl nA)), (a7, .inl (cZ, 6, .inl mA))]) [0, 1, 2, 3, 4, 5, 6, 7] rfl
      have hD := hD.sub (ws' := [(h0, .inr (0, [.ref a1, .ref a2, .ref a3, .ref a4, .int (nI n), .int (nI dr), .int (nI sc), .ref a5, .ref a6, .ref a7])), (a1, .inl (cI, 7, .inl kA)), (a2, .inl (cI, 7, .inl hsA)), (a3, .inl (cI, 7, .inl dA)), (a4, .inl (cI, 7, .inl bA)), (a5, .inl (cI, 6, .inl pA)), (a6, .inl (cI, 6, .inl nA)), (a7, .inl (cZ, 6, .inl mA))]) [0, 1, 2, 3, 4, 5, 6, 7] (by decide) rfl
      obtain rfl : r18 = nI (pop (rgS n d i)) := hw18
      refine va_mmax hx hb (by rw [hml]; exact hl.1.symm) hown hmmax1 hmmax2 hm3 hmmax4 (Nat.le_of_ble_eq_true rfl) (Nat.le_of_ble_eq_true rfl) (Nat.zero_le _) (Nat.zero_le _) dX0_longestRing_21 ?_
      refine lv_topi (fun x21 e21 => ?_)
      obtain rfl : x21 = nI (max a (pop (rgS n d i))) := e21.trans (max_nI (by omega) (by have := pop_le (rgS n d i); omega))
      refine lv_istore_n (lv' := [(1, .int (nI (max a (pop (rgS n d i))))), (0, .ref h0), (2, .int (nI i))]) hx hb dX0_longestRing_24 rfl hl (by decide) rfl (fun ls hl => ?_)
      refine lv_iinc (v := nI (i + 1)) (lv' := [(2, .int (nI (i + 1))), (1, .int (nI (max a (pop (rgS n d i))))), (0, .ref h0)]) hx hb dX0_longestRing_25 hl (k := 2) rfl (show nI i + Int32.ofInt 1 = nI (i + 1) from nI_add _ _) (by decide) rfl (fun ls hl => ?_)
      refine lv_goto (tgt := 4) hx hb dX0_longestRing_28 (by decide) ?_
      exact ih4 (i + 1) (max a (pop (rgS n d i))) (by omega) (by have := pop_le (rgS n d i); omega) (by rw [ha]; rfl) (by omega) _ _ hP hD hS ls (lv_sub hl [2, 1, 0] rfl)
  exact L4 _ 0 0 (by omega) (by omega) (rfl) (Nat.lt_succ_self _) _ _ hP hD hS ls (lv_sub hl [2, 1, 0] rfl)
