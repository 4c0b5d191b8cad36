abbrev WOu (cI cZ : ClassId) (h1 : Nat) (o1 : Nat) (o2 : Nat) (o3 : Nat) (o4 : Nat) (o5 : Nat) (o6 : Nat) (on : Nat) (ev : Nat) (cA : Nat → Int32) (wA : Nat → Int32) (rA : Nat → Int32) (xA : Nat → Int32) (tA : Nat → Int32) (gA : Nat → Int32) : va_W := [(h1, .inr (1, [.ref o1, .ref o2, .ref o3, .ref o4, .ref o5, .ref o6, .int (nI on), .int (nI ev)])), (o1, .inl (cI, 7, .inl cA)), (o2, .inl (cI, 128, .inl wA)), (o3, .inl (cI, 128, .inl rA)), (o4, .inl (cI, 128, .inl xA)), (o5, .inl (cI, 49, .inl tA)), (o6, .inl (cI, 896, .inl gA))]
abbrev WOC (cI cZ : ClassId) (h1 : Nat) (o1 : Nat) (o2 : Nat) (o3 : Nat) (o4 : Nat) (o5 : Nat) (o6 : Nat) (on : Nat) (ev : Nat) (cA : Nat → Int32) (wA : Nat → Int32) (rA : Nat → Int32) (xA : Nat → Int32) (tA : Nat → Int32) (gA : Nat → Int32) (h0 : Nat) (a1 : Nat) (a2 : Nat) (a3 : Nat) (a4 : Nat) (a5 : Nat) (a6 : Nat) (a7 : Nat) (n : Nat) (dr : Nat) (sc : Nat) (kA : Nat → Int32) (hsA : Nat → Int32) (dA : Nat → Int32) (bA : Nat → Int32) (pA : Nat → Int32) (nA : Nat → Int32) (mA : Nat → Int32) : va_W := [(h1, .inr (1, [.ref o1, .ref o2, .ref o3, .ref o4, .ref o5, .ref o6, .int (nI on), .int (nI ev)])), (o1, .inl (cI, 7, .inl cA)), (o2, .inl (cI, 128, .inl wA)), (o3, .inl (cI, 128, .inl rA)), (o4, .inl (cI, 128, .inl xA)), (o5, .inl (cI, 49, .inl tA)), (o6, .inl (cI, 896, .inl gA)), (h0, .inr (0, [.ref a1, .ref a2, .ref a3, .ref a4, .int (nI n), .int (nI dr), .int (nI sc), .ref a5, .ref a6, .ref a7])), (a1, .inl (cI, 7, .inl kA)), (a2, .inl (cI, 7, .inl hsA)), (a3, .inl (cI, 7, .inl dA)), (a4, .inl (cI, 7, .inl bA)), (a5, .inl (cI, 6, .inl pA)), (a6, .inl (cI, 6, .inl nA)), (a7, .inl (cZ, 6, .inl mA))]
set_option maxHeartbeats 4000000 in
set_option maxRecDepth 100000 in
theorem KX1_isIn (l : Launch) (dC : Nat → ClassId) (dI0 : Nat → Nat → Nat) (cI cZ : ClassId) (sz : Nat) (S : Nat) (q : Nat) (hS31 : S < 2 ^ 31) (hq32 : q < 32) : Met l yX1_isIn wsX1_isIn ({ frames := 0, cells := 0, slots := 0, locals := 0 } : Room) (va_Pc [.int (nI S), .int (nI q)] (fun U => U.heap.size = sz ∧ va_P (dC, dI0) vwCl (WE0 cI cZ ) U.heap ∧ va_K (dC, dI0) vwCl [(cI, .int), (cZ, .boolean)] U ∧ va_D (fun _ => True) (WE0 cI cZ ))) (va_Qi (fun (r : Int32) (u : Unit) => r = bI (S.testBit q)) (fun (u : Unit) (t : State) => va_P (dC, dI0) vwCl (WE0 cI cZ ) t.heap ∧ va_K (dC, dI0) vwCl [(cI, .int), (cZ, .boolean)] t ∧ va_D (va_A (WE0 cI cZ ) sz) (WE0 cI cZ )) (va_A (WE0 cI cZ ) sz)) 0 0 (va_A (WE0 cI cZ ) sz) := by
  refine Met.ofW (cc := cX1_isIn) (maxL := 2) (ret := (some .boolean)) (by decide) rfl ?_
  intro prg env s m args below meth c s₁ B hml hv
  obtain ⟨rfl, hsz, hP, hK, hD0⟩ := hv
  have hx := B.exec
  have hb := B.bytes
  have hr := B.returns
  have hts := atoms_spec (ws := wsX1_isIn) B.pre
  have hown : s.vm.findClass RX1 = some m.cls := findClass_of_methodNamed B.named
  have hlocks := B.notSynchronized
  subst hsz
  have hD := hD0.self (sz := s.heap.size)
  generalize hAe : va_A (WE0 cI cZ ) s.heap.size = A at hD ⊢
  have hA : ∀ q : Nat, s.heap.size ≤ q → A q := fun q h => by rw [← hAe]; exact Or.inr h
  have hS : va_S A s.heap s.heap [] := va_S.rf
  have hP : va_P (dC, dI0) vwCl [] s.heap := hP
  have hD : va_D A [] := hD
  have hl := lv_entry ([.int (nI S), .int (nI q)]) (n := 2) (Nat.le_of_ble_eq_true rfl)
  rw [lg_entry_eq]
  generalize (lg_sl ([.int (nI S), .int (nI q)]) ++ List.replicate (2 - (lg_sl ([.int (nI S), .int (nI q)])).length) Slot.unset).toArray = ls at hl ⊢
  have hl : lv_has ls 2 [(0, .int (nI S)), (1, .int (nI q))] := hl
  obtain ⟨H, hH⟩ : ∃ H : Heap, H = s.heap := ⟨_, rfl⟩
  rw [← hH] at hP ⊢
  have hS : va_S A s.heap H [] := by rw [hH]; exact hS
  refine w_gen (fun Q hQ => ?_)
  refine lv_iload_n hx hb dX1_isIn_0 rfl (lv_at hl 0 rfl) ?_
  refine lv_iload_n hx hb dX1_isIn_1 rfl (lv_at hl 1 rfl) ?_
  refine lv_ishr hx hb dX1_isIn_2 ?_
  refine lv_topi (fun x2 e2 => ?_)
  obtain rfl : x2 = nI (S / 2 ^ q) := e2.trans (shr_nI (by omega) (by omega))
  refine lv_iconst (v := nI 1) hx hb dX1_isIn_3 (by decide) ?_
  refine lv_iand hx hb dX1_isIn_4 ?_
  refine lv_topi (fun x4 e4 => ?_)
  obtain rfl : x4 = nI ((S / 2 ^ q) % 2) := e4.trans (and_1 _)
  refine lv_iconst (v := nI 1) hx hb dX1_isIn_5 (by decide) ?_
  refine lv_icmp_ne (tgt := 13) hx hb dX1_isIn_6 (by decide) (fun c6 => ?_) (fun c6 => ?_)
  ·
    have c6 : ¬ ((S / 2 ^ q) % 2) = 1 := fun z => c6 ((nI_eq (a := ((S / 2 ^ q) % 2)) (b := 1) (by omega) (by omega)).mpr z)
    refine lv_iconst (v := nI 0) hx hb dX1_isIn_13 (by decide) ?_
    subst hQ
    have hP9 : va_P (dC, dI0) vwCl [] H := hP
    have hD9 : va_D A [] := hD
    exact W.zret (v := nI 0) hx hb hr (nar_z false) (fun t9 ht9 hW9 => ⟨⟨nI 0, (), rfl, bI_2 (tb_0 c6), by rw [ht9]; exact hP9, va_K.moved hW9.alike hK, hD9⟩, hS.F ht9⟩) hS.2.2 dX1_isIn_14
  have c6 : ((S / 2 ^ q) % 2) = 1 := (nI_eq (a := ((S / 2 ^ q) % 2)) (b := 1) (by omega) (by omega)).mp c6
  refine lv_iconst (v := nI 1) hx hb dX1_isIn_9 (by decide) ?_
  refine lv_goto (tgt := 14) hx hb dX1_isIn_10 (by decide) ?_
  subst hQ
  have hP9 : va_P (dC, dI0) vwCl [] H := hP
  have hD9 : va_D A [] := hD
  exact W.zret (v := nI 1) hx hb hr (nar_z true) (fun t9 ht9 hW9 => ⟨⟨nI 1, (), rfl, bI_1 (tb_1 c6), by rw [ht9]; exact hP9, va_K.moved hW9.alike hK, hD9⟩, hS.F ht9⟩) hS.2.2 dX1_isIn_14

set_option maxHeartbeats 4000000 in
set_option maxRecDepth 100000 in
theorem KX1_cell (l : Launch) (dC : Nat → ClassId) (dI0 : Nat → Nat → Nat) (cI cZ : ClassId) (sz : Nat) (r0 : Nat) (q : Nat) : Met l yX1_cell wsX1_cell ({ frames := 0, cells := 0, slots := 0, locals := 0 } : Room) (va_Pc [.int (nI r0), .int (nI q)] (fun U => U.heap.size = sz ∧ va_P (dC, dI0) vwCl (WE0 cI cZ ) U.heap ∧ va_K (dC, dI0) vwCl [(cI, .int), (cZ, .boolean)] U ∧ va_D (fun _ => True) (WE0 cI cZ ))) (va_Qi (fun (r : Int32) (u : Unit) => r = nI (r0 * 7 + q)) (fun (u : Unit) (t : State) => va_P (dC, dI0) vwCl (WE0 cI cZ ) t.heap ∧ va_K (dC, dI0) vwCl [(cI, .int), (cZ, .boolean)] t ∧ va_D (va_A (WE0 cI cZ ) sz) (WE0 cI cZ )) (va_A (WE0 cI cZ ) sz)) 0 0 (va_A (WE0 cI cZ ) sz) := by
  refine Met.ofW (cc := cX1_cell) (maxL := 2) (ret := (some .int)) (by decide) rfl ?_
  intro prg env s m args below meth c s₁ B hml hv
  obtain ⟨rfl, hsz, hP, hK, hD0⟩ := hv
  have hx := B.exec
  have hb := B.bytes
  have hr := B.returns
  have hts := atoms_spec (ws := wsX1_cell) B.pre
  have hown : s.vm.findClass RX1 = some m.cls := findClass_of_methodNamed B.named
  have hlocks := B.notSynchronized
  subst hsz
  have hD := hD0.self (sz := s.heap.size)
  generalize hAe : va_A (WE0 cI cZ ) s.heap.size = A at hD ⊢
  have hA : ∀ q : Nat, s.heap.size ≤ q → A q := fun q h => by rw [← hAe]; exact Or.inr h
  have hS : va_S A s.heap s.heap [] := va_S.rf
  have hP : va_P (dC, dI0) vwCl [] s.heap := hP
  have hD : va_D A [] := hD
  have hl := lv_entry ([.int (nI r0), .int (nI q)]) (n := 2) (Nat.le_of_ble_eq_true rfl)
  rw [lg_entry_eq]
  generalize (lg_sl ([.int (nI r0), .int (nI q)]) ++ List.replicate (2 - (lg_sl ([.int (nI r0), .int (nI q)])).length) Slot.unset).toArray = ls at hl ⊢
  have hl : lv_has ls 2 [(0, .int (nI r0)), (1, .int (nI q))] := hl
  obtain ⟨H, hH⟩ : ∃ H : Heap, H = s.heap := ⟨_, rfl⟩
  rw [← hH] at hP ⊢
  have hS : va_S A s.heap H [] := by rw [hH]; exact hS
  refine w_gen (fun Q hQ => ?_)
  refine lv_iload_n hx hb dX1_cell_0 rfl (lv_at hl 0 rfl) ?_
  refine lv_bipush (v := nI 7) hx hb dX1_cell_1 (by decide) ?_
  refine lv_imul hx hb dX1_cell_3 ?_
  refine lv_topi (fun x3 e3 => ?_)
  obtain rfl : x3 = nI (r0 * 7) := e3.trans (pk_mul _ _)
  refine lv_iload_n hx hb dX1_cell_4 rfl (lv_at hl 1 rfl) ?_
  refine lv_iadd hx hb dX1_cell_5 ?_
  refine lv_topi (fun x5 e5 => ?_)
  obtain rfl : x5 = nI ((r0 * 7) + q) := e5.trans (nI_add _ _)
  subst hQ
  have hP9 : va_P (dC, dI0) vwCl [] H := hP
  have hD9 : va_D A [] := hD
  exact W.iret (v := nI ((r0 * 7) + q)) hx hb hr (fun t9 ht9 hW9 => ⟨⟨nI ((r0 * 7) + q), (), rfl, rfl, by rw [ht9]; exact hP9, va_K.moved hW9.alike hK, hD9⟩, hS.F ht9⟩) hS.2.2 dX1_cell_6

set_option maxHeartbeats 4000000 in
set_option maxRecDepth 100000 in
theorem KX1_turn (l : Launch) (dC : Nat → ClassId) (dI0 : Nat → Nat → Nat) (cI cZ : ClassId) (h1 : Nat) (o1 : Nat) (o2 : Nat) (o3 : Nat) (o4 : Nat) (o5 : Nat) (o6 : Nat) (on : Nat) (ev : Nat) (cA : Nat → Int32) (wA : Nat → Int32) (rA : Nat → Int32) (xA : Nat → Int32) (tA : Nat → Int32) (gA : Nat → Int32) (sz : Nat) (cs : Nat → Nat) (S : Nat) (hO : OuR on ev cA cs) (hS : S ≤ ev) : Met l yX1_turn wsX1_turn ({ frames := 1, cells := 0, slots := 0, locals := 20 } : Room) (va_Pc [.ref h1, .int (nI S)] (fun U => U.heap.size = sz ∧ va_P (dC, dI0) vwCl (WOu cI cZ h1 o1 o2 o3 o4 o5 o6 on ev cA wA rA xA tA gA) U.heap ∧ va_K (dC, dI0) vwCl [(cI, .int), (cZ, .boolean)] U ∧ va_D (fun _ => True) (WOu cI cZ h1 o1 o2 o3 o4 o5 o6 on ev cA wA rA xA tA gA))) (va_Qi (fun (r : Int32) (u : Unit) => r = nI (on - pop S)) (fun (u : Unit) (t : State) => va_P (dC, dI0) vwCl (WOu cI cZ h1 o1 o2 o3 o4 o5 o6 on ev cA wA rA xA tA gA) t.heap ∧ va_K (dC, dI0) vwCl [(cI, .int), (cZ, .boolean)] t ∧ va_D (va_A (WOu cI cZ h1 o1 o2 o3 o4 o5 o6 on ev cA wA rA xA tA gA) sz) (WOu cI cZ h1 o1 o2 o3 o4 o5 o6 on ev cA wA rA xA tA gA)) (va_A (WOu cI cZ h1 o1 o2 o3 o4 o5 o6 on ev cA wA rA xA tA gA) sz)) 0 0 (va_A (WOu cI cZ h1 o1 o2 o3 o4 o5 o6 on ev cA wA rA xA tA gA) sz) := by
  refine Met.ofW (cc := cX1_turn) (maxL := 2) (ret := (some .int)) (by decide) rfl ?_
  intro prg env s m args below meth c s₁ B hml hv
  obtain ⟨rfl, hsz, hP, hK, hD0⟩ := hv
  have hx := B.exec
  have hb := B.bytes
  have hr := B.returns
  have hts := atoms_spec (ws := wsX1_turn) B.pre
  have hown : s.vm.findClass RX1 = some m.cls := findClass_of_methodNamed B.named
  have hlocks := B.notSynchronized
  subst hsz
  have hD := hD0.self (sz := s.heap.size)
  generalize hAe : va_A (WOu cI cZ h1 o1 o2 o3 o4 o5 o6 on ev cA wA rA xA tA gA) s.heap.size = A at hD ⊢
  have hA : ∀ q : Nat, s.heap.size ≤ q → A q := fun q h => by rw [← hAe]; exact Or.inr h
  have hS : va_S A s.heap s.heap [] := va_S.rf
  have hP : va_P (dC, dI0) vwCl [(h1, .inr (1, [.ref o1, .ref o2, .ref o3, .ref o4, .ref o5, .ref o6, .int (nI on), .int (nI ev)])), (o1, .inl (cI, 7, .inl cA)), (o2, .inl (cI, 128, .inl wA)), (o3, .inl (cI, 128, .inl rA)), (o4, .inl (cI, 128, .inl xA)), (o5, .inl (cI, 49, .inl tA)), (o6, .inl (cI, 896, .inl gA))] s.heap := hP
  have hD : va_D A [(h1, .inr (1, [.ref o1, .ref o2, .ref o3, .ref o4, .ref o5, .ref o6, .int (nI on), .int (nI ev)])), (o1, .inl (cI, 7, .inl cA)), (o2, .inl (cI, 128, .inl wA)), (o3, .inl (cI, 128, .inl rA)), (o4, .inl (cI, 128, .inl xA)), (o5, .inl (cI, 49, .inl tA)), (o6, .inl (cI, 896, .inl gA))] := hD
  have hl := lv_entry ([.ref h1, .int (nI S)]) (n := 2) (Nat.le_of_ble_eq_true rfl)
  rw [lg_entry_eq]
  generalize (lg_sl ([.ref h1, .int (nI S)]) ++ List.replicate (2 - (lg_sl ([.ref h1, .int (nI S)])).length) Slot.unset).toArray = ls at hl ⊢
  have hl : lv_has ls 2 [(0, .ref h1), (1, .int (nI S))] := hl
  obtain ⟨H, hH⟩ : ∃ H : Heap, H = s.heap := ⟨_, rfl⟩
  rw [← hH] at hP ⊢
  have hS : va_S A s.heap H [] := by rw [hH]; exact hS
  refine w_gen (fun Q hQ => ?_)
  have hin_X1 : ∀ w ∈ wsX10, w ∈ wsX1_turn := by decide +kernel
  have hf36 := hts (.fieldLink RX1 36 "HatNames$Outlook" "size" "I") (by decide +kernel)
  obtain ⟨ho7, hev, hev7, hcc⟩ := id hO
  refine lv_aload_n hx hb dX1_turn_0 rfl (lv_at hl 0 rfl) ?_
  refine va_get (D := (dC, dI0)) (ci := 1) (v := .int (nI on)) (C := RX1) (T := TX1) (N := 8) hx hb hts hin_X1 hown hK hP 0 rfl rfl 6 (by decide) hf36 (fun _ h9 => h9) rfl dX1_turn_1 ?_
  refine lv_iload_n hx hb dX1_turn_4 rfl (lv_at hl 1 rfl) ?_
  have hPc := hP.sub (ws' := []) [] rfl
  have hDc := hD.sub (ws' := []) [] (by decide) rfl
  have hFc := va_free (wc := []) hD hS hA [] rfl
  refine va_calli (va_runS (As := [.int (nI S)]) (rest := [.int (nI on)]) ⟨hx, hb, hml, hown, hts⟩ (KJ6_bitCount_0f7a4 l dC dI0 cI cZ  H.size S (by first | assumption | omega)) (va_cwS 1 hts gX1_turn_J6_bitCount_0f7a4 rfl rfl rfl (by decide +kernel) ⟨Nat.le_of_ble_eq_true rfl, Nat.le_of_ble_eq_true rfl⟩) ⟨fun a U g mk q => by obtain ⟨q0, q1, qP, qK, qD⟩ := q; exact ⟨q0, q1, qP, va_K.moved (u := U) (U := U.calling g mk a) (Vm.Alike.refl U.vm) qK, qD⟩, fun U hU hW => ⟨rfl, by rw [hU], by rw [hU]; exact hPc, va_K.moved hW.alike hK, hDc.weaken (fun _ _ _ _ => trivial)⟩⟩ rfl rfl hl.1 rfl (lv_room (Nat.le_of_ble_eq_true rfl)) dX1_turn_5 ⟨Nat.le_of_ble_eq_true rfl, Nat.le_of_ble_eq_true rfl⟩) hS (fun q _ h => hFc q h) hFc (fun r5 u5 t7 H1 locs ht7 hvm7 hw5 hB hz1 hk1 hS => ?_)
  obtain ⟨hP1, hK1, hD1⟩ := hB
  rw [ht7] at hP1
  try dsimp only at hw5 hP1 hD1
  obtain ⟨hP, hD⟩ := va_join (wr := [(h1, .inr (1, [.ref o1, .ref o2, .ref o3, .ref o4, .ref o5, .ref o6, .int (nI on), .int (nI ev)])), (o1, .inl (cI, 7, .inl cA)), (o2, .inl (cI, 128, .inl wA)), (o3, .inl (cI, 128, .inl rA)), (o4, .inl (cI, 128, .inl xA)), (o5, .inl (cI, 49, .inl tA)), (o6, .inl (cI, 896, .inl gA))]) (w1 := []) hP hD [] [0, 1, 2, 3, 4, 5, 6] rfl rfl (by decide) (by decide) hk1 hFc hP1 hD1
  generalize H1 = H at hP hS ⊢
  have hP := hP.sub (ws' := [(h1, .inr (1, [.ref o1, .ref o2, .ref o3, .ref o4, .ref o5, .ref o6, .int (nI on), .int (nI ev)])), (o1, .inl (cI, 7, .inl cA)), (o2, .inl (cI, 128, .inl wA)), (o3, .inl (cI, 128, .inl rA)), (o4, .inl (cI, 128, .inl xA)), (o5, .inl (cI, 49, .inl tA)), (o6, .inl (cI, 896, .inl gA))]) [0, 1, 2, 3, 4, 5, 6] rfl
  have hD := hD.sub (ws' := [(h1, .inr (1, [.ref o1, .ref o2, .ref o3, .ref o4, .ref o5, .ref o6, .int (nI on), .int (nI ev)])), (o1, .inl (cI, 7, .inl cA)), (o2, .inl (cI, 128, .inl wA)), (o3, .inl (cI, 128, .inl rA)), (o4, .inl (cI, 128, .inl xA)), (o5, .inl (cI, 49, .inl tA)), (o6, .inl (cI, 896, .inl gA))]) [0, 1, 2, 3, 4, 5, 6] (by decide) rfl
  obtain rfl : r5 = nI (pop S) := hw5
  have hpn := pop_n on ho7 S (by omega)
  refine lv_isub hx hb dX1_turn_8 ?_
  refine lv_topi (fun x8 e8 => ?_)
  obtain rfl : x8 = nI (on - (pop S)) := e8.trans (pk_sub (by omega))
  subst hQ
  have hP9 : va_P (dC, dI0) vwCl [(h1, .inr (1, [.ref o1, .ref o2, .ref o3, .ref o4, .ref o5, .ref o6, .int (nI on), .int (nI ev)])), (o1, .inl (cI, 7, .inl cA)), (o2, .inl (cI, 128, .inl wA)), (o3, .inl (cI, 128, .inl rA)), (o4, .inl (cI, 128, .inl xA)), (o5, .inl (cI, 49, .inl tA)), (o6, .inl (cI, 896, .inl gA))] H := hP
  have hD9 : va_D A [(h1, .inr (1, [.ref o1, .ref o2, .ref o3, .ref o4, .ref o5, .ref o6, .int (nI on), .int (nI ev)])), (o1, .inl (cI, 7, .inl cA)), (o2, .inl (cI, 128, .inl wA)), (o3, .inl (cI, 128, .inl rA)), (o4, .inl (cI, 128, .inl xA)), (o5, .inl (cI, 49, .inl tA)), (o6, .inl (cI, 896, .inl gA))] := hD
  exact W.iret (v := nI (on - (pop S))) hx hb hr (fun t9 ht9 hW9 => ⟨⟨nI (on - (pop S)), (), rfl, rfl, by rw [ht9]; exact hP9, va_K.moved hW9.alike hK, hD9⟩, hS.F ht9⟩) hS.2.2 dX1_turn_9

set_option maxHeartbeats 4000000 in
set_option maxRecDepth 100000 in
theorem KX1_wayCount (l : Launch) (dC : Nat → ClassId) (dI0 : Nat → Nat → Nat) (cI cZ : ClassId) (h1 : Nat) (o1 : Nat) (o2 : Nat) (o3 : Nat) (o4 : Nat) (o5 : Nat) (o6 : Nat) (on : Nat) (ev : Nat) (cA : Nat → Int32) (wA : Nat → Int32) (rA : Nat → Int32) (xA : Nat → Int32) (tA : Nat → Int32) (gA : Nat → Int32) (sz : Nat) (cs : Nat → Nat) (hO : OuR on ev cA cs) (hW : ∀ T, T ≤ ev → wA T = nI (onS cs on T)) : Met l yX1_wayCount wsX1_wayCount ({ frames := 0, cells := 0, slots := 0, locals := 0 } : Room) (va_Pc [.ref h1] (fun U => U.heap.size = sz ∧ va_P (dC, dI0) vwCl (WOu cI cZ h1 o1 o2 o3 o4 o5 o6 on ev cA wA rA xA tA gA) U.heap ∧ va_K (dC, dI0) vwCl [(cI, .int), (cZ, .boolean)] U ∧ va_D (fun _ => True) (WOu cI cZ h1 o1 o2 o3 o4 o5 o6 on ev cA wA rA xA tA gA))) (va_Qi (fun (r : Int32) (u : Unit) => r = nI (onS cs on ev)) (fun (u : Unit) (t : State) => va_P (dC, dI0) vwCl (WOu cI cZ h1 o1 o2 o3 o4 o5 o6 on ev cA wA rA xA tA gA) t.heap ∧ va_K (dC, dI0) vwCl [(cI, .int), (cZ, .boolean)] t ∧ va_D (va_A (WOu cI cZ h1 o1 o2 o3 o4 o5 o6 on ev cA wA rA xA tA gA) sz) (WOu cI cZ h1 o1 o2 o3 o4 o5 o6 on ev cA wA rA xA tA gA)) (va_A (WOu cI cZ h1 o1 o2 o3 o4 o5 o6 on ev cA wA rA xA tA gA) sz)) 0 0 (va_A (WOu cI cZ h1 o1 o2 o3 o4 o5 o6 on ev cA wA rA xA tA gA) sz) := by
  refine Met.ofW (cc := cX1_wayCount) (maxL := 1) (ret := (some .int)) (by decide) rfl ?_
  intro prg env s m args below meth c s₁ B hml hv
  obtain ⟨rfl, hsz, hP, hK, hD0⟩ := hv
  have hx := B.exec
  have hb := B.bytes
  have hr := B.returns
  have hts := atoms_spec (ws := wsX1_wayCount) B.pre
  have hown : s.vm.findClass RX1 = some m.cls := findClass_of_methodNamed B.named
  have hlocks := B.notSynchronized
  subst hsz
  have hD := hD0.self (sz := s.heap.size)
  generalize hAe : va_A (WOu cI cZ h1 o1 o2 o3 o4 o5 o6 on ev cA wA rA xA tA gA) s.heap.size = A at hD ⊢
  have hA : ∀ q : Nat, s.heap.size ≤ q → A q := fun q h => by rw [← hAe]; exact Or.inr h
  have hS : va_S A s.heap s.heap [] := va_S.rf
  have hP : va_P (dC, dI0) vwCl [(h1, .inr (1, [.ref o1, .ref o2, .ref o3, .ref o4, .ref o5, .ref o6, .int (nI on), .int (nI ev)])), (o1, .inl (cI, 7, .inl cA)), (o2, .inl (cI, 128, .inl wA)), (o3, .inl (cI, 128, .inl rA)), (o4, .inl (cI, 128, .inl xA)), (o5, .inl (cI, 49, .inl tA)), (o6, .inl (cI, 896, .inl gA))] s.heap := hP
  have hD : va_D A [(h1, .inr (1, [.ref o1, .ref o2, .ref o3, .ref o4, .ref o5, .ref o6, .int (nI on), .int (nI ev)])), (o1, .inl (cI, 7, .inl cA)), (o2, .inl (cI, 128, .inl wA)), (o3, .inl (cI, 128, .inl rA)), (o4, .inl (cI, 128, .inl xA)), (o5, .inl (cI, 49, .inl tA)), (o6, .inl (cI, 896, .inl gA))] := hD
  have hl := lv_entry ([.ref h1]) (n := 1) (Nat.le_of_ble_eq_true rfl)
  rw [lg_entry_eq]
  generalize (lg_sl ([.ref h1]) ++ List.replicate (1 - (lg_sl ([.ref h1])).length) Slot.unset).toArray = ls at hl ⊢
  have hl : lv_has ls 1 [(0, .ref h1)] := hl
  obtain ⟨H, hH⟩ : ∃ H : Heap, H = s.heap := ⟨_, rfl⟩
  rw [← hH] at hP ⊢
  have hS : va_S A s.heap H [] := by rw [hH]; exact hS
  refine w_gen (fun Q hQ => ?_)
  have hin_X1 : ∀ w ∈ wsX10, w ∈ wsX1_wayCount := by decide +kernel
  have hf17 := hts (.fieldLink RX1 17 "HatNames$Outlook" "onward" "[I") (by decide +kernel)
  have hf37 := hts (.fieldLink RX1 37 "HatNames$Outlook" "everyName" "I") (by decide +kernel)
  obtain ⟨ho7, hev, hev7, hcc⟩ := id hO
  refine lv_aload_n hx hb dX1_wayCount_0 rfl (lv_at hl 0 rfl) ?_
  refine va_get (D := (dC, dI0)) (ci := 1) (v := .ref o2) (C := RX1) (T := TX1) (N := 8) hx hb hts hin_X1 hown hK hP 0 rfl rfl 1 (by decide) hf17 (fun _ h9 => h9) rfl dX1_wayCount_1 ?_
  refine lv_aload_n hx hb dX1_wayCount_4 rfl (lv_at hl 0 rfl) ?_
  refine va_get (D := (dC, dI0)) (ci := 1) (v := .int (nI ev)) (C := RX1) (T := TX1) (N := 8) hx hb hts hin_X1 hown hK hP 0 rfl rfl 7 (by decide) hf37 (fun _ h9 => h9) rfl dX1_wayCount_5 ?_
  refine va_iald hx hb hK hP 2 0 rfl rfl (vp_in_nI (by omega) (by decide)) dX1_wayCount_8 ?_
  refine lv_topi (fun x8 e8 => ?_)
  rw [nI_clamp (n := ev) (by omega)] at e8
  obtain rfl : x8 = nI (onS cs on ev) := e8.trans (hW _ (Nat.le_refl _))
  subst hQ
  have hP9 : va_P (dC, dI0) vwCl [(h1, .inr (1, [.ref o1, .ref o2, .ref o3, .ref o4, .ref o5, .ref o6, .int (nI on), .int (nI ev)])), (o1, .inl (cI, 7, .inl cA)), (o2, .inl (cI, 128, .inl wA)), (o3, .inl (cI, 128, .inl rA)), (o4, .inl (cI, 128, .inl xA)), (o5, .inl (cI, 49, .inl tA)), (o6, .inl (cI, 896, .inl gA))] H := hP
  have hD9 : va_D A [(h1, .inr (1, [.ref o1, .ref o2, .ref o3, .ref o4, .ref o5, .ref o6, .int (nI on), .int (nI ev)])), (o1, .inl (cI, 7, .inl cA)), (o2, .inl (cI, 128, .inl wA)), (o3, .inl (cI, 128, .inl rA)), (o4, .inl (cI, 128, .inl xA)), (o5, .inl (cI, 49, .inl tA)), (o6, .inl (cI, 896, .inl gA))] := hD
  exact W.iret (v := nI (onS cs on ev)) hx hb hr (fun t9 ht9 hW9 => ⟨⟨nI (onS cs on ev), (), rfl, rfl, by rw [ht9]; exact hP9, va_K.moved hW9.alike hK, hD9⟩, hS.F ht9⟩) hS.2.2 dX1_wayCount_9

set_option maxHeartbeats 4000000 in
set_option maxRecDepth 100000 in
theorem KX1_waysWith (l : Launch) (dC : Nat → ClassId) (dI0 : Nat → Nat → Nat) (cI cZ : ClassId) (h1 : Nat) (o1 : Nat) (o2 : Nat) (o3 : Nat) (o4 : Nat) (o5 : Nat) (o6 : Nat) (on : Nat) (ev : Nat) (cA : Nat → Int32) (wA : Nat → Int32) (rA : Nat → Int32) (xA : Nat → Int32) (tA : Nat → Int32) (gA : Nat → Int32) (sz : Nat) (cs : Nat → Nat) (F : Nat → Nat) (p : Nat) (q : Nat) (S : Nat) (hO : OuR on ev cA cs) (hp : p < on) (hq : q < on) (hS : S ≤ ev) (hF : ∀ T, T < S → wA T = nI (F T)) : Met l yX1_waysWith wsX1_waysWith ({ frames := 1, cells := 0, slots := 0, locals := 21 } : Room) (va_Pc [.ref h1, .int (nI p), .int (nI q), .int (nI S)] (fun U => U.heap.size = sz ∧ va_P (dC, dI0) vwCl (WOu cI cZ h1 o1 o2 o3 o4 o5 o6 on ev cA wA rA xA tA gA) U.heap ∧ va_K (dC, dI0) vwCl [(cI, .int), (cZ, .boolean)] U ∧ va_D (fun _ => True) (WOu cI cZ h1 o1 o2 o3 o4 o5 o6 on ev cA wA rA xA tA gA))) (va_Qi (fun (r : Int32) (u : Unit) => r = nI (wW cs F p q S)) (fun (u : Unit) (t : State) => va_P (dC, dI0) vwCl (WOu cI cZ h1 o1 o2 o3 o4 o5 o6 on ev cA wA rA xA tA gA) t.heap ∧ va_K (dC, dI0) vwCl [(cI, .int), (cZ, .boolean)] t ∧ va_D (va_A (WOu cI cZ h1 o1 o2 o3 o4 o5 o6 on ev cA wA rA xA tA gA) sz) (WOu cI cZ h1 o1 o2 o3 o4 o5 o6 on ev cA wA rA xA tA gA)) (va_A (WOu cI cZ h1 o1 o2 o3 o4 o5 o6 on ev cA wA rA xA tA gA) sz)) 0 0 (va_A (WOu cI cZ h1 o1 o2 o3 o4 o5 o6 on ev cA wA rA xA tA gA) sz) := by
  refine Met.ofW (cc := cX1_waysWith) (maxL := 4) (ret := (some .int)) (by decide) rfl ?_
  intro prg env s m args below meth c s₁ B hml hv
  obtain ⟨rfl, hsz, hP, hK, hD0⟩ := hv
  have hx := B.exec
  have hb := B.bytes
  have hr := B.returns
  have hts := atoms_spec (ws := wsX1_waysWith) B.pre
  have hown : s.vm.findClass RX1 = some m.cls := findClass_of_methodNamed B.named
  have hlocks := B.notSynchronized
  subst hsz
  have hD := hD0.self (sz := s.heap.size)
  generalize hAe : va_A (WOu cI cZ h1 o1 o2 o3 o4 o5 o6 on ev cA wA rA xA tA gA) s.heap.size = A at hD ⊢
  have hA : ∀ q : Nat, s.heap.size ≤ q → A q := fun q h => by rw [← hAe]; exact Or.inr h
  have hS : va_S A s.heap s.heap [] := va_S.rf
  have hP : va_P (dC, dI0) vwCl [(h1, .inr (1, [.ref o1, .ref o2, .ref o3, .ref o4, .ref o5, .ref o6, .int (nI on), .int (nI ev)])), (o1, .inl (cI, 7, .inl cA)), (o2, .inl (cI, 128, .inl wA)), (o3, .inl (cI, 128, .inl rA)), (o4, .inl (cI, 128, .inl xA)), (o5, .inl (cI, 49, .inl tA)), (o6, .inl (cI, 896, .inl gA))] s.heap := hP
  have hD : va_D A [(h1, .inr (1, [.ref o1, .ref o2, .ref o3, .ref o4, .ref o5, .ref o6, .int (nI on), .int (nI ev)])), (o1, .inl (cI, 7, .inl cA)), (o2, .inl (cI, 128, .inl wA)), (o3, .inl (cI, 128, .inl rA)), (o4, .inl (cI, 128, .inl xA)), (o5, .inl (cI, 49, .inl tA)), (o6, .inl (cI, 896, .inl gA))] := hD
  have hl := lv_entry ([.ref h1, .int (nI p), .int (nI q), .int (nI S)]) (n := 4) (Nat.le_of_ble_eq_true rfl)
  rw [lg_entry_eq]
  generalize (lg_sl ([.ref h1, .int (nI p), .int (nI q), .int (nI S)]) ++ List.replicate (4 - (lg_sl ([.ref h1, .int (nI p), .int (nI q), .int (nI S)])).length) Slot.unset).toArray = ls at hl ⊢
  have hl : lv_has ls 4 [(0, .ref h1), (1, .int (nI p)), (2, .int (nI q)), (3, .int (nI S))] := hl
  obtain ⟨H, hH⟩ : ∃ H : Heap, H = s.heap := ⟨_, rfl⟩
  rw [← hH] at hP ⊢
  have hS : va_S A s.heap H [] := by rw [hH]; exact hS
  refine w_gen (fun Q hQ => ?_)
  have hin_X1 : ∀ w ∈ wsX10, w ∈ wsX1_waysWith := by decide +kernel
  have hf11 := hts (.fieldLink RX1 11 "HatNames$Outlook" "choices" "[I") (by decide +kernel)
  have hf17 := hts (.fieldLink RX1 17 "HatNames$Outlook" "onward" "[I") (by decide +kernel)
  obtain ⟨ho7, hev, hev7, hcc⟩ := id hO
  refine lv_aload_n hx hb dX1_waysWith_0 rfl (lv_at hl 0 rfl) ?_
  refine va_get (D := (dC, dI0)) (ci := 1) (v := .ref o1) (C := RX1) (T := TX1) (N := 8) hx hb hts hin_X1 hown hK hP 0 rfl rfl 0 (by decide) hf11 (fun _ h9 => h9) rfl dX1_waysWith_1 ?_
  refine lv_iload_n hx hb dX1_waysWith_4 rfl (lv_at hl 1 rfl) ?_
  refine va_iald hx hb hK hP 1 0 rfl rfl (vp_in_nI (by omega) (by decide)) dX1_waysWith_5 ?_
  refine lv_topi (fun x5 e5 => ?_)
  rw [nI_clamp (n := p) (by omega)] at e5
  have hcv := (hcc p (by omega)).2
  obtain rfl : x5 = nI (cs p) := e5.trans (hcc p (by omega)).1
  refine lv_iload_n hx hb dX1_waysWith_6 rfl (lv_at hl 3 rfl) ?_
  refine lv_iand hx hb dX1_waysWith_7 ?_
  refine lv_topi (fun x7 e7 => ?_)
  obtain rfl : x7 = nI ((cs p) &&& S) := e7.trans (and_nI _ _)
  refine lv_iload_n hx hb dX1_waysWith_8 rfl (lv_at hl 2 rfl) ?_
  have hand := Nat.and_le_right (n := cs p) (m := S)
  have hPc := hP.sub (ws' := []) [] rfl
  have hDc := hD.sub (ws' := []) [] (by decide) rfl
  have hFc := va_free (wc := []) hD hS hA [] rfl
  refine va_calli (va_runS (As := [.int (nI ((cs p) &&& S)), .int (nI q)]) (rest := []) ⟨hx, hb, hml, hown, hts⟩ (KX1_isIn l dC dI0 cI cZ  H.size ((cs p) &&& S) q (by first | assumption | omega) (by first | assumption | omega)) (va_cwS 2 hts gX1_waysWith_X1_isIn rfl rfl rfl (by decide +kernel) ⟨Nat.le_of_ble_eq_true rfl, Nat.le_of_ble_eq_true rfl⟩) ⟨fun a U g mk q => by obtain ⟨q0, q1, qP, qK, qD⟩ := q; exact ⟨q0, q1, qP, va_K.moved (u := U) (U := U.calling g mk a) (Vm.Alike.refl U.vm) qK, qD⟩, fun U hU hW => ⟨rfl, by rw [hU], by rw [hU]; exact hPc, va_K.moved hW.alike hK, hDc.weaken (fun _ _ _ _ => trivial)⟩⟩ rfl rfl hl.1 rfl (lv_room (Nat.le_of_ble_eq_true rfl)) dX1_waysWith_9 ⟨Nat.le_of_ble_eq_true rfl, Nat.le_of_ble_eq_true rfl⟩) hS (fun q _ h => hFc q h) hFc (fun r9 u9 t7 H1 locs ht7 hvm7 hw9 hB hz1 hk1 hS => ?_)
  obtain ⟨hP1, hK1, hD1⟩ := hB
  rw [ht7] at hP1
  try dsimp only at hw9 hP1 hD1
  obtain ⟨hP, hD⟩ := va_join (wr := [(h1, .inr (1, [.ref o1, .ref o2, .ref o3, .ref o4, .ref o5, .ref o6, .int (nI on), .int (nI ev)])), (o1, .inl (cI, 7, .inl cA)), (o2, .inl (cI, 128, .inl wA)), (o3, .inl (cI, 128, .inl rA)), (o4, .inl (cI, 128, .inl xA)), (o5, .inl (cI, 49, .inl tA)), (o6, .inl (cI, 896, .inl gA))]) (w1 := []) hP hD [] [0, 1, 2, 3, 4, 5, 6] rfl rfl (by decide) (by decide) hk1 hFc hP1 hD1
  generalize H1 = H at hP hS ⊢
  have hP := hP.sub (ws' := [(h1, .inr (1, [.ref o1, .ref o2, .ref o3, .ref o4, .ref o5, .ref o6, .int (nI on), .int (nI ev)])), (o1, .inl (cI, 7, .inl cA)), (o2, .inl (cI, 128, .inl wA)), (o3, .inl (cI, 128, .inl rA)), (o4, .inl (cI, 128, .inl xA)), (o5, .inl (cI, 49, .inl tA)), (o6, .inl (cI, 896, .inl gA))]) [0, 1, 2, 3, 4, 5, 6] rfl
  have hD := hD.sub (ws' := [(h1, .inr (1, [.ref o1, .ref o2, .ref o3, .ref o4, .ref o5, .ref o6, .int (nI on), .int (nI ev)])), (o1, .inl (cI, 7, .inl cA)), (o2, .inl (cI, 128, .inl wA)), (o3, .inl (cI, 128, .inl rA)), (o4, .inl (cI, 128, .inl xA)), (o5, .inl (cI, 49, .inl tA)), (o6, .inl (cI, 896, .inl gA))]) [0, 1, 2, 3, 4, 5, 6] (by decide) rfl
  obtain rfl : r9 = bI (((cs p) &&& S).testBit q) := hw9
  refine lv_if_eq (tgt := 30) hx hb dX1_waysWith_12 (by decide) (fun c12 => ?_) (fun c12 => ?_)
  ·
    have c12 : (((cs p) &&& S).testBit q) = false := bI_0 c12
    refine lv_iconst (v := nI 0) hx hb dX1_waysWith_30 (by decide) ?_
    subst hQ
    have hP9 : va_P (dC, dI0) vwCl [(h1, .inr (1, [.ref o1, .ref o2, .ref o3, .ref o4, .ref o5, .ref o6, .int (nI on), .int (nI ev)])), (o1, .inl (cI, 7, .inl cA)), (o2, .inl (cI, 128, .inl wA)), (o3, .inl (cI, 128, .inl rA)), (o4, .inl (cI, 128, .inl xA)), (o5, .inl (cI, 49, .inl tA)), (o6, .inl (cI, 896, .inl gA))] H := hP
    have hD9 : va_D A [(h1, .inr (1, [.ref o1, .ref o2, .ref o3, .ref o4, .ref o5, .ref o6, .int (nI on), .int (nI ev)])), (o1, .inl (cI, 7, .inl cA)), (o2, .inl (cI, 128, .inl wA)), (o3, .inl (cI, 128, .inl rA)), (o4, .inl (cI, 128, .inl xA)), (o5, .inl (cI, 49, .inl tA)), (o6, .inl (cI, 896, .inl gA))] := hD
    exact W.iret (v := nI 0) hx hb hr (fun t9 ht9 hW9 => ⟨⟨nI 0, (), rfl, by rw [wW, if_neg (by rw [c12]; decide)], by rw [ht9]; exact hP9, va_K.moved hW9.alike hK, hD9⟩, hS.F ht9⟩) hS.2.2 dX1_waysWith_31
  have c12 : (((cs p) &&& S).testBit q) = true := bI_n0 c12
  refine lv_aload_n hx hb dX1_waysWith_15 rfl (lv_at hl 0 rfl) ?_
  refine va_get (D := (dC, dI0)) (ci := 1) (v := .ref o2) (C := RX1) (T := TX1) (N := 8) hx hb hts hin_X1 hown hK hP 0 rfl rfl 1 (by decide) hf17 (fun _ h9 => h9) rfl dX1_waysWith_16 ?_
  refine lv_iload_n hx hb dX1_waysWith_19 rfl (lv_at hl 3 rfl) ?_
  refine lv_iconst (v := nI 1) hx hb dX1_waysWith_20 (by decide) ?_
  refine lv_iload_n hx hb dX1_waysWith_21 rfl (lv_at hl 2 rfl) ?_
  refine lv_ishl hx hb dX1_waysWith_22 ?_
  refine lv_topi (fun x22 e22 => ?_)
  obtain rfl : x22 = nI (2 ^ q) := e22.trans (shl_1 (by omega))
  refine lv_iconst (v := (-1)) hx hb dX1_waysWith_23 (by decide) ?_
  refine lv_ixor hx hb dX1_waysWith_24 ?_
  refine lv_topi (fun x24 e24 => ?_)
  refine lv_iand hx hb dX1_waysWith_25 ?_
  refine lv_topi (fun x25 e25 => ?_)
  obtain rfl : x25 = nI (andn S (2 ^ q)) := e25.trans (by rw [e24]; exact andn_nI _ _)
  have hcut := (cut_ok S (by omega) q (by omega) (and_tb c12).2).1
  refine va_iald hx hb hK hP 2 0 rfl rfl (vp_in_nI (by omega) (by decide)) dX1_waysWith_26 ?_
  refine lv_topi (fun x26 e26 => ?_)
  rw [nI_clamp (n := andn S (2 ^ q)) (by omega)] at e26
  obtain rfl : x26 = nI (F (andn S (2 ^ q))) := e26.trans (hF _ hcut)
  refine lv_goto (tgt := 31) hx hb dX1_waysWith_27 (by decide) ?_
  subst hQ
  have hP9 : va_P (dC, dI0) vwCl [(h1, .inr (1, [.ref o1, .ref o2, .ref o3, .ref o4, .ref o5, .ref o6, .int (nI on), .int (nI ev)])), (o1, .inl (cI, 7, .inl cA)), (o2, .inl (cI, 128, .inl wA)), (o3, .inl (cI, 128, .inl rA)), (o4, .inl (cI, 128, .inl xA)), (o5, .inl (cI, 49, .inl tA)), (o6, .inl (cI, 896, .inl gA))] H := hP
  have hD9 : va_D A [(h1, .inr (1, [.ref o1, .ref o2, .ref o3, .ref o4, .ref o5, .ref o6, .int (nI on), .int (nI ev)])), (o1, .inl (cI, 7, .inl cA)), (o2, .inl (cI, 128, .inl wA)), (o3, .inl (cI, 128, .inl rA)), (o4, .inl (cI, 128, .inl xA)), (o5, .inl (cI, 49, .inl tA)), (o6, .inl (cI, 896, .inl gA))] := hD
  exact W.iret (v := nI (F (andn S (2 ^ q)))) hx hb hr (fun t9 ht9 hW9 => ⟨⟨nI (F (andn S (2 ^ q))), (), rfl, by rw [wW, if_pos c12], by rw [ht9]; exact hP9, va_K.moved hW9.alike hK, hD9⟩, hS.F ht9⟩) hS.2.2 dX1_waysWith_31

set_option maxHeartbeats 4000000 in
set_option maxRecDepth 100000 in
theorem KX1_countOnward (l : Launch) (dC : Nat → ClassId) (dI0 : Nat → Nat → Nat) (cI cZ : ClassId) (h1 : Nat) (o1 : Nat) (o2 : Nat) (o3 : Nat) (o4 : Nat) (o5 : Nat) (o6 : Nat) (on : Nat) (ev : Nat) (cA : Nat → Int32) (wA : Nat → Int32) (rA : Nat → Int32) (xA : Nat → Int32) (tA : Nat → Int32) (gA : Nat → Int32) (sz : Nat) (cs : Nat → Nat) (hO : OuR on ev cA cs) : Met l yX1_countOnward wsX1_countOnward ({ frames := 2, cells := 0, slots := 0, locals := 44 } : Room) (va_Pc [.ref h1] (fun U => U.heap.size = sz ∧ va_P (dC, dI0) vwCl (WOu cI cZ h1 o1 o2 o3 o4 o5 o6 on ev cA wA rA xA tA gA) U.heap ∧ va_K (dC, dI0) vwCl [(cI, .int), (cZ, .boolean)] U ∧ va_D (fun _ => True) (WOu cI cZ h1 o1 o2 o3 o4 o5 o6 on ev cA wA rA xA tA gA))) (va_Qv (fun (u : Nat → Int32) => ∀ T, T ≤ ev → u T = nI (onS cs on T)) (fun (u : Nat → Int32) (t : State) => va_P (dC, dI0) vwCl (WOu cI cZ h1 o1 o2 o3 o4 o5 o6 on ev cA u rA xA tA gA) t.heap ∧ va_K (dC, dI0) vwCl [(cI, .int), (cZ, .boolean)] t ∧ va_D (va_A (WOu cI cZ h1 o1 o2 o3 o4 o5 o6 on ev cA wA rA xA tA gA) sz) (WOu cI cZ h1 o1 o2 o3 o4 o5 o6 on ev cA u rA xA tA gA)) (va_A (WOu cI cZ h1 o1 o2 o3 o4 o5 o6 on ev cA wA rA xA tA gA) sz)) 0 0 (va_A (WOu cI cZ h1 o1 o2 o3 o4 o5 o6 on ev cA wA rA xA tA gA) sz) := by
  refine Met.ofW (cc := cX1_countOnward) (maxL := 5) (ret := none) (by decide) rfl ?_
  intro prg env s m args below meth c s₁ B hml hv
  obtain ⟨rfl, hsz, hP, hK, hD0⟩ := hv
  have hx := B.exec
  have hb := B.bytes
  have hr := B.returns
  have hts := atoms_spec (ws := wsX1_countOnward) B.pre
  have hown : s.vm.findClass RX1 = some m.cls := findClass_of_methodNamed B.named
  have hlocks := B.notSynchronized
  subst hsz
  have hD := hD0.self (sz := s.heap.size)
  generalize hAe : va_A (WOu cI cZ h1 o1 o2 o3 o4 o5 o6 on ev cA wA rA xA tA gA) s.heap.size = A at hD ⊢
  have hA : ∀ q : Nat, s.heap.size ≤ q → A q := fun q h => by rw [← hAe]; exact Or.inr h
  have hS : va_S A s.heap s.heap [] := va_S.rf
  have hP : va_P (dC, dI0) vwCl [(h1, .inr (1, [.ref o1, .ref o2, .ref o3, .ref o4, .ref o5, .ref o6, .int (nI on), .int (nI ev)])), (o1, .inl (cI, 7, .inl cA)), (o2, .inl (cI, 128, .inl wA)), (o3, .inl (cI, 128, .inl rA)), (o4, .inl (cI, 128, .inl xA)), (o5, .inl (cI, 49, .inl tA)), (o6, .inl (cI, 896, .inl gA))] s.heap := hP
  have hD : va_D A [(h1, .inr (1, [.ref o1, .ref o2, .ref o3, .ref o4, .ref o5, .ref o6, .int (nI on), .int (nI ev)])), (o1, .inl (cI, 7, .inl cA)), (o2, .inl (cI, 128, .inl wA)), (o3, .inl (cI, 128, .inl rA)), (o4, .inl (cI, 128, .inl xA)), (o5, .inl (cI, 49, .inl tA)), (o6, .inl (cI, 896, .inl gA))] := hD
  have hl := lv_entry ([.ref h1]) (n := 5) (Nat.le_of_ble_eq_true rfl)
  rw [lg_entry_eq]
  generalize (lg_sl ([.ref h1]) ++ List.replicate (5 - (lg_sl ([.ref h1])).length) Slot.unset).toArray = ls at hl ⊢
  have hl : lv_has ls 5 [(0, .ref h1)] := hl
  obtain ⟨H, hH⟩ : ∃ H : Heap, H = s.heap := ⟨_, rfl⟩
  rw [← hH] at hP ⊢
  have hS : va_S A s.heap H [] := by rw [hH]; exact hS
  refine w_gen (fun Q hQ => ?_)
  have hin_X1 : ∀ w ∈ wsX10, w ∈ wsX1_countOnward := by decide +kernel
  have hf17 := hts (.fieldLink RX1 17 "HatNames$Outlook" "onward" "[I") (by decide +kernel)
  have hf37 := hts (.fieldLink RX1 37 "HatNames$Outlook" "everyName" "I") (by decide +kernel)
  have hf36 := hts (.fieldLink RX1 36 "HatNames$Outlook" "size" "I") (by decide +kernel)
  obtain ⟨ho7, hev, hev7, hcc⟩ := id hO
  refine lv_aload_n hx hb dX1_countOnward_0 rfl (lv_at hl 0 rfl) ?_
  refine va_get (D := (dC, dI0)) (ci := 1) (v := .ref o2) (C := RX1) (T := TX1) (N := 8) hx hb hts hin_X1 hown hK hP 0 rfl rfl 1 (by decide) hf17 (fun _ h9 => h9) rfl dX1_countOnward_1 ?_
  refine lv_iconst (v := nI 0) hx hb dX1_countOnward_4 (by decide) ?_
  refine lv_iconst (v := nI 1) hx hb dX1_countOnward_5 (by decide) ?_
  refine va_iast hx hb hK hP hD hS 2 0 rfl rfl (vp_in_nI (by omega) (by decide)) dX1_countOnward_6 (fun H locs hP hD hS => ?_)
  rw [nI_clamp (n := 0) (by omega)] at hP hD
  have hP : va_P (dC, dI0) vwCl [(h1, .inr (1, [.ref o1, .ref o2, .ref o3, .ref o4, .ref o5, .ref o6, .int (nI on), .int (nI ev)])), (o1, .inl (cI, 7, .inl cA)), (o2, .inl (cI, 128, .inl (upd wA 0 (nI 1)))), (o3, .inl (cI, 128, .inl rA)), (o4, .inl (cI, 128, .inl xA)), (o5, .inl (cI, 49, .inl tA)), (o6, .inl (cI, 896, .inl gA))] H := hP
  have hD : va_D A [(h1, .inr (1, [.ref o1, .ref o2, .ref o3, .ref o4, .ref o5, .ref o6, .int (nI on), .int (nI ev)])), (o1, .inl (cI, 7, .inl cA)), (o2, .inl (cI, 128, .inl (upd wA 0 (nI 1)))), (o3, .inl (cI, 128, .inl rA)), (o4, .inl (cI, 128, .inl xA)), (o5, .inl (cI, 49, .inl tA)), (o6, .inl (cI, 896, .inl gA))] := hD
  refine lv_iconst (v := nI 1) hx hb dX1_countOnward_7 (by decide) ?_
  refine lv_istore_n (lv' := [(1, .int (nI 1)), (0, .ref h1)]) hx hb dX1_countOnward_8 rfl hl (by decide) rfl (fun ls hl => ?_)
  have L9 : ∀ (fu : Nat) (L : Nat) (g : Nat → Int32), 1 ≤ L → L ≤ ev + 1 → (∀ T, T < L → g T = nI (onS cs on T)) → ev + 1 - L < fu → ∀ (H : Heap) (locs : List Loc), va_P (dC, dI0) vwCl [(h1, .inr (1, [.ref o1, .ref o2, .ref o3, .ref o4, .ref o5, .ref o6, .int (nI on), .int (nI ev)])), (o1, .inl (cI, 7, .inl cA)), (o2, .inl (cI, 128, .inl g)), (o3, .inl (cI, 128, .inl rA)), (o4, .inl (cI, 128, .inl xA)), (o5, .inl (cI, 49, .inl tA)), (o6, .inl (cI, 896, .inl gA))] H → va_D A [(h1, .inr (1, [.ref o1, .ref o2, .ref o3, .ref o4, .ref o5, .ref o6, .int (nI on), .int (nI ev)])), (o1, .inl (cI, 7, .inl cA)), (o2, .inl (cI, 128, .inl g)), (o3, .inl (cI, 128, .inl rA)), (o4, .inl (cI, 128, .inl xA)), (o5, .inl (cI, 49, .inl tA)), (o6, .inl (cI, 896, .inl gA))] → va_S A s.heap H locs → ∀ (ls : Array Slot), lv_has ls 5 [(0, .ref h1), (1, .int (nI L))] → W prg l env ({ frames := 2, cells := 0, slots := 0, locals := 44 } : Room) s m ([.ref h1] : List Value).toArray below meth c H locs 0 0 Q (F0 m 9 ls []) := by
    intro fu
    induction fu with
    | zero => intro L g hL1 hL hg hmu; exact absurd hmu (Nat.not_lt_zero _)
    | succ fu ih9 =>
      intro L g hL1 hL hg hmu9 H locs hP hD hS ls hl
      refine lv_iload_n hx hb dX1_countOnward_9 rfl (lv_at hl 1 rfl) ?_
      refine lv_aload_n hx hb dX1_countOnward_10 rfl (lv_at hl 0 rfl) ?_
      refine va_get (D := (dC, dI0)) (ci := 1) (v := .int (nI ev)) (C := RX1) (T := TX1) (N := 8) hx hb hts hin_X1 hown hK hP 0 rfl rfl 7 (by decide) hf37 (fun _ h9 => h9) rfl dX1_countOnward_11 ?_
      refine lv_icmp_gt (tgt := 67) hx hb dX1_countOnward_14 (by decide) (fun c14 => ?_) (fun c14 => ?_)
      ·
        have c14 : ev < L := (nI_ltI (a := ev) (b := L) (by omega) (by omega)).mp c14
        subst hQ
        have hP9 : va_P (dC, dI0) vwCl [(h1, .inr (1, [.ref o1, .ref o2, .ref o3, .ref o4, .ref o5, .ref o6, .int (nI on), .int (nI ev)])), (o1, .inl (cI, 7, .inl cA)), (o2, .inl (cI, 128, .inl g)), (o3, .inl (cI, 128, .inl rA)), (o4, .inl (cI, 128, .inl xA)), (o5, .inl (cI, 49, .inl tA)), (o6, .inl (cI, 896, .inl gA))] H := hP
        have hD9 : va_D A [(h1, .inr (1, [.ref o1, .ref o2, .ref o3, .ref o4, .ref o5, .ref o6, .int (nI on), .int (nI ev)])), (o1, .inl (cI, 7, .inl cA)), (o2, .inl (cI, 128, .inl g)), (o3, .inl (cI, 128, .inl rA)), (o4, .inl (cI, 128, .inl xA)), (o5, .inl (cI, 49, .inl tA)), (o6, .inl (cI, 896, .inl gA))] := hD
        exact W.vret hx hb hr (fun t9 ht9 hW9 => ⟨⟨g, rfl, fun T hT => hg T (by omega), by rw [ht9]; exact hP9, va_K.moved hW9.alike hK, hD9⟩, hS.F ht9⟩) hS.2.2 dX1_countOnward_67
      have c14 : ¬ ev < L := fun z => c14 ((nI_ltI (a := ev) (b := L) (by omega) (by omega)).mpr z)
      refine lv_aload_n hx hb dX1_countOnward_17 rfl (lv_at hl 0 rfl) ?_
      refine lv_iload_n hx hb dX1_countOnward_18 rfl (lv_at hl 1 rfl) ?_
      have hPc := hP.sub (ws' := [(h1, .inr (1, [.ref o1, .ref o2, .ref o3, .ref o4, .ref o5, .ref o6, .int (nI on), .int (nI ev)])), (o1, .inl (cI, 7, .inl cA)), (o2, .inl (cI, 128, .inl g)), (o3, .inl (cI, 128, .inl rA)), (o4, .inl (cI, 128, .inl xA)), (o5, .inl (cI, 49, .inl tA)), (o6, .inl (cI, 896, .inl gA))]) [0, 1, 2, 3, 4, 5, 6] rfl
      have hDc := hD.sub (ws' := [(h1, .inr (1, [.ref o1, .ref o2, .ref o3, .ref o4, .ref o5, .ref o6, .int (nI on), .int (nI ev)])), (o1, .inl (cI, 7, .inl cA)), (o2, .inl (cI, 128, .inl g)), (o3, .inl (cI, 128, .inl rA)), (o4, .inl (cI, 128, .inl xA)), (o5, .inl (cI, 49, .inl tA)), (o6, .inl (cI, 896, .inl gA))]) [0, 1, 2, 3, 4, 5, 6] (by decide) rfl
      have hFc := va_free (wc := [(h1, .inr (1, [.ref o1, .ref o2, .ref o3, .ref o4, .ref o5, .ref o6, .int (nI on), .int (nI ev)])), (o1, .inl (cI, 7, .inl cA)), (o2, .inl (cI, 128, .inl g)), (o3, .inl (cI, 128, .inl rA)), (o4, .inl (cI, 128, .inl xA)), (o5, .inl (cI, 49, .inl tA)), (o6, .inl (cI, 896, .inl gA))]) hD hS hA [0, 1, 2, 3, 4, 5, 6] rfl
      refine va_calli (va_runV (As := [.int (nI L)]) (rest := []) ⟨hx, hb, hml, hown, hts⟩ (KX1_turn l dC dI0 cI cZ h1 o1 o2 o3 o4 o5 o6 on ev cA g rA xA tA gA H.size cs L (by first | assumption | omega) (by first | assumption | omega)) (cwV 1 hts gX1_countOnward_X1_turn rfl rfl rfl (by decide +kernel) ⟨Nat.le_of_ble_eq_true rfl, Nat.le_of_ble_eq_true rfl⟩) ⟨fun a U g mk q => by obtain ⟨q0, q1, qP, qK, qD⟩ := q; exact ⟨q0, q1, qP, va_K.moved (u := U) (U := U.calling g mk a) (Vm.Alike.refl U.vm) qK, qD⟩, va_recv hK hPc (ci := 1) (q0 := 0) rfl rfl, fun U hU hW => ⟨rfl, by rw [hU], by rw [hU]; exact hPc, va_K.moved hW.alike hK, hDc.weaken (fun _ _ _ _ => trivial)⟩⟩ rfl rfl hl.1 rfl (lv_room (Nat.le_of_ble_eq_true rfl)) dX1_countOnward_19 ⟨Nat.le_of_ble_eq_true rfl, Nat.le_of_ble_eq_true rfl⟩) hS (fun q _ h => hFc q h) hFc (fun r19 u19 t7 H1 locs ht7 hvm7 hw19 hB hz1 hk1 hS => ?_)
      obtain ⟨hP1, hK1, hD1⟩ := hB
      rw [ht7] at hP1
      try dsimp only at hw19 hP1 hD1
      obtain ⟨hP, hD⟩ := va_join (wr := []) (w1 := [(h1, .inr (1, [.ref o1, .ref o2, .ref o3, .ref o4, .ref o5, .ref o6, .int (nI on), .int (nI ev)])), (o1, .inl (cI, 7, .inl cA)), (o2, .inl (cI, 128, .inl g)), (o3, .inl (cI, 128, .inl rA)), (o4, .inl (cI, 128, .inl xA)), (o5, .inl (cI, 49, .inl tA)), (o6, .inl (cI, 896, .inl gA))]) hP hD [0, 1, 2, 3, 4, 5, 6] [] rfl rfl (by decide) (by decide) hk1 hFc hP1 hD1
      generalize H1 = H at hP hS ⊢
      have hP := hP.sub (ws' := [(h1, .inr (1, [.ref o1, .ref o2, .ref o3, .ref o4, .ref o5, .ref o6, .int (nI on), .int (nI ev)])), (o1, .inl (cI, 7, .inl cA)), (o2, .inl (cI, 128, .inl g)), (o3, .inl (cI, 128, .inl rA)), (o4, .inl (cI, 128, .inl xA)), (o5, .inl (cI, 49, .inl tA)), (o6, .inl (cI, 896, .inl gA))]) [0, 1, 2, 3, 4, 5, 6] rfl
      have hD := hD.sub (ws' := [(h1, .inr (1, [.ref o1, .ref o2, .ref o3, .ref o4, .ref o5, .ref o6, .int (nI on), .int (nI ev)])), (o1, .inl (cI, 7, .inl cA)), (o2, .inl (cI, 128, .inl g)), (o3, .inl (cI, 128, .inl rA)), (o4, .inl (cI, 128, .inl xA)), (o5, .inl (cI, 49, .inl tA)), (o6, .inl (cI, 896, .inl gA))]) [0, 1, 2, 3, 4, 5, 6] (by decide) rfl
      obtain rfl : r19 = nI (on - pop L) := hw19
      have hpp := pop_pos L (by omega) (by omega)
      have hpn := pop_n on ho7 L (by omega)
      refine lv_istore_n (lv' := [(2, .int (nI (on - pop L))), (0, .ref h1), (1, .int (nI L))]) hx hb dX1_countOnward_22 rfl hl (by decide) rfl (fun ls hl => ?_)
      refine lv_iconst (v := nI 0) hx hb dX1_countOnward_23 (by decide) ?_
      refine lv_istore_n (lv' := [(3, .int (nI 0)), (2, .int (nI (on - pop L))), (0, .ref h1), (1, .int (nI L))]) hx hb dX1_countOnward_24 rfl hl (by decide) rfl (fun ls hl => ?_)
      refine lv_iconst (v := nI 0) hx hb dX1_countOnward_25 (by decide) ?_
      refine lv_istore (lv' := [(4, .int (nI 0)), (3, .int (nI 0)), (2, .int (nI (on - pop L))), (0, .ref h1), (1, .int (nI L))]) hx hb dX1_countOnward_26 hl (by decide) rfl (fun ls hl => ?_)
      have L28 : ∀ (fu : Nat) (i : Nat) (a : Nat), i ≤ on → a = smS (fun q => wW cs (onS cs on) (on - pop L) q L) i → on - i < fu → ∀ (H : Heap) (locs : List Loc), va_P (dC, dI0) vwCl [(h1, .inr (1, [.ref o1, .ref o2, .ref o3, .ref o4, .ref o5, .ref o6, .int (nI on), .int (nI ev)])), (o1, .inl (cI, 7, .inl cA)), (o2, .inl (cI, 128, .inl g)), (o3, .inl (cI, 128, .inl rA)), (o4, .inl (cI, 128, .inl xA)), (o5, .inl (cI, 49, .inl tA)), (o6, .inl (cI, 896, .inl gA))] H → va_D A [(h1, .inr (1, [.ref o1, .ref o2, .ref o3, .ref o4, .ref o5, .ref o6, .int (nI on), .int (nI ev)])), (o1, .inl (cI, 7, .inl cA)), (o2, .inl (cI, 128, .inl g)), (o3, .inl (cI, 128, .inl rA)), (o4, .inl (cI, 128, .inl xA)), (o5, .inl (cI, 49, .inl tA)), (o6, .inl (cI, 896, .inl gA))] → va_S A s.heap H locs → ∀ (ls : Array Slot), lv_has ls 5 [(0, .ref h1), (1, .int (nI L)), (2, .int (nI (on - pop L))), (3, .int (nI a)), (4, .int (nI i))] → W prg l env ({ frames := 2, cells := 0, slots := 0, locals := 44 } : Room) s m ([.ref h1] : List Value).toArray below meth c H locs 0 0 Q (F0 m 28 ls []) := by
        intro fu
        induction fu with
        | zero => intro i a hi ha hmu; exact absurd hmu (Nat.not_lt_zero _)
        | succ fu ih28 =>
          intro i a hi ha hmu28 H locs hP hD hS ls hl
          refine lv_iload hx hb dX1_countOnward_28 (lv_at hl 4 rfl) ?_
          refine lv_aload_n hx hb dX1_countOnward_30 rfl (lv_at hl 0 rfl) ?_
          refine va_get (D := (dC, dI0)) (ci := 1) (v := .int (nI on)) (C := RX1) (T := TX1) (N := 8) hx hb hts hin_X1 hown hK hP 0 rfl rfl 6 (by decide) hf36 (fun _ h9 => h9) rfl dX1_countOnward_31 ?_
          refine lv_icmp_ge (tgt := 54) hx hb dX1_countOnward_34 (by decide) (fun c34 => ?_) (fun c34 => ?_)
          ·
            have c34 : on ≤ i := (nI_leI (a := on) (b := i) (by omega) (by omega)).mp c34
            refine lv_aload_n hx hb dX1_countOnward_54 rfl (lv_at hl 0 rfl) ?_
            refine va_get (D := (dC, dI0)) (ci := 1) (v := .ref o2) (C := RX1) (T := TX1) (N := 8) hx hb hts hin_X1 hown hK hP 0 rfl rfl 1 (by decide) hf17 (fun _ h9 => h9) rfl dX1_countOnward_55 ?_
            refine lv_iload_n hx hb dX1_countOnward_58 rfl (lv_at hl 1 rfl) ?_
            refine lv_iload_n hx hb dX1_countOnward_59 rfl (lv_at hl 3 rfl) ?_
            refine va_iast hx hb hK hP hD hS 2 0 rfl rfl (vp_in_nI (by omega) (by decide)) dX1_countOnward_60 (fun H locs hP hD hS => ?_)
            rw [nI_clamp (n := L) (by omega)] at hP hD
            have hP : va_P (dC, dI0) vwCl [(h1, .inr (1, [.ref o1, .ref o2, .ref o3, .ref o4, .ref o5, .ref o6, .int (nI on), .int (nI ev)])), (o1, .inl (cI, 7, .inl cA)), (o2, .inl (cI, 128, .inl (upd g L (nI a)))), (o3, .inl (cI, 128, .inl rA)), (o4, .inl (cI, 128, .inl xA)), (o5, .inl (cI, 49, .inl tA)), (o6, .inl (cI, 896, .inl gA))] H := hP
            have hD : va_D A [(h1, .inr (1, [.ref o1, .ref o2, .ref o3, .ref o4, .ref o5, .ref o6, .int (nI on), .int (nI ev)])), (o1, .inl (cI, 7, .inl cA)), (o2, .inl (cI, 128, .inl (upd g L (nI a)))), (o3, .inl (cI, 128, .inl rA)), (o4, .inl (cI, 128, .inl xA)), (o5, .inl (cI, 49, .inl tA)), (o6, .inl (cI, 896, .inl gA))] := hD
            refine lv_iinc (v := nI (L + 1)) (lv' := [(1, .int (nI (L + 1))), (0, .ref h1), (2, .int (nI (on - pop L))), (3, .int (nI a)), (4, .int (nI i))]) hx hb dX1_countOnward_61 hl (k := 1) rfl (show nI L + Int32.ofInt 1 = nI (L + 1) from nI_add _ _) (by decide) rfl (fun ls hl => ?_)
            refine lv_goto (tgt := 9) hx hb dX1_countOnward_64 (by decide) ?_
            exact ih9 (L + 1) (upd g L (nI a)) (by omega) (by omega) (upd_lt hg (by rw [ha, show i = on by omega, onS_eq ho7 (by omega) (by omega)])) (by omega) _ _ hP hD hS ls (lv_sub hl [1, 0] rfl)
          have c34 : ¬ on ≤ i := fun z => c34 ((nI_leI (a := on) (b := i) (by omega) (by omega)).mpr z)
          refine lv_iload_n hx hb dX1_countOnward_37 rfl (lv_at hl 3 rfl) ?_
          refine lv_aload_n hx hb dX1_countOnward_38 rfl (lv_at hl 0 rfl) ?_
          refine lv_iload_n hx hb dX1_countOnward_39 rfl (lv_at hl 2 rfl) ?_
          refine lv_iload hx hb dX1_countOnward_40 (lv_at hl 4 rfl) ?_
          refine lv_iload_n hx hb dX1_countOnward_42 rfl (lv_at hl 1 rfl) ?_
          have hPc := hP.sub (ws' := [(h1, .inr (1, [.ref o1, .ref o2, .ref o3, .ref o4, .ref o5, .ref o6, .int (nI on), .int (nI ev)])), (o1, .inl (cI, 7, .inl cA)), (o2, .inl (cI, 128, .inl g)), (o3, .inl (cI, 128, .inl rA)), (o4, .inl (cI, 128, .inl xA)), (o5, .inl (cI, 49, .inl tA)), (o6, .inl (cI, 896, .inl gA))]) [0, 1, 2, 3, 4, 5, 6] rfl
          have hDc := hD.sub (ws' := [(h1, .inr (1, [.ref o1, .ref o2, .ref o3, .ref o4, .ref o5, .ref o6, .int (nI on), .int (nI ev)])), (o1, .inl (cI, 7, .inl cA)), (o2, .inl (cI, 128, .inl g)), (o3, .inl (cI, 128, .inl rA)), (o4, .inl (cI, 128, .inl xA)), (o5, .inl (cI, 49, .inl tA)), (o6, .inl (cI, 896, .inl gA))]) [0, 1, 2, 3, 4, 5, 6] (by decide) rfl
          have hFc := va_free (wc := [(h1, .inr (1, [.ref o1, .ref o2, .ref o3, .ref o4, .ref o5, .ref o6, .int (nI on), .int (nI ev)])), (o1, .inl (cI, 7, .inl cA)), (o2, .inl (cI, 128, .inl g)), (o3, .inl (cI, 128, .inl rA)), (o4, .inl (cI, 128, .inl xA)), (o5, .inl (cI, 49, .inl tA)), (o6, .inl (cI, 896, .inl gA))]) hD hS hA [0, 1, 2, 3, 4, 5, 6] rfl
          refine va_calli (va_runV (As := [.int (nI (on - pop L)), .int (nI i), .int (nI L)]) (rest := [.int (nI a)]) ⟨hx, hb, hml, hown, hts⟩ (KX1_waysWith l dC dI0 cI cZ h1 o1 o2 o3 o4 o5 o6 on ev cA g rA xA tA gA H.size cs (onS cs on) (on - pop L) i L (by first | assumption | omega) (by first | assumption | omega) (by first | assumption | omega) (by first | assumption | omega) (hg)) (cwV 3 hts gX1_countOnward_X1_waysWith rfl rfl rfl (by decide +kernel) ⟨Nat.le_of_ble_eq_true rfl, Nat.le_of_ble_eq_true rfl⟩) ⟨fun a U g mk q => by obtain ⟨q0, q1, qP, qK, qD⟩ := q; exact ⟨q0, q1, qP, va_K.moved (u := U) (U := U.calling g mk a) (Vm.Alike.refl U.vm) qK, qD⟩, va_recv hK hPc (ci := 1) (q0 := 0) rfl rfl, fun U hU hW => ⟨rfl, by rw [hU], by rw [hU]; exact hPc, va_K.moved hW.alike hK, hDc.weaken (fun _ _ _ _ => trivial)⟩⟩ rfl rfl hl.1 rfl (lv_room (Nat.le_of_ble_eq_true rfl)) dX1_countOnward_43 ⟨Nat.le_of_ble_eq_true rfl, Nat.le_of_ble_eq_true rfl⟩) hS (fun q _ h => hFc q h) hFc (fun r43 u43 t7 H1 locs ht7 hvm7 hw43 hB hz1 hk1 hS => ?_)
          obtain ⟨hP1, hK1, hD1⟩ := hB
          rw [ht7] at hP1
          try dsimp only at hw43 hP1 hD1
          obtain ⟨hP, hD⟩ := va_join (wr := []) (w1 := [(h1, .inr (1, [.ref o1, .ref o2, .ref o3, .ref o4, .ref o5, .ref o6, .int (nI on), .int (nI ev)])), (o1, .inl (cI, 7, .inl cA)), (o2, .inl (cI, 128, .inl g)), (o3, .inl (cI, 128, .inl rA)), (o4, .inl (cI, 128, .inl xA)), (o5, .inl (cI, 49, .inl tA)), (o6, .inl (cI, 896, .inl gA))]) hP hD [0, 1, 2, 3, 4, 5, 6] [] rfl rfl (by decide) (by decide) hk1 hFc hP1 hD1
          generalize H1 = H at hP hS ⊢
          have hP := hP.sub (ws' := [(h1, .inr (1, [.ref o1, .ref o2, .ref o3, .ref o4, .ref o5, .ref o6, .int (nI on), .int (nI ev)])), (o1, .inl (cI, 7, .inl cA)), (o2, .inl (cI, 128, .inl g)), (o3, .inl (cI, 128, .inl rA)), (o4, .inl (cI, 128, .inl xA)), (o5, .inl (cI, 49, .inl tA)), (o6, .inl (cI, 896, .inl gA))]) [0, 1, 2, 3, 4, 5, 6] rfl
          have hD := hD.sub (ws' := [(h1, .inr (1, [.ref o1, .ref o2, .ref o3, .ref o4, .ref o5, .ref o6, .int (nI on), .int (nI ev)])), (o1, .inl (cI, 7, .inl cA)), (o2, .inl (cI, 128, .inl g)), (o3, .inl (cI, 128, .inl rA)), (o4, .inl (cI, 128, .inl xA)), (o5, .inl (cI, 49, .inl tA)), (o6, .inl (cI, 896, .inl gA))]) [0, 1, 2, 3, 4, 5, 6] (by decide) rfl
          obtain rfl : r43 = nI (wW cs (onS cs on) (on - pop L) i L) := hw43
          refine lv_iadd hx hb dX1_countOnward_46 ?_
          refine lv_topi (fun x46 e46 => ?_)
          obtain rfl : x46 = nI (a + (wW cs (onS cs on) (on - pop L) i L)) := e46.trans (nI_add _ _)
          refine lv_istore_n (lv' := [(3, .int (nI (a + (wW cs (onS cs on) (on - pop L) i L)))), (0, .ref h1), (1, .int (nI L)), (2, .int (nI (on - pop L))), (4, .int (nI i))]) hx hb dX1_countOnward_47 rfl hl (by decide) rfl (fun ls hl => ?_)
          refine lv_iinc (v := nI (i + 1)) (lv' := [(4, .int (nI (i + 1))), (3, .int (nI (a + (wW cs (onS cs on) (on - pop L) i L)))), (0, .ref h1), (1, .int (nI L)), (2, .int (nI (on - pop L)))]) hx hb dX1_countOnward_48 hl (k := 4) rfl (show nI i + Int32.ofInt 1 = nI (i + 1) from nI_add _ _) (by decide) rfl (fun ls hl => ?_)
          refine lv_goto (tgt := 28) hx hb dX1_countOnward_51 (by decide) ?_
          exact ih28 (i + 1) (a + (wW cs (onS cs on) (on - pop L) i L)) (by omega) (by rw [ha]; rfl) (by omega) _ _ hP hD hS ls (lv_sub hl [2, 3, 4, 1, 0] rfl)
      exact L28 _ 0 0 (by omega) (rfl) (Nat.lt_succ_self _) _ _ hP hD hS ls (lv_sub hl [3, 4, 2, 1, 0] rfl)
  exact L9 _ 1 (upd wA 0 (nI 1)) (by omega) (by omega) (fun T hT => by rw [show T = 0 by omega, pk_us, onS_0]) (Nat.lt_succ_self _) _ _ hP hD hS ls (lv_sub hl [1, 0] rfl)

set_option maxHeartbeats 4000000 in
set_option maxRecDepth 100000 in
theorem KX1_look (l : Launch) (dC : Nat → ClassId) (dI0 : Nat → Nat → Nat) (cI cZ : ClassId) (h1 : Nat) (o1 : Nat) (o2 : Nat) (o3 : Nat) (o4 : Nat) (o5 : Nat) (o6 : Nat) (on : Nat) (ev : Nat) (cA : Nat → Int32) (wA : Nat → Int32) (rA : Nat → Int32) (xA : Nat → Int32) (tA : Nat → Int32) (gA : Nat → Int32) (h0 : Nat) (a1 : Nat) (a2 : Nat) (a3 : Nat) (a4 : Nat) (a5 : Nat) (a6 : Nat) (a7 : Nat) (n : Nat) (dr : Nat) (sc : Nat) (kA : Nat → Int32) (hsA : Nat → Int32) (dA : Nat → Int32) (bA : Nat → Int32) (pA : Nat → Int32) (nA : Nat → Int32) (mA : Nat → Int32) (sz : Nat) (k : Nat → Nat) (h : Nat → Nat) (b : Nat → Nat) (d : Nat → Option Nat) (hC : CoR n kA hsA dA bA k h b d) : Met l yX1_look wsX1_look ({ frames := 4, cells := 0, slots := 0, locals := 82 } : Room) (va_Pc [.ref h1, .ref h0] (fun U => U.heap.size = sz ∧ va_P (dC, dI0) vwCl (WOC cI cZ h1 o1 o2 o3 o4 o5 o6 on ev cA wA rA xA tA gA h0 a1 a2 a3 a4 a5 a6 a7 n dr sc kA hsA dA bA pA nA mA) U.heap ∧ va_K (dC, dI0) vwCl [(cI, .int), (cZ, .boolean)] U ∧ va_D (fun _ => True) (WOC cI cZ h1 o1 o2 o3 o4 o5 o6 on ev cA wA rA xA tA gA h0 a1 a2 a3 a4 a5 a6 a7 n dr sc kA hsA dA bA pA nA mA))) (va_Qv (fun (u : (Nat → Int32) × (Nat → Int32)) => OuR n (2 ^ n - 1) u.1 (chS n k h b d) ∧ ∀ T, T ≤ 2 ^ n - 1 → u.2 T = nI (onS (chS n k h b d) n T)) (fun (u : (Nat → Int32) × (Nat → Int32)) (t : State) => va_P (dC, dI0) vwCl (WOC cI cZ h1 o1 o2 o3 o4 o5 o6 n (2 ^ n - 1) u.1 u.2 rA xA tA gA h0 a1 a2 a3 a4 a5 a6 a7 n dr sc kA hsA dA bA pA nA mA) t.heap ∧ va_K (dC, dI0) vwCl [(cI, .int), (cZ, .boolean)] t ∧ va_D (va_A (WOC cI cZ h1 o1 o2 o3 o4 o5 o6 on ev cA wA rA xA tA gA h0 a1 a2 a3 a4 a5 a6 a7 n dr sc kA hsA dA bA pA nA mA) sz) (WOC cI cZ h1 o1 o2 o3 o4 o5 o6 n (2 ^ n - 1) u.1 u.2 rA xA tA gA h0 a1 a2 a3 a4 a5 a6 a7 n dr sc kA hsA dA bA pA nA mA)) (va_A (WOC cI cZ h1 o1 o2 o3 o4 o5 o6 on ev cA wA rA xA tA gA h0 a1 a2 a3 a4 a5 a6 a7 n dr sc kA hsA dA bA pA nA mA) sz)) 0 0 (va_A (WOC cI cZ h1 o1 o2 o3 o4 o5 o6 on ev cA wA rA xA tA gA h0 a1 a2 a3 a4 a5 a6 a7 n dr sc kA hsA dA bA pA nA mA) sz) := by
  refine Met.ofW (cc := cX1_look) (maxL := 4) (ret := none) (by decide) rfl ?_
  intro prg env s m args below meth c s₁ B hml hv
  obtain ⟨rfl, hsz, hP, hK, hD0⟩ := hv
  have hx := B.exec
  have hb := B.bytes
  have hr := B.returns
  have hts := atoms_spec (ws := wsX1_look) B.pre
  have hown : s.vm.findClass RX1 = some m.cls := findClass_of_methodNamed B.named
  have hlocks := B.notSynchronized
  subst hsz
  have hD := hD0.self (sz := s.heap.size)
  generalize hAe : va_A (WOC cI cZ h1 o1 o2 o3 o4 o5 o6 on ev cA wA rA xA tA gA h0 a1 a2 a3 a4 a5 a6 a7 n dr sc kA hsA dA bA pA nA mA) s.heap.size = A at hD ⊢
  have hA : ∀ q : Nat, s.heap.size ≤ q → A q := fun q h => by rw [← hAe]; exact Or.inr h
  have hS : va_S A s.heap s.heap [] := va_S.rf
  have hP : va_P (dC, dI0) vwCl [(h1, .inr (1, [.ref o1, .ref o2, .ref o3, .ref o4, .ref o5, .ref o6, .int (nI on), .int (nI ev)])), (o1, .inl (cI, 7, .inl cA)), (o2, .inl (cI, 128, .inl wA)), (o3, .inl (cI, 128, .inl rA)), (o4, .inl (cI, 128, .inl xA)), (o5, .inl (cI, 49, .inl tA)), (o6, .inl (cI, 896, .inl gA)), (h0, .inr (0, [.ref a1, .ref a2, .ref a3, .ref a4, .int (nI n), .int (nI dr), .int (nI sc), .ref a5, .ref a6, .ref a7])), (a1, .inl (cI, 7, .inl kA)), (a2, .inl (cI, 7, .inl hsA)), (a3, .inl (cI, 7, .inl dA)), (a4, .inl (cI, 7, .inl bA)), (a5, .inl (cI, 6, .inl pA)), (a6, .inl (cI, 6, .inl nA)), (a7, .inl (cZ, 6, .inl mA))] s.heap := hP
  have hD : va_D A [(h1, .inr (1, [.ref o1, .ref o2, .ref o3, .ref o4, .ref o5, .ref o6, .int (nI on), .int (nI ev)])), (o1, .inl (cI, 7, .inl cA)), (o2, .inl (cI, 128, .inl wA)), (o3, .inl (cI, 128, .inl rA)), (o4, .inl (cI, 128, .inl xA)), (o5, .inl (cI, 49, .inl tA)), (o6, .inl (cI, 896, .inl gA)), (h0, .inr (0, [.ref a1, .ref a2, .ref a3, .ref a4, .int (nI n), .int (nI dr), .int (nI sc), .ref a5, .ref a6, .ref a7])), (a1, .inl (cI, 7, .inl kA)), (a2, .inl (cI, 7, .inl hsA)), (a3, .inl (cI, 7, .inl dA)), (a4, .inl (cI, 7, .inl bA)), (a5, .inl (cI, 6, .inl pA)), (a6, .inl (cI, 6, .inl nA)), (a7, .inl (cZ, 6, .inl mA))] := hD
  have hl := lv_entry ([.ref h1, .ref h0]) (n := 4) (Nat.le_of_ble_eq_true rfl)
  rw [lg_entry_eq]
  generalize (lg_sl ([.ref h1, .ref h0]) ++ List.replicate (4 - (lg_sl ([.ref h1, .ref h0])).length) Slot.unset).toArray = ls at hl ⊢
  have hl : lv_has ls 4 [(0, .ref h1), (1, .ref h0)] := hl
  obtain ⟨H, hH⟩ : ∃ H : Heap, H = s.heap := ⟨_, rfl⟩
  rw [← hH] at hP ⊢
  have hS : va_S A s.heap H [] := by rw [hH]; exact hS
  refine w_gen (fun Q hQ => ?_)
  have hin_X0 : ∀ w ∈ wsX00, w ∈ wsX1_look := by decide +kernel
  have hf32 := hts (.fieldLink RX1 32 "HatNames$Company" "size" "I") (by decide +kernel)
  have hin_X1 : ∀ w ∈ wsX10, w ∈ wsX1_look := by decide +kernel
  have hf36 := hts (.fieldLink RX1 36 "HatNames$Outlook" "size" "I") (by decide +kernel)
  have hf37 := hts (.fieldLink RX1 37 "HatNames$Outlook" "everyName" "I") (by decide +kernel)
  have hf11 := hts (.fieldLink RX1 11 "HatNames$Outlook" "choices" "[I") (by decide +kernel)
  have hf48 := hts (.fieldLink RX1 48 "HatNames$Company" "drawn" "[I") (by decide +kernel)
  obtain ⟨hn7, hkk, hhh, hbb, hdd, hdn, hdi⟩ := id hC
  have h2p := Nat.two_pow_pos n
  have h2e := ev_le hn7
  refine lv_aload_n hx hb dX1_look_0 rfl (lv_at hl 0 rfl) ?_
  refine lv_aload_n hx hb dX1_look_1 rfl (lv_at hl 1 rfl) ?_
  refine va_get (D := (dC, dI0)) (ci := 0) (v := .int (nI n)) (C := RX0) (T := TX0) (N := 10) hx hb hts hin_X0 hown hK hP 7 rfl rfl 4 (by decide) hf32 (fun _ h9 => h9) rfl dX1_look_2 ?_
  refine va_put (D := (dC, dI0)) (ci := 1) (v := .int (nI n)) (ty := .int) (C := RX1) (T := TX1) (N := 8) hx hb hts hin_X1 tyX1 tyX1_ok nmX1 hown hK hP hD hS 0 rfl rfl 6 (by decide) hf36 (fun _ h9 => h9) rfl (by decide +kernel) rfl rfl (Nat.le_of_ble_eq_true rfl) dX1_look_5 (fun H locs hP hD hS => ?_)
  have hP : va_P (dC, dI0) vwCl [(h1, .inr (1, [.ref o1, .ref o2, .ref o3, .ref o4, .ref o5, .ref o6, .int (nI n), .int (nI ev)])), (o1, .inl (cI, 7, .inl cA)), (o2, .inl (cI, 128, .inl wA)), (o3, .inl (cI, 128, .inl rA)), (o4, .inl (cI, 128, .inl xA)), (o5, .inl (cI, 49, .inl tA)), (o6, .inl (cI, 896, .inl gA)), (h0, .inr (0, [.ref a1, .ref a2, .ref a3, .ref a4, .int (nI n), .int (nI dr), .int (nI sc), .ref a5, .ref a6, .ref a7])), (a1, .inl (cI, 7, .inl kA)), (a2, .inl (cI, 7, .inl hsA)), (a3, .inl (cI, 7, .inl dA)), (a4, .inl (cI, 7, .inl bA)), (a5, .inl (cI, 6, .inl pA)), (a6, .inl (cI, 6, .inl nA)), (a7, .inl (cZ, 6, .inl mA))] H := hP
  have hD : va_D A [(h1, .inr (1, [.ref o1, .ref o2, .ref o3, .ref o4, .ref o5, .ref o6, .int (nI n), .int (nI ev)])), (o1, .inl (cI, 7, .inl cA)), (o2, .inl (cI, 128, .inl wA)), (o3, .inl (cI, 128, .inl rA)), (o4, .inl (cI, 128, .inl xA)), (o5, .inl (cI, 49, .inl tA)), (o6, .inl (cI, 896, .inl gA)), (h0, .inr (0, [.ref a1, .ref a2, .ref a3, .ref a4, .int (nI n), .int (nI dr), .int (nI sc), .ref a5, .ref a6, .ref a7])), (a1, .inl (cI, 7, .inl kA)), (a2, .inl (cI, 7, .inl hsA)), (a3, .inl (cI, 7, .inl dA)), (a4, .inl (cI, 7, .inl bA)), (a5, .inl (cI, 6, .inl pA)), (a6, .inl (cI, 6, .inl nA)), (a7, .inl (cZ, 6, .inl mA))] := hD
  refine lv_aload_n hx hb dX1_look_8 rfl (lv_at hl 0 rfl) ?_
  refine lv_iconst (v := nI 1) hx hb dX1_look_9 (by decide) ?_
  refine lv_aload_n hx hb dX1_look_10 rfl (lv_at hl 0 rfl) ?_
  refine va_get (D := (dC, dI0)) (ci := 1) (v := .int (nI n)) (C := RX1) (T := TX1) (N := 8) hx hb hts hin_X1 hown hK hP 0 rfl rfl 6 (by decide) hf36 (fun _ h9 => h9) rfl dX1_look_11 ?_
  refine lv_ishl hx hb dX1_look_14 ?_
  refine lv_topi (fun x14 e14 => ?_)
  obtain rfl : x14 = nI (2 ^ n) := e14.trans (shl_1 (by omega))
  refine lv_iconst (v := nI 1) hx hb dX1_look_15 (by decide) ?_
  refine lv_isub hx hb dX1_look_16 ?_
  refine lv_topi (fun x16 e16 => ?_)
  obtain rfl : x16 = nI (2 ^ n - 1) := e16.trans (pk_sub h2p)
  refine va_put (D := (dC, dI0)) (ci := 1) (v := .int (nI (2 ^ n - 1))) (ty := .int) (C := RX1) (T := TX1) (N := 8) hx hb hts hin_X1 tyX1 tyX1_ok nmX1 hown hK hP hD hS 0 rfl rfl 7 (by decide) hf37 (fun _ h9 => h9) rfl (by decide +kernel) rfl rfl (Nat.le_of_ble_eq_true rfl) dX1_look_17 (fun H locs hP hD hS => ?_)
  have hP : va_P (dC, dI0) vwCl [(h1, .inr (1, [.ref o1, .ref o2, .ref o3, .ref o4, .ref o5, .ref o6, .int (nI n), .int (nI (2 ^ n - 1))])), (o1, .inl (cI, 7, .inl cA)), (o2, .inl (cI, 128, .inl wA)), (o3, .inl (cI, 128, .inl rA)), (o4, .inl (cI, 128, .inl xA)), (o5, .inl (cI, 49, .inl tA)), (o6, .inl (cI, 896, .inl gA)), (h0, .inr (0, [.ref a1, .ref a2, .ref a3, .ref a4, .int (nI n), .int (nI dr), .int (nI sc), .ref a5, .ref a6, .ref a7])), (a1, .inl (cI, 7, .inl kA)), (a2, .inl (cI, 7, .inl hsA)), (a3, .inl (cI, 7, .inl dA)), (a4, .inl (cI, 7, .inl bA)), (a5, .inl (cI, 6, .inl pA)), (a6, .inl (cI, 6, .inl nA)), (a7, .inl (cZ, 6, .inl mA))] H := hP
  have hD : va_D A [(h1, .inr (1, [.ref o1, .ref o2, .ref o3, .ref o4, .ref o5, .ref o6, .int (nI n), .int (nI (2 ^ n - 1))])), (o1, .inl (cI, 7, .inl cA)), (o2, .inl (cI, 128, .inl wA)), (o3, .inl (cI, 128, .inl rA)), (o4, .inl (cI, 128, .inl xA)), (o5, .inl (cI, 49, .inl tA)), (o6, .inl (cI, 896, .inl gA)), (h0, .inr (0, [.ref a1, .ref a2, .ref a3, .ref a4, .int (nI n), .int (nI dr), .int (nI sc), .ref a5, .ref a6, .ref a7])), (a1, .inl (cI, 7, .inl kA)), (a2, .inl (cI, 7, .inl hsA)), (a3, .inl (cI, 7, .inl dA)), (a4, .inl (cI, 7, .inl bA)), (a5, .inl (cI, 6, .inl pA)), (a6, .inl (cI, 6, .inl nA)), (a7, .inl (cZ, 6, .inl mA))] := hD
  refine lv_aload_n hx hb dX1_look_20 rfl (lv_at hl 1 rfl) ?_
  have hPc := hP.sub (ws' := [(h0, .inr (0, [.ref a1, .ref a2, .ref a3, .ref a4, .int (nI n), .int (nI dr), .int (nI sc), .ref a5, .ref a6, .ref a7])), (a1, .inl (cI, 7, .inl kA)), (a2, .inl (cI, 7, .inl hsA)), (a3, .inl (cI, 7, .inl dA)), (a4, .inl (cI, 7, .inl bA)), (a5, .inl (cI, 6, .inl pA)), (a6, .inl (cI, 6, .inl nA)), (a7, .inl (cZ, 6, .inl mA))]) [7, 8, 9, 10, 11, 12, 13, 14] rfl
  have hDc := hD.sub (ws' := [(h0, .inr (0, [.ref a1, .ref a2, .ref a3, .ref a4, .int (nI n), .int (nI dr), .int (nI sc), .ref a5, .ref a6, .ref a7])), (a1, .inl (cI, 7, .inl kA)), (a2, .inl (cI, 7, .inl hsA)), (a3, .inl (cI, 7, .inl dA)), (a4, .inl (cI, 7, .inl bA)), (a5, .inl (cI, 6, .inl pA)), (a6, .inl (cI, 6, .inl nA)), (a7, .inl (cZ, 6, .inl mA))]) [7, 8, 9, 10, 11, 12, 13, 14] (by decide) rfl
  have hFc := va_free (wc := [(h0, .inr (0, [.ref a1, .ref a2, .ref a3, .ref a4, .int (nI n), .int (nI dr), .int (nI sc), .ref a5, .ref a6, .ref a7])), (a1, .inl (cI, 7, .inl kA)), (a2, .inl (cI, 7, .inl hsA)), (a3, .inl (cI, 7, .inl dA)), (a4, .inl (cI, 7, .inl bA)), (a5, .inl (cI, 6, .inl pA)), (a6, .inl (cI, 6, .inl nA)), (a7, .inl (cZ, 6, .inl mA))]) hD hS hA [7, 8, 9, 10, 11, 12, 13, 14] rfl
  refine va_calli (va_runV (As := []) (rest := []) ⟨hx, hb, hml, hown, hts⟩ (KX0_hatBits l dC dI0 cI cZ h0 a1 a2 a3 a4 a5 a6 a7 n dr sc kA hsA dA bA pA nA mA H.size k h b d (by first | assumption | omega)) (cwV 0 hts gX1_look_X0_hatBits rfl rfl rfl (by decide +kernel) ⟨Nat.le_of_ble_eq_true rfl, Nat.le_of_ble_eq_true rfl⟩) ⟨fun a U g mk q => by obtain ⟨q0, q1, qP, qK, qD⟩ := q; exact ⟨q0, q1, qP, va_K.moved (u := U) (U := U.calling g mk a) (Vm.Alike.refl U.vm) qK, qD⟩, va_recv hK hPc (ci := 0) (q0 := 0) rfl rfl, fun U hU hW => ⟨rfl, by rw [hU], by rw [hU]; exact hPc, va_K.moved hW.alike hK, hDc.weaken (fun _ _ _ _ => trivial)⟩⟩ rfl rfl hl.1 rfl (lv_room (Nat.le_of_ble_eq_true rfl)) dX1_look_21 ⟨Nat.le_of_ble_eq_true rfl, Nat.le_of_ble_eq_true rfl⟩) hS (fun q _ h => hFc q h) hFc (fun r21 u21 t7 H1 locs ht7 hvm7 hw21 hB hz1 hk1 hS => ?_)
  obtain ⟨hP1, hK1, hD1⟩ := hB
  rw [ht7] at hP1
  try dsimp only at hw21 hP1 hD1
  obtain ⟨hP, hD⟩ := va_join (wr := [(h1, .inr (1, [.ref o1, .ref o2, .ref o3, .ref o4, .ref o5, .ref o6, .int (nI n), .int (nI (2 ^ n - 1))])), (o1, .inl (cI, 7, .inl cA)), (o2, .inl (cI, 128, .inl wA)), (o3, .inl (cI, 128, .inl rA)), (o4, .inl (cI, 128, .inl xA)), (o5, .inl (cI, 49, .inl tA)), (o6, .inl (cI, 896, .inl gA))]) (w1 := [(h0, .inr (0, [.ref a1, .ref a2, .ref a3, .ref a4, .int (nI n), .int (nI dr), .int (nI sc), .ref a5, .ref a6, .ref a7])), (a1, .inl (cI, 7, .inl kA)), (a2, .inl (cI, 7, .inl hsA)), (a3, .inl (cI, 7, .inl dA)), (a4, .inl (cI, 7, .inl bA)), (a5, .inl (cI, 6, .inl pA)), (a6, .inl (cI, 6, .inl nA)), (a7, .inl (cZ, 6, .inl mA))]) hP hD [7, 8, 9, 10, 11, 12, 13, 14] [0, 1, 2, 3, 4, 5, 6] rfl rfl (by decide) (by decide) hk1 hFc hP1 hD1
  generalize H1 = H at hP hS ⊢
  have hP := hP.sub (ws' := [(h1, .inr (1, [.ref o1, .ref o2, .ref o3, .ref o4, .ref o5, .ref o6, .int (nI n), .int (nI (2 ^ n - 1))])), (o1, .inl (cI, 7, .inl cA)), (o2, .inl (cI, 128, .inl wA)), (o3, .inl (cI, 128, .inl rA)), (o4, .inl (cI, 128, .inl xA)), (o5, .inl (cI, 49, .inl tA)), (o6, .inl (cI, 896, .inl gA)), (h0, .inr (0, [.ref a1, .ref a2, .ref a3, .ref a4, .int (nI n), .int (nI dr), .int (nI sc), .ref a5, .ref a6, .ref a7])), (a1, .inl (cI, 7, .inl kA)), (a2, .inl (cI, 7, .inl hsA)), (a3, .inl (cI, 7, .inl dA)), (a4, .inl (cI, 7, .inl bA)), (a5, .inl (cI, 6, .inl pA)), (a6, .inl (cI, 6, .inl nA)), (a7, .inl (cZ, 6, .inl mA))]) [0, 1, 2, 3, 4, 5, 6, 7, 8, 9, 10, 11, 12, 13, 14] rfl
  have hD := hD.sub (ws' := [(h1, .inr (1, [.ref o1, .ref o2, .ref o3, .ref o4, .ref o5, .ref o6, .int (nI n), .int (nI (2 ^ n - 1))])), (o1, .inl (cI, 7, .inl cA)), (o2, .inl (cI, 128, .inl wA)), (o3, .inl (cI, 128, .inl rA)), (o4, .inl (cI, 128, .inl xA)), (o5, .inl (cI, 49, .inl tA)), (o6, .inl (cI, 896, .inl gA)), (h0, .inr (0, [.ref a1, .ref a2, .ref a3, .ref a4, .int (nI n), .int (nI dr), .int (nI sc), .ref a5, .ref a6, .ref a7])), (a1, .inl (cI, 7, .inl kA)), (a2, .inl (cI, 7, .inl hsA)), (a3, .inl (cI, 7, .inl dA)), (a4, .inl (cI, 7, .inl bA)), (a5, .inl (cI, 6, .inl pA)), (a6, .inl (cI, 6, .inl nA)), (a7, .inl (cZ, 6, .inl mA))]) [0, 1, 2, 3, 4, 5, 6, 7, 8, 9, 10, 11, 12, 13, 14] (by decide) rfl
  obtain rfl : r21 = nI (hatS n d) := hw21
  refine lv_istore_n (lv' := [(2, .int (nI (hatS n d))), (0, .ref h1), (1, .ref h0)]) hx hb dX1_look_24 rfl hl (by decide) rfl (fun ls hl => ?_)
  refine lv_iconst (v := nI 0) hx hb dX1_look_25 (by decide) ?_
  refine lv_istore_n (lv' := [(3, .int (nI 0)), (2, .int (nI (hatS n d))), (0, .ref h1), (1, .ref h0)]) hx hb dX1_look_26 rfl hl (by decide) rfl (fun ls hl => ?_)
  have L27 : ∀ (fu : Nat) (i : Nat) (g : Nat → Int32), i ≤ n → (∀ p, p < i → g p = nI (chS n k h b d p)) → n - i < fu → ∀ (H : Heap) (locs : List Loc), va_P (dC, dI0) vwCl [(h1, .inr (1, [.ref o1, .ref o2, .ref o3, .ref o4, .ref o5, .ref o6, .int (nI n), .int (nI (2 ^ n - 1))])), (o1, .inl (cI, 7, .inl g)), (o2, .inl (cI, 128, .inl wA)), (o3, .inl (cI, 128, .inl rA)), (o4, .inl (cI, 128, .inl xA)), (o5, .inl (cI, 49, .inl tA)), (o6, .inl (cI, 896, .inl gA)), (h0, .inr (0, [.ref a1, .ref a2, .ref a3, .ref a4, .int (nI n), .int (nI dr), .int (nI sc), .ref a5, .ref a6, .ref a7])), (a1, .inl (cI, 7, .inl kA)), (a2, .inl (cI, 7, .inl hsA)), (a3, .inl (cI, 7, .inl dA)), (a4, .inl (cI, 7, .inl bA)), (a5, .inl (cI, 6, .inl pA)), (a6, .inl (cI, 6, .inl nA)), (a7, .inl (cZ, 6, .inl mA))] H → va_D A [(h1, .inr (1, [.ref o1, .ref o2, .ref o3, .ref o4, .ref o5, .ref o6, .int (nI n), .int (nI (2 ^ n - 1))])), (o1, .inl (cI, 7, .inl g)), (o2, .inl (cI, 128, .inl wA)), (o3, .inl (cI, 128, .inl rA)), (o4, .inl (cI, 128, .inl xA)), (o5, .inl (cI, 49, .inl tA)), (o6, .inl (cI, 896, .inl gA)), (h0, .inr (0, [.ref a1, .ref a2, .ref a3, .ref a4, .int (nI n), .int (nI dr), .int (nI sc), .ref a5, .ref a6, .ref a7])), (a1, .inl (cI, 7, .inl kA)), (a2, .inl (cI, 7, .inl hsA)), (a3, .inl (cI, 7, .inl dA)), (a4, .inl (cI, 7, .inl bA)), (a5, .inl (cI, 6, .inl pA)), (a6, .inl (cI, 6, .inl nA)), (a7, .inl (cZ, 6, .inl mA))] → va_S A s.heap H locs → ∀ (ls : Array Slot), lv_has ls 4 [(0, .ref h1), (1, .ref h0), (2, .int (nI (hatS n d))), (3, .int (nI i))] → W prg l env ({ frames := 4, cells := 0, slots := 0, locals := 82 } : Room) s m ([.ref h1, .ref h0] : List Value).toArray below meth c H locs 0 0 Q (F0 m 27 ls []) := by
    intro fu
    induction fu with
    | zero => intro i g hi hg hmu; exact absurd hmu (Nat.not_lt_zero _)
    | succ fu ih27 =>
      intro i g hi hg hmu27 H locs hP hD hS ls hl
      refine lv_iload_n hx hb dX1_look_27 rfl (lv_at hl 3 rfl) ?_
      refine lv_aload_n hx hb dX1_look_28 rfl (lv_at hl 0 rfl) ?_
      refine va_get (D := (dC, dI0)) (ci := 1) (v := .int (nI n)) (C := RX1) (T := TX1) (N := 8) hx hb hts hin_X1 hown hK hP 0 rfl rfl 6 (by decide) hf36 (fun _ h9 => h9) rfl dX1_look_29 ?_
      refine lv_icmp_ge (tgt := 73) hx hb dX1_look_32 (by decide) (fun c32 => ?_) (fun c32 => ?_)
      ·
        have c32 : n ≤ i := (nI_leI (a := n) (b := i) (by omega) (by omega)).mp c32
        have hO : OuR n (2 ^ n - 1) g (chS n k h b d) := ⟨hn7, by omega, by omega, fun p hp => ⟨hg p (by omega), by have := chS_lt (k := k) (h := h) (b := b) (hdn p hp); omega⟩⟩
        refine lv_aload_n hx hb dX1_look_73 rfl (lv_at hl 0 rfl) ?_
        have hPc := hP.sub (ws' := [(h1, .inr (1, [.ref o1, .ref o2, .ref o3, .ref o4, .ref o5, .ref o6, .int (nI n), .int (nI (2 ^ n - 1))])), (o1, .inl (cI, 7, .inl g)), (o2, .inl (cI, 128, .inl wA)), (o3, .inl (cI, 128, .inl rA)), (o4, .inl (cI, 128, .inl xA)), (o5, .inl (cI, 49, .inl tA)), (o6, .inl (cI, 896, .inl gA))]) [0, 1, 2, 3, 4, 5, 6] rfl
        have hDc := hD.sub (ws' := [(h1, .inr (1, [.ref o1, .ref o2, .ref o3, .ref o4, .ref o5, .ref o6, .int (nI n), .int (nI (2 ^ n - 1))])), (o1, .inl (cI, 7, .inl g)), (o2, .inl (cI, 128, .inl wA)), (o3, .inl (cI, 128, .inl rA)), (o4, .inl (cI, 128, .inl xA)), (o5, .inl (cI, 49, .inl tA)), (o6, .inl (cI, 896, .inl gA))]) [0, 1, 2, 3, 4, 5, 6] (by decide) rfl
        have hFc := va_free (wc := [(h1, .inr (1, [.ref o1, .ref o2, .ref o3, .ref o4, .ref o5, .ref o6, .int (nI n), .int (nI (2 ^ n - 1))])), (o1, .inl (cI, 7, .inl g)), (o2, .inl (cI, 128, .inl wA)), (o3, .inl (cI, 128, .inl rA)), (o4, .inl (cI, 128, .inl xA)), (o5, .inl (cI, 49, .inl tA)), (o6, .inl (cI, 896, .inl gA))]) hD hS hA [0, 1, 2, 3, 4, 5, 6] rfl
        refine va_callv (va_runV (As := []) (rest := []) ⟨hx, hb, hml, hown, hts⟩ (KX1_countOnward l dC dI0 cI cZ h1 o1 o2 o3 o4 o5 o6 n (2 ^ n - 1) g wA rA xA tA gA H.size (chS n k h b d) (by first | assumption | omega)) (cwV 0 hts gX1_look_X1_countOnward rfl rfl rfl (by decide +kernel) ⟨Nat.le_of_ble_eq_true rfl, Nat.le_of_ble_eq_true rfl⟩) ⟨fun a U g mk q => by obtain ⟨q0, q1, qP, qK, qD⟩ := q; exact ⟨q0, q1, qP, va_K.moved (u := U) (U := U.calling g mk a) (Vm.Alike.refl U.vm) qK, qD⟩, va_recv hK hPc (ci := 1) (q0 := 0) rfl rfl, fun U hU hW => ⟨rfl, by rw [hU], by rw [hU]; exact hPc, va_K.moved hW.alike hK, hDc.weaken (fun _ _ _ _ => trivial)⟩⟩ rfl rfl hl.1 rfl (lv_room (Nat.le_of_ble_eq_true rfl)) dX1_look_74 ⟨Nat.le_of_ble_eq_true rfl, Nat.le_of_ble_eq_true rfl⟩) hS (fun q _ h => hFc q h) hFc (fun u74 t7 H1 locs ht7 hvm7 hw74 hB hz1 hk1 hS => ?_)
        obtain ⟨wB, ewB⟩ : ∃ z, z = u74 := ⟨_, rfl⟩; subst ewB
        obtain ⟨hP1, hK1, hD1⟩ := hB
        rw [ht7] at hP1
        try dsimp only at hw74 hP1 hD1
        obtain ⟨hP, hD⟩ := va_join (wr := [(h0, .inr (0, [.ref a1, .ref a2, .ref a3, .ref a4, .int (nI n), .int (nI dr), .int (nI sc), .ref a5, .ref a6, .ref a7])), (a1, .inl (cI, 7, .inl kA)), (a2, .inl (cI, 7, .inl hsA)), (a3, .inl (cI, 7, .inl dA)), (a4, .inl (cI, 7, .inl bA)), (a5, .inl (cI, 6, .inl pA)), (a6, .inl (cI, 6, .inl nA)), (a7, .inl (cZ, 6, .inl mA))]) (w1 := [(h1, .inr (1, [.ref o1, .ref o2, .ref o3, .ref o4, .ref o5, .ref o6, .int (nI n), .int (nI (2 ^ n - 1))])), (o1, .inl (cI, 7, .inl g)), (o2, .inl (cI, 128, .inl wB)), (o3, .inl (cI, 128, .inl rA)), (o4, .inl (cI, 128, .inl xA)), (o5, .inl (cI, 49, .inl tA)), (o6, .inl (cI, 896, .inl gA))]) hP hD [0, 1, 2, 3, 4, 5, 6] [7, 8, 9, 10, 11, 12, 13, 14] rfl rfl (by decide) (by decide) hk1 hFc hP1 hD1
        generalize H1 = H at hP hS ⊢
        have hP := hP.sub (ws' := [(h1, .inr (1, [.ref o1, .ref o2, .ref o3, .ref o4, .ref o5, .ref o6, .int (nI n), .int (nI (2 ^ n - 1))])), (o1, .inl (cI, 7, .inl g)), (o2, .inl (cI, 128, .inl wB)), (o3, .inl (cI, 128, .inl rA)), (o4, .inl (cI, 128, .inl xA)), (o5, .inl (cI, 49, .inl tA)), (o6, .inl (cI, 896, .inl gA)), (h0, .inr (0, [.ref a1, .ref a2, .ref a3, .ref a4, .int (nI n), .int (nI dr), .int (nI sc), .ref a5, .ref a6, .ref a7])), (a1, .inl (cI, 7, .inl kA)), (a2, .inl (cI, 7, .inl hsA)), (a3, .inl (cI, 7, .inl dA)), (a4, .inl (cI, 7, .inl bA)), (a5, .inl (cI, 6, .inl pA)), (a6, .inl (cI, 6, .inl nA)), (a7, .inl (cZ, 6, .inl mA))]) [8, 9, 10, 11, 12, 13, 14, 0, 1, 2, 3, 4, 5, 6, 7] rfl
        have hD := hD.sub (ws' := [(h1, .inr (1, [.ref o1, .ref o2, .ref o3, .ref o4, .ref o5, .ref o6, .int (nI n), .int (nI (2 ^ n - 1))])), (o1, .inl (cI, 7, .inl g)), (o2, .inl (cI, 128, .inl wB)), (o3, .inl (cI, 128, .inl rA)), (o4, .inl (cI, 128, .inl xA)), (o5, .inl (cI, 49, .inl tA)), (o6, .inl (cI, 896, .inl gA)), (h0, .inr (0, [.ref a1, .ref a2, .ref a3, .ref a4, .int (nI n), .int (nI dr), .int (nI sc), .ref a5, .ref a6, .ref a7])), (a1, .inl (cI, 7, .inl kA)), (a2, .inl (cI, 7, .inl hsA)), (a3, .inl (cI, 7, .inl dA)), (a4, .inl (cI, 7, .inl bA)), (a5, .inl (cI, 6, .inl pA)), (a6, .inl (cI, 6, .inl nA)), (a7, .inl (cZ, 6, .inl mA))]) [8, 9, 10, 11, 12, 13, 14, 0, 1, 2, 3, 4, 5, 6, 7] (by decide) rfl
        subst hQ
        have hP9 : va_P (dC, dI0) vwCl [(h1, .inr (1, [.ref o1, .ref o2, .ref o3, .ref o4, .ref o5, .ref o6, .int (nI n), .int (nI (2 ^ n - 1))])), (o1, .inl (cI, 7, .inl g)), (o2, .inl (cI, 128, .inl wB)), (o3, .inl (cI, 128, .inl rA)), (o4, .inl (cI, 128, .inl xA)), (o5, .inl (cI, 49, .inl tA)), (o6, .inl (cI, 896, .inl gA)), (h0, .inr (0, [.ref a1, .ref a2, .ref a3, .ref a4, .int (nI n), .int (nI dr), .int (nI sc), .ref a5, .ref a6, .ref a7])), (a1, .inl (cI, 7, .inl kA)), (a2, .inl (cI, 7, .inl hsA)), (a3, .inl (cI, 7, .inl dA)), (a4, .inl (cI, 7, .inl bA)), (a5, .inl (cI, 6, .inl pA)), (a6, .inl (cI, 6, .inl nA)), (a7, .inl (cZ, 6, .inl mA))] H := hP
        have hD9 : va_D A [(h1, .inr (1, [.ref o1, .ref o2, .ref o3, .ref o4, .ref o5, .ref o6, .int (nI n), .int (nI (2 ^ n - 1))])), (o1, .inl (cI, 7, .inl g)), (o2, .inl (cI, 128, .inl wB)), (o3, .inl (cI, 128, .inl rA)), (o4, .inl (cI, 128, .inl xA)), (o5, .inl (cI, 49, .inl tA)), (o6, .inl (cI, 896, .inl gA)), (h0, .inr (0, [.ref a1, .ref a2, .ref a3, .ref a4, .int (nI n), .int (nI dr), .int (nI sc), .ref a5, .ref a6, .ref a7])), (a1, .inl (cI, 7, .inl kA)), (a2, .inl (cI, 7, .inl hsA)), (a3, .inl (cI, 7, .inl dA)), (a4, .inl (cI, 7, .inl bA)), (a5, .inl (cI, 6, .inl pA)), (a6, .inl (cI, 6, .inl nA)), (a7, .inl (cZ, 6, .inl mA))] := hD
        exact W.vret hx hb hr (fun t9 ht9 hW9 => ⟨⟨(g, wB), rfl, ⟨hO, hw74⟩, by rw [ht9]; exact hP9, va_K.moved hW9.alike hK, hD9⟩, hS.F ht9⟩) hS.2.2 dX1_look_77
      have c32 : ¬ n ≤ i := fun z => c32 ((nI_leI (a := n) (b := i) (by omega) (by omega)).mpr z)
      refine lv_aload_n hx hb dX1_look_35 rfl (lv_at hl 0 rfl) ?_
      refine va_get (D := (dC, dI0)) (ci := 1) (v := .ref o1) (C := RX1) (T := TX1) (N := 8) hx hb hts hin_X1 hown hK hP 0 rfl rfl 0 (by decide) hf11 (fun _ h9 => h9) rfl dX1_look_36 ?_
      refine lv_iload_n hx hb dX1_look_39 rfl (lv_at hl 3 rfl) ?_
      refine lv_aload_n hx hb dX1_look_40 rfl (lv_at hl 1 rfl) ?_
      refine lv_iload_n hx hb dX1_look_41 rfl (lv_at hl 3 rfl) ?_
      have hPc := hP.sub (ws' := [(h0, .inr (0, [.ref a1, .ref a2, .ref a3, .ref a4, .int (nI n), .int (nI dr), .int (nI sc), .ref a5, .ref a6, .ref a7])), (a1, .inl (cI, 7, .inl kA)), (a2, .inl (cI, 7, .inl hsA)), (a3, .inl (cI, 7, .inl dA)), (a4, .inl (cI, 7, .inl bA)), (a5, .inl (cI, 6, .inl pA)), (a6, .inl (cI, 6, .inl nA)), (a7, .inl (cZ, 6, .inl mA))]) [7, 8, 9, 10, 11, 12, 13, 14] rfl
      have hDc := hD.sub (ws' := [(h0, .inr (0, [.ref a1, .ref a2, .ref a3, .ref a4, .int (nI n), .int (nI dr), .int (nI sc), .ref a5, .ref a6, .ref a7])), (a1, .inl (cI, 7, .inl kA)), (a2, .inl (cI, 7, .inl hsA)), (a3, .inl (cI, 7, .inl dA)), (a4, .inl (cI, 7, .inl bA)), (a5, .inl (cI, 6, .inl pA)), (a6, .inl (cI, 6, .inl nA)), (a7, .inl (cZ, 6, .inl mA))]) [7, 8, 9, 10, 11, 12, 13, 14] (by decide) rfl
      have hFc := va_free (wc := [(h0, .inr (0, [.ref a1, .ref a2, .ref a3, .ref a4, .int (nI n), .int (nI dr), .int (nI sc), .ref a5, .ref a6, .ref a7])), (a1, .inl (cI, 7, .inl kA)), (a2, .inl (cI, 7, .inl hsA)), (a3, .inl (cI, 7, .inl dA)), (a4, .inl (cI, 7, .inl bA)), (a5, .inl (cI, 6, .inl pA)), (a6, .inl (cI, 6, .inl nA)), (a7, .inl (cZ, 6, .inl mA))]) hD hS hA [7, 8, 9, 10, 11, 12, 13, 14] rfl
      refine va_calli (va_runV (As := [.int (nI i)]) (rest := [.int (nI i), .ref o1]) ⟨hx, hb, hml, hown, hts⟩ (KX0_hasDrawn l dC dI0 cI cZ h0 a1 a2 a3 a4 a5 a6 a7 n dr sc kA hsA dA bA pA nA mA H.size k h b d i (by first | assumption | omega) (by first | assumption | omega)) (cwV 1 hts gX1_look_X0_hasDrawn rfl rfl rfl (by decide +kernel) ⟨Nat.le_of_ble_eq_true rfl, Nat.le_of_ble_eq_true rfl⟩) ⟨fun a U g mk q => by obtain ⟨q0, q1, qP, qK, qD⟩ := q; exact ⟨q0, q1, qP, va_K.moved (u := U) (U := U.calling g mk a) (Vm.Alike.refl U.vm) qK, qD⟩, va_recv hK hPc (ci := 0) (q0 := 0) rfl rfl, fun U hU hW => ⟨rfl, by rw [hU], by rw [hU]; exact hPc, va_K.moved hW.alike hK, hDc.weaken (fun _ _ _ _ => trivial)⟩⟩ rfl rfl hl.1 rfl (lv_room (Nat.le_of_ble_eq_true rfl)) dX1_look_42 ⟨Nat.le_of_ble_eq_true rfl, Nat.le_of_ble_eq_true rfl⟩) hS (fun q _ h => hFc q h) hFc (fun r42 u42 t7 H1 locs ht7 hvm7 hw42 hB hz1 hk1 hS => ?_)
      obtain ⟨hP1, hK1, hD1⟩ := hB
      rw [ht7] at hP1
      try dsimp only at hw42 hP1 hD1
      obtain ⟨hP, hD⟩ := va_join (wr := [(h1, .inr (1, [.ref o1, .ref o2, .ref o3, .ref o4, .ref o5, .ref o6, .int (nI n), .int (nI (2 ^ n - 1))])), (o1, .inl (cI, 7, .inl g)), (o2, .inl (cI, 128, .inl wA)), (o3, .inl (cI, 128, .inl rA)), (o4, .inl (cI, 128, .inl xA)), (o5, .inl (cI, 49, .inl tA)), (o6, .inl (cI, 896, .inl gA))]) (w1 := [(h0, .inr (0, [.ref a1, .ref a2, .ref a3, .ref a4, .int (nI n), .int (nI dr), .int (nI sc), .ref a5, .ref a6, .ref a7])), (a1, .inl (cI, 7, .inl kA)), (a2, .inl (cI, 7, .inl hsA)), (a3, .inl (cI, 7, .inl dA)), (a4, .inl (cI, 7, .inl bA)), (a5, .inl (cI, 6, .inl pA)), (a6, .inl (cI, 6, .inl nA)), (a7, .inl (cZ, 6, .inl mA))]) hP hD [7, 8, 9, 10, 11, 12, 13, 14] [0, 1, 2, 3, 4, 5, 6] rfl rfl (by decide) (by decide) hk1 hFc hP1 hD1
      generalize H1 = H at hP hS ⊢
      have hP := hP.sub (ws' := [(h1, .inr (1, [.ref o1, .ref o2, .ref o3, .ref o4, .ref o5, .ref o6, .int (nI n), .int (nI (2 ^ n - 1))])), (o1, .inl (cI, 7, .inl g)), (o2, .inl (cI, 128, .inl wA)), (o3, .inl (cI, 128, .inl rA)), (o4, .inl (cI, 128, .inl xA)), (o5, .inl (cI, 49, .inl tA)), (o6, .inl (cI, 896, .inl gA)), (h0, .inr (0, [.ref a1, .ref a2, .ref a3, .ref a4, .int (nI n), .int (nI dr), .int (nI sc), .ref a5, .ref a6, .ref a7])), (a1, .inl (cI, 7, .inl kA)), (a2, .inl (cI, 7, .inl hsA)), (a3, .inl (cI, 7, .inl dA)), (a4, .inl (cI, 7, .inl bA)), (a5, .inl (cI, 6, .inl pA)), (a6, .inl (cI, 6, .inl nA)), (a7, .inl (cZ, 6, .inl mA))]) [0, 1, 2, 3, 4, 5, 6, 7, 8, 9, 10, 11, 12, 13, 14] rfl
      have hD := hD.sub (ws' := [(h1, .inr (1, [.ref o1, .ref o2, .ref o3, .ref o4, .ref o5, .ref o6, .int (nI n), .int (nI (2 ^ n - 1))])), (o1, .inl (cI, 7, .inl g)), (o2, .inl (cI, 128, .inl wA)), (o3, .inl (cI, 128, .inl rA)), (o4, .inl (cI, 128, .inl xA)), (o5, .inl (cI, 49, .inl tA)), (o6, .inl (cI, 896, .inl gA)), (h0, .inr (0, [.ref a1, .ref a2, .ref a3, .ref a4, .int (nI n), .int (nI dr), .int (nI sc), .ref a5, .ref a6, .ref a7])), (a1, .inl (cI, 7, .inl kA)), (a2, .inl (cI, 7, .inl hsA)), (a3, .inl (cI, 7, .inl dA)), (a4, .inl (cI, 7, .inl bA)), (a5, .inl (cI, 6, .inl pA)), (a6, .inl (cI, 6, .inl nA)), (a7, .inl (cZ, 6, .inl mA))]) [0, 1, 2, 3, 4, 5, 6, 7, 8, 9, 10, 11, 12, 13, 14] (by decide) rfl
      obtain rfl : r42 = bI ((d i).isSome) := hw42
      refine lv_if_eq (tgt := 59) hx hb dX1_look_45 (by decide) (fun c45 => ?_) (fun c45 => ?_)
      ·
        have c45 : ((d i).isSome) = false := bI_0 c45
        refine lv_iload_n hx hb dX1_look_59 rfl (lv_at hl 2 rfl) ?_
        refine lv_aload_n hx hb dX1_look_60 rfl (lv_at hl 1 rfl) ?_
        refine lv_iload_n hx hb dX1_look_61 rfl (lv_at hl 3 rfl) ?_
        have hPc := hP.sub (ws' := [(h0, .inr (0, [.ref a1, .ref a2, .ref a3, .ref a4, .int (nI n), .int (nI dr), .int (nI sc), .ref a5, .ref a6, .ref a7])), (a1, .inl (cI, 7, .inl kA)), (a2, .inl (cI, 7, .inl hsA)), (a3, .inl (cI, 7, .inl dA)), (a4, .inl (cI, 7, .inl bA)), (a5, .inl (cI, 6, .inl pA)), (a6, .inl (cI, 6, .inl nA)), (a7, .inl (cZ, 6, .inl mA))]) [7, 8, 9, 10, 11, 12, 13, 14] rfl
        have hDc := hD.sub (ws' := [(h0, .inr (0, [.ref a1, .ref a2, .ref a3, .ref a4, .int (nI n), .int (nI dr), .int (nI sc), .ref a5, .ref a6, .ref a7])), (a1, .inl (cI, 7, .inl kA)), (a2, .inl (cI, 7, .inl hsA)), (a3, .inl (cI, 7, .inl dA)), (a4, .inl (cI, 7, .inl bA)), (a5, .inl (cI, 6, .inl pA)), (a6, .inl (cI, 6, .inl nA)), (a7, .inl (cZ, 6, .inl mA))]) [7, 8, 9, 10, 11, 12, 13, 14] (by decide) rfl
        have hFc := va_free (wc := [(h0, .inr (0, [.ref a1, .ref a2, .ref a3, .ref a4, .int (nI n), .int (nI dr), .int (nI sc), .ref a5, .ref a6, .ref a7])), (a1, .inl (cI, 7, .inl kA)), (a2, .inl (cI, 7, .inl hsA)), (a3, .inl (cI, 7, .inl dA)), (a4, .inl (cI, 7, .inl bA)), (a5, .inl (cI, 6, .inl pA)), (a6, .inl (cI, 6, .inl nA)), (a7, .inl (cZ, 6, .inl mA))]) hD hS hA [7, 8, 9, 10, 11, 12, 13, 14] rfl
        refine va_calli (va_runV (As := [.int (nI i)]) (rest := [.int (nI (hatS n d)), .int (nI i), .ref o1]) ⟨hx, hb, hml, hown, hts⟩ (KX0_mayBits l dC dI0 cI cZ h0 a1 a2 a3 a4 a5 a6 a7 n dr sc kA hsA dA bA pA nA mA H.size k h b d i (by first | assumption | omega) (by first | assumption | omega)) (cwV 1 hts gX1_look_X0_mayBits rfl rfl rfl (by decide +kernel) ⟨Nat.le_of_ble_eq_true rfl, Nat.le_of_ble_eq_true rfl⟩) ⟨fun a U g mk q => by obtain ⟨q0, q1, qP, qK, qD⟩ := q; exact ⟨q0, q1, qP, va_K.moved (u := U) (U := U.calling g mk a) (Vm.Alike.refl U.vm) qK, qD⟩, va_recv hK hPc (ci := 0) (q0 := 0) rfl rfl, fun U hU hW => ⟨rfl, by rw [hU], by rw [hU]; exact hPc, va_K.moved hW.alike hK, hDc.weaken (fun _ _ _ _ => trivial)⟩⟩ rfl rfl hl.1 rfl (lv_room (Nat.le_of_ble_eq_true rfl)) dX1_look_62 ⟨Nat.le_of_ble_eq_true rfl, Nat.le_of_ble_eq_true rfl⟩) hS (fun q _ h => hFc q h) hFc (fun r62 u62 t7 H1 locs ht7 hvm7 hw62 hB hz1 hk1 hS => ?_)
        obtain ⟨hP1, hK1, hD1⟩ := hB
        rw [ht7] at hP1
        try dsimp only at hw62 hP1 hD1
        obtain ⟨hP, hD⟩ := va_join (wr := [(h1, .inr (1, [.ref o1, .ref o2, .ref o3, .ref o4, .ref o5, .ref o6, .int (nI n), .int (nI (2 ^ n - 1))])), (o1, .inl (cI, 7, .inl g)), (o2, .inl (cI, 128, .inl wA)), (o3, .inl (cI, 128, .inl rA)), (o4, .inl (cI, 128, .inl xA)), (o5, .inl (cI, 49, .inl tA)), (o6, .inl (cI, 896, .inl gA))]) (w1 := [(h0, .inr (0, [.ref a1, .ref a2, .ref a3, .ref a4, .int (nI n), .int (nI dr), .int (nI sc), .ref a5, .ref a6, .ref a7])), (a1, .inl (cI, 7, .inl kA)), (a2, .inl (cI, 7, .inl hsA)), (a3, .inl (cI, 7, .inl dA)), (a4, .inl (cI, 7, .inl bA)), (a5, .inl (cI, 6, .inl pA)), (a6, .inl (cI, 6, .inl nA)), (a7, .inl (cZ, 6, .inl mA))]) hP hD [7, 8, 9, 10, 11, 12, 13, 14] [0, 1, 2, 3, 4, 5, 6] rfl rfl (by decide) (by decide) hk1 hFc hP1 hD1
        generalize H1 = H at hP hS ⊢
        have hP := hP.sub (ws' := [(h1, .inr (1, [.ref o1, .ref o2, .ref o3, .ref o4, .ref o5, .ref o6, .int (nI n), .int (nI (2 ^ n - 1))])), (o1, .inl (cI, 7, .inl g)), (o2, .inl (cI, 128, .inl wA)), (o3, .inl (cI, 128, .inl rA)), (o4, .inl (cI, 128, .inl xA)), (o5, .inl (cI, 49, .inl tA)), (o6, .inl (cI, 896, .inl gA)), (h0, .inr (0, [.ref a1, .ref a2, .ref a3, .ref a4, .int (nI n), .int (nI dr), .int (nI sc), .ref a5, .ref a6, .ref a7])), (a1, .inl (cI, 7, .inl kA)), (a2, .inl (cI, 7, .inl hsA)), (a3, .inl (cI, 7, .inl dA)), (a4, .inl (cI, 7, .inl bA)), (a5, .inl (cI, 6, .inl pA)), (a6, .inl (cI, 6, .inl nA)), (a7, .inl (cZ, 6, .inl mA))]) [0, 1, 2, 3, 4, 5, 6, 7, 8, 9, 10, 11, 12, 13, 14] rfl
        have hD := hD.sub (ws' := [(h1, .inr (1, [.ref o1, .ref o2, .ref o3, .ref o4, .ref o5, .ref o6, .int (nI n), .int (nI (2 ^ n - 1))])), (o1, .inl (cI, 7, .inl g)), (o2, .inl (cI, 128, .inl wA)), (o3, .inl (cI, 128, .inl rA)), (o4, .inl (cI, 128, .inl xA)), (o5, .inl (cI, 49, .inl tA)), (o6, .inl (cI, 896, .inl gA)), (h0, .inr (0, [.ref a1, .ref a2, .ref a3, .ref a4, .int (nI n), .int (nI dr), .int (nI sc), .ref a5, .ref a6, .ref a7])), (a1, .inl (cI, 7, .inl kA)), (a2, .inl (cI, 7, .inl hsA)), (a3, .inl (cI, 7, .inl dA)), (a4, .inl (cI, 7, .inl bA)), (a5, .inl (cI, 6, .inl pA)), (a6, .inl (cI, 6, .inl nA)), (a7, .inl (cZ, 6, .inl mA))]) [0, 1, 2, 3, 4, 5, 6, 7, 8, 9, 10, 11, 12, 13, 14] (by decide) rfl
        obtain rfl : r62 = nI (pb (mayS k h b i) n) := hw62
        refine lv_iand hx hb dX1_look_65 ?_
        refine lv_topi (fun x65 e65 => ?_)
        obtain rfl : x65 = nI ((hatS n d) &&& (pb (mayS k h b i) n)) := e65.trans (and_nI _ _)
        refine va_iast hx hb hK hP hD hS 1 0 rfl rfl (vp_in_nI (by omega) (by decide)) dX1_look_66 (fun H locs hP hD hS => ?_)
        rw [nI_clamp (n := i) (by omega)] at hP hD
        have hP : va_P (dC, dI0) vwCl [(h1, .inr (1, [.ref o1, .ref o2, .ref o3, .ref o4, .ref o5, .ref o6, .int (nI n), .int (nI (2 ^ n - 1))])), (o1, .inl (cI, 7, .inl (upd g i (nI ((hatS n d) &&& (pb (mayS k h b i) n)))))), (o2, .inl (cI, 128, .inl wA)), (o3, .inl (cI, 128, .inl rA)), (o4, .inl (cI, 128, .inl xA)), (o5, .inl (cI, 49, .inl tA)), (o6, .inl (cI, 896, .inl gA)), (h0, .inr (0, [.ref a1, .ref a2, .ref a3, .ref a4, .int (nI n), .int (nI dr), .int (nI sc), .ref a5, .ref a6, .ref a7])), (a1, .inl (cI, 7, .inl kA)), (a2, .inl (cI, 7, .inl hsA)), (a3, .inl (cI, 7, .inl dA)), (a4, .inl (cI, 7, .inl bA)), (a5, .inl (cI, 6, .inl pA)), (a6, .inl (cI, 6, .inl nA)), (a7, .inl (cZ, 6, .inl mA))] H := hP
        have hD : va_D A [(h1, .inr (1, [.ref o1, .ref o2, .ref o3, .ref o4, .ref o5, .ref o6, .int (nI n), .int (nI (2 ^ n - 1))])), (o1, .inl (cI, 7, .inl (upd g i (nI ((hatS n d) &&& (pb (mayS k h b i) n)))))), (o2, .inl (cI, 128, .inl wA)), (o3, .inl (cI, 128, .inl rA)), (o4, .inl (cI, 128, .inl xA)), (o5, .inl (cI, 49, .inl tA)), (o6, .inl (cI, 896, .inl gA)), (h0, .inr (0, [.ref a1, .ref a2, .ref a3, .ref a4, .int (nI n), .int (nI dr), .int (nI sc), .ref a5, .ref a6, .ref a7])), (a1, .inl (cI, 7, .inl kA)), (a2, .inl (cI, 7, .inl hsA)), (a3, .inl (cI, 7, .inl dA)), (a4, .inl (cI, 7, .inl bA)), (a5, .inl (cI, 6, .inl pA)), (a6, .inl (cI, 6, .inl nA)), (a7, .inl (cZ, 6, .inl mA))] := hD
        refine lv_iinc (v := nI (i + 1)) (lv' := [(3, .int (nI (i + 1))), (0, .ref h1), (1, .ref h0), (2, .int (nI (hatS n d)))]) hx hb dX1_look_67 hl (k := 3) rfl (show nI i + Int32.ofInt 1 = nI (i + 1) from nI_add _ _) (by decide) rfl (fun ls hl => ?_)
        refine lv_goto (tgt := 27) hx hb dX1_look_70 (by decide) ?_
        exact ih27 (i + 1) (upd g i (nI ((hatS n d) &&& (pb (mayS k h b i) n)))) (by omega) (upd_lt (F := fun p => nI (chS n k h b d p)) hg (by rw [chS_n c45])) (by omega) _ _ hP hD hS ls (lv_sub hl [1, 2, 3, 0] rfl)
      have c45 : ((d i).isSome) = true := bI_n0 c45
      refine lv_iconst (v := nI 1) hx hb dX1_look_48 (by decide) ?_
      refine lv_aload_n hx hb dX1_look_49 rfl (lv_at hl 1 rfl) ?_
      refine va_get (D := (dC, dI0)) (ci := 0) (v := .ref a3) (C := RX0) (T := TX0) (N := 10) hx hb hts hin_X0 hown hK hP 7 rfl rfl 2 (by decide) hf48 (fun _ h9 => h9) rfl dX1_look_50 ?_
      refine lv_iload_n hx hb dX1_look_53 rfl (lv_at hl 3 rfl) ?_
      refine va_iald hx hb hK hP 10 0 rfl rfl (vp_in_nI (by omega) (by decide)) dX1_look_54 ?_
      refine lv_topi (fun x54 e54 => ?_)
      rw [nI_clamp (n := i) (by omega)] at e54
      obtain rfl : x54 = dI (d i) := e54.trans (hdd i (by omega))
      obtain ⟨q, hq⟩ := Option.isSome_iff_exists.mp c45
      refine W.eq (g2 := F0 m 55 ls [.int (nI q), .int (nI 1), .int (nI i), .ref o1]) (by rw [hq]; rfl) ?_
      have hqn := hdn i (by omega) q hq
      refine lv_ishl hx hb dX1_look_55 ?_
      refine lv_topi (fun x55 e55 => ?_)
      obtain rfl : x55 = nI (2 ^ q) := e55.trans (shl_1 (by omega))
      refine lv_goto (tgt := 66) hx hb dX1_look_56 (by decide) ?_
      refine va_iast hx hb hK hP hD hS 1 0 rfl rfl (vp_in_nI (by omega) (by decide)) dX1_look_66 (fun H locs hP hD hS => ?_)
      rw [nI_clamp (n := i) (by omega)] at hP hD
      have hP : va_P (dC, dI0) vwCl [(h1, .inr (1, [.ref o1, .ref o2, .ref o3, .ref o4, .ref o5, .ref o6, .int (nI n), .int (nI (2 ^ n - 1))])), (o1, .inl (cI, 7, .inl (upd g i (nI (2 ^ q))))), (o2, .inl (cI, 128, .inl wA)), (o3, .inl (cI, 128, .inl rA)), (o4, .inl (cI, 128, .inl xA)), (o5, .inl (cI, 49, .inl tA)), (o6, .inl (cI, 896, .inl gA)), (h0, .inr (0, [.ref a1, .ref a2, .ref a3, .ref a4, .int (nI n), .int (nI dr), .int (nI sc), .ref a5, .ref a6, .ref a7])), (a1, .inl (cI, 7, .inl kA)), (a2, .inl (cI, 7, .inl hsA)), (a3, .inl (cI, 7, .inl dA)), (a4, .inl (cI, 7, .inl bA)), (a5, .inl (cI, 6, .inl pA)), (a6, .inl (cI, 6, .inl nA)), (a7, .inl (cZ, 6, .inl mA))] H := hP
      have hD : va_D A [(h1, .inr (1, [.ref o1, .ref o2, .ref o3, .ref o4, .ref o5, .ref o6, .int (nI n), .int (nI (2 ^ n - 1))])), (o1, .inl (cI, 7, .inl (upd g i (nI (2 ^ q))))), (o2, .inl (cI, 128, .inl wA)), (o3, .inl (cI, 128, .inl rA)), (o4, .inl (cI, 128, .inl xA)), (o5, .inl (cI, 49, .inl tA)), (o6, .inl (cI, 896, .inl gA)), (h0, .inr (0, [.ref a1, .ref a2, .ref a3, .ref a4, .int (nI n), .int (nI dr), .int (nI sc), .ref a5, .ref a6, .ref a7])), (a1, .inl (cI, 7, .inl kA)), (a2, .inl (cI, 7, .inl hsA)), (a3, .inl (cI, 7, .inl dA)), (a4, .inl (cI, 7, .inl bA)), (a5, .inl (cI, 6, .inl pA)), (a6, .inl (cI, 6, .inl nA)), (a7, .inl (cZ, 6, .inl mA))] := hD
      refine lv_iinc (v := nI (i + 1)) (lv' := [(3, .int (nI (i + 1))), (0, .ref h1), (1, .ref h0), (2, .int (nI (hatS n d)))]) hx hb dX1_look_67 hl (k := 3) rfl (show nI i + Int32.ofInt 1 = nI (i + 1) from nI_add _ _) (by decide) rfl (fun ls hl => ?_)
      refine lv_goto (tgt := 27) hx hb dX1_look_70 (by decide) ?_
      exact ih27 (i + 1) (upd g i (nI (2 ^ q))) (by omega) (upd_lt (F := fun p => nI (chS n k h b d p)) hg (by rw [chS_s hq])) (by omega) _ _ hP hD hS ls (lv_sub hl [1, 2, 3, 0] rfl)
  exact L27 _ 0 cA (by omega) (fun p hp => absurd hp (Nat.not_lt_zero _)) (Nat.lt_succ_self _) _ _ hP hD hS ls (lv_sub hl [2, 3, 1, 0] rfl)
