set_option maxHeartbeats 4000000 in
set_option maxRecDepth 100000 in
theorem KX1_countReached (l : Launch) (dC : Nat → ClassId) (dI0 : Nat → Nat → Nat) (cI cZ : ClassId) (h1 : Nat) (o1 : Nat) (o2 : Nat) (o3 : Nat) (o4 : Nat) (o5 : Nat) (o6 : Nat) (on : Nat) (ev : Nat) (cA : Nat → Int32) (wA : Nat → Int32) (rA : Nat → Int32) (xA : Nat → Int32) (tA : Nat → Int32) (gA : Nat → Int32) (sz : Nat) (cs : Nat → Nat) (hO : OuR on ev cA cs) : Met l yX1_countReached wsX1_countReached ({ frames := 2, cells := 0, slots := 0, locals := 41 } : Room) (va_Pc [.ref h1] (fun U => U.heap.size = sz ∧ va_P (dC, dI0) vwCl (WOu cI cZ h1 o1 o2 o3 o4 o5 o6 on ev cA wA rA xA tA gA) U.heap ∧ va_K (dC, dI0) vwCl [(cI, .int), (cZ, .boolean)] U ∧ va_D (fun _ => True) (WOu cI cZ h1 o1 o2 o3 o4 o5 o6 on ev cA wA rA xA tA gA))) (va_Qv (fun (u : Nat → Int32) => ∀ T, T ≤ ev → u T = nI (rS cs on T)) (fun (u : Nat → Int32) (t : State) => va_P (dC, dI0) vwCl (WOu cI cZ h1 o1 o2 o3 o4 o5 o6 on ev cA wA u xA tA gA) t.heap ∧ va_K (dC, dI0) vwCl [(cI, .int), (cZ, .boolean)] t ∧ va_D (va_A (WOu cI cZ h1 o1 o2 o3 o4 o5 o6 on ev cA wA rA xA tA gA) sz) (WOu cI cZ h1 o1 o2 o3 o4 o5 o6 on ev cA wA u xA tA gA)) (va_A (WOu cI cZ h1 o1 o2 o3 o4 o5 o6 on ev cA wA rA xA tA gA) sz)) 0 0 (va_A (WOu cI cZ h1 o1 o2 o3 o4 o5 o6 on ev cA wA rA xA tA gA) sz) := by
  refine Met.ofW (cc := cX1_countReached) (maxL := 4) (ret := none) (by decide) rfl ?_
  intro prg env s m args below meth c s₁ B hml hv
  obtain ⟨rfl, hsz, hP, hK, hD0⟩ := hv
  have hx := B.exec
  have hb := B.bytes
  have hr := B.returns
  have hts := atoms_spec (ws := wsX1_countReached) B.pre
  have hown : s.vm.findClass RX1 = some m.cls := findClass_of_methodNamed B.named
  have hlocks := B.notSynchronized
  subst hsz
  have hD := hD0.self (sz := s.heap.size)
  generalize hAe : va_A (WOu cI cZ h1 o1 o2 o3 o4 o5 o6 on ev cA wA rA xA tA gA) s.heap.size = A at hD ⊢
  have hA : ∀ q : Nat, s.heap.size ≤ q → A q := fun q h => by rw [← hAe]; exact Or.inr h
  have hS : va_S A s.heap s.heap [] := va_S.rf
  have hP : va_P (dC, dI0) vwCl [(h1, .inr (1, [.ref o1, .ref o2, .ref o3, .ref o4, .ref o5, .ref o6, .int (nI on), .int (nI ev)])), (o1, .inl (cI, 7, .inl cA)), (o2, .inl (cI, 128, .inl wA)), (o3, .inl (cI, 128, .inl rA)), (o4, .inl (cI, 128, .inl xA)), (o5, .inl (cI, 49, .inl tA)), (o6, .inl (cI, 896, .inl gA))] s.heap := hP
  have hD : va_D A [(h1, .inr (1, [.ref o1, .ref o2, .ref o3, .ref o4, .ref o5, .ref o6, .int (nI on), .int (nI ev)])), (o1, .inl (cI, 7, .inl cA)), (o2, .inl (cI, 128, .inl wA)), (o3, .inl (cI, 128, .inl rA)), (o4, .inl (cI, 128, .inl xA)), (o5, .inl (cI, 49, .inl tA)), (o6, .inl (cI, 896, .inl gA))] := hD
  have hl := lv_entry ([.ref h1]) (n := 4) (Nat.le_of_ble_eq_true rfl)
  rw [lg_entry_eq]
  generalize (lg_sl ([.ref h1]) ++ List.replicate (4 - (lg_sl ([.ref h1])).length) Slot.unset).toArray = ls at hl ⊢
  have hl : lv_has ls 4 [(0, .ref h1)] := hl
  obtain ⟨H, hH⟩ : ∃ H : Heap, H = s.heap := ⟨_, rfl⟩
  rw [← hH] at hP ⊢
  have hS : va_S A s.heap H [] := by rw [hH]; exact hS
  refine w_gen (fun Q hQ => ?_)
  have hin_X1 : ∀ w ∈ wsX10, w ∈ wsX1_countReached := by decide +kernel
  have hf20 := hts (.fieldLink RX1 20 "HatNames$Outlook" "reached" "[I") (by decide +kernel)
  have hf37 := hts (.fieldLink RX1 37 "HatNames$Outlook" "everyName" "I") (by decide +kernel)
  have hf11 := hts (.fieldLink RX1 11 "HatNames$Outlook" "choices" "[I") (by decide +kernel)
  have hf36 := hts (.fieldLink RX1 36 "HatNames$Outlook" "size" "I") (by decide +kernel)
  obtain ⟨ho7, hev, hev7, hcc⟩ := id hO
  refine lv_aload_n hx hb dX1_countReached_0 rfl (lv_at hl 0 rfl) ?_
  refine va_get (D := (dC, dI0)) (ci := 1) (v := .ref o3) (C := RX1) (T := TX1) (N := 8) hx hb hts hin_X1 hown hK hP 0 rfl rfl 2 (by decide) hf20 (fun _ h9 => h9) rfl dX1_countReached_1 ?_
  refine lv_iconst (v := nI 0) hx hb dX1_countReached_4 (by decide) ?_
  have hPc := hP.sub (ws' := [(o3, .inl (cI, 128, .inl rA))]) [3] rfl
  have hDc := hD.sub (ws' := [(o3, .inl (cI, 128, .inl rA))]) [3] (by decide) rfl
  have hFc := va_free (wc := [(o3, .inl (cI, 128, .inl rA))]) hD hS hA [3] rfl
  refine va_callv (va_runS (As := [.ref o3, .int (nI 0)]) (rest := []) ⟨hx, hb, hml, hown, hts⟩ (KJ7_fill_53178 l dC dI0 cI cZ o3 128 rA H.size (nI 0) (by first | assumption | omega)) (va_cwS 2 hts gX1_countReached_J7_fill_53178 rfl rfl rfl (by decide +kernel) ⟨Nat.le_of_ble_eq_true rfl, Nat.le_of_ble_eq_true rfl⟩) ⟨fun a U g mk q => by obtain ⟨q0, q1, qP, qK, qD⟩ := q; exact ⟨q0, q1, qP, va_K.moved (u := U) (U := U.calling g mk a) (Vm.Alike.refl U.vm) qK, qD⟩, fun U hU hW => ⟨rfl, by rw [hU], by rw [hU]; exact hPc, va_K.moved hW.alike hK, hDc.weaken (fun _ _ _ _ => trivial)⟩⟩ rfl rfl hl.1 rfl (lv_room (Nat.le_of_ble_eq_true rfl)) dX1_countReached_5 ⟨Nat.le_of_ble_eq_true rfl, Nat.le_of_ble_eq_true rfl⟩) hS (fun q _ h => hFc q h) hFc (fun u5 t7 H1 locs ht7 hvm7 hw5 hB hz1 hk1 hS => ?_)
  obtain ⟨g0, eg0⟩ : ∃ z, z = u5 := ⟨_, rfl⟩; subst eg0
  obtain ⟨hP1, hK1, hD1⟩ := hB
  rw [ht7] at hP1
  try dsimp only at hw5 hP1 hD1
  obtain ⟨hP, hD⟩ := va_join (wr := [(h1, .inr (1, [.ref o1, .ref o2, .ref o3, .ref o4, .ref o5, .ref o6, .int (nI on), .int (nI ev)])), (o1, .inl (cI, 7, .inl cA)), (o2, .inl (cI, 128, .inl wA)), (o4, .inl (cI, 128, .inl xA)), (o5, .inl (cI, 49, .inl tA)), (o6, .inl (cI, 896, .inl gA))]) (w1 := [(o3, .inl (cI, 128, .inl g0))]) hP hD [3] [0, 1, 2, 4, 5, 6] rfl rfl (by decide) (by decide) hk1 hFc hP1 hD1
  generalize H1 = H at hP hS ⊢
  have hP := hP.sub (ws' := [(h1, .inr (1, [.ref o1, .ref o2, .ref o3, .ref o4, .ref o5, .ref o6, .int (nI on), .int (nI ev)])), (o1, .inl (cI, 7, .inl cA)), (o2, .inl (cI, 128, .inl wA)), (o3, .inl (cI, 128, .inl g0)), (o4, .inl (cI, 128, .inl xA)), (o5, .inl (cI, 49, .inl tA)), (o6, .inl (cI, 896, .inl gA))]) [0, 1, 2, 6, 3, 4, 5] rfl
  have hD := hD.sub (ws' := [(h1, .inr (1, [.ref o1, .ref o2, .ref o3, .ref o4, .ref o5, .ref o6, .int (nI on), .int (nI ev)])), (o1, .inl (cI, 7, .inl cA)), (o2, .inl (cI, 128, .inl wA)), (o3, .inl (cI, 128, .inl g0)), (o4, .inl (cI, 128, .inl xA)), (o5, .inl (cI, 49, .inl tA)), (o6, .inl (cI, 896, .inl gA))]) [0, 1, 2, 6, 3, 4, 5] (by decide) rfl
  refine lv_aload_n hx hb dX1_countReached_8 rfl (lv_at hl 0 rfl) ?_
  refine va_get (D := (dC, dI0)) (ci := 1) (v := .ref o3) (C := RX1) (T := TX1) (N := 8) hx hb hts hin_X1 hown hK hP 0 rfl rfl 2 (by decide) hf20 (fun _ h9 => h9) rfl dX1_countReached_9 ?_
  refine lv_aload_n hx hb dX1_countReached_12 rfl (lv_at hl 0 rfl) ?_
  refine va_get (D := (dC, dI0)) (ci := 1) (v := .int (nI ev)) (C := RX1) (T := TX1) (N := 8) hx hb hts hin_X1 hown hK hP 0 rfl rfl 7 (by decide) hf37 (fun _ h9 => h9) rfl dX1_countReached_13 ?_
  refine lv_iconst (v := nI 1) hx hb dX1_countReached_16 (by decide) ?_
  refine va_iast hx hb hK hP hD hS 3 0 rfl rfl (vp_in_nI (by omega) (by decide)) dX1_countReached_17 (fun H locs hP hD hS => ?_)
  rw [nI_clamp (n := ev) (by omega)] at hP hD
  have hP : va_P (dC, dI0) vwCl [(h1, .inr (1, [.ref o1, .ref o2, .ref o3, .ref o4, .ref o5, .ref o6, .int (nI on), .int (nI ev)])), (o1, .inl (cI, 7, .inl cA)), (o2, .inl (cI, 128, .inl wA)), (o3, .inl (cI, 128, .inl (upd g0 ev (nI 1)))), (o4, .inl (cI, 128, .inl xA)), (o5, .inl (cI, 49, .inl tA)), (o6, .inl (cI, 896, .inl gA))] H := hP
  have hD : va_D A [(h1, .inr (1, [.ref o1, .ref o2, .ref o3, .ref o4, .ref o5, .ref o6, .int (nI on), .int (nI ev)])), (o1, .inl (cI, 7, .inl cA)), (o2, .inl (cI, 128, .inl wA)), (o3, .inl (cI, 128, .inl (upd g0 ev (nI 1)))), (o4, .inl (cI, 128, .inl xA)), (o5, .inl (cI, 49, .inl tA)), (o6, .inl (cI, 896, .inl gA))] := hD
  refine lv_aload_n hx hb dX1_countReached_18 rfl (lv_at hl 0 rfl) ?_
  refine va_get (D := (dC, dI0)) (ci := 1) (v := .int (nI ev)) (C := RX1) (T := TX1) (N := 8) hx hb hts hin_X1 hown hK hP 0 rfl rfl 7 (by decide) hf37 (fun _ h9 => h9) rfl dX1_countReached_19 ?_
  refine lv_istore_n (lv' := [(1, .int (nI ev)), (0, .ref h1)]) hx hb dX1_countReached_22 rfl hl (by decide) rfl (fun ls hl => ?_)
  have L23 : ∀ (fu : Nat) (L : Nat) (g : Nat → Int32), L ≤ ev → (∀ T, T ≤ ev → g T = nI (rP cs on L 0 T)) → L < fu → ∀ (H : Heap) (locs : List Loc), va_P (dC, dI0) vwCl [(h1, .inr (1, [.ref o1, .ref o2, .ref o3, .ref o4, .ref o5, .ref o6, .int (nI on), .int (nI ev)])), (o1, .inl (cI, 7, .inl cA)), (o2, .inl (cI, 128, .inl wA)), (o3, .inl (cI, 128, .inl g)), (o4, .inl (cI, 128, .inl xA)), (o5, .inl (cI, 49, .inl tA)), (o6, .inl (cI, 896, .inl gA))] H → va_D A [(h1, .inr (1, [.ref o1, .ref o2, .ref o3, .ref o4, .ref o5, .ref o6, .int (nI on), .int (nI ev)])), (o1, .inl (cI, 7, .inl cA)), (o2, .inl (cI, 128, .inl wA)), (o3, .inl (cI, 128, .inl g)), (o4, .inl (cI, 128, .inl xA)), (o5, .inl (cI, 49, .inl tA)), (o6, .inl (cI, 896, .inl gA))] → va_S A s.heap H locs → ∀ (ls : Array Slot), lv_has ls 4 [(0, .ref h1), (1, .int (nI L))] → W prg l env ({ frames := 2, cells := 0, slots := 0, locals := 41 } : Room) s m ([.ref h1] : List Value).toArray below meth c H locs 0 0 Q (F0 m 23 ls []) := by
    intro fu
    induction fu with
    | zero => intro L g hL hg hmu; exact absurd hmu (Nat.not_lt_zero _)
    | succ fu ih23 =>
      intro L g hL hg hmu23 H locs hP hD hS ls hl
      refine lv_iload_n hx hb dX1_countReached_23 rfl (lv_at hl 1 rfl) ?_
      refine lv_iconst (v := nI 1) hx hb dX1_countReached_24 (by decide) ?_
      refine lv_icmp_lt (tgt := 92) hx hb dX1_countReached_25 (by decide) (fun c25 => ?_) (fun c25 => ?_)
      ·
        have c25 : L < 1 := (nI_ltI (a := L) (b := 1) (by omega) (by omega)).mp c25
        subst hQ
        have hP9 : va_P (dC, dI0) vwCl [(h1, .inr (1, [.ref o1, .ref o2, .ref o3, .ref o4, .ref o5, .ref o6, .int (nI on), .int (nI ev)])), (o1, .inl (cI, 7, .inl cA)), (o2, .inl (cI, 128, .inl wA)), (o3, .inl (cI, 128, .inl g)), (o4, .inl (cI, 128, .inl xA)), (o5, .inl (cI, 49, .inl tA)), (o6, .inl (cI, 896, .inl gA))] H := hP
        have hD9 : va_D A [(h1, .inr (1, [.ref o1, .ref o2, .ref o3, .ref o4, .ref o5, .ref o6, .int (nI on), .int (nI ev)])), (o1, .inl (cI, 7, .inl cA)), (o2, .inl (cI, 128, .inl wA)), (o3, .inl (cI, 128, .inl g)), (o4, .inl (cI, 128, .inl xA)), (o5, .inl (cI, 49, .inl tA)), (o6, .inl (cI, 896, .inl gA))] := hD
        exact W.vret hx hb hr (fun t9 ht9 hW9 => ⟨⟨g, rfl, fun T hT => by rw [hg T hT, show L = 0 by omega, rP_0 ho7 (by omega)], by rw [ht9]; exact hP9, va_K.moved hW9.alike hK, hD9⟩, hS.F ht9⟩) hS.2.2 dX1_countReached_92
      have c25 : ¬ L < 1 := fun z => c25 ((nI_ltI (a := L) (b := 1) (by omega) (by omega)).mpr z)
      refine lv_aload_n hx hb dX1_countReached_28 rfl (lv_at hl 0 rfl) ?_
      refine va_get (D := (dC, dI0)) (ci := 1) (v := .ref o1) (C := RX1) (T := TX1) (N := 8) hx hb hts hin_X1 hown hK hP 0 rfl rfl 0 (by decide) hf11 (fun _ h9 => h9) rfl dX1_countReached_29 ?_
      refine lv_aload_n hx hb dX1_countReached_32 rfl (lv_at hl 0 rfl) ?_
      refine lv_iload_n hx hb dX1_countReached_33 rfl (lv_at hl 1 rfl) ?_
      have hPc := hP.sub (ws' := [(h1, .inr (1, [.ref o1, .ref o2, .ref o3, .ref o4, .ref o5, .ref o6, .int (nI on), .int (nI ev)])), (o1, .inl (cI, 7, .inl cA)), (o2, .inl (cI, 128, .inl wA)), (o3, .inl (cI, 128, .inl g)), (o4, .inl (cI, 128, .inl xA)), (o5, .inl (cI, 49, .inl tA)), (o6, .inl (cI, 896, .inl gA))]) [0, 1, 2, 3, 4, 5, 6] rfl
      have hDc := hD.sub (ws' := [(h1, .inr (1, [.ref o1, .ref o2, .ref o3, .ref o4, .ref o5, .ref o6, .int (nI on), .int (nI ev)])), (o1, .inl (cI, 7, .inl cA)), (o2, .inl (cI, 128, .inl wA)), (o3, .inl (cI, 128, .inl g)), (o4, .inl (cI, 128, .inl xA)), (o5, .inl (cI, 49, .inl tA)), (o6, .inl (cI, 896, .inl gA))]) [0, 1, 2, 3, 4, 5, 6] (by decide) rfl
      have hFc := va_free (wc := [(h1, .inr (1, [.ref o1, .ref o2, .ref o3, .ref o4, .ref o5, .ref o6, .int (nI on), .int (nI ev)])), (o1, .inl (cI, 7, .inl cA)), (o2, .inl (cI, 128, .inl wA)), (o3, .inl (cI, 128, .inl g)), (o4, .inl (cI, 128, .inl xA)), (o5, .inl (cI, 49, .inl tA)), (o6, .inl (cI, 896, .inl gA))]) hD hS hA [0, 1, 2, 3, 4, 5, 6] rfl
      refine va_calli (va_runV (As := [.int (nI L)]) (rest := [.ref o1]) ⟨hx, hb, hml, hown, hts⟩ (KX1_turn l dC dI0 cI cZ h1 o1 o2 o3 o4 o5 o6 on ev cA wA g xA tA gA H.size cs L (by first | assumption | omega) (by first | assumption | omega)) (cwV 1 hts gX1_countReached_X1_turn rfl rfl rfl (by decide +kernel) ⟨Nat.le_of_ble_eq_true rfl, Nat.le_of_ble_eq_true rfl⟩) ⟨fun a U g mk q => by obtain ⟨q0, q1, qP, qK, qD⟩ := q; exact ⟨q0, q1, qP, va_K.moved (u := U) (U := U.calling g mk a) (Vm.Alike.refl U.vm) qK, qD⟩, va_recv hK hPc (ci := 1) (q0 := 0) rfl rfl, fun U hU hW => ⟨rfl, by rw [hU], by rw [hU]; exact hPc, va_K.moved hW.alike hK, hDc.weaken (fun _ _ _ _ => trivial)⟩⟩ rfl rfl hl.1 rfl (lv_room (Nat.le_of_ble_eq_true rfl)) dX1_countReached_34 ⟨Nat.le_of_ble_eq_true rfl, Nat.le_of_ble_eq_true rfl⟩) hS (fun q _ h => hFc q h) hFc (fun r34 u34 t7 H1 locs ht7 hvm7 hw34 hB hz1 hk1 hS => ?_)
      obtain ⟨hP1, hK1, hD1⟩ := hB
      rw [ht7] at hP1
      try dsimp only at hw34 hP1 hD1
      obtain ⟨hP, hD⟩ := va_join (wr := []) (w1 := [(h1, .inr (1, [.ref o1, .ref o2, .ref o3, .ref o4, .ref o5, .ref o6, .int (nI on), .int (nI ev)])), (o1, .inl (cI, 7, .inl cA)), (o2, .inl (cI, 128, .inl wA)), (o3, .inl (cI, 128, .inl g)), (o4, .inl (cI, 128, .inl xA)), (o5, .inl (cI, 49, .inl tA)), (o6, .inl (cI, 896, .inl gA))]) hP hD [0, 1, 2, 3, 4, 5, 6] [] rfl rfl (by decide) (by decide) hk1 hFc hP1 hD1
      generalize H1 = H at hP hS ⊢
      have hP := hP.sub (ws' := [(h1, .inr (1, [.ref o1, .ref o2, .ref o3, .ref o4, .ref o5, .ref o6, .int (nI on), .int (nI ev)])), (o1, .inl (cI, 7, .inl cA)), (o2, .inl (cI, 128, .inl wA)), (o3, .inl (cI, 128, .inl g)), (o4, .inl (cI, 128, .inl xA)), (o5, .inl (cI, 49, .inl tA)), (o6, .inl (cI, 896, .inl gA))]) [0, 1, 2, 3, 4, 5, 6] rfl
      have hD := hD.sub (ws' := [(h1, .inr (1, [.ref o1, .ref o2, .ref o3, .ref o4, .ref o5, .ref o6, .int (nI on), .int (nI ev)])), (o1, .inl (cI, 7, .inl cA)), (o2, .inl (cI, 128, .inl wA)), (o3, .inl (cI, 128, .inl g)), (o4, .inl (cI, 128, .inl xA)), (o5, .inl (cI, 49, .inl tA)), (o6, .inl (cI, 896, .inl gA))]) [0, 1, 2, 3, 4, 5, 6] (by decide) rfl
      obtain rfl : r34 = nI (on - pop L) := hw34
      have hpp := pop_pos L (by omega) (by omega)
      have hpn := pop_n on ho7 L (by omega)
      refine va_iald hx hb hK hP 1 0 rfl rfl (vp_in_nI (by omega) (by decide)) dX1_countReached_37 ?_
      refine lv_topi (fun x37 e37 => ?_)
      rw [nI_clamp (n := on - pop L) (by omega)] at e37
      have hcv := (hcc (on - pop L) (by omega)).2
      obtain rfl : x37 = nI (cs (on - pop L)) := e37.trans (hcc (on - pop L) (by omega)).1
      refine lv_iload_n hx hb dX1_countReached_38 rfl (lv_at hl 1 rfl) ?_
      refine lv_iand hx hb dX1_countReached_39 ?_
      refine lv_topi (fun x39 e39 => ?_)
      obtain rfl : x39 = nI ((cs (on - pop L)) &&& L) := e39.trans (and_nI _ _)
      refine lv_istore_n (lv' := [(2, .int (nI ((cs (on - pop L)) &&& L))), (0, .ref h1), (1, .int (nI L))]) hx hb dX1_countReached_40 rfl hl (by decide) rfl (fun ls hl => ?_)
      refine lv_iconst (v := nI 0) hx hb dX1_countReached_41 (by decide) ?_
      refine lv_istore_n (lv' := [(3, .int (nI 0)), (2, .int (nI ((cs (on - pop L)) &&& L))), (0, .ref h1), (1, .int (nI L))]) hx hb dX1_countReached_42 rfl hl (by decide) rfl (fun ls hl => ?_)
      have L43 : ∀ (fu : Nat) (i : Nat) (g2 : Nat → Int32), i ≤ on → (∀ T, T ≤ ev → g2 T = nI (rP cs on L i T)) → on - i < fu → ∀ (H : Heap) (locs : List Loc), va_P (dC, dI0) vwCl [(h1, .inr (1, [.ref o1, .ref o2, .ref o3, .ref o4, .ref o5, .ref o6, .int (nI on), .int (nI ev)])), (o1, .inl (cI, 7, .inl cA)), (o2, .inl (cI, 128, .inl wA)), (o3, .inl (cI, 128, .inl g2)), (o4, .inl (cI, 128, .inl xA)), (o5, .inl (cI, 49, .inl tA)), (o6, .inl (cI, 896, .inl gA))] H → va_D A [(h1, .inr (1, [.ref o1, .ref o2, .ref o3, .ref o4, .ref o5, .ref o6, .int (nI on), .int (nI ev)])), (o1, .inl (cI, 7, .inl cA)), (o2, .inl (cI, 128, .inl wA)), (o3, .inl (cI, 128, .inl g2)), (o4, .inl (cI, 128, .inl xA)), (o5, .inl (cI, 49, .inl tA)), (o6, .inl (cI, 896, .inl gA))] → va_S A s.heap H locs → ∀ (ls : Array Slot), lv_has ls 4 [(0, .ref h1), (1, .int (nI L)), (2, .int (nI ((cs (on - pop L)) &&& L))), (3, .int (nI i))] → W prg l env ({ frames := 2, cells := 0, slots := 0, locals := 41 } : Room) s m ([.ref h1] : List Value).toArray below meth c H locs 0 0 Q (F0 m 43 ls []) := by
        intro fu
        induction fu with
        | zero => intro i g2 hi hg2 hmu; exact absurd hmu (Nat.not_lt_zero _)
        | succ fu ih43 =>
          intro i g2 hi hg2 hmu43 H locs hP hD hS ls hl
          refine lv_iload_n hx hb dX1_countReached_43 rfl (lv_at hl 3 rfl) ?_
          refine lv_aload_n hx hb dX1_countReached_44 rfl (lv_at hl 0 rfl) ?_
          refine va_get (D := (dC, dI0)) (ci := 1) (v := .int (nI on)) (C := RX1) (T := TX1) (N := 8) hx hb hts hin_X1 hown hK hP 0 rfl rfl 6 (by decide) hf36 (fun _ h9 => h9) rfl dX1_countReached_45 ?_
          refine lv_icmp_ge (tgt := 86) hx hb dX1_countReached_48 (by decide) (fun c48 => ?_) (fun c48 => ?_)
          ·
            have c48 : on ≤ i := (nI_leI (a := on) (b := i) (by omega) (by omega)).mp c48
            obtain ⟨x86, e86⟩ : ∃ y : Int32, y = (nI L) + Int32.ofInt (-1) := ⟨_, rfl⟩
            obtain rfl : x86 = nI (L - 1) := e86.trans (dec1 (by omega))
            refine lv_iinc (v := nI (L - 1)) (lv' := [(1, .int (nI (L - 1))), (0, .ref h1), (2, .int (nI ((cs (on - pop L)) &&& L))), (3, .int (nI i))]) hx hb dX1_countReached_86 hl (k := 1) rfl e86.symm (by decide) rfl (fun ls hl => ?_)
            refine lv_goto (tgt := 23) hx hb dX1_countReached_89 (by decide) ?_
            exact ih23 (L - 1) g2 (by omega) (fun T hT => by rw [hg2 T hT, show i = on by omega, rP_next (by omega)]) (by omega) _ _ hP hD hS ls (lv_sub hl [1, 0] rfl)
          have c48 : ¬ on ≤ i := fun z => c48 ((nI_leI (a := on) (b := i) (by omega) (by omega)).mpr z)
          refine lv_iload_n hx hb dX1_countReached_51 rfl (lv_at hl 2 rfl) ?_
          refine lv_iload_n hx hb dX1_countReached_52 rfl (lv_at hl 3 rfl) ?_
          have hand := Nat.and_le_right (n := cs (on - pop L)) (m := L)
          have hPc := hP.sub (ws' := []) [] rfl
          have hDc := hD.sub (ws' := []) [] (by decide) rfl
          have hFc := va_free (wc := []) hD hS hA [] rfl
          refine va_calli (va_runS (As := [.int (nI ((cs (on - pop L)) &&& L)), .int (nI i)]) (rest := []) ⟨hx, hb, hml, hown, hts⟩ (KX1_isIn l dC dI0 cI cZ  H.size ((cs (on - pop L)) &&& L) i (by first | assumption | omega) (by first | assumption | omega)) (va_cwS 2 hts gX1_countReached_X1_isIn rfl rfl rfl (by decide +kernel) ⟨Nat.le_of_ble_eq_true rfl, Nat.le_of_ble_eq_true rfl⟩) ⟨fun a U g mk q => by obtain ⟨q0, q1, qP, qK, qD⟩ := q; exact ⟨q0, q1, qP, va_K.moved (u := U) (U := U.calling g mk a) (Vm.Alike.refl U.vm) qK, qD⟩, fun U hU hW => ⟨rfl, by rw [hU], by rw [hU]; exact hPc, va_K.moved hW.alike hK, hDc.weaken (fun _ _ _ _ => trivial)⟩⟩ rfl rfl hl.1 rfl (lv_room (Nat.le_of_ble_eq_true rfl)) dX1_countReached_53 ⟨Nat.le_of_ble_eq_true rfl, Nat.le_of_ble_eq_true rfl⟩) hS (fun q _ h => hFc q h) hFc (fun r53 u53 t7 H1 locs ht7 hvm7 hw53 hB hz1 hk1 hS => ?_)
          obtain ⟨hP1, hK1, hD1⟩ := hB
          rw [ht7] at hP1
          try dsimp only at hw53 hP1 hD1
          obtain ⟨hP, hD⟩ := va_join (wr := [(h1, .inr (1, [.ref o1, .ref o2, .ref o3, .ref o4, .ref o5, .ref o6, .int (nI on), .int (nI ev)])), (o1, .inl (cI, 7, .inl cA)), (o2, .inl (cI, 128, .inl wA)), (o3, .inl (cI, 128, .inl g2)), (o4, .inl (cI, 128, .inl xA)), (o5, .inl (cI, 49, .inl tA)), (o6, .inl (cI, 896, .inl gA))]) (w1 := []) hP hD [] [0, 1, 2, 3, 4, 5, 6] rfl rfl (by decide) (by decide) hk1 hFc hP1 hD1
          generalize H1 = H at hP hS ⊢
          have hP := hP.sub (ws' := [(h1, .inr (1, [.ref o1, .ref o2, .ref o3, .ref o4, .ref o5, .ref o6, .int (nI on), .int (nI ev)])), (o1, .inl (cI, 7, .inl cA)), (o2, .inl (cI, 128, .inl wA)), (o3, .inl (cI, 128, .inl g2)), (o4, .inl (cI, 128, .inl xA)), (o5, .inl (cI, 49, .inl tA)), (o6, .inl (cI, 896, .inl gA))]) [0, 1, 2, 3, 4, 5, 6] rfl
          have hD := hD.sub (ws' := [(h1, .inr (1, [.ref o1, .ref o2, .ref o3, .ref o4, .ref o5, .ref o6, .int (nI on), .int (nI ev)])), (o1, .inl (cI, 7, .inl cA)), (o2, .inl (cI, 128, .inl wA)), (o3, .inl (cI, 128, .inl g2)), (o4, .inl (cI, 128, .inl xA)), (o5, .inl (cI, 49, .inl tA)), (o6, .inl (cI, 896, .inl gA))]) [0, 1, 2, 3, 4, 5, 6] (by decide) rfl
          obtain rfl : r53 = bI (((cs (on - pop L)) &&& L).testBit i) := hw53
          refine lv_if_eq (tgt := 80) hx hb dX1_countReached_56 (by decide) (fun c56 => ?_) (fun c56 => ?_)
          ·
            have c56 : (((cs (on - pop L)) &&& L).testBit i) = false := bI_0 c56
            refine lv_iinc (v := nI (i + 1)) (lv' := [(3, .int (nI (i + 1))), (0, .ref h1), (1, .int (nI L)), (2, .int (nI ((cs (on - pop L)) &&& L)))]) hx hb dX1_countReached_80 hl (k := 3) rfl (show nI i + Int32.ofInt 1 = nI (i + 1) from nI_add _ _) (by decide) rfl (fun ls hl => ?_)
            refine lv_goto (tgt := 43) hx hb dX1_countReached_83 (by decide) ?_
            exact ih43 (i + 1) g2 (by omega) (fun T hT => by rw [hg2 T hT, rP_no ho7 (by omega) (by omega) c56]) (by omega) _ _ hP hD hS ls (lv_sub hl [1, 2, 3, 0] rfl)
          have c56 : (((cs (on - pop L)) &&& L).testBit i) = true := bI_n0 c56
          refine lv_aload_n hx hb dX1_countReached_59 rfl (lv_at hl 0 rfl) ?_
          refine va_get (D := (dC, dI0)) (ci := 1) (v := .ref o3) (C := RX1) (T := TX1) (N := 8) hx hb hts hin_X1 hown hK hP 0 rfl rfl 2 (by decide) hf20 (fun _ h9 => h9) rfl dX1_countReached_60 ?_
          refine lv_iload_n hx hb dX1_countReached_63 rfl (lv_at hl 1 rfl) ?_
          refine lv_iconst (v := nI 1) hx hb dX1_countReached_64 (by decide) ?_
          refine lv_iload_n hx hb dX1_countReached_65 rfl (lv_at hl 3 rfl) ?_
          refine lv_ishl hx hb dX1_countReached_66 ?_
          refine lv_topi (fun x66 e66 => ?_)
          obtain rfl : x66 = nI (2 ^ i) := e66.trans (shl_1 (by omega))
          refine lv_iconst (v := (-1)) hx hb dX1_countReached_67 (by decide) ?_
          refine lv_ixor hx hb dX1_countReached_68 ?_
          refine lv_topi (fun x68 e68 => ?_)
          refine lv_iand hx hb dX1_countReached_69 ?_
          refine lv_topi (fun x69 e69 => ?_)
          obtain rfl : x69 = nI (andn L (2 ^ i)) := e69.trans (by rw [e68]; exact andn_nI _ _)
          refine lv_dup2_11 hx hb dX1_countReached_70 rfl rfl ?_
          have hcut := (cut_ok L (by omega) i (by omega) (and_tb c56).2).1
          refine va_iald hx hb hK hP 3 0 rfl rfl (vp_in_nI (by omega) (by decide)) dX1_countReached_71 ?_
          refine lv_topi (fun x71 e71 => ?_)
          rw [nI_clamp (n := andn L (2 ^ i)) (by omega)] at e71
          obtain rfl : x71 = nI (rP cs on L i (andn L (2 ^ i))) := e71.trans (hg2 _ (by omega))
          refine lv_aload_n hx hb dX1_countReached_72 rfl (lv_at hl 0 rfl) ?_
          refine va_get (D := (dC, dI0)) (ci := 1) (v := .ref o3) (C := RX1) (T := TX1) (N := 8) hx hb hts hin_X1 hown hK hP 0 rfl rfl 2 (by decide) hf20 (fun _ h9 => h9) rfl dX1_countReached_73 ?_
          refine lv_iload_n hx hb dX1_countReached_76 rfl (lv_at hl 1 rfl) ?_
          refine va_iald hx hb hK hP 3 0 rfl rfl (vp_in_nI (by omega) (by decide)) dX1_countReached_77 ?_
          refine lv_topi (fun x77 e77 => ?_)
          rw [nI_clamp (n := L) (by omega)] at e77
          obtain rfl : x77 = nI (rS cs on L) := e77.trans ((hg2 _ (by omega)).trans (congrArg nI (rP_self ho7 (by omega))))
          refine lv_iadd hx hb dX1_countReached_78 ?_
          refine lv_topi (fun x78 e78 => ?_)
          obtain rfl : x78 = nI ((rP cs on L i (andn L (2 ^ i))) + (rS cs on L)) := e78.trans (nI_add _ _)
          refine va_iast hx hb hK hP hD hS 3 0 rfl rfl (vp_in_nI (by omega) (by decide)) dX1_countReached_79 (fun H locs hP hD hS => ?_)
          rw [nI_clamp (n := andn L (2 ^ i)) (by omega)] at hP hD
          have hP : va_P (dC, dI0) vwCl [(h1, .inr (1, [.ref o1, .ref o2, .ref o3, .ref o4, .ref o5, .ref o6, .int (nI on), .int (nI ev)])), (o1, .inl (cI, 7, .inl cA)), (o2, .inl (cI, 128, .inl wA)), (o3, .inl (cI, 128, .inl (upd g2 (andn L (2 ^ i)) (nI ((rP cs on L i (andn L (2 ^ i))) + (rS cs on L)))))), (o4, .inl (cI, 128, .inl xA)), (o5, .inl (cI, 49, .inl tA)), (o6, .inl (cI, 896, .inl gA))] H := hP
          have hD : va_D A [(h1, .inr (1, [.ref o1, .ref o2, .ref o3, .ref o4, .ref o5, .ref o6, .int (nI on), .int (nI ev)])), (o1, .inl (cI, 7, .inl cA)), (o2, .inl (cI, 128, .inl wA)), (o3, .inl (cI, 128, .inl (upd g2 (andn L (2 ^ i)) (nI ((rP cs on L i (andn L (2 ^ i))) + (rS cs on L)))))), (o4, .inl (cI, 128, .inl xA)), (o5, .inl (cI, 49, .inl tA)), (o6, .inl (cI, 896, .inl gA))] := hD
          refine lv_iinc (v := nI (i + 1)) (lv' := [(3, .int (nI (i + 1))), (0, .ref h1), (1, .int (nI L)), (2, .int (nI ((cs (on - pop L)) &&& L)))]) hx hb dX1_countReached_80 hl (k := 3) rfl (show nI i + Int32.ofInt 1 = nI (i + 1) from nI_add _ _) (by decide) rfl (fun ls hl => ?_)
          refine lv_goto (tgt := 43) hx hb dX1_countReached_83 (by decide) ?_
          exact ih43 (i + 1) (upd g2 (andn L (2 ^ i)) (nI ((rP cs on L i (andn L (2 ^ i))) + (rS cs on L)))) (by omega) (fun T hT => by
              by_cases e : T = andn L (2 ^ i)
              · rw [e, pk_us, rP_hit ho7 (by omega) (by omega) c56]
              · rw [pk_un e, hg2 T hT, rP_ne ho7 (by omega) e]) (by omega) _ _ hP hD hS ls (lv_sub hl [1, 2, 3, 0] rfl)
      exact L43 _ 0 g (by omega) (hg) (Nat.lt_succ_self _) _ _ hP hD hS ls (lv_sub hl [2, 3, 1, 0] rfl)
  exact L23 _ ev (upd g0 ev (nI 1)) (by omega) (fun T hT => by
      have h0 := rP_init (cs := cs) ho7 (show T < 2 ^ on by omega)
      rw [show 2 ^ on - 1 = ev by omega] at h0
      rw [h0]
      by_cases e : T = ev
      · rw [e, pk_us, if_pos hev]
      · rw [pk_un e, hw5, fillF, if_pos (by omega), if_neg (by omega)]) (Nat.lt_succ_self _) _ _ hP hD hS ls (lv_sub hl [1, 0] rfl)

set_option maxHeartbeats 4000000 in
set_option maxRecDepth 100000 in
theorem KX1_countThrough (l : Launch) (dC : Nat → ClassId) (dI0 : Nat → Nat → Nat) (cI cZ : ClassId) (h1 : Nat) (o1 : Nat) (o2 : Nat) (o3 : Nat) (o4 : Nat) (o5 : Nat) (o6 : Nat) (on : Nat) (ev : Nat) (cA : Nat → Int32) (wA : Nat → Int32) (rA : Nat → Int32) (xA : Nat → Int32) (tA : Nat → Int32) (gA : Nat → Int32) (sz : Nat) (cs : Nat → Nat) (hO : OuR on ev cA cs) (hW : ∀ T, T ≤ ev → wA T = nI (onS cs on T)) (hR : ∀ T, T ≤ ev → rA T = nI (rS cs on T)) : Met l yX1_countThrough wsX1_countThrough ({ frames := 2, cells := 0, slots := 0, locals := 44 } : Room) (va_Pc [.ref h1] (fun U => U.heap.size = sz ∧ va_P (dC, dI0) vwCl (WOu cI cZ h1 o1 o2 o3 o4 o5 o6 on ev cA wA rA xA tA gA) U.heap ∧ va_K (dC, dI0) vwCl [(cI, .int), (cZ, .boolean)] U ∧ va_D (fun _ => True) (WOu cI cZ h1 o1 o2 o3 o4 o5 o6 on ev cA wA rA xA tA gA))) (va_Qv (fun (u : Nat → Int32) => ∀ p q, p < on → q < on → u (p * 7 + q) = nI (thS cs on p q)) (fun (u : Nat → Int32) (t : State) => va_P (dC, dI0) vwCl (WOu cI cZ h1 o1 o2 o3 o4 o5 o6 on ev cA wA rA xA u gA) t.heap ∧ va_K (dC, dI0) vwCl [(cI, .int), (cZ, .boolean)] t ∧ va_D (va_A (WOu cI cZ h1 o1 o2 o3 o4 o5 o6 on ev cA wA rA xA tA gA) sz) (WOu cI cZ h1 o1 o2 o3 o4 o5 o6 on ev cA wA rA xA u gA)) (va_A (WOu cI cZ h1 o1 o2 o3 o4 o5 o6 on ev cA wA rA xA tA gA) sz)) 0 0 (va_A (WOu cI cZ h1 o1 o2 o3 o4 o5 o6 on ev cA wA rA xA tA gA) sz) := by
  refine Met.ofW (cc := cX1_countThrough) (maxL := 4) (ret := none) (by decide) rfl ?_
  intro prg env s m args below meth c s₁ B hml hv
  obtain ⟨rfl, hsz, hP, hK, hD0⟩ := hv
  have hx := B.exec
  have hb := B.bytes
  have hr := B.returns
  have hts := atoms_spec (ws := wsX1_countThrough) B.pre
  have hown : s.vm.findClass RX1 = some m.cls := findClass_of_methodNamed B.named
  have hlocks := B.notSynchronized
  subst hsz
  have hD := hD0.self (sz := s.heap.size)
  generalize hAe : va_A (WOu cI cZ h1 o1 o2 o3 o4 o5 o6 on ev cA wA rA xA tA gA) s.heap.size = A at hD ⊢
  have hA : ∀ q : Nat, s.heap.size ≤ q → A q := fun q h => by rw [← hAe]; exact Or.inr h
  have hS : va_S A s.heap s.heap [] := va_S.rf
  have hP : va_P (dC, dI0) vwCl [(h1, .inr (1, [.ref o1, .ref o2, .ref o3, .ref o4, .ref o5, .ref o6, .int (nI on), .int (nI ev)])), (o1, .inl (cI, 7, .inl cA)), (o2, .inl (cI, 128, .inl wA)), (o3, .inl (cI, 128, .inl rA)), (o4, .inl (cI, 128, .inl xA)), (o5, .inl (cI, 49, .inl tA)), (o6, .inl (cI, 896, .inl gA))] s.heap := hP
  have hD : va_D A [(h1, .inr (1, [.ref o1, .ref o2, .ref o3, .ref o4, .ref o5, .ref o6, .int (nI on), .int (nI ev)])), (o1, .inl (cI, 7, .inl cA)), (o2, .inl (cI, 128, .inl wA)), (o3, .inl (cI, 128, .inl rA)), (o4, .inl (cI, 128, .inl xA)), (o5, .inl (cI, 49, .inl tA)), (o6, .inl (cI, 896, .inl gA))] := hD
  have hl := lv_entry ([.ref h1]) (n := 4) (Nat.le_of_ble_eq_true rfl)
  rw [lg_entry_eq]
  generalize (lg_sl ([.ref h1]) ++ List.replicate (4 - (lg_sl ([.ref h1])).length) Slot.unset).toArray = ls at hl ⊢
  have hl : lv_has ls 4 [(0, .ref h1)] := hl
  obtain ⟨H, hH⟩ : ∃ H : Heap, H = s.heap := ⟨_, rfl⟩
  rw [← hH] at hP ⊢
  have hS : va_S A s.heap H [] := by rw [hH]; exact hS
  refine w_gen (fun Q hQ => ?_)
  have hin_X1 : ∀ w ∈ wsX10, w ∈ wsX1_countThrough := by decide +kernel
  have hf26 := hts (.fieldLink RX1 26 "HatNames$Outlook" "through" "[I") (by decide +kernel)
  have hf37 := hts (.fieldLink RX1 37 "HatNames$Outlook" "everyName" "I") (by decide +kernel)
  have hf36 := hts (.fieldLink RX1 36 "HatNames$Outlook" "size" "I") (by decide +kernel)
  have hf20 := hts (.fieldLink RX1 20 "HatNames$Outlook" "reached" "[I") (by decide +kernel)
  obtain ⟨ho7, hev, hev7, hcc⟩ := id hO
  refine lv_aload_n hx hb dX1_countThrough_0 rfl (lv_at hl 0 rfl) ?_
  refine va_get (D := (dC, dI0)) (ci := 1) (v := .ref o5) (C := RX1) (T := TX1) (N := 8) hx hb hts hin_X1 hown hK hP 0 rfl rfl 4 (by decide) hf26 (fun _ h9 => h9) rfl dX1_countThrough_1 ?_
  refine lv_iconst (v := nI 0) hx hb dX1_countThrough_4 (by decide) ?_
  have hPc := hP.sub (ws' := [(o5, .inl (cI, 49, .inl tA))]) [5] rfl
  have hDc := hD.sub (ws' := [(o5, .inl (cI, 49, .inl tA))]) [5] (by decide) rfl
  have hFc := va_free (wc := [(o5, .inl (cI, 49, .inl tA))]) hD hS hA [5] rfl
  refine va_callv (va_runS (As := [.ref o5, .int (nI 0)]) (rest := []) ⟨hx, hb, hml, hown, hts⟩ (KJ7_fill_53178 l dC dI0 cI cZ o5 49 tA H.size (nI 0) (by first | assumption | omega)) (va_cwS 2 hts gX1_countThrough_J7_fill_53178 rfl rfl rfl (by decide +kernel) ⟨Nat.le_of_ble_eq_true rfl, Nat.le_of_ble_eq_true rfl⟩) ⟨fun a U g mk q => by obtain ⟨q0, q1, qP, qK, qD⟩ := q; exact ⟨q0, q1, qP, va_K.moved (u := U) (U := U.calling g mk a) (Vm.Alike.refl U.vm) qK, qD⟩, fun U hU hW => ⟨rfl, by rw [hU], by rw [hU]; exact hPc, va_K.moved hW.alike hK, hDc.weaken (fun _ _ _ _ => trivial)⟩⟩ rfl rfl hl.1 rfl (lv_room (Nat.le_of_ble_eq_true rfl)) dX1_countThrough_5 ⟨Nat.le_of_ble_eq_true rfl, Nat.le_of_ble_eq_true rfl⟩) hS (fun q _ h => hFc q h) hFc (fun u5 t7 H1 locs ht7 hvm7 hw5 hB hz1 hk1 hS => ?_)
  obtain ⟨g0, eg0⟩ : ∃ z, z = u5 := ⟨_, rfl⟩; subst eg0
  obtain ⟨hP1, hK1, hD1⟩ := hB
  rw [ht7] at hP1
  try dsimp only at hw5 hP1 hD1
  obtain ⟨hP, hD⟩ := va_join (wr := [(h1, .inr (1, [.ref o1, .ref o2, .ref o3, .ref o4, .ref o5, .ref o6, .int (nI on), .int (nI ev)])), (o1, .inl (cI, 7, .inl cA)), (o2, .inl (cI, 128, .inl wA)), (o3, .inl (cI, 128, .inl rA)), (o4, .inl (cI, 128, .inl xA)), (o6, .inl (cI, 896, .inl gA))]) (w1 := [(o5, .inl (cI, 49, .inl g0))]) hP hD [5] [0, 1, 2, 3, 4, 6] rfl rfl (by decide) (by decide) hk1 hFc hP1 hD1
  generalize H1 = H at hP hS ⊢
  have hP := hP.sub (ws' := [(h1, .inr (1, [.ref o1, .ref o2, .ref o3, .ref o4, .ref o5, .ref o6, .int (nI on), .int (nI ev)])), (o1, .inl (cI, 7, .inl cA)), (o2, .inl (cI, 128, .inl wA)), (o3, .inl (cI, 128, .inl rA)), (o4, .inl (cI, 128, .inl xA)), (o5, .inl (cI, 49, .inl g0)), (o6, .inl (cI, 896, .inl gA))]) [0, 1, 2, 3, 4, 6, 5] rfl
  have hD := hD.sub (ws' := [(h1, .inr (1, [.ref o1, .ref o2, .ref o3, .ref o4, .ref o5, .ref o6, .int (nI on), .int (nI ev)])), (o1, .inl (cI, 7, .inl cA)), (o2, .inl (cI, 128, .inl wA)), (o3, .inl (cI, 128, .inl rA)), (o4, .inl (cI, 128, .inl xA)), (o5, .inl (cI, 49, .inl g0)), (o6, .inl (cI, 896, .inl gA))]) [0, 1, 2, 3, 4, 6, 5] (by decide) rfl
  refine lv_iconst (v := nI 1) hx hb dX1_countThrough_8 (by decide) ?_
  refine lv_istore_n (lv' := [(1, .int (nI 1)), (0, .ref h1)]) hx hb dX1_countThrough_9 rfl hl (by decide) rfl (fun ls hl => ?_)
  have L10 : ∀ (fu : Nat) (L : Nat) (g : Nat → Int32), 1 ≤ L → L ≤ ev + 1 → (∀ p q, p < on → q < on → g (p * 7 + q) = nI (tP cs on L 0 p q)) → ev + 1 - L < fu → ∀ (H : Heap) (locs : List Loc), va_P (dC, dI0) vwCl [(h1, .inr (1, [.ref o1, .ref o2, .ref o3, .ref o4, .ref o5, .ref o6, .int (nI on), .int (nI ev)])), (o1, .inl (cI, 7, .inl cA)), (o2, .inl (cI, 128, .inl wA)), (o3, .inl (cI, 128, .inl rA)), (o4, .inl (cI, 128, .inl xA)), (o5, .inl (cI, 49, .inl g)), (o6, .inl (cI, 896, .inl gA))] H → va_D A [(h1, .inr (1, [.ref o1, .ref o2, .ref o3, .ref o4, .ref o5, .ref o6, .int (nI on), .int (nI ev)])), (o1, .inl (cI, 7, .inl cA)), (o2, .inl (cI, 128, .inl wA)), (o3, .inl (cI, 128, .inl rA)), (o4, .inl (cI, 128, .inl xA)), (o5, .inl (cI, 49, .inl g)), (o6, .inl (cI, 896, .inl gA))] → va_S A s.heap H locs → ∀ (ls : Array Slot), lv_has ls 4 [(0, .ref h1), (1, .int (nI L))] → W prg l env ({ frames := 2, cells := 0, slots := 0, locals := 44 } : Room) s m ([.ref h1] : List Value).toArray below meth c H locs 0 0 Q (F0 m 10 ls []) := by
    intro fu
    induction fu with
    | zero => intro L g hL1 hL hg hmu; exact absurd hmu (Nat.not_lt_zero _)
    | succ fu ih10 =>
      intro L g hL1 hL hg hmu10 H locs hP hD hS ls hl
      refine lv_iload_n hx hb dX1_countThrough_10 rfl (lv_at hl 1 rfl) ?_
      refine lv_aload_n hx hb dX1_countThrough_11 rfl (lv_at hl 0 rfl) ?_
      refine va_get (D := (dC, dI0)) (ci := 1) (v := .int (nI ev)) (C := RX1) (T := TX1) (N := 8) hx hb hts hin_X1 hown hK hP 0 rfl rfl 7 (by decide) hf37 (fun _ h9 => h9) rfl dX1_countThrough_12 ?_
      refine lv_icmp_gt (tgt := 73) hx hb dX1_countThrough_15 (by decide) (fun c15 => ?_) (fun c15 => ?_)
      ·
        have c15 : ev < L := (nI_ltI (a := ev) (b := L) (by omega) (by omega)).mp c15
        subst hQ
        have hP9 : va_P (dC, dI0) vwCl [(h1, .inr (1, [.ref o1, .ref o2, .ref o3, .ref o4, .ref o5, .ref o6, .int (nI on), .int (nI ev)])), (o1, .inl (cI, 7, .inl cA)), (o2, .inl (cI, 128, .inl wA)), (o3, .inl (cI, 128, .inl rA)), (o4, .inl (cI, 128, .inl xA)), (o5, .inl (cI, 49, .inl g)), (o6, .inl (cI, 896, .inl gA))] H := hP
        have hD9 : va_D A [(h1, .inr (1, [.ref o1, .ref o2, .ref o3, .ref o4, .ref o5, .ref o6, .int (nI on), .int (nI ev)])), (o1, .inl (cI, 7, .inl cA)), (o2, .inl (cI, 128, .inl wA)), (o3, .inl (cI, 128, .inl rA)), (o4, .inl (cI, 128, .inl xA)), (o5, .inl (cI, 49, .inl g)), (o6, .inl (cI, 896, .inl gA))] := hD
        exact W.vret hx hb hr (fun t9 ht9 hW9 => ⟨⟨g, rfl, fun p q hp hq => by rw [hg p q hp hq, show L = 2 ^ on by omega, tP_end], by rw [ht9]; exact hP9, va_K.moved hW9.alike hK, hD9⟩, hS.F ht9⟩) hS.2.2 dX1_countThrough_73
      have c15 : ¬ ev < L := fun z => c15 ((nI_ltI (a := ev) (b := L) (by omega) (by omega)).mpr z)
      refine lv_aload_n hx hb dX1_countThrough_18 rfl (lv_at hl 0 rfl) ?_
      refine lv_iload_n hx hb dX1_countThrough_19 rfl (lv_at hl 1 rfl) ?_
      have hPc := hP.sub (ws' := [(h1, .inr (1, [.ref o1, .ref o2, .ref o3, .ref o4, .ref o5, .ref o6, .int (nI on), .int (nI ev)])), (o1, .inl (cI, 7, .inl cA)), (o2, .inl (cI, 128, .inl wA)), (o3, .inl (cI, 128, .inl rA)), (o4, .inl (cI, 128, .inl xA)), (o5, .inl (cI, 49, .inl g)), (o6, .inl (cI, 896, .inl gA))]) [0, 1, 2, 3, 4, 5, 6] rfl
      have hDc := hD.sub (ws' := [(h1, .inr (1, [.ref o1, .ref o2, .ref o3, .ref o4, .ref o5, .ref o6, .int (nI on), .int (nI ev)])), (o1, .inl (cI, 7, .inl cA)), (o2, .inl (cI, 128, .inl wA)), (o3, .inl (cI, 128, .inl rA)), (o4, .inl (cI, 128, .inl xA)), (o5, .inl (cI, 49, .inl g)), (o6, .inl (cI, 896, .inl gA))]) [0, 1, 2, 3, 4, 5, 6] (by decide) rfl
      have hFc := va_free (wc := [(h1, .inr (1, [.ref o1, .ref o2, .ref o3, .ref o4, .ref o5, .ref o6, .int (nI on), .int (nI ev)])), (o1, .inl (cI, 7, .inl cA)), (o2, .inl (cI, 128, .inl wA)), (o3, .inl (cI, 128, .inl rA)), (o4, .inl (cI, 128, .inl xA)), (o5, .inl (cI, 49, .inl g)), (o6, .inl (cI, 896, .inl gA))]) hD hS hA [0, 1, 2, 3, 4, 5, 6] rfl
      refine va_calli (va_runV (As := [.int (nI L)]) (rest := []) ⟨hx, hb, hml, hown, hts⟩ (KX1_turn l dC dI0 cI cZ h1 o1 o2 o3 o4 o5 o6 on ev cA wA rA xA g gA H.size cs L (by first | assumption | omega) (by first | assumption | omega)) (cwV 1 hts gX1_countThrough_X1_turn rfl rfl rfl (by decide +kernel) ⟨Nat.le_of_ble_eq_true rfl, Nat.le_of_ble_eq_true rfl⟩) ⟨fun a U g mk q => by obtain ⟨q0, q1, qP, qK, qD⟩ := q; exact ⟨q0, q1, qP, va_K.moved (u := U) (U := U.calling g mk a) (Vm.Alike.refl U.vm) qK, qD⟩, va_recv hK hPc (ci := 1) (q0 := 0) rfl rfl, fun U hU hW => ⟨rfl, by rw [hU], by rw [hU]; exact hPc, va_K.moved hW.alike hK, hDc.weaken (fun _ _ _ _ => trivial)⟩⟩ rfl rfl hl.1 rfl (lv_room (Nat.le_of_ble_eq_true rfl)) dX1_countThrough_20 ⟨Nat.le_of_ble_eq_true rfl, Nat.le_of_ble_eq_true rfl⟩) hS (fun q _ h => hFc q h) hFc (fun r20 u20 t7 H1 locs ht7 hvm7 hw20 hB hz1 hk1 hS => ?_)
      obtain ⟨hP1, hK1, hD1⟩ := hB
      rw [ht7] at hP1
      try dsimp only at hw20 hP1 hD1
      obtain ⟨hP, hD⟩ := va_join (wr := []) (w1 := [(h1, .inr (1, [.ref o1, .ref o2, .ref o3, .ref o4, .ref o5, .ref o6, .int (nI on), .int (nI ev)])), (o1, .inl (cI, 7, .inl cA)), (o2, .inl (cI, 128, .inl wA)), (o3, .inl (cI, 128, .inl rA)), (o4, .inl (cI, 128, .inl xA)), (o5, .inl (cI, 49, .inl g)), (o6, .inl (cI, 896, .inl gA))]) hP hD [0, 1, 2, 3, 4, 5, 6] [] rfl rfl (by decide) (by decide) hk1 hFc hP1 hD1
      generalize H1 = H at hP hS ⊢
      have hP := hP.sub (ws' := [(h1, .inr (1, [.ref o1, .ref o2, .ref o3, .ref o4, .ref o5, .ref o6, .int (nI on), .int (nI ev)])), (o1, .inl (cI, 7, .inl cA)), (o2, .inl (cI, 128, .inl wA)), (o3, .inl (cI, 128, .inl rA)), (o4, .inl (cI, 128, .inl xA)), (o5, .inl (cI, 49, .inl g)), (o6, .inl (cI, 896, .inl gA))]) [0, 1, 2, 3, 4, 5, 6] rfl
      have hD := hD.sub (ws' := [(h1, .inr (1, [.ref o1, .ref o2, .ref o3, .ref o4, .ref o5, .ref o6, .int (nI on), .int (nI ev)])), (o1, .inl (cI, 7, .inl cA)), (o2, .inl (cI, 128, .inl wA)), (o3, .inl (cI, 128, .inl rA)), (o4, .inl (cI, 128, .inl xA)), (o5, .inl (cI, 49, .inl g)), (o6, .inl (cI, 896, .inl gA))]) [0, 1, 2, 3, 4, 5, 6] (by decide) rfl
      obtain rfl : r20 = nI (on - pop L) := hw20
      have hpp := pop_pos L (by omega) (by omega)
      have hpn := pop_n on ho7 L (by omega)
      refine lv_istore_n (lv' := [(2, .int (nI (on - pop L))), (0, .ref h1), (1, .int (nI L))]) hx hb dX1_countThrough_23 rfl hl (by decide) rfl (fun ls hl => ?_)
      refine lv_iconst (v := nI 0) hx hb dX1_countThrough_24 (by decide) ?_
      refine lv_istore_n (lv' := [(3, .int (nI 0)), (2, .int (nI (on - pop L))), (0, .ref h1), (1, .int (nI L))]) hx hb dX1_countThrough_25 rfl hl (by decide) rfl (fun ls hl => ?_)
      have L26 : ∀ (fu : Nat) (i : Nat) (g2 : Nat → Int32), i ≤ on → (∀ p q, p < on → q < on → g2 (p * 7 + q) = nI (tP cs on L i p q)) → on - i < fu → ∀ (H : Heap) (locs : List Loc), va_P (dC, dI0) vwCl [(h1, .inr (1, [.ref o1, .ref o2, .ref o3, .ref o4, .ref o5, .ref o6, .int (nI on), .int (nI ev)])), (o1, .inl (cI, 7, .inl cA)), (o2, .inl (cI, 128, .inl wA)), (o3, .inl (cI, 128, .inl rA)), (o4, .inl (cI, 128, .inl xA)), (o5, .inl (cI, 49, .inl g2)), (o6, .inl (cI, 896, .inl gA))] H → va_D A [(h1, .inr (1, [.ref o1, .ref o2, .ref o3, .ref o4, .ref o5, .ref o6, .int (nI on), .int (nI ev)])), (o1, .inl (cI, 7, .inl cA)), (o2, .inl (cI, 128, .inl wA)), (o3, .inl (cI, 128, .inl rA)), (o4, .inl (cI, 128, .inl xA)), (o5, .inl (cI, 49, .inl g2)), (o6, .inl (cI, 896, .inl gA))] → va_S A s.heap H locs → ∀ (ls : Array Slot), lv_has ls 4 [(0, .ref h1), (1, .int (nI L)), (2, .int (nI (on - pop L))), (3, .int (nI i))] → W prg l env ({ frames := 2, cells := 0, slots := 0, locals := 44 } : Room) s m ([.ref h1] : List Value).toArray below meth c H locs 0 0 Q (F0 m 26 ls []) := by
        intro fu
        induction fu with
        | zero => intro i g2 hi hg2 hmu; exact absurd hmu (Nat.not_lt_zero _)
        | succ fu ih26 =>
          intro i g2 hi hg2 hmu26 H locs hP hD hS ls hl
          refine lv_iload_n hx hb dX1_countThrough_26 rfl (lv_at hl 3 rfl) ?_
          refine lv_aload_n hx hb dX1_countThrough_27 rfl (lv_at hl 0 rfl) ?_
          refine va_get (D := (dC, dI0)) (ci := 1) (v := .int (nI on)) (C := RX1) (T := TX1) (N := 8) hx hb hts hin_X1 hown hK hP 0 rfl rfl 6 (by decide) hf36 (fun _ h9 => h9) rfl dX1_countThrough_28 ?_
          refine lv_icmp_ge (tgt := 67) hx hb dX1_countThrough_31 (by decide) (fun c31 => ?_) (fun c31 => ?_)
          ·
            have c31 : on ≤ i := (nI_leI (a := on) (b := i) (by omega) (by omega)).mp c31
            refine lv_iinc (v := nI (L + 1)) (lv' := [(1, .int (nI (L + 1))), (0, .ref h1), (2, .int (nI (on - pop L))), (3, .int (nI i))]) hx hb dX1_countThrough_67 hl (k := 1) rfl (show nI L + Int32.ofInt 1 = nI (L + 1) from nI_add _ _) (by decide) rfl (fun ls hl => ?_)
            refine lv_goto (tgt := 10) hx hb dX1_countThrough_70 (by decide) ?_
            exact ih10 (L + 1) g2 (by omega) (by omega) (fun p q hp hq => by rw [hg2 p q hp hq, show i = on by omega, tP_next hL1 hq]) (by omega) _ _ hP hD hS ls (lv_sub hl [1, 0] rfl)
          have c31 : ¬ on ≤ i := fun z => c31 ((nI_leI (a := on) (b := i) (by omega) (by omega)).mpr z)
          refine lv_aload_n hx hb dX1_countThrough_34 rfl (lv_at hl 0 rfl) ?_
          refine va_get (D := (dC, dI0)) (ci := 1) (v := .ref o5) (C := RX1) (T := TX1) (N := 8) hx hb hts hin_X1 hown hK hP 0 rfl rfl 4 (by decide) hf26 (fun _ h9 => h9) rfl dX1_countThrough_35 ?_
          refine lv_iload_n hx hb dX1_countThrough_38 rfl (lv_at hl 2 rfl) ?_
          refine lv_iload_n hx hb dX1_countThrough_39 rfl (lv_at hl 3 rfl) ?_
          have hPc := hP.sub (ws' := []) [] rfl
          have hDc := hD.sub (ws' := []) [] (by decide) rfl
          have hFc := va_free (wc := []) hD hS hA [] rfl
          refine va_calli (va_runS (As := [.int (nI (on - pop L)), .int (nI i)]) (rest := [.ref o5]) ⟨hx, hb, hml, hown, hts⟩ (KX1_cell l dC dI0 cI cZ  H.size (on - pop L) i) (va_cwS 2 hts gX1_countThrough_X1_cell rfl rfl rfl (by decide +kernel) ⟨Nat.le_of_ble_eq_true rfl, Nat.le_of_ble_eq_true rfl⟩) ⟨fun a U g mk q => by obtain ⟨q0, q1, qP, qK, qD⟩ := q; exact ⟨q0, q1, qP, va_K.moved (u := U) (U := U.calling g mk a) (Vm.Alike.refl U.vm) qK, qD⟩, fun U hU hW => ⟨rfl, by rw [hU], by rw [hU]; exact hPc, va_K.moved hW.alike hK, hDc.weaken (fun _ _ _ _ => trivial)⟩⟩ rfl rfl hl.1 rfl (lv_room (Nat.le_of_ble_eq_true rfl)) dX1_countThrough_40 ⟨Nat.le_of_ble_eq_true rfl, Nat.le_of_ble_eq_true rfl⟩) hS (fun q _ h => hFc q h) hFc (fun r40 u40 t7 H1 locs ht7 hvm7 hw40 hB hz1 hk1 hS => ?_)
          obtain ⟨hP1, hK1, hD1⟩ := hB
          rw [ht7] at hP1
          try dsimp only at hw40 hP1 hD1
          obtain ⟨hP, hD⟩ := va_join (wr := [(h1, .inr (1, [.ref o1, .ref o2, .ref o3, .ref o4, .ref o5, .ref o6, .int (nI on), .int (nI ev)])), (o1, .inl (cI, 7, .inl cA)), (o2, .inl (cI, 128, .inl wA)), (o3, .inl (cI, 128, .inl rA)), (o4, .inl (cI, 128, .inl xA)), (o5, .inl (cI, 49, .inl g2)), (o6, .inl (cI, 896, .inl gA))]) (w1 := []) hP hD [] [0, 1, 2, 3, 4, 5, 6] rfl rfl (by decide) (by decide) hk1 hFc hP1 hD1
          generalize H1 = H at hP hS ⊢
          have hP := hP.sub (ws' := [(h1, .inr (1, [.ref o1, .ref o2, .ref o3, .ref o4, .ref o5, .ref o6, .int (nI on), .int (nI ev)])), (o1, .inl (cI, 7, .inl cA)), (o2, .inl (cI, 128, .inl wA)), (o3, .inl (cI, 128, .inl rA)), (o4, .inl (cI, 128, .inl xA)), (o5, .inl (cI, 49, .inl g2)), (o6, .inl (cI, 896, .inl gA))]) [0, 1, 2, 3, 4, 5, 6] rfl
          have hD := hD.sub (ws' := [(h1, .inr (1, [.ref o1, .ref o2, .ref o3, .ref o4, .ref o5, .ref o6, .int (nI on), .int (nI ev)])), (o1, .inl (cI, 7, .inl cA)), (o2, .inl (cI, 128, .inl wA)), (o3, .inl (cI, 128, .inl rA)), (o4, .inl (cI, 128, .inl xA)), (o5, .inl (cI, 49, .inl g2)), (o6, .inl (cI, 896, .inl gA))]) [0, 1, 2, 3, 4, 5, 6] (by decide) rfl
          obtain rfl : r40 = nI ((on - pop L) * 7 + i) := hw40
          refine lv_dup2_11 hx hb dX1_countThrough_43 rfl rfl ?_
          refine va_iald hx hb hK hP 5 0 rfl rfl (vp_in_nI (by omega) (by decide)) dX1_countThrough_44 ?_
          refine lv_topi (fun x44 e44 => ?_)
          rw [nI_clamp (n := (on - pop L) * 7 + i) (by omega)] at e44
          obtain rfl : x44 = nI (tP cs on L i (on - pop L) i) := e44.trans (hg2 _ _ (by omega) (by omega))
          refine lv_aload_n hx hb dX1_countThrough_45 rfl (lv_at hl 0 rfl) ?_
          refine va_get (D := (dC, dI0)) (ci := 1) (v := .ref o3) (C := RX1) (T := TX1) (N := 8) hx hb hts hin_X1 hown hK hP 0 rfl rfl 2 (by decide) hf20 (fun _ h9 => h9) rfl dX1_countThrough_46 ?_
          refine lv_iload_n hx hb dX1_countThrough_49 rfl (lv_at hl 1 rfl) ?_
          refine va_iald hx hb hK hP 3 0 rfl rfl (vp_in_nI (by omega) (by decide)) dX1_countThrough_50 ?_
          refine lv_topi (fun x50 e50 => ?_)
          rw [nI_clamp (n := L) (by omega)] at e50
          obtain rfl : x50 = nI (rS cs on L) := e50.trans (hR _ (by omega))
          refine lv_aload_n hx hb dX1_countThrough_51 rfl (lv_at hl 0 rfl) ?_
          refine lv_iload_n hx hb dX1_countThrough_52 rfl (lv_at hl 2 rfl) ?_
          refine lv_iload_n hx hb dX1_countThrough_53 rfl (lv_at hl 3 rfl) ?_
          refine lv_iload_n hx hb dX1_countThrough_54 rfl (lv_at hl 1 rfl) ?_
          have hPc := hP.sub (ws' := [(h1, .inr (1, [.ref o1, .ref o2, .ref o3, .ref o4, .ref o5, .ref o6, .int (nI on), .int (nI ev)])), (o1, .inl (cI, 7, .inl cA)), (o2, .inl (cI, 128, .inl wA)), (o3, .inl (cI, 128, .inl rA)), (o4, .inl (cI, 128, .inl xA)), (o5, .inl (cI, 49, .inl g2)), (o6, .inl (cI, 896, .inl gA))]) [0, 1, 2, 3, 4, 5, 6] rfl
          have hDc := hD.sub (ws' := [(h1, .inr (1, [.ref o1, .ref o2, .ref o3, .ref o4, .ref o5, .ref o6, .int (nI on), .int (nI ev)])), (o1, .inl (cI, 7, .inl cA)), (o2, .inl (cI, 128, .inl wA)), (o3, .inl (cI, 128, .inl rA)), (o4, .inl (cI, 128, .inl xA)), (o5, .inl (cI, 49, .inl g2)), (o6, .inl (cI, 896, .inl gA))]) [0, 1, 2, 3, 4, 5, 6] (by decide) rfl
          have hFc := va_free (wc := [(h1, .inr (1, [.ref o1, .ref o2, .ref o3, .ref o4, .ref o5, .ref o6, .int (nI on), .int (nI ev)])), (o1, .inl (cI, 7, .inl cA)), (o2, .inl (cI, 128, .inl wA)), (o3, .inl (cI, 128, .inl rA)), (o4, .inl (cI, 128, .inl xA)), (o5, .inl (cI, 49, .inl g2)), (o6, .inl (cI, 896, .inl gA))]) hD hS hA [0, 1, 2, 3, 4, 5, 6] rfl
          refine va_calli (va_runV (As := [.int (nI (on - pop L)), .int (nI i), .int (nI L)]) (rest := [.int (nI (rS cs on L)), .int (nI (tP cs on L i (on - pop L) i)), .int (nI ((on - pop L) * 7 + i)), .ref o5]) ⟨hx, hb, hml, hown, hts⟩ (KX1_waysWith l dC dI0 cI cZ h1 o1 o2 o3 o4 o5 o6 on ev cA wA rA xA g2 gA H.size cs (onS cs on) (on - pop L) i L (by first | assumption | omega) (by first | assumption | omega) (by first | assumption | omega) (by first | assumption | omega) (fun T hT => hW T (by omega))) (cwV 3 hts gX1_countThrough_X1_waysWith rfl rfl rfl (by decide +kernel) ⟨Nat.le_of_ble_eq_true rfl, Nat.le_of_ble_eq_true rfl⟩) ⟨fun a U g mk q => by obtain ⟨q0, q1, qP, qK, qD⟩ := q; exact ⟨q0, q1, qP, va_K.moved (u := U) (U := U.calling g mk a) (Vm.Alike.refl U.vm) qK, qD⟩, va_recv hK hPc (ci := 1) (q0 := 0) rfl rfl, fun U hU hW => ⟨rfl, by rw [hU], by rw [hU]; exact hPc, va_K.moved hW.alike hK, hDc.weaken (fun _ _ _ _ => trivial)⟩⟩ rfl rfl hl.1 rfl (lv_room (Nat.le_of_ble_eq_true rfl)) dX1_countThrough_55 ⟨Nat.le_of_ble_eq_true rfl, Nat.le_of_ble_eq_true rfl⟩) hS (fun q _ h => hFc q h) hFc (fun r55 u55 t7 H1 locs ht7 hvm7 hw55 hB hz1 hk1 hS => ?_)
          obtain ⟨hP1, hK1, hD1⟩ := hB
          rw [ht7] at hP1
          try dsimp only at hw55 hP1 hD1
          obtain ⟨hP, hD⟩ := va_join (wr := []) (w1 := [(h1, .inr (1, [.ref o1, .ref o2, .ref o3, .ref o4, .ref o5, .ref o6, .int (nI on), .int (nI ev)])), (o1, .inl (cI, 7, .inl cA)), (o2, .inl (cI, 128, .inl wA)), (o3, .inl (cI, 128, .inl rA)), (o4, .inl (cI, 128, .inl xA)), (o5, .inl (cI, 49, .inl g2)), (o6, .inl (cI, 896, .inl gA))]) hP hD [0, 1, 2, 3, 4, 5, 6] [] rfl rfl (by decide) (by decide) hk1 hFc hP1 hD1
          generalize H1 = H at hP hS ⊢
          have hP := hP.sub (ws' := [(h1, .inr (1, [.ref o1, .ref o2, .ref o3, .ref o4, .ref o5, .ref o6, .int (nI on), .int (nI ev)])), (o1, .inl (cI, 7, .inl cA)), (o2, .inl (cI, 128, .inl wA)), (o3, .inl (cI, 128, .inl rA)), (o4, .inl (cI, 128, .inl xA)), (o5, .inl (cI, 49, .inl g2)), (o6, .inl (cI, 896, .inl gA))]) [0, 1, 2, 3, 4, 5, 6] rfl
          have hD := hD.sub (ws' := [(h1, .inr (1, [.ref o1, .ref o2, .ref o3, .ref o4, .ref o5, .ref o6, .int (nI on), .int (nI ev)])), (o1, .inl (cI, 7, .inl cA)), (o2, .inl (cI, 128, .inl wA)), (o3, .inl (cI, 128, .inl rA)), (o4, .inl (cI, 128, .inl xA)), (o5, .inl (cI, 49, .inl g2)), (o6, .inl (cI, 896, .inl gA))]) [0, 1, 2, 3, 4, 5, 6] (by decide) rfl
          obtain rfl : r55 = nI (wW cs (onS cs on) (on - pop L) i L) := hw55
          refine lv_imul hx hb dX1_countThrough_58 ?_
          refine lv_topi (fun x58 e58 => ?_)
          obtain rfl : x58 = nI ((rS cs on L) * (wW cs (onS cs on) (on - pop L) i L)) := e58.trans (pk_mul _ _)
          refine lv_iadd hx hb dX1_countThrough_59 ?_
          refine lv_topi (fun x59 e59 => ?_)
          obtain rfl : x59 = nI ((tP cs on L i (on - pop L) i) + ((rS cs on L) * (wW cs (onS cs on) (on - pop L) i L))) := e59.trans (nI_add _ _)
          refine va_iast hx hb hK hP hD hS 5 0 rfl rfl (vp_in_nI (by omega) (by decide)) dX1_countThrough_60 (fun H locs hP hD hS => ?_)
          rw [nI_clamp (n := (on - pop L) * 7 + i) (by omega)] at hP hD
          have hP : va_P (dC, dI0) vwCl [(h1, .inr (1, [.ref o1, .ref o2, .ref o3, .ref o4, .ref o5, .ref o6, .int (nI on), .int (nI ev)])), (o1, .inl (cI, 7, .inl cA)), (o2, .inl (cI, 128, .inl wA)), (o3, .inl (cI, 128, .inl rA)), (o4, .inl (cI, 128, .inl xA)), (o5, .inl (cI, 49, .inl (upd g2 ((on - pop L) * 7 + i) (nI ((tP cs on L i (on - pop L) i) + ((rS cs on L) * (wW cs (onS cs on) (on - pop L) i L))))))), (o6, .inl (cI, 896, .inl gA))] H := hP
          have hD : va_D A [(h1, .inr (1, [.ref o1, .ref o2, .ref o3, .ref o4, .ref o5, .ref o6, .int (nI on), .int (nI ev)])), (o1, .inl (cI, 7, .inl cA)), (o2, .inl (cI, 128, .inl wA)), (o3, .inl (cI, 128, .inl rA)), (o4, .inl (cI, 128, .inl xA)), (o5, .inl (cI, 49, .inl (upd g2 ((on - pop L) * 7 + i) (nI ((tP cs on L i (on - pop L) i) + ((rS cs on L) * (wW cs (onS cs on) (on - pop L) i L))))))), (o6, .inl (cI, 896, .inl gA))] := hD
          refine lv_iinc (v := nI (i + 1)) (lv' := [(3, .int (nI (i + 1))), (0, .ref h1), (1, .int (nI L)), (2, .int (nI (on - pop L)))]) hx hb dX1_countThrough_61 hl (k := 3) rfl (show nI i + Int32.ofInt 1 = nI (i + 1) from nI_add _ _) (by decide) rfl (fun ls hl => ?_)
          refine lv_goto (tgt := 26) hx hb dX1_countThrough_64 (by decide) ?_
          exact ih26 (i + 1) (upd g2 ((on - pop L) * 7 + i) (nI ((tP cs on L i (on - pop L) i) + ((rS cs on L) * (wW cs (onS cs on) (on - pop L) i L))))) (by omega) (fun p q hp hq => by
              by_cases e : p = on - pop L ∧ q = i
              · obtain ⟨rfl, rfl⟩ := e
                rw [pk_us, tP_hit]
              · rw [pk_un (fun z => e (cell_inj (by omega) (by omega) z)), hg2 p q hp hq, tP_ne e]) (by omega) _ _ hP hD hS ls (lv_sub hl [1, 2, 3, 0] rfl)
      exact L26 _ 0 g (by omega) (hg) (Nat.lt_succ_self _) _ _ hP hD hS ls (lv_sub hl [2, 3, 1, 0] rfl)
  exact L10 _ 1 g0 (by omega) (by omega) (fun p q hp hq => by rw [hw5, fillF, if_pos (by omega), tP_init]) (Nat.lt_succ_self _) _ _ hP hD hS ls (lv_sub hl [1, 0] rfl)

set_option maxHeartbeats 4000000 in
set_option maxRecDepth 100000 in
theorem KX1_nameInAllWays (l : Launch) (dC : Nat → ClassId) (dI0 : Nat → Nat → Nat) (cI cZ : ClassId) (h1 : Nat) (o1 : Nat) (o2 : Nat) (o3 : Nat) (o4 : Nat) (o5 : Nat) (o6 : Nat) (on : Nat) (ev : Nat) (cA : Nat → Int32) (wA : Nat → Int32) (rA : Nat → Int32) (xA : Nat → Int32) (tA : Nat → Int32) (gA : Nat → Int32) (sz : Nat) (cs : Nat → Nat) (TH : Nat → Nat → Nat) (p : Nat) (hO : OuR on ev cA cs) (hW : ∀ T, T ≤ ev → wA T = nI (onS cs on T)) (hT : ∀ p q, p < on → q < on → tA (p * 7 + q) = nI (TH p q) ∧ TH p q ≤ onS cs on ev) (hp : p < on) : Met l yX1_nameInAllWays wsX1_nameInAllWays ({ frames := 1, cells := 0, slots := 0, locals := 21 } : Room) (va_Pc [.ref h1, .int (nI p)] (fun U => U.heap.size = sz ∧ va_P (dC, dI0) vwCl (WOu cI cZ h1 o1 o2 o3 o4 o5 o6 on ev cA wA rA xA tA gA) U.heap ∧ va_K (dC, dI0) vwCl [(cI, .int), (cZ, .boolean)] U ∧ va_D (fun _ => True) (WOu cI cZ h1 o1 o2 o3 o4 o5 o6 on ev cA wA rA xA tA gA))) (va_Qi (fun (r : Int32) (u : Unit) => r = dI (fF (fun q => decide (0 < onS cs on ev ∧ TH p q = onS cs on ev)) on 0)) (fun (u : Unit) (t : State) => va_P (dC, dI0) vwCl (WOu cI cZ h1 o1 o2 o3 o4 o5 o6 on ev cA wA rA xA tA gA) t.heap ∧ va_K (dC, dI0) vwCl [(cI, .int), (cZ, .boolean)] t ∧ va_D (va_A (WOu cI cZ h1 o1 o2 o3 o4 o5 o6 on ev cA wA rA xA tA gA) sz) (WOu cI cZ h1 o1 o2 o3 o4 o5 o6 on ev cA wA rA xA tA gA)) (va_A (WOu cI cZ h1 o1 o2 o3 o4 o5 o6 on ev cA wA rA xA tA gA) sz)) 0 0 (va_A (WOu cI cZ h1 o1 o2 o3 o4 o5 o6 on ev cA wA rA xA tA gA) sz) := by
  refine Met.ofW (cc := cX1_nameInAllWays) (maxL := 3) (ret := (some .int)) (by decide) rfl ?_
  intro prg env s m args below meth c s₁ B hml hv
  obtain ⟨rfl, hsz, hP, hK, hD0⟩ := hv
  have hx := B.exec
  have hb := B.bytes
  have hr := B.returns
  have hts := atoms_spec (ws := wsX1_nameInAllWays) B.pre
  have hown : s.vm.findClass RX1 = some m.cls := findClass_of_methodNamed B.named
  have hlocks := B.notSynchronized
  subst hsz
  have hD := hD0.self (sz := s.heap.size)
  generalize hAe : va_A (WOu cI cZ h1 o1 o2 o3 o4 o5 o6 on ev cA wA rA xA tA gA) s.heap.size = A at hD ⊢
  have hA : ∀ q : Nat, s.heap.size ≤ q → A q := fun q h => by rw [← hAe]; exact Or.inr h
  have hS : va_S A s.heap s.heap [] := va_S.rf
  have hP : va_P (dC, dI0) vwCl [(h1, .inr (1, [.ref o1, .ref o2, .ref o3, .ref o4, .ref o5, .ref o6, .int (nI on), .int (nI ev)])), (o1, .inl (cI, 7, .inl cA)), (o2, .inl (cI, 128, .inl wA)), (o3, .inl (cI, 128, .inl rA)), (o4, .inl (cI, 128, .inl xA)), (o5, .inl (cI, 49, .inl tA)), (o6, .inl (cI, 896, .inl gA))] s.heap := hP
  have hD : va_D A [(h1, .inr (1, [.ref o1, .ref o2, .ref o3, .ref o4, .ref o5, .ref o6, .int (nI on), .int (nI ev)])), (o1, .inl (cI, 7, .inl cA)), (o2, .inl (cI, 128, .inl wA)), (o3, .inl (cI, 128, .inl rA)), (o4, .inl (cI, 128, .inl xA)), (o5, .inl (cI, 49, .inl tA)), (o6, .inl (cI, 896, .inl gA))] := hD
  have hl := lv_entry ([.ref h1, .int (nI p)]) (n := 3) (Nat.le_of_ble_eq_true rfl)
  rw [lg_entry_eq]
  generalize (lg_sl ([.ref h1, .int (nI p)]) ++ List.replicate (3 - (lg_sl ([.ref h1, .int (nI p)])).length) Slot.unset).toArray = ls at hl ⊢
  have hl : lv_has ls 3 [(0, .ref h1), (1, .int (nI p))] := hl
  obtain ⟨H, hH⟩ : ∃ H : Heap, H = s.heap := ⟨_, rfl⟩
  rw [← hH] at hP ⊢
  have hS : va_S A s.heap H [] := by rw [hH]; exact hS
  refine w_gen (fun Q hQ => ?_)
  have hin_X1 : ∀ w ∈ wsX10, w ∈ wsX1_nameInAllWays := by decide +kernel
  have hf36 := hts (.fieldLink RX1 36 "HatNames$Outlook" "size" "I") (by decide +kernel)
  have hf26 := hts (.fieldLink RX1 26 "HatNames$Outlook" "through" "[I") (by decide +kernel)
  obtain ⟨ho7, hev, hev7, hcc⟩ := id hO
  have hwl := onS_le cs ho7 ev
  refine lv_iconst (v := nI 0) hx hb dX1_nameInAllWays_0 (by decide) ?_
  refine lv_istore_n (lv' := [(2, .int (nI 0)), (0, .ref h1), (1, .int (nI p))]) hx hb dX1_nameInAllWays_1 rfl hl (by decide) rfl (fun ls hl => ?_)
  have L2 : ∀ (fu : Nat) (i : Nat), i ≤ on → fF (fun q => decide (0 < onS cs on ev ∧ TH p q = onS cs on ev)) on 0 = fF (fun q => decide (0 < onS cs on ev ∧ TH p q = onS cs on ev)) (on - i) i → on - i < fu → ∀ (H : Heap) (locs : List Loc), va_P (dC, dI0) vwCl [(h1, .inr (1, [.ref o1, .ref o2, .ref o3, .ref o4, .ref o5, .ref o6, .int (nI on), .int (nI ev)])), (o1, .inl (cI, 7, .inl cA)), (o2, .inl (cI, 128, .inl wA)), (o3, .inl (cI, 128, .inl rA)), (o4, .inl (cI, 128, .inl xA)), (o5, .inl (cI, 49, .inl tA)), (o6, .inl (cI, 896, .inl gA))] H → va_D A [(h1, .inr (1, [.ref o1, .ref o2, .ref o3, .ref o4, .ref o5, .ref o6, .int (nI on), .int (nI ev)])), (o1, .inl (cI, 7, .inl cA)), (o2, .inl (cI, 128, .inl wA)), (o3, .inl (cI, 128, .inl rA)), (o4, .inl (cI, 128, .inl xA)), (o5, .inl (cI, 49, .inl tA)), (o6, .inl (cI, 896, .inl gA))] → va_S A s.heap H locs → ∀ (ls : Array Slot), lv_has ls 3 [(0, .ref h1), (1, .int (nI p)), (2, .int (nI i))] → W prg l env ({ frames := 1, cells := 0, slots := 0, locals := 21 } : Room) s m ([.ref h1, .int (nI p)] : List Value).toArray below meth c H locs 0 0 Q (F0 m 2 ls []) := by
    intro fu
    induction fu with
    | zero => intro i hi ht hmu; exact absurd hmu (Nat.not_lt_zero _)
    | succ fu ih2 =>
      intro i hi ht hmu2 H locs hP hD hS ls hl
      refine lv_iload_n hx hb dX1_nameInAllWays_2 rfl (lv_at hl 2 rfl) ?_
      refine lv_aload_n hx hb dX1_nameInAllWays_3 rfl (lv_at hl 0 rfl) ?_
      refine va_get (D := (dC, dI0)) (ci := 1) (v := .int (nI on)) (C := RX1) (T := TX1) (N := 8) hx hb hts hin_X1 hown hK hP 0 rfl rfl 6 (by decide) hf36 (fun _ h9 => h9) rfl dX1_nameInAllWays_4 ?_
      refine lv_icmp_ge (tgt := 42) hx hb dX1_nameInAllWays_7 (by decide) (fun c7 => ?_) (fun c7 => ?_)
      ·
        have c7 : on ≤ i := (nI_leI (a := on) (b := i) (by omega) (by omega)).mp c7
        refine lv_iconst (v := (-1)) hx hb dX1_nameInAllWays_42 (by decide) ?_
        subst hQ
        have hP9 : va_P (dC, dI0) vwCl [(h1, .inr (1, [.ref o1, .ref o2, .ref o3, .ref o4, .ref o5, .ref o6, .int (nI on), .int (nI ev)])), (o1, .inl (cI, 7, .inl cA)), (o2, .inl (cI, 128, .inl wA)), (o3, .inl (cI, 128, .inl rA)), (o4, .inl (cI, 128, .inl xA)), (o5, .inl (cI, 49, .inl tA)), (o6, .inl (cI, 896, .inl gA))] H := hP
        have hD9 : va_D A [(h1, .inr (1, [.ref o1, .ref o2, .ref o3, .ref o4, .ref o5, .ref o6, .int (nI on), .int (nI ev)])), (o1, .inl (cI, 7, .inl cA)), (o2, .inl (cI, 128, .inl wA)), (o3, .inl (cI, 128, .inl rA)), (o4, .inl (cI, 128, .inl xA)), (o5, .inl (cI, 49, .inl tA)), (o6, .inl (cI, 896, .inl gA))] := hD
        exact W.iret (v := (-1)) hx hb hr (fun t9 ht9 hW9 => ⟨⟨(-1), (), rfl, by rw [ht, fF_e (by omega)]; rfl, by rw [ht9]; exact hP9, va_K.moved hW9.alike hK, hD9⟩, hS.F ht9⟩) hS.2.2 dX1_nameInAllWays_43
      have c7 : ¬ on ≤ i := fun z => c7 ((nI_leI (a := on) (b := i) (by omega) (by omega)).mpr z)
      refine lv_aload_n hx hb dX1_nameInAllWays_10 rfl (lv_at hl 0 rfl) ?_
      have hPc := hP.sub (ws' := [(h1, .inr (1, [.ref o1, .ref o2, .ref o3, .ref o4, .ref o5, .ref o6, .int (nI on), .int (nI ev)])), (o1, .inl (cI, 7, .inl cA)), (o2, .inl (cI, 128, .inl wA)), (o3, .inl (cI, 128, .inl rA)), (o4, .inl (cI, 128, .inl xA)), (o5, .inl (cI, 49, .inl tA)), (o6, .inl (cI, 896, .inl gA))]) [0, 1, 2, 3, 4, 5, 6] rfl
      have hDc := hD.sub (ws' := [(h1, .inr (1, [.ref o1, .ref o2, .ref o3, .ref o4, .ref o5, .ref o6, .int (nI on), .int (nI ev)])), (o1, .inl (cI, 7, .inl cA)), (o2, .inl (cI, 128, .inl wA)), (o3, .inl (cI, 128, .inl rA)), (o4, .inl (cI, 128, .inl xA)), (o5, .inl (cI, 49, .inl tA)), (o6, .inl (cI, 896, .inl gA))]) [0, 1, 2, 3, 4, 5, 6] (by decide) rfl
      have hFc := va_free (wc := [(h1, .inr (1, [.ref o1, .ref o2, .ref o3, .ref o4, .ref o5, .ref o6, .int (nI on), .int (nI ev)])), (o1, .inl (cI, 7, .inl cA)), (o2, .inl (cI, 128, .inl wA)), (o3, .inl (cI, 128, .inl rA)), (o4, .inl (cI, 128, .inl xA)), (o5, .inl (cI, 49, .inl tA)), (o6, .inl (cI, 896, .inl gA))]) hD hS hA [0, 1, 2, 3, 4, 5, 6] rfl
      refine va_calli (va_runV (As := []) (rest := []) ⟨hx, hb, hml, hown, hts⟩ (KX1_wayCount l dC dI0 cI cZ h1 o1 o2 o3 o4 o5 o6 on ev cA wA rA xA tA gA H.size cs (by first | assumption | omega) (by first | assumption | omega)) (cwV 0 hts gX1_nameInAllWays_X1_wayCount rfl rfl rfl (by decide +kernel) ⟨Nat.le_of_ble_eq_true rfl, Nat.le_of_ble_eq_true rfl⟩) ⟨fun a U g mk q => by obtain ⟨q0, q1, qP, qK, qD⟩ := q; exact ⟨q0, q1, qP, va_K.moved (u := U) (U := U.calling g mk a) (Vm.Alike.refl U.vm) qK, qD⟩, va_recv hK hPc (ci := 1) (q0 := 0) rfl rfl, fun U hU hW => ⟨rfl, by rw [hU], by rw [hU]; exact hPc, va_K.moved hW.alike hK, hDc.weaken (fun _ _ _ _ => trivial)⟩⟩ rfl rfl hl.1 rfl (lv_room (Nat.le_of_ble_eq_true rfl)) dX1_nameInAllWays_11 ⟨Nat.le_of_ble_eq_true rfl, Nat.le_of_ble_eq_true rfl⟩) hS (fun q _ h => hFc q h) hFc (fun r11 u11 t7 H1 locs ht7 hvm7 hw11 hB hz1 hk1 hS => ?_)
      obtain ⟨hP1, hK1, hD1⟩ := hB
      rw [ht7] at hP1
      try dsimp only at hw11 hP1 hD1
      obtain ⟨hP, hD⟩ := va_join (wr := []) (w1 := [(h1, .inr (1, [.ref o1, .ref o2, .ref o3, .ref o4, .ref o5, .ref o6, .int (nI on), .int (nI ev)])), (o1, .inl (cI, 7, .inl cA)), (o2, .inl (cI, 128, .inl wA)), (o3, .inl (cI, 128, .inl rA)), (o4, .inl (cI, 128, .inl xA)), (o5, .inl (cI, 49, .inl tA)), (o6, .inl (cI, 896, .inl gA))]) hP hD [0, 1, 2, 3, 4, 5, 6] [] rfl rfl (by decide) (by decide) hk1 hFc hP1 hD1
      generalize H1 = H at hP hS ⊢
      have hP := hP.sub (ws' := [(h1, .inr (1, [.ref o1, .ref o2, .ref o3, .ref o4, .ref o5, .ref o6, .int (nI on), .int (nI ev)])), (o1, .inl (cI, 7, .inl cA)), (o2, .inl (cI, 128, .inl wA)), (o3, .inl (cI, 128, .inl rA)), (o4, .inl (cI, 128, .inl xA)), (o5, .inl (cI, 49, .inl tA)), (o6, .inl (cI, 896, .inl gA))]) [0, 1, 2, 3, 4, 5, 6] rfl
      have hD := hD.sub (ws' := [(h1, .inr (1, [.ref o1, .ref o2, .ref o3, .ref o4, .ref o5, .ref o6, .int (nI on), .int (nI ev)])), (o1, .inl (cI, 7, .inl cA)), (o2, .inl (cI, 128, .inl wA)), (o3, .inl (cI, 128, .inl rA)), (o4, .inl (cI, 128, .inl xA)), (o5, .inl (cI, 49, .inl tA)), (o6, .inl (cI, 896, .inl gA))]) [0, 1, 2, 3, 4, 5, 6] (by decide) rfl
      obtain rfl : r11 = nI (onS cs on ev) := hw11
      refine lv_if_le (tgt := 36) hx hb dX1_nameInAllWays_14 (by decide) (fun c14 => ?_) (fun c14 => ?_)
      ·
        have c14 : (onS cs on ev) ≤ 0 := (nI_leI (a := (onS cs on ev)) (b := 0) (by omega) (by omega)).mp c14
        refine lv_iinc (v := nI (i + 1)) (lv' := [(2, .int (nI (i + 1))), (0, .ref h1), (1, .int (nI p))]) hx hb dX1_nameInAllWays_36 hl (k := 2) rfl (show nI i + Int32.ofInt 1 = nI (i + 1) from nI_add _ _) (by decide) rfl (fun ls hl => ?_)
        refine lv_goto (tgt := 2) hx hb dX1_nameInAllWays_39 (by decide) ?_
        exact ih2 (i + 1) (by omega) (ht.trans (fF_f (by omega) (decide_eq_false (fun z => by omega)))) (by omega) _ _ hP hD hS ls (lv_sub hl [1, 2, 0] rfl)
      have c14 : ¬ (onS cs on ev) ≤ 0 := fun z => c14 ((nI_leI (a := (onS cs on ev)) (b := 0) (by omega) (by omega)).mpr z)
      refine lv_aload_n hx hb dX1_nameInAllWays_17 rfl (lv_at hl 0 rfl) ?_
      refine va_get (D := (dC, dI0)) (ci := 1) (v := .ref o5) (C := RX1) (T := TX1) (N := 8) hx hb hts hin_X1 hown hK hP 0 rfl rfl 4 (by decide) hf26 (fun _ h9 => h9) rfl dX1_nameInAllWays_18 ?_
      refine lv_iload_n hx hb dX1_nameInAllWays_21 rfl (lv_at hl 1 rfl) ?_
      refine lv_iload_n hx hb dX1_nameInAllWays_22 rfl (lv_at hl 2 rfl) ?_
      have hPc := hP.sub (ws' := []) [] rfl
      have hDc := hD.sub (ws' := []) [] (by decide) rfl
      have hFc := va_free (wc := []) hD hS hA [] rfl
      refine va_calli (va_runS (As := [.int (nI p), .int (nI i)]) (rest := [.ref o5]) ⟨hx, hb, hml, hown, hts⟩ (KX1_cell l dC dI0 cI cZ  H.size p i) (va_cwS 2 hts gX1_nameInAllWays_X1_cell rfl rfl rfl (by decide +kernel) ⟨Nat.le_of_ble_eq_true rfl, Nat.le_of_ble_eq_true rfl⟩) ⟨fun a U g mk q => by obtain ⟨q0, q1, qP, qK, qD⟩ := q; exact ⟨q0, q1, qP, va_K.moved (u := U) (U := U.calling g mk a) (Vm.Alike.refl U.vm) qK, qD⟩, fun U hU hW => ⟨rfl, by rw [hU], by rw [hU]; exact hPc, va_K.moved hW.alike hK, hDc.weaken (fun _ _ _ _ => trivial)⟩⟩ rfl rfl hl.1 rfl (lv_room (Nat.le_of_ble_eq_true rfl)) dX1_nameInAllWays_23 ⟨Nat.le_of_ble_eq_true rfl, Nat.le_of_ble_eq_true rfl⟩) hS (fun q _ h => hFc q h) hFc (fun r23 u23 t7 H1 locs ht7 hvm7 hw23 hB hz1 hk1 hS => ?_)
      obtain ⟨hP1, hK1, hD1⟩ := hB
      rw [ht7] at hP1
      try dsimp only at hw23 hP1 hD1
      obtain ⟨hP, hD⟩ := va_join (wr := [(h1, .inr (1, [.ref o1, .ref o2, .ref o3, .ref o4, .ref o5, .ref o6, .int (nI on), .int (nI ev)])), (o1, .inl (cI, 7, .inl cA)), (o2, .inl (cI, 128, .inl wA)), (o3, .inl (cI, 128, .inl rA)), (o4, .inl (cI, 128, .inl xA)), (o5, .inl (cI, 49, .inl tA)), (o6, .inl (cI, 896, .inl gA))]) (w1 := []) hP hD [] [0, 1, 2, 3, 4, 5, 6] rfl rfl (by decide) (by decide) hk1 hFc hP1 hD1
      generalize H1 = H at hP hS ⊢
      have hP := hP.sub (ws' := [(h1, .inr (1, [.ref o1, .ref o2, .ref o3, .ref o4, .ref o5, .ref o6, .int (nI on), .int (nI ev)])), (o1, .inl (cI, 7, .inl cA)), (o2, .inl (cI, 128, .inl wA)), (o3, .inl (cI, 128, .inl rA)), (o4, .inl (cI, 128, .inl xA)), (o5, .inl (cI, 49, .inl tA)), (o6, .inl (cI, 896, .inl gA))]) [0, 1, 2, 3, 4, 5, 6] rfl
      have hD := hD.sub (ws' := [(h1, .inr (1, [.ref o1, .ref o2, .ref o3, .ref o4, .ref o5, .ref o6, .int (nI on), .int (nI ev)])), (o1, .inl (cI, 7, .inl cA)), (o2, .inl (cI, 128, .inl wA)), (o3, .inl (cI, 128, .inl rA)), (o4, .inl (cI, 128, .inl xA)), (o5, .inl (cI, 49, .inl tA)), (o6, .inl (cI, 896, .inl gA))]) [0, 1, 2, 3, 4, 5, 6] (by decide) rfl
      obtain rfl : r23 = nI (p * 7 + i) := hw23
      have hTi := hT p i hp (by omega)
      refine va_iald hx hb hK hP 5 0 rfl rfl (vp_in_nI (by omega) (by decide)) dX1_nameInAllWays_26 ?_
      refine lv_topi (fun x26 e26 => ?_)
      rw [nI_clamp (n := p * 7 + i) (by omega)] at e26
      obtain rfl : x26 = nI (TH p i) := e26.trans hTi.1
      refine lv_aload_n hx hb dX1_nameInAllWays_27 rfl (lv_at hl 0 rfl) ?_
      have hPc := hP.sub (ws' := [(h1, .inr (1, [.ref o1, .ref o2, .ref o3, .ref o4, .ref o5, .ref o6, .int (nI on), .int (nI ev)])), (o1, .inl (cI, 7, .inl cA)), (o2, .inl (cI, 128, .inl wA)), (o3, .inl (cI, 128, .inl rA)), (o4, .inl (cI, 128, .inl xA)), (o5, .inl (cI, 49, .inl tA)), (o6, .inl (cI, 896, .inl gA))]) [0, 1, 2, 3, 4, 5, 6] rfl
      have hDc := hD.sub (ws' := [(h1, .inr (1, [.ref o1, .ref o2, .ref o3, .ref o4, .ref o5, .ref o6, .int (nI on), .int (nI ev)])), (o1, .inl (cI, 7, .inl cA)), (o2, .inl (cI, 128, .inl wA)), (o3, .inl (cI, 128, .inl rA)), (o4, .inl (cI, 128, .inl xA)), (o5, .inl (cI, 49, .inl tA)), (o6, .inl (cI, 896, .inl gA))]) [0, 1, 2, 3, 4, 5, 6] (by decide) rfl
      have hFc := va_free (wc := [(h1, .inr (1, [.ref o1, .ref o2, .ref o3, .ref o4, .ref o5, .ref o6, .int (nI on), .int (nI ev)])), (o1, .inl (cI, 7, .inl cA)), (o2, .inl (cI, 128, .inl wA)), (o3, .inl (cI, 128, .inl rA)), (o4, .inl (cI, 128, .inl xA)), (o5, .inl (cI, 49, .inl tA)), (o6, .inl (cI, 896, .inl gA))]) hD hS hA [0, 1, 2, 3, 4, 5, 6] rfl
      refine va_calli (va_runV (As := []) (rest := [.int (nI (TH p i))]) ⟨hx, hb, hml, hown, hts⟩ (KX1_wayCount l dC dI0 cI cZ h1 o1 o2 o3 o4 o5 o6 on ev cA wA rA xA tA gA H.size cs (by first | assumption | omega) (by first | assumption | omega)) (cwV 0 hts gX1_nameInAllWays_X1_wayCount rfl rfl rfl (by decide +kernel) ⟨Nat.le_of_ble_eq_true rfl, Nat.le_of_ble_eq_true rfl⟩) ⟨fun a U g mk q => by obtain ⟨q0, q1, qP, qK, qD⟩ := q; exact ⟨q0, q1, qP, va_K.moved (u := U) (U := U.calling g mk a) (Vm.Alike.refl U.vm) qK, qD⟩, va_recv hK hPc (ci := 1) (q0 := 0) rfl rfl, fun U hU hW => ⟨rfl, by rw [hU], by rw [hU]; exact hPc, va_K.moved hW.alike hK, hDc.weaken (fun _ _ _ _ => trivial)⟩⟩ rfl rfl hl.1 rfl (lv_room (Nat.le_of_ble_eq_true rfl)) dX1_nameInAllWays_28 ⟨Nat.le_of_ble_eq_true rfl, Nat.le_of_ble_eq_true rfl⟩) hS (fun q _ h => hFc q h) hFc (fun r28 u28 t7 H1 locs ht7 hvm7 hw28 hB hz1 hk1 hS => ?_)
      obtain ⟨hP1, hK1, hD1⟩ := hB
      rw [ht7] at hP1
      try dsimp only at hw28 hP1 hD1
      obtain ⟨hP, hD⟩ := va_join (wr := []) (w1 := [(h1, .inr (1, [.ref o1, .ref o2, .ref o3, .ref o4, .ref o5, .ref o6, .int (nI on), .int (nI ev)])), (o1, .inl (cI, 7, .inl cA)), (o2, .inl (cI, 128, .inl wA)), (o3, .inl (cI, 128, .inl rA)), (o4, .inl (cI, 128, .inl xA)), (o5, .inl (cI, 49, .inl tA)), (o6, .inl (cI, 896, .inl gA))]) hP hD [0, 1, 2, 3, 4, 5, 6] [] rfl rfl (by decide) (by decide) hk1 hFc hP1 hD1
      generalize H1 = H at hP hS ⊢
      have hP := hP.sub (ws' := [(h1, .inr (1, [.ref o1, .ref o2, .ref o3, .ref o4, .ref o5, .ref o6, .int (nI on), .int (nI ev)])), (o1, .inl (cI, 7, .inl cA)), (o2, .inl (cI, 128, .inl wA)), (o3, .inl (cI, 128, .inl rA)), (o4, .inl (cI, 128, .inl xA)), (o5, .inl (cI, 49, .inl tA)), (o6, .inl (cI, 896, .inl gA))]) [0, 1, 2, 3, 4, 5, 6] rfl
      have hD := hD.sub (ws' := [(h1, .inr (1, [.ref o1, .ref o2, .ref o3, .ref o4, .ref o5, .ref o6, .int (nI on), .int (nI ev)])), (o1, .inl (cI, 7, .inl cA)), (o2, .inl (cI, 128, .inl wA)), (o3, .inl (cI, 128, .inl rA)), (o4, .inl (cI, 128, .inl xA)), (o5, .inl (cI, 49, .inl tA)), (o6, .inl (cI, 896, .inl gA))]) [0, 1, 2, 3, 4, 5, 6] (by decide) rfl
      obtain rfl : r28 = nI (onS cs on ev) := hw28
      refine lv_icmp_ne (tgt := 36) hx hb dX1_nameInAllWays_31 (by decide) (fun c31 => ?_) (fun c31 => ?_)
      ·
        have c31 : ¬ (TH p i) = (onS cs on ev) := fun z => c31 ((nI_eq (a := (TH p i)) (b := (onS cs on ev)) (by omega) (by omega)).mpr z)
        refine lv_iinc (v := nI (i + 1)) (lv' := [(2, .int (nI (i + 1))), (0, .ref h1), (1, .int (nI p))]) hx hb dX1_nameInAllWays_36 hl (k := 2) rfl (show nI i + Int32.ofInt 1 = nI (i + 1) from nI_add _ _) (by decide) rfl (fun ls hl => ?_)
        refine lv_goto (tgt := 2) hx hb dX1_nameInAllWays_39 (by decide) ?_
        exact ih2 (i + 1) (by omega) (ht.trans (fF_f (by omega) (decide_eq_false (fun z => by omega)))) (by omega) _ _ hP hD hS ls (lv_sub hl [1, 2, 0] rfl)
      have c31 : (TH p i) = (onS cs on ev) := (nI_eq (a := (TH p i)) (b := (onS cs on ev)) (by omega) (by omega)).mp c31
      refine lv_iload_n hx hb dX1_nameInAllWays_34 rfl (lv_at hl 2 rfl) ?_
      subst hQ
      have hP9 : va_P (dC, dI0) vwCl [(h1, .inr (1, [.ref o1, .ref o2, .ref o3, .ref o4, .ref o5, .ref o6, .int (nI on), .int (nI ev)])), (o1, .inl (cI, 7, .inl cA)), (o2, .inl (cI, 128, .inl wA)), (o3, .inl (cI, 128, .inl rA)), (o4, .inl (cI, 128, .inl xA)), (o5, .inl (cI, 49, .inl tA)), (o6, .inl (cI, 896, .inl gA))] H := hP
      have hD9 : va_D A [(h1, .inr (1, [.ref o1, .ref o2, .ref o3, .ref o4, .ref o5, .ref o6, .int (nI on), .int (nI ev)])), (o1, .inl (cI, 7, .inl cA)), (o2, .inl (cI, 128, .inl wA)), (o3, .inl (cI, 128, .inl rA)), (o4, .inl (cI, 128, .inl xA)), (o5, .inl (cI, 49, .inl tA)), (o6, .inl (cI, 896, .inl gA))] := hD
      exact W.iret (v := nI i) hx hb hr (fun t9 ht9 hW9 => ⟨⟨nI i, (), rfl, by rw [ht, fF_t (by omega) (decide_eq_true (by omega))]; rfl, by rw [ht9]; exact hP9, va_K.moved hW9.alike hK, hD9⟩, hS.F ht9⟩) hS.2.2 dX1_nameInAllWays_35
  exact L2 _ 0 (by omega) (rfl) (Nat.lt_succ_self _) _ _ hP hD hS ls (lv_sub hl [1, 2, 0] rfl)

set_option maxHeartbeats 4000000 in
set_option maxRecDepth 100000 in
theorem KX1_barForOneWay (l : Launch) (dC : Nat → ClassId) (dI0 : Nat → Nat → Nat) (cI cZ : ClassId) (h1 : Nat) (o1 : Nat) (o2 : Nat) (o3 : Nat) (o4 : Nat) (o5 : Nat) (o6 : Nat) (on : Nat) (ev : Nat) (cA : Nat → Int32) (wA : Nat → Int32) (rA : Nat → Int32) (xA : Nat → Int32) (tA : Nat → Int32) (gA : Nat → Int32) (sz : Nat) (cs : Nat → Nat) (TH : Nat → Nat → Nat) (hO : OuR on ev cA cs) (hW : ∀ T, T ≤ ev → wA T = nI (onS cs on T)) (hT : ∀ p q, p < on → q < on → tA (p * 7 + q) = nI (TH p q) ∧ TH p q ≤ onS cs on ev) : Met l yX1_barForOneWay wsX1_barForOneWay ({ frames := 1, cells := 0, slots := 0, locals := 21 } : Room) (va_Pc [.ref h1] (fun U => U.heap.size = sz ∧ va_P (dC, dI0) vwCl (WOu cI cZ h1 o1 o2 o3 o4 o5 o6 on ev cA wA rA xA tA gA) U.heap ∧ va_K (dC, dI0) vwCl [(cI, .int), (cZ, .boolean)] U ∧ va_D (fun _ => True) (WOu cI cZ h1 o1 o2 o3 o4 o5 o6 on ev cA wA rA xA tA gA))) (va_Qi (fun (r : Int32) (u : Unit) => r = dI (bwS cs TH (onS cs on ev) on)) (fun (u : Unit) (t : State) => va_P (dC, dI0) vwCl (WOu cI cZ h1 o1 o2 o3 o4 o5 o6 on ev cA wA rA xA tA gA) t.heap ∧ va_K (dC, dI0) vwCl [(cI, .int), (cZ, .boolean)] t ∧ va_D (va_A (WOu cI cZ h1 o1 o2 o3 o4 o5 o6 on ev cA wA rA xA tA gA) sz) (WOu cI cZ h1 o1 o2 o3 o4 o5 o6 on ev cA wA rA xA tA gA)) (va_A (WOu cI cZ h1 o1 o2 o3 o4 o5 o6 on ev cA wA rA xA tA gA) sz)) 0 0 (va_A (WOu cI cZ h1 o1 o2 o3 o4 o5 o6 on ev cA wA rA xA tA gA) sz) := by
  refine Met.ofW (cc := cX1_barForOneWay) (maxL := 3) (ret := (some .int)) (by decide) rfl ?_
  intro prg env s m args below meth c s₁ B hml hv
  obtain ⟨rfl, hsz, hP, hK, hD0⟩ := hv
  have hx := B.exec
  have hb := B.bytes
  have hr := B.returns
  have hts := atoms_spec (ws := wsX1_barForOneWay) B.pre
  have hown : s.vm.findClass RX1 = some m.cls := findClass_of_methodNamed B.named
  have hlocks := B.notSynchronized
  subst hsz
  have hD := hD0.self (sz := s.heap.size)
  generalize hAe : va_A (WOu cI cZ h1 o1 o2 o3 o4 o5 o6 on ev cA wA rA xA tA gA) s.heap.size = A at hD ⊢
  have hA : ∀ q : Nat, s.heap.size ≤ q → A q := fun q h => by rw [← hAe]; exact Or.inr h
  have hS : va_S A s.heap s.heap [] := va_S.rf
  have hP : va_P (dC, dI0) vwCl [(h1, .inr (1, [.ref o1, .ref o2, .ref o3, .ref o4, .ref o5, .ref o6, .int (nI on), .int (nI ev)])), (o1, .inl (cI, 7, .inl cA)), (o2, .inl (cI, 128, .inl wA)), (o3, .inl (cI, 128, .inl rA)), (o4, .inl (cI, 128, .inl xA)), (o5, .inl (cI, 49, .inl tA)), (o6, .inl (cI, 896, .inl gA))] s.heap := hP
  have hD : va_D A [(h1, .inr (1, [.ref o1, .ref o2, .ref o3, .ref o4, .ref o5, .ref o6, .int (nI on), .int (nI ev)])), (o1, .inl (cI, 7, .inl cA)), (o2, .inl (cI, 128, .inl wA)), (o3, .inl (cI, 128, .inl rA)), (o4, .inl (cI, 128, .inl xA)), (o5, .inl (cI, 49, .inl tA)), (o6, .inl (cI, 896, .inl gA))] := hD
  have hl := lv_entry ([.ref h1]) (n := 3) (Nat.le_of_ble_eq_true rfl)
  rw [lg_entry_eq]
  generalize (lg_sl ([.ref h1]) ++ List.replicate (3 - (lg_sl ([.ref h1])).length) Slot.unset).toArray = ls at hl ⊢
  have hl : lv_has ls 3 [(0, .ref h1)] := hl
  obtain ⟨H, hH⟩ : ∃ H : Heap, H = s.heap := ⟨_, rfl⟩
  rw [← hH] at hP ⊢
  have hS : va_S A s.heap H [] := by rw [hH]; exact hS
  refine w_gen (fun Q hQ => ?_)
  have hin_X1 : ∀ w ∈ wsX10, w ∈ wsX1_barForOneWay := by decide +kernel
  have hf36 := hts (.fieldLink RX1 36 "HatNames$Outlook" "size" "I") (by decide +kernel)
  have hf11 := hts (.fieldLink RX1 11 "HatNames$Outlook" "choices" "[I") (by decide +kernel)
  have hf26 := hts (.fieldLink RX1 26 "HatNames$Outlook" "through" "[I") (by decide +kernel)
  obtain ⟨ho7, hev, hev7, hcc⟩ := id hO
  have hwl := onS_le cs ho7 ev
  refine lv_iconst (v := nI 0) hx hb dX1_barForOneWay_0 (by decide) ?_
  refine lv_istore_n (lv' := [(1, .int (nI 0)), (0, .ref h1)]) hx hb dX1_barForOneWay_1 rfl hl (by decide) rfl (fun ls hl => ?_)
  have L2 : ∀ (fu : Nat) (p : Nat), p ≤ on → bwF cs TH (onS cs on ev) on = fF (fun k => decide ((cs (k / on)).testBit (k % on) = true ∧ onS cs on ev - TH (k / on) (k % on) = 1)) (on * on - p * on) (p * on) → on - p < fu → ∀ (H : Heap) (locs : List Loc), va_P (dC, dI0) vwCl [(h1, .inr (1, [.ref o1, .ref o2, .ref o3, .ref o4, .ref o5, .ref o6, .int (nI on), .int (nI ev)])), (o1, .inl (cI, 7, .inl cA)), (o2, .inl (cI, 128, .inl wA)), (o3, .inl (cI, 128, .inl rA)), (o4, .inl (cI, 128, .inl xA)), (o5, .inl (cI, 49, .inl tA)), (o6, .inl (cI, 896, .inl gA))] H → va_D A [(h1, .inr (1, [.ref o1, .ref o2, .ref o3, .ref o4, .ref o5, .ref o6, .int (nI on), .int (nI ev)])), (o1, .inl (cI, 7, .inl cA)), (o2, .inl (cI, 128, .inl wA)), (o3, .inl (cI, 128, .inl rA)), (o4, .inl (cI, 128, .inl xA)), (o5, .inl (cI, 49, .inl tA)), (o6, .inl (cI, 896, .inl gA))] → va_S A s.heap H locs → ∀ (ls : Array Slot), lv_has ls 3 [(0, .ref h1), (1, .int (nI p))] → W prg l env ({ frames := 1, cells := 0, slots := 0, locals := 21 } : Room) s m ([.ref h1] : List Value).toArray below meth c H locs 0 0 Q (F0 m 2 ls []) := by
    intro fu
    induction fu with
    | zero => intro p hp ht hmu; exact absurd hmu (Nat.not_lt_zero _)
    | succ fu ih2 =>
      intro p hp ht hmu2 H locs hP hD hS ls hl
      refine lv_iload_n hx hb dX1_barForOneWay_2 rfl (lv_at hl 1 rfl) ?_
      refine lv_aload_n hx hb dX1_barForOneWay_3 rfl (lv_at hl 0 rfl) ?_
      refine va_get (D := (dC, dI0)) (ci := 1) (v := .int (nI on)) (C := RX1) (T := TX1) (N := 8) hx hb hts hin_X1 hown hK hP 0 rfl rfl 6 (by decide) hf36 (fun _ h9 => h9) rfl dX1_barForOneWay_4 ?_
      refine lv_icmp_ge (tgt := 71) hx hb dX1_barForOneWay_7 (by decide) (fun c7 => ?_) (fun c7 => ?_)
      ·
        have c7 : on ≤ p := (nI_leI (a := on) (b := p) (by omega) (by omega)).mp c7
        refine lv_iconst (v := (-1)) hx hb dX1_barForOneWay_71 (by decide) ?_
        subst hQ
        have hP9 : va_P (dC, dI0) vwCl [(h1, .inr (1, [.ref o1, .ref o2, .ref o3, .ref o4, .ref o5, .ref o6, .int (nI on), .int (nI ev)])), (o1, .inl (cI, 7, .inl cA)), (o2, .inl (cI, 128, .inl wA)), (o3, .inl (cI, 128, .inl rA)), (o4, .inl (cI, 128, .inl xA)), (o5, .inl (cI, 49, .inl tA)), (o6, .inl (cI, 896, .inl gA))] H := hP
        have hD9 : va_D A [(h1, .inr (1, [.ref o1, .ref o2, .ref o3, .ref o4, .ref o5, .ref o6, .int (nI on), .int (nI ev)])), (o1, .inl (cI, 7, .inl cA)), (o2, .inl (cI, 128, .inl wA)), (o3, .inl (cI, 128, .inl rA)), (o4, .inl (cI, 128, .inl xA)), (o5, .inl (cI, 49, .inl tA)), (o6, .inl (cI, 896, .inl gA))] := hD
        exact W.iret (v := (-1)) hx hb hr (fun t9 ht9 hW9 => ⟨⟨(-1), (), rfl, by rw [bwS, ht, show p = on by omega, Nat.sub_self]; rfl, by rw [ht9]; exact hP9, va_K.moved hW9.alike hK, hD9⟩, hS.F ht9⟩) hS.2.2 dX1_barForOneWay_72
      have c7 : ¬ on ≤ p := fun z => c7 ((nI_leI (a := on) (b := p) (by omega) (by omega)).mpr z)
      refine lv_iconst (v := nI 0) hx hb dX1_barForOneWay_10 (by decide) ?_
      refine lv_istore_n (lv' := [(2, .int (nI 0)), (0, .ref h1), (1, .int (nI p))]) hx hb dX1_barForOneWay_11 rfl hl (by decide) rfl (fun ls hl => ?_)
      have L12 : ∀ (fu : Nat) (i : Nat), i ≤ on → bwF cs TH (onS cs on ev) on = fF (fun k => decide ((cs (k / on)).testBit (k % on) = true ∧ onS cs on ev - TH (k / on) (k % on) = 1)) (on * on - (p * on + i)) (p * on + i) → on - i < fu → ∀ (H : Heap) (locs : List Loc), va_P (dC, dI0) vwCl [(h1, .inr (1, [.ref o1, .ref o2, .ref o3, .ref o4, .ref o5, .ref o6, .int (nI on), .int (nI ev)])), (o1, .inl (cI, 7, .inl cA)), (o2, .inl (cI, 128, .inl wA)), (o3, .inl (cI, 128, .inl rA)), (o4, .inl (cI, 128, .inl xA)), (o5, .inl (cI, 49, .inl tA)), (o6, .inl (cI, 896, .inl gA))] H → va_D A [(h1, .inr (1, [.ref o1, .ref o2, .ref o3, .ref o4, .ref o5, .ref o6, .int (nI on), .int (nI ev)])), (o1, .inl (cI, 7, .inl cA)), (o2, .inl (cI, 128, .inl wA)), (o3, .inl (cI, 128, .inl rA)), (o4, .inl (cI, 128, .inl xA)), (o5, .inl (cI, 49, .inl tA)), (o6, .inl (cI, 896, .inl gA))] → va_S A s.heap H locs → ∀ (ls : Array Slot), lv_has ls 3 [(0, .ref h1), (1, .int (nI p)), (2, .int (nI i))] → W prg l env ({ frames := 1, cells := 0, slots := 0, locals := 21 } : Room) s m ([.ref h1] : List Value).toArray below meth c H locs 0 0 Q (F0 m 12 ls []) := by
        intro fu
        induction fu with
        | zero => intro i hi ht2 hmu; exact absurd hmu (Nat.not_lt_zero _)
        | succ fu ih12 =>
          intro i hi ht2 hmu12 H locs hP hD hS ls hl
          refine lv_iload_n hx hb dX1_barForOneWay_12 rfl (lv_at hl 2 rfl) ?_
          refine lv_aload_n hx hb dX1_barForOneWay_13 rfl (lv_at hl 0 rfl) ?_
          refine va_get (D := (dC, dI0)) (ci := 1) (v := .int (nI on)) (C := RX1) (T := TX1) (N := 8) hx hb hts hin_X1 hown hK hP 0 rfl rfl 6 (by decide) hf36 (fun _ h9 => h9) rfl dX1_barForOneWay_14 ?_
          refine lv_icmp_ge (tgt := 65) hx hb dX1_barForOneWay_17 (by decide) (fun c17 => ?_) (fun c17 => ?_)
          ·
            have c17 : on ≤ i := (nI_leI (a := on) (b := i) (by omega) (by omega)).mp c17
            refine lv_iinc (v := nI (p + 1)) (lv' := [(1, .int (nI (p + 1))), (0, .ref h1), (2, .int (nI i))]) hx hb dX1_barForOneWay_65 hl (k := 1) rfl (show nI p + Int32.ofInt 1 = nI (p + 1) from nI_add _ _) (by decide) rfl (fun ls hl => ?_)
            refine lv_goto (tgt := 2) hx hb dX1_barForOneWay_68 (by decide) ?_
            exact ih2 (p + 1) (by omega) (by rw [ht2, show i = on by omega, Nat.succ_mul]) (by omega) _ _ hP hD hS ls (lv_sub hl [1, 0] rfl)
          have c17 : ¬ on ≤ i := fun z => c17 ((nI_leI (a := on) (b := i) (by omega) (by omega)).mpr z)
          have hkd := kdiv (n := on) (p := p) (show i < on by omega)
          have hkl := klt (show p < on by omega) (show i < on by omega)
          refine lv_aload_n hx hb dX1_barForOneWay_20 rfl (lv_at hl 0 rfl) ?_
          refine va_get (D := (dC, dI0)) (ci := 1) (v := .ref o1) (C := RX1) (T := TX1) (N := 8) hx hb hts hin_X1 hown hK hP 0 rfl rfl 0 (by decide) hf11 (fun _ h9 => h9) rfl dX1_barForOneWay_21 ?_
          refine lv_iload_n hx hb dX1_barForOneWay_24 rfl (lv_at hl 1 rfl) ?_
          refine va_iald hx hb hK hP 1 0 rfl rfl (vp_in_nI (by omega) (by decide)) dX1_barForOneWay_25 ?_
          refine lv_topi (fun x25 e25 => ?_)
          rw [nI_clamp (n := p) (by omega)] at e25
          have hcv := (hcc p (by omega)).2
          obtain rfl : x25 = nI (cs p) := e25.trans (hcc p (by omega)).1
          refine lv_iload_n hx hb dX1_barForOneWay_26 rfl (lv_at hl 2 rfl) ?_
          have hPc := hP.sub (ws' := []) [] rfl
          have hDc := hD.sub (ws' := []) [] (by decide) rfl
          have hFc := va_free (wc := []) hD hS hA [] rfl
          refine va_calli (va_runS (As := [.int (nI (cs p)), .int (nI i)]) (rest := []) ⟨hx, hb, hml, hown, hts⟩ (KX1_isIn l dC dI0 cI cZ  H.size (cs p) i (by first | assumption | omega) (by first | assumption | omega)) (va_cwS 2 hts gX1_barForOneWay_X1_isIn rfl rfl rfl (by decide +kernel) ⟨Nat.le_of_ble_eq_true rfl, Nat.le_of_ble_eq_true rfl⟩) ⟨fun a U g mk q => by obtain ⟨q0, q1, qP, qK, qD⟩ := q; exact ⟨q0, q1, qP, va_K.moved (u := U) (U := U.calling g mk a) (Vm.Alike.refl U.vm) qK, qD⟩, fun U hU hW => ⟨rfl, by rw [hU], by rw [hU]; exact hPc, va_K.moved hW.alike hK, hDc.weaken (fun _ _ _ _ => trivial)⟩⟩ rfl rfl hl.1 rfl (lv_room (Nat.le_of_ble_eq_true rfl)) dX1_barForOneWay_27 ⟨Nat.le_of_ble_eq_true rfl, Nat.le_of_ble_eq_true rfl⟩) hS (fun q _ h => hFc q h) hFc (fun r27 u27 t7 H1 locs ht7 hvm7 hw27 hB hz1 hk1 hS => ?_)
          obtain ⟨hP1, hK1, hD1⟩ := hB
          rw [ht7] at hP1
          try dsimp only at hw27 hP1 hD1
          obtain ⟨hP, hD⟩ := va_join (wr := [(h1, .inr (1, [.ref o1, .ref o2, .ref o3, .ref o4, .ref o5, .ref o6, .int (nI on), .int (nI ev)])), (o1, .inl (cI, 7, .inl cA)), (o2, .inl (cI, 128, .inl wA)), (o3, .inl (cI, 128, .inl rA)), (o4, .inl (cI, 128, .inl xA)), (o5, .inl (cI, 49, .inl tA)), (o6, .inl (cI, 896, .inl gA))]) (w1 := []) hP hD [] [0, 1, 2, 3, 4, 5, 6] rfl rfl (by decide) (by decide) hk1 hFc hP1 hD1
          generalize H1 = H at hP hS ⊢
          have hP := hP.sub (ws' := [(h1, .inr (1, [.ref o1, .ref o2, .ref o3, .ref o4, .ref o5, .ref o6, .int (nI on), .int (nI ev)])), (o1, .inl (cI, 7, .inl cA)), (o2, .inl (cI, 128, .inl wA)), (o3, .inl (cI, 128, .inl rA)), (o4, .inl (cI, 128, .inl xA)), (o5, .inl (cI, 49, .inl tA)), (o6, .inl (cI, 896, .inl gA))]) [0, 1, 2, 3, 4, 5, 6] rfl
          have hD := hD.sub (ws' := [(h1, .inr (1, [.ref o1, .ref o2, .ref o3, .ref o4, .ref o5, .ref o6, .int (nI on), .int (nI ev)])), (o1, .inl (cI, 7, .inl cA)), (o2, .inl (cI, 128, .inl wA)), (o3, .inl (cI, 128, .inl rA)), (o4, .inl (cI, 128, .inl xA)), (o5, .inl (cI, 49, .inl tA)), (o6, .inl (cI, 896, .inl gA))]) [0, 1, 2, 3, 4, 5, 6] (by decide) rfl
          obtain rfl : r27 = bI ((cs p).testBit i) := hw27
          refine lv_if_eq (tgt := 59) hx hb dX1_barForOneWay_30 (by decide) (fun c30 => ?_) (fun c30 => ?_)
          ·
            have c30 : ((cs p).testBit i) = false := bI_0 c30
            refine lv_iinc (v := nI (i + 1)) (lv' := [(2, .int (nI (i + 1))), (0, .ref h1), (1, .int (nI p))]) hx hb dX1_barForOneWay_59 hl (k := 2) rfl (show nI i + Int32.ofInt 1 = nI (i + 1) from nI_add _ _) (by decide) rfl (fun ls hl => ?_)
            refine lv_goto (tgt := 12) hx hb dX1_barForOneWay_62 (by decide) ?_
            exact ih12 (i + 1) (by omega) (ht2.trans (fF_f hkl (decide_eq_false (fun z => by rw [hkd.1, hkd.2, c30] at z; exact absurd z.1 (by decide))))) (by omega) _ _ hP hD hS ls (lv_sub hl [1, 2, 0] rfl)
          have c30 : ((cs p).testBit i) = true := bI_n0 c30
          refine lv_aload_n hx hb dX1_barForOneWay_33 rfl (lv_at hl 0 rfl) ?_
          have hPc := hP.sub (ws' := [(h1, .inr (1, [.ref o1, .ref o2, .ref o3, .ref o4, .ref o5, .ref o6, .int (nI on), .int (nI ev)])), (o1, .inl (cI, 7, .inl cA)), (o2, .inl (cI, 128, .inl wA)), (o3, .inl (cI, 128, .inl rA)), (o4, .inl (cI, 128, .inl xA)), (o5, .inl (cI, 49, .inl tA)), (o6, .inl (cI, 896, .inl gA))]) [0, 1, 2, 3, 4, 5, 6] rfl
          have hDc := hD.sub (ws' := [(h1, .inr (1, [.ref o1, .ref o2, .ref o3, .ref o4, .ref o5, .ref o6, .int (nI on), .int (nI ev)])), (o1, .inl (cI, 7, .inl cA)), (o2, .inl (cI, 128, .inl wA)), (o3, .inl (cI, 128, .inl rA)), (o4, .inl (cI, 128, .inl xA)), (o5, .inl (cI, 49, .inl tA)), (o6, .inl (cI, 896, .inl gA))]) [0, 1, 2, 3, 4, 5, 6] (by decide) rfl
          have hFc := va_free (wc := [(h1, .inr (1, [.ref o1, .ref o2, .ref o3, .ref o4, .ref o5, .ref o6, .int (nI on), .int (nI ev)])), (o1, .inl (cI, 7, .inl cA)), (o2, .inl (cI, 128, .inl wA)), (o3, .inl (cI, 128, .inl rA)), (o4, .inl (cI, 128, .inl xA)), (o5, .inl (cI, 49, .inl tA)), (o6, .inl (cI, 896, .inl gA))]) hD hS hA [0, 1, 2, 3, 4, 5, 6] rfl
          refine va_calli (va_runV (As := []) (rest := []) ⟨hx, hb, hml, hown, hts⟩ (KX1_wayCount l dC dI0 cI cZ h1 o1 o2 o3 o4 o5 o6 on ev cA wA rA xA tA gA H.size cs (by first | assumption | omega) (by first | assumption | omega)) (cwV 0 hts gX1_barForOneWay_X1_wayCount rfl rfl rfl (by decide +kernel) ⟨Nat.le_of_ble_eq_true rfl, Nat.le_of_ble_eq_true rfl⟩) ⟨fun a U g mk q => by obtain ⟨q0, q1, qP, qK, qD⟩ := q; exact ⟨q0, q1, qP, va_K.moved (u := U) (U := U.calling g mk a) (Vm.Alike.refl U.vm) qK, qD⟩, va_recv hK hPc (ci := 1) (q0 := 0) rfl rfl, fun U hU hW => ⟨rfl, by rw [hU], by rw [hU]; exact hPc, va_K.moved hW.alike hK, hDc.weaken (fun _ _ _ _ => trivial)⟩⟩ rfl rfl hl.1 rfl (lv_room (Nat.le_of_ble_eq_true rfl)) dX1_barForOneWay_34 ⟨Nat.le_of_ble_eq_true rfl, Nat.le_of_ble_eq_true rfl⟩) hS (fun q _ h => hFc q h) hFc (fun r34 u34 t7 H1 locs ht7 hvm7 hw34 hB hz1 hk1 hS => ?_)
          obtain ⟨hP1, hK1, hD1⟩ := hB
          rw [ht7] at hP1
          try dsimp only at hw34 hP1 hD1
          obtain ⟨hP, hD⟩ := va_join (wr := []) (w1 := [(h1, .inr (1, [.ref o1, .ref o2, .ref o3, .ref o4, .ref o5, .ref o6, .int (nI on), .int (nI ev)])), (o1, .inl (cI, 7, .inl cA)), (o2, .inl (cI, 128, .inl wA)), (o3, .inl (cI, 128, .inl rA)), (o4, .inl (cI, 128, .inl xA)), (o5, .inl (cI, 49, .inl tA)), (o6, .inl (cI, 896, .inl gA))]) hP hD [0, 1, 2, 3, 4, 5, 6] [] rfl rfl (by decide) (by decide) hk1 hFc hP1 hD1
          generalize H1 = H at hP hS ⊢
          have hP := hP.sub (ws' := [(h1, .inr (1, [.ref o1, .ref o2, .ref o3, .ref o4, .ref o5, .ref o6, .int (nI on), .int (nI ev)])), (o1, .inl (cI, 7, .inl cA)), (o2, .inl (cI, 128, .inl wA)), (o3, .inl (cI, 128, .inl rA)), (o4, .inl (cI, 128, .inl xA)), (o5, .inl (cI, 49, .inl tA)), (o6, .inl (cI, 896, .inl gA))]) [0, 1, 2, 3, 4, 5, 6] rfl
          have hD := hD.sub (ws' := [(h1, .inr (1, [.ref o1, .ref o2, .ref o3, .ref o4, .ref o5, .ref o6, .int (nI on), .int (nI ev)])), (o1, .inl (cI, 7, .inl cA)), (o2, .inl (cI, 128, .inl wA)), (o3, .inl (cI, 128, .inl rA)), (o4, .inl (cI, 128, .inl xA)), (o5, .inl (cI, 49, .inl tA)), (o6, .inl (cI, 896, .inl gA))]) [0, 1, 2, 3, 4, 5, 6] (by decide) rfl
          obtain rfl : r34 = nI (onS cs on ev) := hw34
          refine lv_aload_n hx hb dX1_barForOneWay_37 rfl (lv_at hl 0 rfl) ?_
          refine va_get (D := (dC, dI0)) (ci := 1) (v := .ref o5) (C := RX1) (T := TX1) (N := 8) hx hb hts hin_X1 hown hK hP 0 rfl rfl 4 (by decide) hf26 (fun _ h9 => h9) rfl dX1_barForOneWay_38 ?_
          refine lv_iload_n hx hb dX1_barForOneWay_41 rfl (lv_at hl 1 rfl) ?_
          refine lv_iload_n hx hb dX1_barForOneWay_42 rfl (lv_at hl 2 rfl) ?_
          have hPc := hP.sub (ws' := []) [] rfl
          have hDc := hD.sub (ws' := []) [] (by decide) rfl
          have hFc := va_free (wc := []) hD hS hA [] rfl
          refine va_calli (va_runS (As := [.int (nI p), .int (nI i)]) (rest := [.ref o5, .int (nI (onS cs on ev))]) ⟨hx, hb, hml, hown, hts⟩ (KX1_cell l dC dI0 cI cZ  H.size p i) (va_cwS 2 hts gX1_barForOneWay_X1_cell rfl rfl rfl (by decide +kernel) ⟨Nat.le_of_ble_eq_true rfl, Nat.le_of_ble_eq_true rfl⟩) ⟨fun a U g mk q => by obtain ⟨q0, q1, qP, qK, qD⟩ := q; exact ⟨q0, q1, qP, va_K.moved (u := U) (U := U.calling g mk a) (Vm.Alike.refl U.vm) qK, qD⟩, fun U hU hW => ⟨rfl, by rw [hU], by rw [hU]; exact hPc, va_K.moved hW.alike hK, hDc.weaken (fun _ _ _ _ => trivial)⟩⟩ rfl rfl hl.1 rfl (lv_room (Nat.le_of_ble_eq_true rfl)) dX1_barForOneWay_43 ⟨Nat.le_of_ble_eq_true rfl, Nat.le_of_ble_eq_true rfl⟩) hS (fun q _ h => hFc q h) hFc (fun r43 u43 t7 H1 locs ht7 hvm7 hw43 hB hz1 hk1 hS => ?_)
          obtain ⟨hP1, hK1, hD1⟩ := hB
          rw [ht7] at hP1
          try dsimp only at hw43 hP1 hD1
          obtain ⟨hP, hD⟩ := va_join (wr := [(h1, .inr (1, [.ref o1, .ref o2, .ref o3, .ref o4, .ref o5, .ref o6, .int (nI on), .int (nI ev)])), (o1, .inl (cI, 7, .inl cA)), (o2, .inl (cI, 128, .inl wA)), (o3, .inl (cI, 128, .inl rA)), (o4, .inl (cI, 128, .inl xA)), (o5, .inl (cI, 49, .inl tA)), (o6, .inl (cI, 896, .inl gA))]) (w1 := []) hP hD [] [0, 1, 2, 3, 4, 5, 6] rfl rfl (by decide) (by decide) hk1 hFc hP1 hD1
          generalize H1 = H at hP hS ⊢
          have hP := hP.sub (ws' := [(h1, .inr (1, [.ref o1, .ref o2, .ref o3, .ref o4, .ref o5, .ref o6, .int (nI on), .int (nI ev)])), (o1, .inl (cI, 7, .inl cA)), (o2, .inl (cI, 128, .inl wA)), (o3, .inl (cI, 128, .inl rA)), (o4, .inl (cI, 128, .inl xA)), (o5, .inl (cI, 49, .inl tA)), (o6, .inl (cI, 896, .inl gA))]) [0, 1, 2, 3, 4, 5, 6] rfl
          have hD := hD.sub (ws' := [(h1, .inr (1, [.ref o1, .ref o2, .ref o3, .ref o4, .ref o5, .ref o6, .int (nI on), .int (nI ev)])), (o1, .inl (cI, 7, .inl cA)), (o2, .inl (cI, 128, .inl wA)), (o3, .inl (cI, 128, .inl rA)), (o4, .inl (cI, 128, .inl xA)), (o5, .inl (cI, 49, .inl tA)), (o6, .inl (cI, 896, .inl gA))]) [0, 1, 2, 3, 4, 5, 6] (by decide) rfl
          obtain rfl : r43 = nI (p * 7 + i) := hw43
          have hTi := hT p i (by omega) (by omega)
          refine va_iald hx hb hK hP 5 0 rfl rfl (vp_in_nI (by omega) (by decide)) dX1_barForOneWay_46 ?_
          refine lv_topi (fun x46 e46 => ?_)
          rw [nI_clamp (n := p * 7 + i) (by omega)] at e46
          obtain rfl : x46 = nI (TH p i) := e46.trans hTi.1
          refine lv_isub hx hb dX1_barForOneWay_47 ?_
          refine lv_topi (fun x47 e47 => ?_)
          obtain rfl : x47 = nI ((onS cs on ev) - (TH p i)) := e47.trans (pk_sub (by omega))
          refine lv_iconst (v := nI 1) hx hb dX1_barForOneWay_48 (by decide) ?_
          refine lv_icmp_ne (tgt := 59) hx hb dX1_barForOneWay_49 (by decide) (fun c49 => ?_) (fun c49 => ?_)
          ·
            have c49 : ¬ ((onS cs on ev) - (TH p i)) = 1 := fun z => c49 ((nI_eq (a := ((onS cs on ev) - (TH p i))) (b := 1) (by omega) (by omega)).mpr z)
            refine lv_iinc (v := nI (i + 1)) (lv' := [(2, .int (nI (i + 1))), (0, .ref h1), (1, .int (nI p))]) hx hb dX1_barForOneWay_59 hl (k := 2) rfl (show nI i + Int32.ofInt 1 = nI (i + 1) from nI_add _ _) (by decide) rfl (fun ls hl => ?_)
            refine lv_goto (tgt := 12) hx hb dX1_barForOneWay_62 (by decide) ?_
            exact ih12 (i + 1) (by omega) (ht2.trans (fF_f hkl (decide_eq_false (fun z => by rw [hkd.1, hkd.2] at z; exact c49 z.2)))) (by omega) _ _ hP hD hS ls (lv_sub hl [1, 2, 0] rfl)
          have c49 : ((onS cs on ev) - (TH p i)) = 1 := (nI_eq (a := ((onS cs on ev) - (TH p i))) (b := 1) (by omega) (by omega)).mp c49
          refine lv_bipush (v := nI 10) hx hb dX1_barForOneWay_52 (by decide) ?_
          refine lv_iload_n hx hb dX1_barForOneWay_54 rfl (lv_at hl 1 rfl) ?_
          refine lv_imul hx hb dX1_barForOneWay_55 ?_
          refine lv_topi (fun x55 e55 => ?_)
          obtain rfl : x55 = nI (10 * p) := e55.trans (pk_mul _ _)
          refine lv_iload_n hx hb dX1_barForOneWay_56 rfl (lv_at hl 2 rfl) ?_
          refine lv_iadd hx hb dX1_barForOneWay_57 ?_
          refine lv_topi (fun x57 e57 => ?_)
          obtain rfl : x57 = nI ((10 * p) + i) := e57.trans (nI_add _ _)
          subst hQ
          have hP9 : va_P (dC, dI0) vwCl [(h1, .inr (1, [.ref o1, .ref o2, .ref o3, .ref o4, .ref o5, .ref o6, .int (nI on), .int (nI ev)])), (o1, .inl (cI, 7, .inl cA)), (o2, .inl (cI, 128, .inl wA)), (o3, .inl (cI, 128, .inl rA)), (o4, .inl (cI, 128, .inl xA)), (o5, .inl (cI, 49, .inl tA)), (o6, .inl (cI, 896, .inl gA))] H := hP
          have hD9 : va_D A [(h1, .inr (1, [.ref o1, .ref o2, .ref o3, .ref o4, .ref o5, .ref o6, .int (nI on), .int (nI ev)])), (o1, .inl (cI, 7, .inl cA)), (o2, .inl (cI, 128, .inl wA)), (o3, .inl (cI, 128, .inl rA)), (o4, .inl (cI, 128, .inl xA)), (o5, .inl (cI, 49, .inl tA)), (o6, .inl (cI, 896, .inl gA))] := hD
          exact W.iret (v := nI ((10 * p) + i)) hx hb hr (fun t9 ht9 hW9 => ⟨⟨nI ((10 * p) + i), (), rfl, by rw [bwS, ht2, fF_t hkl (decide_eq_true (by rw [hkd.1, hkd.2]; exact ⟨c30, c49⟩)), Option.map_some, hkd.1, hkd.2]; rfl, by rw [ht9]; exact hP9, va_K.moved hW9.alike hK, hD9⟩, hS.F ht9⟩) hS.2.2 dX1_barForOneWay_58
      exact L12 _ 0 (by omega) (ht) (Nat.lt_succ_self _) _ _ hP hD hS ls (lv_sub hl [1, 2, 0] rfl)
  exact L2 _ 0 (by omega) (by rw [Nat.zero_mul]; rfl) (Nat.lt_succ_self _) _ _ hP hD hS ls (lv_sub hl [1, 0] rfl)

set_option maxHeartbeats 4000000 in
set_option maxRecDepth 100000 in
theorem KX1_chance (l : Launch) (dC : Nat → ClassId) (dI0 : Nat → Nat → Nat) (cI cZ : ClassId) (h1 : Nat) (o1 : Nat) (o2 : Nat) (o3 : Nat) (o4 : Nat) (o5 : Nat) (o6 : Nat) (on : Nat) (ev : Nat) (cA : Nat → Int32) (wA : Nat → Int32) (rA : Nat → Int32) (xA : Nat → Int32) (tA : Nat → Int32) (gA : Nat → Int32) (sz : Nat) (cs : Nat → Nat) (hO : OuR on ev cA cs) : Met l yX1_chance wsX1_chance ({ frames := 2, cells := 0, slots := 0, locals := 41 } : Room) (va_Pc [.ref h1] (fun U => U.heap.size = sz ∧ va_P (dC, dI0) vwCl (WOu cI cZ h1 o1 o2 o3 o4 o5 o6 on ev cA wA rA xA tA gA) U.heap ∧ va_K (dC, dI0) vwCl [(cI, .int), (cZ, .boolean)] U ∧ va_D (fun _ => True) (WOu cI cZ h1 o1 o2 o3 o4 o5 o6 on ev cA wA rA xA tA gA))) (va_Qi (fun (r : Int32) (u : Nat → Int32) => r = nI (lkS cs on ev)) (fun (u : Nat → Int32) (t : State) => va_P (dC, dI0) vwCl (WOu cI cZ h1 o1 o2 o3 o4 o5 o6 on ev cA wA rA u tA gA) t.heap ∧ va_K (dC, dI0) vwCl [(cI, .int), (cZ, .boolean)] t ∧ va_D (va_A (WOu cI cZ h1 o1 o2 o3 o4 o5 o6 on ev cA wA rA xA tA gA) sz) (WOu cI cZ h1 o1 o2 o3 o4 o5 o6 on ev cA wA rA u tA gA)) (va_A (WOu cI cZ h1 o1 o2 o3 o4 o5 o6 on ev cA wA rA xA tA gA) sz)) 0 0 (va_A (WOu cI cZ h1 o1 o2 o3 o4 o5 o6 on ev cA wA rA xA tA gA) sz) := by
  refine Met.ofW (cc := cX1_chance) (maxL := 5) (ret := (some .int)) (by decide) rfl ?_
  intro prg env s m args below meth c s₁ B hml hv
  obtain ⟨rfl, hsz, hP, hK, hD0⟩ := hv
  have hx := B.exec
  have hb := B.bytes
  have hr := B.returns
  have hts := atoms_spec (ws := wsX1_chance) B.pre
  have hown : s.vm.findClass RX1 = some m.cls := findClass_of_methodNamed B.named
  have hlocks := B.notSynchronized
  subst hsz
  have hD := hD0.self (sz := s.heap.size)
  generalize hAe : va_A (WOu cI cZ h1 o1 o2 o3 o4 o5 o6 on ev cA wA rA xA tA gA) s.heap.size = A at hD ⊢
  have hA : ∀ q : Nat, s.heap.size ≤ q → A q := fun q h => by rw [← hAe]; exact Or.inr h
  have hS : va_S A s.heap s.heap [] := va_S.rf
  have hP : va_P (dC, dI0) vwCl [(h1, .inr (1, [.ref o1, .ref o2, .ref o3, .ref o4, .ref o5, .ref o6, .int (nI on), .int (nI ev)])), (o1, .inl (cI, 7, .inl cA)), (o2, .inl (cI, 128, .inl wA)), (o3, .inl (cI, 128, .inl rA)), (o4, .inl (cI, 128, .inl xA)), (o5, .inl (cI, 49, .inl tA)), (o6, .inl (cI, 896, .inl gA))] s.heap := hP
  have hD : va_D A [(h1, .inr (1, [.ref o1, .ref o2, .ref o3, .ref o4, .ref o5, .ref o6, .int (nI on), .int (nI ev)])), (o1, .inl (cI, 7, .inl cA)), (o2, .inl (cI, 128, .inl wA)), (o3, .inl (cI, 128, .inl rA)), (o4, .inl (cI, 128, .inl xA)), (o5, .inl (cI, 49, .inl tA)), (o6, .inl (cI, 896, .inl gA))] := hD
  have hl := lv_entry ([.ref h1]) (n := 5) (Nat.le_of_ble_eq_true rfl)
  rw [lg_entry_eq]
  generalize (lg_sl ([.ref h1]) ++ List.replicate (5 - (lg_sl ([.ref h1])).length) Slot.unset).toArray = ls at hl ⊢
  have hl : lv_has ls 5 [(0, .ref h1)] := hl
  obtain ⟨H, hH⟩ : ∃ H : Heap, H = s.heap := ⟨_, rfl⟩
  rw [← hH] at hP ⊢
  have hS : va_S A s.heap H [] := by rw [hH]; exact hS
  refine w_gen (fun Q hQ => ?_)
  have hin_X1 : ∀ w ∈ wsX10, w ∈ wsX1_chance := by decide +kernel
  have hf23 := hts (.fieldLink RX1 23 "HatNames$Outlook" "chances" "[I") (by decide +kernel)
  have hk83 := hts (.constant RX1 83 (1000000)) (by decide +kernel)
  have hf37 := hts (.fieldLink RX1 37 "HatNames$Outlook" "everyName" "I") (by decide +kernel)
  have hf11 := hts (.fieldLink RX1 11 "HatNames$Outlook" "choices" "[I") (by decide +kernel)
  have hf36 := hts (.fieldLink RX1 36 "HatNames$Outlook" "size" "I") (by decide +kernel)
  obtain ⟨ho7, hev, hev7, hcc⟩ := id hO
  refine lv_aload_n hx hb dX1_chance_0 rfl (lv_at hl 0 rfl) ?_
  refine va_get (D := (dC, dI0)) (ci := 1) (v := .ref o4) (C := RX1) (T := TX1) (N := 8) hx hb hts hin_X1 hown hK hP 0 rfl rfl 3 (by decide) hf23 (fun _ h9 => h9) rfl dX1_chance_1 ?_
  refine lv_iconst (v := nI 0) hx hb dX1_chance_4 (by decide) ?_
  refine lv_ldc (v := nI 1000000) hx hb hown hk83 dX1_chance_5 ?_
  refine va_iast hx hb hK hP hD hS 4 0 rfl rfl (vp_in_nI (by omega) (by decide)) dX1_chance_7 (fun H locs hP hD hS => ?_)
  rw [nI_clamp (n := 0) (by omega)] at hP hD
  have hP : va_P (dC, dI0) vwCl [(h1, .inr (1, [.ref o1, .ref o2, .ref o3, .ref o4, .ref o5, .ref o6, .int (nI on), .int (nI ev)])), (o1, .inl (cI, 7, .inl cA)), (o2, .inl (cI, 128, .inl wA)), (o3, .inl (cI, 128, .inl rA)), (o4, .inl (cI, 128, .inl (upd xA 0 (nI 1000000)))), (o5, .inl (cI, 49, .inl tA)), (o6, .inl (cI, 896, .inl gA))] H := hP
  have hD : va_D A [(h1, .inr (1, [.ref o1, .ref o2, .ref o3, .ref o4, .ref o5, .ref o6, .int (nI on), .int (nI ev)])), (o1, .inl (cI, 7, .inl cA)), (o2, .inl (cI, 128, .inl wA)), (o3, .inl (cI, 128, .inl rA)), (o4, .inl (cI, 128, .inl (upd xA 0 (nI 1000000)))), (o5, .inl (cI, 49, .inl tA)), (o6, .inl (cI, 896, .inl gA))] := hD
  refine lv_iconst (v := nI 1) hx hb dX1_chance_8 (by decide) ?_
  refine lv_istore_n (lv' := [(1, .int (nI 1)), (0, .ref h1)]) hx hb dX1_chance_9 rfl hl (by decide) rfl (fun ls hl => ?_)
  have L10 : ∀ (fu : Nat) (L : Nat) (g : Nat → Int32), 1 ≤ L → L ≤ ev + 1 → (∀ T, T < L → g T = nI (lkS cs on T)) → ev + 1 - L < fu → ∀ (H : Heap) (locs : List Loc), va_P (dC, dI0) vwCl [(h1, .inr (1, [.ref o1, .ref o2, .ref o3, .ref o4, .ref o5, .ref o6, .int (nI on), .int (nI ev)])), (o1, .inl (cI, 7, .inl cA)), (o2, .inl (cI, 128, .inl wA)), (o3, .inl (cI, 128, .inl rA)), (o4, .inl (cI, 128, .inl g)), (o5, .inl (cI, 49, .inl tA)), (o6, .inl (cI, 896, .inl gA))] H → va_D A [(h1, .inr (1, [.ref o1, .ref o2, .ref o3, .ref o4, .ref o5, .ref o6, .int (nI on), .int (nI ev)])), (o1, .inl (cI, 7, .inl cA)), (o2, .inl (cI, 128, .inl wA)), (o3, .inl (cI, 128, .inl rA)), (o4, .inl (cI, 128, .inl g)), (o5, .inl (cI, 49, .inl tA)), (o6, .inl (cI, 896, .inl gA))] → va_S A s.heap H locs → ∀ (ls : Array Slot), lv_has ls 5 [(0, .ref h1), (1, .int (nI L))] → W prg l env ({ frames := 2, cells := 0, slots := 0, locals := 41 } : Room) s m ([.ref h1] : List Value).toArray below meth c H locs 0 0 Q (F0 m 10 ls []) := by
    intro fu
    induction fu with
    | zero => intro L g hL1 hL hg hmu; exact absurd hmu (Nat.not_lt_zero _)
    | succ fu ih10 =>
      intro L g hL1 hL hg hmu10 H locs hP hD hS ls hl
      refine lv_iload_n hx hb dX1_chance_10 rfl (lv_at hl 1 rfl) ?_
      refine lv_aload_n hx hb dX1_chance_11 rfl (lv_at hl 0 rfl) ?_
      refine va_get (D := (dC, dI0)) (ci := 1) (v := .int (nI ev)) (C := RX1) (T := TX1) (N := 8) hx hb hts hin_X1 hown hK hP 0 rfl rfl 7 (by decide) hf37 (fun _ h9 => h9) rfl dX1_chance_12 ?_
      refine lv_icmp_gt (tgt := 102) hx hb dX1_chance_15 (by decide) (fun c15 => ?_) (fun c15 => ?_)
      ·
        have c15 : ev < L := (nI_ltI (a := ev) (b := L) (by omega) (by omega)).mp c15
        refine lv_aload_n hx hb dX1_chance_102 rfl (lv_at hl 0 rfl) ?_
        refine va_get (D := (dC, dI0)) (ci := 1) (v := .ref o4) (C := RX1) (T := TX1) (N := 8) hx hb hts hin_X1 hown hK hP 0 rfl rfl 3 (by decide) hf23 (fun _ h9 => h9) rfl dX1_chance_103 ?_
        refine lv_aload_n hx hb dX1_chance_106 rfl (lv_at hl 0 rfl) ?_
        refine va_get (D := (dC, dI0)) (ci := 1) (v := .int (nI ev)) (C := RX1) (T := TX1) (N := 8) hx hb hts hin_X1 hown hK hP 0 rfl rfl 7 (by decide) hf37 (fun _ h9 => h9) rfl dX1_chance_107 ?_
        refine va_iald hx hb hK hP 4 0 rfl rfl (vp_in_nI (by omega) (by decide)) dX1_chance_110 ?_
        refine lv_topi (fun x110 e110 => ?_)
        rw [nI_clamp (n := ev) (by omega)] at e110
        obtain rfl : x110 = nI (lkS cs on ev) := e110.trans (hg _ (by omega))
        subst hQ
        have hP9 : va_P (dC, dI0) vwCl [(h1, .inr (1, [.ref o1, .ref o2, .ref o3, .ref o4, .ref o5, .ref o6, .int (nI on), .int (nI ev)])), (o1, .inl (cI, 7, .inl cA)), (o2, .inl (cI, 128, .inl wA)), (o3, .inl (cI, 128, .inl rA)), (o4, .inl (cI, 128, .inl g)), (o5, .inl (cI, 49, .inl tA)), (o6, .inl (cI, 896, .inl gA))] H := hP
        have hD9 : va_D A [(h1, .inr (1, [.ref o1, .ref o2, .ref o3, .ref o4, .ref o5, .ref o6, .int (nI on), .int (nI ev)])), (o1, .inl (cI, 7, .inl cA)), (o2, .inl (cI, 128, .inl wA)), (o3, .inl (cI, 128, .inl rA)), (o4, .inl (cI, 128, .inl g)), (o5, .inl (cI, 49, .inl tA)), (o6, .inl (cI, 896, .inl gA))] := hD
        exact W.iret (v := nI (lkS cs on ev)) hx hb hr (fun t9 ht9 hW9 => ⟨⟨nI (lkS cs on ev), g, rfl, rfl, by rw [ht9]; exact hP9, va_K.moved hW9.alike hK, hD9⟩, hS.F ht9⟩) hS.2.2 dX1_chance_111
      have c15 : ¬ ev < L := fun z => c15 ((nI_ltI (a := ev) (b := L) (by omega) (by omega)).mpr z)
      refine lv_aload_n hx hb dX1_chance_18 rfl (lv_at hl 0 rfl) ?_
      refine va_get (D := (dC, dI0)) (ci := 1) (v := .ref o1) (C := RX1) (T := TX1) (N := 8) hx hb hts hin_X1 hown hK hP 0 rfl rfl 0 (by decide) hf11 (fun _ h9 => h9) rfl dX1_chance_19 ?_
      refine lv_aload_n hx hb dX1_chance_22 rfl (lv_at hl 0 rfl) ?_
      refine lv_iload_n hx hb dX1_chance_23 rfl (lv_at hl 1 rfl) ?_
      have hPc := hP.sub (ws' := [(h1, .inr (1, [.ref o1, .ref o2, .ref o3, .ref o4, .ref o5, .ref o6, .int (nI on), .int (nI ev)])), (o1, .inl (cI, 7, .inl cA)), (o2, .inl (cI, 128, .inl wA)), (o3, .inl (cI, 128, .inl rA)), (o4, .inl (cI, 128, .inl g)), (o5, .inl (cI, 49, .inl tA)), (o6, .inl (cI, 896, .inl gA))]) [0, 1, 2, 3, 4, 5, 6] rfl
      have hDc := hD.sub (ws' := [(h1, .inr (1, [.ref o1, .ref o2, .ref o3, .ref o4, .ref o5, .ref o6, .int (nI on), .int (nI ev)])), (o1, .inl (cI, 7, .inl cA)), (o2, .inl (cI, 128, .inl wA)), (o3, .inl (cI, 128, .inl rA)), (o4, .inl (cI, 128, .inl g)), (o5, .inl (cI, 49, .inl tA)), (o6, .inl (cI, 896, .inl gA))]) [0, 1, 2, 3, 4, 5, 6] (by decide) rfl
      have hFc := va_free (wc := [(h1, .inr (1, [.ref o1, .ref o2, .ref o3, .ref o4, .ref o5, .ref o6, .int (nI on), .int (nI ev)])), (o1, .inl (cI, 7, .inl cA)), (o2, .inl (cI, 128, .inl wA)), (o3, .inl (cI, 128, .inl rA)), (o4, .inl (cI, 128, .inl g)), (o5, .inl (cI, 49, .inl tA)), (o6, .inl (cI, 896, .inl gA))]) hD hS hA [0, 1, 2, 3, 4, 5, 6] rfl
      refine va_calli (va_runV (As := [.int (nI L)]) (rest := [.ref o1]) ⟨hx, hb, hml, hown, hts⟩ (KX1_turn l dC dI0 cI cZ h1 o1 o2 o3 o4 o5 o6 on ev cA wA rA g tA gA H.size cs L (by first | assumption | omega) (by first | assumption | omega)) (cwV 1 hts gX1_chance_X1_turn rfl rfl rfl (by decide +kernel) ⟨Nat.le_of_ble_eq_true rfl, Nat.le_of_ble_eq_true rfl⟩) ⟨fun a U g mk q => by obtain ⟨q0, q1, qP, qK, qD⟩ := q; exact ⟨q0, q1, qP, va_K.moved (u := U) (U := U.calling g mk a) (Vm.Alike.refl U.vm) qK, qD⟩, va_recv hK hPc (ci := 1) (q0 := 0) rfl rfl, fun U hU hW => ⟨rfl, by rw [hU], by rw [hU]; exact hPc, va_K.moved hW.alike hK, hDc.weaken (fun _ _ _ _ => trivial)⟩⟩ rfl rfl hl.1 rfl (lv_room (Nat.le_of_ble_eq_true rfl)) dX1_chance_24 ⟨Nat.le_of_ble_eq_true rfl, Nat.le_of_ble_eq_true rfl⟩) hS (fun q _ h => hFc q h) hFc (fun r24 u24 t7 H1 locs ht7 hvm7 hw24 hB hz1 hk1 hS => ?_)
      obtain ⟨hP1, hK1, hD1⟩ := hB
      rw [ht7] at hP1
      try dsimp only at hw24 hP1 hD1
      obtain ⟨hP, hD⟩ := va_join (wr := []) (w1 := [(h1, .inr (1, [.ref o1, .ref o2, .ref o3, .ref o4, .ref o5, .ref o6, .int (nI on), .int (nI ev)])), (o1, .inl (cI, 7, .inl cA)), (o2, .inl (cI, 128, .inl wA)), (o3, .inl (cI, 128, .inl rA)), (o4, .inl (cI, 128, .inl g)), (o5, .inl (cI, 49, .inl tA)), (o6, .inl (cI, 896, .inl gA))]) hP hD [0, 1, 2, 3, 4, 5, 6] [] rfl rfl (by decide) (by decide) hk1 hFc hP1 hD1
      generalize H1 = H at hP hS ⊢
      have hP := hP.sub (ws' := [(h1, .inr (1, [.ref o1, .ref o2, .ref o3, .ref o4, .ref o5, .ref o6, .int (nI on), .int (nI ev)])), (o1, .inl (cI, 7, .inl cA)), (o2, .inl (cI, 128, .inl wA)), (o3, .inl (cI, 128, .inl rA)), (o4, .inl (cI, 128, .inl g)), (o5, .inl (cI, 49, .inl tA)), (o6, .inl (cI, 896, .inl gA))]) [0, 1, 2, 3, 4, 5, 6] rfl
      have hD := hD.sub (ws' := [(h1, .inr (1, [.ref o1, .ref o2, .ref o3, .ref o4, .ref o5, .ref o6, .int (nI on), .int (nI ev)])), (o1, .inl (cI, 7, .inl cA)), (o2, .inl (cI, 128, .inl wA)), (o3, .inl (cI, 128, .inl rA)), (o4, .inl (cI, 128, .inl g)), (o5, .inl (cI, 49, .inl tA)), (o6, .inl (cI, 896, .inl gA))]) [0, 1, 2, 3, 4, 5, 6] (by decide) rfl
      obtain rfl : r24 = nI (on - pop L) := hw24
      have hpp := pop_pos L (by omega) (by omega)
      have hpn := pop_n on ho7 L (by omega)
      refine va_iald hx hb hK hP 1 0 rfl rfl (vp_in_nI (by omega) (by decide)) dX1_chance_27 ?_
      refine lv_topi (fun x27 e27 => ?_)
      rw [nI_clamp (n := on - pop L) (by omega)] at e27
      have hcv := (hcc (on - pop L) (by omega)).2
      obtain rfl : x27 = nI (cs (on - pop L)) := e27.trans (hcc (on - pop L) (by omega)).1
      refine lv_iload_n hx hb dX1_chance_28 rfl (lv_at hl 1 rfl) ?_
      refine lv_iand hx hb dX1_chance_29 ?_
      refine lv_topi (fun x29 e29 => ?_)
      obtain rfl : x29 = nI ((cs (on - pop L)) &&& L) := e29.trans (and_nI _ _)
      have hand := Nat.and_le_right (n := cs (on - pop L)) (m := L)
      refine lv_istore_n (lv' := [(2, .int (nI ((cs (on - pop L)) &&& L))), (0, .ref h1), (1, .int (nI L))]) hx hb dX1_chance_30 rfl hl (by decide) rfl (fun ls hl => ?_)
      refine lv_iconst (v := nI 0) hx hb dX1_chance_31 (by decide) ?_
      refine lv_istore_n (lv' := [(3, .int (nI 0)), (2, .int (nI ((cs (on - pop L)) &&& L))), (0, .ref h1), (1, .int (nI L))]) hx hb dX1_chance_32 rfl hl (by decide) rfl (fun ls hl => ?_)
      refine lv_iconst (v := nI 0) hx hb dX1_chance_33 (by decide) ?_
      refine lv_istore (lv' := [(4, .int (nI 0)), (3, .int (nI 0)), (2, .int (nI ((cs (on - pop L)) &&& L))), (0, .ref h1), (1, .int (nI L))]) hx hb dX1_chance_34 hl (by decide) rfl (fun ls hl => ?_)
      have L36 : ∀ (fu : Nat) (i : Nat) (a : Nat), i ≤ on → a = smS (fun q => wW cs (lkS cs on) (on - pop L) q L) i → on - i < fu → ∀ (H : Heap) (locs : List Loc), va_P (dC, dI0) vwCl [(h1, .inr (1, [.ref o1, .ref o2, .ref o3, .ref o4, .ref o5, .ref o6, .int (nI on), .int (nI ev)])), (o1, .inl (cI, 7, .inl cA)), (o2, .inl (cI, 128, .inl wA)), (o3, .inl (cI, 128, .inl rA)), (o4, .inl (cI, 128, .inl g)), (o5, .inl (cI, 49, .inl tA)), (o6, .inl (cI, 896, .inl gA))] H → va_D A [(h1, .inr (1, [.ref o1, .ref o2, .ref o3, .ref o4, .ref o5, .ref o6, .int (nI on), .int (nI ev)])), (o1, .inl (cI, 7, .inl cA)), (o2, .inl (cI, 128, .inl wA)), (o3, .inl (cI, 128, .inl rA)), (o4, .inl (cI, 128, .inl g)), (o5, .inl (cI, 49, .inl tA)), (o6, .inl (cI, 896, .inl gA))] → va_S A s.heap H locs → ∀ (ls : Array Slot), lv_has ls 5 [(0, .ref h1), (1, .int (nI L)), (2, .int (nI ((cs (on - pop L)) &&& L))), (3, .int (nI a)), (4, .int (nI i))] → W prg l env ({ frames := 2, cells := 0, slots := 0, locals := 41 } : Room) s m ([.ref h1] : List Value).toArray below meth c H locs 0 0 Q (F0 m 36 ls []) := by
        intro fu
        induction fu with
        | zero => intro i a hi ha hmu; exact absurd hmu (Nat.not_lt_zero _)
        | succ fu ih36 =>
          intro i a hi ha hmu36 H locs hP hD hS ls hl
          refine lv_iload hx hb dX1_chance_36 (lv_at hl 4 rfl) ?_
          refine lv_aload_n hx hb dX1_chance_38 rfl (lv_at hl 0 rfl) ?_
          refine va_get (D := (dC, dI0)) (ci := 1) (v := .int (nI on)) (C := RX1) (T := TX1) (N := 8) hx hb hts hin_X1 hown hK hP 0 rfl rfl 6 (by decide) hf36 (fun _ h9 => h9) rfl dX1_chance_39 ?_
          refine lv_icmp_ge (tgt := 76) hx hb dX1_chance_42 (by decide) (fun c42 => ?_) (fun c42 => ?_)
          ·
            have c42 : on ≤ i := (nI_leI (a := on) (b := i) (by omega) (by omega)).mp c42
            have hsm := sm_wW_le (cs := cs) (F := lkS cs on) (p := on - pop L) (S := L) (lkS_le cs ho7) on
            have hct : ct (cs (on - pop L) &&& L).testBit on ≤ 7 := Nat.le_trans (ct_le _ on) ho7
            have hsm2 : a ≤ 7000000 := by rw [ha, show i = on by omega]; omega
            refine lv_aload_n hx hb dX1_chance_76 rfl (lv_at hl 0 rfl) ?_
            refine va_get (D := (dC, dI0)) (ci := 1) (v := .ref o4) (C := RX1) (T := TX1) (N := 8) hx hb hts hin_X1 hown hK hP 0 rfl rfl 3 (by decide) hf23 (fun _ h9 => h9) rfl dX1_chance_77 ?_
            refine lv_iload_n hx hb dX1_chance_80 rfl (lv_at hl 1 rfl) ?_
            refine lv_iload_n hx hb dX1_chance_81 rfl (lv_at hl 2 rfl) ?_
            refine lv_if_ne (tgt := 89) hx hb dX1_chance_82 (by decide) (fun c82 => ?_) (fun c82 => ?_)
            ·
              have c82 : ¬ ((cs (on - pop L)) &&& L) = 0 := fun z => c82 ((nI_eq (a := ((cs (on - pop L)) &&& L)) (b := 0) (by omega) (by omega)).mpr z)
              refine lv_iload_n hx hb dX1_chance_89 rfl (lv_at hl 3 rfl) ?_
              refine lv_iload_n hx hb dX1_chance_90 rfl (lv_at hl 2 rfl) ?_
              have hPc := hP.sub (ws' := []) [] rfl
              have hDc := hD.sub (ws' := []) [] (by decide) rfl
              have hFc := va_free (wc := []) hD hS hA [] rfl
              refine va_calli (va_runS (As := [.int (nI ((cs (on - pop L)) &&& L))]) (rest := [.int (nI a), .int (nI L), .ref o4]) ⟨hx, hb, hml, hown, hts⟩ (KJ6_bitCount_0f7a4 l dC dI0 cI cZ  H.size ((cs (on - pop L)) &&& L) (by first | assumption | omega)) (va_cwS 1 hts gX1_chance_J6_bitCount_0f7a4 rfl rfl rfl (by decide +kernel) ⟨Nat.le_of_ble_eq_true rfl, Nat.le_of_ble_eq_true rfl⟩) ⟨fun a U g mk q => by obtain ⟨q0, q1, qP, qK, qD⟩ := q; exact ⟨q0, q1, qP, va_K.moved (u := U) (U := U.calling g mk a) (Vm.Alike.refl U.vm) qK, qD⟩, fun U hU hW => ⟨rfl, by rw [hU], by rw [hU]; exact hPc, va_K.moved hW.alike hK, hDc.weaken (fun _ _ _ _ => trivial)⟩⟩ rfl rfl hl.1 rfl (lv_room (Nat.le_of_ble_eq_true rfl)) dX1_chance_91 ⟨Nat.le_of_ble_eq_true rfl, Nat.le_of_ble_eq_true rfl⟩) hS (fun q _ h => hFc q h) hFc (fun r91 u91 t7 H1 locs ht7 hvm7 hw91 hB hz1 hk1 hS => ?_)
              obtain ⟨hP1, hK1, hD1⟩ := hB
              rw [ht7] at hP1
              try dsimp only at hw91 hP1 hD1
              obtain ⟨hP, hD⟩ := va_join (wr := [(h1, .inr (1, [.ref o1, .ref o2, .ref o3, .ref o4, .ref o5, .ref o6, .int (nI on), .int (nI ev)])), (o1, .inl (cI, 7, .inl cA)), (o2, .inl (cI, 128, .inl wA)), (o3, .inl (cI, 128, .inl rA)), (o4, .inl (cI, 128, .inl g)), (o5, .inl (cI, 49, .inl tA)), (o6, .inl (cI, 896, .inl gA))]) (w1 := []) hP hD [] [0, 1, 2, 3, 4, 5, 6] rfl rfl (by decide) (by decide) hk1 hFc hP1 hD1
              generalize H1 = H at hP hS ⊢
              have hP := hP.sub (ws' := [(h1, .inr (1, [.ref o1, .ref o2, .ref o3, .ref o4, .ref o5, .ref o6, .int (nI on), .int (nI ev)])), (o1, .inl (cI, 7, .inl cA)), (o2, .inl (cI, 128, .inl wA)), (o3, .inl (cI, 128, .inl rA)), (o4, .inl (cI, 128, .inl g)), (o5, .inl (cI, 49, .inl tA)), (o6, .inl (cI, 896, .inl gA))]) [0, 1, 2, 3, 4, 5, 6] rfl
              have hD := hD.sub (ws' := [(h1, .inr (1, [.ref o1, .ref o2, .ref o3, .ref o4, .ref o5, .ref o6, .int (nI on), .int (nI ev)])), (o1, .inl (cI, 7, .inl cA)), (o2, .inl (cI, 128, .inl wA)), (o3, .inl (cI, 128, .inl rA)), (o4, .inl (cI, 128, .inl g)), (o5, .inl (cI, 49, .inl tA)), (o6, .inl (cI, 896, .inl gA))]) [0, 1, 2, 3, 4, 5, 6] (by decide) rfl
              obtain rfl : r91 = nI (pop ((cs (on - pop L)) &&& L)) := hw91
              have hpo := pop_pos (cs (on - pop L) &&& L) (by omega) (by omega)
              have hpo7 := pop_le (cs (on - pop L) &&& L)
              refine lv_idiv hx hb dX1_chance_94 (nI_ne0 (by omega) (by omega)) ?_
              refine lv_topi (fun x94 e94 => ?_)
              obtain rfl : x94 = nI (a / (pop ((cs (on - pop L)) &&& L))) := e94.trans (pk_div (by omega) (by omega) (by omega))
              refine va_iast hx hb hK hP hD hS 4 0 rfl rfl (vp_in_nI (by omega) (by decide)) dX1_chance_95 (fun H locs hP hD hS => ?_)
              rw [nI_clamp (n := L) (by omega)] at hP hD
              have hP : va_P (dC, dI0) vwCl [(h1, .inr (1, [.ref o1, .ref o2, .ref o3, .ref o4, .ref o5, .ref o6, .int (nI on), .int (nI ev)])), (o1, .inl (cI, 7, .inl cA)), (o2, .inl (cI, 128, .inl wA)), (o3, .inl (cI, 128, .inl rA)), (o4, .inl (cI, 128, .inl (upd g L (nI (a / (pop ((cs (on - pop L)) &&& L))))))), (o5, .inl (cI, 49, .inl tA)), (o6, .inl (cI, 896, .inl gA))] H := hP
              have hD : va_D A [(h1, .inr (1, [.ref o1, .ref o2, .ref o3, .ref o4, .ref o5, .ref o6, .int (nI on), .int (nI ev)])), (o1, .inl (cI, 7, .inl cA)), (o2, .inl (cI, 128, .inl wA)), (o3, .inl (cI, 128, .inl rA)), (o4, .inl (cI, 128, .inl (upd g L (nI (a / (pop ((cs (on - pop L)) &&& L))))))), (o5, .inl (cI, 49, .inl tA)), (o6, .inl (cI, 896, .inl gA))] := hD
              refine lv_iinc (v := nI (L + 1)) (lv' := [(1, .int (nI (L + 1))), (0, .ref h1), (2, .int (nI ((cs (on - pop L)) &&& L))), (3, .int (nI a)), (4, .int (nI i))]) hx hb dX1_chance_96 hl (k := 1) rfl (show nI L + Int32.ofInt 1 = nI (L + 1) from nI_add _ _) (by decide) rfl (fun ls hl => ?_)
              refine lv_goto (tgt := 10) hx hb dX1_chance_99 (by decide) ?_
              exact ih10 (L + 1) (upd g L (nI (a / (pop ((cs (on - pop L)) &&& L))))) (by omega) (by omega) (upd_lt (F := fun T => nI (lkS cs on T)) hg (by rw [ha, show i = on by omega, lkS_eq ho7 (by omega) (by omega), if_neg c82])) (by omega) _ _ hP hD hS ls (lv_sub hl [1, 0] rfl)
            have c82 : ((cs (on - pop L)) &&& L) = 0 := (nI_eq (a := ((cs (on - pop L)) &&& L)) (b := 0) (by omega) (by omega)).mp c82
            refine lv_iconst (v := nI 0) hx hb dX1_chance_85 (by decide) ?_
            refine lv_goto (tgt := 95) hx hb dX1_chance_86 (by decide) ?_
            refine va_iast hx hb hK hP hD hS 4 0 rfl rfl (vp_in_nI (by omega) (by decide)) dX1_chance_95 (fun H locs hP hD hS => ?_)
            rw [nI_clamp (n := L) (by omega)] at hP hD
            have hP : va_P (dC, dI0) vwCl [(h1, .inr (1, [.ref o1, .ref o2, .ref o3, .ref o4, .ref o5, .ref o6, .int (nI on), .int (nI ev)])), (o1, .inl (cI, 7, .inl cA)), (o2, .inl (cI, 128, .inl wA)), (o3, .inl (cI, 128, .inl rA)), (o4, .inl (cI, 128, .inl (upd g L (nI 0)))), (o5, .inl (cI, 49, .inl tA)), (o6, .inl (cI, 896, .inl gA))] H := hP
            have hD : va_D A [(h1, .inr (1, [.ref o1, .ref o2, .ref o3, .ref o4, .ref o5, .ref o6, .int (nI on), .int (nI ev)])), (o1, .inl (cI, 7, .inl cA)), (o2, .inl (cI, 128, .inl wA)), (o3, .inl (cI, 128, .inl rA)), (o4, .inl (cI, 128, .inl (upd g L (nI 0)))), (o5, .inl (cI, 49, .inl tA)), (o6, .inl (cI, 896, .inl gA))] := hD
            refine lv_iinc (v := nI (L + 1)) (lv' := [(1, .int (nI (L + 1))), (0, .ref h1), (2, .int (nI ((cs (on - pop L)) &&& L))), (3, .int (nI a)), (4, .int (nI i))]) hx hb dX1_chance_96 hl (k := 1) rfl (show nI L + Int32.ofInt 1 = nI (L + 1) from nI_add _ _) (by decide) rfl (fun ls hl => ?_)
            refine lv_goto (tgt := 10) hx hb dX1_chance_99 (by decide) ?_
            exact ih10 (L + 1) (upd g L (nI 0)) (by omega) (by omega) (upd_lt (F := fun T => nI (lkS cs on T)) hg (by rw [lkS_eq ho7 (by omega) (by omega), if_pos c82])) (by omega) _ _ hP hD hS ls (lv_sub hl [1, 0] rfl)
          have c42 : ¬ on ≤ i := fun z => c42 ((nI_leI (a := on) (b := i) (by omega) (by omega)).mpr z)
          refine lv_iload_n hx hb dX1_chance_45 rfl (lv_at hl 2 rfl) ?_
          refine lv_iload hx hb dX1_chance_46 (lv_at hl 4 rfl) ?_
          have hPc := hP.sub (ws' := []) [] rfl
          have hDc := hD.sub (ws' := []) [] (by decide) rfl
          have hFc := va_free (wc := []) hD hS hA [] rfl
          refine va_calli (va_runS (As := [.int (nI ((cs (on - pop L)) &&& L)), .int (nI i)]) (rest := []) ⟨hx, hb, hml, hown, hts⟩ (KX1_isIn l dC dI0 cI cZ  H.size ((cs (on - pop L)) &&& L) i (by first | assumption | omega) (by first | assumption | omega)) (va_cwS 2 hts gX1_chance_X1_isIn rfl rfl rfl (by decide +kernel) ⟨Nat.le_of_ble_eq_true rfl, Nat.le_of_ble_eq_true rfl⟩) ⟨fun a U g mk q => by obtain ⟨q0, q1, qP, qK, qD⟩ := q; exact ⟨q0, q1, qP, va_K.moved (u := U) (U := U.calling g mk a) (Vm.Alike.refl U.vm) qK, qD⟩, fun U hU hW => ⟨rfl, by rw [hU], by rw [hU]; exact hPc, va_K.moved hW.alike hK, hDc.weaken (fun _ _ _ _ => trivial)⟩⟩ rfl rfl hl.1 rfl (lv_room (Nat.le_of_ble_eq_true rfl)) dX1_chance_48 ⟨Nat.le_of_ble_eq_true rfl, Nat.le_of_ble_eq_true rfl⟩) hS (fun q _ h => hFc q h) hFc (fun r48 u48 t7 H1 locs ht7 hvm7 hw48 hB hz1 hk1 hS => ?_)
          obtain ⟨hP1, hK1, hD1⟩ := hB
          rw [ht7] at hP1
          try dsimp only at hw48 hP1 hD1
          obtain ⟨hP, hD⟩ := va_join (wr := [(h1, .inr (1, [.ref o1, .ref o2, .ref o3, .ref o4, .ref o5, .ref o6, .int (nI on), .int (nI ev)])), (o1, .inl (cI, 7, .inl cA)), (o2, .inl (cI, 128, .inl wA)), (o3, .inl (cI, 128, .inl rA)), (o4, .inl (cI, 128, .inl g)), (o5, .inl (cI, 49, .inl tA)), (o6, .inl (cI, 896, .inl gA))]) (w1 := []) hP hD [] [0, 1, 2, 3, 4, 5, 6] rfl rfl (by decide) (by decide) hk1 hFc hP1 hD1
          generalize H1 = H at hP hS ⊢
          have hP := hP.sub (ws' := [(h1, .inr (1, [.ref o1, .ref o2, .ref o3, .ref o4, .ref o5, .ref o6, .int (nI on), .int (nI ev)])), (o1, .inl (cI, 7, .inl cA)), (o2, .inl (cI, 128, .inl wA)), (o3, .inl (cI, 128, .inl rA)), (o4, .inl (cI, 128, .inl g)), (o5, .inl (cI, 49, .inl tA)), (o6, .inl (cI, 896, .inl gA))]) [0, 1, 2, 3, 4, 5, 6] rfl
          have hD := hD.sub (ws' := [(h1, .inr (1, [.ref o1, .ref o2, .ref o3, .ref o4, .ref o5, .ref o6, .int (nI on), .int (nI ev)])), (o1, .inl (cI, 7, .inl cA)), (o2, .inl (cI, 128, .inl wA)), (o3, .inl (cI, 128, .inl rA)), (o4, .inl (cI, 128, .inl g)), (o5, .inl (cI, 49, .inl tA)), (o6, .inl (cI, 896, .inl gA))]) [0, 1, 2, 3, 4, 5, 6] (by decide) rfl
          obtain rfl : r48 = bI (((cs (on - pop L)) &&& L).testBit i) := hw48
          refine lv_if_eq (tgt := 70) hx hb dX1_chance_51 (by decide) (fun c51 => ?_) (fun c51 => ?_)
          ·
            have c51 : (((cs (on - pop L)) &&& L).testBit i) = false := bI_0 c51
            refine lv_iinc (v := nI (i + 1)) (lv' := [(4, .int (nI (i + 1))), (0, .ref h1), (1, .int (nI L)), (2, .int (nI ((cs (on - pop L)) &&& L))), (3, .int (nI a))]) hx hb dX1_chance_70 hl (k := 4) rfl (show nI i + Int32.ofInt 1 = nI (i + 1) from nI_add _ _) (by decide) rfl (fun ls hl => ?_)
            refine lv_goto (tgt := 36) hx hb dX1_chance_73 (by decide) ?_
            exact ih36 (i + 1) a (by omega) (by rw [ha, smS, wW, if_neg (by rw [c51]; decide), Nat.add_zero]) (by omega) _ _ hP hD hS ls (lv_sub hl [1, 2, 3, 4, 0] rfl)
          have c51 : (((cs (on - pop L)) &&& L).testBit i) = true := bI_n0 c51
          refine lv_iload_n hx hb dX1_chance_54 rfl (lv_at hl 3 rfl) ?_
          refine lv_aload_n hx hb dX1_chance_55 rfl (lv_at hl 0 rfl) ?_
          refine va_get (D := (dC, dI0)) (ci := 1) (v := .ref o4) (C := RX1) (T := TX1) (N := 8) hx hb hts hin_X1 hown hK hP 0 rfl rfl 3 (by decide) hf23 (fun _ h9 => h9) rfl dX1_chance_56 ?_
          refine lv_iload_n hx hb dX1_chance_59 rfl (lv_at hl 1 rfl) ?_
          refine lv_iconst (v := nI 1) hx hb dX1_chance_60 (by decide) ?_
          refine lv_iload hx hb dX1_chance_61 (lv_at hl 4 rfl) ?_
          refine lv_ishl hx hb dX1_chance_63 ?_
          refine lv_topi (fun x63 e63 => ?_)
          obtain rfl : x63 = nI (2 ^ i) := e63.trans (shl_1 (by omega))
          refine lv_iconst (v := (-1)) hx hb dX1_chance_64 (by decide) ?_
          refine lv_ixor hx hb dX1_chance_65 ?_
          refine lv_topi (fun x65 e65 => ?_)
          refine lv_iand hx hb dX1_chance_66 ?_
          refine lv_topi (fun x66 e66 => ?_)
          obtain rfl : x66 = nI (andn L (2 ^ i)) := e66.trans (by rw [e65]; exact andn_nI _ _)
          have hcut := (cut_ok L (by omega) i (by omega) (and_tb c51).2).1
          refine va_iald hx hb hK hP 4 0 rfl rfl (vp_in_nI (by omega) (by decide)) dX1_chance_67 ?_
          refine lv_topi (fun x67 e67 => ?_)
          rw [nI_clamp (n := andn L (2 ^ i)) (by omega)] at e67
          obtain rfl : x67 = nI (lkS cs on (andn L (2 ^ i))) := e67.trans (hg _ (by omega))
          refine lv_iadd hx hb dX1_chance_68 ?_
          refine lv_topi (fun x68 e68 => ?_)
          obtain rfl : x68 = nI (a + (lkS cs on (andn L (2 ^ i)))) := e68.trans (nI_add _ _)
          refine lv_istore_n (lv' := [(3, .int (nI (a + (lkS cs on (andn L (2 ^ i)))))), (0, .ref h1), (1, .int (nI L)), (2, .int (nI ((cs (on - pop L)) &&& L))), (4, .int (nI i))]) hx hb dX1_chance_69 rfl hl (by decide) rfl (fun ls hl => ?_)
          refine lv_iinc (v := nI (i + 1)) (lv' := [(4, .int (nI (i + 1))), (3, .int (nI (a + (lkS cs on (andn L (2 ^ i)))))), (0, .ref h1), (1, .int (nI L)), (2, .int (nI ((cs (on - pop L)) &&& L)))]) hx hb dX1_chance_70 hl (k := 4) rfl (show nI i + Int32.ofInt 1 = nI (i + 1) from nI_add _ _) (by decide) rfl (fun ls hl => ?_)
          refine lv_goto (tgt := 36) hx hb dX1_chance_73 (by decide) ?_
          exact ih36 (i + 1) (a + (lkS cs on (andn L (2 ^ i)))) (by omega) (by rw [ha, smS, wW, if_pos c51]) (by omega) _ _ hP hD hS ls (lv_sub hl [2, 3, 4, 1, 0] rfl)
      exact L36 _ 0 0 (by omega) (rfl) (Nat.lt_succ_self _) _ _ hP hD hS ls (lv_sub hl [3, 4, 2, 1, 0] rfl)
  exact L10 _ 1 (upd xA 0 (nI 1000000)) (by omega) (by omega) (fun T hT => by rw [show T = 0 by omega, pk_us, lkS_0]) (Nat.lt_succ_self _) _ _ hP hD hS ls (lv_sub hl [1, 0] rfl)

set_option maxHeartbeats 4000000 in
set_option maxRecDepth 100000 in
theorem KX1_closingWays (l : Launch) (dC : Nat → ClassId) (dI0 : Nat → Nat → Nat) (cI cZ : ClassId) (h1 : Nat) (o1 : Nat) (o2 : Nat) (o3 : Nat) (o4 : Nat) (o5 : Nat) (o6 : Nat) (on : Nat) (ev : Nat) (cA : Nat → Int32) (wA : Nat → Int32) (rA : Nat → Int32) (xA : Nat → Int32) (tA : Nat → Int32) (gA : Nat → Int32) (sz : Nat) (cs : Nat → Nat) (P : Nat) (lt : Nat) (hO : OuR on ev cA cs) (hP1 : P ≤ ev) (hPo : P % 2 = 1) (hlt : lt < on) (hG : ∀ T t, T ≤ ev → P < T → T % 2 = 1 → t < on → T.testBit t = true → gA (T * 7 + t) = nI (clS cs on T t)) : Met l yX1_closingWays wsX1_closingWays ({ frames := 1, cells := 0, slots := 0, locals := 21 } : Room) (va_Pc [.ref h1, .int (nI P), .int (nI lt)] (fun U => U.heap.size = sz ∧ va_P (dC, dI0) vwCl (WOu cI cZ h1 o1 o2 o3 o4 o5 o6 on ev cA wA rA xA tA gA) U.heap ∧ va_K (dC, dI0) vwCl [(cI, .int), (cZ, .boolean)] U ∧ va_D (fun _ => True) (WOu cI cZ h1 o1 o2 o3 o4 o5 o6 on ev cA wA rA xA tA gA))) (va_Qi (fun (r : Int32) (u : Unit) => r = nI (clS cs on P lt)) (fun (u : Unit) (t : State) => va_P (dC, dI0) vwCl (WOu cI cZ h1 o1 o2 o3 o4 o5 o6 on ev cA wA rA xA tA gA) t.heap ∧ va_K (dC, dI0) vwCl [(cI, .int), (cZ, .boolean)] t ∧ va_D (va_A (WOu cI cZ h1 o1 o2 o3 o4 o5 o6 on ev cA wA rA xA tA gA) sz) (WOu cI cZ h1 o1 o2 o3 o4 o5 o6 on ev cA wA rA xA tA gA)) (va_A (WOu cI cZ h1 o1 o2 o3 o4 o5 o6 on ev cA wA rA xA tA gA) sz)) 0 0 (va_A (WOu cI cZ h1 o1 o2 o3 o4 o5 o6 on ev cA wA rA xA tA gA) sz) := by
  refine Met.ofW (cc := cX1_closingWays) (maxL := 5) (ret := (some .int)) (by decide) rfl ?_
  intro prg env s m args below meth c s₁ B hml hv
  obtain ⟨rfl, hsz, hP, hK, hD0⟩ := hv
  have hx := B.exec
  have hb := B.bytes
  have hr := B.returns
  have hts := atoms_spec (ws := wsX1_closingWays) B.pre
  have hown : s.vm.findClass RX1 = some m.cls := findClass_of_methodNamed B.named
  have hlocks := B.notSynchronized
  subst hsz
  have hD := hD0.self (sz := s.heap.size)
  generalize hAe : va_A (WOu cI cZ h1 o1 o2 o3 o4 o5 o6 on ev cA wA rA xA tA gA) s.heap.size = A at hD ⊢
  have hA : ∀ q : Nat, s.heap.size ≤ q → A q := fun q h => by rw [← hAe]; exact Or.inr h
  have hS : va_S A s.heap s.heap [] := va_S.rf
  have hP : va_P (dC, dI0) vwCl [(h1, .inr (1, [.ref o1, .ref o2, .ref o3, .ref o4, .ref o5, .ref o6, .int (nI on), .int (nI ev)])), (o1, .inl (cI, 7, .inl cA)), (o2, .inl (cI, 128, .inl wA)), (o3, .inl (cI, 128, .inl rA)), (o4, .inl (cI, 128, .inl xA)), (o5, .inl (cI, 49, .inl tA)), (o6, .inl (cI, 896, .inl gA))] s.heap := hP
  have hD : va_D A [(h1, .inr (1, [.ref o1, .ref o2, .ref o3, .ref o4, .ref o5, .ref o6, .int (nI on), .int (nI ev)])), (o1, .inl (cI, 7, .inl cA)), (o2, .inl (cI, 128, .inl wA)), (o3, .inl (cI, 128, .inl rA)), (o4, .inl (cI, 128, .inl xA)), (o5, .inl (cI, 49, .inl tA)), (o6, .inl (cI, 896, .inl gA))] := hD
  have hl := lv_entry ([.ref h1, .int (nI P), .int (nI lt)]) (n := 5) (Nat.le_of_ble_eq_true rfl)
  rw [lg_entry_eq]
  generalize (lg_sl ([.ref h1, .int (nI P), .int (nI lt)]) ++ List.replicate (5 - (lg_sl ([.ref h1, .int (nI P), .int (nI lt)])).length) Slot.unset).toArray = ls at hl ⊢
  have hl : lv_has ls 5 [(0, .ref h1), (1, .int (nI P)), (2, .int (nI lt))] := hl
  obtain ⟨H, hH⟩ : ∃ H : Heap, H = s.heap := ⟨_, rfl⟩
  rw [← hH] at hP ⊢
  have hS : va_S A s.heap H [] := by rw [hH]; exact hS
  refine w_gen (fun Q hQ => ?_)
  have hin_X1 : ∀ w ∈ wsX10, w ∈ wsX1_closingWays := by decide +kernel
  have hf37 := hts (.fieldLink RX1 37 "HatNames$Outlook" "everyName" "I") (by decide +kernel)
  have hf36 := hts (.fieldLink RX1 36 "HatNames$Outlook" "size" "I") (by decide +kernel)
  have hf11 := hts (.fieldLink RX1 11 "HatNames$Outlook" "choices" "[I") (by decide +kernel)
  have hf29 := hts (.fieldLink RX1 29 "HatNames$Outlook" "closings" "[I") (by decide +kernel)
  obtain ⟨ho7, hev, hev7, hcc⟩ := id hO
  refine lv_iload_n hx hb dX1_closingWays_0 rfl (lv_at hl 1 rfl) ?_
  refine lv_aload_n hx hb dX1_closingWays_1 rfl (lv_at hl 0 rfl) ?_
  refine va_get (D := (dC, dI0)) (ci := 1) (v := .int (nI ev)) (C := RX1) (T := TX1) (N := 8) hx hb hts hin_X1 hown hK hP 0 rfl rfl 7 (by decide) hf37 (fun _ h9 => h9) rfl dX1_closingWays_2 ?_
  refine lv_icmp_ne (tgt := 17) hx hb dX1_closingWays_5 (by decide) (fun c5 => ?_) (fun c5 => ?_)
  ·
    have c5 : ¬ P = ev := fun z => c5 ((nI_eq (a := P) (b := ev) (by omega) (by omega)).mpr z)
    refine lv_iconst (v := nI 0) hx hb dX1_closingWays_17 (by decide) ?_
    refine lv_istore_n (lv' := [(3, .int (nI 0)), (0, .ref h1), (1, .int (nI P)), (2, .int (nI lt))]) hx hb dX1_closingWays_18 rfl hl (by decide) rfl (fun ls hl => ?_)
    refine lv_iconst (v := nI 0) hx hb dX1_closingWays_19 (by decide) ?_
    refine lv_istore (lv' := [(4, .int (nI 0)), (3, .int (nI 0)), (0, .ref h1), (1, .int (nI P)), (2, .int (nI lt))]) hx hb dX1_closingWays_20 hl (by decide) rfl (fun ls hl => ?_)
    have L22 : ∀ (fu : Nat) (i : Nat) (a : Nat), i ≤ on → (a = smS (fun t => if (andn (cs lt) P).testBit t = true then clS cs on (P ||| 2 ^ t) t else 0) i) → on - i < fu → ∀ (H : Heap) (locs : List Loc), va_P (dC, dI0) vwCl [(h1, .inr (1, [.ref o1, .ref o2, .ref o3, .ref o4, .ref o5, .ref o6, .int (nI on), .int (nI ev)])), (o1, .inl (cI, 7, .inl cA)), (o2, .inl (cI, 128, .inl wA)), (o3, .inl (cI, 128, .inl rA)), (o4, .inl (cI, 128, .inl xA)), (o5, .inl (cI, 49, .inl tA)), (o6, .inl (cI, 896, .inl gA))] H → va_D A [(h1, .inr (1, [.ref o1, .ref o2, .ref o3, .ref o4, .ref o5, .ref o6, .int (nI on), .int (nI ev)])), (o1, .inl (cI, 7, .inl cA)), (o2, .inl (cI, 128, .inl wA)), (o3, .inl (cI, 128, .inl rA)), (o4, .inl (cI, 128, .inl xA)), (o5, .inl (cI, 49, .inl tA)), (o6, .inl (cI, 896, .inl gA))] → va_S A s.heap H locs → ∀ (ls : Array Slot), lv_has ls 5 [(0, .ref h1), (1, .int (nI P)), (2, .int (nI lt)), (3, .int (nI a)), (4, .int (nI i))] → W prg l env ({ frames := 1, cells := 0, slots := 0, locals := 21 } : Room) s m ([.ref h1, .int (nI P), .int (nI lt)] : List Value).toArray below meth c H locs 0 0 Q (F0 m 22 ls []) := by
      intro fu
      induction fu with
      | zero => intro i a hi ha hmu; exact absurd hmu (Nat.not_lt_zero _)
      | succ fu ih22 =>
        intro i a hi ha hmu22 H locs hP hD hS ls hl
        refine lv_iload hx hb dX1_closingWays_22 (lv_at hl 4 rfl) ?_
        refine lv_aload_n hx hb dX1_closingWays_24 rfl (lv_at hl 0 rfl) ?_
        refine va_get (D := (dC, dI0)) (ci := 1) (v := .int (nI on)) (C := RX1) (T := TX1) (N := 8) hx hb hts hin_X1 hown hK hP 0 rfl rfl 6 (by decide) hf36 (fun _ h9 => h9) rfl dX1_closingWays_25 ?_
        refine lv_icmp_ge (tgt := 74) hx hb dX1_closingWays_28 (by decide) (fun c28 => ?_) (fun c28 => ?_)
        ·
          have c28 : on ≤ i := (nI_leI (a := on) (b := i) (by omega) (by omega)).mp c28
          refine lv_iload_n hx hb dX1_closingWays_74 rfl (lv_at hl 3 rfl) ?_
          subst hQ
          have hP9 : va_P (dC, dI0) vwCl [(h1, .inr (1, [.ref o1, .ref o2, .ref o3, .ref o4, .ref o5, .ref o6, .int (nI on), .int (nI ev)])), (o1, .inl (cI, 7, .inl cA)), (o2, .inl (cI, 128, .inl wA)), (o3, .inl (cI, 128, .inl rA)), (o4, .inl (cI, 128, .inl xA)), (o5, .inl (cI, 49, .inl tA)), (o6, .inl (cI, 896, .inl gA))] H := hP
          have hD9 : va_D A [(h1, .inr (1, [.ref o1, .ref o2, .ref o3, .ref o4, .ref o5, .ref o6, .int (nI on), .int (nI ev)])), (o1, .inl (cI, 7, .inl cA)), (o2, .inl (cI, 128, .inl wA)), (o3, .inl (cI, 128, .inl rA)), (o4, .inl (cI, 128, .inl xA)), (o5, .inl (cI, 49, .inl tA)), (o6, .inl (cI, 896, .inl gA))] := hD
          exact W.iret (v := nI a) hx hb hr (fun t9 ht9 hW9 => ⟨⟨nI a, (), rfl, by rw [ha, show i = on by omega, ← clS_eq ho7 (by omega) (by omega)], by rw [ht9]; exact hP9, va_K.moved hW9.alike hK, hD9⟩, hS.F ht9⟩) hS.2.2 dX1_closingWays_75
        have c28 : ¬ on ≤ i := fun z => c28 ((nI_leI (a := on) (b := i) (by omega) (by omega)).mpr z)
        refine lv_aload_n hx hb dX1_closingWays_31 rfl (lv_at hl 0 rfl) ?_
        refine va_get (D := (dC, dI0)) (ci := 1) (v := .ref o1) (C := RX1) (T := TX1) (N := 8) hx hb hts hin_X1 hown hK hP 0 rfl rfl 0 (by decide) hf11 (fun _ h9 => h9) rfl dX1_closingWays_32 ?_
        refine lv_iload_n hx hb dX1_closingWays_35 rfl (lv_at hl 2 rfl) ?_
        refine va_iald hx hb hK hP 1 0 rfl rfl (vp_in_nI (by omega) (by decide)) dX1_closingWays_36 ?_
        refine lv_topi (fun x36 e36 => ?_)
        rw [nI_clamp (n := lt) (by omega)] at e36
        have hcv := (hcc lt (by omega)).2
        obtain rfl : x36 = nI (cs lt) := e36.trans (hcc lt (by omega)).1
        refine lv_iload_n hx hb dX1_closingWays_37 rfl (lv_at hl 1 rfl) ?_
        refine lv_iconst (v := (-1)) hx hb dX1_closingWays_38 (by decide) ?_
        refine lv_ixor hx hb dX1_closingWays_39 ?_
        refine lv_topi (fun x39 e39 => ?_)
        refine lv_iand hx hb dX1_closingWays_40 ?_
        refine lv_topi (fun x40 e40 => ?_)
        obtain rfl : x40 = nI (andn (cs lt) P) := e40.trans (by rw [e39]; exact andn_nI _ _)
        refine lv_iload hx hb dX1_closingWays_41 (lv_at hl 4 rfl) ?_
        have hcc2 : andn (cs lt) P ≤ ev := by
            have h1 : andn (cs lt) P < 2 ^ on := by
              unfold andn
              exact Nat.xor_lt_two_pow (by omega) (Nat.lt_of_le_of_lt Nat.and_le_left (by omega))
            omega
        have hPc := hP.sub (ws' := []) [] rfl
        have hDc := hD.sub (ws' := []) [] (by decide) rfl
        have hFc := va_free (wc := []) hD hS hA [] rfl
        refine va_calli (va_runS (As := [.int (nI (andn (cs lt) P)), .int (nI i)]) (rest := []) ⟨hx, hb, hml, hown, hts⟩ (KX1_isIn l dC dI0 cI cZ  H.size (andn (cs lt) P) i (by first | assumption | omega) (by first | assumption | omega)) (va_cwS 2 hts gX1_closingWays_X1_isIn rfl rfl rfl (by decide +kernel) ⟨Nat.le_of_ble_eq_true rfl, Nat.le_of_ble_eq_true rfl⟩) ⟨fun a U g mk q => by obtain ⟨q0, q1, qP, qK, qD⟩ := q; exact ⟨q0, q1, qP, va_K.moved (u := U) (U := U.calling g mk a) (Vm.Alike.refl U.vm) qK, qD⟩, fun U hU hW => ⟨rfl, by rw [hU], by rw [hU]; exact hPc, va_K.moved hW.alike hK, hDc.weaken (fun _ _ _ _ => trivial)⟩⟩ rfl rfl hl.1 rfl (lv_room (Nat.le_of_ble_eq_true rfl)) dX1_closingWays_43 ⟨Nat.le_of_ble_eq_true rfl, Nat.le_of_ble_eq_true rfl⟩) hS (fun q _ h => hFc q h) hFc (fun r43 u43 t7 H1 locs ht7 hvm7 hw43 hB hz1 hk1 hS => ?_)
        obtain ⟨hP1, hK1, hD1⟩ := hB
        rw [ht7] at hP1
        try dsimp only at hw43 hP1 hD1
        obtain ⟨hP, hD⟩ := va_join (wr := [(h1, .inr (1, [.ref o1, .ref o2, .ref o3, .ref o4, .ref o5, .ref o6, .int (nI on), .int (nI ev)])), (o1, .inl (cI, 7, .inl cA)), (o2, .inl (cI, 128, .inl wA)), (o3, .inl (cI, 128, .inl rA)), (o4, .inl (cI, 128, .inl xA)), (o5, .inl (cI, 49, .inl tA)), (o6, .inl (cI, 896, .inl gA))]) (w1 := []) hP hD [] [0, 1, 2, 3, 4, 5, 6] rfl rfl (by decide) (by decide) hk1 hFc hP1 hD1
        generalize H1 = H at hP hS ⊢
        have hP := hP.sub (ws' := [(h1, .inr (1, [.ref o1, .ref o2, .ref o3, .ref o4, .ref o5, .ref o6, .int (nI on), .int (nI ev)])), (o1, .inl (cI, 7, .inl cA)), (o2, .inl (cI, 128, .inl wA)), (o3, .inl (cI, 128, .inl rA)), (o4, .inl (cI, 128, .inl xA)), (o5, .inl (cI, 49, .inl tA)), (o6, .inl (cI, 896, .inl gA))]) [0, 1, 2, 3, 4, 5, 6] rfl
        have hD := hD.sub (ws' := [(h1, .inr (1, [.ref o1, .ref o2, .ref o3, .ref o4, .ref o5, .ref o6, .int (nI on), .int (nI ev)])), (o1, .inl (cI, 7, .inl cA)), (o2, .inl (cI, 128, .inl wA)), (o3, .inl (cI, 128, .inl rA)), (o4, .inl (cI, 128, .inl xA)), (o5, .inl (cI, 49, .inl tA)), (o6, .inl (cI, 896, .inl gA))]) [0, 1, 2, 3, 4, 5, 6] (by decide) rfl
        obtain rfl : r43 = bI ((andn (cs lt) P).testBit i) := hw43
        refine lv_if_eq (tgt := 68) hx hb dX1_closingWays_46 (by decide) (fun c46 => ?_) (fun c46 => ?_)
        ·
          have c46 : ((andn (cs lt) P).testBit i) = false := bI_0 c46
          refine lv_iinc (v := nI (i + 1)) (lv' := [(4, .int (nI (i + 1))), (0, .ref h1), (1, .int (nI P)), (2, .int (nI lt)), (3, .int (nI a))]) hx hb dX1_closingWays_68 hl (k := 4) rfl (show nI i + Int32.ofInt 1 = nI (i + 1) from nI_add _ _) (by decide) rfl (fun ls hl => ?_)
          refine lv_goto (tgt := 22) hx hb dX1_closingWays_71 (by decide) ?_
          exact ih22 (i + 1) a (by omega) (by rw [ha, smS, if_neg (by rw [c46]; decide), Nat.add_zero]) (by omega) _ _ hP hD hS ls (lv_sub hl [1, 2, 3, 4, 0] rfl)
        have c46 : ((andn (cs lt) P).testBit i) = true := bI_n0 c46
        have hpt : P.testBit i = false := by
            rw [tb_andn] at c46
            cases hx9 : P.testBit i with
            | false => rfl
            | true => rw [hx9, Bool.not_true, Bool.and_false] at c46; cases c46
        have had := add_ok P (by omega) i (by omega) hpt
        have hlt2 := add_lt ho7 (show P < 2 ^ on by omega) (show i < on by omega) hpt
        have hpi := Nat.two_pow_pos i
        have hodd : (P ||| 2 ^ i) % 2 = 1 := by rw [← Nat.and_one_is_mod] at hPo ⊢; rw [Nat.and_or_distrib_right, hPo]; exact or_1 i
        refine lv_iload_n hx hb dX1_closingWays_49 rfl (lv_at hl 3 rfl) ?_
        refine lv_aload_n hx hb dX1_closingWays_50 rfl (lv_at hl 0 rfl) ?_
        refine va_get (D := (dC, dI0)) (ci := 1) (v := .ref o6) (C := RX1) (T := TX1) (N := 8) hx hb hts hin_X1 hown hK hP 0 rfl rfl 5 (by decide) hf29 (fun _ h9 => h9) rfl dX1_closingWays_51 ?_
        refine lv_iload_n hx hb dX1_closingWays_54 rfl (lv_at hl 1 rfl) ?_
        refine lv_iconst (v := nI 1) hx hb dX1_closingWays_55 (by decide) ?_
        refine lv_iload hx hb dX1_closingWays_56 (lv_at hl 4 rfl) ?_
        refine lv_ishl hx hb dX1_closingWays_58 ?_
        refine lv_topi (fun x58 e58 => ?_)
        obtain rfl : x58 = nI (2 ^ i) := e58.trans (shl_1 (by omega))
        refine lv_ior hx hb dX1_closingWays_59 ?_
        refine lv_topi (fun x59 e59 => ?_)
        obtain rfl : x59 = nI (P ||| (2 ^ i)) := e59.trans (or_nI _ _)
        refine lv_iload hx hb dX1_closingWays_60 (lv_at hl 4 rfl) ?_
        have hPc := hP.sub (ws' := []) [] rfl
        have hDc := hD.sub (ws' := []) [] (by decide) rfl
        have hFc := va_free (wc := []) hD hS hA [] rfl
        refine va_calli (va_runS (As := [.int (nI (P ||| (2 ^ i))), .int (nI i)]) (rest := [.ref o6, .int (nI a)]) ⟨hx, hb, hml, hown, hts⟩ (KX1_cell l dC dI0 cI cZ  H.size (P ||| (2 ^ i)) i) (va_cwS 2 hts gX1_closingWays_X1_cell rfl rfl rfl (by decide +kernel) ⟨Nat.le_of_ble_eq_true rfl, Nat.le_of_ble_eq_true rfl⟩) ⟨fun a U g mk q => by obtain ⟨q0, q1, qP, qK, qD⟩ := q; exact ⟨q0, q1, qP, va_K.moved (u := U) (U := U.calling g mk a) (Vm.Alike.refl U.vm) qK, qD⟩, fun U hU hW => ⟨rfl, by rw [hU], by rw [hU]; exact hPc, va_K.moved hW.alike hK, hDc.weaken (fun _ _ _ _ => trivial)⟩⟩ rfl rfl hl.1 rfl (lv_room (Nat.le_of_ble_eq_true rfl)) dX1_closingWays_62 ⟨Nat.le_of_ble_eq_true rfl, Nat.le_of_ble_eq_true rfl⟩) hS (fun q _ h => hFc q h) hFc (fun r62 u62 t7 H1 locs ht7 hvm7 hw62 hB hz1 hk1 hS => ?_)
        obtain ⟨hP1, hK1, hD1⟩ := hB
        rw [ht7] at hP1
        try dsimp only at hw62 hP1 hD1
        obtain ⟨hP, hD⟩ := va_join (wr := [(h1, .inr (1, [.ref o1, .ref o2, .ref o3, .ref o4, .ref o5, .ref o6, .int (nI on), .int (nI ev)])), (o1, .inl (cI, 7, .inl cA)), (o2, .inl (cI, 128, .inl wA)), (o3, .inl (cI, 128, .inl rA)), (o4, .inl (cI, 128, .inl xA)), (o5, .inl (cI, 49, .inl tA)), (o6, .inl (cI, 896, .inl gA))]) (w1 := []) hP hD [] [0, 1, 2, 3, 4, 5, 6] rfl rfl (by decide) (by decide) hk1 hFc hP1 hD1
        generalize H1 = H at hP hS ⊢
        have hP := hP.sub (ws' := [(h1, .inr (1, [.ref o1, .ref o2, .ref o3, .ref o4, .ref o5, .ref o6, .int (nI on), .int (nI ev)])), (o1, .inl (cI, 7, .inl cA)), (o2, .inl (cI, 128, .inl wA)), (o3, .inl (cI, 128, .inl rA)), (o4, .inl (cI, 128, .inl xA)), (o5, .inl (cI, 49, .inl tA)), (o6, .inl (cI, 896, .inl gA))]) [0, 1, 2, 3, 4, 5, 6] rfl
        have hD := hD.sub (ws' := [(h1, .inr (1, [.ref o1, .ref o2, .ref o3, .ref o4, .ref o5, .ref o6, .int (nI on), .int (nI ev)])), (o1, .inl (cI, 7, .inl cA)), (o2, .inl (cI, 128, .inl wA)), (o3, .inl (cI, 128, .inl rA)), (o4, .inl (cI, 128, .inl xA)), (o5, .inl (cI, 49, .inl tA)), (o6, .inl (cI, 896, .inl gA))]) [0, 1, 2, 3, 4, 5, 6] (by decide) rfl
        obtain rfl : r62 = nI ((P ||| (2 ^ i)) * 7 + i) := hw62
        refine va_iald hx hb hK hP 6 0 rfl rfl (vp_in_nI (by rw [had.1]; omega) (by decide)) dX1_closingWays_65 ?_
        refine lv_topi (fun x65 e65 => ?_)
        rw [nI_clamp (n := (P ||| (2 ^ i)) * 7 + i) (by rw [had.1]; omega)] at e65
        obtain rfl : x65 = nI (clS cs on (P ||| 2 ^ i) i) := e65.trans (hG _ _ (by rw [had.1]; omega) (by rw [had.1]; omega) hodd (by omega) (by rw [had.1]; exact had.2.2.2))
        refine lv_iadd hx hb dX1_closingWays_66 ?_
        refine lv_topi (fun x66 e66 => ?_)
        obtain rfl : x66 = nI (a + (clS cs on (P ||| 2 ^ i) i)) := e66.trans (nI_add _ _)
        refine lv_istore_n (lv' := [(3, .int (nI (a + (clS cs on (P ||| 2 ^ i) i)))), (0, .ref h1), (1, .int (nI P)), (2, .int (nI lt)), (4, .int (nI i))]) hx hb dX1_closingWays_67 rfl hl (by decide) rfl (fun ls hl => ?_)
        refine lv_iinc (v := nI (i + 1)) (lv' := [(4, .int (nI (i + 1))), (3, .int (nI (a + (clS cs on (P ||| 2 ^ i) i)))), (0, .ref h1), (1, .int (nI P)), (2, .int (nI lt))]) hx hb dX1_closingWays_68 hl (k := 4) rfl (show nI i + Int32.ofInt 1 = nI (i + 1) from nI_add _ _) (by decide) rfl (fun ls hl => ?_)
        refine lv_goto (tgt := 22) hx hb dX1_closingWays_71 (by decide) ?_
        exact ih22 (i + 1) (a + (clS cs on (P ||| 2 ^ i) i)) (by omega) (by rw [ha, smS, if_pos c46]) (by omega) _ _ hP hD hS ls (lv_sub hl [2, 3, 4, 1, 0] rfl)
    exact L22 _ 0 0 (by omega) (rfl) (Nat.lt_succ_self _) _ _ hP hD hS ls (lv_sub hl [2, 3, 4, 1, 0] rfl)
  have c5 : P = ev := (nI_eq (a := P) (b := ev) (by omega) (by omega)).mp c5
  refine lv_aload_n hx hb dX1_closingWays_8 rfl (lv_at hl 0 rfl) ?_
  refine va_get (D := (dC, dI0)) (ci := 1) (v := .ref o1) (C := RX1) (T := TX1) (N := 8) hx hb hts hin_X1 hown hK hP 0 rfl rfl 0 (by decide) hf11 (fun _ h9 => h9) rfl dX1_closingWays_9 ?_
  refine lv_iload_n hx hb dX1_closingWays_12 rfl (lv_at hl 2 rfl) ?_
  refine va_iald hx hb hK hP 1 0 rfl rfl (vp_in_nI (by omega) (by decide)) dX1_closingWays_13 ?_
  refine lv_topi (fun x13 e13 => ?_)
  rw [nI_clamp (n := lt) (by omega)] at e13
  have hcv := (hcc lt (by omega)).2
  obtain rfl : x13 = nI (cs lt) := e13.trans (hcc lt (by omega)).1
  refine lv_iconst (v := nI 1) hx hb dX1_closingWays_14 (by decide) ?_
  refine lv_iand hx hb dX1_closingWays_15 ?_
  refine lv_topi (fun x15 e15 => ?_)
  obtain rfl : x15 = nI ((cs lt) % 2) := e15.trans (and_1 _)
  subst hQ
  have hP9 : va_P (dC, dI0) vwCl [(h1, .inr (1, [.ref o1, .ref o2, .ref o3, .ref o4, .ref o5, .ref o6, .int (nI on), .int (nI ev)])), (o1, .inl (cI, 7, .inl cA)), (o2, .inl (cI, 128, .inl wA)), (o3, .inl (cI, 128, .inl rA)), (o4, .inl (cI, 128, .inl xA)), (o5, .inl (cI, 49, .inl tA)), (o6, .inl (cI, 896, .inl gA))] H := hP
  have hD9 : va_D A [(h1, .inr (1, [.ref o1, .ref o2, .ref o3, .ref o4, .ref o5, .ref o6, .int (nI on), .int (nI ev)])), (o1, .inl (cI, 7, .inl cA)), (o2, .inl (cI, 128, .inl wA)), (o3, .inl (cI, 128, .inl rA)), (o4, .inl (cI, 128, .inl xA)), (o5, .inl (cI, 49, .inl tA)), (o6, .inl (cI, 896, .inl gA))] := hD
  exact W.iret (v := nI ((cs lt) % 2)) hx hb hr (fun t9 ht9 hW9 => ⟨⟨nI ((cs lt) % 2), (), rfl, by rw [c5, show ev = 2 ^ on - 1 by omega, clS_f ho7], by rw [ht9]; exact hP9, va_K.moved hW9.alike hK, hD9⟩, hS.F ht9⟩) hS.2.2 dX1_closingWays_16
