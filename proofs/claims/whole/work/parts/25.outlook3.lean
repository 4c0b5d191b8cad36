set_option maxHeartbeats 4000000 in
set_option maxRecDepth 100000 in
theorem KX1_roundWays (l : Launch) (dC : Nat → ClassId) (dI0 : Nat → Nat → Nat) (cI cZ : ClassId) (h1 : Nat) (o1 : Nat) (o2 : Nat) (o3 : Nat) (o4 : Nat) (o5 : Nat) (o6 : Nat) (on : Nat) (ev : Nat) (cA : Nat → Int32) (wA : Nat → Int32) (rA : Nat → Int32) (xA : Nat → Int32) (tA : Nat → Int32) (gA : Nat → Int32) (sz : Nat) (cs : Nat → Nat) (hO : OuR on ev cA cs) (hn1 : 1 ≤ on) : Met l yX1_roundWays wsX1_roundWays ({ frames := 2, cells := 0, slots := 0, locals := 45 } : Room) (va_Pc [.ref h1] (fun U => U.heap.size = sz ∧ va_P (dC, dI0) vwCl (WOu cI cZ h1 o1 o2 o3 o4 o5 o6 on ev cA wA rA xA tA gA) U.heap ∧ va_K (dC, dI0) vwCl [(cI, .int), (cZ, .boolean)] U ∧ va_D (fun _ => True) (WOu cI cZ h1 o1 o2 o3 o4 o5 o6 on ev cA wA rA xA tA gA))) (va_Qi (fun (r : Int32) (u : Nat → Int32) => r = nI (clS cs on 1 0)) (fun (u : Nat → Int32) (t : State) => va_P (dC, dI0) vwCl (WOu cI cZ h1 o1 o2 o3 o4 o5 o6 on ev cA wA rA xA tA u) t.heap ∧ va_K (dC, dI0) vwCl [(cI, .int), (cZ, .boolean)] t ∧ va_D (va_A (WOu cI cZ h1 o1 o2 o3 o4 o5 o6 on ev cA wA rA xA tA gA) sz) (WOu cI cZ h1 o1 o2 o3 o4 o5 o6 on ev cA wA rA xA tA u)) (va_A (WOu cI cZ h1 o1 o2 o3 o4 o5 o6 on ev cA wA rA xA tA gA) sz)) 0 0 (va_A (WOu cI cZ h1 o1 o2 o3 o4 o5 o6 on ev cA wA rA xA tA gA) sz) := by
  refine Met.ofW (cc := cX1_roundWays) (maxL := 3) (ret := (some .int)) (by decide) rfl ?_
  intro prg env s m args below meth c s₁ B hml hv
  obtain ⟨rfl, hsz, hP, hK, hD0⟩ := hv
  have hx := B.exec
  have hb := B.bytes
  have hr := B.returns
  have hts := atoms_spec (ws := wsX1_roundWays) B.pre
  have hown : s.vm.findClass RX1 = some m.cls := findClass_of_methodNamed B.named
  have hlocks := B.notSynchronized
  subst hsz
  have hD := hD0.self (sz := s.heap.size)
  generalize hAe : va_A (WOu cI cZ h1 o1 o2 o3 o4 o5 o6 on ev cA wA rA xA tA gA) s.heap.size = A at hD ⊢
  have hA : ∀ q : Nat, s.heap.size ≤ q → A q := fun q h => by rw [← hAe]; exact Or.inr h
  have hS : va_S A s.heap s.heap [] := va_S.rf
  have hP : va_P (dC, dI0) vwCl [(h1, .inr (1, [.ref o1, .ref o2, .ref o3, .ref o4, .ref o5, .ref o6, .int (nI on), .int (nI ev)])), (o1, .inl (cI, 7, .inl cA)), (o2, .inl (cI, 128, .inl wA)), (o3, .inl (cI, 128, .inl rA)), (o4, .inl (cI, 128, .inl xA)), (o5, .inl (cI, 49, .inl tA)), (o6, .inl (cI, 896, .inl gA))] s.heap := hP
  have hD : va_D A [(h1, .inr (1, [.ref o1, .ref o2, .ref o3, .ref o4, .ref o5, .ref o6, .int (nI on), .int (nI ev)])), (o1, .inl (cI, 7, .inl cA)), (o2, .inl (cI, 128, .inl wA)), (o3, .inl (cI, 128, .inl rA)), (o4, .inl (cI, 128, .inl xA)), (o5, .inl (cI, 49, .inl tA)), (o6, .inl (cI, 896, .inl gA))] := hD
  have hl := lv_entry ([.ref h1]) (n := 3) (Nat.le_of_ble_eq_true rfl)
  rw [lg_entry_eq]
  generalize (lg_sl ([.ref h1]) ++ List.replicate (3 - (lg_sl ([.ref h1])).length) Slot.unset).toArray = ls at hl ⊢
  have hl : lv_has ls 3 [(0, .ref h1)] := hl
  obtain ⟨H, hH⟩ : ∃ H : Heap, H = s.heap := ⟨_, rfl⟩
  rw [← hH] at hP ⊢
  have hS : va_S A s.heap H [] := by rw [hH]; exact hS
  refine w_gen (fun Q hQ => ?_)
  have hin_X1 : ∀ w ∈ wsX10, w ∈ wsX1_roundWays := by decide +kernel
  have hf37 := hts (.fieldLink RX1 37 "HatNames$Outlook" "everyName" "I") (by decide +kernel)
  have hf29 := hts (.fieldLink RX1 29 "HatNames$Outlook" "closings" "[I") (by decide +kernel)
  have hf36 := hts (.fieldLink RX1 36 "HatNames$Outlook" "size" "I") (by decide +kernel)
  obtain ⟨ho7, hev, hev7, hcc⟩ := id hO
  have hodd : ev % 2 = 1 := by
      obtain ⟨m9, hm9⟩ : ∃ m9, on = m9 + 1 := ⟨on - 1, by omega⟩
      rw [hm9, Nat.pow_succ] at hev
      omega
  refine lv_aload_n hx hb dX1_roundWays_0 rfl (lv_at hl 0 rfl) ?_
  refine va_get (D := (dC, dI0)) (ci := 1) (v := .int (nI ev)) (C := RX1) (T := TX1) (N := 8) hx hb hts hin_X1 hown hK hP 0 rfl rfl 7 (by decide) hf37 (fun _ h9 => h9) rfl dX1_roundWays_1 ?_
  refine lv_istore_n (lv' := [(1, .int (nI ev)), (0, .ref h1)]) hx hb dX1_roundWays_4 rfl hl (by decide) rfl (fun ls hl => ?_)
  have L5 : ∀ (fu : Nat) (pv : Int32) (j : Nat) (g : Nat → Int32), pv = nI (2 * j) - 1 → 2 * j ≤ ev + 1 → (∀ T t, T ≤ ev → 2 * j ≤ T → T % 2 = 1 → t < on → T.testBit t = true → g (T * 7 + t) = nI (clS cs on T t)) → j < fu → ∀ (H : Heap) (locs : List Loc), va_P (dC, dI0) vwCl [(h1, .inr (1, [.ref o1, .ref o2, .ref o3, .ref o4, .ref o5, .ref o6, .int (nI on), .int (nI ev)])), (o1, .inl (cI, 7, .inl cA)), (o2, .inl (cI, 128, .inl wA)), (o3, .inl (cI, 128, .inl rA)), (o4, .inl (cI, 128, .inl xA)), (o5, .inl (cI, 49, .inl tA)), (o6, .inl (cI, 896, .inl g))] H → va_D A [(h1, .inr (1, [.ref o1, .ref o2, .ref o3, .ref o4, .ref o5, .ref o6, .int (nI on), .int (nI ev)])), (o1, .inl (cI, 7, .inl cA)), (o2, .inl (cI, 128, .inl wA)), (o3, .inl (cI, 128, .inl rA)), (o4, .inl (cI, 128, .inl xA)), (o5, .inl (cI, 49, .inl tA)), (o6, .inl (cI, 896, .inl g))] → va_S A s.heap H locs → ∀ (ls : Array Slot), lv_has ls 3 [(0, .ref h1), (1, .int pv)] → W prg l env ({ frames := 2, cells := 0, slots := 0, locals := 45 } : Room) s m ([.ref h1] : List Value).toArray below meth c H locs 0 0 Q (F0 m 5 ls []) := by
    intro fu
    induction fu with
    | zero => intro pv j g hpv hj hg hmu; exact absurd hmu (Nat.not_lt_zero _)
    | succ fu ih5 =>
      intro pv j g hpv hj hg hmu5 H locs hP hD hS ls hl
      refine lv_iload_n hx hb dX1_roundWays_5 rfl (lv_at hl 1 rfl) ?_
      refine lv_iconst (v := nI 1) hx hb dX1_roundWays_6 (by decide) ?_
      refine lv_icmp_lt (tgt := 56) hx hb dX1_roundWays_7 (by decide) (fun c7 => ?_) (fun c7 => ?_)
      ·
        have c7 := rw_T (by omega) (hpv ▸ c7)
        refine lv_aload_n hx hb dX1_roundWays_56 rfl (lv_at hl 0 rfl) ?_
        refine va_get (D := (dC, dI0)) (ci := 1) (v := .ref o6) (C := RX1) (T := TX1) (N := 8) hx hb hts hin_X1 hown hK hP 0 rfl rfl 5 (by decide) hf29 (fun _ h9 => h9) rfl dX1_roundWays_57 ?_
        refine lv_iconst (v := nI 1) hx hb dX1_roundWays_60 (by decide) ?_
        refine lv_iconst (v := nI 0) hx hb dX1_roundWays_61 (by decide) ?_
        have hPc := hP.sub (ws' := []) [] rfl
        have hDc := hD.sub (ws' := []) [] (by decide) rfl
        have hFc := va_free (wc := []) hD hS hA [] rfl
        refine va_calli (va_runS (As := [.int (nI 1), .int (nI 0)]) (rest := [.ref o6]) ⟨hx, hb, hml, hown, hts⟩ (KX1_cell l dC dI0 cI cZ  H.size 1 0) (va_cwS 2 hts gX1_roundWays_X1_cell rfl rfl rfl (by decide +kernel) ⟨Nat.le_of_ble_eq_true rfl, Nat.le_of_ble_eq_true rfl⟩) ⟨fun a U g mk q => by obtain ⟨q0, q1, qP, qK, qD⟩ := q; exact ⟨q0, q1, qP, va_K.moved (u := U) (U := U.calling g mk a) (Vm.Alike.refl U.vm) qK, qD⟩, fun U hU hW => ⟨rfl, by rw [hU], by rw [hU]; exact hPc, va_K.moved hW.alike hK, hDc.weaken (fun _ _ _ _ => trivial)⟩⟩ rfl rfl hl.1 rfl (lv_room (Nat.le_of_ble_eq_true rfl)) dX1_roundWays_62 ⟨Nat.le_of_ble_eq_true rfl, Nat.le_of_ble_eq_true rfl⟩) hS (fun q _ h => hFc q h) hFc (fun r62 u62 t7 H1 locs ht7 hvm7 hw62 hB hz1 hk1 hS => ?_)
        obtain ⟨hP1, hK1, hD1⟩ := hB
        rw [ht7] at hP1
        try dsimp only at hw62 hP1 hD1
        obtain ⟨hP, hD⟩ := va_join (wr := [(h1, .inr (1, [.ref o1, .ref o2, .ref o3, .ref o4, .ref o5, .ref o6, .int (nI on), .int (nI ev)])), (o1, .inl (cI, 7, .inl cA)), (o2, .inl (cI, 128, .inl wA)), (o3, .inl (cI, 128, .inl rA)), (o4, .inl (cI, 128, .inl xA)), (o5, .inl (cI, 49, .inl tA)), (o6, .inl (cI, 896, .inl g))]) (w1 := []) hP hD [] [0, 1, 2, 3, 4, 5, 6] rfl rfl (by decide) (by decide) hk1 hFc hP1 hD1
        generalize H1 = H at hP hS ⊢
        have hP := hP.sub (ws' := [(h1, .inr (1, [.ref o1, .ref o2, .ref o3, .ref o4, .ref o5, .ref o6, .int (nI on), .int (nI ev)])), (o1, .inl (cI, 7, .inl cA)), (o2, .inl (cI, 128, .inl wA)), (o3, .inl (cI, 128, .inl rA)), (o4, .inl (cI, 128, .inl xA)), (o5, .inl (cI, 49, .inl tA)), (o6, .inl (cI, 896, .inl g))]) [0, 1, 2, 3, 4, 5, 6] rfl
        have hD := hD.sub (ws' := [(h1, .inr (1, [.ref o1, .ref o2, .ref o3, .ref o4, .ref o5, .ref o6, .int (nI on), .int (nI ev)])), (o1, .inl (cI, 7, .inl cA)), (o2, .inl (cI, 128, .inl wA)), (o3, .inl (cI, 128, .inl rA)), (o4, .inl (cI, 128, .inl xA)), (o5, .inl (cI, 49, .inl tA)), (o6, .inl (cI, 896, .inl g))]) [0, 1, 2, 3, 4, 5, 6] (by decide) rfl
        obtain rfl : r62 = nI (1 * 7 + 0) := hw62
        refine va_iald hx hb hK hP 6 0 rfl rfl (vp_in_nI (by omega) (by decide)) dX1_roundWays_65 ?_
        refine lv_topi (fun x65 e65 => ?_)
        rw [nI_clamp (n := 1 * 7 + 0) (by omega)] at e65
        obtain rfl : x65 = nI (clS cs on 1 0) := e65.trans (hg 1 0 (by omega) (by omega) rfl (by omega) rfl)
        subst hQ
        have hP9 : va_P (dC, dI0) vwCl [(h1, .inr (1, [.ref o1, .ref o2, .ref o3, .ref o4, .ref o5, .ref o6, .int (nI on), .int (nI ev)])), (o1, .inl (cI, 7, .inl cA)), (o2, .inl (cI, 128, .inl wA)), (o3, .inl (cI, 128, .inl rA)), (o4, .inl (cI, 128, .inl xA)), (o5, .inl (cI, 49, .inl tA)), (o6, .inl (cI, 896, .inl g))] H := hP
        have hD9 : va_D A [(h1, .inr (1, [.ref o1, .ref o2, .ref o3, .ref o4, .ref o5, .ref o6, .int (nI on), .int (nI ev)])), (o1, .inl (cI, 7, .inl cA)), (o2, .inl (cI, 128, .inl wA)), (o3, .inl (cI, 128, .inl rA)), (o4, .inl (cI, 128, .inl xA)), (o5, .inl (cI, 49, .inl tA)), (o6, .inl (cI, 896, .inl g))] := hD
        exact W.iret (v := nI (clS cs on 1 0)) hx hb hr (fun t9 ht9 hW9 => ⟨⟨nI (clS cs on 1 0), g, rfl, rfl, by rw [ht9]; exact hP9, va_K.moved hW9.alike hK, hD9⟩, hS.F ht9⟩) hS.2.2 dX1_roundWays_66
      have d7 := rw_F (fun z => c7 (hpv ▸ z))
      have hpv2 : pv = nI (2 * j - 1) := hpv.trans (pred2 d7)
      subst hpv2
      have hl : lv_has ls 3 [(0, .ref h1), (1, .int (nI (2 * j - 1)))] := hl
      refine lv_iconst (v := nI 0) hx hb dX1_roundWays_10 (by decide) ?_
      refine lv_istore_n (lv' := [(2, .int (nI 0)), (0, .ref h1), (1, .int (nI (2 * j - 1)))]) hx hb dX1_roundWays_11 rfl hl (by decide) rfl (fun ls hl => ?_)
      have L12 : ∀ (fu : Nat) (i : Nat) (g2 : Nat → Int32), i ≤ on → (∀ T t, T ≤ ev → 2 * j ≤ T → T % 2 = 1 → t < on → T.testBit t = true → g2 (T * 7 + t) = nI (clS cs on T t)) → (∀ t, t < i → (2 * j - 1).testBit t = true → g2 ((2 * j - 1) * 7 + t) = nI (clS cs on (2 * j - 1) t)) → on - i < fu → ∀ (H : Heap) (locs : List Loc), va_P (dC, dI0) vwCl [(h1, .inr (1, [.ref o1, .ref o2, .ref o3, .ref o4, .ref o5, .ref o6, .int (nI on), .int (nI ev)])), (o1, .inl (cI, 7, .inl cA)), (o2, .inl (cI, 128, .inl wA)), (o3, .inl (cI, 128, .inl rA)), (o4, .inl (cI, 128, .inl xA)), (o5, .inl (cI, 49, .inl tA)), (o6, .inl (cI, 896, .inl g2))] H → va_D A [(h1, .inr (1, [.ref o1, .ref o2, .ref o3, .ref o4, .ref o5, .ref o6, .int (nI on), .int (nI ev)])), (o1, .inl (cI, 7, .inl cA)), (o2, .inl (cI, 128, .inl wA)), (o3, .inl (cI, 128, .inl rA)), (o4, .inl (cI, 128, .inl xA)), (o5, .inl (cI, 49, .inl tA)), (o6, .inl (cI, 896, .inl g2))] → va_S A s.heap H locs → ∀ (ls : Array Slot), lv_has ls 3 [(0, .ref h1), (1, .int (nI (2 * j - 1))), (2, .int (nI i))] → W prg l env ({ frames := 2, cells := 0, slots := 0, locals := 45 } : Room) s m ([.ref h1] : List Value).toArray below meth c H locs 0 0 Q (F0 m 12 ls []) := by
        intro fu
        induction fu with
        | zero => intro i g2 hi hg2a hg2b hmu; exact absurd hmu (Nat.not_lt_zero _)
        | succ fu ih12 =>
          intro i g2 hi hg2a hg2b hmu12 H locs hP hD hS ls hl
          refine lv_iload_n hx hb dX1_roundWays_12 rfl (lv_at hl 2 rfl) ?_
          refine lv_aload_n hx hb dX1_roundWays_13 rfl (lv_at hl 0 rfl) ?_
          refine va_get (D := (dC, dI0)) (ci := 1) (v := .int (nI on)) (C := RX1) (T := TX1) (N := 8) hx hb hts hin_X1 hown hK hP 0 rfl rfl 6 (by decide) hf36 (fun _ h9 => h9) rfl dX1_roundWays_14 ?_
          refine lv_icmp_ge (tgt := 50) hx hb dX1_roundWays_17 (by decide) (fun c17 => ?_) (fun c17 => ?_)
          ·
            have c17 : on ≤ i := (nI_leI (a := on) (b := i) (by omega) (by omega)).mp c17
            obtain ⟨x50, e50⟩ : ∃ y : Int32, y = (nI (2 * j - 1)) + Int32.ofInt (-2) := ⟨_, rfl⟩
            refine lv_iinc (v := x50) (lv' := [(1, .int x50), (0, .ref h1), (2, .int (nI i))]) hx hb dX1_roundWays_50 hl (k := 1) rfl e50.symm (by decide) rfl (fun ls hl => ?_)
            refine lv_goto (tgt := 5) hx hb dX1_roundWays_53 (by decide) ?_
            exact ih5 x50 (j - 1) g2 (e50.trans (rw_dec d7)) (by omega) (fun T t h1 h2 h3 h4 h5 => by
                by_cases e : T = 2 * j - 1
                · subst e; exact hg2b t (by omega) h5
                · exact hg2a T t h1 (by omega) h3 h4 h5) (by omega) _ _ hP hD hS ls (lv_sub hl [1, 0] rfl)
          have c17 : ¬ on ≤ i := fun z => c17 ((nI_leI (a := on) (b := i) (by omega) (by omega)).mpr z)
          refine lv_iload_n hx hb dX1_roundWays_20 rfl (lv_at hl 1 rfl) ?_
          refine lv_iload_n hx hb dX1_roundWays_21 rfl (lv_at hl 2 rfl) ?_
          have hPc := hP.sub (ws' := []) [] rfl
          have hDc := hD.sub (ws' := []) [] (by decide) rfl
          have hFc := va_free (wc := []) hD hS hA [] rfl
          refine va_calli (va_runS (As := [.int (nI (2 * j - 1)), .int (nI i)]) (rest := []) ⟨hx, hb, hml, hown, hts⟩ (KX1_isIn l dC dI0 cI cZ  H.size (2 * j - 1) i (by first | assumption | omega) (by first | assumption | omega)) (va_cwS 2 hts gX1_roundWays_X1_isIn rfl rfl rfl (by decide +kernel) ⟨Nat.le_of_ble_eq_true rfl, Nat.le_of_ble_eq_true rfl⟩) ⟨fun a U g mk q => by obtain ⟨q0, q1, qP, qK, qD⟩ := q; exact ⟨q0, q1, qP, va_K.moved (u := U) (U := U.calling g mk a) (Vm.Alike.refl U.vm) qK, qD⟩, fun U hU hW => ⟨rfl, by rw [hU], by rw [hU]; exact hPc, va_K.moved hW.alike hK, hDc.weaken (fun _ _ _ _ => trivial)⟩⟩ rfl rfl hl.1 rfl (lv_room (Nat.le_of_ble_eq_true rfl)) dX1_roundWays_22 ⟨Nat.le_of_ble_eq_true rfl, Nat.le_of_ble_eq_true rfl⟩) hS (fun q _ h => hFc q h) hFc (fun r22 u22 t7 H1 locs ht7 hvm7 hw22 hB hz1 hk1 hS => ?_)
          obtain ⟨hP1, hK1, hD1⟩ := hB
          rw [ht7] at hP1
          try dsimp only at hw22 hP1 hD1
          obtain ⟨hP, hD⟩ := va_join (wr := [(h1, .inr (1, [.ref o1, .ref o2, .ref o3, .ref o4, .ref o5, .ref o6, .int (nI on), .int (nI ev)])), (o1, .inl (cI, 7, .inl cA)), (o2, .inl (cI, 128, .inl wA)), (o3, .inl (cI, 128, .inl rA)), (o4, .inl (cI, 128, .inl xA)), (o5, .inl (cI, 49, .inl tA)), (o6, .inl (cI, 896, .inl g2))]) (w1 := []) hP hD [] [0, 1, 2, 3, 4, 5, 6] rfl rfl (by decide) (by decide) hk1 hFc hP1 hD1
          generalize H1 = H at hP hS ⊢
          have hP := hP.sub (ws' := [(h1, .inr (1, [.ref o1, .ref o2, .ref o3, .ref o4, .ref o5, .ref o6, .int (nI on), .int (nI ev)])), (o1, .inl (cI, 7, .inl cA)), (o2, .inl (cI, 128, .inl wA)), (o3, .inl (cI, 128, .inl rA)), (o4, .inl (cI, 128, .inl xA)), (o5, .inl (cI, 49, .inl tA)), (o6, .inl (cI, 896, .inl g2))]) [0, 1, 2, 3, 4, 5, 6] rfl
          have hD := hD.sub (ws' := [(h1, .inr (1, [.ref o1, .ref o2, .ref o3, .ref o4, .ref o5, .ref o6, .int (nI on), .int (nI ev)])), (o1, .inl (cI, 7, .inl cA)), (o2, .inl (cI, 128, .inl wA)), (o3, .inl (cI, 128, .inl rA)), (o4, .inl (cI, 128, .inl xA)), (o5, .inl (cI, 49, .inl tA)), (o6, .inl (cI, 896, .inl g2))]) [0, 1, 2, 3, 4, 5, 6] (by decide) rfl
          obtain rfl : r22 = bI ((2 * j - 1).testBit i) := hw22
          refine lv_if_eq (tgt := 44) hx hb dX1_roundWays_25 (by decide) (fun c25 => ?_) (fun c25 => ?_)
          ·
            have c25 : ((2 * j - 1).testBit i) = false := bI_0 c25
            refine lv_iinc (v := nI (i + 1)) (lv' := [(2, .int (nI (i + 1))), (0, .ref h1), (1, .int (nI (2 * j - 1)))]) hx hb dX1_roundWays_44 hl (k := 2) rfl (show nI i + Int32.ofInt 1 = nI (i + 1) from nI_add _ _) (by decide) rfl (fun ls hl => ?_)
            refine lv_goto (tgt := 12) hx hb dX1_roundWays_47 (by decide) ?_
            exact ih12 (i + 1) g2 (by omega) (hg2a) (fun t ht hb9 => by
                by_cases e : t = i
                · subst e; rw [c25] at hb9; cases hb9
                · exact hg2b t (by omega) hb9) (by omega) _ _ hP hD hS ls (lv_sub hl [1, 2, 0] rfl)
          have c25 : ((2 * j - 1).testBit i) = true := bI_n0 c25
          refine lv_aload_n hx hb dX1_roundWays_28 rfl (lv_at hl 0 rfl) ?_
          refine va_get (D := (dC, dI0)) (ci := 1) (v := .ref o6) (C := RX1) (T := TX1) (N := 8) hx hb hts hin_X1 hown hK hP 0 rfl rfl 5 (by decide) hf29 (fun _ h9 => h9) rfl dX1_roundWays_29 ?_
          refine lv_iload_n hx hb dX1_roundWays_32 rfl (lv_at hl 1 rfl) ?_
          refine lv_iload_n hx hb dX1_roundWays_33 rfl (lv_at hl 2 rfl) ?_
          have hPc := hP.sub (ws' := []) [] rfl
          have hDc := hD.sub (ws' := []) [] (by decide) rfl
          have hFc := va_free (wc := []) hD hS hA [] rfl
          refine va_calli (va_runS (As := [.int (nI (2 * j - 1)), .int (nI i)]) (rest := [.ref o6]) ⟨hx, hb, hml, hown, hts⟩ (KX1_cell l dC dI0 cI cZ  H.size (2 * j - 1) i) (va_cwS 2 hts gX1_roundWays_X1_cell rfl rfl rfl (by decide +kernel) ⟨Nat.le_of_ble_eq_true rfl, Nat.le_of_ble_eq_true rfl⟩) ⟨fun a U g mk q => by obtain ⟨q0, q1, qP, qK, qD⟩ := q; exact ⟨q0, q1, qP, va_K.moved (u := U) (U := U.calling g mk a) (Vm.Alike.refl U.vm) qK, qD⟩, fun U hU hW => ⟨rfl, by rw [hU], by rw [hU]; exact hPc, va_K.moved hW.alike hK, hDc.weaken (fun _ _ _ _ => trivial)⟩⟩ rfl rfl hl.1 rfl (lv_room (Nat.le_of_ble_eq_true rfl)) dX1_roundWays_34 ⟨Nat.le_of_ble_eq_true rfl, Nat.le_of_ble_eq_true rfl⟩) hS (fun q _ h => hFc q h) hFc (fun r34 u34 t7 H1 locs ht7 hvm7 hw34 hB hz1 hk1 hS => ?_)
          obtain ⟨hP1, hK1, hD1⟩ := hB
          rw [ht7] at hP1
          try dsimp only at hw34 hP1 hD1
          obtain ⟨hP, hD⟩ := va_join (wr := [(h1, .inr (1, [.ref o1, .ref o2, .ref o3, .ref o4, .ref o5, .ref o6, .int (nI on), .int (nI ev)])), (o1, .inl (cI, 7, .inl cA)), (o2, .inl (cI, 128, .inl wA)), (o3, .inl (cI, 128, .inl rA)), (o4, .inl (cI, 128, .inl xA)), (o5, .inl (cI, 49, .inl tA)), (o6, .inl (cI, 896, .inl g2))]) (w1 := []) hP hD [] [0, 1, 2, 3, 4, 5, 6] rfl rfl (by decide) (by decide) hk1 hFc hP1 hD1
          generalize H1 = H at hP hS ⊢
          have hP := hP.sub (ws' := [(h1, .inr (1, [.ref o1, .ref o2, .ref o3, .ref o4, .ref o5, .ref o6, .int (nI on), .int (nI ev)])), (o1, .inl (cI, 7, .inl cA)), (o2, .inl (cI, 128, .inl wA)), (o3, .inl (cI, 128, .inl rA)), (o4, .inl (cI, 128, .inl xA)), (o5, .inl (cI, 49, .inl tA)), (o6, .inl (cI, 896, .inl g2))]) [0, 1, 2, 3, 4, 5, 6] rfl
          have hD := hD.sub (ws' := [(h1, .inr (1, [.ref o1, .ref o2, .ref o3, .ref o4, .ref o5, .ref o6, .int (nI on), .int (nI ev)])), (o1, .inl (cI, 7, .inl cA)), (o2, .inl (cI, 128, .inl wA)), (o3, .inl (cI, 128, .inl rA)), (o4, .inl (cI, 128, .inl xA)), (o5, .inl (cI, 49, .inl tA)), (o6, .inl (cI, 896, .inl g2))]) [0, 1, 2, 3, 4, 5, 6] (by decide) rfl
          obtain rfl : r34 = nI ((2 * j - 1) * 7 + i) := hw34
          refine lv_aload_n hx hb dX1_roundWays_37 rfl (lv_at hl 0 rfl) ?_
          refine lv_iload_n hx hb dX1_roundWays_38 rfl (lv_at hl 1 rfl) ?_
          refine lv_iload_n hx hb dX1_roundWays_39 rfl (lv_at hl 2 rfl) ?_
          have hPc := hP.sub (ws' := [(h1, .inr (1, [.ref o1, .ref o2, .ref o3, .ref o4, .ref o5, .ref o6, .int (nI on), .int (nI ev)])), (o1, .inl (cI, 7, .inl cA)), (o2, .inl (cI, 128, .inl wA)), (o3, .inl (cI, 128, .inl rA)), (o4, .inl (cI, 128, .inl xA)), (o5, .inl (cI, 49, .inl tA)), (o6, .inl (cI, 896, .inl g2))]) [0, 1, 2, 3, 4, 5, 6] rfl
          have hDc := hD.sub (ws' := [(h1, .inr (1, [.ref o1, .ref o2, .ref o3, .ref o4, .ref o5, .ref o6, .int (nI on), .int (nI ev)])), (o1, .inl (cI, 7, .inl cA)), (o2, .inl (cI, 128, .inl wA)), (o3, .inl (cI, 128, .inl rA)), (o4, .inl (cI, 128, .inl xA)), (o5, .inl (cI, 49, .inl tA)), (o6, .inl (cI, 896, .inl g2))]) [0, 1, 2, 3, 4, 5, 6] (by decide) rfl
          have hFc := va_free (wc := [(h1, .inr (1, [.ref o1, .ref o2, .ref o3, .ref o4, .ref o5, .ref o6, .int (nI on), .int (nI ev)])), (o1, .inl (cI, 7, .inl cA)), (o2, .inl (cI, 128, .inl wA)), (o3, .inl (cI, 128, .inl rA)), (o4, .inl (cI, 128, .inl xA)), (o5, .inl (cI, 49, .inl tA)), (o6, .inl (cI, 896, .inl g2))]) hD hS hA [0, 1, 2, 3, 4, 5, 6] rfl
          refine va_calli (va_runV (As := [.int (nI (2 * j - 1)), .int (nI i)]) (rest := [.int (nI ((2 * j - 1) * 7 + i)), .ref o6]) ⟨hx, hb, hml, hown, hts⟩ (KX1_closingWays l dC dI0 cI cZ h1 o1 o2 o3 o4 o5 o6 on ev cA wA rA xA tA g2 H.size cs (2 * j - 1) i (by first | assumption | omega) (by first | assumption | omega) (by first | assumption | omega) (by first | assumption | omega) (fun T t h1 h2 h3 h4 h5 => hg2a T t h1 (by omega) h3 h4 h5)) (cwV 2 hts gX1_roundWays_X1_closingWays rfl rfl rfl (by decide +kernel) ⟨Nat.le_of_ble_eq_true rfl, Nat.le_of_ble_eq_true rfl⟩) ⟨fun a U g mk q => by obtain ⟨q0, q1, qP, qK, qD⟩ := q; exact ⟨q0, q1, qP, va_K.moved (u := U) (U := U.calling g mk a) (Vm.Alike.refl U.vm) qK, qD⟩, va_recv hK hPc (ci := 1) (q0 := 0) rfl rfl, fun U hU hW => ⟨rfl, by rw [hU], by rw [hU]; exact hPc, va_K.moved hW.alike hK, hDc.weaken (fun _ _ _ _ => trivial)⟩⟩ rfl rfl hl.1 rfl (lv_room (Nat.le_of_ble_eq_true rfl)) dX1_roundWays_40 ⟨Nat.le_of_ble_eq_true rfl, Nat.le_of_ble_eq_true rfl⟩) hS (fun q _ h => hFc q h) hFc (fun r40 u40 t7 H1 locs ht7 hvm7 hw40 hB hz1 hk1 hS => ?_)
          obtain ⟨hP1, hK1, hD1⟩ := hB
          rw [ht7] at hP1
          try dsimp only at hw40 hP1 hD1
          obtain ⟨hP, hD⟩ := va_join (wr := []) (w1 := [(h1, .inr (1, [.ref o1, .ref o2, .ref o3, .ref o4, .ref o5, .ref o6, .int (nI on), .int (nI ev)])), (o1, .inl (cI, 7, .inl cA)), (o2, .inl (cI, 128, .inl wA)), (o3, .inl (cI, 128, .inl rA)), (o4, .inl (cI, 128, .inl xA)), (o5, .inl (cI, 49, .inl tA)), (o6, .inl (cI, 896, .inl g2))]) hP hD [0, 1, 2, 3, 4, 5, 6] [] rfl rfl (by decide) (by decide) hk1 hFc hP1 hD1
          generalize H1 = H at hP hS ⊢
          have hP := hP.sub (ws' := [(h1, .inr (1, [.ref o1, .ref o2, .ref o3, .ref o4, .ref o5, .ref o6, .int (nI on), .int (nI ev)])), (o1, .inl (cI, 7, .inl cA)), (o2, .inl (cI, 128, .inl wA)), (o3, .inl (cI, 128, .inl rA)), (o4, .inl (cI, 128, .inl xA)), (o5, .inl (cI, 49, .inl tA)), (o6, .inl (cI, 896, .inl g2))]) [0, 1, 2, 3, 4, 5, 6] rfl
          have hD := hD.sub (ws' := [(h1, .inr (1, [.ref o1, .ref o2, .ref o3, .ref o4, .ref o5, .ref o6, .int (nI on), .int (nI ev)])), (o1, .inl (cI, 7, .inl cA)), (o2, .inl (cI, 128, .inl wA)), (o3, .inl (cI, 128, .inl rA)), (o4, .inl (cI, 128, .inl xA)), (o5, .inl (cI, 49, .inl tA)), (o6, .inl (cI, 896, .inl g2))]) [0, 1, 2, 3, 4, 5, 6] (by decide) rfl
          obtain rfl : r40 = nI (clS cs on (2 * j - 1) i) := hw40
          refine va_iast hx hb hK hP hD hS 6 0 rfl rfl (vp_in_nI (by omega) (by decide)) dX1_roundWays_43 (fun H locs hP hD hS => ?_)
          rw [nI_clamp (n := (2 * j - 1) * 7 + i) (by omega)] at hP hD
          have hP : va_P (dC, dI0) vwCl [(h1, .inr (1, [.ref o1, .ref o2, .ref o3, .ref o4, .ref o5, .ref o6, .int (nI on), .int (nI ev)])), (o1, .inl (cI, 7, .inl cA)), (o2, .inl (cI, 128, .inl wA)), (o3, .inl (cI, 128, .inl rA)), (o4, .inl (cI, 128, .inl xA)), (o5, .inl (cI, 49, .inl tA)), (o6, .inl (cI, 896, .inl (upd g2 ((2 * j - 1) * 7 + i) (nI (clS cs on (2 * j - 1) i)))))] H := hP
          have hD : va_D A [(h1, .inr (1, [.ref o1, .ref o2, .ref o3, .ref o4, .ref o5, .ref o6, .int (nI on), .int (nI ev)])), (o1, .inl (cI, 7, .inl cA)), (o2, .inl (cI, 128, .inl wA)), (o3, .inl (cI, 128, .inl rA)), (o4, .inl (cI, 128, .inl xA)), (o5, .inl (cI, 49, .inl tA)), (o6, .inl (cI, 896, .inl (upd g2 ((2 * j - 1) * 7 + i) (nI (clS cs on (2 * j - 1) i)))))] := hD
          refine lv_iinc (v := nI (i + 1)) (lv' := [(2, .int (nI (i + 1))), (0, .ref h1), (1, .int (nI (2 * j - 1)))]) hx hb dX1_roundWays_44 hl (k := 2) rfl (show nI i + Int32.ofInt 1 = nI (i + 1) from nI_add _ _) (by decide) rfl (fun ls hl => ?_)
          refine lv_goto (tgt := 12) hx hb dX1_roundWays_47 (by decide) ?_
          exact ih12 (i + 1) (upd g2 ((2 * j - 1) * 7 + i) (nI (clS cs on (2 * j - 1) i))) (by omega) (fun T t h1 h2 h3 h4 h5 => by rw [pk_un (by omega)]; exact hg2a T t h1 h2 h3 h4 h5) (fun t ht hb9 => by
              by_cases e : t = i
              · subst e; rw [pk_us]
              · rw [pk_un (by omega)]; exact hg2b t (by omega) hb9) (by omega) _ _ hP hD hS ls (lv_sub hl [1, 2, 0] rfl)
      exact L12 _ 0 g (by omega) (hg) (fun t ht => absurd ht (Nat.not_lt_zero _)) (Nat.lt_succ_self _) _ _ hP hD hS ls (lv_sub hl [1, 2, 0] rfl)
  exact L5 _ (nI ev) ((ev + 1) / 2) gA (by rw [show 2 * ((ev + 1) / 2) = ev + 1 by omega]; exact (nI_pred ev).symm) (by omega) (fun T t h1 h2 => absurd h2 (by omega)) (Nat.lt_succ_self _) _ _ hP hD hS ls (lv_sub hl [1, 0] rfl)

set_option maxHeartbeats 4000000 in
set_option maxRecDepth 100000 in
theorem KX1_nameInWay (l : Launch) (dC : Nat → ClassId) (dI0 : Nat → Nat → Nat) (cI cZ : ClassId) (h1 : Nat) (o1 : Nat) (o2 : Nat) (o3 : Nat) (o4 : Nat) (o5 : Nat) (o6 : Nat) (on : Nat) (ev : Nat) (cA : Nat → Int32) (wA : Nat → Int32) (rA : Nat → Int32) (xA : Nat → Int32) (tA : Nat → Int32) (gA : Nat → Int32) (sz : Nat) (cs : Nat → Nat) (w : Nat) (p : Nat) (hO : OuR on ev cA cs) (hW : ∀ T, T ≤ ev → wA T = nI (onS cs on T)) (hw : w < onS cs on ev) (hp : p < on) : Met l yX1_nameInWay wsX1_nameInWay ({ frames := 2, cells := 0, slots := 0, locals := 44 } : Room) (va_Pc [.ref h1, .int (nI w), .int (nI p)] (fun U => U.heap.size = sz ∧ va_P (dC, dI0) vwCl (WOu cI cZ h1 o1 o2 o3 o4 o5 o6 on ev cA wA rA xA tA gA) U.heap ∧ va_K (dC, dI0) vwCl [(cI, .int), (cZ, .boolean)] U ∧ va_D (fun _ => True) (WOu cI cZ h1 o1 o2 o3 o4 o5 o6 on ev cA wA rA xA tA gA))) (va_Qi (fun (r : Int32) (u : Unit) => r = nI (nwS cs on w p)) (fun (u : Unit) (t : State) => va_P (dC, dI0) vwCl (WOu cI cZ h1 o1 o2 o3 o4 o5 o6 on ev cA wA rA xA tA gA) t.heap ∧ va_K (dC, dI0) vwCl [(cI, .int), (cZ, .boolean)] t ∧ va_D (va_A (WOu cI cZ h1 o1 o2 o3 o4 o5 o6 on ev cA wA rA xA tA gA) sz) (WOu cI cZ h1 o1 o2 o3 o4 o5 o6 on ev cA wA rA xA tA gA)) (va_A (WOu cI cZ h1 o1 o2 o3 o4 o5 o6 on ev cA wA rA xA tA gA) sz)) 0 0 (va_A (WOu cI cZ h1 o1 o2 o3 o4 o5 o6 on ev cA wA rA xA tA gA) sz) := by
  refine Met.ofW (cc := cX1_nameInWay) (maxL := 7) (ret := (some .int)) (by decide) rfl ?_
  intro prg env s m args below meth c s₁ B hml hv
  obtain ⟨rfl, hsz, hP, hK, hD0⟩ := hv
  have hx := B.exec
  have hb := B.bytes
  have hr := B.returns
  have hts := atoms_spec (ws := wsX1_nameInWay) B.pre
  have hown : s.vm.findClass RX1 = some m.cls := findClass_of_methodNamed B.named
  have hlocks := B.notSynchronized
  subst hsz
  have hD := hD0.self (sz := s.heap.size)
  generalize hAe : va_A (WOu cI cZ h1 o1 o2 o3 o4 o5 o6 on ev cA wA rA xA tA gA) s.heap.size = A at hD ⊢
  have hA : ∀ q : Nat, s.heap.size ≤ q → A q := fun q h => by rw [← hAe]; exact Or.inr h
  have hS : va_S A s.heap s.heap [] := va_S.rf
  have hP : va_P (dC, dI0) vwCl [(h1, .inr (1, [.ref o1, .ref o2, .ref o3, .ref o4, .ref o5, .ref o6, .int (nI on), .int (nI ev)])), (o1, .inl (cI, 7, .inl cA)), (o2, .inl (cI, 128, .inl wA)), (o3, .inl (cI, 128, .inl rA)), (o4, .inl (cI, 128, .inl xA)), (o5, .inl (cI, 49, .inl tA)), (o6, .inl (cI, 896, .inl gA))] s.heap := hP
  have hD : va_D A [(h1, .inr (1, [.ref o1, .ref o2, .ref o3, .ref o4, .ref o5, .ref o6, .int (nI on), .int (nI ev)])), (o1, .inl (cI, 7, .inl cA)), (o2, .inl (cI, 128, .inl wA)), (o3, .inl (cI, 128, .inl rA)), (o4, .inl (cI, 128, .inl xA)), (o5, .inl (cI, 49, .inl tA)), (o6, .inl (cI, 896, .inl gA))] := hD
  have hl := lv_entry ([.ref h1, .int (nI w), .int (nI p)]) (n := 7) (Nat.le_of_ble_eq_true rfl)
  rw [lg_entry_eq]
  generalize (lg_sl ([.ref h1, .int (nI w), .int (nI p)]) ++ List.replicate (7 - (lg_sl ([.ref h1, .int (nI w), .int (nI p)])).length) Slot.unset).toArray = ls at hl ⊢
  have hl : lv_has ls 7 [(0, .ref h1), (1, .int (nI w)), (2, .int (nI p))] := hl
  obtain ⟨H, hH⟩ : ∃ H : Heap, H = s.heap := ⟨_, rfl⟩
  rw [← hH] at hP ⊢
  have hS : va_S A s.heap H [] := by rw [hH]; exact hS
  refine w_gen (fun Q hQ => ?_)
  have hin_X1 : ∀ w ∈ wsX10, w ∈ wsX1_nameInWay := by decide +kernel
  have hf37 := hts (.fieldLink RX1 37 "HatNames$Outlook" "everyName" "I") (by decide +kernel)
  have hf36 := hts (.fieldLink RX1 36 "HatNames$Outlook" "size" "I") (by decide +kernel)
  obtain ⟨ho7, hev, hev7, hcc⟩ := id hO
  refine lv_aload_n hx hb dX1_nameInWay_0 rfl (lv_at hl 0 rfl) ?_
  refine va_get (D := (dC, dI0)) (ci := 1) (v := .int (nI ev)) (C := RX1) (T := TX1) (N := 8) hx hb hts hin_X1 hown hK hP 0 rfl rfl 7 (by decide) hf37 (fun _ h9 => h9) rfl dX1_nameInWay_1 ?_
  refine lv_istore_n (lv' := [(3, .int (nI ev)), (0, .ref h1), (1, .int (nI w)), (2, .int (nI p))]) hx hb dX1_nameInWay_4 rfl hl (by decide) rfl (fun ls hl => ?_)
  refine lv_iload_n hx hb dX1_nameInWay_5 rfl (lv_at hl 2 rfl) ?_
  refine lv_istore (lv' := [(4, .int (nI w)), (3, .int (nI ev)), (0, .ref h1), (1, .int (nI w)), (2, .int (nI p))]) hx hb dX1_nameInWay_6 hl (by decide) rfl (fun ls hl => ?_)
  refine lv_iconst (v := nI 0) hx hb dX1_nameInWay_8 (by decide) ?_
  refine lv_istore (lv' := [(5, .int (nI 0)), (4, .int (nI w)), (3, .int (nI ev)), (0, .ref h1), (1, .int (nI w)), (2, .int (nI p))]) hx hb dX1_nameInWay_9 hl (by decide) rfl (fun ls hl => ?_)
  have L11 : ∀ (fu : Nat) (sd : Nat) (S : Nat) (a : Nat), sd ≤ p → S ≤ ev → pop S + sd = on → a < onS cs on S → nwS cs on w p = nwF cs on p (on - sd) sd S a → on - sd < fu → ∀ (H : Heap) (locs : List Loc), va_P (dC, dI0) vwCl [(h1, .inr (1, [.ref o1, .ref o2, .ref o3, .ref o4, .ref o5, .ref o6, .int (nI on), .int (nI ev)])), (o1, .inl (cI, 7, .inl cA)), (o2, .inl (cI, 128, .inl wA)), (o3, .inl (cI, 128, .inl rA)), (o4, .inl (cI, 128, .inl xA)), (o5, .inl (cI, 49, .inl tA)), (o6, .inl (cI, 896, .inl gA))] H → va_D A [(h1, .inr (1, [.ref o1, .ref o2, .ref o3, .ref o4, .ref o5, .ref o6, .int (nI on), .int (nI ev)])), (o1, .inl (cI, 7, .inl cA)), (o2, .inl (cI, 128, .inl wA)), (o3, .inl (cI, 128, .inl rA)), (o4, .inl (cI, 128, .inl xA)), (o5, .inl (cI, 49, .inl tA)), (o6, .inl (cI, 896, .inl gA))] → va_S A s.heap H locs → ∀ (ls : Array Slot), lv_has ls 7 [(0, .ref h1), (1, .int (nI w)), (2, .int (nI p)), (3, .int (nI S)), (4, .int (nI a)), (5, .int (nI sd))] → W prg l env ({ frames := 2, cells := 0, slots := 0, locals := 44 } : Room) s m ([.ref h1, .int (nI w), .int (nI p)] : List Value).toArray below meth c H locs 0 0 Q (F0 m 11 ls []) := by
    intro fu
    induction fu with
    | zero => intro sd S a hsd hS1 hpop ha ht hmu; exact absurd hmu (Nat.not_lt_zero _)
    | succ fu ih11 =>
      intro sd S a hsd hS1 hpop ha ht hmu11 H locs hP hD hS ls hl
      have hwl := onS_le cs ho7 S
      have hS0 : 0 < S := by
          rcases Nat.eq_zero_or_pos S with z | z
          · rw [z, pop_0] at hpop; omega
          · exact z
      have hon := onS_eq (cs := cs) ho7 (show S < 128 by omega) hS0
      rw [show on - pop S = sd by omega] at hon
      refine lv_iload hx hb dX1_nameInWay_11 (lv_at hl 5 rfl) ?_
      refine lv_iload_n hx hb dX1_nameInWay_13 rfl (lv_at hl 2 rfl) ?_
      refine lv_icmp_gt (tgt := 107) hx hb dX1_nameInWay_14 (by decide) (fun c14 => ?_) (fun c14 => ?_)
      ·
        have c14 : p < sd := (nI_ltI (a := p) (b := sd) (by omega) (by omega)).mp c14
        exfalso
        omega
      have c14 : ¬ p < sd := fun z => c14 ((nI_ltI (a := p) (b := sd) (by omega) (by omega)).mpr z)
      refine lv_iload hx hb dX1_nameInWay_17 (lv_at hl 5 rfl) ?_
      refine lv_aload_n hx hb dX1_nameInWay_19 rfl (lv_at hl 0 rfl) ?_
      refine va_get (D := (dC, dI0)) (ci := 1) (v := .int (nI on)) (C := RX1) (T := TX1) (N := 8) hx hb hts hin_X1 hown hK hP 0 rfl rfl 6 (by decide) hf36 (fun _ h9 => h9) rfl dX1_nameInWay_20 ?_
      refine lv_icmp_ge (tgt := 107) hx hb dX1_nameInWay_23 (by decide) (fun c23 => ?_) (fun c23 => ?_)
      ·
        have c23 : on ≤ sd := (nI_leI (a := on) (b := sd) (by omega) (by omega)).mp c23
        exfalso
        omega
      have c23 : ¬ on ≤ sd := fun z => c23 ((nI_leI (a := on) (b := sd) (by omega) (by omega)).mpr z)
      refine lv_iconst (v := nI 0) hx hb dX1_nameInWay_26 (by decide) ?_
      refine lv_istore (lv' := [(6, .int (nI 0)), (0, .ref h1), (1, .int (nI w)), (2, .int (nI p)), (3, .int (nI S)), (4, .int (nI a)), (5, .int (nI sd))]) hx hb dX1_nameInWay_27 hl (by decide) rfl (fun ls hl => ?_)
      have L29 : ∀ (fu : Nat) (i : Nat) (a2 : Nat), i ≤ on → skF (fun q => wW cs (onS cs on) sd q S) on 0 a = skF (fun q => wW cs (onS cs on) sd q S) (on - i) i a2 → smS (fun q => wW cs (onS cs on) sd q S) i + a2 = a → on - i < fu → ∀ (H : Heap) (locs : List Loc), va_P (dC, dI0) vwCl [(h1, .inr (1, [.ref o1, .ref o2, .ref o3, .ref o4, .ref o5, .ref o6, .int (nI on), .int (nI ev)])), (o1, .inl (cI, 7, .inl cA)), (o2, .inl (cI, 128, .inl wA)), (o3, .inl (cI, 128, .inl rA)), (o4, .inl (cI, 128, .inl xA)), (o5, .inl (cI, 49, .inl tA)), (o6, .inl (cI, 896, .inl gA))] H → va_D A [(h1, .inr (1, [.ref o1, .ref o2, .ref o3, .ref o4, .ref o5, .ref o6, .int (nI on), .int (nI ev)])), (o1, .inl (cI, 7, .inl cA)), (o2, .inl (cI, 128, .inl wA)), (o3, .inl (cI, 128, .inl rA)), (o4, .inl (cI, 128, .inl xA)), (o5, .inl (cI, 49, .inl tA)), (o6, .inl (cI, 896, .inl gA))] → va_S A s.heap H locs → ∀ (ls : Array Slot), lv_has ls 7 [(0, .ref h1), (1, .int (nI w)), (2, .int (nI p)), (3, .int (nI S)), (4, .int (nI a2)), (5, .int (nI sd)), (6, .int (nI i))] → W prg l env ({ frames := 2, cells := 0, slots := 0, locals := 44 } : Room) s m ([.ref h1, .int (nI w), .int (nI p)] : List Value).toArray below meth c H locs 0 0 Q (F0 m 29 ls []) := by
        intro fu
        induction fu with
        | zero => intro i a2 hi ht2 hsum hmu; exact absurd hmu (Nat.not_lt_zero _)
        | succ fu ih29 =>
          intro i a2 hi ht2 hsum hmu29 H locs hP hD hS ls hl
          refine lv_iload hx hb dX1_nameInWay_29 (lv_at hl 6 rfl) ?_
          refine lv_aload_n hx hb dX1_nameInWay_31 rfl (lv_at hl 0 rfl) ?_
          refine va_get (D := (dC, dI0)) (ci := 1) (v := .int (nI on)) (C := RX1) (T := TX1) (N := 8) hx hb hts hin_X1 hown hK hP 0 rfl rfl 6 (by decide) hf36 (fun _ h9 => h9) rfl dX1_nameInWay_32 ?_
          refine lv_icmp_ge (tgt := 72) hx hb dX1_nameInWay_35 (by decide) (fun c35 => ?_) (fun c35 => ?_)
          ·
            have c35 : on ≤ i := (nI_leI (a := on) (b := i) (by omega) (by omega)).mp c35
            exfalso
            rw [show i = on by omega, ← hon] at hsum
            omega
          have c35 : ¬ on ≤ i := fun z => c35 ((nI_leI (a := on) (b := i) (by omega) (by omega)).mpr z)
          have hww := wW_le (cs := cs) (onS_le cs ho7) sd i S
          refine lv_iload hx hb dX1_nameInWay_38 (lv_at hl 4 rfl) ?_
          refine lv_aload_n hx hb dX1_nameInWay_40 rfl (lv_at hl 0 rfl) ?_
          refine lv_iload hx hb dX1_nameInWay_41 (lv_at hl 5 rfl) ?_
          refine lv_iload hx hb dX1_nameInWay_43 (lv_at hl 6 rfl) ?_
          refine lv_iload_n hx hb dX1_nameInWay_45 rfl (lv_at hl 3 rfl) ?_
          have hPc := hP.sub (ws' := [(h1, .inr (1, [.ref o1, .ref o2, .ref o3, .ref o4, .ref o5, .ref o6, .int (nI on), .int (nI ev)])), (o1, .inl (cI, 7, .inl cA)), (o2, .inl (cI, 128, .inl wA)), (o3, .inl (cI, 128, .inl rA)), (o4, .inl (cI, 128, .inl xA)), (o5, .inl (cI, 49, .inl tA)), (o6, .inl (cI, 896, .inl gA))]) [0, 1, 2, 3, 4, 5, 6] rfl
          have hDc := hD.sub (ws' := [(h1, .inr (1, [.ref o1, .ref o2, .ref o3, .ref o4, .ref o5, .ref o6, .int (nI on), .int (nI ev)])), (o1, .inl (cI, 7, .inl cA)), (o2, .inl (cI, 128, .inl wA)), (o3, .inl (cI, 128, .inl rA)), (o4, .inl (cI, 128, .inl xA)), (o5, .inl (cI, 49, .inl tA)), (o6, .inl (cI, 896, .inl gA))]) [0, 1, 2, 3, 4, 5, 6] (by decide) rfl
          have hFc := va_free (wc := [(h1, .inr (1, [.ref o1, .ref o2, .ref o3, .ref o4, .ref o5, .ref o6, .int (nI on), .int (nI ev)])), (o1, .inl (cI, 7, .inl cA)), (o2, .inl (cI, 128, .inl wA)), (o3, .inl (cI, 128, .inl rA)), (o4, .inl (cI, 128, .inl xA)), (o5, .inl (cI, 49, .inl tA)), (o6, .inl (cI, 896, .inl gA))]) hD hS hA [0, 1, 2, 3, 4, 5, 6] rfl
          refine va_calli (va_runV (As := [.int (nI sd), .int (nI i), .int (nI S)]) (rest := [.int (nI a2)]) ⟨hx, hb, hml, hown, hts⟩ (KX1_waysWith l dC dI0 cI cZ h1 o1 o2 o3 o4 o5 o6 on ev cA wA rA xA tA gA H.size cs (onS cs on) sd i S (by first | assumption | omega) (by first | assumption | omega) (by first | assumption | omega) (by first | assumption | omega) (fun T hT => hW T (by omega))) (cwV 3 hts gX1_nameInWay_X1_waysWith rfl rfl rfl (by decide +kernel) ⟨Nat.le_of_ble_eq_true rfl, Nat.le_of_ble_eq_true rfl⟩) ⟨fun a U g mk q => by obtain ⟨q0, q1, qP, qK, qD⟩ := q; exact ⟨q0, q1, qP, va_K.moved (u := U) (U := U.calling g mk a) (Vm.Alike.refl U.vm) qK, qD⟩, va_recv hK hPc (ci := 1) (q0 := 0) rfl rfl, fun U hU hW => ⟨rfl, by rw [hU], by rw [hU]; exact hPc, va_K.moved hW.alike hK, hDc.weaken (fun _ _ _ _ => trivial)⟩⟩ rfl rfl hl.1 rfl (lv_room (Nat.le_of_ble_eq_true rfl)) dX1_nameInWay_46 ⟨Nat.le_of_ble_eq_true rfl, Nat.le_of_ble_eq_true rfl⟩) hS (fun q _ h => hFc q h) hFc (fun r46 u46 t7 H1 locs ht7 hvm7 hw46 hB hz1 hk1 hS => ?_)
          obtain ⟨hP1, hK1, hD1⟩ := hB
          rw [ht7] at hP1
          try dsimp only at hw46 hP1 hD1
          obtain ⟨hP, hD⟩ := va_join (wr := []) (w1 := [(h1, .inr (1, [.ref o1, .ref o2, .ref o3, .ref o4, .ref o5, .ref o6, .int (nI on), .int (nI ev)])), (o1, .inl (cI, 7, .inl cA)), (o2, .inl (cI, 128, .inl wA)), (o3, .inl (cI, 128, .inl rA)), (o4, .inl (cI, 128, .inl xA)), (o5, .inl (cI, 49, .inl tA)), (o6, .inl (cI, 896, .inl gA))]) hP hD [0, 1, 2, 3, 4, 5, 6] [] rfl rfl (by decide) (by decide) hk1 hFc hP1 hD1
          generalize H1 = H at hP hS ⊢
          have hP := hP.sub (ws' := [(h1, .inr (1, [.ref o1, .ref o2, .ref o3, .ref o4, .ref o5, .ref o6, .int (nI on), .int (nI ev)])), (o1, .inl (cI, 7, .inl cA)), (o2, .inl (cI, 128, .inl wA)), (o3, .inl (cI, 128, .inl rA)), (o4, .inl (cI, 128, .inl xA)), (o5, .inl (cI, 49, .inl tA)), (o6, .inl (cI, 896, .inl gA))]) [0, 1, 2, 3, 4, 5, 6] rfl
          have hD := hD.sub (ws' := [(h1, .inr (1, [.ref o1, .ref o2, .ref o3, .ref o4, .ref o5, .ref o6, .int (nI on), .int (nI ev)])), (o1, .inl (cI, 7, .inl cA)), (o2, .inl (cI, 128, .inl wA)), (o3, .inl (cI, 128, .inl rA)), (o4, .inl (cI, 128, .inl xA)), (o5, .inl (cI, 49, .inl tA)), (o6, .inl (cI, 896, .inl gA))]) [0, 1, 2, 3, 4, 5, 6] (by decide) rfl
          obtain rfl : r46 = nI (wW cs (onS cs on) sd i S) := hw46
          refine lv_icmp_lt (tgt := 72) hx hb dX1_nameInWay_49 (by decide) (fun c49 => ?_) (fun c49 => ?_)
          ·
            have c49 : a2 < (wW cs (onS cs on) sd i S) := (nI_ltI (a := a2) (b := (wW cs (onS cs on) sd i S)) (by omega) (by omega)).mp c49
            have hpos := wW_pos c49
            have hcut := cut_ok S (by omega) i (by omega) (and_tb hpos.1).2
            have hsk := ht2.trans (skF_f (f := (fun q => wW cs (onS cs on) sd q S)) (by omega) (by show ¬ wW cs (onS cs on) sd i S ≤ a2; omega))
            refine lv_iload hx hb dX1_nameInWay_72 (lv_at hl 6 rfl) ?_
            refine lv_aload_n hx hb dX1_nameInWay_74 rfl (lv_at hl 0 rfl) ?_
            refine va_get (D := (dC, dI0)) (ci := 1) (v := .int (nI on)) (C := RX1) (T := TX1) (N := 8) hx hb hts hin_X1 hown hK hP 0 rfl rfl 6 (by decide) hf36 (fun _ h9 => h9) rfl dX1_nameInWay_75 ?_
            refine lv_icmp_lt (tgt := 83) hx hb dX1_nameInWay_78 (by decide) (fun c78 => ?_) (fun c78 => ?_)
            ·
              have c78 : i < on := (nI_ltI (a := i) (b := on) (by omega) (by omega)).mp c78
              refine lv_iload hx hb dX1_nameInWay_83 (lv_at hl 5 rfl) ?_
              refine lv_iload_n hx hb dX1_nameInWay_85 rfl (lv_at hl 2 rfl) ?_
              refine lv_icmp_ne (tgt := 92) hx hb dX1_nameInWay_86 (by decide) (fun c86 => ?_) (fun c86 => ?_)
              ·
                have c86 : ¬ sd = p := fun z => c86 ((nI_eq (a := sd) (b := p) (by omega) (by omega)).mpr z)
                refine lv_iload_n hx hb dX1_nameInWay_92 rfl (lv_at hl 3 rfl) ?_
                refine lv_iconst (v := nI 1) hx hb dX1_nameInWay_93 (by decide) ?_
                refine lv_iload hx hb dX1_nameInWay_94 (lv_at hl 6 rfl) ?_
                refine lv_ishl hx hb dX1_nameInWay_96 ?_
                refine lv_topi (fun x96 e96 => ?_)
                obtain rfl : x96 = nI (2 ^ i) := e96.trans (shl_1 (by omega))
                refine lv_iconst (v := (-1)) hx hb dX1_nameInWay_97 (by decide) ?_
                refine lv_ixor hx hb dX1_nameInWay_98 ?_
                refine lv_topi (fun x98 e98 => ?_)
                refine lv_iand hx hb dX1_nameInWay_99 ?_
                refine lv_topi (fun x99 e99 => ?_)
                obtain rfl : x99 = nI (andn S (2 ^ i)) := e99.trans (by rw [e98]; exact andn_nI _ _)
                refine lv_istore_n (lv' := [(3, .int (nI (andn S (2 ^ i)))), (0, .ref h1), (1, .int (nI w)), (2, .int (nI p)), (4, .int (nI a2)), (5, .int (nI sd)), (6, .int (nI i))]) hx hb dX1_nameInWay_100 rfl hl (by decide) rfl (fun ls hl => ?_)
                refine lv_iinc (v := nI (sd + 1)) (lv' := [(5, .int (nI (sd + 1))), (3, .int (nI (andn S (2 ^ i)))), (0, .ref h1), (1, .int (nI w)), (2, .int (nI p)), (4, .int (nI a2)), (6, .int (nI i))]) hx hb dX1_nameInWay_101 hl (k := 5) rfl (show nI sd + Int32.ofInt 1 = nI (sd + 1) from nI_add _ _) (by decide) rfl (fun ls hl => ?_)
                refine lv_goto (tgt := 11) hx hb dX1_nameInWay_104 (by decide) ?_
                exact ih11 (sd + 1) (andn S (2 ^ i)) a2 (by omega) (by omega) (by omega) (hpos.2) (ht.trans (nwF_go (by omega) hsk c86)) (by omega) _ _ hP hD hS ls (lv_sub hl [2, 3, 4, 1, 5, 0] rfl)
              have c86 : sd = p := (nI_eq (a := sd) (b := p) (by omega) (by omega)).mp c86
              refine lv_iload hx hb dX1_nameInWay_89 (lv_at hl 6 rfl) ?_
              subst hQ
              have hP9 : va_P (dC, dI0) vwCl [(h1, .inr (1, [.ref o1, .ref o2, .ref o3, .ref o4, .ref o5, .ref o6, .int (nI on), .int (nI ev)])), (o1, .inl (cI, 7, .inl cA)), (o2, .inl (cI, 128, .inl wA)), (o3, .inl (cI, 128, .inl rA)), (o4, .inl (cI, 128, .inl xA)), (o5, .inl (cI, 49, .inl tA)), (o6, .inl (cI, 896, .inl gA))] H := hP
              have hD9 : va_D A [(h1, .inr (1, [.ref o1, .ref o2, .ref o3, .ref o4, .ref o5, .ref o6, .int (nI on), .int (nI ev)])), (o1, .inl (cI, 7, .inl cA)), (o2, .inl (cI, 128, .inl wA)), (o3, .inl (cI, 128, .inl rA)), (o4, .inl (cI, 128, .inl xA)), (o5, .inl (cI, 49, .inl tA)), (o6, .inl (cI, 896, .inl gA))] := hD
              exact W.iret (v := nI i) hx hb hr (fun t9 ht9 hW9 => ⟨⟨nI i, (), rfl, by rw [ht]; exact congrArg nI (nwF_hit (by omega) hsk c86).symm, by rw [ht9]; exact hP9, va_K.moved hW9.alike hK, hD9⟩, hS.F ht9⟩) hS.2.2 dX1_nameInWay_91
            have c78 : ¬ i < on := fun z => c78 ((nI_ltI (a := i) (b := on) (by omega) (by omega)).mpr z)
            exfalso
            omega
          have c49 : ¬ a2 < (wW cs (onS cs on) sd i S) := fun z => c49 ((nI_ltI (a := a2) (b := (wW cs (onS cs on) sd i S)) (by omega) (by omega)).mpr z)
          refine lv_iload hx hb dX1_nameInWay_52 (lv_at hl 4 rfl) ?_
          refine lv_aload_n hx hb dX1_nameInWay_54 rfl (lv_at hl 0 rfl) ?_
          refine lv_iload hx hb dX1_nameInWay_55 (lv_at hl 5 rfl) ?_
          refine lv_iload hx hb dX1_nameInWay_57 (lv_at hl 6 rfl) ?_
          refine lv_iload_n hx hb dX1_nameInWay_59 rfl (lv_at hl 3 rfl) ?_
          have hPc := hP.sub (ws' := [(h1, .inr (1, [.ref o1, .ref o2, .ref o3, .ref o4, .ref o5, .ref o6, .int (nI on), .int (nI ev)])), (o1, .inl (cI, 7, .inl cA)), (o2, .inl (cI, 128, .inl wA)), (o3, .inl (cI, 128, .inl rA)), (o4, .inl (cI, 128, .inl xA)), (o5, .inl (cI, 49, .inl tA)), (o6, .inl (cI, 896, .inl gA))]) [0, 1, 2, 3, 4, 5, 6] rfl
          have hDc := hD.sub (ws' := [(h1, .inr (1, [.ref o1, .ref o2, .ref o3, .ref o4, .ref o5, .ref o6, .int (nI on), .int (nI ev)])), (o1, .inl (cI, 7, .inl cA)), (o2, .inl (cI, 128, .inl wA)), (o3, .inl (cI, 128, .inl rA)), (o4, .inl (cI, 128, .inl xA)), (o5, .inl (cI, 49, .inl tA)), (o6, .inl (cI, 896, .inl gA))]) [0, 1, 2, 3, 4, 5, 6] (by decide) rfl
          have hFc := va_free (wc := [(h1, .inr (1, [.ref o1, .ref o2, .ref o3, .ref o4, .ref o5, .ref o6, .int (nI on), .int (nI ev)])), (o1, .inl (cI, 7, .inl cA)), (o2, .inl (cI, 128, .inl wA)), (o3, .inl (cI, 128, .inl rA)), (o4, .inl (cI, 128, .inl xA)), (o5, .inl (cI, 49, .inl tA)), (o6, .inl (cI, 896, .inl gA))]) hD hS hA [0, 1, 2, 3, 4, 5, 6] rfl
          refine va_calli (va_runV (As := [.int (nI sd), .int (nI i), .int (nI S)]) (rest := [.int (nI a2)]) ⟨hx, hb, hml, hown, hts⟩ (KX1_waysWith l dC dI0 cI cZ h1 o1 o2 o3 o4 o5 o6 on ev cA wA rA xA tA gA H.size cs (onS cs on) sd i S (by first | assumption | omega) (by first | assumption | omega) (by first | assumption | omega) (by first | assumption | omega) (fun T hT => hW T (by omega))) (cwV 3 hts gX1_nameInWay_X1_waysWith rfl rfl rfl (by decide +kernel) ⟨Nat.le_of_ble_eq_true rfl, Nat.le_of_ble_eq_true rfl⟩) ⟨fun a U g mk q => by obtain ⟨q0, q1, qP, qK, qD⟩ := q; exact ⟨q0, q1, qP, va_K.moved (u := U) (U := U.calling g mk a) (Vm.Alike.refl U.vm) qK, qD⟩, va_recv hK hPc (ci := 1) (q0 := 0) rfl rfl, fun U hU hW => ⟨rfl, by rw [hU], by rw [hU]; exact hPc, va_K.moved hW.alike hK, hDc.weaken (fun _ _ _ _ => trivial)⟩⟩ rfl rfl hl.1 rfl (lv_room (Nat.le_of_ble_eq_true rfl)) dX1_nameInWay_60 ⟨Nat.le_of_ble_eq_true rfl, Nat.le_of_ble_eq_true rfl⟩) hS (fun q _ h => hFc q h) hFc (fun r60 u60 t7 H1 locs ht7 hvm7 hw60 hB hz1 hk1 hS => ?_)
          obtain ⟨hP1, hK1, hD1⟩ := hB
          rw [ht7] at hP1
          try dsimp only at hw60 hP1 hD1
          obtain ⟨hP, hD⟩ := va_join (wr := []) (w1 := [(h1, .inr (1, [.ref o1, .ref o2, .ref o3, .ref o4, .ref o5, .ref o6, .int (nI on), .int (nI ev)])), (o1, .inl (cI, 7, .inl cA)), (o2, .inl (cI, 128, .inl wA)), (o3, .inl (cI, 128, .inl rA)), (o4, .inl (cI, 128, .inl xA)), (o5, .inl (cI, 49, .inl tA)), (o6, .inl (cI, 896, .inl gA))]) hP hD [0, 1, 2, 3, 4, 5, 6] [] rfl rfl (by decide) (by decide) hk1 hFc hP1 hD1
          generalize H1 = H at hP hS ⊢
          have hP := hP.sub (ws' := [(h1, .inr (1, [.ref o1, .ref o2, .ref o3, .ref o4, .ref o5, .ref o6, .int (nI on), .int (nI ev)])), (o1, .inl (cI, 7, .inl cA)), (o2, .inl (cI, 128, .inl wA)), (o3, .inl (cI, 128, .inl rA)), (o4, .inl (cI, 128, .inl xA)), (o5, .inl (cI, 49, .inl tA)), (o6, .inl (cI, 896, .inl gA))]) [0, 1, 2, 3, 4, 5, 6] rfl
          have hD := hD.sub (ws' := [(h1, .inr (1, [.ref o1, .ref o2, .ref o3, .ref o4, .ref o5, .ref o6, .int (nI on), .int (nI ev)])), (o1, .inl (cI, 7, .inl cA)), (o2, .inl (cI, 128, .inl wA)), (o3, .inl (cI, 128, .inl rA)), (o4, .inl (cI, 128, .inl xA)), (o5, .inl (cI, 49, .inl tA)), (o6, .inl (cI, 896, .inl gA))]) [0, 1, 2, 3, 4, 5, 6] (by decide) rfl
          obtain rfl : r60 = nI (wW cs (onS cs on) sd i S) := hw60
          refine lv_isub hx hb dX1_nameInWay_63 ?_
          refine lv_topi (fun x63 e63 => ?_)
          obtain rfl : x63 = nI (a2 - (wW cs (onS cs on) sd i S)) := e63.trans (pk_sub (by omega))
          refine lv_istore (lv' := [(4, .int (nI (a2 - (wW cs (onS cs on) sd i S)))), (0, .ref h1), (1, .int (nI w)), (2, .int (nI p)), (3, .int (nI S)), (5, .int (nI sd)), (6, .int (nI i))]) hx hb dX1_nameInWay_64 hl (by decide) rfl (fun ls hl => ?_)
          refine lv_iinc (v := nI (i + 1)) (lv' := [(6, .int (nI (i + 1))), (4, .int (nI (a2 - (wW cs (onS cs on) sd i S)))), (0, .ref h1), (1, .int (nI w)), (2, .int (nI p)), (3, .int (nI S)), (5, .int (nI sd))]) hx hb dX1_nameInWay_66 hl (k := 6) rfl (show nI i + Int32.ofInt 1 = nI (i + 1) from nI_add _ _) (by decide) rfl (fun ls hl => ?_)
          refine lv_goto (tgt := 29) hx hb dX1_nameInWay_69 (by decide) ?_
          exact ih29 (i + 1) (a2 - (wW cs (onS cs on) sd i S)) (by omega) (ht2.trans (skF_t (f := (fun q => wW cs (onS cs on) sd q S)) (by omega) (by show wW cs (onS cs on) sd i S ≤ a2; omega))) (by rw [smS]; show smS (fun q => wW cs (onS cs on) sd q S) i + wW cs (onS cs on) sd i S + (a2 - wW cs (onS cs on) sd i S) = a; omega) (by omega) _ _ hP hD hS ls (lv_sub hl [2, 3, 4, 5, 1, 6, 0] rfl)
      exact L29 _ 0 a (by omega) (rfl) (Nat.zero_add _) (Nat.lt_succ_self _) _ _ hP hD hS ls (lv_sub hl [1, 2, 3, 4, 5, 6, 0] rfl)
  exact L11 _ 0 ev w (by omega) (by omega) (by rw [show ev = 2 ^ on - 1 by omega, pop_full on ho7]; rfl) (hw) (by rw [nwS, show 2 ^ on - 1 = ev by omega]; rfl) (Nat.lt_succ_self _) _ _ hP hD hS ls (lv_sub hl [3, 4, 5, 2, 1, 0] rfl)

set_option maxHeartbeats 4000000 in
set_option maxRecDepth 100000 in
theorem KX1_lookThrough (l : Launch) (dC : Nat → ClassId) (dI0 : Nat → Nat → Nat) (cI cZ : ClassId) (h1 : Nat) (o1 : Nat) (o2 : Nat) (o3 : Nat) (o4 : Nat) (o5 : Nat) (o6 : Nat) (on : Nat) (ev : Nat) (cA : Nat → Int32) (wA : Nat → Int32) (rA : Nat → Int32) (xA : Nat → Int32) (tA : Nat → Int32) (gA : Nat → Int32) (h0 : Nat) (a1 : Nat) (a2 : Nat) (a3 : Nat) (a4 : Nat) (a5 : Nat) (a6 : Nat) (a7 : Nat) (n : Nat) (dr : Nat) (sc : Nat) (kA : Nat → Int32) (hsA : Nat → Int32) (dA : Nat → Int32) (bA : Nat → Int32) (pA : Nat → Int32) (nA : Nat → Int32) (mA : Nat → Int32) (sz : Nat) (k : Nat → Nat) (h : Nat → Nat) (b : Nat → Nat) (d : Nat → Option Nat) (hC : CoR n kA hsA dA bA k h b d) : Met l yX1_lookThrough wsX1_lookThrough ({ frames := 5, cells := 0, slots := 0, locals := 105 } : Room) (va_Pc [.ref h1, .ref h0] (fun U => U.heap.size = sz ∧ va_P (dC, dI0) vwCl (WOC cI cZ h1 o1 o2 o3 o4 o5 o6 on ev cA wA rA xA tA gA h0 a1 a2 a3 a4 a5 a6 a7 n dr sc kA hsA dA bA pA nA mA) U.heap ∧ va_K (dC, dI0) vwCl [(cI, .int), (cZ, .boolean)] U ∧ va_D (fun _ => True) (WOC cI cZ h1 o1 o2 o3 o4 o5 o6 on ev cA wA rA xA tA gA h0 a1 a2 a3 a4 a5 a6 a7 n dr sc kA hsA dA bA pA nA mA))) (va_Qv (fun (u : (Nat → Int32) × (Nat → Int32) × (Nat → Int32) × (Nat → Int32)) => OuR n (2 ^ n - 1) u.1 (chS n k h b d) ∧ (∀ T, T ≤ 2 ^ n - 1 → u.2.1 T = nI (onS (chS n k h b d) n T)) ∧ (∀ p q, p < n → q < n → u.2.2.2 (p * 7 + q) = nI (thS (chS n k h b d) n p q))) (fun (u : (Nat → Int32) × (Nat → Int32) × (Nat → Int32) × (Nat → Int32)) (t : State) => va_P (dC, dI0) vwCl (WOC cI cZ h1 o1 o2 o3 o4 o5 o6 n (2 ^ n - 1) u.1 u.2.1 u.2.2.1 xA u.2.2.2 gA h0 a1 a2 a3 a4 a5 a6 a7 n dr sc kA hsA dA bA pA nA mA) t.heap ∧ va_K (dC, dI0) vwCl [(cI, .int), (cZ, .boolean)] t ∧ va_D (va_A (WOC cI cZ h1 o1 o2 o3 o4 o5 o6 on ev cA wA rA xA tA gA h0 a1 a2 a3 a4 a5 a6 a7 n dr sc kA hsA dA bA pA nA mA) sz) (WOC cI cZ h1 o1 o2 o3 o4 o5 o6 n (2 ^ n - 1) u.1 u.2.1 u.2.2.1 xA u.2.2.2 gA h0 a1 a2 a3 a4 a5 a6 a7 n dr sc kA hsA dA bA pA nA mA)) (va_A (WOC cI cZ h1 o1 o2 o3 o4 o5 o6 on ev cA wA rA xA tA gA h0 a1 a2 a3 a4 a5 a6 a7 n dr sc kA hsA dA bA pA nA mA) sz)) 0 0 (va_A (WOC cI cZ h1 o1 o2 o3 o4 o5 o6 on ev cA wA rA xA tA gA h0 a1 a2 a3 a4 a5 a6 a7 n dr sc kA hsA dA bA pA nA mA) sz) := by
  refine Met.ofW (cc := cX1_lookThrough) (maxL := 2) (ret := none) (by decide) rfl ?_
  intro prg env s m args below meth c s₁ B hml hv
  obtain ⟨rfl, hsz, hP, hK, hD0⟩ := hv
  have hx := B.exec
  have hb := B.bytes
  have hr := B.returns
  have hts := atoms_spec (ws := wsX1_lookThrough) B.pre
  have hown : s.vm.findClass RX1 = some m.cls := findClass_of_methodNamed B.named
  have hlocks := B.notSynchronized
  subst hsz
  have hD := hD0.self (sz := s.heap.size)
  generalize hAe : va_A (WOC cI cZ h1 o1 o2 o3 o4 o5 o6 on ev cA wA rA xA tA gA h0 a1 a2 a3 a4 a5 a6 a7 n dr sc kA hsA dA bA pA nA mA) s.heap.size = A at hD ⊢
  have hA : ∀ q : Nat, s.heap.size ≤ q → A q := fun q h => by rw [← hAe]; exact Or.inr h
  have hS : va_S A s.heap s.heap [] := va_S.rf
  have hP : va_P (dC, dI0) vwCl [(h1, .inr (1, [.ref o1, .ref o2, .ref o3, .ref o4, .ref o5, .ref o6, .int (nI on), .int (nI ev)])), (o1, .inl (cI, 7, .inl cA)), (o2, .inl (cI, 128, .inl wA)), (o3, .inl (cI, 128, .inl rA)), (o4, .inl (cI, 128, .inl xA)), (o5, .inl (cI, 49, .inl tA)), (o6, .inl (cI, 896, .inl gA)), (h0, .inr (0, [.ref a1, .ref a2, .ref a3, .ref a4, .int (nI n), .int (nI dr), .int (nI sc), .ref a5, .ref a6, .ref a7])), (a1, .inl (cI, 7, .inl kA)), (a2, .inl (cI, 7, .inl hsA)), (a3, .inl (cI, 7, .inl dA)), (a4, .inl (cI, 7, .inl bA)), (a5, .inl (cI, 6, .inl pA)), (a6, .inl (cI, 6, .inl nA)), (a7, .inl (cZ, 6, .inl mA))] s.heap := hP
  have hD : va_D A [(h1, .inr (1, [.ref o1, .ref o2, .ref o3, .ref o4, .ref o5, .ref o6, .int (nI on), .int (nI ev)])), (o1, .inl (cI, 7, .inl cA)), (o2, .inl (cI, 128, .inl wA)), (o3, .inl (cI, 128, .inl rA)), (o4, .inl (cI, 128, .inl xA)), (o5, .inl (cI, 49, .inl tA)), (o6, .inl (cI, 896, .inl gA)), (h0, .inr (0, [.ref a1, .ref a2, .ref a3, .ref a4, .int (nI n), .int (nI dr), .int (nI sc), .ref a5, .ref a6, .ref a7])), (a1, .inl (cI, 7, .inl kA)), (a2, .inl (cI, 7, .inl hsA)), (a3, .inl (cI, 7, .inl dA)), (a4, .inl (cI, 7, .inl bA)), (a5, .inl (cI, 6, .inl pA)), (a6, .inl (cI, 6, .inl nA)), (a7, .inl (cZ, 6, .inl mA))] := hD
  have hl := lv_entry ([.ref h1, .ref h0]) (n := 2) (Nat.le_of_ble_eq_true rfl)
  rw [lg_entry_eq]
  generalize (lg_sl ([.ref h1, .ref h0]) ++ List.replicate (2 - (lg_sl ([.ref h1, .ref h0])).length) Slot.unset).toArray = ls at hl ⊢
  have hl : lv_has ls 2 [(0, .ref h1), (1, .ref h0)] := hl
  obtain ⟨H, hH⟩ : ∃ H : Heap, H = s.heap := ⟨_, rfl⟩
  rw [← hH] at hP ⊢
  have hS : va_S A s.heap H [] := by rw [hH]; exact hS
  refine w_gen (fun Q hQ => ?_)
  refine lv_aload_n hx hb dX1_lookThrough_0 rfl (lv_at hl 0 rfl) ?_
  refine lv_aload_n hx hb dX1_lookThrough_1 rfl (lv_at hl 1 rfl) ?_
  have hPc := hP.sub (ws' := [(h1, .inr (1, [.ref o1, .ref o2, .ref o3, .ref o4, .ref o5, .ref o6, .int (nI on), .int (nI ev)])), (o1, .inl (cI, 7, .inl cA)), (o2, .inl (cI, 128, .inl wA)), (o3, .inl (cI, 128, .inl rA)), (o4, .inl (cI, 128, .inl xA)), (o5, .inl (cI, 49, .inl tA)), (o6, .inl (cI, 896, .inl gA)), (h0, .inr (0, [.ref a1, .ref a2, .ref a3, .ref a4, .int (nI n), .int (nI dr), .int (nI sc), .ref a5, .ref a6, .ref a7])), (a1, .inl (cI, 7, .inl kA)), (a2, .inl (cI, 7, .inl hsA)), (a3, .inl (cI, 7, .inl dA)), (a4, .inl (cI, 7, .inl bA)), (a5, .inl (cI, 6, .inl pA)), (a6, .inl (cI, 6, .inl nA)), (a7, .inl (cZ, 6, .inl mA))]) [0, 1, 2, 3, 4, 5, 6, 7, 8, 9, 10, 11, 12, 13, 14] rfl
  have hDc := hD.sub (ws' := [(h1, .inr (1, [.ref o1, .ref o2, .ref o3, .ref o4, .ref o5, .ref o6, .int (nI on), .int (nI ev)])), (o1, .inl (cI, 7, .inl cA)), (o2, .inl (cI, 128, .inl wA)), (o3, .inl (cI, 128, .inl rA)), (o4, .inl (cI, 128, .inl xA)), (o5, .inl (cI, 49, .inl tA)), (o6, .inl (cI, 896, .inl gA)), (h0, .inr (0, [.ref a1, .ref a2, .ref a3, .ref a4, .int (nI n), .int (nI dr), .int (nI sc), .ref a5, .ref a6, .ref a7])), (a1, .inl (cI, 7, .inl kA)), (a2, .inl (cI, 7, .inl hsA)), (a3, .inl (cI, 7, .inl dA)), (a4, .inl (cI, 7, .inl bA)), (a5, .inl (cI, 6, .inl pA)), (a6, .inl (cI, 6, .inl nA)), (a7, .inl (cZ, 6, .inl mA))]) [0, 1, 2, 3, 4, 5, 6, 7, 8, 9, 10, 11, 12, 13, 14] (by decide) rfl
  have hFc := va_free (wc := [(h1, .inr (1, [.ref o1, .ref o2, .ref o3, .ref o4, .ref o5, .ref o6, .int (nI on), .int (nI ev)])), (o1, .inl (cI, 7, .inl cA)), (o2, .inl (cI, 128, .inl wA)), (o3, .inl (cI, 128, .inl rA)), (o4, .inl (cI, 128, .inl xA)), (o5, .inl (cI, 49, .inl tA)), (o6, .inl (cI, 896, .inl gA)), (h0, .inr (0, [.ref a1, .ref a2, .ref a3, .ref a4, .int (nI n), .int (nI dr), .int (nI sc), .ref a5, .ref a6, .ref a7])), (a1, .inl (cI, 7, .inl kA)), (a2, .inl (cI, 7, .inl hsA)), (a3, .inl (cI, 7, .inl dA)), (a4, .inl (cI, 7, .inl bA)), (a5, .inl (cI, 6, .inl pA)), (a6, .inl (cI, 6, .inl nA)), (a7, .inl (cZ, 6, .inl mA))]) hD hS hA [0, 1, 2, 3, 4, 5, 6, 7, 8, 9, 10, 11, 12, 13, 14] rfl
  refine va_callv (va_runV (As := [.ref h0]) (rest := []) ⟨hx, hb, hml, hown, hts⟩ (KX1_look l dC dI0 cI cZ h1 o1 o2 o3 o4 o5 o6 on ev cA wA rA xA tA gA h0 a1 a2 a3 a4 a5 a6 a7 n dr sc kA hsA dA bA pA nA mA H.size k h b d (by first | assumption | omega)) (cwV 1 hts gX1_lookThrough_X1_look rfl rfl rfl (by decide +kernel) ⟨Nat.le_of_ble_eq_true rfl, Nat.le_of_ble_eq_true rfl⟩) ⟨fun a U g mk q => by obtain ⟨q0, q1, qP, qK, qD⟩ := q; exact ⟨q0, q1, qP, va_K.moved (u := U) (U := U.calling g mk a) (Vm.Alike.refl U.vm) qK, qD⟩, va_recv hK hPc (ci := 1) (q0 := 0) rfl rfl, fun U hU hW => ⟨rfl, by rw [hU], by rw [hU]; exact hPc, va_K.moved hW.alike hK, hDc.weaken (fun _ _ _ _ => trivial)⟩⟩ rfl rfl hl.1 rfl (lv_room (Nat.le_of_ble_eq_true rfl)) dX1_lookThrough_2 ⟨Nat.le_of_ble_eq_true rfl, Nat.le_of_ble_eq_true rfl⟩) hS (fun q _ h => hFc q h) hFc (fun u2 t7 H1 locs ht7 hvm7 hw2 hB hz1 hk1 hS => ?_)
  obtain ⟨cB, wB⟩ := u2
  obtain ⟨hP1, hK1, hD1⟩ := hB
  rw [ht7] at hP1
  try dsimp only at hw2 hP1 hD1
  obtain ⟨hP, hD⟩ := va_join (wr := []) (w1 := [(h1, .inr (1, [.ref o1, .ref o2, .ref o3, .ref o4, .ref o5, .ref o6, .int (nI n), .int (nI (2 ^ n - 1))])), (o1, .inl (cI, 7, .inl cB)), (o2, .inl (cI, 128, .inl wB)), (o3, .inl (cI, 128, .inl rA)), (o4, .inl (cI, 128, .inl xA)), (o5, .inl (cI, 49, .inl tA)), (o6, .inl (cI, 896, .inl gA)), (h0, .inr (0, [.ref a1, .ref a2, .ref a3, .ref a4, .int (nI n), .int (nI dr), .int (nI sc), .ref a5, .ref a6, .ref a7])), (a1, .inl (cI, 7, .inl kA)), (a2, .inl (cI, 7, .inl hsA)), (a3, .inl (cI, 7, .inl dA)), (a4, .inl (cI, 7, .inl bA)), (a5, .inl (cI, 6, .inl pA)), (a6, .inl (cI, 6, .inl nA)), (a7, .inl (cZ, 6, .inl mA))]) hP hD [0, 1, 2, 3, 4, 5, 6, 7, 8, 9, 10, 11, 12, 13, 14] [] rfl rfl (by decide) (by decide) hk1 hFc hP1 hD1
  generalize H1 = H at hP hS ⊢
  have hP := hP.sub (ws' := [(h1, .inr (1, [.ref o1, .ref o2, .ref o3, .ref o4, .ref o5, .ref o6, .int (nI n), .int (nI (2 ^ n - 1))])), (o1, .inl (cI, 7, .inl cB)), (o2, .inl (cI, 128, .inl wB)), (o3, .inl (cI, 128, .inl rA)), (o4, .inl (cI, 128, .inl xA)), (o5, .inl (cI, 49, .inl tA)), (o6, .inl (cI, 896, .inl gA)), (h0, .inr (0, [.ref a1, .ref a2, .ref a3, .ref a4, .int (nI n), .int (nI dr), .int (nI sc), .ref a5, .ref a6, .ref a7])), (a1, .inl (cI, 7, .inl kA)), (a2, .inl (cI, 7, .inl hsA)), (a3, .inl (cI, 7, .inl dA)), (a4, .inl (cI, 7, .inl bA)), (a5, .inl (cI, 6, .inl pA)), (a6, .inl (cI, 6, .inl nA)), (a7, .inl (cZ, 6, .inl mA))]) [0, 1, 2, 3, 4, 5, 6, 7, 8, 9, 10, 11, 12, 13, 14] rfl
  have hD := hD.sub (ws' := [(h1, .inr (1, [.ref o1, .ref o2, .ref o3, .ref o4, .ref o5, .ref o6, .int (nI n), .int (nI (2 ^ n - 1))])), (o1, .inl (cI, 7, .inl cB)), (o2, .inl (cI, 128, .inl wB)), (o3, .inl (cI, 128, .inl rA)), (o4, .inl (cI, 128, .inl xA)), (o5, .inl (cI, 49, .inl tA)), (o6, .inl (cI, 896, .inl gA)), (h0, .inr (0, [.ref a1, .ref a2, .ref a3, .ref a4, .int (nI n), .int (nI dr), .int (nI sc), .ref a5, .ref a6, .ref a7])), (a1, .inl (cI, 7, .inl kA)), (a2, .inl (cI, 7, .inl hsA)), (a3, .inl (cI, 7, .inl dA)), (a4, .inl (cI, 7, .inl bA)), (a5, .inl (cI, 6, .inl pA)), (a6, .inl (cI, 6, .inl nA)), (a7, .inl (cZ, 6, .inl mA))]) [0, 1, 2, 3, 4, 5, 6, 7, 8, 9, 10, 11, 12, 13, 14] (by decide) rfl
  refine lv_aload_n hx hb dX1_lookThrough_5 rfl (lv_at hl 0 rfl) ?_
  have hPc := hP.sub (ws' := [(h1, .inr (1, [.ref o1, .ref o2, .ref o3, .ref o4, .ref o5, .ref o6, .int (nI n), .int (nI (2 ^ n - 1))])), (o1, .inl (cI, 7, .inl cB)), (o2, .inl (cI, 128, .inl wB)), (o3, .inl (cI, 128, .inl rA)), (o4, .inl (cI, 128, .inl xA)), (o5, .inl (cI, 49, .inl tA)), (o6, .inl (cI, 896, .inl gA))]) [0, 1, 2, 3, 4, 5, 6] rfl
  have hDc := hD.sub (ws' := [(h1, .inr (1, [.ref o1, .ref o2, .ref o3, .ref o4, .ref o5, .ref o6, .int (nI n), .int (nI (2 ^ n - 1))])), (o1, .inl (cI, 7, .inl cB)), (o2, .inl (cI, 128, .inl wB)), (o3, .inl (cI, 128, .inl rA)), (o4, .inl (cI, 128, .inl xA)), (o5, .inl (cI, 49, .inl tA)), (o6, .inl (cI, 896, .inl gA))]) [0, 1, 2, 3, 4, 5, 6] (by decide) rfl
  have hFc := va_free (wc := [(h1, .inr (1, [.ref o1, .ref o2, .ref o3, .ref o4, .ref o5, .ref o6, .int (nI n), .int (nI (2 ^ n - 1))])), (o1, .inl (cI, 7, .inl cB)), (o2, .inl (cI, 128, .inl wB)), (o3, .inl (cI, 128, .inl rA)), (o4, .inl (cI, 128, .inl xA)), (o5, .inl (cI, 49, .inl tA)), (o6, .inl (cI, 896, .inl gA))]) hD hS hA [0, 1, 2, 3, 4, 5, 6] rfl
  refine va_callv (va_runV (As := []) (rest := []) ⟨hx, hb, hml, hown, hts⟩ (KX1_countReached l dC dI0 cI cZ h1 o1 o2 o3 o4 o5 o6 n (2 ^ n - 1) cB wB rA xA tA gA H.size (chS n k h b d) (hw2.1)) (cwV 0 hts gX1_lookThrough_X1_countReached rfl rfl rfl (by decide +kernel) ⟨Nat.le_of_ble_eq_true rfl, Nat.le_of_ble_eq_true rfl⟩) ⟨fun a U g mk q => by obtain ⟨q0, q1, qP, qK, qD⟩ := q; exact ⟨q0, q1, qP, va_K.moved (u := U) (U := U.calling g mk a) (Vm.Alike.refl U.vm) qK, qD⟩, va_recv hK hPc (ci := 1) (q0 := 0) rfl rfl, fun U hU hW => ⟨rfl, by rw [hU], by rw [hU]; exact hPc, va_K.moved hW.alike hK, hDc.weaken (fun _ _ _ _ => trivial)⟩⟩ rfl rfl hl.1 rfl (lv_room (Nat.le_of_ble_eq_true rfl)) dX1_lookThrough_6 ⟨Nat.le_of_ble_eq_true rfl, Nat.le_of_ble_eq_true rfl⟩) hS (fun q _ h => hFc q h) hFc (fun u6 t7 H1 locs ht7 hvm7 hw6 hB hz1 hk1 hS => ?_)
  obtain ⟨rB, erB⟩ : ∃ z, z = u6 := ⟨_, rfl⟩; subst erB
  obtain ⟨hP1, hK1, hD1⟩ := hB
  rw [ht7] at hP1
  try dsimp only at hw6 hP1 hD1
  obtain ⟨hP, hD⟩ := va_join (wr := [(h0, .inr (0, [.ref a1, .ref a2, .ref a3, .ref a4, .int (nI n), .int (nI dr), .int (nI sc), .ref a5, .ref a6, .ref a7])), (a1, .inl (cI, 7, .inl kA)), (a2, .inl (cI, 7, .inl hsA)), (a3, .inl (cI, 7, .inl dA)), (a4, .inl (cI, 7, .inl bA)), (a5, .inl (cI, 6, .inl pA)), (a6, .inl (cI, 6, .inl nA)), (a7, .inl (cZ, 6, .inl mA))]) (w1 := [(h1, .inr (1, [.ref o1, .ref o2, .ref o3, .ref o4, .ref o5, .ref o6, .int (nI n), .int (nI (2 ^ n - 1))])), (o1, .inl (cI, 7, .inl cB)), (o2, .inl (cI, 128, .inl wB)), (o3, .inl (cI, 128, .inl rB)), (o4, .inl (cI, 128, .inl xA)), (o5, .inl (cI, 49, .inl tA)), (o6, .inl (cI, 896, .inl gA))]) hP hD [0, 1, 2, 3, 4, 5, 6] [7, 8, 9, 10, 11, 12, 13, 14] rfl rfl (by decide) (by decide) hk1 hFc hP1 hD1
  generalize H1 = H at hP hS ⊢
  have hP := hP.sub (ws' := [(h1, .inr (1, [.ref o1, .ref o2, .ref o3, .ref o4, .ref o5, .ref o6, .int (nI n), .int (nI (2 ^ n - 1))])), (o1, .inl (cI, 7, .inl cB)), (o2, .inl (cI, 128, .inl wB)), (o3, .inl (cI, 128, .inl rB)), (o4, .inl (cI, 128, .inl xA)), (o5, .inl (cI, 49, .inl tA)), (o6, .inl (cI, 896, .inl gA)), (h0, .inr (0, [.ref a1, .ref a2, .ref a3, .ref a4, .int (nI n), .int (nI dr), .int (nI sc), .ref a5, .ref a6, .ref a7])), (a1, .inl (cI, 7, .inl kA)), (a2, .inl (cI, 7, .inl hsA)), (a3, .inl (cI, 7, .inl dA)), (a4, .inl (cI, 7, .inl bA)), (a5, .inl (cI, 6, .inl pA)), (a6, .inl (cI, 6, .inl nA)), (a7, .inl (cZ, 6, .inl mA))]) [8, 9, 10, 11, 12, 13, 14, 0, 1, 2, 3, 4, 5, 6, 7] rfl
  have hD := hD.sub (ws' := [(h1, .inr (1, [.ref o1, .ref o2, .ref o3, .ref o4, .ref o5, .ref o6, .int (nI n), .int (nI (2 ^ n - 1))])), (o1, .inl (cI, 7, .inl cB)), (o2, .inl (cI, 128, .inl wB)), (o3, .inl (cI, 128, .inl rB)), (o4, .inl (cI, 128, .inl xA)), (o5, .inl (cI, 49, .inl tA)), (o6, .inl (cI, 896, .inl gA)), (h0, .inr (0, [.ref a1, .ref a2, .ref a3, .ref a4, .int (nI n), .int (nI dr), .int (nI sc), .ref a5, .ref a6, .ref a7])), (a1, .inl (cI, 7, .inl kA)), (a2, .inl (cI, 7, .inl hsA)), (a3, .inl (cI, 7, .inl dA)), (a4, .inl (cI, 7, .inl bA)), (a5, .inl (cI, 6, .inl pA)), (a6, .inl (cI, 6, .inl nA)), (a7, .inl (cZ, 6, .inl mA))]) [8, 9, 10, 11, 12, 13, 14, 0, 1, 2, 3, 4, 5, 6, 7] (by decide) rfl
  refine lv_aload_n hx hb dX1_lookThrough_9 rfl (lv_at hl 0 rfl) ?_
  have hPc := hP.sub (ws' := [(h1, .inr (1, [.ref o1, .ref o2, .ref o3, .ref o4, .ref o5, .ref o6, .int (nI n), .int (nI (2 ^ n - 1))])), (o1, .inl (cI, 7, .inl cB)), (o2, .inl (cI, 128, .inl wB)), (o3, .inl (cI, 128, .inl rB)), (o4, .inl (cI, 128, .inl xA)), (o5, .inl (cI, 49, .inl tA)), (o6, .inl (cI, 896, .inl gA))]) [0, 1, 2, 3, 4, 5, 6] rfl
  have hDc := hD.sub (ws' := [(h1, .inr (1, [.ref o1, .ref o2, .ref o3, .ref o4, .ref o5, .ref o6, .int (nI n), .int (nI (2 ^ n - 1))])), (o1, .inl (cI, 7, .inl cB)), (o2, .inl (cI, 128, .inl wB)), (o3, .inl (cI, 128, .inl rB)), (o4, .inl (cI, 128, .inl xA)), (o5, .inl (cI, 49, .inl tA)), (o6, .inl (cI, 896, .inl gA))]) [0, 1, 2, 3, 4, 5, 6] (by decide) rfl
  have hFc := va_free (wc := [(h1, .inr (1, [.ref o1, .ref o2, .ref o3, .ref o4, .ref o5, .ref o6, .int (nI n), .int (nI (2 ^ n - 1))])), (o1, .inl (cI, 7, .inl cB)), (o2, .inl (cI, 128, .inl wB)), (o3, .inl (cI, 128, .inl rB)), (o4, .inl (cI, 128, .inl xA)), (o5, .inl (cI, 49, .inl tA)), (o6, .inl (cI, 896, .inl gA))]) hD hS hA [0, 1, 2, 3, 4, 5, 6] rfl
  refine va_callv (va_runV (As := []) (rest := []) ⟨hx, hb, hml, hown, hts⟩ (KX1_countThrough l dC dI0 cI cZ h1 o1 o2 o3 o4 o5 o6 n (2 ^ n - 1) cB wB rB xA tA gA H.size (chS n k h b d) (hw2.1) (hw2.2) (hw6)) (cwV 0 hts gX1_lookThrough_X1_countThrough rfl rfl rfl (by decide +kernel) ⟨Nat.le_of_ble_eq_true rfl, Nat.le_of_ble_eq_true rfl⟩) ⟨fun a U g mk q => by obtain ⟨q0, q1, qP, qK, qD⟩ := q; exact ⟨q0, q1, qP, va_K.moved (u := U) (U := U.calling g mk a) (Vm.Alike.refl U.vm) qK, qD⟩, va_recv hK hPc (ci := 1) (q0 := 0) rfl rfl, fun U hU hW => ⟨rfl, by rw [hU], by rw [hU]; exact hPc, va_K.moved hW.alike hK, hDc.weaken (fun _ _ _ _ => trivial)⟩⟩ rfl rfl hl.1 rfl (lv_room (Nat.le_of_ble_eq_true rfl)) dX1_lookThrough_10 ⟨Nat.le_of_ble_eq_true rfl, Nat.le_of_ble_eq_true rfl⟩) hS (fun q _ h => hFc q h) hFc (fun u10 t7 H1 locs ht7 hvm7 hw10 hB hz1 hk1 hS => ?_)
  obtain ⟨tB, etB⟩ : ∃ z, z = u10 := ⟨_, rfl⟩; subst etB
  obtain ⟨hP1, hK1, hD1⟩ := hB
  rw [ht7] at hP1
  try dsimp only at hw10 hP1 hD1
  obtain ⟨hP, hD⟩ := va_join (wr := [(h0, .inr (0, [.ref a1, .ref a2, .ref a3, .ref a4, .int (nI n), .int (nI dr), .int (nI sc), .ref a5, .ref a6, .ref a7])), (a1, .inl (cI, 7, .inl kA)), (a2, .inl (cI, 7, .inl hsA)), (a3, .inl (cI, 7, .inl dA)), (a4, .inl (cI, 7, .inl bA)), (a5, .inl (cI, 6, .inl pA)), (a6, .inl (cI, 6, .inl nA)), (a7, .inl (cZ, 6, .inl mA))]) (w1 := [(h1, .inr (1, [.ref o1, .ref o2, .ref o3, .ref o4, .ref o5, .ref o6, .int (nI n), .int (nI (2 ^ n - 1))])), (o1, .inl (cI, 7, .inl cB)), (o2, .inl (cI, 128, .inl wB)), (o3, .inl (cI, 128, .inl rB)), (o4, .inl (cI, 128, .inl xA)), (o5, .inl (cI, 49, .inl tB)), (o6, .inl (cI, 896, .inl gA))]) hP hD [0, 1, 2, 3, 4, 5, 6] [7, 8, 9, 10, 11, 12, 13, 14] rfl rfl (by decide) (by decide) hk1 hFc hP1 hD1
  generalize H1 = H at hP hS ⊢
  have hP := hP.sub (ws' := [(h1, .inr (1, [.ref o1, .ref o2, .ref o3, .ref o4, .ref o5, .ref o6, .int (nI n), .int (nI (2 ^ n - 1))])), (o1, .inl (cI, 7, .inl cB)), (o2, .inl (cI, 128, .inl wB)), (o3, .inl (cI, 128, .inl rB)), (o4, .inl (cI, 128, .inl xA)), (o5, .inl (cI, 49, .inl tB)), (o6, .inl (cI, 896, .inl gA)), (h0, .inr (0, [.ref a1, .ref a2, .ref a3, .ref a4, .int (nI n), .int (nI dr), .int (nI sc), .ref a5, .ref a6, .ref a7])), (a1, .inl (cI, 7, .inl kA)), (a2, .inl (cI, 7, .inl hsA)), (a3, .inl (cI, 7, .inl dA)), (a4, .inl (cI, 7, .inl bA)), (a5, .inl (cI, 6, .inl pA)), (a6, .inl (cI, 6, .inl nA)), (a7, .inl (cZ, 6, .inl mA))]) [8, 9, 10, 11, 12, 13, 14, 0, 1, 2, 3, 4, 5, 6, 7] rfl
  have hD := hD.sub (ws' := [(h1, .inr (1, [.ref o1, .ref o2, .ref o3, .ref o4, .ref o5, .ref o6, .int (nI n), .int (nI (2 ^ n - 1))])), (o1, .inl (cI, 7, .inl cB)), (o2, .inl (cI, 128, .inl wB)), (o3, .inl (cI, 128, .inl rB)), (o4, .inl (cI, 128, .inl xA)), (o5, .inl (cI, 49, .inl tB)), (o6, .inl (cI, 896, .inl gA)), (h0, .inr (0, [.ref a1, .ref a2, .ref a3, .ref a4, .int (nI n), .int (nI dr), .int (nI sc), .ref a5, .ref a6, .ref a7])), (a1, .inl (cI, 7, .inl kA)), (a2, .inl (cI, 7, .inl hsA)), (a3, .inl (cI, 7, .inl dA)), (a4, .inl (cI, 7, .inl bA)), (a5, .inl (cI, 6, .inl pA)), (a6, .inl (cI, 6, .inl nA)), (a7, .inl (cZ, 6, .inl mA))]) [8, 9, 10, 11, 12, 13, 14, 0, 1, 2, 3, 4, 5, 6, 7] (by decide) rfl
  subst hQ
  have hP9 : va_P (dC, dI0) vwCl [(h1, .inr (1, [.ref o1, .ref o2, .ref o3, .ref o4, .ref o5, .ref o6, .int (nI n), .int (nI (2 ^ n - 1))])), (o1, .inl (cI, 7, .inl cB)), (o2, .inl (cI, 128, .inl wB)), (o3, .inl (cI, 128, .inl rB)), (o4, .inl (cI, 128, .inl xA)), (o5, .inl (cI, 49, .inl tB)), (o6, .inl (cI, 896, .inl gA)), (h0, .inr (0, [.ref a1, .ref a2, .ref a3, .ref a4, .int (nI n), .int (nI dr), .int (nI sc), .ref a5, .ref a6, .ref a7])), (a1, .inl (cI, 7, .inl kA)), (a2, .inl (cI, 7, .inl hsA)), (a3, .inl (cI, 7, .inl dA)), (a4, .inl (cI, 7, .inl bA)), (a5, .inl (cI, 6, .inl pA)), (a6, .inl (cI, 6, .inl nA)), (a7, .inl (cZ, 6, .inl mA))] H := hP
  have hD9 : va_D A [(h1, .inr (1, [.ref o1, .ref o2, .ref o3, .ref o4, .ref o5, .ref o6, .int (nI n), .int (nI (2 ^ n - 1))])), (o1, .inl (cI, 7, .inl cB)), (o2, .inl (cI, 128, .inl wB)), (o3, .inl (cI, 128, .inl rB)), (o4, .inl (cI, 128, .inl xA)), (o5, .inl (cI, 49, .inl tB)), (o6, .inl (cI, 896, .inl gA)), (h0, .inr (0, [.ref a1, .ref a2, .ref a3, .ref a4, .int (nI n), .int (nI dr), .int (nI sc), .ref a5, .ref a6, .ref a7])), (a1, .inl (cI, 7, .inl kA)), (a2, .inl (cI, 7, .inl hsA)), (a3, .inl (cI, 7, .inl dA)), (a4, .inl (cI, 7, .inl bA)), (a5, .inl (cI, 6, .inl pA)), (a6, .inl (cI, 6, .inl nA)), (a7, .inl (cZ, 6, .inl mA))] := hD
  exact W.vret hx hb hr (fun t9 ht9 hW9 => ⟨⟨(cB, wB, rB, tB), rfl, ⟨hw2.1, hw2.2, hw10⟩, by rw [ht9]; exact hP9, va_K.moved hW9.alike hK, hD9⟩, hS.F ht9⟩) hS.2.2 dX1_lookThrough_13
