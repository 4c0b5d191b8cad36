abbrev WCC (cI cZ : ClassId) (h0 : Nat) (a1 : Nat) (a2 : Nat) (a3 : Nat) (a4 : Nat) (a5 : Nat) (a6 : Nat) (a7 : Nat) (n : Nat) (dr : Nat) (sc : Nat) (kA : Nat → Int32) (hsA : Nat → Int32) (dA : Nat → Int32) (bA : Nat → Int32) (pA : Nat → Int32) (nA : Nat → Int32) (mA : Nat → Int32) (g0 : Nat) (b1 : Nat) (b2 : Nat) (b3 : Nat) (b4 : Nat) (b5 : Nat) (b6 : Nat) (b7 : Nat) (n2 : Nat) (dr2 : Nat) (sc2 : Nat) (kA2 : Nat → Int32) (hsA2 : Nat → Int32) (dA2 : Nat → Int32) (bA2 : Nat → Int32) (pA2 : Nat → Int32) (nA2 : Nat → Int32) (mA2 : Nat → Int32) : va_W := [(h0, .inr (0, [.ref a1, .ref a2, .ref a3, .ref a4, .int (nI n), .int (nI dr), .int (nI sc), .ref a5, .ref a6, .ref a7])), (a1, .inl (cI, 7, .inl kA)), (a2, .inl (cI, 7, .inl hsA)), (a3, .inl (cI, 7, .inl dA)), (a4, .inl (cI, 7, .inl bA)), (a5, .inl (cI, 6, .inl pA)), (a6, .inl (cI, 6, .inl nA)), (a7, .inl (cZ, 6, .inl mA)), (g0, .inr (0, [.ref b1, .ref b2, .ref b3, .ref b4, .int (nI n2), .int (nI dr2), .int (nI sc2), .ref b5, .ref b6, .ref b7])), (b1, .inl (cI, 7, .inl kA2)), (b2, .inl (cI, 7, .inl hsA2)), (b3, .inl (cI, 7, .inl dA2)), (b4, .inl (cI, 7, .inl bA2)), (b5, .inl (cI, 6, .inl pA2)), (b6, .inl (cI, 6, .inl nA2)), (b7, .inl (cZ, 6, .inl mA2))]
abbrev WTr (cI cZ : ClassId) (h3 : Nat) (sd : Nat) (cp : Nat) (nm : Nat) : va_W := [(h3, .inr (3, [.int (nI sd), .int (nI cp), .int (nI nm)]))]
abbrev WTCO (cI cZ : ClassId) (h3 : Nat) (sd : Nat) (cp : Nat) (nm : Nat) (h0 : Nat) (a1 : Nat) (a2 : Nat) (a3 : Nat) (a4 : Nat) (a5 : Nat) (a6 : Nat) (a7 : Nat) (n : Nat) (dr : Nat) (sc : Nat) (kA : Nat → Int32) (hsA : Nat → Int32) (dA : Nat → Int32) (bA : Nat → Int32) (pA : Nat → Int32) (nA : Nat → Int32) (mA : Nat → Int32) (h1 : Nat) (o1 : Nat) (o2 : Nat) (o3 : Nat) (o4 : Nat) (o5 : Nat) (o6 : Nat) (on : Nat) (ev : Nat) (cA : Nat → Int32) (wA : Nat → Int32) (rA : Nat → Int32) (xA : Nat → Int32) (tA : Nat → Int32) (gA : Nat → Int32) : va_W := [(h3, .inr (3, [.int (nI sd), .int (nI cp), .int (nI nm)])), (h0, .inr (0, [.ref a1, .ref a2, .ref a3, .ref a4, .int (nI n), .int (nI dr), .int (nI sc), .ref a5, .ref a6, .ref a7])), (a1, .inl (cI, 7, .inl kA)), (a2, .inl (cI, 7, .inl hsA)), (a3, .inl (cI, 7, .inl dA)), (a4, .inl (cI, 7, .inl bA)), (a5, .inl (cI, 6, .inl pA)), (a6, .inl (cI, 6, .inl nA)), (a7, .inl (cZ, 6, .inl mA)), (h1, .inr (1, [.ref o1, .ref o2, .ref o3, .ref o4, .ref o5, .ref o6, .int (nI on), .int (nI ev)])), (o1, .inl (cI, 7, .inl cA)), (o2, .inl (cI, 128, .inl wA)), (o3, .inl (cI, 128, .inl rA)), (o4, .inl (cI, 128, .inl xA)), (o5, .inl (cI, 49, .inl tA)), (o6, .inl (cI, 896, .inl gA))]
set_option maxHeartbeats 4000000 in
set_option maxRecDepth 100000 in
theorem KX0_copyFrom (l : Launch) (dC : Nat → ClassId) (dI0 : Nat → Nat → Nat) (cI cZ : ClassId) (h0 : Nat) (a1 : Nat) (a2 : Nat) (a3 : Nat) (a4 : Nat) (a5 : Nat) (a6 : Nat) (a7 : Nat) (n : Nat) (dr : Nat) (sc : Nat) (kA : Nat → Int32) (hsA : Nat → Int32) (dA : Nat → Int32) (bA : Nat → Int32) (pA : Nat → Int32) (nA : Nat → Int32) (mA : Nat → Int32) (g0 : Nat) (b1 : Nat) (b2 : Nat) (b3 : Nat) (b4 : Nat) (b5 : Nat) (b6 : Nat) (b7 : Nat) (n2 : Nat) (dr2 : Nat) (sc2 : Nat) (kA2 : Nat → Int32) (hsA2 : Nat → Int32) (dA2 : Nat → Int32) (bA2 : Nat → Int32) (pA2 : Nat → Int32) (nA2 : Nat → Int32) (mA2 : Nat → Int32) (sz : Nat) (sm2 : Nat → Bool) (hmb : ∀ i, i < 6 → mA2 i = 0 ∨ mA2 i = 1) : Met l yX0_copyFrom wsX0_copyFrom ({ frames := 1, cells := 0, slots := 0, locals := 60 } : Room) (va_Pc [.ref h0, .ref g0] (fun U => U.heap.size = sz ∧ va_P (dC, dI0) vwCl (WCC cI cZ h0 a1 a2 a3 a4 a5 a6 a7 n dr sc kA hsA dA bA pA nA mA g0 b1 b2 b3 b4 b5 b6 b7 n2 dr2 sc2 kA2 hsA2 dA2 bA2 pA2 nA2 mA2) U.heap ∧ va_K (dC, dI0) vwCl [(cI, .int), (cZ, .boolean)] U ∧ va_D (fun _ => True) (WCC cI cZ h0 a1 a2 a3 a4 a5 a6 a7 n dr sc kA hsA dA bA pA nA mA g0 b1 b2 b3 b4 b5 b6 b7 n2 dr2 sc2 kA2 hsA2 dA2 bA2 pA2 nA2 mA2))) (va_Qv (fun (u : (Nat → Int32) × (Nat → Int32) × (Nat → Int32) × (Nat → Int32) × (Nat → Int32) × (Nat → Int32) × (Nat → Int32)) => (∀ j, j < 7 → u.1 j = kA2 j) ∧ (∀ j, j < 7 → u.2.1 j = hsA2 j) ∧ (∀ j, j < 7 → u.2.2.1 j = dA2 j) ∧ (∀ j, j < 7 → u.2.2.2.1 j = bA2 j) ∧ (∀ j, j < 6 → u.2.2.2.2.1 j = pA2 j) ∧ (∀ j, j < 6 → u.2.2.2.2.2.1 j = nA2 j) ∧ (∀ j, j < 6 → u.2.2.2.2.2.2 j = mA2 j)) (fun (u : (Nat → Int32) × (Nat → Int32) × (Nat → Int32) × (Nat → Int32) × (Nat → Int32) × (Nat → Int32) × (Nat → Int32)) (t : State) => va_P (dC, dI0) vwCl (WCC cI cZ h0 a1 a2 a3 a4 a5 a6 a7 n2 dr2 sc2 u.1 u.2.1 u.2.2.1 u.2.2.2.1 u.2.2.2.2.1 u.2.2.2.2.2.1 u.2.2.2.2.2.2 g0 b1 b2 b3 b4 b5 b6 b7 n2 dr2 sc2 kA2 hsA2 dA2 bA2 pA2 nA2 mA2) t.heap ∧ va_K (dC, dI0) vwCl [(cI, .int), (cZ, .boolean)] t ∧ va_D (va_A (WCC cI cZ h0 a1 a2 a3 a4 a5 a6 a7 n dr sc kA hsA dA bA pA nA mA g0 b1 b2 b3 b4 b5 b6 b7 n2 dr2 sc2 kA2 hsA2 dA2 bA2 pA2 nA2 mA2) sz) (WCC cI cZ h0 a1 a2 a3 a4 a5 a6 a7 n2 dr2 sc2 u.1 u.2.1 u.2.2.1 u.2.2.2.1 u.2.2.2.2.1 u.2.2.2.2.2.1 u.2.2.2.2.2.2 g0 b1 b2 b3 b4 b5 b6 b7 n2 dr2 sc2 kA2 hsA2 dA2 bA2 pA2 nA2 mA2)) (va_A (WCC cI cZ h0 a1 a2 a3 a4 a5 a6 a7 n dr sc kA hsA dA bA pA nA mA g0 b1 b2 b3 b4 b5 b6 b7 n2 dr2 sc2 kA2 hsA2 dA2 bA2 pA2 nA2 mA2) sz)) 0 0 (va_A (WCC cI cZ h0 a1 a2 a3 a4 a5 a6 a7 n dr sc kA hsA dA bA pA nA mA g0 b1 b2 b3 b4 b5 b6 b7 n2 dr2 sc2 kA2 hsA2 dA2 bA2 pA2 nA2 mA2) sz) := by
  refine Met.ofW (cc := cX0_copyFrom) (maxL := 3) (ret := none) (by decide) rfl ?_
  intro prg env s m args below meth c s₁ B hml hv
  obtain ⟨rfl, hsz, hP, hK, hD0⟩ := hv
  have hx := B.exec
  have hb := B.bytes
  have hr := B.returns
  have hts := atoms_spec (ws := wsX0_copyFrom) B.pre
  have hown : s.vm.findClass RX0 = some m.cls := findClass_of_methodNamed B.named
  have hlocks := B.notSynchronized
  subst hsz
  have hD := hD0.self (sz := s.heap.size)
  generalize hAe : va_A (WCC cI cZ h0 a1 a2 a3 a4 a5 a6 a7 n dr sc kA hsA dA bA pA nA mA g0 b1 b2 b3 b4 b5 b6 b7 n2 dr2 sc2 kA2 hsA2 dA2 bA2 pA2 nA2 mA2) s.heap.size = A at hD ⊢
  have hA : ∀ q : Nat, s.heap.size ≤ q → A q := fun q h => by rw [← hAe]; exact Or.inr h
  have hS : va_S A s.heap s.heap [] := va_S.rf
  have hP : va_P (dC, dI0) vwCl [(h0, .inr (0, [.ref a1, .ref a2, .ref a3, .ref a4, .int (nI n), .int (nI dr), .int (nI sc), .ref a5, .ref a6, .ref a7])), (a1, .inl (cI, 7, .inl kA)), (a2, .inl (cI, 7, .inl hsA)), (a3, .inl (cI, 7, .inl dA)), (a4, .inl (cI, 7, .inl bA)), (a5, .inl (cI, 6, .inl pA)), (a6, .inl (cI, 6, .inl nA)), (a7, .inl (cZ, 6, .inl mA)), (g0, .inr (0, [.ref b1, .ref b2, .ref b3, .ref b4, .int (nI n2), .int (nI dr2), .int (nI sc2), .ref b5, .ref b6, .ref b7])), (b1, .inl (cI, 7, .inl kA2)), (b2, .inl (cI, 7, .inl hsA2)), (b3, .inl (cI, 7, .inl dA2)), (b4, .inl (cI, 7, .inl bA2)), (b5, .inl (cI, 6, .inl pA2)), (b6, .inl (cI, 6, .inl nA2)), (b7, .inl (cZ, 6, .inl mA2))] s.heap := hP
  have hD : va_D A [(h0, .inr (0, [.ref a1, .ref a2, .ref a3, .ref a4, .int (nI n), .int (nI dr), .int (nI sc), .ref a5, .ref a6, .ref a7])), (a1, .inl (cI, 7, .inl kA)), (a2, .inl (cI, 7, .inl hsA)), (a3, .inl (cI, 7, .inl dA)), (a4, .inl (cI, 7, .inl bA)), (a5, .inl (cI, 6, .inl pA)), (a6, .inl (cI, 6, .inl nA)), (a7, .inl (cZ, 6, .inl mA)), (g0, .inr (0, [.ref b1, .ref b2, .ref b3, .ref b4, .int (nI n2), .int (nI dr2), .int (nI sc2), .ref b5, .ref b6, .ref b7])), (b1, .inl (cI, 7, .inl kA2)), (b2, .inl (cI, 7, .inl hsA2)), (b3, .inl (cI, 7, .inl dA2)), (b4, .inl (cI, 7, .inl bA2)), (b5, .inl (cI, 6, .inl pA2)), (b6, .inl (cI, 6, .inl nA2)), (b7, .inl (cZ, 6, .inl mA2))] := hD
  have hl := lv_entry ([.ref h0, .ref g0]) (n := 3) (Nat.le_of_ble_eq_true rfl)
  rw [lg_entry_eq]
  generalize (lg_sl ([.ref h0, .ref g0]) ++ List.replicate (3 - (lg_sl ([.ref h0, .ref g0])).length) Slot.unset).toArray = ls at hl ⊢
  have hl : lv_has ls 3 [(0, .ref h0), (1, .ref g0)] := hl
  obtain ⟨H, hH⟩ : ∃ H : Heap, H = s.heap := ⟨_, rfl⟩
  rw [← hH] at hP ⊢
  have hS : va_S A s.heap H [] := by rw [hH]; exact hS
  refine w_gen (fun Q hQ => ?_)
  have hin_X0 : ∀ w ∈ wsX00, w ∈ wsX0_copyFrom := by decide +kernel
  have hf46 := hts (.fieldLink RX0 46 "HatNames$Company" "size" "I") (by decide +kernel)
  have hf69 := hts (.fieldLink RX0 69 "HatNames$Company" "draws" "I") (by decide +kernel)
  have hf66 := hts (.fieldLink RX0 66 "HatNames$Company" "seenCount" "I") (by decide +kernel)
  have hf11 := hts (.fieldLink RX0 11 "HatNames$Company" "kinds" "[I") (by decide +kernel)
  have hac1 := hts (.methodLink RX0 72 arraycopyName) (by decide +kernel)
  have hac2 := hts (.native arraycopyName) (by decide +kernel)
  have hac3 := hts (.static arraycopyName) (by decide +kernel)
  have hac4 := hts (.initialized "java/lang/System") (by decide +kernel)
  have hf15 := hts (.fieldLink RX0 15 "HatNames$Company" "houses" "[I") (by decide +kernel)
  have hf18 := hts (.fieldLink RX0 18 "HatNames$Company" "drawn" "[I") (by decide +kernel)
  have hf21 := hts (.fieldLink RX0 21 "HatNames$Company" "barred" "[I") (by decide +kernel)
  have hf24 := hts (.fieldLink RX0 24 "HatNames$Company" "seenPersons" "[I") (by decide +kernel)
  have hf27 := hts (.fieldLink RX0 27 "HatNames$Company" "seenNames" "[I") (by decide +kernel)
  have hf30 := hts (.fieldLink RX0 30 "HatNames$Company" "seenMay" "[Z") (by decide +kernel)
  refine lv_aload_n hx hb dX0_copyFrom_0 rfl (lv_at hl 0 rfl) ?_
  refine lv_aload_n hx hb dX0_copyFrom_1 rfl (lv_at hl 1 rfl) ?_
  refine va_get (D := (dC, dI0)) (ci := 0) (v := .int (nI n2)) (C := RX0) (T := TX0) (N := 10) hx hb hts hin_X0 hown hK hP 8 rfl rfl 4 (by decide) hf46 (fun _ h9 => h9) rfl dX0_copyFrom_2 ?_
  refine va_put (D := (dC, dI0)) (ci := 0) (v := .int (nI n2)) (ty := .int) (C := RX0) (T := TX0) (N := 10) hx hb hts hin_X0 tyX0 tyX0_ok nmX0 hown hK hP hD hS 0 rfl rfl 4 (by decide) hf46 (fun _ h9 => h9) rfl (by decide +kernel) rfl rfl (Nat.le_of_ble_eq_true rfl) dX0_copyFrom_5 (fun H locs hP hD hS => ?_)
  have hP : va_P (dC, dI0) vwCl [(h0, .inr (0, [.ref a1, .ref a2, .ref a3, .ref a4, .int (nI n2), .int (nI dr), .int (nI sc), .ref a5, .ref a6, .ref a7])), (a1, .inl (cI, 7, .inl kA)), (a2, .inl (cI, 7, .inl hsA)), (a3, .inl (cI, 7, .inl dA)), (a4, .inl (cI, 7, .inl bA)), (a5, .inl (cI, 6, .inl pA)), (a6, .inl (cI, 6, .inl nA)), (a7, .inl (cZ, 6, .inl mA)), (g0, .inr (0, [.ref b1, .ref b2, .ref b3, .ref b4, .int (nI n2), .int (nI dr2), .int (nI sc2), .ref b5, .ref b6, .ref b7])), (b1, .inl (cI, 7, .inl kA2)), (b2, .inl (cI, 7, .inl hsA2)), (b3, .inl (cI, 7, .inl dA2)), (b4, .inl (cI, 7, .inl bA2)), (b5, .inl (cI, 6, .inl pA2)), (b6, .inl (cI, 6, .inl nA2)), (b7, .inl (cZ, 6, .inl mA2))] H := hP
  have hD : va_D A [(h0, .inr (0, [.ref a1, .ref a2, .ref a3, .ref a4, .int (nI n2), .int (nI dr), .int (nI sc), .ref a5, .ref a6, .ref a7])), (a1, .inl (cI, 7, .inl kA)), (a2, .inl (cI, 7, .inl hsA)), (a3, .inl (cI, 7, .inl dA)), (a4, .inl (cI, 7, .inl bA)), (a5, .inl (cI, 6, .inl pA)), (a6, .inl (cI, 6, .inl nA)), (a7, .inl (cZ, 6, .inl mA)), (g0, .inr (0, [.ref b1, .ref b2, .ref b3, .ref b4, .int (nI n2), .int (nI dr2), .int (nI sc2), .ref b5, .ref b6, .ref b7])), (b1, .inl (cI, 7, .inl kA2)), (b2, .inl (cI, 7, .inl hsA2)), (b3, .inl (cI, 7, .inl dA2)), (b4, .inl (cI, 7, .inl bA2)), (b5, .inl (cI, 6, .inl pA2)), (b6, .inl (cI, 6, .inl nA2)), (b7, .inl (cZ, 6, .inl mA2))] := hD
  refine lv_aload_n hx hb dX0_copyFrom_8 rfl (lv_at hl 0 rfl) ?_
  refine lv_aload_n hx hb dX0_copyFrom_9 rfl (lv_at hl 1 rfl) ?_
  refine va_get (D := (dC, dI0)) (ci := 0) (v := .int (nI dr2)) (C := RX0) (T := TX0) (N := 10) hx hb hts hin_X0 hown hK hP 8 rfl rfl 5 (by decide) hf69 (fun _ h9 => h9) rfl dX0_copyFrom_10 ?_
  refine va_put (D := (dC, dI0)) (ci := 0) (v := .int (nI dr2)) (ty := .int) (C := RX0) (T := TX0) (N := 10) hx hb hts hin_X0 tyX0 tyX0_ok nmX0 hown hK hP hD hS 0 rfl rfl 5 (by decide) hf69 (fun _ h9 => h9) rfl (by decide +kernel) rfl rfl (Nat.le_of_ble_eq_true rfl) dX0_copyFrom_13 (fun H locs hP hD hS => ?_)
  have hP : va_P (dC, dI0) vwCl [(h0, .inr (0, [.ref a1, .ref a2, .ref a3, .ref a4, .int (nI n2), .int (nI dr2), .int (nI sc), .ref a5, .ref a6, .ref a7])), (a1, .inl (cI, 7, .inl kA)), (a2, .inl (cI, 7, .inl hsA)), (a3, .inl (cI, 7, .inl dA)), (a4, .inl (cI, 7, .inl bA)), (a5, .inl (cI, 6, .inl pA)), (a6, .inl (cI, 6, .inl nA)), (a7, .inl (cZ, 6, .inl mA)), (g0, .inr (0, [.ref b1, .ref b2, .ref b3, .ref b4, .int (nI n2), .int (nI dr2), .int (nI sc2), .ref b5, .ref b6, .ref b7])), (b1, .inl (cI, 7, .inl kA2)), (b2, .inl (cI, 7, .inl hsA2)), (b3, .inl (cI, 7, .inl dA2)), (b4, .inl (cI, 7, .inl bA2)), (b5, .inl (cI, 6, .inl pA2)), (b6, .inl (cI, 6, .inl nA2)), (b7, .inl (cZ, 6, .inl mA2))] H := hP
  have hD : va_D A [(h0, .inr (0, [.ref a1, .ref a2, .ref a3, .ref a4, .int (nI n2), .int (nI dr2), .int (nI sc), .ref a5, .ref a6, .ref a7])), (a1, .inl (cI, 7, .inl kA)), (a2, .inl (cI, 7, .inl hsA)), (a3, .inl (cI, 7, .inl dA)), (a4, .inl (cI, 7, .inl bA)), (a5, .inl (cI, 6, .inl pA)), (a6, .inl (cI, 6, .inl nA)), (a7, .inl (cZ, 6, .inl mA)), (g0, .inr (0, [.ref b1, .ref b2, .ref b3, .ref b4, .int (nI n2), .int (nI dr2), .int (nI sc2), .ref b5, .ref b6, .ref b7])), (b1, .inl (cI, 7, .inl kA2)), (b2, .inl (cI, 7, .inl hsA2)), (b3, .inl (cI, 7, .inl dA2)), (b4, .inl (cI, 7, .inl bA2)), (b5, .inl (cI, 6, .inl pA2)), (b6, .inl (cI, 6, .inl nA2)), (b7, .inl (cZ, 6, .inl mA2))] := hD
  refine lv_aload_n hx hb dX0_copyFrom_16 rfl (lv_at hl 0 rfl) ?_
  refine lv_aload_n hx hb dX0_copyFrom_17 rfl (lv_at hl 1 rfl) ?_
  refine va_get (D := (dC, dI0)) (ci := 0) (v := .int (nI sc2)) (C := RX0) (T := TX0) (N := 10) hx hb hts hin_X0 hown hK hP 8 rfl rfl 6 (by decide) hf66 (fun _ h9 => h9) rfl dX0_copyFrom_18 ?_
  refine va_put (D := (dC, dI0)) (ci := 0) (v := .int (nI sc2)) (ty := .int) (C := RX0) (T := TX0) (N := 10) hx hb hts hin_X0 tyX0 tyX0_ok nmX0 hown hK hP hD hS 0 rfl rfl 6 (by decide) hf66 (fun _ h9 => h9) rfl (by decide +kernel) rfl rfl (Nat.le_of_ble_eq_true rfl) dX0_copyFrom_21 (fun H locs hP hD hS => ?_)
  have hP : va_P (dC, dI0) vwCl [(h0, .inr (0, [.ref a1, .ref a2, .ref a3, .ref a4, .int (nI n2), .int (nI dr2), .int (nI sc2), .ref a5, .ref a6, .ref a7])), (a1, .inl (cI, 7, .inl kA)), (a2, .inl (cI, 7, .inl hsA)), (a3, .inl (cI, 7, .inl dA)), (a4, .inl (cI, 7, .inl bA)), (a5, .inl (cI, 6, .inl pA)), (a6, .inl (cI, 6, .inl nA)), (a7, .inl (cZ, 6, .inl mA)), (g0, .inr (0, [.ref b1, .ref b2, .ref b3, .ref b4, .int (nI n2), .int (nI dr2), .int (nI sc2), .ref b5, .ref b6, .ref b7])), (b1, .inl (cI, 7, .inl kA2)), (b2, .inl (cI, 7, .inl hsA2)), (b3, .inl (cI, 7, .inl dA2)), (b4, .inl (cI, 7, .inl bA2)), (b5, .inl (cI, 6, .inl pA2)), (b6, .inl (cI, 6, .inl nA2)), (b7, .inl (cZ, 6, .inl mA2))] H := hP
  have hD : va_D A [(h0, .inr (0, [.ref a1, .ref a2, .ref a3, .ref a4, .int (nI n2), .int (nI dr2), .int (nI sc2), .ref a5, .ref a6, .ref a7])), (a1, .inl (cI, 7, .inl kA)), (a2, .inl (cI, 7, .inl hsA)), (a3, .inl (cI, 7, .inl dA)), (a4, .inl (cI, 7, .inl bA)), (a5, .inl (cI, 6, .inl pA)), (a6, .inl (cI, 6, .inl nA)), (a7, .inl (cZ, 6, .inl mA)), (g0, .inr (0, [.ref b1, .ref b2, .ref b3, .ref b4, .int (nI n2), .int (nI dr2), .int (nI sc2), .ref b5, .ref b6, .ref b7])), (b1, .inl (cI, 7, .inl kA2)), (b2, .inl (cI, 7, .inl hsA2)), (b3, .inl (cI, 7, .inl dA2)), (b4, .inl (cI, 7, .inl bA2)), (b5, .inl (cI, 6, .inl pA2)), (b6, .inl (cI, 6, .inl nA2)), (b7, .inl (cZ, 6, .inl mA2))] := hD
  refine lv_aload_n hx hb dX0_copyFrom_24 rfl (lv_at hl 1 rfl) ?_
  refine va_get (D := (dC, dI0)) (ci := 0) (v := .ref b1) (C := RX0) (T := TX0) (N := 10) hx hb hts hin_X0 hown hK hP 8 rfl rfl 0 (by decide) hf11 (fun _ h9 => h9) rfl dX0_copyFrom_25 ?_
  refine lv_iconst (v := nI 0) hx hb dX0_copyFrom_28 (by decide) ?_
  refine lv_aload_n hx hb dX0_copyFrom_29 rfl (lv_at hl 0 rfl) ?_
  refine va_get (D := (dC, dI0)) (ci := 0) (v := .ref a1) (C := RX0) (T := TX0) (N := 10) hx hb hts hin_X0 hown hK hP 0 rfl rfl 0 (by decide) hf11 (fun _ h9 => h9) rfl dX0_copyFrom_30 ?_
  refine lv_iconst (v := nI 0) hx hb dX0_copyFrom_33 (by decide) ?_
  refine lv_bipush (v := nI 7) hx hb dX0_copyFrom_34 (by decide) ?_
  refine va_copyi hx hb (by rw [hml]; exact hl.1.symm) hown hac1 hac2 hac3 hac4 hK hP hD hS 9 1 0 0 rfl rfl rfl rfl rfl (by decide) (by decide) (by decide) (by decide) (by decide) (fun _ _ => rfl) (Nat.le_of_ble_eq_true rfl) (by decide) dX0_copyFrom_36 (fun H locs hP hD hS => ?_)
  rw [nI_clamp (n := 0) (by decide), nI_clamp (n := 7) (by decide)] at hP hD
  obtain ⟨v1, ev1⟩ : ∃ y, y = va_cpy kA2 kA 0 0 7 := ⟨_, rfl⟩
  rw [← ev1] at hP hD
  have hv1 : ∀ j, j < 7 → v1 j = kA2 j := fun j hj => by rw [ev1]; exact cpy_in hj
  have hP : va_P (dC, dI0) vwCl [(h0, .inr (0, [.ref a1, .ref a2, .ref a3, .ref a4, .int (nI n2), .int (nI dr2), .int (nI sc2), .ref a5, .ref a6, .ref a7])), (a1, .inl (cI, 7, .inl v1)), (a2, .inl (cI, 7, .inl hsA)), (a3, .inl (cI, 7, .inl dA)), (a4, .inl (cI, 7, .inl bA)), (a5, .inl (cI, 6, .inl pA)), (a6, .inl (cI, 6, .inl nA)), (a7, .inl (cZ, 6, .inl mA)), (g0, .inr (0, [.ref b1, .ref b2, .ref b3, .ref b4, .int (nI n2), .int (nI dr2), .int (nI sc2), .ref b5, .ref b6, .ref b7])), (b1, .inl (cI, 7, .inl kA2)), (b2, .inl (cI, 7, .inl hsA2)), (b3, .inl (cI, 7, .inl dA2)), (b4, .inl (cI, 7, .inl bA2)), (b5, .inl (cI, 6, .inl pA2)), (b6, .inl (cI, 6, .inl nA2)), (b7, .inl (cZ, 6, .inl mA2))] H := hP
  have hD : va_D A [(h0, .inr (0, [.ref a1, .ref a2, .ref a3, .ref a4, .int (nI n2), .int (nI dr2), .int (nI sc2), .ref a5, .ref a6, .ref a7])), (a1, .inl (cI, 7, .inl v1)), (a2, .inl (cI, 7, .inl hsA)), (a3, .inl (cI, 7, .inl dA)), (a4, .inl (cI, 7, .inl bA)), (a5, .inl (cI, 6, .inl pA)), (a6, .inl (cI, 6, .inl nA)), (a7, .inl (cZ, 6, .inl mA)), (g0, .inr (0, [.ref b1, .ref b2, .ref b3, .ref b4, .int (nI n2), .int (nI dr2), .int (nI sc2), .ref b5, .ref b6, .ref b7])), (b1, .inl (cI, 7, .inl kA2)), (b2, .inl (cI, 7, .inl hsA2)), (b3, .inl (cI, 7, .inl dA2)), (b4, .inl (cI, 7, .inl bA2)), (b5, .inl (cI, 6, .inl pA2)), (b6, .inl (cI, 6, .inl nA2)), (b7, .inl (cZ, 6, .inl mA2))] := hD
  refine lv_aload_n hx hb dX0_copyFrom_39 rfl (lv_at hl 1 rfl) ?_
  refine va_get (D := (dC, dI0)) (ci := 0) (v := .ref b2) (C := RX0) (T := TX0) (N := 10) hx hb hts hin_X0 hown hK hP 8 rfl rfl 1 (by decide) hf15 (fun _ h9 => h9) rfl dX0_copyFrom_40 ?_
  refine lv_iconst (v := nI 0) hx hb dX0_copyFrom_43 (by decide) ?_
  refine lv_aload_n hx hb dX0_copyFrom_44 rfl (lv_at hl 0 rfl) ?_
  refine va_get (D := (dC, dI0)) (ci := 0) (v := .ref a2) (C := RX0) (T := TX0) (N := 10) hx hb hts hin_X0 hown hK hP 0 rfl rfl 1 (by decide) hf15 (fun _ h9 => h9) rfl dX0_copyFrom_45 ?_
  refine lv_iconst (v := nI 0) hx hb dX0_copyFrom_48 (by decide) ?_
  refine lv_bipush (v := nI 7) hx hb dX0_copyFrom_49 (by decide) ?_
  refine va_copyi hx hb (by rw [hml]; exact hl.1.symm) hown hac1 hac2 hac3 hac4 hK hP hD hS 10 2 0 0 rfl rfl rfl rfl rfl (by decide) (by decide) (by decide) (by decide) (by decide) (fun _ _ => rfl) (Nat.le_of_ble_eq_true rfl) (by decide) dX0_copyFrom_51 (fun H locs hP hD hS => ?_)
  rw [nI_clamp (n := 0) (by decide), nI_clamp (n := 7) (by decide)] at hP hD
  obtain ⟨v2, ev2⟩ : ∃ y, y = va_cpy hsA2 hsA 0 0 7 := ⟨_, rfl⟩
  rw [← ev2] at hP hD
  have hv2 : ∀ j, j < 7 → v2 j = hsA2 j := fun j hj => by rw [ev2]; exact cpy_in hj
  have hP : va_P (dC, dI0) vwCl [(h0, .inr (0, [.ref a1, .ref a2, .ref a3, .ref a4, .int (nI n2), .int (nI dr2), .int (nI sc2), .ref a5, .ref a6, .ref a7])), (a1, .inl (cI, 7, .inl v1)), (a2, .inl (cI, 7, .inl v2)), (a3, .inl (cI, 7, .inl dA)), (a4, .inl (cI, 7, .inl bA)), (a5, .inl (cI, 6, .inl pA)), (a6, .inl (cI, 6, .inl nA)), (a7, .inl (cZ, 6, .inl mA)), (g0, .inr (0, [.ref b1, .ref b2, .ref b3, .ref b4, .int (nI n2), .int (nI dr2), .int (nI sc2), .ref b5, .ref b6, .ref b7])), (b1, .inl (cI, 7, .inl kA2)), (b2, .inl (cI, 7, .inl hsA2)), (b3, .inl (cI, 7, .inl dA2)), (b4, .inl (cI, 7, .inl bA2)), (b5, .inl (cI, 6, .inl pA2)), (b6, .inl (cI, 6, .inl nA2)), (b7, .inl (cZ, 6, .inl mA2))] H := hP
  have hD : va_D A [(h0, .inr (0, [.ref a1, .ref a2, .ref a3, .ref a4, .int (nI n2), .int (nI dr2), .int (nI sc2), .ref a5, .ref a6, .ref a7])), (a1, .inl (cI, 7, .inl v1)), (a2, .inl (cI, 7, .inl v2)), (a3, .inl (cI, 7, .inl dA)), (a4, .inl (cI, 7, .inl bA)), (a5, .inl (cI, 6, .inl pA)), (a6, .inl (cI, 6, .inl nA)), (a7, .inl (cZ, 6, .inl mA)), (g0, .inr (0, [.ref b1, .ref b2, .ref b3, .ref b4, .int (nI n2), .int (nI dr2), .int (nI sc2), .ref b5, .ref b6, .ref b7])), (b1, .inl (cI, 7, .inl kA2)), (b2, .inl (cI, 7, .inl hsA2)), (b3, .inl (cI, 7, .inl dA2)), (b4, .inl (cI, 7, .inl bA2)), (b5, .inl (cI, 6, .inl pA2)), (b6, .inl (cI, 6, .inl nA2)), (b7, .inl (cZ, 6, .inl mA2))] := hD
  refine lv_aload_n hx hb dX0_copyFrom_54 rfl (lv_at hl 1 rfl) ?_
  refine va_get (D := (dC, dI0)) (ci := 0) (v := .ref b3) (C := RX0) (T := TX0) (N := 10) hx hb hts hin_X0 hown hK hP 8 rfl rfl 2 (by decide) hf18 (fun _ h9 => h9) rfl dX0_copyFrom_55 ?_
  refine lv_iconst (v := nI 0) hx hb dX0_copyFrom_58 (by decide) ?_
  refine lv_aload_n hx hb dX0_copyFrom_59 rfl (lv_at hl 0 rfl) ?_
  refine va_get (D := (dC, dI0)) (ci := 0) (v := .ref a3) (C := RX0) (T := TX0) (N := 10) hx hb hts hin_X0 hown hK hP 0 rfl rfl 2 (by decide) hf18 (fun _ h9 => h9) rfl dX0_copyFrom_60 ?_
  refine lv_iconst (v := nI 0) hx hb dX0_copyFrom_63 (by decide) ?_
  refine lv_bipush (v := nI 7) hx hb dX0_copyFrom_64 (by decide) ?_
  refine va_copyi hx hb (by rw [hml]; exact hl.1.symm) hown hac1 hac2 hac3 hac4 hK hP hD hS 11 3 0 0 rfl rfl rfl rfl rfl (by decide) (by decide) (by decide) (by decide) (by decide) (fun _ _ => rfl) (Nat.le_of_ble_eq_true rfl) (by decide) dX0_copyFrom_66 (fun H locs hP hD hS => ?_)
  rw [nI_clamp (n := 0) (by decide), nI_clamp (n := 7) (by decide)] at hP hD
  obtain ⟨v3, ev3⟩ : ∃ y, y = va_cpy dA2 dA 0 0 7 := ⟨_, rfl⟩
  rw [← ev3] at hP hD
  have hv3 : ∀ j, j < 7 → v3 j = dA2 j := fun j hj => by rw [ev3]; exact cpy_in hj
  have hP : va_P (dC, dI0) vwCl [(h0, .inr (0, [.ref a1, .ref a2, .ref a3, .ref a4, .int (nI n2), .int (nI dr2), .int (nI sc2), .ref a5, .ref a6, .ref a7])), (a1, .inl (cI, 7, .inl v1)), (a2, .inl (cI, 7, .inl v2)), (a3, .inl (cI, 7, .inl v3)), (a4, .inl (cI, 7, .inl bA)), (a5, .inl (cI, 6, .inl pA)), (a6, .inl (cI, 6, .inl nA)), (a7, .inl (cZ, 6, .inl mA)), (g0, .inr (0, [.ref b1, .ref b2, .ref b3, .ref b4, .int (nI n2), .int (nI dr2), .int (nI sc2), .ref b5, .ref b6, .ref b7])), (b1, .inl (cI, 7, .inl kA2)), (b2, .inl (cI, 7, .inl hsA2)), (b3, .inl (cI, 7, .inl dA2)), (b4, .inl (cI, 7, .inl bA2)), (b5, .inl (cI, 6, .inl pA2)), (b6, .inl (cI, 6, .inl nA2)), (b7, .inl (cZ, 6, .inl mA2))] H := hP
  have hD : va_D A [(h0, .inr (0, [.ref a1, .ref a2, .ref a3, .ref a4, .int (nI n2), .int (nI dr2), .int (nI sc2), .ref a5, .ref a6, .ref a7])), (a1, .inl (cI, 7, .inl v1)), (a2, .inl (cI, 7, .inl v2)), (a3, .inl (cI, 7, .inl v3)), (a4, .inl (cI, 7, .inl bA)), (a5, .inl (cI, 6, .inl pA)), (a6, .inl (cI, 6, .inl nA)), (a7, .inl (cZ, 6, .inl mA)), (g0, .inr (0, [.ref b1, .ref b2, .ref b3, .ref b4, .int (nI n2), .int (nI dr2), .int (nI sc2), .ref b5, .ref b6, .ref b7])), (b1, .inl (cI, 7, .inl kA2)), (b2, .inl (cI, 7, .inl hsA2)), (b3, .inl (cI, 7, .inl dA2)), (b4, .inl (cI, 7, .inl bA2)), (b5, .inl (cI, 6, .inl pA2)), (b6, .inl (cI, 6, .inl nA2)), (b7, .inl (cZ, 6, .inl mA2))] := hD
  refine lv_aload_n hx hb dX0_copyFrom_69 rfl (lv_at hl 1 rfl) ?_
  refine va_get (D := (dC, dI0)) (ci := 0) (v := .ref b4) (C := RX0) (T := TX0) (N := 10) hx hb hts hin_X0 hown hK hP 8 rfl rfl 3 (by decide) hf21 (fun _ h9 => h9) rfl dX0_copyFrom_70 ?_
  refine lv_iconst (v := nI 0) hx hb dX0_copyFrom_73 (by decide) ?_
  refine lv_aload_n hx hb dX0_copyFrom_74 rfl (lv_at hl 0 rfl) ?_
  refine va_get (D := (dC, dI0)) (ci := 0) (v := .ref a4) (C := RX0) (T := TX0) (N := 10) hx hb hts hin_X0 hown hK hP 0 rfl rfl 3 (by decide) hf21 (fun _ h9 => h9) rfl dX0_copyFrom_75 ?_
  refine lv_iconst (v := nI 0) hx hb dX0_copyFrom_78 (by decide) ?_
  refine lv_bipush (v := nI 7) hx hb dX0_copyFrom_79 (by decide) ?_
  refine va_copyi hx hb (by rw [hml]; exact hl.1.symm) hown hac1 hac2 hac3 hac4 hK hP hD hS 12 4 0 0 rfl rfl rfl rfl rfl (by decide) (by decide) (by decide) (by decide) (by decide) (fun _ _ => rfl) (Nat.le_of_ble_eq_true rfl) (by decide) dX0_copyFrom_81 (fun H locs hP hD hS => ?_)
  rw [nI_clamp (n := 0) (by decide), nI_clamp (n := 7) (by decide)] at hP hD
  obtain ⟨v4, ev4⟩ : ∃ y, y = va_cpy bA2 bA 0 0 7 := ⟨_, rfl⟩
  rw [← ev4] at hP hD
  have hv4 : ∀ j, j < 7 → v4 j = bA2 j := fun j hj => by rw [ev4]; exact cpy_in hj
  have hP : va_P (dC, dI0) vwCl [(h0, .inr (0, [.ref a1, .ref a2, .ref a3, .ref a4, .int (nI n2), .int (nI dr2), .int (nI sc2), .ref a5, .ref a6, .ref a7])), (a1, .inl (cI, 7, .inl v1)), (a2, .inl (cI, 7, .inl v2)), (a3, .inl (cI, 7, .inl v3)), (a4, .inl (cI, 7, .inl v4)), (a5, .inl (cI, 6, .inl pA)), (a6, .inl (cI, 6, .inl nA)), (a7, .inl (cZ, 6, .inl mA)), (g0, .inr (0, [.ref b1, .ref b2, .ref b3, .ref b4, .int (nI n2), .int (nI dr2), .int (nI sc2), .ref b5, .ref b6, .ref b7])), (b1, .inl (cI, 7, .inl kA2)), (b2, .inl (cI, 7, .inl hsA2)), (b3, .inl (cI, 7, .inl dA2)), (b4, .inl (cI, 7, .inl bA2)), (b5, .inl (cI, 6, .inl pA2)), (b6, .inl (cI, 6, .inl nA2)), (b7, .inl (cZ, 6, .inl mA2))] H := hP
  have hD : va_D A [(h0, .inr (0, [.ref a1, .ref a2, .ref a3, .ref a4, .int (nI n2), .int (nI dr2), .int (nI sc2), .ref a5, .ref a6, .ref a7])), (a1, .inl (cI, 7, .inl v1)), (a2, .inl (cI, 7, .inl v2)), (a3, .inl (cI, 7, .inl v3)), (a4, .inl (cI, 7, .inl v4)), (a5, .inl (cI, 6, .inl pA)), (a6, .inl (cI, 6, .inl nA)), (a7, .inl (cZ, 6, .inl mA)), (g0, .inr (0, [.ref b1, .ref b2, .ref b3, .ref b4, .int (nI n2), .int (nI dr2), .int (nI sc2), .ref b5, .ref b6, .ref b7])), (b1, .inl (cI, 7, .inl kA2)), (b2, .inl (cI, 7, .inl hsA2)), (b3, .inl (cI, 7, .inl dA2)), (b4, .inl (cI, 7, .inl bA2)), (b5, .inl (cI, 6, .inl pA2)), (b6, .inl (cI, 6, .inl nA2)), (b7, .inl (cZ, 6, .inl mA2))] := hD
  refine lv_iconst (v := nI 0) hx hb dX0_copyFrom_84 (by decide) ?_
  refine lv_istore_n (lv' := [(2, .int (nI 0)), (0, .ref h0), (1, .ref g0)]) hx hb dX0_copyFrom_85 rfl hl (by decide) rfl (fun ls hl => ?_)
  have L86 : ∀ (fu : Nat) (i : Nat) (g1 : Nat → Int32) (g2 : Nat → Int32) (g3 : Nat → Int32), i ≤ 6 → (∀ j, j < i → g1 j = pA2 j) → (∀ j, j < i → g2 j = nA2 j) → (∀ j, j < i → g3 j = mA2 j) → 6 - i < fu → ∀ (H : Heap) (locs : List Loc), va_P (dC, dI0) vwCl [(h0, .inr (0, [.ref a1, .ref a2, .ref a3, .ref a4, .int (nI n2), .int (nI dr2), .int (nI sc2), .ref a5, .ref a6, .ref a7])), (a1, .inl (cI, 7, .inl v1)), (a2, .inl (cI, 7, .inl v2)), (a3, .inl (cI, 7, .inl v3)), (a4, .inl (cI, 7, .inl v4)), (a5, .inl (cI, 6, .inl g1)), (a6, .inl (cI, 6, .inl g2)), (a7, .inl (cZ, 6, .inl g3)), (g0, .inr (0, [.ref b1, .ref b2, .ref b3, .ref b4, .int (nI n2), .int (nI dr2), .int (nI sc2), .ref b5, .ref b6, .ref b7])), (b1, .inl (cI, 7, .inl kA2)), (b2, .inl (cI, 7, .inl hsA2)), (b3, .inl (cI, 7, .inl dA2)), (b4, .inl (cI, 7, .inl bA2)), (b5, .inl (cI, 6, .inl pA2)), (b6, .inl (cI, 6, .inl nA2)), (b7, .inl (cZ, 6, .inl mA2))] H → va_D A [(h0, .inr (0, [.ref a1, .ref a2, .ref a3, .ref a4, .int (nI n2), .int (nI dr2), .int (nI sc2), .ref a5, .ref a6, .ref a7])), (a1, .inl (cI, 7, .inl v1)), (a2, .inl (cI, 7, .inl v2)), (a3, .inl (cI, 7, .inl v3)), (a4, .inl (cI, 7, .inl v4)), (a5, .inl (cI, 6, .inl g1)), (a6, .inl (cI, 6, .inl g2)), (a7, .inl (cZ, 6, .inl g3)), (g0, .inr (0, [.ref b1, .ref b2, .ref b3, .ref b4, .int (nI n2), .int (nI dr2), .int (nI sc2), .ref b5, .ref b6, .ref b7])), (b1, .inl (cI, 7, .inl kA2)), (b2, .inl (cI, 7, .inl hsA2)), (b3, .inl (cI, 7, .inl dA2)), (b4, .inl (cI, 7, .inl bA2)), (b5, .inl (cI, 6, .inl pA2)), (b6, .inl (cI, 6, .inl nA2)), (b7, .inl (cZ, 6, .inl mA2))] → va_S A s.heap H locs → ∀ (ls : Array Slot), lv_has ls 3 [(0, .ref h0), (1, .ref g0), (2, .int (nI i))] → W prg l env ({ frames := 1, cells := 0, slots := 0, locals := 60 } : Room) s m ([.ref h0, .ref g0] : List Value).toArray below meth c H locs 0 0 Q (F0 m 86 ls []) := by
    intro fu
    induction fu with
    | zero => intro i g1 g2 g3 hi hg1 hg2 hg3 hmu; exact absurd hmu (Nat.not_lt_zero _)
    | succ fu ih86 =>
      intro i g1 g2 g3 hi hg1 hg2 hg3 hmu86 H locs hP hD hS ls hl
      refine lv_iload_n hx hb dX0_copyFrom_86 rfl (lv_at hl 2 rfl) ?_
      refine lv_bipush (v := nI 6) hx hb dX0_copyFrom_87 (by decide) ?_
      refine lv_icmp_ge (tgt := 134) hx hb dX0_copyFrom_89 (by decide) (fun c89 => ?_) (fun c89 => ?_)
      ·
        have c89 : 6 ≤ i := (nI_leI (a := 6) (b := i) (by omega) (by omega)).mp c89
        subst hQ
        have hP9 : va_P (dC, dI0) vwCl [(h0, .inr (0, [.ref a1, .ref a2, .ref a3, .ref a4, .int (nI n2), .int (nI dr2), .int (nI sc2), .ref a5, .ref a6, .ref a7])), (a1, .inl (cI, 7, .inl v1)), (a2, .inl (cI, 7, .inl v2)), (a3, .inl (cI, 7, .inl v3)), (a4, .inl (cI, 7, .inl v4)), (a5, .inl (cI, 6, .inl g1)), (a6, .inl (cI, 6, .inl g2)), (a7, .inl (cZ, 6, .inl g3)), (g0, .inr (0, [.ref b1, .ref b2, .ref b3, .ref b4, .int (nI n2), .int (nI dr2), .int (nI sc2), .ref b5, .ref b6, .ref b7])), (b1, .inl (cI, 7, .inl kA2)), (b2, .inl (cI, 7, .inl hsA2)), (b3, .inl (cI, 7, .inl dA2)), (b4, .inl (cI, 7, .inl bA2)), (b5, .inl (cI, 6, .inl pA2)), (b6, .inl (cI, 6, .inl nA2)), (b7, .inl (cZ, 6, .inl mA2))] H := hP
        have hD9 : va_D A [(h0, .inr (0, [.ref a1, .ref a2, .ref a3, .ref a4, .int (nI n2), .int (nI dr2), .int (nI sc2), .ref a5, .ref a6, .ref a7])), (a1, .inl (cI, 7, .inl v1)), (a2, .inl (cI, 7, .inl v2)), (a3, .inl (cI, 7, .inl v3)), (a4, .inl (cI, 7, .inl v4)), (a5, .inl (cI, 6, .inl g1)), (a6, .inl (cI, 6, .inl g2)), (a7, .inl (cZ, 6, .inl g3)), (g0, .inr (0, [.ref b1, .ref b2, .ref b3, .ref b4, .int (nI n2), .int (nI dr2), .int (nI sc2), .ref b5, .ref b6, .ref b7])), (b1, .inl (cI, 7, .inl kA2)), (b2, .inl (cI, 7, .inl hsA2)), (b3, .inl (cI, 7, .inl dA2)), (b4, .inl (cI, 7, .inl bA2)), (b5, .inl (cI, 6, .inl pA2)), (b6, .inl (cI, 6, .inl nA2)), (b7, .inl (cZ, 6, .inl mA2))] := hD
        exact W.vret hx hb hr (fun t9 ht9 hW9 => ⟨⟨(v1, v2, v3, v4, g1, g2, g3), rfl, ⟨hv1, hv2, hv3, hv4, fun j hj => hg1 j (by omega), fun j hj => hg2 j (by omega), fun j hj => hg3 j (by omega)⟩, by rw [ht9]; exact hP9, va_K.moved hW9.alike hK, hD9⟩, hS.F ht9⟩) hS.2.2 dX0_copyFrom_134
      have c89 : ¬ 6 ≤ i := fun z => c89 ((nI_leI (a := 6) (b := i) (by omega) (by omega)).mpr z)
      refine lv_aload_n hx hb dX0_copyFrom_92 rfl (lv_at hl 0 rfl) ?_
      refine va_get (D := (dC, dI0)) (ci := 0) (v := .ref a5) (C := RX0) (T := TX0) (N := 10) hx hb hts hin_X0 hown hK hP 0 rfl rfl 7 (by decide) hf24 (fun _ h9 => h9) rfl dX0_copyFrom_93 ?_
      refine lv_iload_n hx hb dX0_copyFrom_96 rfl (lv_at hl 2 rfl) ?_
      refine lv_aload_n hx hb dX0_copyFrom_97 rfl (lv_at hl 1 rfl) ?_
      refine va_get (D := (dC, dI0)) (ci := 0) (v := .ref b5) (C := RX0) (T := TX0) (N := 10) hx hb hts hin_X0 hown hK hP 8 rfl rfl 7 (by decide) hf24 (fun _ h9 => h9) rfl dX0_copyFrom_98 ?_
      refine lv_iload_n hx hb dX0_copyFrom_101 rfl (lv_at hl 2 rfl) ?_
      refine va_iald hx hb hK hP 13 0 rfl rfl (vp_in_nI (by omega) (by decide)) dX0_copyFrom_102 ?_
      refine lv_topi (fun x102 e102 => ?_)
      rw [nI_clamp (n := i) (by omega)] at e102
      refine va_iast hx hb hK hP hD hS 5 0 rfl rfl (vp_in_nI (by omega) (by decide)) dX0_copyFrom_103 (fun H locs hP hD hS => ?_)
      rw [nI_clamp (n := i) (by omega)] at hP hD
      have hP : va_P (dC, dI0) vwCl [(h0, .inr (0, [.ref a1, .ref a2, .ref a3, .ref a4, .int (nI n2), .int (nI dr2), .int (nI sc2), .ref a5, .ref a6, .ref a7])), (a1, .inl (cI, 7, .inl v1)), (a2, .inl (cI, 7, .inl v2)), (a3, .inl (cI, 7, .inl v3)), (a4, .inl (cI, 7, .inl v4)), (a5, .inl (cI, 6, .inl (upd g1 i x102))), (a6, .inl (cI, 6, .inl g2)), (a7, .inl (cZ, 6, .inl g3)), (g0, .inr (0, [.ref b1, .ref b2, .ref b3, .ref b4, .int (nI n2), .int (nI dr2), .int (nI sc2), .ref b5, .ref b6, .ref b7])), (b1, .inl (cI, 7, .inl kA2)), (b2, .inl (cI, 7, .inl hsA2)), (b3, .inl (cI, 7, .inl dA2)), (b4, .inl (cI, 7, .inl bA2)), (b5, .inl (cI, 6, .inl pA2)), (b6, .inl (cI, 6, .inl nA2)), (b7, .inl (cZ, 6, .inl mA2))] H := hP
      have hD : va_D A [(h0, .inr (0, [.ref a1, .ref a2, .ref a3, .ref a4, .int (nI n2), .int (nI dr2), .int (nI sc2), .ref a5, .ref a6, .ref a7])), (a1, .inl (cI, 7, .inl v1)), (a2, .inl (cI, 7, .inl v2)), (a3, .inl (cI, 7, .inl v3)), (a4, .inl (cI, 7, .inl v4)), (a5, .inl (cI, 6, .inl (upd g1 i x102))), (a6, .inl (cI, 6, .inl g2)), (a7, .inl (cZ, 6, .inl g3)), (g0, .inr (0, [.ref b1, .ref b2, .ref b3, .ref b4, .int (nI n2), .int (nI dr2), .int (nI sc2), .ref b5, .ref b6, .ref b7])), (b1, .inl (cI, 7, .inl kA2)), (b2, .inl (cI, 7, .inl hsA2)), (b3, .inl (cI, 7, .inl dA2)), (b4, .inl (cI, 7, .inl bA2)), (b5, .inl (cI, 6, .inl pA2)), (b6, .inl (cI, 6, .inl nA2)), (b7, .inl (cZ, 6, .inl mA2))] := hD
      refine lv_aload_n hx hb dX0_copyFrom_104 rfl (lv_at hl 0 rfl) ?_
      refine va_get (D := (dC, dI0)) (ci := 0) (v := .ref a6) (C := RX0) (T := TX0) (N := 10) hx hb hts hin_X0 hown hK hP 0 rfl rfl 8 (by decide) hf27 (fun _ h9 => h9) rfl dX0_copyFrom_105 ?_
      refine lv_iload_n hx hb dX0_copyFrom_108 rfl (lv_at hl 2 rfl) ?_
      refine lv_aload_n hx hb dX0_copyFrom_109 rfl (lv_at hl 1 rfl) ?_
      refine va_get (D := (dC, dI0)) (ci := 0) (v := .ref b6) (C := RX0) (T := TX0) (N := 10) hx hb hts hin_X0 hown hK hP 8 rfl rfl 8 (by decide) hf27 (fun _ h9 => h9) rfl dX0_copyFrom_110 ?_
      refine lv_iload_n hx hb dX0_copyFrom_113 rfl (lv_at hl 2 rfl) ?_
      refine va_iald hx hb hK hP 14 0 rfl rfl (vp_in_nI (by omega) (by decide)) dX0_copyFrom_114 ?_
      refine lv_topi (fun x114 e114 => ?_)
      rw [nI_clamp (n := i) (by omega)] at e114
      refine va_iast hx hb hK hP hD hS 6 0 rfl rfl (vp_in_nI (by omega) (by decide)) dX0_copyFrom_115 (fun H locs hP hD hS => ?_)
      rw [nI_clamp (n := i) (by omega)] at hP hD
      have hP : va_P (dC, dI0) vwCl [(h0, .inr (0, [.ref a1, .ref a2, .ref a3, .ref a4, .int (nI n2), .int (nI dr2), .int (nI sc2), .ref a5, .ref a6, .ref a7])), (a1, .inl (cI, 7, .inl v1)), (a2, .inl (cI, 7, .inl v2)), (a3, .inl (cI, 7, .inl v3)), (a4, .inl (cI, 7, .inl v4)), (a5, .inl (cI, 6, .inl (upd g1 i x102))), (a6, .inl (cI, 6, .inl (upd g2 i x114))), (a7, .inl (cZ, 6, .inl g3)), (g0, .inr (0, [.ref b1, .ref b2, .ref b3, .ref b4, .int (nI n2), .int (nI dr2), .int (nI sc2), .ref b5, .ref b6, .ref b7])), (b1, .inl (cI, 7, .inl kA2)), (b2, .inl (cI, 7, .inl hsA2)), (b3, .inl (cI, 7, .inl dA2)), (b4, .inl (cI, 7, .inl bA2)), (b5, .inl (cI, 6, .inl pA2)), (b6, .inl (cI, 6, .inl nA2)), (b7, .inl (cZ, 6, .inl mA2))] H := hP
      have hD : va_D A [(h0, .inr (0, [.ref a1, .ref a2, .ref a3, .ref a4, .int (nI n2), .int (nI dr2), .int (nI sc2), .ref a5, .ref a6, .ref a7])), (a1, .inl (cI, 7, .inl v1)), (a2, .inl (cI, 7, .inl v2)), (a3, .inl (cI, 7, .inl v3)), (a4, .inl (cI, 7, .inl v4)), (a5, .inl (cI, 6, .inl (upd g1 i x102))), (a6, .inl (cI, 6, .inl (upd g2 i x114))), (a7, .inl (cZ, 6, .inl g3)), (g0, .inr (0, [.ref b1, .ref b2, .ref b3, .ref b4, .int (nI n2), .int (nI dr2), .int (nI sc2), .ref b5, .ref b6, .ref b7])), (b1, .inl (cI, 7, .inl kA2)), (b2, .inl (cI, 7, .inl hsA2)), (b3, .inl (cI, 7, .inl dA2)), (b4, .inl (cI, 7, .inl bA2)), (b5, .inl (cI, 6, .inl pA2)), (b6, .inl (cI, 6, .inl nA2)), (b7, .inl (cZ, 6, .inl mA2))] := hD
      refine lv_aload_n hx hb dX0_copyFrom_116 rfl (lv_at hl 0 rfl) ?_
      refine va_get (D := (dC, dI0)) (ci := 0) (v := .ref a7) (C := RX0) (T := TX0) (N := 10) hx hb hts hin_X0 hown hK hP 0 rfl rfl 9 (by decide) hf30 (fun _ h9 => h9) rfl dX0_copyFrom_117 ?_
      refine lv_iload_n hx hb dX0_copyFrom_120 rfl (lv_at hl 2 rfl) ?_
      refine lv_aload_n hx hb dX0_copyFrom_121 rfl (lv_at hl 1 rfl) ?_
      refine va_get (D := (dC, dI0)) (ci := 0) (v := .ref b7) (C := RX0) (T := TX0) (N := 10) hx hb hts hin_X0 hown hK hP 8 rfl rfl 9 (by decide) hf30 (fun _ h9 => h9) rfl dX0_copyFrom_122 ?_
      refine lv_iload_n hx hb dX0_copyFrom_125 rfl (lv_at hl 2 rfl) ?_
      refine va_zald hx hb hK hP 15 1 rfl rfl (vp_in_nI (by omega) (by decide)) dX0_copyFrom_126 ?_
      refine lv_topi (fun x126 e126 => ?_)
      rw [nI_clamp (n := i) (by omega)] at e126
      refine va_zast hx hb hK hP hD hS 7 1 rfl rfl (vp_in_nI (by omega) (by decide)) dX0_copyFrom_127 (fun H locs hP hD hS => ?_)
      rw [nI_clamp (n := i) (by omega)] at hP hD
      have hP : va_P (dC, dI0) vwCl [(h0, .inr (0, [.ref a1, .ref a2, .ref a3, .ref a4, .int (nI n2), .int (nI dr2), .int (nI sc2), .ref a5, .ref a6, .ref a7])), (a1, .inl (cI, 7, .inl v1)), (a2, .inl (cI, 7, .inl v2)), (a3, .inl (cI, 7, .inl v3)), (a4, .inl (cI, 7, .inl v4)), (a5, .inl (cI, 6, .inl (upd g1 i x102))), (a6, .inl (cI, 6, .inl (upd g2 i x114))), (a7, .inl (cZ, 6, .inl (upd g3 i (vp_nar .boolean x126)))), (g0, .inr (0, [.ref b1, .ref b2, .ref b3, .ref b4, .int (nI n2), .int (nI dr2), .int (nI sc2), .ref b5, .ref b6, .ref b7])), (b1, .inl (cI, 7, .inl kA2)), (b2, .inl (cI, 7, .inl hsA2)), (b3, .inl (cI, 7, .inl dA2)), (b4, .inl (cI, 7, .inl bA2)), (b5, .inl (cI, 6, .inl pA2)), (b6, .inl (cI, 6, .inl nA2)), (b7, .inl (cZ, 6, .inl mA2))] H := hP
      have hD : va_D A [(h0, .inr (0, [.ref a1, .ref a2, .ref a3, .ref a4, .int (nI n2), .int (nI dr2), .int (nI sc2), .ref a5, .ref a6, .ref a7])), (a1, .inl (cI, 7, .inl v1)), (a2, .inl (cI, 7, .inl v2)), (a3, .inl (cI, 7, .inl v3)), (a4, .inl (cI, 7, .inl v4)), (a5, .inl (cI, 6, .inl (upd g1 i x102))), (a6, .inl (cI, 6, .inl (upd g2 i x114))), (a7, .inl (cZ, 6, .inl (upd g3 i (vp_nar .boolean x126)))), (g0, .inr (0, [.ref b1, .ref b2, .ref b3, .ref b4, .int (nI n2), .int (nI dr2), .int (nI sc2), .ref b5, .ref b6, .ref b7])), (b1, .inl (cI, 7, .inl kA2)), (b2, .inl (cI, 7, .inl hsA2)), (b3, .inl (cI, 7, .inl dA2)), (b4, .inl (cI, 7, .inl bA2)), (b5, .inl (cI, 6, .inl pA2)), (b6, .inl (cI, 6, .inl nA2)), (b7, .inl (cZ, 6, .inl mA2))] := hD
      refine lv_iinc (v := nI (i + 1)) (lv' := [(2, .int (nI (i + 1))), (0, .ref h0), (1, .ref g0)]) hx hb dX0_copyFrom_128 hl (k := 2) rfl (show nI i + Int32.ofInt 1 = nI (i + 1) from nI_add _ _) (by decide) rfl (fun ls hl => ?_)
      refine lv_goto (tgt := 86) hx hb dX0_copyFrom_131 (by decide) ?_
      exact ih86 (i + 1) (upd g1 i x102) (upd g2 i x114) (upd g3 i (vp_nar .boolean x126)) (by omega) (upd_lt (F := pA2) hg1 e102) (upd_lt (F := nA2) hg2 e114) (upd_lt (F := mA2) hg3 (by rw [e126]; exact nar_b (hmb i (by omega)))) (by omega) _ _ hP hD hS ls (lv_sub hl [1, 2, 0] rfl)
  exact L86 _ 0 pA nA mA (by omega) (fun j hj => absurd hj (Nat.not_lt_zero _)) (fun j hj => absurd hj (Nat.not_lt_zero _)) (fun j hj => absurd hj (Nat.not_lt_zero _)) (Nat.lt_succ_self _) _ _ hP hD hS ls (lv_sub hl [1, 2, 0] rfl)

set_option maxHeartbeats 4000000 in
set_option maxRecDepth 100000 in
theorem KX3_start (l : Launch) (dC : Nat → ClassId) (dI0 : Nat → Nat → Nat) (cI cZ : ClassId) (h3 : Nat) (sd : Nat) (cp : Nat) (nm : Nat) (sz : Nat) (x : Nat) : Met l yX3_start wsX3_start ({ frames := 0, cells := 0, slots := 0, locals := 0 } : Room) (va_Pc [.ref h3, .int (nI x)] (fun U => U.heap.size = sz ∧ va_P (dC, dI0) vwCl (WTr cI cZ h3 sd cp nm) U.heap ∧ va_K (dC, dI0) vwCl [(cI, .int), (cZ, .boolean)] U ∧ va_D (fun _ => True) (WTr cI cZ h3 sd cp nm))) (va_Qv (fun (u : Unit) => True) (fun (u : Unit) (t : State) => va_P (dC, dI0) vwCl (WTr cI cZ h3 x 0 0) t.heap ∧ va_K (dC, dI0) vwCl [(cI, .int), (cZ, .boolean)] t ∧ va_D (va_A (WTr cI cZ h3 sd cp nm) sz) (WTr cI cZ h3 x 0 0)) (va_A (WTr cI cZ h3 sd cp nm) sz)) 0 0 (va_A (WTr cI cZ h3 sd cp nm) sz) := by
  refine Met.ofW (cc := cX3_start) (maxL := 2) (ret := none) (by decide) rfl ?_
  intro prg env s m args below meth c s₁ B hml hv
  obtain ⟨rfl, hsz, hP, hK, hD0⟩ := hv
  have hx := B.exec
  have hb := B.bytes
  have hr := B.returns
  have hts := atoms_spec (ws := wsX3_start) B.pre
  have hown : s.vm.findClass RX3 = some m.cls := findClass_of_methodNamed B.named
  have hlocks := B.notSynchronized
  subst hsz
  have hD := hD0.self (sz := s.heap.size)
  generalize hAe : va_A (WTr cI cZ h3 sd cp nm) s.heap.size = A at hD ⊢
  have hA : ∀ q : Nat, s.heap.size ≤ q → A q := fun q h => by rw [← hAe]; exact Or.inr h
  have hS : va_S A s.heap s.heap [] := va_S.rf
  have hP : va_P (dC, dI0) vwCl [(h3, .inr (3, [.int (nI sd), .int (nI cp), .int (nI nm)]))] s.heap := hP
  have hD : va_D A [(h3, .inr (3, [.int (nI sd), .int (nI cp), .int (nI nm)]))] := hD
  have hl := lv_entry ([.ref h3, .int (nI x)]) (n := 2) (Nat.le_of_ble_eq_true rfl)
  rw [lg_entry_eq]
  generalize (lg_sl ([.ref h3, .int (nI x)]) ++ List.replicate (2 - (lg_sl ([.ref h3, .int (nI x)])).length) Slot.unset).toArray = ls at hl ⊢
  have hl : lv_has ls 2 [(0, .ref h3), (1, .int (nI x))] := hl
  obtain ⟨H, hH⟩ : ∃ H : Heap, H = s.heap := ⟨_, rfl⟩
  rw [← hH] at hP ⊢
  have hS : va_S A s.heap H [] := by rw [hH]; exact hS
  refine w_gen (fun Q hQ => ?_)
  have hin_X3 : ∀ w ∈ wsX30, w ∈ wsX3_start := by decide +kernel
  have hf7 := hts (.fieldLink RX3 7 "HatNames$Trial" "seed" "I") (by decide +kernel)
  have hf13 := hts (.fieldLink RX3 13 "HatNames$Trial" "completed" "I") (by decide +kernel)
  have hf16 := hts (.fieldLink RX3 16 "HatNames$Trial" "names" "I") (by decide +kernel)
  refine lv_aload_n hx hb dX3_start_0 rfl (lv_at hl 0 rfl) ?_
  refine lv_iload_n hx hb dX3_start_1 rfl (lv_at hl 1 rfl) ?_
  refine va_put (D := (dC, dI0)) (ci := 3) (v := .int (nI x)) (ty := .int) (C := RX3) (T := TX3) (N := 3) hx hb hts hin_X3 tyX3 tyX3_ok nmX3 hown hK hP hD hS 0 rfl rfl 0 (by decide) hf7 (fun _ h9 => h9) rfl (by decide +kernel) rfl rfl (Nat.le_of_ble_eq_true rfl) dX3_start_2 (fun H locs hP hD hS => ?_)
  have hP : va_P (dC, dI0) vwCl [(h3, .inr (3, [.int (nI x), .int (nI cp), .int (nI nm)]))] H := hP
  have hD : va_D A [(h3, .inr (3, [.int (nI x), .int (nI cp), .int (nI nm)]))] := hD
  refine lv_aload_n hx hb dX3_start_5 rfl (lv_at hl 0 rfl) ?_
  refine lv_iconst (v := nI 0) hx hb dX3_start_6 (by decide) ?_
  refine va_put (D := (dC, dI0)) (ci := 3) (v := .int (nI 0)) (ty := .int) (C := RX3) (T := TX3) (N := 3) hx hb hts hin_X3 tyX3 tyX3_ok nmX3 hown hK hP hD hS 0 rfl rfl 1 (by decide) hf13 (fun _ h9 => h9) rfl (by decide +kernel) rfl rfl (Nat.le_of_ble_eq_true rfl) dX3_start_7 (fun H locs hP hD hS => ?_)
  have hP : va_P (dC, dI0) vwCl [(h3, .inr (3, [.int (nI x), .int (nI 0), .int (nI nm)]))] H := hP
  have hD : va_D A [(h3, .inr (3, [.int (nI x), .int (nI 0), .int (nI nm)]))] := hD
  refine lv_aload_n hx hb dX3_start_10 rfl (lv_at hl 0 rfl) ?_
  refine lv_iconst (v := nI 0) hx hb dX3_start_11 (by decide) ?_
  refine va_put (D := (dC, dI0)) (ci := 3) (v := .int (nI 0)) (ty := .int) (C := RX3) (T := TX3) (N := 3) hx hb hts hin_X3 tyX3 tyX3_ok nmX3 hown hK hP hD hS 0 rfl rfl 2 (by decide) hf16 (fun _ h9 => h9) rfl (by decide +kernel) rfl rfl (Nat.le_of_ble_eq_true rfl) dX3_start_12 (fun H locs hP hD hS => ?_)
  have hP : va_P (dC, dI0) vwCl [(h3, .inr (3, [.int (nI x), .int (nI 0), .int (nI 0)]))] H := hP
  have hD : va_D A [(h3, .inr (3, [.int (nI x), .int (nI 0), .int (nI 0)]))] := hD
  subst hQ
  have hP9 : va_P (dC, dI0) vwCl [(h3, .inr (3, [.int (nI x), .int (nI 0), .int (nI 0)]))] H := hP
  have hD9 : va_D A [(h3, .inr (3, [.int (nI x), .int (nI 0), .int (nI 0)]))] := hD
  exact W.vret hx hb hr (fun t9 ht9 hW9 => ⟨⟨(), rfl, trivial, by rw [ht9]; exact hP9, va_K.moved hW9.alike hK, hD9⟩, hS.F ht9⟩) hS.2.2 dX3_start_15

set_option maxHeartbeats 4000000 in
set_option maxRecDepth 100000 in
theorem KX3_nextDraw (l : Launch) (dC : Nat → ClassId) (dI0 : Nat → Nat → Nat) (cI cZ : ClassId) (h3 : Nat) (sd : Nat) (cp : Nat) (nm : Nat) (sz : Nat) (x : Nat) (hx1 : 1 ≤ x) (hx7 : x ≤ 7) : Met l yX3_nextDraw wsX3_nextDraw ({ frames := 0, cells := 0, slots := 0, locals := 0 } : Room) (va_Pc [.ref h3, .int (nI x)] (fun U => U.heap.size = sz ∧ va_P (dC, dI0) vwCl (WTr cI cZ h3 sd cp nm) U.heap ∧ va_K (dC, dI0) vwCl [(cI, .int), (cZ, .boolean)] U ∧ va_D (fun _ => True) (WTr cI cZ h3 sd cp nm))) (va_Qi (fun (r : Int32) (u : Unit) => r = nI (nxS sd / 65536 % x)) (fun (u : Unit) (t : State) => va_P (dC, dI0) vwCl (WTr cI cZ h3 (nxS sd) cp nm) t.heap ∧ va_K (dC, dI0) vwCl [(cI, .int), (cZ, .boolean)] t ∧ va_D (va_A (WTr cI cZ h3 sd cp nm) sz) (WTr cI cZ h3 (nxS sd) cp nm)) (va_A (WTr cI cZ h3 sd cp nm) sz)) 0 0 (va_A (WTr cI cZ h3 sd cp nm) sz) := by
  refine Met.ofW (cc := cX3_nextDraw) (maxL := 2) (ret := (some .int)) (by decide) rfl ?_
  intro prg env s m args below meth c s₁ B hml hv
  obtain ⟨rfl, hsz, hP, hK, hD0⟩ := hv
  have hx := B.exec
  have hb := B.bytes
  have hr := B.returns
  have hts := atoms_spec (ws := wsX3_nextDraw) B.pre
  have hown : s.vm.findClass RX3 = some m.cls := findClass_of_methodNamed B.named
  have hlocks := B.notSynchronized
  subst hsz
  have hD := hD0.self (sz := s.heap.size)
  generalize hAe : va_A (WTr cI cZ h3 sd cp nm) s.heap.size = A at hD ⊢
  have hA : ∀ q : Nat, s.heap.size ≤ q → A q := fun q h => by rw [← hAe]; exact Or.inr h
  have hS : va_S A s.heap s.heap [] := va_S.rf
  have hP : va_P (dC, dI0) vwCl [(h3, .inr (3, [.int (nI sd), .int (nI cp), .int (nI nm)]))] s.heap := hP
  have hD : va_D A [(h3, .inr (3, [.int (nI sd), .int (nI cp), .int (nI nm)]))] := hD
  have hl := lv_entry ([.ref h3, .int (nI x)]) (n := 2) (Nat.le_of_ble_eq_true rfl)
  rw [lg_entry_eq]
  generalize (lg_sl ([.ref h3, .int (nI x)]) ++ List.replicate (2 - (lg_sl ([.ref h3, .int (nI x)])).length) Slot.unset).toArray = ls at hl ⊢
  have hl : lv_has ls 2 [(0, .ref h3), (1, .int (nI x))] := hl
  obtain ⟨H, hH⟩ : ∃ H : Heap, H = s.heap := ⟨_, rfl⟩
  rw [← hH] at hP ⊢
  have hS : va_S A s.heap H [] := by rw [hH]; exact hS
  refine w_gen (fun Q hQ => ?_)
  have hk50 := hts (.constant RX3 50 (1103515245)) (by decide +kernel)
  have hin_X3 : ∀ w ∈ wsX30, w ∈ wsX3_nextDraw := by decide +kernel
  have hf7 := hts (.fieldLink RX3 7 "HatNames$Trial" "seed" "I") (by decide +kernel)
  have hk51 := hts (.constant RX3 51 (2147483647)) (by decide +kernel)
  have hk52 := hts (.constant RX3 52 (65536)) (by decide +kernel)
  refine lv_aload_n hx hb dX3_nextDraw_0 rfl (lv_at hl 0 rfl) ?_
  refine lv_ldc (v := nI 1103515245) hx hb hown hk50 dX3_nextDraw_1 ?_
  refine lv_aload_n hx hb dX3_nextDraw_3 rfl (lv_at hl 0 rfl) ?_
  refine va_get (D := (dC, dI0)) (ci := 3) (v := .int (nI sd)) (C := RX3) (T := TX3) (N := 3) hx hb hts hin_X3 hown hK hP 0 rfl rfl 0 (by decide) hf7 (fun _ h9 => h9) rfl dX3_nextDraw_4 ?_
  refine lv_imul hx hb dX3_nextDraw_7 ?_
  refine lv_topi (fun x7 e7 => ?_)
  obtain rfl : x7 = nI (1103515245 * sd) := e7.trans (pk_mul _ _)
  refine lv_sipush (v := nI 12345) hx hb dX3_nextDraw_8 (by decide) ?_
  refine lv_iadd hx hb dX3_nextDraw_11 ?_
  refine lv_topi (fun x11 e11 => ?_)
  obtain rfl : x11 = nI ((1103515245 * sd) + 12345) := e11.trans (nI_add _ _)
  refine lv_ldc (v := nI 2147483647) hx hb hown hk51 dX3_nextDraw_12 ?_
  refine lv_iand hx hb dX3_nextDraw_14 ?_
  refine lv_topi (fun x14 e14 => ?_)
  obtain rfl : x14 = nI (nxS sd) := e14.trans (by rw [and_nI, nx_and]; rfl)
  refine va_put (D := (dC, dI0)) (ci := 3) (v := .int (nI (nxS sd))) (ty := .int) (C := RX3) (T := TX3) (N := 3) hx hb hts hin_X3 tyX3 tyX3_ok nmX3 hown hK hP hD hS 0 rfl rfl 0 (by decide) hf7 (fun _ h9 => h9) rfl (by decide +kernel) rfl rfl (Nat.le_of_ble_eq_true rfl) dX3_nextDraw_15 (fun H locs hP hD hS => ?_)
  have hP : va_P (dC, dI0) vwCl [(h3, .inr (3, [.int (nI (nxS sd)), .int (nI cp), .int (nI nm)]))] H := hP
  have hD : va_D A [(h3, .inr (3, [.int (nI (nxS sd)), .int (nI cp), .int (nI nm)]))] := hD
  refine lv_iload_n hx hb dX3_nextDraw_18 rfl (lv_at hl 1 rfl) ?_
  refine lv_if_le (tgt := 34) hx hb dX3_nextDraw_19 (by decide) (fun c19 => ?_) (fun c19 => ?_)
  ·
    have c19 : x ≤ 0 := (nI_leI (a := x) (b := 0) (by omega) (by omega)).mp c19
    exfalso
    omega
  have c19 : ¬ x ≤ 0 := fun z => c19 ((nI_leI (a := x) (b := 0) (by omega) (by omega)).mpr z)
  refine lv_aload_n hx hb dX3_nextDraw_22 rfl (lv_at hl 0 rfl) ?_
  refine va_get (D := (dC, dI0)) (ci := 3) (v := .int (nI (nxS sd))) (C := RX3) (T := TX3) (N := 3) hx hb hts hin_X3 hown hK hP 0 rfl rfl 0 (by decide) hf7 (fun _ h9 => h9) rfl dX3_nextDraw_23 ?_
  refine lv_ldc (v := nI 65536) hx hb hown hk52 dX3_nextDraw_26 ?_
  have hnl := nxS_lt sd
  refine lv_idiv hx hb dX3_nextDraw_28 (by decide) ?_
  refine lv_topi (fun x28 e28 => ?_)
  obtain rfl : x28 = nI ((nxS sd) / 65536) := e28.trans (pk_div (by omega) (by omega) (by omega))
  refine lv_iload_n hx hb dX3_nextDraw_29 rfl (lv_at hl 1 rfl) ?_
  refine lv_irem hx hb dX3_nextDraw_30 (nI_ne0 (by omega) (by omega)) ?_
  refine lv_topi (fun x30 e30 => ?_)
  obtain rfl : x30 = nI (((nxS sd) / 65536) % x) := e30.trans (pk_rem (by omega) (by omega) (by omega))
  refine lv_goto (tgt := 35) hx hb dX3_nextDraw_31 (by decide) ?_
  subst hQ
  have hP9 : va_P (dC, dI0) vwCl [(h3, .inr (3, [.int (nI (nxS sd)), .int (nI cp), .int (nI nm)]))] H := hP
  have hD9 : va_D A [(h3, .inr (3, [.int (nI (nxS sd)), .int (nI cp), .int (nI nm)]))] := hD
  exact W.iret (v := nI (((nxS sd) / 65536) % x)) hx hb hr (fun t9 ht9 hW9 => ⟨⟨nI (((nxS sd) / 65536) % x), (), rfl, rfl, by rw [ht9]; exact hP9, va_K.moved hW9.alike hK, hD9⟩, hS.F ht9⟩) hS.2.2 dX3_nextDraw_35

set_option maxHeartbeats 4000000 in
set_option maxRecDepth 100000 in
theorem KX3_pick (l : Launch) (dC : Nat → ClassId) (dI0 : Nat → Nat → Nat) (cI cZ : ClassId) (h3 : Nat) (sd : Nat) (cp : Nat) (nm : Nat) (sz : Nat) (S : Nat) (hS7 : S < 128) (hS0 : 0 < S) : Met l yX3_pick wsX3_pick ({ frames := 1, cells := 0, slots := 0, locals := 21 } : Room) (va_Pc [.ref h3, .int (nI S)] (fun U => U.heap.size = sz ∧ va_P (dC, dI0) vwCl (WTr cI cZ h3 sd cp nm) U.heap ∧ va_K (dC, dI0) vwCl [(cI, .int), (cZ, .boolean)] U ∧ va_D (fun _ => True) (WTr cI cZ h3 sd cp nm))) (va_Qi (fun (r : Int32) (u : Unit) => r = nI (drS sd S)) (fun (u : Unit) (t : State) => va_P (dC, dI0) vwCl (WTr cI cZ h3 (nxS sd) cp nm) t.heap ∧ va_K (dC, dI0) vwCl [(cI, .int), (cZ, .boolean)] t ∧ va_D (va_A (WTr cI cZ h3 sd cp nm) sz) (WTr cI cZ h3 (nxS sd) cp nm)) (va_A (WTr cI cZ h3 sd cp nm) sz)) 0 0 (va_A (WTr cI cZ h3 sd cp nm) sz) := by
  refine Met.ofW (cc := cX3_pick) (maxL := 4) (ret := (some .int)) (by decide) rfl ?_
  intro prg env s m args below meth c s₁ B hml hv
  obtain ⟨rfl, hsz, hP, hK, hD0⟩ := hv
  have hx := B.exec
  have hb := B.bytes
  have hr := B.returns
  have hts := atoms_spec (ws := wsX3_pick) B.pre
  have hown : s.vm.findClass RX3 = some m.cls := findClass_of_methodNamed B.named
  have hlocks := B.notSynchronized
  subst hsz
  have hD := hD0.self (sz := s.heap.size)
  generalize hAe : va_A (WTr cI cZ h3 sd cp nm) s.heap.size = A at hD ⊢
  have hA : ∀ q : Nat, s.heap.size ≤ q → A q := fun q h => by rw [← hAe]; exact Or.inr h
  have hS : va_S A s.heap s.heap [] := va_S.rf
  have hP : va_P (dC, dI0) vwCl [(h3, .inr (3, [.int (nI sd), .int (nI cp), .int (nI nm)]))] s.heap := hP
  have hD : va_D A [(h3, .inr (3, [.int (nI sd), .int (nI cp), .int (nI nm)]))] := hD
  have hl := lv_entry ([.ref h3, .int (nI S)]) (n := 4) (Nat.le_of_ble_eq_true rfl)
  rw [lg_entry_eq]
  generalize (lg_sl ([.ref h3, .int (nI S)]) ++ List.replicate (4 - (lg_sl ([.ref h3, .int (nI S)])).length) Slot.unset).toArray = ls at hl ⊢
  have hl : lv_has ls 4 [(0, .ref h3), (1, .int (nI S))] := hl
  obtain ⟨H, hH⟩ : ∃ H : Heap, H = s.heap := ⟨_, rfl⟩
  rw [← hH] at hP ⊢
  have hS : va_S A s.heap H [] := by rw [hH]; exact hS
  refine w_gen (fun Q hQ => ?_)
  refine lv_aload_n hx hb dX3_pick_0 rfl (lv_at hl 0 rfl) ?_
  refine lv_iload_n hx hb dX3_pick_1 rfl (lv_at hl 1 rfl) ?_
  have hPc := hP.sub (ws' := []) [] rfl
  have hDc := hD.sub (ws' := []) [] (by decide) rfl
  have hFc := va_free (wc := []) hD hS hA [] rfl
  refine va_calli (va_runS (As := [.int (nI S)]) (rest := [.ref h3]) ⟨hx, hb, hml, hown, hts⟩ (KJ6_bitCount_0f7a4 l dC dI0 cI cZ  H.size S (by first | assumption | omega)) (va_cwS 1 hts gX3_pick_J6_bitCount_0f7a4 rfl rfl rfl (by decide +kernel) ⟨Nat.le_of_ble_eq_true rfl, Nat.le_of_ble_eq_true rfl⟩) ⟨fun a U g mk q => by obtain ⟨q0, q1, qP, qK, qD⟩ := q; exact ⟨q0, q1, qP, va_K.moved (u := U) (U := U.calling g mk a) (Vm.Alike.refl U.vm) qK, qD⟩, fun U hU hW => ⟨rfl, by rw [hU], by rw [hU]; exact hPc, va_K.moved hW.alike hK, hDc.weaken (fun _ _ _ _ => trivial)⟩⟩ rfl rfl hl.1 rfl (lv_room (Nat.le_of_ble_eq_true rfl)) dX3_pick_2 ⟨Nat.le_of_ble_eq_true rfl, Nat.le_of_ble_eq_true rfl⟩) hS (fun q _ h => hFc q h) hFc (fun r2 u2 t7 H1 locs ht7 hvm7 hw2 hB hz1 hk1 hS => ?_)
  obtain ⟨hP1, hK1, hD1⟩ := hB
  rw [ht7] at hP1
  try dsimp only at hw2 hP1 hD1
  obtain ⟨hP, hD⟩ := va_join (wr := [(h3, .inr (3, [.int (nI sd), .int (nI cp), .int (nI nm)]))]) (w1 := []) hP hD [] [0] rfl rfl (by decide) (by decide) hk1 hFc hP1 hD1
  generalize H1 = H at hP hS ⊢
  have hP := hP.sub (ws' := [(h3, .inr (3, [.int (nI sd), .int (nI cp), .int (nI nm)]))]) [0] rfl
  have hD := hD.sub (ws' := [(h3, .inr (3, [.int (nI sd), .int (nI cp), .int (nI nm)]))]) [0] (by decide) rfl
  obtain rfl : r2 = nI (pop S) := hw2
  have hp1 := pop_pos S hS7 hS0
  have hp7 := pop_le S
  have hPc := hP.sub (ws' := [(h3, .inr (3, [.int (nI sd), .int (nI cp), .int (nI nm)]))]) [0] rfl
  have hDc := hD.sub (ws' := [(h3, .inr (3, [.int (nI sd), .int (nI cp), .int (nI nm)]))]) [0] (by decide) rfl
  have hFc := va_free (wc := [(h3, .inr (3, [.int (nI sd), .int (nI cp), .int (nI nm)]))]) hD hS hA [0] rfl
  refine va_calli (va_runV (As := [.int (nI (pop S))]) (rest := []) ⟨hx, hb, hml, hown, hts⟩ (KX3_nextDraw l dC dI0 cI cZ h3 sd cp nm H.size (pop S) (by first | assumption | omega) (by first | assumption | omega)) (cwV 1 hts gX3_pick_X3_nextDraw rfl rfl rfl (by decide +kernel) ⟨Nat.le_of_ble_eq_true rfl, Nat.le_of_ble_eq_true rfl⟩) ⟨fun a U g mk q => by obtain ⟨q0, q1, qP, qK, qD⟩ := q; exact ⟨q0, q1, qP, va_K.moved (u := U) (U := U.calling g mk a) (Vm.Alike.refl U.vm) qK, qD⟩, va_recv hK hPc (ci := 3) (q0 := 0) rfl rfl, fun U hU hW => ⟨rfl, by rw [hU], by rw [hU]; exact hPc, va_K.moved hW.alike hK, hDc.weaken (fun _ _ _ _ => trivial)⟩⟩ rfl rfl hl.1 rfl (lv_room (Nat.le_of_ble_eq_true rfl)) dX3_pick_5 ⟨Nat.le_of_ble_eq_true rfl, Nat.le_of_ble_eq_true rfl⟩) hS (fun q _ h => hFc q h) hFc (fun r5 u5 t7 H1 locs ht7 hvm7 hw5 hB hz1 hk1 hS => ?_)
  obtain ⟨hP1, hK1, hD1⟩ := hB
  rw [ht7] at hP1
  try dsimp only at hw5 hP1 hD1
  obtain ⟨hP, hD⟩ := va_join (wr := []) (w1 := [(h3, .inr (3, [.int (nI (nxS sd)), .int (nI cp), .int (nI nm)]))]) hP hD [0] [] rfl rfl (by decide) (by decide) hk1 hFc hP1 hD1
  generalize H1 = H at hP hS ⊢
  have hP := hP.sub (ws' := [(h3, .inr (3, [.int (nI (nxS sd)), .int (nI cp), .int (nI nm)]))]) [0] rfl
  have hD := hD.sub (ws' := [(h3, .inr (3, [.int (nI (nxS sd)), .int (nI cp), .int (nI nm)]))]) [0] (by decide) rfl
  obtain rfl : r5 = nI (nxS sd / 65536 % (pop S)) := hw5
  have hmod := Nat.mod_lt (nxS sd / 65536) (show 0 < pop S by omega)
  refine lv_istore_n (lv' := [(2, .int (nI (nxS sd / 65536 % (pop S)))), (0, .ref h3), (1, .int (nI S))]) hx hb dX3_pick_8 rfl hl (by decide) rfl (fun ls hl => ?_)
  refine lv_iconst (v := nI 0) hx hb dX3_pick_9 (by decide) ?_
  refine lv_istore_n (lv' := [(3, .int (nI 0)), (2, .int (nI (nxS sd / 65536 % (pop S)))), (0, .ref h3), (1, .int (nI S))]) hx hb dX3_pick_10 rfl hl (by decide) rfl (fun ls hl => ?_)
  have L11 : ∀ (fu : Nat) (i : Nat) (a : Nat), i ≤ 6 → a < 7 → drS sd S = pkF S (6 - i) i a → 6 - i < fu → ∀ (H : Heap) (locs : List Loc), va_P (dC, dI0) vwCl [(h3, .inr (3, [.int (nI (nxS sd)), .int (nI cp), .int (nI nm)]))] H → va_D A [(h3, .inr (3, [.int (nI (nxS sd)), .int (nI cp), .int (nI nm)]))] → va_S A s.heap H locs → ∀ (ls : Array Slot), lv_has ls 4 [(0, .ref h3), (1, .int (nI S)), (2, .int (nI a)), (3, .int (nI i))] → W prg l env ({ frames := 1, cells := 0, slots := 0, locals := 21 } : Room) s m ([.ref h3, .int (nI S)] : List Value).toArray below meth c H locs 0 0 Q (F0 m 11 ls []) := by
    intro fu
    induction fu with
    | zero => intro i a hi ha ht hmu; exact absurd hmu (Nat.not_lt_zero _)
    | succ fu ih11 =>
      intro i a hi ha ht hmu11 H locs hP hD hS ls hl
      refine lv_iload_n hx hb dX3_pick_11 rfl (lv_at hl 3 rfl) ?_
      refine lv_bipush (v := nI 6) hx hb dX3_pick_12 (by decide) ?_
      refine lv_icmp_ge (tgt := 43) hx hb dX3_pick_14 (by decide) (fun c14 => ?_) (fun c14 => ?_)
      ·
        have c14 : 6 ≤ i := (nI_leI (a := 6) (b := i) (by omega) (by omega)).mp c14
        refine lv_iload_n hx hb dX3_pick_43 rfl (lv_at hl 3 rfl) ?_
        subst hQ
        have hP9 : va_P (dC, dI0) vwCl [(h3, .inr (3, [.int (nI (nxS sd)), .int (nI cp), .int (nI nm)]))] H := hP
        have hD9 : va_D A [(h3, .inr (3, [.int (nI (nxS sd)), .int (nI cp), .int (nI nm)]))] := hD
        exact W.iret (v := nI i) hx hb hr (fun t9 ht9 hW9 => ⟨⟨nI i, (), rfl, by rw [ht, show i = 6 by omega]; rfl, by rw [ht9]; exact hP9, va_K.moved hW9.alike hK, hD9⟩, hS.F ht9⟩) hS.2.2 dX3_pick_44
      have c14 : ¬ 6 ≤ i := fun z => c14 ((nI_leI (a := 6) (b := i) (by omega) (by omega)).mpr z)
      refine lv_iload_n hx hb dX3_pick_17 rfl (lv_at hl 2 rfl) ?_
      refine lv_if_gt (tgt := 29) hx hb dX3_pick_18 (by decide) (fun c18 => ?_) (fun c18 => ?_)
      ·
        have c18 : 0 < a := (nI_ltI (a := 0) (b := a) (by omega) (by omega)).mp c18
        refine lv_iload_n hx hb dX3_pick_29 rfl (lv_at hl 2 rfl) ?_
        refine lv_iload_n hx hb dX3_pick_30 rfl (lv_at hl 1 rfl) ?_
        refine lv_iload_n hx hb dX3_pick_31 rfl (lv_at hl 3 rfl) ?_
        refine lv_ishr hx hb dX3_pick_32 ?_
        refine lv_topi (fun x32 e32 => ?_)
        obtain rfl : x32 = nI (S / 2 ^ i) := e32.trans (shr_nI (by omega) (by omega))
        refine lv_iconst (v := nI 1) hx hb dX3_pick_33 (by decide) ?_
        refine lv_iand hx hb dX3_pick_34 ?_
        refine lv_topi (fun x34 e34 => ?_)
        obtain rfl : x34 = nI ((S / 2 ^ i) % 2) := e34.trans (and_1 _)
        refine lv_isub hx hb dX3_pick_35 ?_
        refine lv_topi (fun x35 e35 => ?_)
        obtain rfl : x35 = nI (a - ((S / 2 ^ i) % 2)) := e35.trans (pk_sub (by omega))
        refine lv_istore_n (lv' := [(2, .int (nI (a - ((S / 2 ^ i) % 2)))), (0, .ref h3), (1, .int (nI S)), (3, .int (nI i))]) hx hb dX3_pick_36 rfl hl (by decide) rfl (fun ls hl => ?_)
        refine lv_iinc (v := nI (i + 1)) (lv' := [(3, .int (nI (i + 1))), (2, .int (nI (a - ((S / 2 ^ i) % 2)))), (0, .ref h3), (1, .int (nI S))]) hx hb dX3_pick_37 hl (k := 3) rfl (show nI i + Int32.ofInt 1 = nI (i + 1) from nI_add _ _) (by decide) rfl (fun ls hl => ?_)
        refine lv_goto (tgt := 11) hx hb dX3_pick_40 (by decide) ?_
        exact ih11 (i + 1) (a - ((S / 2 ^ i) % 2)) (by omega) (by omega) (ht.trans (pkF_t (by omega) (by omega))) (by omega) _ _ hP hD hS ls (lv_sub hl [2, 3, 1, 0] rfl)
      have c18 : ¬ 0 < a := fun z => c18 ((nI_ltI (a := 0) (b := a) (by omega) (by omega)).mpr z)
      refine lv_iload_n hx hb dX3_pick_21 rfl (lv_at hl 1 rfl) ?_
      refine lv_iload_n hx hb dX3_pick_22 rfl (lv_at hl 3 rfl) ?_
      refine lv_ishr hx hb dX3_pick_23 ?_
      refine lv_topi (fun x23 e23 => ?_)
      obtain rfl : x23 = nI (S / 2 ^ i) := e23.trans (shr_nI (by omega) (by omega))
      refine lv_iconst (v := nI 1) hx hb dX3_pick_24 (by decide) ?_
      refine lv_iand hx hb dX3_pick_25 ?_
      refine lv_topi (fun x25 e25 => ?_)
      obtain rfl : x25 = nI ((S / 2 ^ i) % 2) := e25.trans (and_1 _)
      refine lv_if_ne (tgt := 43) hx hb dX3_pick_26 (by decide) (fun c26 => ?_) (fun c26 => ?_)
      ·
        have c26 : ¬ ((S / 2 ^ i) % 2) = 0 := fun z => c26 ((nI_eq (a := ((S / 2 ^ i) % 2)) (b := 0) (by omega) (by omega)).mpr z)
        refine lv_iload_n hx hb dX3_pick_43 rfl (lv_at hl 3 rfl) ?_
        subst hQ
        have hP9 : va_P (dC, dI0) vwCl [(h3, .inr (3, [.int (nI (nxS sd)), .int (nI cp), .int (nI nm)]))] H := hP
        have hD9 : va_D A [(h3, .inr (3, [.int (nI (nxS sd)), .int (nI cp), .int (nI nm)]))] := hD
        exact W.iret (v := nI i) hx hb hr (fun t9 ht9 hW9 => ⟨⟨nI i, (), rfl, by rw [ht]; exact congrArg nI (pkF_f (by omega) (by omega)).symm, by rw [ht9]; exact hP9, va_K.moved hW9.alike hK, hD9⟩, hS.F ht9⟩) hS.2.2 dX3_pick_44
      have c26 : ((S / 2 ^ i) % 2) = 0 := (nI_eq (a := ((S / 2 ^ i) % 2)) (b := 0) (by omega) (by omega)).mp c26
      refine lv_iload_n hx hb dX3_pick_29 rfl (lv_at hl 2 rfl) ?_
      refine lv_iload_n hx hb dX3_pick_30 rfl (lv_at hl 1 rfl) ?_
      refine lv_iload_n hx hb dX3_pick_31 rfl (lv_at hl 3 rfl) ?_
      refine lv_ishr hx hb dX3_pick_32 ?_
      refine lv_topi (fun x32 e32 => ?_)
      obtain rfl : x32 = nI (S / 2 ^ i) := e32.trans (shr_nI (by omega) (by omega))
      refine lv_iconst (v := nI 1) hx hb dX3_pick_33 (by decide) ?_
      refine lv_iand hx hb dX3_pick_34 ?_
      refine lv_topi (fun x34 e34 => ?_)
      obtain rfl : x34 = nI ((S / 2 ^ i) % 2) := e34.trans (and_1 _)
      refine lv_isub hx hb dX3_pick_35 ?_
      refine lv_topi (fun x35 e35 => ?_)
      obtain rfl : x35 = nI (a - ((S / 2 ^ i) % 2)) := e35.trans (pk_sub (by omega))
      refine lv_istore_n (lv' := [(2, .int (nI (a - ((S / 2 ^ i) % 2)))), (0, .ref h3), (1, .int (nI S)), (3, .int (nI i))]) hx hb dX3_pick_36 rfl hl (by decide) rfl (fun ls hl => ?_)
      refine lv_iinc (v := nI (i + 1)) (lv' := [(3, .int (nI (i + 1))), (2, .int (nI (a - ((S / 2 ^ i) % 2)))), (0, .ref h3), (1, .int (nI S))]) hx hb dX3_pick_37 hl (k := 3) rfl (show nI i + Int32.ofInt 1 = nI (i + 1) from nI_add _ _) (by decide) rfl (fun ls hl => ?_)
      refine lv_goto (tgt := 11) hx hb dX3_pick_40 (by decide) ?_
      exact ih11 (i + 1) (a - ((S / 2 ^ i) % 2)) (by omega) (by omega) (ht.trans (pkF_t (by omega) (by omega))) (by omega) _ _ hP hD hS ls (lv_sub hl [2, 3, 1, 0] rfl)
  exact L11 _ 0 (nxS sd / 65536 % (pop S)) (by omega) (by omega) (rfl) (Nat.lt_succ_self _) _ _ hP hD hS ls (lv_sub hl [2, 3, 1, 0] rfl)

set_option maxHeartbeats 4000000 in
set_option maxRecDepth 100000 in
theorem KX3_drawOnce (l : Launch) (dC : Nat → ClassId) (dI0 : Nat → Nat → Nat) (cI cZ : ClassId) (h3 : Nat) (sd : Nat) (cp : Nat) (nm : Nat) (h0 : Nat) (a1 : Nat) (a2 : Nat) (a3 : Nat) (a4 : Nat) (a5 : Nat) (a6 : Nat) (a7 : Nat) (n : Nat) (dr : Nat) (sc : Nat) (kA : Nat → Int32) (hsA : Nat → Int32) (dA : Nat → Int32) (bA : Nat → Int32) (pA : Nat → Int32) (nA : Nat → Int32) (mA : Nat → Int32) (h1 : Nat) (o1 : Nat) (o2 : Nat) (o3 : Nat) (o4 : Nat) (o5 : Nat) (o6 : Nat) (on : Nat) (ev : Nat) (cA : Nat → Int32) (wA : Nat → Int32) (rA : Nat → Int32) (xA : Nat → Int32) (tA : Nat → Int32) (gA : Nat → Int32) (sz : Nat) (k : Nat → Nat) (h : Nat → Nat) (b : Nat → Nat) (d : Nat → Option Nat) (cs : Nat → Nat) (hC : CoR n kA hsA dA bA k h b d) (hO : OuR on ev cA cs) (hon : on = n) : Met l yX3_drawOnce wsX3_drawOnce ({ frames := 2, cells := 0, slots := 0, locals := 44 } : Room) (va_Pc [.ref h3, .ref h0, .ref h1] (fun U => U.heap.size = sz ∧ va_P (dC, dI0) vwCl (WTCO cI cZ h3 sd cp nm h0 a1 a2 a3 a4 a5 a6 a7 n dr sc kA hsA dA bA pA nA mA h1 o1 o2 o3 o4 o5 o6 on ev cA wA rA xA tA gA) U.heap ∧ va_K (dC, dI0) vwCl [(cI, .int), (cZ, .boolean)] U ∧ va_D (fun _ => True) (WTCO cI cZ h3 sd cp nm h0 a1 a2 a3 a4 a5 a6 a7 n dr sc kA hsA dA bA pA nA mA h1 o1 o2 o3 o4 o5 o6 on ev cA wA rA xA tA gA))) (va_Qv (fun (u : Nat × Nat × Nat) => u.1 = (doF cs d n 0 (hatS n d) sd nm).1 ∧ u.2.1 = (doF cs d n 0 (hatS n d) sd nm).2.1 ∧ u.2.2 = cp + (if (doF cs d n 0 (hatS n d) sd nm).2.2 = true then 1 else 0)) (fun (u : Nat × Nat × Nat) (t : State) => va_P (dC, dI0) vwCl (WTCO cI cZ h3 u.1 u.2.2 u.2.1 h0 a1 a2 a3 a4 a5 a6 a7 n dr sc kA hsA dA bA pA nA mA h1 o1 o2 o3 o4 o5 o6 on ev cA wA rA xA tA gA) t.heap ∧ va_K (dC, dI0) vwCl [(cI, .int), (cZ, .boolean)] t ∧ va_D (va_A (WTCO cI cZ h3 sd cp nm h0 a1 a2 a3 a4 a5 a6 a7 n dr sc kA hsA dA bA pA nA mA h1 o1 o2 o3 o4 o5 o6 on ev cA wA rA xA tA gA) sz) (WTCO cI cZ h3 u.1 u.2.2 u.2.1 h0 a1 a2 a3 a4 a5 a6 a7 n dr sc kA hsA dA bA pA nA mA h1 o1 o2 o3 o4 o5 o6 on ev cA wA rA xA tA gA)) (va_A (WTCO cI cZ h3 sd cp nm h0 a1 a2 a3 a4 a5 a6 a7 n dr sc kA hsA dA bA pA nA mA h1 o1 o2 o3 o4 o5 o6 on ev cA wA rA xA tA gA) sz)) 0 0 (va_A (WTCO cI cZ h3 sd cp nm h0 a1 a2 a3 a4 a5 a6 a7 n dr sc kA hsA dA bA pA nA mA h1 o1 o2 o3 o4 o5 o6 on ev cA wA rA xA tA gA) sz) := by
  refine Met.ofW (cc := cX3_drawOnce) (maxL := 6) (ret := none) (by decide) rfl ?_
  intro prg env s m args below meth c s₁ B hml hv
  obtain ⟨rfl, hsz, hP, hK, hD0⟩ := hv
  have hx := B.exec
  have hb := B.bytes
  have hr := B.returns
  have hts := atoms_spec (ws := wsX3_drawOnce) B.pre
  have hown : s.vm.findClass RX3 = some m.cls := findClass_of_methodNamed B.named
  have hlocks := B.notSynchronized
  subst hsz
  have hD := hD0.self (sz := s.heap.size)
  generalize hAe : va_A (WTCO cI cZ h3 sd cp nm h0 a1 a2 a3 a4 a5 a6 a7 n dr sc kA hsA dA bA pA nA mA h1 o1 o2 o3 o4 o5 o6 on ev cA wA rA xA tA gA) s.heap.size = A at hD ⊢
  have hA : ∀ q : Nat, s.heap.size ≤ q → A q := fun q h => by rw [← hAe]; exact Or.inr h
  have hS : va_S A s.heap s.heap [] := va_S.rf
  have hP : va_P (dC, dI0) vwCl [(h3, .inr (3, [.int (nI sd), .int (nI cp), .int (nI nm)])), (h0, .inr (0, [.ref a1, .ref a2, .ref a3, .ref a4, .int (nI n), .int (nI dr), .int (nI sc), .ref a5, .ref a6, .ref a7])), (a1, .inl (cI, 7, .inl kA)), (a2, .inl (cI, 7, .inl hsA)), (a3, .inl (cI, 7, .inl dA)), (a4, .inl (cI, 7, .inl bA)), (a5, .inl (cI, 6, .inl pA)), (a6, .inl (cI, 6, .inl nA)), (a7, .inl (cZ, 6, .inl mA)), (h1, .inr (1, [.ref o1, .ref o2, .ref o3, .ref o4, .ref o5, .ref o6, .int (nI on), .int (nI ev)])), (o1, .inl (cI, 7, .inl cA)), (o2, .inl (cI, 128, .inl wA)), (o3, .inl (cI, 128, .inl rA)), (o4, .inl (cI, 128, .inl xA)), (o5, .inl (cI, 49, .inl tA)), (o6, .inl (cI, 896, .inl gA))] s.heap := hP
  have hD : va_D A [(h3, .inr (3, [.int (nI sd), .int (nI cp), .int (nI nm)])), (h0, .inr (0, [.ref a1, .ref a2, .ref a3, .ref a4, .int (nI n), .int (nI dr), .int (nI sc), .ref a5, .ref a6, .ref a7])), (a1, .inl (cI, 7, .inl kA)), (a2, .inl (cI, 7, .inl hsA)), (a3, .inl (cI, 7, .inl dA)), (a4, .inl (cI, 7, .inl bA)), (a5, .inl (cI, 6, .inl pA)), (a6, .inl (cI, 6, .inl nA)), (a7, .inl (cZ, 6, .inl mA)), (h1, .inr (1, [.ref o1, .ref o2, .ref o3, .ref o4, .ref o5, .ref o6, .int (nI on), .int (nI ev)])), (o1, .inl (cI, 7, .inl cA)), (o2, .inl (cI, 128, .inl wA)), (o3, .inl (cI, 128, .inl rA)), (o4, .inl (cI, 128, .inl xA)), (o5, .inl (cI, 49, .inl tA)), (o6, .inl (cI, 896, .inl gA))] := hD
  have hl := lv_entry ([.ref h3, .ref h0, .ref h1]) (n := 6) (Nat.le_of_ble_eq_true rfl)
  rw [lg_entry_eq]
  generalize (lg_sl ([.ref h3, .ref h0, .ref h1]) ++ List.replicate (6 - (lg_sl ([.ref h3, .ref h0, .ref h1])).length) Slot.unset).toArray = ls at hl ⊢
  have hl : lv_has ls 6 [(0, .ref h3), (1, .ref h0), (2, .ref h1)] := hl
  obtain ⟨H, hH⟩ : ∃ H : Heap, H = s.heap := ⟨_, rfl⟩
  rw [← hH] at hP ⊢
  have hS : va_S A s.heap H [] := by rw [hH]; exact hS
  refine w_gen (fun Q hQ => ?_)
  have hin_X0 : ∀ w ∈ wsX00, w ∈ wsX3_drawOnce := by decide +kernel
  have hf25 := hts (.fieldLink RX3 25 "HatNames$Company" "size" "I") (by decide +kernel)
  have hin_X3 : ∀ w ∈ wsX30, w ∈ wsX3_drawOnce := by decide +kernel
  have hf13 := hts (.fieldLink RX3 13 "HatNames$Trial" "completed" "I") (by decide +kernel)
  have hin_X1 : ∀ w ∈ wsX10, w ∈ wsX3_drawOnce := by decide +kernel
  have hf32 := hts (.fieldLink RX3 32 "HatNames$Outlook" "choices" "[I") (by decide +kernel)
  have hf16 := hts (.fieldLink RX3 16 "HatNames$Trial" "names" "I") (by decide +kernel)
  obtain ⟨hn7, hkk, hhh, hbb, hdd, hdn, hdi⟩ := id hC
  obtain ⟨ho7, hev, hev7, hcc⟩ := id hO
  refine lv_aload_n hx hb dX3_drawOnce_0 rfl (lv_at hl 1 rfl) ?_
  have hPc := hP.sub (ws' := [(h0, .inr (0, [.ref a1, .ref a2, .ref a3, .ref a4, .int (nI n), .int (nI dr), .int (nI sc), .ref a5, .ref a6, .ref a7])), (a1, .inl (cI, 7, .inl kA)), (a2, .inl (cI, 7, .inl hsA)), (a3, .inl (cI, 7, .inl dA)), (a4, .inl (cI, 7, .inl bA)), (a5, .inl (cI, 6, .inl pA)), (a6, .inl (cI, 6, .inl nA)), (a7, .inl (cZ, 6, .inl mA))]) [1, 2, 3, 4, 5, 6, 7, 8] rfl
  have hDc := hD.sub (ws' := [(h0, .inr (0, [.ref a1, .ref a2, .ref a3, .ref a4, .int (nI n), .int (nI dr), .int (nI sc), .ref a5, .ref a6, .ref a7])), (a1, .inl (cI, 7, .inl kA)), (a2, .inl (cI, 7, .inl hsA)), (a3, .inl (cI, 7, .inl dA)), (a4, .inl (cI, 7, .inl bA)), (a5, .inl (cI, 6, .inl pA)), (a6, .inl (cI, 6, .inl nA)), (a7, .inl (cZ, 6, .inl mA))]) [1, 2, 3, 4, 5, 6, 7, 8] (by decide) rfl
  have hFc := va_free (wc := [(h0, .inr (0, [.ref a1, .ref a2, .ref a3, .ref a4, .int (nI n), .int (nI dr), .int (nI sc), .ref a5, .ref a6, .ref a7])), (a1, .inl (cI, 7, .inl kA)), (a2, .inl (cI, 7, .inl hsA)), (a3, .inl (cI, 7, .inl dA)), (a4, .inl (cI, 7, .inl bA)), (a5, .inl (cI, 6, .inl pA)), (a6, .inl (cI, 6, .inl nA)), (a7, .inl (cZ, 6, .inl mA))]) hD hS hA [1, 2, 3, 4, 5, 6, 7, 8] rfl
  refine va_calli (va_runV (As := []) (rest := []) ⟨hx, hb, hml, hown, hts⟩ (KX0_hatBits l dC dI0 cI cZ h0 a1 a2 a3 a4 a5 a6 a7 n dr sc kA hsA dA bA pA nA mA H.size k h b d (by first | assumption | omega)) (cwV 0 hts gX3_drawOnce_X0_hatBits rfl rfl rfl (by decide +kernel) ⟨Nat.le_of_ble_eq_true rfl, Nat.le_of_ble_eq_true rfl⟩) ⟨fun a U g mk q => by obtain ⟨q0, q1, qP, qK, qD⟩ := q; exact ⟨q0, q1, qP, va_K.moved (u := U) (U := U.calling g mk a) (Vm.Alike.refl U.vm) qK, qD⟩, va_recv hK hPc (ci := 0) (q0 := 0) rfl rfl, fun U hU hW => ⟨rfl, by rw [hU], by rw [hU]; exact hPc, va_K.moved hW.alike hK, hDc.weaken (fun _ _ _ _ => trivial)⟩⟩ rfl rfl hl.1 rfl (lv_room (Nat.le_of_ble_eq_true rfl)) dX3_drawOnce_1 ⟨Nat.le_of_ble_eq_true rfl, Nat.le_of_ble_eq_true rfl⟩) hS (fun q _ h => hFc q h) hFc (fun r1 u1 t7 H1 locs ht7 hvm7 hw1 hB hz1 hk1 hS => ?_)
  obtain ⟨hP1, hK1, hD1⟩ := hB
  rw [ht7] at hP1
  try dsimp only at hw1 hP1 hD1
  obtain ⟨hP, hD⟩ := va_join (wr := [(h3, .inr (3, [.int (nI sd), .int (nI cp), .int (nI nm)])), (h1, .inr (1, [.ref o1, .ref o2, .ref o3, .ref o4, .ref o5, .ref o6, .int (nI on), .int (nI ev)])), (o1, .inl (cI, 7, .inl cA)), (o2, .inl (cI, 128, .inl wA)), (o3, .inl (cI, 128, .inl rA)), (o4, .inl (cI, 128, .inl xA)), (o5, .inl (cI, 49, .inl tA)), (o6, .inl (cI, 896, .inl gA))]) (w1 := [(h0, .inr (0, [.ref a1, .ref a2, .ref a3, .ref a4, .int (nI n), .int (nI dr), .int (nI sc), .ref a5, .ref a6, .ref a7])), (a1, .inl (cI, 7, .inl kA)), (a2, .inl (cI, 7, .inl hsA)), (a3, .inl (cI, 7, .inl dA)), (a4, .inl (cI, 7, .inl bA)), (a5, .inl (cI, 6, .inl pA)), (a6, .inl (cI, 6, .inl nA)), (a7, .inl (cZ, 6, .inl mA))]) hP hD [1, 2, 3, 4, 5, 6, 7, 8] [0, 9, 10, 11, 12, 13, 14, 15] rfl rfl (by decide) (by decide) hk1 hFc hP1 hD1
  generalize H1 = H at hP hS ⊢
  have hP := hP.sub (ws' := [(h3, .inr (3, [.int (nI sd), .int (nI cp), .int (nI nm)])), (h0, .inr (0, [.ref a1, .ref a2, .ref a3, .ref a4, .int (nI n), .int (nI dr), .int (nI sc), .ref a5, .ref a6, .ref a7])), (a1, .inl (cI, 7, .inl kA)), (a2, .inl (cI, 7, .inl hsA)), (a3, .inl (cI, 7, .inl dA)), (a4, .inl (cI, 7, .inl bA)), (a5, .inl (cI, 6, .inl pA)), (a6, .inl (cI, 6, .inl nA)), (a7, .inl (cZ, 6, .inl mA)), (h1, .inr (1, [.ref o1, .ref o2, .ref o3, .ref o4, .ref o5, .ref o6, .int (nI on), .int (nI ev)])), (o1, .inl (cI, 7, .inl cA)), (o2, .inl (cI, 128, .inl wA)), (o3, .inl (cI, 128, .inl rA)), (o4, .inl (cI, 128, .inl xA)), (o5, .inl (cI, 49, .inl tA)), (o6, .inl (cI, 896, .inl gA))]) [0, 8, 9, 10, 11, 12, 13, 14, 15, 1, 2, 3, 4, 5, 6, 7] rfl
  have hD := hD.sub (ws' := [(h3, .inr (3, [.int (nI sd), .int (nI cp), .int (nI nm)])), (h0, .inr (0, [.ref a1, .ref a2, .ref a3, .ref a4, .int (nI n), .int (nI dr), .int (nI sc), .ref a5, .ref a6, .ref a7])), (a1, .inl (cI, 7, .inl kA)), (a2, .inl (cI, 7, .inl hsA)), (a3, .inl (cI, 7, .inl dA)), (a4, .inl (cI, 7, .inl bA)), (a5, .inl (cI, 6, .inl pA)), (a6, .inl (cI, 6, .inl nA)), (a7, .inl (cZ, 6, .inl mA)), (h1, .inr (1, [.ref o1, .ref o2, .ref o3, .ref o4, .ref o5, .ref o6, .int (nI on), .int (nI ev)])), (o1, .inl (cI, 7, .inl cA)), (o2, .inl (cI, 128, .inl wA)), (o3, .inl (cI, 128, .inl rA)), (o4, .inl (cI, 128, .inl xA)), (o5, .inl (cI, 49, .inl tA)), (o6, .inl (cI, 896, .inl gA))]) [0, 8, 9, 10, 11, 12, 13, 14, 15, 1, 2, 3, 4, 5, 6, 7] (by decide) rfl
  obtain rfl : r1 = nI (hatS n d) := hw1
  refine lv_istore_n (lv' := [(3, .int (nI (hatS n d))), (0, .ref h3), (1, .ref h0), (2, .ref h1)]) hx hb dX3_drawOnce_4 rfl hl (by decide) rfl (fun ls hl => ?_)
  refine lv_iconst (v := nI 0) hx hb dX3_drawOnce_5 (by decide) ?_
  refine lv_istore (lv' := [(4, .int (nI 0)), (3, .int (nI (hatS n d))), (0, .ref h3), (1, .ref h0), (2, .ref h1)]) hx hb dX3_drawOnce_6 hl (by decide) rfl (fun ls hl => ?_)
  have L8 : ∀ (fu : Nat) (i : Nat) (lf : Nat) (s9 : Nat) (m9 : Nat), i ≤ n → doF cs d n 0 (hatS n d) sd nm = doF cs d (n - i) i lf s9 m9 → n - i < fu → ∀ (H : Heap) (locs : List Loc), va_P (dC, dI0) vwCl [(h3, .inr (3, [.int (nI s9), .int (nI cp), .int (nI m9)])), (h0, .inr (0, [.ref a1, .ref a2, .ref a3, .ref a4, .int (nI n), .int (nI dr), .int (nI sc), .ref a5, .ref a6, .ref a7])), (a1, .inl (cI, 7, .inl kA)), (a2, .inl (cI, 7, .inl hsA)), (a3, .inl (cI, 7, .inl dA)), (a4, .inl (cI, 7, .inl bA)), (a5, .inl (cI, 6, .inl pA)), (a6, .inl (cI, 6, .inl nA)), (a7, .inl (cZ, 6, .inl mA)), (h1, .inr (1, [.ref o1, .ref o2, .ref o3, .ref o4, .ref o5, .ref o6, .int (nI on), .int (nI ev)])), (o1, .inl (cI, 7, .inl cA)), (o2, .inl (cI, 128, .inl wA)), (o3, .inl (cI, 128, .inl rA)), (o4, .inl (cI, 128, .inl xA)), (o5, .inl (cI, 49, .inl tA)), (o6, .inl (cI, 896, .inl gA))] H → va_D A [(h3, .inr (3, [.int (nI s9), .int (nI cp), .int (nI m9)])), (h0, .inr (0, [.ref a1, .ref a2, .ref a3, .ref a4, .int (nI n), .int (nI dr), .int (nI sc), .ref a5, .ref a6, .ref a7])), (a1, .inl (cI, 7, .inl kA)), (a2, .inl (cI, 7, .inl hsA)), (a3, .inl (cI, 7, .inl dA)), (a4, .inl (cI, 7, .inl bA)), (a5, .inl (cI, 6, .inl pA)), (a6, .inl (cI, 6, .inl nA)), (a7, .inl (cZ, 6, .inl mA)), (h1, .inr (1, [.ref o1, .ref o2, .ref o3, .ref o4, .ref o5, .ref o6, .int (nI on), .int (nI ev)])), (o1, .inl (cI, 7, .inl cA)), (o2, .inl (cI, 128, .inl wA)), (o3, .inl (cI, 128, .inl rA)), (o4, .inl (cI, 128, .inl xA)), (o5, .inl (cI, 49, .inl tA)), (o6, .inl (cI, 896, .inl gA))] → va_S A s.heap H locs → ∀ (ls : Array Slot), lv_has ls 6 [(0, .ref h3), (1, .ref h0), (2, .ref h1), (3, .int (nI lf)), (4, .int (nI i))] → W prg l env ({ frames := 2, cells := 0, slots := 0, locals := 44 } : Room) s m ([.ref h3, .ref h0, .ref h1] : List Value).toArray below meth c H locs 0 0 Q (F0 m 8 ls []) := by
    intro fu
    induction fu with
    | zero => intro i lf s9 m9 hi ht hmu; exact absurd hmu (Nat.not_lt_zero _)
    | succ fu ih8 =>
      intro i lf s9 m9 hi ht hmu8 H locs hP hD hS ls hl
      refine lv_iload hx hb dX3_drawOnce_8 (lv_at hl 4 rfl) ?_
      refine lv_aload_n hx hb dX3_drawOnce_10 rfl (lv_at hl 1 rfl) ?_
      refine va_get (D := (dC, dI0)) (ci := 0) (v := .int (nI n)) (C := RX0) (T := TX0) (N := 10) hx hb hts hin_X0 hown hK hP 1 rfl rfl 4 (by decide) hf25 (fun _ h9 => h9) rfl dX3_drawOnce_11 ?_
      refine lv_icmp_ge (tgt := 72) hx hb dX3_drawOnce_14 (by decide) (fun c14 => ?_) (fun c14 => ?_)
      ·
        have c14 : n ≤ i := (nI_leI (a := n) (b := i) (by omega) (by omega)).mp c14
        refine lv_aload_n hx hb dX3_drawOnce_72 rfl (lv_at hl 0 rfl) ?_
        refine lv_dup hx hb dX3_drawOnce_73 rfl ?_
        refine va_get (D := (dC, dI0)) (ci := 3) (v := .int (nI cp)) (C := RX3) (T := TX3) (N := 3) hx hb hts hin_X3 hown hK hP 0 rfl rfl 1 (by decide) hf13 (fun _ h9 => h9) rfl dX3_drawOnce_74 ?_
        refine lv_iconst (v := nI 1) hx hb dX3_drawOnce_77 (by decide) ?_
        refine lv_iadd hx hb dX3_drawOnce_78 ?_
        refine lv_topi (fun x78 e78 => ?_)
        obtain rfl : x78 = nI (cp + 1) := e78.trans (nI_add _ _)
        refine va_put (D := (dC, dI0)) (ci := 3) (v := .int (nI (cp + 1))) (ty := .int) (C := RX3) (T := TX3) (N := 3) hx hb hts hin_X3 tyX3 tyX3_ok nmX3 hown hK hP hD hS 0 rfl rfl 1 (by decide) hf13 (fun _ h9 => h9) rfl (by decide +kernel) rfl rfl (Nat.le_of_ble_eq_true rfl) dX3_drawOnce_79 (fun H locs hP hD hS => ?_)
        have hP : va_P (dC, dI0) vwCl [(h3, .inr (3, [.int (nI s9), .int (nI (cp + 1)), .int (nI m9)])), (h0, .inr (0, [.ref a1, .ref a2, .ref a3, .ref a4, .int (nI n), .int (nI dr), .int (nI sc), .ref a5, .ref a6, .ref a7])), (a1, .inl (cI, 7, .inl kA)), (a2, .inl (cI, 7, .inl hsA)), (a3, .inl (cI, 7, .inl dA)), (a4, .inl (cI, 7, .inl bA)), (a5, .inl (cI, 6, .inl pA)), (a6, .inl (cI, 6, .inl nA)), (a7, .inl (cZ, 6, .inl mA)), (h1, .inr (1, [.ref o1, .ref o2, .ref o3, .ref o4, .ref o5, .ref o6, .int (nI on), .int (nI ev)])), (o1, .inl (cI, 7, .inl cA)), (o2, .inl (cI, 128, .inl wA)), (o3, .inl (cI, 128, .inl rA)), (o4, .inl (cI, 128, .inl xA)), (o5, .inl (cI, 49, .inl tA)), (o6, .inl (cI, 896, .inl gA))] H := hP
        have hD : va_D A [(h3, .inr (3, [.int (nI s9), .int (nI (cp + 1)), .int (nI m9)])), (h0, .inr (0, [.ref a1, .ref a2, .ref a3, .ref a4, .int (nI n), .int (nI dr), .int (nI sc), .ref a5, .ref a6, .ref a7])), (a1, .inl (cI, 7, .inl kA)), (a2, .inl (cI, 7, .inl hsA)), (a3, .inl (cI, 7, .inl dA)), (a4, .inl (cI, 7, .inl bA)), (a5, .inl (cI, 6, .inl pA)), (a6, .inl (cI, 6, .inl nA)), (a7, .inl (cZ, 6, .inl mA)), (h1, .inr (1, [.ref o1, .ref o2, .ref o3, .ref o4, .ref o5, .ref o6, .int (nI on), .int (nI ev)])), (o1, .inl (cI, 7, .inl cA)), (o2, .inl (cI, 128, .inl wA)), (o3, .inl (cI, 128, .inl rA)), (o4, .inl (cI, 128, .inl xA)), (o5, .inl (cI, 49, .inl tA)), (o6, .inl (cI, 896, .inl gA))] := hD
        subst hQ
        have hP9 : va_P (dC, dI0) vwCl [(h3, .inr (3, [.int (nI s9), .int (nI (cp + 1)), .int (nI m9)])), (h0, .inr (0, [.ref a1, .ref a2, .ref a3, .ref a4, .int (nI n), .int (nI dr), .int (nI sc), .ref a5, .ref a6, .ref a7])), (a1, .inl (cI, 7, .inl kA)), (a2, .inl (cI, 7, .inl hsA)), (a3, .inl (cI, 7, .inl dA)), (a4, .inl (cI, 7, .inl bA)), (a5, .inl (cI, 6, .inl pA)), (a6, .inl (cI, 6, .inl nA)), (a7, .inl (cZ, 6, .inl mA)), (h1, .inr (1, [.ref o1, .ref o2, .ref o3, .ref o4, .ref o5, .ref o6, .int (nI on), .int (nI ev)])), (o1, .inl (cI, 7, .inl cA)), (o2, .inl (cI, 128, .inl wA)), (o3, .inl (cI, 128, .inl rA)), (o4, .inl (cI, 128, .inl xA)), (o5, .inl (cI, 49, .inl tA)), (o6, .inl (cI, 896, .inl gA))] H := hP
        have hD9 : va_D A [(h3, .inr (3, [.int (nI s9), .int (nI (cp + 1)), .int (nI m9)])), (h0, .inr (0, [.ref a1, .ref a2, .ref a3, .ref a4, .int (nI n), .int (nI dr), .int (nI sc), .ref a5, .ref a6, .ref a7])), (a1, .inl (cI, 7, .inl kA)), (a2, .inl (cI, 7, .inl hsA)), (a3, .inl (cI, 7, .inl dA)), (a4, .inl (cI, 7, .inl bA)), (a5, .inl (cI, 6, .inl pA)), (a6, .inl (cI, 6, .inl nA)), (a7, .inl (cZ, 6, .inl mA)), (h1, .inr (1, [.ref o1, .ref o2, .ref o3, .ref o4, .ref o5, .ref o6, .int (nI on), .int (nI ev)])), (o1, .inl (cI, 7, .inl cA)), (o2, .inl (cI, 128, .inl wA)), (o3, .inl (cI, 128, .inl rA)), (o4, .inl (cI, 128, .inl xA)), (o5, .inl (cI, 49, .inl tA)), (o6, .inl (cI, 896, .inl gA))] := hD
        exact W.vret hx hb hr (fun t9 ht9 hW9 => ⟨⟨(s9, m9, cp + 1), rfl, by rw [ht, show n - i = 0 by omega]; exact ⟨rfl, rfl, rfl⟩, by rw [ht9]; exact hP9, va_K.moved hW9.alike hK, hD9⟩, hS.F ht9⟩) hS.2.2 dX3_drawOnce_82
      have c14 : ¬ n ≤ i := fun z => c14 ((nI_leI (a := n) (b := i) (by omega) (by omega)).mpr z)
      refine lv_aload_n hx hb dX3_drawOnce_17 rfl (lv_at hl 1 rfl) ?_
      refine lv_iload hx hb dX3_drawOnce_18 (lv_at hl 4 rfl) ?_
      have hPc := hP.sub (ws' := [(h0, .inr (0, [.ref a1, .ref a2, .ref a3, .ref a4, .int (nI n), .int (nI dr), .int (nI sc), .ref a5, .ref a6, .ref a7])), (a1, .inl (cI, 7, .inl kA)), (a2, .inl (cI, 7, .inl hsA)), (a3, .inl (cI, 7, .inl dA)), (a4, .inl (cI, 7, .inl bA)), (a5, .inl (cI, 6, .inl pA)), (a6, .inl (cI, 6, .inl nA)), (a7, .inl (cZ, 6, .inl mA))]) [1, 2, 3, 4, 5, 6, 7, 8] rfl
      have hDc := hD.sub (ws' := [(h0, .inr (0, [.ref a1, .ref a2, .ref a3, .ref a4, .int (nI n), .int (nI dr), .int (nI sc), .ref a5, .ref a6, .ref a7])), (a1, .inl (cI, 7, .inl kA)), (a2, .inl (cI, 7, .inl hsA)), (a3, .inl (cI, 7, .inl dA)), (a4, .inl (cI, 7, .inl bA)), (a5, .inl (cI, 6, .inl pA)), (a6, .inl (cI, 6, .inl nA)), (a7, .inl (cZ, 6, .inl mA))]) [1, 2, 3, 4, 5, 6, 7, 8] (by decide) rfl
      have hFc := va_free (wc := [(h0, .inr (0, [.ref a1, .ref a2, .ref a3, .ref a4, .int (nI n), .int (nI dr), .int (nI sc), .ref a5, .ref a6, .ref a7])), (a1, .inl (cI, 7, .inl kA)), (a2, .inl (cI, 7, .inl hsA)), (a3, .inl (cI, 7, .inl dA)), (a4, .inl (cI, 7, .inl bA)), (a5, .inl (cI, 6, .inl pA)), (a6, .inl (cI, 6, .inl nA)), (a7, .inl (cZ, 6, .inl mA))]) hD hS hA [1, 2, 3, 4, 5, 6, 7, 8] rfl
      refine va_calli (va_runV (As := [.int (nI i)]) (rest := []) ⟨hx, hb, hml, hown, hts⟩ (KX0_hasDrawn l dC dI0 cI cZ h0 a1 a2 a3 a4 a5 a6 a7 n dr sc kA hsA dA bA pA nA mA H.size k h b d i (by first | assumption | omega) (by first | assumption | omega)) (cwV 1 hts gX3_drawOnce_X0_hasDrawn rfl rfl rfl (by decide +kernel) ⟨Nat.le_of_ble_eq_true rfl, Nat.le_of_ble_eq_true rfl⟩) ⟨fun a U g mk q => by obtain ⟨q0, q1, qP, qK, qD⟩ := q; exact ⟨q0, q1, qP, va_K.moved (u := U) (U := U.calling g mk a) (Vm.Alike.refl U.vm) qK, qD⟩, va_recv hK hPc (ci := 0) (q0 := 0) rfl rfl, fun U hU hW => ⟨rfl, by rw [hU], by rw [hU]; exact hPc, va_K.moved hW.alike hK, hDc.weaken (fun _ _ _ _ => trivial)⟩⟩ rfl rfl hl.1 rfl (lv_room (Nat.le_of_ble_eq_true rfl)) dX3_drawOnce_20 ⟨Nat.le_of_ble_eq_true rfl, Nat.le_of_ble_eq_true rfl⟩) hS (fun q _ h => hFc q h) hFc (fun r20 u20 t7 H1 locs ht7 hvm7 hw20 hB hz1 hk1 hS => ?_)
      obtain ⟨hP1, hK1, hD1⟩ := hB
      rw [ht7] at hP1
      try dsimp only at hw20 hP1 hD1
      obtain ⟨hP, hD⟩ := va_join (wr := [(h3, .inr (3, [.int (nI s9), .int (nI cp), .int (nI m9)])), (h1, .inr (1, [.ref o1, .ref o2, .ref o3, .ref o4, .ref o5, .ref o6, .int (nI on), .int (nI ev)])), (o1, .inl (cI, 7, .inl cA)), (o2, .inl (cI, 128, .inl wA)), (o3, .inl (cI, 128, .inl rA)), (o4, .inl (cI, 128, .inl xA)), (o5, .inl (cI, 49, .inl tA)), (o6, .inl (cI, 896, .inl gA))]) (w1 := [(h0, .inr (0, [.ref a1, .ref a2, .ref a3, .ref a4, .int (nI n), .int (nI dr), .int (nI sc), .ref a5, .ref a6, .ref a7])), (a1, .inl (cI, 7, .inl kA)), (a2, .inl (cI, 7, .inl hsA)), (a3, .inl (cI, 7, .inl dA)), (a4, .inl (cI, 7, .inl bA)), (a5, .inl (cI, 6, .inl pA)), (a6, .inl (cI, 6, .inl nA)), (a7, .inl (cZ, 6, .inl mA))]) hP hD [1, 2, 3, 4, 5, 6, 7, 8] [0, 9, 10, 11, 12, 13, 14, 15] rfl rfl (by decide) (by decide) hk1 hFc hP1 hD1
      generalize H1 = H at hP hS ⊢
      have hP := hP.sub (ws' := [(h3, .inr (3, [.int (nI s9), .int (nI cp), .int (nI m9)])), (h0, .inr (0, [.ref a1, .ref a2, .ref a3, .ref a4, .int (nI n), .int (nI dr), .int (nI sc), .ref a5, .ref a6, .ref a7])), (a1, .inl (cI, 7, .inl kA)), (a2, .inl (cI, 7, .inl hsA)), (a3, .inl (cI, 7, .inl dA)), (a4, .inl (cI, 7, .inl bA)), (a5, .inl (cI, 6, .inl pA)), (a6, .inl (cI, 6, .inl nA)), (a7, .inl (cZ, 6, .inl mA)), (h1, .inr (1, [.ref o1, .ref o2, .ref o3, .ref o4, .ref o5, .ref o6, .int (nI on), .int (nI ev)])), (o1, .inl (cI, 7, .inl cA)), (o2, .inl (cI, 128, .inl wA)), (o3, .inl (cI, 128, .inl rA)), (o4, .inl (cI, 128, .inl xA)), (o5, .inl (cI, 49, .inl tA)), (o6, .inl (cI, 896, .inl gA))]) [0, 8, 9, 10, 11, 12, 13, 14, 15, 1, 2, 3, 4, 5, 6, 7] rfl
      have hD := hD.sub (ws' := [(h3, .inr (3, [.int (nI s9), .int (nI cp), .int (nI m9)])), (h0, .inr (0, [.ref a1, .ref a2, .ref a3, .ref a4, .int (nI n), .int (nI dr), .int (nI sc), .ref a5, .ref a6, .ref a7])), (a1, .inl (cI, 7, .inl kA)), (a2, .inl (cI, 7, .inl hsA)), (a3, .inl (cI, 7, .inl dA)), (a4, .inl (cI, 7, .inl bA)), (a5, .inl (cI, 6, .inl pA)), (a6, .inl (cI, 6, .inl nA)), (a7, .inl (cZ, 6, .inl mA)), (h1, .inr (1, [.ref o1, .ref o2, .ref o3, .ref o4, .ref o5, .ref o6, .int (nI on), .int (nI ev)])), (o1, .inl (cI, 7, .inl cA)), (o2, .inl (cI, 128, .inl wA)), (o3, .inl (cI, 128, .inl rA)), (o4, .inl (cI, 128, .inl xA)), (o5, .inl (cI, 49, .inl tA)), (o6, .inl (cI, 896, .inl gA))]) [0, 8, 9, 10, 11, 12, 13, 14, 15, 1, 2, 3, 4, 5, 6, 7] (by decide) rfl
      obtain rfl : r20 = bI ((d i).isSome) := hw20
      refine lv_if_ne (tgt := 66) hx hb dX3_drawOnce_23 (by decide) (fun c23 => ?_) (fun c23 => ?_)
      ·
        have c23 : ((d i).isSome) = true := bI_n0 c23
        refine lv_iinc (v := nI (i + 1)) (lv' := [(4, .int (nI (i + 1))), (0, .ref h3), (1, .ref h0), (2, .ref h1), (3, .int (nI lf))]) hx hb dX3_drawOnce_66 hl (k := 4) rfl (show nI i + Int32.ofInt 1 = nI (i + 1) from nI_add _ _) (by decide) rfl (fun ls hl => ?_)
        refine lv_goto (tgt := 8) hx hb dX3_drawOnce_69 (by decide) ?_
        exact ih8 (i + 1) lf s9 m9 (by omega) (ht.trans (doF_1 (by omega) c23)) (by omega) _ _ hP hD hS ls (lv_sub hl [1, 2, 3, 4, 0] rfl)
      have c23 : ((d i).isSome) = false := bI_0 c23
      refine lv_aload_n hx hb dX3_drawOnce_26 rfl (lv_at hl 2 rfl) ?_
      refine va_get (D := (dC, dI0)) (ci := 1) (v := .ref o1) (C := RX1) (T := TX1) (N := 8) hx hb hts hin_X1 hown hK hP 9 rfl rfl 0 (by decide) hf32 (fun _ h9 => h9) rfl dX3_drawOnce_27 ?_
      refine lv_iload hx hb dX3_drawOnce_30 (lv_at hl 4 rfl) ?_
      refine va_iald hx hb hK hP 10 0 rfl rfl (vp_in_nI (by omega) (by decide)) dX3_drawOnce_32 ?_
      refine lv_topi (fun x32 e32 => ?_)
      rw [nI_clamp (n := i) (by omega)] at e32
      have hcv := (hcc i (by omega)).2
      obtain rfl : x32 = nI (cs i) := e32.trans (hcc i (by omega)).1
      refine lv_iload_n hx hb dX3_drawOnce_33 rfl (lv_at hl 3 rfl) ?_
      refine lv_iand hx hb dX3_drawOnce_34 ?_
      refine lv_topi (fun x34 e34 => ?_)
      obtain rfl : x34 = nI ((cs i) &&& lf) := e34.trans (and_nI _ _)
      refine lv_istore (lv' := [(5, .int (nI ((cs i) &&& lf))), (0, .ref h3), (1, .ref h0), (2, .ref h1), (3, .int (nI lf)), (4, .int (nI i))]) hx hb dX3_drawOnce_35 hl (by decide) rfl (fun ls hl => ?_)
      have hand := Nat.and_le_left (n := cs i) (m := lf)
      refine lv_iload hx hb dX3_drawOnce_37 (lv_at hl 0 rfl) ?_
      refine lv_if_ne (tgt := 43) hx hb dX3_drawOnce_39 (by decide) (fun c39 => ?_) (fun c39 => ?_)
      ·
        have c39 : ¬ ((cs i) &&& lf) = 0 := fun z => c39 ((nI_eq (a := ((cs i) &&& lf)) (b := 0) (by omega) (by omega)).mpr z)
        refine lv_iload_n hx hb dX3_drawOnce_43 rfl (lv_at hl 4 rfl) ?_
        refine lv_iconst (v := nI 1) hx hb dX3_drawOnce_44 (by decide) ?_
        refine lv_aload_n hx hb dX3_drawOnce_45 rfl (lv_at hl 1 rfl) ?_
        refine lv_iload hx hb dX3_drawOnce_46 (lv_at hl 0 rfl) ?_
        have hPc := hP.sub (ws' := [(h3, .inr (3, [.int (nI s9), .int (nI cp), .int (nI m9)]))]) [0] rfl
        have hDc := hD.sub (ws' := [(h3, .inr (3, [.int (nI s9), .int (nI cp), .int (nI m9)]))]) [0] (by decide) rfl
        have hFc := va_free (wc := [(h3, .inr (3, [.int (nI s9), .int (nI cp), .int (nI m9)]))]) hD hS hA [0] rfl
        refine va_calli (va_runV (As := [.int (nI ((cs i) &&& lf))]) (rest := [.int (nI 1), .int (nI lf)]) ⟨hx, hb, hml, hown, hts⟩ (KX3_pick l dC dI0 cI cZ h3 s9 cp m9 H.size ((cs i) &&& lf) (by first | assumption | omega) (by first | assumption | omega)) (cwV 1 hts gX3_drawOnce_X3_pick rfl rfl rfl (by decide +kernel) ⟨Nat.le_of_ble_eq_true rfl, Nat.le_of_ble_eq_true rfl⟩) ⟨fun a U g mk q => by obtain ⟨q0, q1, qP, qK, qD⟩ := q; exact ⟨q0, q1, qP, va_K.moved (u := U) (U := U.calling g mk a) (Vm.Alike.refl U.vm) qK, qD⟩, va_recv hK hPc (ci := 3) (q0 := 0) rfl rfl, fun U hU hW => ⟨rfl, by rw [hU], by rw [hU]; exact hPc, va_K.moved hW.alike hK, hDc.weaken (fun _ _ _ _ => trivial)⟩⟩ rfl rfl hl.1 rfl (lv_room (Nat.le_of_ble_eq_true rfl)) dX3_drawOnce_48 ⟨Nat.le_of_ble_eq_true rfl, Nat.le_of_ble_eq_true rfl⟩) hS (fun q _ h => hFc q h) hFc (fun r48 u48 t7 H1 locs ht7 hvm7 hw48 hB hz1 hk1 hS => ?_)
        obtain ⟨hP1, hK1, hD1⟩ := hB
        rw [ht7] at hP1
        try dsimp only at hw48 hP1 hD1
        obtain ⟨hP, hD⟩ := va_join (wr := [(h0, .inr (0, [.ref a1, .ref a2, .ref a3, .ref a4, .int (nI n), .int (nI dr), .int (nI sc), .ref a5, .ref a6, .ref a7])), (a1, .inl (cI, 7, .inl kA)), (a2, .inl (cI, 7, .inl hsA)), (a3, .inl (cI, 7, .inl dA)), (a4, .inl (cI, 7, .inl bA)), (a5, .inl (cI, 6, .inl pA)), (a6, .inl (cI, 6, .inl nA)), (a7, .inl (cZ, 6, .inl mA)), (h1, .inr (1, [.ref o1, .ref o2, .ref o3, .ref o4, .ref o5, .ref o6, .int (nI on), .int (nI ev)])), (o1, .inl (cI, 7, .inl cA)), (o2, .inl (cI, 128, .inl wA)), (o3, .inl (cI, 128, .inl rA)), (o4, .inl (cI, 128, .inl xA)), (o5, .inl (cI, 49, .inl tA)), (o6, .inl (cI, 896, .inl gA))]) (w1 := [(h3, .inr (3, [.int (nI (nxS s9)), .int (nI cp), .int (nI m9)]))]) hP hD [0] [1, 2, 3, 4, 5, 6, 7, 8, 9, 10, 11, 12, 13, 14, 15] rfl rfl (by decide) (by decide) hk1 hFc hP1 hD1
        generalize H1 = H at hP hS ⊢
        have hP := hP.sub (ws' := [(h3, .inr (3, [.int (nI (nxS s9)), .int (nI cp), .int (nI m9)])), (h0, .inr (0, [.ref a1, .ref a2, .ref a3, .ref a4, .int (nI n), .int (nI dr), .int (nI sc), .ref a5, .ref a6, .ref a7])), (a1, .inl (cI, 7, .inl kA)), (a2, .inl (cI, 7, .inl hsA)), (a3, .inl (cI, 7, .inl dA)), (a4, .inl (cI, 7, .inl bA)), (a5, .inl (cI, 6, .inl pA)), (a6, .inl (cI, 6, .inl nA)), (a7, .inl (cZ, 6, .inl mA)), (h1, .inr (1, [.ref o1, .ref o2, .ref o3, .ref o4, .ref o5, .ref o6, .int (nI on), .int (nI ev)])), (o1, .inl (cI, 7, .inl cA)), (o2, .inl (cI, 128, .inl wA)), (o3, .inl (cI, 128, .inl rA)), (o4, .inl (cI, 128, .inl xA)), (o5, .inl (cI, 49, .inl tA)), (o6, .inl (cI, 896, .inl gA))]) [15, 0, 1, 2, 3, 4, 5, 6, 7, 8, 9, 10, 11, 12, 13, 14] rfl
        have hD := hD.sub (ws' := [(h3, .inr (3, [.int (nI (nxS s9)), .int (nI cp), .int (nI m9)])), (h0, .inr (0, [.ref a1, .ref a2, .ref a3, .ref a4, .int (nI n), .int (nI dr), .int (nI sc), .ref a5, .ref a6, .ref a7])), (a1, .inl (cI, 7, .inl kA)), (a2, .inl (cI, 7, .inl hsA)), (a3, .inl (cI, 7, .inl dA)), (a4, .inl (cI, 7, .inl bA)), (a5, .inl (cI, 6, .inl pA)), (a6, .inl (cI, 6, .inl nA)), (a7, .inl (cZ, 6, .inl mA)), (h1, .inr (1, [.ref o1, .ref o2, .ref o3, .ref o4, .ref o5, .ref o6, .int (nI on), .int (nI ev)])), (o1, .inl (cI, 7, .inl cA)), (o2, .inl (cI, 128, .inl wA)), (o3, .inl (cI, 128, .inl rA)), (o4, .inl (cI, 128, .inl xA)), (o5, .inl (cI, 49, .inl tA)), (o6, .inl (cI, 896, .inl gA))]) [15, 0, 1, 2, 3, 4, 5, 6, 7, 8, 9, 10, 11, 12, 13, 14] (by decide) rfl
        obtain rfl : r48 = nI (drS s9 ((cs i) &&& lf)) := hw48
        have hdl := drS_lt (cs i &&& lf) (by omega) (nxS s9 / 65536 % pop (cs i &&& lf)) (by have := Nat.mod_lt (nxS s9 / 65536) (show 0 < pop (cs i &&& lf) by have := pop_pos (cs i &&& lf) (by omega) (by omega); omega); have := pop_le (cs i &&& lf); omega)
        have hdl : drS s9 (cs i &&& lf) < 7 := hdl
        refine lv_ishl hx hb dX3_drawOnce_51 ?_
        refine lv_topi (fun x51 e51 => ?_)
        obtain rfl : x51 = nI (2 ^ (drS s9 ((cs i) &&& lf))) := e51.trans (shl_1 (by omega))
        refine lv_iconst (v := (-1)) hx hb dX3_drawOnce_52 (by decide) ?_
        refine lv_ixor hx hb dX3_drawOnce_53 ?_
        refine lv_topi (fun x53 e53 => ?_)
        refine lv_iand hx hb dX3_drawOnce_54 ?_
        refine lv_topi (fun x54 e54 => ?_)
        obtain rfl : x54 = nI (andn lf (2 ^ (drS s9 ((cs i) &&& lf)))) := e54.trans (by rw [e53]; exact andn_nI _ _)
        refine lv_istore_n (lv' := [(3, .int (nI (andn lf (2 ^ (drS s9 ((cs i) &&& lf)))))), (5, .int (nI ((cs i) &&& lf))), (0, .ref h3), (1, .ref h0), (2, .ref h1), (4, .int (nI i))]) hx hb dX3_drawOnce_55 rfl hl (by decide) rfl (fun ls hl => ?_)
        refine lv_aload_n hx hb dX3_drawOnce_56 rfl (lv_at hl 2 rfl) ?_
        refine lv_dup hx hb dX3_drawOnce_57 rfl ?_
        refine va_get (D := (dC, dI0)) (ci := 3) (v := .int (nI m9)) (C := RX3) (T := TX3) (N := 3) hx hb hts hin_X3 hown hK hP 0 rfl rfl 2 (by decide) hf16 (fun _ h9 => h9) rfl dX3_drawOnce_58 ?_
        refine lv_iconst (v := nI 1) hx hb dX3_drawOnce_61 (by decide) ?_
        refine lv_iadd hx hb dX3_drawOnce_62 ?_
        refine lv_topi (fun x62 e62 => ?_)
        obtain rfl : x62 = nI (m9 + 1) := e62.trans (nI_add _ _)
        refine va_put (D := (dC, dI0)) (ci := 3) (v := .int (nI (m9 + 1))) (ty := .int) (C := RX3) (T := TX3) (N := 3) hx hb hts hin_X3 tyX3 tyX3_ok nmX3 hown hK hP hD hS 0 rfl rfl 2 (by decide) hf16 (fun _ h9 => h9) rfl (by decide +kernel) rfl rfl (Nat.le_of_ble_eq_true rfl) dX3_drawOnce_63 (fun H locs hP hD hS => ?_)
        have hP : va_P (dC, dI0) vwCl [(h3, .inr (3, [.int (nI (nxS s9)), .int (nI cp), .int (nI (m9 + 1))])), (h0, .inr (0, [.ref a1, .ref a2, .ref a3, .ref a4, .int (nI n), .int (nI dr), .int (nI sc), .ref a5, .ref a6, .ref a7])), (a1, .inl (cI, 7, .inl kA)), (a2, .inl (cI, 7, .inl hsA)), (a3, .inl (cI, 7, .inl dA)), (a4, .inl (cI, 7, .inl bA)), (a5, .inl (cI, 6, .inl pA)), (a6, .inl (cI, 6, .inl nA)), (a7, .inl (cZ, 6, .inl mA)), (h1, .inr (1, [.ref o1, .ref o2, .ref o3, .ref o4, .ref o5, .ref o6, .int (nI on), .int (nI ev)])), (o1, .inl (cI, 7, .inl cA)), (o2, .inl (cI, 128, .inl wA)), (o3, .inl (cI, 128, .inl rA)), (o4, .inl (cI, 128, .inl xA)), (o5, .inl (cI, 49, .inl tA)), (o6, .inl (cI, 896, .inl gA))] H := hP
        have hD : va_D A [(h3, .inr (3, [.int (nI (nxS s9)), .int (nI cp), .int (nI (m9 + 1))])), (h0, .inr (0, [.ref a1, .ref a2, .ref a3, .ref a4, .int (nI n), .int (nI dr), .int (nI sc), .ref a5, .ref a6, .ref a7])), (a1, .inl (cI, 7, .inl kA)), (a2, .inl (cI, 7, .inl hsA)), (a3, .inl (cI, 7, .inl dA)), (a4, .inl (cI, 7, .inl bA)), (a5, .inl (cI, 6, .inl pA)), (a6, .inl (cI, 6, .inl nA)), (a7, .inl (cZ, 6, .inl mA)), (h1, .inr (1, [.ref o1, .ref o2, .ref o3, .ref o4, .ref o5, .ref o6, .int (nI on), .int (nI ev)])), (o1, .inl (cI, 7, .inl cA)), (o2, .inl (cI, 128, .inl wA)), (o3, .inl (cI, 128, .inl rA)), (o4, .inl (cI, 128, .inl xA)), (o5, .inl (cI, 49, .inl tA)), (o6, .inl (cI, 896, .inl gA))] := hD
        refine lv_iinc (v := nI (i + 1)) (lv' := [(4, .int (nI (i + 1))), (3, .int (nI (andn lf (2 ^ (drS s9 ((cs i) &&& lf)))))), (5, .int (nI ((cs i) &&& lf))), (0, .ref h3), (1, .ref h0), (2, .ref h1)]) hx hb dX3_drawOnce_66 hl (k := 5) rfl (show nI i + Int32.ofInt 1 = nI (i + 1) from nI_add _ _) (by decide) rfl (fun ls hl => ?_)
        refine lv_goto (tgt := 8) hx hb dX3_drawOnce_69 (by decide) ?_
        exact ih8 (i + 1) (andn lf (2 ^ (drS s9 ((cs i) &&& lf)))) (nxS s9) (m9 + 1) (by omega) (ht.trans (doF_3 (by omega) c23 c39)) (by omega) _ _ hP hD hS ls (lv_sub hl [3, 4, 5, 1, 0] rfl)
      have c39 : ((cs i) &&& lf) = 0 := (nI_eq (a := ((cs i) &&& lf)) (b := 0) (by omega) (by omega)).mp c39
      subst hQ
      have hP9 : va_P (dC, dI0) vwCl [(h3, .inr (3, [.int (nI s9), .int (nI cp), .int (nI m9)])), (h0, .inr (0, [.ref a1, .ref a2, .ref a3, .ref a4, .int (nI n), .int (nI dr), .int (nI sc), .ref a5, .ref a6, .ref a7])), (a1, .inl (cI, 7, .inl kA)), (a2, .inl (cI, 7, .inl hsA)), (a3, .inl (cI, 7, .inl dA)), (a4, .inl (cI, 7, .inl bA)), (a5, .inl (cI, 6, .inl pA)), (a6, .inl (cI, 6, .inl nA)), (a7, .inl (cZ, 6, .inl mA)), (h1, .inr (1, [.ref o1, .ref o2, .ref o3, .ref o4, .ref o5, .ref o6, .int (nI on), .int (nI ev)])), (o1, .inl (cI, 7, .inl cA)), (o2, .inl (cI, 128, .inl wA)), (o3, .inl (cI, 128, .inl rA)), (o4, .inl (cI, 128, .inl xA)), (o5, .inl (cI, 49, .inl tA)), (o6, .inl (cI, 896, .inl gA))] H := hP
      have hD9 : va_D A [(h3, .inr (3, [.int (nI s9), .int (nI cp), .int (nI m9)])), (h0, .inr (0, [.ref a1, .ref a2, .ref a3, .ref a4, .int (nI n), .int (nI dr), .int (nI sc), .ref a5, .ref a6, .ref a7])), (a1, .inl (cI, 7, .inl kA)), (a2, .inl (cI, 7, .inl hsA)), (a3, .inl (cI, 7, .inl dA)), (a4, .inl (cI, 7, .inl bA)), (a5, .inl (cI, 6, .inl pA)), (a6, .inl (cI, 6, .inl nA)), (a7, .inl (cZ, 6, .inl mA)), (h1, .inr (1, [.ref o1, .ref o2, .ref o3, .ref o4, .ref o5, .ref o6, .int (nI on), .int (nI ev)])), (o1, .inl (cI, 7, .inl cA)), (o2, .inl (cI, 128, .inl wA)), (o3, .inl (cI, 128, .inl rA)), (o4, .inl (cI, 128, .inl xA)), (o5, .inl (cI, 49, .inl tA)), (o6, .inl (cI, 896, .inl gA))] := hD
      exact W.vret hx hb hr (fun t9 ht9 hW9 => ⟨⟨(s9, m9, cp), rfl, by rw [ht, doF_2 (by omega) c23 c39]; exact ⟨rfl, rfl, rfl⟩, by rw [ht9]; exact hP9, va_K.moved hW9.alike hK, hD9⟩, hS.F ht9⟩) hS.2.2 dX3_drawOnce_42
  exact L8 _ 0 (hatS n d) sd nm (by omega) (rfl) (Nat.lt_succ_self _) _ _ hP hD hS ls (lv_sub hl [2, 3, 4, 1, 0] rfl)
