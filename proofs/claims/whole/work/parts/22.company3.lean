set_option maxHeartbeats 4000000 in
set_option maxRecDepth 100000 in
theorem KX0_addSeen (l : Launch) (dC : Nat → ClassId) (dI0 : Nat → Nat → Nat) (cI cZ : ClassId) (h0 : Nat) (a1 : Nat) (a2 : Nat) (a3 : Nat) (a4 : Nat) (a5 : Nat) (a6 : Nat) (a7 : Nat) (n : Nat) (dr : Nat) (sc : Nat) (kA : Nat → Int32) (hsA : Nat → Int32) (dA : Nat → Int32) (bA : Nat → Int32) (pA : Nat → Int32) (nA : Nat → Int32) (mA : Nat → Int32) (sz : Nat) (k : Nat → Nat) (h : Nat → Nat) (b : Nat → Nat) (d : Nat → Option Nat) (sp : Nat → Nat) (sn : Nat → Nat) (sm : Nat → Bool) (p : Nat) (q : Nat) (y : Bool) (hC : CoR n kA hsA dA bA k h b d) (hSe : SeR n sc pA nA mA sp sn sm) (hp : p < n) (hq : q < n) (hsc : sc < 6) : Met l yX0_addSeen wsX0_addSeen ({ frames := 0, cells := 0, slots := 0, locals := 0 } : Room) (va_Pc [.ref h0, .int (nI p), .int (nI q), .int (bI y)] (fun U => U.heap.size = sz ∧ va_P (dC, dI0) vwCl (WCo cI cZ h0 a1 a2 a3 a4 a5 a6 a7 n dr sc kA hsA dA bA pA nA mA) U.heap ∧ va_K (dC, dI0) vwCl [(cI, .int), (cZ, .boolean)] U ∧ va_D (fun _ => True) (WCo cI cZ h0 a1 a2 a3 a4 a5 a6 a7 n dr sc kA hsA dA bA pA nA mA))) (va_Qv (fun (u : Unit) => True) (fun (u : Unit) (t : State) => va_P (dC, dI0) vwCl (WCo cI cZ h0 a1 a2 a3 a4 a5 a6 a7 n dr (sc + 1) kA hsA dA bA (upd pA sc (nI p)) (upd nA sc (nI q)) (upd mA sc (bI y))) t.heap ∧ va_K (dC, dI0) vwCl [(cI, .int), (cZ, .boolean)] t ∧ va_D (va_A (WCo cI cZ h0 a1 a2 a3 a4 a5 a6 a7 n dr sc kA hsA dA bA pA nA mA) sz) (WCo cI cZ h0 a1 a2 a3 a4 a5 a6 a7 n dr (sc + 1) kA hsA dA bA (upd pA sc (nI p)) (upd nA sc (nI q)) (upd mA sc (bI y)))) (va_A (WCo cI cZ h0 a1 a2 a3 a4 a5 a6 a7 n dr sc kA hsA dA bA pA nA mA) sz)) 0 0 (va_A (WCo cI cZ h0 a1 a2 a3 a4 a5 a6 a7 n dr sc kA hsA dA bA pA nA mA) sz) := by
  refine Met.ofW (cc := cX0_addSeen) (maxL := 4) (ret := none) (by decide) rfl ?_
  intro prg env s m args below meth c s₁ B hml hv
  obtain ⟨rfl, hsz, hP, hK, hD0⟩ := hv
  have hx := B.exec
  have hb := B.bytes
  have hr := B.returns
  have hts := atoms_spec (ws := wsX0_addSeen) B.pre
  have hown : s.vm.findClass RX0 = some m.cls := findClass_of_methodNamed B.named
  have hlocks := B.notSynchronized
  subst hsz
  have hD := hD0.self (sz := s.heap.size)
  generalize hAe : va_A (WCo cI cZ h0 a1 a2 a3 a4 a5 a6 a7 n dr sc kA hsA dA bA pA nA mA) s.heap.size = A at hD ⊢
  have hA : ∀ q : Nat, s.heap.size ≤ q → A q := fun q h => by rw [← hAe]; exact Or.inr h
  have hS : va_S A s.heap s.heap [] := va_S.rf
  have hP : va_P (dC, dI0) vwCl [(h0, .inr (0, [.ref a1, .ref a2, .ref a3, .ref a4, .int (nI n), .int (nI dr), .int (nI sc), .ref a5, .ref a6, .ref a7])), (a1, .inl (cI, 7, .inl kA)), (a2, .inl (cI, 7, .inl hsA)), (a3, .inl (cI, 7, .inl dA)), (a4, .inl (cI, 7, .inl bA)), (a5, .inl (cI, 6, .inl pA)), (a6, .inl (cI, 6, .inl nA)), (a7, .inl (cZ, 6, .inl mA))] s.heap := hP
  have hD : va_D A [(h0, .inr (0, [.ref a1, .ref a2, .ref a3, .ref a4, .int (nI n), .int (nI dr), .int (nI sc), .ref a5, .ref a6, .ref a7])), (a1, .inl (cI, 7, .inl kA)), (a2, .inl (cI, 7, .inl hsA)), (a3, .inl (cI, 7, .inl dA)), (a4, .inl (cI, 7, .inl bA)), (a5, .inl (cI, 6, .inl pA)), (a6, .inl (cI, 6, .inl nA)), (a7, .inl (cZ, 6, .inl mA))] := hD
  have hl := lv_entry ([.ref h0, .int (nI p), .int (nI q), .int (bI y)]) (n := 4) (Nat.le_of_ble_eq_true rfl)
  rw [lg_entry_eq]
  generalize (lg_sl ([.ref h0, .int (nI p), .int (nI q), .int (bI y)]) ++ List.replicate (4 - (lg_sl ([.ref h0, .int (nI p), .int (nI q), .int (bI y)])).length) Slot.unset).toArray = ls at hl ⊢
  have hl : lv_has ls 4 [(0, .ref h0), (1, .int (nI p)), (2, .int (nI q)), (3, .int (bI y))] := hl
  obtain ⟨H, hH⟩ : ∃ H : Heap, H = s.heap := ⟨_, rfl⟩
  rw [← hH] at hP ⊢
  have hS : va_S A s.heap H [] := by rw [hH]; exact hS
  refine w_gen (fun Q hQ => ?_)
  have hin_X0 : ∀ w ∈ wsX00, w ∈ wsX0_addSeen := by decide +kernel
  have hf66 := hts (.fieldLink RX0 66 "HatNames$Company" "seenCount" "I") (by decide +kernel)
  have hf24 := hts (.fieldLink RX0 24 "HatNames$Company" "seenPersons" "[I") (by decide +kernel)
  have hf27 := hts (.fieldLink RX0 27 "HatNames$Company" "seenNames" "[I") (by decide +kernel)
  have hf30 := hts (.fieldLink RX0 30 "HatNames$Company" "seenMay" "[Z") (by decide +kernel)
  obtain ⟨hn7, hkk, hhh, hbb, hdd, hdn, hdi⟩ := id hC
  obtain ⟨hs6, hse⟩ := id hSe
  refine lv_aload_n hx hb dX0_addSeen_0 rfl (lv_at hl 0 rfl) ?_
  refine va_get (D := (dC, dI0)) (ci := 0) (v := .int (nI sc)) (C := RX0) (T := TX0) (N := 10) hx hb hts hin_X0 hown hK hP 0 rfl rfl 6 (by decide) hf66 (fun _ h9 => h9) rfl dX0_addSeen_1 ?_
  refine lv_bipush (v := nI 6) hx hb dX0_addSeen_4 (by decide) ?_
  refine lv_icmp_ge (tgt := 49) hx hb dX0_addSeen_6 (by decide) (fun c6 => ?_) (fun c6 => ?_)
  ·
    have c6 : 6 ≤ sc := (nI_leI (a := 6) (b := sc) (by omega) (by omega)).mp c6
    exfalso
    omega
  have c6 : ¬ 6 ≤ sc := fun z => c6 ((nI_leI (a := 6) (b := sc) (by omega) (by omega)).mpr z)
  refine lv_aload_n hx hb dX0_addSeen_9 rfl (lv_at hl 0 rfl) ?_
  refine va_get (D := (dC, dI0)) (ci := 0) (v := .ref a5) (C := RX0) (T := TX0) (N := 10) hx hb hts hin_X0 hown hK hP 0 rfl rfl 7 (by decide) hf24 (fun _ h9 => h9) rfl dX0_addSeen_10 ?_
  refine lv_aload_n hx hb dX0_addSeen_13 rfl (lv_at hl 0 rfl) ?_
  refine va_get (D := (dC, dI0)) (ci := 0) (v := .int (nI sc)) (C := RX0) (T := TX0) (N := 10) hx hb hts hin_X0 hown hK hP 0 rfl rfl 6 (by decide) hf66 (fun _ h9 => h9) rfl dX0_addSeen_14 ?_
  refine lv_iload_n hx hb dX0_addSeen_17 rfl (lv_at hl 1 rfl) ?_
  refine va_iast hx hb hK hP hD hS 5 0 rfl rfl (vp_in_nI (by omega) (by decide)) dX0_addSeen_18 (fun H locs hP hD hS => ?_)
  rw [nI_clamp (n := sc) (by omega)] at hP hD
  have hP : va_P (dC, dI0) vwCl [(h0, .inr (0, [.ref a1, .ref a2, .ref a3, .ref a4, .int (nI n), .int (nI dr), .int (nI sc), .ref a5, .ref a6, .ref a7])), (a1, .inl (cI, 7, .inl kA)), (a2, .inl (cI, 7, .inl hsA)), (a3, .inl (cI, 7, .inl dA)), (a4, .inl (cI, 7, .inl bA)), (a5, .inl (cI, 6, .inl (upd pA sc (nI p)))), (a6, .inl (cI, 6, .inl nA)), (a7, .inl (cZ, 6, .inl mA))] H := hP
  have hD : va_D A [(h0, .inr (0, [.ref a1, .ref a2, .ref a3, .ref a4, .int (nI n), .int (nI dr), .int (nI sc), .ref a5, .ref a6, .ref a7])), (a1, .inl (cI, 7, .inl kA)), (a2, .inl (cI, 7, .inl hsA)), (a3, .inl (cI, 7, .inl dA)), (a4, .inl (cI, 7, .inl bA)), (a5, .inl (cI, 6, .inl (upd pA sc (nI p)))), (a6, .inl (cI, 6, .inl nA)), (a7, .inl (cZ, 6, .inl mA))] := hD
  refine lv_aload_n hx hb dX0_addSeen_19 rfl (lv_at hl 0 rfl) ?_
  refine va_get (D := (dC, dI0)) (ci := 0) (v := .ref a6) (C := RX0) (T := TX0) (N := 10) hx hb hts hin_X0 hown hK hP 0 rfl rfl 8 (by decide) hf27 (fun _ h9 => h9) rfl dX0_addSeen_20 ?_
  refine lv_aload_n hx hb dX0_addSeen_23 rfl (lv_at hl 0 rfl) ?_
  refine va_get (D := (dC, dI0)) (ci := 0) (v := .int (nI sc)) (C := RX0) (T := TX0) (N := 10) hx hb hts hin_X0 hown hK hP 0 rfl rfl 6 (by decide) hf66 (fun _ h9 => h9) rfl dX0_addSeen_24 ?_
  refine lv_iload_n hx hb dX0_addSeen_27 rfl (lv_at hl 2 rfl) ?_
  refine va_iast hx hb hK hP hD hS 6 0 rfl rfl (vp_in_nI (by omega) (by decide)) dX0_addSeen_28 (fun H locs hP hD hS => ?_)
  rw [nI_clamp (n := sc) (by omega)] at hP hD
  have hP : va_P (dC, dI0) vwCl [(h0, .inr (0, [.ref a1, .ref a2, .ref a3, .ref a4, .int (nI n), .int (nI dr), .int (nI sc), .ref a5, .ref a6, .ref a7])), (a1, .inl (cI, 7, .inl kA)), (a2, .inl (cI, 7, .inl hsA)), (a3, .inl (cI, 7, .inl dA)), (a4, .inl (cI, 7, .inl bA)), (a5, .inl (cI, 6, .inl (upd pA sc (nI p)))), (a6, .inl (cI, 6, .inl (upd nA sc (nI q)))), (a7, .inl (cZ, 6, .inl mA))] H := hP
  have hD : va_D A [(h0, .inr (0, [.ref a1, .ref a2, .ref a3, .ref a4, .int (nI n), .int (nI dr), .int (nI sc), .ref a5, .ref a6, .ref a7])), (a1, .inl (cI, 7, .inl kA)), (a2, .inl (cI, 7, .inl hsA)), (a3, .inl (cI, 7, .inl dA)), (a4, .inl (cI, 7, .inl bA)), (a5, .inl (cI, 6, .inl (upd pA sc (nI p)))), (a6, .inl (cI, 6, .inl (upd nA sc (nI q)))), (a7, .inl (cZ, 6, .inl mA))] := hD
  refine lv_aload_n hx hb dX0_addSeen_29 rfl (lv_at hl 0 rfl) ?_
  refine va_get (D := (dC, dI0)) (ci := 0) (v := .ref a7) (C := RX0) (T := TX0) (N := 10) hx hb hts hin_X0 hown hK hP 0 rfl rfl 9 (by decide) hf30 (fun _ h9 => h9) rfl dX0_addSeen_30 ?_
  refine lv_aload_n hx hb dX0_addSeen_33 rfl (lv_at hl 0 rfl) ?_
  refine va_get (D := (dC, dI0)) (ci := 0) (v := .int (nI sc)) (C := RX0) (T := TX0) (N := 10) hx hb hts hin_X0 hown hK hP 0 rfl rfl 6 (by decide) hf66 (fun _ h9 => h9) rfl dX0_addSeen_34 ?_
  refine lv_iload_n hx hb dX0_addSeen_37 rfl (lv_at hl 3 rfl) ?_
  refine va_zast hx hb hK hP hD hS 7 1 rfl rfl (vp_in_nI (by omega) (by decide)) dX0_addSeen_38 (fun H locs hP hD hS => ?_)
  rw [nI_clamp (n := sc) (by omega)] at hP hD
  rw [nar_bI] at hP hD
  have hP : va_P (dC, dI0) vwCl [(h0, .inr (0, [.ref a1, .ref a2, .ref a3, .ref a4, .int (nI n), .int (nI dr), .int (nI sc), .ref a5, .ref a6, .ref a7])), (a1, .inl (cI, 7, .inl kA)), (a2, .inl (cI, 7, .inl hsA)), (a3, .inl (cI, 7, .inl dA)), (a4, .inl (cI, 7, .inl bA)), (a5, .inl (cI, 6, .inl (upd pA sc (nI p)))), (a6, .inl (cI, 6, .inl (upd nA sc (nI q)))), (a7, .inl (cZ, 6, .inl (upd mA sc (bI y))))] H := hP
  have hD : va_D A [(h0, .inr (0, [.ref a1, .ref a2, .ref a3, .ref a4, .int (nI n), .int (nI dr), .int (nI sc), .ref a5, .ref a6, .ref a7])), (a1, .inl (cI, 7, .inl kA)), (a2, .inl (cI, 7, .inl hsA)), (a3, .inl (cI, 7, .inl dA)), (a4, .inl (cI, 7, .inl bA)), (a5, .inl (cI, 6, .inl (upd pA sc (nI p)))), (a6, .inl (cI, 6, .inl (upd nA sc (nI q)))), (a7, .inl (cZ, 6, .inl (upd mA sc (bI y))))] := hD
  refine lv_aload_n hx hb dX0_addSeen_39 rfl (lv_at hl 0 rfl) ?_
  refine lv_dup hx hb dX0_addSeen_40 rfl ?_
  refine va_get (D := (dC, dI0)) (ci := 0) (v := .int (nI sc)) (C := RX0) (T := TX0) (N := 10) hx hb hts hin_X0 hown hK hP 0 rfl rfl 6 (by decide) hf66 (fun _ h9 => h9) rfl dX0_addSeen_41 ?_
  refine lv_iconst (v := nI 1) hx hb dX0_addSeen_44 (by decide) ?_
  refine lv_iadd hx hb dX0_addSeen_45 ?_
  refine lv_topi (fun x45 e45 => ?_)
  obtain rfl : x45 = nI (sc + 1) := e45.trans (nI_add _ _)
  refine va_put (D := (dC, dI0)) (ci := 0) (v := .int (nI (sc + 1))) (ty := .int) (C := RX0) (T := TX0) (N := 10) hx hb hts hin_X0 tyX0 tyX0_ok nmX0 hown hK hP hD hS 0 rfl rfl 6 (by decide) hf66 (fun _ h9 => h9) rfl (by decide +kernel) rfl rfl (Nat.le_of_ble_eq_true rfl) dX0_addSeen_46 (fun H locs hP hD hS => ?_)
  have hP : va_P (dC, dI0) vwCl [(h0, .inr (0, [.ref a1, .ref a2, .ref a3, .ref a4, .int (nI n), .int (nI dr), .int (nI (sc + 1)), .ref a5, .ref a6, .ref a7])), (a1, .inl (cI, 7, .inl kA)), (a2, .inl (cI, 7, .inl hsA)), (a3, .inl (cI, 7, .inl dA)), (a4, .inl (cI, 7, .inl bA)), (a5, .inl (cI, 6, .inl (upd pA sc (nI p)))), (a6, .inl (cI, 6, .inl (upd nA sc (nI q)))), (a7, .inl (cZ, 6, .inl (upd mA sc (bI y))))] H := hP
  have hD : va_D A [(h0, .inr (0, [.ref a1, .ref a2, .ref a3, .ref a4, .int (nI n), .int (nI dr), .int (nI (sc + 1)), .ref a5, .ref a6, .ref a7])), (a1, .inl (cI, 7, .inl kA)), (a2, .inl (cI, 7, .inl hsA)), (a3, .inl (cI, 7, .inl dA)), (a4, .inl (cI, 7, .inl bA)), (a5, .inl (cI, 6, .inl (upd pA sc (nI p)))), (a6, .inl (cI, 6, .inl (upd nA sc (nI q)))), (a7, .inl (cZ, 6, .inl (upd mA sc (bI y))))] := hD
  subst hQ
  have hP9 : va_P (dC, dI0) vwCl [(h0, .inr (0, [.ref a1, .ref a2, .ref a3, .ref a4, .int (nI n), .int (nI dr), .int (nI (sc + 1)), .ref a5, .ref a6, .ref a7])), (a1, .inl (cI, 7, .inl kA)), (a2, .inl (cI, 7, .inl hsA)), (a3, .inl (cI, 7, .inl dA)), (a4, .inl (cI, 7, .inl bA)), (a5, .inl (cI, 6, .inl (upd pA sc (nI p)))), (a6, .inl (cI, 6, .inl (upd nA sc (nI q)))), (a7, .inl (cZ, 6, .inl (upd mA sc (bI y))))] H := hP
  have hD9 : va_D A [(h0, .inr (0, [.ref a1, .ref a2, .ref a3, .ref a4, .int (nI n), .int (nI dr), .int (nI (sc + 1)), .ref a5, .ref a6, .ref a7])), (a1, .inl (cI, 7, .inl kA)), (a2, .inl (cI, 7, .inl hsA)), (a3, .inl (cI, 7, .inl dA)), (a4, .inl (cI, 7, .inl bA)), (a5, .inl (cI, 6, .inl (upd pA sc (nI p)))), (a6, .inl (cI, 6, .inl (upd nA sc (nI q)))), (a7, .inl (cZ, 6, .inl (upd mA sc (bI y))))] := hD
  exact W.vret hx hb hr (fun t9 ht9 hW9 => ⟨⟨(), rfl, trivial, by rw [ht9]; exact hP9, va_K.moved hW9.alike hK, hD9⟩, hS.F ht9⟩) hS.2.2 dX0_addSeen_49

set_option maxHeartbeats 4000000 in
set_option maxRecDepth 100000 in
theorem KX0_agreesWithSeen (l : Launch) (dC : Nat → ClassId) (dI0 : Nat → Nat → Nat) (cI cZ : ClassId) (h0 : Nat) (a1 : Nat) (a2 : Nat) (a3 : Nat) (a4 : Nat) (a5 : Nat) (a6 : Nat) (a7 : Nat) (n : Nat) (dr : Nat) (sc : Nat) (kA : Nat → Int32) (hsA : Nat → Int32) (dA : Nat → Int32) (bA : Nat → Int32) (pA : Nat → Int32) (nA : Nat → Int32) (mA : Nat → Int32) (sz : Nat) (k : Nat → Nat) (h : Nat → Nat) (b : Nat → Nat) (d : Nat → Option Nat) (sp : Nat → Nat) (sn : Nat → Nat) (sm : Nat → Bool) (p : Nat) (kd : Nat) (hC : CoR n kA hsA dA bA k h b d) (hSe : SeR n sc pA nA mA sp sn sm) (hp : p < n) (hkd : kd ≤ 4) : Met l yX0_agreesWithSeen wsX0_agreesWithSeen ({ frames := 2, cells := 0, slots := 0, locals := 37 } : Room) (va_Pc [.ref h0, .int (nI p), .int (nI kd)] (fun U => U.heap.size = sz ∧ va_P (dC, dI0) vwCl (WCo cI cZ h0 a1 a2 a3 a4 a5 a6 a7 n dr sc kA hsA dA bA pA nA mA) U.heap ∧ va_K (dC, dI0) vwCl [(cI, .int), (cZ, .boolean)] U ∧ va_D (fun _ => True) (WCo cI cZ h0 a1 a2 a3 a4 a5 a6 a7 n dr sc kA hsA dA bA pA nA mA))) (va_Qi (fun (r : Int32) (u : Unit) => r = bI (agS h sc sp sn sm p kd)) (fun (u : Unit) (t : State) => va_P (dC, dI0) vwCl (WCo cI cZ h0 a1 a2 a3 a4 a5 a6 a7 n dr sc kA hsA dA bA pA nA mA) t.heap ∧ va_K (dC, dI0) vwCl [(cI, .int), (cZ, .boolean)] t ∧ va_D (va_A (WCo cI cZ h0 a1 a2 a3 a4 a5 a6 a7 n dr sc kA hsA dA bA pA nA mA) sz) (WCo cI cZ h0 a1 a2 a3 a4 a5 a6 a7 n dr sc kA hsA dA bA pA nA mA)) (va_A (WCo cI cZ h0 a1 a2 a3 a4 a5 a6 a7 n dr sc kA hsA dA bA pA nA mA) sz)) 0 0 (va_A (WCo cI cZ h0 a1 a2 a3 a4 a5 a6 a7 n dr sc kA hsA dA bA pA nA mA) sz) := by
  refine Met.ofW (cc := cX0_agreesWithSeen) (maxL := 4) (ret := (some .boolean)) (by decide) rfl ?_
  intro prg env s m args below meth c s₁ B hml hv
  obtain ⟨rfl, hsz, hP, hK, hD0⟩ := hv
  have hx := B.exec
  have hb := B.bytes
  have hr := B.returns
  have hts := atoms_spec (ws := wsX0_agreesWithSeen) B.pre
  have hown : s.vm.findClass RX0 = some m.cls := findClass_of_methodNamed B.named
  have hlocks := B.notSynchronized
  subst hsz
  have hD := hD0.self (sz := s.heap.size)
  generalize hAe : va_A (WCo cI cZ h0 a1 a2 a3 a4 a5 a6 a7 n dr sc kA hsA dA bA pA nA mA) s.heap.size = A at hD ⊢
  have hA : ∀ q : Nat, s.heap.size ≤ q → A q := fun q h => by rw [← hAe]; exact Or.inr h
  have hS : va_S A s.heap s.heap [] := va_S.rf
  have hP : va_P (dC, dI0) vwCl [(h0, .inr (0, [.ref a1, .ref a2, .ref a3, .ref a4, .int (nI n), .int (nI dr), .int (nI sc), .ref a5, .ref a6, .ref a7])), (a1, .inl (cI, 7, .inl kA)), (a2, .inl (cI, 7, .inl hsA)), (a3, .inl (cI, 7, .inl dA)), (a4, .inl (cI, 7, .inl bA)), (a5, .inl (cI, 6, .inl pA)), (a6, .inl (cI, 6, .inl nA)), (a7, .inl (cZ, 6, .inl mA))] s.heap := hP
  have hD : va_D A [(h0, .inr (0, [.ref a1, .ref a2, .ref a3, .ref a4, .int (nI n), .int (nI dr), .int (nI sc), .ref a5, .ref a6, .ref a7])), (a1, .inl (cI, 7, .inl kA)), (a2, .inl (cI, 7, .inl hsA)), (a3, .inl (cI, 7, .inl dA)), (a4, .inl (cI, 7, .inl bA)), (a5, .inl (cI, 6, .inl pA)), (a6, .inl (cI, 6, .inl nA)), (a7, .inl (cZ, 6, .inl mA))] := hD
  have hl := lv_entry ([.ref h0, .int (nI p), .int (nI kd)]) (n := 4) (Nat.le_of_ble_eq_true rfl)
  rw [lg_entry_eq]
  generalize (lg_sl ([.ref h0, .int (nI p), .int (nI kd)]) ++ List.replicate (4 - (lg_sl ([.ref h0, .int (nI p), .int (nI kd)])).length) Slot.unset).toArray = ls at hl ⊢
  have hl : lv_has ls 4 [(0, .ref h0), (1, .int (nI p)), (2, .int (nI kd))] := hl
  obtain ⟨H, hH⟩ : ∃ H : Heap, H = s.heap := ⟨_, rfl⟩
  rw [← hH] at hP ⊢
  have hS : va_S A s.heap H [] := by rw [hH]; exact hS
  refine w_gen (fun Q hQ => ?_)
  have hin_X0 : ∀ w ∈ wsX00, w ∈ wsX0_agreesWithSeen := by decide +kernel
  have hf66 := hts (.fieldLink RX0 66 "HatNames$Company" "seenCount" "I") (by decide +kernel)
  have hf24 := hts (.fieldLink RX0 24 "HatNames$Company" "seenPersons" "[I") (by decide +kernel)
  have hf27 := hts (.fieldLink RX0 27 "HatNames$Company" "seenNames" "[I") (by decide +kernel)
  have hf30 := hts (.fieldLink RX0 30 "HatNames$Company" "seenMay" "[Z") (by decide +kernel)
  obtain ⟨hn7, hkk, hhh, hbb, hdd, hdn, hdi⟩ := id hC
  obtain ⟨hs6, hse⟩ := id hSe
  refine lv_iconst (v := nI 0) hx hb dX0_agreesWithSeen_0 (by decide) ?_
  refine lv_istore_n (lv' := [(3, .int (nI 0)), (0, .ref h0), (1, .int (nI p)), (2, .int (nI kd))]) hx hb dX0_agreesWithSeen_1 rfl hl (by decide) rfl (fun ls hl => ?_)
  have L2 : ∀ (fu : Nat) (i : Nat), i ≤ sc → agS h sc sp sn sm p kd = aL (agF h sp sn sm p kd) (sc - i) i → sc - i < fu → ∀ (H : Heap) (locs : List Loc), va_P (dC, dI0) vwCl [(h0, .inr (0, [.ref a1, .ref a2, .ref a3, .ref a4, .int (nI n), .int (nI dr), .int (nI sc), .ref a5, .ref a6, .ref a7])), (a1, .inl (cI, 7, .inl kA)), (a2, .inl (cI, 7, .inl hsA)), (a3, .inl (cI, 7, .inl dA)), (a4, .inl (cI, 7, .inl bA)), (a5, .inl (cI, 6, .inl pA)), (a6, .inl (cI, 6, .inl nA)), (a7, .inl (cZ, 6, .inl mA))] H → va_D A [(h0, .inr (0, [.ref a1, .ref a2, .ref a3, .ref a4, .int (nI n), .int (nI dr), .int (nI sc), .ref a5, .ref a6, .ref a7])), (a1, .inl (cI, 7, .inl kA)), (a2, .inl (cI, 7, .inl hsA)), (a3, .inl (cI, 7, .inl dA)), (a4, .inl (cI, 7, .inl bA)), (a5, .inl (cI, 6, .inl pA)), (a6, .inl (cI, 6, .inl nA)), (a7, .inl (cZ, 6, .inl mA))] → va_S A s.heap H locs → ∀ (ls : Array Slot), lv_has ls 4 [(0, .ref h0), (1, .int (nI p)), (2, .int (nI kd)), (3, .int (nI i))] → W prg l env ({ frames := 2, cells := 0, slots := 0, locals := 37 } : Room) s m ([.ref h0, .int (nI p), .int (nI kd)] : List Value).toArray below meth c H locs 0 0 Q (F0 m 2 ls []) := by
    intro fu
    induction fu with
    | zero => intro i hi ht hmu; exact absurd hmu (Nat.not_lt_zero _)
    | succ fu ih2 =>
      intro i hi ht hmu2 H locs hP hD hS ls hl
      refine lv_iload_n hx hb dX0_agreesWithSeen_2 rfl (lv_at hl 3 rfl) ?_
      refine lv_aload_n hx hb dX0_agreesWithSeen_3 rfl (lv_at hl 0 rfl) ?_
      refine va_get (D := (dC, dI0)) (ci := 0) (v := .int (nI sc)) (C := RX0) (T := TX0) (N := 10) hx hb hts hin_X0 hown hK hP 0 rfl rfl 6 (by decide) hf66 (fun _ h9 => h9) rfl dX0_agreesWithSeen_4 ?_
      refine lv_icmp_ge (tgt := 49) hx hb dX0_agreesWithSeen_7 (by decide) (fun c7 => ?_) (fun c7 => ?_)
      ·
        have c7 : sc ≤ i := (nI_leI (a := sc) (b := i) (by omega) (by omega)).mp c7
        refine lv_iconst (v := nI 1) hx hb dX0_agreesWithSeen_49 (by decide) ?_
        subst hQ
        have hP9 : va_P (dC, dI0) vwCl [(h0, .inr (0, [.ref a1, .ref a2, .ref a3, .ref a4, .int (nI n), .int (nI dr), .int (nI sc), .ref a5, .ref a6, .ref a7])), (a1, .inl (cI, 7, .inl kA)), (a2, .inl (cI, 7, .inl hsA)), (a3, .inl (cI, 7, .inl dA)), (a4, .inl (cI, 7, .inl bA)), (a5, .inl (cI, 6, .inl pA)), (a6, .inl (cI, 6, .inl nA)), (a7, .inl (cZ, 6, .inl mA))] H := hP
        have hD9 : va_D A [(h0, .inr (0, [.ref a1, .ref a2, .ref a3, .ref a4, .int (nI n), .int (nI dr), .int (nI sc), .ref a5, .ref a6, .ref a7])), (a1, .inl (cI, 7, .inl kA)), (a2, .inl (cI, 7, .inl hsA)), (a3, .inl (cI, 7, .inl dA)), (a4, .inl (cI, 7, .inl bA)), (a5, .inl (cI, 6, .inl pA)), (a6, .inl (cI, 6, .inl nA)), (a7, .inl (cZ, 6, .inl mA))] := hD
        exact W.zret (v := nI 1) hx hb hr (nar_z true) (fun t9 ht9 hW9 => ⟨⟨nI 1, (), rfl, bI_1 (ht.trans (aL_e (by omega))), by rw [ht9]; exact hP9, va_K.moved hW9.alike hK, hD9⟩, hS.F ht9⟩) hS.2.2 dX0_agreesWithSeen_50
      have c7 : ¬ sc ≤ i := fun z => c7 ((nI_leI (a := sc) (b := i) (by omega) (by omega)).mpr z)
      refine lv_aload_n hx hb dX0_agreesWithSeen_10 rfl (lv_at hl 0 rfl) ?_
      refine va_get (D := (dC, dI0)) (ci := 0) (v := .ref a5) (C := RX0) (T := TX0) (N := 10) hx hb hts hin_X0 hown hK hP 0 rfl rfl 7 (by decide) hf24 (fun _ h9 => h9) rfl dX0_agreesWithSeen_11 ?_
      refine lv_iload_n hx hb dX0_agreesWithSeen_14 rfl (lv_at hl 3 rfl) ?_
      refine va_iald hx hb hK hP 5 0 rfl rfl (vp_in_nI (by omega) (by decide)) dX0_agreesWithSeen_15 ?_
      refine lv_topi (fun x15 e15 => ?_)
      rw [nI_clamp (n := i) (by omega)] at e15
      have hsp7 := (hse i (by omega)).2.1
      obtain rfl : x15 = nI (sp i) := e15.trans (hse i (by omega)).1
      refine lv_iload_n hx hb dX0_agreesWithSeen_16 rfl (lv_at hl 1 rfl) ?_
      refine lv_icmp_ne (tgt := 43) hx hb dX0_agreesWithSeen_17 (by decide) (fun c17 => ?_) (fun c17 => ?_)
      ·
        have c17 : ¬ (sp i) = p := fun z => c17 ((nI_eq (a := (sp i)) (b := p) (by omega) (by omega)).mpr z)
        refine lv_iinc (v := nI (i + 1)) (lv' := [(3, .int (nI (i + 1))), (0, .ref h0), (1, .int (nI p)), (2, .int (nI kd))]) hx hb dX0_agreesWithSeen_43 hl (k := 3) rfl (show nI i + Int32.ofInt 1 = nI (i + 1) from nI_add _ _) (by decide) rfl (fun ls hl => ?_)
        refine lv_goto (tgt := 2) hx hb dX0_agreesWithSeen_46 (by decide) ?_
        exact ih2 (i + 1) (by omega) (ht.trans (aL_t (by omega) (by simp [agF, c17]))) (by omega) _ _ hP hD hS ls (lv_sub hl [1, 2, 3, 0] rfl)
      have c17 : (sp i) = p := (nI_eq (a := (sp i)) (b := p) (by omega) (by omega)).mp c17
      refine lv_aload_n hx hb dX0_agreesWithSeen_20 rfl (lv_at hl 0 rfl) ?_
      refine lv_iload_n hx hb dX0_agreesWithSeen_21 rfl (lv_at hl 2 rfl) ?_
      refine lv_iload_n hx hb dX0_agreesWithSeen_22 rfl (lv_at hl 1 rfl) ?_
      refine lv_aload_n hx hb dX0_agreesWithSeen_23 rfl (lv_at hl 0 rfl) ?_
      refine va_get (D := (dC, dI0)) (ci := 0) (v := .ref a6) (C := RX0) (T := TX0) (N := 10) hx hb hts hin_X0 hown hK hP 0 rfl rfl 8 (by decide) hf27 (fun _ h9 => h9) rfl dX0_agreesWithSeen_24 ?_
      refine lv_iload_n hx hb dX0_agreesWithSeen_27 rfl (lv_at hl 3 rfl) ?_
      refine va_iald hx hb hK hP 6 0 rfl rfl (vp_in_nI (by omega) (by decide)) dX0_agreesWithSeen_28 ?_
      refine lv_topi (fun x28 e28 => ?_)
      rw [nI_clamp (n := i) (by omega)] at e28
      have hsn7 := (hse i (by omega)).2.2.2.1
      obtain rfl : x28 = nI (sn i) := e28.trans (hse i (by omega)).2.2.1
      have hPc := hP.sub (ws' := [(h0, .inr (0, [.ref a1, .ref a2, .ref a3, .ref a4, .int (nI n), .int (nI dr), .int (nI sc), .ref a5, .ref a6, .ref a7])), (a1, .inl (cI, 7, .inl kA)), (a2, .inl (cI, 7, .inl hsA)), (a3, .inl (cI, 7, .inl dA)), (a4, .inl (cI, 7, .inl bA)), (a5, .inl (cI, 6, .inl pA)), (a6, .inl (cI, 6, .inl nA)), (a7, .inl (cZ, 6, .inl mA))]) [0, 1, 2, 3, 4, 5, 6, 7] rfl
      have hDc := hD.sub (ws' := [(h0, .inr (0, [.ref a1, .ref a2, .ref a3, .ref a4, .int (nI n), .int (nI dr), .int (nI sc), .ref a5, .ref a6, .ref a7])), (a1, .inl (cI, 7, .inl kA)), (a2, .inl (cI, 7, .inl hsA)), (a3, .inl (cI, 7, .inl dA)), (a4, .inl (cI, 7, .inl bA)), (a5, .inl (cI, 6, .inl pA)), (a6, .inl (cI, 6, .inl nA)), (a7, .inl (cZ, 6, .inl mA))]) [0, 1, 2, 3, 4, 5, 6, 7] (by decide) rfl
      have hFc := va_free (wc := [(h0, .inr (0, [.ref a1, .ref a2, .ref a3, .ref a4, .int (nI n), .int (nI dr), .int (nI sc), .ref a5, .ref a6, .ref a7])), (a1, .inl (cI, 7, .inl kA)), (a2, .inl (cI, 7, .inl hsA)), (a3, .inl (cI, 7, .inl dA)), (a4, .inl (cI, 7, .inl bA)), (a5, .inl (cI, 6, .inl pA)), (a6, .inl (cI, 6, .inl nA)), (a7, .inl (cZ, 6, .inl mA))]) hD hS hA [0, 1, 2, 3, 4, 5, 6, 7] rfl
      refine va_calli (va_runV (As := [.int (nI kd), .int (nI p), .int (nI (sn i))]) (rest := []) ⟨hx, hb, hml, hown, hts⟩ (KX0_kindMay l dC dI0 cI cZ h0 a1 a2 a3 a4 a5 a6 a7 n dr sc kA hsA dA bA pA nA mA H.size k h b d kd p (sn i) (by first | assumption | omega) (by first | assumption | omega) (by first | assumption | omega) (by first | assumption | omega)) (cwV 3 hts gX0_agreesWithSeen_X0_kindMay rfl rfl rfl (by decide +kernel) ⟨Nat.le_of_ble_eq_true rfl, Nat.le_of_ble_eq_true rfl⟩) ⟨fun a U g mk q => by obtain ⟨q0, q1, qP, qK, qD⟩ := q; exact ⟨q0, q1, qP, va_K.moved (u := U) (U := U.calling g mk a) (Vm.Alike.refl U.vm) qK, qD⟩, va_recv hK hPc (ci := 0) (q0 := 0) rfl rfl, fun U hU hW => ⟨rfl, by rw [hU], by rw [hU]; exact hPc, va_K.moved hW.alike hK, hDc.weaken (fun _ _ _ _ => trivial)⟩⟩ rfl rfl hl.1 rfl (lv_room (Nat.le_of_ble_eq_true rfl)) dX0_agreesWithSeen_29 ⟨Nat.le_of_ble_eq_true rfl, Nat.le_of_ble_eq_true rfl⟩) hS (fun q _ h => hFc q h) hFc (fun r29 u29 t7 H1 locs ht7 hvm7 hw29 hB hz1 hk1 hS => ?_)
      obtain ⟨hP1, hK1, hD1⟩ := hB
      rw [ht7] at hP1
      try dsimp only at hw29 hP1 hD1
      obtain ⟨hP, hD⟩ := va_join (wr := []) (w1 := [(h0, .inr (0, [.ref a1, .ref a2, .ref a3, .ref a4, .int (nI n), .int (nI dr), .int (nI sc), .ref a5, .ref a6, .ref a7])), (a1, .inl (cI, 7, .inl kA)), (a2, .inl (cI, 7, .inl hsA)), (a3, .inl (cI, 7, .inl dA)), (a4, .inl (cI, 7, .inl bA)), (a5, .inl (cI, 6, .inl pA)), (a6, .inl (cI, 6, .inl nA)), (a7, .inl (cZ, 6, .inl mA))]) hP hD [0, 1, 2, 3, 4, 5, 6, 7] [] rfl rfl (by decide) (by decide) hk1 hFc hP1 hD1
      generalize H1 = H at hP hS ⊢
      have hP := hP.sub (ws' := [(h0, .inr (0, [.ref a1, .ref a2, .ref a3, .ref a4, .int (nI n), .int (nI dr), .int (nI sc), .ref a5, .ref a6, .ref a7])), (a1, .inl (cI, 7, .inl kA)), (a2, .inl (cI, 7, .inl hsA)), (a3, .inl (cI, 7, .inl dA)), (a4, .inl (cI, 7, .inl bA)), (a5, .inl (cI, 6, .inl pA)), (a6, .inl (cI, 6, .inl nA)), (a7, .inl (cZ, 6, .inl mA))]) [0, 1, 2, 3, 4, 5, 6, 7] rfl
      have hD := hD.sub (ws' := [(h0, .inr (0, [.ref a1, .ref a2, .ref a3, .ref a4, .int (nI n), .int (nI dr), .int (nI sc), .ref a5, .ref a6, .ref a7])), (a1, .inl (cI, 7, .inl kA)), (a2, .inl (cI, 7, .inl hsA)), (a3, .inl (cI, 7, .inl dA)), (a4, .inl (cI, 7, .inl bA)), (a5, .inl (cI, 6, .inl pA)), (a6, .inl (cI, 6, .inl nA)), (a7, .inl (cZ, 6, .inl mA))]) [0, 1, 2, 3, 4, 5, 6, 7] (by decide) rfl
      obtain rfl : r29 = bI (kM h kd p (sn i)) := hw29
      refine lv_aload_n hx hb dX0_agreesWithSeen_32 rfl (lv_at hl 0 rfl) ?_
      refine va_get (D := (dC, dI0)) (ci := 0) (v := .ref a7) (C := RX0) (T := TX0) (N := 10) hx hb hts hin_X0 hown hK hP 0 rfl rfl 9 (by decide) hf30 (fun _ h9 => h9) rfl dX0_agreesWithSeen_33 ?_
      refine lv_iload_n hx hb dX0_agreesWithSeen_36 rfl (lv_at hl 3 rfl) ?_
      refine va_zald hx hb hK hP 7 1 rfl rfl (vp_in_nI (by omega) (by decide)) dX0_agreesWithSeen_37 ?_
      refine lv_topi (fun x37 e37 => ?_)
      rw [nI_clamp (n := i) (by omega)] at e37
      obtain rfl : x37 = bI (sm i) := e37.trans (hse i (by omega)).2.2.2.2
      refine lv_icmp_eq (tgt := 43) hx hb dX0_agreesWithSeen_38 (by decide) (fun c38 => ?_) (fun c38 => ?_)
      ·
        refine lv_iinc (v := nI (i + 1)) (lv' := [(3, .int (nI (i + 1))), (0, .ref h0), (1, .int (nI p)), (2, .int (nI kd))]) hx hb dX0_agreesWithSeen_43 hl (k := 3) rfl (show nI i + Int32.ofInt 1 = nI (i + 1) from nI_add _ _) (by decide) rfl (fun ls hl => ?_)
        refine lv_goto (tgt := 2) hx hb dX0_agreesWithSeen_46 (by decide) ?_
        exact ih2 (i + 1) (by omega) (ht.trans (aL_t (by omega) (by simp [agF, bI_inj c38]))) (by omega) _ _ hP hD hS ls (lv_sub hl [1, 2, 3, 0] rfl)
      refine lv_iconst (v := nI 0) hx hb dX0_agreesWithSeen_41 (by decide) ?_
      subst hQ
      have hP9 : va_P (dC, dI0) vwCl [(h0, .inr (0, [.ref a1, .ref a2, .ref a3, .ref a4, .int (nI n), .int (nI dr), .int (nI sc), .ref a5, .ref a6, .ref a7])), (a1, .inl (cI, 7, .inl kA)), (a2, .inl (cI, 7, .inl hsA)), (a3, .inl (cI, 7, .inl dA)), (a4, .inl (cI, 7, .inl bA)), (a5, .inl (cI, 6, .inl pA)), (a6, .inl (cI, 6, .inl nA)), (a7, .inl (cZ, 6, .inl mA))] H := hP
      have hD9 : va_D A [(h0, .inr (0, [.ref a1, .ref a2, .ref a3, .ref a4, .int (nI n), .int (nI dr), .int (nI sc), .ref a5, .ref a6, .ref a7])), (a1, .inl (cI, 7, .inl kA)), (a2, .inl (cI, 7, .inl hsA)), (a3, .inl (cI, 7, .inl dA)), (a4, .inl (cI, 7, .inl bA)), (a5, .inl (cI, 6, .inl pA)), (a6, .inl (cI, 6, .inl nA)), (a7, .inl (cZ, 6, .inl mA))] := hD
      exact W.zret (v := nI 0) hx hb hr (nar_z false) (fun t9 ht9 hW9 => ⟨⟨nI 0, (), rfl, bI_2 (ht.trans (aL_f (by omega) (by simp [agF, c17]; exact fun z => c38 (by rw [z])))), by rw [ht9]; exact hP9, va_K.moved hW9.alike hK, hD9⟩, hS.F ht9⟩) hS.2.2 dX0_agreesWithSeen_42
  exact L2 _ 0 (by omega) (rfl) (Nat.lt_succ_self _) _ _ hP hD hS ls (lv_sub hl [1, 2, 3, 0] rfl)

set_option maxHeartbeats 4000000 in
set_option maxRecDepth 100000 in
theorem KX0_sorts (l : Launch) (dC : Nat → ClassId) (dI0 : Nat → Nat → Nat) (cI cZ : ClassId) (h0 : Nat) (a1 : Nat) (a2 : Nat) (a3 : Nat) (a4 : Nat) (a5 : Nat) (a6 : Nat) (a7 : Nat) (n : Nat) (dr : Nat) (sc : Nat) (kA : Nat → Int32) (hsA : Nat → Int32) (dA : Nat → Int32) (bA : Nat → Int32) (pA : Nat → Int32) (nA : Nat → Int32) (mA : Nat → Int32) (sz : Nat) (k : Nat → Nat) (h : Nat → Nat) (b : Nat → Nat) (d : Nat → Option Nat) (sp : Nat → Nat) (sn : Nat → Nat) (sm : Nat → Bool) (p : Nat) (hC : CoR n kA hsA dA bA k h b d) (hSe : SeR n sc pA nA mA sp sn sm) (hp : p < n) : Met l yX0_sorts wsX0_sorts ({ frames := 3, cells := 0, slots := 0, locals := 60 } : Room) (va_Pc [.ref h0, .int (nI p)] (fun U => U.heap.size = sz ∧ va_P (dC, dI0) vwCl (WCo cI cZ h0 a1 a2 a3 a4 a5 a6 a7 n dr sc kA hsA dA bA pA nA mA) U.heap ∧ va_K (dC, dI0) vwCl [(cI, .int), (cZ, .boolean)] U ∧ va_D (fun _ => True) (WCo cI cZ h0 a1 a2 a3 a4 a5 a6 a7 n dr sc kA hsA dA bA pA nA mA))) (va_Qi (fun (r : Int32) (u : Unit) => r = nI (soS h sc sp sn sm p)) (fun (u : Unit) (t : State) => va_P (dC, dI0) vwCl (WCo cI cZ h0 a1 a2 a3 a4 a5 a6 a7 n dr sc kA hsA dA bA pA nA mA) t.heap ∧ va_K (dC, dI0) vwCl [(cI, .int), (cZ, .boolean)] t ∧ va_D (va_A (WCo cI cZ h0 a1 a2 a3 a4 a5 a6 a7 n dr sc kA hsA dA bA pA nA mA) sz) (WCo cI cZ h0 a1 a2 a3 a4 a5 a6 a7 n dr sc kA hsA dA bA pA nA mA)) (va_A (WCo cI cZ h0 a1 a2 a3 a4 a5 a6 a7 n dr sc kA hsA dA bA pA nA mA) sz)) 0 0 (va_A (WCo cI cZ h0 a1 a2 a3 a4 a5 a6 a7 n dr sc kA hsA dA bA pA nA mA) sz) := by
  refine Met.ofW (cc := cX0_sorts) (maxL := 4) (ret := (some .int)) (by decide) rfl ?_
  intro prg env s m args below meth c s₁ B hml hv
  obtain ⟨rfl, hsz, hP, hK, hD0⟩ := hv
  have hx := B.exec
  have hb := B.bytes
  have hr := B.returns
  have hts := atoms_spec (ws := wsX0_sorts) B.pre
  have hown : s.vm.findClass RX0 = some m.cls := findClass_of_methodNamed B.named
  have hlocks := B.notSynchronized
  subst hsz
  have hD := hD0.self (sz := s.heap.size)
  generalize hAe : va_A (WCo cI cZ h0 a1 a2 a3 a4 a5 a6 a7 n dr sc kA hsA dA bA pA nA mA) s.heap.size = A at hD ⊢
  have hA : ∀ q : Nat, s.heap.size ≤ q → A q := fun q h => by rw [← hAe]; exact Or.inr h
  have hS : va_S A s.heap s.heap [] := va_S.rf
  have hP : va_P (dC, dI0) vwCl [(h0, .inr (0, [.ref a1, .ref a2, .ref a3, .ref a4, .int (nI n), .int (nI dr), .int (nI sc), .ref a5, .ref a6, .ref a7])), (a1, .inl (cI, 7, .inl kA)), (a2, .inl (cI, 7, .inl hsA)), (a3, .inl (cI, 7, .inl dA)), (a4, .inl (cI, 7, .inl bA)), (a5, .inl (cI, 6, .inl pA)), (a6, .inl (cI, 6, .inl nA)), (a7, .inl (cZ, 6, .inl mA))] s.heap := hP
  have hD : va_D A [(h0, .inr (0, [.ref a1, .ref a2, .ref a3, .ref a4, .int (nI n), .int (nI dr), .int (nI sc), .ref a5, .ref a6, .ref a7])), (a1, .inl (cI, 7, .inl kA)), (a2, .inl (cI, 7, .inl hsA)), (a3, .inl (cI, 7, .inl dA)), (a4, .inl (cI, 7, .inl bA)), (a5, .inl (cI, 6, .inl pA)), (a6, .inl (cI, 6, .inl nA)), (a7, .inl (cZ, 6, .inl mA))] := hD
  have hl := lv_entry ([.ref h0, .int (nI p)]) (n := 4) (Nat.le_of_ble_eq_true rfl)
  rw [lg_entry_eq]
  generalize (lg_sl ([.ref h0, .int (nI p)]) ++ List.replicate (4 - (lg_sl ([.ref h0, .int (nI p)])).length) Slot.unset).toArray = ls at hl ⊢
  have hl : lv_has ls 4 [(0, .ref h0), (1, .int (nI p))] := hl
  obtain ⟨H, hH⟩ : ∃ H : Heap, H = s.heap := ⟨_, rfl⟩
  rw [← hH] at hP ⊢
  have hS : va_S A s.heap H [] := by rw [hH]; exact hS
  refine w_gen (fun Q hQ => ?_)
  obtain ⟨hn7, hkk, hhh, hbb, hdd, hdn, hdi⟩ := id hC
  obtain ⟨hs6, hse⟩ := id hSe
  refine lv_iconst (v := nI 0) hx hb dX0_sorts_0 (by decide) ?_
  refine lv_istore_n (lv' := [(2, .int (nI 0)), (0, .ref h0), (1, .int (nI p))]) hx hb dX0_sorts_1 rfl hl (by decide) rfl (fun ls hl => ?_)
  refine lv_iconst (v := nI 0) hx hb dX0_sorts_2 (by decide) ?_
  refine lv_istore_n (lv' := [(3, .int (nI 0)), (2, .int (nI 0)), (0, .ref h0), (1, .int (nI p))]) hx hb dX0_sorts_3 rfl hl (by decide) rfl (fun ls hl => ?_)
  have L4 : ∀ (fu : Nat) (i : Nat) (a : Nat), i ≤ 5 → a = pb (agS h sc sp sn sm p) i → 5 - i < fu → ∀ (H : Heap) (locs : List Loc), va_P (dC, dI0) vwCl [(h0, .inr (0, [.ref a1, .ref a2, .ref a3, .ref a4, .int (nI n), .int (nI dr), .int (nI sc), .ref a5, .ref a6, .ref a7])), (a1, .inl (cI, 7, .inl kA)), (a2, .inl (cI, 7, .inl hsA)), (a3, .inl (cI, 7, .inl dA)), (a4, .inl (cI, 7, .inl bA)), (a5, .inl (cI, 6, .inl pA)), (a6, .inl (cI, 6, .inl nA)), (a7, .inl (cZ, 6, .inl mA))] H → va_D A [(h0, .inr (0, [.ref a1, .ref a2, .ref a3, .ref a4, .int (nI n), .int (nI dr), .int (nI sc), .ref a5, .ref a6, .ref a7])), (a1, .inl (cI, 7, .inl kA)), (a2, .inl (cI, 7, .inl hsA)), (a3, .inl (cI, 7, .inl dA)), (a4, .inl (cI, 7, .inl bA)), (a5, .inl (cI, 6, .inl pA)), (a6, .inl (cI, 6, .inl nA)), (a7, .inl (cZ, 6, .inl mA))] → va_S A s.heap H locs → ∀ (ls : Array Slot), lv_has ls 4 [(0, .ref h0), (1, .int (nI p)), (2, .int (nI a)), (3, .int (nI i))] → W prg l env ({ frames := 3, cells := 0, slots := 0, locals := 60 } : Room) s m ([.ref h0, .int (nI p)] : List Value).toArray below meth c H locs 0 0 Q (F0 m 4 ls []) := by
    intro fu
    induction fu with
    | zero => intro i a hi ha hmu; exact absurd hmu (Nat.not_lt_zero _)
    | succ fu ih4 =>
      intro i a hi ha hmu4 H locs hP hD hS ls hl
      refine lv_iload_n hx hb dX0_sorts_4 rfl (lv_at hl 3 rfl) ?_
      refine lv_iconst (v := nI 5) hx hb dX0_sorts_5 (by decide) ?_
      refine lv_icmp_ge (tgt := 30) hx hb dX0_sorts_6 (by decide) (fun c6 => ?_) (fun c6 => ?_)
      ·
        have c6 : 5 ≤ i := (nI_leI (a := 5) (b := i) (by omega) (by omega)).mp c6
        refine lv_iload_n hx hb dX0_sorts_30 rfl (lv_at hl 2 rfl) ?_
        subst hQ
        have hP9 : va_P (dC, dI0) vwCl [(h0, .inr (0, [.ref a1, .ref a2, .ref a3, .ref a4, .int (nI n), .int (nI dr), .int (nI sc), .ref a5, .ref a6, .ref a7])), (a1, .inl (cI, 7, .inl kA)), (a2, .inl (cI, 7, .inl hsA)), (a3, .inl (cI, 7, .inl dA)), (a4, .inl (cI, 7, .inl bA)), (a5, .inl (cI, 6, .inl pA)), (a6, .inl (cI, 6, .inl nA)), (a7, .inl (cZ, 6, .inl mA))] H := hP
        have hD9 : va_D A [(h0, .inr (0, [.ref a1, .ref a2, .ref a3, .ref a4, .int (nI n), .int (nI dr), .int (nI sc), .ref a5, .ref a6, .ref a7])), (a1, .inl (cI, 7, .inl kA)), (a2, .inl (cI, 7, .inl hsA)), (a3, .inl (cI, 7, .inl dA)), (a4, .inl (cI, 7, .inl bA)), (a5, .inl (cI, 6, .inl pA)), (a6, .inl (cI, 6, .inl nA)), (a7, .inl (cZ, 6, .inl mA))] := hD
        exact W.iret (v := nI a) hx hb hr (fun t9 ht9 hW9 => ⟨⟨nI a, (), rfl, by rw [ha, show i = 5 by omega]; rfl, by rw [ht9]; exact hP9, va_K.moved hW9.alike hK, hD9⟩, hS.F ht9⟩) hS.2.2 dX0_sorts_31
      have c6 : ¬ 5 ≤ i := fun z => c6 ((nI_leI (a := 5) (b := i) (by omega) (by omega)).mpr z)
      refine lv_aload_n hx hb dX0_sorts_9 rfl (lv_at hl 0 rfl) ?_
      refine lv_iload_n hx hb dX0_sorts_10 rfl (lv_at hl 1 rfl) ?_
      refine lv_iload_n hx hb dX0_sorts_11 rfl (lv_at hl 3 rfl) ?_
      have hPc := hP.sub (ws' := [(h0, .inr (0, [.ref a1, .ref a2, .ref a3, .ref a4, .int (nI n), .int (nI dr), .int (nI sc), .ref a5, .ref a6, .ref a7])), (a1, .inl (cI, 7, .inl kA)), (a2, .inl (cI, 7, .inl hsA)), (a3, .inl (cI, 7, .inl dA)), (a4, .inl (cI, 7, .inl bA)), (a5, .inl (cI, 6, .inl pA)), (a6, .inl (cI, 6, .inl nA)), (a7, .inl (cZ, 6, .inl mA))]) [0, 1, 2, 3, 4, 5, 6, 7] rfl
      have hDc := hD.sub (ws' := [(h0, .inr (0, [.ref a1, .ref a2, .ref a3, .ref a4, .int (nI n), .int (nI dr), .int (nI sc), .ref a5, .ref a6, .ref a7])), (a1, .inl (cI, 7, .inl kA)), (a2, .inl (cI, 7, .inl hsA)), (a3, .inl (cI, 7, .inl dA)), (a4, .inl (cI, 7, .inl bA)), (a5, .inl (cI, 6, .inl pA)), (a6, .inl (cI, 6, .inl nA)), (a7, .inl (cZ, 6, .inl mA))]) [0, 1, 2, 3, 4, 5, 6, 7] (by decide) rfl
      have hFc := va_free (wc := [(h0, .inr (0, [.ref a1, .ref a2, .ref a3, .ref a4, .int (nI n), .int (nI dr), .int (nI sc), .ref a5, .ref a6, .ref a7])), (a1, .inl (cI, 7, .inl kA)), (a2, .inl (cI, 7, .inl hsA)), (a3, .inl (cI, 7, .inl dA)), (a4, .inl (cI, 7, .inl bA)), (a5, .inl (cI, 6, .inl pA)), (a6, .inl (cI, 6, .inl nA)), (a7, .inl (cZ, 6, .inl mA))]) hD hS hA [0, 1, 2, 3, 4, 5, 6, 7] rfl
      refine va_calli (va_runV (As := [.int (nI p), .int (nI i)]) (rest := []) ⟨hx, hb, hml, hown, hts⟩ (KX0_agreesWithSeen l dC dI0 cI cZ h0 a1 a2 a3 a4 a5 a6 a7 n dr sc kA hsA dA bA pA nA mA H.size k h b d sp sn sm p i (by first | assumption | omega) (by first | assumption | omega) (by first | assumption | omega) (by first | assumption | omega)) (cwV 2 hts gX0_sorts_X0_agreesWithSeen rfl rfl rfl (by decide +kernel) ⟨Nat.le_of_ble_eq_true rfl, Nat.le_of_ble_eq_true rfl⟩) ⟨fun a U g mk q => by obtain ⟨q0, q1, qP, qK, qD⟩ := q; exact ⟨q0, q1, qP, va_K.moved (u := U) (U := U.calling g mk a) (Vm.Alike.refl U.vm) qK, qD⟩, va_recv hK hPc (ci := 0) (q0 := 0) rfl rfl, fun U hU hW => ⟨rfl, by rw [hU], by rw [hU]; exact hPc, va_K.moved hW.alike hK, hDc.weaken (fun _ _ _ _ => trivial)⟩⟩ rfl rfl hl.1 rfl (lv_room (Nat.le_of_ble_eq_true rfl)) dX0_sorts_12 ⟨Nat.le_of_ble_eq_true rfl, Nat.le_of_ble_eq_true rfl⟩) hS (fun q _ h => hFc q h) hFc (fun r12 u12 t7 H1 locs ht7 hvm7 hw12 hB hz1 hk1 hS => ?_)
      obtain ⟨hP1, hK1, hD1⟩ := hB
      rw [ht7] at hP1
      try dsimp only at hw12 hP1 hD1
      obtain ⟨hP, hD⟩ := va_join (wr := []) (w1 := [(h0, .inr (0, [.ref a1, .ref a2, .ref a3, .ref a4, .int (nI n), .int (nI dr), .int (nI sc), .ref a5, .ref a6, .ref a7])), (a1, .inl (cI, 7, .inl kA)), (a2, .inl (cI, 7, .inl hsA)), (a3, .inl (cI, 7, .inl dA)), (a4, .inl (cI, 7, .inl bA)), (a5, .inl (cI, 6, .inl pA)), (a6, .inl (cI, 6, .inl nA)), (a7, .inl (cZ, 6, .inl mA))]) hP hD [0, 1, 2, 3, 4, 5, 6, 7] [] rfl rfl (by decide) (by decide) hk1 hFc hP1 hD1
      generalize H1 = H at hP hS ⊢
      have hP := hP.sub (ws' := [(h0, .inr (0, [.ref a1, .ref a2, .ref a3, .ref a4, .int (nI n), .int (nI dr), .int (nI sc), .ref a5, .ref a6, .ref a7])), (a1, .inl (cI, 7, .inl kA)), (a2, .inl (cI, 7, .inl hsA)), (a3, .inl (cI, 7, .inl dA)), (a4, .inl (cI, 7, .inl bA)), (a5, .inl (cI, 6, .inl pA)), (a6, .inl (cI, 6, .inl nA)), (a7, .inl (cZ, 6, .inl mA))]) [0, 1, 2, 3, 4, 5, 6, 7] rfl
      have hD := hD.sub (ws' := [(h0, .inr (0, [.ref a1, .ref a2, .ref a3, .ref a4, .int (nI n), .int (nI dr), .int (nI sc), .ref a5, .ref a6, .ref a7])), (a1, .inl (cI, 7, .inl kA)), (a2, .inl (cI, 7, .inl hsA)), (a3, .inl (cI, 7, .inl dA)), (a4, .inl (cI, 7, .inl bA)), (a5, .inl (cI, 6, .inl pA)), (a6, .inl (cI, 6, .inl nA)), (a7, .inl (cZ, 6, .inl mA))]) [0, 1, 2, 3, 4, 5, 6, 7] (by decide) rfl
      obtain rfl : r12 = bI (agS h sc sp sn sm p i) := hw12
      refine lv_if_eq (tgt := 24) hx hb dX0_sorts_15 (by decide) (fun c15 => ?_) (fun c15 => ?_)
      ·
        have c15 : (agS h sc sp sn sm p i) = false := bI_0 c15
        refine lv_iinc (v := nI (i + 1)) (lv' := [(3, .int (nI (i + 1))), (0, .ref h0), (1, .int (nI p)), (2, .int (nI a))]) hx hb dX0_sorts_24 hl (k := 3) rfl (show nI i + Int32.ofInt 1 = nI (i + 1) from nI_add _ _) (by decide) rfl (fun ls hl => ?_)
        refine lv_goto (tgt := 4) hx hb dX0_sorts_27 (by decide) ?_
        exact ih4 (i + 1) a (by omega) (by rw [ha]; exact pb_no _ _ c15) (by omega) _ _ hP hD hS ls (lv_sub hl [1, 2, 3, 0] rfl)
      have c15 : (agS h sc sp sn sm p i) = true := bI_n0 c15
      refine lv_iload_n hx hb dX0_sorts_18 rfl (lv_at hl 2 rfl) ?_
      refine lv_iconst (v := nI 1) hx hb dX0_sorts_19 (by decide) ?_
      refine lv_iload_n hx hb dX0_sorts_20 rfl (lv_at hl 3 rfl) ?_
      refine lv_ishl hx hb dX0_sorts_21 ?_
      refine lv_topi (fun x21 e21 => ?_)
      obtain rfl : x21 = nI (2 ^ i) := e21.trans (shl_1 (by omega))
      refine lv_ior hx hb dX0_sorts_22 ?_
      refine lv_topi (fun x22 e22 => ?_)
      obtain rfl : x22 = nI (a ||| (2 ^ i)) := e22.trans (or_nI _ _)
      refine lv_istore_n (lv' := [(2, .int (nI (a ||| (2 ^ i)))), (0, .ref h0), (1, .int (nI p)), (3, .int (nI i))]) hx hb dX0_sorts_23 rfl hl (by decide) rfl (fun ls hl => ?_)
      refine lv_iinc (v := nI (i + 1)) (lv' := [(3, .int (nI (i + 1))), (2, .int (nI (a ||| (2 ^ i)))), (0, .ref h0), (1, .int (nI p))]) hx hb dX0_sorts_24 hl (k := 3) rfl (show nI i + Int32.ofInt 1 = nI (i + 1) from nI_add _ _) (by decide) rfl (fun ls hl => ?_)
      refine lv_goto (tgt := 4) hx hb dX0_sorts_27 (by decide) ?_
      exact ih4 (i + 1) (a ||| (2 ^ i)) (by omega) (by rw [ha]; exact pb_or _ _ c15) (by omega) _ _ hP hD hS ls (lv_sub hl [2, 3, 1, 0] rfl)
  exact L4 _ 0 0 (by omega) (rfl) (Nat.lt_succ_self _) _ _ hP hD hS ls (lv_sub hl [2, 3, 1, 0] rfl)

set_option maxHeartbeats 4000000 in
set_option maxRecDepth 100000 in
theorem KX0_leftAtWorst (l : Launch) (dC : Nat → ClassId) (dI0 : Nat → Nat → Nat) (cI cZ : ClassId) (h0 : Nat) (a1 : Nat) (a2 : Nat) (a3 : Nat) (a4 : Nat) (a5 : Nat) (a6 : Nat) (a7 : Nat) (n : Nat) (dr : Nat) (sc : Nat) (kA : Nat → Int32) (hsA : Nat → Int32) (dA : Nat → Int32) (bA : Nat → Int32) (pA : Nat → Int32) (nA : Nat → Int32) (mA : Nat → Int32) (sz : Nat) (k : Nat → Nat) (h : Nat → Nat) (b : Nat → Nat) (d : Nat → Option Nat) (so : Nat) (p : Nat) (q : Nat) (hC : CoR n kA hsA dA bA k h b d) (hso : so < 32) (hp : p < n) (hq : q < n) : Met l yX0_leftAtWorst wsX0_leftAtWorst ({ frames := 2, cells := 0, slots := 0, locals := 37 } : Room) (va_Pc [.ref h0, .int (nI so), .int (nI p), .int (nI q)] (fun U => U.heap.size = sz ∧ va_P (dC, dI0) vwCl (WCo cI cZ h0 a1 a2 a3 a4 a5 a6 a7 n dr sc kA hsA dA bA pA nA mA) U.heap ∧ va_K (dC, dI0) vwCl [(cI, .int), (cZ, .boolean)] U ∧ va_D (fun _ => True) (WCo cI cZ h0 a1 a2 a3 a4 a5 a6 a7 n dr sc kA hsA dA bA pA nA mA))) (va_Qi (fun (r : Int32) (u : Unit) => r = nI (lwS h so p q)) (fun (u : Unit) (t : State) => va_P (dC, dI0) vwCl (WCo cI cZ h0 a1 a2 a3 a4 a5 a6 a7 n dr sc kA hsA dA bA pA nA mA) t.heap ∧ va_K (dC, dI0) vwCl [(cI, .int), (cZ, .boolean)] t ∧ va_D (va_A (WCo cI cZ h0 a1 a2 a3 a4 a5 a6 a7 n dr sc kA hsA dA bA pA nA mA) sz) (WCo cI cZ h0 a1 a2 a3 a4 a5 a6 a7 n dr sc kA hsA dA bA pA nA mA)) (va_A (WCo cI cZ h0 a1 a2 a3 a4 a5 a6 a7 n dr sc kA hsA dA bA pA nA mA) sz)) 0 0 (va_A (WCo cI cZ h0 a1 a2 a3 a4 a5 a6 a7 n dr sc kA hsA dA bA pA nA mA) sz) := by
  refine Met.ofW (cc := cX0_leftAtWorst) (maxL := 6) (ret := (some .int)) (by decide) rfl ?_
  intro prg env s m args below meth c s₁ B hml hv
  obtain ⟨rfl, hsz, hP, hK, hD0⟩ := hv
  have hx := B.exec
  have hb := B.bytes
  have hr := B.returns
  have hts := atoms_spec (ws := wsX0_leftAtWorst) B.pre
  have hown : s.vm.findClass RX0 = some m.cls := findClass_of_methodNamed B.named
  have hlocks := B.notSynchronized
  subst hsz
  have hD := hD0.self (sz := s.heap.size)
  generalize hAe : va_A (WCo cI cZ h0 a1 a2 a3 a4 a5 a6 a7 n dr sc kA hsA dA bA pA nA mA) s.heap.size = A at hD ⊢
  have hA : ∀ q : Nat, s.heap.size ≤ q → A q := fun q h => by rw [← hAe]; exact Or.inr h
  have hS : va_S A s.heap s.heap [] := va_S.rf
  have hP : va_P (dC, dI0) vwCl [(h0, .inr (0, [.ref a1, .ref a2, .ref a3, .ref a4, .int (nI n), .int (nI dr), .int (nI sc), .ref a5, .ref a6, .ref a7])), (a1, .inl (cI, 7, .inl kA)), (a2, .inl (cI, 7, .inl hsA)), (a3, .inl (cI, 7, .inl dA)), (a4, .inl (cI, 7, .inl bA)), (a5, .inl (cI, 6, .inl pA)), (a6, .inl (cI, 6, .inl nA)), (a7, .inl (cZ, 6, .inl mA))] s.heap := hP
  have hD : va_D A [(h0, .inr (0, [.ref a1, .ref a2, .ref a3, .ref a4, .int (nI n), .int (nI dr), .int (nI sc), .ref a5, .ref a6, .ref a7])), (a1, .inl (cI, 7, .inl kA)), (a2, .inl (cI, 7, .inl hsA)), (a3, .inl (cI, 7, .inl dA)), (a4, .inl (cI, 7, .inl bA)), (a5, .inl (cI, 6, .inl pA)), (a6, .inl (cI, 6, .inl nA)), (a7, .inl (cZ, 6, .inl mA))] := hD
  have hl := lv_entry ([.ref h0, .int (nI so), .int (nI p), .int (nI q)]) (n := 6) (Nat.le_of_ble_eq_true rfl)
  rw [lg_entry_eq]
  generalize (lg_sl ([.ref h0, .int (nI so), .int (nI p), .int (nI q)]) ++ List.replicate (6 - (lg_sl ([.ref h0, .int (nI so), .int (nI p), .int (nI q)])).length) Slot.unset).toArray = ls at hl ⊢
  have hl : lv_has ls 6 [(0, .ref h0), (1, .int (nI so)), (2, .int (nI p)), (3, .int (nI q))] := hl
  obtain ⟨H, hH⟩ : ∃ H : Heap, H = s.heap := ⟨_, rfl⟩
  rw [← hH] at hP ⊢
  have hS : va_S A s.heap H [] := by rw [hH]; exact hS
  refine w_gen (fun Q hQ => ?_)
  have hmmax1 := hts (.methodLink RX0 98 Lib.Math.max.name) (by decide +kernel)
  have hmmax2 := hts (.static Lib.Math.max.name) (by decide +kernel)
  have hm3 := hts (.initialized "java/lang/Math") (by decide +kernel)
  have hmmax4 := hts (.code Lib.Math.max.name Lib.Math.max.code 2 (some .int)) (by decide +kernel)
  obtain ⟨hn7, hkk, hhh, hbb, hdd, hdn, hdi⟩ := id hC
  refine lv_iconst (v := nI 0) hx hb dX0_leftAtWorst_0 (by decide) ?_
  refine lv_istore (lv' := [(4, .int (nI 0)), (0, .ref h0), (1, .int (nI so)), (2, .int (nI p)), (3, .int (nI q))]) hx hb dX0_leftAtWorst_1 hl (by decide) rfl (fun ls hl => ?_)
  refine lv_iconst (v := nI 0) hx hb dX0_leftAtWorst_3 (by decide) ?_
  refine lv_istore (lv' := [(5, .int (nI 0)), (4, .int (nI 0)), (0, .ref h0), (1, .int (nI so)), (2, .int (nI p)), (3, .int (nI q))]) hx hb dX0_leftAtWorst_4 hl (by decide) rfl (fun ls hl => ?_)
  have L6 : ∀ (fu : Nat) (i : Nat) (a : Nat), i ≤ 5 → a = ct (fun kd => so.testBit kd && kM h kd p q) i → 5 - i < fu → ∀ (H : Heap) (locs : List Loc), va_P (dC, dI0) vwCl [(h0, .inr (0, [.ref a1, .ref a2, .ref a3, .ref a4, .int (nI n), .int (nI dr), .int (nI sc), .ref a5, .ref a6, .ref a7])), (a1, .inl (cI, 7, .inl kA)), (a2, .inl (cI, 7, .inl hsA)), (a3, .inl (cI, 7, .inl dA)), (a4, .inl (cI, 7, .inl bA)), (a5, .inl (cI, 6, .inl pA)), (a6, .inl (cI, 6, .inl nA)), (a7, .inl (cZ, 6, .inl mA))] H → va_D A [(h0, .inr (0, [.ref a1, .ref a2, .ref a3, .ref a4, .int (nI n), .int (nI dr), .int (nI sc), .ref a5, .ref a6, .ref a7])), (a1, .inl (cI, 7, .inl kA)), (a2, .inl (cI, 7, .inl hsA)), (a3, .inl (cI, 7, .inl dA)), (a4, .inl (cI, 7, .inl bA)), (a5, .inl (cI, 6, .inl pA)), (a6, .inl (cI, 6, .inl nA)), (a7, .inl (cZ, 6, .inl mA))] → va_S A s.heap H locs → ∀ (ls : Array Slot), lv_has ls 6 [(0, .ref h0), (1, .int (nI so)), (2, .int (nI p)), (3, .int (nI q)), (4, .int (nI a)), (5, .int (nI i))] → W prg l env ({ frames := 2, cells := 0, slots := 0, locals := 37 } : Room) s m ([.ref h0, .int (nI so), .int (nI p), .int (nI q)] : List Value).toArray below meth c H locs 0 0 Q (F0 m 6 ls []) := by
    intro fu
    induction fu with
    | zero => intro i a hi ha hmu; exact absurd hmu (Nat.not_lt_zero _)
    | succ fu ih6 =>
      intro i a hi ha hmu6 H locs hP hD hS ls hl
      refine lv_iload hx hb dX0_leftAtWorst_6 (lv_at hl 5 rfl) ?_
      refine lv_iconst (v := nI 5) hx hb dX0_leftAtWorst_8 (by decide) ?_
      refine lv_icmp_ge (tgt := 42) hx hb dX0_leftAtWorst_9 (by decide) (fun c9 => ?_) (fun c9 => ?_)
      ·
        have c9 : 5 ≤ i := (nI_leI (a := 5) (b := i) (by omega) (by omega)).mp c9
        have hys : a = ysS h so p q := by rw [ha, show i = 5 by omega]; rfl
        have hys2 := ys_le h so p q
        have hpl := pop_le so
        refine lv_iload hx hb dX0_leftAtWorst_42 (lv_at hl 4 rfl) ?_
        refine lv_iload_n hx hb dX0_leftAtWorst_44 rfl (lv_at hl 1 rfl) ?_
        have hPc := hP.sub (ws' := []) [] rfl
        have hDc := hD.sub (ws' := []) [] (by decide) rfl
        have hFc := va_free (wc := []) hD hS hA [] rfl
        refine va_calli (va_runS (As := [.int (nI so)]) (rest := [.int (nI a)]) ⟨hx, hb, hml, hown, hts⟩ (KJ6_bitCount_0f7a4 l dC dI0 cI cZ  H.size so (by first | assumption | omega)) (va_cwS 1 hts gX0_leftAtWorst_J6_bitCount_0f7a4 rfl rfl rfl (by decide +kernel) ⟨Nat.le_of_ble_eq_true rfl, Nat.le_of_ble_eq_true rfl⟩) ⟨fun a U g mk q => by obtain ⟨q0, q1, qP, qK, qD⟩ := q; exact ⟨q0, q1, qP, va_K.moved (u := U) (U := U.calling g mk a) (Vm.Alike.refl U.vm) qK, qD⟩, fun U hU hW => ⟨rfl, by rw [hU], by rw [hU]; exact hPc, va_K.moved hW.alike hK, hDc.weaken (fun _ _ _ _ => trivial)⟩⟩ rfl rfl hl.1 rfl (lv_room (Nat.le_of_ble_eq_true rfl)) dX0_leftAtWorst_45 ⟨Nat.le_of_ble_eq_true rfl, Nat.le_of_ble_eq_true rfl⟩) hS (fun q _ h => hFc q h) hFc (fun r45 u45 t7 H1 locs ht7 hvm7 hw45 hB hz1 hk1 hS => ?_)
        obtain ⟨hP1, hK1, hD1⟩ := hB
        rw [ht7] at hP1
        try dsimp only at hw45 hP1 hD1
        obtain ⟨hP, hD⟩ := va_join (wr := [(h0, .inr (0, [.ref a1, .ref a2, .ref a3, .ref a4, .int (nI n), .int (nI dr), .int (nI sc), .ref a5, .ref a6, .ref a7])), (a1, .inl (cI, 7, .inl kA)), (a2, .inl (cI, 7, .inl hsA)), (a3, .inl (cI, 7, .inl dA)), (a4, .inl (cI, 7, .inl bA)), (a5, .inl (cI, 6, .inl pA)), (a6, .inl (cI, 6, .inl nA)), (a7, .inl (cZ, 6, .inl mA))]) (w1 := []) hP hD [] [0, 1, 2, 3, 4, 5, 6, 7] rfl rfl (by decide) (by decide) hk1 hFc hP1 hD1
        generalize H1 = H at hP hS ⊢
        have hP := hP.sub (ws' := [(h0, .inr (0, [.ref a1, .ref a2, .ref a3, .ref a4, .int (nI n), .int (nI dr), .int (nI sc), .ref a5, .ref a6, .ref a7])), (a1, .inl (cI, 7, .inl kA)), (a2, .inl (cI, 7, .inl hsA)), (a3, .inl (cI, 7, .inl dA)), (a4, .inl (cI, 7, .inl bA)), (a5, .inl (cI, 6, .inl pA)), (a6, .inl (cI, 6, .inl nA)), (a7, .inl (cZ, 6, .inl mA))]) [0, 1, 2, 3, 4, 5, 6, 7] rfl
        have hD := hD.sub (ws' := [(h0, .inr (0, [.ref a1, .ref a2, .ref a3, .ref a4, .int (nI n), .int (nI dr), .int (nI sc), .ref a5, .ref a6, .ref a7])), (a1, .inl (cI, 7, .inl kA)), (a2, .inl (cI, 7, .inl hsA)), (a3, .inl (cI, 7, .inl dA)), (a4, .inl (cI, 7, .inl bA)), (a5, .inl (cI, 6, .inl pA)), (a6, .inl (cI, 6, .inl nA)), (a7, .inl (cZ, 6, .inl mA))]) [0, 1, 2, 3, 4, 5, 6, 7] (by decide) rfl
        obtain rfl : r45 = nI (pop so) := hw45
        refine lv_iload hx hb dX0_leftAtWorst_48 (lv_at hl 4 rfl) ?_
        refine lv_isub hx hb dX0_leftAtWorst_50 ?_
        refine lv_topi (fun x50 e50 => ?_)
        obtain rfl : x50 = nI ((pop so) - a) := e50.trans (pk_sub (by omega))
        refine va_mmax hx hb (by rw [hml]; exact hl.1.symm) hown hmmax1 hmmax2 hm3 hmmax4 (Nat.le_of_ble_eq_true rfl) (Nat.le_of_ble_eq_true rfl) (Nat.zero_le _) (Nat.zero_le _) dX0_leftAtWorst_51 ?_
        refine lv_topi (fun x51 e51 => ?_)
        obtain rfl : x51 = nI (max a (pop so - a)) := e51.trans (max_nI (by omega) (by omega))
        subst hQ
        have hP9 : va_P (dC, dI0) vwCl [(h0, .inr (0, [.ref a1, .ref a2, .ref a3, .ref a4, .int (nI n), .int (nI dr), .int (nI sc), .ref a5, .ref a6, .ref a7])), (a1, .inl (cI, 7, .inl kA)), (a2, .inl (cI, 7, .inl hsA)), (a3, .inl (cI, 7, .inl dA)), (a4, .inl (cI, 7, .inl bA)), (a5, .inl (cI, 6, .inl pA)), (a6, .inl (cI, 6, .inl nA)), (a7, .inl (cZ, 6, .inl mA))] H := hP
        have hD9 : va_D A [(h0, .inr (0, [.ref a1, .ref a2, .ref a3, .ref a4, .int (nI n), .int (nI dr), .int (nI sc), .ref a5, .ref a6, .ref a7])), (a1, .inl (cI, 7, .inl kA)), (a2, .inl (cI, 7, .inl hsA)), (a3, .inl (cI, 7, .inl dA)), (a4, .inl (cI, 7, .inl bA)), (a5, .inl (cI, 6, .inl pA)), (a6, .inl (cI, 6, .inl nA)), (a7, .inl (cZ, 6, .inl mA))] := hD
        exact W.iret (v := nI (max a (pop so - a))) hx hb hr (fun t9 ht9 hW9 => ⟨⟨nI (max a (pop so - a)), (), rfl, by rw [hys]; rfl, by rw [ht9]; exact hP9, va_K.moved hW9.alike hK, hD9⟩, hS.F ht9⟩) hS.2.2 dX0_leftAtWorst_54
      have c9 : ¬ 5 ≤ i := fun z => c9 ((nI_leI (a := 5) (b := i) (by omega) (by omega)).mpr z)
      refine lv_iload_n hx hb dX0_leftAtWorst_12 rfl (lv_at hl 1 rfl) ?_
      refine lv_iload hx hb dX0_leftAtWorst_13 (lv_at hl 5 rfl) ?_
      refine lv_ishr hx hb dX0_leftAtWorst_15 ?_
      refine lv_topi (fun x15 e15 => ?_)
      obtain rfl : x15 = nI (so / 2 ^ i) := e15.trans (shr_nI (by omega) (by omega))
      refine lv_iconst (v := nI 1) hx hb dX0_leftAtWorst_16 (by decide) ?_
      refine lv_iand hx hb dX0_leftAtWorst_17 ?_
      refine lv_topi (fun x17 e17 => ?_)
      obtain rfl : x17 = nI ((so / 2 ^ i) % 2) := e17.trans (and_1 _)
      refine lv_iconst (v := nI 1) hx hb dX0_leftAtWorst_18 (by decide) ?_
      refine lv_icmp_ne (tgt := 36) hx hb dX0_leftAtWorst_19 (by decide) (fun c19 => ?_) (fun c19 => ?_)
      ·
        have c19 : ¬ ((so / 2 ^ i) % 2) = 1 := fun z => c19 ((nI_eq (a := ((so / 2 ^ i) % 2)) (b := 1) (by omega) (by omega)).mpr z)
        refine lv_iinc (v := nI (i + 1)) (lv' := [(5, .int (nI (i + 1))), (0, .ref h0), (1, .int (nI so)), (2, .int (nI p)), (3, .int (nI q)), (4, .int (nI a))]) hx hb dX0_leftAtWorst_36 hl (k := 5) rfl (show nI i + Int32.ofInt 1 = nI (i + 1) from nI_add _ _) (by decide) rfl (fun ls hl => ?_)
        refine lv_goto (tgt := 6) hx hb dX0_leftAtWorst_39 (by decide) ?_
        exact ih6 (i + 1) a (by omega) (by rw [ha]; exact ct_f (f := fun kd => so.testBit kd && kM h kd p q) (by rw [tb_0 c19]; rfl)) (by omega) _ _ hP hD hS ls (lv_sub hl [1, 2, 3, 4, 5, 0] rfl)
      have c19 : ((so / 2 ^ i) % 2) = 1 := (nI_eq (a := ((so / 2 ^ i) % 2)) (b := 1) (by omega) (by omega)).mp c19
      refine lv_aload_n hx hb dX0_leftAtWorst_22 rfl (lv_at hl 0 rfl) ?_
      refine lv_iload hx hb dX0_leftAtWorst_23 (lv_at hl 5 rfl) ?_
      refine lv_iload_n hx hb dX0_leftAtWorst_25 rfl (lv_at hl 2 rfl) ?_
      refine lv_iload_n hx hb dX0_leftAtWorst_26 rfl (lv_at hl 3 rfl) ?_
      have hPc := hP.sub (ws' := [(h0, .inr (0, [.ref a1, .ref a2, .ref a3, .ref a4, .int (nI n), .int (nI dr), .int (nI sc), .ref a5, .ref a6, .ref a7])), (a1, .inl (cI, 7, .inl kA)), (a2, .inl (cI, 7, .inl hsA)), (a3, .inl (cI, 7, .inl dA)), (a4, .inl (cI, 7, .inl bA)), (a5, .inl (cI, 6, .inl pA)), (a6, .inl (cI, 6, .inl nA)), (a7, .inl (cZ, 6, .inl mA))]) [0, 1, 2, 3, 4, 5, 6, 7] rfl
      have hDc := hD.sub (ws' := [(h0, .inr (0, [.ref a1, .ref a2, .ref a3, .ref a4, .int (nI n), .int (nI dr), .int (nI sc), .ref a5, .ref a6, .ref a7])), (a1, .inl (cI, 7, .inl kA)), (a2, .inl (cI, 7, .inl hsA)), (a3, .inl (cI, 7, .inl dA)), (a4, .inl (cI, 7, .inl bA)), (a5, .inl (cI, 6, .inl pA)), (a6, .inl (cI, 6, .inl nA)), (a7, .inl (cZ, 6, .inl mA))]) [0, 1, 2, 3, 4, 5, 6, 7] (by decide) rfl
      have hFc := va_free (wc := [(h0, .inr (0, [.ref a1, .ref a2, .ref a3, .ref a4, .int (nI n), .int (nI dr), .int (nI sc), .ref a5, .ref a6, .ref a7])), (a1, .inl (cI, 7, .inl kA)), (a2, .inl (cI, 7, .inl hsA)), (a3, .inl (cI, 7, .inl dA)), (a4, .inl (cI, 7, .inl bA)), (a5, .inl (cI, 6, .inl pA)), (a6, .inl (cI, 6, .inl nA)), (a7, .inl (cZ, 6, .inl mA))]) hD hS hA [0, 1, 2, 3, 4, 5, 6, 7] rfl
      refine va_calli (va_runV (As := [.int (nI i), .int (nI p), .int (nI q)]) (rest := []) ⟨hx, hb, hml, hown, hts⟩ (KX0_kindMay l dC dI0 cI cZ h0 a1 a2 a3 a4 a5 a6 a7 n dr sc kA hsA dA bA pA nA mA H.size k h b d i p q (by first | assumption | omega) (by first | assumption | omega) (by first | assumption | omega) (by first | assumption | omega)) (cwV 3 hts gX0_leftAtWorst_X0_kindMay rfl rfl rfl (by decide +kernel) ⟨Nat.le_of_ble_eq_true rfl, Nat.le_of_ble_eq_true rfl⟩) ⟨fun a U g mk q => by obtain ⟨q0, q1, qP, qK, qD⟩ := q; exact ⟨q0, q1, qP, va_K.moved (u := U) (U := U.calling g mk a) (Vm.Alike.refl U.vm) qK, qD⟩, va_recv hK hPc (ci := 0) (q0 := 0) rfl rfl, fun U hU hW => ⟨rfl, by rw [hU], by rw [hU]; exact hPc, va_K.moved hW.alike hK, hDc.weaken (fun _ _ _ _ => trivial)⟩⟩ rfl rfl hl.1 rfl (lv_room (Nat.le_of_ble_eq_true rfl)) dX0_leftAtWorst_27 ⟨Nat.le_of_ble_eq_true rfl, Nat.le_of_ble_eq_true rfl⟩) hS (fun q _ h => hFc q h) hFc (fun r27 u27 t7 H1 locs ht7 hvm7 hw27 hB hz1 hk1 hS => ?_)
      obtain ⟨hP1, hK1, hD1⟩ := hB
      rw [ht7] at hP1
      try dsimp only at hw27 hP1 hD1
      obtain ⟨hP, hD⟩ := va_join (wr := []) (w1 := [(h0, .inr (0, [.ref a1, .ref a2, .ref a3, .ref a4, .int (nI n), .int (nI dr), .int (nI sc), .ref a5, .ref a6, .ref a7])), (a1, .inl (cI, 7, .inl kA)), (a2, .inl (cI, 7, .inl hsA)), (a3, .inl (cI, 7, .inl dA)), (a4, .inl (cI, 7, .inl bA)), (a5, .inl (cI, 6, .inl pA)), (a6, .inl (cI, 6, .inl nA)), (a7, .inl (cZ, 6, .inl mA))]) hP hD [0, 1, 2, 3, 4, 5, 6, 7] [] rfl rfl (by decide) (by decide) hk1 hFc hP1 hD1
      generalize H1 = H at hP hS ⊢
      have hP := hP.sub (ws' := [(h0, .inr (0, [.ref a1, .ref a2, .ref a3, .ref a4, .int (nI n), .int (nI dr), .int (nI sc), .ref a5, .ref a6, .ref a7])), (a1, .inl (cI, 7, .inl kA)), (a2, .inl (cI, 7, .inl hsA)), (a3, .inl (cI, 7, .inl dA)), (a4, .inl (cI, 7, .inl bA)), (a5, .inl (cI, 6, .inl pA)), (a6, .inl (cI, 6, .inl nA)), (a7, .inl (cZ, 6, .inl mA))]) [0, 1, 2, 3, 4, 5, 6, 7] rfl
      have hD := hD.sub (ws' := [(h0, .inr (0, [.ref a1, .ref a2, .ref a3, .ref a4, .int (nI n), .int (nI dr), .int (nI sc), .ref a5, .ref a6, .ref a7])), (a1, .inl (cI, 7, .inl kA)), (a2, .inl (cI, 7, .inl hsA)), (a3, .inl (cI, 7, .inl dA)), (a4, .inl (cI, 7, .inl bA)), (a5, .inl (cI, 6, .inl pA)), (a6, .inl (cI, 6, .inl nA)), (a7, .inl (cZ, 6, .inl mA))]) [0, 1, 2, 3, 4, 5, 6, 7] (by decide) rfl
      obtain rfl : r27 = bI (kM h i p q) := hw27
      refine lv_if_eq (tgt := 36) hx hb dX0_leftAtWorst_30 (by decide) (fun c30 => ?_) (fun c30 => ?_)
      ·
        have c30 : (kM h i p q) = false := bI_0 c30
        refine lv_iinc (v := nI (i + 1)) (lv' := [(5, .int (nI (i + 1))), (0, .ref h0), (1, .int (nI so)), (2, .int (nI p)), (3, .int (nI q)), (4, .int (nI a))]) hx hb dX0_leftAtWorst_36 hl (k := 5) rfl (show nI i + Int32.ofInt 1 = nI (i + 1) from nI_add _ _) (by decide) rfl (fun ls hl => ?_)
        refine lv_goto (tgt := 6) hx hb dX0_leftAtWorst_39 (by decide) ?_
        exact ih6 (i + 1) a (by omega) (by rw [ha]; exact ct_f (f := fun kd => so.testBit kd && kM h kd p q) (by rw [c30, Bool.and_false])) (by omega) _ _ hP hD hS ls (lv_sub hl [1, 2, 3, 4, 5, 0] rfl)
      have c30 : (kM h i p q) = true := bI_n0 c30
      refine lv_iinc (v := nI (a + 1)) (lv' := [(4, .int (nI (a + 1))), (0, .ref h0), (1, .int (nI so)), (2, .int (nI p)), (3, .int (nI q)), (5, .int (nI i))]) hx hb dX0_leftAtWorst_33 hl (k := 4) rfl (show nI a + Int32.ofInt 1 = nI (a + 1) from nI_add _ _) (by decide) rfl (fun ls hl => ?_)
      refine lv_iinc (v := nI (i + 1)) (lv' := [(5, .int (nI (i + 1))), (4, .int (nI (a + 1))), (0, .ref h0), (1, .int (nI so)), (2, .int (nI p)), (3, .int (nI q))]) hx hb dX0_leftAtWorst_36 hl (k := 5) rfl (show nI i + Int32.ofInt 1 = nI (i + 1) from nI_add _ _) (by decide) rfl (fun ls hl => ?_)
      refine lv_goto (tgt := 6) hx hb dX0_leftAtWorst_39 (by decide) ?_
      exact ih6 (i + 1) (a + 1) (by omega) (by rw [ha]; exact ct_t (f := fun kd => so.testBit kd && kM h kd p q) (by rw [tb_1 c19, c30]; rfl)) (by omega) _ _ hP hD hS ls (lv_sub hl [2, 3, 4, 5, 1, 0] rfl)
  exact L6 _ 0 0 (by omega) (rfl) (Nat.lt_succ_self _) _ _ hP hD hS ls (lv_sub hl [2, 3, 4, 5, 1, 0] rfl)

set_option maxHeartbeats 4000000 in
set_option maxRecDepth 100000 in
theorem KX0_nameToAsk (l : Launch) (dC : Nat → ClassId) (dI0 : Nat → Nat → Nat) (cI cZ : ClassId) (h0 : Nat) (a1 : Nat) (a2 : Nat) (a3 : Nat) (a4 : Nat) (a5 : Nat) (a6 : Nat) (a7 : Nat) (n : Nat) (dr : Nat) (sc : Nat) (kA : Nat → Int32) (hsA : Nat → Int32) (dA : Nat → Int32) (bA : Nat → Int32) (pA : Nat → Int32) (nA : Nat → Int32) (mA : Nat → Int32) (sz : Nat) (k : Nat → Nat) (h : Nat → Nat) (b : Nat → Nat) (d : Nat → Option Nat) (sp : Nat → Nat) (sn : Nat → Nat) (sm : Nat → Bool) (p : Nat) (hC : CoR n kA hsA dA bA k h b d) (hSe : SeR n sc pA nA mA sp sn sm) (hp : p < n) : Met l yX0_nameToAsk wsX0_nameToAsk ({ frames := 4, cells := 0, slots := 0, locals := 83 } : Room) (va_Pc [.ref h0, .int (nI p)] (fun U => U.heap.size = sz ∧ va_P (dC, dI0) vwCl (WCo cI cZ h0 a1 a2 a3 a4 a5 a6 a7 n dr sc kA hsA dA bA pA nA mA) U.heap ∧ va_K (dC, dI0) vwCl [(cI, .int), (cZ, .boolean)] U ∧ va_D (fun _ => True) (WCo cI cZ h0 a1 a2 a3 a4 a5 a6 a7 n dr sc kA hsA dA bA pA nA mA))) (va_Qi (fun (r : Int32) (u : Unit) => r = dI (asS n h (soS h sc sp sn sm p) p)) (fun (u : Unit) (t : State) => va_P (dC, dI0) vwCl (WCo cI cZ h0 a1 a2 a3 a4 a5 a6 a7 n dr sc kA hsA dA bA pA nA mA) t.heap ∧ va_K (dC, dI0) vwCl [(cI, .int), (cZ, .boolean)] t ∧ va_D (va_A (WCo cI cZ h0 a1 a2 a3 a4 a5 a6 a7 n dr sc kA hsA dA bA pA nA mA) sz) (WCo cI cZ h0 a1 a2 a3 a4 a5 a6 a7 n dr sc kA hsA dA bA pA nA mA)) (va_A (WCo cI cZ h0 a1 a2 a3 a4 a5 a6 a7 n dr sc kA hsA dA bA pA nA mA) sz)) 0 0 (va_A (WCo cI cZ h0 a1 a2 a3 a4 a5 a6 a7 n dr sc kA hsA dA bA pA nA mA) sz) := by
  refine Met.ofW (cc := cX0_nameToAsk) (maxL := 7) (ret := (some .int)) (by decide) rfl ?_
  intro prg env s m args below meth c s₁ B hml hv
  obtain ⟨rfl, hsz, hP, hK, hD0⟩ := hv
  have hx := B.exec
  have hb := B.bytes
  have hr := B.returns
  have hts := atoms_spec (ws := wsX0_nameToAsk) B.pre
  have hown : s.vm.findClass RX0 = some m.cls := findClass_of_methodNamed B.named
  have hlocks := B.notSynchronized
  subst hsz
  have hD := hD0.self (sz := s.heap.size)
  generalize hAe : va_A (WCo cI cZ h0 a1 a2 a3 a4 a5 a6 a7 n dr sc kA hsA dA bA pA nA mA) s.heap.size = A at hD ⊢
  have hA : ∀ q : Nat, s.heap.size ≤ q → A q := fun q h => by rw [← hAe]; exact Or.inr h
  have hS : va_S A s.heap s.heap [] := va_S.rf
  have hP : va_P (dC, dI0) vwCl [(h0, .inr (0, [.ref a1, .ref a2, .ref a3, .ref a4, .int (nI n), .int (nI dr), .int (nI sc), .ref a5, .ref a6, .ref a7])), (a1, .inl (cI, 7, .inl kA)), (a2, .inl (cI, 7, .inl hsA)), (a3, .inl (cI, 7, .inl dA)), (a4, .inl (cI, 7, .inl bA)), (a5, .inl (cI, 6, .inl pA)), (a6, .inl (cI, 6, .inl nA)), (a7, .inl (cZ, 6, .inl mA))] s.heap := hP
  have hD : va_D A [(h0, .inr (0, [.ref a1, .ref a2, .ref a3, .ref a4, .int (nI n), .int (nI dr), .int (nI sc), .ref a5, .ref a6, .ref a7])), (a1, .inl (cI, 7, .inl kA)), (a2, .inl (cI, 7, .inl hsA)), (a3, .inl (cI, 7, .inl dA)), (a4, .inl (cI, 7, .inl bA)), (a5, .inl (cI, 6, .inl pA)), (a6, .inl (cI, 6, .inl nA)), (a7, .inl (cZ, 6, .inl mA))] := hD
  have hl := lv_entry ([.ref h0, .int (nI p)]) (n := 7) (Nat.le_of_ble_eq_true rfl)
  rw [lg_entry_eq]
  generalize (lg_sl ([.ref h0, .int (nI p)]) ++ List.replicate (7 - (lg_sl ([.ref h0, .int (nI p)])).length) Slot.unset).toArray = ls at hl ⊢
  have hl : lv_has ls 7 [(0, .ref h0), (1, .int (nI p))] := hl
  obtain ⟨H, hH⟩ : ∃ H : Heap, H = s.heap := ⟨_, rfl⟩
  rw [← hH] at hP ⊢
  have hS : va_S A s.heap H [] := by rw [hH]; exact hS
  refine w_gen (fun Q hQ => ?_)
  have hin_X0 : ∀ w ∈ wsX00, w ∈ wsX0_nameToAsk := by decide +kernel
  have hf46 := hts (.fieldLink RX0 46 "HatNames$Company" "size" "I") (by decide +kernel)
  obtain ⟨hn7, hkk, hhh, hbb, hdd, hdn, hdi⟩ := id hC
  obtain ⟨hs6, hse⟩ := id hSe
  refine lv_aload_n hx hb dX0_nameToAsk_0 rfl (lv_at hl 0 rfl) ?_
  refine lv_iload_n hx hb dX0_nameToAsk_1 rfl (lv_at hl 1 rfl) ?_
  have hPc := hP.sub (ws' := [(h0, .inr (0, [.ref a1, .ref a2, .ref a3, .ref a4, .int (nI n), .int (nI dr), .int (nI sc), .ref a5, .ref a6, .ref a7])), (a1, .inl (cI, 7, .inl kA)), (a2, .inl (cI, 7, .inl hsA)), (a3, .inl (cI, 7, .inl dA)), (a4, .inl (cI, 7, .inl bA)), (a5, .inl (cI, 6, .inl pA)), (a6, .inl (cI, 6, .inl nA)), (a7, .inl (cZ, 6, .inl mA))]) [0, 1, 2, 3, 4, 5, 6, 7] rfl
  have hDc := hD.sub (ws' := [(h0, .inr (0, [.ref a1, .ref a2, .ref a3, .ref a4, .int (nI n), .int (nI dr), .int (nI sc), .ref a5, .ref a6, .ref a7])), (a1, .inl (cI, 7, .inl kA)), (a2, .inl (cI, 7, .inl hsA)), (a3, .inl (cI, 7, .inl dA)), (a4, .inl (cI, 7, .inl bA)), (a5, .inl (cI, 6, .inl pA)), (a6, .inl (cI, 6, .inl nA)), (a7, .inl (cZ, 6, .inl mA))]) [0, 1, 2, 3, 4, 5, 6, 7] (by decide) rfl
  have hFc := va_free (wc := [(h0, .inr (0, [.ref a1, .ref a2, .ref a3, .ref a4, .int (nI n), .int (nI dr), .int (nI sc), .ref a5, .ref a6, .ref a7])), (a1, .inl (cI, 7, .inl kA)), (a2, .inl (cI, 7, .inl hsA)), (a3, .inl (cI, 7, .inl dA)), (a4, .inl (cI, 7, .inl bA)), (a5, .inl (cI, 6, .inl pA)), (a6, .inl (cI, 6, .inl nA)), (a7, .inl (cZ, 6, .inl mA))]) hD hS hA [0, 1, 2, 3, 4, 5, 6, 7] rfl
  refine va_calli (va_runV (As := [.int (nI p)]) (rest := []) ⟨hx, hb, hml, hown, hts⟩ (KX0_sorts l dC dI0 cI cZ h0 a1 a2 a3 a4 a5 a6 a7 n dr sc kA hsA dA bA pA nA mA H.size k h b d sp sn sm p (by first | assumption | omega) (by first | assumption | omega) (by first | assumption | omega)) (cwV 1 hts gX0_nameToAsk_X0_sorts rfl rfl rfl (by decide +kernel) ⟨Nat.le_of_ble_eq_true rfl, Nat.le_of_ble_eq_true rfl⟩) ⟨fun a U g mk q => by obtain ⟨q0, q1, qP, qK, qD⟩ := q; exact ⟨q0, q1, qP, va_K.moved (u := U) (U := U.calling g mk a) (Vm.Alike.refl U.vm) qK, qD⟩, va_recv hK hPc (ci := 0) (q0 := 0) rfl rfl, fun U hU hW => ⟨rfl, by rw [hU], by rw [hU]; exact hPc, va_K.moved hW.alike hK, hDc.weaken (fun _ _ _ _ => trivial)⟩⟩ rfl rfl hl.1 rfl (lv_room (Nat.le_of_ble_eq_true rfl)) dX0_nameToAsk_2 ⟨Nat.le_of_ble_eq_true rfl, Nat.le_of_ble_eq_true rfl⟩) hS (fun q _ h => hFc q h) hFc (fun r2 u2 t7 H1 locs ht7 hvm7 hw2 hB hz1 hk1 hS => ?_)
  obtain ⟨hP1, hK1, hD1⟩ := hB
  rw [ht7] at hP1
  try dsimp only at hw2 hP1 hD1
  obtain ⟨hP, hD⟩ := va_join (wr := []) (w1 := [(h0, .inr (0, [.ref a1, .ref a2, .ref a3, .ref a4, .int (nI n), .int (nI dr), .int (nI sc), .ref a5, .ref a6, .ref a7])), (a1, .inl (cI, 7, .inl kA)), (a2, .inl (cI, 7, .inl hsA)), (a3, .inl (cI, 7, .inl dA)), (a4, .inl (cI, 7, .inl bA)), (a5, .inl (cI, 6, .inl pA)), (a6, .inl (cI, 6, .inl nA)), (a7, .inl (cZ, 6, .inl mA))]) hP hD [0, 1, 2, 3, 4, 5, 6, 7] [] rfl rfl (by decide) (by decide) hk1 hFc hP1 hD1
  generalize H1 = H at hP hS ⊢
  have hP := hP.sub (ws' := [(h0, .inr (0, [.ref a1, .ref a2, .ref a3, .ref a4, .int (nI n), .int (nI dr), .int (nI sc), .ref a5, .ref a6, .ref a7])), (a1, .inl (cI, 7, .inl kA)), (a2, .inl (cI, 7, .inl hsA)), (a3, .inl (cI, 7, .inl dA)), (a4, .inl (cI, 7, .inl bA)), (a5, .inl (cI, 6, .inl pA)), (a6, .inl (cI, 6, .inl nA)), (a7, .inl (cZ, 6, .inl mA))]) [0, 1, 2, 3, 4, 5, 6, 7] rfl
  have hD := hD.sub (ws' := [(h0, .inr (0, [.ref a1, .ref a2, .ref a3, .ref a4, .int (nI n), .int (nI dr), .int (nI sc), .ref a5, .ref a6, .ref a7])), (a1, .inl (cI, 7, .inl kA)), (a2, .inl (cI, 7, .inl hsA)), (a3, .inl (cI, 7, .inl dA)), (a4, .inl (cI, 7, .inl bA)), (a5, .inl (cI, 6, .inl pA)), (a6, .inl (cI, 6, .inl nA)), (a7, .inl (cZ, 6, .inl mA))]) [0, 1, 2, 3, 4, 5, 6, 7] (by decide) rfl
  obtain rfl : r2 = nI (soS h sc sp sn sm p) := hw2
  have hso := soS_lt h sc sp sn sm p
  refine lv_istore_n (lv' := [(2, .int (nI (soS h sc sp sn sm p))), (0, .ref h0), (1, .int (nI p))]) hx hb dX0_nameToAsk_5 rfl hl (by decide) rfl (fun ls hl => ?_)
  refine lv_iload_n hx hb dX0_nameToAsk_6 rfl (lv_at hl 0 rfl) ?_
  refine lv_if_ne (tgt := 12) hx hb dX0_nameToAsk_7 (by decide) (fun c7 => ?_) (fun c7 => ?_)
  ·
    have c7 : ¬ (soS h sc sp sn sm p) = 0 := fun z => c7 ((nI_eq (a := (soS h sc sp sn sm p)) (b := 0) (by omega) (by omega)).mpr z)
    refine lv_iconst (v := (-1)) hx hb dX0_nameToAsk_12 (by decide) ?_
    refine lv_istore_n (lv' := [(3, .int (-1)), (2, .int (nI (soS h sc sp sn sm p))), (0, .ref h0), (1, .int (nI p))]) hx hb dX0_nameToAsk_13 rfl hl (by decide) rfl (fun ls hl => ?_)
    refine lv_bipush (v := nI 6) hx hb dX0_nameToAsk_14 (by decide) ?_
    refine lv_istore (lv' := [(4, .int (nI 6)), (3, .int (-1)), (2, .int (nI (soS h sc sp sn sm p))), (0, .ref h0), (1, .int (nI p))]) hx hb dX0_nameToAsk_16 hl (by decide) rfl (fun ls hl => ?_)
    refine lv_iconst (v := nI 0) hx hb dX0_nameToAsk_18 (by decide) ?_
    refine lv_istore (lv' := [(5, .int (nI 0)), (4, .int (nI 6)), (3, .int (-1)), (2, .int (nI (soS h sc sp sn sm p))), (0, .ref h0), (1, .int (nI p))]) hx hb dX0_nameToAsk_19 hl (by decide) rfl (fun ls hl => ?_)
    have L21 : ∀ (fu : Nat) (i : Nat) (bt : Option Nat) (fw : Nat), i ≤ n → fw ≤ 7 → asS n h (soS h sc sp sn sm p) p = akS (lwS h (soS h sc sp sn sm p) p) (n - i) i bt fw → n - i < fu → ∀ (H : Heap) (locs : List Loc), va_P (dC, dI0) vwCl [(h0, .inr (0, [.ref a1, .ref a2, .ref a3, .ref a4, .int (nI n), .int (nI dr), .int (nI sc), .ref a5, .ref a6, .ref a7])), (a1, .inl (cI, 7, .inl kA)), (a2, .inl (cI, 7, .inl hsA)), (a3, .inl (cI, 7, .inl dA)), (a4, .inl (cI, 7, .inl bA)), (a5, .inl (cI, 6, .inl pA)), (a6, .inl (cI, 6, .inl nA)), (a7, .inl (cZ, 6, .inl mA))] H → va_D A [(h0, .inr (0, [.ref a1, .ref a2, .ref a3, .ref a4, .int (nI n), .int (nI dr), .int (nI sc), .ref a5, .ref a6, .ref a7])), (a1, .inl (cI, 7, .inl kA)), (a2, .inl (cI, 7, .inl hsA)), (a3, .inl (cI, 7, .inl dA)), (a4, .inl (cI, 7, .inl bA)), (a5, .inl (cI, 6, .inl pA)), (a6, .inl (cI, 6, .inl nA)), (a7, .inl (cZ, 6, .inl mA))] → va_S A s.heap H locs → ∀ (ls : Array Slot), lv_has ls 7 [(0, .ref h0), (1, .int (nI p)), (2, .int (nI (soS h sc sp sn sm p))), (3, .int (dI bt)), (4, .int (nI fw)), (5, .int (nI i))] → W prg l env ({ frames := 4, cells := 0, slots := 0, locals := 83 } : Room) s m ([.ref h0, .int (nI p)] : List Value).toArray below meth c H locs 0 0 Q (F0 m 21 ls []) := by
      intro fu
      induction fu with
      | zero => intro i bt fw hi hfw ht hmu; exact absurd hmu (Nat.not_lt_zero _)
      | succ fu ih21 =>
        intro i bt fw hi hfw ht hmu21 H locs hP hD hS ls hl
        refine lv_iload hx hb dX0_nameToAsk_21 (lv_at hl 5 rfl) ?_
        refine lv_aload_n hx hb dX0_nameToAsk_23 rfl (lv_at hl 0 rfl) ?_
        refine va_get (D := (dC, dI0)) (ci := 0) (v := .int (nI n)) (C := RX0) (T := TX0) (N := 10) hx hb hts hin_X0 hown hK hP 0 rfl rfl 4 (by decide) hf46 (fun _ h9 => h9) rfl dX0_nameToAsk_24 ?_
        refine lv_icmp_ge (tgt := 60) hx hb dX0_nameToAsk_27 (by decide) (fun c27 => ?_) (fun c27 => ?_)
        ·
          have c27 : n ≤ i := (nI_leI (a := n) (b := i) (by omega) (by omega)).mp c27
          refine lv_iload_n hx hb dX0_nameToAsk_60 rfl (lv_at hl 3 rfl) ?_
          subst hQ
          have hP9 : va_P (dC, dI0) vwCl [(h0, .inr (0, [.ref a1, .ref a2, .ref a3, .ref a4, .int (nI n), .int (nI dr), .int (nI sc), .ref a5, .ref a6, .ref a7])), (a1, .inl (cI, 7, .inl kA)), (a2, .inl (cI, 7, .inl hsA)), (a3, .inl (cI, 7, .inl dA)), (a4, .inl (cI, 7, .inl bA)), (a5, .inl (cI, 6, .inl pA)), (a6, .inl (cI, 6, .inl nA)), (a7, .inl (cZ, 6, .inl mA))] H := hP
          have hD9 : va_D A [(h0, .inr (0, [.ref a1, .ref a2, .ref a3, .ref a4, .int (nI n), .int (nI dr), .int (nI sc), .ref a5, .ref a6, .ref a7])), (a1, .inl (cI, 7, .inl kA)), (a2, .inl (cI, 7, .inl hsA)), (a3, .inl (cI, 7, .inl dA)), (a4, .inl (cI, 7, .inl bA)), (a5, .inl (cI, 6, .inl pA)), (a6, .inl (cI, 6, .inl nA)), (a7, .inl (cZ, 6, .inl mA))] := hD
          exact W.iret (v := dI bt) hx hb hr (fun t9 ht9 hW9 => ⟨⟨dI bt, (), rfl, by rw [ht, show n - i = 0 by omega]; rfl, by rw [ht9]; exact hP9, va_K.moved hW9.alike hK, hD9⟩, hS.F ht9⟩) hS.2.2 dX0_nameToAsk_61
        have c27 : ¬ n ≤ i := fun z => c27 ((nI_leI (a := n) (b := i) (by omega) (by omega)).mpr z)
        refine lv_aload_n hx hb dX0_nameToAsk_30 rfl (lv_at hl 0 rfl) ?_
        refine lv_iload_n hx hb dX0_nameToAsk_31 rfl (lv_at hl 2 rfl) ?_
        refine lv_iload_n hx hb dX0_nameToAsk_32 rfl (lv_at hl 1 rfl) ?_
        refine lv_iload hx hb dX0_nameToAsk_33 (lv_at hl 5 rfl) ?_
        have hPc := hP.sub (ws' := [(h0, .inr (0, [.ref a1, .ref a2, .ref a3, .ref a4, .int (nI n), .int (nI dr), .int (nI sc), .ref a5, .ref a6, .ref a7])), (a1, .inl (cI, 7, .inl kA)), (a2, .inl (cI, 7, .inl hsA)), (a3, .inl (cI, 7, .inl dA)), (a4, .inl (cI, 7, .inl bA)), (a5, .inl (cI, 6, .inl pA)), (a6, .inl (cI, 6, .inl nA)), (a7, .inl (cZ, 6, .inl mA))]) [0, 1, 2, 3, 4, 5, 6, 7] rfl
        have hDc := hD.sub (ws' := [(h0, .inr (0, [.ref a1, .ref a2, .ref a3, .ref a4, .int (nI n), .int (nI dr), .int (nI sc), .ref a5, .ref a6, .ref a7])), (a1, .inl (cI, 7, .inl kA)), (a2, .inl (cI, 7, .inl hsA)), (a3, .inl (cI, 7, .inl dA)), (a4, .inl (cI, 7, .inl bA)), (a5, .inl (cI, 6, .inl pA)), (a6, .inl (cI, 6, .inl nA)), (a7, .inl (cZ, 6, .inl mA))]) [0, 1, 2, 3, 4, 5, 6, 7] (by decide) rfl
        have hFc := va_free (wc := [(h0, .inr (0, [.ref a1, .ref a2, .ref a3, .ref a4, .int (nI n), .int (nI dr), .int (nI sc), .ref a5, .ref a6, .ref a7])), (a1, .inl (cI, 7, .inl kA)), (a2, .inl (cI, 7, .inl hsA)), (a3, .inl (cI, 7, .inl dA)), (a4, .inl (cI, 7, .inl bA)), (a5, .inl (cI, 6, .inl pA)), (a6, .inl (cI, 6, .inl nA)), (a7, .inl (cZ, 6, .inl mA))]) hD hS hA [0, 1, 2, 3, 4, 5, 6, 7] rfl
        refine va_calli (va_runV (As := [.int (nI (soS h sc sp sn sm p)), .int (nI p), .int (nI i)]) (rest := []) ⟨hx, hb, hml, hown, hts⟩ (KX0_leftAtWorst l dC dI0 cI cZ h0 a1 a2 a3 a4 a5 a6 a7 n dr sc kA hsA dA bA pA nA mA H.size k h b d (soS h sc sp sn sm p) p i (by first | assumption | omega) (by first | assumption | omega) (by first | assumption | omega) (by first | assumption | omega)) (cwV 3 hts gX0_nameToAsk_X0_leftAtWorst rfl rfl rfl (by decide +kernel) ⟨Nat.le_of_ble_eq_true rfl, Nat.le_of_ble_eq_true rfl⟩) ⟨fun a U g mk q => by obtain ⟨q0, q1, qP, qK, qD⟩ := q; exact ⟨q0, q1, qP, va_K.moved (u := U) (U := U.calling g mk a) (Vm.Alike.refl U.vm) qK, qD⟩, va_recv hK hPc (ci := 0) (q0 := 0) rfl rfl, fun U hU hW => ⟨rfl, by rw [hU], by rw [hU]; exact hPc, va_K.moved hW.alike hK, hDc.weaken (fun _ _ _ _ => trivial)⟩⟩ rfl rfl hl.1 rfl (lv_room (Nat.le_of_ble_eq_true rfl)) dX0_nameToAsk_35 ⟨Nat.le_of_ble_eq_true rfl, Nat.le_of_ble_eq_true rfl⟩) hS (fun q _ h => hFc q h) hFc (fun r35 u35 t7 H1 locs ht7 hvm7 hw35 hB hz1 hk1 hS => ?_)
        obtain ⟨hP1, hK1, hD1⟩ := hB
        rw [ht7] at hP1
        try dsimp only at hw35 hP1 hD1
        obtain ⟨hP, hD⟩ := va_join (wr := []) (w1 := [(h0, .inr (0, [.ref a1, .ref a2, .ref a3, .ref a4, .int (nI n), .int (nI dr), .int (nI sc), .ref a5, .ref a6, .ref a7])), (a1, .inl (cI, 7, .inl kA)), (a2, .inl (cI, 7, .inl hsA)), (a3, .inl (cI, 7, .inl dA)), (a4, .inl (cI, 7, .inl bA)), (a5, .inl (cI, 6, .inl pA)), (a6, .inl (cI, 6, .inl nA)), (a7, .inl (cZ, 6, .inl mA))]) hP hD [0, 1, 2, 3, 4, 5, 6, 7] [] rfl rfl (by decide) (by decide) hk1 hFc hP1 hD1
        generalize H1 = H at hP hS ⊢
        have hP := hP.sub (ws' := [(h0, .inr (0, [.ref a1, .ref a2, .ref a3, .ref a4, .int (nI n), .int (nI dr), .int (nI sc), .ref a5, .ref a6, .ref a7])), (a1, .inl (cI, 7, .inl kA)), (a2, .inl (cI, 7, .inl hsA)), (a3, .inl (cI, 7, .inl dA)), (a4, .inl (cI, 7, .inl bA)), (a5, .inl (cI, 6, .inl pA)), (a6, .inl (cI, 6, .inl nA)), (a7, .inl (cZ, 6, .inl mA))]) [0, 1, 2, 3, 4, 5, 6, 7] rfl
        have hD := hD.sub (ws' := [(h0, .inr (0, [.ref a1, .ref a2, .ref a3, .ref a4, .int (nI n), .int (nI dr), .int (nI sc), .ref a5, .ref a6, .ref a7])), (a1, .inl (cI, 7, .inl kA)), (a2, .inl (cI, 7, .inl hsA)), (a3, .inl (cI, 7, .inl dA)), (a4, .inl (cI, 7, .inl bA)), (a5, .inl (cI, 6, .inl pA)), (a6, .inl (cI, 6, .inl nA)), (a7, .inl (cZ, 6, .inl mA))]) [0, 1, 2, 3, 4, 5, 6, 7] (by decide) rfl
        obtain rfl : r35 = nI (lwS h (soS h sc sp sn sm p) p i) := hw35
        have hlw := lwS_le h (soS h sc sp sn sm p) p i
        refine lv_istore (lv' := [(6, .int (nI (lwS h (soS h sc sp sn sm p) p i))), (0, .ref h0), (1, .int (nI p)), (2, .int (nI (soS h sc sp sn sm p))), (3, .int (dI bt)), (4, .int (nI fw)), (5, .int (nI i))]) hx hb dX0_nameToAsk_38 hl (by decide) rfl (fun ls hl => ?_)
        refine lv_iload hx hb dX0_nameToAsk_40 (lv_at hl 0 rfl) ?_
        refine lv_iload hx hb dX0_nameToAsk_42 (lv_at hl 5 rfl) ?_
        refine lv_icmp_ge (tgt := 54) hx hb dX0_nameToAsk_44 (by decide) (fun c44 => ?_) (fun c44 => ?_)
        ·
          have c44 : fw ≤ (lwS h (soS h sc sp sn sm p) p i) := (nI_leI (a := fw) (b := (lwS h (soS h sc sp sn sm p) p i)) (by omega) (by omega)).mp c44
          refine lv_iinc (v := nI (i + 1)) (lv' := [(5, .int (nI (i + 1))), (6, .int (nI (lwS h (soS h sc sp sn sm p) p i))), (0, .ref h0), (1, .int (nI p)), (2, .int (nI (soS h sc sp sn sm p))), (3, .int (dI bt)), (4, .int (nI fw))]) hx hb dX0_nameToAsk_54 hl (k := 6) rfl (show nI i + Int32.ofInt 1 = nI (i + 1) from nI_add _ _) (by decide) rfl (fun ls hl => ?_)
          refine lv_goto (tgt := 21) hx hb dX0_nameToAsk_57 (by decide) ?_
          exact ih21 (i + 1) bt fw (by omega) (by omega) (ht.trans (akS_f (by omega) (by omega))) (by omega) _ _ hP hD hS ls (lv_sub hl [2, 3, 4, 5, 6, 0] rfl)
        have c44 : ¬ fw ≤ (lwS h (soS h sc sp sn sm p) p i) := fun z => c44 ((nI_leI (a := fw) (b := (lwS h (soS h sc sp sn sm p) p i)) (by omega) (by omega)).mpr z)
        refine lv_iload hx hb dX0_nameToAsk_47 (lv_at hl 0 rfl) ?_
        refine lv_istore (lv' := [(4, .int (nI (lwS h (soS h sc sp sn sm p) p i))), (6, .int (nI (lwS h (soS h sc sp sn sm p) p i))), (0, .ref h0), (1, .int (nI p)), (2, .int (nI (soS h sc sp sn sm p))), (3, .int (dI bt)), (5, .int (nI i))]) hx hb dX0_nameToAsk_49 hl (by decide) rfl (fun ls hl => ?_)
        refine lv_iload hx hb dX0_nameToAsk_51 (lv_at hl 6 rfl) ?_
        refine lv_istore_n (lv' := [(3, .int (nI i)), (4, .int (nI (lwS h (soS h sc sp sn sm p) p i))), (6, .int (nI (lwS h (soS h sc sp sn sm p) p i))), (0, .ref h0), (1, .int (nI p)), (2, .int (nI (soS h sc sp sn sm p))), (5, .int (nI i))]) hx hb dX0_nameToAsk_53 rfl hl (by decide) rfl (fun ls hl => ?_)
        refine lv_iinc (v := nI (i + 1)) (lv' := [(5, .int (nI (i + 1))), (3, .int (nI i)), (4, .int (nI (lwS h (soS h sc sp sn sm p) p i))), (6, .int (nI (lwS h (soS h sc sp sn sm p) p i))), (0, .ref h0), (1, .int (nI p)), (2, .int (nI (soS h sc sp sn sm p)))]) hx hb dX0_nameToAsk_54 hl (k := 6) rfl (show nI i + Int32.ofInt 1 = nI (i + 1) from nI_add _ _) (by decide) rfl (fun ls hl => ?_)
        refine lv_goto (tgt := 21) hx hb dX0_nameToAsk_57 (by decide) ?_
        exact ih21 (i + 1) (some i) (lwS h (soS h sc sp sn sm p) p i) (by omega) (by omega) (ht.trans (akS_t (by omega) (by omega))) (by omega) _ _ hP hD hS ls (lv_sub hl [4, 5, 6, 1, 2, 0] rfl)
    exact L21 _ 0 none 6 (by omega) (by omega) (by rw [asS, if_neg c7]; rfl) (Nat.lt_succ_self _) _ _ hP hD hS ls (lv_sub hl [4, 5, 3, 2, 1, 0] rfl)
  have c7 : (soS h sc sp sn sm p) = 0 := (nI_eq (a := (soS h sc sp sn sm p)) (b := 0) (by omega) (by omega)).mp c7
  refine lv_iconst (v := (-1)) hx hb dX0_nameToAsk_10 (by decide) ?_
  subst hQ
  have hP9 : va_P (dC, dI0) vwCl [(h0, .inr (0, [.ref a1, .ref a2, .ref a3, .ref a4, .int (nI n), .int (nI dr), .int (nI sc), .ref a5, .ref a6, .ref a7])), (a1, .inl (cI, 7, .inl kA)), (a2, .inl (cI, 7, .inl hsA)), (a3, .inl (cI, 7, .inl dA)), (a4, .inl (cI, 7, .inl bA)), (a5, .inl (cI, 6, .inl pA)), (a6, .inl (cI, 6, .inl nA)), (a7, .inl (cZ, 6, .inl mA))] H := hP
  have hD9 : va_D A [(h0, .inr (0, [.ref a1, .ref a2, .ref a3, .ref a4, .int (nI n), .int (nI dr), .int (nI sc), .ref a5, .ref a6, .ref a7])), (a1, .inl (cI, 7, .inl kA)), (a2, .inl (cI, 7, .inl hsA)), (a3, .inl (cI, 7, .inl dA)), (a4, .inl (cI, 7, .inl bA)), (a5, .inl (cI, 6, .inl pA)), (a6, .inl (cI, 6, .inl nA)), (a7, .inl (cZ, 6, .inl mA))] := hD
  exact W.iret (v := (-1)) hx hb hr (fun t9 ht9 hW9 => ⟨⟨(-1), (), rfl, by rw [asS, if_pos c7]; rfl, by rw [ht9]; exact hP9, va_K.moved hW9.alike hK, hD9⟩, hS.F ht9⟩) hS.2.2 dX0_nameToAsk_11
