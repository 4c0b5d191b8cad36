set_option maxHeartbeats 4000000 in
set_option maxRecDepth 100000 in
theorem KJ0_isLatin1_aae02 (l : Launch) (dC : Nat → ClassId) (dI0 : Nat → Nat → Nat) (cI cZ : ClassId) (sz : Nat) (sk sv : Nat) : Met l yJ0_isLatin1_aae02 wsJ0_isLatin1_aae02 ({ frames := 0, cells := 0, slots := 0, locals := 0 } : Room) (va_Pc [.ref sk] (fun U => U.heap.size = sz ∧ va_P (dC, dI0) vwCl (WE0 cI cZ ) U.heap ∧ va_K (dC, dI0) vwCl [(cI, .int), (cZ, .boolean)] U ∧ va_D (fun _ => True) (WE0 cI cZ ) ∧ STR sk sv (va_A (WE0 cI cZ ) sz) U U.heap)) (va_Qi (fun (r : Int32) (u : Unit) => r = bI true) (fun (u : Unit) (t : State) => va_P (dC, dI0) vwCl (WE0 cI cZ ) t.heap ∧ va_K (dC, dI0) vwCl [(cI, .int), (cZ, .boolean)] t ∧ va_D (va_A (WE0 cI cZ ) sz) (WE0 cI cZ )) (va_A (WE0 cI cZ ) sz)) 0 0 (va_A (WE0 cI cZ ) sz) := by
  refine Met.ofW (cc := cJ0_isLatin1_aae02) (maxL := 1) (ret := (some .boolean)) (by decide) rfl ?_
  intro prg env s m args below meth c s₁ B hml hv
  obtain ⟨rfl, hsz, hP, hK, hD0, hST⟩ := hv
  have hx := B.exec
  have hb := B.bytes
  have hr := B.returns
  have hts := atoms_spec (ws := wsJ0_isLatin1_aae02) B.pre
  have hown : s.vm.findClass RJ0 = some m.cls := findClass_of_methodNamed B.named
  have hlocks := B.notSynchronized
  subst hsz
  have hD := hD0.self (sz := s.heap.size)
  generalize hAe : va_A (WE0 cI cZ ) s.heap.size = A at hD hST ⊢
  have hA : ∀ q : Nat, s.heap.size ≤ q → A q := fun q h => by rw [← hAe]; exact Or.inr h
  have hS : va_S A s.heap s.heap [] := va_S.rf
  have hP : va_P (dC, dI0) vwCl [] s.heap := hP
  have hD : va_D A [] := hD
  have hl := lv_entry ([.ref sk]) (n := 1) (Nat.le_of_ble_eq_true rfl)
  rw [lg_entry_eq]
  generalize (lg_sl ([.ref sk]) ++ List.replicate (1 - (lg_sl ([.ref sk])).length) Slot.unset).toArray = ls at hl ⊢
  have hl : lv_has ls 1 [(0, .ref sk)] := hl
  obtain ⟨H, hH⟩ : ∃ H : Heap, H = s.heap := ⟨_, rfl⟩
  rw [← hH] at hP ⊢
  have hS : va_S A s.heap H [] := by rw [hH]; exact hS
  refine w_gen (fun Q hQ => ?_)
  have hf38 := hts (.fieldLink RJ0 38 "java/lang/String" "COMPACT_STRINGS" "Z") (by decide +kernel)
  have hf15 := hts (.fieldLink RJ0 15 "java/lang/String" "coder" "B") (by decide +kernel)
  refine va_gets hx hb hST.2.2.2.2.2 hS hown hf38 (fun _ h9 => h9) dJ0_isLatin1_aae02_0 ?_
  refine lv_if_eq (tgt := 17) hx hb dJ0_isLatin1_aae02_3 (by decide) (fun c3 => ?_) (fun c3 => ?_)
  ·
    have c3 : 1 = 0 := (nI_eq (a := 1) (b := 0) (by omega) (by omega)).mp c3
    exfalso
    omega
  have c3 : ¬ 1 = 0 := fun z => c3 ((nI_eq (a := 1) (b := 0) (by omega) (by omega)).mpr z)
  refine lv_aload_n hx hb dJ0_isLatin1_aae02_6 rfl (lv_at hl 0 rfl) ?_
  refine vk_getf hx hb hST.2.1 hS hown hf15 (fun _ h9 => h9) dJ0_isLatin1_aae02_7 ?_
  refine lv_if_ne (tgt := 17) hx hb dJ0_isLatin1_aae02_10 (by decide) (fun c10 => ?_) (fun c10 => ?_)
  ·
    have c10 : ¬ 0 = 0 := fun z => c10 ((nI_eq (a := 0) (b := 0) (by omega) (by omega)).mpr z)
    exfalso
    omega
  have c10 : 0 = 0 := (nI_eq (a := 0) (b := 0) (by omega) (by omega)).mp c10
  refine lv_iconst (v := nI 1) hx hb dJ0_isLatin1_aae02_13 (by decide) ?_
  refine lv_goto (tgt := 18) hx hb dJ0_isLatin1_aae02_14 (by decide) ?_
  subst hQ
  have hP9 : va_P (dC, dI0) vwCl [] H := hP
  have hD9 : va_D A [] := hD
  exact W.zret (v := nI 1) hx hb hr (nar_z true) (fun t9 ht9 hW9 => ⟨⟨nI 1, (), rfl, rfl, by rw [ht9]; exact hP9, va_K.moved hW9.alike hK, hD9⟩, hS.F ht9⟩) hS.2.2 dJ0_isLatin1_aae02_18

set_option maxHeartbeats 4000000 in
set_option maxRecDepth 100000 in
theorem KJ0_coder_7d493 (l : Launch) (dC : Nat → ClassId) (dI0 : Nat → Nat → Nat) (cI cZ : ClassId) (sz : Nat) (sk sv : Nat) : Met l yJ0_coder_7d493 wsJ0_coder_7d493 ({ frames := 0, cells := 0, slots := 0, locals := 0 } : Room) (va_Pc [.ref sk] (fun U => U.heap.size = sz ∧ va_P (dC, dI0) vwCl (WE0 cI cZ ) U.heap ∧ va_K (dC, dI0) vwCl [(cI, .int), (cZ, .boolean)] U ∧ va_D (fun _ => True) (WE0 cI cZ ) ∧ STR sk sv (va_A (WE0 cI cZ ) sz) U U.heap)) (va_Qi (fun (r : Int32) (u : Unit) => r = nI 0) (fun (u : Unit) (t : State) => va_P (dC, dI0) vwCl (WE0 cI cZ ) t.heap ∧ va_K (dC, dI0) vwCl [(cI, .int), (cZ, .boolean)] t ∧ va_D (va_A (WE0 cI cZ ) sz) (WE0 cI cZ )) (va_A (WE0 cI cZ ) sz)) 0 0 (va_A (WE0 cI cZ ) sz) := by
  refine Met.ofW (cc := cJ0_coder_7d493) (maxL := 1) (ret := (some .byte)) (by decide) rfl ?_
  intro prg env s m args below meth c s₁ B hml hv
  obtain ⟨rfl, hsz, hP, hK, hD0, hST⟩ := hv
  have hx := B.exec
  have hb := B.bytes
  have hr := B.returns
  have hts := atoms_spec (ws := wsJ0_coder_7d493) B.pre
  have hown : s.vm.findClass RJ0 = some m.cls := findClass_of_methodNamed B.named
  have hlocks := B.notSynchronized
  subst hsz
  have hD := hD0.self (sz := s.heap.size)
  generalize hAe : va_A (WE0 cI cZ ) s.heap.size = A at hD hST ⊢
  have hA : ∀ q : Nat, s.heap.size ≤ q → A q := fun q h => by rw [← hAe]; exact Or.inr h
  have hS : va_S A s.heap s.heap [] := va_S.rf
  have hP : va_P (dC, dI0) vwCl [] s.heap := hP
  have hD : va_D A [] := hD
  have hl := lv_entry ([.ref sk]) (n := 1) (Nat.le_of_ble_eq_true rfl)
  rw [lg_entry_eq]
  generalize (lg_sl ([.ref sk]) ++ List.replicate (1 - (lg_sl ([.ref sk])).length) Slot.unset).toArray = ls at hl ⊢
  have hl : lv_has ls 1 [(0, .ref sk)] := hl
  obtain ⟨H, hH⟩ : ∃ H : Heap, H = s.heap := ⟨_, rfl⟩
  rw [← hH] at hP ⊢
  have hS : va_S A s.heap H [] := by rw [hH]; exact hS
  refine w_gen (fun Q hQ => ?_)
  have hf38 := hts (.fieldLink RJ0 38 "java/lang/String" "COMPACT_STRINGS" "Z") (by decide +kernel)
  have hf15 := hts (.fieldLink RJ0 15 "java/lang/String" "coder" "B") (by decide +kernel)
  refine va_gets hx hb hST.2.2.2.2.2 hS hown hf38 (fun _ h9 => h9) dJ0_coder_7d493_0 ?_
  refine lv_if_eq (tgt := 13) hx hb dJ0_coder_7d493_3 (by decide) (fun c3 => ?_) (fun c3 => ?_)
  ·
    have c3 : 1 = 0 := (nI_eq (a := 1) (b := 0) (by omega) (by omega)).mp c3
    exfalso
    omega
  have c3 : ¬ 1 = 0 := fun z => c3 ((nI_eq (a := 1) (b := 0) (by omega) (by omega)).mpr z)
  refine lv_aload_n hx hb dJ0_coder_7d493_6 rfl (lv_at hl 0 rfl) ?_
  refine vk_getf hx hb hST.2.1 hS hown hf15 (fun _ h9 => h9) dJ0_coder_7d493_7 ?_
  refine lv_goto (tgt := 14) hx hb dJ0_coder_7d493_10 (by decide) ?_
  subst hQ
  have hP9 : va_P (dC, dI0) vwCl [] H := hP
  have hD9 : va_D A [] := hD
  exact W.zret (v := nI 0) hx hb hr (by decide) (fun t9 ht9 hW9 => ⟨⟨nI 0, (), rfl, rfl, by rw [ht9]; exact hP9, va_K.moved hW9.alike hK, hD9⟩, hS.F ht9⟩) hS.2.2 dJ0_coder_7d493_14

set_option maxHeartbeats 4000000 in
set_option maxRecDepth 100000 in
theorem KJ0_length_8abf5 (l : Launch) (dC : Nat → ClassId) (dI0 : Nat → Nat → Nat) (cI cZ : ClassId) (sz : Nat) (sk sv : Nat) : Met l yJ0_length_8abf5 wsJ0_length_8abf5 ({ frames := 1, cells := 0, slots := 0, locals := 20 } : Room) (va_Pc [.ref sk] (fun U => U.heap.size = sz ∧ va_P (dC, dI0) vwCl (WE0 cI cZ ) U.heap ∧ va_K (dC, dI0) vwCl [(cI, .int), (cZ, .boolean)] U ∧ va_D (fun _ => True) (WE0 cI cZ ) ∧ STR sk sv (va_A (WE0 cI cZ ) sz) U U.heap)) (va_Qi (fun (r : Int32) (u : Unit) => r = nI 5) (fun (u : Unit) (t : State) => va_P (dC, dI0) vwCl (WE0 cI cZ ) t.heap ∧ va_K (dC, dI0) vwCl [(cI, .int), (cZ, .boolean)] t ∧ va_D (va_A (WE0 cI cZ ) sz) (WE0 cI cZ )) (va_A (WE0 cI cZ ) sz)) 0 0 (va_A (WE0 cI cZ ) sz) := by
  refine Met.ofW (cc := cJ0_length_8abf5) (maxL := 1) (ret := (some .int)) (by decide) rfl ?_
  intro prg env s m args below meth c s₁ B hml hv
  obtain ⟨rfl, hsz, hP, hK, hD0, hST⟩ := hv
  have hx := B.exec
  have hb := B.bytes
  have hr := B.returns
  have hts := atoms_spec (ws := wsJ0_length_8abf5) B.pre
  have hown : s.vm.findClass RJ0 = some m.cls := findClass_of_methodNamed B.named
  have hlocks := B.notSynchronized
  subst hsz
  have hD := hD0.self (sz := s.heap.size)
  generalize hAe : va_A (WE0 cI cZ ) s.heap.size = A at hD hST ⊢
  have hA : ∀ q : Nat, s.heap.size ≤ q → A q := fun q h => by rw [← hAe]; exact Or.inr h
  have hS : va_S A s.heap s.heap [] := va_S.rf
  have hP : va_P (dC, dI0) vwCl [] s.heap := hP
  have hD : va_D A [] := hD
  have hl := lv_entry ([.ref sk]) (n := 1) (Nat.le_of_ble_eq_true rfl)
  rw [lg_entry_eq]
  generalize (lg_sl ([.ref sk]) ++ List.replicate (1 - (lg_sl ([.ref sk])).length) Slot.unset).toArray = ls at hl ⊢
  have hl : lv_has ls 1 [(0, .ref sk)] := hl
  obtain ⟨H, hH⟩ : ∃ H : Heap, H = s.heap := ⟨_, rfl⟩
  rw [← hH] at hP ⊢
  have hS : va_S A s.heap H [] := by rw [hH]; exact hS
  refine w_gen (fun Q hQ => ?_)
  have hf9 := hts (.fieldLink RJ0 9 "java/lang/String" "value" "[B") (by decide +kernel)
  refine lv_aload_n hx hb dJ0_length_8abf5_0 rfl (lv_at hl 0 rfl) ?_
  refine vk_getf hx hb hST.2.2.1 hS hown hf9 (fun _ h9 => h9) dJ0_length_8abf5_1 ?_
  refine va_tlen hx hb hST.2.2.2.1 hS (v := nI 5) rfl dJ0_length_8abf5_4 ?_
  refine lv_aload_n hx hb dJ0_length_8abf5_5 rfl (lv_at hl 0 rfl) ?_
  have hPc := hP.sub (ws' := []) [] rfl
  have hDc := hD.sub (ws' := []) [] (by decide) rfl
  have hFc := va_free (wc := []) hD hS hA [] rfl
  refine va_calli (va_runV (As := []) (rest := [.int (nI 5)]) ⟨hx, hb, hml, hown, hts⟩ (KJ0_coder_7d493 l dC dI0 cI cZ  H.size sk sv ) (cwV 0 hts gJ0_length_8abf5_J0_coder_7d493 rfl rfl rfl (by decide +kernel) ⟨Nat.le_of_ble_eq_true rfl, Nat.le_of_ble_eq_true rfl⟩) ⟨fun a U g mk q => by obtain ⟨q0, q1, qP, qK, qD, qT⟩ := q; exact ⟨q0, q1, qP, va_K.moved (u := U) (U := U.calling g mk a) (Vm.Alike.refl U.vm) qK, qD, qT.call g mk a⟩, hST.recv hS, fun U hU hW => ⟨rfl, by rw [hU], by rw [hU]; exact hPc, va_K.moved hW.alike hK, hDc.weaken (fun _ _ _ _ => trivial), hST.to hS hFc hU hW⟩⟩ rfl rfl hl.1 rfl (lv_room (Nat.le_of_ble_eq_true rfl)) dJ0_length_8abf5_6 ⟨Nat.le_of_ble_eq_true rfl, Nat.le_of_ble_eq_true rfl⟩) hS (fun q _ h => hFc q h) hFc (fun r6 u6 t7 H1 locs ht7 hvm7 hw6 hB hz1 hk1 hS => ?_)
  obtain ⟨hP1, hK1, hD1⟩ := hB
  rw [ht7] at hP1
  try dsimp only at hw6 hP1 hD1
  obtain ⟨hP, hD⟩ := va_join (wr := []) (w1 := []) hP hD [] [] rfl rfl (by decide) (by decide) hk1 hFc hP1 hD1
  generalize H1 = H at hP hS ⊢
  have hP := hP.sub (ws' := []) [] rfl
  have hD := hD.sub (ws' := []) [] (by decide) rfl
  obtain rfl : r6 = nI 0 := hw6
  refine lv_ishr hx hb dJ0_length_8abf5_9 ?_
  refine lv_topi (fun x9 e9 => ?_)
  obtain rfl : x9 = nI 5 := e9.trans (by decide)
  subst hQ
  have hP9 : va_P (dC, dI0) vwCl [] H := hP
  have hD9 : va_D A [] := hD
  exact W.iret (v := nI 5) hx hb hr (fun t9 ht9 hW9 => ⟨⟨nI 5, (), rfl, rfl, by rw [ht9]; exact hP9, va_K.moved hW9.alike hK, hD9⟩, hS.F ht9⟩) hS.2.2 dJ0_length_8abf5_10

set_option maxHeartbeats 4000000 in
set_option maxRecDepth 100000 in
theorem KJ1_canEncode_9a6ad (l : Launch) (dC : Nat → ClassId) (dI0 : Nat → Nat → Nat) (cI cZ : ClassId) (sz : Nat) (x : Nat) (hx8 : x < 128) : Met l yJ1_canEncode_9a6ad wsJ1_canEncode_9a6ad ({ frames := 0, cells := 0, slots := 0, locals := 0 } : Room) (va_Pc [.int (nI x)] (fun U => U.heap.size = sz ∧ va_P (dC, dI0) vwCl (WE0 cI cZ ) U.heap ∧ va_K (dC, dI0) vwCl [(cI, .int), (cZ, .boolean)] U ∧ va_D (fun _ => True) (WE0 cI cZ ))) (va_Qi (fun (r : Int32) (u : Unit) => r = bI true) (fun (u : Unit) (t : State) => va_P (dC, dI0) vwCl (WE0 cI cZ ) t.heap ∧ va_K (dC, dI0) vwCl [(cI, .int), (cZ, .boolean)] t ∧ va_D (va_A (WE0 cI cZ ) sz) (WE0 cI cZ )) (va_A (WE0 cI cZ ) sz)) 0 0 (va_A (WE0 cI cZ ) sz) := by
  refine Met.ofW (cc := cJ1_canEncode_9a6ad) (maxL := 1) (ret := (some .boolean)) (by decide) rfl ?_
  intro prg env s m args below meth c s₁ B hml hv
  obtain ⟨rfl, hsz, hP, hK, hD0⟩ := hv
  have hx := B.exec
  have hb := B.bytes
  have hr := B.returns
  have hts := atoms_spec (ws := wsJ1_canEncode_9a6ad) B.pre
  have hown : s.vm.findClass RJ1 = some m.cls := findClass_of_methodNamed B.named
  have hlocks := B.notSynchronized
  subst hsz
  have hD := hD0.self (sz := s.heap.size)
  generalize hAe : va_A (WE0 cI cZ ) s.heap.size = A at hD ⊢
  have hA : ∀ q : Nat, s.heap.size ≤ q → A q := fun q h => by rw [← hAe]; exact Or.inr h
  have hS : va_S A s.heap s.heap [] := va_S.rf
  have hP : va_P (dC, dI0) vwCl [] s.heap := hP
  have hD : va_D A [] := hD
  have hl := lv_entry ([.int (nI x)]) (n := 1) (Nat.le_of_ble_eq_true rfl)
  rw [lg_entry_eq]
  generalize (lg_sl ([.int (nI x)]) ++ List.replicate (1 - (lg_sl ([.int (nI x)])).length) Slot.unset).toArray = ls at hl ⊢
  have hl : lv_has ls 1 [(0, .int (nI x))] := hl
  obtain ⟨H, hH⟩ : ∃ H : Heap, H = s.heap := ⟨_, rfl⟩
  rw [← hH] at hP ⊢
  have hS : va_S A s.heap H [] := by rw [hH]; exact hS
  refine w_gen (fun Q hQ => ?_)
  refine lv_iload_n hx hb dJ1_canEncode_9a6ad_0 rfl (lv_at hl 0 rfl) ?_
  refine lv_if_lt (tgt := 15) hx hb dJ1_canEncode_9a6ad_1 (by decide) (fun c1 => ?_) (fun c1 => ?_)
  ·
    have c1 : x < 0 := (nI_ltI (a := x) (b := 0) (by omega) (by omega)).mp c1
    exfalso
    omega
  have c1 : ¬ x < 0 := fun z => c1 ((nI_ltI (a := x) (b := 0) (by omega) (by omega)).mpr z)
  refine lv_iload_n hx hb dJ1_canEncode_9a6ad_4 rfl (lv_at hl 0 rfl) ?_
  refine lv_sipush (v := nI 255) hx hb dJ1_canEncode_9a6ad_5 (by decide) ?_
  refine lv_icmp_gt (tgt := 15) hx hb dJ1_canEncode_9a6ad_8 (by decide) (fun c8 => ?_) (fun c8 => ?_)
  ·
    have c8 : 255 < x := (nI_ltI (a := 255) (b := x) (by omega) (by omega)).mp c8
    exfalso
    omega
  have c8 : ¬ 255 < x := fun z => c8 ((nI_ltI (a := 255) (b := x) (by omega) (by omega)).mpr z)
  refine lv_iconst (v := nI 1) hx hb dJ1_canEncode_9a6ad_11 (by decide) ?_
  refine lv_goto (tgt := 16) hx hb dJ1_canEncode_9a6ad_12 (by decide) ?_
  subst hQ
  have hP9 : va_P (dC, dI0) vwCl [] H := hP
  have hD9 : va_D A [] := hD
  exact W.zret (v := nI 1) hx hb hr (nar_z true) (fun t9 ht9 hW9 => ⟨⟨nI 1, (), rfl, rfl, by rw [ht9]; exact hP9, va_K.moved hW9.alike hK, hD9⟩, hS.F ht9⟩) hS.2.2 dJ1_canEncode_9a6ad_16

set_option maxHeartbeats 4000000 in
set_option maxRecDepth 100000 in
theorem KJ1_indexOfChar_4cfef (l : Launch) (dC : Nat → ClassId) (dI0 : Nat → Nat → Nat) (cI cZ : ClassId) (sz : Nat) (sk sv : Nat) (x : Nat) (f0 : Nat) (t0 : Nat) (hx8 : x < 128) (hf0 : f0 = 0) (ht0 : t0 = 5) : Met l yJ1_indexOfChar_4cfef wsJ1_indexOfChar_4cfef ({ frames := 0, cells := 0, slots := 0, locals := 0 } : Room) (va_Pc [.ref sv, .int (nI x), .int (nI f0), .int (nI t0)] (fun U => U.heap.size = sz ∧ va_P (dC, dI0) vwCl (WE0 cI cZ ) U.heap ∧ va_K (dC, dI0) vwCl [(cI, .int), (cZ, .boolean)] U ∧ va_D (fun _ => True) (WE0 cI cZ ) ∧ STR sk sv (va_A (WE0 cI cZ ) sz) U U.heap)) (va_Qi (fun (r : Int32) (u : Unit) => r = dI (kcS x)) (fun (u : Unit) (t : State) => va_P (dC, dI0) vwCl (WE0 cI cZ ) t.heap ∧ va_K (dC, dI0) vwCl [(cI, .int), (cZ, .boolean)] t ∧ va_D (va_A (WE0 cI cZ ) sz) (WE0 cI cZ )) (va_A (WE0 cI cZ ) sz)) 0 0 (va_A (WE0 cI cZ ) sz) := by
  refine Met.ofW (cc := cJ1_indexOfChar_4cfef) (maxL := 6) (ret := (some .int)) (by decide) rfl ?_
  intro prg env s m args below meth c s₁ B hml hv
  obtain ⟨rfl, hsz, hP, hK, hD0, hST⟩ := hv
  have hx := B.exec
  have hb := B.bytes
  have hr := B.returns
  have hts := atoms_spec (ws := wsJ1_indexOfChar_4cfef) B.pre
  have hown : s.vm.findClass RJ1 = some m.cls := findClass_of_methodNamed B.named
  have hlocks := B.notSynchronized
  subst hsz
  have hD := hD0.self (sz := s.heap.size)
  generalize hAe : va_A (WE0 cI cZ ) s.heap.size = A at hD hST ⊢
  have hA : ∀ q : Nat, s.heap.size ≤ q → A q := fun q h => by rw [← hAe]; exact Or.inr h
  have hS : va_S A s.heap s.heap [] := va_S.rf
  have hP : va_P (dC, dI0) vwCl [] s.heap := hP
  have hD : va_D A [] := hD
  have hl := lv_entry ([.ref sv, .int (nI x), .int (nI f0), .int (nI t0)]) (n := 6) (Nat.le_of_ble_eq_true rfl)
  rw [lg_entry_eq]
  generalize (lg_sl ([.ref sv, .int (nI x), .int (nI f0), .int (nI t0)]) ++ List.replicate (6 - (lg_sl ([.ref sv, .int (nI x), .int (nI f0), .int (nI t0)])).length) Slot.unset).toArray = ls at hl ⊢
  have hl : lv_has ls 6 [(0, .ref sv), (1, .int (nI x)), (2, .int (nI f0)), (3, .int (nI t0))] := hl
  obtain ⟨H, hH⟩ : ∃ H : Heap, H = s.heap := ⟨_, rfl⟩
  rw [← hH] at hP ⊢
  have hS : va_S A s.heap H [] := by rw [hH]; exact hS
  refine w_gen (fun Q hQ => ?_)
  refine lv_iload_n hx hb dJ1_indexOfChar_4cfef_0 rfl (lv_at hl 1 rfl) ?_
  refine lv_i2b hx hb dJ1_indexOfChar_4cfef_1 rfl ?_
  refine lv_topi (fun x1 e1 => ?_)
  obtain rfl : x1 = nI x := e1.trans (i2b_nI hx8)
  refine lv_istore (lv' := [(4, .int (nI x)), (0, .ref sv), (1, .int (nI x)), (2, .int (nI f0)), (3, .int (nI t0))]) hx hb dJ1_indexOfChar_4cfef_2 hl (by decide) rfl (fun ls hl => ?_)
  refine lv_iload_n hx hb dJ1_indexOfChar_4cfef_4 rfl (lv_at hl 3 rfl) ?_
  refine lv_istore (lv' := [(5, .int (nI f0)), (4, .int (nI x)), (0, .ref sv), (1, .int (nI x)), (2, .int (nI f0)), (3, .int (nI t0))]) hx hb dJ1_indexOfChar_4cfef_5 hl (by decide) rfl (fun ls hl => ?_)
  have L7 : ∀ (fu : Nat) (i : Nat), i ≤ 5 → kcS x = fF (fun j => decide (pkn j = x)) (5 - i) i → 5 - i < fu → ∀ (H : Heap) (locs : List Loc), va_P (dC, dI0) vwCl [] H → va_D A [] → va_S A s.heap H locs → ∀ (ls : Array Slot), lv_has ls 6 [(0, .ref sv), (1, .int (nI x)), (2, .int (nI f0)), (3, .int (nI t0)), (4, .int (nI x)), (5, .int (nI i))] → W prg l env ({ frames := 0, cells := 0, slots := 0, locals := 0 } : Room) s m ([.ref sv, .int (nI x), .int (nI f0), .int (nI t0)] : List Value).toArray below meth c H locs 0 0 Q (F0 m 7 ls []) := by
    intro fu
    induction fu with
    | zero => intro i hi ht hmu; exact absurd hmu (Nat.not_lt_zero _)
    | succ fu ih7 =>
      intro i hi ht hmu7 H locs hP hD hS ls hl
      have hpk := pkn_lt i
      refine lv_iload hx hb dJ1_indexOfChar_4cfef_7 (lv_at hl 5 rfl) ?_
      refine lv_iload_n hx hb dJ1_indexOfChar_4cfef_9 rfl (lv_at hl 3 rfl) ?_
      refine lv_icmp_ge (tgt := 31) hx hb dJ1_indexOfChar_4cfef_10 (by decide) (fun c10 => ?_) (fun c10 => ?_)
      ·
        have c10 : t0 ≤ i := (nI_leI (a := t0) (b := i) (by omega) (by omega)).mp c10
        refine lv_iconst (v := (-1)) hx hb dJ1_indexOfChar_4cfef_31 (by decide) ?_
        subst hQ
        have hP9 : va_P (dC, dI0) vwCl [] H := hP
        have hD9 : va_D A [] := hD
        exact W.iret (v := (-1)) hx hb hr (fun t9 ht9 hW9 => ⟨⟨(-1), (), rfl, by rw [ht, fF_e (by omega)]; rfl, by rw [ht9]; exact hP9, va_K.moved hW9.alike hK, hD9⟩, hS.F ht9⟩) hS.2.2 dJ1_indexOfChar_4cfef_32
      have c10 : ¬ t0 ≤ i := fun z => c10 ((nI_leI (a := t0) (b := i) (by omega) (by omega)).mpr z)
      refine lv_aload_n hx hb dJ1_indexOfChar_4cfef_13 rfl (lv_at hl 0 rfl) ?_
      refine lv_iload hx hb dJ1_indexOfChar_4cfef_14 (lv_at hl 5 rfl) ?_
      refine va_tb hx hb hST.2.2.2.1 hS (vp_in_nI (by omega) (by decide)) (v := .int (nI (pkn i))) (by rw [nI_clamp (by omega)]) dJ1_indexOfChar_4cfef_16 ?_
      refine lv_iload hx hb dJ1_indexOfChar_4cfef_17 (lv_at hl 4 rfl) ?_
      refine lv_icmp_ne (tgt := 25) hx hb dJ1_indexOfChar_4cfef_19 (by decide) (fun c19 => ?_) (fun c19 => ?_)
      ·
        have c19 : ¬ (pkn i) = x := fun z => c19 ((nI_eq (a := (pkn i)) (b := x) (by omega) (by omega)).mpr z)
        refine lv_iinc (v := nI (i + 1)) (lv' := [(5, .int (nI (i + 1))), (0, .ref sv), (1, .int (nI x)), (2, .int (nI f0)), (3, .int (nI t0)), (4, .int (nI x))]) hx hb dJ1_indexOfChar_4cfef_25 hl (k := 5) rfl (show nI i + Int32.ofInt 1 = nI (i + 1) from nI_add _ _) (by decide) rfl (fun ls hl => ?_)
        refine lv_goto (tgt := 7) hx hb dJ1_indexOfChar_4cfef_28 (by decide) ?_
        exact ih7 (i + 1) (by omega) (ht.trans (fF_f (by omega) (decide_eq_false c19))) (by omega) _ _ hP hD hS ls (lv_sub hl [1, 2, 3, 4, 5, 0] rfl)
      have c19 : (pkn i) = x := (nI_eq (a := (pkn i)) (b := x) (by omega) (by omega)).mp c19
      refine lv_iload hx hb dJ1_indexOfChar_4cfef_22 (lv_at hl 5 rfl) ?_
      subst hQ
      have hP9 : va_P (dC, dI0) vwCl [] H := hP
      have hD9 : va_D A [] := hD
      exact W.iret (v := nI i) hx hb hr (fun t9 ht9 hW9 => ⟨⟨nI i, (), rfl, by rw [ht, fF_t (by omega) (decide_eq_true c19)]; rfl, by rw [ht9]; exact hP9, va_K.moved hW9.alike hK, hD9⟩, hS.F ht9⟩) hS.2.2 dJ1_indexOfChar_4cfef_24
  exact L7 _ f0 (by omega) (by rw [hf0]; rfl) (Nat.lt_succ_self _) _ _ hP hD hS ls (lv_sub hl [2, 3, 4, 5, 1, 0] rfl)

set_option maxHeartbeats 4000000 in
set_option maxRecDepth 100000 in
theorem KJ1_indexOf_4cfef (l : Launch) (dC : Nat → ClassId) (dI0 : Nat → Nat → Nat) (cI cZ : ClassId) (sz : Nat) (sk sv : Nat) (x : Nat) (f0 : Nat) (t0 : Nat) (hx8 : x < 128) (hf0 : f0 = 0) (ht0 : t0 = 5) : Met l yJ1_indexOf_4cfef wsJ1_indexOf_4cfef ({ frames := 1, cells := 0, slots := 0, locals := 25 } : Room) (va_Pc [.ref sv, .int (nI x), .int (nI f0), .int (nI t0)] (fun U => U.heap.size = sz ∧ va_P (dC, dI0) vwCl (WE0 cI cZ ) U.heap ∧ va_K (dC, dI0) vwCl [(cI, .int), (cZ, .boolean)] U ∧ va_D (fun _ => True) (WE0 cI cZ ) ∧ STR sk sv (va_A (WE0 cI cZ ) sz) U U.heap)) (va_Qi (fun (r : Int32) (u : Unit) => r = dI (kcS x)) (fun (u : Unit) (t : State) => va_P (dC, dI0) vwCl (WE0 cI cZ ) t.heap ∧ va_K (dC, dI0) vwCl [(cI, .int), (cZ, .boolean)] t ∧ va_D (va_A (WE0 cI cZ ) sz) (WE0 cI cZ )) (va_A (WE0 cI cZ ) sz)) 0 0 (va_A (WE0 cI cZ ) sz) := by
  refine Met.ofW (cc := cJ1_indexOf_4cfef) (maxL := 4) (ret := (some .int)) (by decide) rfl ?_
  intro prg env s m args below meth c s₁ B hml hv
  obtain ⟨rfl, hsz, hP, hK, hD0, hST⟩ := hv
  have hx := B.exec
  have hb := B.bytes
  have hr := B.returns
  have hts := atoms_spec (ws := wsJ1_indexOf_4cfef) B.pre
  have hown : s.vm.findClass RJ1 = some m.cls := findClass_of_methodNamed B.named
  have hlocks := B.notSynchronized
  subst hsz
  have hD := hD0.self (sz := s.heap.size)
  generalize hAe : va_A (WE0 cI cZ ) s.heap.size = A at hD hST ⊢
  have hA : ∀ q : Nat, s.heap.size ≤ q → A q := fun q h => by rw [← hAe]; exact Or.inr h
  have hS : va_S A s.heap s.heap [] := va_S.rf
  have hP : va_P (dC, dI0) vwCl [] s.heap := hP
  have hD : va_D A [] := hD
  have hl := lv_entry ([.ref sv, .int (nI x), .int (nI f0), .int (nI t0)]) (n := 4) (Nat.le_of_ble_eq_true rfl)
  rw [lg_entry_eq]
  generalize (lg_sl ([.ref sv, .int (nI x), .int (nI f0), .int (nI t0)]) ++ List.replicate (4 - (lg_sl ([.ref sv, .int (nI x), .int (nI f0), .int (nI t0)])).length) Slot.unset).toArray = ls at hl ⊢
  have hl : lv_has ls 4 [(0, .ref sv), (1, .int (nI x)), (2, .int (nI f0)), (3, .int (nI t0))] := hl
  obtain ⟨H, hH⟩ : ∃ H : Heap, H = s.heap := ⟨_, rfl⟩
  rw [← hH] at hP ⊢
  have hS : va_S A s.heap H [] := by rw [hH]; exact hS
  refine w_gen (fun Q hQ => ?_)
  have hmmax1 := hts (.methodLink RJ1 92 Lib.Math.max.name) (by decide +kernel)
  have hmmax2 := hts (.static Lib.Math.max.name) (by decide +kernel)
  have hm3 := hts (.initialized "java/lang/Math") (by decide +kernel)
  have hmmax4 := hts (.code Lib.Math.max.name Lib.Math.max.code 2 (some .int)) (by decide +kernel)
  have hmmin1 := hts (.methodLink RJ1 38 Lib.Math.min.name) (by decide +kernel)
  have hmmin2 := hts (.static Lib.Math.min.name) (by decide +kernel)
  have hmmin4 := hts (.code Lib.Math.min.name Lib.Math.min.code 2 (some .int)) (by decide +kernel)
  refine lv_iload_n hx hb dJ1_indexOf_4cfef_0 rfl (lv_at hl 1 rfl) ?_
  have hPc := hP.sub (ws' := []) [] rfl
  have hDc := hD.sub (ws' := []) [] (by decide) rfl
  have hFc := va_free (wc := []) hD hS hA [] rfl
  refine va_calli (va_runS (As := [.int (nI x)]) (rest := []) ⟨hx, hb, hml, hown, hts⟩ (KJ1_canEncode_9a6ad l dC dI0 cI cZ  H.size x (by first | assumption | omega)) (va_cwS 1 hts gJ1_indexOf_4cfef_J1_canEncode_9a6ad rfl rfl rfl (by decide +kernel) ⟨Nat.le_of_ble_eq_true rfl, Nat.le_of_ble_eq_true rfl⟩) ⟨fun a U g mk q => by obtain ⟨q0, q1, qP, qK, qD⟩ := q; exact ⟨q0, q1, qP, va_K.moved (u := U) (U := U.calling g mk a) (Vm.Alike.refl U.vm) qK, qD⟩, fun U hU hW => ⟨rfl, by rw [hU], by rw [hU]; exact hPc, va_K.moved hW.alike hK, hDc.weaken (fun _ _ _ _ => trivial)⟩⟩ rfl rfl hl.1 rfl (lv_room (Nat.le_of_ble_eq_true rfl)) dJ1_indexOf_4cfef_1 ⟨Nat.le_of_ble_eq_true rfl, Nat.le_of_ble_eq_true rfl⟩) hS (fun q _ h => hFc q h) hFc (fun r1 u1 t7 H1 locs ht7 hvm7 hw1 hB hz1 hk1 hS => ?_)
  obtain ⟨hP1, hK1, hD1⟩ := hB
  rw [ht7] at hP1
  try dsimp only at hw1 hP1 hD1
  obtain ⟨hP, hD⟩ := va_join (wr := []) (w1 := []) hP hD [] [] rfl rfl (by decide) (by decide) hk1 hFc hP1 hD1
  generalize H1 = H at hP hS ⊢
  have hP := hP.sub (ws' := []) [] rfl
  have hD := hD.sub (ws' := []) [] (by decide) rfl
  obtain rfl : r1 = bI true := hw1
  refine lv_if_ne (tgt := 9) hx hb dJ1_indexOf_4cfef_4 (by decide) (fun c4 => ?_) (fun c4 => ?_)
  ·
    have c4 : true = true := bI_n0 c4
    refine lv_iload_n hx hb dJ1_indexOf_4cfef_9 rfl (lv_at hl 2 rfl) ?_
    refine lv_iconst (v := nI 0) hx hb dJ1_indexOf_4cfef_10 (by decide) ?_
    refine va_mmax hx hb (by rw [hml]; exact hl.1.symm) hown hmmax1 hmmax2 hm3 hmmax4 (Nat.le_of_ble_eq_true rfl) (Nat.le_of_ble_eq_true rfl) (Nat.zero_le _) (Nat.zero_le _) dJ1_indexOf_4cfef_11 ?_
    refine lv_topi (fun x11 e11 => ?_)
    obtain rfl : x11 = nI (max f0 0) := e11.trans (max_nI (by omega) (by omega))
    refine lv_istore_n (lv' := [(2, .int (nI (max f0 0))), (0, .ref sv), (1, .int (nI x)), (3, .int (nI t0))]) hx hb dJ1_indexOf_4cfef_14 rfl hl (by decide) rfl (fun ls hl => ?_)
    refine lv_iload_n hx hb dJ1_indexOf_4cfef_15 rfl (lv_at hl 3 rfl) ?_
    refine lv_aload_n hx hb dJ1_indexOf_4cfef_16 rfl (lv_at hl 1 rfl) ?_
    refine va_tlen hx hb hST.2.2.2.1 hS (v := nI 5) rfl dJ1_indexOf_4cfef_17 ?_
    refine va_mmin hx hb (by rw [hml]; exact hl.1.symm) hown hmmin1 hmmin2 hm3 hmmin4 (Nat.le_of_ble_eq_true rfl) (Nat.le_of_ble_eq_true rfl) (Nat.zero_le _) (Nat.zero_le _) dJ1_indexOf_4cfef_18 ?_
    refine lv_topi (fun x18 e18 => ?_)
    obtain rfl : x18 = nI (min t0 5) := e18.trans (min_nI (by omega) (by omega))
    refine lv_istore_n (lv' := [(3, .int (nI (min t0 5))), (2, .int (nI (max f0 0))), (0, .ref sv), (1, .int (nI x))]) hx hb dJ1_indexOf_4cfef_21 rfl hl (by decide) rfl (fun ls hl => ?_)
    refine lv_iload_n hx hb dJ1_indexOf_4cfef_22 rfl (lv_at hl 1 rfl) ?_
    refine lv_iload_n hx hb dJ1_indexOf_4cfef_23 rfl (lv_at hl 0 rfl) ?_
    refine lv_icmp_lt (tgt := 29) hx hb dJ1_indexOf_4cfef_24 (by decide) (fun c24 => ?_) (fun c24 => ?_)
    ·
      have c24 : (max f0 0) < (min t0 5) := (nI_ltI (a := (max f0 0)) (b := (min t0 5)) (by omega) (by omega)).mp c24
      refine lv_aload_n hx hb dJ1_indexOf_4cfef_29 rfl (lv_at hl 2 rfl) ?_
      refine lv_iload_n hx hb dJ1_indexOf_4cfef_30 rfl (lv_at hl 3 rfl) ?_
      refine lv_iload_n hx hb dJ1_indexOf_4cfef_31 rfl (lv_at hl 1 rfl) ?_
      refine lv_iload_n hx hb dJ1_indexOf_4cfef_32 rfl (lv_at hl 0 rfl) ?_
      have hPc := hP.sub (ws' := []) [] rfl
      have hDc := hD.sub (ws' := []) [] (by decide) rfl
      have hFc := va_free (wc := []) hD hS hA [] rfl
      refine va_calli (va_runS (As := [.ref sv, .int (nI x), .int (nI (max f0 0)), .int (nI (min t0 5))]) (rest := []) ⟨hx, hb, hml, hown, hts⟩ (KJ1_indexOfChar_4cfef l dC dI0 cI cZ  H.size sk sv x (max f0 0) (min t0 5) (by first | assumption | omega) (by omega) (by omega)) (va_cwS 4 hts gJ1_indexOf_4cfef_J1_indexOfChar_4cfef rfl rfl rfl (by decide +kernel) ⟨Nat.le_of_ble_eq_true rfl, Nat.le_of_ble_eq_true rfl⟩) ⟨fun a U g mk q => by obtain ⟨q0, q1, qP, qK, qD, qT⟩ := q; exact ⟨q0, q1, qP, va_K.moved (u := U) (U := U.calling g mk a) (Vm.Alike.refl U.vm) qK, qD, qT.call g mk a⟩, fun U hU hW => ⟨rfl, by rw [hU], by rw [hU]; exact hPc, va_K.moved hW.alike hK, hDc.weaken (fun _ _ _ _ => trivial), hST.to hS hFc hU hW⟩⟩ rfl rfl hl.1 rfl (lv_room (Nat.le_of_ble_eq_true rfl)) dJ1_indexOf_4cfef_33 ⟨Nat.le_of_ble_eq_true rfl, Nat.le_of_ble_eq_true rfl⟩) hS (fun q _ h => hFc q h) hFc (fun r33 u33 t7 H1 locs ht7 hvm7 hw33 hB hz1 hk1 hS => ?_)
      obtain ⟨hP1, hK1, hD1⟩ := hB
      rw [ht7] at hP1
      try dsimp only at hw33 hP1 hD1
      obtain ⟨hP, hD⟩ := va_join (wr := []) (w1 := []) hP hD [] [] rfl rfl (by decide) (by decide) hk1 hFc hP1 hD1
      generalize H1 = H at hP hS ⊢
      have hP := hP.sub (ws' := []) [] rfl
      have hD := hD.sub (ws' := []) [] (by decide) rfl
      obtain rfl : r33 = dI (kcS x) := hw33
      subst hQ
      have hP9 : va_P (dC, dI0) vwCl [] H := hP
      have hD9 : va_D A [] := hD
      exact W.iret (v := dI (kcS x)) hx hb hr (fun t9 ht9 hW9 => ⟨⟨dI (kcS x), (), rfl, rfl, by rw [ht9]; exact hP9, va_K.moved hW9.alike hK, hD9⟩, hS.F ht9⟩) hS.2.2 dJ1_indexOf_4cfef_36
    have c24 : ¬ (max f0 0) < (min t0 5) := fun z => c24 ((nI_ltI (a := (max f0 0)) (b := (min t0 5)) (by omega) (by omega)).mpr z)
    exfalso
    omega
  have c4 : true = false := bI_0 c4
  exfalso
  exact absurd c4 (by decide)

set_option maxHeartbeats 4000000 in
set_option maxRecDepth 100000 in
theorem KJ0_indexOf_7cf53 (l : Launch) (dC : Nat → ClassId) (dI0 : Nat → Nat → Nat) (cI cZ : ClassId) (sz : Nat) (sk sv : Nat) (x : Nat) (f0 : Nat) (hx8 : x < 128) (hf0 : f0 = 0) : Met l yJ0_indexOf_7cf53 wsJ0_indexOf_7cf53 ({ frames := 2, cells := 0, slots := 0, locals := 48 } : Room) (va_Pc [.ref sk, .int (nI x), .int (nI f0)] (fun U => U.heap.size = sz ∧ va_P (dC, dI0) vwCl (WE0 cI cZ ) U.heap ∧ va_K (dC, dI0) vwCl [(cI, .int), (cZ, .boolean)] U ∧ va_D (fun _ => True) (WE0 cI cZ ) ∧ STR sk sv (va_A (WE0 cI cZ ) sz) U U.heap)) (va_Qi (fun (r : Int32) (u : Unit) => r = dI (kcS x)) (fun (u : Unit) (t : State) => va_P (dC, dI0) vwCl (WE0 cI cZ ) t.heap ∧ va_K (dC, dI0) vwCl [(cI, .int), (cZ, .boolean)] t ∧ va_D (va_A (WE0 cI cZ ) sz) (WE0 cI cZ )) (va_A (WE0 cI cZ ) sz)) 0 0 (va_A (WE0 cI cZ ) sz) := by
  refine Met.ofW (cc := cJ0_indexOf_7cf53) (maxL := 3) (ret := (some .int)) (by decide) rfl ?_
  intro prg env s m args below meth c s₁ B hml hv
  obtain ⟨rfl, hsz, hP, hK, hD0, hST⟩ := hv
  have hx := B.exec
  have hb := B.bytes
  have hr := B.returns
  have hts := atoms_spec (ws := wsJ0_indexOf_7cf53) B.pre
  have hown : s.vm.findClass RJ0 = some m.cls := findClass_of_methodNamed B.named
  have hlocks := B.notSynchronized
  subst hsz
  have hD := hD0.self (sz := s.heap.size)
  generalize hAe : va_A (WE0 cI cZ ) s.heap.size = A at hD hST ⊢
  have hA : ∀ q : Nat, s.heap.size ≤ q → A q := fun q h => by rw [← hAe]; exact Or.inr h
  have hS : va_S A s.heap s.heap [] := va_S.rf
  have hP : va_P (dC, dI0) vwCl [] s.heap := hP
  have hD : va_D A [] := hD
  have hl := lv_entry ([.ref sk, .int (nI x), .int (nI f0)]) (n := 3) (Nat.le_of_ble_eq_true rfl)
  rw [lg_entry_eq]
  generalize (lg_sl ([.ref sk, .int (nI x), .int (nI f0)]) ++ List.replicate (3 - (lg_sl ([.ref sk, .int (nI x), .int (nI f0)])).length) Slot.unset).toArray = ls at hl ⊢
  have hl : lv_has ls 3 [(0, .ref sk), (1, .int (nI x)), (2, .int (nI f0))] := hl
  obtain ⟨H, hH⟩ : ∃ H : Heap, H = s.heap := ⟨_, rfl⟩
  rw [← hH] at hP ⊢
  have hS : va_S A s.heap H [] := by rw [hH]; exact hS
  refine w_gen (fun Q hQ => ?_)
  have hf9 := hts (.fieldLink RJ0 9 "java/lang/String" "value" "[B") (by decide +kernel)
  refine lv_aload_n hx hb dJ0_indexOf_7cf53_0 rfl (lv_at hl 0 rfl) ?_
  have hPc := hP.sub (ws' := []) [] rfl
  have hDc := hD.sub (ws' := []) [] (by decide) rfl
  have hFc := va_free (wc := []) hD hS hA [] rfl
  refine va_calli (va_runV (As := []) (rest := []) ⟨hx, hb, hml, hown, hts⟩ (KJ0_isLatin1_aae02 l dC dI0 cI cZ  H.size sk sv ) (cwV 0 hts gJ0_indexOf_7cf53_J0_isLatin1_aae02 rfl rfl rfl (by decide +kernel) ⟨Nat.le_of_ble_eq_true rfl, Nat.le_of_ble_eq_true rfl⟩) ⟨fun a U g mk q => by obtain ⟨q0, q1, qP, qK, qD, qT⟩ := q; exact ⟨q0, q1, qP, va_K.moved (u := U) (U := U.calling g mk a) (Vm.Alike.refl U.vm) qK, qD, qT.call g mk a⟩, hST.recv hS, fun U hU hW => ⟨rfl, by rw [hU], by rw [hU]; exact hPc, va_K.moved hW.alike hK, hDc.weaken (fun _ _ _ _ => trivial), hST.to hS hFc hU hW⟩⟩ rfl rfl hl.1 rfl (lv_room (Nat.le_of_ble_eq_true rfl)) dJ0_indexOf_7cf53_1 ⟨Nat.le_of_ble_eq_true rfl, Nat.le_of_ble_eq_true rfl⟩) hS (fun q _ h => hFc q h) hFc (fun r1 u1 t7 H1 locs ht7 hvm7 hw1 hB hz1 hk1 hS => ?_)
  obtain ⟨hP1, hK1, hD1⟩ := hB
  rw [ht7] at hP1
  try dsimp only at hw1 hP1 hD1
  obtain ⟨hP, hD⟩ := va_join (wr := []) (w1 := []) hP hD [] [] rfl rfl (by decide) (by decide) hk1 hFc hP1 hD1
  generalize H1 = H at hP hS ⊢
  have hP := hP.sub (ws' := []) [] rfl
  have hD := hD.sub (ws' := []) [] (by decide) rfl
  obtain rfl : r1 = bI true := hw1
  refine lv_if_eq (tgt := 23) hx hb dJ0_indexOf_7cf53_4 (by decide) (fun c4 => ?_) (fun c4 => ?_)
  ·
    have c4 : true = false := bI_0 c4
    exfalso
    exact absurd c4 (by decide)
  have c4 : true = true := bI_n0 c4
  refine lv_aload_n hx hb dJ0_indexOf_7cf53_7 rfl (lv_at hl 0 rfl) ?_
  refine vk_getf hx hb hST.2.2.1 hS hown hf9 (fun _ h9 => h9) dJ0_indexOf_7cf53_8 ?_
  refine lv_iload_n hx hb dJ0_indexOf_7cf53_11 rfl (lv_at hl 1 rfl) ?_
  refine lv_iload_n hx hb dJ0_indexOf_7cf53_12 rfl (lv_at hl 2 rfl) ?_
  refine lv_aload_n hx hb dJ0_indexOf_7cf53_13 rfl (lv_at hl 0 rfl) ?_
  have hPc := hP.sub (ws' := []) [] rfl
  have hDc := hD.sub (ws' := []) [] (by decide) rfl
  have hFc := va_free (wc := []) hD hS hA [] rfl
  refine va_calli (va_runV (As := []) (rest := [.int (nI f0), .int (nI x), .ref sv]) ⟨hx, hb, hml, hown, hts⟩ (KJ0_length_8abf5 l dC dI0 cI cZ  H.size sk sv ) (cwV 0 hts gJ0_indexOf_7cf53_J0_length_8abf5 rfl rfl rfl (by decide +kernel) ⟨Nat.le_of_ble_eq_true rfl, Nat.le_of_ble_eq_true rfl⟩) ⟨fun a U g mk q => by obtain ⟨q0, q1, qP, qK, qD, qT⟩ := q; exact ⟨q0, q1, qP, va_K.moved (u := U) (U := U.calling g mk a) (Vm.Alike.refl U.vm) qK, qD, qT.call g mk a⟩, hST.recv hS, fun U hU hW => ⟨rfl, by rw [hU], by rw [hU]; exact hPc, va_K.moved hW.alike hK, hDc.weaken (fun _ _ _ _ => trivial), hST.to hS hFc hU hW⟩⟩ rfl rfl hl.1 rfl (lv_room (Nat.le_of_ble_eq_true rfl)) dJ0_indexOf_7cf53_14 ⟨Nat.le_of_ble_eq_true rfl, Nat.le_of_ble_eq_true rfl⟩) hS (fun q _ h => hFc q h) hFc (fun r14 u14 t7 H1 locs ht7 hvm7 hw14 hB hz1 hk1 hS => ?_)
  obtain ⟨hP1, hK1, hD1⟩ := hB
  rw [ht7] at hP1
  try dsimp only at hw14 hP1 hD1
  obtain ⟨hP, hD⟩ := va_join (wr := []) (w1 := []) hP hD [] [] rfl rfl (by decide) (by decide) hk1 hFc hP1 hD1
  generalize H1 = H at hP hS ⊢
  have hP := hP.sub (ws' := []) [] rfl
  have hD := hD.sub (ws' := []) [] (by decide) rfl
  obtain rfl : r14 = nI 5 := hw14
  have hPc := hP.sub (ws' := []) [] rfl
  have hDc := hD.sub (ws' := []) [] (by decide) rfl
  have hFc := va_free (wc := []) hD hS hA [] rfl
  refine va_calli (va_runS (As := [.ref sv, .int (nI x), .int (nI f0), .int (nI 5)]) (rest := []) ⟨hx, hb, hml, hown, hts⟩ (KJ1_indexOf_4cfef l dC dI0 cI cZ  H.size sk sv x f0 5 (by first | assumption | omega) (by first | assumption | omega) (by first | assumption | omega)) (va_cwS 4 hts gJ0_indexOf_7cf53_J1_indexOf_4cfef rfl rfl rfl (by decide +kernel) ⟨Nat.le_of_ble_eq_true rfl, Nat.le_of_ble_eq_true rfl⟩) ⟨fun a U g mk q => by obtain ⟨q0, q1, qP, qK, qD, qT⟩ := q; exact ⟨q0, q1, qP, va_K.moved (u := U) (U := U.calling g mk a) (Vm.Alike.refl U.vm) qK, qD, qT.call g mk a⟩, fun U hU hW => ⟨rfl, by rw [hU], by rw [hU]; exact hPc, va_K.moved hW.alike hK, hDc.weaken (fun _ _ _ _ => trivial), hST.to hS hFc hU hW⟩⟩ rfl rfl hl.1 rfl (lv_room (Nat.le_of_ble_eq_true rfl)) dJ0_indexOf_7cf53_17 ⟨Nat.le_of_ble_eq_true rfl, Nat.le_of_ble_eq_true rfl⟩) hS (fun q _ h => hFc q h) hFc (fun r17 u17 t7 H1 locs ht7 hvm7 hw17 hB hz1 hk1 hS => ?_)
  obtain ⟨hP1, hK1, hD1⟩ := hB
  rw [ht7] at hP1
  try dsimp only at hw17 hP1 hD1
  obtain ⟨hP, hD⟩ := va_join (wr := []) (w1 := []) hP hD [] [] rfl rfl (by decide) (by decide) hk1 hFc hP1 hD1
  generalize H1 = H at hP hS ⊢
  have hP := hP.sub (ws' := []) [] rfl
  have hD := hD.sub (ws' := []) [] (by decide) rfl
  obtain rfl : r17 = dI (kcS x) := hw17
  refine lv_goto (tgt := 36) hx hb dJ0_indexOf_7cf53_20 (by decide) ?_
  subst hQ
  have hP9 : va_P (dC, dI0) vwCl [] H := hP
  have hD9 : va_D A [] := hD
  exact W.iret (v := dI (kcS x)) hx hb hr (fun t9 ht9 hW9 => ⟨⟨dI (kcS x), (), rfl, rfl, by rw [ht9]; exact hP9, va_K.moved hW9.alike hK, hD9⟩, hS.F ht9⟩) hS.2.2 dJ0_indexOf_7cf53_36

set_option maxHeartbeats 4000000 in
set_option maxRecDepth 100000 in
theorem KJ0_indexOf_0f7a4 (l : Launch) (dC : Nat → ClassId) (dI0 : Nat → Nat → Nat) (cI cZ : ClassId) (sz : Nat) (sk sv : Nat) (x : Nat) (hx8 : x < 128) : Met l yJ0_indexOf_0f7a4 wsJ0_indexOf_0f7a4 ({ frames := 3, cells := 0, slots := 0, locals := 70 } : Room) (va_Pc [.ref sk, .int (nI x)] (fun U => U.heap.size = sz ∧ va_P (dC, dI0) vwCl (WE0 cI cZ ) U.heap ∧ va_K (dC, dI0) vwCl [(cI, .int), (cZ, .boolean)] U ∧ va_D (fun _ => True) (WE0 cI cZ ) ∧ STR sk sv (va_A (WE0 cI cZ ) sz) U U.heap)) (va_Qi (fun (r : Int32) (u : Unit) => r = dI (kcS x)) (fun (u : Unit) (t : State) => va_P (dC, dI0) vwCl (WE0 cI cZ ) t.heap ∧ va_K (dC, dI0) vwCl [(cI, .int), (cZ, .boolean)] t ∧ va_D (va_A (WE0 cI cZ ) sz) (WE0 cI cZ )) (va_A (WE0 cI cZ ) sz)) 0 0 (va_A (WE0 cI cZ ) sz) := by
  refine Met.ofW (cc := cJ0_indexOf_0f7a4) (maxL := 2) (ret := (some .int)) (by decide) rfl ?_
  intro prg env s m args below meth c s₁ B hml hv
  obtain ⟨rfl, hsz, hP, hK, hD0, hST⟩ := hv
  have hx := B.exec
  have hb := B.bytes
  have hr := B.returns
  have hts := atoms_spec (ws := wsJ0_indexOf_0f7a4) B.pre
  have hown : s.vm.findClass RJ0 = some m.cls := findClass_of_methodNamed B.named
  have hlocks := B.notSynchronized
  subst hsz
  have hD := hD0.self (sz := s.heap.size)
  generalize hAe : va_A (WE0 cI cZ ) s.heap.size = A at hD hST ⊢
  have hA : ∀ q : Nat, s.heap.size ≤ q → A q := fun q h => by rw [← hAe]; exact Or.inr h
  have hS : va_S A s.heap s.heap [] := va_S.rf
  have hP : va_P (dC, dI0) vwCl [] s.heap := hP
  have hD : va_D A [] := hD
  have hl := lv_entry ([.ref sk, .int (nI x)]) (n := 2) (Nat.le_of_ble_eq_true rfl)
  rw [lg_entry_eq]
  generalize (lg_sl ([.ref sk, .int (nI x)]) ++ List.replicate (2 - (lg_sl ([.ref sk, .int (nI x)])).length) Slot.unset).toArray = ls at hl ⊢
  have hl : lv_has ls 2 [(0, .ref sk), (1, .int (nI x))] := hl
  obtain ⟨H, hH⟩ : ∃ H : Heap, H = s.heap := ⟨_, rfl⟩
  rw [← hH] at hP ⊢
  have hS : va_S A s.heap H [] := by rw [hH]; exact hS
  refine w_gen (fun Q hQ => ?_)
  refine lv_aload_n hx hb dJ0_indexOf_0f7a4_0 rfl (lv_at hl 0 rfl) ?_
  refine lv_iload_n hx hb dJ0_indexOf_0f7a4_1 rfl (lv_at hl 1 rfl) ?_
  refine lv_iconst (v := nI 0) hx hb dJ0_indexOf_0f7a4_2 (by decide) ?_
  have hPc := hP.sub (ws' := []) [] rfl
  have hDc := hD.sub (ws' := []) [] (by decide) rfl
  have hFc := va_free (wc := []) hD hS hA [] rfl
  refine va_calli (va_runV (As := [.int (nI x), .int (nI 0)]) (rest := []) ⟨hx, hb, hml, hown, hts⟩ (KJ0_indexOf_7cf53 l dC dI0 cI cZ  H.size sk sv x 0 (by first | assumption | omega) (by first | assumption | omega)) (cwV 2 hts gJ0_indexOf_0f7a4_J0_indexOf_7cf53 rfl rfl rfl (by decide +kernel) ⟨Nat.le_of_ble_eq_true rfl, Nat.le_of_ble_eq_true rfl⟩) ⟨fun a U g mk q => by obtain ⟨q0, q1, qP, qK, qD, qT⟩ := q; exact ⟨q0, q1, qP, va_K.moved (u := U) (U := U.calling g mk a) (Vm.Alike.refl U.vm) qK, qD, qT.call g mk a⟩, hST.recv hS, fun U hU hW => ⟨rfl, by rw [hU], by rw [hU]; exact hPc, va_K.moved hW.alike hK, hDc.weaken (fun _ _ _ _ => trivial), hST.to hS hFc hU hW⟩⟩ rfl rfl hl.1 rfl (lv_room (Nat.le_of_ble_eq_true rfl)) dJ0_indexOf_0f7a4_3 ⟨Nat.le_of_ble_eq_true rfl, Nat.le_of_ble_eq_true rfl⟩) hS (fun q _ h => hFc q h) hFc (fun r3 u3 t7 H1 locs ht7 hvm7 hw3 hB hz1 hk1 hS => ?_)
  obtain ⟨hP1, hK1, hD1⟩ := hB
  rw [ht7] at hP1
  try dsimp only at hw3 hP1 hD1
  obtain ⟨hP, hD⟩ := va_join (wr := []) (w1 := []) hP hD [] [] rfl rfl (by decide) (by decide) hk1 hFc hP1 hD1
  generalize H1 = H at hP hS ⊢
  have hP := hP.sub (ws' := []) [] rfl
  have hD := hD.sub (ws' := []) [] (by decide) rfl
  obtain rfl : r3 = dI (kcS x) := hw3
  subst hQ
  have hP9 : va_P (dC, dI0) vwCl [] H := hP
  have hD9 : va_D A [] := hD
  exact W.iret (v := dI (kcS x)) hx hb hr (fun t9 ht9 hW9 => ⟨⟨dI (kcS x), (), rfl, rfl, by rw [ht9]; exact hP9, va_K.moved hW9.alike hK, hD9⟩, hS.F ht9⟩) hS.2.2 dJ0_indexOf_0f7a4_6
abbrev WPg (cI cZ : ClassId) (h2 : Nat) (l1 : Nat) (pl : Nat) (lA : Nat → Int32) : va_W := [(h2, .inr (2, [.ref l1, .int (nI pl)])), (l1, .inl (cI, 24, .inl lA))]
abbrev WCP (cI cZ : ClassId) (h0 : Nat) (a1 : Nat) (a2 : Nat) (a3 : Nat) (a4 : Nat) (a5 : Nat) (a6 : Nat) (a7 : Nat) (n : Nat) (dr : Nat) (sc : Nat) (kA : Nat → Int32) (hsA : Nat → Int32) (dA : Nat → Int32) (bA : Nat → Int32) (pA : Nat → Int32) (nA : Nat → Int32) (mA : Nat → Int32) (h2 : Nat) (l1 : Nat) (pl : Nat) (lA : Nat → Int32) : va_W := [(h0, .inr (0, [.ref a1, .ref a2, .ref a3, .ref a4, .int (nI n), .int (nI dr), .int (nI sc), .ref a5, .ref a6, .ref a7])), (a1, .inl (cI, 7, .inl kA)), (a2, .inl (cI, 7, .inl hsA)), (a3, .inl (cI, 7, .inl dA)), (a4, .inl (cI, 7, .inl bA)), (a5, .inl (cI, 6, .inl pA)), (a6, .inl (cI, 6, .inl nA)), (a7, .inl (cZ, 6, .inl mA)), (h2, .inr (2, [.ref l1, .int (nI pl)])), (l1, .inl (cI, 24, .inl lA))]
set_option maxHeartbeats 4000000 in
set_option maxRecDepth 100000 in
theorem KX2_append (l : Launch) (dC : Nat → ClassId) (dI0 : Nat → Nat → Nat) (cI cZ : ClassId) (h2 : Nat) (l1 : Nat) (pl : Nat) (lA : Nat → Int32) (sz : Nat) (le : Nat → Nat) (x : Nat) (hPg : PgR pl lA le) (hp24 : pl < 24) : Met l yX2_append wsX2_append ({ frames := 0, cells := 0, slots := 0, locals := 0 } : Room) (va_Pc [.ref h2, .int (nI x)] (fun U => U.heap.size = sz ∧ va_P (dC, dI0) vwCl (WPg cI cZ h2 l1 pl lA) U.heap ∧ va_K (dC, dI0) vwCl [(cI, .int), (cZ, .boolean)] U ∧ va_D (fun _ => True) (WPg cI cZ h2 l1 pl lA))) (va_Qv (fun (u : Unit) => True) (fun (u : Unit) (t : State) => va_P (dC, dI0) vwCl (WPg cI cZ h2 l1 (pl + 1) (upd lA pl (nI x))) t.heap ∧ va_K (dC, dI0) vwCl [(cI, .int), (cZ, .boolean)] t ∧ va_D (va_A (WPg cI cZ h2 l1 pl lA) sz) (WPg cI cZ h2 l1 (pl + 1) (upd lA pl (nI x)))) (va_A (WPg cI cZ h2 l1 pl lA) sz)) 0 0 (va_A (WPg cI cZ h2 l1 pl lA) sz) := by
  refine Met.ofW (cc := cX2_append) (maxL := 2) (ret := none) (by decide) rfl ?_
  intro prg env s m args below meth c s₁ B hml hv
  obtain ⟨rfl, hsz, hP, hK, hD0⟩ := hv
  have hx := B.exec
  have hb := B.bytes
  have hr := B.returns
  have hts := atoms_spec (ws := wsX2_append) B.pre
  have hown : s.vm.findClass RX2 = some m.cls := findClass_of_methodNamed B.named
  have hlocks := B.notSynchronized
  subst hsz
  have hD := hD0.self (sz := s.heap.size)
  generalize hAe : va_A (WPg cI cZ h2 l1 pl lA) s.heap.size = A at hD ⊢
  have hA : ∀ q : Nat, s.heap.size ≤ q → A q := fun q h => by rw [← hAe]; exact Or.inr h
  have hS : va_S A s.heap s.heap [] := va_S.rf
  have hP : va_P (dC, dI0) vwCl [(h2, .inr (2, [.ref l1, .int (nI pl)])), (l1, .inl (cI, 24, .inl lA))] s.heap := hP
  have hD : va_D A [(h2, .inr (2, [.ref l1, .int (nI pl)])), (l1, .inl (cI, 24, .inl lA))] := hD
  have hl := lv_entry ([.ref h2, .int (nI x)]) (n := 2) (Nat.le_of_ble_eq_true rfl)
  rw [lg_entry_eq]
  generalize (lg_sl ([.ref h2, .int (nI x)]) ++ List.replicate (2 - (lg_sl ([.ref h2, .int (nI x)])).length) Slot.unset).toArray = ls at hl ⊢
  have hl : lv_has ls 2 [(0, .ref h2), (1, .int (nI x))] := hl
  obtain ⟨H, hH⟩ : ∃ H : Heap, H = s.heap := ⟨_, rfl⟩
  rw [← hH] at hP ⊢
  have hS : va_S A s.heap H [] := by rw [hH]; exact hS
  refine w_gen (fun Q hQ => ?_)
  have hin_X2 : ∀ w ∈ wsX20, w ∈ wsX2_append := by decide +kernel
  have hf15 := hts (.fieldLink RX2 15 "HatNames$Page" "length" "I") (by decide +kernel)
  have hf11 := hts (.fieldLink RX2 11 "HatNames$Page" "letters" "[I") (by decide +kernel)
  obtain ⟨hpl, hle⟩ := id hPg
  refine lv_aload_n hx hb dX2_append_0 rfl (lv_at hl 0 rfl) ?_
  refine va_get (D := (dC, dI0)) (ci := 2) (v := .int (nI pl)) (C := RX2) (T := TX2) (N := 2) hx hb hts hin_X2 hown hK hP 0 rfl rfl 1 (by decide) hf15 (fun _ h9 => h9) rfl dX2_append_1 ?_
  refine lv_bipush (v := nI 24) hx hb dX2_append_4 (by decide) ?_
  refine lv_icmp_ge (tgt := 29) hx hb dX2_append_6 (by decide) (fun c6 => ?_) (fun c6 => ?_)
  ·
    have c6 : 24 ≤ pl := (nI_leI (a := 24) (b := pl) (by omega) (by omega)).mp c6
    exfalso
    omega
  have c6 : ¬ 24 ≤ pl := fun z => c6 ((nI_leI (a := 24) (b := pl) (by omega) (by omega)).mpr z)
  refine lv_aload_n hx hb dX2_append_9 rfl (lv_at hl 0 rfl) ?_
  refine va_get (D := (dC, dI0)) (ci := 2) (v := .ref l1) (C := RX2) (T := TX2) (N := 2) hx hb hts hin_X2 hown hK hP 0 rfl rfl 0 (by decide) hf11 (fun _ h9 => h9) rfl dX2_append_10 ?_
  refine lv_aload_n hx hb dX2_append_13 rfl (lv_at hl 0 rfl) ?_
  refine va_get (D := (dC, dI0)) (ci := 2) (v := .int (nI pl)) (C := RX2) (T := TX2) (N := 2) hx hb hts hin_X2 hown hK hP 0 rfl rfl 1 (by decide) hf15 (fun _ h9 => h9) rfl dX2_append_14 ?_
  refine lv_iload_n hx hb dX2_append_17 rfl (lv_at hl 1 rfl) ?_
  refine va_iast hx hb hK hP hD hS 1 0 rfl rfl (vp_in_nI (by omega) (by decide)) dX2_append_18 (fun H locs hP hD hS => ?_)
  rw [nI_clamp (n := pl) (by omega)] at hP hD
  have hP : va_P (dC, dI0) vwCl [(h2, .inr (2, [.ref l1, .int (nI pl)])), (l1, .inl (cI, 24, .inl (upd lA pl (nI x))))] H := hP
  have hD : va_D A [(h2, .inr (2, [.ref l1, .int (nI pl)])), (l1, .inl (cI, 24, .inl (upd lA pl (nI x))))] := hD
  refine lv_aload_n hx hb dX2_append_19 rfl (lv_at hl 0 rfl) ?_
  refine lv_dup hx hb dX2_append_20 rfl ?_
  refine va_get (D := (dC, dI0)) (ci := 2) (v := .int (nI pl)) (C := RX2) (T := TX2) (N := 2) hx hb hts hin_X2 hown hK hP 0 rfl rfl 1 (by decide) hf15 (fun _ h9 => h9) rfl dX2_append_21 ?_
  refine lv_iconst (v := nI 1) hx hb dX2_append_24 (by decide) ?_
  refine lv_iadd hx hb dX2_append_25 ?_
  refine lv_topi (fun x25 e25 => ?_)
  obtain rfl : x25 = nI (pl + 1) := e25.trans (nI_add _ _)
  refine va_put (D := (dC, dI0)) (ci := 2) (v := .int (nI (pl + 1))) (ty := .int) (C := RX2) (T := TX2) (N := 2) hx hb hts hin_X2 tyX2 tyX2_ok nmX2 hown hK hP hD hS 0 rfl rfl 1 (by decide) hf15 (fun _ h9 => h9) rfl (by decide +kernel) rfl rfl (Nat.le_of_ble_eq_true rfl) dX2_append_26 (fun H locs hP hD hS => ?_)
  have hP : va_P (dC, dI0) vwCl [(h2, .inr (2, [.ref l1, .int (nI (pl + 1))])), (l1, .inl (cI, 24, .inl (upd lA pl (nI x))))] H := hP
  have hD : va_D A [(h2, .inr (2, [.ref l1, .int (nI (pl + 1))])), (l1, .inl (cI, 24, .inl (upd lA pl (nI x))))] := hD
  subst hQ
  have hP9 : va_P (dC, dI0) vwCl [(h2, .inr (2, [.ref l1, .int (nI (pl + 1))])), (l1, .inl (cI, 24, .inl (upd lA pl (nI x))))] H := hP
  have hD9 : va_D A [(h2, .inr (2, [.ref l1, .int (nI (pl + 1))])), (l1, .inl (cI, 24, .inl (upd lA pl (nI x))))] := hD
  exact W.vret hx hb hr (fun t9 ht9 hW9 => ⟨⟨(), rfl, trivial, by rw [ht9]; exact hP9, va_K.moved hW9.alike hK, hD9⟩, hS.F ht9⟩) hS.2.2 dX2_append_29

set_option maxHeartbeats 4000000 in
set_option maxRecDepth 100000 in
theorem KX2_fits (l : Launch) (dC : Nat → ClassId) (dI0 : Nat → Nat → Nat) (cI cZ : ClassId) (h2 : Nat) (l1 : Nat) (pl : Nat) (lA : Nat → Int32) (sz : Nat) (sk sv : Nat) (le : Nat → Nat) (i : Nat) (hPg : PgR pl lA le) (hi : i < pl) : Met l yX2_fits wsX2_fits ({ frames := 4, cells := 0, slots := 0, locals := 91 } : Room) (va_Pc [.ref h2, .int (nI i)] (fun U => U.heap.size = sz ∧ va_P (dC, dI0) vwCl (WPg cI cZ h2 l1 pl lA) U.heap ∧ va_K (dC, dI0) vwCl [(cI, .int), (cZ, .boolean)] U ∧ va_D (fun _ => True) (WPg cI cZ h2 l1 pl lA) ∧ STR sk sv (va_A (WPg cI cZ h2 l1 pl lA) sz) U U.heap)) (va_Qi (fun (r : Int32) (u : Unit) => r = bI (ftS le i)) (fun (u : Unit) (t : State) => va_P (dC, dI0) vwCl (WPg cI cZ h2 l1 pl lA) t.heap ∧ va_K (dC, dI0) vwCl [(cI, .int), (cZ, .boolean)] t ∧ va_D (va_A (WPg cI cZ h2 l1 pl lA) sz) (WPg cI cZ h2 l1 pl lA)) (va_A (WPg cI cZ h2 l1 pl lA) sz)) 0 0 (va_A (WPg cI cZ h2 l1 pl lA) sz) := by
  refine Met.ofW (cc := cX2_fits) (maxL := 3) (ret := (some .boolean)) (by decide) rfl ?_
  intro prg env s m args below meth c s₁ B hml hv
  obtain ⟨rfl, hsz, hP, hK, hD0, hST⟩ := hv
  have hx := B.exec
  have hb := B.bytes
  have hr := B.returns
  have hts := atoms_spec (ws := wsX2_fits) B.pre
  have hown : s.vm.findClass RX2 = some m.cls := findClass_of_methodNamed B.named
  have hlocks := B.notSynchronized
  subst hsz
  have hD := hD0.self (sz := s.heap.size)
  generalize hAe : va_A (WPg cI cZ h2 l1 pl lA) s.heap.size = A at hD hST ⊢
  have hA : ∀ q : Nat, s.heap.size ≤ q → A q := fun q h => by rw [← hAe]; exact Or.inr h
  have hS : va_S A s.heap s.heap [] := va_S.rf
  have hP : va_P (dC, dI0) vwCl [(h2, .inr (2, [.ref l1, .int (nI pl)])), (l1, .inl (cI, 24, .inl lA))] s.heap := hP
  have hD : va_D A [(h2, .inr (2, [.ref l1, .int (nI pl)])), (l1, .inl (cI, 24, .inl lA))] := hD
  have hl := lv_entry ([.ref h2, .int (nI i)]) (n := 3) (Nat.le_of_ble_eq_true rfl)
  rw [lg_entry_eq]
  generalize (lg_sl ([.ref h2, .int (nI i)]) ++ List.replicate (3 - (lg_sl ([.ref h2, .int (nI i)])).length) Slot.unset).toArray = ls at hl ⊢
  have hl : lv_has ls 3 [(0, .ref h2), (1, .int (nI i))] := hl
  obtain ⟨H, hH⟩ : ∃ H : Heap, H = s.heap := ⟨_, rfl⟩
  rw [← hH] at hP ⊢
  have hS : va_S A s.heap H [] := by rw [hH]; exact hS
  refine w_gen (fun Q hQ => ?_)
  have hin_X2 : ∀ w ∈ wsX20, w ∈ wsX2_fits := by decide +kernel
  have hf11 := hts (.fieldLink RX2 11 "HatNames$Page" "letters" "[I") (by decide +kernel)
  obtain ⟨hpl, hle⟩ := id hPg
  refine lv_aload_n hx hb dX2_fits_0 rfl (lv_at hl 0 rfl) ?_
  refine va_get (D := (dC, dI0)) (ci := 2) (v := .ref l1) (C := RX2) (T := TX2) (N := 2) hx hb hts hin_X2 hown hK hP 0 rfl rfl 0 (by decide) hf11 (fun _ h9 => h9) rfl dX2_fits_1 ?_
  refine lv_iload_n hx hb dX2_fits_4 rfl (lv_at hl 1 rfl) ?_
  refine va_iald hx hb hK hP 1 0 rfl rfl (vp_in_nI (by omega) (by decide)) dX2_fits_5 ?_
  refine lv_topi (fun x5 e5 => ?_)
  rw [nI_clamp (n := i) (by omega)] at e5
  have hle7 := (hle i (by omega)).2
  obtain rfl : x5 = nI (le i) := e5.trans (hle i (by omega)).1
  refine lv_istore_n (lv' := [(2, .int (nI (le i))), (0, .ref h2), (1, .int (nI i))]) hx hb dX2_fits_6 rfl hl (by decide) rfl (fun ls hl => ?_)
  refine lv_iload_n hx hb dX2_fits_7 rfl (lv_at hl 2 rfl) ?_
  refine lv_bipush (v := nI 20) hx hb dX2_fits_8 (by decide) ?_
  refine lv_icmp_lt (tgt := 15) hx hb dX2_fits_10 (by decide) (fun c10 => ?_) (fun c10 => ?_)
  ·
    have c10 : i < 20 := (nI_ltI (a := i) (b := 20) (by omega) (by omega)).mp c10
    refine lv_iload_n hx hb dX2_fits_15 rfl (lv_at hl 2 rfl) ?_
    refine lv_iconst (v := nI 3) hx hb dX2_fits_16 (by decide) ?_
    refine lv_irem hx hb dX2_fits_17 (by decide) ?_
    refine lv_topi (fun x17 e17 => ?_)
    obtain rfl : x17 = nI (i % 3) := e17.trans (pk_rem (by omega) (by omega) (by omega))
    refine lv_if_ne (tgt := 37) hx hb dX2_fits_18 (by decide) (fun c18 => ?_) (fun c18 => ?_)
    ·
      have c18 : ¬ (i % 3) = 0 := fun z => c18 ((nI_eq (a := (i % 3)) (b := 0) (by omega) (by omega)).mpr z)
      refine lv_iload_n hx hb dX2_fits_37 rfl (lv_at hl 2 rfl) ?_
      refine lv_iconst (v := nI 3) hx hb dX2_fits_38 (by decide) ?_
      refine lv_irem hx hb dX2_fits_39 (by decide) ?_
      refine lv_topi (fun x39 e39 => ?_)
      obtain rfl : x39 = nI (i % 3) := e39.trans (pk_rem (by omega) (by omega) (by omega))
      refine lv_iconst (v := nI 1) hx hb dX2_fits_40 (by decide) ?_
      refine lv_icmp_ne (tgt := 62) hx hb dX2_fits_41 (by decide) (fun c41 => ?_) (fun c41 => ?_)
      ·
        have c41 : ¬ (i % 3) = 1 := fun z => c41 ((nI_eq (a := (i % 3)) (b := 1) (by omega) (by omega)).mpr z)
        refine lv_iload_n hx hb dX2_fits_62 rfl (lv_at hl 0 rfl) ?_
        refine lv_bipush (v := nI 44) hx hb dX2_fits_63 (by decide) ?_
        refine lv_icmp_ne (tgt := 72) hx hb dX2_fits_65 (by decide) (fun c65 => ?_) (fun c65 => ?_)
        ·
          have c65 : ¬ (le i) = 44 := fun z => c65 ((nI_eq (a := (le i)) (b := 44) (by omega) (by omega)).mpr z)
          refine lv_iconst (v := nI 0) hx hb dX2_fits_72 (by decide) ?_
          subst hQ
          have hP9 : va_P (dC, dI0) vwCl [(h2, .inr (2, [.ref l1, .int (nI pl)])), (l1, .inl (cI, 24, .inl lA))] H := hP
          have hD9 : va_D A [(h2, .inr (2, [.ref l1, .int (nI pl)])), (l1, .inl (cI, 24, .inl lA))] := hD
          exact W.zret (v := nI 0) hx hb hr (nar_z false) (fun t9 ht9 hW9 => ⟨⟨nI 0, (), rfl, bI_2 (by rw [ftS, if_neg (by omega), if_neg c18, if_neg c41]; exact decide_eq_false c65), by rw [ht9]; exact hP9, va_K.moved hW9.alike hK, hD9⟩, hS.F ht9⟩) hS.2.2 dX2_fits_73
        have c65 : (le i) = 44 := (nI_eq (a := (le i)) (b := 44) (by omega) (by omega)).mp c65
        refine lv_iconst (v := nI 1) hx hb dX2_fits_68 (by decide) ?_
        refine lv_goto (tgt := 73) hx hb dX2_fits_69 (by decide) ?_
        subst hQ
        have hP9 : va_P (dC, dI0) vwCl [(h2, .inr (2, [.ref l1, .int (nI pl)])), (l1, .inl (cI, 24, .inl lA))] H := hP
        have hD9 : va_D A [(h2, .inr (2, [.ref l1, .int (nI pl)])), (l1, .inl (cI, 24, .inl lA))] := hD
        exact W.zret (v := nI 1) hx hb hr (nar_z true) (fun t9 ht9 hW9 => ⟨⟨nI 1, (), rfl, bI_1 (by rw [ftS, if_neg (by omega), if_neg c18, if_neg c41]; exact decide_eq_true c65), by rw [ht9]; exact hP9, va_K.moved hW9.alike hK, hD9⟩, hS.F ht9⟩) hS.2.2 dX2_fits_73
      have c41 : (i % 3) = 1 := (nI_eq (a := (i % 3)) (b := 1) (by omega) (by omega)).mp c41
      refine lv_iload_n hx hb dX2_fits_44 rfl (lv_at hl 0 rfl) ?_
      refine lv_bipush (v := nI 48) hx hb dX2_fits_45 (by decide) ?_
      refine lv_icmp_lt (tgt := 60) hx hb dX2_fits_47 (by decide) (fun c47 => ?_) (fun c47 => ?_)
      ·
        have c47 : (le i) < 48 := (nI_ltI (a := (le i)) (b := 48) (by omega) (by omega)).mp c47
        refine lv_iconst (v := nI 0) hx hb dX2_fits_60 (by decide) ?_
        subst hQ
        have hP9 : va_P (dC, dI0) vwCl [(h2, .inr (2, [.ref l1, .int (nI pl)])), (l1, .inl (cI, 24, .inl lA))] H := hP
        have hD9 : va_D A [(h2, .inr (2, [.ref l1, .int (nI pl)])), (l1, .inl (cI, 24, .inl lA))] := hD
        exact W.zret (v := nI 0) hx hb hr (nar_z false) (fun t9 ht9 hW9 => ⟨⟨nI 0, (), rfl, bI_2 (by rw [ftS, if_neg (by omega), if_neg c18, if_pos c41]; exact decide_eq_false (by omega)), by rw [ht9]; exact hP9, va_K.moved hW9.alike hK, hD9⟩, hS.F ht9⟩) hS.2.2 dX2_fits_61
      have c47 : ¬ (le i) < 48 := fun z => c47 ((nI_ltI (a := (le i)) (b := 48) (by omega) (by omega)).mpr z)
      refine lv_iload_n hx hb dX2_fits_50 rfl (lv_at hl 0 rfl) ?_
      refine lv_bipush (v := nI 57) hx hb dX2_fits_51 (by decide) ?_
      refine lv_icmp_gt (tgt := 60) hx hb dX2_fits_53 (by decide) (fun c53 => ?_) (fun c53 => ?_)
      ·
        have c53 : 57 < (le i) := (nI_ltI (a := 57) (b := (le i)) (by omega) (by omega)).mp c53
        refine lv_iconst (v := nI 0) hx hb dX2_fits_60 (by decide) ?_
        subst hQ
        have hP9 : va_P (dC, dI0) vwCl [(h2, .inr (2, [.ref l1, .int (nI pl)])), (l1, .inl (cI, 24, .inl lA))] H := hP
        have hD9 : va_D A [(h2, .inr (2, [.ref l1, .int (nI pl)])), (l1, .inl (cI, 24, .inl lA))] := hD
        exact W.zret (v := nI 0) hx hb hr (nar_z false) (fun t9 ht9 hW9 => ⟨⟨nI 0, (), rfl, bI_2 (by rw [ftS, if_neg (by omega), if_neg c18, if_pos c41]; exact decide_eq_false (by omega)), by rw [ht9]; exact hP9, va_K.moved hW9.alike hK, hD9⟩, hS.F ht9⟩) hS.2.2 dX2_fits_61
      have c53 : ¬ 57 < (le i) := fun z => c53 ((nI_ltI (a := 57) (b := (le i)) (by omega) (by omega)).mpr z)
      refine lv_iconst (v := nI 1) hx hb dX2_fits_56 (by decide) ?_
      refine lv_goto (tgt := 61) hx hb dX2_fits_57 (by decide) ?_
      subst hQ
      have hP9 : va_P (dC, dI0) vwCl [(h2, .inr (2, [.ref l1, .int (nI pl)])), (l1, .inl (cI, 24, .inl lA))] H := hP
      have hD9 : va_D A [(h2, .inr (2, [.ref l1, .int (nI pl)])), (l1, .inl (cI, 24, .inl lA))] := hD
      exact W.zret (v := nI 1) hx hb hr (nar_z true) (fun t9 ht9 hW9 => ⟨⟨nI 1, (), rfl, bI_1 (by rw [ftS, if_neg (by omega), if_neg c18, if_pos c41]; exact decide_eq_true (by omega)), by rw [ht9]; exact hP9, va_K.moved hW9.alike hK, hD9⟩, hS.F ht9⟩) hS.2.2 dX2_fits_61
    have c18 : (i % 3) = 0 := (nI_eq (a := (i % 3)) (b := 0) (by omega) (by omega)).mp c18
    refine va_ldcS hx hb hown hST.2.2.2.2.1 dX2_fits_21 ?_
    refine lv_iload_n hx hb dX2_fits_23 rfl (lv_at hl 0 rfl) ?_
    refine lv_i2c hx hb dX2_fits_24 rfl ?_
    refine lv_topi (fun x24 e24 => ?_)
    obtain rfl : x24 = nI (le i) := e24.trans (i2c_nI (by omega))
    have hPc := hP.sub (ws' := []) [] rfl
    have hDc := hD.sub (ws' := []) [] (by decide) rfl
    have hFc := va_free (wc := []) hD hS hA [] rfl
    refine va_calli (va_runV (As := [.int (nI (le i))]) (rest := []) ⟨hx, hb, hml, hown, hts⟩ (KJ0_indexOf_0f7a4 l dC dI0 cI cZ  H.size sk sv (le i) (by first | assumption | omega)) (cwV 1 hts gX2_fits_J0_indexOf_0f7a4 rfl rfl rfl (by decide +kernel) ⟨Nat.le_of_ble_eq_true rfl, Nat.le_of_ble_eq_true rfl⟩) ⟨fun a U g mk q => by obtain ⟨q0, q1, qP, qK, qD, qT⟩ := q; exact ⟨q0, q1, qP, va_K.moved (u := U) (U := U.calling g mk a) (Vm.Alike.refl U.vm) qK, qD, qT.call g mk a⟩, hST.recv hS, fun U hU hW => ⟨rfl, by rw [hU], by rw [hU]; exact hPc, va_K.moved hW.alike hK, hDc.weaken (fun _ _ _ _ => trivial), hST.to hS hFc hU hW⟩⟩ rfl rfl hl.1 rfl (lv_room (Nat.le_of_ble_eq_true rfl)) dX2_fits_25 ⟨Nat.le_of_ble_eq_true rfl, Nat.le_of_ble_eq_true rfl⟩) hS (fun q _ h => hFc q h) hFc (fun r25 u25 t7 H1 locs ht7 hvm7 hw25 hB hz1 hk1 hS => ?_)
    obtain ⟨hP1, hK1, hD1⟩ := hB
    rw [ht7] at hP1
    try dsimp only at hw25 hP1 hD1
    obtain ⟨hP, hD⟩ := va_join (wr := [(h2, .inr (2, [.ref l1, .int (nI pl)])), (l1, .inl (cI, 24, .inl lA))]) (w1 := []) hP hD [] [0, 1] rfl rfl (by decide) (by decide) hk1 hFc hP1 hD1
    generalize H1 = H at hP hS ⊢
    have hP := hP.sub (ws' := [(h2, .inr (2, [.ref l1, .int (nI pl)])), (l1, .inl (cI, 24, .inl lA))]) [0, 1] rfl
    have hD := hD.sub (ws' := [(h2, .inr (2, [.ref l1, .int (nI pl)])), (l1, .inl (cI, 24, .inl lA))]) [0, 1] (by decide) rfl
    obtain rfl : r25 = dI (kcS (le i)) := hw25
    refine lv_if_lt (tgt := 35) hx hb dX2_fits_28 (by decide) (fun c28 => ?_) (fun c28 => ?_)
    ·
      have c28 := (kc_T (le i) c28)
      refine lv_iconst (v := nI 0) hx hb dX2_fits_35 (by decide) ?_
      subst hQ
      have hP9 : va_P (dC, dI0) vwCl [(h2, .inr (2, [.ref l1, .int (nI pl)])), (l1, .inl (cI, 24, .inl lA))] H := hP
      have hD9 : va_D A [(h2, .inr (2, [.ref l1, .int (nI pl)])), (l1, .inl (cI, 24, .inl lA))] := hD
      exact W.zret (v := nI 0) hx hb hr (nar_z false) (fun t9 ht9 hW9 => ⟨⟨nI 0, (), rfl, bI_2 (by rw [ftS, if_neg (by omega), if_pos c18]; exact c28), by rw [ht9]; exact hP9, va_K.moved hW9.alike hK, hD9⟩, hS.F ht9⟩) hS.2.2 dX2_fits_36
    have c28 := (kc_F (le i) c28)
    refine lv_iconst (v := nI 1) hx hb dX2_fits_31 (by decide) ?_
    refine lv_goto (tgt := 36) hx hb dX2_fits_32 (by decide) ?_
    subst hQ
    have hP9 : va_P (dC, dI0) vwCl [(h2, .inr (2, [.ref l1, .int (nI pl)])), (l1, .inl (cI, 24, .inl lA))] H := hP
    have hD9 : va_D A [(h2, .inr (2, [.ref l1, .int (nI pl)])), (l1, .inl (cI, 24, .inl lA))] := hD
    exact W.zret (v := nI 1) hx hb hr (nar_z true) (fun t9 ht9 hW9 => ⟨⟨nI 1, (), rfl, bI_1 (by rw [ftS, if_neg (by omega), if_pos c18]; exact c28), by rw [ht9]; exact hP9, va_K.moved hW9.alike hK, hD9⟩, hS.F ht9⟩) hS.2.2 dX2_fits_36
  have c10 : ¬ i < 20 := fun z => c10 ((nI_ltI (a := i) (b := 20) (by omega) (by omega)).mpr z)
  refine lv_iconst (v := nI 0) hx hb dX2_fits_13 (by decide) ?_
  subst hQ
  have hP9 : va_P (dC, dI0) vwCl [(h2, .inr (2, [.ref l1, .int (nI pl)])), (l1, .inl (cI, 24, .inl lA))] H := hP
  have hD9 : va_D A [(h2, .inr (2, [.ref l1, .int (nI pl)])), (l1, .inl (cI, 24, .inl lA))] := hD
  exact W.zret (v := nI 0) hx hb hr (nar_z false) (fun t9 ht9 hW9 => ⟨⟨nI 0, (), rfl, bI_2 (by rw [ftS, if_pos (by omega)]), by rw [ht9]; exact hP9, va_K.moved hW9.alike hK, hD9⟩, hS.F ht9⟩) hS.2.2 dX2_fits_14

set_option maxHeartbeats 4000000 in
set_option maxRecDepth 100000 in
theorem KX2_firstWrong (l : Launch) (dC : Nat → ClassId) (dI0 : Nat → Nat → Nat) (cI cZ : ClassId) (h2 : Nat) (l1 : Nat) (pl : Nat) (lA : Nat → Int32) (sz : Nat) (sk sv : Nat) (le : Nat → Nat) (hPg : PgR pl lA le) : Met l yX2_firstWrong wsX2_firstWrong ({ frames := 5, cells := 0, slots := 0, locals := 113 } : Room) (va_Pc [.ref h2] (fun U => U.heap.size = sz ∧ va_P (dC, dI0) vwCl (WPg cI cZ h2 l1 pl lA) U.heap ∧ va_K (dC, dI0) vwCl [(cI, .int), (cZ, .boolean)] U ∧ va_D (fun _ => True) (WPg cI cZ h2 l1 pl lA) ∧ STR sk sv (va_A (WPg cI cZ h2 l1 pl lA) sz) U U.heap)) (va_Qi (fun (r : Int32) (u : Unit) => r = nI (fwS pl le)) (fun (u : Unit) (t : State) => va_P (dC, dI0) vwCl (WPg cI cZ h2 l1 pl lA) t.heap ∧ va_K (dC, dI0) vwCl [(cI, .int), (cZ, .boolean)] t ∧ va_D (va_A (WPg cI cZ h2 l1 pl lA) sz) (WPg cI cZ h2 l1 pl lA)) (va_A (WPg cI cZ h2 l1 pl lA) sz)) 0 0 (va_A (WPg cI cZ h2 l1 pl lA) sz) := by
  refine Met.ofW (cc := cX2_firstWrong) (maxL := 2) (ret := (some .int)) (by decide) rfl ?_
  intro prg env s m args below meth c s₁ B hml hv
  obtain ⟨rfl, hsz, hP, hK, hD0, hST⟩ := hv
  have hx := B.exec
  have hb := B.bytes
  have hr := B.returns
  have hts := atoms_spec (ws := wsX2_firstWrong) B.pre
  have hown : s.vm.findClass RX2 = some m.cls := findClass_of_methodNamed B.named
  have hlocks := B.notSynchronized
  subst hsz
  have hD := hD0.self (sz := s.heap.size)
  generalize hAe : va_A (WPg cI cZ h2 l1 pl lA) s.heap.size = A at hD hST ⊢
  have hA : ∀ q : Nat, s.heap.size ≤ q → A q := fun q h => by rw [← hAe]; exact Or.inr h
  have hS : va_S A s.heap s.heap [] := va_S.rf
  have hP : va_P (dC, dI0) vwCl [(h2, .inr (2, [.ref l1, .int (nI pl)])), (l1, .inl (cI, 24, .inl lA))] s.heap := hP
  have hD : va_D A [(h2, .inr (2, [.ref l1, .int (nI pl)])), (l1, .inl (cI, 24, .inl lA))] := hD
  have hl := lv_entry ([.ref h2]) (n := 2) (Nat.le_of_ble_eq_true rfl)
  rw [lg_entry_eq]
  generalize (lg_sl ([.ref h2]) ++ List.replicate (2 - (lg_sl ([.ref h2])).length) Slot.unset).toArray = ls at hl ⊢
  have hl : lv_has ls 2 [(0, .ref h2)] := hl
  obtain ⟨H, hH⟩ : ∃ H : Heap, H = s.heap := ⟨_, rfl⟩
  rw [← hH] at hP ⊢
  have hS : va_S A s.heap H [] := by rw [hH]; exact hS
  refine w_gen (fun Q hQ => ?_)
  have hin_X2 : ∀ w ∈ wsX20, w ∈ wsX2_firstWrong := by decide +kernel
  have hf15 := hts (.fieldLink RX2 15 "HatNames$Page" "length" "I") (by decide +kernel)
  obtain ⟨hpl, hle⟩ := id hPg
  refine lv_iconst (v := nI 0) hx hb dX2_firstWrong_0 (by decide) ?_
  refine lv_istore_n (lv' := [(1, .int (nI 0)), (0, .ref h2)]) hx hb dX2_firstWrong_1 rfl hl (by decide) rfl (fun ls hl => ?_)
  have L2 : ∀ (fu : Nat) (i : Nat), i ≤ pl → fF (fun j => !ftS le j) pl 0 = fF (fun j => !ftS le j) (pl - i) i → pl - i < fu → ∀ (H : Heap) (locs : List Loc), va_P (dC, dI0) vwCl [(h2, .inr (2, [.ref l1, .int (nI pl)])), (l1, .inl (cI, 24, .inl lA))] H → va_D A [(h2, .inr (2, [.ref l1, .int (nI pl)])), (l1, .inl (cI, 24, .inl lA))] → va_S A s.heap H locs → ∀ (ls : Array Slot), lv_has ls 2 [(0, .ref h2), (1, .int (nI i))] → W prg l env ({ frames := 5, cells := 0, slots := 0, locals := 113 } : Room) s m ([.ref h2] : List Value).toArray below meth c H locs 0 0 Q (F0 m 2 ls []) := by
    intro fu
    induction fu with
    | zero => intro i hi ht hmu; exact absurd hmu (Nat.not_lt_zero _)
    | succ fu ih2 =>
      intro i hi ht hmu2 H locs hP hD hS ls hl
      refine lv_iload_n hx hb dX2_firstWrong_2 rfl (lv_at hl 1 rfl) ?_
      refine lv_aload_n hx hb dX2_firstWrong_3 rfl (lv_at hl 0 rfl) ?_
      refine va_get (D := (dC, dI0)) (ci := 2) (v := .int (nI pl)) (C := RX2) (T := TX2) (N := 2) hx hb hts hin_X2 hown hK hP 0 rfl rfl 1 (by decide) hf15 (fun _ h9 => h9) rfl dX2_firstWrong_4 ?_
      refine lv_icmp_ge (tgt := 26) hx hb dX2_firstWrong_7 (by decide) (fun c7 => ?_) (fun c7 => ?_)
      ·
        have c7 : pl ≤ i := (nI_leI (a := pl) (b := i) (by omega) (by omega)).mp c7
        refine lv_aload_n hx hb dX2_firstWrong_26 rfl (lv_at hl 0 rfl) ?_
        refine va_get (D := (dC, dI0)) (ci := 2) (v := .int (nI pl)) (C := RX2) (T := TX2) (N := 2) hx hb hts hin_X2 hown hK hP 0 rfl rfl 1 (by decide) hf15 (fun _ h9 => h9) rfl dX2_firstWrong_27 ?_
        subst hQ
        have hP9 : va_P (dC, dI0) vwCl [(h2, .inr (2, [.ref l1, .int (nI pl)])), (l1, .inl (cI, 24, .inl lA))] H := hP
        have hD9 : va_D A [(h2, .inr (2, [.ref l1, .int (nI pl)])), (l1, .inl (cI, 24, .inl lA))] := hD
        exact W.iret (v := nI pl) hx hb hr (fun t9 ht9 hW9 => ⟨⟨nI pl, (), rfl, by rw [fwS, ht, fF_e (by omega)]; rfl, by rw [ht9]; exact hP9, va_K.moved hW9.alike hK, hD9⟩, hS.F ht9⟩) hS.2.2 dX2_firstWrong_30
      have c7 : ¬ pl ≤ i := fun z => c7 ((nI_leI (a := pl) (b := i) (by omega) (by omega)).mpr z)
      refine lv_aload_n hx hb dX2_firstWrong_10 rfl (lv_at hl 0 rfl) ?_
      refine lv_iload_n hx hb dX2_firstWrong_11 rfl (lv_at hl 1 rfl) ?_
      have hPc := hP.sub (ws' := [(h2, .inr (2, [.ref l1, .int (nI pl)])), (l1, .inl (cI, 24, .inl lA))]) [0, 1] rfl
      have hDc := hD.sub (ws' := [(h2, .inr (2, [.ref l1, .int (nI pl)])), (l1, .inl (cI, 24, .inl lA))]) [0, 1] (by decide) rfl
      have hFc := va_free (wc := [(h2, .inr (2, [.ref l1, .int (nI pl)])), (l1, .inl (cI, 24, .inl lA))]) hD hS hA [0, 1] rfl
      refine va_calli (va_runV (As := [.int (nI i)]) (rest := []) ⟨hx, hb, hml, hown, hts⟩ (KX2_fits l dC dI0 cI cZ h2 l1 pl lA H.size sk sv le i (by first | assumption | omega) (by first | assumption | omega)) (cwV 1 hts gX2_firstWrong_X2_fits rfl rfl rfl (by decide +kernel) ⟨Nat.le_of_ble_eq_true rfl, Nat.le_of_ble_eq_true rfl⟩) ⟨fun a U g mk q => by obtain ⟨q0, q1, qP, qK, qD, qT⟩ := q; exact ⟨q0, q1, qP, va_K.moved (u := U) (U := U.calling g mk a) (Vm.Alike.refl U.vm) qK, qD, qT.call g mk a⟩, va_recv hK hPc (ci := 2) (q0 := 0) rfl rfl, fun U hU hW => ⟨rfl, by rw [hU], by rw [hU]; exact hPc, va_K.moved hW.alike hK, hDc.weaken (fun _ _ _ _ => trivial), hST.to hS hFc hU hW⟩⟩ rfl rfl hl.1 rfl (lv_room (Nat.le_of_ble_eq_true rfl)) dX2_firstWrong_12 ⟨Nat.le_of_ble_eq_true rfl, Nat.le_of_ble_eq_true rfl⟩) hS (fun q _ h => hFc q h) hFc (fun r12 u12 t7 H1 locs ht7 hvm7 hw12 hB hz1 hk1 hS => ?_)
      obtain ⟨hP1, hK1, hD1⟩ := hB
      rw [ht7] at hP1
      try dsimp only at hw12 hP1 hD1
      obtain ⟨hP, hD⟩ := va_join (wr := []) (w1 := [(h2, .inr (2, [.ref l1, .int (nI pl)])), (l1, .inl (cI, 24, .inl lA))]) hP hD [0, 1] [] rfl rfl (by decide) (by decide) hk1 hFc hP1 hD1
      generalize H1 = H at hP hS ⊢
      have hP := hP.sub (ws' := [(h2, .inr (2, [.ref l1, .int (nI pl)])), (l1, .inl (cI, 24, .inl lA))]) [0, 1] rfl
      have hD := hD.sub (ws' := [(h2, .inr (2, [.ref l1, .int (nI pl)])), (l1, .inl (cI, 24, .inl lA))]) [0, 1] (by decide) rfl
      obtain rfl : r12 = bI (ftS le i) := hw12
      refine lv_if_ne (tgt := 20) hx hb dX2_firstWrong_15 (by decide) (fun c15 => ?_) (fun c15 => ?_)
      ·
        have c15 : (ftS le i) = true := bI_n0 c15
        refine lv_iinc (v := nI (i + 1)) (lv' := [(1, .int (nI (i + 1))), (0, .ref h2)]) hx hb dX2_firstWrong_20 hl (k := 1) rfl (show nI i + Int32.ofInt 1 = nI (i + 1) from nI_add _ _) (by decide) rfl (fun ls hl => ?_)
        refine lv_goto (tgt := 2) hx hb dX2_firstWrong_23 (by decide) ?_
        exact ih2 (i + 1) (by omega) (ht.trans (fF_f (by omega) (by rw [c15]; rfl))) (by omega) _ _ hP hD hS ls (lv_sub hl [1, 0] rfl)
      have c15 : (ftS le i) = false := bI_0 c15
      refine lv_iload_n hx hb dX2_firstWrong_18 rfl (lv_at hl 1 rfl) ?_
      subst hQ
      have hP9 : va_P (dC, dI0) vwCl [(h2, .inr (2, [.ref l1, .int (nI pl)])), (l1, .inl (cI, 24, .inl lA))] H := hP
      have hD9 : va_D A [(h2, .inr (2, [.ref l1, .int (nI pl)])), (l1, .inl (cI, 24, .inl lA))] := hD
      exact W.iret (v := nI i) hx hb hr (fun t9 ht9 hW9 => ⟨⟨nI i, (), rfl, by rw [fwS, ht, fF_t (by omega) (by rw [c15]; rfl)]; rfl, by rw [ht9]; exact hP9, va_K.moved hW9.alike hK, hD9⟩, hS.F ht9⟩) hS.2.2 dX2_firstWrong_19
  exact L2 _ 0 (by omega) (rfl) (Nat.lt_succ_self _) _ _ hP hD hS ls (lv_sub hl [1, 0] rfl)

set_option maxHeartbeats 4000000 in
set_option maxRecDepth 100000 in
theorem KX2_isCompany (l : Launch) (dC : Nat → ClassId) (dI0 : Nat → Nat → Nat) (cI cZ : ClassId) (h2 : Nat) (l1 : Nat) (pl : Nat) (lA : Nat → Int32) (sz : Nat) (sk sv : Nat) (le : Nat → Nat) (hPg : PgR pl lA le) : Met l yX2_isCompany wsX2_isCompany ({ frames := 6, cells := 0, slots := 0, locals := 134 } : Room) (va_Pc [.ref h2] (fun U => U.heap.size = sz ∧ va_P (dC, dI0) vwCl (WPg cI cZ h2 l1 pl lA) U.heap ∧ va_K (dC, dI0) vwCl [(cI, .int), (cZ, .boolean)] U ∧ va_D (fun _ => True) (WPg cI cZ h2 l1 pl lA) ∧ STR sk sv (va_A (WPg cI cZ h2 l1 pl lA) sz) U U.heap)) (va_Qi (fun (r : Int32) (u : Unit) => r = bI (icS pl le)) (fun (u : Unit) (t : State) => va_P (dC, dI0) vwCl (WPg cI cZ h2 l1 pl lA) t.heap ∧ va_K (dC, dI0) vwCl [(cI, .int), (cZ, .boolean)] t ∧ va_D (va_A (WPg cI cZ h2 l1 pl lA) sz) (WPg cI cZ h2 l1 pl lA)) (va_A (WPg cI cZ h2 l1 pl lA) sz)) 0 0 (va_A (WPg cI cZ h2 l1 pl lA) sz) := by
  refine Met.ofW (cc := cX2_isCompany) (maxL := 1) (ret := (some .boolean)) (by decide) rfl ?_
  intro prg env s m args below meth c s₁ B hml hv
  obtain ⟨rfl, hsz, hP, hK, hD0, hST⟩ := hv
  have hx := B.exec
  have hb := B.bytes
  have hr := B.returns
  have hts := atoms_spec (ws := wsX2_isCompany) B.pre
  have hown : s.vm.findClass RX2 = some m.cls := findClass_of_methodNamed B.named
  have hlocks := B.notSynchronized
  subst hsz
  have hD := hD0.self (sz := s.heap.size)
  generalize hAe : va_A (WPg cI cZ h2 l1 pl lA) s.heap.size = A at hD hST ⊢
  have hA : ∀ q : Nat, s.heap.size ≤ q → A q := fun q h => by rw [← hAe]; exact Or.inr h
  have hS : va_S A s.heap s.heap [] := va_S.rf
  have hP : va_P (dC, dI0) vwCl [(h2, .inr (2, [.ref l1, .int (nI pl)])), (l1, .inl (cI, 24, .inl lA))] s.heap := hP
  have hD : va_D A [(h2, .inr (2, [.ref l1, .int (nI pl)])), (l1, .inl (cI, 24, .inl lA))] := hD
  have hl := lv_entry ([.ref h2]) (n := 1) (Nat.le_of_ble_eq_true rfl)
  rw [lg_entry_eq]
  generalize (lg_sl ([.ref h2]) ++ List.replicate (1 - (lg_sl ([.ref h2])).length) Slot.unset).toArray = ls at hl ⊢
  have hl : lv_has ls 1 [(0, .ref h2)] := hl
  obtain ⟨H, hH⟩ : ∃ H : Heap, H = s.heap := ⟨_, rfl⟩
  rw [← hH] at hP ⊢
  have hS : va_S A s.heap H [] := by rw [hH]; exact hS
  refine w_gen (fun Q hQ => ?_)
  have hin_X2 : ∀ w ∈ wsX20, w ∈ wsX2_isCompany := by decide +kernel
  have hf15 := hts (.fieldLink RX2 15 "HatNames$Page" "length" "I") (by decide +kernel)
  obtain ⟨hpl, hle⟩ := id hPg
  refine lv_aload_n hx hb dX2_isCompany_0 rfl (lv_at hl 0 rfl) ?_
  refine va_get (D := (dC, dI0)) (ci := 2) (v := .int (nI pl)) (C := RX2) (T := TX2) (N := 2) hx hb hts hin_X2 hown hK hP 0 rfl rfl 1 (by decide) hf15 (fun _ h9 => h9) rfl dX2_isCompany_1 ?_
  refine lv_iconst (v := nI 5) hx hb dX2_isCompany_4 (by decide) ?_
  refine lv_icmp_lt (tgt := 33) hx hb dX2_isCompany_5 (by decide) (fun c5 => ?_) (fun c5 => ?_)
  ·
    have c5 : pl < 5 := (nI_ltI (a := pl) (b := 5) (by omega) (by omega)).mp c5
    refine lv_iconst (v := nI 0) hx hb dX2_isCompany_33 (by decide) ?_
    subst hQ
    have hP9 : va_P (dC, dI0) vwCl [(h2, .inr (2, [.ref l1, .int (nI pl)])), (l1, .inl (cI, 24, .inl lA))] H := hP
    have hD9 : va_D A [(h2, .inr (2, [.ref l1, .int (nI pl)])), (l1, .inl (cI, 24, .inl lA))] := hD
    exact W.zret (v := nI 0) hx hb hr (nar_z false) (fun t9 ht9 hW9 => ⟨⟨nI 0, (), rfl, bI_2 (decide_eq_false (fun z => by omega)), by rw [ht9]; exact hP9, va_K.moved hW9.alike hK, hD9⟩, hS.F ht9⟩) hS.2.2 dX2_isCompany_34
  have c5 : ¬ pl < 5 := fun z => c5 ((nI_ltI (a := pl) (b := 5) (by omega) (by omega)).mpr z)
  refine lv_aload_n hx hb dX2_isCompany_8 rfl (lv_at hl 0 rfl) ?_
  refine va_get (D := (dC, dI0)) (ci := 2) (v := .int (nI pl)) (C := RX2) (T := TX2) (N := 2) hx hb hts hin_X2 hown hK hP 0 rfl rfl 1 (by decide) hf15 (fun _ h9 => h9) rfl dX2_isCompany_9 ?_
  refine lv_iconst (v := nI 3) hx hb dX2_isCompany_12 (by decide) ?_
  refine lv_irem hx hb dX2_isCompany_13 (by decide) ?_
  refine lv_topi (fun x13 e13 => ?_)
  obtain rfl : x13 = nI (pl % 3) := e13.trans (pk_rem (by omega) (by omega) (by omega))
  refine lv_iconst (v := nI 2) hx hb dX2_isCompany_14 (by decide) ?_
  refine lv_icmp_ne (tgt := 33) hx hb dX2_isCompany_15 (by decide) (fun c15 => ?_) (fun c15 => ?_)
  ·
    have c15 : ¬ (pl % 3) = 2 := fun z => c15 ((nI_eq (a := (pl % 3)) (b := 2) (by omega) (by omega)).mpr z)
    refine lv_iconst (v := nI 0) hx hb dX2_isCompany_33 (by decide) ?_
    subst hQ
    have hP9 : va_P (dC, dI0) vwCl [(h2, .inr (2, [.ref l1, .int (nI pl)])), (l1, .inl (cI, 24, .inl lA))] H := hP
    have hD9 : va_D A [(h2, .inr (2, [.ref l1, .int (nI pl)])), (l1, .inl (cI, 24, .inl lA))] := hD
    exact W.zret (v := nI 0) hx hb hr (nar_z false) (fun t9 ht9 hW9 => ⟨⟨nI 0, (), rfl, bI_2 (decide_eq_false (fun z => by omega)), by rw [ht9]; exact hP9, va_K.moved hW9.alike hK, hD9⟩, hS.F ht9⟩) hS.2.2 dX2_isCompany_34
  have c15 : (pl % 3) = 2 := (nI_eq (a := (pl % 3)) (b := 2) (by omega) (by omega)).mp c15
  refine lv_aload_n hx hb dX2_isCompany_18 rfl (lv_at hl 0 rfl) ?_
  have hPc := hP.sub (ws' := [(h2, .inr (2, [.ref l1, .int (nI pl)])), (l1, .inl (cI, 24, .inl lA))]) [0, 1] rfl
  have hDc := hD.sub (ws' := [(h2, .inr (2, [.ref l1, .int (nI pl)])), (l1, .inl (cI, 24, .inl lA))]) [0, 1] (by decide) rfl
  have hFc := va_free (wc := [(h2, .inr (2, [.ref l1, .int (nI pl)])), (l1, .inl (cI, 24, .inl lA))]) hD hS hA [0, 1] rfl
  refine va_calli (va_runV (As := []) (rest := []) ⟨hx, hb, hml, hown, hts⟩ (KX2_firstWrong l dC dI0 cI cZ h2 l1 pl lA H.size sk sv le (by first | assumption | omega)) (cwV 0 hts gX2_isCompany_X2_firstWrong rfl rfl rfl (by decide +kernel) ⟨Nat.le_of_ble_eq_true rfl, Nat.le_of_ble_eq_true rfl⟩) ⟨fun a U g mk q => by obtain ⟨q0, q1, qP, qK, qD, qT⟩ := q; exact ⟨q0, q1, qP, va_K.moved (u := U) (U := U.calling g mk a) (Vm.Alike.refl U.vm) qK, qD, qT.call g mk a⟩, va_recv hK hPc (ci := 2) (q0 := 0) rfl rfl, fun U hU hW => ⟨rfl, by rw [hU], by rw [hU]; exact hPc, va_K.moved hW.alike hK, hDc.weaken (fun _ _ _ _ => trivial), hST.to hS hFc hU hW⟩⟩ rfl rfl hl.1 rfl (lv_room (Nat.le_of_ble_eq_true rfl)) dX2_isCompany_19 ⟨Nat.le_of_ble_eq_true rfl, Nat.le_of_ble_eq_true rfl⟩) hS (fun q _ h => hFc q h) hFc (fun r19 u19 t7 H1 locs ht7 hvm7 hw19 hB hz1 hk1 hS => ?_)
  obtain ⟨hP1, hK1, hD1⟩ := hB
  rw [ht7] at hP1
  try dsimp only at hw19 hP1 hD1
  obtain ⟨hP, hD⟩ := va_join (wr := []) (w1 := [(h2, .inr (2, [.ref l1, .int (nI pl)])), (l1, .inl (cI, 24, .inl lA))]) hP hD [0, 1] [] rfl rfl (by decide) (by decide) hk1 hFc hP1 hD1
  generalize H1 = H at hP hS ⊢
  have hP := hP.sub (ws' := [(h2, .inr (2, [.ref l1, .int (nI pl)])), (l1, .inl (cI, 24, .inl lA))]) [0, 1] rfl
  have hD := hD.sub (ws' := [(h2, .inr (2, [.ref l1, .int (nI pl)])), (l1, .inl (cI, 24, .inl lA))]) [0, 1] (by decide) rfl
  obtain rfl : r19 = nI (fwS pl le) := hw19
  have hfl := fwS_le pl le
  refine lv_aload_n hx hb dX2_isCompany_22 rfl (lv_at hl 0 rfl) ?_
  refine va_get (D := (dC, dI0)) (ci := 2) (v := .int (nI pl)) (C := RX2) (T := TX2) (N := 2) hx hb hts hin_X2 hown hK hP 0 rfl rfl 1 (by decide) hf15 (fun _ h9 => h9) rfl dX2_isCompany_23 ?_
  refine lv_icmp_ne (tgt := 33) hx hb dX2_isCompany_26 (by decide) (fun c26 => ?_) (fun c26 => ?_)
  ·
    have c26 : ¬ (fwS pl le) = pl := fun z => c26 ((nI_eq (a := (fwS pl le)) (b := pl) (by omega) (by omega)).mpr z)
    refine lv_iconst (v := nI 0) hx hb dX2_isCompany_33 (by decide) ?_
    subst hQ
    have hP9 : va_P (dC, dI0) vwCl [(h2, .inr (2, [.ref l1, .int (nI pl)])), (l1, .inl (cI, 24, .inl lA))] H := hP
    have hD9 : va_D A [(h2, .inr (2, [.ref l1, .int (nI pl)])), (l1, .inl (cI, 24, .inl lA))] := hD
    exact W.zret (v := nI 0) hx hb hr (nar_z false) (fun t9 ht9 hW9 => ⟨⟨nI 0, (), rfl, bI_2 (decide_eq_false (fun z => by omega)), by rw [ht9]; exact hP9, va_K.moved hW9.alike hK, hD9⟩, hS.F ht9⟩) hS.2.2 dX2_isCompany_34
  have c26 : (fwS pl le) = pl := (nI_eq (a := (fwS pl le)) (b := pl) (by omega) (by omega)).mp c26
  refine lv_iconst (v := nI 1) hx hb dX2_isCompany_29 (by decide) ?_
  refine lv_goto (tgt := 34) hx hb dX2_isCompany_30 (by decide) ?_
  subst hQ
  have hP9 : va_P (dC, dI0) vwCl [(h2, .inr (2, [.ref l1, .int (nI pl)])), (l1, .inl (cI, 24, .inl lA))] H := hP
  have hD9 : va_D A [(h2, .inr (2, [.ref l1, .int (nI pl)])), (l1, .inl (cI, 24, .inl lA))] := hD
  exact W.zret (v := nI 1) hx hb hr (nar_z true) (fun t9 ht9 hW9 => ⟨⟨nI 1, (), rfl, bI_1 (decide_eq_true ⟨by omega, by omega, c26⟩), by rw [ht9]; exact hP9, va_K.moved hW9.alike hK, hD9⟩, hS.F ht9⟩) hS.2.2 dX2_isCompany_34

set_option maxHeartbeats 4000000 in
set_option maxRecDepth 100000 in
theorem KX2_persons (l : Launch) (dC : Nat → ClassId) (dI0 : Nat → Nat → Nat) (cI cZ : ClassId) (h2 : Nat) (l1 : Nat) (pl : Nat) (lA : Nat → Int32) (sz : Nat) (le : Nat → Nat) (hPg : PgR pl lA le) : Met l yX2_persons wsX2_persons ({ frames := 0, cells := 0, slots := 0, locals := 0 } : Room) (va_Pc [.ref h2] (fun U => U.heap.size = sz ∧ va_P (dC, dI0) vwCl (WPg cI cZ h2 l1 pl lA) U.heap ∧ va_K (dC, dI0) vwCl [(cI, .int), (cZ, .boolean)] U ∧ va_D (fun _ => True) (WPg cI cZ h2 l1 pl lA))) (va_Qi (fun (r : Int32) (u : Unit) => r = nI ((pl + 1) / 3)) (fun (u : Unit) (t : State) => va_P (dC, dI0) vwCl (WPg cI cZ h2 l1 pl lA) t.heap ∧ va_K (dC, dI0) vwCl [(cI, .int), (cZ, .boolean)] t ∧ va_D (va_A (WPg cI cZ h2 l1 pl lA) sz) (WPg cI cZ h2 l1 pl lA)) (va_A (WPg cI cZ h2 l1 pl lA) sz)) 0 0 (va_A (WPg cI cZ h2 l1 pl lA) sz) := by
  refine Met.ofW (cc := cX2_persons) (maxL := 1) (ret := (some .int)) (by decide) rfl ?_
  intro prg env s m args below meth c s₁ B hml hv
  obtain ⟨rfl, hsz, hP, hK, hD0⟩ := hv
  have hx := B.exec
  have hb := B.bytes
  have hr := B.returns
  have hts := atoms_spec (ws := wsX2_persons) B.pre
  have hown : s.vm.findClass RX2 = some m.cls := findClass_of_methodNamed B.named
  have hlocks := B.notSynchronized
  subst hsz
  have hD := hD0.self (sz := s.heap.size)
  generalize hAe : va_A (WPg cI cZ h2 l1 pl lA) s.heap.size = A at hD ⊢
  have hA : ∀ q : Nat, s.heap.size ≤ q → A q := fun q h => by rw [← hAe]; exact Or.inr h
  have hS : va_S A s.heap s.heap [] := va_S.rf
  have hP : va_P (dC, dI0) vwCl [(h2, .inr (2, [.ref l1, .int (nI pl)])), (l1, .inl (cI, 24, .inl lA))] s.heap := hP
  have hD : va_D A [(h2, .inr (2, [.ref l1, .int (nI pl)])), (l1, .inl (cI, 24, .inl lA))] := hD
  have hl := lv_entry ([.ref h2]) (n := 1) (Nat.le_of_ble_eq_true rfl)
  rw [lg_entry_eq]
  generalize (lg_sl ([.ref h2]) ++ List.replicate (1 - (lg_sl ([.ref h2])).length) Slot.unset).toArray = ls at hl ⊢
  have hl : lv_has ls 1 [(0, .ref h2)] := hl
  obtain ⟨H, hH⟩ : ∃ H : Heap, H = s.heap := ⟨_, rfl⟩
  rw [← hH] at hP ⊢
  have hS : va_S A s.heap H [] := by rw [hH]; exact hS
  refine w_gen (fun Q hQ => ?_)
  have hin_X2 : ∀ w ∈ wsX20, w ∈ wsX2_persons := by decide +kernel
  have hf15 := hts (.fieldLink RX2 15 "HatNames$Page" "length" "I") (by decide +kernel)
  obtain ⟨hpl, hle⟩ := id hPg
  refine lv_aload_n hx hb dX2_persons_0 rfl (lv_at hl 0 rfl) ?_
  refine va_get (D := (dC, dI0)) (ci := 2) (v := .int (nI pl)) (C := RX2) (T := TX2) (N := 2) hx hb hts hin_X2 hown hK hP 0 rfl rfl 1 (by decide) hf15 (fun _ h9 => h9) rfl dX2_persons_1 ?_
  refine lv_iconst (v := nI 1) hx hb dX2_persons_4 (by decide) ?_
  refine lv_iadd hx hb dX2_persons_5 ?_
  refine lv_topi (fun x5 e5 => ?_)
  obtain rfl : x5 = nI (pl + 1) := e5.trans (nI_add _ _)
  refine lv_iconst (v := nI 3) hx hb dX2_persons_6 (by decide) ?_
  refine lv_idiv hx hb dX2_persons_7 (by decide) ?_
  refine lv_topi (fun x7 e7 => ?_)
  obtain rfl : x7 = nI ((pl + 1) / 3) := e7.trans (pk_div (by omega) (by omega) (by omega))
  subst hQ
  have hP9 : va_P (dC, dI0) vwCl [(h2, .inr (2, [.ref l1, .int (nI pl)])), (l1, .inl (cI, 24, .inl lA))] H := hP
  have hD9 : va_D A [(h2, .inr (2, [.ref l1, .int (nI pl)])), (l1, .inl (cI, 24, .inl lA))] := hD
  exact W.iret (v := nI ((pl + 1) / 3)) hx hb hr (fun t9 ht9 hW9 => ⟨⟨nI ((pl + 1) / 3), (), rfl, rfl, by rw [ht9]; exact hP9, va_K.moved hW9.alike hK, hD9⟩, hS.F ht9⟩) hS.2.2 dX2_persons_8

set_option maxHeartbeats 4000000 in
set_option maxRecDepth 100000 in
theorem KX2_kindOf (l : Launch) (dC : Nat → ClassId) (dI0 : Nat → Nat → Nat) (cI cZ : ClassId) (h2 : Nat) (l1 : Nat) (pl : Nat) (lA : Nat → Int32) (sz : Nat) (sk sv : Nat) (le : Nat → Nat) (p : Nat) (hPg : PgR pl lA le) (hp : p * 3 < pl) : Met l yX2_kindOf wsX2_kindOf ({ frames := 4, cells := 0, slots := 0, locals := 91 } : Room) (va_Pc [.ref h2, .int (nI p)] (fun U => U.heap.size = sz ∧ va_P (dC, dI0) vwCl (WPg cI cZ h2 l1 pl lA) U.heap ∧ va_K (dC, dI0) vwCl [(cI, .int), (cZ, .boolean)] U ∧ va_D (fun _ => True) (WPg cI cZ h2 l1 pl lA) ∧ STR sk sv (va_A (WPg cI cZ h2 l1 pl lA) sz) U U.heap)) (va_Qi (fun (r : Int32) (u : Unit) => r = dI (kcS (le (p * 3)))) (fun (u : Unit) (t : State) => va_P (dC, dI0) vwCl (WPg cI cZ h2 l1 pl lA) t.heap ∧ va_K (dC, dI0) vwCl [(cI, .int), (cZ, .boolean)] t ∧ va_D (va_A (WPg cI cZ h2 l1 pl lA) sz) (WPg cI cZ h2 l1 pl lA)) (va_A (WPg cI cZ h2 l1 pl lA) sz)) 0 0 (va_A (WPg cI cZ h2 l1 pl lA) sz) := by
  refine Met.ofW (cc := cX2_kindOf) (maxL := 2) (ret := (some .int)) (by decide) rfl ?_
  intro prg env s m args below meth c s₁ B hml hv
  obtain ⟨rfl, hsz, hP, hK, hD0, hST⟩ := hv
  have hx := B.exec
  have hb := B.bytes
  have hr := B.returns
  have hts := atoms_spec (ws := wsX2_kindOf) B.pre
  have hown : s.vm.findClass RX2 = some m.cls := findClass_of_methodNamed B.named
  have hlocks := B.notSynchronized
  subst hsz
  have hD := hD0.self (sz := s.heap.size)
  generalize hAe : va_A (WPg cI cZ h2 l1 pl lA) s.heap.size = A at hD hST ⊢
  have hA : ∀ q : Nat, s.heap.size ≤ q → A q := fun q h => by rw [← hAe]; exact Or.inr h
  have hS : va_S A s.heap s.heap [] := va_S.rf
  have hP : va_P (dC, dI0) vwCl [(h2, .inr (2, [.ref l1, .int (nI pl)])), (l1, .inl (cI, 24, .inl lA))] s.heap := hP
  have hD : va_D A [(h2, .inr (2, [.ref l1, .int (nI pl)])), (l1, .inl (cI, 24, .inl lA))] := hD
  have hl := lv_entry ([.ref h2, .int (nI p)]) (n := 2) (Nat.le_of_ble_eq_true rfl)
  rw [lg_entry_eq]
  generalize (lg_sl ([.ref h2, .int (nI p)]) ++ List.replicate (2 - (lg_sl ([.ref h2, .int (nI p)])).length) Slot.unset).toArray = ls at hl ⊢
  have hl : lv_has ls 2 [(0, .ref h2), (1, .int (nI p))] := hl
  obtain ⟨H, hH⟩ : ∃ H : Heap, H = s.heap := ⟨_, rfl⟩
  rw [← hH] at hP ⊢
  have hS : va_S A s.heap H [] := by rw [hH]; exact hS
  refine w_gen (fun Q hQ => ?_)
  have hin_X2 : ∀ w ∈ wsX20, w ∈ wsX2_kindOf := by decide +kernel
  have hf11 := hts (.fieldLink RX2 11 "HatNames$Page" "letters" "[I") (by decide +kernel)
  obtain ⟨hpl, hle⟩ := id hPg
  refine va_ldcS hx hb hown hST.2.2.2.2.1 dX2_kindOf_0 ?_
  refine lv_aload_n hx hb dX2_kindOf_2 rfl (lv_at hl 0 rfl) ?_
  refine va_get (D := (dC, dI0)) (ci := 2) (v := .ref l1) (C := RX2) (T := TX2) (N := 2) hx hb hts hin_X2 hown hK hP 0 rfl rfl 0 (by decide) hf11 (fun _ h9 => h9) rfl dX2_kindOf_3 ?_
  refine lv_iload_n hx hb dX2_kindOf_6 rfl (lv_at hl 1 rfl) ?_
  refine lv_iconst (v := nI 3) hx hb dX2_kindOf_7 (by decide) ?_
  refine lv_imul hx hb dX2_kindOf_8 ?_
  refine lv_topi (fun x8 e8 => ?_)
  obtain rfl : x8 = nI (p * 3) := e8.trans (pk_mul _ _)
  refine va_iald hx hb hK hP 1 0 rfl rfl (vp_in_nI (by omega) (by decide)) dX2_kindOf_9 ?_
  refine lv_topi (fun x9 e9 => ?_)
  rw [nI_clamp (n := p * 3) (by omega)] at e9
  have hle7 := (hle (p * 3) (by omega)).2
  obtain rfl : x9 = nI (le (p * 3)) := e9.trans (hle (p * 3) (by omega)).1
  refine lv_i2c hx hb dX2_kindOf_10 rfl ?_
  refine lv_topi (fun x10 e10 => ?_)
  obtain rfl : x10 = nI (le (p * 3)) := e10.trans (i2c_nI (by omega))
  have hPc := hP.sub (ws' := []) [] rfl
  have hDc := hD.sub (ws' := []) [] (by decide) rfl
  have hFc := va_free (wc := []) hD hS hA [] rfl
  refine va_calli (va_runV (As := [.int (nI (le (p * 3)))]) (rest := []) ⟨hx, hb, hml, hown, hts⟩ (KJ0_indexOf_0f7a4 l dC dI0 cI cZ  H.size sk sv (le (p * 3)) (by first | assumption | omega)) (cwV 1 hts gX2_kindOf_J0_indexOf_0f7a4 rfl rfl rfl (by decide +kernel) ⟨Nat.le_of_ble_eq_true rfl, Nat.le_of_ble_eq_true rfl⟩) ⟨fun a U g mk q => by obtain ⟨q0, q1, qP, qK, qD, qT⟩ := q; exact ⟨q0, q1, qP, va_K.moved (u := U) (U := U.calling g mk a) (Vm.Alike.refl U.vm) qK, qD, qT.call g mk a⟩, hST.recv hS, fun U hU hW => ⟨rfl, by rw [hU], by rw [hU]; exact hPc, va_K.moved hW.alike hK, hDc.weaken (fun _ _ _ _ => trivial), hST.to hS hFc hU hW⟩⟩ rfl rfl hl.1 rfl (lv_room (Nat.le_of_ble_eq_true rfl)) dX2_kindOf_11 ⟨Nat.le_of_ble_eq_true rfl, Nat.le_of_ble_eq_true rfl⟩) hS (fun q _ h => hFc q h) hFc (fun r11 u11 t7 H1 locs ht7 hvm7 hw11 hB hz1 hk1 hS => ?_)
  obtain ⟨hP1, hK1, hD1⟩ := hB
  rw [ht7] at hP1
  try dsimp only at hw11 hP1 hD1
  obtain ⟨hP, hD⟩ := va_join (wr := [(h2, .inr (2, [.ref l1, .int (nI pl)])), (l1, .inl (cI, 24, .inl lA))]) (w1 := []) hP hD [] [0, 1] rfl rfl (by decide) (by decide) hk1 hFc hP1 hD1
  generalize H1 = H at hP hS ⊢
  have hP := hP.sub (ws' := [(h2, .inr (2, [.ref l1, .int (nI pl)])), (l1, .inl (cI, 24, .inl lA))]) [0, 1] rfl
  have hD := hD.sub (ws' := [(h2, .inr (2, [.ref l1, .int (nI pl)])), (l1, .inl (cI, 24, .inl lA))]) [0, 1] (by decide) rfl
  obtain rfl : r11 = dI (kcS (le (p * 3))) := hw11
  subst hQ
  have hP9 : va_P (dC, dI0) vwCl [(h2, .inr (2, [.ref l1, .int (nI pl)])), (l1, .inl (cI, 24, .inl lA))] H := hP
  have hD9 : va_D A [(h2, .inr (2, [.ref l1, .int (nI pl)])), (l1, .inl (cI, 24, .inl lA))] := hD
  exact W.iret (v := dI (kcS (le (p * 3)))) hx hb hr (fun t9 ht9 hW9 => ⟨⟨dI (kcS (le (p * 3))), (), rfl, rfl, by rw [ht9]; exact hP9, va_K.moved hW9.alike hK, hD9⟩, hS.F ht9⟩) hS.2.2 dX2_kindOf_14

set_option maxHeartbeats 4000000 in
set_option maxRecDepth 100000 in
theorem KX2_houseOf (l : Launch) (dC : Nat → ClassId) (dI0 : Nat → Nat → Nat) (cI cZ : ClassId) (h2 : Nat) (l1 : Nat) (pl : Nat) (lA : Nat → Int32) (sz : Nat) (le : Nat → Nat) (p : Nat) (hPg : PgR pl lA le) (hp : p * 3 + 1 < pl) (hge : 48 ≤ le (p * 3 + 1)) : Met l yX2_houseOf wsX2_houseOf ({ frames := 0, cells := 0, slots := 0, locals := 0 } : Room) (va_Pc [.ref h2, .int (nI p)] (fun U => U.heap.size = sz ∧ va_P (dC, dI0) vwCl (WPg cI cZ h2 l1 pl lA) U.heap ∧ va_K (dC, dI0) vwCl [(cI, .int), (cZ, .boolean)] U ∧ va_D (fun _ => True) (WPg cI cZ h2 l1 pl lA))) (va_Qi (fun (r : Int32) (u : Unit) => r = nI (le (p * 3 + 1) - 48)) (fun (u : Unit) (t : State) => va_P (dC, dI0) vwCl (WPg cI cZ h2 l1 pl lA) t.heap ∧ va_K (dC, dI0) vwCl [(cI, .int), (cZ, .boolean)] t ∧ va_D (va_A (WPg cI cZ h2 l1 pl lA) sz) (WPg cI cZ h2 l1 pl lA)) (va_A (WPg cI cZ h2 l1 pl lA) sz)) 0 0 (va_A (WPg cI cZ h2 l1 pl lA) sz) := by
  refine Met.ofW (cc := cX2_houseOf) (maxL := 2) (ret := (some .int)) (by decide) rfl ?_
  intro prg env s m args below meth c s₁ B hml hv
  obtain ⟨rfl, hsz, hP, hK, hD0⟩ := hv
  have hx := B.exec
  have hb := B.bytes
  have hr := B.returns
  have hts := atoms_spec (ws := wsX2_houseOf) B.pre
  have hown : s.vm.findClass RX2 = some m.cls := findClass_of_methodNamed B.named
  have hlocks := B.notSynchronized
  subst hsz
  have hD := hD0.self (sz := s.heap.size)
  generalize hAe : va_A (WPg cI cZ h2 l1 pl lA) s.heap.size = A at hD ⊢
  have hA : ∀ q : Nat, s.heap.size ≤ q → A q := fun q h => by rw [← hAe]; exact Or.inr h
  have hS : va_S A s.heap s.heap [] := va_S.rf
  have hP : va_P (dC, dI0) vwCl [(h2, .inr (2, [.ref l1, .int (nI pl)])), (l1, .inl (cI, 24, .inl lA))] s.heap := hP
  have hD : va_D A [(h2, .inr (2, [.ref l1, .int (nI pl)])), (l1, .inl (cI, 24, .inl lA))] := hD
  have hl := lv_entry ([.ref h2, .int (nI p)]) (n := 2) (Nat.le_of_ble_eq_true rfl)
  rw [lg_entry_eq]
  generalize (lg_sl ([.ref h2, .int (nI p)]) ++ List.replicate (2 - (lg_sl ([.ref h2, .int (nI p)])).length) Slot.unset).toArray = ls at hl ⊢
  have hl : lv_has ls 2 [(0, .ref h2), (1, .int (nI p))] := hl
  obtain ⟨H, hH⟩ : ∃ H : Heap, H = s.heap := ⟨_, rfl⟩
  rw [← hH] at hP ⊢
  have hS : va_S A s.heap H [] := by rw [hH]; exact hS
  refine w_gen (fun Q hQ => ?_)
  have hin_X2 : ∀ w ∈ wsX20, w ∈ wsX2_houseOf := by decide +kernel
  have hf11 := hts (.fieldLink RX2 11 "HatNames$Page" "letters" "[I") (by decide +kernel)
  obtain ⟨hpl, hle⟩ := id hPg
  refine lv_aload_n hx hb dX2_houseOf_0 rfl (lv_at hl 0 rfl) ?_
  refine va_get (D := (dC, dI0)) (ci := 2) (v := .ref l1) (C := RX2) (T := TX2) (N := 2) hx hb hts hin_X2 hown hK hP 0 rfl rfl 0 (by decide) hf11 (fun _ h9 => h9) rfl dX2_houseOf_1 ?_
  refine lv_iload_n hx hb dX2_houseOf_4 rfl (lv_at hl 1 rfl) ?_
  refine lv_iconst (v := nI 3) hx hb dX2_houseOf_5 (by decide) ?_
  refine lv_imul hx hb dX2_houseOf_6 ?_
  refine lv_topi (fun x6 e6 => ?_)
  obtain rfl : x6 = nI (p * 3) := e6.trans (pk_mul _ _)
  refine lv_iconst (v := nI 1) hx hb dX2_houseOf_7 (by decide) ?_
  refine lv_iadd hx hb dX2_houseOf_8 ?_
  refine lv_topi (fun x8 e8 => ?_)
  obtain rfl : x8 = nI ((p * 3) + 1) := e8.trans (nI_add _ _)
  refine va_iald hx hb hK hP 1 0 rfl rfl (vp_in_nI (by omega) (by decide)) dX2_houseOf_9 ?_
  refine lv_topi (fun x9 e9 => ?_)
  rw [nI_clamp (n := (p * 3) + 1) (by omega)] at e9
  have hle7 := (hle ((p * 3) + 1) (by omega)).2
  obtain rfl : x9 = nI (le ((p * 3) + 1)) := e9.trans (hle ((p * 3) + 1) (by omega)).1
  refine lv_bipush (v := nI 48) hx hb dX2_houseOf_10 (by decide) ?_
  refine lv_isub hx hb dX2_houseOf_12 ?_
  refine lv_topi (fun x12 e12 => ?_)
  obtain rfl : x12 = nI ((le ((p * 3) + 1)) - 48) := e12.trans (pk_sub (by omega))
  subst hQ
  have hP9 : va_P (dC, dI0) vwCl [(h2, .inr (2, [.ref l1, .int (nI pl)])), (l1, .inl (cI, 24, .inl lA))] H := hP
  have hD9 : va_D A [(h2, .inr (2, [.ref l1, .int (nI pl)])), (l1, .inl (cI, 24, .inl lA))] := hD
  exact W.iret (v := nI ((le ((p * 3) + 1)) - 48)) hx hb hr (fun t9 ht9 hW9 => ⟨⟨nI ((le ((p * 3) + 1)) - 48), (), rfl, rfl, by rw [ht9]; exact hP9, va_K.moved hW9.alike hK, hD9⟩, hS.F ht9⟩) hS.2.2 dX2_houseOf_13

set_option maxHeartbeats 4000000 in
set_option maxRecDepth 100000 in
theorem KX0_read (l : Launch) (dC : Nat → ClassId) (dI0 : Nat → Nat → Nat) (cI cZ : ClassId) (h0 : Nat) (a1 : Nat) (a2 : Nat) (a3 : Nat) (a4 : Nat) (a5 : Nat) (a6 : Nat) (a7 : Nat) (n : Nat) (dr : Nat) (sc : Nat) (kA : Nat → Int32) (hsA : Nat → Int32) (dA : Nat → Int32) (bA : Nat → Int32) (pA : Nat → Int32) (nA : Nat → Int32) (mA : Nat → Int32) (h2 : Nat) (l1 : Nat) (pl : Nat) (lA : Nat → Int32) (sz : Nat) (sk sv : Nat) (le : Nat → Nat) (hPg : PgR pl lA le) (hic : icS pl le = true) : Met l yX0_read wsX0_read ({ frames := 5, cells := 0, slots := 0, locals := 112 } : Room) (va_Pc [.ref h0, .ref h2] (fun U => U.heap.size = sz ∧ va_P (dC, dI0) vwCl (WCP cI cZ h0 a1 a2 a3 a4 a5 a6 a7 n dr sc kA hsA dA bA pA nA mA h2 l1 pl lA) U.heap ∧ va_K (dC, dI0) vwCl [(cI, .int), (cZ, .boolean)] U ∧ va_D (fun _ => True) (WCP cI cZ h0 a1 a2 a3 a4 a5 a6 a7 n dr sc kA hsA dA bA pA nA mA h2 l1 pl lA) ∧ STR sk sv (va_A (WCP cI cZ h0 a1 a2 a3 a4 a5 a6 a7 n dr sc kA hsA dA bA pA nA mA h2 l1 pl lA) sz) U U.heap)) (va_Qv (fun (u : (Nat → Int32) × (Nat → Int32) × (Nat → Int32) × (Nat → Int32)) => (∀ p, p < (pl + 1) / 3 → u.1 p = nI (kpS le p)) ∧ (∀ p, p < (pl + 1) / 3 → u.2.1 p = nI (hpS le p)) ∧ (∀ p, p < 7 → u.2.2.1 p = -1) ∧ (∀ p, p < 7 → u.2.2.2 p = 0)) (fun (u : (Nat → Int32) × (Nat → Int32) × (Nat → Int32) × (Nat → Int32)) (t : State) => va_P (dC, dI0) vwCl (WCP cI cZ h0 a1 a2 a3 a4 a5 a6 a7 ((pl + 1) / 3) 0 0 u.1 u.2.1 u.2.2.1 u.2.2.2 pA nA mA h2 l1 pl lA) t.heap ∧ va_K (dC, dI0) vwCl [(cI, .int), (cZ, .boolean)] t ∧ va_D (va_A (WCP cI cZ h0 a1 a2 a3 a4 a5 a6 a7 n dr sc kA hsA dA bA pA nA mA h2 l1 pl lA) sz) (WCP cI cZ h0 a1 a2 a3 a4 a5 a6 a7 ((pl + 1) / 3) 0 0 u.1 u.2.1 u.2.2.1 u.2.2.2 pA nA mA h2 l1 pl lA)) (va_A (WCP cI cZ h0 a1 a2 a3 a4 a5 a6 a7 n dr sc kA hsA dA bA pA nA mA h2 l1 pl lA) sz)) 0 0 (va_A (WCP cI cZ h0 a1 a2 a3 a4 a5 a6 a7 n dr sc kA hsA dA bA pA nA mA h2 l1 pl lA) sz) := by
  refine Met.ofW (cc := cX0_read) (maxL := 3) (ret := none) (by decide) rfl ?_
  intro prg env s m args below meth c s₁ B hml hv
  obtain ⟨rfl, hsz, hP, hK, hD0, hST⟩ := hv
  have hx := B.exec
  have hb := B.bytes
  have hr := B.returns
  have hts := atoms_spec (ws := wsX0_read) B.pre
  have hown : s.vm.findClass RX0 = some m.cls := findClass_of_methodNamed B.named
  have hlocks := B.notSynchronized
  subst hsz
  have hD := hD0.self (sz := s.heap.size)
  generalize hAe : va_A (WCP cI cZ h0 a1 a2 a3 a4 a5 a6 a7 n dr sc kA hsA dA bA pA nA mA h2 l1 pl lA) s.heap.size = A at hD hST ⊢
  have hA : ∀ q : Nat, s.heap.size ≤ q → A q := fun q h => by rw [← hAe]; exact Or.inr h
  have hS : va_S A s.heap s.heap [] := va_S.rf
  have hP : va_P (dC, dI0) vwCl [(h0, .inr (0, [.ref a1, .ref a2, .ref a3, .ref a4, .int (nI n), .int (nI dr), .int (nI sc), .ref a5, .ref a6, .ref a7])), (a1, .inl (cI, 7, .inl kA)), (a2, .inl (cI, 7, .inl hsA)), (a3, .inl (cI, 7, .inl dA)), (a4, .inl (cI, 7, .inl bA)), (a5, .inl (cI, 6, .inl pA)), (a6, .inl (cI, 6, .inl nA)), (a7, .inl (cZ, 6, .inl mA)), (h2, .inr (2, [.ref l1, .int (nI pl)])), (l1, .inl (cI, 24, .inl lA))] s.heap := hP
  have hD : va_D A [(h0, .inr (0, [.ref a1, .ref a2, .ref a3, .ref a4, .int (nI n), .int (nI dr), .int (nI sc), .ref a5, .ref a6, .ref a7])), (a1, .inl (cI, 7, .inl kA)), (a2, .inl (cI, 7, .inl hsA)), (a3, .inl (cI, 7, .inl dA)), (a4, .inl (cI, 7, .inl bA)), (a5, .inl (cI, 6, .inl pA)), (a6, .inl (cI, 6, .inl nA)), (a7, .inl (cZ, 6, .inl mA)), (h2, .inr (2, [.ref l1, .int (nI pl)])), (l1, .inl (cI, 24, .inl lA))] := hD
  have hl := lv_entry ([.ref h0, .ref h2]) (n := 3) (Nat.le_of_ble_eq_true rfl)
  rw [lg_entry_eq]
  generalize (lg_sl ([.ref h0, .ref h2]) ++ List.replicate (3 - (lg_sl ([.ref h0, .ref h2])).length) Slot.unset).toArray = ls at hl ⊢
  have hl : lv_has ls 3 [(0, .ref h0), (1, .ref h2)] := hl
  obtain ⟨H, hH⟩ : ∃ H : Heap, H = s.heap := ⟨_, rfl⟩
  rw [← hH] at hP ⊢
  have hS : va_S A s.heap H [] := by rw [hH]; exact hS
  refine w_gen (fun Q hQ => ?_)
  have hmmin1 := hts (.methodLink RX0 40 Lib.Math.min.name) (by decide +kernel)
  have hmmin2 := hts (.static Lib.Math.min.name) (by decide +kernel)
  have hm3 := hts (.initialized "java/lang/Math") (by decide +kernel)
  have hmmin4 := hts (.code Lib.Math.min.name Lib.Math.min.code 2 (some .int)) (by decide +kernel)
  have hin_X0 : ∀ w ∈ wsX00, w ∈ wsX0_read := by decide +kernel
  have hf46 := hts (.fieldLink RX0 46 "HatNames$Company" "size" "I") (by decide +kernel)
  have hf21 := hts (.fieldLink RX0 21 "HatNames$Company" "barred" "[I") (by decide +kernel)
  have hf66 := hts (.fieldLink RX0 66 "HatNames$Company" "seenCount" "I") (by decide +kernel)
  have hf69 := hts (.fieldLink RX0 69 "HatNames$Company" "draws" "I") (by decide +kernel)
  have hf11 := hts (.fieldLink RX0 11 "HatNames$Company" "kinds" "[I") (by decide +kernel)
  have hf15 := hts (.fieldLink RX0 15 "HatNames$Company" "houses" "[I") (by decide +kernel)
  obtain ⟨hpl, hle⟩ := id hPg
  obtain ⟨hi5, hi3, hifw⟩ := icS_of hic
  have hfit := fwS_all hifw
  have hpl20 := ic_20 hi3 hifw
  refine lv_aload_n hx hb dX0_read_0 rfl (lv_at hl 0 rfl) ?_
  refine lv_aload_n hx hb dX0_read_1 rfl (lv_at hl 1 rfl) ?_
  have hPc := hP.sub (ws' := [(h2, .inr (2, [.ref l1, .int (nI pl)])), (l1, .inl (cI, 24, .inl lA))]) [8, 9] rfl
  have hDc := hD.sub (ws' := [(h2, .inr (2, [.ref l1, .int (nI pl)])), (l1, .inl (cI, 24, .inl lA))]) [8, 9] (by decide) rfl
  have hFc := va_free (wc := [(h2, .inr (2, [.ref l1, .int (nI pl)])), (l1, .inl (cI, 24, .inl lA))]) hD hS hA [8, 9] rfl
  refine va_calli (va_runV (As := []) (rest := [.ref h0]) ⟨hx, hb, hml, hown, hts⟩ (KX2_persons l dC dI0 cI cZ h2 l1 pl lA H.size le (by first | assumption | omega)) (cwV 0 hts gX0_read_X2_persons rfl rfl rfl (by decide +kernel) ⟨Nat.le_of_ble_eq_true rfl, Nat.le_of_ble_eq_true rfl⟩) ⟨fun a U g mk q => by obtain ⟨q0, q1, qP, qK, qD⟩ := q; exact ⟨q0, q1, qP, va_K.moved (u := U) (U := U.calling g mk a) (Vm.Alike.refl U.vm) qK, qD⟩, va_recv hK hPc (ci := 2) (q0 := 0) rfl rfl, fun U hU hW => ⟨rfl, by rw [hU], by rw [hU]; exact hPc, va_K.moved hW.alike hK, hDc.weaken (fun _ _ _ _ => trivial)⟩⟩ rfl rfl hl.1 rfl (lv_room (Nat.le_of_ble_eq_true rfl)) dX0_read_2 ⟨Nat.le_of_ble_eq_true rfl, Nat.le_of_ble_eq_true rfl⟩) hS (fun q _ h => hFc q h) hFc (fun r2 u2 t7 H1 locs ht7 hvm7 hw2 hB hz1 hk1 hS => ?_)
  obtain ⟨hP1, hK1, hD1⟩ := hB
  rw [ht7] at hP1
  try dsimp only at hw2 hP1 hD1
  obtain ⟨hP, hD⟩ := va_join (wr := [(h0, .inr (0, [.ref a1, .ref a2, .ref a3, .ref a4, .int (nI n), .int (nI dr), .int (nI sc), .ref a5, .ref a6, .ref a7])), (a1, .inl (cI, 7, .inl kA)), (a2, .inl (cI, 7, .inl hsA)), (a3, .inl (cI, 7, .inl dA)), (a4, .inl (cI, 7, .inl bA)), (a5, .inl (cI, 6, .inl pA)), (a6, .inl (cI, 6, .inl nA)), (a7, .inl (cZ, 6, .inl mA))]) (w1 := [(h2, .inr (2, [.ref l1, .int (nI pl)])), (l1, .inl (cI, 24, .inl lA))]) hP hD [8, 9] [0, 1, 2, 3, 4, 5, 6, 7] rfl rfl (by decide) (by decide) hk1 hFc hP1 hD1
  generalize H1 = H at hP hS ⊢
  have hP := hP.sub (ws' := [(h0, .inr (0, [.ref a1, .ref a2, .ref a3, .ref a4, .int (nI n), .int (nI dr), .int (nI sc), .ref a5, .ref a6, .ref a7])), (a1, .inl (cI, 7, .inl kA)), (a2, .inl (cI, 7, .inl hsA)), (a3, .inl (cI, 7, .inl dA)), (a4, .inl (cI, 7, .inl bA)), (a5, .inl (cI, 6, .inl pA)), (a6, .inl (cI, 6, .inl nA)), (a7, .inl (cZ, 6, .inl mA)), (h2, .inr (2, [.ref l1, .int (nI pl)])), (l1, .inl (cI, 24, .inl lA))]) [0, 1, 2, 3, 4, 5, 6, 7, 8, 9] rfl
  have hD := hD.sub (ws' := [(h0, .inr (0, [.ref a1, .ref a2, .ref a3, .ref a4, .int (nI n), .int (nI dr), .int (nI sc), .ref a5, .ref a6, .ref a7])), (a1, .inl (cI, 7, .inl kA)), (a2, .inl (cI, 7, .inl hsA)), (a3, .inl (cI, 7, .inl dA)), (a4, .inl (cI, 7, .inl bA)), (a5, .inl (cI, 6, .inl pA)), (a6, .inl (cI, 6, .inl nA)), (a7, .inl (cZ, 6, .inl mA)), (h2, .inr (2, [.ref l1, .int (nI pl)])), (l1, .inl (cI, 24, .inl lA))]) [0, 1, 2, 3, 4, 5, 6, 7, 8, 9] (by decide) rfl
  obtain rfl : r2 = nI ((pl + 1) / 3) := hw2
  refine lv_bipush (v := nI 7) hx hb dX0_read_5 (by decide) ?_
  refine va_mmin hx hb (by rw [hml]; exact hl.1.symm) hown hmmin1 hmmin2 hm3 hmmin4 (Nat.le_of_ble_eq_true rfl) (Nat.le_of_ble_eq_true rfl) (Nat.zero_le _) (Nat.zero_le _) dX0_read_7 ?_
  refine lv_topi (fun x7 e7 => ?_)
  obtain rfl : x7 = nI (min ((pl + 1) / 3) 7) := e7.trans (min_nI (by omega) (by omega))
  refine W.eq (g2 := F0 m 10 ls [.int (nI ((pl + 1) / 3)), .ref h0]) (by rw [show min ((pl + 1) / 3) 7 = (pl + 1) / 3 by omega]) ?_
  refine va_put (D := (dC, dI0)) (ci := 0) (v := .int (nI ((pl + 1) / 3))) (ty := .int) (C := RX0) (T := TX0) (N := 10) hx hb hts hin_X0 tyX0 tyX0_ok nmX0 hown hK hP hD hS 0 rfl rfl 4 (by decide) hf46 (fun _ h9 => h9) rfl (by decide +kernel) rfl rfl (Nat.le_of_ble_eq_true rfl) dX0_read_10 (fun H locs hP hD hS => ?_)
  have hP : va_P (dC, dI0) vwCl [(h0, .inr (0, [.ref a1, .ref a2, .ref a3, .ref a4, .int (nI ((pl + 1) / 3)), .int (nI dr), .int (nI sc), .ref a5, .ref a6, .ref a7])), (a1, .inl (cI, 7, .inl kA)), (a2, .inl (cI, 7, .inl hsA)), (a3, .inl (cI, 7, .inl dA)), (a4, .inl (cI, 7, .inl bA)), (a5, .inl (cI, 6, .inl pA)), (a6, .inl (cI, 6, .inl nA)), (a7, .inl (cZ, 6, .inl mA)), (h2, .inr (2, [.ref l1, .int (nI pl)])), (l1, .inl (cI, 24, .inl lA))] H := hP
  have hD : va_D A [(h0, .inr (0, [.ref a1, .ref a2, .ref a3, .ref a4, .int (nI ((pl + 1) / 3)), .int (nI dr), .int (nI sc), .ref a5, .ref a6, .ref a7])), (a1, .inl (cI, 7, .inl kA)), (a2, .inl (cI, 7, .inl hsA)), (a3, .inl (cI, 7, .inl dA)), (a4, .inl (cI, 7, .inl bA)), (a5, .inl (cI, 6, .inl pA)), (a6, .inl (cI, 6, .inl nA)), (a7, .inl (cZ, 6, .inl mA)), (h2, .inr (2, [.ref l1, .int (nI pl)])), (l1, .inl (cI, 24, .inl lA))] := hD
  refine lv_iconst (v := nI 0) hx hb dX0_read_13 (by decide) ?_
  refine lv_istore_n (lv' := [(2, .int (nI 0)), (0, .ref h0), (1, .ref h2)]) hx hb dX0_read_14 rfl hl (by decide) rfl (fun ls hl => ?_)
  have L15 : ∀ (fu : Nat) (i : Nat) (g1 : Nat → Int32) (g2 : Nat → Int32), i ≤ (pl + 1) / 3 → (∀ p, p < i → g1 p = nI (kpS le p)) → (∀ p, p < i → g2 p = nI (hpS le p)) → (pl + 1) / 3 - i < fu → ∀ (H : Heap) (locs : List Loc), va_P (dC, dI0) vwCl [(h0, .inr (0, [.ref a1, .ref a2, .ref a3, .ref a4, .int (nI ((pl + 1) / 3)), .int (nI dr), .int (nI sc), .ref a5, .ref a6, .ref a7])), (a1, .inl (cI, 7, .inl g1)), (a2, .inl (cI, 7, .inl g2)), (a3, .inl (cI, 7, .inl dA)), (a4, .inl (cI, 7, .inl bA)), (a5, .inl (cI, 6, .inl pA)), (a6, .inl (cI, 6, .inl nA)), (a7, .inl (cZ, 6, .inl mA)), (h2, .inr (2, [.ref l1, .int (nI pl)])), (l1, .inl (cI, 24, .inl lA))] H → va_D A [(h0, .inr (0, [.ref a1, .ref a2, .ref a3, .ref a4, .int (nI ((pl + 1) / 3)), .int (nI dr), .int (nI sc), .ref a5, .ref a6, .ref a7])), (a1, .inl (cI, 7, .inl g1)), (a2, .inl (cI, 7, .inl g2)), (a3, .inl (cI, 7, .inl dA)), (a4, .inl (cI, 7, .inl bA)), (a5, .inl (cI, 6, .inl pA)), (a6, .inl (cI, 6, .inl nA)), (a7, .inl (cZ, 6, .inl mA)), (h2, .inr (2, [.ref l1, .int (nI pl)])), (l1, .inl (cI, 24, .inl lA))] → va_S A s.heap H locs → ∀ (ls : Array Slot), lv_has ls 3 [(0, .ref h0), (1, .ref h2), (2, .int (nI i))] → W prg l env ({ frames := 5, cells := 0, slots := 0, locals := 112 } : Room) s m ([.ref h0, .ref h2] : List Value).toArray below meth c H locs 0 0 Q (F0 m 15 ls []) := by
    intro fu
    induction fu with
    | zero => intro i g1 g2 hi hg1 hg2 hmu; exact absurd hmu (Nat.not_lt_zero _)
    | succ fu ih15 =>
      intro i g1 g2 hi hg1 hg2 hmu15 H locs hP hD hS ls hl
      refine lv_iload_n hx hb dX0_read_15 rfl (lv_at hl 2 rfl) ?_
      refine lv_aload_n hx hb dX0_read_16 rfl (lv_at hl 0 rfl) ?_
      refine va_get (D := (dC, dI0)) (ci := 0) (v := .int (nI ((pl + 1) / 3))) (C := RX0) (T := TX0) (N := 10) hx hb hts hin_X0 hown hK hP 0 rfl rfl 4 (by decide) hf46 (fun _ h9 => h9) rfl dX0_read_17 ?_
      refine lv_icmp_ge (tgt := 51) hx hb dX0_read_20 (by decide) (fun c20 => ?_) (fun c20 => ?_)
      ·
        have c20 : ((pl + 1) / 3) ≤ i := (nI_leI (a := ((pl + 1) / 3)) (b := i) (by omega) (by omega)).mp c20
        refine lv_aload_n hx hb dX0_read_51 rfl (lv_at hl 0 rfl) ?_
        refine va_get (D := (dC, dI0)) (ci := 0) (v := .ref a4) (C := RX0) (T := TX0) (N := 10) hx hb hts hin_X0 hown hK hP 0 rfl rfl 3 (by decide) hf21 (fun _ h9 => h9) rfl dX0_read_52 ?_
        refine lv_iconst (v := nI 0) hx hb dX0_read_55 (by decide) ?_
        have hPc := hP.sub (ws' := [(a4, .inl (cI, 7, .inl bA))]) [4] rfl
        have hDc := hD.sub (ws' := [(a4, .inl (cI, 7, .inl bA))]) [4] (by decide) rfl
        have hFc := va_free (wc := [(a4, .inl (cI, 7, .inl bA))]) hD hS hA [4] rfl
        refine va_callv (va_runS (As := [.ref a4, .int (nI 0)]) (rest := []) ⟨hx, hb, hml, hown, hts⟩ (KJ7_fill_53178 l dC dI0 cI cZ a4 7 bA H.size (nI 0) (by first | assumption | omega)) (va_cwS 2 hts gX0_read_J7_fill_53178 rfl rfl rfl (by decide +kernel) ⟨Nat.le_of_ble_eq_true rfl, Nat.le_of_ble_eq_true rfl⟩) ⟨fun a U g mk q => by obtain ⟨q0, q1, qP, qK, qD⟩ := q; exact ⟨q0, q1, qP, va_K.moved (u := U) (U := U.calling g mk a) (Vm.Alike.refl U.vm) qK, qD⟩, fun U hU hW => ⟨rfl, by rw [hU], by rw [hU]; exact hPc, va_K.moved hW.alike hK, hDc.weaken (fun _ _ _ _ => trivial)⟩⟩ rfl rfl hl.1 rfl (lv_room (Nat.le_of_ble_eq_true rfl)) dX0_read_56 ⟨Nat.le_of_ble_eq_true rfl, Nat.le_of_ble_eq_true rfl⟩) hS (fun q _ h => hFc q h) hFc (fun u56 t7 H1 locs ht7 hvm7 hw56 hB hz1 hk1 hS => ?_)
        obtain ⟨bB, ebB⟩ : ∃ z, z = u56 := ⟨_, rfl⟩; subst ebB
        obtain ⟨hP1, hK1, hD1⟩ := hB
        rw [ht7] at hP1
        try dsimp only at hw56 hP1 hD1
        obtain ⟨hP, hD⟩ := va_join (wr := [(h0, .inr (0, [.ref a1, .ref a2, .ref a3, .ref a4, .int (nI ((pl + 1) / 3)), .int (nI dr), .int (nI sc), .ref a5, .ref a6, .ref a7])), (a1, .inl (cI, 7, .inl g1)), (a2, .inl (cI, 7, .inl g2)), (a3, .inl (cI, 7, .inl dA)), (a5, .inl (cI, 6, .inl pA)), (a6, .inl (cI, 6, .inl nA)), (a7, .inl (cZ, 6, .inl mA)), (h2, .inr (2, [.ref l1, .int (nI pl)])), (l1, .inl (cI, 24, .inl lA))]) (w1 := [(a4, .inl (cI, 7, .inl bB))]) hP hD [4] [0, 1, 2, 3, 5, 6, 7, 8, 9] rfl rfl (by decide) (by decide) hk1 hFc hP1 hD1
        generalize H1 = H at hP hS ⊢
        have hP := hP.sub (ws' := [(h0, .inr (0, [.ref a1, .ref a2, .ref a3, .ref a4, .int (nI ((pl + 1) / 3)), .int (nI dr), .int (nI sc), .ref a5, .ref a6, .ref a7])), (a1, .inl (cI, 7, .inl g1)), (a2, .inl (cI, 7, .inl g2)), (a3, .inl (cI, 7, .inl dA)), (a4, .inl (cI, 7, .inl bB)), (a5, .inl (cI, 6, .inl pA)), (a6, .inl (cI, 6, .inl nA)), (a7, .inl (cZ, 6, .inl mA)), (h2, .inr (2, [.ref l1, .int (nI pl)])), (l1, .inl (cI, 24, .inl lA))]) [0, 1, 2, 3, 9, 4, 5, 6, 7, 8] rfl
        have hD := hD.sub (ws' := [(h0, .inr (0, [.ref a1, .ref a2, .ref a3, .ref a4, .int (nI ((pl + 1) / 3)), .int (nI dr), .int (nI sc), .ref a5, .ref a6, .ref a7])), (a1, .inl (cI, 7, .inl g1)), (a2, .inl (cI, 7, .inl g2)), (a3, .inl (cI, 7, .inl dA)), (a4, .inl (cI, 7, .inl bB)), (a5, .inl (cI, 6, .inl pA)), (a6, .inl (cI, 6, .inl nA)), (a7, .inl (cZ, 6, .inl mA)), (h2, .inr (2, [.ref l1, .int (nI pl)])), (l1, .inl (cI, 24, .inl lA))]) [0, 1, 2, 3, 9, 4, 5, 6, 7, 8] (by decide) rfl
        refine lv_aload_n hx hb dX0_read_59 rfl (lv_at hl 0 rfl) ?_
        have hPc := hP.sub (ws' := [(h0, .inr (0, [.ref a1, .ref a2, .ref a3, .ref a4, .int (nI ((pl + 1) / 3)), .int (nI dr), .int (nI sc), .ref a5, .ref a6, .ref a7])), (a1, .inl (cI, 7, .inl g1)), (a2, .inl (cI, 7, .inl g2)), (a3, .inl (cI, 7, .inl dA)), (a4, .inl (cI, 7, .inl bB)), (a5, .inl (cI, 6, .inl pA)), (a6, .inl (cI, 6, .inl nA)), (a7, .inl (cZ, 6, .inl mA))]) [0, 1, 2, 3, 4, 5, 6, 7] rfl
        have hDc := hD.sub (ws' := [(h0, .inr (0, [.ref a1, .ref a2, .ref a3, .ref a4, .int (nI ((pl + 1) / 3)), .int (nI dr), .int (nI sc), .ref a5, .ref a6, .ref a7])), (a1, .inl (cI, 7, .inl g1)), (a2, .inl (cI, 7, .inl g2)), (a3, .inl (cI, 7, .inl dA)), (a4, .inl (cI, 7, .inl bB)), (a5, .inl (cI, 6, .inl pA)), (a6, .inl (cI, 6, .inl nA)), (a7, .inl (cZ, 6, .inl mA))]) [0, 1, 2, 3, 4, 5, 6, 7] (by decide) rfl
        have hFc := va_free (wc := [(h0, .inr (0, [.ref a1, .ref a2, .ref a3, .ref a4, .int (nI ((pl + 1) / 3)), .int (nI dr), .int (nI sc), .ref a5, .ref a6, .ref a7])), (a1, .inl (cI, 7, .inl g1)), (a2, .inl (cI, 7, .inl g2)), (a3, .inl (cI, 7, .inl dA)), (a4, .inl (cI, 7, .inl bB)), (a5, .inl (cI, 6, .inl pA)), (a6, .inl (cI, 6, .inl nA)), (a7, .inl (cZ, 6, .inl mA))]) hD hS hA [0, 1, 2, 3, 4, 5, 6, 7] rfl
        refine va_callv (va_runV (As := []) (rest := []) ⟨hx, hb, hml, hown, hts⟩ (KX0_putAllBack l dC dI0 cI cZ h0 a1 a2 a3 a4 a5 a6 a7 ((pl + 1) / 3) dr sc g1 g2 dA bB pA nA mA H.size ) (cwV 0 hts gX0_read_X0_putAllBack rfl rfl rfl (by decide +kernel) ⟨Nat.le_of_ble_eq_true rfl, Nat.le_of_ble_eq_true rfl⟩) ⟨fun a U g mk q => by obtain ⟨q0, q1, qP, qK, qD⟩ := q; exact ⟨q0, q1, qP, va_K.moved (u := U) (U := U.calling g mk a) (Vm.Alike.refl U.vm) qK, qD⟩, va_recv hK hPc (ci := 0) (q0 := 0) rfl rfl, fun U hU hW => ⟨rfl, by rw [hU], by rw [hU]; exact hPc, va_K.moved hW.alike hK, hDc.weaken (fun _ _ _ _ => trivial)⟩⟩ rfl rfl hl.1 rfl (lv_room (Nat.le_of_ble_eq_true rfl)) dX0_read_60 ⟨Nat.le_of_ble_eq_true rfl, Nat.le_of_ble_eq_true rfl⟩) hS (fun q _ h => hFc q h) hFc (fun u60 t7 H1 locs ht7 hvm7 hw60 hB hz1 hk1 hS => ?_)
        obtain ⟨dB, edB⟩ : ∃ z, z = u60 := ⟨_, rfl⟩; subst edB
        obtain ⟨hP1, hK1, hD1⟩ := hB
        rw [ht7] at hP1
        try dsimp only at hw60 hP1 hD1
        obtain ⟨hP, hD⟩ := va_join (wr := [(h2, .inr (2, [.ref l1, .int (nI pl)])), (l1, .inl (cI, 24, .inl lA))]) (w1 := [(h0, .inr (0, [.ref a1, .ref a2, .ref a3, .ref a4, .int (nI ((pl + 1) / 3)), .int (nI dr), .int (nI sc), .ref a5, .ref a6, .ref a7])), (a1, .inl (cI, 7, .inl g1)), (a2, .inl (cI, 7, .inl g2)), (a3, .inl (cI, 7, .inl dB)), (a4, .inl (cI, 7, .inl bB)), (a5, .inl (cI, 6, .inl pA)), (a6, .inl (cI, 6, .inl nA)), (a7, .inl (cZ, 6, .inl mA))]) hP hD [0, 1, 2, 3, 4, 5, 6, 7] [8, 9] rfl rfl (by decide) (by decide) hk1 hFc hP1 hD1
        generalize H1 = H at hP hS ⊢
        have hP := hP.sub (ws' := [(h0, .inr (0, [.ref a1, .ref a2, .ref a3, .ref a4, .int (nI ((pl + 1) / 3)), .int (nI dr), .int (nI sc), .ref a5, .ref a6, .ref a7])), (a1, .inl (cI, 7, .inl g1)), (a2, .inl (cI, 7, .inl g2)), (a3, .inl (cI, 7, .inl dB)), (a4, .inl (cI, 7, .inl bB)), (a5, .inl (cI, 6, .inl pA)), (a6, .inl (cI, 6, .inl nA)), (a7, .inl (cZ, 6, .inl mA)), (h2, .inr (2, [.ref l1, .int (nI pl)])), (l1, .inl (cI, 24, .inl lA))]) [2, 3, 4, 5, 6, 7, 8, 9, 0, 1] rfl
        have hD := hD.sub (ws' := [(h0, .inr (0, [.ref a1, .ref a2, .ref a3, .ref a4, .int (nI ((pl + 1) / 3)), .int (nI dr), .int (nI sc), .ref a5, .ref a6, .ref a7])), (a1, .inl (cI, 7, .inl g1)), (a2, .inl (cI, 7, .inl g2)), (a3, .inl (cI, 7, .inl dB)), (a4, .inl (cI, 7, .inl bB)), (a5, .inl (cI, 6, .inl pA)), (a6, .inl (cI, 6, .inl nA)), (a7, .inl (cZ, 6, .inl mA)), (h2, .inr (2, [.ref l1, .int (nI pl)])), (l1, .inl (cI, 24, .inl lA))]) [2, 3, 4, 5, 6, 7, 8, 9, 0, 1] (by decide) rfl
        refine lv_aload_n hx hb dX0_read_63 rfl (lv_at hl 0 rfl) ?_
        refine lv_iconst (v := nI 0) hx hb dX0_read_64 (by decide) ?_
        refine va_put (D := (dC, dI0)) (ci := 0) (v := .int (nI 0)) (ty := .int) (C := RX0) (T := TX0) (N := 10) hx hb hts hin_X0 tyX0 tyX0_ok nmX0 hown hK hP hD hS 0 rfl rfl 6 (by decide) hf66 (fun _ h9 => h9) rfl (by decide +kernel) rfl rfl (Nat.le_of_ble_eq_true rfl) dX0_read_65 (fun H locs hP hD hS => ?_)
        have hP : va_P (dC, dI0) vwCl [(h0, .inr (0, [.ref a1, .ref a2, .ref a3, .ref a4, .int (nI ((pl + 1) / 3)), .int (nI dr), .int (nI 0), .ref a5, .ref a6, .ref a7])), (a1, .inl (cI, 7, .inl g1)), (a2, .inl (cI, 7, .inl g2)), (a3, .inl (cI, 7, .inl dB)), (a4, .inl (cI, 7, .inl bB)), (a5, .inl (cI, 6, .inl pA)), (a6, .inl (cI, 6, .inl nA)), (a7, .inl (cZ, 6, .inl mA)), (h2, .inr (2, [.ref l1, .int (nI pl)])), (l1, .inl (cI, 24, .inl lA))] H := hP
        have hD : va_D A [(h0, .inr (0, [.ref a1, .ref a2, .ref a3, .ref a4, .int (nI ((pl + 1) / 3)), .int (nI dr), .int (nI 0), .ref a5, .ref a6, .ref a7])), (a1, .inl (cI, 7, .inl g1)), (a2, .inl (cI, 7, .inl g2)), (a3, .inl (cI, 7, .inl dB)), (a4, .inl (cI, 7, .inl bB)), (a5, .inl (cI, 6, .inl pA)), (a6, .inl (cI, 6, .inl nA)), (a7, .inl (cZ, 6, .inl mA)), (h2, .inr (2, [.ref l1, .int (nI pl)])), (l1, .inl (cI, 24, .inl lA))] := hD
        refine lv_aload_n hx hb dX0_read_68 rfl (lv_at hl 0 rfl) ?_
        refine lv_iconst (v := nI 0) hx hb dX0_read_69 (by decide) ?_
        refine va_put (D := (dC, dI0)) (ci := 0) (v := .int (nI 0)) (ty := .int) (C := RX0) (T := TX0) (N := 10) hx hb hts hin_X0 tyX0 tyX0_ok nmX0 hown hK hP hD hS 0 rfl rfl 5 (by decide) hf69 (fun _ h9 => h9) rfl (by decide +kernel) rfl rfl (Nat.le_of_ble_eq_true rfl) dX0_read_70 (fun H locs hP hD hS => ?_)
        have hP : va_P (dC, dI0) vwCl [(h0, .inr (0, [.ref a1, .ref a2, .ref a3, .ref a4, .int (nI ((pl + 1) / 3)), .int (nI 0), .int (nI 0), .ref a5, .ref a6, .ref a7])), (a1, .inl (cI, 7, .inl g1)), (a2, .inl (cI, 7, .inl g2)), (a3, .inl (cI, 7, .inl dB)), (a4, .inl (cI, 7, .inl bB)), (a5, .inl (cI, 6, .inl pA)), (a6, .inl (cI, 6, .inl nA)), (a7, .inl (cZ, 6, .inl mA)), (h2, .inr (2, [.ref l1, .int (nI pl)])), (l1, .inl (cI, 24, .inl lA))] H := hP
        have hD : va_D A [(h0, .inr (0, [.ref a1, .ref a2, .ref a3, .ref a4, .int (nI ((pl + 1) / 3)), .int (nI 0), .int (nI 0), .ref a5, .ref a6, .ref a7])), (a1, .inl (cI, 7, .inl g1)), (a2, .inl (cI, 7, .inl g2)), (a3, .inl (cI, 7, .inl dB)), (a4, .inl (cI, 7, .inl bB)), (a5, .inl (cI, 6, .inl pA)), (a6, .inl (cI, 6, .inl nA)), (a7, .inl (cZ, 6, .inl mA)), (h2, .inr (2, [.ref l1, .int (nI pl)])), (l1, .inl (cI, 24, .inl lA))] := hD
        subst hQ
        have hP9 : va_P (dC, dI0) vwCl [(h0, .inr (0, [.ref a1, .ref a2, .ref a3, .ref a4, .int (nI ((pl + 1) / 3)), .int (nI 0), .int (nI 0), .ref a5, .ref a6, .ref a7])), (a1, .inl (cI, 7, .inl g1)), (a2, .inl (cI, 7, .inl g2)), (a3, .inl (cI, 7, .inl dB)), (a4, .inl (cI, 7, .inl bB)), (a5, .inl (cI, 6, .inl pA)), (a6, .inl (cI, 6, .inl nA)), (a7, .inl (cZ, 6, .inl mA)), (h2, .inr (2, [.ref l1, .int (nI pl)])), (l1, .inl (cI, 24, .inl lA))] H := hP
        have hD9 : va_D A [(h0, .inr (0, [.ref a1, .ref a2, .ref a3, .ref a4, .int (nI ((pl + 1) / 3)), .int (nI 0), .int (nI 0), .ref a5, .ref a6, .ref a7])), (a1, .inl (cI, 7, .inl g1)), (a2, .inl (cI, 7, .inl g2)), (a3, .inl (cI, 7, .inl dB)), (a4, .inl (cI, 7, .inl bB)), (a5, .inl (cI, 6, .inl pA)), (a6, .inl (cI, 6, .inl nA)), (a7, .inl (cZ, 6, .inl mA)), (h2, .inr (2, [.ref l1, .int (nI pl)])), (l1, .inl (cI, 24, .inl lA))] := hD
        exact W.vret hx hb hr (fun t9 ht9 hW9 => ⟨⟨(g1, g2, dB, bB), rfl, ⟨fun p hp => hg1 p (by omega), fun p hp => hg2 p (by omega), fun p hp => (congrFun hw60 p).trans (if_pos hp), fun p hp => (congrFun hw56 p).trans (if_pos hp)⟩, by rw [ht9]; exact hP9, va_K.moved hW9.alike hK, hD9⟩, hS.F ht9⟩) hS.2.2 dX0_read_73
      have c20 : ¬ ((pl + 1) / 3) ≤ i := fun z => c20 ((nI_leI (a := ((pl + 1) / 3)) (b := i) (by omega) (by omega)).mpr z)
      have hkc1 := ft_k (hfit (i * 3) (by omega)) (by omega)
      have hh1 := ft_h (hfit (i * 3 + 1) (by omega)) (by omega)
      refine lv_aload_n hx hb dX0_read_23 rfl (lv_at hl 0 rfl) ?_
      refine va_get (D := (dC, dI0)) (ci := 0) (v := .ref a1) (C := RX0) (T := TX0) (N := 10) hx hb hts hin_X0 hown hK hP 0 rfl rfl 0 (by decide) hf11 (fun _ h9 => h9) rfl dX0_read_24 ?_
      refine lv_iload_n hx hb dX0_read_27 rfl (lv_at hl 2 rfl) ?_
      refine lv_aload_n hx hb dX0_read_28 rfl (lv_at hl 1 rfl) ?_
      refine lv_iload_n hx hb dX0_read_29 rfl (lv_at hl 2 rfl) ?_
      have hPc := hP.sub (ws' := [(h2, .inr (2, [.ref l1, .int (nI pl)])), (l1, .inl (cI, 24, .inl lA))]) [8, 9] rfl
      have hDc := hD.sub (ws' := [(h2, .inr (2, [.ref l1, .int (nI pl)])), (l1, .inl (cI, 24, .inl lA))]) [8, 9] (by decide) rfl
      have hFc := va_free (wc := [(h2, .inr (2, [.ref l1, .int (nI pl)])), (l1, .inl (cI, 24, .inl lA))]) hD hS hA [8, 9] rfl
      refine va_calli (va_runV (As := [.int (nI i)]) (rest := [.int (nI i), .ref a1]) ⟨hx, hb, hml, hown, hts⟩ (KX2_kindOf l dC dI0 cI cZ h2 l1 pl lA H.size sk sv le i (by first | assumption | omega) (by first | assumption | omega)) (cwV 1 hts gX0_read_X2_kindOf rfl rfl rfl (by decide +kernel) ⟨Nat.le_of_ble_eq_true rfl, Nat.le_of_ble_eq_true rfl⟩) ⟨fun a U g mk q => by obtain ⟨q0, q1, qP, qK, qD, qT⟩ := q; exact ⟨q0, q1, qP, va_K.moved (u := U) (U := U.calling g mk a) (Vm.Alike.refl U.vm) qK, qD, qT.call g mk a⟩, va_recv hK hPc (ci := 2) (q0 := 0) rfl rfl, fun U hU hW => ⟨rfl, by rw [hU], by rw [hU]; exact hPc, va_K.moved hW.alike hK, hDc.weaken (fun _ _ _ _ => trivial), hST.to hS hFc hU hW⟩⟩ rfl rfl hl.1 rfl (lv_room (Nat.le_of_ble_eq_true rfl)) dX0_read_30 ⟨Nat.le_of_ble_eq_true rfl, Nat.le_of_ble_eq_true rfl⟩) hS (fun q _ h => hFc q h) hFc (fun r30 u30 t7 H1 locs ht7 hvm7 hw30 hB hz1 hk1 hS => ?_)
      obtain ⟨hP1, hK1, hD1⟩ := hB
      rw [ht7] at hP1
      try dsimp only at hw30 hP1 hD1
      obtain ⟨hP, hD⟩ := va_join (wr := [(h0, .inr (0, [.ref a1, .ref a2, .ref a3, .ref a4, .int (nI ((pl + 1) / 3)), .int (nI dr), .int (nI sc), .ref a5, .ref a6, .ref a7])), (a1, .inl (cI, 7, .inl g1)), (a2, .inl (cI, 7, .inl g2)), (a3, .inl (cI, 7, .inl dA)), (a4, .inl (cI, 7, .inl bA)), (a5, .inl (cI, 6, .inl pA)), (a6, .inl (cI, 6, .inl nA)), (a7, .inl (cZ, 6, .inl mA))]) (w1 := [(h2, .inr (2, [.ref l1, .int (nI pl)])), (l1, .inl (cI, 24, .inl lA))]) hP hD [8, 9] [0, 1, 2, 3, 4, 5, 6, 7] rfl rfl (by decide) (by decide) hk1 hFc hP1 hD1
      generalize H1 = H at hP hS ⊢
      have hP := hP.sub (ws' := [(h0, .inr (0, [.ref a1, .ref a2, .ref a3, .ref a4, .int (nI ((pl + 1) / 3)), .int (nI dr), .int (nI sc), .ref a5, .ref a6, .ref a7])), (a1, .inl (cI, 7, .inl g1)), (a2, .inl (cI, 7, .inl g2)), (a3, .inl (cI, 7, .inl dA)), (a4, .inl (cI, 7, .inl bA)), (a5, .inl (cI, 6, .inl pA)), (a6, .inl (cI, 6, .inl nA)), (a7, .inl (cZ, 6, .inl mA)), (h2, .inr (2, [.ref l1, .int (nI pl)])), (l1, .inl (cI, 24, .inl lA))]) [0, 1, 2, 3, 4, 5, 6, 7, 8, 9] rfl
      have hD := hD.sub (ws' := [(h0, .inr (0, [.ref a1, .ref a2, .ref a3, .ref a4, .int (nI ((pl + 1) / 3)), .int (nI dr), .int (nI sc), .ref a5, .ref a6, .ref a7])), (a1, .inl (cI, 7, .inl g1)), (a2, .inl (cI, 7, .inl g2)), (a3, .inl (cI, 7, .inl dA)), (a4, .inl (cI, 7, .inl bA)), (a5, .inl (cI, 6, .inl pA)), (a6, .inl (cI, 6, .inl nA)), (a7, .inl (cZ, 6, .inl mA)), (h2, .inr (2, [.ref l1, .int (nI pl)])), (l1, .inl (cI, 24, .inl lA))]) [0, 1, 2, 3, 4, 5, 6, 7, 8, 9] (by decide) rfl
      obtain rfl : r30 = dI (kcS (le (i * 3))) := hw30
      refine W.eq (g2 := F0 m 33 ls [.int (nI (kpS le i)), .int (nI i), .ref a1]) (by rw [kp_eq hkc1]) ?_
      refine va_iast hx hb hK hP hD hS 1 0 rfl rfl (vp_in_nI (by omega) (by decide)) dX0_read_33 (fun H locs hP hD hS => ?_)
      rw [nI_clamp (n := i) (by omega)] at hP hD
      have hP : va_P (dC, dI0) vwCl [(h0, .inr (0, [.ref a1, .ref a2, .ref a3, .ref a4, .int (nI ((pl + 1) / 3)), .int (nI dr), .int (nI sc), .ref a5, .ref a6, .ref a7])), (a1, .inl (cI, 7, .inl (upd g1 i (nI (kpS le i))))), (a2, .inl (cI, 7, .inl g2)), (a3, .inl (cI, 7, .inl dA)), (a4, .inl (cI, 7, .inl bA)), (a5, .inl (cI, 6, .inl pA)), (a6, .inl (cI, 6, .inl nA)), (a7, .inl (cZ, 6, .inl mA)), (h2, .inr (2, [.ref l1, .int (nI pl)])), (l1, .inl (cI, 24, .inl lA))] H := hP
      have hD : va_D A [(h0, .inr (0, [.ref a1, .ref a2, .ref a3, .ref a4, .int (nI ((pl + 1) / 3)), .int (nI dr), .int (nI sc), .ref a5, .ref a6, .ref a7])), (a1, .inl (cI, 7, .inl (upd g1 i (nI (kpS le i))))), (a2, .inl (cI, 7, .inl g2)), (a3, .inl (cI, 7, .inl dA)), (a4, .inl (cI, 7, .inl bA)), (a5, .inl (cI, 6, .inl pA)), (a6, .inl (cI, 6, .inl nA)), (a7, .inl (cZ, 6, .inl mA)), (h2, .inr (2, [.ref l1, .int (nI pl)])), (l1, .inl (cI, 24, .inl lA))] := hD
      refine lv_aload_n hx hb dX0_read_34 rfl (lv_at hl 0 rfl) ?_
      refine va_get (D := (dC, dI0)) (ci := 0) (v := .ref a2) (C := RX0) (T := TX0) (N := 10) hx hb hts hin_X0 hown hK hP 0 rfl rfl 1 (by decide) hf15 (fun _ h9 => h9) rfl dX0_read_35 ?_
      refine lv_iload_n hx hb dX0_read_38 rfl (lv_at hl 2 rfl) ?_
      refine lv_aload_n hx hb dX0_read_39 rfl (lv_at hl 1 rfl) ?_
      refine lv_iload_n hx hb dX0_read_40 rfl (lv_at hl 2 rfl) ?_
      have hPc := hP.sub (ws' := [(h2, .inr (2, [.ref l1, .int (nI pl)])), (l1, .inl (cI, 24, .inl lA))]) [8, 9] rfl
      have hDc := hD.sub (ws' := [(h2, .inr (2, [.ref l1, .int (nI pl)])), (l1, .inl (cI, 24, .inl lA))]) [8, 9] (by decide) rfl
      have hFc := va_free (wc := [(h2, .inr (2, [.ref l1, .int (nI pl)])), (l1, .inl (cI, 24, .inl lA))]) hD hS hA [8, 9] rfl
      refine va_calli (va_runV (As := [.int (nI i)]) (rest := [.int (nI i), .ref a2]) ⟨hx, hb, hml, hown, hts⟩ (KX2_houseOf l dC dI0 cI cZ h2 l1 pl lA H.size le i (by first | assumption | omega) (by first | assumption | omega) (by omega)) (cwV 1 hts gX0_read_X2_houseOf rfl rfl rfl (by decide +kernel) ⟨Nat.le_of_ble_eq_true rfl, Nat.le_of_ble_eq_true rfl⟩) ⟨fun a U g mk q => by obtain ⟨q0, q1, qP, qK, qD⟩ := q; exact ⟨q0, q1, qP, va_K.moved (u := U) (U := U.calling g mk a) (Vm.Alike.refl U.vm) qK, qD⟩, va_recv hK hPc (ci := 2) (q0 := 0) rfl rfl, fun U hU hW => ⟨rfl, by rw [hU], by rw [hU]; exact hPc, va_K.moved hW.alike hK, hDc.weaken (fun _ _ _ _ => trivial)⟩⟩ rfl rfl hl.1 rfl (lv_room (Nat.le_of_ble_eq_true rfl)) dX0_read_41 ⟨Nat.le_of_ble_eq_true rfl, Nat.le_of_ble_eq_true rfl⟩) hS (fun q _ h => hFc q h) hFc (fun r41 u41 t7 H1 locs ht7 hvm7 hw41 hB hz1 hk1 hS => ?_)
      obtain ⟨hP1, hK1, hD1⟩ := hB
      rw [ht7] at hP1
      try dsimp only at hw41 hP1 hD1
      obtain ⟨hP, hD⟩ := va_join (wr := [(h0, .inr (0, [.ref a1, .ref a2, .ref a3, .ref a4, .int (nI ((pl + 1) / 3)), .int (nI dr), .int (nI sc), .ref a5, .ref a6, .ref a7])), (a1, .inl (cI, 7, .inl (upd g1 i (nI (kpS le i))))), (a2, .inl (cI, 7, .inl g2)), (a3, .inl (cI, 7, .inl dA)), (a4, .inl (cI, 7, .inl bA)), (a5, .inl (cI, 6, .inl pA)), (a6, .inl (cI, 6, .inl nA)), (a7, .inl (cZ, 6, .inl mA))]) (w1 := [(h2, .inr (2, [.ref l1, .int (nI pl)])), (l1, .inl (cI, 24, .inl lA))]) hP hD [8, 9] [0, 1, 2, 3, 4, 5, 6, 7] rfl rfl (by decide) (by decide) hk1 hFc hP1 hD1
      generalize H1 = H at hP hS ⊢
      have hP := hP.sub (ws' := [(h0, .inr (0, [.ref a1, .ref a2, .ref a3, .ref a4, .int (nI ((pl + 1) / 3)), .int (nI dr), .int (nI sc), .ref a5, .ref a6, .ref a7])), (a1, .inl (cI, 7, .inl (upd g1 i (nI (kpS le i))))), (a2, .inl (cI, 7, .inl g2)), (a3, .inl (cI, 7, .inl dA)), (a4, .inl (cI, 7, .inl bA)), (a5, .inl (cI, 6, .inl pA)), (a6, .inl (cI, 6, .inl nA)), (a7, .inl (cZ, 6, .inl mA)), (h2, .inr (2, [.ref l1, .int (nI pl)])), (l1, .inl (cI, 24, .inl lA))]) [0, 1, 2, 3, 4, 5, 6, 7, 8, 9] rfl
      have hD := hD.sub (ws' := [(h0, .inr (0, [.ref a1, .ref a2, .ref a3, .ref a4, .int (nI ((pl + 1) / 3)), .int (nI dr), .int (nI sc), .ref a5, .ref a6, .ref a7])), (a1, .inl (cI, 7, .inl (upd g1 i (nI (kpS le i))))), (a2, .inl (cI, 7, .inl g2)), (a3, .inl (cI, 7, .inl dA)), (a4, .inl (cI, 7, .inl bA)), (a5, .inl (cI, 6, .inl pA)), (a6, .inl (cI, 6, .inl nA)), (a7, .inl (cZ, 6, .inl mA)), (h2, .inr (2, [.ref l1, .int (nI pl)])), (l1, .inl (cI, 24, .inl lA))]) [0, 1, 2, 3, 4, 5, 6, 7, 8, 9] (by decide) rfl
      obtain rfl : r41 = nI (le (i * 3 + 1) - 48) := hw41
      refine va_iast hx hb hK hP hD hS 2 0 rfl rfl (vp_in_nI (by omega) (by decide)) dX0_read_44 (fun H locs hP hD hS => ?_)
      rw [nI_clamp (n := i) (by omega)] at hP hD
      have hP : va_P (dC, dI0) vwCl [(h0, .inr (0, [.ref a1, .ref a2, .ref a3, .ref a4, .int (nI ((pl + 1) / 3)), .int (nI dr), .int (nI sc), .ref a5, .ref a6, .ref a7])), (a1, .inl (cI, 7, .inl (upd g1 i (nI (kpS le i))))), (a2, .inl (cI, 7, .inl (upd g2 i (nI (le (i * 3 + 1) - 48))))), (a3, .inl (cI, 7, .inl dA)), (a4, .inl (cI, 7, .inl bA)), (a5, .inl (cI, 6, .inl pA)), (a6, .inl (cI, 6, .inl nA)), (a7, .inl (cZ, 6, .inl mA)), (h2, .inr (2, [.ref l1, .int (nI pl)])), (l1, .inl (cI, 24, .inl lA))] H := hP
      have hD : va_D A [(h0, .inr (0, [.ref a1, .ref a2, .ref a3, .ref a4, .int (nI ((pl + 1) / 3)), .int (nI dr), .int (nI sc), .ref a5, .ref a6, .ref a7])), (a1, .inl (cI, 7, .inl (upd g1 i (nI (kpS le i))))), (a2, .inl (cI, 7, .inl (upd g2 i (nI (le (i * 3 + 1) - 48))))), (a3, .inl (cI, 7, .inl dA)), (a4, .inl (cI, 7, .inl bA)), (a5, .inl (cI, 6, .inl pA)), (a6, .inl (cI, 6, .inl nA)), (a7, .inl (cZ, 6, .inl mA)), (h2, .inr (2, [.ref l1, .int (nI pl)])), (l1, .inl (cI, 24, .inl lA))] := hD
      refine lv_iinc (v := nI (i + 1)) (lv' := [(2, .int (nI (i + 1))), (0, .ref h0), (1, .ref h2)]) hx hb dX0_read_45 hl (k := 2) rfl (show nI i + Int32.ofInt 1 = nI (i + 1) from nI_add _ _) (by decide) rfl (fun ls hl => ?_)
      refine lv_goto (tgt := 15) hx hb dX0_read_48 (by decide) ?_
      exact ih15 (i + 1) (upd g1 i (nI (kpS le i))) (upd g2 i (nI (le (i * 3 + 1) - 48))) (by omega) (upd_lt (F := fun p => nI (kpS le p)) hg1 rfl) (upd_lt (F := fun p => nI (hpS le p)) hg2 rfl) (by omega) _ _ hP hD hS ls (lv_sub hl [1, 2, 0] rfl)
  exact L15 _ 0 kA hsA (by omega) (fun p hp => absurd hp (Nat.not_lt_zero _)) (fun p hp => absurd hp (Nat.not_lt_zero _)) (Nat.lt_succ_self _) _ _ hP hD hS ls (lv_sub hl [1, 2, 0] rfl)
