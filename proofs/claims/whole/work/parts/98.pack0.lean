/-! THE CLAIM OUT OF ONE WALK OF THE LAW'S BODY. Your part is whole_start (and what it stands on); all else here is the same for every law, but numbers. -/
def R_law : String := "HatNamesLaw"
def lw_P (b : Addr) (xs : List Int32) (args : Array Value) (s : State) : Prop := args = #[.ref b] ∧ s.IntsAt b xs ∧ xs.length ≤ 2048 ∧ (Jvm.Cond.and given_1 narrow_1).before args s = true
def lw_Q (_ : Array Value) (s : State) (o : Outcome) (t : State) : Prop := o = .returned (some (.int 1)) ∧ Framed s o t [] 45 1845
def lw_Z (below : List Frame) (a : Array Value) (s : State) : State → Prop := fun t => ∃ o, t.status = .running ∧ Ended t below o ∧ lw_Q a s o t
/-- the law's own end, with 1 on the stack, nothing written that was there before, its room as the claim has it -/
theorem lw_ret {p : Program} {l : Launch} {e : Env} {s : State} {m : MethodId} {below : List Frame} {meth : Method} {c : Code} {b : Nat} (hx : p.tables.exec = Jvm.exec) (hb : c.code = code) (hr : meth.sig.returnType = ret) (hlocks : meth.locks = false) {pc : Nat} {H : Heap} {ls : Array Slot} (hdg : decode code pc = .ok (.ireturn, 1)) : W p l e room_1 s m #[Value.ref b] below meth c H [] 45 1845 (lw_Z below #[Value.ref b] s) (F0 m pc ls [.int 1]) := by
  intro T hT X
  obtain ⟨fs, hret, hrun, hended, hW, hframe⟩ := X.leave (v := some (.int 1)) (hlocks := hlocks) (fun h => by rw [hr] at h; cases h)
  have hmeth' : T.vm.method? m = some meth := X.method'
  refine ⟨T.setFrames fs, ?_, .returned (some (.int 1)), hrun, hended, rfl, ⟨_, rfl⟩, hW, hframe⟩
  jvm_step X.here [X.here.top, hx, hb, hdg, hmeth', hr, ret, narrow_b1]
  (try refine ⟨rfl, ?_⟩); (try refine ⟨rfl, ?_⟩)
  first | (intro acts; rw [hret _ acts rfl rfl rfl]) | rw [hret _ _ rfl rfl rfl]
  exact Steps.refl _
/-- what holds at the law's entry: the machine, the code, the tables' words (any of lw_tbl by 'hts w (by decide +kernel)'), the script of L ints xs at the cell b, what the Statement gives of the start (any of its parts by flat_of_before) -/
def lw_At (p : Program) (s : State) (m : MethodId) (meth : Method) (c : Code) (b L : Nat) (xs : Nat → Int32) : Prop :=
  p.tables.exec = Jvm.exec ∧ c.code = code ∧ meth.sig.returnType = ret ∧ c.maxLocals = 4 ∧ s.vm.findClass R_law = some m.cls ∧ (∀ w ∈ lw_tbl, w.before #[Value.ref b] s = true) ∧ va_X b L xs s s.heap ∧ b < s.heap.size ∧ meth.locks = false ∧ (Jvm.Cond.and given_1 narrow_1).before #[Value.ref b] s = true
/-! the law's own words: both worlds, packed with the words of the one state -/
theorem Met_i {l : Launch} {y : MethodName} {ws : List Cond} {rm : Room} {Pc : Array Value → State → Prop} {S S' : Type} {post : Int32 → S → Prop} {post' : Int32 → S' → Prop} {B : S → State → Prop} {B' : S' → State → Prop} {A : Nat → Prop} {mc ms : Nat} {free : Addr → Prop} (hM : Met l y ws rm Pc (va_Qi post B A) mc ms free) (h : ∀ (r : Int32) (u : S) (t : State), post r u → B u t → ∃ u' : S', post' r u' ∧ B' u' t) : Met l y ws rm Pc (va_Qi post' B' A) mc ms free :=
  MetFree.mono hM (fun _ _ h => h) (fun _ _ _ _ _ h => h) (fun a s o t _ h9 => by
    obtain ⟨⟨⟨r, u, ho, hp, hb⟩, hF⟩, hL⟩ := h9
    obtain ⟨u', hp', hb'⟩ := h r u t hp hb
    exact ⟨⟨⟨r, u', ho, hp', hb'⟩, hF⟩, hL⟩)
theorem Met_l {l : Launch} {y : MethodName} {ws : List Cond} {rm : Room} {Pc : Array Value → State → Prop} {S S' : Type} {post : Int64 → S → Prop} {post' : Int64 → S' → Prop} {B : S → State → Prop} {B' : S' → State → Prop} {A : Nat → Prop} {mc ms : Nat} {free : Addr → Prop} (hM : Met l y ws rm Pc (va_Ql post B A) mc ms free) (h : ∀ (r : Int64) (u : S) (t : State), post r u → B u t → ∃ u' : S', post' r u' ∧ B' u' t) : Met l y ws rm Pc (va_Ql post' B' A) mc ms free :=
  MetFree.mono hM (fun _ _ h => h) (fun _ _ _ _ _ h => h) (fun a s o t _ h9 => by
    obtain ⟨⟨⟨r, u, ho, hp, hb⟩, hF⟩, hL⟩ := h9
    obtain ⟨u', hp', hb'⟩ := h r u t hp hb
    exact ⟨⟨⟨r, u', ho, hp', hb'⟩, hF⟩, hL⟩)
theorem va_Pl {D : va_G} {cl : List vw_C} {a b : va_W} {H : Heap} (h : va_P D cl (a ++ b) H) : va_P D cl a H := fun k q hk => h k q (by
  rw [List.getElem?_append_left (List.getElem?_eq_some_iff.mp hk).1]; exact hk)
theorem va_Dl {A : Nat → Prop} {a b : va_W} (h : va_D A (a ++ b)) : va_D A a := by
  have key : ∀ (k : Nat) (q : Nat × va_E), a[k]? = some q → (a ++ b)[k]? = some q := fun k q hk => by
    rw [List.getElem?_append_left (List.getElem?_eq_some_iff.mp hk).1]; exact hk
  exact ⟨fun i j p q hi hj e => h.1 i j p q (key i p hi) (key j q hj) e, fun k q hk => h.2 k q (key k q hk)⟩
theorem va_fl {A0 : Nat → Prop} {a b : va_W} {H0 H : Heap} {locs : List Loc} (hD : va_D A0 (a ++ b)) (hS : va_S A0 H0 H locs) (hA : ∀ q, H0.size ≤ q → A0 q) : ∀ q, va_A a H.size q → A0 q := by
  intro q h
  rcases h with ⟨k, e, h⟩ | h
  · exact (va_Dl hD).2 k (q, e) h
  · exact hA q (Nat.le_trans hS.1 h)
theorem va_jl {A0 : Nat → Prop} {D : va_G} {cl : List vw_C} {a b a1 : va_W} {H H1 : Heap} (hP : va_P D cl (a ++ b) H) (hD : va_D A0 (a ++ b)) (hk : ∀ q : Nat, q < H.size → ¬ va_A a H.size q → H1[q]? = H[q]?) (hF : ∀ q, va_A a H.size q → A0 q) (hP1 : va_P D cl a1 H1) (hD1 : va_D (va_A a H.size) a1) : va_P D cl (b ++ a1) H1 ∧ va_D A0 (b ++ a1) := by
  have key : ∀ (k : Nat) (q : Nat × va_E), b[k]? = some q → (a ++ b)[a.length + k]? = some q := fun k q hk => by
    rw [List.getElem?_append_right (by omega), show a.length + k - a.length = k by omega]; exact hk
  have apart : ∀ (k : Nat) (q : Nat × va_E), b[k]? = some q → q.1 < H.size ∧ ¬ va_A a H.size q.1 := by
    intro k q hq
    have h2 := key k q hq
    have hl := (hP _ q h2).lt
    refine ⟨hl, fun h => ?_⟩
    rcases h with ⟨k2, e, h⟩ | h
    · have h3 := (List.getElem?_eq_some_iff.mp h).1
      have hij := hD.1 _ _ q (q.1, e) h2 (by rw [List.getElem?_append_left h3]; exact h) rfl
      omega
    · omega
  have hDb : va_D A0 b := ⟨fun i j p q hi hj e => by have := hD.1 _ _ p q (key i p hi) (key j q hj) e; omega, fun k q hk => hD.2 _ q (key k q hk)⟩
  refine ⟨va_P.app (fun k q hq => ?_) hP1, va_D.app hDb (hD1.weaken (fun k q _ h => hF q.1 h)) (fun i j x y hx hy hxy => ?_)⟩
  · obtain ⟨g1, g2⟩ := apart k q hq
    exact (hP _ q (key k q hq)).kept (hk q.1 g1 g2)
  · exact (apart i x hx).2 (by rw [hxy]; exact hD1.2 j y hy)
def BX (cI cZ : ClassId) (h4 : Nat) (pl : Nat) (le : Nat → Nat) (n : Nat) (k : Nat → Nat) (h : Nat → Nat) (b : Nat → Nat) (d : Nat → Option Nat) (dr : Nat) (sc : Nat) (sp : Nat → Nat) (sn : Nat → Nat) (sm : Nat → Bool) (cr : Nat) (hd : Nat) (hi : Bool) (kk2 : Nat → Nat) (hh2 : Nat → Nat) (bb2 : Nat → Nat) (dd2 : Nat → Option Nat) (dk : Nat) (ks : Nat) (sp2 : Nat → Nat) (sn2 : Nat → Nat) (sm2 : Nat → Bool) (ws : va_W) : Prop := ∃ (h2 : Nat) (l1 : Nat) (lA : Nat → Int32) (h0 : Nat) (a1 : Nat) (a2 : Nat) (a3 : Nat) (a4 : Nat) (a5 : Nat) (a6 : Nat) (a7 : Nat) (kA : Nat → Int32) (hsA : Nat → Int32) (dA : Nat → Int32) (bA : Nat → Int32) (pA : Nat → Int32) (nA : Nat → Int32) (mA : Nat → Int32) (g0 : Nat) (b1 : Nat) (b2 : Nat) (b3 : Nat) (b4 : Nat) (b5 : Nat) (b6 : Nat) (b7 : Nat) (n2 : Nat) (dr2 : Nat) (sc2 : Nat) (kA2 : Nat → Int32) (hsA2 : Nat → Int32) (dA2 : Nat → Int32) (bA2 : Nat → Int32) (pA2 : Nat → Int32) (nA2 : Nat → Int32) (mA2 : Nat → Int32) (h1 : Nat) (o1 : Nat) (o2 : Nat) (o3 : Nat) (o4 : Nat) (o5 : Nat) (o6 : Nat) (on : Nat) (ev : Nat) (cA : Nat → Int32) (wA : Nat → Int32) (rA : Nat → Int32) (xA : Nat → Int32) (tA : Nat → Int32) (gA : Nat → Int32) (h3 : Nat) (sd : Nat) (cp : Nat) (nm : Nat), ws = (WHN cI cZ h4 h2 l1 pl lA h0 a1 a2 a3 a4 a5 a6 a7 n dr sc kA hsA dA bA pA nA mA g0 b1 b2 b3 b4 b5 b6 b7 n2 dr2 sc2 kA2 hsA2 dA2 bA2 pA2 nA2 mA2 h1 o1 o2 o3 o4 o5 o6 on ev cA wA rA xA tA gA h3 sd cp nm hi cr hd) ∧ PgR pl lA le ∧ CoR n kA hsA dA bA k h b d ∧ SeR n sc pA nA mA sp sn sm ∧ (∀ i, i < 6 → mA i = 0 ∨ mA i = 1) ∧ (∀ i, i < 6 → mA2 i = 0 ∨ mA2 i = 1) ∧ KpR hi n n2 dr2 sc2 kA2 hsA2 dA2 bA2 pA2 nA2 mA2 kk2 hh2 bb2 dd2 dk ks sp2 sn2 sm2
def BM (cI cZ : ClassId) (h5 : Nat) (pl : Nat) (le : Nat → Nat) (n : Nat) (k : Nat → Nat) (h : Nat → Nat) (b : Nat → Nat) (d : Nat → Option Nat) (dr : Nat) (sc : Nat) (sp : Nat → Nat) (sn : Nat → Nat) (sm : Nat → Bool) (cr : Nat) (hd : Nat) (hi : Bool) (kk2 : Nat → Nat) (hh2 : Nat → Nat) (bb2 : Nat → Nat) (dd2 : Nat → Option Nat) (dk : Nat) (ks : Nat) (sp2 : Nat → Nat) (sn2 : Nat → Nat) (sm2 : Nat → Bool) (ws : va_W) : Prop := ∃ (m1 : Nat) (m2 : Nat) (m3 : Nat) (m4 : Nat) (m5 : Nat) (m6 : Nat) (m7 : Nat) (m8 : Nat) (m9 : Nat) (m10 : Nat) (m11 : Nat) (m12 : Nat) (m13 : Nat) (m14 : Nat) (m15 : Nat) (m16 : Nat) (m17 : Nat) (lm : Nat) (wm : Nat) (rd : Nat) (sdN : Nat) (kc : Option Nat) (dkM : Nat) (ksM : Nat) (hz : Int64) (lB : Nat → Int32) (kB : Nat → Int32) (hB : Nat → Int32) (dB : Nat → Int32) (bB : Nat → Int32) (lfA : Nat → Int32) (rwA : Nat → Int32) (wlA : Nat → Int32) (hvA : Nat → Int32) (fdA : Nat → Int32) (chA : Nat → Int32) (sgA : Nat → Int32) (kkB : Nat → Int32) (hhB : Nat → Int32) (ddB : Nat → Int32) (bbB : Nat → Int32) (sgB : Nat → Int32), ws = (WM cI cZ h5 m1 m2 m3 m4 m5 m6 m7 m8 m9 m10 m11 m12 m13 m14 m15 m16 m17 pl n dr cr lm wm rd hd sc sdN kc dkM ksM hz lB kB hB dB bB lfA rwA wlA hvA fdA chA sgA kkB hhB ddB bbB sgB) ∧ PgR pl lB le ∧ CoR n kB hB dB bB k h b d ∧ SgR n sc sgA sp sn sm ∧ (∀ q, kc = some q → q ≤ cr) ∧ (hi = true ↔ kc = some cr) ∧ (kc = some cr → dkM = dk ∧ ksM = ks ∧ CoR n kkB hhB ddB bbB kk2 hh2 bb2 dd2 ∧ SgR n ks sgB sp2 sn2 sm2)
theorem BX_head {cI cZ : ClassId} {h4 : Nat} {pl : Nat} {le : Nat → Nat} {n : Nat} {k : Nat → Nat} {h : Nat → Nat} {b : Nat → Nat} {d : Nat → Option Nat} {dr : Nat} {sc : Nat} {sp : Nat → Nat} {sn : Nat → Nat} {sm : Nat → Bool} {cr : Nat} {hd : Nat} {hi : Bool} {kk2 : Nat → Nat} {hh2 : Nat → Nat} {bb2 : Nat → Nat} {dd2 : Nat → Option Nat} {dk : Nat} {ks : Nat} {sp2 : Nat → Nat} {sn2 : Nat → Nat} {sm2 : Nat → Bool} {ws : va_W} (hB : BX cI cZ h4 pl le n k h b d dr sc sp sn sm cr hd hi kk2 hh2 bb2 dd2 dk ks sp2 sn2 sm2 ws) : ∃ fs, ws[0]? = some (h4, .inr (4, fs)) := by
  obtain ⟨h2, l1, lA, h0, a1, a2, a3, a4, a5, a6, a7, kA, hsA, dA, bA, pA, nA, mA, g0, b1, b2, b3, b4, b5, b6, b7, n2, dr2, sc2, kA2, hsA2, dA2, bA2, pA2, nA2, mA2, h1, o1, o2, o3, o4, o5, o6, on, ev, cA, wA, rA, xA, tA, gA, h3, sd, cp, nm, rfl, hPg, hC, hSe, hmb, hmb2, hKp⟩ := hB
  exact ⟨_, rfl⟩
theorem BM_head {cI cZ : ClassId} {h5 : Nat} {pl : Nat} {le : Nat → Nat} {n : Nat} {k : Nat → Nat} {h : Nat → Nat} {b : Nat → Nat} {d : Nat → Option Nat} {dr : Nat} {sc : Nat} {sp : Nat → Nat} {sn : Nat → Nat} {sm : Nat → Bool} {cr : Nat} {hd : Nat} {hi : Bool} {kk2 : Nat → Nat} {hh2 : Nat → Nat} {bb2 : Nat → Nat} {dd2 : Nat → Option Nat} {dk : Nat} {ks : Nat} {sp2 : Nat → Nat} {sn2 : Nat → Nat} {sm2 : Nat → Bool} {ws : va_W} (hB : BM cI cZ h5 pl le n k h b d dr sc sp sn sm cr hd hi kk2 hh2 bb2 dd2 dk ks sp2 sn2 sm2 ws) : ∃ fs, ws[0]? = some (h5, .inr (5, fs)) := by
  obtain ⟨m1, m2, m3, m4, m5, m6, m7, m8, m9, m10, m11, m12, m13, m14, m15, m16, m17, lm, wm, rd, sdN, kc, dkM, ksM, hz, lB, kB, hB, dB, bB, lfA, rwA, wlA, hvA, fdA, chA, sgA, kkB, hhB, ddB, bbB, sgB, rfl, hPg, hC, hSg, hkc, hiff, hKm⟩ := hB
  exact ⟨_, rfl⟩
theorem BX_n7 {cI cZ : ClassId} {h4 : Nat} {pl : Nat} {le : Nat → Nat} {n : Nat} {k : Nat → Nat} {h : Nat → Nat} {b : Nat → Nat} {d : Nat → Option Nat} {dr : Nat} {sc : Nat} {sp : Nat → Nat} {sn : Nat → Nat} {sm : Nat → Bool} {cr : Nat} {hd : Nat} {hi : Bool} {kk2 : Nat → Nat} {hh2 : Nat → Nat} {bb2 : Nat → Nat} {dd2 : Nat → Option Nat} {dk : Nat} {ks : Nat} {sp2 : Nat → Nat} {sn2 : Nat → Nat} {sm2 : Nat → Bool} {ws : va_W} (hB : BX cI cZ h4 pl le n k h b d dr sc sp sn sm cr hd hi kk2 hh2 bb2 dd2 dk ks sp2 sn2 sm2 ws) : n ≤ 7 := by
  obtain ⟨h2, l1, lA, h0, a1, a2, a3, a4, a5, a6, a7, kA, hsA, dA, bA, pA, nA, mA, g0, b1, b2, b3, b4, b5, b6, b7, n2, dr2, sc2, kA2, hsA2, dA2, bA2, pA2, nA2, mA2, h1, o1, o2, o3, o4, o5, o6, on, ev, cA, wA, rA, xA, tA, gA, h3, sd, cp, nm, rfl, hPg, hC, hSe, hmb, hmb2, hKp⟩ := hB
  exact hC.1
def LIV (cI cZ : ClassId) (h4 h5 N : Nat) (wx wm : va_W) : Prop := ∃ (pl : Nat) (le : Nat → Nat) (n : Nat) (k : Nat → Nat) (h : Nat → Nat) (b : Nat → Nat) (d : Nat → Option Nat) (dr : Nat) (sc : Nat) (sp : Nat → Nat) (sn : Nat → Nat) (sm : Nat → Bool) (cr : Nat) (hd : Nat) (hi : Bool) (kk2 : Nat → Nat) (hh2 : Nat → Nat) (bb2 : Nat → Nat) (dd2 : Nat → Option Nat) (dk : Nat) (ks : Nat) (sp2 : Nat → Nat) (sn2 : Nat → Nat) (sm2 : Nat → Bool), BX cI cZ h4 pl le n k h b d dr sc sp sn sm cr hd hi kk2 hh2 bb2 dd2 dk ks sp2 sn2 sm2 wx ∧ BM cI cZ h5 pl le n k h b d dr sc sp sn sm cr hd hi kk2 hh2 bb2 dd2 dk ks sp2 sn2 sm2 wm ∧ dr ≤ 9999 ∧ dk ≤ 9999 ∧ hd ≤ 20 ∧ (n = 0 → hi = false) ∧ cr ≤ N
theorem tkN_le {n : Nat} {k h b : Nat → Nat} {d : Nat → Option Nat} {dr : Nat} {x y : Int32} (hdr : dr ≤ 9999) : tkN n k h b d dr x y ≤ 9999 := by
  unfold tkN
  split
  · rename_i h9
    unfold tkGo at h9
    simp only [Bool.and_eq_true] at h9
    have := of_decide_eq_true h9.2
    omega
  · exact hdr
theorem hnD_le {n hd : Nat} (h : hd ≤ 20) : hnD n hd ≤ 20 := by
  unfold hnD
  split
  · exact h
  · omega
theorem and31 (x : Int32) : ∃ m, m < 32 ∧ x &&& nI 31 = nI m := by
  have e : x = nI x.toBitVec.toNat := by
    apply Int32.toBitVec_inj.1
    show x.toBitVec = BitVec.ofNat 32 x.toBitVec.toNat
    rw [BitVec.ofNat_toNat, BitVec.setWidth_eq]
  refine ⟨x.toBitVec.toNat &&& 31, ?_, ?_⟩
  · have := Nat.and_le_right (n := x.toBitVec.toNat) (m := 31)
    omega
  · rw [← and_nI, ← e]
def LCx (prg : Program) (s : State) (m : MethodId) (meth : Method) (c : Code) (ba L : Nat) (xs : Nat → Int32) : Prop :=
  prg.tables.exec = Jvm.exec ∧ c.code = cL_law ∧ meth.sig.returnType = ret ∧ c.maxLocals = 4 ∧ s.vm.findClass RL = some m.cls ∧ (∀ w ∈ wsL_law, w.before #[Value.ref ba] s = true) ∧ va_X ba L xs s s.heap ∧ ba < s.heap.size ∧ meth.locks = false
def LKt (prg : Program) (l : Launch) (env : Env) (s : State) (m : MethodId) (below : List Frame) (meth : Method) (c : Code) (dC : Nat → ClassId) (dI0 : Nat → Nat → Nat) (cI cZ : ClassId) (h4 h5 ba i N pc : Nat) : Prop :=
  ∀ (wx wm : va_W) (H : Heap) (locs : List Loc), LIV cI cZ h4 h5 N wx wm → va_P (dC, dI0) vwCl (wx ++ wm) H → va_D (fun q : Nat => s.heap.size ≤ q) (wx ++ wm) → va_S (fun q : Nat => s.heap.size ≤ q) s.heap H locs → ∀ (ls : Array Slot), lv_has ls 4 [(0, .ref ba), (1, .ref h4), (2, .ref h5), (3, .int (nI i))] → W prg l env room_1 s m #[Value.ref ba] below meth c H locs 45 1845 (lw_Z below #[Value.ref ba] s) (F0 m pc ls [])
