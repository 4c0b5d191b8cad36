def cmP (n : Nat) (d : Nat → Option Nat) (T : Nat) : Nat := (LV n d).getD ((LV n d).length - pop T) 0
def cmO (n : Nat) (k h b : Nat → Nat) (d : Nat → Option Nat) (T q : Nat) : Bool := T.testBit q && mayS k h b (cmP n d T) q
def cmG (n : Nat) (k h b : Nat → Nat) (d : Nat → Option Nat) (T q : Nat) : Nat := if cmO n k h b d T q = true then cmS n k h b d (andn T (2 ^ q)) else 0
theorem cmS_0 (n : Nat) (k h b : Nat → Nat) (d : Nat → Option Nat) : cmS n k h b d 0 = 1000000 := by rw [cmS, pop_0, cmF]
theorem cmS_eq {n : Nat} {k h b : Nat → Nat} {d : Nat → Option Nat} {T : Nat} (hn : n ≤ 7) (hT : T < 128) (h0 : 0 < T) : cmS n k h b d T = if ct (cmO n k h b d T) n = 0 then 0 else smS (cmG n k h b d T) n / ct (cmO n k h b d T) n := by
  have hp := pop_pos T hT h0
  obtain ⟨r, hr⟩ : ∃ r, pop T = r + 1 := ⟨pop T - 1, by omega⟩
  have e1 : ∀ q, (T.testBit q && mayS k h b ((LV n d).getD ((LV n d).length - (r + 1)) 0) q) = cmO n k h b d T q := by
    intro q
    rw [cmO, cmP, hr]
  rw [cmS, hr, cmF]
  have e2 : ct (fun q => T.testBit q && mayS k h b ((LV n d).getD ((LV n d).length - (r + 1)) 0) q) n = ct (cmO n k h b d T) n := ct_cong (fun q _ => e1 q)
  have e3 : smS (fun q => if (T.testBit q && mayS k h b ((LV n d).getD ((LV n d).length - (r + 1)) 0) q) = true then cmF n k h b d r (andn T (2 ^ q)) else 0) n = smS (cmG n k h b d T) n := by
    apply smS_cong
    intro q hq
    rw [e1, cmG]
    by_cases z : cmO n k h b d T q = true
    · rw [if_pos z, if_pos z, cmS]
      have h2 : T.testBit q = true := (Bool.and_eq_true_iff.mp z).1
      have h3 := cut_ok T hT q (by omega) h2
      rw [show pop (andn T (2 ^ q)) = r by omega]
    · rw [if_neg z, if_neg z]
  rw [e2, e3]
theorem cmF_le {n : Nat} {k h b : Nat → Nat} {d : Nat → Option Nat} : ∀ r T, cmF n k h b d r T ≤ 1000000
  | 0, _ => Nat.le_refl _
  | r + 1, T => by
    rw [cmF]
    split
    · exact Nat.zero_le _
    · apply Nat.div_le_of_le_mul
      have key : ∀ j, smS (fun q => if (T.testBit q && mayS k h b ((LV n d).getD ((LV n d).length - (r + 1)) 0) q) = true then cmF n k h b d r (andn T (2 ^ q)) else 0) j ≤ ct (fun q => T.testBit q && mayS k h b ((LV n d).getD ((LV n d).length - (r + 1)) 0) q) j * 1000000 := by
        intro j
        induction j with
        | zero => exact Nat.zero_le _
        | succ j ih =>
          rw [smS, ct]
          by_cases z : (T.testBit j && mayS k h b ((LV n d).getD ((LV n d).length - (r + 1)) 0) j) = true
          · rw [if_pos z, if_pos z]
            have := cmF_le (n := n) (k := k) (h := h) (b := b) (d := d) r (andn T (2 ^ j))
            omega
          · rw [if_neg z, if_neg z]
            omega
      exact key n
theorem cmS_le {n : Nat} {k h b : Nat → Nat} {d : Nat → Option Nat} (T : Nat) : cmS n k h b d T ≤ 1000000 := cmF_le _ _
theorem cmG_sum {n : Nat} {k h b : Nat → Nat} {d : Nat → Option Nat} {T i : Nat} (hi : i ≤ 7) : smS (cmG n k h b d T) i ≤ 7000000 := by
  have h := smS_le (f := cmG n k h b d T) (b := 1000000) (n := i) (fun q _ => by unfold cmG; split; exact cmS_le _; exact Nat.zero_le _)
  omega
theorem andn_lt7 {a b : Nat} (h : a < 128) : andn a b < 128 := by
  unfold andn
  exact Nat.xor_lt_two_pow (n := 7) h (Nat.lt_of_le_of_lt Nat.and_le_left h)
theorem andn_0 {T H q : Nat} (h : andn T H = 0) (hq : T.testBit q = true) : H.testBit q = true := by
  have h1 : (andn T H).testBit q = false := by rw [h, Nat.zero_testBit]
  rw [tb_andn, hq, Bool.true_and] at h1
  cases z : H.testBit q with
  | true => rfl
  | false => rw [z] at h1; cases h1
theorem andn_sub {T H X : Nat} (h : andn T H = 0) : andn (andn T X) H = 0 := by
  apply Nat.eq_of_testBit_eq
  intro i
  rw [tb_andn, tb_andn, Nat.zero_testBit]
  cases z : T.testBit i with
  | false => rfl
  | true => rw [andn_0 h z]; cases X.testBit i <;> rfl
theorem ct_imp {P Q : Nat → Bool} : ∀ {k : Nat}, (∀ i, i < k → P i = true → Q i = true) → ct P k ≤ ct Q k
  | 0, _ => Nat.le_refl _
  | k + 1, h => by
    have ih := ct_imp (k := k) (fun i hi => h i (by omega))
    rw [ct, ct]
    cases z : P k with
    | false => rw [if_neg (by decide)]; omega
    | true => rw [h k (by omega) z]; omega
theorem pop_hat {n : Nat} {d : Nat → Option Nat} (hn7 : n ≤ 7) : pop (hatS n d) = (RV n d).length := by
  unfold RV
  rw [flt_ct]
  show pop (pb (fun q => !tk d q n) n) = _
  rw [pop_pb hn7]
  apply ct_cong
  intro q hq
  show (!tk d q n) = (pb (fun q => !tk d q n) n).testBit q
  rw [tb_pb, decide_eq_true hq, Bool.true_and]
theorem sub_pop {T H : Nat} (h : andn T H = 0) : pop T ≤ pop H := ct_imp (fun i _ hi => andn_0 h hi)
theorem sg_le {n : Nat} {k h b : Nat → Nat} {d : Nat → Option Nat} {T i s : Nat} (hs : s = smS (cmG n k h b d T) i) (hi : i ≤ 7) : s ≤ 7000000 := by rw [hs]; exact cmG_sum hi
theorem lik_t {n : Nat} {k h b : Nat → Nat} {d : Nat → Option Nat} {g : Nat → Int32} {T0 : Nat} {v : Int32} (hg : ∀ T, T < T0 → andn T (hatS n d) = 0 → g T = nI (cmS n k h b d T)) (hv : v = nI (cmS n k h b d T0)) : ∀ T, T < T0 + 1 → andn T (hatS n d) = 0 → upd g T0 v T = nI (cmS n k h b d T) := by
  intro T hT hz
  by_cases e : T = T0
  · subst e; rw [pk_us, hv]
  · rw [pk_un e]; exact hg T (by omega) hz
theorem andn_self (a : Nat) : andn a a = 0 := by
  unfold andn
  rw [Nat.and_self, Nat.xor_self]
theorem inR_out {x : Int32} {a b : Nat} (h : inR x a b = false) : x.toInt < (a : Int) ∨ (b : Int) < x.toInt := by
  have := of_decide_eq_false h
  omega
