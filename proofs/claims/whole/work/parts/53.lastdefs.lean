theorem hat_tk0 {n q : Nat} {d : Nat → Option Nat} (hq : q < n) (h : (hatS n d).testBit q = false) : tk d q n = true := by
  unfold hatS at h
  rw [tb_pb, decide_eq_true hq, Bool.true_and] at h
  cases z : tk d q n with
  | true => rfl
  | false => rw [z] at h; cases h
theorem and_lN (a b : Nat) : lN a &&& lN b = lN (a &&& b) := by
  apply Int64.toBitVec_inj.1
  show BitVec.ofNat 64 a &&& BitVec.ofNat 64 b = BitVec.ofNat 64 (a &&& b)
  apply BitVec.eq_of_getLsbD_eq
  intro i hi
  simp [hi]
theorem draw_eq {s : Nat} (hs : s < 2 ^ 31) : (((1103515245 : Int64) * (nI s).toInt64 + (12345 : Int64)) &&& (2147483647 : Int64)).toInt32 = nI (nxS s) := by
  rw [nI_l hs, show (1103515245 : Int64) = lN 1103515245 from rfl, show (12345 : Int64) = lN 12345 from rfl, show (2147483647 : Int64) = lN 2147483647 from rfl, lN_mul, lN_add, and_lN, lN_i, nx_and]
  rfl
/-- one drawing, over the list of those who are left -/
def dlF (cs : Nat → Nat) : List Nat → Nat → Nat → Nat → Nat × Nat × Bool
  | [], _, s, nm => (s, nm, true)
  | p :: r, cur, s, nm => if cs p &&& cur = 0 then (s, nm, false) else dlF cs r (andn cur (2 ^ drS s (cs p &&& cur))) (nxS s) (nm + 1)
theorem drop_c {l : List Nat} {j : Nat} (h : j < l.length) : l.drop j = l.getD j 0 :: l.drop (j + 1) := by
  rw [List.drop_eq_getElem_cons h, List.getD_eq_getElem?_getD, List.getElem?_eq_getElem h]
  rfl
theorem do_dl {cs : Nat → Nat} {d : Nat → Option Nat} {n : Nat} : ∀ r i left s nm, i + r = n → doF cs d r i left s nm = dlF cs ((LV n d).drop (ct (fun p => (d p).isNone) i)) left s nm
  | 0, i, left, s, nm, hi => by
    have h1 : ct (fun p => (d p).isNone) i = (LV n d).length := by
      unfold LV
      rw [flt_ct, show i = n by omega]
    rw [doF, h1, List.drop_length, dlF]
  | r + 1, i, left, s, nm, hi => by
    rw [doF]
    cases e : d i with
    | some q =>
      rw [if_pos (show (some q).isSome = true from rfl), do_dl (n := n) r (i + 1) left s nm (by omega), ← ct_f (f := fun p => (d p).isNone) (by rw [e]; rfl)]
    | none =>
      have h1 := LV_at (n := n) (d := d) (p := i) (by omega) e
      rw [if_neg (by decide), drop_c h1.2, h1.1, dlF]
      by_cases z : cs i &&& left = 0
      · rw [if_pos z, if_pos z]
      · rw [if_neg z, if_neg z, do_dl (n := n) r (i + 1) _ _ _ (by omega), ← ct_t (f := fun p => (d p).isNone) (by rw [e]; rfl)]
theorem do_dl0 {cs : Nat → Nat} {d : Nat → Option Nat} {n left s nm : Nat} : doF cs d n 0 left s nm = dlF cs (LV n d) left s nm := do_dl n 0 left s nm (by omega)
theorem ch_and {n : Nat} {k h b : Nat → Nat} {d : Nat → Option Nat} {p cur : Nat} (e : d p = none) (hs : andn cur (hatS n d) = 0) : chS n k h b d p &&& cur = cur &&& pb (mayS k h b p) n := by
  rw [chS, e]
  show hatS n d &&& pb (mayS k h b p) n &&& cur = _
  apply Nat.eq_of_testBit_eq
  intro i
  rw [Nat.testBit_and, Nat.testBit_and, Nat.testBit_and]
  cases z : cur.testBit i with
  | false => simp
  | true => rw [andn_0 hs z]; simp
theorem pk_end {S i : Nat} (hi : i ≤ 6) (h : ¬ S / 2 ^ i % 2 = 0) : pkF S (6 - i) i 0 = i := by
  by_cases e : i = 6
  · subst e; rfl
  · exact pkF_f (by omega) (by omega)
theorem ct7 {S i : Nat} (h : S / 2 ^ i % 2 = 0 ∨ S / 2 ^ i % 2 = 1) : ct S.testBit (i + 1) = ct S.testBit i + S / 2 ^ i % 2 := by
  rw [ct, tb_mod]
  rcases h with h | h
  · rw [h, if_neg (by decide)]
  · rw [h, if_pos (by decide)]
theorem ct_le7 (S : Nat) {i : Nat} (h : 7 ≤ i) : pop S ≤ ct S.testBit i := ct_mono _ h
theorem drop_e {l : List Nat} {j : Nat} (h : l.length ≤ j) : l.drop j = [] := List.drop_eq_nil_iff.mpr h
