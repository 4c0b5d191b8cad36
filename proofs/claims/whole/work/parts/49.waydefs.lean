/-! what the ways of both sides have to do with each other, as one word (shown for every company later) -/
def cmF (n : Nat) (k h b : Nat → Nat) (d : Nat → Option Nat) : Nat → Nat → Nat
  | 0, _ => 1000000
  | r + 1, T => if ct (fun q => T.testBit q && mayS k h b ((LV n d).getD ((LV n d).length - (r + 1)) 0) q) n = 0 then 0 else smS (fun q => if (T.testBit q && mayS k h b ((LV n d).getD ((LV n d).length - (r + 1)) 0) q) = true then cmF n k h b d r (andn T (2 ^ q)) else 0) n / ct (fun q => T.testBit q && mayS k h b ((LV n d).getD ((LV n d).length - (r + 1)) 0) q) n
def cmS (n : Nat) (k h b : Nat → Nat) (d : Nat → Option Nat) (T : Nat) : Nat := cmF n k h b d (pop T) T
def WY (n : Nat) (k h b : Nat → Nat) (d : Nat → Option Nat) : Prop :=
  (VS n k h b d (PM (LV n d).length)).length = wyS n k h b d ∧ (VS n k h b d (PM (LV n d).length)).countP (rgB n) = clS (chS n k h b d) n 1 0 ∧ (∀ p q, p < n → q < n → (VS n k h b d (PM (LV n d).length)).countP (fun s2 => decide (s2 p = q)) = thS (chS n k h b d) n p q) ∧ (∀ w, w < wyS n k h b d → ∃ s2, (VS n k h b d (PM (LV n d).length))[w]? = some s2 ∧ ∀ p, p < n → s2 p = nwS (chS n k h b d) n w p) ∧ cmS n k h b d (hatS n d) = lkS (chS n k h b d) n (2 ^ n - 1)
theorem wy_le {n : Nat} {k h b : Nat → Nat} {d : Nat → Option Nat} (hn : n ≤ 7) : wyS n k h b d ≤ 823543 := onS_le _ hn _
theorem cnt_one {α : Type} {l : List α} {f : α → Nat} {a b : Nat} (h0 : 0 < l.length) (h1 : l.countP (fun s => decide (f s = a)) = l.length) (h2 : l.countP (fun s => decide (f s = b)) = l.length) : a = b := by
  cases l with
  | nil => exact absurd h0 (Nat.not_lt_zero _)
  | cons x r =>
    have e1 := List.countP_eq_length.mp h1 x List.mem_cons_self
    have e2 := List.countP_eq_length.mp h2 x List.mem_cons_self
    rw [← of_decide_eq_true e1]
    exact of_decide_eq_true e2
/-- the last one found; as there is one at most, the first -/
def ltF (P : Nat → Bool) : Nat → Option Nat
  | 0 => none
  | i + 1 => if P i = true then some i else ltF P i
theorem ltF_some {P : Nat → Bool} : ∀ {i p : Nat}, ltF P i = some p → p < i ∧ P p = true
  | 0, _, h => by cases h
  | i + 1, p, h => by
    rw [ltF] at h
    by_cases e : P i = true
    · rw [if_pos e] at h; cases h; exact ⟨by omega, e⟩
    · rw [if_neg e] at h; have := ltF_some h; exact ⟨by omega, this.2⟩
theorem ltF_none {P : Nat → Bool} : ∀ {i : Nat}, ltF P i = none → ∀ p, p < i → ¬ P p = true
  | 0, _, p, hp => absurd hp (Nat.not_lt_zero _)
  | i + 1, h, p, hp => by
    rw [ltF] at h
    by_cases e : P i = true
    · rw [if_pos e] at h; cases h
    · rw [if_neg e] at h
      by_cases z : p = i
      · rw [z]; exact e
      · exact ltF_none h p (by omega)
theorem ltF_eq {P : Nat → Bool} {n : Nat} (hu : ∀ a b, a < n → b < n → P a = true → P b = true → a = b) : ltF P n = fF P n 0 := by
  cases e : ltF P n with
  | none =>
    cases e2 : fF P n 0 with
    | none => rfl
    | some p => have := fF_some e2; exact absurd this.2.2.1 (ltF_none e p (by omega))
  | some p =>
    have h1 := ltF_some e
    cases e2 : fF P n 0 with
    | none => have := fF_none e2 p (Nat.zero_le _) (by omega); rw [h1.2] at this; cases this
    | some p' => have := fF_some e2; rw [hu p p' h1.1 (by omega) h1.2 this.2.2.1]
theorem su_eq {n : Nat} {k h b : Nat → Nat} {d : Nat → Option Nat} {p : Nat} (hw : WY n k h b d) (hp : p < n) : ltF (fun q => decide (0 < wyS n k h b d ∧ thS (chS n k h b d) n p q = wyS n k h b d)) n = fF (fun q => decide (0 < wyS n k h b d ∧ thS (chS n k h b d) n p q = wyS n k h b d)) n 0 := by
  apply ltF_eq
  intro x y hx hy h1 h2
  have h1 := of_decide_eq_true h1
  have h2 := of_decide_eq_true h2
  obtain ⟨w1, -, w3, -⟩ := hw
  rw [← w3 p x hp hx, ← w1] at h1
  rw [← w3 p y hp hy, ← w1] at h2
  exact cnt_one h1.1 h1.2 h2.2
theorem th_dr {n : Nat} {k h b : Nat → Nat} {d : Nat → Option Nat} {p q : Nat} (hw : WY n k h b d) (hp : p < n) (hq : q < n) (e : d p = some q) : thS (chS n k h b d) n p q = wyS n k h b d := by
  obtain ⟨w1, -, w3, -⟩ := hw
  rw [← w3 p q hp hq, ← w1]
  apply List.countP_eq_length.mpr
  intro s hs
  unfold VS at hs
  obtain ⟨w, -, rfl⟩ := List.mem_map.mp hs
  exact decide_eq_true (mgF_s e)
theorem th_le2 {n : Nat} {k h b : Nat → Nat} {d : Nat → Option Nat} {p q : Nat} (hw : WY n k h b d) (hp : p < n) (hq : q < n) : thS (chS n k h b d) n p q ≤ wyS n k h b d := by
  obtain ⟨w1, -, w3, -⟩ := hw
  rw [← w3 p q hp hq, ← w1]
  exact List.countP_le_length
theorem ch_tb {n : Nat} {k h b : Nat → Nat} {d : Nat → Option Nat} {p q : Nat} (hq : q < n) (e : d p = none) : (chS n k h b d p).testBit q = ((hatS n d).testBit q && mayS k h b p q) := by
  rw [chS, e]
  show (hatS n d &&& pb (mayS k h b p) n).testBit q = _
  rw [Nat.testBit_and, tb_pb, decide_eq_true hq, Bool.true_and]
def htG (n : Nat) (k h b : Nat → Nat) (d : Nat → Option Nat) (z : Nat) : Bool := decide ((chS n k h b d (z / n)).testBit (z % n) = true ∧ wyS n k h b d - thS (chS n k h b d) n (z / n) (z % n) = 1)
theorem ht_dr {n : Nat} {k h b : Nat → Nat} {d : Nat → Option Nat} {z : Nat} (hw : WY n k h b d) (hn : 0 < n) (hdn : ∀ q, d (z / n) = some q → q < n) (hp : z / n < n) (hd : ¬ d (z / n) = none) : htG n k h b d z = false := by
  obtain ⟨q, hq⟩ := Option.ne_none_iff_exists'.mp hd
  apply decide_eq_false
  rintro ⟨h1, h2⟩
  rw [chS_s hq, Nat.testBit_two_pow] at h1
  have h3 := of_decide_eq_true h1
  rw [← h3, th_dr hw hp (hdn q hq) hq, Nat.sub_self] at h2
  cases h2
theorem hasS_0 (x : Int32) : hasS 0 x = false := decide_eq_false (fun z => by have := z.1; have h2 := z.2; change x.toInt < 0 at h2; omega)
