/-! who has which name in how many ways: sums over sets -/
theorem smS_swap (f : Nat → Nat → Nat) : ∀ m n, smS (fun i => smS (fun j => f i j) n) m = smS (fun j => smS (fun i => f i j) m) n
  | 0, n => (smS_zero (f := fun j => smS (fun i => f i j) 0) (fun _ _ => rfl)).symm
  | m + 1, n => by
    rw [smS, smS_swap f m n, ← smS_add]
    rfl
theorem smS_mul (c : Nat) (f : Nat → Nat) : ∀ n, c * smS f n = smS (fun i => c * f i) n
  | 0 => rfl
  | n + 1 => by rw [smS, smS, Nat.mul_add, smS_mul c f n]
theorem smS_if (c : Prop) [Decidable c] (f : Nat → Nat) (n : Nat) : (if c then smS f n else 0) = smS (fun i => if c then f i else 0) n := by
  by_cases h : c
  · rw [if_pos h]; exact smS_cong (fun i _ => (if_pos h).symm)
  · rw [if_neg h, smS_zero (fun i _ => if_neg h)]
theorem smS_pick {f : Nat → Nat} {t n : Nat} (ht : t < n) (h : ∀ i, i < n → ¬ i = t → f i = 0) : smS f n = f t := by
  have := smS_one (f := f) (g := fun _ => 0) (v := f t) ht (fun q hq hne => h q hq hne) (by rw [Nat.zero_add])
  rw [this, smS_zero (fun _ _ => rfl), Nat.zero_add]
theorem smS_bij {n q : Nat} (hn7 : n ≤ 7) (hq : q < n) (F : Nat → Nat) : smS (fun S => if S.testBit q = true then F S else 0) (2 ^ n) = smS (fun T => if T.testBit q = false then F (T + 2 ^ q) else 0) (2 ^ n) := by
  have h7 := ev_le hn7
  have h1 : smS (fun S => if S.testBit q = true then F S else 0) (2 ^ n) = smS (fun S => smS (fun T => if T.testBit q = false ∧ T + 2 ^ q = S then F S else 0) (2 ^ n)) (2 ^ n) := by
    apply smS_cong
    intro S hS
    cases e : S.testBit q with
    | true =>
      have ha := andn_tb S (by omega) q (by omega) e
      have hp := Nat.two_pow_pos q
      rw [smS_pick (t := andn S (2 ^ q)) (by omega) (fun T _ hne => if_neg (fun z => hne (by omega))), if_pos rfl, if_pos ⟨ha.2, ha.1⟩]
    | false =>
      rw [if_neg (by decide)]
      symm
      apply smS_zero
      intro T hT
      apply if_neg
      rintro ⟨z1, z2⟩
      have ha := add_ok T (by omega) q (by omega) z1
      rw [z2, e] at ha
      exact absurd ha.2.2.2 (by decide)
  rw [h1, smS_swap]
  apply smS_cong
  intro T hT
  cases e : T.testBit q with
  | true =>
    rw [if_neg (by decide)]
    apply smS_zero
    intro S _
    exact if_neg (fun z => absurd z.1 (by decide))
  | false =>
    have hl := add_lt hn7 hT hq e
    rw [smS_pick (t := T + 2 ^ q) hl (fun S _ hne => if_neg (fun z => hne z.2.symm)), if_pos ⟨rfl, rfl⟩, if_pos rfl]
/-- of those who draw from p on, in how many ways has p2 the name q -/
def cQ (cs : Nat → Nat) (n p q j S : Nat) : Nat := (aS cs n (n - j) S).countP (fun u => decide (u.getD (p - j) 0 = q))
theorem cQ_step {cs : Nat → Nat} {n p q j S : Nat} (hj : j < p) (hp : p < n) : cQ cs n p q j S = smS (fun t => if (cs j &&& S).testBit t = true then cQ cs n p q (j + 1) (andn S (2 ^ t)) else 0) n := by
  unfold cQ
  rw [show n - j = (n - (j + 1)) + 1 by omega, aS, List.countP_flatMap, ← sum_range]
  congr 1
  apply List.map_congr_left
  intro t _
  show List.countP _ (if _ then _ else _) = _
  rw [show n - (n - (j + 1) + 1) = j by omega]
  split
  · rw [List.countP_map]
    congr 1
    funext u
    show decide ((t :: u).getD (p - j) 0 = q) = _
    rw [show p - j = (p - (j + 1)) + 1 by omega]
    rfl
  · rfl
theorem cQ_end {cs : Nat → Nat} {n p q S : Nat} (hp : p < n) (hq : q < n) : cQ cs n p q p S = wW cs (onF cs n (n - (p + 1))) p q S := by
  unfold cQ
  rw [show n - p = (n - (p + 1)) + 1 by omega, aS, List.countP_flatMap, Nat.sub_self]
  have h1 : ((List.range n).map (List.countP (fun u => decide (u.getD 0 0 = q)) ∘ fun t => if (cs (n - (n - (p + 1) + 1)) &&& S).testBit t = true then (aS cs n (n - (p + 1)) (andn S (2 ^ t))).map (fun w => t :: w) else [])).sum = smS (fun t => if t = q then wW cs (onF cs n (n - (p + 1))) p t S else 0) n := by
    rw [← sum_range]
    congr 1
    apply List.map_congr_left
    intro t _
    show List.countP _ (if _ then _ else _) = _
    rw [show n - (n - (p + 1) + 1) = p by omega]
    unfold wW
    by_cases e : (cs p &&& S).testBit t = true
    · rw [if_pos e, if_pos e, List.countP_map]
      by_cases z : t = q
      · rw [if_pos z, ← aS_len]
        apply List.countP_eq_length.mpr
        intro u _
        show decide ((t :: u).getD 0 0 = q) = true
        exact decide_eq_true z
      · rw [if_neg z]
        apply List.countP_eq_zero.mpr
        intro u _
        show ¬ decide ((t :: u).getD 0 0 = q) = true
        intro y
        exact z (of_decide_eq_true y)
    · rw [if_neg e, if_neg e]
      show 0 = _
      split <;> rfl
  rw [h1, smS_pick hq (fun t _ hne => if_neg hne), if_pos rfl]
def sQ (cs : Nat → Nat) (n p q j : Nat) : Nat := smS (fun S => if pop S = n - j then rF cs n j S * cQ cs n p q j S else 0) (2 ^ n)
theorem sQ_step {cs : Nat → Nat} {n p q j : Nat} (hn7 : n ≤ 7) (hj : j < p) (hp : p < n) : sQ cs n p q j = sQ cs n p q (j + 1) := by
  have h7 := ev_le hn7
  unfold sQ
  have h1 : smS (fun S => if pop S = n - j then rF cs n j S * cQ cs n p q j S else 0) (2 ^ n) = smS (fun S => smS (fun t => if S.testBit t = true then (if pop S = n - j ∧ (cs j).testBit t = true then rF cs n j S * cQ cs n p q (j + 1) (andn S (2 ^ t)) else 0) else 0) n) (2 ^ n) := by
    apply smS_cong
    intro S _
    rw [cQ_step hj hp, smS_mul, smS_if]
    apply smS_cong
    intro t _
    rw [Nat.testBit_and]
    by_cases a : pop S = n - j <;> by_cases b : (cs j).testBit t = true <;> by_cases c : S.testBit t = true <;> simp [a, b, c]
  have h2 : ∀ t, t < n → smS (fun S => if S.testBit t = true then (if pop S = n - j ∧ (cs j).testBit t = true then rF cs n j S * cQ cs n p q (j + 1) (andn S (2 ^ t)) else 0) else 0) (2 ^ n) = smS (fun T => if pop T = n - (j + 1) then (if T.testBit t = false ∧ (cs j).testBit t = true then rF cs n j (T + 2 ^ t) else 0) * cQ cs n p q (j + 1) T else 0) (2 ^ n) := by
    intro t ht
    rw [smS_bij hn7 ht (fun S => if pop S = n - j ∧ (cs j).testBit t = true then rF cs n j S * cQ cs n p q (j + 1) (andn S (2 ^ t)) else 0)]
    apply smS_cong
    intro T hT
    by_cases e : T.testBit t = false
    · have ha := add_ok T (by omega) t (by omega) e
      rw [if_pos e, ha.2.1, ha.2.2.1]
      by_cases x : pop T = n - (j + 1)
      · rw [if_pos x]
        by_cases y : (cs j).testBit t = true
        · rw [if_pos ⟨by omega, y⟩, if_pos ⟨e, y⟩]
        · rw [if_neg (fun z => y z.2), if_neg (fun z => y z.2), Nat.zero_mul]
      · rw [if_neg x, if_neg (fun z => x (by omega))]
    · rw [if_neg e]
      by_cases x : pop T = n - (j + 1)
      · rw [if_pos x, if_neg (fun z => e z.1), Nat.zero_mul]
      · rw [if_neg x]
  rw [h1, smS_swap, smS_cong h2, smS_swap]
  apply smS_cong
  intro T _
  rw [← smS_if]
  by_cases x : pop T = n - (j + 1)
  · rw [if_pos x, if_pos x, rF, Nat.mul_comm, smS_mul]
    apply smS_cong
    intro t _
    rw [Nat.mul_comm]
  · rw [if_neg x, if_neg x]
theorem sQ_all {cs : Nat → Nat} {n p q : Nat} (hn7 : n ≤ 7) (hp : p < n) : ∀ j, j ≤ p → sQ cs n p q 0 = sQ cs n p q j
  | 0, _ => rfl
  | j + 1, hj => by rw [sQ_all hn7 hp j (by omega), sQ_step hn7 (by omega) hp]
theorem pop_f : ∀ n, n ≤ 7 → ∀ S, S < 2 ^ n → pop S = n → S = 2 ^ n - 1 := by decide +kernel
theorem cnt_th {cs : Nat → Nat} {n p q : Nat} (hn7 : n ≤ 7) (hp : p < n) (hq : q < n) : (aS cs n n (2 ^ n - 1)).countP (fun u => decide (u.getD p 0 = q)) = thS cs n p q := by
  have h0 := Nat.two_pow_pos n
  have h7 := ev_le hn7
  have h1 : sQ cs n p q 0 = (aS cs n n (2 ^ n - 1)).countP (fun u => decide (u.getD p 0 = q)) := by
    unfold sQ
    rw [Nat.sub_zero, smS_pick (t := 2 ^ n - 1) (by omega) (fun S hS hne => if_neg (fun z => hne (pop_f n hn7 S hS z))), if_pos (pop_full n hn7), rF, Nat.one_mul]
    rfl
  rw [← h1, sQ_all hn7 hp p (Nat.le_refl _)]
  unfold sQ thS
  apply smS_cong
  intro S hS
  have hpn := pop_n n hn7 S hS
  by_cases e : pop S = n - p
  · have hS0 : 0 < S := by
      rcases Nat.eq_zero_or_pos S with z | z
      · rw [z, pop_0] at e; omega
      · exact z
    rw [if_pos e, if_pos ⟨by omega, hS0⟩, cQ_end hp hq, rS, show n - pop S = p by omega]
    congr 1
    apply wW_cong (by omega) (by omega)
    intro T _ hT
    rw [onS, show pop T = n - (p + 1) by omega]
  · rw [if_neg e, if_neg (fun z => e (by omega))]
theorem WY_3 {n : Nat} {k h b : Nat → Nat} {d : Nat → Option Nat} (hn7 : n ≤ 7) (hdn : ∀ p, p < n → ∀ q, d p = some q → q < n) (hdi : ∀ p p' q, p < n → p' < n → d p = some q → d p' = some q → p = p') : ∀ p q, p < n → q < n → (VS n k h b d (PM (LV n d).length)).countP (fun s2 => decide (s2 p = q)) = thS (chS n k h b d) n p q := by
  intro p q hp hq
  rw [← cnt_th hn7 hp hq, ← VS_eq (k := k) (h := h) (b := b) hn7 hdn hdi, List.countP_map]
  congr 1
  funext s
  show _ = decide (((List.range n).map s).getD p 0 = q)
  rw [List.getD_eq_getElem?_getD, List.getElem?_map, List.getElem?_range hp]
  rfl
