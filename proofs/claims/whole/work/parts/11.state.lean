/-! the state's words: what a company is, who may draw whom, and folds over small ranges -/
def pb (f : Nat → Bool) : Nat → Nat
  | 0 => 0
  | i + 1 => pb f i + if f i then 2 ^ i else 0
theorem pb_lt (f : Nat → Bool) : ∀ i, pb f i < 2 ^ i
  | 0 => Nat.one_pos
  | i + 1 => by
    have h := pb_lt f i
    rw [pb, Nat.pow_succ]
    split <;> omega
theorem pb_or (f : Nat → Bool) (i : Nat) (h : f i = true) : pb f i ||| 2 ^ i = pb f (i + 1) := by
  rw [or_add (pb_lt f i), pb, if_pos h]
theorem pb_no (f : Nat → Bool) (i : Nat) (h : f i = false) : pb f i = pb f (i + 1) := by
  rw [pb, h, if_neg (by decide), Nat.add_zero]
theorem tb_pb (f : Nat → Bool) : ∀ n i, (pb f n).testBit i = (decide (i < n) && f i)
  | 0, i => by simp [pb]
  | n + 1, i => by
    have hlt := pb_lt f n
    have ih := tb_pb f n i
    cases h : f n with
    | false =>
      rw [← pb_no f n h, ih]
      by_cases q : i = n
      · subst q; rw [h]; simp
      · have : (decide (i < n) : Bool) = decide (i < n + 1) := by
          apply decide_eq_decide.mpr; omega
        rw [this]
    | true =>
      rw [← pb_or f n h, Nat.testBit_or, ih, Nat.testBit_two_pow]
      by_cases q : i = n
      · subst q; rw [h]; simp
      · have h1 : (decide (i < n) : Bool) = decide (i < n + 1) := by
          apply decide_eq_decide.mpr; omega
        have h2 : (decide (n = i) : Bool) = false := decide_eq_false (by omega)
        rw [h1, h2, Bool.or_false]
theorem pb_cong {f g : Nat → Bool} : ∀ {n : Nat}, (∀ i, i < n → f i = g i) → pb f n = pb g n
  | 0, _ => rfl
  | n + 1, h => by rw [pb, pb, pb_cong (fun i hi => h i (by omega)), h n (by omega)]
theorem pb_ext {f : Nat → Bool} {n x : Nat} (hx : x < 2 ^ n) (h : ∀ i, i < n → x.testBit i = f i) : x = pb f n := by
  apply Nat.eq_of_testBit_eq
  intro i
  rw [tb_pb]
  by_cases q : i < n
  · rw [h i q, decide_eq_true q, Bool.true_and]
  · rw [decide_eq_false q, Bool.false_and]
    exact Nat.testBit_lt_two_pow (Nat.lt_of_lt_of_le hx (Nat.pow_le_pow_right (by decide) (by omega)))
def ct (f : Nat → Bool) : Nat → Nat
  | 0 => 0
  | i + 1 => ct f i + if f i then 1 else 0
theorem ct_le (f : Nat → Bool) : ∀ i, ct f i ≤ i
  | 0 => Nat.le_refl _
  | i + 1 => by
    have h := ct_le f i
    rw [ct]
    split <;> omega
theorem ct_t {f : Nat → Bool} {i : Nat} (h : f i = true) : ct f i + 1 = ct f (i + 1) := by rw [ct, if_pos h]
theorem ct_f {f : Nat → Bool} {i : Nat} (h : f i = false) : ct f i = ct f (i + 1) := by rw [ct, h, if_neg (by decide), Nat.add_zero]
theorem ct_cong {f g : Nat → Bool} : ∀ {n : Nat}, (∀ i, i < n → f i = g i) → ct f n = ct g n
  | 0, _ => rfl
  | n + 1, h => by rw [ct, ct, ct_cong (fun i hi => h i (by omega)), h n (by omega)]
/-- how many of the lowest seven bits -/
def pop (x : Nat) : Nat := ct x.testBit 7
theorem pop_le (x : Nat) : pop x ≤ 7 := ct_le _ 7
/-- the first place from i on, with so many to look at -/
def fF (f : Nat → Bool) : Nat → Nat → Option Nat
  | 0, _ => none
  | m + 1, i => if f i then some i else fF f m (i + 1)
theorem fF_t {f : Nat → Bool} {n i : Nat} (hi : i < n) (h : f i = true) : fF f (n - i) i = some i := by
  obtain ⟨m, hm⟩ : ∃ m, n - i = m + 1 := ⟨n - i - 1, by omega⟩
  rw [hm, fF, if_pos h]
theorem fF_f {f : Nat → Bool} {n i : Nat} (hi : i < n) (h : f i = false) : fF f (n - i) i = fF f (n - (i + 1)) (i + 1) := by
  obtain ⟨m, hm⟩ : ∃ m, n - i = m + 1 := ⟨n - i - 1, by omega⟩
  rw [hm, fF, h, if_neg (by decide), show n - (i + 1) = m by omega]
theorem fF_e {f : Nat → Bool} {n i : Nat} (hi : ¬ i < n) : fF f (n - i) i = none := by
  rw [show n - i = 0 by omega, fF]
/-- all from i on, so many -/
def aL (f : Nat → Bool) : Nat → Nat → Bool
  | 0, _ => true
  | m + 1, i => f i && aL f m (i + 1)
theorem aL_f {f : Nat → Bool} {n i : Nat} (hi : i < n) (h : f i = false) : aL f (n - i) i = false := by
  obtain ⟨m, hm⟩ : ∃ m, n - i = m + 1 := ⟨n - i - 1, by omega⟩
  rw [hm, aL, h, Bool.false_and]
theorem aL_t {f : Nat → Bool} {n i : Nat} (hi : i < n) (h : f i = true) : aL f (n - i) i = aL f (n - (i + 1)) (i + 1) := by
  obtain ⟨m, hm⟩ : ∃ m, n - i = m + 1 := ⟨n - i - 1, by omega⟩
  rw [hm, aL, h, Bool.true_and, show n - (i + 1) = m by omega]
theorem aL_e {f : Nat → Bool} {n i : Nat} (hi : ¬ i < n) : aL f (n - i) i = true := by
  rw [show n - i = 0 by omega, aL]
def hasS (n : Nat) (x : Int32) : Bool := decide (0 ≤ x.toInt ∧ x.toInt < (n : Int))
theorem hasS_f1 {n : Nat} {x : Int32} (h : x < 0) : hasS n x = false := by
  apply decide_eq_false
  have h2 := Int32.lt_iff_toInt_lt.mp h
  have h0 : ((0 : Int32).toInt) = 0 := by decide
  rw [h0] at h2
  omega
theorem hasS_f2 {n : Nat} {x : Int32} (hn : n < 2 ^ 31) (h : nI n ≤ x) : hasS n x = false := by
  apply decide_eq_false
  have h2 := Int32.le_iff_toInt_le.mp h
  rw [nI_toInt hn] at h2
  omega
theorem hasS_t {n : Nat} {x : Int32} (hn : n < 2 ^ 31) (h0 : ¬ x < 0) (h : ¬ nI n ≤ x) : hasS n x = true := by
  apply decide_eq_true
  obtain ⟨j, hj, rfl⟩ := nI_of h0
  rw [nI_leI hn hj] at h
  rw [nI_toInt hj]
  omega
theorem hasS_of {n : Nat} {x : Int32} (hn : n < 2 ^ 31) (h : hasS n x = true) : ∃ j, j < n ∧ x = nI j := by
  have h1 := of_decide_eq_true h
  have hv : vp_in x n := vp_in_iff.mpr h1
  exact vp_in_of hv hn
theorem hasS_nI {n j : Nat} (hj : j < 2 ^ 31) : hasS n (nI j) = decide (j < n) := by
  unfold hasS
  rw [nI_toInt hj]
  apply decide_eq_decide.mpr
  omega
def CoR (n : Nat) (kA hA dA bA : Nat → Int32) (k h b : Nat → Nat) (d : Nat → Option Nat) : Prop :=
  n ≤ 7 ∧ (∀ p, p < n → kA p = nI (k p) ∧ k p ≤ 4) ∧ (∀ p, p < n → hA p = nI (h p) ∧ h p ≤ 9) ∧ (∀ p, p < n → bA p = nI (b p) ∧ b p < 2 ^ n) ∧ (∀ p, p < n → dA p = dI (d p)) ∧ (∀ p, p < n → ∀ q, d p = some q → q < n) ∧ (∀ p p' q, p < n → p' < n → d p = some q → d p' = some q → p = p')
def SeR (n sc : Nat) (pA nA mA : Nat → Int32) (sp sn : Nat → Nat) (sm : Nat → Bool) : Prop :=
  sc ≤ 6 ∧ ∀ i, i < sc → pA i = nI (sp i) ∧ sp i < n ∧ nA i = nI (sn i) ∧ sn i < n ∧ mA i = bI (sm i)
theorem b_lt {n x : Nat} (hn : n ≤ 7) (h : x < 2 ^ n) : x < 128 := Nat.lt_of_lt_of_le h (Nat.pow_le_pow_right (by decide) hn)
def kM (h : Nat → Nat) (kd p q : Nat) : Bool :=
  if kd = 1 then true else if kd = 2 then decide (h p ≠ h q) else if kd = 3 then decide (1 < adf p q) else if kd = 4 then decide (1 < adf (h p) (h q)) else decide (p ≠ q)
def mayS (k h b : Nat → Nat) (p q : Nat) : Bool := kM h (k p) p q && !(b p).testBit q
/-- the names in the hat -/
def tk (d : Nat → Option Nat) (q : Nat) : Nat → Bool
  | 0 => false
  | i + 1 => tk d q i || decide (d i = some q)
def hatS (n : Nat) (d : Nat → Option Nat) : Nat := pb (fun q => !tk d q n) n
theorem pb_all (n : Nat) : pb (fun _ => true) n = 2 ^ n - 1 := by
  induction n with
  | zero => rfl
  | succ n ih =>
    have := Nat.two_pow_pos n
    rw [pb, ih, if_pos rfl, Nat.pow_succ]
    omega
theorem hat_0 (n : Nat) (d : Nat → Option Nat) : 2 ^ n - 1 = pb (fun q => !tk d q 0) n := by
  rw [← pb_all n]
  apply pb_cong
  intro i _
  rfl
theorem hat_no {n i : Nat} {d : Nat → Option Nat} (h : d i = none) : pb (fun q => !tk d q i) n = pb (fun q => !tk d q (i + 1)) n := by
  apply pb_cong
  intro q _
  simp [tk, h]
theorem hat_yes {n i q : Nat} {d : Nat → Option Nat} (h : d i = some q) : andn (pb (fun q => !tk d q i) n) (2 ^ q) = pb (fun q => !tk d q (i + 1)) n := by
  apply Nat.eq_of_testBit_eq
  intro j
  rw [tb_andn, tb_pb, tb_pb, Nat.testBit_two_pow]
  simp only [tk, h]
  by_cases e : q = j
  · subst e; simp
  · simp [e]
/-- the ring that one is in, as bits: so many steps left, now at a, these passed -/
def rgo (d : Nat → Option Nat) (p : Nat) : Nat → Nat → Nat → Nat
  | 0, _, _ => 0
  | f + 1, a, acc => match d a with
    | none => 0
    | some t => if t = p then acc ||| 2 ^ a else rgo d p f t (acc ||| 2 ^ a)
def rgS (n : Nat) (d : Nat → Option Nat) (p : Nat) : Nat := rgo d p n p 0
def rgO (d : Nat → Option Nat) (p f : Nat) (o : Option Nat) (acc : Nat) : Nat := match o with
  | none => 0
  | some a => rgo d p f a acc
/-- the rings: how many counted, which persons in them -/
def rcS (n : Nat) (d : Nat → Option Nat) : Nat → Nat × Nat
  | 0 => (0, 0)
  | i + 1 => if rgS n d i = 0 then rcS n d i else if rgS n d i &&& (rcS n d i).2 = 0 then ((rcS n d i).1 + 1, (rcS n d i).2 ||| rgS n d i) else rcS n d i
def mxS (f : Nat → Nat) : Nat → Nat
  | 0 => 0
  | i + 1 => max (mxS f i) (f i)
def smS (f : Nat → Nat) : Nat → Nat
  | 0 => 0
  | i + 1 => smS f i + f i
def agF (h : Nat → Nat) (sp sn : Nat → Nat) (sm : Nat → Bool) (p kd i : Nat) : Bool := !decide (sp i = p) || (kM h kd p (sn i) == sm i)
def agS (h : Nat → Nat) (sc : Nat) (sp sn : Nat → Nat) (sm : Nat → Bool) (p kd : Nat) : Bool := aL (agF h sp sn sm p kd) sc 0
def soS (h : Nat → Nat) (sc : Nat) (sp sn : Nat → Nat) (sm : Nat → Bool) (p : Nat) : Nat := pb (agS h sc sp sn sm p) 5
def ysS (h : Nat → Nat) (so p q : Nat) : Nat := ct (fun kd => so.testBit kd && kM h kd p q) 5
def lwS (h : Nat → Nat) (so p q : Nat) : Nat := max (ysS h so p q) (pop so - ysS h so p q)
def akS (f : Nat → Nat) : Nat → Nat → Option Nat → Nat → Option Nat
  | 0, _, best, _ => best
  | m + 1, i, best, few => if f i < few then akS f m (i + 1) (some i) (f i) else akS f m (i + 1) best few
def asS (n : Nat) (h : Nat → Nat) (so p : Nat) : Option Nat := if so = 0 then none else akS (lwS h so p) n 0 none 6
theorem max_nI {a b : Nat} (ha : a < 2 ^ 31) (hb : b < 2 ^ 31) : (if nI a < nI b then nI b else nI a) = nI (max a b) := by
  by_cases h : a < b
  · rw [if_pos ((nI_ltI ha hb).mpr h), Nat.max_eq_right (by omega)]
  · rw [if_neg (fun z => h ((nI_ltI ha hb).mp z)), Nat.max_eq_left (by omega)]
theorem min_nI {a b : Nat} (ha : a < 2 ^ 31) (hb : b < 2 ^ 31) : (if nI b < nI a then nI b else nI a) = nI (min a b) := by
  by_cases h : b < a
  · rw [if_pos ((nI_ltI hb ha).mpr h), Nat.min_eq_right (by omega)]
  · rw [if_neg (fun z => h ((nI_ltI hb ha).mp z)), Nat.min_eq_left (by omega)]
def fillF (v : Int32) (f : Nat → Int32) (i : Nat) : Nat → Int32 := fun j => if j < i then v else f j
theorem fillF_0 (v : Int32) (f : Nat → Int32) : fillF v f 0 = f := by
  funext j
  rw [fillF, if_neg (by omega)]
theorem fillF_s (v : Int32) (f : Nat → Int32) (i : Nat) : upd (fillF v f i) i v = fillF v f (i + 1) := by
  funext j
  by_cases h : j = i
  · subst h; rw [pk_us, fillF, if_pos (by omega)]
  · rw [pk_un h]
    unfold fillF
    by_cases q : j < i
    · rw [if_pos q, if_pos (by omega)]
    · rw [if_neg q, if_neg (by omega)]
def bcI (x : Int32) : Int32 :=
  let x1 := x - ((x.toUInt32 >>> ((nI 1).toUInt32 &&& Int32.toUInt32 31)).toInt32 &&& nI 1431655765)
  let x2 := (x1 &&& nI 858993459) + ((x1.toUInt32 >>> ((nI 2).toUInt32 &&& Int32.toUInt32 31)).toInt32 &&& nI 858993459)
  let x3 := (x2 + (x2.toUInt32 >>> ((nI 4).toUInt32 &&& Int32.toUInt32 31)).toInt32) &&& nI 252645135
  let x4 := x3 + (x3.toUInt32 >>> ((nI 8).toUInt32 &&& Int32.toUInt32 31)).toInt32
  let x5 := x4 + (x4.toUInt32 >>> ((nI 16).toUInt32 &&& Int32.toUInt32 31)).toInt32
  x5 &&& nI 63
theorem bc_ok : ∀ x, x < 128 → bcI (nI x) = nI (pop x) := by decide +kernel
def amF (k h b : Nat → Nat) (d : Nat → Option Nat) (p : Nat) : Bool := match d p with
  | none => false
  | some q => !mayS k h b p q
theorem amF_s {k h b : Nat → Nat} {d : Nat → Option Nat} {p q : Nat} (e : d p = some q) : amF k h b d p = !mayS k h b p q := by rw [amF, e]
theorem amF_n {k h b : Nat → Nat} {d : Nat → Option Nat} {p : Nat} (e : (d p).isSome = false) : amF k h b d p = false := by
  have : d p = none := by
    cases h : d p with
    | none => rfl
    | some q => rw [h] at e; cases e
  rw [amF, this]
theorem rgo_hit {d : Nat → Option Nat} {p n j v ac : Nat} (hj : j < n) (h : d v = some p) : rgo d p (n - j) v ac = ac ||| 2 ^ v := by
  obtain ⟨m, hm⟩ : ∃ m, n - j = m + 1 := ⟨n - j - 1, by omega⟩
  rw [hm, rgo, h]
  exact if_pos rfl
theorem rgo_go {d : Nat → Option Nat} {p n j v ac : Nat} (hj : j < n) (h : ¬ d v = some p) : rgo d p (n - j) v ac = rgO d p (n - (j + 1)) (d v) (ac ||| 2 ^ v) := by
  obtain ⟨m, hm⟩ : ∃ m, n - j = m + 1 := ⟨n - j - 1, by omega⟩
  rw [hm, rgo, show n - (j + 1) = m by omega]
  cases e : d v with
  | none => rfl
  | some t =>
    have : ¬ t = p := fun z => h (by rw [e, z])
    exact if_neg this
theorem rgo_lt {n : Nat} {d : Nat → Option Nat} {p : Nat} (hdn : ∀ p, p < n → ∀ q, d p = some q → q < n) : ∀ (f a ac : Nat), a < n → ac < 2 ^ n → rgo d p f a ac < 2 ^ n
  | 0, _, _, _, _ => Nat.two_pow_pos n
  | f + 1, a, ac, ha, hc => by
    have h2 : 2 ^ a < 2 ^ n := Nat.pow_lt_pow_right (by decide) ha
    rw [rgo]
    cases e : d a with
    | none => exact Nat.two_pow_pos n
    | some t =>
      show (if t = p then ac ||| 2 ^ a else rgo d p f t (ac ||| 2 ^ a)) < 2 ^ n
      split
      · exact Nat.or_lt_two_pow hc h2
      · exact rgo_lt hdn f t _ (hdn a ha t e) (Nat.or_lt_two_pow hc h2)
theorem rgS_lt {n : Nat} {d : Nat → Option Nat} {p : Nat} (hn : n ≤ 7) (hdn : ∀ p, p < n → ∀ q, d p = some q → q < n) (hp : p < n) : rgS n d p < 128 := b_lt hn (rgo_lt hdn n p 0 hp (Nat.two_pow_pos n))
theorem ys_le (h : Nat → Nat) (so p q : Nat) : ysS h so p q ≤ pop so := by
  have key : ∀ i, ct (fun kd => so.testBit kd && kM h kd p q) i ≤ ct so.testBit i := by
    intro i
    induction i with
    | zero => exact Nat.le_refl _
    | succ i ih =>
      rw [ct, ct]
      have : (if (so.testBit i && kM h i p q) = true then 1 else 0) ≤ (if so.testBit i = true then 1 else 0) := by
        cases so.testBit i <;> cases kM h i p q <;> decide
      omega
  have h5 := key 5
  have h7 : ct so.testBit 5 ≤ ct so.testBit 7 := by
    have h6 : ct so.testBit 7 = ct so.testBit 5 + (if so.testBit 5 then 1 else 0) + (if so.testBit 6 then 1 else 0) := rfl
    omega
  exact Nat.le_trans h5 h7
theorem akS_t {f : Nat → Nat} {n i few : Nat} {best : Option Nat} (hi : i < n) (h : f i < few) : akS f (n - i) i best few = akS f (n - (i + 1)) (i + 1) (some i) (f i) := by
  obtain ⟨m, hm⟩ : ∃ m, n - i = m + 1 := ⟨n - i - 1, by omega⟩
  rw [hm, akS, if_pos h, show n - (i + 1) = m by omega]
theorem akS_f {f : Nat → Nat} {n i few : Nat} {best : Option Nat} (hi : i < n) (h : ¬ f i < few) : akS f (n - i) i best few = akS f (n - (i + 1)) (i + 1) best few := by
  obtain ⟨m, hm⟩ : ∃ m, n - i = m + 1 := ⟨n - i - 1, by omega⟩
  rw [hm, akS, if_neg h, show n - (i + 1) = m by omega]
theorem soS_lt (h : Nat → Nat) (sc : Nat) (sp sn : Nat → Nat) (sm : Nat → Bool) (p : Nat) : soS h sc sp sn sm p < 32 := pb_lt _ 5
theorem lwS_le (h : Nat → Nat) (so p q : Nat) : lwS h so p q ≤ 7 := by
  have h1 := ys_le h so p q
  have h2 := pop_le so
  unfold lwS
  omega
