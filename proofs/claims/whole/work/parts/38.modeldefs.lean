/-! the reference's own words -/
def inL (a b c : Int64) : Bool := decide (b ≤ a ∧ a ≤ c)
theorem inL_f1 {a b c : Int64} (h : lg_cmp a b < 0) : inL a b c = false := decide_eq_false (fun z => by
  have h1 := (lg_cmp_lt a b).mp h
  rw [Int64.lt_iff_toInt_lt] at h1
  rw [Int64.le_iff_toInt_le] at z
  omega)
theorem inL_f2 {a b c : Int64} (h : 0 < lg_cmp a c) : inL a b c = false := decide_eq_false (fun z => by
  have h1 := (lg_cmp_gt a c).mp h
  rw [Int64.lt_iff_toInt_lt] at h1
  have z2 := Int64.le_iff_toInt_le.mp z.2
  omega)
theorem inL_t {a b c : Int64} (h : ¬ lg_cmp a b < 0) (h2 : ¬ 0 < lg_cmp a c) : inL a b c = true := decide_eq_true (by
  rw [lg_cmp_lt, Int64.lt_iff_toInt_lt] at h
  rw [lg_cmp_gt, Int64.lt_iff_toInt_lt] at h2
  rw [Int64.le_iff_toInt_le, Int64.le_iff_toInt_le]
  omega)
theorem inL_R {x : Int32} {b c : Int64} {a' b' : Int} (hb : b.toInt = a') (hc : c.toInt = b') : inL x.toInt64 b c = inR x a' b' := by
  unfold inL inR
  apply decide_eq_decide.mpr
  rw [Int64.le_iff_toInt_le, Int64.le_iff_toInt_le, Int32.toInt_toInt64, hb, hc]
theorem inL_has {x : Int32} {n : Nat} (hn : n ≤ 7) : inL x.toInt64 (lN 0) (nI n - nI 1).toInt64 = hasS n x := by
  unfold inL hasS
  have h1 : (nI n - nI 1).toInt = (n : Int) - 1 := pk_sub_toInt (by omega) (by omega)
  apply decide_eq_decide.mpr
  rw [Int64.le_iff_toInt_le, Int64.le_iff_toInt_le, Int32.toInt_toInt64, Int32.toInt_toInt64, h1, lN_toInt (by decide)]
  omega
theorem ct8 : ∀ x, x < 128 → ct x.testBit 8 = pop x := by decide +kernel
theorem kcS_out {c : Nat} (h : c < 101 ∨ 115 < c) : kcS c = none := by
  have key : ∀ m i, i + m = 5 → fF (fun j => decide (pkn j = c)) m i = none := by
    intro m
    induction m with
    | zero => intro i _; rfl
    | succ m ih =>
      intro i hi
      have : decide (pkn i = c) = false := by
        apply decide_eq_false
        have h5 : i < 5 := by omega
        rcases (show i = 0 ∨ i = 1 ∨ i = 2 ∨ i = 3 ∨ i = 4 by omega) with rfl | rfl | rfl | rfl | rfl <;> (show ¬ _ = c; unfold pkn; simp; omega)
      rw [fF, this, if_neg (by decide)]
      exact ih (i + 1) (by omega)
  exact key 5 0 rfl
def igS (le : Nat → Nat) (i : Nat) : Bool := if i % 3 = 0 then (kcS (le i)).isSome else if i % 3 = 1 then decide (48 ≤ le i ∧ le i ≤ 57) else decide (le i = 44 ∧ i < 20)
theorem fF_eq {f g : Nat → Bool} : ∀ {m i : Nat} (K : Nat), (∀ j, j < K → f j = g j) → (∀ j, j = K → f j = true ∧ g j = true) → i ≤ K → fF f m i = fF g m i
  | 0, _, _, _, _, _ => rfl
  | m + 1, i, K, h1, h2, h3 => by
    rw [fF, fF]
    by_cases e : i = K
    · rw [(h2 i e).1, (h2 i e).2]
      rfl
    · rw [h1 i (by omega)]
      split
      · rfl
      · exact fF_eq K h1 h2 (by omega)
theorem fg_fw (pl : Nat) (le : Nat → Nat) : fF (fun j => !igS le j) pl 0 = fF (fun j => !ftS le j) pl 0 := by
  apply fF_eq 20
  · intro j hj
    unfold igS ftS
    rw [if_neg (show ¬ 20 ≤ j by omega)]
    by_cases e : j % 3 = 0
    · rw [if_pos e, if_pos e]
    · rw [if_neg e, if_neg e]
      by_cases e1 : j % 3 = 1
      · rw [if_pos e1, if_pos e1]
      · rw [if_neg e1, if_neg e1]
        congr 1
        apply decide_eq_decide.mpr
        omega
  · intro j hj
    subst hj
    constructor
    · unfold igS
      rw [if_neg (by decide), if_neg (by decide), decide_eq_false (by omega)]
      rfl
    · rfl
  · omega
theorem sub_1 {a b : Nat} (ha : a < 2 ^ 30) (hb : b < 2 ^ 30) : nI a - nI b = nI 1 ↔ a = b + 1 := by
  rw [← Int32.toInt_inj, pk_sub_toInt ha hb, nI_toInt (by decide)]
  omega
def dbS (n : Nat) (d : Nat → Option Nat) : Nat := pb (fun q => tk d q n) n
theorem db_no {n i : Nat} {d : Nat → Option Nat} (h : d i = none) : pb (fun q => tk d q i) n = pb (fun q => tk d q (i + 1)) n := by
  apply pb_cong
  intro q _
  simp [tk, h]
theorem db_yes {n i q : Nat} {d : Nat → Option Nat} (hq : q < n) (h : d i = some q) : pb (fun q => tk d q i) n ||| 2 ^ q = pb (fun q => tk d q (i + 1)) n := by
  apply Nat.eq_of_testBit_eq
  intro j
  rw [Nat.testBit_or, tb_pb, tb_pb, Nat.testBit_two_pow]
  simp only [tk, h]
  by_cases e : q = j
  · subst e; simp [hq]
  · simp [e]
theorem db_0 (n : Nat) (d : Nat → Option Nat) : 0 = pb (fun q => tk d q 0) n := by
  symm
  induction n with
  | zero => rfl
  | succ n ih => rw [pb, ih]; rfl
theorem hat_db (n : Nat) (d : Nat → Option Nat) : andn (2 ^ n - 1) (dbS n d) = hatS n d := by
  apply Nat.eq_of_testBit_eq
  intro j
  rw [tb_andn, ← pb_all n]
  unfold dbS hatS
  rw [tb_pb, tb_pb, tb_pb]
  by_cases e : j < n <;> simp [e]
theorem db_lt (n : Nat) (d : Nat → Option Nat) : dbS n d < 2 ^ n := pb_lt _ n
def SgR (n sc : Nat) (sgA : Nat → Int32) (sp sn : Nat → Nat) (sm : Nat → Bool) : Prop :=
  sc ≤ 6 ∧ ∀ i, i < sc → sgA (3 * i) = nI (sp i) ∧ sp i < n ∧ sgA (3 * i + 1) = nI (sn i) ∧ sn i < n ∧ sgA (3 * i + 2) = bI (sm i)
theorem SgR_add {n sc p q : Nat} {t : Bool} {sgA : Nat → Int32} {sp sn : Nat → Nat} {sm : Nat → Bool} (h : SgR n sc sgA sp sn sm) (hs : sc < 6) (hp : p < n) (hq : q < n) : SgR n (sc + 1) (upd (upd (upd sgA (3 * sc) (nI p)) (3 * sc + 1) (nI q)) (3 * sc + 2) (bI t)) (updN sp sc p) (updN sn sc q) (updY sm sc t) := by
  refine ⟨by omega, fun i hi => ?_⟩
  by_cases e : i = sc
  · subst e
    rw [updN_s, updN_s, updY_s, pk_un (by omega), pk_un (by omega), pk_us, pk_un (by omega), pk_us, pk_us]
    exact ⟨rfl, hp, rfl, hq, rfl⟩
  · rw [updN_n e, updN_n e, updY_n e, pk_un (by omega), pk_un (by omega), pk_un (by omega), pk_un (by omega), pk_un (by omega), pk_un (by omega), pk_un (by omega), pk_un (by omega), pk_un (by omega)]
    exact h.2 i (by omega)
theorem SgR_0 {n : Nat} {sgA : Nat → Int32} {sp sn : Nat → Nat} {sm : Nat → Bool} : SgR n 0 sgA sp sn sm := ⟨by omega, fun i hi => absurd hi (Nat.not_lt_zero _)⟩
theorem SgR_copy {n sc : Nat} {sgA sgB : Nat → Int32} {sp sn : Nat → Nat} {sm : Nat → Bool} (h : SgR n sc sgA sp sn sm) (hc : ∀ j, j < 18 → sgB j = sgA j) : SgR n sc sgB sp sn sm := by
  obtain ⟨h6, h1⟩ := h
  exact ⟨h6, fun i hi => by rw [hc (3 * i) (by omega), hc (3 * i + 1) (by omega), hc (3 * i + 2) (by omega)]; exact h1 i hi⟩
/-- which kinds might draw it -/
def kbS (h : Nat → Nat) (p q : Nat) : Nat := pb (fun kd => kM h kd p q) 5
theorem kbS_lt (h : Nat → Nat) (p q : Nat) : kbS h p q < 32 := pb_lt _ 5
/-- the sorts, one sight after the other -/
def sgF (h : Nat → Nat) (sp sn : Nat → Nat) (sm : Nat → Bool) (p : Nat) : Nat → Nat
  | 0 => 31
  | i + 1 => if sp i = p then sgF h sp sn sm p i &&& (if sm i = true then kbS h p (sn i) else 31 - kbS h p (sn i)) else sgF h sp sn sm p i
theorem not5 : ∀ x, x < 32 → ∀ j, j < 5 → (31 - x).testBit j = !x.testBit j := by decide +kernel
theorem t31 : ∀ j, j < 5 → (31 : Nat).testBit j = true := by decide +kernel
theorem sgF_lt (h : Nat → Nat) (sp sn : Nat → Nat) (sm : Nat → Bool) (p : Nat) : ∀ i, sgF h sp sn sm p i < 32
  | 0 => show (31 : Nat) < 32 by decide
  | i + 1 => by
    have ih := sgF_lt h sp sn sm p i
    rw [sgF]
    split
    · exact Nat.lt_of_le_of_lt Nat.and_le_left ih
    · exact ih
def aLs (f : Nat → Bool) : Nat → Bool
  | 0 => true
  | i + 1 => aLs f i && f i
theorem aLs_aL (f : Nat → Bool) : ∀ m i, (aLs f i && aL f m i) = aLs f (i + m)
  | 0, i => by rw [aL, Bool.and_true, Nat.add_zero]
  | m + 1, i => by
    rw [aL, show i + (m + 1) = (i + 1) + m by omega, ← aLs_aL f m (i + 1), aLs, Bool.and_assoc]
theorem sgF_tb (h : Nat → Nat) (sp sn : Nat → Nat) (sm : Nat → Bool) (p : Nat) : ∀ i j, j < 5 → (sgF h sp sn sm p i).testBit j = aLs (agF h sp sn sm p j) i
  | 0, j, hj => by rw [sgF, t31 j hj]; rfl
  | i + 1, j, hj => by
    have ih := sgF_tb h sp sn sm p i j hj
    rw [sgF, aLs]
    have hk : (kbS h p (sn i)).testBit j = kM h j p (sn i) := by
      unfold kbS
      rw [tb_pb, decide_eq_true hj, Bool.true_and]
    by_cases e : sp i = p
    · rw [if_pos e, Nat.testBit_and, ih]
      congr 1
      unfold agF
      rw [decide_eq_true e, Bool.not_true, Bool.false_or]
      cases hm : sm i with
      | true => rw [if_pos rfl, hk]; cases kM h j p (sn i) <;> rfl
      | false => rw [if_neg (by decide), not5 _ (kbS_lt h p (sn i)) j hj, hk]; cases kM h j p (sn i) <;> rfl
    · rw [if_neg e, ih]
      unfold agF
      rw [decide_eq_false e, Bool.not_false, Bool.true_or, Bool.and_true]
theorem sgF_so (h : Nat → Nat) (sc : Nat) (sp sn : Nat → Nat) (sm : Nat → Bool) (p : Nat) : sgF h sp sn sm p sc = soS h sc sp sn sm p := by
  unfold soS
  apply pb_ext (sgF_lt h sp sn sm p sc)
  intro j hj
  rw [sgF_tb h sp sn sm p sc j hj]
  have := aLs_aL (agF h sp sn sm p j) sc 0
  rw [Nat.zero_add] at this
  rw [← this]
  rfl
theorem ys_kb (h : Nat → Nat) (so p q : Nat) (hso : so < 32) : pop (so &&& kbS h p q) = ysS h so p q := by
  have key : ∀ x, x < 32 → pop x = ct x.testBit 5 := by decide +kernel
  rw [key _ (Nat.lt_of_le_of_lt Nat.and_le_left hso)]
  unfold ysS
  apply ct_cong
  intro i hi
  rw [Nat.testBit_and]
  unfold kbS
  rw [tb_pb, decide_eq_true hi, Bool.true_and]
/-- who has a name: the last one found is the first one -/
def whF (d : Nat → Option Nat) (q : Nat) : Nat → Option Nat
  | 0 => none
  | i + 1 => if d i = some q then some i else whF d q i
theorem whF_some {d : Nat → Option Nat} {q : Nat} : ∀ {i p : Nat}, whF d q i = some p → p < i ∧ d p = some q
  | 0, _, h => by cases h
  | i + 1, p, h => by
    rw [whF] at h
    by_cases e : d i = some q
    · rw [if_pos e] at h; cases h; exact ⟨by omega, e⟩
    · rw [if_neg e] at h; have := whF_some h; exact ⟨by omega, this.2⟩
theorem whF_none {d : Nat → Option Nat} {q : Nat} : ∀ {i : Nat}, whF d q i = none → ∀ p, p < i → ¬ d p = some q
  | 0, _, p, hp => absurd hp (Nat.not_lt_zero _)
  | i + 1, h, p, hp => by
    rw [whF] at h
    by_cases e : d i = some q
    · rw [if_pos e] at h; cases h
    · rw [if_neg e] at h
      by_cases z : p = i
      · rw [z]; exact e
      · exact whF_none h p (by omega)
theorem whF_eq {n : Nat} {d : Nat → Option Nat} {q : Nat} (hdi : ∀ p p' q, p < n → p' < n → d p = some q → d p' = some q → p = p') : whF d q n = fF (fun i => decide (d i = some q)) n 0 := by
  cases e : whF d q n with
  | none =>
    have h1 := whF_none e
    cases e2 : fF (fun i => decide (d i = some q)) n 0 with
    | none => rfl
    | some p => have := fF_some e2; exact absurd (of_decide_eq_true this.2.2.1) (h1 p (by omega))
  | some p =>
    have h1 := whF_some e
    cases e2 : fF (fun i => decide (d i = some q)) n 0 with
    | none =>
      have := fF_none e2 p (Nat.zero_le _) (by omega)
      rw [decide_eq_true h1.2] at this
      cases this
    | some p' =>
      have := fF_some e2
      rw [hdi p p' q h1.1 (by omega) h1.2 (of_decide_eq_true this.2.2.1)]
/-- how many come round with one -/
def rmF (of : Nat → Option Nat) (p n : Nat) : Nat → Option Nat → Nat → Nat
  | 0, o, many => if o = some p then many else 0
  | f + 1, o, many => match o with
    | none => 0
    | some t => if t = p then many else if n < many then 0 else rmF of p n f (of t) (many + 1)
theorem or_pop {n ac a : Nat} (hn : n ≤ 7) (hac : ac < 2 ^ n) (ha : a < n) (h : ac.testBit a = false) : pop (ac ||| 2 ^ a) = pop ac + 1 ∧ ac ||| 2 ^ a < 2 ^ n := by
  have h7 := ev_le hn
  have h1 := add_ok ac (by omega) a (by omega) h
  refine ⟨by rw [h1.1, h1.2.1], Nat.or_lt_two_pow hac (Nat.pow_lt_pow_right (by decide) ha)⟩
/-- the walk round: all that was passed, but the first one, was given to by one that was passed before -/
def rI (d : Nat → Option Nat) (p a ac : Nat) : Prop := ac.testBit a = false ∧ ∀ v, (ac.testBit v = true ∨ v = a) → v = p ∨ ∃ u, ac.testBit u = true ∧ d u = some v
theorem rI_0 {d : Nat → Option Nat} {p : Nat} : rI d p p 0 := ⟨Nat.zero_testBit p, fun v h => by
  rcases h with h | h
  · rw [Nat.zero_testBit] at h; cases h
  · exact Or.inl h⟩
theorem rI_go {n : Nat} {d : Nat → Option Nat} {p a ac t : Nat} (hdi : ∀ p p' q, p < n → p' < n → d p = some q → d p' = some q → p = p') (hu : ∀ u, ac.testBit u = true → u < n) (ha : a < n) (h : rI d p a ac) (hd : d a = some t) (ht : ¬ t = p) : rI d p t (ac ||| 2 ^ a) := by
  obtain ⟨h1, h2⟩ := h
  have hor : ∀ v, (ac ||| 2 ^ a).testBit v = true ↔ (ac.testBit v = true ∨ v = a) := by
    intro v
    rw [Nat.testBit_or, Nat.testBit_two_pow, Bool.or_eq_true, decide_eq_true_iff]
    constructor
    · rintro (z | z)
      · exact Or.inl z
      · exact Or.inr z.symm
    · rintro (z | z)
      · exact Or.inl z
      · exact Or.inr z.symm
  constructor
  · cases e : (ac ||| 2 ^ a).testBit t with
    | false => rfl
    | true =>
      exfalso
      rcases h2 t ((hor t).mp e) with z | ⟨u, hu1, hu2⟩
      · exact ht z
      · have := hdi u a t (hu u hu1) ha hu2 hd
        rw [this, h1] at hu1
        cases hu1
  · intro v hv
    rcases hv with hv | hv
    · rcases h2 v ((hor v).mp hv) with z | ⟨u, hu1, hu2⟩
      · exact Or.inl z
      · exact Or.inr ⟨u, (hor u).mpr (Or.inl hu1), hu2⟩
    · subst hv
      exact Or.inr ⟨a, (hor a).mpr (Or.inr rfl), hd⟩
theorem tb_lt {n x u : Nat} (hx : x < 2 ^ n) (h : x.testBit u = true) : u < n := by
  rcases Nat.lt_or_ge u n with z | z
  · exact z
  · rw [Nat.testBit_lt_two_pow (Nat.lt_of_lt_of_le hx (Nat.pow_le_pow_right (by decide) z))] at h
    cases h
def rmS (n : Nat) (d : Nat → Option Nat) : Nat := smS (fun p => if pop (rgS n d p) = 0 then 0 else 420 / pop (rgS n d p)) n / 420
theorem lx_eq {n : Nat} {f : Nat → Nat} {i a : Nat} (ha : a = mxS f i) (h : ¬ f i ≤ a) : f i = mxS f (i + 1) := by rw [mxS, ← ha, Nat.max_eq_right (by omega)]
theorem lx_ne {n : Nat} {f : Nat → Nat} {i a : Nat} (ha : a = mxS f i) (h : f i ≤ a) : a = mxS f (i + 1) := by rw [mxS, ← ha, Nat.max_eq_left h]
theorem smS_le7 {f : Nat → Nat} {n i : Nat} (h : ∀ p, f p ≤ 420) (hi : i ≤ 7) : smS f i ≤ 2940 := Nat.le_trans (smS_le (b := 420) (fun p _ => h p)) (by omega)
theorem inR1_of {x : Int32} {b : Nat} (h : inR x 1 b = true) : ∃ c : Nat, 1 ≤ c ∧ c ≤ b ∧ x = nI c := by
  have h1 := of_decide_eq_true h
  have hnn : ¬ x < 0 := by
    intro z
    have := i32_lt.mp z
    have h00 : ((0 : Int32).toInt) = 0 := by decide
    rw [h00] at this
    omega
  obtain ⟨j, hj, rfl⟩ := nI_of hnn
  rw [nI_toInt hj] at h1
  exact ⟨j, by omega, by omega, rfl⟩
