theorem rgo_none {d : Nat → Option Nat} {p n j v ac : Nat} (hj : j < n) (h : d v = none) : rgo d p (n - j) v ac = 0 := by
  obtain ⟨m, hm⟩ : ∃ m, n - j = m + 1 := ⟨n - j - 1, by omega⟩
  rw [hm, rgo, h]
theorem rm_le {n : Nat} {d : Nat → Option Nat} (p : Nat) : (if pop (rgS n d p) = 0 then 0 else 420 / pop (rgS n d p)) ≤ 420 := by
  split
  · omega
  · exact Nat.div_le_self _ _
theorem db_pop {n : Nat} {d : Nat → Option Nat} (hn7 : n ≤ 7) (hdn : ∀ p, p < n → ∀ q, d p = some q → q < n) (hdi : ∀ p p' q, p < n → p' < n → d p = some q → d p' = some q → p = p') : pop (dbS n d) = ct (fun p => (d p).isSome) n := by
  have key : ∀ i, i ≤ n → pop (pb (fun q => tk d q i) n) = ct (fun p => (d p).isSome) i := by
    intro i
    induction i with
    | zero => intro _; rw [← db_0, pop_0]; rfl
    | succ i ih =>
      intro hi
      have ih := ih (by omega)
      cases e : d i with
      | none => rw [← db_no e, ih]; exact ct_f (f := fun p => (d p).isSome) (by rw [e]; rfl)
      | some q =>
        have hq := hdn i (by omega) q e
        have hb : (pb (fun q => tk d q i) n).testBit q = false := by
          rw [tb_pb, decide_eq_true hq, Bool.true_and]
          cases z : tk d q i with
          | false => rfl
          | true =>
            obtain ⟨p, hp, hp2⟩ := tk_iff.mp z
            have := hdi p i q (by omega) (by omega) hp2 e
            omega
        rw [← db_yes hq e, (or_pop hn7 (pb_lt _ n) hq hb).1, ih]
        exact ct_t (f := fun p => (d p).isSome) (by rw [e]; rfl)
  exact key n (Nat.le_refl _)
/-- so many gifts on -/
def itD (d : Nat → Option Nat) : Nat → Nat → Option Nat
  | 0, a => some a
  | j + 1, a => (d a).bind (itD d j)
theorem itD_add (d : Nat → Option Nat) : ∀ i j a, itD d (i + j) a = (itD d i a).bind (itD d j)
  | 0, j, a => by rw [Nat.zero_add]; rfl
  | i + 1, j, a => by
    rw [show i + 1 + j = (i + j) + 1 by omega, itD, itD]
    cases e : d a with
    | none => rfl
    | some t => exact itD_add d i j t
theorem itD_mod {d : Nat → Option Nat} {L a : Nat} (hL : itD d L a = some a) : ∀ j, itD d j a = itD d (j % L) a := by
  have key : ∀ k r, itD d (L * k + r) a = itD d r a := by
    intro k
    induction k with
    | zero => intro r; rw [Nat.mul_zero, Nat.zero_add]
    | succ k ih =>
      intro r
      rw [show L * (k + 1) + r = L + (L * k + r) by rw [Nat.mul_succ]; omega, itD_add, hL]
      exact ih r
  intro j
  have := key (j / L) (j % L)
  rw [Nat.div_add_mod] at this
  exact this
theorem rgo_no {d : Nat → Option Nat} {p : Nat} : ∀ f a ac, (∀ L, 1 ≤ L → L ≤ f → ¬ itD d L a = some p) → rgo d p f a ac = 0
  | 0, _, _, _ => rfl
  | f + 1, a, ac, h => by
    rw [rgo]
    cases e : d a with
    | none => rfl
    | some t =>
      show (if t = p then ac ||| 2 ^ a else rgo d p f t (ac ||| 2 ^ a)) = 0
      have h1 : ¬ t = p := fun z => h 1 (by omega) (by omega) (by rw [itD, e, z]; rfl)
      rw [if_neg h1]
      exact rgo_no f t _ (fun L hL1 hL2 z => h (L + 1) (by omega) (by omega) (by rw [itD, e]; exact z))
theorem rgo_ex {d : Nat → Option Nat} {p : Nat} : ∀ f a ac, (∃ L, 1 ≤ L ∧ L ≤ f ∧ itD d L a = some p) → ∃ L, 1 ≤ L ∧ L ≤ f ∧ itD d L a = some p ∧ ∀ v, (rgo d p f a ac).testBit v = true ↔ (ac.testBit v = true ∨ ∃ j, j < L ∧ itD d j a = some v)
  | 0, _, _, h => by obtain ⟨L, h1, h2, _⟩ := h; omega
  | f + 1, a, ac, h => by
    obtain ⟨L, h1, h2, h3⟩ := h
    obtain ⟨L', rfl⟩ : ∃ L', L = L' + 1 := ⟨L - 1, by omega⟩
    rw [itD] at h3
    cases e : d a with
    | none => rw [e] at h3; cases h3
    | some t =>
      rw [e] at h3
      change itD d L' t = some p at h3
      have hor : ∀ v, (ac ||| 2 ^ a).testBit v = true ↔ (ac.testBit v = true ∨ v = a) := by
        intro v
        rw [Nat.testBit_or, Nat.testBit_two_pow, Bool.or_eq_true, decide_eq_true_iff]
        exact ⟨fun z => z.elim Or.inl (fun y => Or.inr y.symm), fun z => z.elim Or.inl (fun y => Or.inr y.symm)⟩
      rw [rgo, e]
      show ∃ L, 1 ≤ L ∧ L ≤ f + 1 ∧ itD d L a = some p ∧ ∀ v, (if t = p then ac ||| 2 ^ a else rgo d p f t (ac ||| 2 ^ a)).testBit v = true ↔ (ac.testBit v = true ∨ ∃ j, j < L ∧ itD d j a = some v)
      by_cases ht : t = p
      · refine ⟨1, by omega, by omega, by rw [itD, e, ht]; rfl, fun v => ?_⟩
        rw [if_pos ht, hor]
        constructor
        · rintro (z | z)
          · exact Or.inl z
          · exact Or.inr ⟨0, by omega, by rw [z]; rfl⟩
        · rintro (z | ⟨j, hj, hv⟩)
          · exact Or.inl z
          · rw [show j = 0 by omega] at hv
            exact Or.inr (Option.some.inj hv).symm
      · have h4 : 1 ≤ L' := by
          rcases Nat.eq_zero_or_pos L' with z | z
          · rw [z] at h3; exact absurd (Option.some.inj h3) ht
          · exact z
        obtain ⟨M, m1, m2, m3, m4⟩ := rgo_ex f t (ac ||| 2 ^ a) ⟨L', h4, by omega, h3⟩
        refine ⟨M + 1, by omega, by omega, by rw [itD, e]; exact m3, fun v => ?_⟩
        rw [if_neg ht, m4, hor]
        constructor
        · rintro ((z | z) | ⟨j, hj, hv⟩)
          · exact Or.inl z
          · exact Or.inr ⟨0, by omega, by rw [z]; rfl⟩
          · exact Or.inr ⟨j + 1, by omega, by rw [itD, e]; exact hv⟩
        · rintro (z | ⟨j, hj, hv⟩)
          · exact Or.inl (Or.inl z)
          · cases j with
            | zero => exact Or.inl (Or.inr (Option.some.inj hv).symm)
            | succ j =>
              rw [itD, e] at hv
              exact Or.inr ⟨j, by omega, hv⟩
/-- one comes round to himself -/
def rtD (n : Nat) (d : Nat → Option Nat) (p : Nat) : Prop := ∃ L, 1 ≤ L ∧ L ≤ n ∧ itD d L p = some p
theorem rg_iff {n : Nat} {d : Nat → Option Nat} {p v : Nat} : (rgS n d p).testBit v = true ↔ (rtD n d p ∧ ∃ j, itD d j p = some v) := by
  unfold rgS
  by_cases h : rtD n d p
  · obtain ⟨L, h1, h2, h3, h4⟩ := rgo_ex n p 0 h
    rw [h4]
    constructor
    · rintro (z | ⟨j, _, hv⟩)
      · rw [Nat.zero_testBit] at z; cases z
      · exact ⟨h, j, hv⟩
    · rintro ⟨_, j, hv⟩
      exact Or.inr ⟨j % L, Nat.mod_lt _ h1, by rw [← itD_mod h3]; exact hv⟩
  · rw [rgo_no n p 0 (fun L h1 h2 h3 => h ⟨L, h1, h2, h3⟩), Nat.zero_testBit]
    exact ⟨fun z => (by cases z), fun z => absurd z.1 h⟩
theorem rg_back {n : Nat} {d : Nat → Option Nat} {p v : Nat} (h : (rgS n d p).testBit v = true) : (rgS n d v).testBit p = true := by
  obtain ⟨⟨L, h1, h2, h3⟩, j, hj⟩ := rg_iff.mp h
  rw [itD_mod h3] at hj
  have hlt := Nat.mod_lt j h1
  have hp : itD d (L - j % L) v = some p := by
    have := itD_add d (j % L) (L - j % L) p
    rw [show j % L + (L - j % L) = L by omega, h3, hj] at this
    exact this.symm
  refine rg_iff.mpr ⟨⟨L, h1, h2, ?_⟩, _, hp⟩
  have := itD_add d (L - j % L) (j % L) v
  rw [show L - j % L + j % L = L by omega, hp] at this
  rw [this]
  exact hj
theorem rg_sub {n : Nat} {d : Nat → Option Nat} {p v u : Nat} (h : (rgS n d p).testBit v = true) (hu : (rgS n d v).testBit u = true) : (rgS n d p).testBit u = true := by
  obtain ⟨h1, j, hj⟩ := rg_iff.mp h
  obtain ⟨_, i, hi⟩ := rg_iff.mp hu
  exact rg_iff.mpr ⟨h1, j + i, by rw [itD_add, hj]; exact hi⟩
theorem rg_same {n : Nat} {d : Nat → Option Nat} {p v : Nat} (h : (rgS n d p).testBit v = true) : rgS n d v = rgS n d p := by
  apply Nat.eq_of_testBit_eq
  intro u
  cases z : (rgS n d p).testBit u with
  | true => exact rg_sub (rg_back h) z
  | false =>
    cases y : (rgS n d v).testBit u with
    | false => rfl
    | true => rw [rg_sub h y] at z; cases z
theorem nz_tb {x : Nat} (h : ¬ x = 0) : ∃ v, x.testBit v = true := Nat.exists_testBit_of_ne_zero h
theorem rg_self {n : Nat} {d : Nat → Option Nat} {p : Nat} (h : ¬ rgS n d p = 0) : (rgS n d p).testBit p = true := by
  obtain ⟨v, hv⟩ := nz_tb h
  exact rg_iff.mpr ⟨(rg_iff.mp hv).1, 0, rfl⟩
theorem sm_ct (x : Nat) (f : Nat → Bool) : ∀ n, smS (fun p => if f p = true then x else 0) n = ct f n * x
  | 0 => by rw [smS, ct, Nat.zero_mul]
  | n + 1 => by
    rw [smS, ct, sm_ct x f n, Nat.add_mul]
    cases f n <;> simp
theorem smS_add (f g : Nat → Nat) : ∀ n, smS (fun p => f p + g p) n = smS f n + smS g n
  | 0 => rfl
  | n + 1 => by rw [smS, smS, smS, smS_add f g n]; omega
theorem pop_ct : ∀ n, n ≤ 7 → ∀ x, x < 2 ^ n → pop x = ct x.testBit n := by decide +kernel
theorem div420 : ∀ k, k ≤ 7 → 1 ≤ k → k * (420 / k) = 420 := by decide
theorem rm_rc {n : Nat} {d : Nat → Option Nat} (hn7 : n ≤ 7) (hdn : ∀ p, p < n → ∀ q, d p = some q → q < n) (hdi : ∀ p p' q, p < n → p' < n → d p = some q → d p' = some q → p = p') : rmS n d = (rcS n d n).1 := by
  have h7 := ev_le hn7
  have hlt : ∀ p, p < n → rgS n d p < 2 ^ n := fun p hp => rgo_lt hdn n p 0 hp (Nat.two_pow_pos n)
  have key : ∀ i, i ≤ n → (∀ v, (rcS n d i).2.testBit v = true → ¬ rgS n d v = 0 ∧ ∀ u, (rgS n d v).testBit u = true → (rcS n d i).2.testBit u = true) ∧ (∀ p, p < i → ¬ rgS n d p = 0 → (rcS n d i).2.testBit p = true) ∧ smS (fun p => if (rcS n d i).2.testBit p = true then 420 / pop (rgS n d p) else 0) n = 420 * (rcS n d i).1 := by
    intro i
    induction i with
    | zero =>
      intro _
      refine ⟨fun v hv => ?_, fun p hp => absurd hp (Nat.not_lt_zero _), ?_⟩
      · change (0 : Nat).testBit v = true at hv
        rw [Nat.zero_testBit] at hv; cases hv
      · show smS (fun p => if (0 : Nat).testBit p = true then 420 / pop (rgS n d p) else 0) n = 420 * 0
        rw [smS_zero (fun p _ => by rw [Nat.zero_testBit]; rfl)]
    | succ i ih =>
      intro hi
      obtain ⟨a1, a2, a3⟩ := ih (by omega)
      by_cases h0 : rgS n d i = 0
      · have e : rcS n d (i + 1) = rcS n d i := by rw [rcS, if_pos h0]
        rw [e]
        refine ⟨a1, fun p hp hz => ?_, a3⟩
        by_cases z : p = i
        · subst z; exact absurd h0 hz
        · exact a2 p (by omega) hz
      · by_cases h1 : rgS n d i &&& (rcS n d i).2 = 0
        · have e : rcS n d (i + 1) = ((rcS n d i).1 + 1, (rcS n d i).2 ||| rgS n d i) := by rw [rcS, if_neg h0, if_pos h1]
          have hdis : ∀ v, ¬ ((rgS n d i).testBit v = true ∧ (rcS n d i).2.testBit v = true) := by
            rintro v ⟨x, y⟩
            have : (rgS n d i &&& (rcS n d i).2).testBit v = false := by rw [h1, Nat.zero_testBit]
            rw [Nat.testBit_and, x, y] at this
            cases this
          rw [e]
          refine ⟨fun v hv => ?_, fun p hp hz => ?_, ?_⟩
          · change ((rcS n d i).2 ||| rgS n d i).testBit v = true at hv
            show _ ∧ ∀ u, _ → ((rcS n d i).2 ||| rgS n d i).testBit u = true
            rw [Nat.testBit_or, Bool.or_eq_true] at hv
            rcases hv with hv | hv
            · exact ⟨(a1 v hv).1, fun u hu => by rw [Nat.testBit_or, (a1 v hv).2 u hu, Bool.true_or]⟩
            · rw [rg_same hv]
              exact ⟨h0, fun u hu => by rw [Nat.testBit_or, hu, Bool.or_true]⟩
          · show ((rcS n d i).2 ||| rgS n d i).testBit p = true
            rw [Nat.testBit_or]
            by_cases z : p = i
            · subst z; rw [rg_self h0, Bool.or_true]
            · rw [a2 p (by omega) hz, Bool.true_or]
          · show smS (fun p => if ((rcS n d i).2 ||| rgS n d i).testBit p = true then 420 / pop (rgS n d p) else 0) n = 420 * ((rcS n d i).1 + 1)
            have hs : smS (fun p => if ((rcS n d i).2 ||| rgS n d i).testBit p = true then 420 / pop (rgS n d p) else 0) n = smS (fun p => (if (rcS n d i).2.testBit p = true then 420 / pop (rgS n d p) else 0) + (if (rgS n d i).testBit p = true then 420 / pop (rgS n d i) else 0)) n := by
              apply smS_cong
              intro p _
              rw [Nat.testBit_or]
              cases x : (rcS n d i).2.testBit p with
              | true =>
                cases y : (rgS n d i).testBit p with
                | true => exact absurd ⟨y, x⟩ (hdis p)
                | false => simp
              | false =>
                cases y : (rgS n d i).testBit p with
                | true => rw [rg_same y]; simp
                | false => simp
            have hi2 : i < n := by omega
            have hpp := pop_pos (rgS n d i) (by have := hlt i hi2; omega) (by omega)
            rw [hs, smS_add, a3, sm_ct, ← pop_ct n hn7 _ (hlt i hi2), div420 _ (pop_le _) hpp]
            omega
        · have e : rcS n d (i + 1) = rcS n d i := by rw [rcS, if_neg h0, if_neg h1]
          rw [e]
          refine ⟨a1, fun p hp hz => ?_, a3⟩
          by_cases z : p = i
          · subst z
            obtain ⟨v, hv⟩ := nz_tb h1
            obtain ⟨x, y⟩ := and_tb hv
            exact (a1 v y).2 p (by rw [rg_same x]; exact rg_self h0)
          · exact a2 p (by omega) hz
  obtain ⟨a1, a2, a3⟩ := key n (Nat.le_refl _)
  have hs : smS (fun p => if pop (rgS n d p) = 0 then 0 else 420 / pop (rgS n d p)) n = smS (fun p => if (rcS n d n).2.testBit p = true then 420 / pop (rgS n d p) else 0) n := by
    apply smS_cong
    intro p hp
    by_cases h0 : rgS n d p = 0
    · rw [if_pos (by rw [h0, pop_0])]
      cases z : (rcS n d n).2.testBit p with
      | false => rfl
      | true => exact absurd h0 (a1 p z).1
    · have := pop_pos (rgS n d p) (by have := hlt p hp; omega) (by omega)
      rw [if_neg (by omega), if_pos (a2 p hp h0)]
  unfold rmS
  rw [hs, a3, Nat.mul_div_cancel_left _ (by decide)]
theorem sm_t {x : Int32} {t : Bool} (e : x = bI t) (h : x = nI 1) : t = true := by
  cases t with
  | true => rfl
  | false => rw [e] at h; exact absurd h (by decide)
theorem sm_f {x : Int32} {t : Bool} (e : x = bI t) (h : ¬ x = nI 1) : t = false := by
  cases t with
  | false => rfl
  | true => exact absurd e h
theorem ak_f {n i so few v : Nat} {f : Nat → Nat} {best o : Option Nat} (ht : o = if so = 0 then none else akS f (n - i) i best few) (hi : i < n) (hs : ¬ so = 0) (hv : f i = v) (h : ¬ v < few) : o = if so = 0 then none else akS f (n - (i + 1)) (i + 1) best few := by
  rw [ht, if_neg hs, if_neg hs, akS_f hi (by rw [hv]; exact h)]
theorem ak_t {n i so few v : Nat} {f : Nat → Nat} {best o : Option Nat} (ht : o = if so = 0 then none else akS f (n - i) i best few) (hi : i < n) (hs : ¬ so = 0) (hv : f i = v) (h : v < few) : o = if so = 0 then none else akS f (n - (i + 1)) (i + 1) (some i) v := by
  rw [ht, if_neg hs, if_neg hs, akS_t hi (by rw [hv]; exact h), hv]
theorem kc_eq {kc : Option Nat} {cr : Nat} (hk : ∀ q, kc = some q → q ≤ cr) (hcr : cr < 2 ^ 30) (h : dI kc = nI cr) : kc = some cr := by
  cases kc with
  | none => exact absurd h.symm (nI_nm1 (by omega))
  | some q => rw [(nI_eq (by have := hk q rfl; omega) (by omega)).mp h]
