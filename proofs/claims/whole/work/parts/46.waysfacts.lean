/-! facts of the lists: who is left, which names are left -/
theorem flt_ct (P : Nat → Bool) : ∀ k, (flt P k).length = ct P k
  | 0 => rfl
  | k + 1 => by
    cases h : P k with
    | true => rw [flt_y h, List.length_append, flt_ct P k, ← ct_t h]; rfl
    | false => rw [flt_n h, flt_ct P k, ← ct_f h]
theorem getD_app {l r : List Nat} {i : Nat} (h : i < l.length) : (l ++ r).getD i 0 = l.getD i 0 := by
  rw [List.getD_eq_getElem?_getD, List.getD_eq_getElem?_getD, List.getElem?_append_left h]
theorem getD_last (l : List Nat) (k : Nat) : (l ++ [k]).getD l.length 0 = k := by
  rw [List.getD_eq_getElem?_getD, List.getElem?_append_right (Nat.le_refl _), Nat.sub_self]
  rfl
theorem flt_get {P : Nat → Bool} {p : Nat} (hp : P p = true) : ∀ {k : Nat}, p < k → (flt P k).getD (ct P p) 0 = p ∧ ct P p < (flt P k).length
  | 0, h => absurd h (Nat.not_lt_zero _)
  | k + 1, h => by
    by_cases e : p = k
    · subst e
      rw [flt_y hp]
      have : ct P p = (flt P p).length := (flt_ct P p).symm
      rw [this]
      exact ⟨getD_last _ _, by rw [List.length_append]; exact Nat.lt_succ_self _⟩
    · have ih := flt_get hp (k := k) (by omega)
      cases h2 : P k with
      | true => rw [flt_y h2]; exact ⟨by rw [getD_app ih.2]; exact ih.1, by rw [List.length_append]; omega⟩
      | false => rw [flt_n h2]; exact ih
theorem flt_mem {P : Nat → Bool} : ∀ {k i : Nat}, i < (flt P k).length → (flt P k).getD i 0 < k ∧ P ((flt P k).getD i 0) = true ∧ ct P ((flt P k).getD i 0) = i
  | 0, i, h => absurd h (Nat.not_lt_zero _)
  | k + 1, i, h => by
    cases h2 : P k with
    | true =>
      rw [flt_y h2] at h ⊢
      rw [List.length_append] at h
      by_cases e : i = (flt P k).length
      · subst e
        rw [getD_last]
        exact ⟨Nat.lt_succ_self _, h2, (flt_ct P k).symm⟩
      · have hl : i < (flt P k).length := by change i < (flt P k).length + 1 at h; omega
        have ih := flt_mem hl
        rw [getD_app hl]
        exact ⟨by omega, ih.2⟩
    | false =>
      rw [flt_n h2] at h ⊢
      have ih := flt_mem h
      exact ⟨by omega, ih.2⟩
theorem flt_inj {P : Nat → Bool} {k i j : Nat} (hi : i < (flt P k).length) (hj : j < (flt P k).length) (h : (flt P k).getD i 0 = (flt P k).getD j 0) : i = j := by
  have h1 := (flt_mem hi).2.2
  have h2 := (flt_mem hj).2.2
  rw [h] at h1
  omega
theorem flt_mono {P : Nat → Bool} {k i j : Nat} (hi : i < (flt P k).length) (hj : j < (flt P k).length) : (flt P k).getD i 0 < (flt P k).getD j 0 ↔ i < j := by
  have h1 := (flt_mem hi).2
  have h2 := (flt_mem hj).2
  constructor
  · intro h
    have hm := ct_mono P (show (flt P k).getD i 0 + 1 ≤ (flt P k).getD j 0 from h)
    rw [← ct_t h1.1] at hm
    omega
  · intro h
    rcases Nat.lt_or_ge ((flt P k).getD i 0) ((flt P k).getD j 0) with z | z
    · exact z
    · have hm := ct_mono P z
      omega
theorem ct_not (P : Nat → Bool) : ∀ k, ct P k + ct (fun i => !P i) k = k
  | 0 => rfl
  | k + 1 => by
    have ih := ct_not P k
    rw [ct, ct]
    cases P k <;> simp <;> omega
theorem db_step {n : Nat} {d : Nat → Option Nat} (hn7 : n ≤ 7) (hdn : ∀ p, p < n → ∀ q, d p = some q → q < n) (hdi : ∀ p p' q, p < n → p' < n → d p = some q → d p' = some q → p = p') : ∀ i, i ≤ n → pop (pb (fun q => tk d q i) n) = ct (fun p => (d p).isSome) i
  | 0, _ => by rw [← db_0, pop_0]; rfl
  | i + 1, hi => by
    have ih := db_step hn7 hdn hdi i (by omega)
    cases e : d i with
    | none => rw [← db_no e, ih]; exact ct_f (f := fun p => (d p).isSome) (by rw [e]; rfl)
    | some q =>
      have hq := hdn i (by omega) q e
      have hb : (pb (fun q => tk d q i) n).testBit q = false := by
        rw [tb_pb, decide_eq_true hq, Bool.true_and]
        cases z : tk d q i with
        | false => rfl
        | true =>
          obtain ⟨p, hp, hp2⟩ := tk_iff.mp z
          have := hdi p i q (by omega) (by omega) hp2 e
          omega
      rw [← db_yes hq e, (or_pop hn7 (pb_lt _ n) hq hb).1, ih]
      exact ct_t (f := fun p => (d p).isSome) (by rw [e]; rfl)
theorem pop_pb {n : Nat} (hn7 : n ≤ 7) (f : Nat → Bool) : pop (pb f n) = ct f n := by
  unfold pop
  have key : ∀ i, i ≤ n → ct (pb f n).testBit i = ct f i := by
    intro i hi
    apply ct_cong
    intro j hj
    rw [tb_pb, decide_eq_true (by omega), Bool.true_and]
  have key2 : ∀ j, ct (pb f n).testBit (n + j) = ct (pb f n).testBit n := by
    intro j
    induction j with
    | zero => rfl
    | succ j ih => rw [show n + (j + 1) = (n + j) + 1 by omega, ← ct_f (by rw [tb_pb, decide_eq_false (by omega), Bool.false_and]), ih]
  rw [show (7 : Nat) = n + (7 - n) by omega, key2, key n (Nat.le_refl _)]
theorem LR_len {n : Nat} {d : Nat → Option Nat} (hn7 : n ≤ 7) (hdn : ∀ p, p < n → ∀ q, d p = some q → q < n) (hdi : ∀ p p' q, p < n → p' < n → d p = some q → d p' = some q → p = p') : (RV n d).length = (LV n d).length := by
  unfold RV LV
  rw [flt_ct, flt_ct]
  have h1 := db_step hn7 hdn hdi n (Nat.le_refl _)
  rw [pop_pb hn7] at h1
  have h2 := ct_not (fun q => tk d q n) n
  have h3 := ct_not (fun p => (d p).isSome) n
  have h4 : ct (fun q => (hatS n d).testBit q) n = ct (fun q => !tk d q n) n := by
    apply ct_cong
    intro q hq
    unfold hatS
    rw [tb_pb, decide_eq_true hq, Bool.true_and]
  have h5 : ct (fun p => (d p).isNone) n = ct (fun p => !(d p).isSome) n := by
    apply ct_cong
    intro p _
    cases d p <;> rfl
  rw [h4, h5]
  omega
theorem PM_lt {m : Nat} (hm : m ≤ 7) {w : List Nat} (hw : w ∈ PM m) : ∀ i, i < m → w.getD i 0 < m := by
  intro i hi
  have h := List.all_eq_true.mp (PM_ok m hm) w hw
  unfold okP at h
  have h2 := List.all_eq_true.mp (Bool.and_eq_true_iff.mp h).2 i (List.mem_range.mpr hi)
  exact of_decide_eq_true (Bool.and_eq_true_iff.mp h2).1
theorem PM_inj {m : Nat} (hm : m ≤ 7) {w : List Nat} (hw : w ∈ PM m) : ∀ i j, i < m → j < m → w.getD i 0 = w.getD j 0 → i = j := by
  have key : ∀ i j, i < m → j < i → ¬ w.getD i 0 = w.getD j 0 := by
    intro i j hi hj e
    have h := List.all_eq_true.mp (PM_ok m hm) w hw
    unfold okP at h
    have h2 := List.all_eq_true.mp (Bool.and_eq_true_iff.mp h).2 i (List.mem_range.mpr hi)
    have h3 := List.all_eq_true.mp (Bool.and_eq_true_iff.mp h2).2 j (List.mem_range.mpr hj)
    rw [e] at h3
    simp at h3
  intro i j hi hj e
  rcases Nat.lt_trichotomy i j with z | z | z
  · exact absurd e.symm (key j i hj z)
  · exact z
  · exact absurd e (key i j hi z)
/-- the whole drawing behind a row of ranks: what each person has -/
def mgF (n : Nat) (d : Nat → Option Nat) (w : List Nat) (p : Nat) : Nat := match d p with
  | some q => q
  | none => (RV n d).getD (w.getD (ct (fun p => (d p).isNone) p) 0) 0
def vW (n : Nat) (k h b : Nat → Nat) (d : Nat → Option Nat) (w : List Nat) : Bool := aL (fun i => mayS k h b ((LV n d).getD i 0) ((RV n d).getD (w.getD i 0) 0)) (LV n d).length 0
theorem mgF_s {n : Nat} {d : Nat → Option Nat} {w : List Nat} {p q : Nat} (e : d p = some q) : mgF n d w p = q := by rw [mgF, e]
theorem mgF_n {n : Nat} {d : Nat → Option Nat} {w : List Nat} {p : Nat} (e : d p = none) : mgF n d w p = (RV n d).getD (w.getD (ct (fun p => (d p).isNone) p) 0) 0 := by rw [mgF, e]
theorem LV_at {n : Nat} {d : Nat → Option Nat} {p : Nat} (hp : p < n) (e : d p = none) : (LV n d).getD (ct (fun p => (d p).isNone) p) 0 = p ∧ ct (fun p => (d p).isNone) p < (LV n d).length := flt_get (P := fun p => (d p).isNone) (by rw [e]; rfl) hp
theorem hat_tk {n q : Nat} {d : Nat → Option Nat} (hq : q < n) (h : (hatS n d).testBit q = true) : tk d q n = false := by
  unfold hatS at h
  rw [tb_pb, decide_eq_true hq, Bool.true_and] at h
  cases z : tk d q n with
  | false => rfl
  | true => rw [z] at h; cases h
theorem RV_mem {n : Nat} {d : Nat → Option Nat} {i : Nat} (hi : i < (RV n d).length) : (RV n d).getD i 0 < n ∧ tk d ((RV n d).getD i 0) n = false := by
  have h := flt_mem (P := fun q => (hatS n d).testBit q) hi
  exact ⟨h.1, hat_tk h.1 h.2.1⟩
theorem mg_lt {n : Nat} {d : Nat → Option Nat} (hn7 : n ≤ 7) (hdn : ∀ p, p < n → ∀ q, d p = some q → q < n) (hdi : ∀ p p' q, p < n → p' < n → d p = some q → d p' = some q → p = p') {w : List Nat} (hw : w ∈ PM (LV n d).length) : ∀ p, p < n → mgF n d w p < n := by
  intro p hp
  have hl := flt_len (fun p => (d p).isNone) n
  cases e : d p with
  | some q => rw [mgF_s e]; exact hdn p hp q e
  | none =>
    rw [mgF_n e]
    have h1 := LV_at hp e
    exact (RV_mem (by rw [LR_len hn7 hdn hdi]; exact PM_lt (Nat.le_trans hl hn7) hw _ h1.2)).1
theorem mg_inj {n : Nat} {d : Nat → Option Nat} (hn7 : n ≤ 7) (hdn : ∀ p, p < n → ∀ q, d p = some q → q < n) (hdi : ∀ p p' q, p < n → p' < n → d p = some q → d p' = some q → p = p') {w : List Nat} (hw : w ∈ PM (LV n d).length) : ∀ p p', p < n → p' < n → mgF n d w p = mgF n d w p' → p = p' := by
  have hl : (LV n d).length ≤ 7 := Nat.le_trans (flt_len (fun p => (d p).isNone) n) hn7
  have hR := LR_len hn7 hdn hdi
  have hx : ∀ p p' q, p < n → p' < n → d p = some q → d p' = none → ¬ q = mgF n d w p' := by
    intro p p' q hp hp' e e' z
    rw [mgF_n e'] at z
    have h1 := LV_at hp' e'
    have h2 := (RV_mem (i := w.getD (ct (fun p => (d p).isNone) p') 0) (by rw [hR]; exact PM_lt hl hw _ h1.2)).2
    rw [← z] at h2
    exact tk_no h2 p hp e
  intro p p' hp hp' h
  cases e : d p with
  | some q =>
    rw [mgF_s e] at h
    cases e' : d p' with
    | some q' => rw [mgF_s e'] at h; subst h; exact hdi p p' q hp hp' e e'
    | none => exact absurd h (hx p p' q hp hp' e e')
  | none =>
    cases e' : d p' with
    | some q' => rw [mgF_s e'] at h; exact absurd h.symm (hx p' p q' hp' hp e' e)
    | none =>
      rw [mgF_n e, mgF_n e'] at h
      have h1 := LV_at hp e
      have h2 := LV_at hp' e'
      have h3 := flt_inj (P := fun q => (hatS n d).testBit q) (show _ < (RV n d).length by rw [hR]; exact PM_lt hl hw _ h1.2) (show _ < (RV n d).length by rw [hR]; exact PM_lt hl hw _ h2.2) h
      have h4 := PM_inj hl hw _ _ h1.2 h2.2 h3
      rw [← h1.1, ← h2.1, h4]
