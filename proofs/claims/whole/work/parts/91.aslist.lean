/-! all drawings, as lists: the class's tables count them -/
def aS (cs : Nat → Nat) (n : Nat) : Nat → Nat → List (List Nat)
  | 0, _ => [[]]
  | r + 1, S => (List.range n).flatMap (fun q => if (cs (n - (r + 1)) &&& S).testBit q = true then (aS cs n r (andn S (2 ^ q))).map (fun w => q :: w) else [])
theorem sum_range (f : Nat → Nat) : ∀ n, ((List.range n).map f).sum = smS f n
  | 0 => rfl
  | n + 1 => by rw [List.range_succ, List.map_append, List.sum_append, sum_range f n, smS]; rfl
theorem aS_len (cs : Nat → Nat) (n : Nat) : ∀ r S, (aS cs n r S).length = onF cs n r S
  | 0, _ => rfl
  | r + 1, S => by
    rw [aS, onF, List.length_flatMap, ← sum_range]
    congr 1
    apply List.map_congr_left
    intro q _
    unfold wW
    split
    · rw [List.length_map, aS_len cs n r]
    · rfl
theorem fm_filter {α : Type} (P : Nat → Bool) (g : Nat → List α) : ∀ l : List Nat, (l.filter P).flatMap g = l.flatMap (fun q => if P q = true then g q else [])
  | [] => rfl
  | a :: l => by
    cases h : P a with
    | true => rw [List.filter_cons_of_pos h, List.flatMap_cons, List.flatMap_cons, fm_filter P g l, if_pos h]
    | false => rw [List.filter_cons_of_neg (by rw [h]; decide), List.flatMap_cons, fm_filter P g l, if_neg (by rw [h]; decide)]; rfl
theorem fm_congr {α : Type} {f g : Nat → List α} : ∀ {l : List Nat}, (∀ q, q ∈ l → f q = g q) → l.flatMap f = l.flatMap g
  | [], _ => rfl
  | a :: l, h => by rw [List.flatMap_cons, List.flatMap_cons, h a List.mem_cons_self, fm_congr (fun q hq => h q (List.mem_cons_of_mem _ hq))]
theorem fm_one {α : Type} {q0 : Nat} {X : List α} : ∀ {n : Nat}, q0 < n → (List.range n).flatMap (fun q => if q = q0 then X else []) = X
  | 0, h => absurd h (Nat.not_lt_zero _)
  | n + 1, h => by
    rw [List.range_succ, List.flatMap_append]
    by_cases e : q0 = n
    · subst e
      have h0 : (List.range q0).flatMap (fun q => if q = q0 then X else []) = [] := by
        have := fm_congr (f := fun q => if q = q0 then X else []) (g := fun _ => ([] : List α)) (l := List.range q0) (fun q hq => if_neg (fun z => by have := List.mem_range.mp hq; omega))
        rw [this]
        exact List.flatMap_eq_nil_iff.mpr (fun _ _ => rfl)
      rw [h0, List.flatMap_cons, if_pos rfl]
      show [] ++ (X ++ []) = X
      rw [List.append_nil, List.nil_append]
    · rw [fm_one (n := n) (by omega), List.flatMap_cons, if_neg (fun z => e z.symm)]
      show X ++ ([] ++ []) = X
      rw [List.append_nil, List.append_nil]
theorem range_nd : ∀ n, (List.range n).Nodup := fun n => List.nodup_range
theorem nm_erase {n T q : Nat} (hq : T.testBit q = true) : (flt T.testBit n).erase q = flt (andn T (2 ^ q)).testBit n := by
  unfold flt
  rw [List.Nodup.erase_eq_filter (List.Pairwise.filter _ (range_nd n)), List.filter_filter]
  apply List.filter_congr
  intro x _
  rw [tb_andn, Nat.testBit_two_pow]
  by_cases e : x = q
  · subst e; simp
  · have e2 : ¬ q = x := fun z => e z.symm
    simp [e, e2]
def vR (n : Nat) (k h b : Nat → Nat) (d : Nat → Option Nat) : Nat → List Nat → Bool
  | 0, _ => true
  | r + 1, w => if (d (n - (r + 1))).isSome = true then vR n k h b d r w else mayS k h b (n - (r + 1)) (w.getD 0 0) && vR n k h b d r w.tail
def mR (n : Nat) (d : Nat → Option Nat) : Nat → List Nat → List Nat
  | 0, _ => []
  | r + 1, w => (d (n - (r + 1))).getD (w.getD 0 0) :: mR n d r (if (d (n - (r + 1))).isSome = true then w else w.tail)
/-- drawn by one from p on -/
def dfr (d : Nat → Option Nat) (n p q : Nat) : Bool := (List.range n).any (fun i => decide (p ≤ i ∧ d i = some q))
theorem dfr_iff {d : Nat → Option Nat} {n p q : Nat} : dfr d n p q = true ↔ ∃ i, i < n ∧ p ≤ i ∧ d i = some q := by
  unfold dfr
  rw [List.any_eq_true]
  constructor
  · rintro ⟨i, h1, h2⟩
    have := of_decide_eq_true h2
    exact ⟨i, List.mem_range.mp h1, this.1, this.2⟩
  · rintro ⟨i, h1, h2, h3⟩
    exact ⟨i, List.mem_range.mpr h1, decide_eq_true ⟨h2, h3⟩⟩
theorem bool_eq {a b : Bool} (h : a = true ↔ b = true) : a = b := by
  cases a <;> cases b <;> simp_all
theorem aS_eq {n : Nat} {k h b : Nat → Nat} {d : Nat → Option Nat} (hn7 : n ≤ 7) (hdn : ∀ p, p < n → ∀ q, d p = some q → q < n) (hdi : ∀ p p' q, p < n → p' < n → d p = some q → d p' = some q → p = p') : ∀ (r T S K : Nat), r ≤ n → (flt T.testBit n).length = K → K + ct (fun p => (d p).isNone) (n - r) = ct (fun p => (d p).isNone) n → (∀ q, q < n → T.testBit q = true → (hatS n d).testBit q = true) → (∀ q, q < n → S.testBit q = (T.testBit q || dfr d n (n - r) q)) → ((lexP K (flt T.testBit n)).filter (vR n k h b d r)).map (mR n d r) = aS (chS n k h b d) n r S
  | 0, T, S, K, _, hK, hc, _, _ => by
    rw [Nat.sub_zero] at hc
    rw [show K = 0 by omega]
    rfl
  | r + 1, T, S, K, hr, hK, hc, hT, hS => by
    have hp : n - (r + 1) < n := by omega
    have hp1 : n - r = n - (r + 1) + 1 := by omega
    rw [aS]
    cases e : d (n - (r + 1)) with
    | some q0 =>
      have hq0 := hdn _ hp q0 e
      have hnone : ct (fun p => (d p).isNone) (n - (r + 1)) = ct (fun p => (d p).isNone) (n - r) := by
        rw [hp1]
        exact ct_f (f := fun p => (d p).isNone) (by rw [e]; rfl)
      have hTq : T.testBit q0 = false := by
        cases z : T.testBit q0 with
        | false => rfl
        | true =>
          have h1 := hat_tk hq0 (hT q0 hq0 z)
          exact absurd e (tk_no h1 _ hp)
      have hnd : dfr d n (n - r) q0 = false := by
        cases z : dfr d n (n - r) q0 with
        | false => rfl
        | true =>
          obtain ⟨i, h1, h2, h3⟩ := dfr_iff.mp z
          have := hdi i (n - (r + 1)) q0 h1 hp h3 e
          omega
      have hdd : ∀ q, dfr d n (n - (r + 1)) q = (decide (q = q0) || dfr d n (n - r) q) := by
        intro q
        apply bool_eq
        rw [Bool.or_eq_true, decide_eq_true_iff, dfr_iff, dfr_iff]
        constructor
        · rintro ⟨i, h1, h2, h3⟩
          by_cases z : i = n - (r + 1)
          · subst z
            rw [e] at h3
            exact Or.inl (Option.some.inj h3).symm
          · exact Or.inr ⟨i, h1, by omega, h3⟩
        · rintro (z | ⟨i, h1, h2, h3⟩)
          · exact ⟨n - (r + 1), hp, Nat.le_refl _, by rw [z]; exact e⟩
          · exact ⟨i, h1, by omega, h3⟩
      have ih := aS_eq (k := k) (h := h) (b := b) hn7 hdn hdi r T (andn S (2 ^ q0)) K (by omega) hK (by omega) hT (fun q hq => by
        rw [tb_andn, Nat.testBit_two_pow, hS q hq, hdd q]
        by_cases z : q = q0
        · subst z; rw [hTq, hnd]; simp
        · have z2 : ¬ q0 = q := fun y => z y.symm
          simp [z, z2])
      have hv : ∀ w, vR n k h b d (r + 1) w = vR n k h b d r w := fun w => by rw [vR, e]; rfl
      have hm : ∀ w, mR n d (r + 1) w = q0 :: mR n d r w := fun w => by rw [mR, e]; rfl
      rw [List.filter_congr (fun w _ => hv w), List.map_congr_left (fun w _ => hm w)]
      have hL : ((lexP K (flt T.testBit n)).filter (vR n k h b d r)).map (fun w => q0 :: mR n d r w) = (((lexP K (flt T.testBit n)).filter (vR n k h b d r)).map (mR n d r)).map (fun w => q0 :: w) := by rw [List.map_map]; rfl
      rw [hL, ih]
      symm
      have hR : ∀ q, q ∈ List.range n → (if (chS n k h b d (n - (r + 1)) &&& S).testBit q = true then (aS (chS n k h b d) n r (andn S (2 ^ q))).map (fun w => q :: w) else []) = (if q = q0 then (aS (chS n k h b d) n r (andn S (2 ^ q0))).map (fun w => q0 :: w) else []) := by
        intro q hq
        have hq := List.mem_range.mp hq
        rw [chS_s e, Nat.testBit_and, Nat.testBit_two_pow]
        by_cases z : q = q0
        · subst z
          rw [hS q hq, hdd q]
          simp
        · have z2 : ¬ q0 = q := fun y => z y.symm
          simp [z, z2]
      rw [fm_congr hR, fm_one hq0]
    | none =>
      have hsome : ct (fun p => (d p).isNone) (n - (r + 1)) + 1 = ct (fun p => (d p).isNone) (n - r) := by
        rw [hp1]
        exact ct_t (f := fun p => (d p).isNone) (by rw [e]; rfl)
      have hmono := ct_mono (fun p => (d p).isNone) (show n - r ≤ n by omega)
      obtain ⟨K', rfl⟩ : ∃ K', K = K' + 1 := ⟨K - 1, by omega⟩
      have hdd : ∀ q, dfr d n (n - (r + 1)) q = dfr d n (n - r) q := by
        intro q
        apply bool_eq
        rw [dfr_iff, dfr_iff]
        constructor
        · rintro ⟨i, h1, h2, h3⟩
          refine ⟨i, h1, ?_, h3⟩
          have : ¬ i = n - (r + 1) := fun z => by rw [z, e] at h3; cases h3
          omega
        · rintro ⟨i, h1, h2, h3⟩
          exact ⟨i, h1, by omega, h3⟩
      have hnh : ∀ q, q < n → (hatS n d).testBit q = true → ∀ p, dfr d n p q = false := by
        intro q hq hb p
        cases z : dfr d n p q with
        | false => rfl
        | true =>
          obtain ⟨i, h1, -, h3⟩ := dfr_iff.mp z
          exact absurd h3 (tk_no (hat_tk hq hb) i h1)
      have hih : ∀ q, q < n → T.testBit q = true → ((lexP K' ((flt T.testBit n).erase q)).filter (vR n k h b d r)).map (mR n d r) = aS (chS n k h b d) n r (andn S (2 ^ q)) := by
        intro q hq hb
        rw [nm_erase hb]
        have hlen : (flt (andn T (2 ^ q)).testBit n).length = K' := by
          rw [← nm_erase hb, List.length_erase_of_mem, hK]
          · rfl
          · unfold flt; exact List.mem_filter.mpr ⟨List.mem_range.mpr hq, hb⟩
        refine aS_eq (k := k) (h := h) (b := b) hn7 hdn hdi r (andn T (2 ^ q)) (andn S (2 ^ q)) K' (by omega) hlen (by omega) (fun x hx hbx => ?_) (fun x hx => ?_)
        · rw [tb_andn] at hbx
          exact hT x hx (Bool.and_eq_true_iff.mp hbx).1
        · rw [tb_andn, tb_andn, hS x hx, hdd x, Nat.testBit_two_pow]
          by_cases z : q = x
          · subst z; rw [hnh q hq (hT q hq hb)]; simp
          · simp [z]
      rw [lexP, List.filter_flatMap, List.map_flatMap]
      have hstep : ∀ q, q ∈ flt T.testBit n → ((((lexP K' ((flt T.testBit n).erase q)).map (fun w => q :: w)).filter (vR n k h b d (r + 1))).map (mR n d (r + 1))) = (if mayS k h b (n - (r + 1)) q = true then (aS (chS n k h b d) n r (andn S (2 ^ q))).map (fun w => q :: w) else []) := by
        intro q hq
        unfold flt at hq
        obtain ⟨hq1, hq2⟩ := List.mem_filter.mp hq
        have hq1 := List.mem_range.mp hq1
        rw [List.filter_map, List.map_map]
        have hv : ∀ w, (vR n k h b d (r + 1) ∘ fun w => q :: w) w = (mayS k h b (n - (r + 1)) q && vR n k h b d r w) := fun w => by show vR n k h b d (r + 1) (q :: w) = _; rw [vR, e]; rfl
        have hm : ∀ w, (mR n d (r + 1) ∘ fun w => q :: w) w = q :: mR n d r w := fun w => by show mR n d (r + 1) (q :: w) = _; rw [mR, e]; rfl
        rw [List.filter_congr (fun w _ => hv w), List.map_congr_left (fun w _ => hm w)]
        cases hmay : mayS k h b (n - (r + 1)) q with
        | false =>
          rw [if_neg (by decide)]
          have : (lexP K' ((flt T.testBit n).erase q)).filter (fun w => false && vR n k h b d r w) = [] := List.filter_eq_nil_iff.mpr (fun w _ => by simp)
          rw [this]
          rfl
        | true =>
          rw [if_pos rfl, ← hih q hq1 hq2, List.map_map]
          have : (lexP K' ((flt T.testBit n).erase q)).filter (fun w => true && vR n k h b d r w) = (lexP K' ((flt T.testBit n).erase q)).filter (vR n k h b d r) := List.filter_congr (fun w _ => by rw [Bool.true_and])
          rw [this]
          rfl
      rw [fm_congr hstep]
      show ((List.range n).filter T.testBit).flatMap _ = _
      rw [fm_filter]
      apply fm_congr
      intro q hq
      have hq := List.mem_range.mp hq
      rw [Nat.testBit_and, ch_tb hq e, hS q hq, hdd q]
      by_cases z : T.testBit q = true
      · rw [if_pos z, z, hT q hq z]
        simp
      · rw [if_neg z]
        have zf : T.testBit q = false := Bool.eq_false_iff.mpr z
        by_cases y : (hatS n d).testBit q = true
        · rw [zf, hnh q hq y]; simp
        · rw [Bool.eq_false_iff.mpr y]; simp
