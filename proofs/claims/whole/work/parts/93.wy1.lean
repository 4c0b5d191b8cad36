/-! the reference's ways, as lists; how many; the so-manieth; the likely one -/
theorem aL_cong {f g : Nat → Bool} : ∀ {m j : Nat}, (∀ i, j ≤ i → i < j + m → f i = g i) → aL f m j = aL g m j
  | 0, _, _ => rfl
  | m + 1, j, h => by rw [aL, aL, h j (Nat.le_refl _) (by omega), aL_cong (fun i h1 h2 => h i (by omega) (by omega))]
theorem getD_map {g : Nat → Nat} {w : List Nat} {i : Nat} (hi : i < w.length) : (w.map g).getD i 0 = g (w.getD i 0) := by
  rw [List.getD_eq_getElem?_getD, List.getD_eq_getElem?_getD, List.getElem?_map, List.getElem?_eq_getElem hi]
  rfl
theorem full_tb {n q : Nat} (hq : q < n) : (2 ^ n - 1).testBit q = true := by rw [← pb_all n, tb_pb, decide_eq_true hq]; rfl
theorem VS_eq {n : Nat} {k h b : Nat → Nat} {d : Nat → Option Nat} (hn7 : n ≤ 7) (hdn : ∀ p, p < n → ∀ q, d p = some q → q < n) (hdi : ∀ p p' q, p < n → p' < n → d p = some q → d p' = some q → p = p') : (VS n k h b d (PM (LV n d).length)).map (fun s => (List.range n).map s) = aS (chS n k h b d) n n (2 ^ n - 1) := by
  have hR := LR_len hn7 hdn hdi
  have hl : (LV n d).length ≤ 7 := Nat.le_trans (flt_len (fun p => (d p).isNone) n) hn7
  have hc : (LV n d).length = ct (fun p => (d p).isNone) n := by unfold LV; exact flt_ct _ _
  have h1 := aS_eq (k := k) (h := h) (b := b) hn7 hdn hdi n (hatS n d) (2 ^ n - 1) (RV n d).length (Nat.le_refl _) rfl (by rw [Nat.sub_self, hR, hc]; rfl) (fun q _ z => z) (fun q hq => by
    rw [full_tb hq, Nat.sub_self]
    symm
    cases z : (hatS n d).testBit q with
    | true => rfl
    | false =>
      rw [Bool.false_or]
      obtain ⟨p, hp, e⟩ := tk_iff.mp (hat_tk0 hq z)
      exact dfr_iff.mpr ⟨p, hp, Nat.zero_le _, e⟩)
  rw [← h1]
  show _ = ((lexP (RV n d).length (RV n d)).filter (vR n k h b d n)).map (mR n d n)
  rw [RV_lex, List.filter_map, List.map_map, hR]
  unfold VS
  rw [List.map_map]
  have hv : ∀ w, w ∈ PM (LV n d).length → vW n k h b d w = (vR n k h b d n ∘ fun w => w.map (fun i => (RV n d).getD i 0)) w := by
    intro w hw
    have hwl := PM_length hl hw
    have h2 := vR_eq (k := k) (h := h) (b := b) (w := w.map (fun i => (RV n d).getD i 0)) (by rw [List.length_map, hwl]) n (Nat.le_refl _)
    rw [Nat.sub_self] at h2
    show vW n k h b d w = vR n k h b d n (w.map (fun i => (RV n d).getD i 0))
    refine Eq.trans ?_ h2.symm
    unfold vW
    apply aL_cong
    intro i _ hi
    have hi : i < w.length := by change i < 0 + (LV n d).length at hi; omega
    rw [getD_map hi]
  rw [List.filter_congr hv]
  apply List.map_congr_left
  intro w hw
  have hw := (List.mem_filter.mp hw).1
  have hwl := PM_length hl hw
  have h2 := mR_eq (n := n) (d := d) (w := w.map (fun i => (RV n d).getD i 0)) (by rw [List.length_map, hwl]) (mgF n d w) (fun p hp => by
    cases e : d p with
    | some q => rw [mgF_s e]
    | none =>
      rw [mgF_n e]
      have h3 := LV_at hp e
      show _ = (w.map (fun i => (RV n d).getD i 0)).getD _ 0
      rw [getD_map (by rw [hwl]; exact h3.2)]) n (Nat.le_refl _)
  rw [Nat.sub_self] at h2
  show (List.range n).map (mgF n d w) = mR n d n (w.map (fun i => (RV n d).getD i 0))
  rw [List.range_eq_range']
  exact h2.symm
theorem WY_1 {n : Nat} {k h b : Nat → Nat} {d : Nat → Option Nat} (hn7 : n ≤ 7) (hdn : ∀ p, p < n → ∀ q, d p = some q → q < n) (hdi : ∀ p p' q, p < n → p' < n → d p = some q → d p' = some q → p = p') : (VS n k h b d (PM (LV n d).length)).length = wyS n k h b d := by
  have h1 := congrArg List.length (VS_eq (k := k) (h := h) (b := b) hn7 hdn hdi)
  rw [List.length_map, aS_len] at h1
  rw [h1, wyS, onS, pop_full n hn7]
theorem skF_cong {f g : Nat → Nat} : ∀ {m i a : Nat}, (∀ q, i ≤ q → q < i + m → f q = g q) → skF f m i a = skF g m i a
  | 0, _, _, _ => rfl
  | m + 1, i, a, h => by
    rw [skF, skF, h i (Nat.le_refl _) (by omega)]
    by_cases e : g i ≤ a
    · rw [if_pos e, if_pos e, skF_cong (fun q h1 h2 => h q (by omega) (by omega))]
    · rw [if_neg e, if_neg e]
theorem fm_idx {α : Type} {G : Nat → List α} {f : Nat → Nat} (hf : ∀ q, (G q).length = f q) : ∀ m i a, a < ((List.range' i m).flatMap G).length → ((List.range' i m).flatMap G)[a]? = (G (skF f m i a).1)[(skF f m i a).2]? ∧ (skF f m i a).2 < f (skF f m i a).1 ∧ i ≤ (skF f m i a).1 ∧ (skF f m i a).1 < i + m
  | 0, i, a, h => absurd h (Nat.not_lt_zero _)
  | m + 1, i, a, h => by
    rw [List.range'_succ, List.flatMap_cons] at h ⊢
    rw [skF]
    by_cases e : f i ≤ a
    · rw [if_pos e, List.getElem?_append_right (by rw [hf]; exact e), hf]
      rw [List.length_append, hf] at h
      have ih := fm_idx hf m (i + 1) (a - f i) (by omega)
      exact ⟨ih.1, ih.2.1, by omega, by omega⟩
    · rw [if_neg e, List.getElem?_append_left (by rw [hf]; omega)]
      exact ⟨rfl, by show a < f i; omega, Nat.le_refl _, by show i < i + (m + 1); omega⟩
theorem aS_idx {cs : Nat → Nat} {n : Nat} (hn7 : n ≤ 7) : ∀ r S a, r ≤ n → S < 128 → pop S = r → a < onF cs n r S → ∃ u, (aS cs n r S)[a]? = some u ∧ ∀ p, n - r ≤ p → p < n → u.getD (p - (n - r)) 0 = nwF cs n p r (n - r) S a
  | 0, S, a, _, _, _, ha => ⟨[], by rw [onF] at ha; rw [show a = 0 by omega]; rfl, fun p h1 h2 => absurd h2 (by omega)⟩
  | r + 1, S, a, hr, hS, hp, ha => by
    have hlen : ∀ q, (if (cs (n - (r + 1)) &&& S).testBit q = true then (aS cs n r (andn S (2 ^ q))).map (fun w => q :: w) else []).length = wW cs (onF cs n r) (n - (r + 1)) q S := by
      intro q
      unfold wW
      split
      · rw [List.length_map, aS_len]
      · rfl
    have hsk : skF (wW cs (onF cs n r) (n - (r + 1)) · S) n 0 a = skF (fun q => wW cs (onS cs n) (n - (r + 1)) q S) n 0 a := by
      apply skF_cong
      intro q _ hq
      apply wW_cong hS (by omega)
      intro T _ hT
      rw [onS, show pop T = r by omega]
    have hi := fm_idx hlen n 0 a (by
      rw [← List.range_eq_range']
      have := aS_len cs n (r + 1) S
      rw [aS] at this
      rw [this]
      exact ha)
    rw [← List.range_eq_range'] at hi
    generalize hsq : skF (wW cs (onF cs n r) (n - (r + 1)) · S) n 0 a = x at hi hsk
    obtain ⟨q, a'⟩ := x
    obtain ⟨h1, h2, -, h3⟩ := hi
    have hq : q < n := by change q < 0 + n at h3; omega
    obtain ⟨h4, h5⟩ := wW_pos h2
    have hc := cut_ok S hS q (by omega) (and_tb h4).2
    obtain ⟨u, hu1, hu2⟩ := aS_idx hn7 r (andn S (2 ^ q)) a' (by omega) (by omega) (by omega) h5
    refine ⟨q :: u, ?_, fun p hp1 hp2 => ?_⟩
    · rw [aS, h1]
      show (if (cs (n - (r + 1)) &&& S).testBit q = true then (aS cs n r (andn S (2 ^ q))).map (fun w => q :: w) else [])[a']? = _
      rw [if_pos h4, List.getElem?_map, hu1]
      rfl
    · rw [nwF, ← hsk]
      by_cases e : n - (r + 1) = p
      · rw [if_pos e, ← e, Nat.sub_self]
        rfl
      · rw [if_neg e, show p - (n - (r + 1)) = (p - (n - r)) + 1 by omega]
        show u.getD (p - (n - r)) 0 = _
        rw [hu2 p (by omega) hp2, show n - (r + 1) + 1 = n - r by omega]
theorem WY_4 {n : Nat} {k h b : Nat → Nat} {d : Nat → Option Nat} (hn7 : n ≤ 7) (hdn : ∀ p, p < n → ∀ q, d p = some q → q < n) (hdi : ∀ p p' q, p < n → p' < n → d p = some q → d p' = some q → p = p') : ∀ w, w < wyS n k h b d → ∃ s2, (VS n k h b d (PM (LV n d).length))[w]? = some s2 ∧ ∀ p, p < n → s2 p = nwS (chS n k h b d) n w p := by
  intro w hw
  have h7 := ev_le hn7
  have h0 := Nat.two_pow_pos n
  have hw2 := hw
  rw [wyS, onS, pop_full n hn7] at hw2
  obtain ⟨u, hu1, hu2⟩ := aS_idx hn7 n (2 ^ n - 1) w (Nat.le_refl _) (by omega) (pop_full n hn7) hw2
  rw [← VS_eq (k := k) (h := h) (b := b) hn7 hdn hdi, List.getElem?_map] at hu1
  cases e : (VS n k h b d (PM (LV n d).length))[w]? with
  | none => rw [e] at hu1; cases hu1
  | some s2 =>
    rw [e] at hu1
    have hu := Option.some.inj hu1
    refine ⟨s2, rfl, fun p hp => ?_⟩
    have h2 := hu2 p (by omega) hp
    rw [Nat.sub_self, Nat.sub_zero, ← hu] at h2
    rw [nwS, ← h2, List.getD_eq_getElem?_getD]
    show s2 p = (((List.range n).map s2)[p]?).getD 0
    rw [List.getElem?_map, List.getElem?_range hp]
    rfl
theorem cm_lk {n : Nat} {k h b : Nat → Nat} {d : Nat → Option Nat} (hn7 : n ≤ 7) (hdn : ∀ p, p < n → ∀ q, d p = some q → q < n) (hdi : ∀ p p' q, p < n → p' < n → d p = some q → d p' = some q → p = p') : ∀ (r T S K : Nat), r ≤ n → S < 2 ^ n → (flt T.testBit n).length = K → K + ct (fun p => (d p).isNone) (n - r) = ct (fun p => (d p).isNone) n → (∀ q, q < n → T.testBit q = true → (hatS n d).testBit q = true) → (∀ q, q < n → S.testBit q = (T.testBit q || dfr d n (n - r) q)) → cmF n k h b d K T = lkF (chS n k h b d) n r S
  | 0, T, S, K, _, _, hK, hc, _, _ => by
    rw [Nat.sub_zero] at hc
    rw [show K = 0 by omega]
    rfl
  | r + 1, T, S, K, hr, hSl, hK, hc, hT, hS => by
    have h7 := ev_le hn7
    have hp : n - (r + 1) < n := by omega
    have hp1 : n - r = n - (r + 1) + 1 := by omega
    rw [lkF]
    cases e : d (n - (r + 1)) with
    | some q0 =>
      have hq0 := hdn _ hp q0 e
      have hnone : ct (fun p => (d p).isNone) (n - (r + 1)) = ct (fun p => (d p).isNone) (n - r) := by
        rw [hp1]
        exact ct_f (f := fun p => (d p).isNone) (by rw [e]; rfl)
      have hTq : T.testBit q0 = false := by
        cases z : T.testBit q0 with
        | false => rfl
        | true =>
          have h1 := hat_tk hq0 (hT q0 hq0 z)
          exact absurd e (tk_no h1 _ hp)
      have hnd : dfr d n (n - r) q0 = false := by
        cases z : dfr d n (n - r) q0 with
        | false => rfl
        | true =>
          obtain ⟨i, h1, h2, h3⟩ := dfr_iff.mp z
          have := hdi i (n - (r + 1)) q0 h1 hp h3 e
          omega
      have hdd : ∀ q, dfr d n (n - (r + 1)) q = (decide (q = q0) || dfr d n (n - r) q) := by
        intro q
        apply bool_eq
        rw [Bool.or_eq_true, decide_eq_true_iff, dfr_iff, dfr_iff]
        constructor
        · rintro ⟨i, h1, h2, h3⟩
          by_cases z : i = n - (r + 1)
          · subst z
            rw [e] at h3
            exact Or.inl (Option.some.inj h3).symm
          · exact Or.inr ⟨i, h1, by omega, h3⟩
        · rintro (z | ⟨i, h1, h2, h3⟩)
          · exact ⟨n - (r + 1), hp, Nat.le_refl _, by rw [z]; exact e⟩
          · exact ⟨i, h1, by omega, h3⟩
      have hSq : S.testBit q0 = true := by rw [hS q0 hq0, hdd q0]; simp
      have hcut := cut_ok S (by omega) q0 (by omega) hSq
      have ih := cm_lk (k := k) (h := h) (b := b) hn7 hdn hdi r T (andn S (2 ^ q0)) K (by omega) (by omega) hK (by omega) hT (fun q hq => by
        rw [tb_andn, Nat.testBit_two_pow, hS q hq, hdd q]
        by_cases z : q = q0
        · subst z; rw [hTq, hnd]; simp
        · have z2 : ¬ q0 = q := fun y => z y.symm
          simp [z, z2])
      have hand : chS n k h b d (n - (r + 1)) &&& S = 2 ^ q0 := by
        rw [chS_s e]
        apply Nat.eq_of_testBit_eq
        intro i
        rw [Nat.testBit_and, Nat.testBit_two_pow]
        by_cases z : q0 = i
        · subst z; rw [hSq]; simp
        · simp [z]
      have hsum : smS (fun q => wW (chS n k h b d) (lkF (chS n k h b d) n r) (n - (r + 1)) q S) n = lkF (chS n k h b d) n r (andn S (2 ^ q0)) := by
        have := smS_one (f := fun q => wW (chS n k h b d) (lkF (chS n k h b d) n r) (n - (r + 1)) q S) (g := fun _ => 0) (v := lkF (chS n k h b d) n r (andn S (2 ^ q0))) hq0 (fun q _ hne => by
          show wW _ _ _ _ _ = 0
          unfold wW
          rw [hand, Nat.testBit_two_pow, if_neg]
          intro y
          exact hne (of_decide_eq_true y).symm) (by
          show wW _ _ _ _ _ = _
          unfold wW
          rw [hand, Nat.testBit_two_pow, if_pos (decide_eq_true rfl), Nat.zero_add])
        rw [this, smS_zero (fun _ _ => rfl), Nat.zero_add]
      rw [hsum, hand, pop_one q0 (by omega), Nat.div_one, if_neg (by have := Nat.two_pow_pos q0; omega)]
      exact ih
    | none =>
      have hsome : ct (fun p => (d p).isNone) (n - (r + 1)) + 1 = ct (fun p => (d p).isNone) (n - r) := by
        rw [hp1]
        exact ct_t (f := fun p => (d p).isNone) (by rw [e]; rfl)
      have hmono := ct_mono (fun p => (d p).isNone) (show n - r ≤ n by omega)
      obtain ⟨K', rfl⟩ : ∃ K', K = K' + 1 := ⟨K - 1, by omega⟩
      have hdd : ∀ q, dfr d n (n - (r + 1)) q = dfr d n (n - r) q := by
        intro q
        apply bool_eq
        rw [dfr_iff, dfr_iff]
        constructor
        · rintro ⟨i, h1, h2, h3⟩
          refine ⟨i, h1, ?_, h3⟩
          have : ¬ i = n - (r + 1) := fun z => by rw [z, e] at h3; cases h3
          omega
        · rintro ⟨i, h1, h2, h3⟩
          exact ⟨i, h1, by omega, h3⟩
      have hnh : ∀ q, q < n → (hatS n d).testBit q = true → ∀ p, dfr d n p q = false := by
        intro q hq hb p
        cases z : dfr d n p q with
        | false => rfl
        | true =>
          obtain ⟨i, h1, -, h3⟩ := dfr_iff.mp z
          exact absurd h3 (tk_no (hat_tk hq hb) i h1)
      have hLc : (LV n d).length = ct (fun p => (d p).isNone) n := by unfold LV; exact flt_ct _ _
      have hperson : (LV n d).getD ((LV n d).length - (K' + 1)) 0 = n - (r + 1) := by
        rw [show (LV n d).length - (K' + 1) = ct (fun p => (d p).isNone) (n - (r + 1)) by omega]
        exact (LV_at hp e).1
      have hbit : ∀ q, q < n → (chS n k h b d (n - (r + 1)) &&& S).testBit q = (T.testBit q && mayS k h b (n - (r + 1)) q) := by
        intro q hq
        rw [Nat.testBit_and, ch_tb hq e, hS q hq, hdd q]
        cases z : T.testBit q with
        | true => rw [hT q hq z]; simp
        | false =>
          cases y : (hatS n d).testBit q with
          | true => rw [hnh q hq y]; simp
          | false => simp
      have hand : chS n k h b d (n - (r + 1)) &&& S = pb (fun q => T.testBit q && mayS k h b (n - (r + 1)) q) n := pb_ext (Nat.lt_of_le_of_lt Nat.and_le_right hSl) hbit
      have hpop : pop (chS n k h b d (n - (r + 1)) &&& S) = ct (fun q => T.testBit q && mayS k h b (n - (r + 1)) q) n := by rw [hand, pop_pb hn7]
      have hz : chS n k h b d (n - (r + 1)) &&& S = 0 ↔ ct (fun q => T.testBit q && mayS k h b (n - (r + 1)) q) n = 0 := by
        rw [← hpop]
        constructor
        · intro z; rw [z, pop_0]
        · intro z
          rcases Nat.eq_zero_or_pos (chS n k h b d (n - (r + 1)) &&& S) with y | y
          · exact y
          · have := pop_pos _ (Nat.lt_of_le_of_lt Nat.and_le_right (by omega)) y
            omega
      have hsum : smS (fun q => if (T.testBit q && mayS k h b (n - (r + 1)) q) = true then cmF n k h b d K' (andn T (2 ^ q)) else 0) n = smS (fun q => wW (chS n k h b d) (lkF (chS n k h b d) n r) (n - (r + 1)) q S) n := by
        apply smS_cong
        intro q hq
        unfold wW
        rw [hbit q hq]
        by_cases z : (T.testBit q && mayS k h b (n - (r + 1)) q) = true
        · rw [if_pos z, if_pos z]
          have hb := (Bool.and_eq_true_iff.mp z).1
          have hlen : (flt (andn T (2 ^ q)).testBit n).length = K' := by
            rw [← nm_erase hb, List.length_erase_of_mem, hK]
            · rfl
            · unfold flt; exact List.mem_filter.mpr ⟨List.mem_range.mpr hq, hb⟩
          have hSq : S.testBit q = true := by rw [hS q hq, hb]; rfl
          have hcut := cut_ok S (by omega) q (by omega) hSq
          refine cm_lk (k := k) (h := h) (b := b) hn7 hdn hdi r (andn T (2 ^ q)) (andn S (2 ^ q)) K' (by omega) (by omega) hlen (by omega) (fun x hx hbx => ?_) (fun x hx => ?_)
          · rw [tb_andn] at hbx
            exact hT x hx (Bool.and_eq_true_iff.mp hbx).1
          · rw [tb_andn, tb_andn, hS x hx, hdd x, Nat.testBit_two_pow]
            by_cases y : q = x
            · subst y; rw [hnh q hq (hT q hq hb)]; simp
            · simp [y]
        · rw [if_neg z, if_neg z]
      rw [cmF, hperson, hsum, hpop]
      by_cases z : ct (fun q => T.testBit q && mayS k h b (n - (r + 1)) q) n = 0
      · rw [if_pos z, if_pos (hz.mpr z)]
      · rw [if_neg z, if_neg (fun y => z (hz.mp y))]
theorem WY_5 {n : Nat} {k h b : Nat → Nat} {d : Nat → Option Nat} (hn7 : n ≤ 7) (hdn : ∀ p, p < n → ∀ q, d p = some q → q < n) (hdi : ∀ p p' q, p < n → p' < n → d p = some q → d p' = some q → p = p') : cmS n k h b d (hatS n d) = lkS (chS n k h b d) n (2 ^ n - 1) := by
  have h0 := Nat.two_pow_pos n
  have hc : (LV n d).length = ct (fun p => (d p).isNone) n := by unfold LV; exact flt_ct _ _
  rw [cmS, lkS, pop_full n hn7, pop_hat hn7]
  exact cm_lk hn7 hdn hdi n (hatS n d) (2 ^ n - 1) (RV n d).length (Nat.le_refl _) (by omega) rfl (by rw [Nat.sub_self, LR_len hn7 hdn hdi, hc]; rfl) (fun q _ z => z) (fun q hq => by
    rw [full_tb hq, Nat.sub_self]
    symm
    cases z : (hatS n d).testBit q with
    | true => rfl
    | false =>
      rw [Bool.false_or]
      obtain ⟨p, hp, e⟩ := tk_iff.mp (hat_tk0 hq z)
      exact dfr_iff.mpr ⟨p, hp, Nat.zero_le _, e⟩)
