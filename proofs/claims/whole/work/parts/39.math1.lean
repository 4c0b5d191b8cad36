theorem rgo_none {d : Nat → Option Nat} {p n j v ac : Nat} (hj : j < n) (h : d v = none) : rgo d p (n - j) v ac = 0 := by
  obtain ⟨m, hm⟩ : ∃ m, n - j = m + 1 := ⟨n - j - 1, by omega⟩
  rw [hm, rgo, h]
theorem rm_le {n : Nat} {d : Nat → Option Nat} (p : Nat) : (if pop (rgS n d p) = 0 then 0 else 420 / pop (rgS n d p)) ≤ 420 := by
  split
  · omega
  · exact Nat.div_le_self _ _
theorem rm_rc {n : Nat} {d : Nat → Option Nat} (hn7 : n ≤ 7) (hdn : ∀ p, p < n → ∀ q, d p = some q → q < n) (hdi : ∀ p p' q, p < n → p' < n → d p = some q → d p' = some q → p = p') : rmS n d = (rcS n d n).1 := by
  sorry
theorem db_pop {n : Nat} {d : Nat → Option Nat} (hn7 : n ≤ 7) (hdn : ∀ p, p < n → ∀ q, d p = some q → q < n) (hdi : ∀ p p' q, p < n → p' < n → d p = some q → d p' = some q → p = p') : pop (dbS n d) = ct (fun p => (d p).isSome) n := by
  sorry
theorem sm_t {x : Int32} {t : Bool} (e : x = bI t) (h : x = nI 1) : t = true := by
  cases t with
  | true => rfl
  | false => rw [e] at h; exact absurd h (by decide)
theorem sm_f {x : Int32} {t : Bool} (e : x = bI t) (h : ¬ x = nI 1) : t = false := by
  cases t with
  | false => rfl
  | true => exact absurd e h
theorem ak_f {n i so few v : Nat} {f : Nat → Nat} {best o : Option Nat} (ht : o = if so = 0 then none else akS f (n - i) i best few) (hi : i < n) (hs : ¬ so = 0) (hv : f i = v) (h : ¬ v < few) : o = if so = 0 then none else akS f (n - (i + 1)) (i + 1) best few := by
  rw [ht, if_neg hs, if_neg hs, akS_f hi (by rw [hv]; exact h)]
theorem ak_t {n i so few v : Nat} {f : Nat → Nat} {best o : Option Nat} (ht : o = if so = 0 then none else akS f (n - i) i best few) (hi : i < n) (hs : ¬ so = 0) (hv : f i = v) (h : v < few) : o = if so = 0 then none else akS f (n - (i + 1)) (i + 1) (some i) v := by
  rw [ht, if_neg hs, if_neg hs, akS_t hi (by rw [hv]; exact h), hv]
theorem kc_eq {kc : Option Nat} {cr : Nat} (hk : ∀ q, kc = some q → q ≤ cr) (hcr : cr < 2 ^ 30) (h : dI kc = nI cr) : kc = some cr := by
  cases kc with
  | none => exact absurd h.symm (nI_nm1 (by omega))
  | some q => rw [(nI_eq (by have := hk q rfl; omega) (by omega)).mp h]
