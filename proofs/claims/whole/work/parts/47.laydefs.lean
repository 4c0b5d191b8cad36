/-! the ways, as the reference finds them one after the other -/
def VS (n : Nat) (k h b : Nat → Nat) (d : Nat → Option Nat) (l : List (List Nat)) : List (Nat → Nat) := (l.filter (vW n k h b d)).map (mgF n d)
theorem VS_t {n : Nat} {k h b : Nat → Nat} {d : Nat → Option Nat} {l : List (List Nat)} {w : List Nat} (h1 : vW n k h b d w = true) : VS n k h b d (l ++ [w]) = VS n k h b d l ++ [mgF n d w] := by
  unfold VS
  rw [List.filter_append, List.map_append, List.filter_cons_of_pos h1]
  rfl
theorem VS_f {n : Nat} {k h b : Nat → Nat} {d : Nat → Option Nat} {l : List (List Nat)} {w : List Nat} (h1 : vW n k h b d w = false) : VS n k h b d (l ++ [w]) = VS n k h b d l := by
  unfold VS
  rw [List.filter_append, List.map_append, List.filter_cons_of_neg (by rw [h1]; decide)]
  exact List.append_nil _
def rgB (n : Nat) (σ : Nat → Nat) : Bool := decide (pop (rgS n (fun p => some (σ p)) 0) = n)
theorem chk_next {m : Nat} {cur : List Nat} {rs : List (List Nat)} (h : chkS m (cur :: rs) = true) : (stF m (fun j => cur.getD j 0)).isSome = !rs.isEmpty ∧ ∀ v r, rs = v :: r → chkS m (v :: r) = true ∧ ∀ i, i < m → ((stF m (fun j => cur.getD j 0)).getD (fun j => cur.getD j 0)) i = v.getD i 0 := by
  cases rs with
  | nil =>
    rw [chkS] at h
    refine ⟨?_, fun v r e => by cases e⟩
    cases e : stF m (fun j => cur.getD j 0) with
    | none => rfl
    | some g => rw [e] at h; cases h
  | cons v r =>
    rw [chkS] at h
    obtain ⟨h1, h2⟩ := Bool.and_eq_true_iff.mp h
    cases e : stF m (fun j => cur.getD j 0) with
    | none => rw [e] at h1; cases h1
    | some g =>
      rw [e] at h1
      refine ⟨rfl, fun v' r' e2 => ?_⟩
      cases e2
      refine ⟨h2, fun i hi => ?_⟩
      have h3 : (List.range m).map g = v := eq_of_beq h1
      rw [← h3, List.getD_eq_getElem?_getD, List.getElem?_map, List.getElem?_range hi]
      rfl
theorem PM_hd : ∀ m, m ≤ 7 → (PM m).head? = some (List.range m) := by decide +kernel
theorem PM_first {m : Nat} (hm : m ≤ 7) : ∃ r, PM m = List.range m :: r := by
  have h := PM_hd m hm
  cases e : PM m with
  | nil => rw [e] at h; cases h
  | cons u r => rw [e] at h; cases h; exact ⟨r, rfl⟩
theorem PM_len : ∀ m, m ≤ 7 → (PM m).length ≤ 5040 := by decide +kernel
theorem VS_len {n : Nat} {k h b : Nat → Nat} {d : Nat → Option Nat} {l : List (List Nat)} : (VS n k h b d l).length ≤ l.length := by
  unfold VS
  rw [List.length_map]
  exact List.length_filter_le _ _
theorem mem_mid {α : Type} {l a : List α} {x : α} {r : List α} (h : l = a ++ x :: r) : x ∈ l := by rw [h]; exact List.mem_append_right _ List.mem_cons_self
theorem len_mid {α : Type} {l a : List α} {x : α} {r : List α} (h : l = a ++ x :: r) : a.length + 1 ≤ l.length := by rw [h, List.length_append]; show _ ≤ a.length + (r.length + 1); omega
theorem getD_range {m i : Nat} (h : i < m) : (List.range m).getD i 0 = i := by
  rw [List.getD_eq_getElem?_getD, List.getElem?_range h]
  rfl
theorem hv_step {g : Nat → Int32} {C : Nat → Nat → Nat} {s : Nat → Nat} {n p : Nat} (hn : n ≤ 7) (hp : p < n) (hs : s p < n) (hg : ∀ a q, a < n → q < n → g (7 * a + q) = nI (C a q + if a < p ∧ s a = q then 1 else 0)) : ∀ a q, a < n → q < n → upd g (7 * p + s p) (nI (C p (s p) + 1)) (7 * a + q) = nI (C a q + if a < p + 1 ∧ s a = q then 1 else 0) := by
  intro a q ha hq
  by_cases e : a = p ∧ q = s p
  · obtain ⟨rfl, rfl⟩ := e
    rw [pk_us, if_pos ⟨by omega, rfl⟩]
  · rw [pk_un (fun z => e (by omega)), hg a q ha hq]
    by_cases z : a < p ∧ s a = q
    · rw [if_pos z, if_pos ⟨by omega, z.2⟩]
    · rw [if_neg z, if_neg (fun y => by
        by_cases w : a = p
        · subst w; exact e ⟨rfl, y.2.symm⟩
        · exact z ⟨by omega, y.2⟩)]
theorem hv_here {g : Nat → Int32} {C : Nat → Nat → Nat} {s : Nat → Nat} {n p : Nat} (hp : p < n) (hs : s p < n) (hg : ∀ a q, a < n → q < n → g (7 * a + q) = nI (C a q + if a < p ∧ s a = q then 1 else 0)) : g (7 * p + s p) = nI (C p (s p)) := by
  rw [hg p (s p) hp hs, if_neg (fun z => by omega), Nat.add_zero]
theorem cnt_app {α : Type} (P : α → Bool) (l : List α) (x : α) : (l ++ [x]).countP P = l.countP P + if P x = true then 1 else 0 := by
  rw [List.countP_append, List.countP_cons, List.countP_nil, Nat.zero_add]
theorem get_app {α : Type} {l : List α} {x y : α} {w : Nat} (h : (l ++ [x])[w]? = some y) : (w < l.length ∧ l[w]? = some y) ∨ (w = l.length ∧ y = x) := by
  by_cases e : w < l.length
  · rw [List.getElem?_append_left e] at h; exact Or.inl ⟨e, h⟩
  · rw [List.getElem?_append_right (by omega)] at h
    have : w - l.length < 1 := (List.getElem?_eq_some_iff.mp h).1
    rw [show w - l.length = 0 by omega] at h
    exact Or.inr ⟨by omega, (Option.some.inj h).symm⟩
theorem wl_of {n : Nat} {d : Nat → Option Nat} {w : List Nat} {u : Nat → Int32} (h1 : ∀ p, p < n → (d p).isSome = true → u p = dI (d p)) (h2 : ∀ i, i < (LV n d).length → u ((LV n d).getD i 0) = nI ((RV n d).getD (w.getD i 0) 0)) : ∀ p, p < n → u p = nI (mgF n d w p) := by
  intro p hp
  cases e : d p with
  | some q => rw [h1 p hp (by rw [e]; rfl), mgF_s e, e]; rfl
  | none =>
    have h3 := LV_at hp e
    have h4 := h2 _ h3.2
    rw [h3.1] at h4
    rw [h4, mgF_n e]
theorem LV_none {n : Nat} {d : Nat → Option Nat} {i : Nat} (hi : i < (LV n d).length) : (LV n d).getD i 0 < n ∧ d ((LV n d).getD i 0) = none := by
  have h := flt_mem (P := fun p => (d p).isNone) hi
  exact ⟨h.1, Option.isNone_iff_eq_none.mp h.2.1⟩
