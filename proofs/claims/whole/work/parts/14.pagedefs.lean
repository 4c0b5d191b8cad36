/-! the page, and the one text constant -/
def pkn (j : Nat) : Nat := [112, 101, 107, 115, 114].getD j 0
theorem pkn_lt (j : Nat) : pkn j < 128 := by
  unfold pkn
  match j with
  | 0 => decide
  | 1 => decide
  | 2 => decide
  | 3 => decide
  | 4 => decide
  | j + 5 => show (0 : Nat) < 128; decide
def STR (k v : Nat) (A : Nat → Prop) (U : State) (H : Heap) : Prop :=
  va_O "java/lang/String" k A U H ∧ va_OF "java/lang/String" "coder" "B" (.int 0) k A U H ∧ va_OF "java/lang/String" "value" "[B" (.ref v) k A U H ∧ va_T .byte v 5 (fun j => .int (nI (pkn j))) A U H ∧ vk_R "HatNames$Page" 27 "peksr" k U ∧ va_Z "java/lang/String" "COMPACT_STRINGS" "Z" (.int 1) A U H
theorem STR.to {k v : Nat} {A B : Nat → Prop} {s U : State} {H : Heap} {locs : List Loc} (h : STR k v A s s.heap) (hS : va_S A s.heap H locs) (hAB : ∀ q, B q → A q) (hU : U.heap = H) (hW : s.WarmedH U.vm) : STR k v B U U.heap := by
  rw [hU]
  exact ⟨va_O.moved hW.alike ((h.1.kept hS.2.1).narrow hAB), va_OF.moved hW.alike ((h.2.1.kept hS.2.1).narrow hAB), va_OF.moved hW.alike ((h.2.2.1.kept hS.2.1).narrow hAB), va_T.moved hW.alike ((h.2.2.2.1.kept hS.2.1).narrow hAB), vk_R.warm hW h.2.2.2.2.1, va_Z.moved hW.alike ((h.2.2.2.2.2.kept hS.2.1).narrow hAB)⟩
theorem STR.call {k v : Nat} {B : Nat → Prop} {U : State} (h : STR k v B U U.heap) (g : JFrame) (mk : MethodId) (a : Array Value) : STR k v B (U.calling g mk a) (U.calling g mk a).heap :=
  ⟨va_O.moved (u := U) (U := U.calling g mk a) (Vm.Alike.refl U.vm) h.1, va_OF.moved (u := U) (U := U.calling g mk a) (Vm.Alike.refl U.vm) h.2.1, va_OF.moved (u := U) (U := U.calling g mk a) (Vm.Alike.refl U.vm) h.2.2.1, va_T.moved (u := U) (U := U.calling g mk a) (Vm.Alike.refl U.vm) h.2.2.2.1, vk_R.same (u := U) (U := U.calling g mk a) rfl h.2.2.2.2.1, va_Z.moved (u := U) (U := U.calling g mk a) (Vm.Alike.refl U.vm) h.2.2.2.2.2⟩
theorem STR.recv {k v : Nat} {A : Nat → Prop} {s : State} {H : Heap} {locs : List Loc} (h : STR k v A s s.heap) (hS : va_S A s.heap H locs) : ∃ cell : Cell, H[k]? = some cell ∧ cell.vm.isStatics = false ∧ s.vm.findClass "java/lang/String" = some cell.cls := by
  obtain ⟨cell, h1, h2, h3, -⟩ := h.1.kept hS.2.1
  exact ⟨cell, h1, h2, h3⟩
def kcS (x : Nat) : Option Nat := fF (fun j => decide (pkn j = x)) 5 0
theorem kcS_lt : ∀ x q, kcS x = some q → q < 5 := by
  intro x q h
  have key : ∀ m i, i + m = 5 → fF (fun j => decide (pkn j = x)) m i = some q → q < 5 := by
    intro m
    induction m with
    | zero => intro i _ h; cases h
    | succ m ih =>
      intro i hi h
      rw [fF] at h
      split at h
      · cases h; omega
      · exact ih (i + 1) (by omega) h
  exact key 5 0 rfl h
theorem i2b_nI {x : Nat} (h : x < 128) : (nI x).toInt8.toInt32 = nI x := by
  have key : ∀ x, x < 128 → (nI x).toInt8.toInt32 = nI x := by decide +kernel
  exact key x h
theorem i2c_nI {x : Nat} (h : x < 128) : ((nI x).toUInt32 % 65536).toInt32 = nI x := by
  have key : ∀ x, x < 128 → ((nI x).toUInt32 % 65536).toInt32 = nI x := by decide +kernel
  exact key x h
theorem kc_T (x : Nat) (h : dI (kcS x) < 0) : (kcS x).isSome = false := by
  cases e : kcS x with
  | none => rfl
  | some q =>
    rw [e] at h
    exact absurd h (nI_pos (by have := kcS_lt x q e; omega))
theorem kc_F (x : Nat) (h : ¬ dI (kcS x) < 0) : (kcS x).isSome = true := by
  cases e : kcS x with
  | none => rw [e] at h; exact absurd (by decide) h
  | some q => rfl
def PgR (pl : Nat) (lA : Nat → Int32) (le : Nat → Nat) : Prop := pl ≤ 24 ∧ ∀ i, i < pl → lA i = nI (le i) ∧ le i ≤ 126
def ftS (le : Nat → Nat) (i : Nat) : Bool := if 20 ≤ i then false else if i % 3 = 0 then (kcS (le i)).isSome else if i % 3 = 1 then decide (48 ≤ le i ∧ le i ≤ 57) else decide (le i = 44)
def fwS (pl : Nat) (le : Nat → Nat) : Nat := (fF (fun j => !ftS le j) pl 0).getD pl
theorem fF_some {f : Nat → Bool} : ∀ {m i q : Nat}, fF f m i = some q → i ≤ q ∧ q < i + m ∧ f q = true ∧ ∀ j, i ≤ j → j < q → f j = false
  | 0, _, _, h => by cases h
  | m + 1, i, q, h => by
    rw [fF] at h
    cases e : f i with
    | true =>
      rw [e, if_pos rfl] at h
      cases h
      exact ⟨Nat.le_refl _, by omega, e, fun j h1 h2 => absurd h2 (by omega)⟩
    | false =>
      rw [e, if_neg (by decide)] at h
      obtain ⟨h1, h2, h3, h4⟩ := fF_some h
      refine ⟨by omega, by omega, h3, fun j g1 g2 => ?_⟩
      by_cases z : j = i
      · rw [z]; exact e
      · exact h4 j (by omega) g2
theorem fF_none {f : Nat → Bool} : ∀ {m i : Nat}, fF f m i = none → ∀ j, i ≤ j → j < i + m → f j = false
  | 0, _, _, j, h1, h2 => absurd h2 (by omega)
  | m + 1, i, h, j, h1, h2 => by
    rw [fF] at h
    cases e : f i with
    | true => rw [e, if_pos rfl] at h; cases h
    | false =>
      rw [e, if_neg (by decide)] at h
      by_cases z : j = i
      · rw [z]; exact e
      · exact fF_none h j (by omega) (by omega)
theorem fwS_le (pl : Nat) (le : Nat → Nat) : fwS pl le ≤ pl := by
  unfold fwS
  cases e : fF (fun j => !ftS le j) pl 0 with
  | none => exact Nat.le_refl _
  | some q => have := (fF_some e).2.1; show q ≤ pl; omega
def icS (pl : Nat) (le : Nat → Nat) : Bool := decide (5 ≤ pl ∧ pl % 3 = 2 ∧ fwS pl le = pl)
theorem icS_of {pl : Nat} {le : Nat → Nat} (h : icS pl le = true) : 5 ≤ pl ∧ pl % 3 = 2 ∧ fwS pl le = pl := of_decide_eq_true h
theorem fwS_all {pl : Nat} {le : Nat → Nat} (h : fwS pl le = pl) : ∀ i, i < pl → ftS le i = true := by
  intro i hi
  unfold fwS at h
  cases e : fF (fun j => !ftS le j) pl 0 with
  | none =>
    have := fF_none e i (Nat.zero_le _) (by omega)
    cases z : ftS le i with
    | true => rfl
    | false => rw [z] at this; cases this
  | some q =>
    rw [e] at h
    have := (fF_some e).2.1
    change q = pl at h
    omega
theorem ic_20 {pl : Nat} {le : Nat → Nat} (h3 : pl % 3 = 2) (h : fwS pl le = pl) : pl ≤ 20 := by
  rcases Nat.lt_or_ge 20 pl with z | z
  · have := fwS_all h 20 z
    rw [ftS, if_pos (by decide)] at this
    cases this
  · exact z
theorem ft_k {le : Nat → Nat} {i : Nat} (h : ftS le i = true) (h3 : i % 3 = 0) : (kcS (le i)).isSome = true := by
  rw [ftS] at h
  by_cases z : 20 ≤ i
  · rw [if_pos z] at h; cases h
  · rw [if_neg z, if_pos h3] at h; exact h
theorem ft_h {le : Nat → Nat} {i : Nat} (h : ftS le i = true) (h3 : i % 3 = 1) : 48 ≤ le i ∧ le i ≤ 57 := by
  rw [ftS] at h
  by_cases z : 20 ≤ i
  · rw [if_pos z] at h; cases h
  · rw [if_neg z, if_neg (by omega), if_pos h3] at h; exact of_decide_eq_true h
def kpS (le : Nat → Nat) (p : Nat) : Nat := (kcS (le (p * 3))).getD 0
def hpS (le : Nat → Nat) (p : Nat) : Nat := le (p * 3 + 1) - 48
theorem kp_eq {le : Nat → Nat} {p : Nat} (h : (kcS (le (p * 3))).isSome = true) : dI (kcS (le (p * 3))) = nI (kpS le p) := by
  unfold kpS
  cases e : kcS (le (p * 3)) with
  | none => rw [e] at h; cases h
  | some q => rfl
theorem kp_lt {le : Nat → Nat} {p : Nat} : kpS le p ≤ 4 := by
  unfold kpS
  cases e : kcS (le (p * 3)) with
  | none => exact Nat.zero_le _
  | some q => have := kcS_lt _ q e; show q ≤ 4; omega
