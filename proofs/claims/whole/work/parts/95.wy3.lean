/-! one round of all: rows of names against orders of persons -/
def okF (cs : Nat → Nat) (n : Nat) : Nat → List Nat → Bool
  | 0, _ => true
  | r + 1, w => (cs (n - (r + 1))).testBit (w.getD 0 0) && okF cs n r w.tail
theorem aS_flt (cs : Nat → Nat) (n : Nat) : ∀ r S, aS cs n r S = (lexP r (flt S.testBit n)).filter (okF cs n r)
  | 0, S => rfl
  | r + 1, S => by
    rw [aS, lexP, List.filter_flatMap]
    have hstep : ∀ q, q ∈ flt S.testBit n → ((lexP r ((flt S.testBit n).erase q)).map (fun w => q :: w)).filter (okF cs n (r + 1)) = (if (cs (n - (r + 1))).testBit q = true then (aS cs n r (andn S (2 ^ q))).map (fun w => q :: w) else []) := by
      intro q hq
      unfold flt at hq
      obtain ⟨hq1, hq2⟩ := List.mem_filter.mp hq
      rw [nm_erase hq2, List.filter_map]
      have hv : ∀ w, (okF cs n (r + 1) ∘ fun w => q :: w) w = ((cs (n - (r + 1))).testBit q && okF cs n r w) := fun w => rfl
      rw [List.filter_congr (fun w _ => hv w)]
      cases e : (cs (n - (r + 1))).testBit q with
      | false =>
        rw [if_neg (by decide)]
        have : (lexP r (flt (andn S (2 ^ q)).testBit n)).filter (fun w => false && okF cs n r w) = [] := List.filter_eq_nil_iff.mpr (fun w _ => by simp)
        rw [this]
        rfl
      | true =>
        rw [if_pos rfl, aS_flt cs n r]
        have : (lexP r (flt (andn S (2 ^ q)).testBit n)).filter (fun w => true && okF cs n r w) = (lexP r (flt (andn S (2 ^ q)).testBit n)).filter (okF cs n r) := List.filter_congr (fun w _ => by rw [Bool.true_and])
        rw [this]
    rw [fm_congr hstep]
    show _ = ((List.range n).filter S.testBit).flatMap _
    rw [fm_filter]
    apply fm_congr
    intro q _
    rw [Nat.testBit_and]
    cases S.testBit q <;> cases (cs (n - (r + 1))).testBit q <;> rfl
theorem okF_all (cs : Nat → Nat) (n : Nat) : ∀ r w, r ≤ n → okF cs n r w = aL (fun p => (cs p).testBit (w.getD (p - (n - r)) 0)) r (n - r)
  | 0, w, _ => rfl
  | r + 1, w, hr => by
    rw [okF, aL, Nat.sub_self, okF_all cs n r w.tail (by omega), show n - (r + 1) + 1 = n - r by omega]
    congr 1
    apply aL_cong
    intro i h1 h2
    rw [show i - (n - (r + 1)) = (i - (n - r)) + 1 by omega]
    cases w with
    | nil => rfl
    | cons a w => rfl
theorem aL_iff {f : Nat → Bool} : ∀ {m j : Nat}, aL f m j = true ↔ ∀ i, j ≤ i → i < j + m → f i = true
  | 0, j => ⟨fun _ i h1 h2 => absurd h2 (by omega), fun _ => rfl⟩
  | m + 1, j => by
    rw [aL, Bool.and_eq_true, aL_iff]
    constructor
    · rintro ⟨h1, h2⟩ i h3 h4
      by_cases e : i = j
      · rw [e]; exact h1
      · exact h2 i (by omega) (by omega)
    · intro h
      exact ⟨h j (Nat.le_refl _) (by omega), fun i h1 h2 => h i (by omega) (by omega)⟩
def cyF (cs : Nat → Nat) : Nat → List Nat → Bool
  | l, [] => (cs l).testBit 0
  | l, t :: w => (cs l).testBit t && cyF cs t w
theorem sum_flt (P : Nat → Bool) (g : Nat → Nat) : ∀ n, ((flt P n).map g).sum = smS (fun t => if P t = true then g t else 0) n
  | 0 => rfl
  | n + 1 => by
    rw [flt_s, List.map_append, List.sum_append, sum_flt P g n, smS]
    congr 1
    cases P n <;> simp
theorem np_erase {n P t : Nat} (ht : P.testBit t = false) : (flt (fun x => !P.testBit x) n).erase t = flt (fun x => !(P ||| 2 ^ t).testBit x) n := by
  unfold flt
  rw [List.Nodup.erase_eq_filter (List.Pairwise.filter _ (range_nd n)), List.filter_filter]
  apply List.filter_congr
  intro x _
  rw [Nat.testBit_or, Nat.testBit_two_pow]
  by_cases e : x = t
  · subst e; simp
  · have e2 : ¬ t = x := fun z => e z.symm
    simp [e, e2]
theorem clF_cnt (cs : Nat → Nat) (n : Nat) : ∀ r P l, clF cs n r P l = (lexP r (flt (fun x => !P.testBit x) n)).countP (cyF cs l)
  | 0, P, l => by
    rw [clF, lexP]
    show _ = List.countP (cyF cs l) [[]]
    rw [List.countP_cons, List.countP_nil, Nat.zero_add]
    show _ = if (cs l).testBit 0 = true then 1 else 0
    rw [Nat.testBit_zero]
    by_cases e : cs l % 2 = 1
    · rw [e]; rfl
    · rw [if_neg (by simpa using e)]; omega
  | r + 1, P, l => by
    rw [clF, lexP, List.countP_flatMap, sum_flt]
    apply smS_cong
    intro t _
    show _ = if (!P.testBit t) = true then List.countP (cyF cs l) ((lexP r ((flt (fun x => !P.testBit x) n).erase t)).map (fun w => t :: w)) else 0
    rw [tb_andn]
    cases e : P.testBit t with
    | true => simp
    | false =>
      rw [np_erase e, List.countP_map, Bool.not_false, Bool.and_true, if_pos rfl]
      have hv : ∀ w, (cyF cs l ∘ fun w => t :: w) w = ((cs l).testBit t && cyF cs t w) := fun w => rfl
      rw [List.countP_congr (fun w _ => by rw [hv w])]
      cases z : (cs l).testBit t with
      | true =>
        rw [if_pos rfl, clF_cnt cs n r]
        exact List.countP_congr (fun w _ => by simp)
      | false =>
        rw [if_neg (by decide)]
        symm
        apply List.countP_eq_zero.mpr
        intro w _
        simp
def rgU (n : Nat) (u : List Nat) : Bool := rgB n (fun p => u.getD p 0)
def itU (u : List Nat) : Nat → Nat → List Nat
  | 0, _ => []
  | m + 1, a => u.getD a 0 :: itU u m (u.getD a 0)
def laU (u : List Nat) : Nat → Nat → Nat
  | 0, a => a
  | m + 1, a => laU u m (u.getD a 0)
theorem cyF_it {cs : Nat → Nat} {u : List Nat} : ∀ m a, u.getD (laU u m a) 0 = 0 → (cyF cs a (itU u m a) = true ↔ ∀ x, x ∈ a :: itU u m a → (cs x).testBit (u.getD x 0) = true)
  | 0, a, h => by
    rw [itU, cyF]
    change u.getD a 0 = 0 at h
    constructor
    · intro z x hx
      rw [List.mem_singleton.mp hx, h]
      exact z
    · intro z
      have := z a List.mem_cons_self
      rw [h] at this
      exact this
  | m + 1, a, h => by
    rw [itU, cyF, Bool.and_eq_true, cyF_it m (u.getD a 0) h]
    constructor
    · rintro ⟨h1, h2⟩ x hx
      rcases List.mem_cons.mp hx with z | z
      · rw [z]; exact h1
      · exact h2 x z
    · intro z
      exact ⟨z a List.mem_cons_self, fun x hx => z x (List.mem_cons_of_mem _ hx)⟩
def chU (n : Nat) (u : List Nat) : Bool := (List.range n).all (fun p => (0 :: itU u (n - 1) 0).contains p) && (0 :: itU u (n - 1) 0).all (fun x => decide (x < n)) && u.getD (laU u (n - 1) 0) 0 == 0
theorem chU_cy {cs : Nat → Nat} {n : Nat} {u : List Nat} (h : chU n u = true) : aL (fun p => (cs p).testBit (u.getD p 0)) n 0 = cyF cs 0 (itU u (n - 1) 0) := by
  unfold chU at h
  obtain ⟨h12, h3⟩ := Bool.and_eq_true_iff.mp h
  obtain ⟨h1, h2⟩ := Bool.and_eq_true_iff.mp h12
  apply bool_eq
  rw [aL_iff, cyF_it _ _ (eq_of_beq h3)]
  constructor
  · intro z x hx
    exact z x (Nat.zero_le _) (by have := of_decide_eq_true (List.all_eq_true.mp h2 x hx); omega)
  · intro z i _ hi
    have := List.all_eq_true.mp h1 i (List.mem_range.mpr (by omega))
    exact z i (List.contains_iff_mem.mp this)
theorem rgo_cong {n : Nat} {d d' : Nat → Option Nat} {p : Nat} (h : ∀ a, a < n → d a = d' a) (hl : ∀ a, a < n → ∀ t, d a = some t → t < n) : ∀ f a ac, a < n → rgo d p f a ac = rgo d' p f a ac
  | 0, _, _, _ => rfl
  | f + 1, a, ac, ha => by
    rw [rgo, rgo, ← h a ha]
    cases e : d a with
    | none => rfl
    | some t =>
      show (if t = p then _ else _) = (if t = p then _ else _)
      rw [rgo_cong h hl f t _ (hl a ha t e)]
