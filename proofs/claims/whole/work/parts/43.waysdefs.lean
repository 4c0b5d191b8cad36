/-! the reference's rows of names: the next row by numbers, over ranks; all rows, by numbers -/
def flt (P : Nat → Bool) (k : Nat) : List Nat := (List.range k).filter P
theorem flt_s (P : Nat → Bool) (k : Nat) : flt P (k + 1) = flt P k ++ (if P k = true then [k] else []) := by
  unfold flt
  rw [List.range_succ, List.filter_append]
  congr 1
  cases h : P k with
  | true => rw [List.filter_cons_of_pos h]; rfl
  | false => rw [List.filter_cons_of_neg (by rw [h]; decide)]; rfl
theorem flt_len (P : Nat → Bool) (k : Nat) : (flt P k).length ≤ k := by
  have := List.length_filter_le P (List.range k)
  rw [List.length_range] at this
  exact this
def Lis (l : List Nat) (f : Nat → Int32) : Prop := ∀ i, i < l.length → f i = nI (l.getD i 0)
theorem Lis_0 {f : Nat → Int32} : Lis [] f := fun i hi => absurd hi (Nat.not_lt_zero _)
theorem Lis_add {l : List Nat} {f : Nat → Int32} {k : Nat} (h : Lis l f) : Lis (l ++ [k]) (upd f l.length (nI k)) := by
  intro i hi
  rw [List.length_append] at hi
  by_cases e : i = l.length
  · subst e
    rw [pk_us, List.getD_eq_getElem?_getD, List.getElem?_append_right (Nat.le_refl _), Nat.sub_self]
    rfl
  · have hl : i < l.length := by change i < l.length + 1 at hi; omega
    rw [pk_un e, h i hl, List.getD_eq_getElem?_getD, List.getD_eq_getElem?_getD, List.getElem?_append_left hl]
def LV (n : Nat) (d : Nat → Option Nat) : List Nat := flt (fun p => (d p).isNone) n
def RV (n : Nat) (d : Nat → Option Nat) : List Nat := flt (fun q => (hatS n d).testBit q) n
/-- from the end: the first place whose number is not above the next one's -/
def fA (f : Nat → Nat) : Nat → Option Nat
  | 0 => none
  | k + 1 => if f k ≤ f (k + 1) then some k else fA f k
/-- from the end: the first place whose number is not below x -/
def fB (f : Nat → Nat) (x : Nat) : Nat → Nat
  | 0 => 0
  | k + 1 => if f (k + 1) < x then fB f x k else k + 1
def swp (f : Nat → Nat) (a b : Nat) : Nat → Nat := fun i => if i = b then f a else if i = a then f b else f i
def rvF : Nat → (Nat → Nat) → Nat → Nat → (Nat → Nat)
  | 0, f, _, _ => f
  | m + 1, f, lo, hi => if lo < hi then rvF m (swp f lo hi) (lo + 1) (hi - 1) else f
def stF (m : Nat) (f : Nat → Nat) : Option (Nat → Nat) := match fA f (m - 1) with
  | none => none
  | some a => some (rvF 7 (swp f a (fB f (f a) (m - 1))) (a + 1) (m - 1))
/-- all rows of the numbers in a list, by numbers -/
def lexP : Nat → List Nat → List (List Nat)
  | 0, _ => [[]]
  | m + 1, l => l.flatMap (fun q => (lexP m (l.erase q)).map (fun w => q :: w))
def PM (m : Nat) : List (List Nat) := lexP m (List.range m)
def chkS (m : Nat) : List (List Nat) → Bool
  | [] => false
  | [u] => (stF m (fun j => u.getD j 0)).isNone
  | u :: v :: r => (match stF m (fun j => u.getD j 0) with
    | none => false
    | some g => (List.range m).map g == v) && chkS m (v :: r)
theorem fA_t {f : Nat → Nat} {k : Nat} (h : f k ≤ f (k + 1)) : fA f (k + 1) = some k := by rw [fA, if_pos h]
theorem fA_f {f : Nat → Nat} {k : Nat} (h : ¬ f k ≤ f (k + 1)) : fA f (k + 1) = fA f k := by rw [fA, if_neg h]
theorem fB_t {f : Nat → Nat} {x k : Nat} (hk : 1 ≤ k) (h : f k < x) : fB f x k = fB f x (k - 1) := by
  obtain ⟨c, rfl⟩ : ∃ c, k = c + 1 := ⟨k - 1, by omega⟩
  rw [fB, if_pos h]
  rfl
theorem fB_f {f : Nat → Nat} {x k : Nat} (hk : 1 ≤ k) (h : ¬ f k < x) : fB f x k = k := by
  obtain ⟨c, rfl⟩ : ∃ c, k = c + 1 := ⟨k - 1, by omega⟩
  rw [fB, if_neg h]
theorem rvF_t {f : Nat → Nat} {m lo hi : Nat} (hm : 1 ≤ m) (h : lo < hi) : rvF m f lo hi = rvF (m - 1) (swp f lo hi) (lo + 1) (hi - 1) := by
  obtain ⟨c, rfl⟩ : ∃ c, m = c + 1 := ⟨m - 1, by omega⟩
  rw [rvF, if_pos h]
  rfl
theorem rvF_f {f : Nat → Nat} {m lo hi : Nat} (h : ¬ lo < hi) : rvF m f lo hi = f := by
  cases m with
  | zero => rfl
  | succ m => rw [rvF, if_neg h]
theorem swp_row {g : Nat → Int32} {R f : Nat → Nat} {m a b : Nat} (hg : ∀ i, i < m → g i = nI (R (f i))) (ha : a < m) (hb : b < m) : ∀ i, i < m → upd (upd g a (g b)) b (g a) i = nI (R (swp f a b i)) := by
  intro i hi
  unfold swp
  by_cases e : i = b
  · rw [e, pk_us, if_pos rfl]; exact hg a ha
  · rw [pk_un e, if_neg e]
    by_cases e2 : i = a
    · rw [e2, pk_us, if_pos rfl]; exact hg b hb
    · rw [pk_un e2, if_neg e2]; exact hg i hi
theorem swp_lt {f : Nat → Nat} {m a b : Nat} (hf : ∀ i, i < m → f i < m) (ha : a < m) (hb : b < m) : ∀ i, i < m → swp f a b i < m := by
  intro i hi
  unfold swp
  split
  · exact hf a ha
  · split
    · exact hf b hb
    · exact hf i hi
theorem i32_neg {x : Int32} {a : Nat} (h : x.toInt = (a : Int) - 1) (hx : ¬ x < 0) : 1 ≤ a := by
  have h00 : ((0 : Int32).toInt) = 0 := by decide
  rcases Nat.eq_zero_or_pos a with z | z
  · exfalso
    apply hx
    apply i32_lt.mpr
    rw [h, h00, z]
    decide
  · exact z
theorem i32_nI {x : Int32} {a : Nat} (h : x.toInt = (a : Int)) (ha : a < 2 ^ 31) : x = nI a := by
  apply Int32.toInt_inj.mp
  rw [h, nI_toInt ha]
theorem st_av {lm : Nat} (h : lm ≤ 7) : (nI lm - nI 2).toInt = (lm : Int) - 2 := pk_sub_toInt (by omega) (by omega)
theorem st_dec {a : Nat} (h : a < 2 ^ 30) {x : Int32} (e : x = nI a + Int32.ofInt (-1)) : x.toInt = (a : Int) - 1 := by
  rw [e, show nI a + Int32.ofInt (-1) = nI a - nI 1 by rw [Int32.sub_eq_add_neg]; rfl]
  exact pk_sub_toInt h (by decide)
theorem flt_n {f : Nat → Bool} {k : Nat} (h : f k = false) : flt f (k + 1) = flt f k := by rw [flt_s, h, if_neg (by decide), List.append_nil]
theorem flt_y {f : Nat → Bool} {k : Nat} (h : f k = true) : flt f (k + 1) = flt f k ++ [k] := by rw [flt_s, if_pos h]
