/-! the outlook's tables as functions of the sets of names left -/
theorem cut_ok : ∀ S, S < 128 → ∀ q, q < 7 → S.testBit q = true → andn S (2 ^ q) < S ∧ pop (andn S (2 ^ q)) + 1 = pop S := by decide +kernel
theorem add_ok : ∀ S, S < 128 → ∀ q, q < 7 → S.testBit q = false → S ||| 2 ^ q = S + 2 ^ q ∧ pop (S + 2 ^ q) = pop S + 1 ∧ andn (S + 2 ^ q) (2 ^ q) = S ∧ (S + 2 ^ q).testBit q = true := by decide +kernel
theorem pop_n : ∀ n, n ≤ 7 → ∀ S, S < 2 ^ n → pop S ≤ n := by decide +kernel
theorem pop_pos : ∀ S, S < 128 → 0 < S → 1 ≤ pop S := by decide +kernel
theorem pop_full : ∀ n, n ≤ 7 → pop (2 ^ n - 1) = n := by decide +kernel
theorem pop_0 : pop 0 = 0 := by decide +kernel
theorem pop_one : ∀ q, q < 7 → pop (2 ^ q) = 1 := by decide +kernel
theorem and_tb {a b q : Nat} (h : (a &&& b).testBit q = true) : a.testBit q = true ∧ b.testBit q = true := by
  rw [Nat.testBit_and] at h
  exact (Bool.and_eq_true_iff.mp h)
theorem upd_lt {f : Nat → Int32} {F : Nat → Int32} {i : Nat} {v : Int32} (h : ∀ p, p < i → f p = F p) (hv : v = F i) : ∀ p, p < i + 1 → upd f i v p = F p := by
  intro p hp
  by_cases e : p = i
  · subst e; rw [pk_us, hv]
  · rw [pk_un e]; exact h p (by omega)
theorem ev_le {n : Nat} (h : n ≤ 7) : 2 ^ n ≤ 128 := Nat.pow_le_pow_right (n := 2) (j := 7) (by decide) h
def wW (cs F : Nat → Nat) (p q S : Nat) : Nat := if (cs p &&& S).testBit q = true then F (andn S (2 ^ q)) else 0
def onF (cs : Nat → Nat) (n : Nat) : Nat → Nat → Nat
  | 0, _ => 1
  | r + 1, S => smS (fun q => wW cs (onF cs n r) (n - (r + 1)) q S) n
def onS (cs : Nat → Nat) (n S : Nat) : Nat := onF cs n (pop S) S
theorem onS_0 (cs : Nat → Nat) (n : Nat) : onS cs n 0 = 1 := by rw [onS, pop_0, onF]
theorem smS_cong {f g : Nat → Nat} : ∀ {n : Nat}, (∀ i, i < n → f i = g i) → smS f n = smS g n
  | 0, _ => rfl
  | n + 1, h => by rw [smS, smS, smS_cong (fun i hi => h i (by omega)), h n (by omega)]
theorem wW_cong {cs F G : Nat → Nat} {p q S : Nat} (hS : S < 128) (hq : q < 7) (h : ∀ T, T < S → pop T + 1 = pop S → F T = G T) : wW cs F p q S = wW cs G p q S := by
  unfold wW
  by_cases e : (cs p &&& S).testBit q = true
  · rw [if_pos e, if_pos e]
    have hc := cut_ok S hS q hq (and_tb e).2
    exact h _ hc.1 hc.2
  · rw [if_neg e, if_neg e]
theorem onS_eq {cs : Nat → Nat} {n S : Nat} (hn : n ≤ 7) (hS : S < 128) (h0 : 0 < S) : onS cs n S = smS (fun q => wW cs (onS cs n) (n - pop S) q S) n := by
  have hp := pop_pos S hS h0
  obtain ⟨r, hr⟩ : ∃ r, pop S = r + 1 := ⟨pop S - 1, by omega⟩
  rw [onS, hr, onF]
  apply smS_cong
  intro q hq
  apply wW_cong hS (by omega)
  intro T _ hT
  rw [onS, show pop T = r by omega]
theorem smS_le {f : Nat → Nat} {b : Nat} : ∀ {n : Nat}, (∀ i, i < n → f i ≤ b) → smS f n ≤ n * b
  | 0, _ => Nat.zero_le _
  | n + 1, h => by
    have h1 := smS_le (n := n) (fun i hi => h i (by omega))
    have h2 := h n (by omega)
    rw [smS, Nat.succ_mul]
    omega
theorem onF_le (cs : Nat → Nat) {n : Nat} (hn : n ≤ 7) : ∀ r S, onF cs n r S ≤ 7 ^ r
  | 0, _ => Nat.le_refl _
  | r + 1, S => by
    rw [onF]
    have h1 : smS (fun q => wW cs (onF cs n r) (n - (r + 1)) q S) n ≤ n * 7 ^ r := by
      apply smS_le
      intro q _
      unfold wW
      split
      · exact onF_le cs hn r _
      · exact Nat.zero_le _
    calc _ ≤ n * 7 ^ r := h1
      _ ≤ 7 * 7 ^ r := Nat.mul_le_mul_right _ hn
      _ = 7 ^ (r + 1) := by rw [Nat.pow_succ, Nat.mul_comm]
theorem onS_le (cs : Nat → Nat) {n : Nat} (hn : n ≤ 7) (S : Nat) : onS cs n S ≤ 823543 := Nat.le_trans (onF_le cs hn _ S) (Nat.pow_le_pow_right (n := 7) (j := 7) (by decide) (pop_le S))
theorem wW_le {cs F : Nat → Nat} {b : Nat} (h : ∀ T, F T ≤ b) (p q S : Nat) : wW cs F p q S ≤ b := by
  unfold wW
  split
  · exact h _
  · exact Nat.zero_le _
def OuR (on ev : Nat) (cA : Nat → Int32) (cs : Nat → Nat) : Prop := on ≤ 7 ∧ ev + 1 = 2 ^ on ∧ ev < 128 ∧ ∀ p, p < on → cA p = nI (cs p) ∧ cs p ≤ ev
def chS (n : Nat) (k h b : Nat → Nat) (d : Nat → Option Nat) (p : Nat) : Nat := match d p with
  | some q => 2 ^ q
  | none => hatS n d &&& pb (mayS k h b p) n
theorem chS_s {n : Nat} {k h b : Nat → Nat} {d : Nat → Option Nat} {p q : Nat} (e : d p = some q) : chS n k h b d p = 2 ^ q := by rw [chS, e]
theorem chS_n {n : Nat} {k h b : Nat → Nat} {d : Nat → Option Nat} {p : Nat} (e : (d p).isSome = false) : chS n k h b d p = hatS n d &&& pb (mayS k h b p) n := by
  have : d p = none := by
    cases h : d p with
    | none => rfl
    | some q => rw [h] at e; cases e
  rw [chS, this]
theorem chS_lt {n : Nat} {k h b : Nat → Nat} {d : Nat → Option Nat} {p : Nat} (hdn : ∀ q, d p = some q → q < n) : chS n k h b d p < 2 ^ n := by
  unfold chS
  cases e : d p with
  | none => exact Nat.lt_of_le_of_lt Nat.and_le_left (pb_lt _ n)
  | some q => exact Nat.pow_lt_pow_right (by decide) (hdn q e)
/-- how many ways come to a set: what was left before had one name more -/
def rF (cs : Nat → Nat) (n : Nat) : Nat → Nat → Nat
  | 0, _ => 1
  | j + 1, T => smS (fun q => if T.testBit q = false ∧ (cs j).testBit q = true then rF cs n j (T + 2 ^ q) else 0) n
def rS (cs : Nat → Nat) (n T : Nat) : Nat := rF cs n (n - pop T) T
/-- the contributions to T of the sets above L, and of L's first i names -/
def rP (cs : Nat → Nat) (n L i T : Nat) : Nat := if T + 1 = 2 ^ n then 1 else smS (fun q => if T.testBit q = false ∧ (cs (n - (pop T + 1))).testBit q = true ∧ (L < T + 2 ^ q ∨ T + 2 ^ q = L ∧ q < i) then rS cs n (T + 2 ^ q) else 0) n
/-- the ways in which person p has name q, out of the sets below L and of L's first i names -/
def tP (cs : Nat → Nat) (n L i p q : Nat) : Nat := smS (fun S => if n - pop S = p ∧ 0 < S then rS cs n S * wW cs (onS cs n) p q S else 0) L + (if n - pop L = p ∧ q < i then rS cs n L * wW cs (onS cs n) p q L else 0)
def thS (cs : Nat → Nat) (n p q : Nat) : Nat := smS (fun S => if n - pop S = p ∧ 0 < S then rS cs n S * wW cs (onS cs n) p q S else 0) (2 ^ n)
