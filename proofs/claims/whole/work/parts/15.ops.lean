/-! what each call does to the abstract state, and what it answers -/
def pN (x : Int32) : Nat := x.toInt.toNat
theorem pN_nI {p : Nat} (h : p < 2 ^ 31) : pN (nI p) = p := by rw [pN, nI_toInt h]; rfl
def updO (d : Nat → Option Nat) (p : Nat) (o : Option Nat) : Nat → Option Nat := fun i => if i = p then o else d i
theorem updO_s {d : Nat → Option Nat} {p : Nat} {o : Option Nat} : updO d p o p = o := if_pos rfl
theorem updO_n {d : Nat → Option Nat} {p i : Nat} {o : Option Nat} (h : ¬ i = p) : updO d p o i = d i := if_neg h
def updN (f : Nat → Nat) (p v : Nat) : Nat → Nat := fun i => if i = p then v else f i
theorem updN_s {f : Nat → Nat} {p v : Nat} : updN f p v p = v := if_pos rfl
theorem updN_n {f : Nat → Nat} {p v i : Nat} (h : ¬ i = p) : updN f p v i = f i := if_neg h
def updY (f : Nat → Bool) (p : Nat) (v : Bool) : Nat → Bool := fun i => if i = p then v else f i
theorem updY_s {f : Nat → Bool} {p : Nat} {v : Bool} : updY f p v p = v := if_pos rfl
theorem updY_n {f : Nat → Bool} {p i : Nat} {v : Bool} (h : ¬ i = p) : updY f p v i = f i := if_neg h
def inR (x : Int32) (a b : Int) : Bool := decide (a ≤ x.toInt ∧ x.toInt ≤ b)
theorem inR_nI {p : Nat} {a b : Int} (h : p < 2 ^ 31) : inR (nI p) a b = decide (a ≤ (p : Int) ∧ (p : Int) ≤ b) := by rw [inR, nI_toInt h]
theorem i32_lt {x y : Int32} : x < y ↔ x.toInt < y.toInt := Int32.lt_iff_toInt_lt
theorem i32_le {x y : Int32} : x ≤ y ↔ x.toInt ≤ y.toInt := Int32.le_iff_toInt_le
/-- from two compares to a natural -/
theorem rng_of {x : Int32} {a b : Nat} (ha : a < 2 ^ 31) (hb : b < 2 ^ 31) (h1 : ¬ x < nI a) (h2 : x ≤ nI b) : ∃ c : Nat, a ≤ c ∧ c ≤ b ∧ x = nI c := by
  have ha2 : ¬ x.toInt < (nI a).toInt := fun z => h1 (i32_lt.mpr z)
  have h2' := i32_le.mp h2
  rw [nI_toInt hb] at h2'
  rw [nI_toInt ha] at ha2
  have hnn : ¬ x < 0 := by
    intro z
    have := i32_lt.mp z
    have h00 : ((0 : Int32).toInt) = 0 := by decide
    rw [h00] at this
    omega
  obtain ⟨j, hj, rfl⟩ := nI_of hnn
  rw [nI_toInt hj] at ha2 h2'
  exact ⟨j, by omega, by omega, rfl⟩
theorem inR_lo {x : Int32} {a b : Nat} (ha : a < 2 ^ 31) (h : x < nI a) : inR x a b = false := by
  apply decide_eq_false
  have := i32_lt.mp h
  rw [nI_toInt ha] at this
  omega
theorem inR_hi {x : Int32} {a b : Nat} (hb : b < 2 ^ 31) (h : ¬ x ≤ nI b) : inR x a b = false := by
  apply decide_eq_false
  intro z
  apply h
  apply i32_le.mpr
  rw [nI_toInt hb]
  exact z.2
theorem inR_hi2 {x : Int32} {a b : Nat} (hb : b < 2 ^ 31) (h : nI b < x) : inR x a b = false := by
  apply decide_eq_false
  have := i32_lt.mp h
  rw [nI_toInt hb] at this
  omega
theorem inR_ok {c a b : Nat} (hb : b < 2 ^ 31) (h1 : a ≤ c) (h2 : c ≤ b) : inR (nI c) a b = true := by
  rw [inR_nI (by omega)]
  apply decide_eq_true
  omega
/-- letter -/
def ltR (pl : Nat) (x : Int32) : Int32 := if inR x 1 126 = true then (if pl < 24 then nI (pl + 1) else -104) else -102
def ltP (pl : Nat) (x : Int32) : Nat := if inR x 1 126 = true ∧ pl < 24 then pl + 1 else pl
def ltL (pl : Nat) (le : Nat → Nat) (x : Int32) : Nat → Nat := if inR x 1 126 = true ∧ pl < 24 then updN le pl (pN x) else le
theorem PgR_add {pl c : Nat} {lA : Nat → Int32} {le : Nat → Nat} (h : PgR pl lA le) (hpl : pl < 24) (hc : c ≤ 126) : PgR (pl + 1) (upd lA pl (nI c)) (updN le pl c) := by
  refine ⟨by omega, fun i hi => ?_⟩
  by_cases e : i = pl
  · subst e; rw [pk_us, updN_s]; exact ⟨rfl, hc⟩
  · rw [pk_un e, updN_n e]; exact h.2 i (by omega)
/-- take -/
def tkGo (n : Nat) (k h b : Nat → Nat) (d : Nat → Option Nat) (dr : Nat) (x y : Int32) : Bool := hasS n x && hasS n y && !(d (pN x)).isSome && !tk d (pN y) n && mayS k h b (pN x) (pN y) && decide (dr < 9999)
def tkD (n : Nat) (k h b : Nat → Nat) (d : Nat → Option Nat) (dr : Nat) (x y : Int32) : Nat → Option Nat := if tkGo n k h b d dr x y = true then updO d (pN x) (some (pN y)) else d
def tkN (n : Nat) (k h b : Nat → Nat) (d : Nat → Option Nat) (dr : Nat) (x y : Int32) : Nat := if tkGo n k h b d dr x y = true then dr + 1 else dr
def wyS (n : Nat) (k h b : Nat → Nat) (d : Nat → Option Nat) : Nat := onS (chS n k h b d) n (2 ^ n - 1)
def tkR (n : Nat) (k h b : Nat → Nat) (d : Nat → Option Nat) (dr : Nat) (x y : Int32) : Int32 := if (hasS n x && hasS n y) = true then (if ((d (pN x)).isSome || tk d (pN y) n || !mayS k h b (pN x) (pN y)) = true then -103 else if dr < 9999 then nI (wyS n k h b (updO d (pN x) (some (pN y)))) else -104) else -101
theorem tk_iff {d : Nat → Option Nat} {q : Nat} : ∀ {i : Nat}, tk d q i = true ↔ ∃ p, p < i ∧ d p = some q
  | 0 => ⟨fun h => (by cases h), fun ⟨p, h, _⟩ => absurd h (Nat.not_lt_zero _)⟩
  | i + 1 => by
    rw [tk, Bool.or_eq_true, decide_eq_true_iff, tk_iff (i := i)]
    constructor
    · rintro (⟨p, h1, h2⟩ | h)
      · exact ⟨p, by omega, h2⟩
      · exact ⟨i, by omega, h⟩
    · rintro ⟨p, h1, h2⟩
      by_cases e : p = i
      · exact Or.inr (e ▸ h2)
      · exact Or.inl ⟨p, by omega, h2⟩
theorem tk_no {d : Nat → Option Nat} {q n : Nat} (h : tk d q n = false) : ∀ p, p < n → ¬ d p = some q := by
  intro p hp e
  have := tk_iff.mpr ⟨p, hp, e⟩
  rw [h] at this
  cases this
theorem dw_tk {d : Nat → Option Nat} {q n : Nat} (h : fF (fun p => decide (d p = some q)) n 0 = none) : tk d q n = false := by
  cases e : tk d q n with
  | false => rfl
  | true =>
    obtain ⟨p, hp, hd⟩ := tk_iff.mp e
    have := fF_none h p (Nat.zero_le _) (by omega)
    rw [decide_eq_true hd] at this
    cases this
theorem dw_tk2 {d : Nat → Option Nat} {q n : Nat} (h : ¬ fF (fun p => decide (d p = some q)) n 0 = none) : tk d q n = true := by
  cases e : fF (fun p => decide (d p = some q)) n 0 with
  | none => exact absurd e h
  | some p =>
    have := fF_some e
    exact tk_iff.mpr ⟨p, by omega, of_decide_eq_true this.2.2.1⟩
theorem dw_lt {d : Nat → Option Nat} {q n : Nat} : ∀ p, fF (fun p => decide (d p = some q)) n 0 = some p → p < n := fun p e => by have := fF_some e; omega
theorem CoR_take {n p q : Nat} {kA hsA dA bA : Nat → Int32} {k h b : Nat → Nat} {d : Nat → Option Nat} (hC : CoR n kA hsA dA bA k h b d) (hp : p < n) (hq : q < n) (ht : tk d q n = false) : CoR n kA hsA (upd dA p (nI q)) bA k h b (updO d p (some q)) := by
  obtain ⟨h7, h1, h2, h3, h4, h5, h6⟩ := hC
  have hno := tk_no ht
  refine ⟨h7, h1, h2, h3, fun i hi => ?_, fun i hi r hr => ?_, fun i j r hi hj hri hrj => ?_⟩
  · by_cases e : i = p
    · subst e; rw [pk_us, updO_s]; rfl
    · rw [pk_un e, updO_n e]; exact h4 i hi
  · by_cases e : i = p
    · subst e; rw [updO_s] at hr; cases hr; exact hq
    · rw [updO_n e] at hr; exact h5 i hi r hr
  · by_cases e : i = p
    · by_cases e2 : j = p
      · omega
      · rw [e, updO_s] at hri
        rw [updO_n e2] at hrj
        cases hri
        exact absurd hrj (hno j hj)
    · by_cases e2 : j = p
      · rw [e2, updO_s] at hrj
        rw [updO_n e] at hri
        cases hrj
        exact absurd hri (hno i hi)
      · rw [updO_n e] at hri
        rw [updO_n e2] at hrj
        exact h6 i j r hi hj hri hrj
/-- back -/
def bkD (n : Nat) (d : Nat → Option Nat) (x : Int32) : Nat → Option Nat := if hasS n x = true then updO d (pN x) none else d
def bkR (n : Nat) (d : Nat → Option Nat) (x : Int32) : Int32 := if hasS n x = true then (if (d (pN x)).isSome = true then dI (d (pN x)) else -103) else -101
theorem CoR_back {n p : Nat} {kA hsA dA bA : Nat → Int32} {k h b : Nat → Nat} {d : Nat → Option Nat} (hC : CoR n kA hsA dA bA k h b d) (hp : p < n) : CoR n kA hsA (upd dA p (-1)) bA k h b (updO d p none) := by
  obtain ⟨h7, h1, h2, h3, h4, h5, h6⟩ := hC
  refine ⟨h7, h1, h2, h3, fun i hi => ?_, fun i hi r hr => ?_, fun i j r hi hj hri hrj => ?_⟩
  · by_cases e : i = p
    · subst e; rw [pk_us, updO_s]; rfl
    · rw [pk_un e, updO_n e]; exact h4 i hi
  · by_cases e : i = p
    · subst e; rw [updO_s] at hr; cases hr
    · rw [updO_n e] at hr; exact h5 i hi r hr
  · by_cases e : i = p
    · rw [e, updO_s] at hri; cases hri
    · by_cases e2 : j = p
      · rw [e2, updO_s] at hrj; cases hrj
      · rw [updO_n e] at hri
        rw [updO_n e2] at hrj
        exact h6 i j r hi hj hri hrj
theorem updO_same {d : Nat → Option Nat} {p : Nat} {o : Option Nat} (h : d p = o) : updO d p o = d := by
  funext i
  by_cases e : i = p
  · rw [e, updO_s, h]
  · rw [updO_n e]
/-- exchange -/
def exGo (n : Nat) (k h b : Nat → Nat) (d : Nat → Option Nat) (x y : Int32) : Bool := hasS n x && hasS n y && !decide (x = y) && (d (pN x)).isSome && (d (pN y)).isSome && mayS k h b (pN x) ((d (pN y)).getD 0) && mayS k h b (pN y) ((d (pN x)).getD 0)
def exD (n : Nat) (k h b : Nat → Nat) (d : Nat → Option Nat) (x y : Int32) : Nat → Option Nat := if exGo n k h b d x y = true then updO (updO d (pN x) (d (pN y))) (pN y) (d (pN x)) else d
def exR (n : Nat) (k h b : Nat → Nat) (d : Nat → Option Nat) (x y : Int32) : Int32 := if (hasS n x && hasS n y && !decide (x = y)) = true then (if exGo n k h b d x y = true then nI (rcS n (updO (updO d (pN x) (d (pN y))) (pN y) (d (pN x))) n).1 else -103) else -101
theorem CoR_exch {n p q v w : Nat} {kA hsA dA bA : Nat → Int32} {k h b : Nat → Nat} {d : Nat → Option Nat} (hC : CoR n kA hsA dA bA k h b d) (hp : p < n) (hq : q < n) (hpq : ¬ p = q) (hv : d p = some v) (hw : d q = some w) : CoR n kA hsA (upd (upd dA p (nI w)) q (nI v)) bA k h b (updO (updO d p (d q)) q (d p)) := by
  obtain ⟨h7, h1, h2, h3, h4, h5, h6⟩ := hC
  have hval : ∀ i, i < n → updO (updO d p (d q)) q (d p) i = if i = q then d p else if i = p then d q else d i := by
    intro i _
    by_cases e : i = q
    · rw [e, updO_s, if_pos rfl]
    · rw [updO_n e, if_neg e]
      by_cases e2 : i = p
      · rw [e2, updO_s, if_pos rfl]
      · rw [updO_n e2, if_neg e2]
  refine ⟨h7, h1, h2, h3, fun i hi => ?_, fun i hi r hr => ?_, fun i j r hi hj hri hrj => ?_⟩
  · rw [hval i hi]
    by_cases e : i = q
    · rw [e, pk_us, if_pos rfl, hv]; rfl
    · rw [pk_un e, if_neg e]
      by_cases e2 : i = p
      · rw [e2, pk_us, if_pos rfl, hw]; rfl
      · rw [pk_un e2, if_neg e2]; exact h4 i hi
  · rw [hval i hi] at hr
    split at hr
    · exact h5 p hp r hr
    · split at hr
      · exact h5 q hq r hr
      · exact h5 i hi r hr
  · have key : ∀ z, z < n → ∃ z', z' < n ∧ updO (updO d p (d q)) q (d p) z = d z' ∧ (z = if z' = p then q else if z' = q then p else z') := by
      intro z hz
      rw [hval z hz]
      by_cases e : z = q
      · exact ⟨p, hp, if_pos e, by rw [if_pos rfl]; exact e⟩
      · by_cases e2 : z = p
        · exact ⟨q, hq, by rw [if_neg e, if_pos e2], by rw [if_neg (fun y => hpq y.symm), if_pos rfl]; exact e2⟩
        · exact ⟨z, hz, by rw [if_neg e, if_neg e2], by rw [if_neg e2, if_neg e]⟩
    obtain ⟨i', hi', a1, a2⟩ := key i hi
    obtain ⟨j', hj', c1, c2⟩ := key j hj
    rw [a1] at hri
    rw [c1] at hrj
    have := h6 i' j' r hi' hj' hri hrj
    rw [a2, c2, this]
/-- all -/
def alR (n : Nat) (d : Nat → Option Nat) : Int32 := if n = 0 then -103 else nI (ct (fun p => (d p).isSome) n)
theorem CoR_all {n : Nat} {kA hsA dA dB bA : Nat → Int32} {k h b : Nat → Nat} {d : Nat → Option Nat} (hC : CoR n kA hsA dA bA k h b d) (hd : ∀ p, p < n → dB p = -1) : CoR n kA hsA dB bA k h b (fun _ => none) :=
  ⟨hC.1, hC.2.1, hC.2.2.1, hC.2.2.2.1, fun p hp => hd p hp, fun _ _ _ z => (by cases z), fun _ _ _ _ _ z => (by cases z)⟩
/-- bar -/
def brB (n : Nat) (b : Nat → Nat) (x y : Int32) : Nat → Nat := if (hasS n x && hasS n y) = true then updN b (pN x) (b (pN x) ^^^ 2 ^ pN y) else b
def brR (n : Nat) (k h b : Nat → Nat) (x y : Int32) : Int32 := if (hasS n x && hasS n y) = true then nI (pop (pb (mayS k h (updN b (pN x) (b (pN x) ^^^ 2 ^ pN y)) (pN x)) n)) else -101
theorem CoR_bar {n p v : Nat} {kA hsA dA bA : Nat → Int32} {k h b : Nat → Nat} {d : Nat → Option Nat} (hC : CoR n kA hsA dA bA k h b d) (hv : v < 2 ^ n) : CoR n kA hsA dA (upd bA p (nI v)) k h (updN b p v) d := by
  obtain ⟨h7, h1, h2, h3, h4, h5, h6⟩ := hC
  refine ⟨h7, h1, h2, fun i hi => ?_, h4, h5, h6⟩
  by_cases e : i = p
  · subst e; rw [pk_us, updN_s]; exact ⟨rfl, hv⟩
  · rw [pk_un e, updN_n e]; exact h3 i hi
/-- change -/
def cgGo (n : Nat) (x y z : Int32) : Bool := hasS n x && inR y 0 4 && inR z 0 9
def cgK (n : Nat) (k : Nat → Nat) (x y z : Int32) : Nat → Nat := if cgGo n x y z = true then updN k (pN x) (pN y) else k
def cgH (n : Nat) (h : Nat → Nat) (x y z : Int32) : Nat → Nat := if cgGo n x y z = true then updN h (pN x) (pN z) else h
def cgR (n : Nat) (k : Nat → Nat) (x y z : Int32) : Int32 := if hasS n x = true then (if (inR y 0 4 && inR z 0 9) = true then nI (k (pN x)) else -102) else -101
theorem CoR_chg {n p v w : Nat} {kA hsA dA bA : Nat → Int32} {k h b : Nat → Nat} {d : Nat → Option Nat} (hC : CoR n kA hsA dA bA k h b d) (hv : v ≤ 4) (hw : w ≤ 9) : CoR n (upd kA p (nI v)) (upd hsA p (nI w)) dA bA (updN k p v) (updN h p w) b d := by
  obtain ⟨h7, h1, h2, h3, h4, h5, h6⟩ := hC
  refine ⟨h7, fun i hi => ?_, fun i hi => ?_, h3, h4, h5, h6⟩
  · by_cases e : i = p
    · subst e; rw [pk_us, updN_s]; exact ⟨rfl, hv⟩
    · rw [pk_un e, updN_n e]; exact h1 i hi
  · by_cases e : i = p
    · subst e; rw [pk_us, updN_s]; exact ⟨rfl, hw⟩
    · rw [pk_un e, updN_n e]; exact h2 i hi
/-- see -/
def seGo (n sc : Nat) (x y : Int32) : Bool := hasS n x && hasS n y && decide (sc < 6)
def seC (n sc : Nat) (x y : Int32) : Nat := if seGo n sc x y = true then sc + 1 else sc
def seP (n sc : Nat) (sp : Nat → Nat) (x y : Int32) : Nat → Nat := if seGo n sc x y = true then updN sp sc (pN x) else sp
def seN (n sc : Nat) (sn : Nat → Nat) (x y : Int32) : Nat → Nat := if seGo n sc x y = true then updN sn sc (pN y) else sn
def seM (n sc : Nat) (sm : Nat → Bool) (x y : Int32) (t : Bool) : Nat → Bool := if seGo n sc x y = true then updY sm sc t else sm
def seR (n sc : Nat) (x y : Int32) : Int32 := if (hasS n x && hasS n y) = true then (if sc < 6 then nI (sc + 1) else -104) else -101
theorem SeR_add {n sc p q : Nat} {t : Bool} {pA nA mA : Nat → Int32} {sp sn : Nat → Nat} {sm : Nat → Bool} (h : SeR n sc pA nA mA sp sn sm) (hs : sc < 6) (hp : p < n) (hq : q < n) : SeR n (sc + 1) (upd pA sc (nI p)) (upd nA sc (nI q)) (upd mA sc (bI t)) (updN sp sc p) (updN sn sc q) (updY sm sc t) := by
  refine ⟨by omega, fun i hi => ?_⟩
  by_cases e : i = sc
  · subst e; rw [pk_us, pk_us, pk_us, updN_s, updN_s, updY_s]; exact ⟨rfl, hp, rfl, hq, rfl⟩
  · rw [pk_un e, pk_un e, pk_un e, updN_n e, updN_n e, updY_n e]; exact h.2 i (by omega)
theorem SeR_0 {n : Nat} {pA nA mA : Nat → Int32} {sp sn : Nat → Nat} {sm : Nat → Bool} : SeR n 0 pA nA mA sp sn sm := ⟨by omega, fun i hi => absurd hi (Nat.not_lt_zero _)⟩
/-- a company that was read -/
theorem CoR_read {pl : Nat} {le : Nat → Nat} {kA hsA dA bA : Nat → Int32} (hic : icS pl le = true) (h1 : ∀ p, p < (pl + 1) / 3 → kA p = nI (kpS le p)) (h2 : ∀ p, p < (pl + 1) / 3 → hsA p = nI (hpS le p)) (h3 : ∀ p, p < (pl + 1) / 3 → dA p = -1) (h4 : ∀ p, p < (pl + 1) / 3 → bA p = 0) : CoR ((pl + 1) / 3) kA hsA dA bA (kpS le) (hpS le) (fun _ => 0) (fun _ => none) := by
  obtain ⟨i1, i2, i3⟩ := icS_of hic
  have h20 := ic_20 i2 i3
  have hall := fwS_all i3
  refine ⟨by omega, fun p hp => ⟨h1 p hp, kp_lt⟩, fun p hp => ⟨h2 p hp, ?_⟩, fun p hp => ⟨h4 p hp, Nat.two_pow_pos _⟩, fun p hp => h3 p hp, fun _ _ _ z => (by cases z), fun _ _ _ _ _ z => (by cases z)⟩
  have := ft_h (hall (p * 3 + 1) (by omega)) (by omega)
  unfold hpS
  omega
/-- what is sure -/
def suS (n : Nat) (k h b : Nat → Nat) (d : Nat → Option Nat) (p : Nat) : Option Nat := if (d p).isSome = true then d p else fF (fun q => decide (0 < wyS n k h b d ∧ thS (chS n k h b d) n p q = wyS n k h b d)) n 0
def tpS (n : Nat) (k h b : Nat → Nat) (d : Nat → Option Nat) (sc : Nat) (sp sn : Nat → Nat) (sm : Nat → Bool) (p w : Nat) : Int32 :=
  if w = 0 then nI (k p) else if w = 1 then nI (h p) else if w = 2 then dI (d p) else if w = 3 then nI (pb (mayS k h b p) n) else if w = 4 then dI (fF (fun i => decide (d i = some p)) n 0) else if w = 5 then dI (suS n k h b d p) else if w = 6 then nI (soS h sc sp sn sm p) else if w = 7 then dI (asS n h (soS h sc sp sn sm p) p) else nI (pop (rgS n d p))
def scS (n : Nat) (k h b : Nat → Nat) (d : Nat → Option Nat) : Nat := ct (fun p => (suS n k h b d p).isSome) n
def taS (n : Nat) (k h b : Nat → Nat) (d : Nat → Option Nat) (dr sc pl cr hd w : Nat) : Int32 :=
  if w = 0 then nI n else if w = 1 then nI (ct (fun p => (d p).isSome) n) else if w = 2 then nI (smS (fun p => pop (b p)) n) else if w = 3 then nI (ct (amF k h b d) n) else if w = 4 then nI (scS n k h b d) else if w = 5 then nI dr else if w = 6 then nI sc else if w = 7 then nI pl else if w = 8 then nI cr else nI hd
def LKD (n on ev : Nat) (cA wA tA : Nat → Int32) (cs : Nat → Nat) : Prop := on = n ∧ ev = 2 ^ n - 1 ∧ OuR n (2 ^ n - 1) cA cs ∧ (∀ T, T ≤ 2 ^ n - 1 → wA T = nI (onS cs n T)) ∧ (∀ p q, p < n → q < n → tA (p * 7 + q) = nI (thS cs n p q)) ∧ (∀ p q, p < n → q < n → thS cs n p q ≤ onS cs n (2 ^ n - 1))
def mx (h : Int64) (x : Int32) : Int64 := 31 * h + x.toInt64
def foI (f : Nat → Int32) : Nat → Int64 → Int64
  | 0, h => h
  | i + 1, h => mx (foI f i h) (f i)
def foP (f : Nat → Nat → Int32) : Nat → Int64 → Int64
  | 0, h => h
  | i + 1, h => foI (f i) 9 (foP f i h)
def dg2 (n : Nat) (k h b : Nat → Nat) (d : Nat → Option Nat) (z : Int64) : Int64 := if n = 0 then z else mx (mx (mx (mx (mx z (nI (wyS n k h b d))) (nI (clS (chS n k h b d) n 1 0))) (nI (lkS (chS n k h b d) n (2 ^ n - 1)))) (nI (rcS n d n).1)) (nI (mxS (fun p => pop (rgS n d p)) n))
def dgS (pl : Nat) (le : Nat → Nat) (n : Nat) (k h b : Nat → Nat) (d : Nat → Option Nat) (dr sc : Nat) (sp sn : Nat → Nat) (sm : Nat → Bool) (cr hd : Nat) : Int64 :=
  foI (taS n k h b d dr sc pl cr hd) 10 (foI (fun i => nI (le i)) pl (dg2 n k h b d (foP (tpS n k h b d sc sp sn sm) n 1361)))
/-- drawn: so many times -/
def drF (cs : Nat → Nat) (d : Nat → Option Nat) (n : Nat) : Nat → Nat × Nat × Nat → Nat × Nat × Nat
  | 0, t => t
  | m + 1, t => drF cs d n m ((doF cs d n 0 (hatS n d) t.1 t.2.1).1, (doF cs d n 0 (hatS n d) t.1 t.2.1).2.1, t.2.2 + (if (doF cs d n 0 (hatS n d) t.1 t.2.1).2.2 = true then 1 else 0))
def dwR (n : Nat) (k h b : Nat → Nat) (d : Nat → Option Nat) (x y z : Int32) : Int32 := if (inR x 1 60 && !decide (y < 0) && inR z 0 2) = true then (if n = 0 then -103 else if pN z = 0 then nI (drF (chS n k h b d) d n (pN x) (pN y, 0, 0)).2.2 else if pN z = 1 then nI (drF (chS n k h b d) d n (pN x) (pN y, 0, 0)).2.1 else nI (drF (chS n k h b d) d n (pN x) (pN y, 0, 0)).1) else -102
def KpR (hi : Bool) (n n2 dr2 sc2 : Nat) (kA2 hsA2 dA2 bA2 pA2 nA2 mA2 : Nat → Int32) (kk2 hh2 bb2 : Nat → Nat) (dd2 : Nat → Option Nat) (dk ks : Nat) (sp2 sn2 : Nat → Nat) (sm2 : Nat → Bool) : Prop := hi = true → n2 = n ∧ dr2 = dk ∧ sc2 = ks ∧ CoR n kA2 hsA2 dA2 bA2 kk2 hh2 bb2 dd2 ∧ SeR n ks pA2 nA2 mA2 sp2 sn2 sm2
theorem CoR_copy {n : Nat} {kA hsA dA bA kB hB dB bB : Nat → Int32} {k h b : Nat → Nat} {d : Nat → Option Nat} (hC : CoR n kA hsA dA bA k h b d) (h1 : ∀ j, j < 7 → kB j = kA j) (h2 : ∀ j, j < 7 → hB j = hsA j) (h3 : ∀ j, j < 7 → dB j = dA j) (h4 : ∀ j, j < 7 → bB j = bA j) : CoR n kB hB dB bB k h b d := by
  obtain ⟨h7, c1, c2, c3, c4, c5, c6⟩ := hC
  exact ⟨h7, fun p hp => by rw [h1 p (by omega)]; exact c1 p hp, fun p hp => by rw [h2 p (by omega)]; exact c2 p hp, fun p hp => by rw [h4 p (by omega)]; exact c3 p hp, fun p hp => by rw [h3 p (by omega)]; exact c4 p hp, c5, c6⟩
theorem SeR_copy {n sc : Nat} {pA nA mA pB nB mB : Nat → Int32} {sp sn : Nat → Nat} {sm : Nat → Bool} (hC : SeR n sc pA nA mA sp sn sm) (h1 : ∀ j, j < 6 → pB j = pA j) (h2 : ∀ j, j < 6 → nB j = nA j) (h3 : ∀ j, j < 6 → mB j = mA j) : SeR n sc pB nB mB sp sn sm := by
  obtain ⟨h6, c1⟩ := hC
  exact ⟨h6, fun i hi => by rw [h1 i (by omega), h2 i (by omega), h3 i (by omega)]; exact c1 i hi⟩
theorem upd_bool {mA : Nat → Int32} {i : Nat} {t : Bool} (h : ∀ j, j < 6 → mA j = 0 ∨ mA j = 1) : ∀ j, j < 6 → upd mA i (bI t) j = 0 ∨ upd mA i (bI t) j = 1 := by
  intro j hj
  by_cases e : j = i
  · subst e; rw [pk_us]; cases t; exact Or.inl rfl; exact Or.inr rfl
  · rw [pk_un e]; exact h j hj
theorem inR_of {x : Int32} {b : Nat} (h : inR x 0 b = true) : ∃ c : Nat, c ≤ b ∧ x = nI c := by
  have h1 := of_decide_eq_true h
  have hnn : ¬ x < 0 := by
    intro z
    have := i32_lt.mp z
    have h00 : ((0 : Int32).toInt) = 0 := by decide
    rw [h00] at this
    omega
  obtain ⟨j, hj, rfl⟩ := nI_of hnn
  rw [nI_toInt hj] at h1
  exact ⟨j, by omega, rfl⟩
theorem rng0 {x : Int32} {b : Nat} (hb : b < 2 ^ 31) (h1 : ¬ x < 0) (h2 : x ≤ nI b) : ∃ c : Nat, c ≤ b ∧ x = nI c := by
  obtain ⟨c, -, h3, h4⟩ := rng_of (a := 0) (by decide) hb h1 h2
  exact ⟨c, h3, h4⟩
def asR (n : Nat) (k : Nat → Nat) (x y : Int32) : Int32 := if hasS n x = true then (if inR y 0 4 = true then (if decide (pN y = 0 ∨ pN y = k (pN x) ∨ pN y = 2 ∧ k (pN x) = 4) = true then x else -1) else -102) else -101
def wsR (n : Nat) (k h b : Nat → Nat) (d : Nat → Option Nat) (x : Int32) : Int32 := if inR x 0 1 = true then (if n = 0 then -103 else if pN x = 0 then nI (wyS n k h b d) else nI (clS (chS n k h b d) n 1 0)) else -102
def waR (n : Nat) (k h b : Nat → Nat) (d : Nat → Option Nat) (x y : Int32) : Int32 := if hasS n y = true then (if ¬ x < 0 ∧ pN x < wyS n k h b d then nI (nwS (chS n k h b d) n (pN x) (pN y)) else -101) else -101
def hnR (n : Nat) (k h b : Nat → Nat) (d : Nat → Option Nat) (hd : Nat) : Int32 := if n = 0 ∨ ¬ hd < 20 then -103 else if wyS n k h b d = 1 then -2 else dI (bwS (chS n k h b d) (thS (chS n k h b d) n) (wyS n k h b d) n)
def hnD (n hd : Nat) : Nat := if n = 0 ∨ ¬ hd < 20 then hd else hd + 1
def lkR (n : Nat) (k h b : Nat → Nat) (d : Nat → Option Nat) : Int32 := if n = 0 then -103 else nI (lkS (chS n k h b d) n (2 ^ n - 1))
def rgR (n : Nat) (d : Nat → Option Nat) (x : Int32) : Int32 := if inR x 0 1 = true then (if n = 0 then -103 else if pN x = 0 then nI (rcS n d n).1 else nI (mxS (fun p => pop (rgS n d p)) n)) else -102
def ctR (n : Nat) (k h b : Nat → Nat) (d : Nat → Option Nat) (dr sc pl cr hd : Nat) (x : Int32) : Int32 := if inR x 0 9 = true then taS n k h b d dr sc pl cr hd (pN x) else -102
def psR (n : Nat) (k h b : Nat → Nat) (d : Nat → Option Nat) (sc : Nat) (sp sn : Nat → Nat) (sm : Nat → Bool) (x y : Int32) : Int32 := if hasS n x = true then (if inR y 0 8 = true then tpS n k h b d sc sp sn sm (pN x) (pN y) else -102) else -101
theorem drF_s {cs : Nat → Nat} {d : Nat → Option Nat} {n t i s m c : Nat} (hi : i < t) : drF cs d n (t - i) (s, m, c) = drF cs d n (t - (i + 1)) ((doF cs d n 0 (hatS n d) s m).1, (doF cs d n 0 (hatS n d) s m).2.1, c + (if (doF cs d n 0 (hatS n d) s m).2.2 = true then 1 else 0)) := by
  obtain ⟨z, hz⟩ : ∃ z, t - i = z + 1 := ⟨t - i - 1, by omega⟩
  rw [hz, drF, show t - (i + 1) = z by omega]
theorem xor_lt {n a q : Nat} (ha : a < 2 ^ n) (hq : q < n) : a ^^^ 2 ^ q < 2 ^ n := Nat.xor_lt_two_pow ha (Nat.pow_lt_pow_right (by decide) hq)
theorem suS_lt {n : Nat} {k h b : Nat → Nat} {d : Nat → Option Nat} {p : Nat} (hdn : ∀ q, d p = some q → q < n) : ∀ q, suS n k h b d p = some q → q < n := by
  intro q e
  unfold suS at e
  split at e
  · exact hdn q e
  · have := fF_some e; omega
theorem ctT {f : Nat → Bool} {i a : Nat} (ha : a = ct f i) (h : f i = true) : a + 1 = ct f (i + 1) := by rw [ha]; exact ct_t h
theorem ctF {f : Nat → Bool} {i a : Nat} (ha : a = ct f i) (h : f i = false) : a = ct f (i + 1) := by rw [ha]; exact ct_f h
