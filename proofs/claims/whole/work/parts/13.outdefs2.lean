/-! lemmas of the tables: reached, through, chances, closings, the name in a way -/
theorem dec1 {a : Nat} (h : 1 ≤ a) : nI a + Int32.ofInt (-1) = nI (a - 1) := by
  obtain ⟨c, rfl⟩ : ∃ c, a = c + 1 := ⟨a - 1, by omega⟩
  exact pk_m1 c
theorem dec2 {a : Nat} (h : 2 ≤ a) : nI a + Int32.ofInt (-2) = nI (a - 2) := by
  obtain ⟨c, rfl⟩ : ∃ c, a = c + 2 := ⟨a - 2, by omega⟩
  rw [← nI_add c 2, Int32.add_assoc, show nI 2 + Int32.ofInt (-2) = 0 by decide, Int32.add_zero]
  rfl
theorem add_lt {n T q : Nat} (hn : n ≤ 7) (hT : T < 2 ^ n) (hq : q < n) (h : T.testBit q = false) : T + 2 ^ q < 2 ^ n := by
  have h7 := ev_le hn
  rw [← (add_ok T (by omega) q (by omega) h).1]
  exact Nat.or_lt_two_pow hT (Nat.pow_lt_pow_right (by decide) hq)
theorem pop_nf : ∀ n, n ≤ 7 → ∀ T, T < 2 ^ n → ¬ T + 1 = 2 ^ n → pop T < n := by decide +kernel
theorem rP_all {cs : Nat → Nat} {n L i T : Nat} (hn : n ≤ 7) (hT : T < 2 ^ n) (h : ∀ q, q < n → T.testBit q = false → (L < T + 2 ^ q ∨ T + 2 ^ q = L ∧ q < i)) : rP cs n L i T = rS cs n T := by
  have h7 := ev_le hn
  unfold rP
  by_cases e : T + 1 = 2 ^ n
  · rw [if_pos e, rS, show T = 2 ^ n - 1 by omega, pop_full n hn, Nat.sub_self, rF]
  · rw [if_neg e, rS]
    have hp := pop_nf n hn T hT e
    rw [show n - pop T = (n - (pop T + 1)) + 1 by omega, rF]
    apply smS_cong
    intro q hq
    by_cases b : T.testBit q = false
    · have ha := add_ok T (by omega) q (by omega) b
      have hc : (T.testBit q = false ∧ (cs (n - (pop T + 1))).testBit q = true ∧ (L < T + 2 ^ q ∨ T + 2 ^ q = L ∧ q < i)) ↔ (T.testBit q = false ∧ (cs (n - (pop T + 1))).testBit q = true) := ⟨fun z => ⟨z.1, z.2.1⟩, fun z => ⟨z.1, z.2, h q hq b⟩⟩
      rw [rS, ha.2.1]
      by_cases z : (T.testBit q = false ∧ (cs (n - (pop T + 1))).testBit q = true)
      · rw [if_pos z, if_pos (hc.mpr z)]
      · rw [if_neg z, if_neg (fun y => z (hc.mp y))]
    · rw [if_neg (fun z => b z.1), if_neg (fun z => b z.1)]
theorem rP_0 {cs : Nat → Nat} {n T : Nat} (hn : n ≤ 7) (hT : T < 2 ^ n) : rP cs n 0 0 T = rS cs n T := rP_all hn hT (fun q _ _ => Or.inl (by have := Nat.two_pow_pos q; omega))
theorem rP_self {cs : Nat → Nat} {n i L : Nat} (hn : n ≤ 7) (hT : L < 2 ^ n) : rP cs n L i L = rS cs n L := rP_all hn hT (fun q _ _ => Or.inl (by have := Nat.two_pow_pos q; omega))
theorem smS_zero {f : Nat → Nat} : ∀ {n : Nat}, (∀ i, i < n → f i = 0) → smS f n = 0
  | 0, _ => rfl
  | n + 1, h => by rw [smS, smS_zero (fun i hi => h i (by omega)), h n (by omega)]
theorem rP_init {cs : Nat → Nat} {n T : Nat} (hn : n ≤ 7) (hT : T < 2 ^ n) : rP cs n (2 ^ n - 1) 0 T = if T + 1 = 2 ^ n then 1 else 0 := by
  unfold rP
  by_cases e : T + 1 = 2 ^ n
  · rw [if_pos e, if_pos e]
  · rw [if_neg e, if_neg e]
    apply smS_zero
    intro q hq
    apply if_neg
    intro z
    have := add_lt hn hT hq z.1
    omega
theorem rP_congr {cs : Nat → Nat} {n L i L' i' T : Nat} (h : ∀ q, q < n → T.testBit q = false → (cs (n - (pop T + 1))).testBit q = true → ((L < T + 2 ^ q ∨ T + 2 ^ q = L ∧ q < i) ↔ (L' < T + 2 ^ q ∨ T + 2 ^ q = L' ∧ q < i'))) : rP cs n L i T = rP cs n L' i' T := by
  unfold rP
  by_cases e : T + 1 = 2 ^ n
  · rw [if_pos e, if_pos e]
  · rw [if_neg e, if_neg e]
    apply smS_cong
    intro q hq
    by_cases z : T.testBit q = false ∧ (cs (n - (pop T + 1))).testBit q = true
    · have hz := h q hq z.1 z.2
      by_cases y : (L < T + 2 ^ q ∨ T + 2 ^ q = L ∧ q < i)
      · rw [if_pos ⟨z.1, z.2, y⟩, if_pos ⟨z.1, z.2, hz.mp y⟩]
      · rw [if_neg (fun w => y w.2.2), if_neg (fun w => y (hz.mpr w.2.2))]
    · rw [if_neg (fun w => z ⟨w.1, w.2.1⟩), if_neg (fun w => z ⟨w.1, w.2.1⟩)]
theorem rP_no {cs : Nat → Nat} {n L i T : Nat} (hn : n ≤ 7) (hT : T < 2 ^ n) (hi : i < n) (h : (cs (n - pop L) &&& L).testBit i = false) : rP cs n L i T = rP cs n L (i + 1) T := by
  have h7 := ev_le hn
  apply rP_congr
  intro q hq b c
  have ha := add_ok T (by omega) q (by omega) b
  by_cases e : T + 2 ^ q = L ∧ q = i
  · exfalso
    obtain ⟨e1, rfl⟩ := e
    rw [← ha.2.1, e1] at c
    have hb : L.testBit q = true := by rw [← e1]; exact ha.2.2.2
    rw [Nat.testBit_and, c, hb] at h
    cases h
  · constructor
    · intro z
      rcases z with z | z
      · exact Or.inl z
      · exact Or.inr ⟨z.1, by omega⟩
    · intro z
      rcases z with z | z
      · exact Or.inl z
      · refine Or.inr ⟨z.1, ?_⟩
        have : ¬ q = i := fun y => e ⟨z.1, y⟩
        omega
theorem rP_ne {cs : Nat → Nat} {n L i T : Nat} (hn : n ≤ 7) (hT : T < 2 ^ n) (h : ¬ T = andn L (2 ^ i)) : rP cs n L i T = rP cs n L (i + 1) T := by
  have h7 := ev_le hn
  apply rP_congr
  intro q hq b c
  have ha := add_ok T (by omega) q (by omega) b
  have e : ¬ (T + 2 ^ q = L ∧ q = i) := by
    rintro ⟨e1, rfl⟩
    apply h
    rw [← e1]
    exact ha.2.2.1.symm
  constructor
  · intro z
    rcases z with z | z
    · exact Or.inl z
    · exact Or.inr ⟨z.1, by omega⟩
  · intro z
    rcases z with z | z
    · exact Or.inl z
    · refine Or.inr ⟨z.1, ?_⟩
      have : ¬ q = i := fun y => e ⟨z.1, y⟩
      omega
theorem smS_one {f g : Nat → Nat} {i v : Nat} : ∀ {n : Nat}, i < n → (∀ q, q < n → ¬ q = i → f q = g q) → f i = g i + v → smS f n = smS g n + v
  | 0, h, _, _ => absurd h (Nat.not_lt_zero _)
  | n + 1, h, h1, h2 => by
    rw [smS, smS]
    by_cases e : i = n
    · subst e
      rw [h2, smS_cong (fun q hq => h1 q (by omega) (by omega))]
      omega
    · rw [smS_one (n := n) (by omega) (fun q hq hne => h1 q (by omega) hne) h2, h1 n (by omega) (fun z => e z.symm)]
      omega
theorem andn_tb : ∀ S, S < 128 → ∀ q, q < 7 → S.testBit q = true → andn S (2 ^ q) + 2 ^ q = S ∧ (andn S (2 ^ q)).testBit q = false := by decide +kernel
theorem rP_hit {cs : Nat → Nat} {n L i : Nat} (hn : n ≤ 7) (hL : L < 2 ^ n) (hi : i < n) (h : (cs (n - pop L) &&& L).testBit i = true) : rP cs n L i (andn L (2 ^ i)) + rS cs n L = rP cs n L (i + 1) (andn L (2 ^ i)) := by
  have h7 := ev_le hn
  obtain ⟨h1, h2⟩ := and_tb h
  have hc := cut_ok L (by omega) i (by omega) h2
  have ht := andn_tb L (by omega) i (by omega) h2
  have hpi := Nat.two_pow_pos i
  have hne : ¬ andn L (2 ^ i) + 1 = 2 ^ n := by omega
  unfold rP
  rw [if_neg hne, if_neg hne]
  symm
  apply smS_one hi
  · intro q hq hqi
    by_cases z : (andn L (2 ^ i)).testBit q = false ∧ (cs (n - (pop (andn L (2 ^ i)) + 1))).testBit q = true
    · by_cases y : (L < andn L (2 ^ i) + 2 ^ q ∨ andn L (2 ^ i) + 2 ^ q = L ∧ q < i)
      · rw [if_pos ⟨z.1, z.2, by rcases y with y | y; exact Or.inl y; exact Or.inr ⟨y.1, by omega⟩⟩, if_pos ⟨z.1, z.2, y⟩]
      · rw [if_neg (fun w => y (by rcases w.2.2 with x | x; exact Or.inl x; exact Or.inr ⟨x.1, by omega⟩)), if_neg (fun w => y w.2.2)]
    · rw [if_neg (fun w => z ⟨w.1, w.2.1⟩), if_neg (fun w => z ⟨w.1, w.2.1⟩)]
  · have hcs : (cs (n - (pop (andn L (2 ^ i)) + 1))).testBit i = true := by rw [hc.2]; exact h1
    rw [if_pos ⟨ht.2, hcs, Or.inr ⟨ht.1, by omega⟩⟩, if_neg (fun w => by rcases w.2.2 with x | x; omega; omega), ht.1, Nat.zero_add]
theorem rP_next {cs : Nat → Nat} {n L T : Nat} (hL : 1 ≤ L) : rP cs n L n T = rP cs n (L - 1) 0 T := by
  apply rP_congr
  intro q hq _ _
  omega
theorem tP_init {cs : Nat → Nat} {n p q : Nat} : tP cs n 1 0 p q = 0 := by
  unfold tP
  rw [if_neg (fun z => by omega)]
  show smS _ (0 + 1) + 0 = 0
  rw [smS, smS, if_neg (fun z => by omega)]
theorem tP_next {cs : Nat → Nat} {n L p q : Nat} (hL : 1 ≤ L) (hq : q < n) : tP cs n L n p q = tP cs n (L + 1) 0 p q := by
  unfold tP
  rw [smS, if_neg (show ¬ (n - pop (L + 1) = p ∧ q < 0) by omega), Nat.add_zero]
  congr 1
  by_cases e : n - pop L = p
  · rw [if_pos ⟨e, hq⟩, if_pos ⟨e, hL⟩]
  · rw [if_neg (fun z => e z.1), if_neg (fun z => e z.1)]
theorem tP_ne {cs : Nat → Nat} {n L i p q : Nat} (h : ¬ (p = n - pop L ∧ q = i)) : tP cs n L i p q = tP cs n L (i + 1) p q := by
  unfold tP
  congr 1
  by_cases e : n - pop L = p
  · by_cases z : q < i
    · rw [if_pos ⟨e, z⟩, if_pos ⟨e, by omega⟩]
    · rw [if_neg (fun y => z y.2), if_neg (fun y => by omega)]
  · rw [if_neg (fun z => e z.1), if_neg (fun z => e z.1)]
theorem tP_hit {cs : Nat → Nat} {n L i : Nat} : tP cs n L i (n - pop L) i + rS cs n L * wW cs (onS cs n) (n - pop L) i L = tP cs n L (i + 1) (n - pop L) i := by
  unfold tP
  rw [if_neg (fun z => by omega), if_pos ⟨rfl, by omega⟩, Nat.add_zero]
theorem tP_end {cs : Nat → Nat} {n p q : Nat} : tP cs n (2 ^ n) 0 p q = thS cs n p q := by
  unfold tP thS
  rw [if_neg (fun z => by omega), Nat.add_zero]
theorem cell_inj {p q p' q' : Nat} (hq : q < 7) (hq' : q' < 7) (h : p * 7 + q = p' * 7 + q') : p = p' ∧ q = q' := by omega
def lkF (cs : Nat → Nat) (n : Nat) : Nat → Nat → Nat
  | 0, _ => 1000000
  | r + 1, S => if cs (n - (r + 1)) &&& S = 0 then 0 else smS (fun q => wW cs (lkF cs n r) (n - (r + 1)) q S) n / pop (cs (n - (r + 1)) &&& S)
def lkS (cs : Nat → Nat) (n S : Nat) : Nat := lkF cs n (pop S) S
theorem lkS_0 (cs : Nat → Nat) (n : Nat) : lkS cs n 0 = 1000000 := by rw [lkS, pop_0, lkF]
theorem lkS_eq {cs : Nat → Nat} {n S : Nat} (hn : n ≤ 7) (hS : S < 128) (h0 : 0 < S) : lkS cs n S = if cs (n - pop S) &&& S = 0 then 0 else smS (fun q => wW cs (lkS cs n) (n - pop S) q S) n / pop (cs (n - pop S) &&& S) := by
  have hp := pop_pos S hS h0
  obtain ⟨r, hr⟩ : ∃ r, pop S = r + 1 := ⟨pop S - 1, by omega⟩
  rw [lkS, hr, lkF]
  have : smS (fun q => wW cs (lkF cs n r) (n - (r + 1)) q S) n = smS (fun q => wW cs (lkS cs n) (n - (r + 1)) q S) n := by
    apply smS_cong
    intro q hq
    apply wW_cong hS (by omega)
    intro T _ hT
    rw [lkS, show pop T = r by omega]
  rw [this]
theorem ct_mono (f : Nat → Bool) : ∀ {a b : Nat}, a ≤ b → ct f a ≤ ct f b := by
  intro a b h
  induction b with
  | zero => rw [show a = 0 by omega]; exact Nat.le_refl _
  | succ b ih =>
    by_cases e : a = b + 1
    · rw [e]; exact Nat.le_refl _
    · have := ih (by omega)
      rw [ct]
      omega
theorem sm_wW_le {cs F : Nat → Nat} {b p S : Nat} (h : ∀ T, F T ≤ b) : ∀ n, smS (fun q => wW cs F p q S) n ≤ ct (cs p &&& S).testBit n * b
  | 0 => Nat.zero_le _
  | n + 1 => by
    have ih := sm_wW_le (cs := cs) (p := p) (S := S) h n
    rw [smS, ct]
    show smS (fun q => wW cs F p q S) n + wW cs F p n S ≤ _
    unfold wW
    unfold wW at ih
    by_cases e : (cs p &&& S).testBit n = true
    · rw [if_pos e, if_pos e, Nat.add_mul, Nat.one_mul]
      have := h (andn S (2 ^ n))
      omega
    · rw [if_neg e, if_neg e]
      omega
theorem lkF_le (cs : Nat → Nat) {n : Nat} (hn : n ≤ 7) : ∀ r S, lkF cs n r S ≤ 1000000
  | 0, _ => Nat.le_refl _
  | r + 1, S => by
    rw [lkF]
    split
    · exact Nat.zero_le _
    · apply Nat.div_le_of_le_mul
      have h1 := sm_wW_le (cs := cs) (F := lkF cs n r) (b := 1000000) (p := n - (r + 1)) (S := S) (lkF_le cs hn r) n
      have h2 : ct (cs (n - (r + 1)) &&& S).testBit n ≤ pop (cs (n - (r + 1)) &&& S) := ct_mono _ hn
      exact Nat.le_trans h1 (Nat.mul_le_mul_right _ h2)
theorem lkS_le (cs : Nat → Nat) {n : Nat} (hn : n ≤ 7) (S : Nat) : lkS cs n S ≤ 1000000 := lkF_le cs hn _ S
/-- the rounds: so many persons not passed yet, these passed, now at l -/
def clF (cs : Nat → Nat) (n : Nat) : Nat → Nat → Nat → Nat
  | 0, _, l => cs l % 2
  | r + 1, P, l => smS (fun t => if (andn (cs l) P).testBit t = true then clF cs n r (P ||| 2 ^ t) t else 0) n
def clS (cs : Nat → Nat) (n P l : Nat) : Nat := clF cs n (n - pop P) P l
theorem clS_f {cs : Nat → Nat} {n l : Nat} (hn : n ≤ 7) : clS cs n (2 ^ n - 1) l = cs l % 2 := by rw [clS, pop_full n hn, Nat.sub_self, clF]
theorem clS_eq {cs : Nat → Nat} {n P l : Nat} (hn : n ≤ 7) (hP : P < 2 ^ n) (hne : ¬ P + 1 = 2 ^ n) : clS cs n P l = smS (fun t => if (andn (cs l) P).testBit t = true then clS cs n (P ||| 2 ^ t) t else 0) n := by
  have h7 := ev_le hn
  have hp := pop_nf n hn P hP hne
  rw [clS, show n - pop P = (n - (pop P + 1)) + 1 by omega, clF]
  apply smS_cong
  intro t ht
  by_cases e : (andn (cs l) P).testBit t = true
  · rw [if_pos e, if_pos e, clS]
    have b : P.testBit t = false := by
      rw [tb_andn] at e
      cases h : P.testBit t with
      | false => rfl
      | true => rw [h, Bool.not_true, Bool.and_false] at e; cases e
    have ha := add_ok P (by omega) t (by omega) b
    rw [ha.1, ha.2.1]
  · rw [if_neg e, if_neg e]
def skF (f : Nat → Nat) : Nat → Nat → Nat → Nat × Nat
  | 0, i, a => (i, a)
  | m + 1, i, a => if f i ≤ a then skF f m (i + 1) (a - f i) else (i, a)
theorem skF_t {f : Nat → Nat} {n i a : Nat} (hi : i < n) (h : f i ≤ a) : skF f (n - i) i a = skF f (n - (i + 1)) (i + 1) (a - f i) := by
  obtain ⟨m, hm⟩ : ∃ m, n - i = m + 1 := ⟨n - i - 1, by omega⟩
  rw [hm, skF, if_pos h, show n - (i + 1) = m by omega]
theorem skF_f {f : Nat → Nat} {n i a : Nat} (hi : i < n) (h : ¬ f i ≤ a) : skF f (n - i) i a = (i, a) := by
  obtain ⟨m, hm⟩ : ∃ m, n - i = m + 1 := ⟨n - i - 1, by omega⟩
  rw [hm, skF, if_neg h]
/-- the name that one has in a way: so many persons still, the one who draws, the names left, how many ways ahead -/
def nwF (cs : Nat → Nat) (n p : Nat) : Nat → Nat → Nat → Nat → Nat
  | 0, _, _, _ => 0
  | f + 1, s, S, a => if s = p then (skF (fun q => wW cs (onS cs n) s q S) n 0 a).1 else nwF cs n p f (s + 1) (andn S (2 ^ (skF (fun q => wW cs (onS cs n) s q S) n 0 a).1)) (skF (fun q => wW cs (onS cs n) s q S) n 0 a).2
def nwS (cs : Nat → Nat) (n w p : Nat) : Nat := nwF cs n p n 0 (2 ^ n - 1) w
theorem nwF_hit {cs : Nat → Nat} {n p s S a q a' : Nat} (hs : s < n) (e : skF (fun q => wW cs (onS cs n) s q S) n 0 a = (q, a')) (h : s = p) : nwF cs n p (n - s) s S a = q := by
  obtain ⟨m, hm⟩ : ∃ m, n - s = m + 1 := ⟨n - s - 1, by omega⟩
  rw [hm, nwF, if_pos h, e]
theorem nwF_go {cs : Nat → Nat} {n p s S a q a' : Nat} (hs : s < n) (e : skF (fun q => wW cs (onS cs n) s q S) n 0 a = (q, a')) (h : ¬ s = p) : nwF cs n p (n - s) s S a = nwF cs n p (n - (s + 1)) (s + 1) (andn S (2 ^ q)) a' := by
  obtain ⟨m, hm⟩ : ∃ m, n - s = m + 1 := ⟨n - s - 1, by omega⟩
  rw [hm, nwF, if_neg h, e, show n - (s + 1) = m by omega]
theorem wW_pos {cs F : Nat → Nat} {p q S a : Nat} (h : a < wW cs F p q S) : (cs p &&& S).testBit q = true ∧ a < F (andn S (2 ^ q)) := by
  unfold wW at h
  by_cases e : (cs p &&& S).testBit q = true
  · rw [if_pos e] at h; exact ⟨e, h⟩
  · rw [if_neg e] at h; exact absurd h (Nat.not_lt_zero _)
/-- what is left of a sum from i on -/
def smR (f : Nat → Nat) : Nat → Nat → Nat
  | 0, _ => 0
  | m + 1, i => f i + smR f m (i + 1)
theorem smR_eq (f : Nat → Nat) : ∀ n i, i ≤ n → smS f i + smR f (n - i) i = smS f n := by
  intro n i h
  obtain ⟨m, rfl⟩ : ∃ m, n = i + m := ⟨n - i, by omega⟩
  rw [show i + m - i = m by omega]
  clear h
  induction m generalizing i with
  | zero => rfl
  | succ m ih =>
    have := ih (i + 1)
    rw [smR, show i + (m + 1) = i + 1 + m by omega, ← this, smS]
    omega
def bwF (cs : Nat → Nat) (TH : Nat → Nat → Nat) (W n : Nat) : Option Nat := fF (fun k => decide ((cs (k / n)).testBit (k % n) = true ∧ W - TH (k / n) (k % n) = 1)) (n * n) 0
def bwS (cs : Nat → Nat) (TH : Nat → Nat → Nat) (W n : Nat) : Option Nat := (bwF cs TH W n).map (fun k => 10 * (k / n) + k % n)
theorem kdiv {n p i : Nat} (hi : i < n) : (p * n + i) / n = p ∧ (p * n + i) % n = i := by
  constructor
  · rw [Nat.mul_comm, Nat.mul_add_div (by omega), Nat.div_eq_of_lt hi, Nat.add_zero]
  · rw [Nat.mul_comm, Nat.mul_add_mod, Nat.mod_eq_of_lt hi]
theorem klt {n p i : Nat} (hp : p < n) (hi : i < n) : p * n + i < n * n := by
  have : (p + 1) * n ≤ n * n := Nat.mul_le_mul_right _ hp
  rw [Nat.succ_mul] at this
  omega
theorem or_1 (i : Nat) : 1 ||| (2 ^ i &&& 1) = 1 := by
  cases i with
  | zero => rfl
  | succ i =>
    have : 2 ^ (i + 1) &&& 1 = 0 := by rw [Nat.and_one_is_mod, Nat.pow_succ]; omega
    rw [this]
    rfl
theorem pred2 {j : Nat} (h : 1 ≤ j) : nI (2 * j) - 1 = nI (2 * j - 1) := by
  obtain ⟨c, rfl⟩ : ∃ c, j = c + 1 := ⟨j - 1, by omega⟩
  rw [show 2 * (c + 1) = (2 * c + 1) + 1 by omega, nI_pred]
  rfl
theorem rw_T {j : Nat} (hj : 2 * j ≤ 128) (h : nI (2 * j) - 1 < nI 1) : j = 0 := by
  rcases Nat.eq_zero_or_pos j with z | z
  · exact z
  · rw [pred2 z] at h
    have := (nI_ltI (by omega) (by omega)).mp h
    omega
theorem rw_F {j : Nat} (h : ¬ nI (2 * j) - 1 < nI 1) : 1 ≤ j := by
  rcases Nat.eq_zero_or_pos j with z | z
  · rw [z] at h
    exact absurd (by decide) h
  · exact z
theorem rw_dec {j : Nat} (h : 1 ≤ j) : nI (2 * j - 1) + Int32.ofInt (-2) = nI (2 * (j - 1)) - 1 := by
  obtain ⟨c, rfl⟩ : ∃ c, j = c + 1 := ⟨j - 1, by omega⟩
  rw [show 2 * (c + 1) - 1 = 2 * c + 1 by omega, show c + 1 - 1 = c by omega, ← nI_add (2 * c) 1, Int32.add_assoc, show nI 1 + Int32.ofInt (-2) = -1 by decide, Int32.sub_eq_add_neg]
def nxS (s : Nat) : Nat := (1103515245 * s + 12345) % 2147483648
theorem nxS_lt (s : Nat) : nxS s < 2147483648 := Nat.mod_lt _ (by decide)
theorem nx_and (a : Nat) : a &&& 2147483647 = a % 2147483648 := Nat.and_two_pow_sub_one_eq_mod a 31
/-- the so-manieth name of a set -/
def pkF (S : Nat) : Nat → Nat → Nat → Nat
  | 0, i, _ => i
  | m + 1, i, a => if 0 < a ∨ S / 2 ^ i % 2 = 0 then pkF S m (i + 1) (a - S / 2 ^ i % 2) else i
theorem pkF_t {S i a : Nat} (hi : i < 6) (h : 0 < a ∨ S / 2 ^ i % 2 = 0) : pkF S (6 - i) i a = pkF S (6 - (i + 1)) (i + 1) (a - S / 2 ^ i % 2) := by
  obtain ⟨m, hm⟩ : ∃ m, 6 - i = m + 1 := ⟨6 - i - 1, by omega⟩
  rw [hm, pkF, if_pos h, show 6 - (i + 1) = m by omega]
theorem pkF_f {S i a : Nat} (hi : i < 6) (h : ¬ (0 < a ∨ S / 2 ^ i % 2 = 0)) : pkF S (6 - i) i a = i := by
  obtain ⟨m, hm⟩ : ∃ m, 6 - i = m + 1 := ⟨6 - i - 1, by omega⟩
  rw [hm, pkF, if_neg h]
def drS (s S : Nat) : Nat := pkF S 6 0 (nxS s / 65536 % pop S)
/-- one drawing by a seed: so many persons still, who, the names left, the seed, how many names drawn; then seed, names, whether all have -/
def doF (cs : Nat → Nat) (d : Nat → Option Nat) : Nat → Nat → Nat → Nat → Nat → Nat × Nat × Bool
  | 0, _, _, s, nm => (s, nm, true)
  | m + 1, i, left, s, nm => if (d i).isSome = true then doF cs d m (i + 1) left s nm else if cs i &&& left = 0 then (s, nm, false) else doF cs d m (i + 1) (andn left (2 ^ drS s (cs i &&& left))) (nxS s) (nm + 1)
theorem doF_1 {cs : Nat → Nat} {d : Nat → Option Nat} {n i left s nm : Nat} (hi : i < n) (h : (d i).isSome = true) : doF cs d (n - i) i left s nm = doF cs d (n - (i + 1)) (i + 1) left s nm := by
  obtain ⟨m, hm⟩ : ∃ m, n - i = m + 1 := ⟨n - i - 1, by omega⟩
  rw [hm, doF, if_pos h, show n - (i + 1) = m by omega]
theorem doF_2 {cs : Nat → Nat} {d : Nat → Option Nat} {n i left s nm : Nat} (hi : i < n) (h : (d i).isSome = false) (h2 : cs i &&& left = 0) : doF cs d (n - i) i left s nm = (s, nm, false) := by
  obtain ⟨m, hm⟩ : ∃ m, n - i = m + 1 := ⟨n - i - 1, by omega⟩
  rw [hm, doF, if_neg (by rw [h]; decide), if_pos h2]
theorem doF_3 {cs : Nat → Nat} {d : Nat → Option Nat} {n i left s nm : Nat} (hi : i < n) (h : (d i).isSome = false) (h2 : ¬ cs i &&& left = 0) : doF cs d (n - i) i left s nm = doF cs d (n - (i + 1)) (i + 1) (andn left (2 ^ drS s (cs i &&& left))) (nxS s) (nm + 1) := by
  obtain ⟨m, hm⟩ : ∃ m, n - i = m + 1 := ⟨n - i - 1, by omega⟩
  rw [hm, doF, if_neg (by rw [h]; decide), if_neg h2, show n - (i + 1) = m by omega]
theorem drS_lt : ∀ S, S < 128 → ∀ k, k < 7 → pkF S 6 0 k < 7 := by decide +kernel
theorem cpy_in {f g : Nat → Int32} {n j : Nat} (h : j < n) : va_cpy f g 0 0 n j = f j := sb_cpy0 h
theorem upd_lt2 {f F : Nat → Int32} {i : Nat} {v : Int32} (h : ∀ p, p < i → f p = F p) (hv : v = F i) : ∀ p, p < i + 1 → upd f i v p = F p := upd_lt h hv
theorem nar_b {v : Int32} (h : v = 0 ∨ v = 1) : vp_nar .boolean v = v := by rcases h with rfl | rfl <;> decide
