/-! base: naming the goal's end, booleans and options as ints, bits as naturals -/
theorem w_gen {p : Program} {l : Launch} {e : Env} {R : Room} {s : State} {m : MethodId} {args : Array Value} {below : List Frame} {meth : Method} {c : Code} {H : Heap} {locs : List Loc} {cells slots : Nat} {Q : State → Prop} {g : JFrame} (h : ∀ Q' : State → Prop, Q' = Q → W p l e R s m args below meth c H locs cells slots Q' g) : W p l e R s m args below meth c H locs cells slots Q g := h Q rfl
def bI (b : Bool) : Int32 := if b then 1 else 0
theorem bI_t : bI true = nI 1 := rfl
theorem bI_f : bI false = nI 0 := rfl
theorem bI_0 {b : Bool} (h : bI b = 0) : b = false := by
  cases b with
  | false => rfl
  | true => exact absurd h (by decide)
theorem bI_n0 {b : Bool} (h : ¬ bI b = 0) : b = true := by
  cases b with
  | true => rfl
  | false => exact absurd rfl h
theorem bI_nn0 {b : Bool} (h : ¬ ¬ bI b = 0) : b = false := bI_0 (Classical.not_not.mp h)
theorem bI_1 {b : Bool} (h : b = true) : nI 1 = bI b := by rw [h]; rfl
theorem bI_2 {b : Bool} (h : b = false) : nI 0 = bI b := by rw [h]; rfl
theorem bI_inj {a b : Bool} (h : bI a = bI b) : a = b := by
  cases a <;> cases b <;> first | rfl | exact absurd h (by decide)
theorem nar_z (b : Bool) : narrow .boolean (.int (bI b)) = .int (bI b) := by cases b <;> decide
theorem nar_bI (b : Bool) : vp_nar .boolean (bI b) = bI b := by cases b <;> decide
def dI (o : Option Nat) : Int32 := match o with
  | none => -1
  | some q => nI q
theorem nI_nm1 {q : Nat} (h : q < 2 ^ 31) : ¬ nI q = -1 := by
  intro z
  have h1 : (nI q).toInt = (-1 : Int32).toInt := by rw [z]
  rw [nI_toInt h] at h1
  have h2 : ((-1 : Int32).toInt) = -1 := by decide
  rw [h2] at h1
  omega
theorem dI_none {o : Option Nat} (h : dI o = -1) (hb : ∀ q, o = some q → q < 7) : o = none := by
  cases o with
  | none => rfl
  | some q => exact absurd h (nI_nm1 (by have := hb q rfl; omega))
theorem dI_inj {a b : Option Nat} (h : dI a = dI b) (ha : ∀ q, a = some q → q < 7) (hb : ∀ q, b = some q → q < 7) : a = b := by
  cases a with
  | none => exact (dI_none h.symm hb).symm
  | some q =>
    cases b with
    | none => exact absurd h (nI_nm1 (by have := ha q rfl; omega))
    | some r => rw [(nI_eq (by have := ha q rfl; omega) (by have := hb r rfl; omega)).mp h]
theorem and_nI (a b : Nat) : nI a &&& nI b = nI (a &&& b) := by
  apply Int32.toBitVec_inj.1
  show BitVec.ofNat 32 a &&& BitVec.ofNat 32 b = BitVec.ofNat 32 (a &&& b)
  apply BitVec.eq_of_getLsbD_eq
  intro i hi
  simp [hi]
theorem or_nI (a b : Nat) : nI a ||| nI b = nI (a ||| b) := by
  apply Int32.toBitVec_inj.1
  show BitVec.ofNat 32 a ||| BitVec.ofNat 32 b = BitVec.ofNat 32 (a ||| b)
  apply BitVec.eq_of_getLsbD_eq
  intro i hi
  simp [hi]
theorem xor_nI (a b : Nat) : nI a ^^^ nI b = nI (a ^^^ b) := by
  apply Int32.toBitVec_inj.1
  show BitVec.ofNat 32 a ^^^ BitVec.ofNat 32 b = BitVec.ofNat 32 (a ^^^ b)
  apply BitVec.eq_of_getLsbD_eq
  intro i hi
  simp [hi]
theorem and_1 (a : Nat) : nI a &&& nI 1 = nI (a % 2) := by rw [and_nI, Nat.and_one_is_mod]
def andn (a b : Nat) : Nat := a ^^^ (a &&& b)
theorem tb_andn (a b i : Nat) : (andn a b).testBit i = (a.testBit i && !b.testBit i) := by
  unfold andn
  rw [Nat.testBit_xor, Nat.testBit_and]
  cases a.testBit i <;> cases b.testBit i <;> rfl
theorem andn_nI (a b : Nat) : nI a &&& (nI b ^^^ (-1)) = nI (andn a b) := by
  apply Int32.toBitVec_inj.1
  show BitVec.ofNat 32 a &&& (BitVec.ofNat 32 b ^^^ BitVec.allOnes 32) = BitVec.ofNat 32 (andn a b)
  apply BitVec.eq_of_getLsbD_eq
  intro i hi
  rw [BitVec.getLsbD_and, BitVec.getLsbD_xor, BitVec.getLsbD_allOnes, BitVec.getLsbD_ofNat, BitVec.getLsbD_ofNat, BitVec.getLsbD_ofNat, tb_andn, decide_eq_true hi]
  cases a.testBit i <;> cases b.testBit i <;> rfl
theorem andn_nI2 (a b : Nat) : (nI b ^^^ (-1)) &&& nI a = nI (andn a b) := by
  rw [← andn_nI]
  apply Int32.toBitVec_inj.1
  show (nI b ^^^ (-1)).toBitVec &&& (nI a).toBitVec = (nI a).toBitVec &&& (nI b ^^^ (-1)).toBitVec
  exact BitVec.and_comm _ _
theorem sm_nI : ∀ n, n < 32 → ((nI n &&& 31).toBitVec.smod 32).toNat = n := by decide +kernel
theorem shl_nI {a j : Nat} (hj : j < 32) (h : a * 2 ^ j < 2 ^ 32) : nI a <<< (nI j &&& 31) = nI (a * 2 ^ j) := pk_shlN _ j (sm_nI j hj) h
theorem shl_1 {j : Nat} (hj : j < 31) : nI 1 <<< (nI j &&& 31) = nI (2 ^ j) := by
  have h2 : (2 : Nat) ^ j < 2 ^ 31 := Nat.pow_lt_pow_right (by decide) hj
  rw [shl_nI (by omega) (by omega), Nat.one_mul]
theorem shr_nI {a j : Nat} (ha : a < 2 ^ 31) (hj : j < 32) : nI a >>> (nI j &&& 31) = nI (a / 2 ^ j) := pk_shrN ha _ j (sm_nI j hj)
theorem tb_mod (a i : Nat) : a.testBit i = decide (a / 2 ^ i % 2 = 1) := Nat.testBit_eq_decide_div_mod_eq
theorem tb_1 {a i : Nat} (h : a / 2 ^ i % 2 = 1) : a.testBit i = true := by rw [tb_mod]; exact decide_eq_true h
theorem tb_0 {a i : Nat} (h : ¬ a / 2 ^ i % 2 = 1) : a.testBit i = false := by rw [tb_mod]; exact decide_eq_false h
theorem tb_z {a i : Nat} (h : a / 2 ^ i % 2 = 0) : a.testBit i = false := by rw [tb_mod]; exact decide_eq_false (by omega)
theorem tb_nz {a i : Nat} (h : ¬ a / 2 ^ i % 2 = 0) : a.testBit i = true := by rw [tb_mod]; exact decide_eq_true (by omega)
theorem or_add {a i : Nat} (h : a < 2 ^ i) : a ||| 2 ^ i = a + 2 ^ i := by
  have := Nat.two_pow_add_eq_or_of_lt h 1
  rw [Nat.mul_one] at this
  rw [Nat.add_comm, this, Nat.or_comm]
def adf (a b : Nat) : Nat := (a - b) + (b - a)
theorem abs_nI {a b : Nat} (ha : a < 2 ^ 30) (hb : b < 2 ^ 30) : (if 0 ≤ nI a - nI b then nI a - nI b else 0 - (nI a - nI b)) = nI (adf a b) := by
  have h0 : ((0 : Int32).toInt) = 0 := by decide
  rcases Nat.lt_or_ge a b with h | h
  · have h1 : ¬ 0 ≤ nI a - nI b := by
      intro z
      have z2 := Int32.le_iff_toInt_le.mp z
      rw [pk_sub_toInt ha hb, h0] at z2
      omega
    rw [if_neg h1]
    apply Int32.toInt_inj.mp
    have e : (0 : Int32) - (nI a - nI b) = nI b - nI a := by
      apply Int32.toBitVec_inj.1
      show (0 : BitVec 32) - ((nI a).toBitVec - (nI b).toBitVec) = (nI b).toBitVec - (nI a).toBitVec
      generalize (nI a).toBitVec = x
      generalize (nI b).toBitVec = y
      apply BitVec.eq_of_toNat_eq
      have hx := x.isLt
      have hy := y.isLt
      rw [BitVec.toNat_sub, BitVec.toNat_sub, BitVec.toNat_sub]
      have h00 : (0 : BitVec 32).toNat = 0 := rfl
      rw [h00]
      omega
    rw [e, pk_sub_toInt hb ha, nI_toInt (by unfold adf; omega)]
    unfold adf
    omega
  · have h1 : 0 ≤ nI a - nI b := by
      apply Int32.le_iff_toInt_le.mpr
      rw [pk_sub_toInt ha hb, h0]
      omega
    rw [if_pos h1, pk_sub h]
    unfold adf
    rw [Nat.sub_eq_zero_of_le h, Nat.add_zero]
