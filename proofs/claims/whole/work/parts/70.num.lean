/-! own rows: numbers of the machine as natural numbers -/
def ni (n : Nat) : Int32 := Int32.ofNat n
theorem ni_lit (n : Nat) : (@OfNat.ofNat Int32 n Int32.instOfNat) = ni (@OfNat.ofNat Nat n (instOfNatNat n)) := rfl
theorem ni_add (a b : Nat) : ni a + ni b = ni (a + b) := (Int32.ofNat_add a b).symm
theorem ni_mul (a b : Nat) : ni a * ni b = ni (a * b) := (Int32.ofNat_mul a b).symm
theorem ni_sub {a b : Nat} (h : b ≤ a) : ni a - ni b = ni (a - b) := (Int32.ofNat_sub a b h).symm
theorem ni_lt {a b : Nat} (ha : a < 2147483648) (hb : b < 2147483648) : (ni a < ni b) = (a < b) := propext (Int32.ofNat_lt_iff_lt ha hb)
theorem ni_le {a b : Nat} (ha : a < 2147483648) (hb : b < 2147483648) : (ni a ≤ ni b) = (a ≤ b) := propext (Int32.ofNat_le_iff_le ha hb)
theorem ni_ix {a : Nat} (h : a < 2147483648) : (ni a).toNatClampNeg = a := Int32.toNatClampNeg_ofNat_of_lt h
theorem ni_eq {a b : Nat} (ha : a < 2147483648) (hb : b < 2147483648) : (ni a = ni b) = (a = b) := by
  apply propext; constructor
  · intro h; have := congrArg Int32.toNatClampNeg h; rwa [ni_ix ha, ni_ix hb] at this
  · intro h; rw [h]
theorem ni_div {a b : Nat} (ha : a < 2147483648) (hb : b < 2147483648) : ni a / ni b = ni (a / b) := (Int32.ofNat_div ha hb).symm
theorem ni_rem {a b : Nat} (ha : a < 2147483648) (hb : b < 2147483648) : sq_rem (ni a) (ni b) = ni (a % b) := by
  unfold sq_rem
  have h : a / b * b ≤ a := Nat.div_mul_le_self a b
  rw [ni_div ha hb, ni_mul, ni_sub h]
  congr 1
  have := Nat.mod_add_div' a b
  omega
theorem ni_and (a b : Nat) : ni a &&& ni b = ni (a &&& b) := by
  apply Int32.toBitVec_inj.mp
  show BitVec.ofNat 32 a &&& BitVec.ofNat 32 b = BitVec.ofNat 32 (a &&& b)
  rw [BitVec.ofNat_and]
theorem ni_or (a b : Nat) : ni a ||| ni b = ni (a ||| b) := by
  apply Int32.toBitVec_inj.mp
  show BitVec.ofNat 32 a ||| BitVec.ofNat 32 b = BitVec.ofNat 32 (a ||| b)
  rw [BitVec.ofNat_or]
theorem ni_xor (a b : Nat) : ni a ^^^ ni b = ni (a ^^^ b) := by
  apply Int32.toBitVec_inj.mp
  show BitVec.ofNat 32 a ^^^ BitVec.ofNat 32 b = BitVec.ofNat 32 (a ^^^ b)
  rw [BitVec.ofNat_xor]
theorem ni_sm : ∀ k : Nat, k < 32 → (Int32.ofNat k).toBitVec.smod 32 = BitVec.ofNat 32 k := by decide
theorem ni_shl {a k : Nat} (hk : k < 32) : ni a <<< ni k = ni (a <<< k) := by
  apply Int32.toBitVec_inj.mp
  show BitVec.ofNat 32 a <<< ((Int32.ofNat k).toBitVec.smod 32) = BitVec.ofNat 32 (a <<< k)
  rw [ni_sm k hk]
  apply BitVec.eq_of_toNat_eq
  rw [BitVec.shiftLeft_ofNat_eq, BitVec.toNat_shiftLeft, BitVec.toNat_ofNat, BitVec.toNat_ofNat, Nat.mod_eq_of_lt (show k < 2 ^ 32 by omega), Nat.shiftLeft_eq, Nat.shiftLeft_eq, Nat.mod_mul_mod]
theorem ni_msb {a : Nat} (ha : a < 2147483648) : (BitVec.ofNat 32 a).msb = false := by
  rw [BitVec.msb_eq_decide, BitVec.toNat_ofNat, Nat.mod_eq_of_lt (by omega)]
  exact decide_eq_false (by omega)
theorem ni_shr {a k : Nat} (ha : a < 2147483648) (hk : k < 32) : ni a >>> ni k = ni (a >>> k) := by
  apply Int32.toBitVec_inj.mp
  show BitVec.sshiftRight' (BitVec.ofNat 32 a) ((Int32.ofNat k).toBitVec.smod 32) = BitVec.ofNat 32 (a >>> k)
  rw [ni_sm k hk]
  apply BitVec.eq_of_toNat_eq
  have h1 : a >>> k ≤ a := by rw [Nat.shiftRight_eq_div_pow]; exact Nat.div_le_self _ _
  rw [BitVec.toNat_sshiftRight'_of_msb_false (ni_msb ha), BitVec.toNat_ofNat, BitVec.toNat_ofNat, BitVec.toNat_ofNat, Nat.mod_eq_of_lt (show a < 2 ^ 32 by omega), Nat.mod_eq_of_lt (show k < 2 ^ 32 by omega), Nat.mod_eq_of_lt (show a >>> k < 2 ^ 32 by omega)]
theorem ni_gi {β : Type} {a n : Nat} {k : Option β} (h : a < n) (hn : n ≤ 2147483648) : sq_gi (ni a) n k = k := by
  unfold sq_gi
  have h0 : ¬ (ni a < 0) := by rw [show (0 : Int32) = ni 0 from rfl, ni_lt (by omega) (by omega)]; omega
  rw [if_neg]
  rw [ni_ix (by omega)]
  rintro (h1 | h1)
  · exact h0 h1
  · omega
theorem ni_gz {β : Type} {a : Nat} {k : Option β} (h : a ≠ 0) (ha : a < 2147483648) : sq_gz (ni a) k = k := by
  unfold sq_gz
  rw [if_neg]
  rw [show (0 : Int32) = ni 0 from rfl, ni_eq ha (by omega)]; exact h
theorem ni_max {a b : Nat} (ha : a < 2147483648) (hb : b < 2147483648) : sq_max (ni a) (ni b) = ni (max a b) := by
  unfold sq_max
  simp only [ni_lt ha hb]
  split <;> congr 1 <;> omega
theorem ni_min {a b : Nat} (ha : a < 2147483648) (hb : b < 2147483648) : sq_min (ni a) (ni b) = ni (min a b) := by
  unfold sq_min
  simp only [ni_lt hb ha]
  split <;> congr 1 <;> omega
/-- every number is a natural one, or below 0 -/
theorem ni_cases (x : Int32) : x < 0 ∨ ∃ n : Nat, n < 2147483648 ∧ x = ni n := by
  by_cases h : x < 0
  · exact Or.inl h
  · refine Or.inr ⟨x.toNatClampNeg, Int32.toNatClampNeg_lt x, (Int32.ofNat_toNatClampNeg x ?_).symm⟩
    rw [Int32.le_iff_toInt_le]; rw [Int32.lt_iff_toInt_lt] at h; omega
theorem ni_m1 {a : Nat} (h : a < 2147483648) : (ni a = -1) = False := by
  apply eq_false
  intro e
  have := congrArg Int32.toInt e
  rw [show (ni a).toInt = a from Int32.toInt_ofNat_of_lt h] at this
  have h1 : (-1 : Int32).toInt = -1 := by decide
  omega
theorem ni_nn {a : Nat} (h : a < 2147483648) : (ni a < 0) = False := by
  rw [show (0 : Int32) = ni 0 from rfl, ni_lt h (by omega)]; exact eq_false (by omega)
theorem ni_dec {a : Nat} : ni (a + 1) + -1 = ni a := by
  show Int32.ofNat (a + 1) + -1 = Int32.ofNat a
  rw [Int32.ofNat_add]
  have : (Int32.ofNat 1 + -1 : Int32) = 0 := by decide
  rw [Int32.add_assoc, this, Int32.add_zero]
theorem ni_dc {a : Nat} (h : 1 ≤ a) : ni a + -(ni 1) = ni (a - 1) := by
  have := ni_dec (a := a - 1)
  rw [show a - 1 + 1 = a by omega] at this
  exact this
theorem ni_0a : ni 0 + -(ni 1) = -(ni 1) := by decide
theorem ni_ml : (-(ni 1) < ni 0) = True := by decide
theorem ni_mle : (ni 0 ≤ -(ni 1)) = False := by decide
theorem ni_toI {a : Nat} (h : a < 2147483648) : (ni a).toInt = a := Int32.toInt_ofNat_of_lt h
theorem ni_sI {a b : Nat} (ha : a < 2147483648) (hb : b < 2147483648) : (ni a - ni b).toInt = (a : Int) - b := by
  rw [show ni a = Int32.ofInt a from Int32.ofInt_eq_ofNat.symm, show ni b = Int32.ofInt b from Int32.ofInt_eq_ofNat.symm, ← Int32.ofInt_sub, Int32.toInt_ofInt_of_le (by omega) (by omega)]
theorem ni_ls {a b c : Nat} (ha : a < 2147483648) (hb : b < 2147483648) (hc : c < 2147483648) : (ni a - ni b < ni c) = (a < c + b) := by
  rw [Int32.lt_iff_toInt_lt, ni_sI ha hb, ni_toI hc]
  apply propext; omega
theorem ni_sl {a b c : Nat} (ha : a < 2147483648) (hb : b < 2147483648) (hc : c < 2147483648) : (ni c < ni a - ni b) = (c + b < a) := by
  rw [Int32.lt_iff_toInt_lt, ni_sI ha hb, ni_toI hc]
  apply propext; omega
theorem ni_les {a b c : Nat} (ha : a < 2147483648) (hb : b < 2147483648) (hc : c < 2147483648) : (ni a - ni b ≤ ni c) = (a ≤ c + b) := by
  rw [Int32.le_iff_toInt_le, ni_sI ha hb, ni_toI hc]
  apply propext; omega
theorem ni_sle {a b c : Nat} (ha : a < 2147483648) (hb : b < 2147483648) (hc : c < 2147483648) : (ni c ≤ ni a - ni b) = (c + b ≤ a) := by
  rw [Int32.le_iff_toInt_le, ni_sI ha hb, ni_toI hc]
  apply propext; omega
theorem ni_mx0 {a b : Nat} (ha : a < 2147483648) (hb : b < 2147483648) : sq_max (ni 0) (ni a - ni b) = ni (a - b) := by
  unfold sq_max
  simp only [ni_sl ha hb (show 0 < 2147483648 by omega)]
  by_cases h : 0 + b < a
  · rw [if_pos h, ni_sub (by omega)]
  · rw [if_neg h, show a - b = 0 by omega]
