/-! numbers of bits, taken off the data -/
def nv (D : Nat → Nat) (a : Nat) : Nat → Nat
  | 0 => 0
  | k + 1 => 2 * nv D a k + b2 (wbit D (a + k))
theorem nv_s (D : Nat → Nat) (a k : Nat) : nv D a (k + 1) = 2 * nv D a k + b2 (wbit D (a + k)) := rfl
theorem nv_lt (D : Nat → Nat) (a : Nat) : ∀ k : Nat, nv D a k < 2 ^ k
  | 0 => by show 0 < 2 ^ 0; decide
  | k + 1 => by
    have := nv_lt D a k
    have := b2_le (wbit D (a + k))
    rw [nv_s, Nat.pow_succ]
    omega
theorem tbe_2 (x : Nat) (b : Bool) : ∀ i : Nat, (2 * x + b2 b).testBit i = if i = 0 then b else x.testBit (i - 1)
  | 0 => by
    rw [if_pos rfl, Nat.testBit_zero]
    cases b
    · show decide ((2 * x + 0) % 2 = 1) = false
      exact decide_eq_false (by omega)
    · show decide ((2 * x + 1) % 2 = 1) = true
      exact decide_eq_true (by omega)
  | i + 1 => by
    rw [if_neg (by omega), Nat.testBit_succ]
    have : (2 * x + b2 b) / 2 = x := by have := b2_le b; omega
    rw [this]
    rfl
theorem nv_t (D : Nat → Nat) (a : Nat) : ∀ (k i : Nat), (nv D a k).testBit i = (decide (i < k) && wbit D (a + k - 1 - i))
  | 0, i => by
    rw [decide_eq_false (by omega)]
    show Nat.testBit 0 i = _
    rw [Nat.zero_testBit]
    rfl
  | k + 1, i => by
    rw [nv_s, tbe_2]
    by_cases h : i = 0
    · rw [if_pos h, h, decide_eq_true (by omega), Bool.true_and, show a + (k + 1) - 1 - 0 = a + k by omega]
    · rw [if_neg h, nv_t D a k (i - 1)]
      by_cases q : i < k + 1
      · rw [decide_eq_true q, decide_eq_true (by omega), show a + k - 1 - (i - 1) = a + (k + 1) - 1 - i by omega]
      · rw [decide_eq_false q, decide_eq_false (by omega)]
        rfl
theorem nv_cg {D E : Nat → Nat} {a : Nat} : ∀ {k : Nat}, (∀ q : Nat, a ≤ q → q < a + k → wbit D q = wbit E q) → nv D a k = nv E a k
  | 0, _ => rfl
  | k + 1, h => by rw [nv_s, nv_s, nv_cg (fun q h1 h2 => h q h1 (by omega)), h (a + k) (by omega) (by omega)]
theorem md_nx_l {b : Nat → Int32} {D : Nat → Nat} {a k N : Nat} {f : Int32} (hk : k ≤ 16) (hN : N ≤ 3706) (ha : a + k ≤ 8 * N) (hb : ∀ p : Nat, p < N → b p = ni (D p) ∧ D p < 256) : ∀ (e i m : Nat), i + e = k → e < m → fn_Md_next_L1 (ni k) f b m (ni (nv D a i)) (ni i) (ni (a + i)) = some (ni (nv D a k), ni (a + k), f)
  | 0, i, m + 1, hi, _ => by
    rw [show i = k by omega, fn_Md_next_L1_s, if_pos ((ni_le (by omega) (by omega)).mpr (Nat.le_refl _))]
  | e + 1, i, m + 1, hi, hm => by
    obtain ⟨d1, d2⟩ := hb ((a + i) / 8) (by omega)
    rw [fn_Md_next_L1_s, if_neg (fun z => absurd ((ni_le (by omega) (by omega)).mp z) (by omega)), ← md_nx_l hk hN ha hb e (i + 1) m (by omega) (by omega)]
    simp only [sq_bd]
    rw [show (8 : Int32) = ni 8 from rfl, ni_div (by omega) (by omega), ni_gi (by omega) (by omega), ni_ix (by omega), d1, ni_rem (by omega) (by omega), bit_r d2 (by omega), show (2 : Int32) = ni 2 from rfl, ni_mul, ni_add, show (1 : Int32) = ni 1 from rfl, ni_add, ni_add]
    rfl
theorem md_nx {b : Nat → Int32} {D : Nat → Nat} {a k N n0 : Nat} {f : Int32} (hn0 : 300 ≤ n0) (hk : k ≤ 16) (hN : N ≤ 3706) (ha : a ≤ 8 * N) (hb : ∀ p : Nat, p < N → b p = ni (D p) ∧ D p < 256) : fn_Md_next n0 (ni k) (ni a) (ni (8 * N)) f b = some (if a + k ≤ 8 * N then (ni (nv D a k), ni (a + k), f) else (0, ni a, 4)) := by
  unfold fn_Md_next
  rw [ni_add]
  by_cases h : a + k ≤ 8 * N
  · rw [if_pos ((ni_le (by omega) (by omega)).mpr h), if_pos h]
    exact md_nx_l (i := 0) hk hN h hb k n0 (by omega) (by omega)
  · rw [if_neg (fun z => h ((ni_le (by omega) (by omega)).mp z)), if_neg h]
theorem cw_any {b : Nat → Int32} (p : Nat) (hp : p < 2147483648) : ∃ z : Nat, z < 256 ∧ fn_Codewords_get (ni p) b = some (ni z) := by
  unfold fn_Codewords_get
  rw [if_neg (by rw [ni_nn hp]; exact id)]
  by_cases h : 3706 ≤ p
  · rw [if_pos (show (3706 : Int32) ≤ ni p from (ni_le (a := 3706) (by omega) hp).mpr h)]
    exact ⟨0, by omega, rfl⟩
  · rw [if_neg (show ¬ (3706 : Int32) ≤ ni p from fun z => h ((ni_le (a := 3706) (by omega) hp).mp z)), ni_gi (by omega) (by omega)]
    obtain ⟨z, h1, h2⟩ := b255 (b (ni p).toNatClampNeg)
    refine ⟨z, h1, ?_⟩
    simp only [sq_bd]
    rw [h2]
theorem tb_hi {z j : Nat} (hz : z < 256) (hj : 8 ≤ j) : z.testBit j = false := by
  have : (2 : Nat) ^ 8 ≤ 2 ^ j := Nat.pow_le_pow_right (by omega) hj
  exact Nat.testBit_lt_two_pow (by omega)
theorem X_t {z : Nat → Nat} (hz : ∀ i : Nat, z i < 256) {j : Nat} (hj : j < 24) : ((z 0 <<< 16 ||| z 1 <<< 8) ||| z 2).testBit j = (z (2 - j / 8)).testBit (j % 8) := by
  rw [Nat.testBit_or, Nat.testBit_or, Nat.testBit_shiftLeft, Nat.testBit_shiftLeft]
  by_cases h1 : j < 8
  · rw [decide_eq_false (by omega), decide_eq_false (by omega), show 2 - j / 8 = 2 by omega, show j % 8 = j by omega]
    simp
  · by_cases h2 : j < 16
    · rw [decide_eq_false (by omega), decide_eq_true (by omega), show 2 - j / 8 = 1 by omega, show j % 8 = j - 8 by omega, tb_hi (hz 2) (by omega)]
      simp
    · rw [decide_eq_true (by omega), decide_eq_true (by omega), show 2 - j / 8 = 0 by omega, show j % 8 = j - 16 by omega, tb_hi (hz 2) (by omega), tb_hi (hz 1) (by omega)]
      simp
theorem X_lt {z : Nat → Nat} (hz : ∀ i : Nat, z i < 256) : ((z 0 <<< 16 ||| z 1 <<< 8) ||| z 2) < 2 ^ 24 := by
  have h0 := hz 0
  have h1 := hz 1
  have h2 := hz 2
  apply Nat.or_lt_two_pow
  · apply Nat.or_lt_two_pow
    · rw [Nat.shiftLeft_eq]; omega
    · rw [Nat.shiftLeft_eq]; omega
  · omega
theorem X_nv {z D : Nat → Nat} {a k : Nat} (hz : ∀ i : Nat, z i < 256) (hk : k ≤ 16) (hD : ∀ i : Nat, i < 3 → 8 * (a / 8 + i) < a + k → z i = D (a / 8 + i)) : ((z 0 <<< 16 ||| z 1 <<< 8) ||| z 2) >>> (24 - a % 8 - k) &&& (2 ^ k - 1) = nv D a k := by
  apply Nat.eq_of_testBit_eq
  intro i
  rw [Nat.testBit_and, Nat.testBit_shiftRight, Nat.testBit_two_pow_sub_one, nv_t]
  by_cases h : i < k
  · rw [decide_eq_true h, Bool.and_true, Bool.true_and, X_t hz (by omega)]
    unfold wbit
    have e1 : 2 - (24 - a % 8 - k + i) / 8 = (a + k - 1 - i) / 8 - a / 8 := by omega
    have e2 : (24 - a % 8 - k + i) % 8 = 7 - (a + k - 1 - i) % 8 := by omega
    rw [e1, e2, hD _ (by omega) (by omega), show a / 8 + ((a + k - 1 - i) / 8 - a / 8) = (a + k - 1 - i) / 8 by omega]
  · rw [decide_eq_false h, Bool.and_false, Bool.false_and]
theorem cl_tk {b : Nat → Int32} {D : Nat → Nat} {a k H N : Nat} (hk : k ≤ 16) (hk1 : 1 ≤ k) (hN : N ≤ 3706) (hH : H ≤ N) (ha : a ≤ 8 * H) (hb : cb b N D) : fn_Parser_take (ni k) (ni a) (ni H) b = some (if a + k ≤ 8 * H then (ni (nv D a k), ni (a + k)) else (-1, ni a)) := by
  unfold fn_Parser_take fn_Codewords_holds
  rw [cb1_e, ni_add, show (8 : Int32) = ni 8 from rfl, ni_mul]
  by_cases h : a + k ≤ 8 * H
  · rw [if_pos ((ni_le (by omega) (by omega)).mpr h), if_pos h]
    have e8 : ni a >>> ((3 : Int32) &&& 31) = ni (a / 8) := by
      rw [show ((3 : Int32) &&& 31) = ni 3 from by decide, ni_shr (by omega) (by omega), Nat.shiftRight_eq_div_pow]
    obtain ⟨z1, y1, g1⟩ := cw_any (b := b) (a / 8 + 1) (by omega)
    obtain ⟨z2, y2, g2⟩ := cw_any (b := b) (a / 8 + 2) (by omega)
    have g0 := cw_get hb hN (p := a / 8) (by omega)
    have y0 := (hb (a / 8) (by omega)).2
    simp only [sq_bd]
    rw [e8, g0, cb1_e, show (1 : Int32) = ni 1 from rfl, ni_add, g1, cb1_e, show (2 : Int32) = ni 2 from rfl, ni_add, g2, cb1_e]
    let z : Nat → Nat := fun i => if i = 0 then D (a / 8) else if i = 1 then z1 else z2
    have hz : ∀ i : Nat, z i < 256 := fun i => by
      show (if i = 0 then D (a / 8) else if i = 1 then z1 else z2) < 256
      split
      · exact y0
      · split
        · exact y1
        · exact y2
    have hX := X_lt hz
    have hv := X_nv (z := z) (D := D) (a := a) (k := k) hz hk (fun i hi hq => by
      rcases (show i = 0 ∨ i = 1 ∨ i = 2 by omega) with rfl | rfl | rfl
      · rfl
      · have := cw_get hb hN (p := a / 8 + 1) (by omega)
        rw [g1] at this
        have hd := (hb (a / 8 + 1) (by omega)).2
        have := Option.some.inj this
        rw [ni_eq (by omega) (by omega)] at this
        exact this
      · have := cw_get hb hN (p := a / 8 + 2) (by omega)
        rw [g2] at this
        have hd := (hb (a / 8 + 2) (by omega)).2
        have := Option.some.inj this
        rw [ni_eq (by omega) (by omega)] at this
        exact this)
    have s1 : ((16 : Int32) &&& 31) = ni 16 := by decide
    have s2 : ((ni 8) &&& 31) = ni 8 := by decide
    have s3 : ni a &&& (7 : Int32) = ni (a % 8) := by rw [show (7 : Int32) = ni 7 from rfl, ni_and, show (7 : Nat) = 2 ^ 3 - 1 from rfl, an_p]
    have s4 : ((24 : Int32) - ni (a % 8)) - ni k = ni (24 - a % 8 - k) := by rw [show (24 : Int32) = ni 24 from rfl, ni_sub (by omega), ni_sub (by omega)]
    have an5 : ∀ x : Nat, x < 32 → ni x &&& 31 = ni x := fun x hx => by rw [show (31 : Int32) = ni 31 from rfl, ni_and, show (31 : Nat) = 2 ^ 5 - 1 from rfl, an_p, Nat.mod_eq_of_lt (by omega)]
    have hp : 1 ≤ 2 ^ k := Nat.one_le_two_pow
    rw [s1, s2, s3, s4, an5 _ (by omega), an5 _ (by omega), ni_shl (by omega), ni_shl (by omega), ni_or, ni_or]
    rw [show ((D (a / 8) <<< 16 ||| z1 <<< 8) ||| z2) = ((z 0 <<< 16 ||| z 1 <<< 8) ||| z 2) from rfl]
    rw [ni_shr (by omega) (by omega), ni_shl (by omega), show 1 <<< k = 2 ^ k by rw [Nat.shiftLeft_eq, Nat.one_mul], ni_sub hp, ni_and, hv]
  · rw [if_neg (fun z => h ((ni_le (by omega) (by omega)).mp z)), if_neg h]
