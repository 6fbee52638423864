/-! own rows: bits of a long -/
def bt (z : Int64) (i : Nat) : Bool := z.toBitVec.getLsbD i
theorem bt_ext {a b : Int64} (h : ∀ i : Nat, i < 64 → bt a i = bt b i) : a = b := Int64.toBitVec_inj.mp (BitVec.eq_of_getLsbD_eq h)
theorem bt_and (a b : Int64) (i : Nat) : bt (a &&& b) i = (bt a i && bt b i) := by unfold bt; rw [Int64.toBitVec_and, BitVec.getLsbD_and]
theorem bt_or (a b : Int64) (i : Nat) : bt (a ||| b) i = (bt a i || bt b i) := by unfold bt; rw [Int64.toBitVec_or, BitVec.getLsbD_or]
theorem bt_xor (a b : Int64) (i : Nat) : bt (a ^^^ b) i = (bt a i ^^ bt b i) := by unfold bt; rw [Int64.toBitVec_xor, BitVec.getLsbD_xor]
theorem bt_0 (i : Nat) : bt 0 i = false := BitVec.getLsbD_zero
theorem bt_m1 (i : Nat) : bt (-1) i = decide (i < 64) := by
  show (Int64.toBitVec (-1)).getLsbD i = _
  rw [show (Int64.toBitVec (-1)) = BitVec.allOnes 64 from by decide, BitVec.getLsbD_allOnes]
theorem bt_hi (a : Int64) {i : Nat} (h : 64 ≤ i) : bt a i = false := BitVec.getLsbD_of_ge _ _ h
theorem sh_k : ∀ k : Nat, k < 64 → ((ni k).toInt64 &&& 63).toBitVec.smod 64 = BitVec.ofNat 64 k ∧ ((ni k).toInt64.toUInt64 &&& Int64.toUInt64 63).toNat = k := by decide +kernel
theorem bt_shl (z : Int64) {k : Nat} (hk : k < 64) (i : Nat) : bt (sq_lshl z (ni k)) i = (decide (i < 64) && (decide (k ≤ i) && bt z (i - k))) := by
  unfold bt sq_lshl
  show (z.toBitVec <<< (((ni k).toInt64 &&& 63).toBitVec.smod 64)).getLsbD i = _
  rw [(sh_k k hk).1, BitVec.shiftLeft_eq', BitVec.toNat_ofNat, Nat.mod_eq_of_lt (by omega), BitVec.getLsbD_shiftLeft]
  by_cases q : k ≤ i
  · rw [show decide (i < k) = false from decide_eq_false (by omega), decide_eq_true q]; simp
  · rw [show decide (i < k) = true from decide_eq_true (by omega), decide_eq_false q]; simp
theorem bt_ushr (z : Int64) {k : Nat} (hk : k < 64) (i : Nat) : bt (sq_lushr z (ni k)) i = bt z (i + k) := by
  unfold bt sq_lushr
  rw [UInt64.toBitVec_toInt64]
  rw [UInt64.toBitVec_shiftRight]
  have e := (sh_k k hk).2
  have e2 : ((ni k).toInt64.toUInt64 &&& Int64.toUInt64 63).toBitVec % 64 = BitVec.ofNat 64 k := by
    apply BitVec.eq_of_toNat_eq
    rw [BitVec.toNat_umod, UInt64.toNat_toBitVec, e, BitVec.toNat_ofNat]
    show k % 64 = _
    omega
  rw [e2, BitVec.ushiftRight_eq', BitVec.toNat_ofNat, Nat.mod_eq_of_lt (by omega), BitVec.getLsbD_ushiftRight, Nat.add_comm]
  rfl
theorem bt_1 (i : Nat) : bt 1 i = decide (i = 0) := by
  show (Int64.toBitVec 1).getLsbD i = _
  rw [show (Int64.toBitVec 1) = BitVec.ofNat 64 1 from by decide, BitVec.getLsbD_ofNat]
  by_cases q : i = 0
  · subst q; rfl
  · rw [decide_eq_false q]
    have : Nat.testBit 1 i = false := by
      cases h : Nat.testBit 1 i with
      | false => rfl
      | true => exact absurd (Nat.testBit_one_eq_true_iff_self_eq_zero.mp h) q
    rw [this, Bool.and_false]
theorem lw_k : ∀ k : Nat, k < 64 → ∀ i : Nat, i < 64 → bt (sq_lshl 1 (ni k) - 1) i = decide (i < k) := by decide +kernel
theorem lt_I {x y : Int32} : (x < y) = (x.toInt < y.toInt) := propext Int32.lt_iff_toInt_lt
theorem le_I {x y : Int32} : (x ≤ y) = (x.toInt ≤ y.toInt) := propext Int32.le_iff_toInt_le
theorem ni_of {x : Int32} (h : 0 ≤ x.toInt) : x = ni x.toInt.toNat ∧ x.toInt.toNat < 2147483648 := by
  rcases ni_cases x with q | ⟨n, h1, h2⟩
  · rw [lt_I] at q
    have : (0 : Int32).toInt = 0 := by decide
    omega
  · rw [h2, ni_toI h1]
    exact ⟨rfl, h1⟩
theorem lowB (p : Int32) : ∃ u, fn_Sq_lowBits p = some u ∧ ∀ i : Nat, i < 64 → bt u i = decide ((i : Int) < p.toInt) := by
  unfold fn_Sq_lowBits
  have h0 : (0 : Int32).toInt = 0 := by decide
  have h64 : (64 : Int32).toInt = 64 := by decide
  simp only [lt_I, h0, h64, sq_bd]
  by_cases q : 0 < p.toInt
  · rw [if_pos q]
    by_cases w : p.toInt < 64
    · rw [if_pos w]
      obtain ⟨e, _⟩ := ni_of (x := p) (by omega)
      refine ⟨_, rfl, fun i hi => ?_⟩
      rw [e, lw_k _ (by omega) i hi, ni_toI (by omega)]
      rw [decide_eq_decide]; omega
    · rw [if_neg w]
      refine ⟨_, rfl, fun i hi => ?_⟩
      rw [bt_m1, decide_eq_decide]; omega
  · rw [if_neg q]
    refine ⟨_, rfl, fun i hi => ?_⟩
    rw [bt_0]
    exact (decide_eq_false (by omega)).symm
theorem updL_a (f : Nat → Int64) (k j : Nat) (x : Int64) : vp_updL f k x j = if j = k then x else f j := rfl
/-- the modules P of a grid with the side s -/
def GR (w : Nat → Int64) (s : Nat) (P : Nat → Nat → Bool) : Prop := ∀ y : Nat, y < 177 → ∀ x : Nat, x < 192 → bt (w (3 * y + x / 64)) (x % 64) = (decide (x < s ∧ y < s) && P x y)
theorem GR_cg {w : Nat → Int64} {s : Nat} {P Q : Nat → Nat → Bool} (h : GR w s P) (e : ∀ x y : Nat, x < s → y < s → P x y = Q x y) : GR w s Q := fun y hy x hx => by
  rw [h y hy x hx]
  by_cases q : x < s ∧ y < s
  · rw [e x y q.1 q.2]
  · rw [decide_eq_false q]; rfl
theorem GR_u {w : Nat → Int64} {s : Nat} {P Q : Nat → Nat → Bool} (h : GR w s P) (e : ∀ y : Nat, y < s → ∀ x : Nat, x < s → bt (w (3 * y + x / 64)) (x % 64) = Q x y) : ∀ x y : Nat, x < s → y < s → s ≤ 177 → P x y = Q x y := fun x y hx hy hs => by
  rw [← e y hy x hx, h y (by omega) x (by omega), decide_eq_true ⟨hx, hy⟩]; rfl
theorem gr_in {a b s : Nat} (ha : a < s) (hb : b < s) (hs : s ≤ 177) : fn_Grid_isInside (ni a) (ni b) (ni s) = some (ni 1) := by
  unfold fn_Grid_isInside
  simp (disch := omega) only [ni_lit, ni_lt, ni_le]
  rw [if_neg (by omega), if_neg (by omega), if_neg (by omega), if_neg (by omega)]
theorem gr_out {x y : Int32} {s : Nat} (hs : s ≤ 177) (h : ∀ a b : Nat, a < s → b < s → ¬ (x = ni a ∧ y = ni b)) : fn_Grid_isInside x y (ni s) = some (ni 0) := by
  have h0 : (0 : Int32).toInt = 0 := by decide
  unfold fn_Grid_isInside
  simp only [lt_I, le_I, h0, ni_toI (show s < 2147483648 by omega)]
  by_cases q1 : x.toInt < 0
  · rw [if_pos q1]; rfl
  rw [if_neg q1]
  by_cases q2 : (s : Int) ≤ x.toInt
  · rw [if_pos q2]; rfl
  rw [if_neg q2]
  by_cases q3 : y.toInt < 0
  · rw [if_pos q3]; rfl
  rw [if_neg q3]
  by_cases q4 : (s : Int) ≤ y.toInt
  · rw [if_pos q4]; rfl
  · exfalso
    exact h x.toInt.toNat y.toInt.toNat (by omega) (by omega) ⟨(ni_of (by omega)).1, (ni_of (by omega)).1⟩
theorem an_63 (x : Nat) : x &&& 63 = x % 64 := an_p x 6
theorem sr_6 (x : Nat) : x >>> 6 = x / 64 := by rw [Nat.shiftRight_eq_div_pow]
theorem gr_set {w : Nat → Int64} {s d : Nat} {P : Nat → Nat → Bool} (hs : s ≤ 177) (h : GR w s P) (hd : d ≤ 1) (x y : Int32) : ∃ w', fn_Grid_set x y (ni d) (ni s) w = some w' ∧ GR w' s (fun a b => if x = ni a ∧ y = ni b then decide (d = 1) else P a b) := by
  by_cases q : ∃ a b : Nat, a < s ∧ b < s ∧ x = ni a ∧ y = ni b
  · obtain ⟨a, b, ha, hb, rfl, rfl⟩ := q
    have key : ∀ z : Int64, (∀ i : Nat, i < 64 → bt z i = if i = a % 64 then decide (d = 1) else bt (w (3 * b + a / 64)) i) → GR (vp_updL w (3 * b + a / 64) z) s (fun x y => if ni a = ni x ∧ ni b = ni y then decide (d = 1) else P x y) := by
      intro z hz y hy x hx
      rw [updL_a]
      have e : (ni a = ni x ∧ ni b = ni y) = (x = a ∧ y = b) := by
        rw [ni_eq (by omega) (by omega), ni_eq (by omega) (by omega)]
        apply propext; omega
      simp only [e]
      by_cases q1 : 3 * y + x / 64 = 3 * b + a / 64
      · rw [if_pos q1, hz _ (by omega)]
        by_cases q2 : x % 64 = a % 64
        · rw [if_pos q2, if_pos (by omega), decide_eq_true (show x < s ∧ y < s by omega)]; rfl
        · rw [if_neg q2, if_neg (by omega), ← h y hy x hx, q1]
      · rw [if_neg q1, if_neg (by omega)]
        exact h y hy x hx
    unfold fn_Grid_set
    rw [gr_in ha hb hs]
    simp (disch := omega) only [ni_lit, ni_add, ni_mul, ni_sub, ni_lt, ni_le, ni_ix, ni_eq, ni_div, ni_rem, ni_and, ni_or, ni_xor, ni_shl, ni_shr, ni_gi, ni_gz, ni_max, ni_min, ni_dc, ni_0a, ni_ml, ni_mle, Nat.reduceAnd, Nat.reduceAdd, Nat.reduceMul, Nat.reduceSub, Nat.reduceDiv, Nat.reduceMod, Nat.reduceXor, Nat.reduceShiftLeft, Nat.reduceShiftRight, sq_bd, sq_jn, sq_cb0, sq_cb1, sq_cb2, sq_cb3, sq_cb4, sq_cb5, an_63, sr_6]
    rw [if_neg (by omega)]
    by_cases q : d = 0
    · rw [if_pos q]
      refine ⟨_, rfl, key _ (fun i hi => ?_)⟩
      rw [bt_and, bt_xor, show (-(1 : Int64)) = -1 from rfl, bt_m1, bt_shl _ (by omega), bt_1]
      by_cases q1 : i = a % 64
      · rw [if_pos q1, q1]; simp [q]
      · rw [if_neg q1]
        by_cases q2 : a % 64 ≤ i
        · simp [hi, q2]; omega
        · simp [hi, q2]
    · rw [if_neg q]
      refine ⟨_, rfl, key _ (fun i hi => ?_)⟩
      rw [bt_or, bt_shl _ (by omega), bt_1]
      by_cases q1 : i = a % 64
      · rw [if_pos q1, q1]
        have hd1 : d = 1 := by omega
        have hlt : a % 64 < 64 := Nat.mod_lt _ (by omega)
        simp [hd1, hlt]
      · rw [if_neg q1]
        by_cases q2 : a % 64 ≤ i
        · simp [hi, q2]; omega
        · simp [hi, q2]
  · have hno : ∀ a b : Nat, a < s → b < s → ¬ (x = ni a ∧ y = ni b) := fun a b ha hb hh => q ⟨a, b, ha, hb, hh.1, hh.2⟩
    refine ⟨w, ?_, GR_cg h (fun a b ha hb => by rw [if_neg (hno a b ha hb)])⟩
    unfold fn_Grid_set
    rw [gr_out hs hno]
    rfl
theorem lcmp_1 (z : Int64) : (sq_lcmp (z &&& 1) 1 = 0) = (bt z 0 = true) := by
  unfold sq_lcmp lg_cmp
  have e : z &&& 1 = if bt z 0 then 1 else 0 := by
    apply bt_ext
    intro i hi
    rw [bt_and, bt_1]
    by_cases q : bt z 0
    · rw [if_pos q, bt_1]
      by_cases w : i = 0
      · rw [w, q]; rfl
      · simp [w]
    · rw [if_neg q, bt_0]
      by_cases w : i = 0
      · simp [w, q]
      · simp [w]
  rw [e]
  by_cases q : bt z 0
  · rw [if_pos q]; simp [q]
  · rw [if_neg q]; simp [q]
theorem gr_dark {w : Nat → Int64} {s a b : Nat} {P : Nat → Nat → Bool} (hs : s ≤ 177) (h : GR w s P) (ha : a < s) (hb : b < s) : fn_Grid_isDark (ni a) (ni b) (ni s) w = some (ni (if P a b then 1 else 0)) := by
  unfold fn_Grid_isDark
  rw [gr_in ha hb hs]
  simp (disch := omega) only [ni_lit, ni_add, ni_mul, ni_sub, ni_lt, ni_le, ni_ix, ni_eq, ni_div, ni_rem, ni_and, ni_or, ni_xor, ni_shl, ni_shr, ni_gi, ni_gz, ni_max, ni_min, ni_dc, ni_0a, ni_ml, ni_mle, Nat.reduceAnd, Nat.reduceAdd, Nat.reduceMul, Nat.reduceSub, Nat.reduceDiv, Nat.reduceMod, Nat.reduceXor, Nat.reduceShiftLeft, Nat.reduceShiftRight, sq_bd, sq_jn, sq_cb0, sq_cb1, sq_cb2, sq_cb3, sq_cb4, sq_cb5, an_63, sr_6]
  rw [if_neg (by omega)]
  have e := h b (by omega) a (by omega)
  rw [decide_eq_true (show a < s ∧ b < s from ⟨ha, hb⟩), Bool.true_and] at e
  have e2 := lcmp_1 (sq_lushr (w (3 * b + a / 64)) (ni (a % 64)))
  rw [bt_ushr _ (by omega), Nat.zero_add, e] at e2
  by_cases q : P a b = true
  · rw [if_pos q, if_pos (by rw [show ni 0 = 0 from rfl, e2]; exact q)]
  · rw [if_neg q, if_neg (by rw [show ni 0 = 0 from rfl, e2]; exact q)]
