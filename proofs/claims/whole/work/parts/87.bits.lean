/-! own rows: bits laid in a row: V is their number, n how many -/
def byt (V n k : Nat) : Nat := V * 2 ^ (8 * (k + 1)) / 2 ^ n % 256
theorem byt_lt (V n k : Nat) : byt V n k < 256 := Nat.mod_lt _ (by omega)
theorem byt_low {V n k : Nat} (h : 8 * (k + 1) ≤ n) : byt V n k = V / 2 ^ (n - 8 * (k + 1)) % 256 := by
  unfold byt
  rw [show n = (n - 8 * (k + 1)) + 8 * (k + 1) by omega, Nat.pow_add, Nat.mul_div_mul_right _ _ (Nat.two_pow_pos _), show n - 8 * (k + 1) + 8 * (k + 1) - 8 * (k + 1) = n - 8 * (k + 1) by omega]
theorem byt_high {V n k : Nat} (h : n ≤ 8 * (k + 1)) : byt V n k = V * 2 ^ (8 * (k + 1) - n) % 256 := by
  unfold byt
  rw [show 8 * (k + 1) = (8 * (k + 1) - n) + n by omega, Nat.pow_add, ← Nat.mul_assoc, Nat.mul_div_cancel _ (Nat.two_pow_pos _), show 8 * (k + 1) - n + n - n = 8 * (k + 1) - n by omega]
theorem byt_z {V n k : Nat} (h : n ≤ 8 * k) : byt V n k = 0 := by
  rw [byt_high (by omega), show 8 * (k + 1) - n = (8 * k - n) + 8 by omega, Nat.pow_add, ← Nat.mul_assoc]
  exact Nat.mul_mod_left _ _
theorem byt_app {V n k v w : Nat} (hv : v < 2 ^ w) (h : 8 * (k + 1) ≤ n) : byt (V * 2 ^ w + v) (n + w) k = byt V n k := by
  rw [byt_low (by omega), byt_low h, show n + w - 8 * (k + 1) = w + (n - 8 * (k + 1)) by omega, Nat.pow_add, ← Nat.div_div_eq_div_mul, Nat.mul_comm V, Nat.mul_add_div (Nat.two_pow_pos _), Nat.div_eq_of_lt hv, Nat.add_zero]
theorem byt_sh (V n e k : Nat) : byt (V * 2 ^ e) (n + e) k = byt V n k := by
  unfold byt
  rw [Nat.pow_add, Nat.mul_assoc, Nat.mul_comm (2 ^ e), ← Nat.mul_assoc, Nat.mul_div_mul_right _ _ (Nat.two_pow_pos _)]
theorem md_s (V m w v : Nat) (hv : v < 2 ^ w) : (V * 2 ^ w + v) % 2 ^ (m + w) = V % 2 ^ m * 2 ^ w + v := by
  have h1 := Nat.div_add_mod V (2 ^ m)
  have h2 : V % 2 ^ m < 2 ^ m := Nat.mod_lt _ (Nat.two_pow_pos _)
  have h3 : V * 2 ^ w + v = 2 ^ (m + w) * (V / 2 ^ m) + (V % 2 ^ m * 2 ^ w + v) := by
    have h4 : V * 2 ^ w = (2 ^ m * (V / 2 ^ m) + V % 2 ^ m) * 2 ^ w := by rw [h1]
    rw [h4, Nat.add_mul, Nat.pow_add, Nat.mul_right_comm (2 ^ m) (2 ^ w)]
    omega
  have h5 : V % 2 ^ m * 2 ^ w + v < 2 ^ (m + w) := by
    have : (V % 2 ^ m + 1) * 2 ^ w ≤ 2 ^ m * 2 ^ w := Nat.mul_le_mul_right _ h2
    rw [Nat.succ_mul, ← Nat.pow_add] at this
    omega
  rw [h3, Nat.mul_add_mod, Nat.mod_eq_of_lt h5]
theorem md_d {V s t : Nat} (h : t + 8 ≤ s) : V % 2 ^ s / 2 ^ t % 256 = V / 2 ^ t % 256 := by
  rw [show s = t + (s - t) by omega, Nat.pow_add, Nat.mod_mul_right_div_self]
  exact Nat.mod_mod_of_dvd _ (show 256 ∣ 2 ^ (s - t) from by rw [show s - t = (s - t - 8) + 8 by omega, Nat.pow_add]; exact Nat.dvd_mul_left _ _)
theorem i2b_255 (x : Int32) : vp_nar .byte (sq_i2b x) &&& 255 = x &&& 255 := by
  rw [vp_nar_byte]
  unfold sq_i2b
  apply Int32.toBitVec_inj.mp
  rw [Int32.toBitVec_and, Int32.toBitVec_and]
  have e : ∀ y : Int32, y.toInt8.toInt32.toBitVec &&& (255 : Int32).toBitVec = y.toBitVec &&& (255 : Int32).toBitVec := by
    intro y
    rw [Int8.toBitVec_toInt32, Int32.toBitVec_toInt8]
    apply BitVec.eq_of_getLsbD_eq
    intro i hi
    rw [BitVec.getLsbD_and, BitVec.getLsbD_and, BitVec.getLsbD_signExtend]
    by_cases q : i < 8
    · rw [if_pos q, BitVec.getLsbD_signExtend, if_pos hi]
      simp [q, hi]
    · have : (255 : Int32).toBitVec.getLsbD i = false := by
        have : ∀ j : Nat, j < 32 → ¬ j < 8 → (255 : Int32).toBitVec.getLsbD j = false := by decide +kernel
        exact this i hi q
      rw [this, Bool.and_false, Bool.and_false]
  rw [e, e]
theorem an_p (x w : Nat) : x &&& (2 ^ w - 1) = x % 2 ^ w := Nat.and_two_pow_sub_one_eq_mod x w
theorem cw_setm {b : Nat → Int32} {p x : Nat} (hp : p < 3706) : fn_Codewords_set (ni p) (ni x) b = some (upd b p (vp_nar .byte (sq_i2b (ni x)))) ∧ vp_nar .byte (sq_i2b (ni x)) &&& 255 = ni (x % 256) := by
  constructor
  · unfold fn_Codewords_set
    simp (disch := omega) only [ni_lit, ni_add, ni_mul, ni_sub, ni_lt, ni_le, ni_ix, ni_eq, ni_div, ni_rem, ni_and, ni_or, ni_xor, ni_shl, ni_shr, ni_gi, ni_gz, ni_max, ni_min, ni_dc, ni_0a, ni_ml, ni_mle, Nat.reduceAnd, Nat.reduceAdd, Nat.reduceMul, Nat.reduceSub, Nat.reduceDiv, Nat.reduceMod, Nat.reduceXor, Nat.reduceShiftLeft, Nat.reduceShiftRight, sq_bd, sq_jn, sq_cb0, sq_cb1, sq_cb2, sq_cb3, sq_cb4, sq_cb5]
    rw [if_neg (by omega), if_neg (by omega)]
  · rw [i2b_255, show (255 : Int32) = ni 255 from rfl, ni_and, show (255 : Nat) = 2 ^ 8 - 1 from rfl, an_p]
/-- the class's bytes so far -/
def CB (b : Nat → Int32) (V n : Nat) : Prop := ∀ k : Nat, k < n / 8 → b k &&& 255 = ni (byt V n k)
theorem ab_l {V n X : Nat} {b0 : Nat → Int32} (hn : n ≤ 8 * 3706) (hX : X < 2 ^ 24) (k6 : Int32 → Int32 → (Nat → Int32) → Option (Int32 × Int32 × Int32 × (Nat → Int32))) : ∀ (j f wb m : Nat) (b : Nat → Int32), wb / 8 = j → j < m → 8 * f + wb = n → wb ≤ 24 → (∀ t : Nat, t + 8 ≤ wb → X / 2 ^ t % 256 = V / 2 ^ t % 256) → (∀ k : Nat, k < f → b k &&& 255 = ni (byt V n k)) → ∃ b', fn_Codewords_appendBits_L1 (ni X) k6 m (ni f) (ni wb) b = k6 (ni (n / 8)) (ni (n % 8)) b' ∧ CB b' V n
  | 0, f, wb, m + 1, b, hj, _, h1, h2, h3, h4 => by
    refine ⟨b, ?_, fun k hk => h4 k (by omega)⟩
    rw [fn_Codewords_appendBits_L1_s]
    simp (disch := omega) only [ni_lit, ni_add, ni_mul, ni_sub, ni_lt, ni_le, ni_ix, ni_eq, ni_div, ni_rem, ni_and, ni_or, ni_xor, ni_shl, ni_shr, ni_gi, ni_gz, ni_max, ni_min, ni_dc, ni_0a, ni_ml, ni_mle, Nat.reduceAnd, Nat.reduceAdd, Nat.reduceMul, Nat.reduceSub, Nat.reduceDiv, Nat.reduceMod, Nat.reduceXor, Nat.reduceShiftLeft, Nat.reduceShiftRight]
    rw [if_pos (by omega), show f = n / 8 by omega, show wb = n % 8 by omega]
  | j + 1, f, wb, m + 1, b, hj, hm, h1, h2, h3, h4 => by
    obtain ⟨s1, s2⟩ := cw_setm (b := b) (p := f) (x := X >>> (wb - 8)) (by omega)
    have hv : X >>> (wb - 8) % 256 = byt V n f := by
      rw [Nat.shiftRight_eq_div_pow, h3 _ (by omega), byt_low (by omega), show n - 8 * (f + 1) = wb - 8 by omega]
    rw [hv] at s2
    obtain ⟨b', g1, g2⟩ := ab_l (b0 := b0) hn hX k6 j (f + 1) (wb - 8) m (upd b f (vp_nar .byte (sq_i2b (ni (X >>> (wb - 8)))))) (by omega) (by omega) (by omega) (by omega) (fun t ht => h3 t (by omega)) (fun k hk => by
      rw [upd_a]
      by_cases q : k = f
      · rw [if_pos q, q]; exact s2
      · rw [if_neg q]; exact h4 k (by omega))
    refine ⟨b', ?_, g2⟩
    have han : wb - 8 &&& 31 = wb - 8 := by rw [show (31 : Nat) = 2 ^ 5 - 1 from rfl, an_p, Nat.mod_eq_of_lt (by omega)]
    rw [fn_Codewords_appendBits_L1_s, ← g1]
    simp (disch := omega) only [ni_lit, ni_add, ni_mul, ni_sub, ni_lt, ni_le, ni_ix, ni_eq, ni_div, ni_rem, ni_and, ni_or, ni_xor, ni_shl, ni_shr, ni_gi, ni_gz, ni_max, ni_min, ni_dc, ni_0a, ni_ml, ni_mle, Nat.reduceAnd, Nat.reduceAdd, Nat.reduceMul, Nat.reduceSub, Nat.reduceDiv, Nat.reduceMod, Nat.reduceXor, Nat.reduceShiftLeft, Nat.reduceShiftRight, sq_bd, sq_jn, sq_cb0, sq_cb1, sq_cb2, sq_cb3, sq_cb4, sq_cb5, han, s1]
    rw [if_neg (by omega)]
theorem cl_append {V n v w n0 : Nat} {b : Nat → Int32} (hn0 : 300 ≤ n0) (hv : v < 2 ^ w) (hw : w ≤ 16) (hn : n + w ≤ 8 * 3706) (hb : CB b V n) : ∃ b', fn_Codewords_appendBits n0 (ni v) (ni w) (ni (n / 8)) (ni (V % 2 ^ (n % 8))) (ni (n % 8)) b = some (ni ((n + w) / 8), ni ((V * 2 ^ w + v) % 2 ^ ((n + w) % 8)), ni ((n + w) % 8), b') ∧ CB b' (V * 2 ^ w + v) (n + w) := by
  have hW : V % 2 ^ (n % 8) < 2 ^ (n % 8) := Nat.mod_lt _ (Nat.two_pow_pos _)
  have hX : (V % 2 ^ (n % 8)) <<< w ||| v = (V * 2 ^ w + v) % 2 ^ (n % 8 + w) := by
    rw [← Nat.shiftLeft_add_eq_or_of_lt hv, Nat.shiftLeft_eq, md_s _ _ _ _ hv]
  have hXl : (V * 2 ^ w + v) % 2 ^ (n % 8 + w) < 2 ^ 24 := Nat.lt_of_lt_of_le (Nat.mod_lt _ (Nat.two_pow_pos _)) (Nat.pow_le_pow_right (by omega) (by omega))
  have hWl : V % 2 ^ (n % 8) < 128 := Nat.lt_of_lt_of_le hW (show 2 ^ (n % 8) ≤ 2 ^ 7 from Nat.pow_le_pow_right (by omega) (by omega))
  have han : w &&& 31 = w := by rw [show (31 : Nat) = 2 ^ 5 - 1 from rfl, an_p, Nat.mod_eq_of_lt (by omega)]
  have han2 : (n + w) % 8 &&& 31 = (n + w) % 8 := by rw [show (31 : Nat) = 2 ^ 5 - 1 from rfl, an_p, Nat.mod_eq_of_lt (by omega)]
  obtain ⟨b', g1, g2⟩ := ab_l (V := V * 2 ^ w + v) (n := n + w) (X := (V * 2 ^ w + v) % 2 ^ (n % 8 + w)) (b0 := b) hn hXl (fun (b3 : Int32) (b4 : Int32) (b5 : Nat → Int32) => some (b3, ni ((V * 2 ^ w + v) % 2 ^ (n % 8 + w)) &&& (((1 : Int32) <<< (b4 &&& 31)) - (1 : Int32)), b4, b5)) ((n % 8 + w) / 8) (n / 8) (n % 8 + w) n0 b rfl (by omega) (by omega) (by omega) (fun t ht => md_d ht) (fun k hk => by rw [byt_app hv (by omega)]; exact hb k hk)
  refine ⟨b', ?_, g2⟩
  have hfin : ni ((V * 2 ^ w + v) % 2 ^ (n % 8 + w)) &&& (((1 : Int32) <<< (ni ((n + w) % 8) &&& 31)) - (1 : Int32)) = ni ((V * 2 ^ w + v) % 2 ^ ((n + w) % 8)) := by
    have hp := Nat.two_pow_pos ((n + w) % 8)
    simp (disch := omega) only [ni_lit, ni_and, han2, ni_shl]
    rw [Nat.shiftLeft_eq, Nat.one_mul, ni_sub hp, ni_and, an_p, Nat.mod_mod_of_dvd _ (show 2 ^ ((n + w) % 8) ∣ 2 ^ (n % 8 + w) from Nat.pow_dvd_pow 2 (by omega))]
  unfold fn_Codewords_appendBits
  rw [hfin] at g1
  simp (disch := omega) only [ni_and, ni_lit, ni_shl, ni_or, ni_add, sq_bd, sq_jn, sq_cb0, sq_cb1, sq_cb2, sq_cb3, sq_cb4, sq_cb5, han, hX]
  exact g1
/-! the model's -/
def MB (b : Nat → Int32) (V n : Nat) : Prop := ∀ k : Nat, k < 3800 → b k = ni (byt V n k)
theorem or_add {a b s : Nat} (hb : b < 2 ^ s) : a * 2 ^ s ||| b = a * 2 ^ s + b := by
  rw [← Nat.shiftLeft_eq, Nat.shiftLeft_add_eq_or_of_lt hb]
theorem MB_1 {b : Nat → Int32} {V n t : Nat} (h : MB b V n) (ht : t ≤ 1) : MB (upd b (n / 8) (ni (byt V n (n / 8) ||| t <<< (7 - n % 8)))) (V * 2 + t) (n + 1) := by
  intro k hk
  rw [upd_a]
  by_cases q : k = n / 8
  · rw [if_pos q]
    congr 1
    subst q
    rw [byt_high (show n ≤ 8 * (n / 8 + 1) by omega), byt_high (show n + 1 ≤ 8 * (n / 8 + 1) by omega), show 8 * (n / 8 + 1) - n = 8 - n % 8 by omega, show 8 * (n / 8 + 1) - (n + 1) = 7 - n % 8 by omega]
    have hm : n % 8 < 8 := Nat.mod_lt _ (by omega)
    generalize n % 8 = m at hm
    have e1 : V * 2 ^ (8 - m) % 256 = (V % 2 ^ m) * 2 ^ (8 - m) := by
      rw [show 256 = 2 ^ m * 2 ^ (8 - m) by rw [← Nat.pow_add, show m + (8 - m) = 8 by omega], Nat.mul_mod_mul_right]
    have hVm : V % 2 ^ m < 2 ^ m := Nat.mod_lt _ (Nat.two_pow_pos _)
    have hp1 : 2 ^ (8 - m) = 2 * 2 ^ (7 - m) := by rw [show 8 - m = (7 - m) + 1 by omega, Nat.pow_succ, Nat.mul_comm]
    have hlt : t * 2 ^ (7 - m) < 2 ^ (8 - m) := by
      have h9 := Nat.two_pow_pos (7 - m)
      have : t * 2 ^ (7 - m) ≤ 1 * 2 ^ (7 - m) := Nat.mul_le_mul_right _ ht
      omega
    rw [e1, Nat.shiftLeft_eq, or_add hlt]
    have e2 : (V * 2 + t) * 2 ^ (7 - m) = V * 2 ^ (8 - m) + t * 2 ^ (7 - m) := by
      rw [Nat.add_mul, hp1, Nat.mul_assoc]
    rw [e2]
    have h3 : V % 2 ^ m * 2 ^ (8 - m) + t * 2 ^ (7 - m) < 256 := by
      have h4 : (V % 2 ^ m + 1) * 2 ^ (8 - m) ≤ 2 ^ m * 2 ^ (8 - m) := Nat.mul_le_mul_right _ hVm
      rw [← Nat.pow_add, show m + (8 - m) = 8 by omega, Nat.succ_mul] at h4
      omega
    rw [Nat.add_mod, e1]
    rw [Nat.mod_eq_of_lt (show t * 2 ^ (7 - m) < 256 by omega), Nat.mod_eq_of_lt h3]
  · rw [if_neg q, h k hk]
    congr 1
    by_cases w : k < n / 8
    · have := byt_app (V := V) (n := n) (k := k) (v := t) (w := 1) (by omega) (by omega)
      rw [Nat.pow_one] at this
      exact this.symm
    · rw [byt_z (by omega), byt_z (by omega)]
theorem tbb_1 (v k : Nat) : v >>> k &&& 1 = v / 2 ^ k % 2 := by rw [Nat.and_one_is_mod, Nat.shiftRight_eq_div_pow]
theorem ly_z {p1 : Int32} (m : Nat) (f : Int32) (b : Nat → Int32) : fn_Md_lay_L1 p1 (m + 1) (-(ni 1)) f b = some (f, b) := by
  rw [fn_Md_lay_L1_s, if_pos (by decide)]
theorem ly_l {v w V n : Nat} (hv : v < 2 ^ w) (hw : w ≤ 16) (hn : n + w ≤ 8 * 3800) : ∀ (d j m : Nat) (b : Nat → Int32), j + d + 1 = w → d + 1 < m → MB b (V * 2 ^ j + v / 2 ^ (d + 1)) (n + j) → ∃ b', fn_Md_lay_L1 (ni v) m (ni d) (ni (n + j)) b = some (ni (n + w), b') ∧ MB b' (V * 2 ^ w + v) (n + w)
  | d, j, m + 1, b, hj, hm, hb => by
    have hvl : v < 2147483648 := Nat.lt_of_lt_of_le hv (Nat.le_trans (Nat.pow_le_pow_right (by omega) hw) (by omega))
    have han : d &&& 31 = d := by rw [show (31 : Nat) = 2 ^ 5 - 1 from rfl, an_p, Nat.mod_eq_of_lt (by omega)]
    have han2 : 7 - (n + j) % 8 &&& 31 = 7 - (n + j) % 8 := by rw [show (31 : Nat) = 2 ^ 5 - 1 from rfl, an_p, Nat.mod_eq_of_lt (by omega)]
    have e1 := hb ((n + j) / 8) (by omega)
    have hmb := MB_1 (t := v / 2 ^ d % 2) hb (by omega)
    have eV : (V * 2 ^ j + v / 2 ^ (d + 1)) * 2 + v / 2 ^ d % 2 = V * 2 ^ (j + 1) + v / 2 ^ d := by
      have h1 : v / 2 ^ (d + 1) = v / 2 ^ d / 2 := by rw [Nat.pow_succ, Nat.div_div_eq_div_mul]
      have h2 := Nat.div_add_mod (v / 2 ^ d) 2
      rw [h1, Nat.add_mul, Nat.pow_succ, Nat.mul_assoc]
      omega
    rw [eV] at hmb
    have hstep : fn_Md_lay_L1 (ni v) (m + 1) (ni d) (ni (n + j)) b = fn_Md_lay_L1 (ni v) m (ni d + -(ni 1)) (ni (n + j + 1)) (upd b ((n + j) / 8) (ni (byt (V * 2 ^ j + v / 2 ^ (d + 1)) (n + j) ((n + j) / 8) ||| (v / 2 ^ d % 2) <<< (7 - (n + j) % 8)))) := by
      rw [fn_Md_lay_L1_s]
      simp (disch := omega) only [ni_lit, ni_lt, ni_and, han, ni_shr, tbb_1, ni_div, ni_rem, ni_sub, han2, ni_shl, ni_gi, ni_ix, e1, ni_or, ni_add, sq_bd, sq_jn, sq_cb0, sq_cb1, sq_cb2, sq_cb3, sq_cb4, sq_cb5]
      rw [if_neg (by omega)]
    cases d with
    | zero =>
      obtain ⟨m', rfl⟩ : ∃ m', m = m' + 1 := ⟨m - 1, by omega⟩
      refine ⟨_, by rw [hstep, ni_0a, ly_z, show n + j + 1 = n + w by omega], ?_⟩
      rw [show j + 1 = w by omega, show V * 2 ^ w + v / 2 ^ 0 = V * 2 ^ w + v by rw [Nat.pow_zero, Nat.div_one]] at hmb
      rw [show n + j + 1 = n + w by omega] at hmb
      exact hmb
    | succ d =>
      rw [hstep, ni_dc (by omega)]
      exact ly_l hv hw hn d (j + 1) m _ (by omega) (by omega) hmb
theorem md_lay {v w V n n0 : Nat} {b : Nat → Int32} (hn0 : 300 ≤ n0) (hv : v < 2 ^ w) (hw : w ≤ 16) (hn : n + w ≤ 8 * 3800) (hb : MB b V n) : ∃ b', fn_Md_lay n0 (ni v) (ni w) (ni n) b = some (ni (n + w), b') ∧ MB b' (V * 2 ^ w + v) (n + w) := by
  unfold fn_Md_lay
  by_cases q : w = 0
  · subst q
    obtain ⟨m', rfl⟩ : ∃ m', n0 = m' + 1 := ⟨n0 - 1, by omega⟩
    refine ⟨b, ?_, ?_⟩
    · simp only [sq_bd]
      rw [show ni 0 - 1 = -(ni 1) from by decide, ly_z]
      rfl
    · rw [Nat.pow_zero] at hv
      rw [Nat.pow_zero, show v = 0 by omega, Nat.mul_one, Nat.add_zero, Nat.add_zero]
      exact hb
  · simp (disch := omega) only [ni_lit, sq_bd, ni_sub]
    have := ly_l (V := V) hv hw hn (w - 1) 0 n0 b (by omega) (by omega) (by
      rw [show w - 1 + 1 = w by omega, Nat.div_eq_of_lt hv, Nat.pow_zero, Nat.mul_one, Nat.add_zero, Nat.add_zero]; exact hb)
    rw [Nat.add_zero] at this
    exact this
