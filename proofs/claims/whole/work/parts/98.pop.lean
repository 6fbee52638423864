/-! own rows: how many bits are set -/
def un (z : Int64) : Nat := z.toBitVec.toNat
theorem un_lt (z : Int64) : un z < 2 ^ 64 := z.toBitVec.isLt
theorem bt_un (z : Int64) (i : Nat) : bt z i = (un z).testBit i := by unfold bt un; rw [BitVec.testBit_toNat]
theorem un_and (a b : Int64) : un (a &&& b) = un a &&& un b := by unfold un; rw [Int64.toBitVec_and, BitVec.toNat_and]
theorem un_add (a b : Int64) : un (a + b) = (un a + un b) % 2 ^ 64 := by unfold un; rw [Int64.toBitVec_add, BitVec.toNat_add]
theorem un_sub {a b : Int64} (h : un b ≤ un a) : un (a - b) = un a - un b := by
  have h1 := un_lt a
  unfold un at *
  rw [Int64.toBitVec_sub, BitVec.toNat_sub]
  omega
theorem un_shr (z : Int64) {k : Nat} (hk : k < 64) : un (sq_lushr z (ni k)) = un z >>> k := by
  unfold un sq_lushr
  rw [UInt64.toBitVec_toInt64]
  rw [UInt64.toBitVec_shiftRight]
  have e := (sh_k k hk).2
  have e2 : ((ni k).toInt64.toUInt64 &&& Int64.toUInt64 63).toBitVec % 64 = BitVec.ofNat 64 k := by
    apply BitVec.eq_of_toNat_eq
    rw [BitVec.toNat_umod, UInt64.toNat_toBitVec, e, BitVec.toNat_ofNat]
    show k % 64 = _
    omega
  rw [e2, BitVec.ushiftRight_eq', BitVec.toNat_ofNat, Nat.mod_eq_of_lt (by omega), BitVec.toNat_ushiftRight]
  rfl
theorem and_sp {a b c e : Nat} (ha : a < 256) (hc : c < 256) : (a + 256 * b) &&& (c + 256 * e) = (a &&& c) + 256 * (b &&& e) := by
  apply Nat.eq_of_testBit_eq
  intro i
  have hac : a &&& c < 2 ^ 8 := Nat.and_lt_two_pow _ hc
  have t : ∀ x y : Nat, x < 2 ^ 8 → (x + 256 * y).testBit i = if i < 8 then x.testBit i else y.testBit (i - 8) := fun x y hx => by
    rw [Nat.add_comm, show 256 * y = 2 ^ 8 * y from rfl, Nat.testBit_two_pow_mul_add y hx]
  rw [Nat.testBit_and, t a b ha, t c e hc, t _ _ hac]
  split
  · rw [Nat.testBit_and]
  · rw [Nat.testBit_and]
theorem shr_sp {a b c e k : Nat} (ha : a < 256) (hk : k ≤ 8) (hc : c < 2 ^ (8 - k)) : ((a + 256 * b) >>> k) &&& (c + 256 * e) = ((a >>> k) &&& c) + 256 * ((b >>> k) &&& e) := by
  have h1 : (a + 256 * b) >>> k = a / 2 ^ k + 2 ^ (8 - k) * b := by
    rw [Nat.shiftRight_eq_div_pow, show 256 * b = 2 ^ k * (2 ^ (8 - k) * b) by rw [← Nat.mul_assoc, ← Nat.pow_add, show k + (8 - k) = 8 by omega], Nat.add_mul_div_left _ _ (Nat.two_pow_pos _)]
  have h2 : b = b % 2 ^ k + 2 ^ k * (b / 2 ^ k) := by have := Nat.mod_add_div b (2 ^ k); omega
  have h3 : 2 ^ (8 - k) * b = 2 ^ (8 - k) * (b % 2 ^ k) + 256 * (b / 2 ^ k) := by
    conv => lhs; rw [h2]
    rw [Nat.mul_add, ← Nat.mul_assoc, ← Nat.pow_add, show 8 - k + k = 8 by omega]
  have hal : a / 2 ^ k < 2 ^ (8 - k) := by
    rw [Nat.div_lt_iff_lt_mul (Nat.two_pow_pos _), ← Nat.pow_add, show 8 - k + k = 8 by omega]; exact ha
  have hbl : b % 2 ^ k < 2 ^ k := Nat.mod_lt _ (Nat.two_pow_pos _)
  have hlt : a / 2 ^ k + 2 ^ (8 - k) * (b % 2 ^ k) < 256 := by
    have : 2 ^ (8 - k) * (b % 2 ^ k + 1) ≤ 2 ^ (8 - k) * 2 ^ k := Nat.mul_le_mul_left _ hbl
    rw [Nat.mul_add, ← Nat.pow_add, show 8 - k + k = 8 by omega] at this
    omega
  have hc8 : c < 256 := Nat.lt_of_lt_of_le hc (show 2 ^ (8 - k) ≤ 2 ^ 8 from Nat.pow_le_pow_right (by omega) (by omega))
  rw [h1, h3, ← Nat.add_assoc, and_sp hlt hc8, Nat.shiftRight_eq_div_pow, Nat.shiftRight_eq_div_pow]
  congr 1
  apply Nat.eq_of_testBit_eq
  intro i
  rw [Nat.testBit_and, Nat.testBit_and, Nat.add_comm, Nat.testBit_two_pow_mul_add _ hal]
  by_cases q : i < 8 - k
  · rw [if_pos q]
  · rw [if_neg q, Nat.testBit_lt_two_pow (Nat.lt_of_lt_of_le hc (Nat.pow_le_pow_right (by omega) (by omega))), Bool.and_false, Bool.and_false]
def mm (c : Nat) : Nat → Nat
  | 0 => 0
  | n + 1 => c + 256 * mm c n
def pcb (a : Nat) : Nat := sc (fun i => b2 (a.testBit i)) 8
def G1 (n u : Nat) : Nat := u - ((u >>> 1) &&& mm 85 n)
def G2 (n u : Nat) : Nat := (G1 n u &&& mm 51 n) + ((G1 n u >>> 2) &&& mm 51 n)
def G3 (n u : Nat) : Nat := (G2 n u + (G2 n u >>> 4)) &&& mm 15 n
def f1 (a : Nat) : Nat := a - ((a >>> 1) &&& 85)
def f2 (a : Nat) : Nat := (f1 a &&& 51) + ((f1 a >>> 2) &&& 51)
theorem by_1 : ∀ a : Nat, a < 256 → (a >>> 1) &&& 85 ≤ a ∧ f1 a < 256 ∧ f2 a ≤ 68 ∧ f2 a % 16 ≤ 4 ∧ f2 a / 16 ≤ 4 ∧ f2 a % 16 + f2 a / 16 = pcb a ∧ pcb a ≤ 8 := by decide +kernel
theorem G1_le : ∀ (n u : Nat), (u >>> 1) &&& mm 85 n ≤ u
  | 0, u => by show (u >>> 1) &&& 0 ≤ u; rw [Nat.and_zero]; omega
  | n + 1, u => by
    have e : u = u % 256 + 256 * (u / 256) := by omega
    have h := shr_sp (a := u % 256) (b := u / 256) (c := 85) (e := mm 85 n) (k := 1) (by omega) (by omega) (by decide)
    rw [← e] at h
    have h1 := (by_1 (u % 256) (by omega)).1
    have h2 := G1_le n (u / 256)
    show (u >>> 1) &&& (85 + 256 * mm 85 n) ≤ u
    rw [h]; omega
theorem G1_s {n a b : Nat} (ha : a < 256) : G1 (n + 1) (a + 256 * b) = f1 a + 256 * G1 n b := by
  have h := shr_sp (a := a) (b := b) (c := 85) (e := mm 85 n) (k := 1) ha (by omega) (by decide)
  have h1 := (by_1 a ha).1
  have h2 := G1_le n b
  show a + 256 * b - (((a + 256 * b) >>> 1) &&& (85 + 256 * mm 85 n)) = a - ((a >>> 1) &&& 85) + 256 * (b - ((b >>> 1) &&& mm 85 n))
  rw [h]; omega
theorem G2_s {n a b : Nat} (ha : a < 256) : G2 (n + 1) (a + 256 * b) = f2 a + 256 * G2 n b := by
  have h1 := (by_1 a ha).2.1
  unfold G2
  rw [G1_s ha]
  show ((f1 a + 256 * G1 n b) &&& (51 + 256 * mm 51 n)) + (((f1 a + 256 * G1 n b) >>> 2) &&& (51 + 256 * mm 51 n)) = _
  rw [and_sp h1 (by omega), shr_sp h1 (by omega) (by decide)]
  show _ = (f1 a &&& 51) + ((f1 a >>> 2) &&& 51) + 256 * ((G1 n b &&& mm 51 n) + ((G1 n b >>> 2) &&& mm 51 n))
  omega
theorem G2_m (n u : Nat) : G2 n u % 16 ≤ 4 := by
  cases n with
  | zero =>
    have : G2 0 u = 0 := by
      unfold G2
      rw [show mm 51 0 = 0 from rfl, Nat.and_zero, Nat.and_zero]
    rw [this]; omega
  | succ n =>
    have e : u = u % 256 + 256 * (u / 256) := by omega
    have h := G2_s (n := n) (a := u % 256) (b := u / 256) (by omega)
    rw [← e] at h
    have h1 := (by_1 (u % 256) (by omega)).2.2.2.1
    rw [h]; omega
theorem G3_s {n a b : Nat} (ha : a < 256) : G3 (n + 1) (a + 256 * b) = pcb a + 256 * G3 n b := by
  obtain ⟨h1, h2, h3, h4, h5, h6, h7⟩ := by_1 a ha
  have hm := G2_m n b
  unfold G3
  rw [G2_s ha, Nat.shiftRight_eq_div_pow, Nat.shiftRight_eq_div_pow]
  have e : f2 a + 256 * G2 n b + (f2 a + 256 * G2 n b) / 2 ^ 4 = (f2 a + f2 a / 16 + 16 * (G2 n b % 16)) + 256 * (G2 n b + G2 n b / 2 ^ 4) := by
    rw [show (2 : Nat) ^ 4 = 16 from rfl]; omega
  rw [e]
  show ((f2 a + f2 a / 16 + 16 * (G2 n b % 16)) + 256 * (G2 n b + G2 n b / 2 ^ 4)) &&& (15 + 256 * mm 15 n) = _
  rw [and_sp (by omega) (by omega)]
  congr 1
  rw [show (15 : Nat) = 2 ^ 4 - 1 from rfl, an_p, show (2 : Nat) ^ 4 = 16 from rfl]
  omega
theorem G3_0 (u : Nat) : G3 0 u = 0 := by
  unfold G3
  rw [show mm 15 0 = 0 from rfl, Nat.and_zero]
theorem G3_d (n u : Nat) : G3 (n + 1) u = pcb (u % 256) + 256 * G3 n (u / 256) := by
  have h := G3_s (n := n) (a := u % 256) (b := u / 256) (by omega)
  rw [show u % 256 + 256 * (u / 256) = u by omega] at h
  exact h
theorem pcb_le (u : Nat) : pcb (u % 256) ≤ 8 := (by_1 (u % 256) (by omega)).2.2.2.2.2.2
theorem sc_add (E : Nat → Nat) (a : Nat) : ∀ b : Nat, sc E (a + b) = sc E a + sc (fun i => E (a + i)) b
  | 0 => rfl
  | b + 1 => by
    rw [show a + (b + 1) = a + b + 1 by omega, sc_s, sc_add E a b, sc_s]; omega
def cN : Nat → Nat → Nat
  | 0, _ => 0
  | n + 1, u => pcb (u % 256) + cN n (u / 256)
theorem cN_sc : ∀ (n u : Nat), cN n u = sc (fun i => b2 (u.testBit i)) (8 * n)
  | 0, _ => rfl
  | n + 1, u => by
    show pcb (u % 256) + cN n (u / 256) = _
    rw [cN_sc n (u / 256), show 8 * (n + 1) = 8 + 8 * n by omega, sc_add]
    congr 1
    · refine sc_cg (fun j hj => ?_)
      rw [show (256 : Nat) = 2 ^ 8 from rfl, Nat.testBit_mod_two_pow, decide_eq_true hj, Bool.true_and]
    · refine sc_cg (fun j hj => ?_)
      rw [show (256 : Nat) = 2 ^ 8 from rfl, Nat.testBit_div_two_pow, Nat.add_comm]
theorem G1_lt {n u : Nat} : G1 n u ≤ u := by unfold G1; omega
theorem G3_8 (u : Nat) : G3 8 u = pcb (u % 256) + 256 * (pcb (u / 256 % 256) + 256 * (pcb (u / 256 / 256 % 256) + 256 * (pcb (u / 256 / 256 / 256 % 256) + 256 * (pcb (u / 256 / 256 / 256 / 256 % 256) + 256 * (pcb (u / 256 / 256 / 256 / 256 / 256 % 256) + 256 * (pcb (u / 256 / 256 / 256 / 256 / 256 / 256 % 256) + 256 * pcb (u / 256 / 256 / 256 / 256 / 256 / 256 / 256 % 256))))))) := by
  rw [G3_d 7, G3_d 6, G3_d 5, G3_d 4, G3_d 3, G3_d 2, G3_d 1, G3_d 0, G3_0, Nat.mul_zero, Nat.add_zero]
def pop (z : Int64) : Nat := sc (fun i => b2 (bt z i)) 64
theorem pop_N (z : Int64) : pop z = cN 8 (un z) := by
  rw [cN_sc]
  exact sc_cg (fun j _ => by rw [bt_un])
theorem l2i_127 (w : Int64) : sq_l2i w &&& 127 = ni (un w % 128) := by
  unfold sq_l2i
  apply Int32.toBitVec_inj.mp
  rw [Int32.toBitVec_and]
  apply BitVec.eq_of_toNat_eq
  rw [BitVec.toNat_and]
  show (w.toInt32.toBitVec.toNat &&& 127) = (BitVec.ofNat 32 (un w % 128)).toNat
  rw [BitVec.toNat_ofNat, Nat.mod_eq_of_lt (show un w % 128 < 2 ^ 32 by omega), show (127 : Nat) = 2 ^ 7 - 1 from rfl, an_p]
  rw [Int64.toBitVec_toInt32, BitVec.signExtend_eq_setWidth_of_le _ (by omega), BitVec.toNat_setWidth]
  show un w % 2 ^ 32 % 2 ^ 7 = un w % 128
  rw [Nat.mod_mod_of_dvd _ (by decide)]
theorem G2_le (u : Nat) (hu : u < 2 ^ 64) : G2 8 u + G2 8 u / 16 < 2 ^ 64 := by
  have key : ∀ n u : Nat, G2 n u ≤ mm 68 n := by
    intro n
    induction n with
    | zero =>
      intro u
      unfold G2
      rw [show mm 51 0 = 0 from rfl, Nat.and_zero, Nat.and_zero]; exact Nat.le_refl _
    | succ n ih =>
      intro u
      have h := G2_s (n := n) (a := u % 256) (b := u / 256) (by omega)
      rw [show u % 256 + 256 * (u / 256) = u by omega] at h
      have h1 := (by_1 (u % 256) (by omega)).2.2.1
      have h2 := ih (u / 256)
      show _ ≤ 68 + 256 * mm 68 n
      omega
  have := key 8 u
  have e : mm 68 8 = 4919131752989213764 := by decide
  omega
theorem pp4 {a0 a1 a2 a3 a4 a5 a6 a7 : Nat} (p0 : a0 ≤ 8) (p1 : a1 ≤ 8) (p2 : a2 ≤ 8) (p3 : a3 ≤ 8) (p4 : a4 ≤ 8) (p5 : a5 ≤ 8) (p6 : a6 ≤ 8) (p7 : a7 ≤ 8) : ((a0 + 256 * (a1 + 256 * (a2 + 256 * (a3 + 256 * (a4 + 256 * (a5 + 256 * (a6 + 256 * a7))))))) + (a0 + 256 * (a1 + 256 * (a2 + 256 * (a3 + 256 * (a4 + 256 * (a5 + 256 * (a6 + 256 * a7))))))) / 256) % 18446744073709551616 = (a0 + a1) + 256 * ((a1 + a2) + 256 * ((a2 + a3) + 256 * ((a3 + a4) + 256 * ((a4 + a5) + 256 * ((a5 + a6) + 256 * ((a6 + a7) + 256 * a7)))))) := by
  have hd : ∀ Y : Nat, (a0 + 256 * Y) / 256 = Y := fun Y => by omega
  rw [hd, Nat.mod_eq_of_lt (by omega)]
  omega
theorem pp5 {b0 b1 b2 b3 b4 b5 b6 b7 : Nat} (p0 : b0 ≤ 16) (p1 : b1 ≤ 16) (p2 : b2 ≤ 16) (p3 : b3 ≤ 16) (p4 : b4 ≤ 16) (p5 : b5 ≤ 16) (p6 : b6 ≤ 16) (p7 : b7 ≤ 16) : ((b0 + 256 * (b1 + 256 * (b2 + 256 * (b3 + 256 * (b4 + 256 * (b5 + 256 * (b6 + 256 * b7))))))) + (b0 + 256 * (b1 + 256 * (b2 + 256 * (b3 + 256 * (b4 + 256 * (b5 + 256 * (b6 + 256 * b7))))))) / 65536) % 18446744073709551616 = (b0 + b2) + 256 * ((b1 + b3) + 256 * ((b2 + b4) + 256 * ((b3 + b5) + 256 * ((b4 + b6) + 256 * ((b5 + b7) + 256 * (b6 + 256 * b7)))))) := by
  have hd : ∀ Y : Nat, (b0 + 256 * (b1 + 256 * Y)) / 65536 = Y := fun Y => by omega
  rw [hd, Nat.mod_eq_of_lt (by omega)]
  omega
theorem pp6 {b0 b1 b2 b3 b4 b5 b6 b7 : Nat} (p0 : b0 ≤ 32) (p1 : b1 ≤ 32) (p2 : b2 ≤ 32) (p3 : b3 ≤ 32) (p4 : b4 ≤ 32) (p5 : b5 ≤ 32) (p6 : b6 ≤ 32) (p7 : b7 ≤ 32) : ((b0 + 256 * (b1 + 256 * (b2 + 256 * (b3 + 256 * (b4 + 256 * (b5 + 256 * (b6 + 256 * b7))))))) + (b0 + 256 * (b1 + 256 * (b2 + 256 * (b3 + 256 * (b4 + 256 * (b5 + 256 * (b6 + 256 * b7))))))) / 4294967296) % 18446744073709551616 % 128 = b0 + b4 := by
  have hd : ∀ Y : Nat, (b0 + 256 * (b1 + 256 * (b2 + 256 * (b3 + 256 * Y)))) / 4294967296 = Y := fun Y => by omega
  have hlt : b0 + 256 * (b1 + 256 * (b2 + 256 * (b3 + 256 * (b4 + 256 * (b5 + 256 * (b6 + 256 * b7)))))) + (b4 + 256 * (b5 + 256 * (b6 + 256 * b7))) < 18446744073709551616 := by omega
  rw [hd, Nat.mod_eq_of_lt hlt]
  have e : b0 + 256 * (b1 + 256 * (b2 + 256 * (b3 + 256 * (b4 + 256 * (b5 + 256 * (b6 + 256 * b7)))))) + (b4 + 256 * (b5 + 256 * (b6 + 256 * b7))) = (b0 + b4) + 128 * (2 * (b1 + 256 * (b2 + 256 * (b3 + 256 * (b4 + 256 * (b5 + 256 * (b6 + 256 * b7)))))) + 2 * (b5 + 256 * (b6 + 256 * b7))) := by omega
  rw [e, Nat.add_mul_mod_self_left, Nat.mod_eq_of_lt (by omega)]
theorem cl_pop (z : Int64) : fn_JLong_bitCount z = some (ni (pop z)) := by
  have hu := un_lt z
  have hG1 := G1_le 8 (un z)
  have hG2 := G2_le (un z) hu
  have h85 : un 6148914691236517205 = mm 85 8 := by decide
  have h51 : un 3689348814741910323 = mm 51 8 := by decide
  have h15 : un 1085102592571150095 = mm 15 8 := by decide
  have e1 : un (z - (sq_lushr z 1 &&& 6148914691236517205)) = G1 8 (un z) := by
    have h0 : un (sq_lushr z 1 &&& 6148914691236517205) = (un z >>> 1) &&& mm 85 8 := by
      rw [un_and, h85, show (1 : Int32) = ni 1 from rfl, un_shr z (by omega)]
    rw [un_sub (by rw [h0]; exact hG1), h0]; rfl
  unfold fn_JLong_bitCount
  simp only [sq_bd]
  generalize z - (sq_lushr z 1 &&& 6148914691236517205) = w2 at e1
  have e2 : un ((w2 &&& 3689348814741910323) + (sq_lushr w2 2 &&& 3689348814741910323)) = G2 8 (un z) := by
    rw [un_add, un_and, un_and, h51, show (2 : Int32) = ni 2 from rfl, un_shr w2 (by omega), e1]
    exact Nat.mod_eq_of_lt (show G2 8 (un z) < 2 ^ 64 by omega)
  generalize (w2 &&& 3689348814741910323) + (sq_lushr w2 2 &&& 3689348814741910323) = w4 at e2
  have e3 : un ((w4 + sq_lushr w4 4) &&& 1085102592571150095) = G3 8 (un z) := by
    rw [un_and, un_add, h15, show (4 : Int32) = ni 4 from rfl, un_shr w4 (by omega), e2, Nat.shiftRight_eq_div_pow, Nat.mod_eq_of_lt hG2]
    unfold G3
    rw [Nat.shiftRight_eq_div_pow]
  generalize (w4 + sq_lushr w4 4) &&& 1085102592571150095 = w6 at e3
  rw [G3_8] at e3
  have hpop := pop_N z
  have hcN : cN 8 (un z) = pcb (un z % 256) + (pcb (un z / 256 % 256) + (pcb (un z / 256 / 256 % 256) + (pcb (un z / 256 / 256 / 256 % 256) + (pcb (un z / 256 / 256 / 256 / 256 % 256) + (pcb (un z / 256 / 256 / 256 / 256 / 256 % 256) + (pcb (un z / 256 / 256 / 256 / 256 / 256 / 256 % 256) + (pcb (un z / 256 / 256 / 256 / 256 / 256 / 256 / 256 % 256) + 0))))))) := rfl
  rw [hcN] at hpop
  have p0 := pcb_le (un z)
  have p1 := pcb_le (un z / 256)
  have p2 := pcb_le (un z / 256 / 256)
  have p3 := pcb_le (un z / 256 / 256 / 256)
  have p4 := pcb_le (un z / 256 / 256 / 256 / 256)
  have p5 := pcb_le (un z / 256 / 256 / 256 / 256 / 256)
  have p6 := pcb_le (un z / 256 / 256 / 256 / 256 / 256 / 256)
  have p7 := pcb_le (un z / 256 / 256 / 256 / 256 / 256 / 256 / 256)
  generalize pcb (un z % 256) = a0 at *
  generalize pcb (un z / 256 % 256) = a1 at *
  generalize pcb (un z / 256 / 256 % 256) = a2 at *
  generalize pcb (un z / 256 / 256 / 256 % 256) = a3 at *
  generalize pcb (un z / 256 / 256 / 256 / 256 % 256) = a4 at *
  generalize pcb (un z / 256 / 256 / 256 / 256 / 256 % 256) = a5 at *
  generalize pcb (un z / 256 / 256 / 256 / 256 / 256 / 256 % 256) = a6 at *
  generalize pcb (un z / 256 / 256 / 256 / 256 / 256 / 256 / 256 % 256) = a7 at *
  have e4 : un (w6 + sq_lushr w6 8) = (a0 + a1) + 256 * ((a1 + a2) + 256 * ((a2 + a3) + 256 * ((a3 + a4) + 256 * ((a4 + a5) + 256 * ((a5 + a6) + 256 * ((a6 + a7) + 256 * a7)))))) := by
    rw [un_add, show (8 : Int32) = ni 8 from rfl, un_shr w6 (by omega), e3, Nat.shiftRight_eq_div_pow, show (2 : Nat) ^ 8 = 256 from rfl, show (2 : Nat) ^ 64 = 18446744073709551616 from rfl]
    exact pp4 p0 p1 p2 p3 p4 p5 p6 p7
  generalize w6 + sq_lushr w6 8 = w8 at e4
  have e5 : un (w8 + sq_lushr w8 16) = (a0 + a1 + a2 + a3) + 256 * ((a1 + a2 + a3 + a4) + 256 * ((a2 + a3 + a4 + a5) + 256 * ((a3 + a4 + a5 + a6) + 256 * ((a4 + a5 + a6 + a7) + 256 * ((a5 + a6 + a7) + 256 * ((a6 + a7) + 256 * a7)))))) := by
    rw [un_add, show (16 : Int32) = ni 16 from rfl, un_shr w8 (by omega), e4, Nat.shiftRight_eq_div_pow, show (2 : Nat) ^ 16 = 65536 from rfl, show (2 : Nat) ^ 64 = 18446744073709551616 from rfl]
    rw [pp5 (by omega) (by omega) (by omega) (by omega) (by omega) (by omega) (by omega) (by omega)]
    omega
  generalize w8 + sq_lushr w8 16 = w10 at e5
  have e6 : un (w10 + sq_lushr w10 32) % 128 = a0 + a1 + a2 + a3 + a4 + a5 + a6 + a7 := by
    rw [un_add, show (32 : Int32) = ni 32 from rfl, un_shr w10 (by omega), e5, Nat.shiftRight_eq_div_pow, show (2 : Nat) ^ 32 = 4294967296 from rfl, show (2 : Nat) ^ 64 = 18446744073709551616 from rfl]
    rw [pp6 (by omega) (by omega) (by omega) (by omega) (by omega) (by omega) (by omega) (by omega)]
    omega
  rw [l2i_127, e6, hpop]
  congr 2
  omega
