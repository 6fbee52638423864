/-! the class reads its codewords off the modules -/
theorem tc2z {n0 : Nat} {a b c : Int32} {w fw : Nat → Int64} (k13 : Int32 → Int32 → Int32 → Int32 → Option (Int32 × Int32 × Int32 × (Nat → Int32))) (m : Nat) (A x y z : Int32) : fn_Frame_takeCodewords_L2 n0 a b w c fw k13 (m + 1) A (-(ni 1)) x y z = k13 A x y z := by
  rw [fn_Frame_takeCodewords_L2_s, if_pos (by decide)]
def tA (A d : Nat) (b : Bool) : Nat := A ||| (b2 b <<< d)
theorem tA_t {A d : Nat} (b : Bool) (i : Nat) : (tA A d b).testBit i = (A.testBit i || (decide (i = d) && b)) := by
  unfold tA
  rw [Nat.testBit_or, Nat.testBit_shiftLeft]
  congr 1
  by_cases h : i = d
  · rw [decide_eq_true h, h, decide_eq_true (Nat.le_refl _), Nat.sub_self]
    cases b <;> rfl
  · rw [decide_eq_false h]
    by_cases h2 : d ≤ i
    · rw [decide_eq_true h2, tb_b, decide_eq_false (by omega)]
      rfl
    · rw [decide_eq_false h2]
      rfl
theorem tA_lt : ∀ A : Nat, A < 256 → ∀ d : Nat, d < 8 → ∀ b : Bool, tA A d b < 256 := by decide +kernel
theorem tc2 {w fw : Nat → Int64} {s h k n0 T : Nat} {f Q : Nat → Nat → Bool} {V : Nat → Bool} (hn0 : 40000 ≤ n0) (hs : s = 2 * h + 1) (hs1 : 21 ≤ s) (hs2 : s ≤ 177) (hg : GR fw s f) (hw : GR w s Q) (hV : ∀ j : Nat, j < zN s → zE s f j = 1 → V (sc (zE s f) j) = Q (zx s j) (zy s j)) (hT : 8 * T ≤ sc (zE s f) (zN s)) (hk : k < T) : ∀ (d m n A : Nat) (x y : Int32), d < 8 → d + 1 < m → n ≤ zN s → sc (zE s f) n = 8 * k + 7 - d → A < 256 → (∀ i : Nat, i < 8 → A.testBit i = (decide (d < i) && V (8 * k + 7 - i))) → ∃ n' x' y' A', (∀ k13, fn_Frame_takeCodewords_L2 n0 (ni s) (ni s) w (ni s) fw k13 m (ni A) (ni d) (ni n) x y = k13 (ni A') (ni n') x' y') ∧ n' ≤ zN s ∧ sc (zE s f) n' = 8 * (k + 1) ∧ A' < 256 ∧ ∀ i : Nat, i < 8 → A'.testBit i = V (8 * k + 7 - i)
  | d, m + 1, n, A, x, y, hd, hm, hn, hsc, hA, hb => by
    rcases cl_step (x := x) (y := y) (n := n) hn0 hs hs1 hs2 hg hn with ⟨j, j1, j2, j3, j4, j5⟩ | ⟨j1, x', y', j2⟩
    · obtain ⟨i1, i2, i3, i4⟩ := z_in hs j2
      have hbit : Q (zx s j) (zy s j) = V (8 * k + 7 - d) := by rw [← hV j j2 j3, j4, hsc]
      have e1 := gr_dark hs2 hw i1 i2
      have han : d &&& 31 = d := by rw [show (31 : Nat) = 2 ^ 5 - 1 from rfl, an_p, Nat.mod_eq_of_lt (by omega)]
      have hstep : ∀ k13, fn_Frame_takeCodewords_L2 n0 (ni s) (ni s) w (ni s) fw k13 (m + 1) (ni A) (ni d) (ni n) x y = fn_Frame_takeCodewords_L2 n0 (ni s) (ni s) w (ni s) fw k13 m (ni (tA A d (V (8 * k + 7 - d)))) (ni d + -(ni 1)) (ni (j + 1)) (ni (zx s j)) (ni (zy s j)) := fun k13 => by
        rw [fn_Frame_takeCodewords_L2_s, if_neg (by rw [← ni_0, ni_lt (by omega) (by omega)]; omega), j5]
        simp only [sq_cb4]
        rw [if_neg (by decide), e1, cb1_e, hbit]
        simp only [sq_jn, sq_bd]
        unfold tA
        cases V (8 * k + 7 - d) with
        | false =>
          rw [if_pos (show ni (if false = true then 1 else 0) = 0 from rfl), ← ni_0, ni_or, show b2 false = 0 from rfl, Nat.zero_shiftLeft]
          rfl
        | true =>
          rw [if_neg (show ¬ ni (if true = true then 1 else 0) = 0 from by decide), show (31 : Int32) = ni 31 from rfl, ni_and, han, show (1 : Int32) = ni 1 from rfl, ni_shl (by omega), ni_or, show b2 true = 1 from rfl]
      have hsc2 : sc (zE s f) (j + 1) = 8 * k + 7 - d + 1 := by rw [sc_s, j3, j4, hsc]; rfl
      have hb2 : ∀ i : Nat, i < 8 → (tA A d (V (8 * k + 7 - d))).testBit i = (decide (d ≤ i) && V (8 * k + 7 - i)) := fun i hi => by
        rw [tA_t, hb i hi]
        by_cases z : i = d
        · rw [z, decide_eq_false (by omega), decide_eq_true rfl, decide_eq_true (Nat.le_refl _)]
          simp
        · rw [decide_eq_false z]
          by_cases y : d < i
          · rw [decide_eq_true y, decide_eq_true (by omega)]; simp
          · rw [decide_eq_false y, decide_eq_false (by omega)]; simp
      have hA2 := tA_lt A hA d hd (V (8 * k + 7 - d))
      cases d with
      | zero =>
        obtain ⟨m', rfl⟩ : ∃ m', m = m' + 1 := ⟨m - 1, by omega⟩
        exact ⟨j + 1, ni (zx s j), ni (zy s j), _, fun k13 => by rw [hstep, ni_0a, tc2z], by omega, by rw [hsc2]; omega, hA2, fun i hi => by rw [hb2 i hi, decide_eq_true (by omega), Bool.true_and]⟩
      | succ d =>
        obtain ⟨n', x', y', A', g1, g2⟩ := tc2 hn0 hs hs1 hs2 hg hw hV hT hk d m (j + 1) _ (ni (zx s j)) (ni (zy s j)) (by omega) (by omega) (by omega) (by rw [hsc2]; omega) hA2 (fun i hi => by
          rw [hb2 i hi]
          rfl)
        exact ⟨n', x', y', A', fun k13 => by rw [hstep, ni_dc (by omega)]; exact g1 k13, g2⟩
    · omega
theorem tbe_8 {a b : Nat} (ha : a < 256) (hb : b < 256) (h : ∀ i : Nat, i < 8 → a.testBit i = b.testBit i) : a = b := by
  apply Nat.eq_of_testBit_eq
  intro i
  by_cases q : i < 8
  · exact h i q
  · have e : (256 : Nat) ≤ 2 ^ i := by
      have : (2 : Nat) ^ 8 ≤ 2 ^ i := Nat.pow_le_pow_right (by omega) (by omega)
      exact this
    rw [Nat.testBit_lt_two_pow (by omega), Nat.testBit_lt_two_pow (by omega)]
theorem tc1 {w fw : Nat → Int64} {s h n0 H B0 K S M : Nat} {f Q : Nat → Nat → Bool} {V : Nat → Bool} {wN : Nat → Nat} (hn0 : 40000 ≤ n0) (hs : s = 2 * h + 1) (hs1 : 21 ≤ s) (hs2 : s ≤ 177) (hg : GR fw s f) (hw : GR w s Q) (hV : ∀ j : Nat, j < zN s → zE s f j = 1 → V (sc (zE s f) j) = Q (zx s j) (zy s j)) (hv : VN H B0 K S M) (hT : 8 * (H + B0 * K) ≤ sc (zE s f) (zN s)) (hwN : ∀ k : Nat, k < H + B0 * K → wN k < 256) (hwb : ∀ q : Nat, q < 8 * (H + B0 * K) → wbit wN q = V q) : ∀ (e k m n : Nat) (x y : Int32) (b : Nat → Int32), k + e = H + B0 * K → e < m → n ≤ zN s → sc (zE s f) n = 8 * k → (∀ q : Nat, q < k → b (pio H B0 K S M q) &&& 255 = ni (wN q)) → ∃ n' x' y' b', fn_Frame_takeCodewords_L1 n0 (ni s) (ni (H + B0 * K)) (ni H) (ni B0) (ni K) (ni S) (ni M) (ni s) w (ni s) fw m (ni k) (ni n) x y b = some (n', x', y', b') ∧ ∀ q : Nat, q < H + B0 * K → b' (pio H B0 K S M q) &&& 255 = ni (wN q)
  | 0, k, m + 1, n, x, y, b, hk, _, hn, hsc, hb => by
    obtain ⟨h1, h2, h3, h4, h5, h6, h7, h8, h9⟩ := hv
    refine ⟨ni n, x, y, b, ?_, fun q hq => hb q (by omega)⟩
    rw [fn_Frame_takeCodewords_L1_s]
    unfold fn_Codewords_total
    rw [cb1_e, if_pos ((ni_le (by omega) (by omega)).mpr (by omega))]
  | e + 1, k, m + 1, n, x, y, b, hk, hm, hn, hsc, hb => by
    have hv0 := hv
    obtain ⟨h1, h2, h3, h4, h5, h6, h7, h8, h9⟩ := hv0
    have hpl := pio_lt (k := k) hv (by omega)
    have e1 := cl_pio (k := k) hv (by omega)
    obtain ⟨n', x', y', A', g1, g2, g3, g4, g5⟩ := tc2 (k := k) hn0 hs hs1 hs2 hg hw hV hT (by omega) 7 n0 n 0 x y (by omega) (by omega) hn (by omega) (by omega) (fun i hi => by rw [Nat.zero_testBit, decide_eq_false (by omega)]; rfl)
    have hAw : A' = wN k := tbe_8 g4 (hwN k (by omega)) (fun i hi => by
      rw [g5 i hi, ← hwb _ (by omega)]
      unfold wbit
      rw [show (8 * k + 7 - i) / 8 = k by omega, show 7 - (8 * k + 7 - i) % 8 = i by omega])
    have e2 : fn_Codewords_set (ni (pio H B0 K S M k)) (ni (wN k)) b = some (upd b (pio H B0 K S M k) (vp_nar .byte (sq_i2b (ni (wN k))))) := by
      unfold fn_Codewords_set
      rw [if_neg (by rw [ni_nn (by omega)]; exact id), if_neg (show ¬ (3706 : Int32) ≤ ni (pio H B0 K S M k) from fun z => absurd ((ni_le (a := 3706) (by omega) (by omega)).mp z) (by omega))]
      simp only [sq_bd]
      rw [ni_gi (by omega) (by omega), ni_ix (by omega)]
    obtain ⟨n2, x2, y2, b2', r1, r2⟩ := tc1 hn0 hs hs1 hs2 hg hw hV hv hT hwN hwb e (k + 1) m n' x' y' (upd b (pio H B0 K S M k) (vp_nar .byte (sq_i2b (ni (wN k))))) (by omega) (by omega) g2 g3 (fun q hq => by
      rw [upd_a]
      by_cases z : q = k
      · rw [z, if_pos rfl]
        exact by_rt _ (hwN k (by omega))
      · rw [if_neg (fun y => z (pio_inj hv (by omega) (by omega) y))]
        exact hb q (by omega))
    refine ⟨n2, x2, y2, b2', ?_, r2⟩
    have g1' : ∀ k13, fn_Frame_takeCodewords_L2 n0 (ni s) (ni s) w (ni s) fw k13 n0 0 7 (ni n) x y = k13 (ni A') (ni n') x' y' := g1
    rw [fn_Frame_takeCodewords_L1_s, ← r1]
    unfold fn_Codewords_total
    rw [cb1_e, if_neg (fun z => absurd ((ni_le (by omega) (by omega)).mp z) (by omega)), sq_jne, g1', e1, cb1_e, hAw, e2, cb1_e, show (1 : Int32) = ni 1 from rfl, ni_add]
    rfl
theorem b255 (x : Int32) : ∃ n : Nat, n < 256 ∧ x &&& 255 = ni n := by
  refine ⟨(x &&& 255).toBitVec.toNat, ?_, ?_⟩
  · rw [Int32.toBitVec_and, BitVec.toNat_and]
    show x.toBitVec.toNat &&& 255 < 256
    have := Nat.and_le_right (n := x.toBitVec.toNat) (m := 255)
    omega
  · apply Int32.toBitVec_inj.mp
    show _ = BitVec.ofNat 32 _
    rw [BitVec.ofNat_toNat, BitVec.setWidth_eq]
/-- the class takes the mask off, reads, and puts the mask on again -/
theorem cl_take {w fw mr : Nat → Int64} {by0 : Nat → Int32} {l v k n0 : Nat} {P : Nat → Nat → Bool} {wN : Nat → Nat} {a0 a1 a2 : Int32} (hn0 : 40000 ≤ n0) (hl : l < 4) (hv : v < 41) (hv1 : 1 ≤ v) (hk : k < 8) (hg : GR fw (sd v) (FX v)) (hw : GR w (sd v) P) (hwN : ∀ i : Nat, i < acw v → wN i < 256) (hwb : ∀ q : Nat, q < 8 * acw v → wbit wN q = Vb v k P q) : ∃ mr' w1 w2 n' x' y' by1 u, fn_Frame_chooseMask n0 (ni k) (ni (sd v)) mr = some mr' ∧ fn_Frame_turnMask n0 (ni (sd v)) (ni (sd v)) w (ni (sd v)) mr' fw = some w1 ∧ fn_Frame_takeCodewords n0 (ni (sd v)) (ni (acw v)) (ni (nH l v)) (ni (nB l v)) (ni (nK l v)) (ni (nS l v)) (ni (nM l v)) (ni (sd v)) a0 a1 a2 w1 by0 (ni (sd v)) fw = some (n', x', y', by1) ∧ fn_Frame_turnMask n0 (ni (sd v)) (ni (sd v)) w1 (ni (sd v)) mr' fw = some w2 ∧ GR w2 (sd v) P ∧ cb by1 (nH l v + nB l v * nK l v) u ∧ ∀ q : Nat, q < nH l v + nB l v * nK l v → u (pio (nH l v) (nB l v) (nK l v) (nS l v) (nM l v) q) = wN q := by
  obtain ⟨z1, z2, z3, z4, z5, z6, -⟩ := vr_nu l hl v hv hv1
  have hV := vn_ok hl hv hv1
  obtain ⟨mr', e1, b1⟩ := cl_mask (s := sd v) (k := k) (n0 := n0) (by omega) (sd_le hv) hk mr
  obtain ⟨w1, e2, g2⟩ := cl_turnMask (n0 := n0) (by omega) (sd_le hv) hg b1 hw
  obtain ⟨w2, e3, g3⟩ := cl_turnMask (n0 := n0) (by omega) (sd_le hv) hg b1 g2
  have hfr := free_n hv hv1
  obtain ⟨n', x', y', by1, e4, h4⟩ := tc1 (V := Vb v k P) (wN := wN) (n0 := n0) hn0 (sd_h (v := v)) (sd_ge hv1) (sd_le hv) hg g2 (fun j hj hE => by
    rw [Vb_s hj hE]
    have hz : FX v (zx (sd v) j) (zy (sd v) j) = false := by
      unfold zE at hE
      cases h : FX v (zx (sd v) j) (zy (sd v) j)
      · rfl
      · rw [h] at hE; exact absurd hE (by decide)
    rw [hz]
    simp) hV (by rw [z6]; exact hfr) (fun i hi => hwN i (by omega)) (fun q hq => hwb q (by omega)) (nH l v + nB l v * nK l v) 0 n0 0 a1 a2 by0 (by omega) (by omega) (by omega) rfl (fun q hq => absurd hq (by omega))
  refine ⟨mr', w1, w2, n', x', y', by1, fun p => (by1 p &&& 255).toNatClampNeg, e1, e2, ?_, e3, GR_cg g3 (fun a b _ _ => by
    show ((P a b ^^ _) ^^ _) = _
    rw [Bool.xor_assoc, Bool.xor_self, Bool.xor_false]), fun p hp => ?_, fun q hq => ?_⟩
  · rw [z6] at e4
    exact e4
  · obtain ⟨n, h1, h2⟩ := b255 (by1 p)
    show by1 p &&& 255 = ni (by1 p &&& 255).toNatClampNeg ∧ (by1 p &&& 255).toNatClampNeg < 256
    rw [h2, ni_ix (by omega)]
    exact ⟨rfl, h1⟩
  · show (by1 _ &&& 255).toNatClampNeg = _
    have := hwN q (by omega)
    rw [h4 q hq, ni_ix (by omega)]
