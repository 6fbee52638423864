/-! own rows: 64 modules at once; masks of the class -/
def inP (s : Nat) (P : Nat → Nat → Bool) (a b : Int) : Bool := decide (0 ≤ a ∧ a < s ∧ 0 ≤ b ∧ b < s) && P a.toNat b.toNat
theorem inP_no {s : Nat} {P : Nat → Nat → Bool} {a b : Int} (h : ¬ (0 ≤ a ∧ a < s ∧ 0 ≤ b ∧ b < s)) : inP s P a b = false := by unfold inP; rw [decide_eq_false h]; rfl
theorem inP_yes {s : Nat} {P : Nat → Nat → Bool} {a b : Nat} (ha : a < s) (hb : b < s) : inP s P a b = P a b := by
  unfold inP
  rw [decide_eq_true (by omega)]
  rfl
theorem ng_k : ∀ k : Nat, k < 64 → (-(ni k)).toInt = -(k : Int) := by decide +kernel
theorem neg_of {x : Int32} (h1 : -64 < x.toInt) (h2 : x.toInt < 0) : -x = ni (-x.toInt).toNat := by
  have e : x = -(ni (-x.toInt).toNat) := by
    apply Int32.toInt_inj.mp
    rw [ng_k _ (by omega)]; omega
  conv => lhs; rw [e]
  rw [Int32.neg_neg]
theorem GR_b {w : Nat → Int64} {s a b : Nat} {P : Nat → Nat → Bool} (h : GR w s P) (hb : b < s) (hs : s ≤ 177) (ha : a < 192) : bt (w (3 * b + a / 64)) (a % 64) = inP s P a b := by
  rw [h b (by omega) a ha]
  unfold inP
  congr 1
  rw [decide_eq_decide]; omega
theorem gr_from {w : Nat → Int64} {s : Nat} {P : Nat → Nat → Bool} (hs : s ≤ 177) (h : GR w s P) (x y : Int32) : ∃ u, fn_Grid_from x y (ni s) w = some u ∧ ∀ i : Nat, i < 64 → bt u i = inP s P (x.toInt + i) y.toInt := by
  have h0 : (0 : Int32).toInt = 0 := by decide
  have h64 : (-64 : Int32).toInt = -64 := by decide
  unfold fn_Grid_from
  simp only [lt_I, le_I, h0, h64, ni_toI (show s < 2147483648 by omega)]
  by_cases q1 : y.toInt < 0
  · rw [if_pos q1]; exact ⟨0, rfl, fun i hi => by rw [bt_0, inP_no (by omega)]⟩
  rw [if_neg q1]
  by_cases q2 : (s : Int) ≤ y.toInt
  · rw [if_pos q2]; exact ⟨0, rfl, fun i hi => by rw [bt_0, inP_no (by omega)]⟩
  rw [if_neg q2]
  by_cases q3 : (s : Int) ≤ x.toInt
  · rw [if_pos q3]; exact ⟨0, rfl, fun i hi => by rw [bt_0, inP_no (by omega)]⟩
  rw [if_neg q3]
  by_cases q4 : -64 < x.toInt
  · rw [if_pos q4]
    obtain ⟨ey, -⟩ := ni_of (x := y) (by omega)
    generalize hb : y.toInt.toNat = b at ey
    have hbI : y.toInt = (b : Int) := by omega
    by_cases q5 : 0 ≤ x.toInt
    · rw [if_pos q5]
      obtain ⟨ex, -⟩ := ni_of (x := x) (by omega)
      generalize ha : x.toInt.toNat = a at ex
      have haI : x.toInt = (a : Int) := by omega
      have has : a < s := by omega
      have hbs : b < s := by omega
      rw [haI, hbI, ex, ey]
      clear ha hb haI hbI ex ey q1 q2 q3 q4 q5
      simp (disch := omega) only [ni_lit, ni_add, ni_mul, ni_sub, ni_lt, ni_le, ni_ix, ni_eq, ni_div, ni_rem, ni_and, ni_or, ni_xor, ni_shl, ni_shr, ni_gi, ni_gz, ni_max, ni_min, ni_dc, ni_0a, ni_ml, ni_mle, Nat.reduceAnd, Nat.reduceAdd, Nat.reduceMul, Nat.reduceSub, Nat.reduceDiv, Nat.reduceMod, Nat.reduceXor, Nat.reduceShiftLeft, Nat.reduceShiftRight, sq_bd, sq_jn, sq_cb0, sq_cb1, sq_cb2, sq_cb3, sq_cb4, sq_cb5, an_63, sr_6]
      by_cases w0 : a % 64 = 0
      · rw [if_pos w0]
        refine ⟨_, rfl, fun i hi => ?_⟩
        rw [bt_ushr _ (by omega)]
        have := GR_b (a := a + i) h hbs hs (by omega)
        rw [show (a + i) / 64 = a / 64 by omega, show (a + i) % 64 = i + a % 64 by omega] at this
        rw [this]; congr 1
      · rw [if_neg w0]
        rw [ni_toI (show a / 64 + 1 < 2147483648 by omega), ni_toI (show 3 < 2147483648 by omega)]
        by_cases w1 : a / 64 + 1 < 3
        · rw [if_pos (show ((a / 64 + 1 : Nat) : Int) < ((3 : Nat) : Int) by omega), if_pos trivial, ni_gi (by omega) (by omega)]
          refine ⟨_, rfl, fun i hi => ?_⟩
          rw [bt_or, bt_ushr _ (by omega), bt_shl _ (by omega)]
          have := GR_b (a := a + i) h hbs hs (by omega)
          rw [show ((a : Int) + (i : Int)) = ((a + i : Nat) : Int) from by omega, ← this]
          by_cases w2 : i + a % 64 < 64
          · rw [show (a + i) / 64 = a / 64 by omega, show (a + i) % 64 = i + a % 64 by omega, decide_eq_false (show ¬ 64 - a % 64 ≤ i by omega)]
            simp
          · rw [bt_hi _ (show 64 ≤ i + a % 64 by omega), show (a + i) / 64 = a / 64 + 1 by omega, show (a + i) % 64 = i - (64 - a % 64) by omega, decide_eq_true (show 64 - a % 64 ≤ i by omega), decide_eq_true hi]
            simp [Nat.add_assoc]
        · rw [if_neg (show ¬ ((a / 64 + 1 : Nat) : Int) < ((3 : Nat) : Int) by omega)]
          refine ⟨_, rfl, fun i hi => ?_⟩
          rw [bt_ushr _ (by omega)]
          by_cases w2 : i + a % 64 < 64
          · have := GR_b (a := a + i) h hbs hs (by omega)
            rw [show (a + i) / 64 = a / 64 by omega, show (a + i) % 64 = i + a % 64 by omega] at this
            rw [this]; congr 1
          · rw [bt_hi _ (by omega), inP_no (by omega)]
    · rw [if_neg q5, neg_of q4 (by omega)]
      have hbs : b < s := by omega
      rw [hbI, ey]
      generalize hk : (-x.toInt).toNat = k
      have hxk : x.toInt = -(k : Int) := by omega
      rw [hxk]
      simp (disch := omega) only [ni_lit, ni_add, ni_mul, ni_sub, ni_lt, ni_le, ni_ix, ni_eq, ni_div, ni_rem, ni_and, ni_or, ni_xor, ni_shl, ni_shr, ni_gi, ni_gz, ni_max, ni_min, ni_dc, ni_0a, ni_ml, ni_mle, Nat.reduceAnd, Nat.reduceAdd, Nat.reduceMul, Nat.reduceSub, Nat.reduceDiv, Nat.reduceMod, Nat.reduceXor, Nat.reduceShiftLeft, Nat.reduceShiftRight, sq_bd, sq_jn, sq_cb0, sq_cb1, sq_cb2, sq_cb3, sq_cb4, sq_cb5]
      refine ⟨_, rfl, fun i hi => ?_⟩
      rw [bt_shl _ (by omega)]
      by_cases w2 : k ≤ i
      · have := GR_b (a := i - k) h hbs hs (by omega)
        rw [show (i - k) / 64 = 0 by omega, show (i - k) % 64 = i - k by omega, Nat.add_zero] at this
        rw [decide_eq_true w2, decide_eq_true hi, this]
        simp only [Bool.true_and]
        congr 1; omega
      · rw [decide_eq_false w2, inP_no (by omega)]
        simp
  · rw [if_neg q4]; exact ⟨0, rfl, fun i hi => by rw [bt_0, inP_no (by omega)]⟩
theorem sI_64 {s k : Nat} (hs : s ≤ 177) (hk : k < 3) : (ni s - (64 : Int32) * ni k).toInt = (s : Int) - 64 * k := by
  rw [show (64 : Int32) = ni 64 from rfl, ni_mul, ni_sI (by omega) (by omega)]; omega
theorem gr_turn {w : Nat → Int64} {s k b : Nat} {P : Nat → Nat → Bool} (hs : s ≤ 177) (h : GR w s P) (hk : k < 3) (hb : b < s) (z : Int64) : ∃ t w', fn_Grid_turn (ni k) (ni b) z (ni s) w = some (ni (pop t), w') ∧ (∀ i : Nat, i < 64 → bt t i = (bt z i && decide (64 * k + i < s))) ∧ GR w' s (fun x y => P x y ^^ (decide (y = b ∧ x / 64 = k) && bt z (x % 64))) := by
  obtain ⟨u, e1, h1⟩ := lowB (ni s - (64 : Int32) * ni k)
  rw [sI_64 hs hk] at h1
  refine ⟨z &&& u, vp_updL w (3 * b + k) (w (3 * b + k) ^^^ (z &&& u)), ?_, fun i hi => ?_, fun y hy x hx => ?_⟩
  · unfold fn_Grid_turn
    rw [e1]
    simp (disch := omega) only [ni_lit, ni_add, ni_mul, ni_sub, ni_lt, ni_le, ni_ix, ni_eq, ni_div, ni_rem, ni_and, ni_or, ni_xor, ni_shl, ni_shr, ni_gi, ni_gz, ni_max, ni_min, ni_dc, ni_0a, ni_ml, ni_mle, Nat.reduceAnd, Nat.reduceAdd, Nat.reduceMul, Nat.reduceSub, Nat.reduceDiv, Nat.reduceMod, Nat.reduceXor, Nat.reduceShiftLeft, Nat.reduceShiftRight, sq_bd, sq_jn, sq_cb0, sq_cb1, sq_cb2, sq_cb3, sq_cb4, sq_cb5, cl_pop]
    rw [if_neg (by omega), if_neg (by omega), if_neg (by omega), if_pos hb]
  · rw [bt_and, h1 i hi]
    congr 1
    rw [decide_eq_decide]; omega
  · dsimp only
    rw [updL_a]
    by_cases q : 3 * y + x / 64 = 3 * b + k
    · rw [if_pos q, bt_xor, bt_and, h1 _ (by omega)]
      have hyb : y = b ∧ x / 64 = k := by omega
      rw [← q, h y hy x hx, decide_eq_true hyb]
      by_cases w2 : x < s
      · rw [decide_eq_true (show x < s ∧ y < s by omega), decide_eq_true (by omega)]
        simp
      · rw [decide_eq_false (show ¬ (x < s ∧ y < s) by omega), decide_eq_false (by omega)]
        simp
    · rw [if_neg q, h y hy x hx, decide_eq_false (show ¬ (y = b ∧ x / 64 = k) by omega)]
      simp
/-! the class's mask -/
def MW (mr : Nat → Int64) (s k : Nat) (Y : Nat) (X : Nat) : Prop := ∀ y : Nat, y < 12 → ∀ x : Nat, x < 192 → bt (mr (3 * y + x / 64)) (x % 64) = (decide (x < s ∧ (y < Y ∨ (y = Y ∧ x < X))) && mk k x y)
theorem cm_2 {s k Y : Nat} (hs : s ≤ 177) (hk : k < 8) (hY : Y < 12) : ∀ (e X m : Nat) (mr : Nat → Int64), X + e = s → e < m → MW mr s k Y X → ∃ mr', (∀ k7, fn_Frame_chooseMask_L2 (ni k) (ni s) (ni Y) k7 m (ni X) mr = k7 mr') ∧ MW mr' s k (Y + 1) 0
  | 0, X, m + 1, mr, hX, _, h => by
    have hXs : X = s := by omega
    subst hXs
    refine ⟨mr, fun k7 => ?_, fun y hy x hx => ?_⟩
    · rw [fn_Frame_chooseMask_L2_s]
      simp (disch := omega) only [ni_le]
      rw [if_pos (by omega)]
    · rw [h y hy x hx]
      congr 1
      rw [decide_eq_decide]; omega
  | e + 1, X, m + 1, mr, hX, hm, h => by
    have e1 := cl_turned (k := k) (x := X) (y := Y) hk (by omega) (by omega)
    by_cases w : mk k X Y = true
    · have hnew : MW (vp_updL mr (3 * Y + X / 64) (mr (3 * Y + X / 64) ||| sq_lshl 1 (ni (X % 64)))) s k Y (X + 1) := fun y hy x hx => by
        rw [updL_a]
        by_cases q : 3 * y + x / 64 = 3 * Y + X / 64
        · have hyY : y = Y := by omega
          subst hyY
          rw [if_pos q, bt_or, ← show x / 64 = X / 64 by omega, h y hy x hx, bt_shl _ (by omega), bt_1]
          by_cases q2 : x = X
          · subst q2
            rw [w]
            have hlt : x % 64 < 64 := Nat.mod_lt _ (by omega)
            rw [decide_eq_true (show x < s ∧ (y < y ∨ y = y ∧ x < x + 1) by omega)]
            simp [hlt]
          · have e9 : decide (x < s ∧ (y < y ∨ y = y ∧ x < X + 1)) = decide (x < s ∧ (y < y ∨ y = y ∧ x < X)) := by rw [decide_eq_decide]; omega
            rw [e9]
            have e10 : (decide (x % 64 < 64) && (decide (X % 64 ≤ x % 64) && decide (x % 64 - X % 64 = 0))) = false := by
              by_cases z1 : X % 64 ≤ x % 64
              · rw [decide_eq_false (show ¬ (x % 64 - X % 64 = 0) by omega)]; simp
              · rw [decide_eq_false z1]; simp
            rw [e10, Bool.or_false]
        · rw [if_neg q, h y hy x hx]
          congr 1
          rw [decide_eq_decide]; omega
      obtain ⟨mr', g1, g2⟩ := cm_2 hs hk hY e (X + 1) m _ (by omega) (by omega) hnew
      refine ⟨mr', fun k7 => ?_, g2⟩
      rw [w] at e1
      rw [fn_Frame_chooseMask_L2_s, ← g1 k7]
      simp (disch := omega) only [ni_lit, ni_add, ni_mul, ni_sub, ni_lt, ni_le, ni_ix, ni_eq, ni_div, ni_rem, ni_and, ni_or, ni_xor, ni_shl, ni_shr, ni_gi, ni_gz, ni_max, ni_min, ni_dc, ni_0a, ni_ml, ni_mle, Nat.reduceAnd, Nat.reduceAdd, Nat.reduceMul, Nat.reduceSub, Nat.reduceDiv, Nat.reduceMod, Nat.reduceXor, Nat.reduceShiftLeft, Nat.reduceShiftRight, sq_bd, sq_jn, sq_cb0, sq_cb1, sq_cb2, sq_cb3, sq_cb4, sq_cb5, e1, show b2 true = 1 from rfl, an_63, sr_6]
      rw [if_neg (by omega), if_neg (by omega), if_neg (by omega)]
    · have w2 : mk k X Y = false := by simpa using w
      have hnew : MW mr s k Y (X + 1) := fun y hy x hx => by
        rw [h y hy x hx]
        by_cases q2 : x = X ∧ y = Y
        · rw [q2.1, q2.2, w2]; simp
        · congr 1
          rw [decide_eq_decide]; omega
      obtain ⟨mr', g1, g2⟩ := cm_2 hs hk hY e (X + 1) m mr (by omega) (by omega) hnew
      refine ⟨mr', fun k7 => ?_, g2⟩
      rw [w2] at e1
      rw [fn_Frame_chooseMask_L2_s, ← g1 k7]
      simp (disch := omega) only [ni_lit, ni_add, ni_mul, ni_sub, ni_lt, ni_le, ni_ix, ni_eq, ni_div, ni_rem, ni_and, ni_or, ni_xor, ni_shl, ni_shr, ni_gi, ni_gz, ni_max, ni_min, ni_dc, ni_0a, ni_ml, ni_mle, Nat.reduceAnd, Nat.reduceAdd, Nat.reduceMul, Nat.reduceSub, Nat.reduceDiv, Nat.reduceMod, Nat.reduceXor, Nat.reduceShiftLeft, Nat.reduceShiftRight, sq_bd, sq_jn, sq_cb0, sq_cb1, sq_cb2, sq_cb3, sq_cb4, sq_cb5, e1, show b2 false = 0 from rfl, if_true]
      rw [if_neg (by omega), if_neg (by omega)]
theorem cm_1 {s k n0 : Nat} (hn0 : 300 ≤ n0) (hs : s ≤ 177) (hk : k < 8) : ∀ (e Y m : Nat) (mr : Nat → Int64), Y + e = 12 → e < m → MW mr s k Y 0 → ∃ mr', fn_Frame_chooseMask_L1 (ni k) n0 (ni s) m (ni Y) mr = some mr' ∧ MW mr' s k 12 0
  | 0, Y, m + 1, mr, hY, _, h => by
    have hYY : Y = 12 := by omega
    subst hYY
    refine ⟨mr, ?_, h⟩
    rw [fn_Frame_chooseMask_L1_s, if_pos (by decide)]
  | e + 1, Y, m + 1, mr, hY, hm, h => by
    obtain ⟨mr1, e1, h1⟩ := cm_2 hs hk (show Y < 12 by omega) s 0 n0 mr (by omega) (by omega) h
    obtain ⟨mr', g1, g2⟩ := cm_1 hn0 hs hk e (Y + 1) m mr1 (by omega) (by omega) h1
    refine ⟨mr', ?_, g2⟩
    rw [fn_Frame_chooseMask_L1_s, ← g1]
    simp (disch := omega) only [ni_lit, ni_le, ni_add, sq_bd, sq_jn, sq_cb0, sq_cb1, sq_cb2, sq_cb3, sq_cb4, sq_cb5, e1]
    rw [if_neg (by omega)]
theorem cl_mask {s k n0 : Nat} (hn0 : 300 ≤ n0) (hs : s ≤ 177) (hk : k < 8) (mr : Nat → Int64) : ∃ mr', fn_Frame_chooseMask n0 (ni k) (ni s) mr = some mr' ∧ ∀ y : Nat, y < 12 → ∀ x : Nat, x < 192 → bt (mr' (3 * y + x / 64)) (x % 64) = (decide (x < s) && mk k x y) := by
  obtain ⟨b1, e1, h1⟩ := fill0 (v := 0) (len := 36) (n0 := n0) (by omega) (by omega) mr
  obtain ⟨mr', e2, h2⟩ := cm_1 hn0 hs hk 12 0 n0 b1 (by omega) (by omega) (fun y hy x hx => by
    rw [h1 _ (by omega), bt_0, decide_eq_false (show ¬ (x < s ∧ (y < 0 ∨ (y = 0 ∧ x < 0))) by omega)]; rfl)
  refine ⟨mr', ?_, fun y hy x hx => ?_⟩
  · unfold fn_Frame_chooseMask
    rw [e1]
    exact e2
  · rw [h2 y hy x hx]
    congr 1
    rw [decide_eq_decide]; omega
theorem tm_2 {fw mr : Nat → Int64} {s k b : Nat} {f P0 : Nat → Nat → Bool} (hs : s ≤ 177) (hb : b < s) (hg : GR fw s f) (hmr : ∀ y : Nat, y < 12 → ∀ x : Nat, x < 192 → bt (mr (3 * y + x / 64)) (x % 64) = (decide (x < s) && mk k x y)) : ∀ (e j m : Nat) (w : Nat → Int64), j + e = 3 → e < m → GR w s (fun x y => P0 x y ^^ (decide (y = b ∧ x / 64 < j) && (mk k x y && !f x y))) → ∃ w', (∀ k5, fn_Frame_turnMask_L2 (ni s) (ni s) mr fw (ni b) k5 m (ni j) w = k5 w') ∧ GR w' s (fun x y => P0 x y ^^ (decide (y = b) && (mk k x y && !f x y)))
  | 0, j, m + 1, w, hj, _, h => by
    have hjj : j = 3 := by omega
    subst hjj
    refine ⟨w, fun k5 => ?_, GR_cg h (fun x y hx hy => ?_)⟩
    · rw [fn_Frame_turnMask_L2_s, if_pos (by decide)]
    · congr 2
      rw [decide_eq_decide]; omega
  | e + 1, j, m + 1, w, hj, hm, h => by
    obtain ⟨u, e1, h1⟩ := gr_from hs hg (ni (64 * j)) (ni b)
    rw [ni_toI (by omega), ni_toI (by omega)] at h1
    obtain ⟨t, w1, e2, -, h2⟩ := gr_turn hs h (k := j) (by omega) hb (mr (3 * (b % 12) + j) &&& (u ^^^ -1))
    obtain ⟨w', g1, g2⟩ := tm_2 (P0 := P0) hs hb hg hmr e (j + 1) m w1 (by omega) (by omega) (GR_cg h2 (fun x y hx hy => by
      by_cases q : y = b ∧ x / 64 = j
      · have e3 := hmr (b % 12) (by omega) x (by omega)
        rw [q.2] at e3
        rw [decide_eq_true q, decide_eq_false (show ¬ (y = b ∧ x / 64 < j) by omega), decide_eq_true (show y = b ∧ x / 64 < j + 1 by omega), bt_and, bt_xor, bt_m1, e3, mk_12, decide_eq_true hx, h1 _ (by omega), q.1, show (((64 * j : Nat) : Int) + ((x % 64 : Nat) : Int)) = ((x : Nat) : Int) from by omega, inP_yes hx hb, decide_eq_true (show x % 64 < 64 by omega)]
        cases mk k x b <;> cases f x b <;> cases P0 x b <;> rfl
      · rw [decide_eq_false q, show decide (y = b ∧ x / 64 < j + 1) = decide (y = b ∧ x / 64 < j) from by rw [decide_eq_decide]; omega]
        simp))
    refine ⟨w', fun k5 => ?_, g2⟩
    rw [fn_Frame_turnMask_L2_s, ← g1 k5]
    have e0 : (64 : Int32) * ni j = ni (64 * j) := by rw [show (64 : Int32) = ni 64 from rfl, ni_mul]
    rw [if_neg (by rw [show (3 : Int32) = ni 3 from rfl, ni_le (by omega) (by omega)]; omega), e0, e1]
    have e9 : (3 : Int32) * sq_rem (ni b) 12 + ni j = ni (3 * (b % 12) + j) := by
      simp (disch := omega) only [ni_lit, ni_rem, ni_mul, ni_add]
    simp only [sq_bd, sq_cb1, e9]
    rw [ni_gi (by omega) (by omega), ni_ix (by omega), e2]
    simp only [sq_cb2, ni_lit, ni_add]
theorem tm_1 {fw mr : Nat → Int64} {s k n0 : Nat} {f P0 : Nat → Nat → Bool} (hn0 : 300 ≤ n0) (hs : s ≤ 177) (hg : GR fw s f) (hmr : ∀ y : Nat, y < 12 → ∀ x : Nat, x < 192 → bt (mr (3 * y + x / 64)) (x % 64) = (decide (x < s) && mk k x y)) : ∀ (e b m : Nat) (w : Nat → Int64), b + e = s → e < m → GR w s (fun x y => P0 x y ^^ (decide (y < b) && (mk k x y && !f x y))) → ∃ w', fn_Frame_turnMask_L1 n0 (ni s) (ni s) (ni s) mr fw m (ni b) w = some w' ∧ GR w' s (fun x y => P0 x y ^^ (mk k x y && !f x y))
  | 0, b, m + 1, w, hb, _, h => by
    have hbb : b = s := by omega
    subst hbb
    refine ⟨w, ?_, GR_cg h (fun x y hx hy => ?_)⟩
    · rw [fn_Frame_turnMask_L1_s]
      simp (disch := omega) only [ni_le]
      rw [if_pos (by omega)]
    · rw [decide_eq_true hy, Bool.true_and]
  | e + 1, b, m + 1, w, hb, hm, h => by
    obtain ⟨w1, e1, h1⟩ := tm_2 (b := b) (P0 := fun x y => P0 x y ^^ (decide (y < b) && (mk k x y && !f x y))) hs (by omega) hg hmr 3 0 n0 w (by omega) (by omega) (GR_cg h (fun x y hx hy => by
      rw [decide_eq_false (show ¬ (y = b ∧ x / 64 < 0) by omega)]; simp))
    obtain ⟨w', g1, g2⟩ := tm_1 (P0 := P0) hn0 hs hg hmr e (b + 1) m w1 (by omega) (by omega) (GR_cg h1 (fun x y hx hy => by
      by_cases q : y = b
      · rw [decide_eq_false (show ¬ y < b by omega), decide_eq_true q, decide_eq_true (show y < b + 1 by omega)]; simp
      · rw [decide_eq_false q, show decide (y < b + 1) = decide (y < b) from by rw [decide_eq_decide]; omega]; simp))
    refine ⟨w', ?_, g2⟩
    rw [fn_Frame_turnMask_L1_s, ← g1]
    simp (disch := omega) only [ni_lit, ni_le, ni_add, sq_bd, sq_jn, sq_cb0, sq_cb1, sq_cb2, sq_cb3, sq_cb4, sq_cb5, e1]
    rw [if_neg (by omega)]
theorem cl_turnMask {fw mr w : Nat → Int64} {s k n0 : Nat} {f P : Nat → Nat → Bool} (hn0 : 300 ≤ n0) (hs : s ≤ 177) (hg : GR fw s f) (hmr : ∀ y : Nat, y < 12 → ∀ x : Nat, x < 192 → bt (mr (3 * y + x / 64)) (x % 64) = (decide (x < s) && mk k x y)) (h : GR w s P) : ∃ w', fn_Frame_turnMask n0 (ni s) (ni s) w (ni s) mr fw = some w' ∧ GR w' s (fun x y => P x y ^^ (mk k x y && !f x y)) := tm_1 hn0 hs hg hmr s 0 n0 w (by omega) (by omega) (GR_cg h (fun x y hx hy => by rw [decide_eq_false (show ¬ y < 0 by omega)]; simp))
/-- the form drawn -/
def sB (x y : Nat) (d : Bool) (P : Nat → Nat → Bool) : Nat → Nat → Bool := fun a b => if ni x = ni a ∧ ni y = ni b then d else P a b
def fpB (s : Nat) (w : Nat → Bool) : Nat → (Nat → Nat → Bool) → Nat → Nat → Bool
  | 0, P => P
  | i + 1, P => sB (fX 1 i s) (fY 1 i s) (w i) (sB (fX 0 i s) (fY 0 i s) (w i) (fpB s w i P))
theorem fpB_q (s : Nat) (w : Nat → Bool) (q : Nat → Nat → Nat) : ∀ (n a b : Nat), decide (foq s w n q a b = 2) = fpB s w n (fun a b => decide (q a b = 2)) a b
  | 0, _, _ => rfl
  | n + 1, a, b => by
    have ih := fpB_q s w q n a b
    show decide (fxq (ni (fX 1 n s)) (ni (fY 1 n s)) (w n) (fxq (ni (fX 0 n s)) (ni (fY 0 n s)) (w n) (foq s w n q)) a b = 2) = sB (fX 1 n s) (fY 1 n s) (w n) (sB (fX 0 n s) (fY 0 n s) (w n) (fpB s w n _)) a b
    unfold fxq sB
    by_cases z1 : ni (fX 1 n s) = ni a ∧ ni (fY 1 n s) = ni b
    · rw [if_pos z1, if_pos z1]; cases w n <;> rfl
    · rw [if_neg z1, if_neg z1]
      by_cases z2 : ni (fX 0 n s) = ni a ∧ ni (fY 0 n s) = ni b
      · rw [if_pos z2, if_pos z2]; cases w n <;> rfl
      · rw [if_neg z2, if_neg z2]; exact ih
theorem df_l {s w : Nat} (hs : 21 ≤ s) (hs2 : s ≤ 177) (hw : w < 2147483648) (P : Nat → Nat → Bool) : ∀ (e i m : Nat) (g : Nat → Int64), i + e = 15 → e < m → GR g s (fpB s (fun i => w.testBit i) i P) → ∃ g', fn_Frame_drawForm_L1 (ni s) (ni w) (ni s) m (ni i) g = some g' ∧ GR g' s (fpB s (fun i => w.testBit i) 15 P)
  | 0, i, m + 1, g, hi, _, h => by
    have hii : i = 15 := by omega
    subst hii
    refine ⟨g, ?_, h⟩
    rw [fn_Frame_drawForm_L1_s, if_pos (by decide)]
  | e + 1, i, m + 1, g, hi, hm, h => by
    obtain ⟨g1, e1, h1⟩ := gr_set (d := b2 (w.testBit i)) hs2 h (b2_le _) (ni (fX 0 i s)) (ni (fY 0 i s))
    obtain ⟨g2, e2, h2⟩ := gr_set (d := b2 (w.testBit i)) hs2 h1 (b2_le _) (ni (fX 1 i s)) (ni (fY 1 i s))
    obtain ⟨g', r1, r2⟩ := df_l hs hs2 hw P e (i + 1) m g2 (by omega) (by omega) (GR_cg h2 (fun a b ha hb => by rw [b2_1]; rfl))
    refine ⟨g', ?_, r2⟩
    have han : i &&& 31 = i := by rw [show (31 : Nat) = 2 ^ 5 - 1 from rfl, an_p, Nat.mod_eq_of_lt (by omega)]
    have hlt : w >>> i &&& 1 < 2 := by rw [Nat.and_one_is_mod]; omega
    rw [← tb_b2] at e1 e2
    rw [fn_Frame_drawForm_L1_s, ← r1]
    by_cases z : w >>> i &&& 1 = 1
    · rw [if_pos z] at e1 e2
      simp (disch := omega) only [ni_lit, ni_add, ni_mul, ni_sub, ni_lt, ni_le, ni_ix, ni_eq, ni_div, ni_rem, ni_and, ni_or, ni_xor, ni_shl, ni_shr, ni_gi, ni_gz, ni_max, ni_min, ni_dc, ni_0a, ni_ml, ni_mle, Nat.reduceAnd, Nat.reduceAdd, Nat.reduceMul, Nat.reduceSub, Nat.reduceDiv, Nat.reduceMod, Nat.reduceXor, Nat.reduceShiftLeft, Nat.reduceShiftRight, sq_bd, sq_jn, sq_cb0, sq_cb1, sq_cb2, sq_cb3, sq_cb4, sq_cb5, han, z, if_true, (cl_fX (c := 0) (i := i) (s := s) (by omega) (by omega) hs hs2).1, (cl_fY (c := 0) (i := i) (s := s) (by omega) (by omega) hs hs2).1, (cl_fX (c := 1) (i := i) (s := s) (by omega) (by omega) hs hs2).1, (cl_fY (c := 1) (i := i) (s := s) (by omega) (by omega) hs hs2).1, e1, e2]
      rw [if_neg (by omega)]
    · rw [if_neg z] at e1 e2
      simp (disch := omega) only [ni_lit, ni_add, ni_mul, ni_sub, ni_lt, ni_le, ni_ix, ni_eq, ni_div, ni_rem, ni_and, ni_or, ni_xor, ni_shl, ni_shr, ni_gi, ni_gz, ni_max, ni_min, ni_dc, ni_0a, ni_ml, ni_mle, Nat.reduceAnd, Nat.reduceAdd, Nat.reduceMul, Nat.reduceSub, Nat.reduceDiv, Nat.reduceMod, Nat.reduceXor, Nat.reduceShiftLeft, Nat.reduceShiftRight, sq_bd, sq_jn, sq_cb0, sq_cb1, sq_cb2, sq_cb3, sq_cb4, sq_cb5, han, if_neg z, (cl_fX (c := 0) (i := i) (s := s) (by omega) (by omega) hs hs2).1, (cl_fY (c := 0) (i := i) (s := s) (by omega) (by omega) hs hs2).1, (cl_fX (c := 1) (i := i) (s := s) (by omega) (by omega) hs hs2).1, (cl_fY (c := 1) (i := i) (s := s) (by omega) (by omega) hs hs2).1, e1, e2]
      rw [if_neg (by omega)]
def fno (l k : Nat) : Nat := 8 * (l ^^^ 1) + k
theorem fno_lt : ∀ l : Nat, l < 4 → ∀ k : Nat, k < 8 → fno l k < 32 ∧ fn_Md_formNumber (ni l) (ni k) = some (ni (fno l k)) := by decide +kernel
theorem cl_form {g : Nat → Int64} {s l k n0 : Nat} {P : Nat → Nat → Bool} (hn0 : 300 ≤ n0) (hs : 21 ≤ s) (hs2 : s ≤ 177) (hl : l < 4) (hk : k < 8) (h : GR g s P) : ∃ g', fn_Frame_drawForm n0 (ni l) (ni k) (ni s) g = some g' ∧ GR g' s (fpB s (fun i => (fwd (fno l k)).testBit i) 15 P) := by
  obtain ⟨f1, -⟩ := fno_lt l hl k hk
  obtain ⟨g', e1, h1⟩ := df_l (w := fwd (fno l k)) hs hs2 (by have := (fw_20 _ f1).2; omega) P 15 0 n0 g (by omega) (by omega) h
  refine ⟨g', ?_, h1⟩
  unfold fn_Frame_drawForm fn_Grid_side
  have e0 : (8 : Int32) * (ni l ^^^ 1) + ni k = ni (fno l k) := by
    unfold fno
    simp only [ni_lit, ni_xor, ni_mul, ni_add]
  rw [e0, (cl_fwd hn0 f1).1]
  exact e1
