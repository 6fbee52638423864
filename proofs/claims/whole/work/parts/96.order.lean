/-! own rows: the way through the free modules -/
def zR (s p : Nat) : Nat := if 6 < s - 1 - 2 * p then s - 1 - 2 * p else s - 1 - 2 * p - 1
def zx (s n : Nat) : Nat := zR s (n / (2 * s)) - n % (2 * s) % 2
def zy (s n : Nat) : Nat := if n / (2 * s) % 2 = 0 then s - 1 - n % (2 * s) / 2 else n % (2 * s) / 2
def zN (s : Nat) : Nat := s * (s - 1)
theorem z_pt {s p t : Nat} (ht : t < 2 * s) : (2 * s * p + t) / (2 * s) = p ∧ (2 * s * p + t) % (2 * s) = t := by
  constructor
  · rw [Nat.mul_add_div (by omega), Nat.div_eq_of_lt ht, Nat.add_zero]
  · rw [Nat.mul_add_mod, Nat.mod_eq_of_lt ht]
theorem zN_e {s h : Nat} (hs : s = 2 * h + 1) : zN s = 2 * s * h := by
  unfold zN
  rw [show s - 1 = 2 * h by omega, ← Nat.mul_assoc, Nat.mul_comm s 2]
theorem z_div {s h n : Nat} (hs : s = 2 * h + 1) (hn : n < zN s) : n / (2 * s) < h ∧ n % (2 * s) < 2 * s := by
  rw [zN_e hs, Nat.mul_comm] at hn
  exact ⟨(Nat.div_lt_iff_lt_mul (by omega)).mpr hn, Nat.mod_lt _ (by omega)⟩
theorem z_in {s h n : Nat} (hs : s = 2 * h + 1) (hn : n < zN s) : zx s n < s ∧ zy s n < s ∧ 1 ≤ zR s (n / (2 * s)) ∧ zx s n ≠ 6 := by
  obtain ⟨h1, h2⟩ := z_div hs hn
  unfold zx zy zR
  generalize n / (2 * s) = p at h1
  generalize n % (2 * s) = t at h2
  refine ⟨?_, ?_, ?_, ?_⟩
  · split <;> omega
  · split <;> omega
  · split <;> omega
  · split <;> omega
theorem z_inj {s h n m : Nat} (hs : s = 2 * h + 1) (hn : n < zN s) (hm : m < zN s) (h1 : zx s n = zx s m) (h2 : zy s n = zy s m) : n = m := by
  obtain ⟨a1, a2⟩ := z_div hs hn
  obtain ⟨b1, b2⟩ := z_div hs hm
  have e1 := Nat.div_add_mod n (2 * s)
  have e2 := Nat.div_add_mod m (2 * s)
  unfold zx zR at h1
  unfold zy at h2
  generalize n / (2 * s) = p at *
  generalize n % (2 * s) = t at *
  generalize m / (2 * s) = q at *
  generalize m % (2 * s) = u at *
  have hpq : p = q ∧ t % 2 = u % 2 := by
    by_cases w1 : 6 < s - 1 - 2 * p
    · rw [if_pos w1] at h1
      by_cases w2 : 6 < s - 1 - 2 * q
      · rw [if_pos w2] at h1; omega
      · rw [if_neg w2] at h1; omega
    · rw [if_neg w1] at h1
      by_cases w2 : 6 < s - 1 - 2 * q
      · rw [if_pos w2] at h1; omega
      · rw [if_neg w2] at h1; omega
  obtain ⟨c1, c2⟩ := hpq
  subst c1
  by_cases w : p % 2 = 0
  · rw [if_pos w, if_pos w] at h2
    have : t = u := by omega
    rw [← e1, ← e2, this]
  · rw [if_neg w, if_neg w] at h2
    have : t = u := by omega
    rw [← e1, ← e2, this]
theorem z_sur {s h a b : Nat} (hs : s = 2 * h + 1) (ha : a < s) (hb : b < s) (h6 : a ≠ 6) (hh : 3 ≤ h) : ∃ n : Nat, n < zN s ∧ zx s n = a ∧ zy s n = b := by
  have hx : ∃ p c : Nat, p < h ∧ c < 2 ∧ zR s p - c = a := by
    unfold zR
    by_cases w : 6 < a
    · refine ⟨(s - 1 - a) / 2, (s - 1 - a) % 2, by omega, by omega, ?_⟩
      split <;> omega
    · refine ⟨(s - 2 - a) / 2, (s - 2 - a) % 2, by omega, by omega, ?_⟩
      split <;> omega
  obtain ⟨p, c, hp, hc, hx⟩ := hx
  have hmul : 2 * s * (p + 1) ≤ 2 * s * h := Nat.mul_le_mul_left _ hp
  rw [Nat.mul_add] at hmul
  by_cases w : p % 2 = 0
  · obtain ⟨e1, e2⟩ := z_pt (s := s) (p := p) (t := 2 * (s - 1 - b) + c) (by omega)
    refine ⟨2 * s * p + (2 * (s - 1 - b) + c), by rw [zN_e hs]; omega, ?_, ?_⟩
    · unfold zx; rw [e1, e2, show (2 * (s - 1 - b) + c) % 2 = c by omega]; exact hx
    · unfold zy; rw [e1, e2, if_pos w]; omega
  · obtain ⟨e1, e2⟩ := z_pt (s := s) (p := p) (t := 2 * b + c) (by omega)
    refine ⟨2 * s * p + (2 * b + c), by rw [zN_e hs]; omega, ?_, ?_⟩
    · unfold zx; rw [e1, e2, show (2 * b + c) % 2 = c by omega]; exact hx
    · unfold zy; rw [e1, e2, if_neg w]; omega
/-- the free ones -/
def zE (s : Nat) (f : Nat → Nat → Bool) (n : Nat) : Nat := if f (zx s n) (zy s n) then 0 else 1
theorem zE_01 (s : Nat) (f : Nat → Nat → Bool) (n : Nat) : zE s f n = 0 ∨ zE s f n = 1 := by
  unfold zE
  split
  · exact Or.inl rfl
  · exact Or.inr rfl
theorem stq1 {fw : Nat → Int64} {s h : Nat} {f : Nat → Nat → Bool} (hs : s = 2 * h + 1) (hs2 : s ≤ 177) (hg : GR fw s f) : ∀ (e n m : Nat) (x y : Int32), n + e = zN s → e < m → (∃ k : Nat, n ≤ k ∧ k < zN s ∧ zE s f k = 1 ∧ sc (zE s f) k = sc (zE s f) n ∧ fn_Frame_step_L1 (ni s) (ni s) fw (ni (2 * s)) (ni (zN s)) m (ni n) x y = some (1, ni (k + 1), ni (zx s k), ni (zy s k))) ∨ (sc (zE s f) (zN s) = sc (zE s f) n ∧ ∃ x' y', fn_Frame_step_L1 (ni s) (ni s) fw (ni (2 * s)) (ni (zN s)) m (ni n) x y = some (0, ni (zN s), x', y'))
  | 0, n, m + 1, x, y, hn, _ => by
    have hnn : n = zN s := by omega
    subst hnn
    refine Or.inr ⟨rfl, x, y, ?_⟩
    rw [fn_Frame_step_L1_s, if_pos (by rw [le_I]; omega)]
  | e + 1, n, m + 1, x, y, hn, hm => by
    have hnN : n < zN s := by omega
    obtain ⟨p1, p2⟩ := z_div hs hnN
    obtain ⟨i1, i2, i3, i4⟩ := z_in hs hnN
    have hN : zN s ≤ 177 * 176 := Nat.mul_le_mul hs2 (by omega)
    have e1 := gr_dark hs2 hg i1 i2
    have hcmp : fn_Frame_step_L1 (ni s) (ni s) fw (ni (2 * s)) (ni (zN s)) (m + 1) (ni n) x y = if zE s f n = 1 then some (1, ni (n + 1), ni (zx s n), ni (zy s n)) else fn_Frame_step_L1 (ni s) (ni s) fw (ni (2 * s)) (ni (zN s)) m (ni (n + 1)) (ni (zx s n)) (ni (zy s n)) := by
      have hjx : ∀ K : Int32 → Option (Int32 × Int32 × Int32 × Int32), sq_jn K (fun k15 => if (ni s - 1) - (2 * ni (n / (2 * s))) ≤ (6 : Int32) then k15 ((ni s - 1) - (2 * ni (n / (2 * s))) - 1) else k15 ((ni s - 1) - (2 * ni (n / (2 * s))))) = K (ni (zR s (n / (2 * s)))) := fun K => by
        simp (disch := omega) only [ni_lit, ni_mul, ni_sub, ni_le, sq_jn]
        unfold zR
        by_cases w : 6 < s - 1 - 2 * (n / (2 * s))
        · rw [if_neg (by omega), if_pos w]
        · rw [if_pos (by omega), if_neg w]
      have hjy : ∀ K : Int32 → Option (Int32 × Int32 × Int32 × Int32), sq_jn K (fun k20 => if ni (n / (2 * s) % 2) = 0 then k20 ((ni s - 1) - (ni (n % (2 * s)) / 2)) else k20 (ni (n % (2 * s)) / 2)) = K (ni (zy s n)) := fun K => by
        simp (disch := omega) only [ni_lit, ni_div, ni_sub, ni_eq, sq_jn]
        unfold zy
        by_cases w : n / (2 * s) % 2 = 0
        · rw [if_pos w, if_pos w]
        · rw [if_neg w, if_neg w]
      rw [fn_Frame_step_L1_s, if_neg (by rw [ni_le (by omega) (by omega)]; omega)]
      have ed : ni n / ni (2 * s) = ni (n / (2 * s)) := ni_div (by omega) (by omega)
      have er : sq_rem (ni n) (ni (2 * s)) = ni (n % (2 * s)) := ni_rem (by omega) (by omega)
      have es : ni n + 1 = ni (n + 1) := by rw [show (1 : Int32) = ni 1 from rfl, ni_add]
      rw [ni_gz (by omega) (by omega)]
      simp only [sq_bd]
      rw [ni_gz (by omega) (by omega), ed, er, es, hjx]
      have er2 : sq_rem (ni (n % (2 * s))) 2 = ni (n % (2 * s) % 2) := by rw [show (2 : Int32) = ni 2 from rfl, ni_rem (by omega) (by omega)]
      have er3 : sq_rem (ni (n / (2 * s))) 2 = ni (n / (2 * s) % 2) := by rw [show (2 : Int32) = ni 2 from rfl, ni_rem (by omega) (by omega)]
      have ex : ni (zR s (n / (2 * s))) - ni (n % (2 * s) % 2) = ni (zx s n) := by rw [ni_sub (by omega)]; rfl
      rw [er2, er3, ex, hjy, e1]
      simp only [sq_cb1]
      unfold zE
      by_cases w : f (zx s n) (zy s n) = true
      · rw [if_pos w, if_neg (by decide), if_pos w, if_neg (by decide)]
      · rw [if_neg w, if_pos (by decide), if_neg w, if_pos rfl]
    rw [hcmp]
    by_cases w : zE s f n = 1
    · exact Or.inl ⟨n, by omega, hnN, w, rfl, by rw [if_pos w]⟩
    · have w0 : zE s f n = 0 := (zE_01 s f n).resolve_right w
      have hsc : sc (zE s f) (n + 1) = sc (zE s f) n := by rw [sc_s, w0]; rfl
      rw [if_neg w]
      rcases stq1 hs hs2 hg e (n + 1) m (ni (zx s n)) (ni (zy s n)) (by omega) (by omega) with ⟨k, k1, k2, k3, k4, k5⟩ | ⟨k1, x', y', k2⟩
      · exact Or.inl ⟨k, by omega, k2, k3, by rw [k4, hsc], k5⟩
      · exact Or.inr ⟨by rw [k1, hsc], x', y', k2⟩
theorem cl_step {fw : Nat → Int64} {s h n n0 : Nat} {f : Nat → Nat → Bool} {x y : Int32} (hn0 : 40000 ≤ n0) (hs : s = 2 * h + 1) (hs1 : 21 ≤ s) (hs2 : s ≤ 177) (hg : GR fw s f) (hn : n ≤ zN s) : (∃ k : Nat, n ≤ k ∧ k < zN s ∧ zE s f k = 1 ∧ sc (zE s f) k = sc (zE s f) n ∧ fn_Frame_step n0 (ni s) (ni n) x y (ni s) fw = some (1, ni (k + 1), ni (zx s k), ni (zy s k))) ∨ (sc (zE s f) (zN s) = sc (zE s f) n ∧ ∃ x' y', fn_Frame_step n0 (ni s) (ni n) x y (ni s) fw = some (0, ni (zN s), x', y')) := by
  have hN : zN s ≤ 177 * 176 := Nat.mul_le_mul hs2 (by omega)
  have e : fn_Frame_step n0 (ni s) (ni n) x y (ni s) fw = fn_Frame_step_L1 (ni s) (ni s) fw (ni (2 * s)) (ni (zN s)) n0 (ni n) x y := by
    unfold fn_Frame_step zN
    simp (disch := omega) only [ni_lit, ni_add, ni_mul, ni_sub, ni_lt, ni_le, ni_ix, ni_eq, ni_div, ni_rem, ni_and, ni_or, ni_xor, ni_shl, ni_shr, ni_gi, ni_gz, ni_max, ni_min, ni_dc, ni_0a, ni_ml, ni_mle, Nat.reduceAnd, Nat.reduceAdd, Nat.reduceMul, Nat.reduceSub, Nat.reduceDiv, Nat.reduceMod, Nat.reduceXor, Nat.reduceShiftLeft, Nat.reduceShiftRight, sq_bd, sq_jn, sq_cb0, sq_cb1, sq_cb2, sq_cb3, sq_cb4, sq_cb5, show max 1 (2 * s) = 2 * s by omega]
  rw [e]
  exact stq1 hs hs2 hg (zN s - n) n n0 x y (by omega) (by omega)
/-- bit i of the codewords -/
def wbit (W : Nat → Nat) (i : Nat) : Bool := (W (i / 8)).testBit (7 - i % 8)
theorem sc_lt2 {E : Nat → Nat} {a b : Nat} (h : a < b) (hE : E a ≠ 0) : sc E a < sc E b := by
  have h1 := sc_le2 E (a + 1) (b - (a + 1))
  rw [show a + 1 + (b - (a + 1)) = b by omega, sc_s, if_neg hE] at h1
  omega
theorem sc_le3 {E : Nat → Nat} {a b : Nat} (h : a ≤ b) : sc E a ≤ sc E b := by
  have h1 := sc_le2 E a (b - a)
  rw [show a + (b - a) = b by omega] at h1
  exact h1
/-- the modules where the places before n are filled -/
def PT (s : Nat) (f B : Nat → Nat → Bool) (W : Nat → Nat) (n : Nat) (P : Nat → Nat → Bool) : Prop := (∀ a b : Nat, a < s → b < s → (f a b = true ∨ a = 6) → P a b = B a b) ∧ ∀ k : Nat, k < zN s → zE s f k = 1 → P (zx s k) (zy s k) = if k < n then wbit W (sc (zE s f) k) else B (zx s k) (zy s k)
theorem PT_s {s h : Nat} {f B P : Nat → Nat → Bool} {W : Nat → Nat} {n k : Nat} (hs : s = 2 * h + 1) (hk : n ≤ k) (hkN : k < zN s) (hE : zE s f k = 1) (hsc : sc (zE s f) k = sc (zE s f) n) (hP : PT s f B W n P) {Q : Nat → Nat → Bool} (hQ : ∀ a b : Nat, a < s → b < s → Q a b = if a = zx s k ∧ b = zy s k then wbit W (sc (zE s f) k) else P a b) : PT s f B W (k + 1) Q := by
  obtain ⟨i1, i2, i3, i4⟩ := z_in hs hkN
  refine ⟨fun a b ha hb hab => ?_, fun j hj hEj => ?_⟩
  · rw [hQ a b ha hb, if_neg (fun w => ?_)]
    · exact hP.1 a b ha hb hab
    · rcases hab with w2 | w2
      · unfold zE at hE
        rw [← w.1, ← w.2, if_pos w2] at hE
        omega
      · omega
  · obtain ⟨j1, j2, j3, j4⟩ := z_in hs hj
    rw [hQ _ _ j1 j2]
    by_cases w : j = k
    · rw [w, if_pos ⟨rfl, rfl⟩, if_pos (by omega)]
    · rw [if_neg (fun w2 => w (z_inj hs hj hkN w2.1 w2.2)), hP.2 j hj hEj]
      by_cases w2 : j < n
      · rw [if_pos w2, if_pos (by omega)]
      · rw [if_neg w2]
        by_cases w3 : j < k
        · exfalso
          have h1 := sc_lt2 w3 (show zE s f j ≠ 0 by omega)
          have h2 := sc_le3 (E := zE s f) (show n ≤ j by omega)
          omega
        · rw [if_neg (by omega)]
theorem pc2z {n0 : Nat} {a b c : Int32} {fw : Nat → Int64} {r : Int32} (k17 : Int32 → Int32 → Int32 → (Nat → Int64) → Option (Int32 × Int32 × Int32 × (Nat → Int64))) (m : Nat) (x y z : Int32) (w : Nat → Int64) : fn_Frame_placeCodewords_L2 n0 a b c fw r k17 (m + 1) (-(ni 1)) x y z w = k17 x y z w := by
  rw [fn_Frame_placeCodewords_L2_s, if_pos (by decide)]
/-- one codeword laid -/
theorem pc2 {fw : Nat → Int64} {s h k n0 : Nat} {f B : Nat → Nat → Bool} {W : Nat → Nat} (hn0 : 40000 ≤ n0) (hs : s = 2 * h + 1) (hs1 : 21 ≤ s) (hs2 : s ≤ 177) (hg : GR fw s f) (hW : W k < 256) : ∀ (d m n : Nat) (x y : Int32) (w : Nat → Int64) (P : Nat → Nat → Bool), d < 8 → d + 1 < m → n ≤ zN s → sc (zE s f) n = 8 * k + 7 - d → GR w s P → PT s f B W n P → ∃ n' x' y' w' P', (∀ k17, fn_Frame_placeCodewords_L2 n0 (ni s) (ni s) (ni s) fw (ni (W k)) k17 m (ni d) (ni n) x y w = k17 (ni n') x' y' w') ∧ n' ≤ zN s ∧ GR w' s P' ∧ PT s f B W n' P' ∧ (sc (zE s f) n' = 8 * (k + 1) ∨ n' = zN s ∧ sc (zE s f) n' ≤ 8 * (k + 1))
  | d, m + 1, n, x, y, w, P, hd, hm, hn, hsc, hw, hP => by
    rcases cl_step (x := x) (y := y) (n := n) hn0 hs hs1 hs2 hg hn with ⟨j, j1, j2, j3, j4, j5⟩ | ⟨j1, x', y', j2⟩
    · obtain ⟨i1, i2, i3, i4⟩ := z_in hs j2
      have hbit : wbit W (sc (zE s f) j) = (W k).testBit d := by
        unfold wbit
        rw [j4, hsc, show (8 * k + 7 - d) / 8 = k by omega, show 7 - (8 * k + 7 - d) % 8 = d by omega]
      obtain ⟨w1, e1, h1⟩ := gr_set (d := b2 ((W k).testBit d)) hs2 hw (b2_le _) (ni (zx s j)) (ni (zy s j))
      have hP1 := PT_s hs j1 j2 j3 j4 hP (Q := fun a b => if ni (zx s j) = ni a ∧ ni (zy s j) = ni b then decide (b2 ((W k).testBit d) = 1) else P a b) (fun a b ha hb => by
        rw [b2_1, hbit]
        have ez : (ni (zx s j) = ni a ∧ ni (zy s j) = ni b) = (a = zx s j ∧ b = zy s j) := by
          rw [ni_eq (by omega) (by omega), ni_eq (by omega) (by omega)]
          apply propext; omega
        simp only [ez])
      have han : d &&& 31 = d := by rw [show (31 : Nat) = 2 ^ 5 - 1 from rfl, an_p, Nat.mod_eq_of_lt (by omega)]
      have hlt : W k >>> d &&& 1 < 2 := by rw [Nat.and_one_is_mod]; omega
      have hstep : ∀ k17, fn_Frame_placeCodewords_L2 n0 (ni s) (ni s) (ni s) fw (ni (W k)) k17 (m + 1) (ni d) (ni n) x y w = fn_Frame_placeCodewords_L2 n0 (ni s) (ni s) (ni s) fw (ni (W k)) k17 m (ni d + -(ni 1)) (ni (j + 1)) (ni (zx s j)) (ni (zy s j)) w1 := fun k17 => by
        rw [fn_Frame_placeCodewords_L2_s, if_neg (by rw [← ni_0, ni_lt (by omega) (by omega)]; omega), j5]
        rw [← tb_b2] at e1
        simp only [sq_cb4]
        rw [if_neg (by decide)]
        by_cases z : W k >>> d &&& 1 = 1
        · rw [if_pos z] at e1
          simp (disch := omega) only [ni_lit, ni_and, han, ni_shr, ni_eq, z, if_true, sq_bd, sq_jn, sq_cb0, sq_cb1, sq_cb2, sq_cb3, sq_cb4, sq_cb5, e1]
        · rw [if_neg z] at e1
          simp (disch := omega) only [ni_lit, ni_and, han, ni_shr, ni_eq, if_neg z, sq_bd, sq_jn, sq_cb0, sq_cb1, sq_cb2, sq_cb3, sq_cb4, sq_cb5, e1]
      have hsc2 : sc (zE s f) (j + 1) = 8 * k + 7 - d + 1 := by rw [sc_s, j3, j4, hsc]; rfl
      cases d with
      | zero =>
        obtain ⟨m', rfl⟩ : ∃ m', m = m' + 1 := ⟨m - 1, by omega⟩
        exact ⟨j + 1, ni (zx s j), ni (zy s j), w1, _, fun k17 => by rw [hstep, ni_0a, pc2z], by omega, h1, hP1, Or.inl (by rw [hsc2]; omega)⟩
      | succ d =>
        obtain ⟨n', x', y', w', P', g1, g2, g3, g4, g5⟩ := pc2 hn0 hs hs1 hs2 hg hW d m (j + 1) (ni (zx s j)) (ni (zy s j)) w1 _ (by omega) (by omega) (by omega) (by rw [hsc2]; omega) h1 hP1
        exact ⟨n', x', y', w', P', fun k17 => by rw [hstep, ni_dc (by omega)]; exact g1 k17, g2, g3, g4, g5⟩
    · refine ⟨zN s, x', y', w, P, fun k17 => ?_, Nat.le_refl _, hw, ?_, Or.inr ⟨rfl, by rw [j1, hsc]; omega⟩⟩
      · rw [fn_Frame_placeCodewords_L2_s, if_neg (by rw [← ni_0, ni_lt (by omega) (by omega)]; omega), j2]
        simp only [sq_cb4]
        rw [if_pos trivial]
      · refine ⟨hP.1, fun j hj hEj => ?_⟩
        rw [hP.2 j hj hEj]
        by_cases w2 : j < n
        · rw [if_pos w2, if_pos hj]
        · exfalso
          have h1 := sc_lt2 hj (show zE s f j ≠ 0 by omega)
          have h2 := sc_le3 (E := zE s f) (show n ≤ j by omega)
          omega
theorem pc1 {fw : Nat → Int64} {by0 : Nat → Int32} {s h n0 H B0 K S M : Nat} {f B : Nat → Nat → Bool} {u : Nat → Nat} (hn0 : 40000 ≤ n0) (hs : s = 2 * h + 1) (hs1 : 21 ≤ s) (hs2 : s ≤ 177) (hg : GR fw s f) (hv : VN H B0 K S M) (hcb : cb by0 (H + B0 * K) u) : ∀ (e k m n : Nat) (x y : Int32) (w : Nat → Int64) (P : Nat → Nat → Bool), k + e = H + B0 * K → e < m → n ≤ zN s → (sc (zE s f) n = 8 * k ∨ n = zN s ∧ sc (zE s f) n ≤ 8 * k) → GR w s P → PT s f B (fun i => u (pio H B0 K S M i)) n P → ∃ n' x' y' w' P', fn_Frame_placeCodewords_L1 n0 (ni (H + B0 * K)) (ni H) (ni B0) (ni K) (ni S) (ni M) (ni s) (ni s) by0 (ni s) fw m (ni k) (ni n) x y w = some (n', x', y', w') ∧ GR w' s P' ∧ ∀ a b : Nat, a < s → b < s → ((f a b = true ∨ a = 6) → P' a b = B a b) ∧ ∀ j : Nat, j < zN s → zE s f j = 1 → a = zx s j → b = zy s j → P' a b = if sc (zE s f) j < 8 * (H + B0 * K) then wbit (fun i => u (pio H B0 K S M i)) (sc (zE s f) j) else B a b
  | 0, k, m + 1, n, x, y, w, P, hk, _, hn, hsc, hw, hP => by
    obtain ⟨h1, h2, h3, h4, h5, h6, h7, h8, h9⟩ := hv
    refine ⟨ni n, x, y, w, P, ?_, hw, fun a b ha hb => ⟨fun hab => hP.1 a b ha hb hab, fun j hj hE ea eb => ?_⟩⟩
    · rw [fn_Frame_placeCodewords_L1_s]
      unfold fn_Codewords_total
      simp (disch := omega) only [ni_le, sq_bd, sq_jn, sq_cb0, sq_cb1, sq_cb2, sq_cb3, sq_cb4, sq_cb5]
      rw [if_pos (by omega)]
    · subst ea; subst eb
      rw [hP.2 j hj hE]
      by_cases q : j < n
      · have hlt := sc_lt2 q (show zE s f j ≠ 0 by omega)
        rw [if_pos q, if_pos (by omega)]
      · rcases hsc with q1 | ⟨q1, q2⟩
        · have hle := sc_le3 (E := zE s f) (show n ≤ j by omega)
          rw [if_neg q, if_neg (by omega)]
        · omega
  | e + 1, k, m + 1, n, x, y, w, P, hk, hm, hn, hsc, hw, hP => by
    have hv0 := hv
    obtain ⟨h1, h2, h3, h4, h5, h6, h7, h8, h9⟩ := hv0
    have hpl := pio_lt (k := k) hv (by omega)
    have e1 := cl_pio (k := k) hv (by omega)
    have e2 := cw_get hcb h7 hpl
    have hul := (hcb _ hpl).2
    have hrec : ∃ n' x' y' w' P', (∀ k17, fn_Frame_placeCodewords_L2 n0 (ni s) (ni s) (ni s) fw (ni (u (pio H B0 K S M k))) k17 n0 (ni 7) (ni n) x y w = k17 (ni n') x' y' w') ∧ n' ≤ zN s ∧ GR w' s P' ∧ PT s f B (fun i => u (pio H B0 K S M i)) n' P' ∧ (sc (zE s f) n' = 8 * (k + 1) ∨ n' = zN s ∧ sc (zE s f) n' ≤ 8 * (k + 1)) := by
      rcases hsc with q | ⟨q, q2⟩
      · exact pc2 (k := k) (W := fun i => u (pio H B0 K S M i)) hn0 hs hs1 hs2 hg hul 7 n0 n x y w P (by omega) (by omega) hn (by omega) hw hP
      · rcases cl_step (x := x) (y := y) (n := n) hn0 hs hs1 hs2 hg hn with ⟨j, j1, j2, j3, j4, j5⟩ | ⟨j1, x', y', j2⟩
        · omega
        · refine ⟨zN s, x', y', w, P, fun k17 => ?_, Nat.le_refl _, hw, by rw [← q]; exact hP, Or.inr ⟨rfl, by rw [j1]; omega⟩⟩
          obtain ⟨m', rfl⟩ : ∃ m', n0 = m' + 1 := ⟨n0 - 1, by omega⟩
          rw [fn_Frame_placeCodewords_L2_s, if_neg (by decide), j2]
          simp only [sq_cb4]
          rw [if_pos trivial]
    obtain ⟨n', x', y', w', P', g1, g2, g3, g4, g5⟩ := hrec
    obtain ⟨n2, x2, y2, w2, P2, r1, r2, r3⟩ := pc1 hn0 hs hs1 hs2 hg hv hcb e (k + 1) m n' x' y' w' P' (by omega) (by omega) g2 g5 g3 g4
    refine ⟨n2, x2, y2, w2, P2, ?_, r2, r3⟩
    rw [fn_Frame_placeCodewords_L1_s, ← r1]
    unfold fn_Codewords_total
    simp (disch := omega) only [ni_lit, ni_le, ni_add, sq_bd, sq_jn, sq_cb0, sq_cb1, sq_cb2, sq_cb3, sq_cb4, sq_cb5, e1, e2, g1]
    rw [if_neg (by omega)]
