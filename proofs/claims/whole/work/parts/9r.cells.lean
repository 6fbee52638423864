/-! row and spoil -/
theorem lcm_lt (a b : Int64) : (sq_lcmp a b < 0) ↔ a.toInt < b.toInt := by
  unfold sq_lcmp lg_cmp
  by_cases h : a > b
  · rw [if_pos h]
    have := Int64.lt_iff_toInt_lt.mp h
    exact ⟨fun z => absurd z (by decide), fun z => by omega⟩
  · rw [if_neg h]
    by_cases q : a = b
    · rw [if_pos q, q]
      exact ⟨fun z => absurd z (by decide), fun z => by omega⟩
    · rw [if_neg q]
      refine ⟨fun _ => ?_, fun _ => by decide⟩
      have h1 : ¬ b.toInt < a.toInt := fun z => h (Int64.lt_iff_toInt_lt.mpr z)
      have h2 : a.toInt ≠ b.toInt := fun z => q (Int64.toInt_inj.mp z)
      omega
theorem lcm_le (a b : Int64) : (0 ≤ sq_lcmp a b) ↔ b.toInt ≤ a.toInt := by
  have := lcm_lt a b
  have e : (0 ≤ sq_lcmp a b) ↔ ¬ (sq_lcmp a b < 0) := by
    rw [le_I, lt_I, show (0 : Int32).toInt = 0 from rfl]; omega
  rw [e, this]
  omega
theorem i2l_I (p : Int32) : (sq_i2l p).toInt = p.toInt := Int32.toInt_toInt64 p
theorem w7_I (p : Int32) {i : Nat} (hi : i < 64) : (sq_i2l p + sq_i2l (ni i)).toInt = p.toInt + i := by
  rw [Int64.toInt_add, i2l_I, i2l_I, ni_toI (by omega)]
  have h1 := Int32.toInt_lt p
  have h2 := Int32.le_toInt p
  apply Int.bmod_eq_of_le
  · omega
  · omega
theorem un_I {w : Int64} {c : Nat} (h : w.toInt = c) : un w = c := by
  have e : w.toInt = w.toBitVec.toInt := rfl
  rw [e, BitVec.toInt_eq_toNat_cond] at h
  have := un_lt w
  unfold un at *
  split at h <;> omega
theorem mi_in {s v i : Nat} {p q : Int32} {β : Type} (hs : s ≤ 177) (hv : 1 ≤ v) (hv2 : v < 41) (hi : i < 64) (K : Int32 → Option β) : sq_jn K (fun k9 => sq_jn (fun (_ : Unit) => k9 (0 : Int32)) fun k30 => if ni v ≤ 0 then (k30 ()) else (if q < 0 then (k30 ()) else (if ni s ≤ q then (k30 ()) else (sq_bd (sq_lcmp (sq_i2l p + sq_i2l (ni i)) (0 : Int64)) fun x34 => if x34 < 0 then (k30 ()) else (sq_bd (sq_i2l (ni s)) fun w36 => sq_bd (sq_lcmp (sq_i2l p + sq_i2l (ni i)) w36) fun x37 => if 0 ≤ x37 then (k30 ()) else (k9 (1 : Int32))))))) = K (if 0 ≤ q.toInt ∧ q.toInt < s ∧ 0 ≤ p.toInt + i ∧ p.toInt + i < s then 1 else 0) := by
  simp only [sq_jn, sq_bd]
  rw [if_neg (by rw [← ni_0, ni_le (by omega) (by omega)]; omega)]
  by_cases h1 : q < 0
  · rw [if_pos h1, if_neg]
    rw [lt_I, show (0 : Int32).toInt = 0 from rfl] at h1
    omega
  · rw [if_neg h1]
    rw [lt_I, show (0 : Int32).toInt = 0 from rfl] at h1
    by_cases h2 : ni s ≤ q
    · rw [if_pos h2, if_neg]
      rw [le_I, ni_toI (by omega)] at h2
      omega
    · rw [if_neg h2]
      rw [le_I, ni_toI (by omega)] at h2
      by_cases h3 : sq_lcmp (sq_i2l p + sq_i2l (ni i)) 0 < 0
      · rw [if_pos h3, if_neg]
        rw [lcm_lt, w7_I p hi, show (0 : Int64).toInt = 0 from rfl] at h3
        omega
      · rw [if_neg h3]
        rw [lcm_lt, w7_I p hi, show (0 : Int64).toInt = 0 from rfl] at h3
        by_cases h4 : 0 ≤ sq_lcmp (sq_i2l p + sq_i2l (ni i)) (sq_i2l (ni s))
        · rw [if_pos h4, if_neg]
          rw [lcm_le, w7_I p hi, i2l_I, ni_toI (by omega)] at h4
          omega
        · rw [if_neg h4, if_pos]
          rw [lcm_le, w7_I p hi, i2l_I, ni_toI (by omega)] at h4
          omega
theorem mi_at {s i : Nat} {p q : Int32} (hs : s ≤ 177) (hi : i < 64) (h : 0 ≤ q.toInt ∧ q.toInt < s ∧ 0 ≤ p.toInt + i ∧ p.toInt + i < s) : fn_Md_moduleAt (sq_l2i (sq_i2l p + sq_i2l (ni i))) q = some (ni ((p.toInt + i).toNat + 177 * q.toInt.toNat)) ∧ (p.toInt + i).toNat < s ∧ q.toInt.toNat < s := by
  refine ⟨?_, by omega, by omega⟩
  obtain ⟨hq, -⟩ := ni_of h.1
  have e : un (sq_i2l p + sq_i2l (ni i)) = (p.toInt + i).toNat := un_I (by rw [w7_I p hi]; omega)
  unfold fn_Md_moduleAt
  rw [l2i_un, e]
  conv => lhs; rw [hq]
  rw [show (177 : Int32) = ni 177 from rfl, ni_mul, ni_add]
theorem mr_l {md : Nat → Int32} {s v : Nat} {p q : Int32} {P : Nat → Nat → Bool} (hs : s ≤ 177) (hv : 1 ≤ v) (hv2 : v < 41) (h : MR md s P) : ∀ (e i m : Nat) (w : Int64), i + e = 64 → e < m → (∀ j : Nat, j < 64 → bt w j = (decide (j < i) && inP s P (p.toInt + j) q.toInt)) → ∃ w', fn_Md_row_L1 p q (ni v) (ni s) md m w (ni i) = some (w', 0) ∧ ∀ j : Nat, j < 64 → bt w' j = inP s P (p.toInt + j) q.toInt
  | 0, i, m + 1, w, hi, _, hw => by
    refine ⟨w, ?_, fun j hj => by rw [hw j hj, decide_eq_true (by omega), Bool.true_and]⟩
    rw [show i = 64 by omega, fn_Md_row_L1_s, if_pos (by decide)]
  | e + 1, i, m + 1, w, hi, hm, hw => by
    have hstep : fn_Md_row_L1 p q (ni v) (ni s) md (m + 1) w (ni i) = fn_Md_row_L1 p q (ni v) (ni s) md m (if inP s P (p.toInt + i) q.toInt then w ||| sq_lshl 1 (ni i) else w) (ni (i + 1)) := by
      rw [fn_Md_row_L1_s, if_neg (show ¬ (64 : Int32) ≤ ni i from fun z => absurd ((ni_le (a := 64) (by omega) (by omega)).mp z) (by omega))]
      simp only [show ∀ (α β : Type) (x : α) (f : α → β), sq_bd x f = f x from fun _ _ _ _ => rfl]
      have := mi_in (p := p) (q := q) (i := i) (s := s) (v := v) hs hv hv2 (by omega) (fun x7 => sq_jn (fun (w9 : Int64) => fn_Md_row_L1 p q (ni v) (ni s) md m w9 (ni i + 1)) fun k10 => sq_jn (fun (_ : Unit) => k10 w) fun k12 => if x7 = 0 then (k12 ()) else (sq_cb1 (fn_Md_moduleAt (sq_l2i (sq_i2l p + sq_i2l (ni i))) q) fun r15 => sq_gi r15 31329 <| (if md r15.toNatClampNeg = (1 : Int32) then (k10 (w ||| sq_lshl (1 : Int64) (ni i))) else (k12 ()))))
      refine Eq.trans this ?_
      simp only [sq_jn]
      rw [show ni i + 1 = ni (i + 1) by rw [show (1 : Int32) = ni 1 from rfl, ni_add]]
      by_cases c : 0 ≤ q.toInt ∧ q.toInt < s ∧ 0 ≤ p.toInt + i ∧ p.toInt + i < s
      · obtain ⟨m1, m2, m3⟩ := mi_at hs (by omega) c
        have hin : inP s P (p.toInt + i) q.toInt = P (p.toInt + i).toNat q.toInt.toNat := by
          unfold inP
          rw [decide_eq_true (by omega), Bool.true_and]
        rw [if_pos c, if_neg (by decide), m1, cb1_e, ni_gi (by omega) (by omega), ni_ix (by omega), h _ _ m2 m3, hin]
        cases P (p.toInt + i).toNat q.toInt.toNat
        · rw [if_neg (by decide), if_neg (by decide)]
        · rw [if_pos (show ni (b2 true) = 1 from rfl), if_pos rfl]
      · have hin : inP s P (p.toInt + i) q.toInt = false := inP_no (by omega)
        rw [if_neg c, if_pos rfl, hin, if_neg (by decide)]
    rw [hstep]
    refine mr_l hs hv hv2 h e (i + 1) m _ (by omega) (by omega) (fun j hj => ?_)
    by_cases c : inP s P (p.toInt + i) q.toInt = true
    · rw [if_pos c, bt_or, hw j hj, bt_shl 1 (by omega), bt_1, decide_eq_true hj, Bool.true_and]
      by_cases z : j = i
      · rw [z, decide_eq_true (show i < i + 1 by omega), c, decide_eq_true (Nat.le_refl i), decide_eq_true (show i - i = 0 by omega)]
        simp
      · have : (decide (i ≤ j) && decide (j - i = 0)) = false := by
          by_cases y : i ≤ j
          · rw [decide_eq_false (show ¬ j - i = 0 by omega), Bool.and_false]
          · rw [decide_eq_false y, Bool.false_and]
        rw [this, Bool.or_false]
        congr 1
        rw [decide_eq_decide]
        omega
    · rw [if_neg c, hw j hj]
      by_cases z : j = i
      · rw [z, Bool.eq_false_iff.mpr c, Bool.and_false, Bool.and_false]
      · congr 1
        rw [decide_eq_decide]
        omega
theorem rw_both {md : Nat → Int32} {sw : Nat → Int64} {v n0 : Nat} {p q th : Int32} {P : Nat → Nat → Bool} (hn0 : 300 ≤ n0) (hv : v < 41) (hv1 : 1 ≤ v) (hG : GR sw (sd v) P) (hM : MR md (sd v) P) : ∃ u, fn_Sq_row p q (ni (sd v)) sw = some u ∧ fn_Md_row n0 p q th (ni v) (ni (sd v)) md = some (u, 0) := by
  obtain ⟨u, e1, h1⟩ := gr_from (sd_le hv) hG p q
  obtain ⟨w, e2, h2⟩ := mr_l (p := p) (q := q) (sd_le hv) hv1 hv hM 64 0 n0 0 (by omega) (by omega) (fun j hj => by rw [bt_0, decide_eq_false (by omega)]; rfl)
  have : u = w := bt_ext (fun i hi => by rw [h1 i hi, h2 i hi])
  refine ⟨u, ?_, ?_⟩
  · unfold fn_Sq_row
    rw [e1, cb1_e]
  · rw [this]
    exact e2
/-- nothing stands there yet -/
theorem rw_none {md : Nat → Int32} {sw : Nat → Int64} {side : Int32} {n0 : Nat} {p q th : Int32} {P : Nat → Nat → Bool} (hn0 : 300 ≤ n0) (hG : GR sw 0 P) : ∃ u, fn_Sq_row p q 0 sw = some u ∧ fn_Md_row n0 p q th 0 side md = some (u, 0) := by
  obtain ⟨u, e1, h1⟩ := gr_from (s := 0) (by omega) hG p q
  have hu : u = 0 := bt_ext (fun i hi => by rw [h1 i hi, bt_0, inP_no (by omega)])
  refine ⟨u, ?_, ?_⟩
  · unfold fn_Sq_row
    rw [show (0 : Int32) = ni 0 from rfl, e1, cb1_e]
  · rw [hu]
    have : ∀ (e i m : Nat), i + e = 64 → e < m → fn_Md_row_L1 p q 0 side md m 0 (ni i) = some (0, 0) := by
      intro e
      induction e with
      | zero =>
        intro i m hi hm
        obtain ⟨m', rfl⟩ : ∃ m', m = m' + 1 := ⟨m - 1, by omega⟩
        rw [show i = 64 by omega, fn_Md_row_L1_s, if_pos (by decide)]
      | succ e ih =>
        intro i m hi hm
        obtain ⟨m', rfl⟩ : ∃ m', m = m' + 1 := ⟨m - 1, by omega⟩
        rw [fn_Md_row_L1_s, if_neg (show ¬ (64 : Int32) ≤ ni i from fun z => absurd ((ni_le (a := 64) (by omega) (by omega)).mp z) (by omega)), ← ih (i + 1) m' (by omega) (by omega)]
        simp only [sq_bd, sq_jn]
        rw [if_pos (by decide), if_pos trivial, show (1 : Int32) = ni 1 from rfl, ni_add]
    exact this 64 0 n0 (by omega) (by omega)
/-! spoil -/
def spP (P : Nat → Nat → Bool) (X Y : Int) (z : Int64) (n : Nat) : Nat → Nat → Bool := fun x y => P x y ^^ (decide ((y : Int) = Y ∧ X ≤ x ∧ (x : Int) < X + n) && bt z ((x : Int) - X).toNat)
def spE (s : Nat) (X Y : Int) (z : Int64) (i : Nat) : Nat := b2 (decide (0 ≤ Y ∧ Y < s ∧ 0 ≤ X + i ∧ X + i < s) && bt z i)
theorem sp_m {md : Nat → Int32} {s v : Nat} {p q : Int32} {z : Int64} {P : Nat → Nat → Bool} (hs : s ≤ 177) (hv : 1 ≤ v) (hv2 : v < 41) : ∀ (e i m : Nat) (md : Nat → Int32), i + e = 64 → e < m → MR md s (spP P p.toInt q.toInt z i) → ∃ md', fn_Md_spoil_L1 p q z (ni v) (ni s) m (ni (ns i (spE s p.toInt q.toInt z))) (ni i) md = some (ni (ns 64 (spE s p.toInt q.toInt z)), 0, md') ∧ MR md' s (spP P p.toInt q.toInt z 64)
  | 0, i, m + 1, md, hi, _, h => by
    obtain rfl : i = 64 := by omega
    refine ⟨md, ?_, h⟩
    rw [fn_Md_spoil_L1_s, if_pos (by decide)]
  | e + 1, i, m + 1, md, hi, hm, h => by
    have hbz : (sq_lcmp (sq_lshr z (ni i) &&& 1) 1 = 0) = (bt z i = true) := by
      rw [lcmp_1]
      have : bt (sq_lshr z (ni i)) 0 = bt z (i + 0) := bt_sshr z (by omega) (by omega)
      rw [this, Nat.add_zero]
    have hstep : ∀ C : Int32, fn_Md_spoil_L1 p q z (ni v) (ni s) (m + 1) C (ni i) md = if spE s p.toInt q.toInt z i = 1 then fn_Md_spoil_L1 p q z (ni v) (ni s) m (C + 1) (ni (i + 1)) (upd md ((p.toInt + i).toNat + 177 * q.toInt.toNat) (1 - md ((p.toInt + i).toNat + 177 * q.toInt.toNat))) else fn_Md_spoil_L1 p q z (ni v) (ni s) m C (ni (i + 1)) md := fun C => by
      rw [fn_Md_spoil_L1_s, if_neg (show ¬ (64 : Int32) ≤ ni i from fun z => absurd ((ni_le (a := 64) (by omega) (by omega)).mp z) (by omega))]
      simp only [show ∀ (α β : Type) (x : α) (f : α → β), sq_bd x f = f x from fun _ _ _ _ => rfl]
      have := mi_in (p := p) (q := q) (i := i) (s := s) (v := v) hs hv hv2 (by omega) (fun x8 => sq_jn (fun (x10 : Int32) (b11 : Nat → Int32) => fn_Md_spoil_L1 p q z (ni v) (ni s) m x10 (ni i + 1) b11) fun k12 => if x8 = 0 then (k12 C md) else (if sq_lcmp (sq_lshr z (ni i) &&& (1 : Int64)) (1 : Int64) = 0 then (sq_cb1 (fn_Md_moduleAt (sq_l2i (sq_i2l p + sq_i2l (ni i))) q) fun r19 => sq_cb1 (fn_Md_moduleAt (sq_l2i (sq_i2l p + sq_i2l (ni i))) q) fun r22 => sq_gi r22 31329 <| sq_gi r19 31329 <| k12 (C + 1) (upd md r19.toNatClampNeg (1 - md r22.toNatClampNeg))) else (k12 C md)))
      refine Eq.trans this ?_
      simp only [sq_jn]
      rw [show ni i + 1 = ni (i + 1) by rw [show (1 : Int32) = ni 1 from rfl, ni_add]]
      unfold spE
      by_cases c : 0 ≤ q.toInt ∧ q.toInt < s ∧ 0 ≤ p.toInt + i ∧ p.toInt + i < s
      · obtain ⟨m1, m2, m3⟩ := mi_at hs (by omega) c
        rw [if_pos c, if_neg (by decide), decide_eq_true c, Bool.true_and]
        by_cases bz : bt z i = true
        · rw [if_pos (hbz.mpr bz), bz, if_pos (show b2 true = 1 from rfl), m1, cb1_e, cb1_e, ni_gi (by omega) (by omega), ni_gi (by omega) (by omega), ni_ix (by omega)]
        · rw [if_neg (fun y => bz (hbz.mp y)), Bool.eq_false_iff.mpr bz, if_neg (by decide)]
      · rw [if_neg c, if_pos rfl, decide_eq_false c, Bool.false_and, if_neg (by decide)]
    rw [hstep]
    have hE : spE s p.toInt q.toInt z i = 0 ∨ spE s p.toInt q.toInt z i = 1 := by have := b2_le (decide (0 ≤ q.toInt ∧ q.toInt < s ∧ 0 ≤ p.toInt + i ∧ p.toInt + i < s) && bt z i); unfold spE; omega
    rcases hE with hE | hE
    · rw [if_neg (by omega)]
      obtain ⟨md', r1, r2⟩ := sp_m (md := md) (P := P) hs hv hv2 e (i + 1) m md (by omega) (by omega) (MR_cg h (fun a b ha hb => by
        unfold spP
        congr 1
        by_cases y : (b : Int) = q.toInt ∧ p.toInt ≤ a ∧ (a : Int) < p.toInt + (i + 1 : Nat)
        · by_cases y2 : (b : Int) = q.toInt ∧ p.toInt ≤ a ∧ (a : Int) < p.toInt + i
          · rw [decide_eq_true y, decide_eq_true y2]
          · rw [decide_eq_false y2, decide_eq_true y, Bool.false_and, Bool.true_and]
            have ea : (a : Int) = p.toInt + i := by omega
            rw [show ((a : Int) - p.toInt).toNat = i by omega]
            unfold spE at hE
            rw [decide_eq_true (by omega), Bool.true_and] at hE
            cases hb : bt z i
            · rfl
            · rw [hb] at hE; exact absurd hE (by decide)
        · rw [decide_eq_false y, decide_eq_false (by omega)]))
      refine ⟨md', ?_, r2⟩
      rw [← r1, ns_s, hE]
      rfl
    · rw [if_pos hE]
      have hc : (0 ≤ q.toInt ∧ q.toInt < s ∧ 0 ≤ p.toInt + i ∧ p.toInt + i < s) ∧ bt z i = true := by
        unfold spE at hE
        by_cases c : 0 ≤ q.toInt ∧ q.toInt < s ∧ 0 ≤ p.toInt + i ∧ p.toInt + i < s
        · rw [decide_eq_true c, Bool.true_and] at hE
          refine ⟨c, ?_⟩
          cases hb : bt z i
          · rw [hb] at hE; exact absurd hE (by decide)
          · rfl
        · rw [decide_eq_false c, Bool.false_and] at hE; exact absurd hE (by decide)
      obtain ⟨c, bz⟩ := hc
      obtain ⟨m1, m2, m3⟩ := mi_at hs (by omega) c
      obtain ⟨md', r1, r2⟩ := sp_m (md := md) (P := P) hs hv hv2 e (i + 1) m (upd md ((p.toInt + i).toNat + 177 * q.toInt.toNat) (1 - md ((p.toInt + i).toNat + 177 * q.toInt.toNat))) (by omega) (by omega) (fun a b ha hb => by
        rw [upd_a]
        by_cases y : a = (p.toInt + i).toNat ∧ b = q.toInt.toNat
        · rw [if_pos (by rw [y.1, y.2]), ← y.1, ← y.2, h a b ha hb]
          unfold spP
          rw [decide_eq_true (show (b : Int) = q.toInt ∧ p.toInt ≤ a ∧ (a : Int) < p.toInt + (i + 1 : Nat) by omega), decide_eq_false (show ¬ ((b : Int) = q.toInt ∧ p.toInt ≤ a ∧ (a : Int) < p.toInt + i) by omega), show ((a : Int) - p.toInt).toNat = i by omega, bz]
          cases P a b <;> decide
        · rw [if_neg (by omega), h a b ha hb]
          unfold spP
          congr 4
          rw [decide_eq_decide]
          omega)
      refine ⟨md', ?_, r2⟩
      rw [← r1, ns_s, hE, show (1 : Int32) = ni 1 from rfl, ni_add]
theorem md_sp {md : Nat → Int32} {s v n0 : Nat} {p q th : Int32} {z : Int64} {P : Nat → Nat → Bool} (hn0 : 300 ≤ n0) (hs : s ≤ 177) (hv : 1 ≤ v) (hv2 : v < 41) (h : MR md s P) : ∃ md', fn_Md_spoil n0 p q z th (ni v) (ni s) md = some (ni (ns 64 (spE s p.toInt q.toInt z)), 0, md') ∧ MR md' s (spP P p.toInt q.toInt z 64) := by
  have h0 : MR md s (spP P p.toInt q.toInt z 0) := MR_cg h (fun a b ha hb => by
    unfold spP
    rw [decide_eq_false (by omega), Bool.false_and, Bool.xor_false])
  obtain ⟨md', r1, r2⟩ := sp_m (md := md) (P := P) (p := p) (q := q) (z := z) hs hv hv2 64 0 n0 md (by omega) (by omega) h0
  refine ⟨md', ?_, r2⟩
  have e0 : ni (ns 0 (spE s p.toInt q.toInt z)) = 0 := rfl
  rw [e0] at r1
  unfold fn_Md_spoil
  exact r1
theorem bd_e {α β : Type} (x : α) (f : α → Option β) : sq_bd x f = f x := rfl
theorem mi_no {β : Type} (K : Int32 → Option β) (R : (Int32 → Option β) → (Unit → Option β) → Option β) : sq_jn K (fun k9 => sq_jn (fun (_ : Unit) => k9 (0 : Int32)) fun k30 => if (0 : Int32) ≤ 0 then (k30 ()) else R k9 k30) = K 0 := by
  rw [sq_jne, sq_jne, if_pos (by decide)]
theorem sp_0 {md : Nat → Int32} {side : Int32} {p q : Int32} {z : Int64} {i m : Nat} (hi : i < 64) : fn_Md_spoil_L1 p q z 0 side (m + 1) 0 (ni i) md = fn_Md_spoil_L1 p q z 0 side m 0 (ni (i + 1)) md := by
  rw [fn_Md_spoil_L1_s, if_neg (show ¬ (64 : Int32) ≤ ni i from fun z => absurd ((ni_le (a := 64) (by omega) (by omega)).mp z) (by omega))]
  rw [bd_e, bd_e, bd_e, mi_no, sq_jne, if_pos rfl]
  show fn_Md_spoil_L1 p q z 0 side m 0 (ni i + ni 1) md = _
  rw [ni_add]
theorem sp_00 {md : Nat → Int32} {side : Int32} {p q : Int32} {z : Int64} : ∀ (e i m : Nat), i + e = 64 → e < m → fn_Md_spoil_L1 p q z 0 side m 0 (ni i) md = some (0, 0, md)
  | 0, i, m + 1, hi, _ => by
    rw [show i = 64 by omega, fn_Md_spoil_L1_s, if_pos (by decide)]
  | e + 1, i, m + 1, hi, hm => by
    rw [sp_0 (by omega)]
    exact sp_00 e (i + 1) m (by omega) (by omega)
theorem md_sp0 {md : Nat → Int32} {side : Int32} {n0 : Nat} {p q th : Int32} {z : Int64} (hn0 : 300 ≤ n0) : fn_Md_spoil n0 p q z th 0 side md = some (0, 0, md) := by
  have h := sp_00 (md := md) (side := side) (p := p) (q := q) (z := z) 64 0 n0 (by omega) (by omega)
  unfold fn_Md_spoil
  exact h
/-- the class's way: out of reach -/
theorem sp_out {s : Nat} {P : Nat → Nat → Bool} {X Y : Int} {z : Int64} (h : ∀ i : Nat, i < 64 → ¬ (0 ≤ Y ∧ Y < s ∧ 0 ≤ X + i ∧ X + i < s)) : ns 64 (spE s X Y z) = 0 ∧ ∀ a b : Nat, a < s → b < s → spP P X Y z 64 a b = P a b := by
  refine ⟨ns_0 (fun i hi => ?_), fun a b ha hb => ?_⟩
  · unfold spE
    rw [decide_eq_false (h i hi), Bool.false_and]
    rfl
  · unfold spP
    by_cases c : (b : Int) = Y ∧ X ≤ a ∧ (a : Int) < X + (64 : Nat)
    · exact absurd (show 0 ≤ Y ∧ Y < s ∧ 0 ≤ X + ((a : Int) - X).toNat ∧ X + ((a : Int) - X).toNat < s by omega) (h ((a : Int) - X).toNat (by omega))
    · rw [decide_eq_false c, Bool.false_and, Bool.xor_false]
theorem cl_sp {sw : Nat → Int64} {s : Nat} {p q : Int32} {z : Int64} {P : Nat → Nat → Bool} (hs : s ≤ 177) (h : GR sw s P) : ∃ sw', fn_Sq_spoil p q z (ni s) sw = some (ni (ns 64 (spE s p.toInt q.toInt z)), sw') ∧ GR sw' s (spP P p.toInt q.toInt z 64) := by
  have base : ∀ X Z : Int, p.toInt = X → q.toInt = Z → ∃ sw', fn_Grid_turnFrom p q z (ni s) sw = some (ni (ns 64 (spE s X Z z)), sw') ∧ GR sw' s (spP P X Z z 64) := by
    intro X Z hPI hQI
    unfold fn_Grid_turnFrom
    have out : (∀ i : Nat, i < 64 → ¬ (0 ≤ Z ∧ Z < s ∧ 0 ≤ X + i ∧ X + i < s)) → ∃ sw', some ((0 : Int32), sw) = some (ni (ns 64 (spE s X Z z)), sw') ∧ GR sw' s (spP P X Z z 64) := fun hn => by
      obtain ⟨o1, o2⟩ := sp_out (P := P) (z := z) hn
      rw [o1]
      exact ⟨sw, rfl, GR_cg h (fun a b ha hb => (o2 a b ha hb).symm)⟩
    by_cases h1 : q < 0
    · rw [if_pos h1]
      rw [lt_I, show (0 : Int32).toInt = 0 from rfl] at h1
      exact out (fun i hi c => by omega)
    rw [if_neg h1]
    rw [lt_I, show (0 : Int32).toInt = 0 from rfl] at h1
    by_cases h2 : ni s ≤ q
    · rw [if_pos h2]
      rw [le_I, ni_toI (by omega)] at h2
      exact out (fun i hi c => by omega)
    rw [if_neg h2]
    rw [le_I, ni_toI (by omega)] at h2
    by_cases h3 : ni s ≤ p
    · rw [if_pos h3]
      rw [le_I, ni_toI (by omega)] at h3
      exact out (fun i hi c => by omega)
    rw [if_neg h3]
    rw [le_I, ni_toI (by omega)] at h3
    obtain ⟨hq, -⟩ := ni_of (x := q) (by omega)
    obtain ⟨Y, hY⟩ : ∃ Y : Nat, q.toInt.toNat = Y := ⟨_, rfl⟩
    rw [hY] at hq
    have hqY : (Y : Int) = Z := by omega
    by_cases h4 : (-64 : Int32) < p
    · rw [if_pos h4]
      rw [lt_I, show (-64 : Int32).toInt = -64 from rfl] at h4
      by_cases h5 : 0 ≤ p
      · rw [if_pos h5]
        rw [le_I, show (0 : Int32).toInt = 0 from rfl] at h5
        obtain ⟨hp, -⟩ := ni_of (x := p) h5
        obtain ⟨A, hA⟩ : ∃ A : Nat, p.toInt.toNat = A := ⟨_, rfl⟩
        rw [hA] at hp
        have hpX : (A : Int) = X := by omega
        have ek : p >>> ((6 : Int32) &&& 31) = ni (A / 64) := by rw [hp, show ((6 : Int32) &&& 31) = ni 6 from by decide, ni_shr (by omega) (by omega), sr_6]
        have em : p &&& (63 : Int32) = ni (A % 64) := by rw [hp, show (63 : Int32) = ni 63 from rfl, ni_and, an_63]
        simp only [sq_bd]
        rw [ek, em, hq]
        obtain ⟨t1, w1, e1, b1, g1⟩ := gr_turn (k := A / 64) (b := Y) hs h (by omega) (by omega) (sq_lshl z (ni (A % 64)))
        rw [e1, cb2_e]
        have c1 : pop t1 = ns (64 - A % 64) (spE s X Z z) := by
          have e64 : ns 64 (fun i => b2 (bt t1 i)) = ns (A % 64) (fun i => b2 (bt t1 i)) + ns (64 - A % 64) (fun i => b2 (bt t1 (A % 64 + i))) := by rw [← ns_p, show A % 64 + (64 - A % 64) = 64 by omega]
          rw [pop_ns, e64]
          have z0 : ns (A % 64) (fun i => b2 (bt t1 i)) = 0 := ns_0 (fun i hi => by
            show b2 (bt t1 i) = 0
            rw [b1 i (by omega), bt_shl z (by omega), decide_eq_false (show ¬ A % 64 ≤ i by omega)]
            simp
            rfl)
          rw [z0, Nat.zero_add]
          apply ns_cg
          intro i hi
          show b2 (bt t1 (A % 64 + i)) = spE s X Z z i
          unfold spE
          rw [b1 _ (by omega), bt_shl z (by omega), decide_eq_true (show A % 64 + i < 64 by omega), decide_eq_true (show A % 64 ≤ A % 64 + i by omega), show A % 64 + i - A % 64 = i by omega]
          have : decide (64 * (A / 64) + (A % 64 + i) < s) = decide (0 ≤ Z ∧ Z < s ∧ 0 ≤ X + i ∧ X + i < s) := by
            rw [decide_eq_decide]; omega
          rw [this, Bool.true_and, Bool.true_and, Bool.and_comm]
        by_cases h6 : A % 64 = 0
        · rw [if_pos (by rw [h6]; rfl)]
          rw [h6] at c1
          refine ⟨w1, by rw [c1], GR_cg g1 (fun a b ha hb => ?_)⟩
          unfold spP
          rw [h6]
          congr 1
          by_cases c : b = Y ∧ a / 64 = A / 64
          · rw [decide_eq_true c, decide_eq_true (by omega), Bool.true_and, Bool.true_and, bt_shl z (by omega), decide_eq_true (show a % 64 < 64 by omega), decide_eq_true (Nat.zero_le _), Bool.true_and, Bool.true_and, show ((a : Int) - X).toNat = a % 64 - 0 by omega]
          · rw [decide_eq_false c, decide_eq_false (by omega), Bool.false_and, Bool.false_and]
        · rw [if_neg (by rw [← ni_0, ni_eq (by omega) (by omega)]; exact h6)]
          have es : (64 : Int32) - ni (A % 64) = ni (64 - A % 64) := by rw [show (64 : Int32) = ni 64 from rfl, ni_sub (by omega)]
          rw [es, show (1 : Int32) = ni 1 from rfl, ni_add]
          have tot : ns 64 (spE s X Z z) = ns (64 - A % 64) (spE s X Z z) + ns (A % 64) (fun i => spE s X Z z (64 - A % 64 + i)) := by
            rw [← ns_p, show 64 - A % 64 + A % 64 = 64 by omega]
          by_cases h7 : A / 64 + 1 < 3
          · obtain ⟨t2, w2, e2, b2', g2⟩ := gr_turn (k := A / 64 + 1) (b := Y) hs g1 h7 (by omega) (sq_lushr z (ni (64 - A % 64)))
            rw [e2, cb2_e]
            have c2 : pop t2 = ns (A % 64) (fun i => spE s X Z z (64 - A % 64 + i)) := by
              rw [pop_ns, ns_up (show A % 64 ≤ 64 by omega) (fun i h1 h2 => by
                show b2 (bt t2 i) = 0
                rw [b2' i h2, bt_ushr z (by omega), bt_hi z (show 64 ≤ i + (64 - A % 64) by omega)]
                rfl)]
              apply ns_cg
              intro i hi
              show b2 (bt t2 i) = spE s X Z z (64 - A % 64 + i)
              unfold spE
              rw [b2' i (by omega), bt_ushr z (by omega), show i + (64 - A % 64) = 64 - A % 64 + i by omega]
              have : decide (64 * (A / 64 + 1) + i < s) = decide (0 ≤ Z ∧ Z < s ∧ 0 ≤ X + (64 - A % 64 + i : Nat) ∧ X + (64 - A % 64 + i : Nat) < s) := by
                rw [decide_eq_decide]; omega
              rw [this, Bool.and_comm]
            refine ⟨w2, by rw [ni_add, c1, c2, tot], GR_cg g2 (fun a b ha hb => ?_)⟩
            unfold spP
            rw [Bool.xor_assoc]
            congr 1
            by_cases c : b = Y ∧ a / 64 = A / 64
            · rw [decide_eq_true c, decide_eq_false (show ¬ (b = Y ∧ a / 64 = A / 64 + 1) by omega), Bool.true_and, Bool.false_and, Bool.xor_false, bt_shl z (by omega), decide_eq_true (show a % 64 < 64 by omega), Bool.true_and]
              by_cases y : A % 64 ≤ a % 64
              · rw [decide_eq_true y, decide_eq_true (by omega), Bool.true_and, Bool.true_and, show ((a : Int) - X).toNat = a % 64 - A % 64 by omega]
              · rw [decide_eq_false y, decide_eq_false (by omega), Bool.false_and, Bool.false_and]
            · rw [decide_eq_false c, Bool.false_and, Bool.false_xor]
              by_cases c2 : b = Y ∧ a / 64 = A / 64 + 1
              · rw [decide_eq_true c2, Bool.true_and, bt_ushr z (by omega)]
                by_cases y : a % 64 + (64 - A % 64) < 64
                · rw [decide_eq_true (by omega), Bool.true_and, show ((a : Int) - X).toNat = a % 64 + (64 - A % 64) by omega]
                · rw [bt_hi z (by omega), decide_eq_false (by omega), Bool.false_and]
              · rw [decide_eq_false c2, decide_eq_false (by omega), Bool.false_and, Bool.false_and]
          · have e2 : fn_Grid_turn (ni (A / 64 + 1)) (ni Y) (sq_lushr z (ni (64 - A % 64))) (ni s) w1 = some (0, w1) := by
              unfold fn_Grid_turn
              rw [if_neg (by rw [ni_nn (by omega)]; exact id), if_pos (show (3 : Int32) ≤ ni (A / 64 + 1) from (ni_le (a := 3) (by omega) (by omega)).mpr (by omega))]
            rw [e2, cb2_e]
            have c2 : ns (A % 64) (fun i => spE s X Z z (64 - A % 64 + i)) = 0 := ns_0 (fun i hi => by
              show spE s X Z z (64 - A % 64 + i) = 0
              unfold spE
              rw [decide_eq_false (by omega), Bool.false_and]
              rfl)
            refine ⟨w1, by rw [← ni_0, ni_add, c1, tot, c2], GR_cg g1 (fun a b ha hb => ?_)⟩
            unfold spP
            congr 1
            by_cases c : b = Y ∧ a / 64 = A / 64
            · rw [decide_eq_true c, Bool.true_and, bt_shl z (by omega), decide_eq_true (show a % 64 < 64 by omega), Bool.true_and]
              by_cases y : A % 64 ≤ a % 64
              · rw [decide_eq_true y, decide_eq_true (by omega), Bool.true_and, Bool.true_and, show ((a : Int) - X).toNat = a % 64 - A % 64 by omega]
              · rw [decide_eq_false y, decide_eq_false (by omega), Bool.false_and, Bool.false_and]
            · rw [decide_eq_false c, decide_eq_false (by omega), Bool.false_and, Bool.false_and]
      · rw [if_neg h5]
        rw [le_I, show (0 : Int32).toInt = 0 from rfl] at h5
        have hn : -p = ni (-p.toInt).toNat := neg_of (by omega) (by omega)
        obtain ⟨A, hA⟩ : ∃ A : Nat, (-p.toInt).toNat = A := ⟨_, rfl⟩
        rw [hA] at hn
        have hpX : (A : Int) = -X := by omega
        simp only [sq_bd]
        rw [hn, hq]
        obtain ⟨t1, w1, e1, b1, g1⟩ := gr_turn (k := 0) (b := Y) hs h (by omega) (by omega) (sq_lushr z (ni A))
        rw [show (0 : Int32) = ni 0 from rfl, e1, cb2_e]
        have c1 : pop t1 = ns 64 (spE s X Z z) := by
          have tot : ns 64 (spE s X Z z) = ns A (spE s X Z z) + ns (64 - A) (fun i => spE s X Z z (A + i)) := by
            rw [← ns_p, show A + (64 - A) = 64 by omega]
          have z0 : ns A (spE s X Z z) = 0 := ns_0 (fun i hi => by
            unfold spE
            rw [decide_eq_false (by omega), Bool.false_and]
            rfl)
          rw [tot, z0, Nat.zero_add, pop_ns, ns_up (show 64 - A ≤ 64 by omega) (fun i h1 h2 => by
            show b2 (bt t1 i) = 0
            rw [b1 i h2, bt_ushr z (by omega), bt_hi z (by omega)]
            rfl)]
          apply ns_cg
          intro i hi
          show b2 (bt t1 i) = spE s X Z z (A + i)
          unfold spE
          rw [b1 i (by omega), bt_ushr z (by omega), show i + A = A + i by omega]
          have : decide (64 * 0 + i < s) = decide (0 ≤ Z ∧ Z < s ∧ 0 ≤ X + (A + i : Nat) ∧ X + (A + i : Nat) < s) := by
            rw [decide_eq_decide]; omega
          rw [this, Bool.and_comm]
        refine ⟨w1, by rw [c1], GR_cg g1 (fun a b ha hb => ?_)⟩
        unfold spP
        congr 1
        by_cases c : b = Y ∧ a / 64 = 0
        · rw [decide_eq_true c, Bool.true_and, bt_ushr z (by omega)]
          by_cases y : a % 64 + A < 64
          · rw [decide_eq_true (by omega), Bool.true_and, show ((a : Int) - X).toNat = a % 64 + A by omega]
          · rw [bt_hi z (by omega), decide_eq_false (by omega), Bool.false_and]
        · rw [decide_eq_false c, decide_eq_false (by omega), Bool.false_and, Bool.false_and]
    · rw [if_neg h4]
      rw [lt_I, show (-64 : Int32).toInt = -64 from rfl] at h4
      exact out (fun i hi c => by omega)
  obtain ⟨sw', e1, g1⟩ := base _ _ rfl rfl
  refine ⟨sw', ?_, g1⟩
  unfold fn_Sq_spoil
  rw [e1, cb2_e]
