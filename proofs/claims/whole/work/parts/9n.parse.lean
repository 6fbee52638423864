/-! segments: what is asked of both -/
abbrev OUT := Nat × Nat × (Nat → Nat)
/-- the groups of one segment: fault, place, bytes -/
def gl (D : Nat → Nat) (H m len : Nat) : Nat → Nat → Nat → Nat → (Nat → Nat) → OUT
  | 0, _, a, _, out => (0, a, out)
  | e + 1, x, a, sz, out => if len ≤ x then (0, a, out) else if gF D H m (min (3 - m) (len - x)) a = 0 then gl D H m len e (x + (3 - m)) (a + gbn m (min (3 - m) (len - x))) (sz + min (3 - m) (len - x)) (gou m (min (3 - m) (len - x)) (nv D a (gbn m (min (3 - m) (len - x)))) sz out (min (3 - m) (len - x))) else (gF D H m (min (3 - m) (len - x)) a, a, out)
theorem gl_s (D : Nat → Nat) (H m len e x a sz : Nat) (out : Nat → Nat) : gl D H m len (e + 1) x a sz out = if len ≤ x then (0, a, out) else if gF D H m (min (3 - m) (len - x)) a = 0 then gl D H m len e (x + (3 - m)) (a + gbn m (min (3 - m) (len - x))) (sz + min (3 - m) (len - x)) (gou m (min (3 - m) (len - x)) (nv D a (gbn m (min (3 - m) (len - x)))) sz out (min (3 - m) (len - x))) else (gF D H m (min (3 - m) (len - x)) a, a, out) := rfl
theorem gF_lt (D : Nat → Nat) (H m n a : Nat) : gF D H m n a ≤ 5 ∧ (gF D H m n a = 0 → a + gbn m n ≤ 8 * H) := by
  unfold gF
  by_cases h : a + gbn m n ≤ 8 * H
  · rw [if_pos h]
    split
    · exact ⟨by omega, fun _ => h⟩
    · exact ⟨by omega, fun z => absurd z (by omega)⟩
  · rw [if_neg h]
    exact ⟨by omega, fun z => absurd z (by omega)⟩
theorem gl_b {D : Nat → Nat} {H m len : Nat} : ∀ (e x a sz : Nat) (out : Nat → Nat), a ≤ 8 * H → (gl D H m len e x a sz out).1 ≤ 5 ∧ a ≤ (gl D H m len e x a sz out).2.1 ∧ (gl D H m len e x a sz out).2.1 ≤ 8 * H
  | 0, x, a, sz, out, h => ⟨Nat.zero_le _, Nat.le_refl _, h⟩
  | e + 1, x, a, sz, out, h => by
    rw [gl_s]
    split
    · exact ⟨Nat.zero_le _, Nat.le_refl _, h⟩
    · obtain ⟨q1, q2⟩ := gF_lt D H m (min (3 - m) (len - x)) a
      split
      · rename_i z
        have := gl_b (D := D) (H := H) (m := m) (len := len) e (x + (3 - m)) (a + gbn m (min (3 - m) (len - x))) (sz + min (3 - m) (len - x)) (gou m (min (3 - m) (len - x)) (nv D a (gbn m (min (3 - m) (len - x)))) sz out (min (3 - m) (len - x))) (q2 z)
        exact ⟨this.1, by omega, this.2.2⟩
      · exact ⟨q1, Nat.le_refl _, h⟩
theorem ni_sw (a b c : Nat) : ni a - ni b - ni c = ni a - ni (b + c) := by
  rw [← ni_add]
  rw [Int32.sub_eq_add_neg, Int32.sub_eq_add_neg, Int32.sub_eq_add_neg, Int32.neg_add, Int32.add_assoc]
  congr 1
  exact (Int32.sub_eq_add_neg _ _).symm
theorem cl_sN_l {b : Nat → Int32} {D : Nat → Nat} {m len H N n0 : Nat} {s8 : Int32} (hn0 : 300 ≤ n0) (hm : m < 3) (hlen : len ≤ 65536) (hN : N ≤ 3706) (hH : H ≤ N) (hb : cb b N D) : ∀ (e x a k sz : Nat) (out : Nat → Nat), len ≤ x + e → x ≤ len + 3 → e < k → a ≤ 8 * H → ∃ y, fn_Parser_parseSegment_tN_L1 (ni m) n0 (ni H) b (ni len) s8 (ni (3 - m)) k (ni x) (ni a) = some (ni (gl D H m len e x a sz out).1, y, s8) ∧ ((gl D H m len e x a sz out).1 = 0 → y = ni (gl D H m len e x a sz out).2.1)
  | 0, x, a, k + 1, sz, out, h1, h2, _, ha => by
    refine ⟨ni a, ?_, fun _ => rfl⟩
    rw [fn_Parser_parseSegment_tN_L1_s, if_pos ((ni_le (by omega) (by omega)).mpr (by omega))]
    rfl
  | e + 1, x, a, k + 1, sz, out, h1, h2, hk, ha => by
    rw [fn_Parser_parseSegment_tN_L1_s, gl_s]
    by_cases h : len ≤ x
    · rw [if_pos ((ni_le (by omega) (by omega)).mpr h), if_pos h]
      exact ⟨ni a, rfl, fun _ => rfl⟩
    · rw [if_neg (fun z => h ((ni_le (by omega) (by omega)).mp z)), if_neg h]
      obtain ⟨y, g1, g2⟩ := cl_gN (D := D) (m := m) (n := min (3 - m) (len - x)) (a := a) (H := H) (N := N) (n0 := n0) hn0 hm (by omega) (by omega) hN hH ha hb
      obtain ⟨q1, q2⟩ := gF_lt D H m (min (3 - m) (len - x)) a
      simp only [sq_bd]
      rw [ni_sub (by omega), ni_min (by omega) (by omega), g1]
      simp only [sq_cb2]
      by_cases z : gF D H m (min (3 - m) (len - x)) a = 0
      · rw [if_pos (by rw [z]; rfl), if_pos z, g2 z, ni_add]
        exact cl_sN_l hn0 hm hlen hN hH hb e (x + (3 - m)) _ k _ _ (by omega) (by omega) (by omega) (q2 z)
      · rw [if_neg (by rw [← ni_0, ni_eq (by omega) (by omega)]; exact z), if_neg z]
        exact ⟨y, rfl, fun w => absurd w z⟩
theorem cl_sD_l {b : Nat → Int32} {D : Nat → Nat} {m len H N n0 : Nat} {s8 : Int32} (hn0 : 300 ≤ n0) (hm : m < 3) (hlen : len ≤ 3000) (hN : N ≤ 3706) (hH : H ≤ N) (hb : cb b N D) : ∀ (e x a k sz : Nat) (out : Nat → Nat) (tb : Nat → Int32), len ≤ x + e → x ≤ len + 3 → e < k → a ≤ 8 * H → sz + (len - x) ≤ 3000 → oC tb sz out → ∃ y s' tb', fn_Parser_parseSegment_tD_L1 (ni m) n0 (ni H) b (ni len) s8 (ni (3 - m)) k (ni x) (ni a) (ni sz) tb = some (ni (gl D H m len e x a sz out).1, y, s8, s', tb') ∧ ((gl D H m len e x a sz out).1 = 0 → y = ni (gl D H m len e x a sz out).2.1 ∧ s' = ni (sz + (len - x)) ∧ oC tb' (sz + (len - x)) (gl D H m len e x a sz out).2.2)
  | 0, x, a, k + 1, sz, out, tb, h1, h2, _, ha, hz, ho => by
    refine ⟨ni a, ni sz, tb, ?_, fun _ => ⟨rfl, by rw [show len - x = 0 by omega]; rfl, by rw [show len - x = 0 by omega]; exact ho⟩⟩
    rw [fn_Parser_parseSegment_tD_L1_s, if_pos ((ni_le (by omega) (by omega)).mpr (by omega))]
    rfl
  | e + 1, x, a, k + 1, sz, out, tb, h1, h2, hk, ha, hz, ho => by
    rw [fn_Parser_parseSegment_tD_L1_s, gl_s]
    by_cases h : len ≤ x
    · rw [if_pos ((ni_le (by omega) (by omega)).mpr h), if_pos h]
      exact ⟨ni a, ni sz, tb, rfl, fun _ => ⟨rfl, by rw [show len - x = 0 by omega]; rfl, by rw [show len - x = 0 by omega]; exact ho⟩⟩
    · rw [if_neg (fun z => h ((ni_le (by omega) (by omega)).mp z)), if_neg h]
      obtain ⟨y, s', tb', g1, g2⟩ := cl_gD (D := D) (m := m) (n := min (3 - m) (len - x)) (a := a) (sz := sz) (out := out) (H := H) (N := N) (n0 := n0) hn0 hm (by omega) (by omega) hN hH ha hb (by omega) ho
      obtain ⟨q1, q2⟩ := gF_lt D H m (min (3 - m) (len - x)) a
      simp only [sq_bd]
      rw [ni_sub (by omega), ni_min (by omega) (by omega), g1]
      simp only [sq_cb4]
      by_cases z : gF D H m (min (3 - m) (len - x)) a = 0
      · obtain ⟨k1, k2, k3⟩ := g2 z
        rw [if_pos (by rw [z]; rfl), if_pos z, k1, k2, ni_add]
        have := cl_sD_l (s8 := s8) hn0 hm hlen hN hH hb e (x + (3 - m)) (a + gbn m (min (3 - m) (len - x))) k (sz + min (3 - m) (len - x)) _ tb' (by omega) (by omega) (by omega) (q2 z) (by omega) k3
        rw [show sz + min (3 - m) (len - x) + (len - (x + (3 - m))) = sz + (len - x) by omega] at this
        exact this
      · rw [if_neg (by rw [← ni_0, ni_eq (by omega) (by omega)]; exact z), if_neg z]
        exact ⟨y, s', tb', rfl, fun w => absurd w z⟩
theorem md_sM_l {b : Nat → Int32} {D : Nat → Nat} {m len H n0 : Nat} (hn0 : 300 ≤ n0) (hm : m < 3) (hlen : len ≤ 3000) (hH : H ≤ 3706) (hb : ∀ p : Nat, p < H → b p = ni (D p) ∧ D p < 256) : ∀ (e x a k sz : Nat) (out : Nat → Nat) (rb : Nat → Int32), len ≤ x + e → x ≤ len + 3 → e + 1 < k → a ≤ 8 * H → sz + (len - x) ≤ 3000 → oM rb sz out → ∃ s' y rb', (∀ k51, fn_Md_segments_L2 n0 (ni (8 * H)) b (ni m) (ni (3 - m)) k51 k (ni len - ni x) (ni sz) (ni a) 0 rb = k51 s' y (ni (gl D H m len e x a sz out).1) rb') ∧ ((gl D H m len e x a sz out).1 = 0 → y = ni (gl D H m len e x a sz out).2.1 ∧ s' = ni (sz + (len - x)) ∧ oM rb' (sz + (len - x)) (gl D H m len e x a sz out).2.2)
  | 0, x, a, k + 1, sz, out, rb, h1, h2, _, ha, hz, ho => by
    refine ⟨ni sz, ni a, rb, fun k51 => ?_, fun _ => ⟨rfl, by rw [show len - x = 0 by omega]; rfl, by rw [show len - x = 0 by omega]; exact ho⟩⟩
    rw [fn_Md_segments_L2_s, if_pos rfl, if_pos (by rw [← ni_0, ni_les (by omega) (by omega) (by omega)]; omega)]
    rfl
  | e + 1, x, a, k + 1, sz, out, rb, h1, h2, hk, ha, hz, ho => by
    rw [gl_s]
    by_cases h : len ≤ x
    · rw [if_pos h]
      refine ⟨ni sz, ni a, rb, fun k51 => ?_, fun _ => ⟨rfl, by rw [show len - x = 0 by omega]; rfl, by rw [show len - x = 0 by omega]; exact ho⟩⟩
      rw [fn_Md_segments_L2_s, if_pos rfl, if_pos (by rw [← ni_0, ni_les (by omega) (by omega) (by omega)]; omega)]
      rfl
    · rw [if_neg h]
      obtain ⟨s', y, rb', g1, g2⟩ := md_gM (D := D) (m := m) (n := min (3 - m) (len - x)) (a := a) (sz := sz) (out := out) (H := H) (n0 := n0) hn0 hm (by omega) (by omega) hH ha hb (by omega) ho
      obtain ⟨q1, q2⟩ := gF_lt D H m (min (3 - m) (len - x)) a
      have hj : ∀ K : Int32 → Option (Int32 × Int32 × Int32 × (Nat → Int32) × (Nat → Int32)), sq_jn K (fun k61 => if ni (3 - m) ≤ ni len - ni x then (k61 (ni (3 - m))) else (k61 (ni len - ni x))) = K (ni (min (3 - m) (len - x))) := fun K => by
        simp only [sq_jn]
        by_cases q : 3 - m + x ≤ len
        · rw [if_pos (by rw [ni_sle (by omega) (by omega) (by omega)]; exact q), Nat.min_eq_left (by omega)]
        · rw [if_neg (by rw [ni_sle (by omega) (by omega) (by omega)]; exact q), Nat.min_eq_right (by omega), ni_sub (by omega)]
      have hst : ∀ k51, fn_Md_segments_L2 n0 (ni (8 * H)) b (ni m) (ni (3 - m)) k51 (k + 1) (ni len - ni x) (ni sz) (ni a) 0 rb = fn_Md_segments_L2 n0 (ni (8 * H)) b (ni m) (ni (3 - m)) k51 k (ni len - ni (x + (3 - m))) s' y (ni (gF D H m (min (3 - m) (len - x)) a)) rb' := fun k51 => by
        rw [fn_Md_segments_L2_s, if_pos rfl, if_neg (by rw [← ni_0, ni_les (by omega) (by omega) (by omega)]; omega), hj, g1]
        simp only [sq_cb4, sq_bd]
        rw [ni_sw]
      by_cases z : gF D H m (min (3 - m) (len - x)) a = 0
      · obtain ⟨k1, k2, k3⟩ := g2 z
        rw [if_pos z]
        obtain ⟨s2, y2, rb2, r1, r2⟩ := md_sM_l hn0 hm hlen hH hb e (x + (3 - m)) (a + gbn m (min (3 - m) (len - x))) k (sz + min (3 - m) (len - x)) _ rb' (by omega) (by omega) (by omega) (q2 z) (by omega) k3
        rw [show sz + min (3 - m) (len - x) + (len - (x + (3 - m))) = sz + (len - x) by omega] at r2
        exact ⟨s2, y2, rb2, fun k51 => by rw [hst, k1, k2, z]; exact r1 k51, r2⟩
      · rw [if_neg z]
        refine ⟨s', y, rb', fun k51 => ?_, fun w => absurd w z⟩
        obtain ⟨k', rfl⟩ : ∃ k', k = k' + 1 := ⟨k - 1, by omega⟩
        rw [hst, fn_Md_segments_L2_s, if_neg (by rw [← ni_0, ni_eq (by omega) (by omega)]; exact z)]
def sgG (D : Nat → Nat) (H r m a sz : Nat) (out : Nat → Nat) : OUT := gl D H m (nv D a (lb r m)) (nv D a (lb r m)) 0 (a + lb r m) sz out
def sgF (D : Nat → Nat) (H r m a sz : Nat) (out : Nat → Nat) : Nat := if a + lb r m ≤ 8 * H then (if sz + nv D a (lb r m) ≤ 3000 then (sgG D H r m a sz out).1 else 6) else 4
/-- the segments: fault, size, number, bytes -/
def sl (D : Nat → Nat) (H r : Nat) : Nat → Nat → Nat → Nat → (Nat → Nat) → Nat × Nat × Nat × (Nat → Nat)
  | 0, _, sz, g, out => (0, sz, g, out)
  | e + 1, a, sz, g, out => if 8 * H < a + 4 then (0, sz, g, out) else if nv D a 4 = 0 then (0, sz, g, out) else if nv D a 4 = 1 ∨ nv D a 4 = 2 ∨ nv D a 4 = 4 then (if sgF D H r (nv D a 4 / 2) (a + 4) sz out = 0 then sl D H r e (sgG D H r (nv D a 4 / 2) (a + 4) sz out).2.1 (sz + nv D (a + 4) (lb r (nv D a 4 / 2))) (g + 1) (sgG D H r (nv D a 4 / 2) (a + 4) sz out).2.2 else (sgF D H r (nv D a 4 / 2) (a + 4) sz out, sz, g, out)) else (3, sz, g, out)
theorem sl_s (D : Nat → Nat) (H r e a sz g : Nat) (out : Nat → Nat) : sl D H r (e + 1) a sz g out = if 8 * H < a + 4 then (0, sz, g, out) else if nv D a 4 = 0 then (0, sz, g, out) else if nv D a 4 = 1 ∨ nv D a 4 = 2 ∨ nv D a 4 = 4 then (if sgF D H r (nv D a 4 / 2) (a + 4) sz out = 0 then sl D H r e (sgG D H r (nv D a 4 / 2) (a + 4) sz out).2.1 (sz + nv D (a + 4) (lb r (nv D a 4 / 2))) (g + 1) (sgG D H r (nv D a 4 / 2) (a + 4) sz out).2.2 else (sgF D H r (nv D a 4 / 2) (a + 4) sz out, sz, g, out)) else (3, sz, g, out) := rfl
theorem lb_b {r m : Nat} (hr : r < 3) (hm : m < 3) : 8 ≤ lb r m ∧ lb r m ≤ 16 := by
  unfold lb
  split
  · omega
  · split
    · omega
    · split <;> omega
theorem sgF_b {D : Nat → Nat} {H r m a sz : Nat} {out : Nat → Nat} : sgF D H r m a sz out ≤ 6 ∧ (sgF D H r m a sz out = 0 → sz + nv D a (lb r m) ≤ 3000 ∧ a + lb r m ≤ (sgG D H r m a sz out).2.1 ∧ (sgG D H r m a sz out).2.1 ≤ 8 * H) := by
  unfold sgF
  by_cases h : a + lb r m ≤ 8 * H
  · rw [if_pos h]
    by_cases q : sz + nv D a (lb r m) ≤ 3000
    · rw [if_pos q]
      have := gl_b (D := D) (H := H) (m := m) (len := nv D a (lb r m)) (nv D a (lb r m)) 0 (a + lb r m) sz out h
      exact ⟨Nat.le_trans this.1 (by omega), fun _ => ⟨q, this.2⟩⟩
    · rw [if_neg q]
      exact ⟨by omega, fun z => absurd z (by omega)⟩
  · rw [if_neg h]
    exact ⟨by omega, fun z => absurd z (by omega)⟩
theorem cl_seN {b : Nat → Int32} {D out : Nat → Nat} {m v a sz H N n0 : Nat} (hn0 : 4000 ≤ n0) (hm : m < 3) (hv : v < 41) (hv1 : 1 ≤ v) (hN : N ≤ 3706) (hH : H ≤ N) (hb : cb b N D) (ha : a ≤ 8 * H) (hsz : sz ≤ 3000) : ∃ y z, fn_Parser_parseSegment_tN n0 (ni m) (ni v) (ni a) (ni sz) (ni H) b = some (ni (sgF D H (rk v) m a sz out), y, z) ∧ (sgF D H (rk v) m a sz out = 0 → y = ni (sgG D H (rk v) m a sz out).2.1 ∧ z = ni (sz + nv D a (lb (rk v) m))) := by
  obtain ⟨l1, l2⟩ := lb_b (rk_lt v) hm
  have hnb := nv_b (D := D) (a := a) (k := lb (rk v) m) l2
  unfold fn_Parser_parseSegment_tN sgF
  rw [cl_cnt m hm v hv hv1, cb1_e, cl_tk l2 (by omega) hN hH ha hb]
  by_cases h : a + lb (rk v) m ≤ 8 * H
  · rw [if_pos h, if_pos h]
    simp only [sq_cb2]
    rw [if_neg (by rw [ni_m1 (by omega)]; exact id)]
    by_cases q : sz + nv D a (lb (rk v) m) ≤ 3000
    · rw [if_pos (show ni _ ≤ (3000 : Int32) - ni sz by rw [show (3000 : Int32) = ni 3000 from rfl, ni_sle (by omega) (by omega) (by omega)]; omega), if_pos q]
      obtain ⟨y, r1, r2⟩ := cl_sN_l (D := D) (m := m) (len := nv D a (lb (rk v) m)) (s8 := ni (sz + nv D a (lb (rk v) m))) (n0 := n0) (by omega) hm (by omega) hN hH hb (nv D a (lb (rk v) m)) 0 (a + lb (rk v) m) n0 sz out (by omega) (by omega) (by omega) h
      refine ⟨y, ni (sz + nv D a (lb (rk v) m)), ?_, fun z => ⟨r2 z, rfl⟩⟩
      simp only [sq_bd]
      unfold fn_Mode_groupSize
      rw [cb1_e, show (3 : Int32) = ni 3 from rfl, ni_sub (by omega), show (1 : Int32) = ni 1 from rfl, ni_max (by omega) (by omega), Nat.max_eq_right (by omega), ni_add]
      exact r1
    · rw [if_neg (show ¬ ni _ ≤ (3000 : Int32) - ni sz by rw [show (3000 : Int32) = ni 3000 from rfl, ni_sle (by omega) (by omega) (by omega)]; omega), if_neg q]
      exact ⟨_, _, rfl, fun z => absurd z (by omega)⟩
  · rw [if_neg h, if_neg h]
    simp only [sq_cb2]
    rw [if_pos trivial]
    exact ⟨_, _, rfl, fun z => absurd z (by omega)⟩
theorem cl_seD {b tb : Nat → Int32} {D out : Nat → Nat} {m v a sz H N n0 : Nat} (hn0 : 4000 ≤ n0) (hm : m < 3) (hv : v < 41) (hv1 : 1 ≤ v) (hN : N ≤ 3706) (hH : H ≤ N) (hb : cb b N D) (ha : a ≤ 8 * H) (hsz : sz ≤ 3000) (ho : oC tb sz out) : ∃ y z s' tb', fn_Parser_parseSegment_tD n0 (ni m) (ni v) (ni a) (ni sz) (ni sz) (ni H) tb b = some (ni (sgF D H (rk v) m a sz out), y, z, s', tb') ∧ (sgF D H (rk v) m a sz out = 0 → y = ni (sgG D H (rk v) m a sz out).2.1 ∧ z = ni (sz + nv D a (lb (rk v) m)) ∧ s' = ni (sz + nv D a (lb (rk v) m)) ∧ oC tb' (sz + nv D a (lb (rk v) m)) (sgG D H (rk v) m a sz out).2.2) := by
  obtain ⟨l1, l2⟩ := lb_b (rk_lt v) hm
  have hnb := nv_b (D := D) (a := a) (k := lb (rk v) m) l2
  unfold fn_Parser_parseSegment_tD sgF
  rw [cl_cnt m hm v hv hv1, cb1_e, cl_tk l2 (by omega) hN hH ha hb]
  by_cases h : a + lb (rk v) m ≤ 8 * H
  · rw [if_pos h, if_pos h]
    simp only [sq_cb2]
    rw [if_neg (by rw [ni_m1 (by omega)]; exact id)]
    by_cases q : sz + nv D a (lb (rk v) m) ≤ 3000
    · rw [if_pos (show ni _ ≤ (3000 : Int32) - ni sz by rw [show (3000 : Int32) = ni 3000 from rfl, ni_sle (by omega) (by omega) (by omega)]; omega), if_pos q]
      obtain ⟨y, s', tb', r1, r2⟩ := cl_sD_l (D := D) (m := m) (len := nv D a (lb (rk v) m)) (s8 := ni (sz + nv D a (lb (rk v) m))) (n0 := n0) (by omega) hm (by omega) hN hH hb (nv D a (lb (rk v) m)) 0 (a + lb (rk v) m) n0 sz out tb (by omega) (by omega) (by omega) h (by omega) ho
      refine ⟨y, ni (sz + nv D a (lb (rk v) m)), s', tb', ?_, fun z => ⟨(r2 z).1, rfl, (r2 z).2.1, (r2 z).2.2⟩⟩
      simp only [sq_bd]
      unfold fn_Mode_groupSize
      rw [cb1_e, show (3 : Int32) = ni 3 from rfl, ni_sub (by omega), show (1 : Int32) = ni 1 from rfl, ni_max (by omega) (by omega), Nat.max_eq_right (by omega), ni_add]
      exact r1
    · rw [if_neg (show ¬ ni _ ≤ (3000 : Int32) - ni sz by rw [show (3000 : Int32) = ni 3000 from rfl, ni_sle (by omega) (by omega) (by omega)]; omega), if_neg q]
      exact ⟨_, _, _, _, rfl, fun z => absurd z (by omega)⟩
  · rw [if_neg h, if_neg h]
    simp only [sq_cb2]
    rw [if_pos trivial]
    exact ⟨_, _, _, _, rfl, fun z => absurd z (by omega)⟩
theorem m124 {x : Nat} (h : x = 1 ∨ x = 2 ∨ x = 4) : x / 2 < 3 := by omega
theorem nv4 (D : Nat → Nat) (a : Nat) : nv D a 4 < 16 := nv_lt D a 4
theorem cl_p2_l {b : Nat → Int32} {D : Nat → Nat} {v H N n0 : Nat} (hn0 : 4000 ≤ n0) (hv : v < 41) (hv1 : 1 ≤ v) (hN : N ≤ 3706) (hH : H ≤ N) (hH1 : 1 ≤ H) (hb : cb b N D) : ∀ (e a sz g k : Nat) (out : Nat → Nat), 8 * H ≤ a + e → e < k → a ≤ 8 * H → sz ≤ 3000 → 4 * g ≤ a → ∃ y z w, fn_Parser_parse_p2_L1 (ni v) n0 (ni H) b (ni (8 * H)) k (ni a) (ni sz) (ni g) = some (ni (sl D H (rk v) e a sz g out).1, ni v, y, z, w)
  | 0, a, sz, g, k + 1, out, h1, _, h2, h3, h4 => by
    rw [fn_Parser_parse_p2_L1_s, if_neg (fun z => absurd ((ni_le (by omega) (by omega)).mp z) (by omega)), show (4 : Int32) = ni 4 from rfl, ni_add, if_pos ((ni_lt (by omega) (by omega)).mpr (by omega))]
    exact ⟨_, _, _, rfl⟩
  | e + 1, a, sz, g, k + 1, out, h1, hk, h2, h3, h4 => by
    have n4 := nv4 D a
    rw [fn_Parser_parse_p2_L1_s, if_neg (fun z => absurd ((ni_le (by omega) (by omega)).mp z) (by omega)), show (4 : Int32) = ni 4 from rfl, ni_add, sl_s]
    by_cases h : 8 * H < a + 4
    · rw [if_pos ((ni_lt (by omega) (by omega)).mpr h), if_pos h]
      exact ⟨_, _, _, rfl⟩
    · rw [if_neg (fun z => h ((ni_lt (by omega) (by omega)).mp z)), if_neg h, cl_tk (by omega) (by omega) hN hH h2 hb, if_pos (by omega)]
      simp only [sq_cb2]
      by_cases z0 : nv D a 4 = 0
      · rw [if_pos (by rw [z0]; rfl), if_pos z0]
        exact ⟨_, _, _, rfl⟩
      · rw [if_neg (by rw [← ni_0, ni_eq (by omega) (by omega)]; exact z0), if_neg z0]
        have hj : ∀ (K : Unit → Option (Int32 × Int32 × Int32 × Int32 × Int32)) (R : Option (Int32 × Int32 × Int32 × Int32 × Int32)), sq_jn K (fun k13 => if ni (nv D a 4) = (1 : Int32) then (k13 ()) else (if ni (nv D a 4) = (2 : Int32) then (k13 ()) else (if ni (nv D a 4) = ni 4 then (k13 ()) else R))) = if nv D a 4 = 1 ∨ nv D a 4 = 2 ∨ nv D a 4 = 4 then K () else R := fun K R => by
          simp only [sq_jn]
          rw [show (1 : Int32) = ni 1 from rfl, show (2 : Int32) = ni 2 from rfl]
          simp (disch := omega) only [ni_eq]
          by_cases q1 : nv D a 4 = 1
          · rw [if_pos q1, if_pos (.inl q1)]
          · rw [if_neg q1]
            by_cases q2 : nv D a 4 = 2
            · rw [if_pos q2, if_pos (.inr (.inl q2))]
            · rw [if_neg q2]
              by_cases q3 : nv D a 4 = 4
              · rw [if_pos q3, if_pos (.inr (.inr q3))]
              · rw [if_neg q3, if_neg (by omega)]
        rw [hj]
        by_cases z1 : nv D a 4 = 1 ∨ nv D a 4 = 2 ∨ nv D a 4 = 4
        · rw [if_pos z1, if_pos z1]
          obtain ⟨y, z, r1, r2⟩ := cl_seN (out := out) (n0 := n0) hn0 (m124 z1) hv hv1 hN hH hb (show a + 4 ≤ 8 * H by omega) h3
          obtain ⟨f1, f2⟩ := sgF_b (D := D) (H := H) (r := rk v) (m := nv D a 4 / 2) (a := a + 4) (sz := sz) (out := out)
          rw [show ni (nv D a 4) >>> ((1 : Int32) &&& 31) = ni (nv D a 4 / 2) by rw [show ((1 : Int32) &&& 31) = ni 1 from by decide, ni_shr (by omega) (by omega), Nat.shiftRight_eq_div_pow], r1]
          simp only [sq_cb3]
          by_cases zf : sgF D H (rk v) (nv D a 4 / 2) (a + 4) sz out = 0
          · obtain ⟨k1, k2⟩ := r2 zf
            obtain ⟨k3, k4, k5⟩ := f2 zf
            have lbb := (lb_b (rk_lt v) (m124 z1)).1
            rw [if_pos (by rw [zf]; rfl), if_pos zf, k1, k2]
            simp only [sq_bd]
            rw [show (1 : Int32) = ni 1 from rfl, ni_add]
            exact cl_p2_l hn0 hv hv1 hN hH hH1 hb e _ _ _ k _ (by omega) (by omega) k5 k3 (by omega)
          · rw [if_neg (by rw [← ni_0, ni_eq (by omega) (by omega)]; exact zf), if_neg zf]
            exact ⟨_, _, _, rfl⟩
        · rw [if_neg z1, if_neg z1]
          exact ⟨_, _, _, rfl⟩
theorem cl_pD_l {b : Nat → Int32} {D : Nat → Nat} {v H N n0 : Nat} (hn0 : 4000 ≤ n0) (hv : v < 41) (hv1 : 1 ≤ v) (hN : N ≤ 3706) (hH : H ≤ N) (hH1 : 1 ≤ H) (hb : cb b N D) : ∀ (e a sz g k : Nat) (out : Nat → Nat) (tb : Nat → Int32), 8 * H ≤ a + e → e < k → a ≤ 8 * H → sz ≤ 3000 → 4 * g ≤ a → oC tb sz out → (sl D H (rk v) e a sz g out).1 = 0 → ∃ y z tb', fn_Parser_parse_L1 (ni v) n0 (ni H) b (ni (8 * H)) k (ni sz) (ni a) (ni sz) (ni g) tb = some (0, ni (sl D H (rk v) e a sz g out).2.1, ni v, y, z, ni (sl D H (rk v) e a sz g out).2.2.1, tb') ∧ oC tb' (sl D H (rk v) e a sz g out).2.1 (sl D H (rk v) e a sz g out).2.2.2 ∧ (sl D H (rk v) e a sz g out).2.1 ≤ 3000
  | 0, a, sz, g, k + 1, out, tb, h1, _, h2, h3, h4, ho, _ => by
    rw [fn_Parser_parse_L1_s, if_neg (fun z => absurd ((ni_le (by omega) (by omega)).mp z) (by omega)), show (4 : Int32) = ni 4 from rfl, ni_add, if_pos ((ni_lt (by omega) (by omega)).mpr (by omega))]
    exact ⟨_, _, tb, rfl, ho, h3⟩
  | e + 1, a, sz, g, k + 1, out, tb, h1, hk, h2, h3, h4, ho, hf => by
    have n4 := nv4 D a
    rw [fn_Parser_parse_L1_s, if_neg (fun z => absurd ((ni_le (by omega) (by omega)).mp z) (by omega)), show (4 : Int32) = ni 4 from rfl, ni_add]
    rw [sl_s] at hf ⊢
    by_cases h : 8 * H < a + 4
    · rw [if_pos ((ni_lt (by omega) (by omega)).mpr h), if_pos h]
      exact ⟨_, _, tb, rfl, ho, h3⟩
    · rw [if_neg h] at hf
      rw [if_neg (fun z => h ((ni_lt (by omega) (by omega)).mp z)), if_neg h, cl_tk (by omega) (by omega) hN hH h2 hb, if_pos (by omega)]
      simp only [sq_cb2]
      by_cases z0 : nv D a 4 = 0
      · rw [if_pos (by rw [z0]; rfl), if_pos z0]
        exact ⟨_, _, tb, rfl, ho, h3⟩
      · rw [if_neg z0] at hf
        rw [if_neg (by rw [← ni_0, ni_eq (by omega) (by omega)]; exact z0), if_neg z0]
        have hj : ∀ (K : Unit → Option (Int32 × Int32 × Int32 × Int32 × Int32 × Int32 × (Nat → Int32))) (R : Option (Int32 × Int32 × Int32 × Int32 × Int32 × Int32 × (Nat → Int32))), sq_jn K (fun k13 => if ni (nv D a 4) = (1 : Int32) then (k13 ()) else (if ni (nv D a 4) = (2 : Int32) then (k13 ()) else (if ni (nv D a 4) = ni 4 then (k13 ()) else R))) = if nv D a 4 = 1 ∨ nv D a 4 = 2 ∨ nv D a 4 = 4 then K () else R := fun K R => by
          simp only [sq_jn]
          rw [show (1 : Int32) = ni 1 from rfl, show (2 : Int32) = ni 2 from rfl]
          simp (disch := omega) only [ni_eq]
          by_cases q1 : nv D a 4 = 1
          · rw [if_pos q1, if_pos (.inl q1)]
          · rw [if_neg q1]
            by_cases q2 : nv D a 4 = 2
            · rw [if_pos q2, if_pos (.inr (.inl q2))]
            · rw [if_neg q2]
              by_cases q3 : nv D a 4 = 4
              · rw [if_pos q3, if_pos (.inr (.inr q3))]
              · rw [if_neg q3, if_neg (by omega)]
        rw [hj]
        by_cases z1 : nv D a 4 = 1 ∨ nv D a 4 = 2 ∨ nv D a 4 = 4
        · rw [if_pos z1] at hf
          rw [if_pos z1, if_pos z1]
          obtain ⟨y, z, s', tb', r1, r2⟩ := cl_seD (out := out) (n0 := n0) hn0 (m124 z1) hv hv1 hN hH hb (show a + 4 ≤ 8 * H by omega) h3 ho
          obtain ⟨f1, f2⟩ := sgF_b (D := D) (H := H) (r := rk v) (m := nv D a 4 / 2) (a := a + 4) (sz := sz) (out := out)
          rw [show ni (nv D a 4) >>> ((1 : Int32) &&& 31) = ni (nv D a 4 / 2) by rw [show ((1 : Int32) &&& 31) = ni 1 from by decide, ni_shr (by omega) (by omega), Nat.shiftRight_eq_div_pow], r1]
          simp only [sq_cb5]
          by_cases zf : sgF D H (rk v) (nv D a 4 / 2) (a + 4) sz out = 0
          · rw [if_pos zf] at hf
            obtain ⟨k1, k2, k6, k7⟩ := r2 zf
            obtain ⟨k3, k4, k5⟩ := f2 zf
            have lbb := (lb_b (rk_lt v) (m124 z1)).1
            rw [if_pos (by rw [zf]; rfl), if_pos zf, k1, k2, k6]
            simp only [sq_bd]
            rw [show (1 : Int32) = ni 1 from rfl, ni_add]
            exact cl_pD_l hn0 hv hv1 hN hH hH1 hb e _ _ _ k _ tb' (by omega) (by omega) k5 k3 (by omega) k7 hf
          · rw [if_neg zf] at hf
            exact absurd hf zf
        · rw [if_neg z1] at hf
          exact absurd hf (show ¬ (3 : Nat) = 0 by omega)
theorem md_seg_l {b : Nat → Int32} {D : Nat → Nat} {v H n0 : Nat} (hn0 : 40000 ≤ n0) (hv : v < 41) (hv1 : 1 ≤ v) (hH : H ≤ 3706) (hb : ∀ p : Nat, p < H → b p = ni (D p) ∧ D p < 256) (k6 : Int32 → Int32 → Int32 → Int32 → (Nat → Int32) → Option (Int32 × Int32 × Int32 × (Nat → Int32) × (Nat → Int32))) (k13 : Int32 → Int32 → Int32 → (Nat → Int32) → Option (Int32 × Int32 × Int32 × (Nat → Int32) × (Nat → Int32))) (k19 : Int32 → Int32 → Int32 → Int32 → (Nat → Int32) → Option (Int32 × Int32 × Int32 × (Nat → Int32) × (Nat → Int32))) (hk19 : ∀ a b c d e, k19 a b c d e = k6 a b c d e) : ∀ (e a sz g k : Nat) (out : Nat → Nat) (rb : Nat → Int32), 8 * H ≤ a + e → e + 1 < k → a ≤ 8 * H → sz ≤ 3000 → oM rb sz out → ∃ x1 s y rb', ((sl D H (rk v) e a sz g out).1 = 0 → x1 = ni (sl D H (rk v) e a sz g out).2.2.1 ∧ s = ni (sl D H (rk v) e a sz g out).2.1 ∧ oM rb' (sl D H (rk v) e a sz g out).2.1 (sl D H (rk v) e a sz g out).2.2.2) ∧ (fn_Md_segments_L1 (ni v) n0 (ni (8 * H)) b k6 k13 k19 k (ni g) (ni sz) (ni a) 0 rb = k6 x1 s y (ni (sl D H (rk v) e a sz g out).1) rb' ∨ ((sl D H (rk v) e a sz g out).1 = 3 ∧ fn_Md_segments_L1 (ni v) n0 (ni (8 * H)) b k6 k13 k19 k (ni g) (ni sz) (ni a) 0 rb = k13 s y 0 rb'))
  | 0, a, sz, g, k + 1, out, rb, h1, _, h2, h3, ho => by
    refine ⟨ni g, ni sz, ni a, rb, fun _ => ⟨rfl, rfl, ho⟩, .inl ?_⟩
    rw [fn_Md_segments_L1_s, if_pos rfl, if_pos (show ni (8 * H) - ni a < (4 : Int32) by rw [show (4 : Int32) = ni 4 from rfl, ni_ls (by omega) (by omega) (by omega)]; omega)]
    rfl
  | e + 1, a, sz, g, k + 1, out, rb, h1, hk, h2, h3, ho => by
    have n4 := nv4 D a
    rw [fn_Md_segments_L1_s, if_pos rfl, sl_s]
    by_cases h : 8 * H < a + 4
    · rw [if_pos (show ni (8 * H) - ni a < (4 : Int32) by rw [show (4 : Int32) = ni 4 from rfl, ni_ls (by omega) (by omega) (by omega)]; omega), if_pos h]
      exact ⟨ni g, ni sz, ni a, rb, fun _ => ⟨rfl, rfl, ho⟩, .inl rfl⟩
    · rw [if_neg (show ¬ ni (8 * H) - ni a < (4 : Int32) by rw [show (4 : Int32) = ni 4 from rfl, ni_ls (by omega) (by omega) (by omega)]; omega), if_neg h, show (4 : Int32) = ni 4 from rfl, md_nx (by omega) (by omega) hH h2 hb, if_pos (show a + 4 ≤ 8 * H by omega)]
      simp only [sq_cb3]
      by_cases z0 : nv D a 4 = 0
      · rw [if_pos (show ni (nv D a 4) = 0 by rw [z0]; rfl), if_pos z0, hk19]
        exact ⟨ni g, ni sz, ni (a + 4), rb, fun _ => ⟨rfl, rfl, ho⟩, .inl rfl⟩
      · rw [if_neg (show ¬ ni (nv D a 4) = 0 by rw [← ni_0, ni_eq (by omega) (by omega)]; exact z0), if_neg z0]
        have hj : ∀ (K : Int32 → Option (Int32 × Int32 × Int32 × (Nat → Int32) × (Nat → Int32))), sq_jn K (fun k33 => if ni (nv D a 4) = (1 : Int32) then (k33 (0 : Int32)) else (if ni (nv D a 4) = (2 : Int32) then (k33 (1 : Int32)) else (if ni (nv D a 4) = ni 4 then (k33 (2 : Int32)) else (k33 (-1 : Int32))))) = K (if nv D a 4 = 1 ∨ nv D a 4 = 2 ∨ nv D a 4 = 4 then ni (nv D a 4 / 2) else -1) := fun K => by
          simp only [sq_jn]
          rw [show (1 : Int32) = ni 1 from rfl, show (2 : Int32) = ni 2 from rfl]
          simp (disch := omega) only [ni_eq]
          by_cases q1 : nv D a 4 = 1
          · rw [if_pos q1, if_pos (.inl q1), q1]; rfl
          · rw [if_neg q1]
            by_cases q2 : nv D a 4 = 2
            · rw [if_pos q2, if_pos (.inr (.inl q2)), q2]
            · rw [if_neg q2]
              by_cases q3 : nv D a 4 = 4
              · rw [if_pos q3, if_pos (.inr (.inr q3)), q3]
              · rw [if_neg q3, if_neg (by omega)]
        rw [hj]
        by_cases z1 : nv D a 4 = 1 ∨ nv D a 4 = 2 ∨ nv D a 4 = 4
        · have hm := m124 z1
          obtain ⟨l1, l2⟩ := lb_b (rk_lt v) hm
          obtain ⟨f1, f2⟩ := sgF_b (D := D) (H := H) (r := rk v) (m := nv D a 4 / 2) (a := a + 4) (sz := sz) (out := out)
          have hnb := nv_b (D := D) (a := a + 4) (k := lb (rk v) (nv D a 4 / 2)) l2
          rw [if_pos z1, if_pos z1, if_pos (show 0 ≤ ni (nv D a 4 / 2) by rw [← ni_0, ni_le (by omega) (by omega)]; omega), (cl_span v hv hv1).2, cb1_e, md_lb _ hm _ (rk_lt v), cb1_e, md_nx (by omega) l2 hH (by omega) hb]
          generalize nv D a 4 / 2 = m at *
          have hjg : ∀ (K : Int32 → Option (Int32 × Int32 × Int32 × (Nat → Int32) × (Nat → Int32))), sq_jn K (fun k46 => if ni m = 0 then (k46 (3 : Int32)) else (if ni m = (1 : Int32) then (k46 (2 : Int32)) else (k46 (1 : Int32)))) = K (ni (3 - m)) := fun K => by
            simp only [sq_jn]
            rcases (show m = 0 ∨ m = 1 ∨ m = 2 by omega) with rfl | rfl | rfl <;> rfl
          obtain ⟨k', rfl⟩ : ∃ k', k = k' + 1 := ⟨k - 1, by omega⟩
          obtain ⟨n1, hn1⟩ : ∃ n1, n0 = n1 + 1 := ⟨n0 - 1, by omega⟩
          have stop : ∀ (F : Nat) (x20 s y : Int32) (rb : Nat → Int32), F ≠ 0 → F ≤ 6 → fn_Md_segments_L1 (ni v) n0 (ni (8 * H)) b k6 k13 k19 (k' + 1) x20 s y (ni F) rb = k6 x20 s y (ni F) rb := fun F x20 s y rb hF hF2 => by
            rw [fn_Md_segments_L1_s, if_neg (by rw [← ni_0, ni_eq (by omega) (by omega)]; exact hF)]
          have stop2 : ∀ (F : Nat) (k51 : Int32 → Int32 → Int32 → (Nat → Int32) → Option (Int32 × Int32 × Int32 × (Nat → Int32) × (Nat → Int32))) (x53 s y : Int32) (rb : Nat → Int32), F ≠ 0 → F ≤ 6 → fn_Md_segments_L2 n0 (ni (8 * H)) b (ni m) (ni (3 - m)) k51 n0 x53 s y (ni F) rb = k51 s y (ni F) rb := fun F k51 x53 s y rb hF hF2 => by
            rw [hn1, fn_Md_segments_L2_s, if_neg (by rw [← ni_0, ni_eq (by omega) (by omega)]; exact hF)]
          by_cases q : a + 4 + lb (rk v) m ≤ 8 * H
          · rw [if_pos q]
            simp only [sq_cb3]
            by_cases q2 : sz + nv D (a + 4) (lb (rk v) m) ≤ 3000
            · have hsg : sgF D H (rk v) m (a + 4) sz out = (sgG D H (rk v) m (a + 4) sz out).1 := by unfold sgF; rw [if_pos q, if_pos q2]
              obtain ⟨s2, y2, rb2, r1, r2⟩ := md_sM_l (D := D) (m := m) (len := nv D (a + 4) (lb (rk v) m)) (n0 := n0) (by omega) hm (by omega) hH hb (nv D (a + 4) (lb (rk v) m)) 0 (a + 4 + lb (rk v) m) n0 sz out rb (by omega) (by omega) (by omega) q (by omega) ho
              have r1' : ∀ k51, fn_Md_segments_L2 n0 (ni (8 * H)) b (ni m) (ni (3 - m)) k51 n0 (ni (nv D (a + 4) (lb (rk v) m))) (ni sz) (ni (a + 4 + lb (rk v) m)) 0 rb = k51 s2 y2 (ni (sgG D H (rk v) m (a + 4) sz out).1) rb2 := fun k51 => by
                have := r1 k51
                rw [ni_sub (Nat.zero_le _), Nat.sub_zero] at this
                exact this
              have hjf : ∀ (K : Int32 → Option (Int32 × Int32 × Int32 × (Nat → Int32) × (Nat → Int32))), sq_jn K (fun k44 => if True then (if ni sz + ni (nv D (a + 4) (lb (rk v) m)) ≤ (3000 : Int32) then (k44 0) else (k44 (6 : Int32))) else (k44 0)) = K 0 := fun K => by
                simp only [sq_jn]
                rw [if_pos trivial, ni_add, if_pos (show ni _ ≤ (3000 : Int32) by rw [show (3000 : Int32) = ni 3000 from rfl, ni_le (by omega) (by omega)]; omega)]
              rw [hjf, hjg, sq_jne, r1']
              simp only [sq_bd]
              rw [show (1 : Int32) = ni 1 from rfl, ni_add]
              by_cases zf : sgF D H (rk v) m (a + 4) sz out = 0
              · obtain ⟨k3, k4, k5⟩ := f2 zf
                rw [if_pos zf, ← hsg, zf]
                obtain ⟨p1, p2, p3⟩ := r2 (by show (sgG D H (rk v) m (a + 4) sz out).1 = 0; rw [← hsg]; exact zf)
                rw [Nat.sub_zero] at p2 p3
                rw [p1, p2]
                exact md_seg_l hn0 hv hv1 hH hb k6 k13 k19 hk19 e (sgG D H (rk v) m (a + 4) sz out).2.1 _ (g + 1) (k' + 1) _ rb2 (by omega) (by omega) k5 k3 p3
              · rw [if_neg zf, ← hsg, stop _ _ _ _ _ zf f1]
                exact ⟨_, _, _, _, fun w => absurd w zf, .inl rfl⟩
            · have hsg : sgF D H (rk v) m (a + 4) sz out = 6 := by unfold sgF; rw [if_pos q, if_neg q2]
              have hjf : ∀ (K : Int32 → Option (Int32 × Int32 × Int32 × (Nat → Int32) × (Nat → Int32))), sq_jn K (fun k44 => if True then (if ni sz + ni (nv D (a + 4) (lb (rk v) m)) ≤ (3000 : Int32) then (k44 0) else (k44 (6 : Int32))) else (k44 0)) = K (ni 6) := fun K => by
                simp only [sq_jn]
                rw [if_pos trivial, ni_add, if_neg (show ¬ ni _ ≤ (3000 : Int32) by rw [show (3000 : Int32) = ni 3000 from rfl, ni_le (by omega) (by omega)]; omega)]
                rfl
              rw [hjf, hjg, sq_jne, stop2 6 _ _ _ _ _ (by omega) (by omega)]
              simp only [sq_bd]
              rw [stop 6 _ _ _ _ (by omega) (by omega), if_neg (by omega), hsg]
              exact ⟨_, _, _, _, fun w => absurd w (by show ¬ (6 : Nat) = 0; omega), .inl rfl⟩
          · have hsg : sgF D H (rk v) m (a + 4) sz out = 4 := by unfold sgF; rw [if_neg q]
            rw [if_neg q]
            simp only [sq_cb3]
            have hjf : ∀ (K : Int32 → Option (Int32 × Int32 × Int32 × (Nat → Int32) × (Nat → Int32))), sq_jn K (fun k44 => if (4 : Int32) = 0 then (if ni sz + 0 ≤ (3000 : Int32) then (k44 4) else (k44 (6 : Int32))) else (k44 4)) = K (ni 4) := fun K => by
              simp only [sq_jn]
              rw [if_neg (by decide)]
              rfl
            rw [hjf, hjg, sq_jne, stop2 4 _ _ _ _ _ (by omega) (by omega)]
            simp only [sq_bd]
            rw [stop 4 _ _ _ _ (by omega) (by omega), if_neg (by omega), hsg]
            exact ⟨_, _, _, _, fun w => absurd w (by show ¬ (4 : Nat) = 0; omega), .inl rfl⟩
        · rw [if_neg z1, if_neg z1, if_neg (by decide)]
          exact ⟨ni 0, _, _, _, fun w => absurd w (by show ¬ (3 : Nat) = 0; omega), .inr ⟨rfl, rfl⟩⟩
def sl0 (D : Nat → Nat) (H r : Nat) : Nat × Nat × Nat × (Nat → Nat) := sl D H r (8 * H) 0 0 0 (fun _ => 0)
theorem sl_b {D : Nat → Nat} {H r : Nat} : ∀ (e a sz g : Nat) (out : Nat → Nat), (sl D H r e a sz g out).1 ≤ 6
  | 0, a, sz, g, out => Nat.zero_le _
  | e + 1, a, sz, g, out => by
    rw [sl_s]
    split
    · exact Nat.zero_le _
    · split
      · exact Nat.zero_le _
      · split
        · split
          · exact sl_b e _ _ _ _
          · exact (sgF_b (D := D) (H := H) (r := r) (m := nv D a 4 / 2) (a := a + 4) (sz := sz) (out := out)).1
        · show 3 ≤ 6; omega
theorem cl_p2 {b : Nat → Int32} {D : Nat → Nat} {v H N n0 : Nat} {a1 a2 a3 a4 : Int32} (hn0 : 40000 ≤ n0) (hv : v < 41) (hv1 : 1 ≤ v) (hN : N ≤ 3706) (hH : H ≤ N) (hH1 : 1 ≤ H) (hb : cb b N D) : ∃ y z w, fn_Parser_parse_p2 n0 (ni v) a1 a2 a3 a4 (ni H) b = some (ni (sl0 D H (rk v)).1, ni v, y, z, w) := by
  have := cl_p2_l (D := D) (n0 := n0) (by omega) hv hv1 hN hH hH1 hb (8 * H) 0 0 0 n0 (fun _ => 0) (by omega) (by omega) (by omega) (by omega) (by omega)
  unfold fn_Parser_parse_p2 fn_Codewords_holds
  rw [cb1_e, show (8 : Int32) = ni 8 from rfl, ni_mul]
  exact this
theorem cl_pD {b tb : Nat → Int32} {D : Nat → Nat} {v H N n0 : Nat} {a1 a2 a3 a4 : Int32} (hn0 : 40000 ≤ n0) (hv : v < 41) (hv1 : 1 ≤ v) (hN : N ≤ 3706) (hH : H ≤ N) (hH1 : 1 ≤ H) (hb : cb b N D) (hf : (sl0 D H (rk v)).1 = 0) : ∃ y z tb', fn_Parser_parse n0 (ni v) 0 a1 a2 a3 a4 tb (ni H) b = some (0, ni (sl0 D H (rk v)).2.1, ni v, y, z, ni (sl0 D H (rk v)).2.2.1, tb') ∧ oC tb' (sl0 D H (rk v)).2.1 (sl0 D H (rk v)).2.2.2 ∧ (sl0 D H (rk v)).2.1 ≤ 3000 := by
  have := cl_pD_l (D := D) (n0 := n0) (by omega) hv hv1 hN hH hH1 hb (8 * H) 0 0 0 n0 (fun _ => 0) tb (by omega) (by omega) (by omega) (by omega) (by omega) (fun j hj => absurd hj (by omega)) hf
  unfold fn_Parser_parse fn_Codewords_holds
  rw [cb1_e, show (8 : Int32) = ni 8 from rfl, ni_mul]
  exact this
theorem md_segs {b rb rd : Nat → Int32} {D : Nat → Nat} {v H n0 : Nat} (hn0 : 40000 ≤ n0) (hv : v < 41) (hv1 : 1 ≤ v) (hH : H ≤ 3706) (hb : ∀ p : Nat, p < H → b p = ni (D p) ∧ D p < 256) : ∃ s y rb' rd', fn_Md_segments n0 (ni v) 0 0 (ni (8 * H)) 0 b rb rd = some (s, y, ni (sl0 D H (rk v)).1, rb', rd') ∧ ((sl0 D H (rk v)).1 = 0 → s = ni (sl0 D H (rk v)).2.1 ∧ rd' = upd rd 3 (ni (sl0 D H (rk v)).2.2.1) ∧ oM rb' (sl0 D H (rk v)).2.1 (sl0 D H (rk v)).2.2.2) := by
  unfold fn_Md_segments
  rw [sq_jne, sq_jne, sq_jne]
  obtain ⟨x1, s, y, rb', h1, h2⟩ := md_seg_l (D := D) (n0 := n0) hn0 hv hv1 hH hb _ _ _ (fun _ _ _ _ _ => rfl) (8 * H) 0 0 0 n0 (fun _ => 0) rb (by omega) (by omega) (by omega) (by omega) (fun j hj => absurd hj (by omega))
  rcases h2 with h2 | ⟨h2, h3⟩
  · refine ⟨s, y, rb', upd rd 3 x1, ?_, fun z => ?_⟩
    · refine Eq.trans h2 ?_
      rfl
    · obtain ⟨k1, k2, k3⟩ := h1 z
      exact ⟨k2, by rw [k1]; rfl, k3⟩
  · refine ⟨s, y, rb', rd, ?_, fun z => absurd (z.symm.trans h2) (by omega)⟩
    refine Eq.trans h3 ?_
    show some (s, y, (3 : Int32), rb', rd) = some (s, y, ni (sl0 D H (rk v)).1, rb', rd)
    rw [show (sl0 D H (rk v)).1 = 3 from h2]
    rfl
