/-- what one place adds to the penalty of lines to the right, of lines down, of squares -/
def c0 (P : Nat → Nat → Bool) (s x y : Nat) : Nat := (if x + 4 < s then rA (acc 0 P y) x else 0) + (if x + 10 < s then rF (acc 0 P y) x else 0)
def c1 (P : Nat → Nat → Bool) (s x y : Nat) : Nat := (if y + 4 < s then rA (acc 1 P x) y else 0) + (if y + 10 < s then rF (acc 1 P x) y else 0)
def cS (P : Nat → Nat → Bool) (s x y : Nat) : Nat := if x + 1 < s ∧ y + 1 < s then sq4 P x y else 0
def cA (P : Nat → Nat → Bool) (s x y : Nat) : Nat := if x < s then c0 P s x y + c1 P s x y + cS P s x y else 0
theorem cA_all (P : Nat → Nat → Bool) (s : Nat) : ns s (fun y => ns s (fun x => cA P s x y)) = ns s (fun y => LSq (acc 0 P y) s) + ns s (fun y => LSq (acc 1 P y) s) + SQ P s := by
  have h1 : ns s (fun y => ns s (fun x => cA P s x y)) = ns s (fun y => (ns s (fun x => c0 P s x y) + ns s (fun x => c1 P s x y)) + ns s (fun x => cS P s x y)) := by
    apply ns_cg
    intro y _
    rw [← ns_a, ← ns_a]
    apply ns_cg
    intro x hx
    show cA P s x y = _
    unfold cA
    rw [if_pos hx]
  rw [h1, ns_a, ns_a, ns_sw (fun y x => c1 P s x y)]
  have h2 : ns s (fun y => ns s (fun x => c0 P s x y)) = ns s (fun y => LSq (acc 0 P y) s) := by
    apply ns_cg
    intro y _
    show ns s (fun x => c0 P s x y) = LSq (acc 0 P y) s
    unfold LSq
    rw [← ns_a]
    rfl
  have h3 : ns s (fun x => ns s (fun y => c1 P s x y)) = ns s (fun y => LSq (acc 1 P y) s) := by
    apply ns_cg
    intro x _
    show ns s (fun y => c1 P s x y) = LSq (acc 1 P x) s
    unfold LSq
    rw [← ns_a]
    rfl
  rw [h2, h3]
  rfl
theorem sq4_b (a b c d : Bool) : ((((a && b) && c) && d) || ((((a || b) || c) || d) ^^ true)) = decide (a = b ∧ a = c ∧ a = d) := by
  cases a <;> cases b <;> cases c <;> cases d <;> rfl
set_option maxHeartbeats 800000 in
theorem cl_squares {w : Nat → Int64} {s x y : Nat} {P : Nat → Nat → Bool} (hs : s ≤ 177) (h : GR w s P) (hx : x < s) (hy : y < s) : fn_Penalty_squares (ni x) (ni y) (ni s) w = some (ni (ns 64 (fun t => if x + t < s then cS P s (x + t) y else 0))) := by
  obtain ⟨u1, e1, b1⟩ := gr_from hs h (ni x) (ni y)
  obtain ⟨u3, e3, b3⟩ := gr_from hs h (ni (x + 1)) (ni y)
  obtain ⟨u5, e5, b5⟩ := gr_from hs h (ni x) (ni (y + 1))
  obtain ⟨u7, e7, b7⟩ := gr_from hs h (ni (x + 1)) (ni (y + 1))
  obtain ⟨u10, e10, b10⟩ := cl_room (s := s) (x := x) (y := y) (r := 1) (d := 1) hs (by omega) (by omega) (by omega) (by omega)
  unfold fn_Penalty_squares
  rw [show (1 : Int32) = ni 1 from rfl, ni_add, ni_add]
  rw [e1, cb1_e, e3, cb1_e, e5, cb1_e, e7, cb1_e]
  simp only [sq_bd]
  rw [e10, cb1_e, cl_pop, cb1_e, show (3 : Int32) = ni 3 from rfl, ni_mul, pop_ns, ← ns_m]
  refine congrArg (fun n => some (ni n)) ?_
  apply ns_cg
  intro t ht
  have q1 := b1 t ht
  have q3 := b3 t ht
  have q5 := b5 t ht
  have q7 := b7 t ht
  rw [ni_toI (by omega), ni_toI (by omega)] at q1 q3 q5 q7
  show 3 * b2 (bt ((((u1 &&& u3) &&& u5) &&& u7 ||| ((((u1 ||| u3) ||| u5) ||| u7) ^^^ (-1 : Int64))) &&& u10) t) = _
  rw [bt_and, b10 t ht]
  by_cases hr : y + 1 < s ∧ x + t + 1 < s
  · rw [decide_eq_true hr, Bool.and_true, bt_or, bt_xor, bt_or, bt_or, bt_or, bt_and, bt_and, bt_and, bt_m1, decide_eq_true ht, sq4_b]
    have p1 : bt u1 t = P (x + t) y := by rw [q1, show ((x : Int) + t) = ((x + t : Nat) : Int) by omega, inP_yes (by omega) (by omega)]
    have p3 : bt u3 t = P (x + t + 1) y := by rw [q3, show (((x + 1 : Nat) : Int) + t) = ((x + t + 1 : Nat) : Int) by omega, inP_yes (by omega) (by omega)]
    have p5 : bt u5 t = P (x + t) (y + 1) := by rw [q5, show ((x : Int) + t) = ((x + t : Nat) : Int) by omega, inP_yes (by omega) (by omega)]
    have p7 : bt u7 t = P (x + t + 1) (y + 1) := by rw [q7, show (((x + 1 : Nat) : Int) + t) = ((x + t + 1 : Nat) : Int) by omega, inP_yes (by omega) (by omega)]
    rw [p1, p3, p5, p7, if_pos (by omega)]
    unfold cS sq4
    rw [if_pos ⟨hr.2, hr.1⟩]
    by_cases hh : P (x + t) y = P (x + t + 1) y ∧ P (x + t) y = P (x + t) (y + 1) ∧ P (x + t) y = P (x + t + 1) (y + 1)
    · rw [if_pos hh, decide_eq_true hh]; rfl
    · rw [if_neg hh, decide_eq_false hh]; rfl
  · rw [decide_eq_false hr, Bool.and_false]
    unfold cS
    rw [if_neg (show ¬ (x + t + 1 < s ∧ y + 1 < s) from fun z => hr ⟨z.2, z.1⟩)]
    split <;> rfl
theorem po2 {w : Nat → Int64} {s y n0 A : Nat} {P : Nat → Nat → Bool} (hn0 : 300 ≤ n0) (hs : s ≤ 177) (h : GR w s P) (hy : y < s) : ∀ (e x m : Nat) (ah : Nat → Int64), s ≤ x + 64 * e → x ≤ s + 63 → e < m → ∃ ah', ∀ k14, fn_Penalty_of_L2 n0 (ni s) w (ni s) (ni y) k14 m (ni (A + ns x (fun x => cA P s x y))) (ni x) ah = k14 (ni (A + ns s (fun x => cA P s x y))) ah' := by
  intro e
  induction e with
  | zero =>
    intro x m ah h1 h2 h3
    refine ⟨ah, fun k14 => ?_⟩
    obtain ⟨m', rfl⟩ : ∃ m', m = m' + 1 := ⟨m - 1, by omega⟩
    show (if ni s ≤ ni x then _ else _) = _
    rw [if_pos ((ni_le (by omega) (by omega)).mpr (show s ≤ x by omega))]
    rw [ns_up (show s ≤ x by omega) (fun i hi _ => by show cA P s i y = 0; unfold cA; rw [if_neg (by omega)])]
  | succ e ih =>
    intro x m ah h1 h2 h3
    obtain ⟨m', rfl⟩ : ∃ m', m = m' + 1 := ⟨m - 1, by omega⟩
    by_cases hx : s ≤ x
    · refine ⟨ah, fun k14 => ?_⟩
      show (if ni s ≤ ni x then _ else _) = _
      rw [if_pos ((ni_le (by omega) (by omega)).mpr hx)]
      rw [ns_up hx (fun i hi _ => by show cA P s i y = 0; unfold cA; rw [if_neg (by omega)])]
    · obtain ⟨a1, l1⟩ := cl_lines (w := w) (ah := ah) (s := s) (d := 0) (x := x) (y := y) (n0 := n0) hn0 hs h (by omega) (by omega) hy
      obtain ⟨a2, l2⟩ := cl_lines (w := w) (ah := a1) (s := s) (d := 1) (x := x) (y := y) (n0 := n0) hn0 hs h (by omega) (by omega) hy
      have l3 := cl_squares (w := w) hs h (show x < s by omega) hy
      obtain ⟨ah', r⟩ := ih (x + 64) m' a2 (by omega) (by omega) (by omega)
      refine ⟨ah', fun k14 => ?_⟩
      rw [← r k14]
      show (if ni s ≤ ni x then _ else _) = _
      rw [if_neg (fun z => hx ((ni_le (by omega) (by omega)).mp z))]
      have l1' : fn_Penalty_lines n0 (ni x) (ni y) (1 : Int32) (0 : Int32) (ni s) w ah = _ := l1
      have l2' : fn_Penalty_lines n0 (ni x) (ni y) (0 : Int32) (1 : Int32) (ni s) w a1 = _ := l2
      rw [l1']
      simp only [sq_cb2, sq_bd]
      rw [l2']
      simp only [sq_cb2, sq_bd]
      rw [l3, cb1_e]
      simp only [show (64 : Int32) = ni 64 from rfl, ni_add]
      have t : A + ns x (fun x => cA P s x y) + ns 64 (fun t => if x + t < s then c0 P s (x + t) y else 0) + ns 64 (fun t => if x + t < s then c1 P s (x + t) y else 0) + ns 64 (fun t => if x + t < s then cS P s (x + t) y else 0) = A + ns (x + 64) (fun x => cA P s x y) := by
        rw [ns_p]
        have : ns 64 (fun i => cA P s (x + i) y) = ns 64 (fun t => if x + t < s then c0 P s (x + t) y else 0) + ns 64 (fun t => if x + t < s then c1 P s (x + t) y else 0) + ns 64 (fun t => if x + t < s then cS P s (x + t) y else 0) := by
          rw [← ns_a, ← ns_a]
          apply ns_cg
          intro i _
          show cA P s (x + i) y = _
          unfold cA
          split <;> rfl
        rw [this]
        omega
      rw [← t]
      rfl
theorem po1 {w : Nat → Int64} {s n0 : Nat} {P : Nat → Nat → Bool} (hn0 : 300 ≤ n0) (hs : s ≤ 177) (h : GR w s P) : ∀ (e y m : Nat) (ah : Nat → Int64), y + e = s → e < m → ∃ ah', ∀ k5, fn_Penalty_of_L1 n0 (ni s) w (ni s) k5 m (ni (ns y (fun y => ns s (fun x => cA P s x y)))) (ni y) ah = k5 (ni (ns s (fun y => ns s (fun x => cA P s x y)))) ah' := by
  intro e
  induction e with
  | zero =>
    intro y m ah h1 h3
    refine ⟨ah, fun k5 => ?_⟩
    obtain ⟨m', rfl⟩ : ∃ m', m = m' + 1 := ⟨m - 1, by omega⟩
    show (if ni s ≤ ni y then _ else _) = _
    rw [if_pos ((ni_le (by omega) (by omega)).mpr (show s ≤ y by omega)), show y = s by omega]
  | succ e ih =>
    intro y m ah h1 h3
    obtain ⟨m', rfl⟩ : ∃ m', m = m' + 1 := ⟨m - 1, by omega⟩
    obtain ⟨a1, r1⟩ := po2 (A := ns y (fun y => ns s (fun x => cA P s x y))) hn0 hs h (show y < s by omega) 3 0 n0 ah (by omega) (by omega) (by omega)
    obtain ⟨ah', r⟩ := ih (y + 1) m' a1 (by omega) (by omega)
    refine ⟨ah', fun k5 => ?_⟩
    rw [← r k5]
    show (if ni s ≤ ni y then _ else _) = _
    rw [if_neg (fun z => absurd ((ni_le (by omega) (by omega)).mp z) (by omega))]
    simp only [sq_jn]
    rw [show ns y (fun y => ns s (fun x => cA P s x y)) = ns y (fun y => ns s (fun x => cA P s x y)) + ns 0 (fun x => cA P s x y) from rfl, show (0 : Int32) = ni 0 from rfl, r1]
    simp only [sq_bd, show (1 : Int32) = ni 1 from rfl, ni_add]
    rfl
theorem ns_3 (f : Nat → Nat) : ∀ n : Nat, ns (3 * n) f = ns n (fun y => f (3 * y) + f (3 * y + 1) + f (3 * y + 2))
  | 0 => rfl
  | n + 1 => by
    rw [show 3 * (n + 1) = 3 * n + 1 + 1 + 1 by omega, ns_s, ns_s, ns_s, ns_s, ns_3 f n]; omega
theorem dk_l (w : Nat → Int64) : ∀ (e i m : Nat), i + e = 531 → e < m → fn_Grid_darkOnes_L1 w m (ni (ns i (fun j => pop (w j)))) (ni i) = some (ni (ns 531 (fun j => pop (w j)))) := by
  intro e
  induction e with
  | zero =>
    intro i m h1 h3
    obtain ⟨m', rfl⟩ : ∃ m', m = m' + 1 := ⟨m - 1, by omega⟩
    show (if ni 531 ≤ ni i then _ else _) = _
    rw [if_pos ((ni_le (by omega) (by omega)).mpr (show 531 ≤ i by omega)), show i = 531 by omega]
  | succ e ih =>
    intro i m h1 h3
    obtain ⟨m', rfl⟩ : ∃ m', m = m' + 1 := ⟨m - 1, by omega⟩
    rw [← ih (i + 1) m' (by omega) (by omega)]
    show (if ni 531 ≤ ni i then _ else _) = _
    rw [if_neg (fun z => absurd ((ni_le (by omega) (by omega)).mp z) (by omega)), ni_gi (by omega) (by omega)]
    simp only [sq_bd]
    rw [ni_ix (by omega), cl_pop, cb1_e, show (1 : Int32) = ni 1 from rfl, ni_add, ni_add]
    rfl
theorem cl_dk {w : Nat → Int64} {s n0 : Nat} {P : Nat → Nat → Bool} (hn0 : 600 ≤ n0) (hs : s ≤ 177) (h : GR w s P) : fn_Grid_darkOnes n0 w = some (ni (DK P s)) := by
  have e := dk_l w 531 0 n0 (by omega) (by omega)
  have t : ns 531 (fun j => pop (w j)) = DK P s := by
    rw [show 531 = 3 * 177 from rfl, ns_3]
    have : ns 177 (fun y => pop (w (3 * y)) + pop (w (3 * y + 1)) + pop (w (3 * y + 2))) = ns 177 (fun y => ns 192 (fun x => b2 (decide (x < s ∧ y < s) && P x y))) := by
      apply ns_cg
      intro y hy
      show _ = ns 192 (fun x => b2 (decide (x < s ∧ y < s) && P x y))
      have : ns 192 (fun x => b2 (decide (x < s ∧ y < s) && P x y)) = ns 192 (fun x => b2 (bt (w (3 * y + x / 64)) (x % 64))) := by
        apply ns_cg
        intro x hx
        show b2 _ = b2 _
        rw [h y hy x hx]
      rw [this, show 192 = 64 + 64 + 64 from rfl, ns_p, ns_p, pop_ns, pop_ns, pop_ns]
      congr 1
    rw [this]
    rw [ns_up hs (fun y hy _ => ns_0 (fun x _ => by show b2 (decide (x < s ∧ y < s) && P x y) = 0; rw [decide_eq_false (by omega)]; rfl))]
    unfold DK
    apply ns_cg
    intro y hy
    show ns 192 (fun x => b2 (decide (x < s ∧ y < s) && P x y)) = ns s (fun x => b2 (P x y))
    rw [ns_up (show s ≤ 192 by omega) (fun x hx _ => by show b2 (decide (x < s ∧ y < s) && P x y) = 0; rw [decide_eq_false (by omega)]; rfl)]
    apply ns_cg
    intro x hx
    show b2 (decide (x < s ∧ y < s) && P x y) = b2 (P x y)
    rw [decide_eq_true ⟨hx, hy⟩, Bool.true_and]
  rw [← t]
  exact e
theorem cl_pen {w : Nat → Int64} {s n0 : Nat} {P : Nat → Nat → Bool} (hn0 : 600 ≤ n0) (hs1 : 1 ≤ s) (hs : s ≤ 177) (h : GR w s P) (ah : Nat → Int64) : ∃ ah', fn_Penalty_of n0 (ni s) w ah = some (ni (PEN P s), ah') := by
  obtain ⟨ah', e1⟩ := po1 (n0 := n0) (by omega) hs h s 0 n0 ah (by omega) (by omega)
  have e1' : ∀ k5, fn_Penalty_of_L1 n0 (ni s) w (ni s) k5 n0 0 0 ah = _ := e1
  refine ⟨ah', ?_⟩
  have a1 := LS_sum 0 P hs
  have a2 := LS_sum 1 P hs
  obtain ⟨a3, a4⟩ := SQ_le P hs
  have hss : 1 ≤ s * s := Nat.mul_le_mul hs1 hs1
  have hss2 : s * s ≤ 177 * 177 := Nat.mul_le_mul hs hs
  unfold fn_Penalty_of fn_Grid_side
  simp only [sq_cb1, sq_jn, e1']
  unfold fn_Penalty_balance fn_Grid_side
  simp only [cb1_e, sq_bd]
  rw [cl_dk hn0 hs h, cb1_e, cA_all]
  unfold PEN
  have m3 : sq_max 1 (ni s * ni s) = ni (s * s) := by rw [ni_mul, show (1 : Int32) = ni 1 from rfl, ni_max (by omega) (by omega), Nat.max_eq_right hss]
  rw [m3, show (20 : Int32) = ni 20 from rfl, show (10 : Int32) = ni 10 from rfl, ni_mul, ni_mul]
  have m5 : sq_abs (ni (20 * DK P s) - ni (10 * (s * s))) = ni (if 10 * (s * s) ≤ 20 * DK P s then 20 * DK P s - 10 * (s * s) else 10 * (s * s) - 20 * DK P s) := by
    have m2 : (0 ≤ ni (20 * DK P s) - ni (10 * (s * s))) ↔ (10 * (s * s) ≤ 20 * DK P s) := by
      rw [← ni_0, ni_sle (by omega) (by omega) (by omega)]; omega
    unfold sq_abs
    by_cases q : 10 * (s * s) ≤ 20 * DK P s
    · rw [if_pos (m2.mpr q), if_pos q, ni_sub q]
    · rw [if_neg (fun z => q (m2.mp z)), if_neg q, ni_neg (by omega), Int32.zero_sub, Int32.neg_neg]
  rw [m5, ni_gz (by omega) (by omega)]
  by_cases q : 10 * (s * s) ≤ 20 * DK P s
  · rw [if_pos q, ni_div (by omega) (by omega), ni_mul]; simp only [ni_add]
  · rw [if_neg q, ni_div (by omega) (by omega), ni_mul]; simp only [ni_add]
