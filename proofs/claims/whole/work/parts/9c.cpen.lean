/-! own rows: the class's penalty -/
theorem sc_ns {E : Nat → Nat} (h : ∀ i : Nat, E i ≤ 1) : ∀ n : Nat, sc E n = ns n E
  | 0 => rfl
  | n + 1 => by
    have h1 := h n
    rw [sc_s, ns_s, sc_ns h n]
    by_cases q : E n = 0
    · rw [if_pos q, q]
    · rw [if_neg q, show E n = 1 by omega]
theorem pop_ns (z : Int64) : pop z = ns 64 (fun i => b2 (bt z i)) := sc_ns (fun i => b2_le _) 64
theorem pop_le (z : Int64) : pop z ≤ 64 := sc_le _ 64
/-- the module that lies i on from place t, to the right (d = 0) or down (d = 1) -/
def ahd (s : Nat) (P : Nat → Nat → Bool) (d x y i t : Nat) : Bool := if d = 0 then inP s P ((x + t + i : Nat) : Int) (y : Int) else inP s P ((x + t : Nat) : Int) ((y + i : Nat) : Int)
def dX (d : Nat) : Nat := if d = 0 then 1 else 0
def dY (d : Nat) : Nat := if d = 0 then 0 else 1
theorem li1 {w : Nat → Int64} {s d x y : Nat} {P : Nat → Nat → Bool} (hs : s ≤ 177) (h : GR w s P) (hd : d ≤ 1) (hx : x ≤ 1000) (hy : y ≤ 1000) : ∀ (e i m : Nat) (w33 w34 : Int64) (b : Nat → Int64), i + e = 11 → e < m → (∀ j : Nat, j < i → ∀ t : Nat, t < 64 → bt (b j) t = ahd s P d x y j t) → (∀ t : Nat, t < 64 → bt w33 t = decide (∀ j : Nat, j < 5 → j < i → ahd s P d x y j t = true)) → (∀ t : Nat, t < 64 → bt w34 t = decide (∀ j : Nat, j < 5 → j < i → ahd s P d x y j t = false)) → ∃ w1 w2 b', (∀ k4, fn_Penalty_lines_L1 (ni x) (ni y) (ni (dX d)) (ni (dY d)) (ni s) w k4 m w33 w34 (ni i) b = k4 w1 w2 b') ∧ (∀ j : Nat, j < 11 → ∀ t : Nat, t < 64 → bt (b' j) t = ahd s P d x y j t) ∧ (∀ t : Nat, t < 64 → bt w1 t = decide (∀ j : Nat, j < 5 → ahd s P d x y j t = true)) ∧ (∀ t : Nat, t < 64 → bt w2 t = decide (∀ j : Nat, j < 5 → ahd s P d x y j t = false))
  | 0, i, m + 1, w33, w34, b, hi, _, h1, h2, h3 => by
    have hii : i = 11 := by omega
    subst hii
    refine ⟨w33, w34, b, fun k4 => ?_, h1, fun t ht => ?_, fun t ht => ?_⟩
    · rw [fn_Penalty_lines_L1_s, if_pos (by decide)]
    · rw [h2 t ht, decide_eq_decide]
      exact ⟨fun q j hj => q j hj (by omega), fun q j hj _ => q j hj⟩
    · rw [h3 t ht, decide_eq_decide]
      exact ⟨fun q j hj => q j hj (by omega), fun q j hj _ => q j hj⟩
  | e + 1, i, m + 1, w33, w34, b, hi, hm, h1, h2, h3 => by
    obtain ⟨u, e1, hu⟩ := gr_from hs h (ni x + ni i * ni (dX d)) (ni y + ni i * ni (dY d))
    have hu2 : ∀ t : Nat, t < 64 → bt u t = ahd s P d x y i t := fun t ht => by
      rw [hu t ht, ni_mul, ni_mul, ni_add, ni_add]
      unfold ahd dX dY
      by_cases q : d = 0
      · rw [if_pos q, if_pos q, if_pos q, ni_toI (by omega), ni_toI (by omega)]
        congr 1
        omega
      · rw [if_neg q, if_neg q, if_neg q, ni_toI (by omega), ni_toI (by omega)]
        congr 1
        omega
    have hb : ∀ j : Nat, j < i + 1 → ∀ t : Nat, t < 64 → bt (vp_updL b i u j) t = ahd s P d x y j t := fun j hj t ht => by
      rw [updL_a]
      by_cases q : j = i
      · rw [if_pos q, q]; exact hu2 t ht
      · rw [if_neg q]; exact h1 j (by omega) t ht
    by_cases q5 : 5 ≤ i
    · obtain ⟨w1, w2, b', g1, g2, g3, g4⟩ := li1 hs h hd hx hy e (i + 1) m w33 w34 (vp_updL b i u) (by omega) (by omega) hb (fun t ht => by
        rw [h2 t ht, decide_eq_decide]
        exact ⟨fun q j hj _ => q j hj (by omega), fun q j hj _ => q j hj (by omega)⟩) (fun t ht => by
        rw [h3 t ht, decide_eq_decide]
        exact ⟨fun q j hj _ => q j hj (by omega), fun q j hj _ => q j hj (by omega)⟩)
      refine ⟨w1, w2, b', fun k4 => ?_, g2, g3, g4⟩
      rw [fn_Penalty_lines_L1_s, if_neg (by rw [show (11 : Int32) = ni 11 from rfl, ni_le (by omega) (by omega)]; omega), e1, ← g1 k4]
      simp (disch := omega) only [ni_lit, ni_gi, ni_ix, ni_le, ni_add, sq_bd, sq_jn, sq_cb0, sq_cb1, sq_cb2, sq_cb3, sq_cb4, sq_cb5]
      rw [if_pos q5]
    · obtain ⟨w1, w2, b', g1, g2, g3, g4⟩ := li1 hs h hd hx hy e (i + 1) m (w33 &&& u) (w34 &&& (u ^^^ -1)) (vp_updL b i u) (by omega) (by omega) hb (fun t ht => by
        rw [bt_and, h2 t ht, hu2 t ht]
        by_cases z : ahd s P d x y i t = true
        · rw [z, Bool.and_true, decide_eq_decide]
          refine ⟨fun q j hj hj2 => ?_, fun q j hj hj2 => q j hj (by omega)⟩
          by_cases y1 : j = i
          · rw [y1]; exact z
          · exact q j hj (by omega)
        · rw [show ahd s P d x y i t = false from by simpa using z, Bool.and_false]
          exact (decide_eq_false (fun q => z (q i (by omega) (by omega)))).symm) (fun t ht => by
        rw [bt_and, bt_xor, bt_m1, h3 t ht, hu2 t ht, decide_eq_true ht]
        by_cases z : ahd s P d x y i t = true
        · rw [z]
          rw [show (true ^^ true) = false from rfl, Bool.and_false]
          exact (decide_eq_false (fun q => by have := q i (by omega) (by omega); rw [z] at this; cases this)).symm
        · have z2 : ahd s P d x y i t = false := by simpa using z
          rw [z2, show (false ^^ true) = true from rfl, Bool.and_true, decide_eq_decide]
          refine ⟨fun q j hj hj2 => ?_, fun q j hj hj2 => q j hj (by omega)⟩
          by_cases y1 : j = i
          · rw [y1]; exact z2
          · exact q j hj (by omega))
      refine ⟨w1, w2, b', fun k4 => ?_, g2, g3, g4⟩
      rw [fn_Penalty_lines_L1_s, if_neg (by rw [show (11 : Int32) = ni 11 from rfl, ni_le (by omega) (by omega)]; omega), e1, ← g1 k4]
      have hs0 : vp_updL b i u i = u := by rw [updL_a, if_pos rfl]
      rw [cb1_e, ni_gi (by omega) (by omega)]
      simp only [sq_bd, ni_ix (show i < 2147483648 by omega), hs0]
      rw [sq_jne, if_neg (by rw [show (5 : Int32) = ni 5 from rfl, ni_le (by omega) (by omega)]; omega), ni_gi (by omega) (by omega), ni_gi (by omega) (by omega), show ni i + 1 = ni (i + 1) from by rw [show (1 : Int32) = ni 1 from rfl, ni_add]]
theorem pl_l {b : Nat → Int64} {p : Nat} {A : Nat → Nat → Bool} (hp : p < 2048) (hb : ∀ j : Nat, j < 11 → ∀ t : Nat, t < 64 → bt (b j) t = A j t) : ∀ (e i m : Nat) (w : Int64), i + e = 11 → e < m → (∀ t : Nat, t < 64 → bt w t = decide (∀ j : Nat, j < i → A j t = p.testBit j)) → ∃ u, fn_Penalty_places_L1 (ni p) b m w (ni i) = some u ∧ ∀ t : Nat, t < 64 → bt u t = decide (∀ j : Nat, j < 11 → A j t = p.testBit j)
  | 0, i, m + 1, w, hi, _, h => by
    have hii : i = 11 := by omega
    subst hii
    refine ⟨w, ?_, h⟩
    rw [fn_Penalty_places_L1_s, if_pos (by decide)]
  | e + 1, i, m + 1, w, hi, hm, h => by
    have han : i &&& 31 = i := by rw [show (31 : Nat) = 2 ^ 5 - 1 from rfl, an_p, Nat.mod_eq_of_lt (by omega)]
    have htb := tb_b2 p i
    have hlt : p >>> i &&& 1 < 2 := by rw [Nat.and_one_is_mod]; omega
    have hcond : (((ni p >>> (ni i &&& 31)) &&& (1 : Int32)) = (1 : Int32)) = (p >>> i &&& 1 = 1) := by
      simp (disch := omega) only [ni_lit, ni_and, han, ni_shr, ni_eq]
    have hone : ∀ (z : Int64) (v : Bool), (∀ t : Nat, t < 64 → bt z t = (A i t == v)) → p.testBit i = v → (∀ t : Nat, t < 64 → bt (w &&& z) t = decide (∀ j : Nat, j < i + 1 → A j t = p.testBit j)) := fun z v hz hv t ht => by
      rw [bt_and, h t ht, hz t ht]
      by_cases y : A i t = v
      · rw [y, beq_self_eq_true, Bool.and_true, decide_eq_decide]
        refine ⟨fun q j hj => ?_, fun q j hj => q j (by omega)⟩
        by_cases y1 : j = i
        · rw [y1, y, hv]
        · exact q j (by omega)
      · rw [show (A i t == v) = false from beq_false_of_ne y, Bool.and_false]
        exact (decide_eq_false (fun q => y (by rw [q i (by omega), hv]))).symm
    by_cases z : p >>> i &&& 1 = 1
    · have hv : p.testBit i = true := by
        rw [if_pos z] at htb
        cases hq : p.testBit i with
        | true => rfl
        | false => rw [hq] at htb; cases htb
      obtain ⟨u, g1, g2⟩ := pl_l hp hb e (i + 1) m (w &&& b i) (by omega) (by omega) (hone (b i) true (fun t ht => by rw [hb i (by omega) t ht]; cases A i t <;> rfl) hv)
      refine ⟨u, ?_, g2⟩
      rw [fn_Penalty_places_L1_s, if_neg (by rw [show (11 : Int32) = ni 11 from rfl, ni_le (by omega) (by omega)]; omega), ← g1, sq_jne]
      simp only [hcond]
      rw [if_pos z, ni_gi (by omega) (by omega)]
      simp (disch := omega) only [ni_lit, ni_add, ni_ix, sq_bd, sq_jn, sq_cb0, sq_cb1, sq_cb2, sq_cb3, sq_cb4, sq_cb5]
    · have hv : p.testBit i = false := by
        rw [if_neg z] at htb
        cases hq : p.testBit i with
        | false => rfl
        | true => rw [hq] at htb; cases htb
      obtain ⟨u, g1, g2⟩ := pl_l hp hb e (i + 1) m (w &&& (b i ^^^ -1)) (by omega) (by omega) (hone (b i ^^^ -1) false (fun t ht => by rw [bt_xor, bt_m1, hb i (by omega) t ht, decide_eq_true ht]; cases A i t <;> rfl) hv)
      refine ⟨u, ?_, g2⟩
      rw [fn_Penalty_places_L1_s, if_neg (by rw [show (11 : Int32) = ni 11 from rfl, ni_le (by omega) (by omega)]; omega), ← g1, sq_jne]
      simp only [hcond]
      rw [if_neg z, ni_gi (by omega) (by omega)]
      simp (disch := omega) only [sq_bd, ni_ix, show ni i + 1 = ni (i + 1) from by rw [show (1 : Int32) = ni 1 from rfl, ni_add]]
theorem cl_places {b : Nat → Int64} {p n0 : Nat} {A : Nat → Nat → Bool} (hn0 : 300 ≤ n0) (hp : p < 2048) (hb : ∀ j : Nat, j < 11 → ∀ t : Nat, t < 64 → bt (b j) t = A j t) : ∃ u, fn_Penalty_places n0 (ni p) b = some u ∧ ∀ t : Nat, t < 64 → bt u t = decide (∀ j : Nat, j < 11 → A j t = p.testBit j) := pl_l hp hb 11 0 n0 (-1) (by omega) (by omega) (fun t ht => by rw [bt_m1, decide_eq_true ht]; exact (decide_eq_true (fun j hj => absurd hj (by omega))).symm)
theorem cl_room {s x y r d : Nat} (hs : s ≤ 177) (hx : x ≤ 1000) (hy : y ≤ 1000) (hr : r ≤ 20) (hd : d ≤ 20) : ∃ u, fn_Penalty_withRoom (ni x) (ni y) (ni r) (ni d) (ni s) = some u ∧ ∀ t : Nat, t < 64 → bt u t = decide (y + d < s ∧ x + t + r < s) := by
  unfold fn_Penalty_withRoom fn_Grid_side
  simp only [sq_cb1]
  obtain ⟨u, e1, h1⟩ := lowB ((ni s - ni x) - ni r)
  have hI : ((ni s - ni x) - ni r).toInt = (s : Int) - x - r := by
    rw [show (ni s - ni x) - ni r = ni s - ni (x + r) from by rw [← ni_add, Int32.sub_sub], ni_sI (by omega) (by omega)]; omega
  rw [hI] at h1
  by_cases q : s ≤ y + d
  · rw [if_pos (by rw [ni_add, ni_le (by omega) (by omega)]; exact q)]
    refine ⟨0, rfl, fun t ht => ?_⟩
    rw [bt_0]
    exact (decide_eq_false (by omega)).symm
  · rw [if_neg (by rw [ni_add, ni_le (by omega) (by omega)]; exact q), e1]
    refine ⟨u, rfl, fun t ht => ?_⟩
    rw [h1 t ht, decide_eq_decide]; omega
/-- the line through place t, and its index there -/
def lg (P : Nat → Nat → Bool) (d x y t : Nat) : Nat → Bool := if d = 0 then acc 0 P y else acc 1 P (x + t)
def ix (d x y t : Nat) : Nat := if d = 0 then x + t else y
theorem ahd_in {s d x y i t : Nat} {P : Nat → Nat → Bool} (hy : y < s) (hx : x + t < s) (h : ix d x y t + i < s) : ahd s P d x y i t = lg P d x y t (ix d x y t + i) := by
  unfold ahd lg ix at *
  by_cases q : d = 0
  · rw [if_pos q] at h
    rw [if_pos q, if_pos q, if_pos q, inP_yes h hy]
    rfl
  · rw [if_neg q] at h
    rw [if_neg q, if_neg q, if_neg q, inP_yes hx h]
    rfl
theorem cl_lines {w ah : Nat → Int64} {s d x y n0 : Nat} {P : Nat → Nat → Bool} (hn0 : 300 ≤ n0) (hs : s ≤ 177) (h : GR w s P) (hd : d ≤ 1) (hx : x < s) (hy : y < s) : ∃ ah', fn_Penalty_lines n0 (ni x) (ni y) (ni (dX d)) (ni (dY d)) (ni s) w ah = some (ni (ns 64 (fun t => if x + t < s then ((if ix d x y t + 4 < s then rA (lg P d x y t) (ix d x y t) else 0) + (if ix d x y t + 10 < s then rF (lg P d x y t) (ix d x y t) else 0)) else 0)), ah') := by
  obtain ⟨w1, w2, b', e1, hA, hall, hnone⟩ := li1 (x := x) (y := y) hs h hd (by omega) (by omega) 11 0 n0 (-1) (-1) ah (by omega) (by omega) (fun j hj => absurd hj (by omega)) (fun t ht => by rw [bt_m1, decide_eq_true ht]; exact (decide_eq_true (fun j _ hj => absurd hj (by omega))).symm) (fun t ht => by rw [bt_m1, decide_eq_true ht]; exact (decide_eq_true (fun j _ hj => absurd hj (by omega))).symm)
  have hdX : dX d ≤ 1 := by unfold dX; split <;> omega
  have hdY : dY d ≤ 1 := by unfold dY; split <;> omega
  obtain ⟨u5, e5, h5⟩ := cl_room (x := x) (y := y) (r := 4 * dX d) (d := 4 * dY d) hs (by omega) (by omega) (by omega) (by omega)
  obtain ⟨u15, e15, h15⟩ := cl_room (x := x) (y := y) (r := 10 * dX d) (d := 10 * dY d) hs (by omega) (by omega) (by omega) (by omega)
  obtain ⟨u10, e10, h10⟩ := gr_from hs h (ni x - ni (dX d)) (ni y - ni (dY d))
  obtain ⟨u17, e17, h17⟩ := cl_places (p := 93) hn0 (by omega) hA
  obtain ⟨u21, e21, h21⟩ := cl_places (p := 1488) hn0 (by omega) hA
  have hroom : ∀ (k t : Nat), (y + k * dY d < s ∧ x + t + k * dX d < s) ↔ (x + t < s ∧ ix d x y t + k < s) := fun k t => by
    unfold ix dX dY
    by_cases q : d = 0
    · rw [if_pos q, if_pos q, if_pos q]; omega
    · rw [if_neg q, if_neg q, if_neg q]; omega
  have hed : ∃ ed : Int64, (∀ K : Int64 → Option (Int32 × (Nat → Int64)), sq_jn K (fun k9 => if ni (dY d) = 0 then (if ni x = 0 then (k9 (1 : Int64)) else (k9 (0 : Int64))) else (if ni y = 0 then (k9 (-1 : Int64)) else (k9 (0 : Int64)))) = K ed) ∧ ∀ t : Nat, t < 64 → bt ed t = decide (ix d x y t = 0) := by
    have z1 : (ni x = 0) = (x = 0) := by rw [← ni_0, ni_eq (by omega) (by omega)]
    have z2 : (ni y = 0) = (y = 0) := by rw [← ni_0, ni_eq (by omega) (by omega)]
    have z3 : (ni (dY d) = 0) = (d = 0) := by
      rw [← ni_0, ni_eq (by omega) (by omega)]
      unfold dY
      apply propext
      by_cases q : d = 0
      · rw [if_pos q]; exact ⟨fun _ => q, fun _ => rfl⟩
      · rw [if_neg q]; exact ⟨fun z => by omega, fun z => absurd z q⟩
    simp only [z1, z2, z3, sq_jn]
    unfold ix
    by_cases q : d = 0
    · by_cases qx : x = 0
      · exact ⟨1, fun K => by rw [if_pos q, if_pos qx], fun t ht => by rw [bt_1, decide_eq_decide, if_pos q]; omega⟩
      · exact ⟨0, fun K => by rw [if_pos q, if_neg qx], fun t ht => by rw [bt_0, if_pos q]; exact (decide_eq_false (by omega)).symm⟩
    · by_cases qy : y = 0
      · exact ⟨-1, fun K => by rw [if_neg q, if_pos qy], fun t ht => by rw [bt_m1, decide_eq_decide, if_neg q]; omega⟩
      · exact ⟨0, fun K => by rw [if_neg q, if_neg qy], fun t ht => by rw [bt_0, if_neg q]; exact (decide_eq_false (by omega)).symm⟩
  obtain ⟨ed, eed, hed⟩ := hed
  have hprev : ∀ t : Nat, t < 64 → x + t < s → ix d x y t ≠ 0 → bt u10 t = lg P d x y t (ix d x y t - 1) := fun t ht hxt hix => by
    rw [h10 t ht, ni_sI (by omega) (by omega), ni_sI (by omega) (by omega)]
    unfold lg
    unfold ix at hix ⊢
    unfold dX dY
    by_cases q : d = 0
    · rw [if_pos q] at hix
      rw [if_pos q, if_pos q, if_pos q, if_pos q, show (((x : Nat) : Int) - ((1 : Nat) : Int) + (t : Int)) = ((x + t - 1 : Nat) : Int) by omega, show (((y : Nat) : Int) - ((0 : Nat) : Int)) = ((y : Nat) : Int) by omega, inP_yes (by omega) hy]
      rfl
    · rw [if_neg q] at hix
      rw [if_neg q, if_neg q, if_neg q, if_neg q, show (((x : Nat) : Int) - ((0 : Nat) : Int) + (t : Int)) = ((x + t : Nat) : Int) by omega, show (((y : Nat) : Int) - ((1 : Nat) : Int)) = ((y - 1 : Nat) : Int) by omega, inP_yes hxt (by omega)]
      rfl
  have hruns : ∀ t : Nat, t < 64 → bt ((w1 ||| w2) &&& u5) t = (decide (x + t < s ∧ ix d x y t + 4 < s) && al5d (lg P d x y t) (ix d x y t)) := fun t ht => by
    rw [bt_and, bt_or, hall t ht, hnone t ht, h5 t ht]
    rw [show decide (y + 4 * dY d < s ∧ x + t + 4 * dX d < s) = decide (x + t < s ∧ ix d x y t + 4 < s) from by rw [decide_eq_decide]; exact hroom 4 t]
    by_cases q : x + t < s ∧ ix d x y t + 4 < s
    · rw [decide_eq_true q, Bool.and_true, Bool.true_and]
      have ha : ∀ j : Nat, j < 5 → ahd s P d x y j t = lg P d x y t (ix d x y t + j) := fun j hj => ahd_in hy q.1 (by omega)
      generalize lg P d x y t = g at *
      generalize ix d x y t = i at *
      unfold al5d
      rw [show (decide (∀ j : Nat, j < 5 → ahd s P d x y j t = true) || decide (∀ j : Nat, j < 5 → ahd s P d x y j t = false)) = decide ((∀ j : Nat, j < 5 → ahd s P d x y j t = true) ∨ (∀ j : Nat, j < 5 → ahd s P d x y j t = false)) from by rw [Bool.decide_or], decide_eq_decide]
      constructor
      · rintro (z | z)
        · have a0 := z 0 (by omega); have a1 := z 1 (by omega); have a2 := z 2 (by omega); have a3 := z 3 (by omega); have a4 := z 4 (by omega)
          rw [ha _ (by omega)] at a0 a1 a2 a3 a4
          rw [Nat.add_zero] at a0
          exact ⟨by rw [a0, a1], by rw [a0, a2], by rw [a0, a3], by rw [a0, a4]⟩
        · have a0 := z 0 (by omega); have a1 := z 1 (by omega); have a2 := z 2 (by omega); have a3 := z 3 (by omega); have a4 := z 4 (by omega)
          rw [ha _ (by omega)] at a0 a1 a2 a3 a4
          rw [Nat.add_zero] at a0
          exact ⟨by rw [a0, a1], by rw [a0, a2], by rw [a0, a3], by rw [a0, a4]⟩
      · rintro ⟨b1, b2, b3, b4⟩
        have key : ∀ v : Bool, g i = v → ∀ j : Nat, j < 5 → ahd s P d x y j t = v := fun v hv j hj => by
          rw [ha j hj]
          rcases (show j = 0 ∨ j = 1 ∨ j = 2 ∨ j = 3 ∨ j = 4 by omega) with e | e | e | e | e
          · subst e; exact hv
          · subst e; rw [b1, hv]
          · subst e; rw [b2, hv]
          · subst e; rw [b3, hv]
          · subst e; rw [b4, hv]
        cases hv : g i with
        | true => exact Or.inl (key true hv)
        | false => exact Or.inr (key false hv)
    · rw [decide_eq_false q, Bool.and_false, Bool.false_and]
  have hA0 : ∀ t : Nat, t < 64 → x + t < s → ix d x y t < s → bt (b' 0) t = lg P d x y t (ix d x y t) := fun t ht h1 h2 => by
    rw [hA 0 (by omega) t ht, ahd_in hy h1 (by omega)]; rfl
  have hcR : ∀ t : Nat, t < 64 → b2 (bt ((w1 ||| w2) &&& u5) t) + 2 * b2 (bt (((w1 ||| w2) &&& u5) &&& (ed ||| (u10 ^^^ b' 0))) t) = if x + t < s then (if ix d x y t + 4 < s then rA (lg P d x y t) (ix d x y t) else 0) else 0 := fun t ht => by
    rw [bt_and ((w1 ||| w2) &&& u5), hruns t ht, bt_or, bt_xor, hed t ht]
    by_cases q1 : x + t < s
    · rw [if_pos q1]
      by_cases q2 : ix d x y t + 4 < s
      · rw [if_pos q2, decide_eq_true ⟨q1, q2⟩, Bool.true_and, hA0 t ht q1 (by omega)]
        unfold rA
        by_cases q3 : al5d (lg P d x y t) (ix d x y t) = true
        · rw [q3, if_pos rfl, Bool.true_and]
          by_cases q4 : ix d x y t = 0
          · rw [decide_eq_true q4, Bool.true_or, if_pos (Or.inl q4)]; rfl
          · rw [decide_eq_false q4, Bool.false_or, hprev t ht q1 q4]
            by_cases q5 : lg P d x y t (ix d x y t - 1) = lg P d x y t (ix d x y t)
            · rw [q5, Bool.xor_self, if_neg (fun z => z.elim q4 (fun z => z rfl))]; rfl
            · rw [if_pos (Or.inr q5)]
              have : (lg P d x y t (ix d x y t - 1) ^^ lg P d x y t (ix d x y t)) = true := by
                revert q5
                cases lg P d x y t (ix d x y t - 1) <;> cases lg P d x y t (ix d x y t) <;> simp
              rw [this]; rfl
        · rw [show al5d (lg P d x y t) (ix d x y t) = false from by simpa using q3]
          rfl
      · rw [if_neg q2, decide_eq_false (fun z => q2 z.2)]; rfl
    · rw [if_neg q1, decide_eq_false (fun z => q1 z.1)]; rfl
  have hfd : ∀ (p t : Nat) (u : Int64), t < 64 → (∀ t : Nat, t < 64 → bt u t = decide (∀ j : Nat, j < 11 → ahd s P d x y j t = p.testBit j)) → bt (u &&& u15) t = (decide (x + t < s ∧ ix d x y t + 10 < s) && fdp p (lg P d x y t) (ix d x y t)) := fun p t u ht hu => by
    rw [bt_and, hu t ht, h15 t ht, show decide (y + 10 * dY d < s ∧ x + t + 10 * dX d < s) = decide (x + t < s ∧ ix d x y t + 10 < s) from by rw [decide_eq_decide]; exact hroom 10 t, Bool.and_comm]
    by_cases q : x + t < s ∧ ix d x y t + 10 < s
    · rw [decide_eq_true q, Bool.true_and, Bool.true_and]
      unfold fdp
      rw [decide_eq_decide]
      have ha : ∀ j : Nat, j < 11 → ahd s P d x y j t = lg P d x y t (ix d x y t + j) := fun j hj => ahd_in hy q.1 (by omega)
      exact ⟨fun z j hj => by rw [← ha j hj]; exact z j hj, fun z j hj => by rw [ha j hj]; exact z j hj⟩
    · rw [decide_eq_false q, Bool.false_and, Bool.false_and]
  have hcF : ∀ t : Nat, t < 64 → 40 * (b2 (bt (u17 &&& u15) t) + b2 (bt (u21 &&& u15) t)) = if x + t < s then (if ix d x y t + 10 < s then rF (lg P d x y t) (ix d x y t) else 0) else 0 := fun t ht => by
    rw [hfd 93 t u17 ht h17, hfd 1488 t u21 ht h21]
    by_cases q1 : x + t < s
    · rw [if_pos q1]
      by_cases q2 : ix d x y t + 10 < s
      · rw [if_pos q2, decide_eq_true ⟨q1, q2⟩, Bool.true_and, Bool.true_and]
        unfold rF
        by_cases q3 : fdp 93 (lg P d x y t) (ix d x y t) = true
        · have q4 : fdp 1488 (lg P d x y t) (ix d x y t) = false := by
            unfold fdp at q3 ⊢
            rw [decide_eq_true_iff] at q3
            apply decide_eq_false
            intro z
            have z0 := z 0 (by omega)
            rw [q3 0 (by omega)] at z0
            revert z0; decide
          rw [q3, q4, if_pos rfl]; rfl
        · rw [show fdp 93 (lg P d x y t) (ix d x y t) = false from by simpa using q3]
          cases fdp 1488 (lg P d x y t) (ix d x y t) <;> rfl
      · rw [if_neg q2, decide_eq_false (fun z => q2 z.2)]; rfl
    · rw [if_neg q1, decide_eq_false (fun z => q1 z.1)]; rfl
  have hsum : pop ((w1 ||| w2) &&& u5) + 2 * pop (((w1 ||| w2) &&& u5) &&& (ed ||| (u10 ^^^ b' 0))) + 40 * (pop (u17 &&& u15) + pop (u21 &&& u15)) = ns 64 (fun t => if x + t < s then ((if ix d x y t + 4 < s then rA (lg P d x y t) (ix d x y t) else 0) + (if ix d x y t + 10 < s then rF (lg P d x y t) (ix d x y t) else 0)) else 0) := by
    rw [pop_ns, pop_ns, pop_ns, pop_ns, ← ns_m, ← ns_a, ← ns_a, ← ns_m, ← ns_a]
    refine ns_cg (fun t ht => ?_)
    rw [hcR t ht, hcF t ht]
    by_cases q1 : x + t < s
    · rw [if_pos q1, if_pos q1, if_pos q1]
    · rw [if_neg q1, if_neg q1, if_neg q1]
  refine ⟨b', ?_⟩
  rw [← hsum]
  have e1' : ∀ k4, fn_Penalty_lines_L1 (ni x) (ni y) (ni (dX d)) (ni (dY d)) (ni s) w k4 n0 (-1) (-1) 0 ah = k4 w1 w2 b' := e1
  have m4 : ∀ k : Nat, (4 : Int32) * ni k = ni (4 * k) := fun k => by rw [show (4 : Int32) = ni 4 from rfl, ni_mul]
  have m10 : ∀ k : Nat, (10 : Int32) * ni k = ni (10 * k) := fun k => by rw [show (10 : Int32) = ni 10 from rfl, ni_mul]
  have e17' : fn_Penalty_places n0 93 b' = some u17 := e17
  have e21' : fn_Penalty_places n0 1488 b' = some u21 := e21
  unfold fn_Penalty_lines
  rw [sq_jne, e1', m4, m4, e5, cb1_e]
  simp only [sq_bd, m10]
  rw [eed, e10, cb1_e, show ((0 : Int32)) = ni 0 from rfl, ni_gi (by omega) (by omega), ni_ix (by omega), e15, cb1_e, e17', cb1_e, cl_pop, cb1_e, e21', cb1_e, cl_pop, cb1_e, cl_pop, cb1_e, cl_pop, cb1_e]
  simp only [ni_lit, ni_mul, ni_add]
