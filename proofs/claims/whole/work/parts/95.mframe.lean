/-! own rows: the model's frame -/
def MF (fx md : Nat → Int32) (s : Nat) (q : Nat → Nat → Nat) : Prop := ∀ a b : Nat, a < s → b < s → md (a + 177 * b) = ni (b2 (decide (q a b = 2))) ∧ fx (a + 177 * b) = ni (b2 (decide (q a b ≠ 0)))
theorem mf_fix {fx md : Nat → Int32} {s : Nat} {q : Nat → Nat → Nat} (hs : s ≤ 177) (h : MF fx md s q) (x y : Int32) (d : Bool) : ∃ fx' md', fn_Md_fix x y (ni (b2 d)) (ni s) fx md = some (fx', md') ∧ MF fx' md' s (fxq x y d q) := by
  by_cases w : ∃ a b : Nat, a < s ∧ b < s ∧ x = ni a ∧ y = ni b
  · obtain ⟨a, b, ha, hb, rfl, rfl⟩ := w
    refine ⟨upd fx (a + 177 * b) (ni 1), upd md (a + 177 * b) (ni (b2 d)), ?_, fun u v hu hv => ?_⟩
    · unfold fn_Md_fix fn_Md_moduleAt
      cases d with
      | false =>
        simp (disch := omega) only [ni_lit, ni_add, ni_mul, ni_sub, ni_lt, ni_le, ni_ix, ni_eq, ni_div, ni_rem, ni_and, ni_or, ni_xor, ni_shl, ni_shr, ni_gi, ni_gz, ni_max, ni_min, ni_dc, ni_0a, ni_ml, ni_mle, Nat.reduceAnd, Nat.reduceAdd, Nat.reduceMul, Nat.reduceSub, Nat.reduceDiv, Nat.reduceMod, Nat.reduceXor, Nat.reduceShiftLeft, Nat.reduceShiftRight, sq_bd, sq_jn, sq_cb0, sq_cb1, sq_cb2, sq_cb3, sq_cb4, sq_cb5, show b2 false = 0 from rfl, if_true]
        rw [if_neg (by omega), if_neg (by omega), if_neg (by omega), if_neg (by omega)]
      | true =>
        simp (disch := omega) only [ni_lit, ni_add, ni_mul, ni_sub, ni_lt, ni_le, ni_ix, ni_eq, ni_div, ni_rem, ni_and, ni_or, ni_xor, ni_shl, ni_shr, ni_gi, ni_gz, ni_max, ni_min, ni_dc, ni_0a, ni_ml, ni_mle, Nat.reduceAnd, Nat.reduceAdd, Nat.reduceMul, Nat.reduceSub, Nat.reduceDiv, Nat.reduceMod, Nat.reduceXor, Nat.reduceShiftLeft, Nat.reduceShiftRight, sq_bd, sq_jn, sq_cb0, sq_cb1, sq_cb2, sq_cb3, sq_cb4, sq_cb5, show b2 true = 1 from rfl]
        rw [if_neg (by omega), if_neg (by omega), if_neg (by omega), if_neg (by omega), if_neg (by omega)]
    · unfold fxq
      rw [upd_a, upd_a]
      have ez : (ni a = ni u ∧ ni b = ni v) = (a = u ∧ b = v) := by rw [ni_eq (by omega) (by omega), ni_eq (by omega) (by omega)]
      simp only [ez]
      by_cases z : a = u ∧ b = v
      · rw [if_pos (show u + 177 * v = a + 177 * b by omega), if_pos (show u + 177 * v = a + 177 * b by omega), if_pos z]
        cases d <;> exact ⟨rfl, rfl⟩
      · rw [if_neg (show ¬ u + 177 * v = a + 177 * b by omega), if_neg (show ¬ u + 177 * v = a + 177 * b by omega), if_neg z]
        exact h u v hu hv
  · have hno : ∀ a b : Nat, a < s → b < s → ¬ (x = ni a ∧ y = ni b) := fun a b ha hb hh => w ⟨a, b, ha, hb, hh.1, hh.2⟩
    refine ⟨fx, md, ?_, fun u v hu hv => ?_⟩
    · have h0 : (0 : Int32).toInt = 0 := by decide
      unfold fn_Md_fix
      simp only [lt_I, le_I, h0, ni_toI (show s < 2147483648 by omega)]
      by_cases q1 : x.toInt < 0
      · rw [if_pos q1]
      rw [if_neg q1]
      by_cases q2 : y.toInt < 0
      · rw [if_pos q2]
      rw [if_neg q2]
      by_cases q3 : (s : Int) ≤ x.toInt
      · rw [if_pos q3]
      rw [if_neg q3]
      by_cases q4 : (s : Int) ≤ y.toInt
      · rw [if_pos q4]
      · exact absurd ⟨(ni_of (by omega)).1, (ni_of (by omega)).1⟩ (hno x.toInt.toNat y.toInt.toNat (by omega) (by omega))
    · unfold fxq
      rw [if_neg (hno u v hu hv)]
      exact h u v hu hv
theorem mf_rx {s r : Nat} {p4 mx my : Int32} {dk : Nat → Nat → Bool} {u : Nat} (hs : s ≤ 177) (hr : r ≤ 4) (Hc : ∀ t : Nat, t < 10 → ((ni r < dxs r t) ↔ 2 * r < t)) (Hd : ∀ t : Nat, t ≤ 2 * r → ∀ K : Int32 → Option ((Nat → Int32) × (Nat → Int32)), (sq_cb1 (fn_Md_greater (dxs r t) (dxs r u)) fun r15 => sq_jn K fun k18 => if p4 = 0 then (if r15 = (1 : Int32) then (k18 (0 : Int32)) else (k18 (1 : Int32))) else (sq_jn (fun (_ : Unit) => k18 (0 : Int32)) fun k25 => if r15 = (2 : Int32) then (k25 ()) else (if r15 = (4 : Int32) then (k25 ()) else (k18 (1 : Int32))))) = K (ni (b2 (dk t u)))) (q0 : Nat → Nat → Nat) : ∀ (e t m : Nat) (fx md : Nat → Int32), t + e = 2 * r + 1 → e < m → MF fx md s (rgx mx my r dk u t q0) → ∃ fx' md', (∀ k9, fn_Md_square_L2 mx my (ni r) p4 (ni s) (dxs r u) k9 m (dxs r t) fx md = k9 fx' md') ∧ MF fx' md' s (rgx mx my r dk u (2 * r + 1) q0)
  | 0, t, m + 1, fx, md, ht, _, h => by
    have htt : t = 2 * r + 1 := by omega
    subst htt
    refine ⟨fx, md, fun k9 => ?_, h⟩
    rw [fn_Md_square_L2_s, if_pos ((Hc _ (by omega)).mpr (by omega))]
  | e + 1, t, m + 1, fx, md, ht, hm, h => by
    obtain ⟨fx1, md1, e1, h1⟩ := mf_fix hs h (mx + dxs r t) (my + dxs r u) (dk t u)
    obtain ⟨fx', md', g1, g2⟩ := mf_rx hs hr Hc Hd q0 e (t + 1) m fx1 md1 (by omega) (by omega) h1
    refine ⟨fx', md', fun k9 => ?_, g2⟩
    rw [fn_Md_square_L2_s, if_neg (fun w => absurd ((Hc _ (by omega)).mp w) (by omega)), Hd t (by omega), ← g1 k9, e1]
    simp only [sq_cb2, sq_bd, dxs_s]
theorem mf_rq {s r n0 : Nat} {p4 mx my : Int32} {dk : Nat → Nat → Bool} (hn0 : 300 ≤ n0) (hs : s ≤ 177) (hr : r ≤ 4) (Hc : ∀ t : Nat, t < 10 → ((ni r < dxs r t) ↔ 2 * r < t)) (Hd : ∀ u : Nat, u ≤ 2 * r → ∀ t : Nat, t ≤ 2 * r → ∀ K : Int32 → Option ((Nat → Int32) × (Nat → Int32)), (sq_cb1 (fn_Md_greater (dxs r t) (dxs r u)) fun r15 => sq_jn K fun k18 => if p4 = 0 then (if r15 = (1 : Int32) then (k18 (0 : Int32)) else (k18 (1 : Int32))) else (sq_jn (fun (_ : Unit) => k18 (0 : Int32)) fun k25 => if r15 = (2 : Int32) then (k25 ()) else (if r15 = (4 : Int32) then (k25 ()) else (k18 (1 : Int32))))) = K (ni (b2 (dk t u)))) (q0 : Nat → Nat → Nat) : ∀ (e u m : Nat) (fx md : Nat → Int32), u + e = 2 * r + 1 → e < m → MF fx md s (rgq mx my r dk u q0) → ∃ fx' md', fn_Md_square_L1 mx my (ni r) p4 n0 (ni s) m (dxs r u) fx md = some (fx', md') ∧ MF fx' md' s (rgq mx my r dk (2 * r + 1) q0)
  | 0, u, m + 1, fx, md, hu, _, h => by
    have huu : u = 2 * r + 1 := by omega
    subst huu
    refine ⟨fx, md, ?_, h⟩
    rw [fn_Md_square_L1_s, if_pos ((Hc _ (by omega)).mpr (by omega))]
  | e + 1, u, m + 1, fx, md, hu, hm, h => by
    obtain ⟨fx1, md1, e1, h1⟩ := mf_rx (mx := mx) (my := my) hs hr Hc (Hd u (by omega)) (rgq mx my r dk u q0) (2 * r + 1) 0 n0 fx md (by omega) (by omega) h
    obtain ⟨fx', md', g1, g2⟩ := mf_rq hn0 hs hr Hc Hd q0 e (u + 1) m fx1 md1 (by omega) (by omega) h1
    refine ⟨fx', md', ?_, g2⟩
    rw [fn_Md_square_L1_s, if_neg (fun w => absurd ((Hc _ (by omega)).mp w) (by omega)), ← g1]
    simp only [sq_bd, sq_jn, ← dxs_0, e1, dxs_s]
theorem mdg4 : ∀ u : Nat, u ≤ 8 → ∀ t : Nat, t ≤ 8 → fn_Md_greater (dxs 4 t) (dxs 4 u) = some (ni (dst 4 t u)) := by decide +kernel
theorem mdg2 : ∀ u : Nat, u ≤ 4 → ∀ t : Nat, t ≤ 4 → fn_Md_greater (dxs 2 t) (dxs 2 u) = some (ni (dst 2 t u)) := by decide +kernel
theorem dst_le (r t u : Nat) (ht : t ≤ 2 * r) (hu : u ≤ 2 * r) : dst r t u ≤ r := by
  unfold dst
  have h1 : (if t ≤ r then r - t else t - r) ≤ r := by split <;> omega
  have h2 : (if u ≤ r then r - u else u - r) ≤ r := by split <;> omega
  omega
theorem mf_f {s n0 : Nat} {fx md : Nat → Int32} {q : Nat → Nat → Nat} (hn0 : 300 ≤ n0) (hs : s ≤ 177) (h : MF fx md s q) (mx my : Int32) : ∃ fx' md', fn_Md_square n0 mx my 4 1 (ni s) fx md = some (fx', md') ∧ MF fx' md' s (rgq mx my 4 dkf 9 q) := by
  unfold fn_Md_square
  simp only [sq_bd]
  rw [show (4 : Int32) = ni 4 from rfl, ← dxs_0]
  refine mf_rq hn0 hs (by omega) hc4 (fun u hu t ht K => ?_) q 9 0 n0 fx md (by omega) (by omega) h
  have hd := dst_le 4 t u ht hu
  rw [mdg4 u hu t ht]
  unfold dkf
  simp (disch := omega) only [ni_lit, ni_eq, sq_bd, sq_jn, sq_cb0, sq_cb1, sq_cb2, sq_cb3, sq_cb4, sq_cb5]
  rw [if_neg (by omega)]
  by_cases w1 : dst 4 t u = 2
  · rw [if_pos w1, decide_eq_false (by omega)]; rfl
  · rw [if_neg w1]
    by_cases w2 : dst 4 t u = 4
    · rw [if_pos w2, decide_eq_false (by omega)]; rfl
    · rw [if_neg w2, decide_eq_true ⟨w1, w2⟩]; rfl
theorem mf_a {s n0 : Nat} {fx md : Nat → Int32} {q : Nat → Nat → Nat} (hn0 : 300 ≤ n0) (hs : s ≤ 177) (h : MF fx md s q) (mx my : Int32) : ∃ fx' md', fn_Md_square n0 mx my 2 0 (ni s) fx md = some (fx', md') ∧ MF fx' md' s (rgq mx my 2 dka 5 q) := by
  unfold fn_Md_square
  simp only [sq_bd]
  rw [show (2 : Int32) = ni 2 from rfl, ← dxs_0]
  refine mf_rq hn0 hs (by omega) hc2 (fun u hu t ht K => ?_) q 5 0 n0 fx md (by omega) (by omega) h
  have hd := dst_le 2 t u ht hu
  rw [mdg2 u hu t ht]
  unfold dka
  simp (disch := omega) only [ni_lit, ni_eq, sq_bd, sq_jn, sq_cb0, sq_cb1, sq_cb2, sq_cb3, sq_cb4, sq_cb5, if_true]
  by_cases w1 : dst 2 t u = 1
  · rw [if_pos w1, decide_eq_false (by omega)]; rfl
  · rw [if_neg w1, decide_eq_true w1]; rfl
theorem mf_t {s : Nat} (hs : s ≤ 177) (q0 : Nat → Nat → Nat) : ∀ (e i m : Nat) (fx md : Nat → Int32), i + e = s → e < m → MF fx md s (tmq i q0) → ∃ fx' md', (∀ k8, fn_Md_frame_L4 (ni s) k8 m (ni i) fx md = k8 fx' md') ∧ MF fx' md' s (tmq s q0)
  | 0, i, m + 1, fx, md, hi, _, h => by
    have hii : i = s := by omega
    subst hii
    refine ⟨fx, md, fun k8 => ?_, h⟩
    rw [fn_Md_frame_L4_s]
    simp (disch := omega) only [ni_le]
    rw [if_pos (by omega)]
  | e + 1, i, m + 1, fx, md, hi, hm, h => by
    obtain ⟨fx1, md1, e1, h1⟩ := mf_fix hs h (ni i) 6 (decide (i % 2 = 0))
    obtain ⟨fx2, md2, e2, h2⟩ := mf_fix hs h1 6 (ni i) (decide (i % 2 = 0))
    obtain ⟨fx', md', g1, g2⟩ := mf_t hs q0 e (i + 1) m fx2 md2 (by omega) (by omega) h2
    refine ⟨fx', md', fun k8 => ?_, g2⟩
    rw [fn_Md_frame_L4_s, ← g1 k8]
    by_cases w : i % 2 = 0
    · rw [decide_eq_true w, show b2 true = 1 from rfl, show (6 : Int32) = ni 6 from rfl] at e1 e2
      simp (disch := omega) only [ni_lit, ni_le, ni_rem, ni_eq, ni_add, sq_bd, sq_jn, sq_cb0, sq_cb1, sq_cb2, sq_cb3, sq_cb4, sq_cb5, w, if_true, e1, e2]
      rw [if_neg (by omega)]
    · rw [decide_eq_false w, show b2 false = 0 from rfl, show (6 : Int32) = ni 6 from rfl] at e1 e2
      simp (disch := omega) only [ni_lit, ni_le, ni_rem, ni_eq, ni_add, sq_bd, sq_jn, sq_cb0, sq_cb1, sq_cb2, sq_cb3, sq_cb4, sq_cb5, if_neg w, e1, e2]
      rw [if_neg (by omega)]
theorem al_m : ∀ v : Nat, v < 41 → ∀ k : Nat, k < 8 → 2 ≤ v ∧ k < v / 7 + 2 → fn_Md_alignmentAt (ni v) (ni k) = some (ni (alN v k)) := by decide +kernel
theorem mf_ax {v i n0 : Nat} (hn0 : 300 ≤ n0) (hv : v < 41) (hv2 : 2 ≤ v) (hi : i < v / 7 + 2) (q0 : Nat → Nat → Nat) : ∀ (e j m : Nat) (fx md : Nat → Int32), j + e = v / 7 + 2 → e < m → MF fx md (sd v) (alx v i j q0) → ∃ fx' md', (∀ k57, fn_Md_frame_L3 (ni v) n0 (ni (sd v)) (ni (v / 7 + 2)) (ni i) k57 m (ni j) fx md = k57 fx' md') ∧ MF fx' md' (sd v) (alx v i (v / 7 + 2) q0)
  | 0, j, m + 1, fx, md, hj, _, h => by
    have hjj : j = v / 7 + 2 := by omega
    subst hjj
    refine ⟨fx, md, fun k57 => ?_, h⟩
    rw [fn_Md_frame_L3_s]
    simp (disch := omega) only [ni_le]
    rw [if_pos (by omega)]
  | e + 1, j, m + 1, fx, md, hj, hm, h => by
    have hcr : ∀ K : Int32 → Option (Int32 × (Nat → Int32) × (Nat → Int32)), sq_jn K (fun k64 => sq_jn (fun (_ : Unit) => k64 (1 : Int32)) fun k77 => sq_jn (fun (_ : Unit) => sq_jn (fun (_ : Unit) => k64 (0 : Int32)) fun k79 => if ni i = (ni (v / 7 + 2) - (1 : Int32)) then (if ni j = 0 then (k77 ()) else (k79 ())) else (k79 ())) fun k78 => if ni i = 0 then (if ni j = 0 then (k77 ()) else (if ni j = (ni (v / 7 + 2) - (1 : Int32)) then (k77 ()) else (k78 ()))) else (k78 ())) = K (ni (b2 (crn v i j))) := fun K => by
      simp (disch := omega) only [ni_lit, ni_sub, ni_eq, sq_jn, show v / 7 + 2 - 1 = v / 7 + 1 by omega]
      unfold crn
      by_cases a1 : i = 0
      · by_cases a2 : j = 0
        · rw [if_pos a1, if_pos a2, decide_eq_true (by omega)]; rfl
        · by_cases a3 : j = v / 7 + 1
          · rw [if_pos a1, if_neg a2, if_pos a3, decide_eq_true (by omega)]; rfl
          · rw [if_pos a1, if_neg a2, if_neg a3, decide_eq_false (by omega)]
            by_cases a4 : i = v / 7 + 1
            · omega
            · rw [if_neg a4]; rfl
      · rw [if_neg a1]
        by_cases a4 : i = v / 7 + 1
        · by_cases a2 : j = 0
          · rw [if_pos a4, if_pos a2, decide_eq_true (by omega)]; rfl
          · rw [if_pos a4, if_neg a2, decide_eq_false (by omega)]; rfl
        · rw [if_neg a4, decide_eq_false (by omega)]; rfl
    have hst : ∀ k57, fn_Md_frame_L3 (ni v) n0 (ni (sd v)) (ni (v / 7 + 2)) (ni i) k57 (m + 1) (ni j) fx md = if crn v i j then fn_Md_frame_L3 (ni v) n0 (ni (sd v)) (ni (v / 7 + 2)) (ni i) k57 m (ni (j + 1)) fx md else sq_cb2 (fn_Md_square n0 (ni (alN v i)) (ni (alN v j)) 2 0 (ni (sd v)) fx md) fun b74 b75 => fn_Md_frame_L3 (ni v) n0 (ni (sd v)) (ni (v / 7 + 2)) (ni i) k57 m (ni (j + 1)) b74 b75 := fun k57 => by
      rw [fn_Md_frame_L3_s, if_neg (by rw [ni_le (by omega) (by omega)]; omega), hcr]
      simp only [sq_bd, sq_jn]
      rw [show ni j + 1 = ni (j + 1) from by rw [show (1 : Int32) = ni 1 from rfl, ni_add]]
      by_cases w : crn v i j = true
      · rw [w, if_neg (show ¬ ni (b2 true) = 0 from by decide), if_pos rfl]
      · rw [show crn v i j = false from by simpa using w, if_pos (show ni (b2 false) = 0 from rfl), if_neg (show ¬ (false = true) from by decide), al_m v hv i (by omega) ⟨hv2, hi⟩, al_m v hv j (by omega) ⟨hv2, by omega⟩]
        rfl
    have hal : alx v i (j + 1) q0 = if crn v i j then alx v i j q0 else rgq (ni (alN v i)) (ni (alN v j)) 2 dka 5 (alx v i j q0) := rfl
    by_cases w : crn v i j = true
    · rw [if_pos w] at hal
      obtain ⟨fx', md', g1, g2⟩ := mf_ax hn0 hv hv2 hi q0 e (j + 1) m fx md (by omega) (by omega) (by rw [hal]; exact h)
      exact ⟨fx', md', fun k57 => by rw [hst, if_pos w, g1], g2⟩
    · rw [if_neg w] at hal
      obtain ⟨fx1, md1, e1, h1⟩ := mf_a hn0 (sd_le hv) h (ni (alN v i)) (ni (alN v j))
      obtain ⟨fx', md', g1, g2⟩ := mf_ax hn0 hv hv2 hi q0 e (j + 1) m fx1 md1 (by omega) (by omega) (by rw [hal]; exact h1)
      exact ⟨fx', md', fun k57 => by rw [hst, if_neg w, e1]; simp only [sq_cb2]; rw [g1], g2⟩
theorem mf_aq {v n0 : Nat} (hn0 : 300 ≤ n0) (hv : v < 41) (hv2 : 2 ≤ v) (q0 : Nat → Nat → Nat) : ∀ (e i m : Nat) (fx md : Nat → Int32), i + e = v / 7 + 2 → e < m → MF fx md (sd v) (alq v i q0) → ∃ fx' md', (∀ k21, fn_Md_frame_L2 (ni v) n0 (ni (sd v)) (ni (v / 7 + 2)) k21 m (ni i) fx md = k21 fx' md') ∧ MF fx' md' (sd v) (alq v (v / 7 + 2) q0)
  | 0, i, m + 1, fx, md, hi, _, h => by
    have hii : i = v / 7 + 2 := by omega
    subst hii
    refine ⟨fx, md, fun k21 => ?_, h⟩
    rw [fn_Md_frame_L2_s]
    simp (disch := omega) only [ni_le]
    rw [if_pos (by omega)]
  | e + 1, i, m + 1, fx, md, hi, hm, h => by
    obtain ⟨fx1, md1, e1, h1⟩ := mf_ax (i := i) hn0 hv hv2 (by omega) (alq v i q0) (v / 7 + 2) 0 n0 fx md (by omega) (by omega) h
    obtain ⟨fx', md', g1, g2⟩ := mf_aq hn0 hv hv2 q0 e (i + 1) m fx1 md1 (by omega) (by omega) h1
    refine ⟨fx', md', fun k21 => ?_, g2⟩
    rw [fn_Md_frame_L2_s, ← g1 k21]
    simp (disch := omega) only [ni_lit, ni_le, ni_add, sq_bd, sq_jn, sq_cb0, sq_cb1, sq_cb2, sq_cb3, sq_cb4, sq_cb5, e1]
    rw [if_neg (by omega), if_neg (by omega)]
theorem mf_fo {s w : Nat} (hs : 21 ≤ s) (hs2 : s ≤ 177) (hw : w < 2147483648) (q0 : Nat → Nat → Nat) : ∀ (e i m : Nat) (fx md : Nat → Int32), i + e = 15 → e < m → MF fx md s (foq s (fun i => w.testBit i) i q0) → ∃ fx' md', fn_Md_layForm_L1 (ni s) (ni w) m (ni i) fx md = some (fx', md') ∧ MF fx' md' s (foq s (fun i => w.testBit i) 15 q0)
  | 0, i, m + 1, fx, md, hi, _, h => by
    have hii : i = 15 := by omega
    subst hii
    refine ⟨fx, md, ?_, h⟩
    rw [fn_Md_layForm_L1_s, if_pos (by decide)]
  | e + 1, i, m + 1, fx, md, hi, hm, h => by
    obtain ⟨fx1, md1, e1, h1⟩ := mf_fix hs2 h (ni (fX 0 i s)) (ni (fY 0 i s)) (w.testBit i)
    obtain ⟨fx2, md2, e2, h2⟩ := mf_fix hs2 h1 (ni (fX 1 i s)) (ni (fY 1 i s)) (w.testBit i)
    obtain ⟨fx', md', g1, g2⟩ := mf_fo hs hs2 hw q0 e (i + 1) m fx2 md2 (by omega) (by omega) h2
    refine ⟨fx', md', ?_, g2⟩
    have han : i &&& 31 = i := by rw [show (31 : Nat) = 2 ^ 5 - 1 from rfl, an_p, Nat.mod_eq_of_lt (by omega)]
    have hlt : w >>> i &&& 1 < 2 := by rw [Nat.and_one_is_mod]; omega
    rw [← tb_b2] at e1 e2
    rw [fn_Md_layForm_L1_s, ← g1]
    by_cases z : w >>> i &&& 1 = 1
    · rw [if_pos z] at e1 e2
      simp (disch := omega) only [ni_lit, ni_add, ni_mul, ni_sub, ni_lt, ni_le, ni_ix, ni_eq, ni_div, ni_rem, ni_and, ni_or, ni_xor, ni_shl, ni_shr, ni_gi, ni_gz, ni_max, ni_min, ni_dc, ni_0a, ni_ml, ni_mle, Nat.reduceAnd, Nat.reduceAdd, Nat.reduceMul, Nat.reduceSub, Nat.reduceDiv, Nat.reduceMod, Nat.reduceXor, Nat.reduceShiftLeft, Nat.reduceShiftRight, sq_bd, sq_jn, sq_cb0, sq_cb1, sq_cb2, sq_cb3, sq_cb4, sq_cb5, han, z, if_true, (cl_fX (c := 0) (i := i) (s := s) (by omega) (by omega) hs hs2).2, (cl_fY (c := 0) (i := i) (s := s) (by omega) (by omega) hs hs2).2, (cl_fX (c := 1) (i := i) (s := s) (by omega) (by omega) hs hs2).2, (cl_fY (c := 1) (i := i) (s := s) (by omega) (by omega) hs hs2).2, e1, e2]
      rw [if_neg (by omega)]
    · rw [if_neg z] at e1 e2
      simp (disch := omega) only [ni_lit, ni_add, ni_mul, ni_sub, ni_lt, ni_le, ni_ix, ni_eq, ni_div, ni_rem, ni_and, ni_or, ni_xor, ni_shl, ni_shr, ni_gi, ni_gz, ni_max, ni_min, ni_dc, ni_0a, ni_ml, ni_mle, Nat.reduceAnd, Nat.reduceAdd, Nat.reduceMul, Nat.reduceSub, Nat.reduceDiv, Nat.reduceMod, Nat.reduceXor, Nat.reduceShiftLeft, Nat.reduceShiftRight, sq_bd, sq_jn, sq_cb0, sq_cb1, sq_cb2, sq_cb3, sq_cb4, sq_cb5, han, if_neg z, (cl_fX (c := 0) (i := i) (s := s) (by omega) (by omega) hs hs2).2, (cl_fY (c := 0) (i := i) (s := s) (by omega) (by omega) hs hs2).2, (cl_fX (c := 1) (i := i) (s := s) (by omega) (by omega) hs hs2).2, (cl_fY (c := 1) (i := i) (s := s) (by omega) (by omega) hs hs2).2, e1, e2]
      rw [if_neg (by omega)]
theorem md_layForm {s k n0 : Nat} {fx md : Nat → Int32} {q : Nat → Nat → Nat} (hn0 : 300 ≤ n0) (hs : 21 ≤ s) (hs2 : s ≤ 177) (hk : k < 32) (h : MF fx md s q) : ∃ fx' md', fn_Md_layForm n0 (ni k) (ni s) fx md = some (fx', md') ∧ MF fx' md' s (foq s (fun i => (fwd k).testBit i) 15 q) := by
  obtain ⟨fx', md', e, g⟩ := mf_fo (w := fwd k) hs hs2 (by have := (fw_20 k hk).2; omega) q 15 0 n0 fx md (by omega) (by omega) h
  refine ⟨fx', md', ?_, g⟩
  unfold fn_Md_layForm
  rw [(cl_fwd hn0 hk).2]
  exact e
theorem mf_ve {v s w : Nat} (hv : v < 41) (hv7 : 7 ≤ v) (hs : 21 ≤ s) (hs2 : s ≤ 177) (hw : w < 2147483648) (q0 : Nat → Nat → Nat) : ∀ (e i m : Nat) (fx md : Nat → Int32), i + e = 18 → e < m → MF fx md s (veq s (fun i => w.testBit i) i q0) → ∃ fx' md', fn_Md_frame_L1 (ni v) (ni s) (ni w) m (ni i) fx md = some (ni s, fx', md') ∧ MF fx' md' s (veq s (fun i => w.testBit i) 18 q0)
  | 0, i, m + 1, fx, md, hi, _, h => by
    have hii : i = 18 := by omega
    subst hii
    refine ⟨fx, md, ?_, h⟩
    rw [fn_Md_frame_L1_s, if_pos (by decide)]
  | e + 1, i, m + 1, fx, md, hi, hm, h => by
    obtain ⟨fx1, md1, e1, h1⟩ := mf_fix hs2 h (ni (s - 11 + i % 3)) (ni (i / 3)) (w.testBit i)
    obtain ⟨fx2, md2, e2, h2⟩ := mf_fix hs2 h1 (ni (i / 3)) (ni (s - 11 + i % 3)) (w.testBit i)
    obtain ⟨fx', md', g1, g2⟩ := mf_ve hv hv7 hs hs2 hw q0 e (i + 1) m fx2 md2 (by omega) (by omega) h2
    refine ⟨fx', md', ?_, g2⟩
    have han : i &&& 31 = i := by rw [show (31 : Nat) = 2 ^ 5 - 1 from rfl, an_p, Nat.mod_eq_of_lt (by omega)]
    have hlt : w >>> i &&& 1 < 2 := by rw [Nat.and_one_is_mod]; omega
    rw [← tb_b2] at e1 e2
    rw [fn_Md_frame_L1_s, ← g1]
    by_cases z : w >>> i &&& 1 = 1
    · rw [if_pos z] at e1 e2
      simp (disch := omega) only [ni_lit, ni_add, ni_mul, ni_sub, ni_lt, ni_le, ni_ix, ni_eq, ni_div, ni_rem, ni_and, ni_or, ni_xor, ni_shl, ni_shr, ni_gi, ni_gz, ni_max, ni_min, ni_dc, ni_0a, ni_ml, ni_mle, Nat.reduceAnd, Nat.reduceAdd, Nat.reduceMul, Nat.reduceSub, Nat.reduceDiv, Nat.reduceMod, Nat.reduceXor, Nat.reduceShiftLeft, Nat.reduceShiftRight, sq_bd, sq_jn, sq_cb0, sq_cb1, sq_cb2, sq_cb3, sq_cb4, sq_cb5, han, z, if_true, e1, e2]
      rw [if_neg (by omega), if_neg (by omega)]
    · rw [if_neg z] at e1 e2
      simp (disch := omega) only [ni_lit, ni_add, ni_mul, ni_sub, ni_lt, ni_le, ni_ix, ni_eq, ni_div, ni_rem, ni_and, ni_or, ni_xor, ni_shl, ni_shr, ni_gi, ni_gz, ni_max, ni_min, ni_dc, ni_0a, ni_ml, ni_mle, Nat.reduceAnd, Nat.reduceAdd, Nat.reduceMul, Nat.reduceSub, Nat.reduceDiv, Nat.reduceMod, Nat.reduceXor, Nat.reduceShiftLeft, Nat.reduceShiftRight, sq_bd, sq_jn, sq_cb0, sq_cb1, sq_cb2, sq_cb3, sq_cb4, sq_cb5, han, if_neg z, e1, e2]
      rw [if_neg (by omega), if_neg (by omega)]
def qM (v : Nat) : Nat → Nat → Nat := (if v ≤ 6 then id else veq (sd v) (fun i => (vwd v).testBit i) 18) (fxq 8 (ni (sd v) - 8) true (foq (sd v) (fun i => (fwd 0).testBit i) 15 (q3 v)))
theorem mf_0 : ∀ (e x m : Nat) (fx md : Nat → Int32), x + e = 31329 → e < m → (∀ i : Nat, i < x → fx i = ni 0 ∧ md i = ni 0) → ∃ fx' md', (∀ k5, fn_Md_frame_L5 k5 m (ni x) fx md = k5 fx' md') ∧ ∀ i : Nat, i < 31329 → fx' i = ni 0 ∧ md' i = ni 0
  | 0, x, m + 1, fx, md, hx, _, h => by
    have hxx : x = 31329 := by omega
    subst hxx
    refine ⟨fx, md, fun k5 => ?_, h⟩
    rw [fn_Md_frame_L5_s, if_pos (by decide)]
  | e + 1, x, m + 1, fx, md, hx, hm, h => by
    obtain ⟨fx', md', g1, g2⟩ := mf_0 e (x + 1) m (upd fx x (ni 0)) (upd md x (ni 0)) (by omega) (by omega) (fun i hi => by
      rw [upd_a, upd_a]
      by_cases q : i = x
      · rw [if_pos q, if_pos q]; exact ⟨rfl, rfl⟩
      · rw [if_neg q, if_neg q]; exact h i (by omega))
    refine ⟨fx', md', fun k5 => ?_, g2⟩
    rw [fn_Md_frame_L5_s, ← g1 k5]
    simp (disch := omega) only [ni_lit, ni_add, ni_mul, ni_sub, ni_lt, ni_le, ni_ix, ni_eq, ni_div, ni_rem, ni_and, ni_or, ni_xor, ni_shl, ni_shr, ni_gi, ni_gz, ni_max, ni_min, ni_dc, ni_0a, ni_ml, ni_mle, Nat.reduceAnd, Nat.reduceAdd, Nat.reduceMul, Nat.reduceSub, Nat.reduceDiv, Nat.reduceMod, Nat.reduceXor, Nat.reduceShiftLeft, Nat.reduceShiftRight, sq_bd, sq_jn, sq_cb0, sq_cb1, sq_cb2, sq_cb3, sq_cb4, sq_cb5]
    rw [if_neg (by omega)]
/-- the model's frame -/
theorem md_frame {v n0 : Nat} {fx md : Nat → Int32} {a1 : Int32} (hn0 : 40000 ≤ n0) (hv : v < 41) (hv1 : 1 ≤ v) : ∃ fx' md', fn_Md_frame n0 (ni v) a1 fx md = some (ni (sd v), fx', md') ∧ MF fx' md' (sd v) (qM v) := by
  have hs := sd_le hv
  have hs1 : 21 ≤ sd v := by unfold sd; omega
  have hsd : fn_Md_sideOf (ni v) = some (ni (sd v)) := by
    unfold fn_Md_sideOf sd
    simp only [ni_lit, ni_mul, ni_add]
  obtain ⟨f0, d0, e0, h0⟩ := mf_0 31329 0 n0 fx md (by omega) (by omega) (fun i hi => absurd hi (by omega))
  have hc0 : MF f0 d0 (sd v) (tmq 0 (fun _ _ => 0)) := fun a b ha hb => ⟨(h0 _ (by omega)).2, (h0 _ (by omega)).1⟩
  obtain ⟨f1, d1, e1, h1⟩ := mf_t hs (fun _ _ => 0) (sd v) 0 n0 f0 d0 (by omega) (by omega) hc0
  obtain ⟨f2, d2, e2, h2⟩ := mf_f (n0 := n0) (by omega) hs h1 3 3
  obtain ⟨f3, d3, e3, h3⟩ := mf_f (n0 := n0) (by omega) hs h2 (ni (sd v) - 4) 3
  obtain ⟨f4, d4, e4, h4⟩ := mf_f (n0 := n0) (by omega) hs h3 3 (ni (sd v) - 4)
  have hdv : ni v / 7 + 2 = ni (v / 7 + 2) := by
    simp (disch := omega) only [ni_lit, ni_div, ni_add]
  have h5 : ∃ f5 d5, (∀ k21, fn_Md_frame_L2 (ni v) n0 (ni (sd v)) (ni (v / 7 + 2)) k21 n0 0 f4 d4 = k21 f5 d5) ∧ MF f5 d5 (sd v) (q3 v) := by
    unfold q3
    by_cases w : v ≤ 1
    · refine ⟨f4, d4, fun k21 => ?_, ?_⟩
      · obtain ⟨m, rfl⟩ : ∃ m, n0 = m + 1 := ⟨n0 - 1, by omega⟩
        rw [fn_Md_frame_L2_s]
        simp (disch := omega) only [ni_lit, ni_le]
        rw [if_neg (by omega), if_pos w]
      · rw [if_pos w]; exact h4
    · obtain ⟨f5, d5, e5, h5⟩ := mf_aq (n0 := n0) (by omega) hv (by omega) _ (v / 7 + 2) 0 n0 f4 d4 (by omega) (by omega) h4
      exact ⟨f5, d5, e5, by rw [if_neg w]; exact h5⟩
  obtain ⟨f5, d5, e5, h5⟩ := h5
  obtain ⟨f6, d6, e6, h6⟩ := md_layForm (k := 0) (n0 := n0) (by omega) hs1 hs (by omega) h5
  obtain ⟨f7, d7, e7, h7⟩ := mf_fix hs h6 8 (ni (sd v) - 8) true
  have e0' : ∀ k5, fn_Md_frame_L5 k5 n0 0 fx md = k5 f0 d0 := e0
  have e1' : ∀ k8, fn_Md_frame_L4 (ni (sd v)) k8 n0 0 f0 d0 = k8 f1 d1 := e1
  have e6' : fn_Md_layForm n0 0 (ni (sd v)) f5 d5 = some (f6, d6) := e6
  have e7' : fn_Md_fix 8 (ni (sd v) - 8) 1 (ni (sd v)) f6 d6 = some (f7, d7) := e7
  unfold fn_Md_frame qM
  rw [hsd]
  simp only [sq_cb1, sq_jn, sq_bd, e0', e1', sq_cb2, e2, e3, e4, hdv, e5, e6', e7', (cl_vwd (show 300 ≤ n0 by omega) hv).2]
  by_cases w : v ≤ 6
  · refine ⟨f7, d7, ?_, by rw [if_pos w]; exact h7⟩
    obtain ⟨m, rfl⟩ : ∃ m, n0 = m + 1 := ⟨n0 - 1, by omega⟩
    rw [fn_Md_frame_L1_s]
    simp (disch := omega) only [ni_lit, ni_le]
    rw [if_neg (by omega), if_pos w]
  · rw [if_neg w]
    exact mf_ve (w := vwd v) hv (by omega) hs1 hs (by have := (vw_20 v hv).2; omega) _ 18 0 n0 f7 d7 (by omega) (by omega) h7
