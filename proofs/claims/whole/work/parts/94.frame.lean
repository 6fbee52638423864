/-! own rows: the fixed modules, in order of fixing: 0 free, 1 light, 2 dark -/
def fxq (x y : Int32) (d : Bool) (q : Nat → Nat → Nat) : Nat → Nat → Nat := fun a b => if x = ni a ∧ y = ni b then (if d then 2 else 1) else q a b
def dxs (r t : Nat) : Int32 := -(ni r) + ni t
theorem dxs_s (r t : Nat) : dxs r t + 1 = dxs r (t + 1) := by
  unfold dxs
  rw [show (1 : Int32) = ni 1 from rfl, Int32.add_assoc, ni_add]
theorem dxs_0 (r : Nat) : dxs r 0 = -(ni r) := by unfold dxs; rw [ni_0, Int32.add_zero]
def rgx (mx my : Int32) (r : Nat) (dk : Nat → Nat → Bool) (u : Nat) : Nat → (Nat → Nat → Nat) → Nat → Nat → Nat
  | 0, q => q
  | t + 1, q => fxq (mx + dxs r t) (my + dxs r u) (dk t u) (rgx mx my r dk u t q)
def rgq (mx my : Int32) (r : Nat) (dk : Nat → Nat → Bool) : Nat → (Nat → Nat → Nat) → Nat → Nat → Nat
  | 0, q => q
  | u + 1, q => rgx mx my r dk u (2 * r + 1) (rgq mx my r dk u q)
def dst (r t u : Nat) : Nat := max (if t ≤ r then r - t else t - r) (if u ≤ r then r - u else u - r)
def dkf (t u : Nat) : Bool := decide (dst 4 t u ≠ 2 ∧ dst 4 t u ≠ 4)
def dka (t u : Nat) : Bool := decide (dst 2 t u ≠ 1)
def b2 (b : Bool) : Nat := if b then 1 else 0
theorem b2_le (b : Bool) : b2 b ≤ 1 := by cases b <;> decide
theorem b2_1 (b : Bool) : decide (b2 b = 1) = b := by cases b <;> decide
/-- timing rows -/
def tmq : Nat → (Nat → Nat → Nat) → Nat → Nat → Nat
  | 0, q => q
  | i + 1, q => fxq 6 (ni i) (decide (i % 2 = 0)) (fxq (ni i) 6 (decide (i % 2 = 0)) (tmq i q))
def stp (v : Nat) : Nat := if v = 32 then 26 else (4 * v + 2 * (v / 7 + 2) + 1) / (2 * (v / 7 + 1)) * 2
def alN (v k : Nat) : Nat := if k = 0 then 6 else 10 + 4 * v - (v / 7 + 1 - k) * stp v
def crn (v i j : Nat) : Bool := decide ((i = 0 ∧ (j = 0 ∨ j = v / 7 + 1)) ∨ (i = v / 7 + 1 ∧ j = 0))
def alx (v i : Nat) : Nat → (Nat → Nat → Nat) → Nat → Nat → Nat
  | 0, q => q
  | j + 1, q => if crn v i j then alx v i j q else rgq (ni (alN v i)) (ni (alN v j)) 2 dka 5 (alx v i j q)
def alq (v : Nat) : Nat → (Nat → Nat → Nat) → Nat → Nat → Nat
  | 0, q => q
  | i + 1, q => alx v i (v / 7 + 2) (alq v i q)
def fX (c i s : Nat) : Nat := if c = 1 then (if i ≤ 7 then s - 1 - i else 8) else if i ≤ 7 then 8 else if i = 8 then 7 else 14 - i
def fY (c i s : Nat) : Nat := if c = 1 then (if i ≤ 7 then 8 else s - 15 + i) else if i ≤ 5 then i else if i = 6 then 7 else 8
def foq (s : Nat) (w : Nat → Bool) : Nat → (Nat → Nat → Nat) → Nat → Nat → Nat
  | 0, q => q
  | i + 1, q => fxq (ni (fX 1 i s)) (ni (fY 1 i s)) (w i) (fxq (ni (fX 0 i s)) (ni (fY 0 i s)) (w i) (foq s w i q))
def veq (s : Nat) (w : Nat → Bool) : Nat → (Nat → Nat → Nat) → Nat → Nat → Nat
  | 0, q => q
  | i + 1, q => fxq (ni (i / 3)) (ni (s - 11 + i % 3)) (w i) (fxq (ni (s - 11 + i % 3)) (ni (i / 3)) (w i) (veq s w i q))
def vwd (v : Nat) : Nat := ((fn_Frame_withRest 20 (ni v) 12 7973).getD 0).toNatClampNeg
def fwd (k : Nat) : Nat := ((fn_Frame_formWord 20 (ni k)).getD 0).toNatClampNeg
def sd (v : Nat) : Nat := 17 + 4 * v
/-- before forms -/
def q3 (v : Nat) : Nat → Nat → Nat := (if v ≤ 1 then id else alq v (v / 7 + 2)) (rgq 3 (ni (sd v) - 4) 4 dkf 9 (rgq (ni (sd v) - 4) 3 4 dkf 9 (rgq 3 3 4 dkf 9 (tmq (sd v) (fun _ _ => 0)))))
def qC (v : Nat) : Nat → Nat → Nat := (if v ≤ 6 then id else veq (sd v) (fun i => (vwd v).testBit i) 18) (foq (sd v) (fun _ => false) 15 (fxq 8 (ni (sd v) - 8) true (q3 v)))
/-! the class's -/
def CF (dw fw : Nat → Int64) (s : Nat) (q : Nat → Nat → Nat) : Prop := GR dw s (fun a b => decide (q a b = 2)) ∧ GR fw s (fun a b => decide (q a b ≠ 0))
theorem cf_fix {dw fw : Nat → Int64} {s : Nat} {q : Nat → Nat → Nat} (hs : s ≤ 177) (h : CF dw fw s q) (x y : Int32) (d : Bool) : ∃ dw' fw', fn_Frame_fix x y (ni (b2 d)) (ni s) (ni s) dw fw = some (dw', fw') ∧ CF dw' fw' s (fxq x y d q) := by
  obtain ⟨fw', e1, h1⟩ := gr_set (d := 1) hs h.2 (by omega) x y
  obtain ⟨dw', e2, h2⟩ := gr_set (d := b2 d) hs h.1 (b2_le d) x y
  refine ⟨dw', fw', ?_, GR_cg h2 (fun a b _ _ => ?_), GR_cg h1 (fun a b _ _ => ?_)⟩
  · unfold fn_Frame_fix
    rw [show (1 : Int32) = ni 1 from rfl, e1, e2]
    rfl
  · unfold fxq
    rw [b2_1]
    by_cases w : x = ni a ∧ y = ni b
    · rw [if_pos w, if_pos w]; cases d <;> rfl
    · rw [if_neg w, if_neg w]
  · unfold fxq
    by_cases w : x = ni a ∧ y = ni b
    · rw [if_pos w, if_pos w]; cases d <;> rfl
    · rw [if_neg w, if_neg w]
theorem cf_rx {s r : Nat} {p4 mx my : Int32} {dk : Nat → Nat → Bool} {u : Nat} (hs : s ≤ 177) (hr : r ≤ 4) (Hc : ∀ t : Nat, t < 10 → ((ni r < dxs r t) ↔ 2 * r < t)) (Hd : ∀ t : Nat, t ≤ 2 * r → (if ((p4 >>> ((sq_max (sq_abs (dxs r t)) (sq_abs (dxs r u))) &&& 31)) &&& 1) = 1 then (1 : Int32) else 0) = ni (b2 (dk t u))) (q0 : Nat → Nat → Nat) : ∀ (e t m : Nat) (dw fw : Nat → Int64), t + e = 2 * r + 1 → e < m → CF dw fw s (rgx mx my r dk u t q0) → ∃ dw' fw', (∀ k9, fn_Frame_layRings_L2 mx my (ni r) p4 (ni s) (ni s) (dxs r u) k9 m (dxs r t) dw fw = k9 dw' fw') ∧ CF dw' fw' s (rgx mx my r dk u (2 * r + 1) q0)
  | 0, t, m + 1, dw, fw, ht, _, h => by
    have htt : t = 2 * r + 1 := by omega
    subst htt
    refine ⟨dw, fw, fun k9 => ?_, h⟩
    rw [fn_Frame_layRings_L2_s, if_pos ((Hc _ (by omega)).mpr (by omega))]
  | e + 1, t, m + 1, dw, fw, ht, hm, h => by
    obtain ⟨dw1, fw1, e1, h1⟩ := cf_fix hs h (mx + dxs r t) (my + dxs r u) (dk t u)
    obtain ⟨dw', fw', g1, g2⟩ := cf_rx hs hr Hc Hd q0 e (t + 1) m dw1 fw1 (by omega) (by omega) h1
    refine ⟨dw', fw', fun k9 => ?_, g2⟩
    have hd := Hd t (by omega)
    rw [fn_Frame_layRings_L2_s, if_neg (fun w => absurd ((Hc _ (by omega)).mp w) (by omega)), ← g1 k9]
    simp only [sq_bd, sq_jn]
    rw [← hd] at e1
    by_cases w : ((p4 >>> ((sq_max (sq_abs (dxs r t)) (sq_abs (dxs r u))) &&& 31)) &&& 1) = 1
    · rw [if_pos w] at e1 ⊢
      rw [e1]
      simp only [sq_cb2, dxs_s]
    · rw [if_neg w] at e1 ⊢
      rw [e1]
      simp only [sq_cb2, dxs_s]
theorem cf_rq {s r n0 : Nat} {p4 mx my : Int32} {dk : Nat → Nat → Bool} (hn0 : 300 ≤ n0) (hs : s ≤ 177) (hr : r ≤ 4) (Hc : ∀ t : Nat, t < 10 → ((ni r < dxs r t) ↔ 2 * r < t)) (Hd : ∀ u : Nat, u ≤ 2 * r → ∀ t : Nat, t ≤ 2 * r → (if ((p4 >>> ((sq_max (sq_abs (dxs r t)) (sq_abs (dxs r u))) &&& 31)) &&& 1) = 1 then (1 : Int32) else 0) = ni (b2 (dk t u))) (q0 : Nat → Nat → Nat) : ∀ (e u m : Nat) (dw fw : Nat → Int64), u + e = 2 * r + 1 → e < m → CF dw fw s (rgq mx my r dk u q0) → ∃ dw' fw', fn_Frame_layRings_L1 mx my (ni r) p4 n0 (ni s) (ni s) m (dxs r u) dw fw = some (dw', fw') ∧ CF dw' fw' s (rgq mx my r dk (2 * r + 1) q0)
  | 0, u, m + 1, dw, fw, hu, _, h => by
    have huu : u = 2 * r + 1 := by omega
    subst huu
    refine ⟨dw, fw, ?_, h⟩
    rw [fn_Frame_layRings_L1_s, if_pos ((Hc _ (by omega)).mpr (by omega))]
  | e + 1, u, m + 1, dw, fw, hu, hm, h => by
    obtain ⟨dw1, fw1, e1, h1⟩ := cf_rx (mx := mx) (my := my) hs hr Hc (Hd u (by omega)) (rgq mx my r dk u q0) (2 * r + 1) 0 n0 dw fw (by omega) (by omega) h
    obtain ⟨dw', fw', g1, g2⟩ := cf_rq hn0 hs hr Hc Hd q0 e (u + 1) m dw1 fw1 (by omega) (by omega) h1
    refine ⟨dw', fw', ?_, g2⟩
    rw [fn_Frame_layRings_L1_s, if_neg (fun w => absurd ((Hc _ (by omega)).mp w) (by omega)), ← g1]
    simp only [sq_bd, sq_jn, ← dxs_0, e1, dxs_s]
theorem hc4 : ∀ t : Nat, t < 10 → ((ni 4 < dxs 4 t) ↔ 2 * 4 < t) := by decide +kernel
theorem hc2 : ∀ t : Nat, t < 10 → ((ni 2 < dxs 2 t) ↔ 2 * 2 < t) := by decide +kernel
theorem hdf : ∀ u : Nat, u ≤ 8 → ∀ t : Nat, t ≤ 8 → (if (((11 : Int32) >>> ((sq_max (sq_abs (dxs 4 t)) (sq_abs (dxs 4 u))) &&& 31)) &&& 1) = 1 then (1 : Int32) else 0) = ni (b2 (dkf t u)) := by decide +kernel
theorem hda : ∀ u : Nat, u ≤ 4 → ∀ t : Nat, t ≤ 4 → (if (((5 : Int32) >>> ((sq_max (sq_abs (dxs 2 t)) (sq_abs (dxs 2 u))) &&& 31)) &&& 1) = 1 then (1 : Int32) else 0) = ni (b2 (dka t u)) := by decide +kernel
theorem cf_f {s n0 : Nat} {dw fw : Nat → Int64} {q : Nat → Nat → Nat} (hn0 : 300 ≤ n0) (hs : s ≤ 177) (h : CF dw fw s q) (mx my : Int32) : ∃ dw' fw', fn_Frame_layRings n0 mx my 4 11 (ni s) (ni s) dw fw = some (dw', fw') ∧ CF dw' fw' s (rgq mx my 4 dkf 9 q) := by
  unfold fn_Frame_layRings
  simp only [sq_bd]
  rw [show (4 : Int32) = ni 4 from rfl, ← dxs_0]
  exact cf_rq hn0 hs (by omega) hc4 hdf q 9 0 n0 dw fw (by omega) (by omega) h
theorem cf_a {s n0 : Nat} {dw fw : Nat → Int64} {q : Nat → Nat → Nat} (hn0 : 300 ≤ n0) (hs : s ≤ 177) (h : CF dw fw s q) (mx my : Int32) : ∃ dw' fw', fn_Frame_layRings n0 mx my 2 5 (ni s) (ni s) dw fw = some (dw', fw') ∧ CF dw' fw' s (rgq mx my 2 dka 5 q) := by
  unfold fn_Frame_layRings
  simp only [sq_bd]
  rw [show (2 : Int32) = ni 2 from rfl, ← dxs_0]
  exact cf_rq hn0 hs (by omega) hc2 hda q 5 0 n0 dw fw (by omega) (by omega) h
theorem cf_t {s : Nat} (hs : s ≤ 177) (q0 : Nat → Nat → Nat) : ∀ (e i m : Nat) (dw fw : Nat → Int64), i + e = s → e < m → CF dw fw s (tmq i q0) → ∃ dw' fw', (∀ k11, fn_Frame_lay_L2 (ni s) (ni s) (ni s) k11 m (ni i) dw fw = k11 dw' fw') ∧ CF dw' fw' s (tmq s q0)
  | 0, i, m + 1, dw, fw, hi, _, h => by
    have hii : i = s := by omega
    subst hii
    refine ⟨dw, fw, fun k11 => ?_, h⟩
    rw [fn_Frame_lay_L2_s]
    simp (disch := omega) only [ni_le]
    rw [if_pos (by omega)]
  | e + 1, i, m + 1, dw, fw, hi, hm, h => by
    obtain ⟨dw1, fw1, e1, h1⟩ := cf_fix hs h (ni i) 6 (decide (i % 2 = 0))
    obtain ⟨dw2, fw2, e2, h2⟩ := cf_fix hs h1 6 (ni i) (decide (i % 2 = 0))
    obtain ⟨dw', fw', g1, g2⟩ := cf_t hs q0 e (i + 1) m dw2 fw2 (by omega) (by omega) h2
    refine ⟨dw', fw', fun k11 => ?_, g2⟩
    rw [fn_Frame_lay_L2_s, ← g1 k11]
    by_cases w : i % 2 = 0
    · rw [decide_eq_true w, show b2 true = 1 from rfl, show (6 : Int32) = ni 6 from rfl] at e1 e2
      simp (disch := omega) only [ni_lit, ni_le, ni_rem, ni_eq, ni_add, sq_bd, sq_jn, sq_cb0, sq_cb1, sq_cb2, sq_cb3, sq_cb4, sq_cb5, w, if_true, e1, e2]
      rw [if_neg (by omega)]
    · rw [decide_eq_false w, show b2 false = 0 from rfl, show (6 : Int32) = ni 6 from rfl] at e1 e2
      simp (disch := omega) only [ni_lit, ni_le, ni_rem, ni_eq, ni_add, sq_bd, sq_jn, sq_cb0, sq_cb1, sq_cb2, sq_cb3, sq_cb4, sq_cb5, if_neg w, e1, e2]
      rw [if_neg (by omega)]
theorem sd_le {v : Nat} (hv : v < 41) : sd v ≤ 177 := by unfold sd; omega
theorem al_c : ∀ v : Nat, v < 41 → ∀ k : Nat, k < 8 → 2 ≤ v ∧ k ≠ 0 ∧ k < v / 7 + 2 → (ni (sd v) - 7) - ((ni (v / 7 + 1) - ni k) * ni (stp v)) = ni (alN v k) := by decide +kernel
theorem cf_ax {v i n0 : Nat} (hn0 : 300 ≤ n0) (hv : v < 41) (hv2 : 2 ≤ v) (hi : i < v / 7 + 2) (q0 : Nat → Nat → Nat) : ∀ (e j m : Nat) (dw fw : Nat → Int64), j + e = v / 7 + 2 → e < m → CF dw fw (sd v) (alx v i j q0) → ∃ dw' fw', (∀ k11, fn_Frame_layAlignments_L2 n0 (ni (sd v)) (ni (sd v)) (ni (sd v)) (ni (v / 7 + 2)) (ni (v / 7 + 1)) (ni (stp v)) (ni i) k11 m (ni j) dw fw = k11 dw' fw') ∧ CF dw' fw' (sd v) (alx v i (v / 7 + 2) q0)
  | 0, j, m + 1, dw, fw, hj, _, h => by
    have hjj : j = v / 7 + 2 := by omega
    subst hjj
    refine ⟨dw, fw, fun k11 => ?_, h⟩
    rw [fn_Frame_layAlignments_L2_s]
    simp (disch := omega) only [ni_le]
    rw [if_pos (by omega)]
  | e + 1, j, m + 1, dw, fw, hj, hm, h => by
    have hx : ∀ k : Nat, k < v / 7 + 2 → (if k = 0 then (ni 6 : Int32) else (ni (sd v) - ni 7) - ((ni (v / 7 + 1) - ni k) * ni (stp v))) = ni (alN v k) := fun k hk => by
      by_cases w : k = 0
      · rw [if_pos w, w]; rfl
      · rw [if_neg w]; exact al_c v hv k (by omega) ⟨hv2, w, hk⟩
    have hcr : ∀ K : Int32 → Option ((Nat → Int64) × (Nat → Int64)), sq_jn K (fun k18 => sq_jn (fun (_ : Unit) => k18 (1 : Int32)) fun k33 => sq_jn (fun (_ : Unit) => sq_jn (fun (_ : Unit) => k18 (0 : Int32)) fun k35 => if ni i = ni (v / 7 + 1) then (if ni j = 0 then (k33 ()) else (k35 ())) else (k35 ())) fun k34 => if ni i = 0 then (if ni j = 0 then (k33 ()) else (if ni j = ni (v / 7 + 1) then (k33 ()) else (k34 ()))) else (k34 ())) = K (ni (b2 (crn v i j))) := fun K => by
      simp (disch := omega) only [ni_lit, ni_eq, sq_jn]
      unfold crn
      by_cases a1 : i = 0
      · by_cases a2 : j = 0
        · rw [if_pos a1, if_pos a2, decide_eq_true (by omega)]; rfl
        · by_cases a3 : j = v / 7 + 1
          · rw [if_pos a1, if_neg a2, if_pos a3, decide_eq_true (by omega)]; rfl
          · rw [if_pos a1, if_neg a2, if_neg a3, decide_eq_false (by omega)]
            by_cases a4 : i = v / 7 + 1
            · omega
            · rw [if_neg a4]; rfl
      · rw [if_neg a1]
        by_cases a4 : i = v / 7 + 1
        · by_cases a2 : j = 0
          · rw [if_pos a4, if_pos a2, decide_eq_true (by omega)]; rfl
          · rw [if_pos a4, if_neg a2, decide_eq_false (by omega)]; rfl
        · rw [if_neg a4, decide_eq_false (by omega)]; rfl
    have hst : ∀ k11, fn_Frame_layAlignments_L2 n0 (ni (sd v)) (ni (sd v)) (ni (sd v)) (ni (v / 7 + 2)) (ni (v / 7 + 1)) (ni (stp v)) (ni i) k11 (m + 1) (ni j) dw fw = if crn v i j then fn_Frame_layAlignments_L2 n0 (ni (sd v)) (ni (sd v)) (ni (sd v)) (ni (v / 7 + 2)) (ni (v / 7 + 1)) (ni (stp v)) (ni i) k11 m (ni (j + 1)) dw fw else sq_cb2 (fn_Frame_layRings n0 (ni (alN v i)) (ni (alN v j)) 2 5 (ni (sd v)) (ni (sd v)) dw fw) fun b28 b29 => fn_Frame_layAlignments_L2 n0 (ni (sd v)) (ni (sd v)) (ni (sd v)) (ni (v / 7 + 2)) (ni (v / 7 + 1)) (ni (stp v)) (ni i) k11 m (ni (j + 1)) b28 b29 := fun k11 => by
      rw [fn_Frame_layAlignments_L2_s, if_neg (by rw [ni_le (by omega) (by omega)]; omega), hcr]
      simp only [sq_bd, sq_jn]
      rw [show ni j + 1 = ni (j + 1) from by rw [show (1 : Int32) = ni 1 from rfl, ni_add]]
      by_cases w : crn v i j = true
      · rw [w, if_neg (show ¬ ni (b2 true) = 0 from by decide), if_pos rfl]
      · rw [show crn v i j = false from by simpa using w, if_pos (show ni (b2 false) = 0 from rfl), if_neg (show ¬ (false = true) from by decide)]
        have e1 := hx i hi
        have e2 := hx j (by omega)
        have z1 : (ni i = 0) = (i = 0) := by rw [← ni_0, ni_eq (by omega) (by omega)]
        have z2 : (ni j = 0) = (j = 0) := by rw [← ni_0, ni_eq (by omega) (by omega)]
        simp only [z1, z2]
        rw [show (6 : Int32) = ni 6 from rfl, show (7 : Int32) = ni 7 from rfl]
        by_cases w1 : i = 0
        · rw [if_pos w1] at e1 ⊢
          by_cases w2 : j = 0
          · rw [if_pos w2] at e2 ⊢
            rw [← e1, ← e2]
          · rw [if_neg w2] at e2 ⊢
            rw [← e1, e2]
        · rw [if_neg w1] at e1 ⊢
          by_cases w2 : j = 0
          · rw [if_pos w2] at e2 ⊢
            rw [e1, ← e2]
          · rw [if_neg w2] at e2 ⊢
            rw [e1, e2]
    have hal : alx v i (j + 1) q0 = if crn v i j then alx v i j q0 else rgq (ni (alN v i)) (ni (alN v j)) 2 dka 5 (alx v i j q0) := rfl
    by_cases w : crn v i j = true
    · rw [if_pos w] at hal
      obtain ⟨dw', fw', g1, g2⟩ := cf_ax hn0 hv hv2 hi q0 e (j + 1) m dw fw (by omega) (by omega) (by rw [hal]; exact h)
      exact ⟨dw', fw', fun k11 => by rw [hst, if_pos w, g1], g2⟩
    · rw [if_neg w] at hal
      obtain ⟨dw1, fw1, e1, h1⟩ := cf_a hn0 (sd_le hv) h (ni (alN v i)) (ni (alN v j))
      obtain ⟨dw', fw', g1, g2⟩ := cf_ax hn0 hv hv2 hi q0 e (j + 1) m dw1 fw1 (by omega) (by omega) (by rw [hal]; exact h1)
      exact ⟨dw', fw', fun k11 => by rw [hst, if_neg w, e1]; simp only [sq_cb2]; rw [g1], g2⟩
theorem cf_aq {v n0 : Nat} (hn0 : 300 ≤ n0) (hv : v < 41) (hv2 : 2 ≤ v) (q0 : Nat → Nat → Nat) : ∀ (e i m : Nat) (dw fw : Nat → Int64), i + e = v / 7 + 2 → e < m → CF dw fw (sd v) (alq v i q0) → ∃ dw' fw', fn_Frame_layAlignments_L1 n0 (ni (sd v)) (ni (sd v)) (ni (sd v)) (ni (v / 7 + 2)) (ni (v / 7 + 1)) (ni (stp v)) m (ni i) dw fw = some (dw', fw') ∧ CF dw' fw' (sd v) (alq v (v / 7 + 2) q0)
  | 0, i, m + 1, dw, fw, hi, _, h => by
    have hii : i = v / 7 + 2 := by omega
    subst hii
    refine ⟨dw, fw, ?_, h⟩
    rw [fn_Frame_layAlignments_L1_s]
    simp (disch := omega) only [ni_le]
    rw [if_pos (by omega)]
  | e + 1, i, m + 1, dw, fw, hi, hm, h => by
    obtain ⟨dw1, fw1, e1, h1⟩ := cf_ax (i := i) hn0 hv hv2 (by omega) (alq v i q0) (v / 7 + 2) 0 n0 dw fw (by omega) (by omega) h
    obtain ⟨dw', fw', g1, g2⟩ := cf_aq hn0 hv hv2 q0 e (i + 1) m dw1 fw1 (by omega) (by omega) h1
    refine ⟨dw', fw', ?_, g2⟩
    rw [fn_Frame_layAlignments_L1_s, ← g1]
    simp (disch := omega) only [ni_lit, ni_le, ni_add, sq_bd, sq_jn, sq_cb0, sq_cb1, sq_cb2, sq_cb3, sq_cb4, sq_cb5, e1]
    rw [if_neg (by omega)]
theorem wr_mono {p1 p2 p3 r : Int32} : ∀ (m k : Nat) (x2 x3 : Int32), fn_Frame_withRest_L1 p1 p2 p3 m x2 x3 = some r → fn_Frame_withRest_L1 p1 p2 p3 (m + k) x2 x3 = some r
  | 0, _, _, _, h => by cases h
  | m + 1, k, x2, x3, h => by
    rw [show m + 1 + k = (m + k) + 1 by omega, fn_Frame_withRest_L1_s]
    rw [fn_Frame_withRest_L1_s] at h
    simp only [sq_jn, sq_bd] at h ⊢
    split
    · next q => rw [if_pos q] at h; exact h
    · next q =>
      rw [if_neg q] at h
      split
      · next w => rw [if_pos w] at h; exact wr_mono m k _ _ h
      · next w => rw [if_neg w] at h; exact wr_mono m k _ _ h
theorem wr_md (p1 p2 p3 : Int32) : ∀ (m : Nat) (x2 x3 : Int32), fn_Md_shortWord_L1 p1 p2 p3 m x2 x3 = fn_Frame_withRest_L1 p1 p2 p3 m x2 x3
  | 0, _, _ => rfl
  | m + 1, x2, x3 => by
    rw [fn_Md_shortWord_L1_s, fn_Frame_withRest_L1_s]
    simp only [sq_jn, sq_bd, wr_md p1 p2 p3 m]
theorem vw_20 : ∀ v : Nat, v < 41 → fn_Frame_withRest_L1 (ni v) 12 7973 20 (ni v <<< ((12 : Int32) &&& 31)) 17 = some (ni (vwd v)) ∧ vwd v < 262144 := by decide +kernel
theorem fw_20 : ∀ k : Nat, k < 32 → fn_Frame_withRest_L1 (ni k) 10 1335 20 (ni k <<< ((10 : Int32) &&& 31)) 17 = some (ni (fwd k ^^^ 21522)) ∧ fwd k < 32768 := by decide +kernel
theorem cl_vwd {v n0 : Nat} (hn0 : 300 ≤ n0) (hv : v < 41) : fn_Frame_withRest n0 (ni v) 12 7973 = some (ni (vwd v)) ∧ fn_Md_shortWord n0 (ni v) 12 7973 = some (ni (vwd v)) := by
  have e := wr_mono 20 (n0 - 20) _ _ (vw_20 v hv).1
  rw [show 20 + (n0 - 20) = n0 by omega] at e
  constructor
  · exact e
  · unfold fn_Md_shortWord
    simp only [sq_bd]
    rw [wr_md]; exact e
theorem cl_fwd {k n0 : Nat} (hn0 : 300 ≤ n0) (hk : k < 32) : fn_Frame_formWord n0 (ni k) = some (ni (fwd k)) ∧ fn_Md_formWord n0 (ni k) = some (ni (fwd k)) := by
  have e := wr_mono 20 (n0 - 20) _ _ (fw_20 k hk).1
  rw [show 20 + (n0 - 20) = n0 by omega] at e
  have ex : ni (fwd k ^^^ 21522) ^^^ 21522 = ni (fwd k) := by
    rw [show (21522 : Int32) = ni 21522 from rfl, ni_xor, Nat.xor_assoc, x_s, x_0]
  constructor
  · unfold fn_Frame_formWord fn_Frame_withRest
    simp only [sq_bd]
    rw [e]
    simp only [sq_cb1, ex]
  · unfold fn_Md_formWord fn_Md_shortWord
    simp only [sq_bd]
    rw [wr_md, e]
    simp only [sq_cb1, ex]
theorem cl_fX {c i s : Nat} (hc : c < 2) (hi : i < 15) (hs : 21 ≤ s) (hs2 : s ≤ 177) : fn_Frame_formX (ni c) (ni i) (ni s) = some (ni (fX c i s)) ∧ fn_Md_formX (ni i) (ni c) (ni s) = some (ni (fX c i s)) := by
  unfold fn_Frame_formX fn_Md_formX fX
  simp (disch := omega) only [ni_lit, ni_eq, ni_lt, ni_le, ni_sub]
  constructor
  · by_cases h : c = 1
    · rw [if_pos h, if_pos h]
      by_cases w : i ≤ 7
      · rw [if_neg (by omega), if_pos w]
      · rw [if_pos (by omega), if_neg w]
    · rw [if_neg h, if_neg h]
      by_cases w : i ≤ 7
      · rw [if_neg (by omega), if_pos w]
      · rw [if_pos (by omega), if_neg w]
        by_cases z : i = 8
        · rw [if_pos z, if_pos z]
        · rw [if_neg z, if_neg z]
  · by_cases h : c = 1
    · rw [if_neg (by omega), if_pos h]
      by_cases w : i ≤ 7
      · rw [if_neg (by omega), if_pos w]
      · rw [if_pos (by omega), if_neg w]
    · rw [if_pos (by omega), if_neg h]
      by_cases w : i ≤ 7
      · rw [if_neg (by omega), if_pos w]
      · rw [if_pos (by omega), if_neg w]
        by_cases z : i = 8
        · rw [if_pos z, if_pos z]
        · rw [if_neg z, if_neg z]
theorem cl_fY {c i s : Nat} (hc : c < 2) (hi : i < 15) (hs : 21 ≤ s) (hs2 : s ≤ 177) : fn_Frame_formY (ni c) (ni i) (ni s) = some (ni (fY c i s)) ∧ fn_Md_formY (ni i) (ni c) (ni s) = some (ni (fY c i s)) := by
  unfold fn_Frame_formY fn_Md_formY fY
  simp (disch := omega) only [ni_lit, ni_eq, ni_lt, ni_le, ni_sub, ni_add]
  constructor
  · by_cases h : c = 1
    · rw [if_pos h, if_pos h]
      by_cases w : i ≤ 7
      · rw [if_neg (by omega), if_pos w]
      · rw [if_pos (by omega), if_neg w]
    · rw [if_neg h, if_neg h]
      by_cases w : i ≤ 5
      · rw [if_neg (by omega), if_pos w]
      · rw [if_pos (by omega), if_neg w]
        by_cases z : i = 6
        · rw [if_pos z, if_pos z]
        · rw [if_neg z, if_neg z]
  · by_cases h : c = 1
    · rw [if_neg (by omega), if_pos h]
      by_cases w : i ≤ 7
      · rw [if_neg (by omega), if_pos w]
      · rw [if_pos (by omega), if_neg w]
    · rw [if_pos (by omega), if_neg h]
      by_cases w : i ≤ 5
      · rw [if_neg (by omega), if_pos w]
      · rw [if_pos (by omega), if_neg w]
        by_cases z : i = 6
        · rw [if_pos z, if_neg (by omega), z]
        · rw [if_neg z]
          by_cases z2 : i = 7
          · rw [if_neg (by omega), z2]
          · rw [if_pos (by omega)]
theorem cf_fo {s : Nat} (hs : 21 ≤ s) (hs2 : s ≤ 177) (q0 : Nat → Nat → Nat) : ∀ (e i m : Nat) (dw fw : Nat → Int64), i + e = 15 → e < m → CF dw fw s (foq s (fun _ => false) i q0) → ∃ dw' fw', (∀ k29, fn_Frame_lay_L1 (ni s) (ni s) (ni s) k29 m (ni i) dw fw = k29 dw' fw') ∧ CF dw' fw' s (foq s (fun _ => false) 15 q0)
  | 0, i, m + 1, dw, fw, hi, _, h => by
    have hii : i = 15 := by omega
    subst hii
    refine ⟨dw, fw, fun k29 => ?_, h⟩
    rw [fn_Frame_lay_L1_s, if_pos (by decide)]
  | e + 1, i, m + 1, dw, fw, hi, hm, h => by
    obtain ⟨dw1, fw1, e1, h1⟩ := cf_fix hs2 h (ni (fX 0 i s)) (ni (fY 0 i s)) false
    obtain ⟨dw2, fw2, e2, h2⟩ := cf_fix hs2 h1 (ni (fX 1 i s)) (ni (fY 1 i s)) false
    obtain ⟨dw', fw', g1, g2⟩ := cf_fo hs hs2 q0 e (i + 1) m dw2 fw2 (by omega) (by omega) h2
    refine ⟨dw', fw', fun k29 => ?_, g2⟩
    rw [show b2 false = 0 from rfl] at e1 e2
    rw [fn_Frame_lay_L1_s, ← g1 k29]
    simp (disch := omega) only [ni_lit, ni_le, ni_add, sq_bd, sq_jn, sq_cb0, sq_cb1, sq_cb2, sq_cb3, sq_cb4, sq_cb5, (cl_fX (c := 0) (i := i) (s := s) (by omega) (by omega) hs hs2).1, (cl_fY (c := 0) (i := i) (s := s) (by omega) (by omega) hs hs2).1, (cl_fX (c := 1) (i := i) (s := s) (by omega) (by omega) hs hs2).1, (cl_fY (c := 1) (i := i) (s := s) (by omega) (by omega) hs hs2).1, e1, e2]
    rw [if_neg (by omega)]
theorem tb_b2 (w i : Nat) : (if w >>> i &&& 1 = 1 then 1 else 0) = b2 (w.testBit i) := by
  rw [Nat.testBit, Nat.and_comm 1]
  have : w >>> i &&& 1 < 2 := by rw [Nat.and_one_is_mod]; omega
  by_cases q : w >>> i &&& 1 = 1
  · rw [if_pos q, q]; rfl
  · rw [if_neg q, show w >>> i &&& 1 = 0 by omega]; rfl
theorem cf_ve {s w : Nat} (hs : 21 ≤ s) (hs2 : s ≤ 177) (hw : w < 2147483648) (q0 : Nat → Nat → Nat) : ∀ (e i m : Nat) (dw fw : Nat → Int64), i + e = 18 → e < m → CF dw fw s (veq s (fun i => w.testBit i) i q0) → ∃ dw' fw', fn_Frame_layVersion_L1 (ni s) (ni s) (ni s) (ni w) m (ni i) dw fw = some (dw', fw') ∧ CF dw' fw' s (veq s (fun i => w.testBit i) 18 q0)
  | 0, i, m + 1, dw, fw, hi, _, h => by
    have hii : i = 18 := by omega
    subst hii
    refine ⟨dw, fw, ?_, h⟩
    rw [fn_Frame_layVersion_L1_s, if_pos (by decide)]
  | e + 1, i, m + 1, dw, fw, hi, hm, h => by
    obtain ⟨dw1, fw1, e1, h1⟩ := cf_fix hs2 h (ni (s - 11 + i % 3)) (ni (i / 3)) (w.testBit i)
    obtain ⟨dw2, fw2, e2, h2⟩ := cf_fix hs2 h1 (ni (i / 3)) (ni (s - 11 + i % 3)) (w.testBit i)
    obtain ⟨dw', fw', g1, g2⟩ := cf_ve hs hs2 hw q0 e (i + 1) m dw2 fw2 (by omega) (by omega) h2
    refine ⟨dw', fw', ?_, g2⟩
    have han : i &&& 31 = i := by rw [show (31 : Nat) = 2 ^ 5 - 1 from rfl, an_p, Nat.mod_eq_of_lt (by omega)]
    have hlt : w >>> i &&& 1 < 2 := by rw [Nat.and_one_is_mod]; omega
    rw [← tb_b2] at e1 e2
    rw [fn_Frame_layVersion_L1_s, ← g1]
    by_cases z : w >>> i &&& 1 = 1
    · rw [if_pos z] at e1 e2
      simp (disch := omega) only [ni_lit, ni_add, ni_mul, ni_sub, ni_lt, ni_le, ni_ix, ni_eq, ni_div, ni_rem, ni_and, ni_or, ni_xor, ni_shl, ni_shr, ni_gi, ni_gz, ni_max, ni_min, ni_dc, ni_0a, ni_ml, ni_mle, Nat.reduceAnd, Nat.reduceAdd, Nat.reduceMul, Nat.reduceSub, Nat.reduceDiv, Nat.reduceMod, Nat.reduceXor, Nat.reduceShiftLeft, Nat.reduceShiftRight, sq_bd, sq_jn, sq_cb0, sq_cb1, sq_cb2, sq_cb3, sq_cb4, sq_cb5, han, z, if_true, e1, e2]
      rw [if_neg (by omega)]
    · rw [if_neg z] at e1 e2
      simp (disch := omega) only [ni_lit, ni_add, ni_mul, ni_sub, ni_lt, ni_le, ni_ix, ni_eq, ni_div, ni_rem, ni_and, ni_or, ni_xor, ni_shl, ni_shr, ni_gi, ni_gz, ni_max, ni_min, ni_dc, ni_0a, ni_ml, ni_mle, Nat.reduceAnd, Nat.reduceAdd, Nat.reduceMul, Nat.reduceSub, Nat.reduceDiv, Nat.reduceMod, Nat.reduceXor, Nat.reduceShiftLeft, Nat.reduceShiftRight, sq_bd, sq_jn, sq_cb0, sq_cb1, sq_cb2, sq_cb3, sq_cb4, sq_cb5, han, if_neg z, e1, e2]
      rw [if_neg (by omega)]
theorem fl0 {v : Int64} {len : Nat} (hl : len < 2147483648) : ∀ (d x m : Nat) (b : Nat → Int64), x + d = len → d < m → (∀ i : Nat, i < x → b i = v) → ∃ b', fn_JArrays_fill0_L1 v len (ni len) m (ni x) b = some b' ∧ ∀ i : Nat, i < len → b' i = v
  | 0, x, m + 1, b, hx, _, h => by
    have hxn : x = len := by omega
    subst hxn
    refine ⟨b, ?_, h⟩
    rw [fn_JArrays_fill0_L1_s]
    simp (disch := omega) only [ni_lit, ni_add, ni_mul, ni_sub, ni_lt, ni_le, ni_ix, ni_eq, ni_div, ni_rem, ni_and, ni_or, ni_xor, ni_shl, ni_shr, ni_gi, ni_gz, ni_max, ni_min, ni_dc, ni_0a, ni_ml, ni_mle, Nat.reduceAnd, Nat.reduceAdd, Nat.reduceMul, Nat.reduceSub, Nat.reduceDiv, Nat.reduceMod, Nat.reduceXor, Nat.reduceShiftLeft, Nat.reduceShiftRight]
    rw [if_pos (by omega)]
  | d + 1, x, m + 1, b, hx, hm, h => by
    obtain ⟨b', h1, h2⟩ := fl0 hl d (x + 1) m (vp_updL b x v) (by omega) (by omega) (fun i hi => by
      rw [updL_a]
      by_cases q : i = x
      · rw [if_pos q]
      · rw [if_neg q]; exact h i (by omega))
    refine ⟨b', ?_, h2⟩
    rw [fn_JArrays_fill0_L1_s, ← h1]
    simp (disch := omega) only [ni_lit, ni_add, ni_mul, ni_sub, ni_lt, ni_le, ni_ix, ni_eq, ni_div, ni_rem, ni_and, ni_or, ni_xor, ni_shl, ni_shr, ni_gi, ni_gz, ni_max, ni_min, ni_dc, ni_0a, ni_ml, ni_mle, Nat.reduceAnd, Nat.reduceAdd, Nat.reduceMul, Nat.reduceSub, Nat.reduceDiv, Nat.reduceMod, Nat.reduceXor, Nat.reduceShiftLeft, Nat.reduceShiftRight, sq_bd, sq_jn, sq_cb0, sq_cb1, sq_cb2, sq_cb3, sq_cb4, sq_cb5]
    rw [if_neg (by omega)]
theorem fill0 {v : Int64} {len n0 : Nat} (hl : len < 2147483648) (hn : len < n0) (b : Nat → Int64) : ∃ b', fn_JArrays_fill0 n0 v len b = some b' ∧ ∀ i : Nat, i < len → b' i = v := fl0 hl len 0 n0 b (by omega) (by omega) (fun i hi => absurd hi (by omega))
theorem gr_clear {s n0 : Nat} {x : Int32} {w : Nat → Int64} (hn0 : 4000 ≤ n0) (hs : s ≤ 177) : ∃ w', fn_Grid_clear n0 (ni s) x w = some (ni s, w') ∧ GR w' s (fun _ _ => false) := by
  obtain ⟨w', e, h⟩ := fill0 (v := 0) (len := 531) (n0 := n0) (by omega) (by omega) w
  refine ⟨w', ?_, fun y hy x hx => ?_⟩
  · unfold fn_Grid_clear
    rw [e]
    simp (disch := omega) only [ni_lit, ni_add, ni_mul, ni_sub, ni_lt, ni_le, ni_ix, ni_eq, ni_div, ni_rem, ni_and, ni_or, ni_xor, ni_shl, ni_shr, ni_gi, ni_gz, ni_max, ni_min, ni_dc, ni_0a, ni_ml, ni_mle, Nat.reduceAnd, Nat.reduceAdd, Nat.reduceMul, Nat.reduceSub, Nat.reduceDiv, Nat.reduceMod, Nat.reduceXor, Nat.reduceShiftLeft, Nat.reduceShiftRight, sq_bd, sq_jn, sq_cb0, sq_cb1, sq_cb2, sq_cb3, sq_cb4, sq_cb5, show max 0 (min s 177) = s by omega]
  · rw [h _ (by omega), bt_0, Bool.and_false]
theorem al_st : ∀ v : Nat, v < 41 → 2 ≤ v ∧ v ≠ 32 → (4 * v + 2 * (v / 7 + 2) + 1) / max 1 (2 * (v / 7 + 1)) * 2 = stp v := by decide +kernel
theorem cf_al {v n0 : Nat} {dw fw : Nat → Int64} {q : Nat → Nat → Nat} (hn0 : 300 ≤ n0) (hv : v < 41) (hv2 : 2 ≤ v) (h : CF dw fw (sd v) q) : ∃ dw' fw', fn_Frame_layAlignments n0 (ni v) (ni (sd v)) (ni (sd v)) (ni (sd v)) dw fw = some (dw', fw') ∧ CF dw' fw' (sd v) (alq v (v / 7 + 2) q) := by
  obtain ⟨dw', fw', g1, g2⟩ := cf_aq hn0 hv hv2 q (v / 7 + 2) 0 n0 dw fw (by omega) (by omega) h
  refine ⟨dw', fw', ?_, g2⟩
  unfold fn_Frame_layAlignments
  by_cases w : v = 32
  · subst w
    simp (disch := omega) only [ni_lit, ni_add, ni_mul, ni_sub, ni_lt, ni_le, ni_ix, ni_eq, ni_div, ni_rem, ni_and, ni_or, ni_xor, ni_shl, ni_shr, ni_gi, ni_gz, ni_max, ni_min, ni_dc, ni_0a, ni_ml, ni_mle, Nat.reduceAnd, Nat.reduceAdd, Nat.reduceMul, Nat.reduceSub, Nat.reduceDiv, Nat.reduceMod, Nat.reduceXor, Nat.reduceShiftLeft, Nat.reduceShiftRight, sq_bd, sq_jn, sq_cb0, sq_cb1, sq_cb2, sq_cb3, sq_cb4, sq_cb5, if_true]
    exact g1
  · have e := al_st v hv ⟨hv2, w⟩
    simp (disch := omega) only [ni_lit, ni_add, ni_mul, ni_sub, ni_lt, ni_le, ni_ix, ni_eq, ni_div, ni_rem, ni_and, ni_or, ni_xor, ni_shl, ni_shr, ni_gi, ni_gz, ni_max, ni_min, ni_dc, ni_0a, ni_ml, ni_mle, Nat.reduceAnd, Nat.reduceAdd, Nat.reduceMul, Nat.reduceSub, Nat.reduceDiv, Nat.reduceMod, Nat.reduceXor, Nat.reduceShiftLeft, Nat.reduceShiftRight, sq_bd, sq_jn, sq_cb0, sq_cb1, sq_cb2, sq_cb3, sq_cb4, sq_cb5, if_neg w, e, show v / 7 + 2 - 1 = v / 7 + 1 by omega]
    exact g1
/-- the class's frame -/
theorem cl_frame {v n0 : Nat} {dw fw : Nat → Int64} {a1 a2 a3 : Int32} (hn0 : 4000 ≤ n0) (hv : v < 41) (hv1 : 1 ≤ v) : ∃ dw' fw', fn_Frame_lay n0 (ni v) a1 a2 a3 dw fw = some (ni (sd v), ni (sd v), ni (sd v), dw', fw') ∧ CF dw' fw' (sd v) (qC v) := by
  have hs := sd_le hv
  have hs1 : 21 ≤ sd v := by unfold sd; omega
  have hsd : fn_Version_side (ni v) = some (ni (sd v)) := by
    unfold fn_Version_side sd
    simp only [ni_lit, ni_mul, ni_add]
  obtain ⟨f0, e0, h0⟩ := gr_clear (x := a3) (w := fw) hn0 hs
  obtain ⟨d0, e0', h0'⟩ := gr_clear (x := a2) (w := dw) hn0 hs
  have hc0 : CF d0 f0 (sd v) (tmq 0 (fun _ _ => 0)) := ⟨GR_cg h0' (fun _ _ _ _ => rfl), GR_cg h0 (fun _ _ _ _ => rfl)⟩
  obtain ⟨d1, f1, e1, h1⟩ := cf_t hs (fun _ _ => 0) (sd v) 0 n0 d0 f0 (by omega) (by omega) hc0
  obtain ⟨d2, f2, e2, h2⟩ := cf_f (n0 := n0) (by omega) hs h1 3 3
  obtain ⟨d3, f3, e3, h3⟩ := cf_f (n0 := n0) (by omega) hs h2 (ni (sd v) - 4) 3
  obtain ⟨d4, f4, e4, h4⟩ := cf_f (n0 := n0) (by omega) hs h3 3 (ni (sd v) - 4)
  have h5 : ∃ d5 f5, (∀ k23 : (Nat → Int64) → (Nat → Int64) → Option (Int32 × Int32 × Int32 × (Nat → Int64) × (Nat → Int64)), (if ni v ≤ 1 then k23 d4 f4 else sq_cb2 (fn_Frame_layAlignments n0 (ni v) (ni (sd v)) (ni (sd v)) (ni (sd v)) d4 f4) fun b54 b55 => k23 b54 b55) = k23 d5 f5) ∧ CF d5 f5 (sd v) (q3 v) := by
    unfold q3
    by_cases w : v ≤ 1
    · refine ⟨d4, f4, fun k23 => ?_, ?_⟩
      · rw [if_pos (by rw [show (1 : Int32) = ni 1 from rfl, ni_le (by omega) (by omega)]; omega)]
      · rw [if_pos w]; exact h4
    · obtain ⟨d5, f5, e5, h5⟩ := cf_al (n0 := n0) (by omega) hv (by omega) h4
      refine ⟨d5, f5, fun k23 => ?_, ?_⟩
      · rw [if_neg (by rw [show (1 : Int32) = ni 1 from rfl, ni_le (by omega) (by omega)]; omega), e5]
        rfl
      · rw [if_neg w]; exact h5
  obtain ⟨d5, f5, e5, h5⟩ := h5
  obtain ⟨d6, f6, e6, h6⟩ := cf_fix hs h5 8 (ni (sd v) - 8) true
  obtain ⟨d7, f7, e7, h7⟩ := cf_fo hs1 hs _ 15 0 n0 d6 f6 (by omega) (by omega) h6
  have e1' : ∀ k11, fn_Frame_lay_L2 (ni (sd v)) (ni (sd v)) (ni (sd v)) k11 n0 0 d0 f0 = k11 d1 f1 := e1
  have e7' : ∀ k29, fn_Frame_lay_L1 (ni (sd v)) (ni (sd v)) (ni (sd v)) k29 n0 0 d6 f6 = k29 d7 f7 := e7
  have e6' : fn_Frame_fix 8 (ni (sd v) - 8) 1 (ni (sd v)) (ni (sd v)) d5 f5 = some (d6, f6) := e6
  unfold fn_Frame_lay qC
  rw [hsd]
  simp only [sq_cb1, e0, e0', sq_cb2, sq_jn, e1', e2, e3, e4]
  by_cases w : v ≤ 6
  · refine ⟨d7, f7, ?_, ?_⟩
    · refine Eq.trans (e5 _) ?_
      simp only [e6', e7']
      rw [if_pos (by rw [show (6 : Int32) = ni 6 from rfl, ni_le (by omega) (by omega)]; omega)]
    · rw [if_pos w]; exact h7
  · obtain ⟨d8, f8, e8, h8⟩ := cf_ve (w := vwd v) hs1 hs (by have := (vw_20 v hv).2; omega) _ 18 0 n0 d7 f7 (by omega) (by omega) h7
    refine ⟨d8, f8, ?_, ?_⟩
    · refine Eq.trans (e5 _) ?_
      simp only [e6', e7']
      rw [if_neg (by rw [show (6 : Int32) = ni 6 from rfl, ni_le (by omega) (by omega)]; omega)]
      unfold fn_Frame_layVersion
      rw [(cl_vwd (by omega) hv).1]
      simp only [sq_cb1]
      have e8' : fn_Frame_layVersion_L1 (ni (sd v)) (ni (sd v)) (ni (sd v)) (ni (vwd v)) n0 0 d7 f7 = some (d8, f8) := e8
      rw [e8']
    · rw [if_neg w]; exact h8
