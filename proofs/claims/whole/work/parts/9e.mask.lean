def FX (v a b : Nat) : Bool := decide (qM v a b ≠ 0)
/-- the symbol with mask k, made of the placed codewords -/
def SY (v l : Nat) (P0 : Nat → Nat → Bool) (k : Nat) : Nat → Nat → Bool := fpB (sd v) (fun i => (fwd (fno l k)).testBit i) 15 (fun a b => P0 a b ^^ (mk k a b && !FX v a b))
def PL (v T : Nat) (W : Nat → Nat) (P0 : Nat → Nat → Bool) : Prop := (∀ a b : Nat, a < sd v → b < sd v → FX v a b = true → ¬ isF (sd v) a b → P0 a b = decide (qM v a b = 2)) ∧ ∀ j : Nat, j < zN (sd v) → zE (sd v) (FX v) j = 1 → P0 (zx (sd v) j) (zy (sd v) j) = (decide (sc (zE (sd v) (FX v)) j < 8 * T) && wbit W (sc (zE (sd v) (FX v)) j))
theorem sd_h {v : Nat} : sd v = 2 * (8 + 2 * v) + 1 := by unfold sd; omega
theorem sd_ge {v : Nat} (h : 1 ≤ v) : 21 ≤ sd v := by unfold sd; omega
theorem FX_F {v a b : Nat} (hv : v < 41) (hv1 : 1 ≤ v) (ha : a < sd v) (hb : b < sd v) (h : isF (sd v) a b) : FX v a b = true := decide_eq_true ((qCM hv hv1 ha hb).2.2.1 h)
theorem FX_6 {v a b : Nat} (hv : v < 41) (hv1 : 1 ≤ v) (ha : a < sd v) (hb : b < sd v) (h : a = 6) : FX v a b = true := decide_eq_true ((qCM hv hv1 ha hb).2.2.2 h)
theorem FX_z {v a b : Nat} (hv : v < 41) (hv1 : 1 ≤ v) (ha : a < sd v) (hb : b < sd v) (h : FX v a b = false) : ∃ n : Nat, n < zN (sd v) ∧ zx (sd v) n = a ∧ zy (sd v) n = b ∧ zE (sd v) (FX v) n = 1 := by
  obtain ⟨n, h1, h2, h3⟩ := z_sur (sd_h (v := v)) ha hb (fun e => by rw [FX_6 hv hv1 ha hb e] at h; exact absurd h (by decide)) (by omega)
  refine ⟨n, h1, h2, h3, ?_⟩
  unfold zE
  rw [h2, h3, h]
  rfl
/-- off the form area -/
def OF (v : Nat) (P Q : Nat → Nat → Bool) : Prop := ∀ a b : Nat, a < sd v → b < sd v → ¬ isF (sd v) a b → P a b = Q a b
theorem fpB_eq {v : Nat} {w : Nat → Bool} {P Q : Nat → Nat → Bool} (hv : v < 41) (hv1 : 1 ≤ v) (h : OF v P Q) {a b : Nat} (ha : a < sd v) (hb : b < sd v) : fpB (sd v) w 15 P a b = fpB (sd v) w 15 Q a b := by
  by_cases q : isF (sd v) a b
  · exact fpB_F 15 q
  · exact fpB_same (h a b ha hb q) 15
theorem SY_no {v l k : Nat} {P0 : Nat → Nat → Bool} (hv : v < 41) (hv1 : 1 ≤ v) : OF v (SY v l P0 k) (fun a b => P0 a b ^^ (mk k a b && !FX v a b)) := fun a b ha hb q => fpB_no (sd_ge hv1) (sd_le hv) ha hb q 15 (Nat.le_refl _)
/-- the model lays one mask -/
theorem md_one {v l k T n0 : Nat} {fx md wd : Nat → Int32} {P0 Pm : Nat → Nat → Bool} {W : Nat → Nat} (hn0 : 400 ≤ n0) (hv : v < 41) (hv1 : 1 ≤ v) (hl : l < 4) (hk : k < 8) (hT : T ≤ 3706) (hwd : ∀ i : Nat, i < T → wd i = ni (W i) ∧ W i < 256) (hP : PL v T W P0) (hm : MG fx md (sd v) (FX v) Pm) (hi : ∀ a b : Nat, a < sd v → b < sd v → FX v a b = true → ¬ isF (sd v) a b → Pm a b = decide (qM v a b = 2)) : ∃ fx' md1 md', fn_Md_layForm n0 (ni (fno l k)) (ni (sd v)) fx md = some (fx', md1) ∧ fn_Md_goThrough n0 (ni k) 0 (ni T) (ni (sd v)) fx' md1 wd = some (md', wd) ∧ MG fx' md' (sd v) (FX v) (SY v l P0 k) := by
  obtain ⟨fx', md1, e1, g1⟩ := mg_form (n0 := n0) (by omega) (sd_ge hv1) (sd_le hv) hl hk (fun a b ha hb q => FX_F hv hv1 ha hb q) hm
  obtain ⟨md', P', e2, r2, f2, d2⟩ := md_go (fx := fx') (wd := wd) (md := md1) (T := T) (k := k) (n0 := n0) (W := W) hn0 (sd_h (v := v)) (sd_ge hv1) (sd_le hv) hk hT (fun a b ha hb => (g1 a b ha hb).2) hwd (fun a b ha hb => (g1 a b ha hb).1)
  refine ⟨fx', md1, md', e1, e2, fun a b ha hb => ⟨?_, (g1 a b ha hb).2⟩⟩
  rw [r2 a b ha hb]
  congr 2
  by_cases hF : FX v a b = true
  · rw [f2 a b ha hb (.inl hF)]
    by_cases q : isF (sd v) a b
    · exact fpB_F 15 q
    · rw [fpB_no (sd_ge hv1) (sd_le hv) ha hb q 15 (Nat.le_refl _), SY_no hv hv1 a b ha hb q, hi a b ha hb hF q]
      show _ = (P0 a b ^^ (mk k a b && !FX v a b))
      rw [hF, hP.1 a b ha hb hF q]
      simp
  · have hF := Bool.eq_false_iff.mpr hF
    obtain ⟨n, h1, h2, h3, h4⟩ := FX_z hv hv1 ha hb hF
    have q : ¬ isF (sd v) a b := fun q => by rw [FX_F hv hv1 ha hb q] at hF; exact absurd hF (by decide)
    rw [SY_no hv hv1 a b ha hb q]
    show _ = (P0 a b ^^ (mk k a b && !FX v a b))
    have p1 := d2 n h1 h4
    have p2 := hP.2 n h1 h4
    rw [h2, h3] at p1 p2
    rw [p1, p2, hF]
    simp
theorem SY_i {v l k T : Nat} {P0 : Nat → Nat → Bool} {W : Nat → Nat} (hv : v < 41) (hv1 : 1 ≤ v) (hP : PL v T W P0) : ∀ a b : Nat, a < sd v → b < sd v → FX v a b = true → ¬ isF (sd v) a b → SY v l P0 k a b = decide (qM v a b = 2) := by
  intro a b ha hb hF q
  rw [SY_no hv hv1 a b ha hb q]
  show (P0 a b ^^ (mk k a b && !FX v a b)) = _
  rw [hF, hP.1 a b ha hb hF q]
  simp
/-- the class lays one mask -/
theorem cl_dress {v l k n0 : Nat} {mr w fw : Nat → Int64} {P0 Pw : Nat → Nat → Bool} (hn0 : 400 ≤ n0) (hv : v < 41) (hv1 : 1 ≤ v) (hl : l < 4) (hk : k < 8) (hg : GR fw (sd v) (FX v)) (h : GR w (sd v) Pw) (ho : OF v Pw P0) : ∃ mr' w', fn_Sq_dress n0 (ni l) (ni k) (ni (sd v)) (ni (sd v)) (ni (sd v)) mr w fw = some (mr', w') ∧ GR w' (sd v) (SY v l P0 k) ∧ ∃ w2, fn_Frame_turnMask n0 (ni (sd v)) (ni (sd v)) w' (ni (sd v)) mr' fw = some w2 ∧ ∃ Q, GR w2 (sd v) Q ∧ OF v Q P0 := by
  obtain ⟨mr', e1, b1⟩ := cl_mask (s := sd v) (k := k) (n0 := n0) (by omega) (sd_le hv) hk mr
  obtain ⟨w1, e2, g2⟩ := cl_turnMask (n0 := n0) (by omega) (sd_le hv) hg b1 h
  obtain ⟨w', e3, g3⟩ := cl_form (n0 := n0) (by omega) (sd_ge hv1) (sd_le hv) hl hk g2
  have g4 : GR w' (sd v) (SY v l P0 k) := GR_cg g3 (fun a b ha hb => fpB_eq hv hv1 (fun a b ha hb q => by show (Pw a b ^^ _) = (P0 a b ^^ _); rw [ho a b ha hb q]) ha hb)
  obtain ⟨w2, e5, g5⟩ := cl_turnMask (n0 := n0) (by omega) (sd_le hv) hg b1 g4
  refine ⟨mr', w', ?_, g4, w2, e5, _, g5, fun a b ha hb q => ?_⟩
  · unfold fn_Sq_dress
    rw [e1, cb1_e, e2, cb1_e, e3, cb1_e]
  · show (SY v l P0 k a b ^^ _) = _
    rw [SY_no hv hv1 a b ha hb q]
    show ((P0 a b ^^ _) ^^ _) = _
    rw [Bool.xor_assoc, Bool.xor_self, Bool.xor_false]
def pn (v l : Nat) (P0 : Nat → Nat → Bool) (k : Nat) : Nat := PEN (SY v l P0 k) (sd v)
def bsm (f : Nat → Nat) : Nat → Nat
  | 0 => 0
  | n + 1 => if f (bsm f n) ≤ f (n + 1) then bsm f n else n + 1
theorem bsm_le (f : Nat → Nat) : ∀ n : Nat, bsm f n ≤ n
  | 0 => Nat.le_refl _
  | n + 1 => by
    have := bsm_le f n
    show (if f (bsm f n) ≤ f (n + 1) then bsm f n else n + 1) ≤ n + 1
    split <;> omega
theorem pn_le {v l k : Nat} {P0 : Nat → Nat → Bool} (hv : v < 41) (hv1 : 1 ≤ v) : pn v l P0 k ≤ 3000000 := PEN_le _ (by unfold sd; omega) (sd_le hv)
theorem db_l {v l n0 : Nat} {fw : Nat → Int64} {P0 : Nat → Nat → Bool} (hn0 : 600 ≤ n0) (hv : v < 41) (hv1 : 1 ≤ v) (hl : l < 4) (hg : GR fw (sd v) (FX v)) : ∀ (e k m : Nat) (mr ah w : Nat → Int64) (Pw : Nat → Nat → Bool), k + 1 + e = 8 → e + 1 < m → GR w (sd v) Pw → OF v Pw P0 → ∃ mr' ah' w' Q, (∀ k6, fn_Sq_dressBest_L1 (ni l) (-1) n0 (ni (sd v)) (ni (sd v)) (ni (sd v)) fw k6 m (ni (bsm (pn v l P0) k)) (ni (pn v l P0 (bsm (pn v l P0) k))) (ni (k + 1)) mr ah w = k6 (ni (bsm (pn v l P0) 7)) (ni (pn v l P0 (bsm (pn v l P0) 7))) mr' ah' w') ∧ GR w' (sd v) Q ∧ OF v Q P0 := by
  intro e
  induction e with
  | zero =>
    intro k m mr ah w Pw hk hm hw ho
    obtain ⟨m', rfl⟩ : ∃ m', m = m' + 1 := ⟨m - 1, by omega⟩
    refine ⟨mr, ah, w, Pw, fun k6 => ?_, hw, ho⟩
    show (if ni 8 ≤ ni (k + 1) then _ else _) = _
    rw [if_pos ((ni_le (by omega) (by omega)).mpr (by omega)), show k = 7 by omega]
  | succ e ih =>
    intro k m mr ah w Pw hk hm hw ho
    obtain ⟨m', rfl⟩ : ∃ m', m = m' + 1 := ⟨m - 1, by omega⟩
    obtain ⟨mr1, w1, e1, g1, w2, e2, Q, g2, o2⟩ := cl_dress (k := k + 1) (mr := mr) (n0 := n0) (by omega) hv hv1 hl (by omega) hg hw ho
    obtain ⟨ah1, e3⟩ := cl_pen (n0 := n0) hn0 (show 1 ≤ sd v by unfold sd; omega) (sd_le hv) g1 ah
    obtain ⟨mr', ah', w', Q', r, gq, oq⟩ := ih (k + 1) m' mr1 ah1 w2 Q (by omega) (by omega) g2 o2
    refine ⟨mr', ah', w', Q', fun k6 => ?_, gq, oq⟩
    rw [← r k6]
    show (if ni 8 ≤ ni (k + 1) then _ else _) = _
    rw [if_neg (fun z => absurd ((ni_le (by omega) (by omega)).mp z) (by omega)), if_pos rfl, e1]
    simp only [sq_cb2]
    rw [e3]
    simp only [sq_cb2, sq_jn]
    have := pn_le (l := l) (k := k + 1) (P0 := P0) hv hv1
    have := pn_le (l := l) (k := bsm (pn v l P0) k) (P0 := P0) hv hv1
    rw [show PEN (SY v l P0 (k + 1)) (sd v) = pn v l P0 (k + 1) from rfl]
    rw [show bsm (pn v l P0) (k + 1) = if pn v l P0 (bsm (pn v l P0) k) ≤ pn v l P0 (k + 1) then bsm (pn v l P0) k else k + 1 from rfl]
    by_cases q : pn v l P0 (bsm (pn v l P0) k) ≤ pn v l P0 (k + 1)
    · rw [if_pos ((ni_le (by omega) (by omega)).mpr q), if_pos q, e2, cb1_e]
      simp only [sq_bd, show (1 : Int32) = ni 1 from rfl, ni_add]
    · rw [if_neg (fun z => q ((ni_le (by omega) (by omega)).mp z)), if_neg q, e2, cb1_e]
      simp only [sq_bd, show (1 : Int32) = ni 1 from rfl, ni_add]
/-- the mask that is taken: the one that was asked for, or the best -/
def mq (p : Int32) (f : Nat → Nat) : Nat := if p = -1 then bsm f 7 else p.toNatClampNeg
theorem mq_lt {p : Int32} (f : Nat → Nat) (h : p = -1 ∨ ∃ k : Nat, k < 8 ∧ p = ni k) : mq p f < 8 := by
  unfold mq
  have := bsm_le f 7
  split
  · omega
  · rcases h with h | ⟨k, h1, rfl⟩
    · contradiction
    · rw [ni_ix (by omega)]; exact h1
theorem cl_best {v l n0 : Nat} {p : Int32} {made : Nat → Int32} {mr ah w fw : Nat → Int64} {P0 : Nat → Nat → Bool} (hn0 : 600 ≤ n0) (hv : v < 41) (hv1 : 1 ≤ v) (hl : l < 4) (hp : p = -1 ∨ ∃ k : Nat, k < 8 ∧ p = ni k) (hg : GR fw (sd v) (FX v)) (h : GR w (sd v) P0) : ∃ mr' ah' w', fn_Sq_dressBest n0 (ni l) p (ni (sd v)) made (ni (sd v)) (ni (sd v)) mr ah w fw = some (upd (upd made 2 (ni (mq p (pn v l P0)))) 3 (ni (pn v l P0 (mq p (pn v l P0)))), mr', ah', w') ∧ GR w' (sd v) (SY v l P0 (mq p (pn v l P0))) := by
  obtain ⟨n1, rfl⟩ : ∃ n1, n0 = n1 + 1 := ⟨n0 - 1, by omega⟩
  rcases hp with rfl | ⟨k, hk, rfl⟩
  · obtain ⟨mr1, w1, e1, g1, w2, e2, Q, g2, o2⟩ := cl_dress (k := 0) (mr := mr) (n0 := n1 + 1) (P0 := P0) (by omega) hv hv1 hl (by omega) hg h (fun a b _ _ _ => rfl)
    obtain ⟨ah1, e3⟩ := cl_pen (n0 := n1 + 1) hn0 (show 1 ≤ sd v by unfold sd; omega) (sd_le hv) g1 ah
    obtain ⟨mr2, ah2, w3, Q3, r, g3, o3⟩ := db_l (n0 := n1 + 1) hn0 hv hv1 hl hg 7 0 n1 mr1 ah1 w2 Q (by omega) (by omega) g2 o2
    obtain ⟨mr4, w4, e4, g4, -⟩ := cl_dress (k := mq (-1) (pn v l P0)) (mr := mr2) (n0 := n1 + 1) (by omega) hv hv1 hl (mq_lt _ (.inl rfl)) hg g3 o3
    have hq : mq (-1) (pn v l P0) = bsm (pn v l P0) 7 := if_pos rfl
    rw [hq] at e4 g4 ⊢
    refine ⟨mr4, ah2, w4, ?_, g4⟩
    have b := pn_le (l := l) (k := 0) (P0 := P0) hv hv1
    have r' : ∀ k6, fn_Sq_dressBest_L1 (ni l) (-1) (n1 + 1) (ni (sd v)) (ni (sd v)) (ni (sd v)) fw k6 (n1 + 1) (-1) (1073741824 : Int32) 0 mr ah w = k6 (ni (bsm (pn v l P0) 7)) (ni (pn v l P0 (bsm (pn v l P0) 7))) mr2 ah2 w3 := by
      intro k6
      rw [← r k6]
      show (if ni 8 ≤ ni 0 then _ else _) = _
      rw [if_neg (fun z => absurd ((ni_le (by omega) (by omega)).mp z) (by omega)), if_pos rfl]
      rw [show fn_Sq_dress (n1 + 1) (ni l) (0 : Int32) (ni (sd v)) (ni (sd v)) (ni (sd v)) mr w fw = some (mr1, w1) from e1]
      simp only [sq_cb2]
      rw [e3]
      simp only [sq_cb2, sq_jn]
      rw [show PEN (SY v l P0 0) (sd v) = pn v l P0 0 from rfl, show (1073741824 : Int32) = ni 1073741824 from rfl, if_neg (fun z => absurd ((ni_le (by omega) (by omega)).mp z) (by omega)), e2, cb1_e]
      simp only [sq_bd, show (1 : Int32) = ni 1 from rfl, ni_add]
      rfl
    unfold fn_Sq_dressBest
    simp only [sq_jn]
    rw [r', e4]
    simp only [sq_cb2, sq_bd, if_pos, show (2 : Int32) = ni 2 from rfl, show (3 : Int32) = ni 3 from rfl]
    rw [ni_gi (by omega) (by omega), ni_gi (by omega) (by omega), ni_ix (by omega), ni_ix (by omega)]
  · have hq : mq (ni k) (pn v l P0) = k := by
      unfold mq
      rw [if_neg (by rw [ni_m1 (by omega)]; exact id), ni_ix (by omega)]
    obtain ⟨mr4, w4, e4, g4, -⟩ := cl_dress (k := k) (mr := mr) (n0 := n1 + 1) (P0 := P0) (by omega) hv hv1 hl hk hg h (fun a b _ _ _ => rfl)
    obtain ⟨ah1, e3⟩ := cl_pen (n0 := n1 + 1) hn0 (show 1 ≤ sd v by unfold sd; omega) (sd_le hv) g4 ah
    rw [hq]
    refine ⟨mr4, ah1, w4, ?_, g4⟩
    have n1' : ¬ ni k = -1 := by rw [ni_m1 (by omega)]; exact id
    have r' : ∀ k6, fn_Sq_dressBest_L1 (ni l) (ni k) (n1 + 1) (ni (sd v)) (ni (sd v)) (ni (sd v)) fw k6 (n1 + 1) (ni k) (1073741824 : Int32) 0 mr ah w = k6 (ni k) (1073741824 : Int32) mr ah w := by
      intro k6
      show (if ni 8 ≤ ni 0 then _ else _) = _
      rw [if_neg (fun z => absurd ((ni_le (by omega) (by omega)).mp z) (by omega)), if_neg n1']
    unfold fn_Sq_dressBest
    simp only [sq_jn]
    rw [r', e4]
    simp only [sq_cb2, sq_bd, show (2 : Int32) = ni 2 from rfl, show (3 : Int32) = ni 3 from rfl]
    rw [if_neg n1', e3]
    simp only [sq_cb2]
    rw [ni_gi (by omega) (by omega), ni_gi (by omega) (by omega), ni_ix (by omega), ni_ix (by omega)]
    rfl
