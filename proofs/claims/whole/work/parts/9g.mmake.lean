theorem mm_l {v l T n0 : Nat} {wd : Nat → Int32} {P0 : Nat → Nat → Bool} {W : Nat → Nat} (hn0 : 400 ≤ n0) (hv : v < 41) (hv1 : 1 ≤ v) (hl : l < 4) (hT : T ≤ 3706) (hwd : ∀ i : Nat, i < T → wd i = ni (W i) ∧ W i < 256) (hP : PL v T W P0) : ∀ (e k m : Nat) (fx md : Nat → Int32) (Pm : Nat → Nat → Bool), k + 1 + e = 8 → e + 1 < m → MG fx md (sd v) (FX v) Pm → (∀ a b : Nat, a < sd v → b < sd v → FX v a b = true → ¬ isF (sd v) a b → Pm a b = decide (qM v a b = 2)) → ∃ fx' md' Q, (∀ k31, fn_Md_make_L1 (ni l) (-1) n0 (ni (sd v)) (ni T) k31 m (ni (bsm (pn v l P0) k)) (ni (pn v l P0 (bsm (pn v l P0) k))) (ni (k + 1)) fx md wd = k31 (ni (bsm (pn v l P0) 7)) (ni (pn v l P0 (bsm (pn v l P0) 7))) fx' md' wd) ∧ MG fx' md' (sd v) (FX v) Q ∧ ∀ a b : Nat, a < sd v → b < sd v → FX v a b = true → ¬ isF (sd v) a b → Q a b = decide (qM v a b = 2) := by
  intro e
  induction e with
  | zero =>
    intro k m fx md Pm hk hm hw ho
    obtain ⟨m', rfl⟩ : ∃ m', m = m' + 1 := ⟨m - 1, by omega⟩
    refine ⟨fx, md, Pm, fun k31 => ?_, hw, ho⟩
    show (if ni 8 ≤ ni (k + 1) then _ else _) = _
    rw [if_pos ((ni_le (by omega) (by omega)).mpr (by omega)), show k = 7 by omega]
  | succ e ih =>
    intro k m fx md Pm hk hm hw ho
    obtain ⟨m', rfl⟩ : ∃ m', m = m' + 1 := ⟨m - 1, by omega⟩
    obtain ⟨fx1, md1, md2, e1, e2, g2⟩ := md_one (k := k + 1) (n0 := n0) hn0 hv hv1 hl (by omega) hT hwd hP hw ho
    have e3 := md_penalty (n0 := n0) (md := md2) (by omega) (show 1 ≤ sd v by unfold sd; omega) (sd_le hv) (fun a b ha hb => (g2 a b ha hb).1)
    obtain ⟨fx', md', Q', r, gq, oq⟩ := ih (k + 1) m' fx1 md2 _ (by omega) (by omega) g2 (SY_i hv hv1 hP)
    refine ⟨fx', md', Q', fun k31 => ?_, gq, oq⟩
    rw [← r k31]
    show (if ni 8 ≤ ni (k + 1) then _ else _) = _
    rw [if_neg (fun z => absurd ((ni_le (by omega) (by omega)).mp z) (by omega))]
    simp only [sq_jn]
    rw [if_pos (show (-1 : Int32) < 0 by decide), (fno_lt l hl (k + 1) (by omega)).2, cb1_e, e1]
    simp only [sq_cb2]
    rw [e2]
    simp only [sq_cb2]
    rw [e3, cb1_e]
    have := pn_le (l := l) (k := k + 1) (P0 := P0) hv hv1
    have := pn_le (l := l) (k := bsm (pn v l P0) k) (P0 := P0) hv hv1
    rw [show PEN (SY v l P0 (k + 1)) (sd v) = pn v l P0 (k + 1) from rfl]
    rw [show bsm (pn v l P0) (k + 1) = if pn v l P0 (bsm (pn v l P0) k) ≤ pn v l P0 (k + 1) then bsm (pn v l P0) k else k + 1 from rfl]
    rw [if_neg (by rw [ni_nn (by omega)]; exact id)]
    by_cases q : pn v l P0 (bsm (pn v l P0) k) ≤ pn v l P0 (k + 1)
    · rw [if_pos ((ni_le (by omega) (by omega)).mpr q), if_pos q]
      simp only [sq_bd, show (1 : Int32) = ni 1 from rfl, ni_add]
    · rw [if_neg (fun z => q ((ni_le (by omega) (by omega)).mp z)), if_neg q]
      simp only [sq_bd, show (1 : Int32) = ni 1 from rfl, ni_add]
/-- the masks, when one is asked for: those that are passed over -/
theorem mm_s {l k0 n0 : Nat} {s T : Int32} {wd fx md : Nat → Int32} {b p : Int32} (hk0 : k0 < 8) : ∀ (e k m : Nat), k + e ≤ 8 → (∀ j : Nat, k ≤ j → j < k + e → j ≠ k0) → ∀ k31, fn_Md_make_L1 (ni l) (ni k0) n0 s T k31 (m + e) b p (ni k) fx md wd = fn_Md_make_L1 (ni l) (ni k0) n0 s T k31 m b p (ni (k + e)) fx md wd
  | 0, k, m, _, _, _ => rfl
  | e + 1, k, m, h1, h2, k31 => by
    rw [show k + (e + 1) = k + 1 + e by omega, ← mm_s hk0 e (k + 1) m (by omega) (fun j h3 h4 => h2 j (by omega) (by omega)) k31]
    show (if ni 8 ≤ ni k then _ else _) = _
    rw [if_neg (fun z => absurd ((ni_le (by omega) (by omega)).mp z) (by omega))]
    simp only [sq_jn]
    rw [if_neg (by rw [ni_nn (by omega)]; exact id), if_neg (by rw [ni_eq (by omega) (by omega)]; exact fun z => h2 k (by omega) (by omega) z.symm)]
    simp only [sq_bd, show (1 : Int32) = ni 1 from rfl, ni_add]
    rfl
theorem mm_masks {v l T n0 : Nat} {p : Int32} {wd fx md : Nat → Int32} {P0 Pm : Nat → Nat → Bool} {W : Nat → Nat} (hn0 : 600 ≤ n0) (hv : v < 41) (hv1 : 1 ≤ v) (hl : l < 4) (hT : T ≤ 3706) (hwd : ∀ i : Nat, i < T → wd i = ni (W i) ∧ W i < 256) (hP : PL v T W P0) (hp : p = -1 ∨ ∃ k : Nat, k < 8 ∧ p = ni k) (hm : MG fx md (sd v) (FX v) Pm) (hi : ∀ a b : Nat, a < sd v → b < sd v → FX v a b = true → ¬ isF (sd v) a b → Pm a b = decide (qM v a b = 2)) : ∃ fx' md' Q, (∀ k31, fn_Md_make_L1 (ni l) p n0 (ni (sd v)) (ni T) k31 n0 p (-1) 0 fx md wd = k31 (ni (mq p (pn v l P0))) (ni (pn v l P0 (mq p (pn v l P0)))) fx' md' wd) ∧ MG fx' md' (sd v) (FX v) Q ∧ ∀ a b : Nat, a < sd v → b < sd v → FX v a b = true → ¬ isF (sd v) a b → Q a b = decide (qM v a b = 2) := by
  rcases hp with rfl | ⟨k, hk, rfl⟩
  · obtain ⟨n1, hn1⟩ : ∃ n1, n0 = n1 + 1 := ⟨n0 - 1, by omega⟩
    obtain ⟨fx1, md1, md2, e1, e2, g2⟩ := md_one (k := 0) (n0 := n0) (by omega) hv hv1 hl (by omega) hT hwd hP hm hi
    have e3 := md_penalty (n0 := n0) (md := md2) (by omega) (show 1 ≤ sd v by unfold sd; omega) (sd_le hv) (fun a b ha hb => (g2 a b ha hb).1)
    obtain ⟨fx', md', Q', r, gq, oq⟩ := mm_l (n0 := n0) (by omega) hv hv1 hl hT hwd hP 7 0 n1 fx1 md2 _ (by omega) (by omega) g2 (SY_i hv hv1 hP)
    have hq : mq (-1) (pn v l P0) = bsm (pn v l P0) 7 := if_pos rfl
    rw [hq]
    refine ⟨fx', md', Q', fun k31 => ?_, gq, oq⟩
    rw [← r k31]
    conv => lhs; arg 7; rw [hn1]
    show (if ni 8 ≤ ni 0 then _ else _) = _
    rw [if_neg (fun z => absurd ((ni_le (by omega) (by omega)).mp z) (by omega))]
    simp only [sq_jn]
    rw [if_pos (show (-1 : Int32) < 0 by decide), show fn_Md_formNumber (ni l) (0 : Int32) = _ from (fno_lt l hl 0 (by omega)).2, cb1_e, e1]
    simp only [sq_cb2]
    rw [show fn_Md_goThrough n0 (0 : Int32) 0 (ni T) (ni (sd v)) fx1 md1 wd = some (md2, wd) from e2]
    simp only [sq_cb2]
    rw [e3, cb1_e, if_pos (show (-1 : Int32) < 0 by decide)]
    simp only [sq_bd]
    rfl
  · have hq : mq (ni k) (pn v l P0) = k := by
      unfold mq
      rw [if_neg (by rw [ni_m1 (by omega)]; exact id), ni_ix (by omega)]
    obtain ⟨fx1, md1, md2, e1, e2, g2⟩ := md_one (k := k) (n0 := n0) (by omega) hv hv1 hl hk hT hwd hP hm hi
    have e3 := md_penalty (n0 := n0) (md := md2) (by omega) (show 1 ≤ sd v by unfold sd; omega) (sd_le hv) (fun a b ha hb => (g2 a b ha hb).1)
    rw [hq]
    refine ⟨fx1, md2, _, fun k31 => ?_, g2, SY_i hv hv1 hP⟩
    have s1 := mm_s (l := l) (n0 := n0) (s := ni (sd v)) (T := ni T) (wd := wd) (fx := fx) (md := md) (b := ni k) (p := -1) hk k 0 (n0 - k) (by omega) (fun j h1 h2 => by omega) k31
    have s2 := mm_s (l := l) (n0 := n0) (s := ni (sd v)) (T := ni T) (wd := wd) (fx := fx1) (md := md2) (b := ni k) (p := ni (pn v l P0 k)) hk (8 - (k + 1)) (k + 1) (n0 - 8) (by omega) (fun j h1 h2 => by omega) k31
    rw [show n0 - k + k = n0 by omega, Nat.zero_add] at s1
    rw [show n0 - 8 + (8 - (k + 1)) = n0 - k - 1 by omega, show k + 1 + (8 - (k + 1)) = 8 by omega] at s2
    rw [show (0 : Int32) = ni 0 from rfl, s1]
    obtain ⟨n1, hn1⟩ : ∃ n1, n0 - k = n1 + 1 := ⟨n0 - k - 1, by omega⟩
    obtain ⟨n2, hn2⟩ : ∃ n2, n0 - 8 = n2 + 1 := ⟨n0 - 8 - 1, by omega⟩
    rw [show n0 - k - 1 = n1 by omega, hn2] at s2
    have s3 : fn_Md_make_L1 (ni l) (ni k) n0 (ni (sd v)) (ni T) k31 (n2 + 1) (ni k) (ni (pn v l P0 k)) (ni 8) fx1 md2 wd = k31 (ni k) (ni (pn v l P0 k)) fx1 md2 wd := by
      show (if ni 8 ≤ ni 8 then _ else _) = _
      rw [if_pos ((ni_le (by omega) (by omega)).mpr (by omega))]
    rw [hn1, ← s3, ← s2]
    show (if ni 8 ≤ ni k then _ else _) = _
    rw [if_neg (fun z => absurd ((ni_le (by omega) (by omega)).mp z) (by omega))]
    simp only [sq_jn]
    rw [if_neg (by rw [ni_nn (by omega)]; exact id), if_pos trivial, (fno_lt l hl k hk).2, cb1_e, e1]
    simp only [sq_cb2]
    rw [e2]
    simp only [sq_cb2]
    rw [e3, cb1_e, if_pos (show (-1 : Int32) < 0 by decide)]
    simp only [sq_bd, show (1 : Int32) = ni 1 from rfl, ni_add]
    rfl
def sVn (r : Nat) (d : Nat → Nat) (len K : Nat) (sl so : Nat → Int32) : Prop := ∀ i : Nat, i < K → sl i = ni (spn r d len (i + 1) - spn r d len i) ∧ so i = ni (ch r d len (spn r d len i))
def WI (wd : Nat → Int32) : Prop := ∀ i : Nat, i < 3800 → ∃ n : Nat, n < 256 ∧ wd i = ni n
theorem md_make {mb mc dt blk by0 fx gen mds mod sl so tk tl wd : Nat → Int32} {d : Nat → Nat} {l wish len n0 : Nat} {p th ver side mde segs bits fil : Int32} (T : MT mb mc) (hn0 : 40000 ≤ n0) (hl4 : l < 4) (hw : wish < 41) (hp : p = -1 ∨ ∃ k : Nat, k < 8 ∧ p = ni k) (hl : len ≤ 3000) (hd : ∀ i : Nat, i < len → dt i = ni (d i) ∧ d i < 256) : (∃ u K : Nat, lv l d len (if wish = 0 then 1 else wish) (if wish = 0 then 40 else wish) u ∧ spn (rk u) d len K = len ∧ (∀ k : Nat, k < K → spn (rk u) d len k < len) ∧ ∀ (W : Nat → Nat) (P0 : Nat → Nat → Bool), WQ l u (Dw l u d len K) W → PL u (acw u) W P0 → ∃ fil' blk' by' fx' gen' mds' mod' sl' so' tk' wd', fn_Md_make n0 (ni l) (ni wish) p th (ni len) ver side mde segs bits fil blk mb by0 mc dt fx gen mds mod sl so tk tl wd = some (ni u, 0, ni u, ni (sd u), 1, ni K, ni (gG (rk u) d len len 6), fil', blk', by', fx', gen', mds', mod', sl', so', tk', upd (upd (upd (upd (upd (upd tl 0 (ni u)) 1 (ni l)) 2 (ni (mq p (pn u l P0)))) 3 (ni (pn u l P0 (mq p (pn u l P0))))) 4 (ni K)) 5 (ni (gG (rk u) d len len 6)), wd') ∧ MG fx' mod' (sd u) (FX u) (SY u l P0 (mq p (pn u l P0))) ∧ sVn (rk u) d len K sl' so' ∧ (WI wd → WI wd')) ∨ ((∀ w : Nat, (if wish = 0 then 1 else wish) ≤ w → w ≤ (if wish = 0 then 40 else wish) → ¬ okv l w d len) ∧ ∃ bits' mds' tk', fn_Md_make n0 (ni l) (ni wish) p th (ni len) ver side mde segs bits fil blk mb by0 mc dt fx gen mds mod sl so tk tl wd = some (-1, 0, ver, side, mde, segs, bits', fil, blk, by0, fx, gen, mds', mod, sl, so, tk', tl, wd)) := by
  obtain ⟨r, bits', md', tt', e1, h1⟩ := md_version (md := mds) (tt := tk) (bits := bits) (n0 := n0) T (by omega) hl4 hw hl hd
  have gate : ∀ (K : Int32 → Option (Int32 × Int32 × Int32 × Int32 × Int32 × Int32 × Int32 × Int32 × (Nat → Int32) × (Nat → Int32) × (Nat → Int32) × (Nat → Int32) × (Nat → Int32) × (Nat → Int32) × (Nat → Int32) × (Nat → Int32) × (Nat → Int32) × (Nat → Int32) × (Nat → Int32))), sq_jn K (fun k2 => sq_jn (fun (_ : Unit) => k2 (1 : Int32)) fun k82 => if ni l < 0 then (k82 ()) else (if (3 : Int32) < ni l then (k82 ()) else (if ni wish < 0 then (k82 ()) else (if (40 : Int32) < ni wish then (k82 ()) else (if p < (-1 : Int32) then (k82 ()) else (if p ≤ (7 : Int32) then (k2 (0 : Int32)) else (k82 ()))))))) = K 0 := by
    intro K
    simp only [sq_jn]
    rw [if_neg (by rw [ni_nn (by omega)]; exact id), if_neg (show ¬ (3 : Int32) < ni l from fun z => absurd ((ni_lt (a := 3) (by omega) (by omega)).mp z) (by omega)), if_neg (by rw [ni_nn (by omega)]; exact id), if_neg (show ¬ (40 : Int32) < ni wish from fun z => absurd ((ni_lt (a := 40) (by omega) (by omega)).mp z) (by omega))]
    rcases hp with rfl | ⟨k, hk, rfl⟩
    · rfl
    · have : ¬ ni k < -1 := fun z => by
        have := lt_I.mp z
        rw [ni_toI (by omega), show (-1 : Int32).toInt = -1 from rfl] at this
        omega
      rw [if_neg this, if_pos (show ni k ≤ (7 : Int32) from (ni_le (b := 7) (by omega) (by omega)).mpr (by omega))]
  rcases h1 with ⟨u, rfl, hu, rfl, hm⟩ | ⟨rfl, hno⟩
  · obtain ⟨v1, v2, hok, -⟩ := id hu
    have hv1 : 1 ≤ u := by revert v1; split <;> omega
    have hv : u < 41 := by revert v2; split <;> omega
    obtain ⟨z1, z2, z3, z4, z5, z6, -⟩ := vr_nu l hl4 u hv hv1
    obtain ⟨K, hK, hKl⟩ := spn_K (rk u) d len
    refine .inl ⟨u, K, hu, hK, hKl, fun W P0 hW hP => ?_⟩
    obtain ⟨fil', b', sl', so', e2, h2, s2⟩ := md_layAll (b := by0) (sl := sl) (so := so) (a1 := segs) (a2 := fil) (n0 := n0) T (by omega) hl4 hv hv1 hl hd hm hok hK hKl
    obtain ⟨blk', gen', wd', e3, h3w, h3⟩ := md_check (blk := blk) (gen := gen) (wd := wd) (D := Dw l u d len K) (n0 := n0) T (by omega) hl4 hv hv1 (fun p hp => ⟨h2 p hp, fB_lt _ _ _ _⟩)
    obtain ⟨fx1, md1, e4, g4⟩ := md_frame (fx := fx) (md := mod) (a1 := side) (n0 := n0) hn0 hv hv1
    have hwd : ∀ i : Nat, i < acw u → wd' i = ni (W i) ∧ W i < 256 := fun i hi => by
      obtain ⟨c, j, q1, q2, q3⟩ := pof_all (k := i) (vn_ok hl4 hv hv1) (by omega)
      refine ⟨?_, hW.2 i hi⟩
      rw [← q3, h3 c j q1 q2, hW.1 c j q1 q2]
    have hmq := mq_lt (pn u l P0) hp
    obtain ⟨fx2, md2, Q, e5, g5, i5⟩ := mm_masks (n0 := n0) (p := p) (by omega) hv hv1 hl4 z5 hwd hP hp (Pm := fun a b => decide (qM u a b = 2)) g4 (fun _ _ _ _ _ _ => rfl)
    obtain ⟨fx3, md3, md4, e6, e7, g7⟩ := md_one (k := mq p (pn u l P0)) (n0 := n0) (by omega) hv hv1 hl4 hmq z5 hwd hP g5 i5
    refine ⟨fil', blk', b', fx3, gen', md', md4, sl', so', tt', wd', ?_, g7, s2, fun hI i hi => ?_⟩
    rotate_left
    · by_cases q : i < acw u
      · exact ⟨W i, (hwd i q).2, (hwd i q).1⟩
      · obtain ⟨n, n1, n2⟩ := hI i hi
        exact ⟨n, n1, by rw [h3w i (by omega)]; exact n2⟩
    unfold fn_Md_make
    rw [gate]
    rw [if_pos (by decide), e1]
    simp only [sq_cb4]
    rw [if_pos (by rw [← ni_0, ni_le (by omega) (by omega)]; omega), e2]
    simp only [sq_cb5]
    rw [e3]
    simp only [sq_cb3]
    rw [e4]
    simp only [sq_cb3]
    rw [(vr_cw u hv hv1).2, cb1_e, sq_jne, e5, (fno_lt l hl4 _ hmq).2, cb1_e, e6]
    simp only [sq_cb2]
    rw [e7]
    simp only [sq_cb2, sq_bd]
    rfl
  · refine .inr ⟨hno, bits', md', tt', ?_⟩
    unfold fn_Md_make
    rw [gate]
    rw [if_pos (by decide), e1]
    simp only [sq_cb4]
    rw [if_neg (by decide)]
