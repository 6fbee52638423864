/-! own rows: the class's division -/
theorem io_mono {p4 x1 : Int32} {len : Nat} {v : Nat → Int32} {r : Int32} : ∀ (m k : Nat) (x : Int32), fn_JLat_indexOfChar_p1T_L1 p4 len v x1 m x = some r → fn_JLat_indexOfChar_p1T_L1 p4 len v x1 (m + k) x = some r
  | 0, _, _, h => by cases h
  | m + 1, k, x, h => by
    rw [show m + 1 + k = (m + k) + 1 by omega, fn_JLat_indexOfChar_p1T_L1_s]
    rw [fn_JLat_indexOfChar_p1T_L1_s] at h
    split
    · next q => rw [if_pos q] at h; exact h
    · next q =>
      rw [if_neg q] at h
      unfold sq_gi at h ⊢
      split
      · next w => rw [if_pos w] at h; cases h
      · next w =>
        rw [if_neg w] at h
        simp only [sq_bd] at h ⊢
        split
        · next z => rw [if_pos z] at h; exact h
        · next z =>
          rw [if_neg z] at h
          exact io_mono m k _ h
theorem io_46 : ∀ c : Nat, c < 256 → fn_JLat_indexOfChar_p1T_L1 45 45 tv_SIGNS (sq_i2b (sq_i2c (ni c))) 46 0 = some (if sgn c < 45 then ni (sgn c) else -1) := by decide +kernel
theorem io_c : ∀ c : Nat, c < 256 → fn_JLat_canEncode (sq_i2c (ni c)) = some 1 := by decide +kernel
theorem cl_index {n0 c : Nat} (hn0 : 300 ≤ n0) (hc : c < 256) : fn_JStr_indexOf0_thisK n0 (sq_i2c (ni c)) = some (if sgn c < 45 then ni (sgn c) else -1) := by
  have e := io_mono 46 (n0 - 46) 0 (io_46 c hc)
  rw [show 46 + (n0 - 46) = n0 by omega] at e
  unfold fn_JStr_indexOf0_thisK fn_JStr_indexOf1_thisK fn_JStr_length_thisK fn_JLat_indexOf_p1T fn_JLat_indexOfChar_p1T
  rw [io_c c hc]
  simp only [sq_cb1, sq_bd]
  rw [if_neg (by decide), show sq_max (0 : Int32) 0 = 0 from by decide, show sq_min ((45 : Int32) >>> ((0 : Int32) &&& 31)) (Int32.ofNat 45) = 45 from by decide, if_pos (by decide), e]
theorem cl_least {n0 c : Nat} (hn0 : 300 ≤ n0) (hc : c < 256) : fn_Mode_least n0 (ni c) = some (ni (lst c)) := by
  unfold fn_Mode_least
  simp (disch := omega) only [ni_lit, ni_lt, sq_bd, sq_jn, sq_cb0, sq_cb1, sq_cb2, sq_cb3, sq_cb4, sq_cb5, cl_index hn0 hc]
  unfold lst
  by_cases q : 48 ≤ c ∧ c ≤ 57
  · rw [if_neg (by omega), if_neg (by omega), if_pos q]
  · rw [if_neg q]
    have hz : ¬ (ni (sgn c) < ni 0) := by
      have : sgn c < 256 := by unfold sgn; repeat' split
                               all_goals omega
      rw [ni_lt (by omega) (by omega)]; omega
    have key : (if (if sgn c < 45 then ni (sgn c) else -(ni 1)) < ni 0 then some (ni 2) else some (ni 1)) = some (ni (if sgn c < 45 then 1 else 2)) := by
      by_cases w : sgn c < 45
      · rw [if_pos w, if_pos w, if_neg hz]
      · rw [if_neg w, if_neg w, if_pos (by decide)]
    by_cases w1 : c < 48
    · rw [if_pos w1]; exact key
    · rw [if_neg w1, if_pos (by omega)]; exact key
theorem cl_number {n0 c m : Nat} (hn0 : 300 ≤ n0) (hc : c < 256) (hm : m < 3) (hl : lst c ≤ m) : fn_Mode_numberOf n0 (ni m) (ni c) = some (ni (if m = 2 then c else sgn c)) := by
  unfold fn_Mode_numberOf
  simp (disch := omega) only [ni_lit, ni_eq, sq_bd, sq_jn, sq_cb0, sq_cb1, sq_cb2, sq_cb3, sq_cb4, sq_cb5, cl_index hn0 hc]
  by_cases q : m = 2
  · rw [if_pos q, if_pos q]
  · rw [if_neg q, if_neg q]
    have : sgn c < 45 := by
      unfold lst at hl
      by_cases w : 48 ≤ c ∧ c ≤ 57
      · unfold sgn; rw [if_pos w]; omega
      · rw [if_neg w] at hl
        by_cases z : sgn c < 45
        · exact z
        · rw [if_neg z] at hl; omega
    rw [if_pos this]
def cdt (b : Nat → Int32) (len : Nat) (d : Nat → Nat) : Prop := ∀ i : Nat, i < len → b i &&& 255 = ni (d i) ∧ d i < 256
theorem cl_get {b : Nat → Int32} {len i : Nat} {d : Nat → Nat} (h : cdt b len d) (hl : len ≤ 3000) (hi : i < len) : fn_Data_get (ni i) (ni len) b = some (ni (d i)) := by
  have e := (h i hi).1
  rw [show (255 : Int32) = ni 255 from rfl] at e
  unfold fn_Data_get
  simp (disch := omega) only [ni_lit, ni_add, ni_mul, ni_sub, ni_lt, ni_le, ni_ix, ni_eq, ni_div, ni_rem, ni_and, ni_or, ni_xor, ni_shl, ni_shr, ni_gi, ni_gz, ni_max, ni_min, ni_dc, ni_0a, ni_ml, ni_mle, Nat.reduceAnd, Nat.reduceAdd, Nat.reduceMul, Nat.reduceSub, Nat.reduceDiv, Nat.reduceMod, Nat.reduceXor, Nat.reduceShiftLeft, Nat.reduceShiftRight, sq_bd, sq_jn, sq_cb0, sq_cb1, sq_cb2, sq_cb3, sq_cb4, sq_cb5, e]
  rw [if_neg (by omega), if_neg (by omega), if_neg (by omega)]
/-- the class's states -/
def sg (c : Nat) : Nat := if c = 0 then 1 else if c = 1 then 2 else if c = 2 then 0 else if c = 3 then 4 else if c = 4 then 3 else c
def rk (v : Nat) : Nat := if v < 10 then 0 else if v < 27 then 1 else 2
theorem rk_lt (v : Nat) : rk v < 3 := by unfold rk; repeat' split
                                         all_goals omega
def fr (m : Nat) : Nat := if m = 0 then 0 else if m = 1 then 3 else 5
def nxc (c : Nat) : Nat := if c = 0 then 1 else if c = 1 then 2 else if c = 2 then 0 else if c = 3 then 4 else if c = 4 then 3 else c
def nbt (c : Nat) : Nat := if c = 0 then 3 else if c = 1 then 3 else if c = 2 then 4 else if c = 3 then 5 else if c = 4 then 6 else if c = 5 then 8 else 0
theorem cl_cnt : ∀ m : Nat, m < 3 → ∀ v : Nat, v < 41 → 1 ≤ v → fn_Version_countBits (ni m) (ni v) = some (ni (lb (rk v) m)) := by decide +kernel
theorem cl_span : ∀ v : Nat, v < 41 → 1 ≤ v → fn_Version_span (ni v) = some (ni (rk v)) ∧ fn_Md_rank (ni v) = some (ni (rk v)) := by decide +kernel
theorem md_lb : ∀ m : Nat, m < 3 → ∀ r : Nat, r < 3 → fn_Md_lengthBits (ni m) (ni r) = some (ni (lb r m)) := by decide +kernel
def gbt (m : Nat) : Nat := if m = 0 then 4 else if m = 1 then 6 else 8
theorem cl_gb1 : ∀ m : Nat, m < 3 → fn_Mode_groupBits (ni m) 1 = some (ni (gbt m)) := by decide +kernel
theorem cl_first : ∀ m : Nat, m < 3 → fn_Sq_item_p1T (ni m) 3 tv_FIRST = some (ni (fr m)) := by decide +kernel
theorem cl_next : ∀ c : Nat, c < 7 → fn_Sq_item_p1T (ni c) 7 tv_NEXT = some (ni (nxc c)) ∧ tv_NEXT c = ni (nxc c) ∧ tv_NEXT_BITS c = ni (nbt c) := by decide +kernel
theorem cl_mode : ∀ c : Nat, c < 7 → ∀ m : Nat, m < 3 → (ni m = tv_MODE c ↔ mof (sg c) = m) := by decide +kernel
theorem sg_f : ∀ r : Nat, r < 3 → ∀ c : Nat, c < 7 → ∀ m : Nat, m < 3 → mof (sg c) ≠ m → 4 + lb r m + gbt m = cs r (sg c) m ∧ sg (fr m) = nx (sg c) m := by decide +kernel
theorem sg_n : ∀ r : Nat, r < 3 → ∀ c : Nat, c < 7 → ∀ m : Nat, m < 3 → mof (sg c) = m → nbt c = cs r (sg c) m ∧ sg (nxc c) = nx (sg c) m := by decide +kernel
theorem sg_b : ∀ c : Nat, c < 7 → sg c < 7 ∧ nxc c < 7 := by decide +kernel
theorem fr_b : ∀ m : Nat, m < 3 → fr m < 6 ∧ sg (fr m) < 6 ∧ mof (sg (fr m)) = m := by decide +kernel
def bh (b : Nat → Int32) (g : Nat → Nat) : Prop := ∀ c : Nat, c < 7 → b c = ni (g (sg c))
theorem cl_item {b : Nat → Int32} {i len : Nat} (hi : i < len) (hl : len < 100000) : fn_Sq_item (ni i) len b = some (b i) := by
  unfold fn_Sq_item
  rw [show Int32.ofNat len = ni len from rfl]
  simp (disch := omega) only [ni_lit, ni_add, ni_mul, ni_sub, ni_lt, ni_le, ni_ix, ni_eq, ni_div, ni_rem, ni_and, ni_or, ni_xor, ni_shl, ni_shr, ni_gi, ni_gz, ni_max, ni_min, ni_dc, ni_0a, ni_ml, ni_mle, Nat.reduceAnd, Nat.reduceAdd, Nat.reduceMul, Nat.reduceSub, Nat.reduceDiv, Nat.reduceMod, Nat.reduceXor, Nat.reduceShiftLeft, Nat.reduceShiftRight, sq_bd, sq_jn, sq_cb0, sq_cb1, sq_cb2, sq_cb3, sq_cb4, sq_cb5]
  rw [if_neg (by omega), if_neg (by omega)]
theorem cm3 {bb : Nat → Int32} {g : Nat → Nat} {v l : Nat} (hv : v < 41) (hv1 : 1 ≤ v) (hb : bh bb g) (hg : ∀ s : Nat, s < 7 → g s ≤ 100000) : ∀ (d m mm : Nat) (b : Nat → Int32), m + d = 3 → d < mm → (∀ i : Nat, l ≤ i → i < m → b i = ni (4 + lb (rk v) i + gbt i + g (sg (fr i)))) → ∃ b', (∀ k2, fn_Division_chooseModes_L3 (ni v) bb k2 mm (ni m) b = k2 b') ∧ ∀ i : Nat, l ≤ i → i < 3 → b' i = ni (4 + lb (rk v) i + gbt i + g (sg (fr i)))
  | 0, m, mm + 1, b, hm, _, h => by
    have hmm : m = 3 := by omega
    subst hmm
    refine ⟨b, fun k2 => ?_, h⟩
    rw [fn_Division_chooseModes_L3_s]
    simp (disch := omega) only [ni_lit, ni_add, ni_mul, ni_sub, ni_lt, ni_le, ni_ix, ni_eq, ni_div, ni_rem, ni_and, ni_or, ni_xor, ni_shl, ni_shr, ni_gi, ni_gz, ni_max, ni_min, ni_dc, ni_0a, ni_ml, ni_mle, Nat.reduceAnd, Nat.reduceAdd, Nat.reduceMul, Nat.reduceSub, Nat.reduceDiv, Nat.reduceMod, Nat.reduceXor, Nat.reduceShiftLeft, Nat.reduceShiftRight]
    rw [if_pos (by omega)]
  | d + 1, m, mm + 1, b, hm, hd, h => by
    obtain ⟨f1, f2, f3⟩ := fr_b m (by omega)
    have e1 := cl_cnt m (by omega) v hv hv1
    have e2 := cl_gb1 m (by omega)
    rw [show (1 : Int32) = ni 1 from rfl] at e2
    have e3 := cl_first m (by omega)
    have e4 := cl_item (b := bb) (i := fr m) (len := 7) (by omega) (by omega)
    rw [hb _ (by omega)] at e4
    obtain ⟨b', g1, g2⟩ := cm3 (l := l) hv hv1 hb hg d (m + 1) mm (upd b m (ni (4 + lb (rk v) m + gbt m + g (sg (fr m))))) (by omega) (by omega) (fun i hi1 hi2 => by
      rw [upd_a]
      by_cases q : i = m
      · rw [if_pos q, q]
      · rw [if_neg q]; exact h i hi1 (by omega))
    refine ⟨b', fun k2 => ?_, g2⟩
    rw [fn_Division_chooseModes_L3_s, ← g1 k2]
    simp (disch := omega) only [ni_lit, ni_add, ni_mul, ni_sub, ni_lt, ni_le, ni_ix, ni_eq, ni_div, ni_rem, ni_and, ni_or, ni_xor, ni_shl, ni_shr, ni_gi, ni_gz, ni_max, ni_min, ni_dc, ni_0a, ni_ml, ni_mle, Nat.reduceAnd, Nat.reduceAdd, Nat.reduceMul, Nat.reduceSub, Nat.reduceDiv, Nat.reduceMod, Nat.reduceXor, Nat.reduceShiftLeft, Nat.reduceShiftRight, sq_bd, sq_jn, sq_cb0, sq_cb1, sq_cb2, sq_cb3, sq_cb4, sq_cb5, e1, e2, e3, e4]
    rw [if_neg (by omega)]
theorem cm2s {bb b1 : Nat → Int32} {g : Nat → Nat} {v l c i best few m : Nat} (hc : c < 7) (hb : bh bb g) (hg : ∀ s : Nat, s < 7 → g s ≤ 100000) (hf : ∀ i : Nat, l ≤ i → i < 3 → b1 i = ni (4 + lb (rk v) i + gbt i + g (sg (fr i)))) (hi : i < 3) (hl : l ≤ i) (hfew : few ≤ 1073741824) (k14 : Int32 → Int32 → Option (Int32 × (Nat → Int32) × (Nat → Int32) × (Nat → Int32))) : fn_Division_chooseModes_L2 bb b1 (ni c) k14 (m + 1) (ni best) (ni few) (ni i) = if few ≤ vw (rk v) g (sg c) i then fn_Division_chooseModes_L2 bb b1 (ni c) k14 m (ni best) (ni few) (ni (i + 1)) else fn_Division_chooseModes_L2 bb b1 (ni c) k14 m (ni i) (ni (vw (rk v) g (sg c) i)) (ni (i + 1)) := by
  obtain ⟨s1, s2⟩ := sg_b c hc
  obtain ⟨n1, n2, n3⟩ := cl_next c hc
  have hr := rk_lt v
  have hnx := nx_lt (sg c) s1 i hi
  have hgn := hg (nx (sg c) i) (by omega)
  have hcs := (cs_le (rk v) hr (sg c) s1 i hi).1
  rw [fn_Division_chooseModes_L2_s]
  by_cases q : mof (sg c) = i
  · obtain ⟨w1, w2⟩ := sg_n (rk v) hr c hc i hi q
    have e1 := hb (nxc c) s2
    have hq := (cl_mode c hc i hi).mpr q
    rw [w2] at e1
    simp (disch := omega) only [ni_lit, ni_add, ni_mul, ni_sub, ni_lt, ni_le, ni_ix, ni_eq, ni_div, ni_rem, ni_and, ni_or, ni_xor, ni_shl, ni_shr, ni_gi, ni_gz, ni_max, ni_min, ni_dc, ni_0a, ni_ml, ni_mle, Nat.reduceAnd, Nat.reduceAdd, Nat.reduceMul, Nat.reduceSub, Nat.reduceDiv, Nat.reduceMod, Nat.reduceXor, Nat.reduceShiftLeft, Nat.reduceShiftRight, sq_bd, sq_jn, sq_cb0, sq_cb1, sq_cb2, sq_cb3, sq_cb4, sq_cb5, ← hq, n2, n3, e1, w1, if_true]
    rw [if_neg (by omega)]
    rfl
  · obtain ⟨w1, w2⟩ := sg_f (rk v) hr c hc i hi q
    have e1 := hf i hl hi
    rw [w1, w2] at e1
    have hq : ¬ (ni i = tv_MODE c) := fun z => q ((cl_mode c hc i hi).mp z)
    simp (disch := omega) only [ni_lit, ni_add, ni_mul, ni_sub, ni_lt, ni_le, ni_ix, ni_eq, ni_div, ni_rem, ni_and, ni_or, ni_xor, ni_shl, ni_shr, ni_gi, ni_gz, ni_max, ni_min, ni_dc, ni_0a, ni_ml, ni_mle, Nat.reduceAnd, Nat.reduceAdd, Nat.reduceMul, Nat.reduceSub, Nat.reduceDiv, Nat.reduceMod, Nat.reduceXor, Nat.reduceShiftLeft, Nat.reduceShiftRight, sq_bd, sq_jn, sq_cb0, sq_cb1, sq_cb2, sq_cb3, sq_cb4, sq_cb5, if_neg hq, e1]
    rw [if_neg (by omega)]
    rfl
theorem cm2 {bb b1 : Nat → Int32} {g : Nat → Nat} {v ch c mm : Nat} (hc : c < 7) (hb : bh bb g) (hg : ∀ s : Nat, s < 7 → g s ≤ 100000) (hf : ∀ i : Nat, lst ch ≤ i → i < 3 → b1 i = ni (4 + lb (rk v) i + gbt i + g (sg (fr i)))) (hm : 4 ≤ mm) (k14 : Int32 → Int32 → Option (Int32 × (Nat → Int32) × (Nat → Int32) × (Nat → Int32))) : fn_Division_chooseModes_L2 bb b1 (ni c) k14 mm (ni 2) (ni 1073741824) (ni (lst ch)) = k14 (ni (bm (rk v) ch g (sg c))) (ni (gb (rk v) ch g (sg c))) := by
  obtain ⟨s1, s2⟩ := sg_b c hc
  have hr := rk_lt v
  have hv : ∀ m : Nat, m < 3 → vw (rk v) g (sg c) m ≤ 100028 := fun m hm => by
    have h1 := hg _ (by have := nx_lt (sg c) s1 m hm; omega : nx (sg c) m < 7)
    have h2 := (cs_le (rk v) hr (sg c) s1 m hm).1
    unfold vw; omega
  have v0 := hv 0 (by omega)
  have v1 := hv 1 (by omega)
  have v2 := hv 2 (by omega)
  have hl := lst_le ch
  obtain ⟨m4, rfl⟩ : ∃ m4, mm = m4 + 1 + 1 + 1 + 1 := ⟨mm - 4, by omega⟩
  have hend : ∀ (m : Nat) (x y : Int32), fn_Division_chooseModes_L2 bb b1 (ni c) k14 (m + 1) x y (ni 3) = k14 x y := fun m x y => by
    rw [fn_Division_chooseModes_L2_s, if_pos (by decide)]
  have st : ∀ (i best few m : Nat), i < 3 → lst ch ≤ i → few ≤ 1073741824 → _ := fun i best few m h1 h2 h3 => cm2s (i := i) (best := best) (few := few) (m := m) (v := v) hc hb hg hf h1 h2 h3 k14
  by_cases a : lst ch = 0
  · have hgb : gb (rk v) ch g (sg c) = min (vw (rk v) g (sg c) 0) (min (vw (rk v) g (sg c) 1) (vw (rk v) g (sg c) 2)) := by unfold gb; rw [if_pos a]
    rw [hgb]
    unfold bm
    rw [hgb, a, st 0 _ _ _ (by omega) (by omega) (by omega), if_neg (show ¬ 1073741824 ≤ vw (rk v) g (sg c) 0 by omega), st 1 _ _ _ (by omega) (by omega) (by omega)]
    by_cases q1 : vw (rk v) g (sg c) 0 ≤ vw (rk v) g (sg c) 1
    · rw [if_pos q1, st 2 _ _ _ (by omega) (by omega) (by omega)]
      by_cases q2 : vw (rk v) g (sg c) 0 ≤ vw (rk v) g (sg c) 2
      · rw [if_pos q2, hend, if_pos (by omega), show min (vw (rk v) g (sg c) 0) (min (vw (rk v) g (sg c) 1) (vw (rk v) g (sg c) 2)) = vw (rk v) g (sg c) 0 by omega]
      · rw [if_neg q2, hend, if_neg (by omega), if_neg (by omega), show min (vw (rk v) g (sg c) 0) (min (vw (rk v) g (sg c) 1) (vw (rk v) g (sg c) 2)) = vw (rk v) g (sg c) 2 by omega]
    · rw [if_neg q1, st 2 _ _ _ (by omega) (by omega) (by omega)]
      by_cases q2 : vw (rk v) g (sg c) 1 ≤ vw (rk v) g (sg c) 2
      · rw [if_pos q2, hend, if_neg (by omega), if_pos (by omega), show min (vw (rk v) g (sg c) 0) (min (vw (rk v) g (sg c) 1) (vw (rk v) g (sg c) 2)) = vw (rk v) g (sg c) 1 by omega]
      · rw [if_neg q2, hend, if_neg (by omega), if_neg (by omega), show min (vw (rk v) g (sg c) 0) (min (vw (rk v) g (sg c) 1) (vw (rk v) g (sg c) 2)) = vw (rk v) g (sg c) 2 by omega]
  · by_cases b : lst ch = 1
    · have hgb : gb (rk v) ch g (sg c) = min (vw (rk v) g (sg c) 1) (vw (rk v) g (sg c) 2) := by unfold gb; rw [if_neg a, if_pos b]
      rw [hgb]
      unfold bm
      rw [hgb, b, st 1 _ _ _ (by omega) (by omega) (by omega), if_neg (show ¬ 1073741824 ≤ vw (rk v) g (sg c) 1 by omega), st 2 _ _ _ (by omega) (by omega) (by omega)]
      by_cases q2 : vw (rk v) g (sg c) 1 ≤ vw (rk v) g (sg c) 2
      · rw [if_pos q2, hend, if_neg (by omega), if_pos (by omega), show min (vw (rk v) g (sg c) 1) (vw (rk v) g (sg c) 2) = vw (rk v) g (sg c) 1 by omega]
      · rw [if_neg q2, hend, if_neg (by omega), if_neg (by omega), show min (vw (rk v) g (sg c) 1) (vw (rk v) g (sg c) 2) = vw (rk v) g (sg c) 2 by omega]
    · have b2 : lst ch = 2 := by omega
      have hgb : gb (rk v) ch g (sg c) = vw (rk v) g (sg c) 2 := by unfold gb; rw [if_neg a, if_neg b]
      rw [hgb]
      unfold bm
      rw [hgb, b2, st 2 _ _ _ (by omega) (by omega) (by omega), if_neg (show ¬ 1073741824 ≤ vw (rk v) g (sg c) 2 by omega), hend, if_neg (by omega), if_neg (by omega)]
def pk (f : Nat → Nat) : Nat → Nat
  | 0 => 0
  | s + 1 => pk f s ||| (f s <<< (2 * s))
theorem pk_s (f : Nat → Nat) (s : Nat) : pk f (s + 1) = pk f s ||| (f s <<< (2 * s)) := rfl
theorem pkq_lt {f : Nat → Nat} (hf : ∀ s : Nat, f s < 4) : ∀ s : Nat, pk f s < 2 ^ (2 * s)
  | 0 => by show 0 < 1; omega
  | s + 1 => by
    rw [pk_s]
    refine Nat.or_lt_two_pow ?_ ?_
    · exact Nat.lt_of_lt_of_le (pkq_lt hf s) (Nat.pow_le_pow_right (by omega) (by omega))
    · rw [Nat.shiftLeft_eq, show 2 * (s + 1) = 2 + 2 * s by omega, Nat.pow_add]
      exact Nat.mul_lt_mul_of_pos_right (hf s) (Nat.two_pow_pos _)
theorem pk_at {f : Nat → Nat} (hf : ∀ s : Nat, f s < 4) : ∀ (n s : Nat), s < n → (pk f n >>> (2 * s)) &&& 3 = f s
  | n + 1, s, hs => by
    rw [pk_s, Nat.shiftRight_or_distrib, show (3 : Nat) = 2 ^ 2 - 1 from rfl, Nat.and_two_pow_sub_one_eq_mod]
    by_cases q : s = n
    · subst q
      rw [Nat.shiftRight_eq_div_pow (pk f s), Nat.div_eq_of_lt (pkq_lt hf s), Nat.zero_or, Nat.shiftLeft_shiftRight, Nat.mod_eq_of_lt (hf s)]
    · have := pk_at hf n s (by omega)
      rw [show (3 : Nat) = 2 ^ 2 - 1 from rfl, Nat.and_two_pow_sub_one_eq_mod] at this
      rw [Nat.or_mod_two_pow, this]
      have : (f n <<< (2 * n)) >>> (2 * s) % 2 ^ 2 = 0 := by
        rw [Nat.shiftLeft_eq, Nat.shiftRight_eq_div_pow, show 2 * n = (2 * (n - s)) + 2 * s by omega, Nat.pow_add, ← Nat.mul_assoc, Nat.mul_div_cancel _ (Nat.two_pow_pos _), show 2 * (n - s) = (2 * (n - s) - 2) + 2 by omega, Nat.pow_add, ← Nat.mul_assoc]
        exact Nat.mul_mod_left _ _
      rw [this, Nat.or_zero]
theorem cm1 {bb b1 : Nat → Int32} {g : Nat → Nat} {v ch n0 : Nat} (hn0 : 300 ≤ n0) (hb : bh bb g) (hg : ∀ s : Nat, s < 7 → g s ≤ 100000) (hf : ∀ i : Nat, lst ch ≤ i → i < 3 → b1 i = ni (4 + lb (rk v) i + gbt i + g (sg (fr i)))) : ∀ (d c m : Nat) (b : Nat → Int32), c + d = 7 → d < m → (∀ s : Nat, s < c → b s = ni (gb (rk v) ch g (sg s))) → ∃ b', (∀ k5, fn_Division_chooseModes_L1 (ni (lst ch)) n0 bb b1 k5 m (ni (pk (fun s => bm (rk v) ch g (sg s)) c)) (ni c) b = k5 (ni (pk (fun s => bm (rk v) ch g (sg s)) 7)) b') ∧ bh b' (gb (rk v) ch g)
  | 0, c, m + 1, b, hc, _, h => by
    have hcc : c = 7 := by omega
    subst hcc
    refine ⟨b, fun k5 => ?_, h⟩
    rw [fn_Division_chooseModes_L1_s]
    simp (disch := omega) only [ni_lit, ni_add, ni_mul, ni_sub, ni_lt, ni_le, ni_ix, ni_eq, ni_div, ni_rem, ni_and, ni_or, ni_xor, ni_shl, ni_shr, ni_gi, ni_gz, ni_max, ni_min, ni_dc, ni_0a, ni_ml, ni_mle, Nat.reduceAnd, Nat.reduceAdd, Nat.reduceMul, Nat.reduceSub, Nat.reduceDiv, Nat.reduceMod, Nat.reduceXor, Nat.reduceShiftLeft, Nat.reduceShiftRight]
    rw [if_pos (by omega)]
  | d + 1, c, m + 1, b, hc, hd, h => by
    have e2 := fun k14 => cm2 (v := v) (ch := ch) (c := c) (mm := n0) (by omega) hb hg hf (by omega) k14
    have hbm : ∀ s : Nat, bm (rk v) ch g (sg s) < 4 := fun s => by have := (bm_ok (rk v) ch g (sg s)).1; omega
    obtain ⟨b', g1, g2⟩ := cm1 hn0 hb hg hf d (c + 1) m (upd b c (ni (gb (rk v) ch g (sg c)))) (by omega) (by omega) (fun s hs => by
      rw [upd_a]
      by_cases q : s = c
      · rw [if_pos q, q]
      · rw [if_neg q]; exact h s (by omega))
    refine ⟨b', fun k5 => ?_, g2⟩
    rw [fn_Division_chooseModes_L1_s, ← g1 k5]
    have han : 2 * c &&& 31 = 2 * c := by
      rw [show (31 : Nat) = 2 ^ 5 - 1 from rfl, Nat.and_two_pow_sub_one_eq_mod, Nat.mod_eq_of_lt (by omega)]
    simp (disch := omega) only [ni_lit, ni_add, ni_mul, ni_sub, ni_lt, ni_le, ni_ix, ni_eq, ni_div, ni_rem, ni_and, ni_or, ni_xor, ni_shl, ni_shr, ni_gi, ni_gz, ni_max, ni_min, ni_dc, ni_0a, ni_ml, ni_mle, Nat.reduceAnd, Nat.reduceAdd, Nat.reduceMul, Nat.reduceSub, Nat.reduceDiv, Nat.reduceMod, Nat.reduceXor, Nat.reduceShiftLeft, Nat.reduceShiftRight, sq_bd, sq_jn, sq_cb0, sq_cb1, sq_cb2, sq_cb3, sq_cb4, sq_cb5, e2, han]
    rw [if_neg (by omega)]
    rfl
theorem cl_choose {bb bhr fb : Nat → Int32} {g : Nat → Nat} {v ch n0 : Nat} (hn0 : 300 ≤ n0) (hv : v < 41) (hv1 : 1 ≤ v) (hb : bh bb g) (hg : ∀ s : Nat, s < 7 → g s ≤ 100000) : ∃ bb' bhr' fb', fn_Division_chooseModes n0 (ni (lst ch)) (ni v) bb bhr fb = some (ni (pk (fun s => bm (rk v) ch g (sg s)) 7), bb', bhr', fb') ∧ bh bb' (gb (rk v) ch g) := by
  have hl := lst_le ch
  obtain ⟨b1, e3, h3⟩ := cm3 (l := lst ch) hv hv1 hb hg (3 - lst ch) (lst ch) n0 fb (by omega) (by omega) (fun i h1 h2 => by omega)
  obtain ⟨b4, e1, h1⟩ := cm1 (v := v) (ch := ch) hn0 hb hg h3 7 0 n0 bhr (by omega) (by omega) (fun s hs => absurd hs (by omega))
  refine ⟨va_cpy b4 bb 0 0 7, b4, b1, ?_, fun c hc => ?_⟩
  · unfold fn_Division_chooseModes
    rw [show (0 : Int32) = ni (pk (fun s => bm (rk v) ch g (sg s)) 0) from rfl]
    simp (disch := omega) only [ni_lit, sq_bd, sq_jn, sq_cb0, sq_cb1, sq_cb2, sq_cb3, sq_cb4, sq_cb5, e3]
    rw [show ni (pk (fun s => bm (rk v) ch g (sg s)) 0) = ni 0 from rfl] at e1
    rw [show ni (pk (fun s => bm (rk v) ch g (sg s)) 0) = ni 0 from rfl, e1]
    simp (disch := omega) only [ni_gc, ni_ix]
  · unfold va_cpy
    rw [if_pos (by omega), show 0 + (c - 0) = c by omega]
    exact h1 c hc
/-- the modes chosen at a byte -/
def cho (b : Nat → Int32) (v : Nat) (d : Nat → Nat) (len : Nat) (p : Nat) : Prop := ∀ i : Nat, p ≤ i → i < len → b i = ni (pk (fun s => bm (rk v) (d i) (gG (rk v) d len (len - (i + 1))) (sg s)) 7)
theorem dc1z {p2 : Int32} {n0 : Nat} {sz : Int32} {by0 : Nat → Int32} (k11 : (Nat → Int32) → (Nat → Int32) → (Nat → Int32) → (Nat → Int32) → Option (Int32 × Int32 × Int32 × Int32 × (Nat → Int32) × (Nat → Int32) × (Nat → Int32) × (Nat → Int32))) (m : Nat) (a b c d : Nat → Int32) : fn_Division_divide_L1 p2 n0 sz by0 k11 (m + 1) (-(ni 1)) a b c d = k11 a b c d := by
  rw [fn_Division_divide_L1_s, if_pos (by decide)]
theorem dc1 {by0 : Nat → Int32} {d : Nat → Nat} {v len n0 : Nat} (hn0 : 300 ≤ n0) (hv : v < 41) (hv1 : 1 ≤ v) (hl : len ≤ 3000) (hd : cdt by0 len d) : ∀ (p m : Nat) (bb bhr chs fb : Nat → Int32), p < len → p + 1 < m → bh bb (gG (rk v) d len (len - (p + 1))) → cho chs v d len (p + 1) → ∃ bb' bhr' chs' fb', (∀ k11, fn_Division_divide_L1 (ni v) n0 (ni len) by0 k11 m (ni p) bb bhr chs fb = k11 bb' bhr' chs' fb') ∧ bh bb' (gG (rk v) d len len) ∧ cho chs' v d len 0
  | p, m + 1, bb, bhr, chs, fb, hp, hm, hb, hc => by
    have e1 := cl_get hd hl hp
    have e2 := cl_least hn0 (hd p hp).2
    obtain ⟨bb2, bhr2, fb2, e3, h3⟩ := cl_choose (ch := d p) (bhr := bhr) (fb := fb) hn0 hv hv1 hb (fun s hs => by have := gG_le (rk_lt v) d len (len - (p + 1)) s hs; omega)
    have hG : ∀ s : Nat, gG (rk v) d len (len - p) s = gb (rk v) (d p) (gG (rk v) d len (len - (p + 1))) s := fun s => by
      rw [show len - p = len - (p + 1) + 1 by omega, gG_s, show len - (len - (p + 1) + 1) = p by omega]
    have hb2 : bh bb2 (gG (rk v) d len (len - p)) := fun c hc2 => by rw [hG]; exact h3 c hc2
    have hc2 : cho (upd chs p (ni (pk (fun s => bm (rk v) (d p) (gG (rk v) d len (len - (p + 1))) (sg s)) 7))) v d len p := fun i h1 h2 => by
      rw [upd_a]
      by_cases q : i = p
      · rw [if_pos q, q]
      · rw [if_neg q]; exact hc i (by omega) h2
    have hstep : ∀ k11, fn_Division_divide_L1 (ni v) n0 (ni len) by0 k11 (m + 1) (ni p) bb bhr chs fb = fn_Division_divide_L1 (ni v) n0 (ni len) by0 k11 m (ni p + -(ni 1)) bb2 bhr2 (upd chs p (ni (pk (fun s => bm (rk v) (d p) (gG (rk v) d len (len - (p + 1))) (sg s)) 7))) fb2 := fun k11 => by
      rw [fn_Division_divide_L1_s]
      simp (disch := omega) only [ni_lit, ni_lt, ni_gi, ni_ix, sq_bd, sq_jn, sq_cb0, sq_cb1, sq_cb2, sq_cb3, sq_cb4, sq_cb5, e1, e2, e3]
      rw [if_neg (by omega)]
    cases p with
    | zero =>
      obtain ⟨m', rfl⟩ : ∃ m', m = m' + 1 := ⟨m - 1, by omega⟩
      refine ⟨bb2, bhr2, _, fb2, fun k11 => ?_, hb2, hc2⟩
      rw [hstep, ni_0a, dc1z]
    | succ p =>
      obtain ⟨bb', bhr', chs', fb', g1, g2, g3⟩ := dc1 hn0 hv hv1 hl hd p m bb2 bhr2 _ fb2 (by omega) (by omega) hb2 hc2
      refine ⟨bb', bhr', chs', fb', fun k11 => ?_, g2, g3⟩
      rw [hstep, ni_dc (by omega)]
      exact g1 k11
theorem cl_divide {by0 bb bhr chs fb : Nat → Int32} {d : Nat → Nat} {v len n0 : Nat} {a1 a2 a3 a4 : Int32} (hn0 : 4000 ≤ n0) (hv : v < 41) (hv1 : 1 ≤ v) (hl : len ≤ 3000) (hd : cdt by0 len d) : ∃ bb' bhr' chs' fb', fn_Division_divide n0 (ni v) (ni len) a1 a2 a3 a4 by0 bb bhr chs fb = some (ni len, 0, 0, 6, bb', bhr', chs', fb') ∧ bh bb' (gG (rk v) d len len) ∧ cho chs' v d len 0 := by
  obtain ⟨b0, e0, h0⟩ := fill1 (v := 0) (len := 7) (n0 := n0) (by omega) (by omega) bb
  have hb0 : bh b0 (gG (rk v) d len 0) := fun c hc => by rw [h0 c hc]; rfl
  unfold fn_Division_divide fn_Data_size fn_Division_rewind
  rw [e0]
  by_cases q : len = 0
  · subst q
    refine ⟨b0, bhr, chs, fb, ?_, hb0, fun i h1 h2 => by omega⟩
    obtain ⟨m', rfl⟩ : ∃ m', n0 = m' + 1 := ⟨n0 - 1, by omega⟩
    simp (disch := omega) only [sq_bd, sq_jn, sq_cb0, sq_cb1, sq_cb2, sq_cb3, sq_cb4, sq_cb5]
    rw [show sq_min (ni 0) 3000 - 1 = -(ni 1) from by decide, dc1z]
    rfl
  · obtain ⟨bb', bhr', chs', fb', g1, g2, g3⟩ := dc1 (n0 := n0) (by omega) hv hv1 hl hd (len - 1) n0 b0 bhr chs fb (by omega) (by omega) (by rw [show len - (len - 1 + 1) = 0 by omega]; exact hb0) (fun i h1 h2 => by omega)
    refine ⟨bb', bhr', chs', fb', ?_, g2, g3⟩
    simp (disch := omega) only [ni_lit, ni_add, ni_mul, ni_sub, ni_lt, ni_le, ni_ix, ni_eq, ni_div, ni_rem, ni_and, ni_or, ni_xor, ni_shl, ni_shr, ni_gi, ni_gz, ni_max, ni_min, ni_dc, ni_0a, ni_ml, ni_mle, Nat.reduceAnd, Nat.reduceAdd, Nat.reduceMul, Nat.reduceSub, Nat.reduceDiv, Nat.reduceMod, Nat.reduceXor, Nat.reduceShiftLeft, Nat.reduceShiftRight, sq_bd, sq_jn, sq_cb0, sq_cb1, sq_cb2, sq_cb3, sq_cb4, sq_cb5, show min len 3000 = len by omega, g1]
