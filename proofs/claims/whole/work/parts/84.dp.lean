/-! own rows: the fewest bits of the segments -/
def sgn (c : Nat) : Nat := if 48 ≤ c ∧ c ≤ 57 then c - 48 else if 65 ≤ c ∧ c ≤ 90 then c - 55 else if c = 32 then 36 else if c = 36 then 37 else if c = 37 then 38 else if c = 42 then 39 else if c = 43 then 40 else if c = 45 then 41 else if c = 46 then 42 else if c = 47 then 43 else if c = 58 then 44 else 45
def lst (c : Nat) : Nat := if 48 ≤ c ∧ c ≤ 57 then 0 else if sgn c < 45 then 1 else 2
theorem lst_le (c : Nat) : lst c ≤ 2 := by unfold lst; repeat' split
                                           all_goals omega
def si (s : Nat) : Int32 := if s = 6 then -1 else ni s
def mof (s : Nat) : Nat := if s < 3 then 0 else if s < 5 then 1 else if s = 5 then 2 else 3
def nx (s m : Nat) : Nat := if m = 0 then (if mof s = 0 then (s + 1) % 3 else 1) else if m = 1 then (if mof s = 1 then 7 - s else 4) else 5
def lb (r m : Nat) : Nat := if m = 0 then 10 + 2 * r else if m = 1 then 9 + 2 * r else if r = 0 then 8 else 16
def cs (r s m : Nat) : Nat := (if mof s = m then 0 else 4 + lb r m) + (if m = 0 then (if nx s m = 1 then 4 else 3) else if m = 1 then (if nx s m = 4 then 6 else 5) else 8)
theorem md_sign : ∀ c : Nat, c < 256 → fn_Md_signOf (ni c) = some (if sgn c < 45 then ni (sgn c) else -1) := by decide +kernel
theorem md_may : ∀ m : Nat, m < 3 → ∀ c : Nat, c < 256 → fn_Md_may (ni m) (ni c) = some (ni (if lst c ≤ m then 1 else 0)) := by decide +kernel
theorem md_after : ∀ s : Nat, s < 7 → ∀ m : Nat, m < 3 → fn_Md_stateAfter (si s) (ni m) = some (ni (nx s m)) := by decide +kernel
theorem md_cost : ∀ r : Nat, r < 3 → ∀ s : Nat, s < 7 → ∀ m : Nat, m < 3 → fn_Md_costOf (si s) (ni m) (ni r) = some (ni (cs r s m)) := by decide +kernel
theorem nx_lt : ∀ s : Nat, s < 7 → ∀ m : Nat, m < 3 → nx s m < 6 := by decide +kernel
theorem cs_le : ∀ r : Nat, r < 3 → ∀ s : Nat, s < 7 → ∀ m : Nat, m < 3 → cs r s m ≤ 28 ∧ 3 ≤ cs r s m := by decide +kernel
/-- the least of the ways on, and the least mode of it -/
def vw (r : Nat) (g : Nat → Nat) (s m : Nat) : Nat := cs r s m + g (nx s m)
def gb (r c : Nat) (g : Nat → Nat) (s : Nat) : Nat := if lst c = 0 then min (vw r g s 0) (min (vw r g s 1) (vw r g s 2)) else if lst c = 1 then min (vw r g s 1) (vw r g s 2) else vw r g s 2
def bm (r c : Nat) (g : Nat → Nat) (s : Nat) : Nat := if lst c = 0 ∧ vw r g s 0 = gb r c g s then 0 else if lst c ≤ 1 ∧ vw r g s 1 = gb r c g s then 1 else 2
theorem bm_ok (r c : Nat) (g : Nat → Nat) (s : Nat) : bm r c g s < 3 ∧ lst c ≤ bm r c g s ∧ vw r g s (bm r c g s) = gb r c g s := by
  have hl := lst_le c
  unfold bm
  by_cases h0 : lst c = 0 ∧ vw r g s 0 = gb r c g s
  · rw [if_pos h0]; exact ⟨by omega, by omega, h0.2⟩
  rw [if_neg h0]
  by_cases h1 : lst c ≤ 1 ∧ vw r g s 1 = gb r c g s
  · rw [if_pos h1]; exact ⟨by omega, by omega, h1.2⟩
  rw [if_neg h1]
  refine ⟨by omega, by omega, ?_⟩
  unfold gb at h0 h1 ⊢
  by_cases a : lst c = 0
  · rw [if_pos a] at h0 h1 ⊢; omega
  · rw [if_neg a] at h0 h1 ⊢
    by_cases b : lst c = 1
    · rw [if_pos b] at h0 h1 ⊢; omega
    · rw [if_neg b]
theorem gb_le (r c : Nat) (g : Nat → Nat) (s : Nat) : gb r c g s ≤ vw r g s 2 := by
  unfold gb
  split
  · omega
  · split <;> omega
def gG (r : Nat) (d : Nat → Nat) (len : Nat) : Nat → Nat → Nat
  | 0 => fun _ => 0
  | k + 1 => fun s => gb r (d (len - (k + 1))) (gG r d len k) s
theorem gG_s (r : Nat) (d : Nat → Nat) (len k s : Nat) : gG r d len (k + 1) s = gb r (d (len - (k + 1))) (gG r d len k) s := rfl
theorem gG_le {r : Nat} (hr : r < 3) (d : Nat → Nat) (len : Nat) : ∀ (k s : Nat), s < 7 → gG r d len k s ≤ 28 * k
  | 0, _, _ => Nat.le_refl _
  | k + 1, s, hs => by
    have h1 := gb_le r (d (len - (k + 1))) (gG r d len k) s
    have h2 := gG_le hr d len k 5 (by omega)
    have h3 := (cs_le r hr s hs 2 (by omega)).1
    rw [gG_s]
    unfold vw at h1
    rw [show nx s 2 = 5 from rfl] at h1
    omega
theorem gG_ge {r : Nat} (hr : r < 3) (d : Nat → Nat) (len : Nat) : ∀ (k s : Nat), s < 7 → 3 * k ≤ gG r d len k s
  | 0, _, _ => Nat.le_refl _
  | k + 1, s, hs => by
    rw [gG_s]
    obtain ⟨h1, h2, h3⟩ := bm_ok r (d (len - (k + 1))) (gG r d len k) s
    rw [← h3]
    unfold vw
    have h4 := (cs_le r hr s hs _ h1).2
    have h5 := gG_ge hr d len k (nx s (bm r (d (len - (k + 1))) (gG r d len k) s)) (by have := nx_lt s hs _ h1; omega)
    omega
/-- forwards: the state before byte p, the mode of byte p -/
def sm (r : Nat) (d : Nat → Nat) (len : Nat) : Nat → Nat
  | 0 => 6
  | p + 1 => nx (sm r d len p) (bm r (d p) (gG r d len (len - (p + 1))) (sm r d len p))
def ch (r : Nat) (d : Nat → Nat) (len p : Nat) : Nat := bm r (d p) (gG r d len (len - (p + 1))) (sm r d len p)
theorem sm_s (r : Nat) (d : Nat → Nat) (len p : Nat) : sm r d len (p + 1) = nx (sm r d len p) (ch r d len p) := rfl
theorem ch_lt (r : Nat) (d : Nat → Nat) (len p : Nat) : ch r d len p < 3 := (bm_ok _ _ _ _).1
theorem sm_lt (r : Nat) (d : Nat → Nat) (len : Nat) : ∀ p : Nat, sm r d len p < 7
  | 0 => by show 6 < 7; omega
  | p + 1 => by have := nx_lt _ (sm_lt r d len p) _ (ch_lt r d len p); rw [sm_s]; omega
/-! the model's -/
def tk (t : Nat → Int32) (p : Nat) (g : Nat → Nat) : Prop := ∀ s : Nat, s < 6 → t (6 * p + s) = ni (g s)
theorem md_rest {dt t : Nat → Int32} {r c p s m : Nat} {g : Nat → Nat} (hr : r < 3) (hs : s < 7) (hm : m < 3) (hp : p < 3000) (hc : c < 256) (hd : dt p = ni c) (ht : tk t (p + 1) g) : fn_Md_restOf (ni p) (si s) (ni m) (ni r) dt t = some (ni (if lst c ≤ m then vw r g s m else 1000000)) := by
  have hn := nx_lt s hs m hm
  have e := ht _ hn
  have hcl := (cs_le r hr s hs m hm).1
  unfold fn_Md_restOf
  by_cases q : lst c ≤ m
  · simp (disch := omega) only [ni_lit, ni_add, ni_mul, ni_sub, ni_lt, ni_le, ni_ix, ni_eq, ni_div, ni_rem, ni_and, ni_or, ni_xor, ni_shl, ni_shr, ni_gi, ni_gz, ni_max, ni_min, ni_dc, ni_0a, ni_ml, ni_mle, Nat.reduceAnd, Nat.reduceAdd, Nat.reduceMul, Nat.reduceSub, Nat.reduceDiv, Nat.reduceMod, Nat.reduceXor, Nat.reduceShiftLeft, Nat.reduceShiftRight, sq_bd, sq_jn, sq_cb0, sq_cb1, sq_cb2, sq_cb3, sq_cb4, sq_cb5, hd, md_may m hm c hc, if_pos q, md_cost r hr s hs m hm, md_after s hs m hm, e]
    rw [if_neg (by omega)]; rfl
  · simp (disch := omega) only [ni_lit, ni_add, ni_mul, ni_sub, ni_lt, ni_le, ni_ix, ni_eq, ni_div, ni_rem, ni_and, ni_or, ni_xor, ni_shl, ni_shr, ni_gi, ni_gz, ni_max, ni_min, ni_dc, ni_0a, ni_ml, ni_mle, Nat.reduceAnd, Nat.reduceAdd, Nat.reduceMul, Nat.reduceSub, Nat.reduceDiv, Nat.reduceMod, Nat.reduceXor, Nat.reduceShiftLeft, Nat.reduceShiftRight, sq_bd, sq_jn, sq_cb0, sq_cb1, sq_cb2, sq_cb3, sq_cb4, sq_cb5, hd, md_may m hm c hc, if_neg q, if_true]
theorem le_st {dt tt : Nat → Int32} {r c p s i a m : Nat} {g : Nat → Nat} (hr : r < 3) (hs : s < 7) (hp : p < 3000) (hc : c < 256) (hd : dt p = ni c) (ht : tk tt (p + 1) g) (hi : i < 3) (ha : a ≤ 1000000) (hv : vw r g s i ≤ 1000000) : fn_Md_least_L1 (ni p) (si s) (ni r) dt tt (m + 1) (ni a) (ni i) = fn_Md_least_L1 (ni p) (si s) (ni r) dt tt m (ni (min a (if lst c ≤ i then vw r g s i else 1000000))) (ni (i + 1)) := by
  have e := md_rest (m := i) hr hs hi hp hc hd ht
  have hb : (if lst c ≤ i then vw r g s i else 1000000) ≤ 1000000 := by split <;> omega
  generalize (if lst c ≤ i then vw r g s i else 1000000) = v at e hb ⊢
  rw [fn_Md_least_L1_s]
  simp (disch := omega) only [ni_lit, ni_add, ni_mul, ni_sub, ni_lt, ni_le, ni_ix, ni_eq, ni_div, ni_rem, ni_and, ni_or, ni_xor, ni_shl, ni_shr, ni_gi, ni_gz, ni_max, ni_min, ni_dc, ni_0a, ni_ml, ni_mle, Nat.reduceAnd, Nat.reduceAdd, Nat.reduceMul, Nat.reduceSub, Nat.reduceDiv, Nat.reduceMod, Nat.reduceXor, Nat.reduceShiftLeft, Nat.reduceShiftRight, sq_bd, sq_jn, sq_cb0, sq_cb1, sq_cb2, sq_cb3, sq_cb4, sq_cb5, e]
  rw [if_neg (by omega)]
  by_cases q : a ≤ v
  · rw [if_pos q, Nat.min_eq_left q]
  · rw [if_neg q, Nat.min_eq_right (by omega)]
theorem md_least {dt t : Nat → Int32} {r c p s n0 : Nat} {g : Nat → Nat} (hn0 : 300 ≤ n0) (hr : r < 3) (hs : s < 7) (hp : p < 3000) (hc : c < 256) (hd : dt p = ni c) (ht : tk t (p + 1) g) (hg : ∀ s : Nat, s < 6 → g s ≤ 100000) : fn_Md_least n0 (ni p) (si s) (ni r) dt t = some (ni (gb r c g s)) := by
  have hv : ∀ m : Nat, m < 3 → vw r g s m ≤ 100028 := fun m hm => by
    have h1 := hg _ (nx_lt s hs m hm)
    have h2 := (cs_le r hr s hs m hm).1
    unfold vw; omega
  have v0 := hv 0 (by omega)
  have v1 := hv 1 (by omega)
  have v2 := hv 2 (by omega)
  have hl := lst_le c
  have hv2 : ∀ m : Nat, m < 3 → vw r g s m ≤ 1000000 := fun m hm => Nat.le_trans (hv m hm) (by omega)
  obtain ⟨m4, rfl⟩ : ∃ m4, n0 = m4 + 1 + 1 + 1 + 1 := ⟨n0 - 4, by omega⟩
  unfold fn_Md_least
  rw [show (1000000 : Int32) = ni 1000000 from rfl, show (0 : Int32) = ni 0 from rfl, le_st hr hs hp hc hd ht (by omega) (by omega) (hv2 _ (by omega)), le_st hr hs hp hc hd ht (by omega) (by omega) (hv2 _ (by omega)), le_st hr hs hp hc hd ht (by omega) (by omega) (hv2 _ (by omega)), fn_Md_least_L1_s, if_pos (by decide)]
  simp only [Nat.zero_add, Nat.reduceAdd]
  congr 2
  unfold gb
  by_cases a : lst c = 0
  · rw [if_pos (by omega), if_pos (by omega), if_pos (by omega), if_pos a]; omega
  · by_cases b : lst c = 1
    · rw [if_neg (by omega), if_pos (by omega), if_pos (by omega), if_neg a, if_pos b]; omega
    · rw [if_neg (by omega), if_neg (by omega), if_pos (by omega), if_neg a, if_neg b]; omega
theorem dv5 {len : Nat} (hl : len ≤ 3000) : ∀ (d x m : Nat) (b : Nat → Int32), x + d = 6 → d < m → (∀ s : Nat, s < x → b (6 * len + s) = ni 0) → ∃ b', (∀ k2, fn_Md_divide_L5 (ni len) k2 m (ni x) b = k2 b') ∧ tk b' len (fun _ => 0)
  | 0, x, m + 1, b, hx, _, h => by
    have hxs : x = 6 := by omega
    subst hxs
    refine ⟨b, fun k2 => ?_, h⟩
    rw [fn_Md_divide_L5_s]
    simp (disch := omega) only [ni_lit, ni_add, ni_mul, ni_sub, ni_lt, ni_le, ni_ix, ni_eq, ni_div, ni_rem, ni_and, ni_or, ni_xor, ni_shl, ni_shr, ni_gi, ni_gz, ni_max, ni_min, ni_dc, ni_0a, ni_ml, ni_mle, Nat.reduceAnd, Nat.reduceAdd, Nat.reduceMul, Nat.reduceSub, Nat.reduceDiv, Nat.reduceMod, Nat.reduceXor, Nat.reduceShiftLeft, Nat.reduceShiftRight]
    rw [if_pos (by omega)]
  | d + 1, x, m + 1, b, hx, hm, h => by
    obtain ⟨b', g1, g2⟩ := dv5 hl d (x + 1) m (upd b (6 * len + x) (ni 0)) (by omega) (by omega) (fun s hs => by
      rw [upd_a]
      by_cases q : s = x
      · rw [if_pos (by omega)]
      · rw [if_neg (by omega)]; exact h s (by omega))
    refine ⟨b', fun k2 => ?_, g2⟩
    rw [fn_Md_divide_L5_s, ← g1 k2]
    simp (disch := omega) only [ni_lit, ni_add, ni_mul, ni_sub, ni_lt, ni_le, ni_ix, ni_eq, ni_div, ni_rem, ni_and, ni_or, ni_xor, ni_shl, ni_shr, ni_gi, ni_gz, ni_max, ni_min, ni_dc, ni_0a, ni_ml, ni_mle, Nat.reduceAnd, Nat.reduceAdd, Nat.reduceMul, Nat.reduceSub, Nat.reduceDiv, Nat.reduceMod, Nat.reduceXor, Nat.reduceShiftLeft, Nat.reduceShiftRight, sq_bd, sq_jn, sq_cb0, sq_cb1, sq_cb2, sq_cb3, sq_cb4, sq_cb5]
    rw [if_neg (by omega)]
theorem dv4 {dt : Nat → Int32} {d : Nat → Nat} {r len p n0 : Nat} (hn0 : 300 ≤ n0) (hr : r < 3) (hl : len ≤ 3000) (hd : ∀ i : Nat, i < len → dt i = ni (d i) ∧ d i < 256) (hp : p < len) (hp1 : 1 ≤ p) : ∀ (e x m : Nat) (b : Nat → Int32), x + e = 6 → e < m → (∀ q : Nat, p < q → q ≤ len → tk b q (gG r d len (len - q))) → (∀ s : Nat, s < x → b (6 * p + s) = ni (gG r d len (len - p) s)) → ∃ b', (∀ k35, fn_Md_divide_L4 (ni r) n0 dt (ni p) k35 m (ni x) b = k35 b') ∧ ∀ q : Nat, p ≤ q → q ≤ len → tk b' q (gG r d len (len - q))
  | 0, x, m + 1, b, hx, _, h, h2 => by
    have hxs : x = 6 := by omega
    subst hxs
    refine ⟨b, fun k35 => ?_, fun q q1 q2 => ?_⟩
    · rw [fn_Md_divide_L4_s]
      simp (disch := omega) only [ni_lit, ni_add, ni_mul, ni_sub, ni_lt, ni_le, ni_ix, ni_eq, ni_div, ni_rem, ni_and, ni_or, ni_xor, ni_shl, ni_shr, ni_gi, ni_gz, ni_max, ni_min, ni_dc, ni_0a, ni_ml, ni_mle, Nat.reduceAnd, Nat.reduceAdd, Nat.reduceMul, Nat.reduceSub, Nat.reduceDiv, Nat.reduceMod, Nat.reduceXor, Nat.reduceShiftLeft, Nat.reduceShiftRight]
      rw [if_pos (by omega)]
    · by_cases e : q = p
      · rw [e]; exact h2
      · exact h q (by omega) q2
  | e + 1, x, m + 1, b, hx, hm, h, h2 => by
    obtain ⟨d1, d2⟩ := hd p hp
    have hls := md_least (s := x) (g := gG r d len (len - (p + 1))) hn0 hr (by omega) (by omega) d2 d1 (h (p + 1) (by omega) (by omega)) (fun s hs => by have := gG_le hr d len (len - (p + 1)) s (by omega); omega)
    have hG : gG r d len (len - p) x = gb r (d p) (gG r d len (len - (p + 1))) x := by
      rw [show len - p = len - (p + 1) + 1 by omega, gG_s, show len - (len - (p + 1) + 1) = p by omega]
    rw [← hG, show si x = ni x from if_neg (by omega)] at hls
    obtain ⟨b', g1, g2⟩ := dv4 hn0 hr hl hd hp hp1 e (x + 1) m (upd b (6 * p + x) (ni (gG r d len (len - p) x))) (by omega) (by omega) (fun q q1 q2 s hs => by
      rw [upd_n _ _ (by omega)]; exact h q q1 q2 s hs) (fun s hs => by
      rw [upd_a]
      by_cases q : s = x
      · rw [if_pos (by omega), q]
      · rw [if_neg (by omega)]; exact h2 s (by omega))
    refine ⟨b', fun k35 => ?_, g2⟩
    rw [fn_Md_divide_L4_s, ← g1 k35]
    simp (disch := omega) only [ni_lit, ni_add, ni_mul, ni_sub, ni_lt, ni_le, ni_ix, ni_eq, ni_div, ni_rem, ni_and, ni_or, ni_xor, ni_shl, ni_shr, ni_gi, ni_gz, ni_max, ni_min, ni_dc, ni_0a, ni_ml, ni_mle, Nat.reduceAnd, Nat.reduceAdd, Nat.reduceMul, Nat.reduceSub, Nat.reduceDiv, Nat.reduceMod, Nat.reduceXor, Nat.reduceShiftLeft, Nat.reduceShiftRight, sq_bd, sq_jn, sq_cb0, sq_cb1, sq_cb2, sq_cb3, sq_cb4, sq_cb5, hls]
    rw [if_neg (by omega)]
theorem dv3 {dt : Nat → Int32} {d : Nat → Nat} {r len n0 : Nat} (hn0 : 300 ≤ n0) (hr : r < 3) (hl : len ≤ 3000) (hd : ∀ i : Nat, i < len → dt i = ni (d i) ∧ d i < 256) : ∀ (p m : Nat) (b : Nat → Int32), p < len → p < m → (∀ q : Nat, p < q → q ≤ len → tk b q (gG r d len (len - q))) → ∃ b', (∀ k5, fn_Md_divide_L3 (ni r) n0 dt k5 m (ni p) b = k5 b') ∧ ∀ q : Nat, 0 < q → q ≤ len → tk b' q (gG r d len (len - q))
  | 0, m + 1, b, hp, _, h => by
    refine ⟨b, fun k5 => ?_, h⟩
    rw [fn_Md_divide_L3_s]
    simp (disch := omega) only [ni_lit, ni_add, ni_mul, ni_sub, ni_lt, ni_le, ni_ix, ni_eq, ni_div, ni_rem, ni_and, ni_or, ni_xor, ni_shl, ni_shr, ni_gi, ni_gz, ni_max, ni_min, ni_dc, ni_0a, ni_ml, ni_mle, Nat.reduceAnd, Nat.reduceAdd, Nat.reduceMul, Nat.reduceSub, Nat.reduceDiv, Nat.reduceMod, Nat.reduceXor, Nat.reduceShiftLeft, Nat.reduceShiftRight]
    rw [if_pos (by omega)]
  | p + 1, m + 1, b, hp, hm, h => by
    obtain ⟨b4, e4, h4⟩ := dv4 hn0 hr hl hd hp (by omega) 6 0 n0 b (by omega) (by omega) h (fun s hs => absurd hs (by omega))
    obtain ⟨b', g1, g2⟩ := dv3 hn0 hr hl hd p m b4 (by omega) (by omega) (fun q q1 q2 => h4 q (by omega) q2)
    refine ⟨b', fun k5 => ?_, g2⟩
    rw [fn_Md_divide_L3_s, ← g1 k5]
    simp (disch := omega) only [ni_lit, ni_add, ni_mul, ni_sub, ni_lt, ni_le, ni_ix, ni_eq, ni_div, ni_rem, ni_and, ni_or, ni_xor, ni_shl, ni_shr, ni_gi, ni_gz, ni_max, ni_min, ni_dc, ni_0a, ni_ml, ni_mle, Nat.reduceAnd, Nat.reduceAdd, Nat.reduceMul, Nat.reduceSub, Nat.reduceDiv, Nat.reduceMod, Nat.reduceXor, Nat.reduceShiftLeft, Nat.reduceShiftRight, sq_bd, sq_jn, sq_cb0, sq_cb1, sq_cb2, sq_cb3, sq_cb4, sq_cb5, e4]
    rw [if_neg (by omega), show p + 1 - 1 = p by omega]
theorem dv2 {dt tt : Nat → Int32} {r c p s : Nat} {g : Nat → Nat} (hr : r < 3) (hs : s < 7) (hp : p < 3000) (hc : c < 256) (hd : dt p = ni c) (ht : tk tt (p + 1) g) (hg : ∀ s : Nat, s < 6 → g s ≤ 100000) (m : Nat) (hm : 4 ≤ m) : ∀ k14, fn_Md_divide_L2 (ni r) dt tt (si s) (ni (gb r c g s)) (ni p) k14 m (ni 0) = k14 (ni (bm r c g s)) := by
  intro k14
  have hv : ∀ m : Nat, m < 3 → vw r g s m ≤ 100028 := fun m hm => by
    have h1 := hg _ (nx_lt s hs m hm)
    have h2 := (cs_le r hr s hs m hm).1
    unfold vw; omega
  have v0 := hv 0 (by omega)
  have v1 := hv 1 (by omega)
  have v2 := hv 2 (by omega)
  have hl := lst_le c
  have hgb := gb_le r c g s
  obtain ⟨m4, rfl⟩ : ∃ m4, m = m4 + 1 + 1 + 1 + 1 := ⟨m - 4, by omega⟩
  have hst : ∀ i m : Nat, i < 3 → fn_Md_divide_L2 (ni r) dt tt (si s) (ni (gb r c g s)) (ni p) k14 (m + 1) (ni i) = if lst c ≤ i ∧ vw r g s i = gb r c g s then k14 (ni i) else fn_Md_divide_L2 (ni r) dt tt (si s) (ni (gb r c g s)) (ni p) k14 m (ni (i + 1)) := by
    intro i m hi
    have hvi := hv i hi
    have e := md_rest (m := i) hr hs hi hp hc hd ht
    rw [fn_Md_divide_L2_s, e]
    by_cases q : lst c ≤ i
    · simp (disch := omega) only [ni_lit, ni_add, ni_mul, ni_sub, ni_lt, ni_le, ni_ix, ni_eq, ni_div, ni_rem, ni_and, ni_or, ni_xor, ni_shl, ni_shr, ni_gi, ni_gz, ni_max, ni_min, ni_dc, ni_0a, ni_ml, ni_mle, Nat.reduceAnd, Nat.reduceAdd, Nat.reduceMul, Nat.reduceSub, Nat.reduceDiv, Nat.reduceMod, Nat.reduceXor, Nat.reduceShiftLeft, Nat.reduceShiftRight, sq_bd, sq_jn, sq_cb0, sq_cb1, sq_cb2, sq_cb3, sq_cb4, sq_cb5, if_pos q]
      by_cases w : vw r g s i = gb r c g s
      · rw [if_pos w, if_pos ⟨q, w⟩]
      · rw [if_neg w, if_neg (fun z => w z.2)]
    · simp (disch := omega) only [ni_lit, ni_add, ni_mul, ni_sub, ni_lt, ni_le, ni_ix, ni_eq, ni_div, ni_rem, ni_and, ni_or, ni_xor, ni_shl, ni_shr, ni_gi, ni_gz, ni_max, ni_min, ni_dc, ni_0a, ni_ml, ni_mle, Nat.reduceAnd, Nat.reduceAdd, Nat.reduceMul, Nat.reduceSub, Nat.reduceDiv, Nat.reduceMod, Nat.reduceXor, Nat.reduceShiftLeft, Nat.reduceShiftRight, sq_bd, sq_jn, sq_cb0, sq_cb1, sq_cb2, sq_cb3, sq_cb4, sq_cb5, if_neg q]
      rw [if_neg (by omega), if_neg (fun z => q z.1)]
  obtain ⟨h1, h2, h3⟩ := bm_ok r c g s
  unfold bm at h1 h2 h3 ⊢
  rw [hst 0 _ (by omega), hst 1 _ (by omega), hst 2 _ (by omega)]
  by_cases h0 : lst c = 0 ∧ vw r g s 0 = gb r c g s
  · rw [if_pos (by omega), if_pos h0]
  · rw [if_neg (by omega), if_neg h0]
    rw [if_neg h0] at h3
    by_cases q1 : lst c ≤ 1 ∧ vw r g s 1 = gb r c g s
    · rw [if_pos q1, if_pos q1]
    · rw [if_neg q1, if_neg q1]
      rw [if_neg q1] at h3
      rw [if_pos ⟨hl, h3⟩]
theorem dv1 {dt tt : Nat → Int32} {d : Nat → Nat} {r len n0 : Nat} {x6 : Int32} (hn0 : 300 ≤ n0) (hr : r < 3) (hl : len ≤ 3000) (hd : ∀ i : Nat, i < len → dt i = ni (d i) ∧ d i < 256) (ht : ∀ q : Nat, 0 < q → q ≤ len → tk tt q (gG r d len (len - q))) : ∀ (e p m : Nat) (b : Nat → Int32), p + e = len → e < m → (∀ i : Nat, i < p → b i = ni (ch r d len i)) → ∃ b', fn_Md_divide_L1 (ni r) n0 (ni len) dt tt x6 m (si (sm r d len p)) (ni (gG r d len (len - p) (sm r d len p))) (ni p) b = some (x6, b', tt) ∧ ∀ i : Nat, i < len → b' i = ni (ch r d len i)
  | 0, p, m + 1, b, hp, _, h => by
    have hpl : p = len := by omega
    subst hpl
    refine ⟨b, ?_, h⟩
    rw [fn_Md_divide_L1_s]
    simp (disch := omega) only [ni_lit, ni_add, ni_mul, ni_sub, ni_lt, ni_le, ni_ix, ni_eq, ni_div, ni_rem, ni_and, ni_or, ni_xor, ni_shl, ni_shr, ni_gi, ni_gz, ni_max, ni_min, ni_dc, ni_0a, ni_ml, ni_mle, Nat.reduceAnd, Nat.reduceAdd, Nat.reduceMul, Nat.reduceSub, Nat.reduceDiv, Nat.reduceMod, Nat.reduceXor, Nat.reduceShiftLeft, Nat.reduceShiftRight]
    rw [if_pos (by omega)]
  | e + 1, p, m + 1, b, hp, hm, h => by
    obtain ⟨d1, d2⟩ := hd p (by omega)
    have hs := sm_lt r d len p
    have hG : gG r d len (len - p) (sm r d len p) = gb r (d p) (gG r d len (len - (p + 1))) (sm r d len p) := by
      rw [show len - p = len - (p + 1) + 1 by omega, gG_s, show len - (len - (p + 1) + 1) = p by omega]
    have e2 := dv2 (s := sm r d len p) (g := gG r d len (len - (p + 1))) hr hs (by omega) d2 d1 (ht (p + 1) (by omega) (by omega)) (fun s hs => by have := gG_le hr d len (len - (p + 1)) s (by omega); omega) n0 (by omega)
    obtain ⟨h1, h2, h3⟩ := bm_ok r (d p) (gG r d len (len - (p + 1))) (sm r d len p)
    obtain ⟨b', g1, g2⟩ := dv1 (x6 := x6) hn0 hr hl hd ht e (p + 1) m (upd b p (ni (ch r d len p))) (by omega) (by omega) (fun i hi => by
      rw [upd_a]
      by_cases q : i = p
      · rw [if_pos q, q]
      · rw [if_neg q]; exact h i (by omega))
    refine ⟨b', ?_, g2⟩
    have hcs := md_cost r hr _ hs _ h1
    have haf := md_after _ hs _ h1
    have hnx := nx_lt _ hs _ h1
    have hsub : gG r d len (len - p) (sm r d len p) - cs r (sm r d len p) (ch r d len p) = gG r d len (len - (p + 1)) (sm r d len (p + 1)) := by
      rw [hG, ← h3]
      unfold vw
      show cs r (sm r d len p) (ch r d len p) + gG r d len (len - (p + 1)) (sm r d len (p + 1)) - _ = _
      omega
    have hle : cs r (sm r d len p) (ch r d len p) ≤ gG r d len (len - p) (sm r d len p) := by
      rw [hG, ← h3]
      exact Nat.le_add_right _ _
    have hsi : ni (nx (sm r d len p) (ch r d len p)) = si (sm r d len (p + 1)) := (if_neg (by rw [sm_s]; unfold ch; omega)).symm
    have hle2 : cs r (sm r d len p) (bm r (d p) (gG r d len (len - (p + 1))) (sm r d len p)) ≤ gb r (d p) (gG r d len (len - (p + 1))) (sm r d len p) := by rw [← hG]; exact hle
    rw [fn_Md_divide_L1_s, ← g1, ← hsub, ← hsi, hG]
    simp (disch := omega) only [ni_lit, ni_add, ni_mul, ni_sub, ni_lt, ni_le, ni_ix, ni_eq, ni_div, ni_rem, ni_and, ni_or, ni_xor, ni_shl, ni_shr, ni_gi, ni_gz, ni_max, ni_min, ni_dc, ni_0a, ni_ml, ni_mle, Nat.reduceAnd, Nat.reduceAdd, Nat.reduceMul, Nat.reduceSub, Nat.reduceDiv, Nat.reduceMod, Nat.reduceXor, Nat.reduceShiftLeft, Nat.reduceShiftRight, sq_bd, sq_jn, sq_cb0, sq_cb1, sq_cb2, sq_cb3, sq_cb4, sq_cb5, e2, hcs, haf]
    rw [if_neg (by omega)]
    rfl
theorem md_divide {dt md tt : Nat → Int32} {d : Nat → Nat} {r len n0 : Nat} {bits : Int32} (hn0 : 4000 ≤ n0) (hr : r < 3) (hl : len ≤ 3000) (hd : ∀ i : Nat, i < len → dt i = ni (d i) ∧ d i < 256) : ∃ md' tt', fn_Md_divide n0 (ni r) (ni len) bits dt md tt = some (ni (gG r d len len 6), md', tt') ∧ ∀ i : Nat, i < len → md' i = ni (ch r d len i) := by
  obtain ⟨b5, e5, h5⟩ := dv5 hl 6 0 n0 tt (by omega) (by omega) (fun s hs => absurd hs (by omega))
  unfold fn_Md_divide
  by_cases q : len = 0
  · subst q
    obtain ⟨b1, e1, h1⟩ := dv1 (x6 := ni 0) (tt := b5) (d := d) (dt := dt) (n0 := n0) (by omega) hr hl hd (fun q q1 q2 => by omega) 0 0 n0 md (by omega) (by omega) (fun i hi => absurd hi (by omega))
    refine ⟨b1, b5, ?_, h1⟩
    simp only [sq_bd, sq_jn, sq_cb0, sq_cb1, sq_cb2, sq_cb3, sq_cb4, sq_cb5]
    rw [show (0 : Int32) = ni 0 from rfl, e5]
    obtain ⟨m, rfl⟩ : ∃ m, n0 = m + 1 := ⟨n0 - 1, by omega⟩
    rw [fn_Md_divide_L3_s, if_pos (by decide), if_pos rfl]
    exact e1
  · obtain ⟨b3, e3, h3⟩ := dv3 (n0 := n0) (by omega) hr hl hd (len - 1) n0 b5 (by omega) (by omega) (fun q q1 q2 => by
      rw [show q = len by omega, show len - len = 0 by omega]; exact h5)
    obtain ⟨d1, d2⟩ := hd 0 (by omega)
    have hls := md_least (s := 6) (p := 0) (g := gG r d len (len - 1)) (n0 := n0) (by omega) hr (by omega) (by omega) d2 d1 (h3 1 (by omega) (by omega)) (fun s hs => by have := gG_le hr d len (len - 1) s (by omega); omega)
    have hG : gG r d len len 6 = gb r (d 0) (gG r d len (len - 1)) 6 := by
      conv => lhs; rw [show len = len - 1 + 1 by omega]
      rw [gG_s, show len - 1 + 1 - (len - 1 + 1) = 0 by omega, show len - 1 + 1 = len by omega]
    rw [← hG] at hls
    obtain ⟨b1, e1, h1⟩ := dv1 (x6 := ni (gG r d len len 6)) (tt := b3) (d := d) (dt := dt) (n0 := n0) (by omega) hr hl hd h3 len 0 n0 md (by omega) (by omega) (fun i hi => absurd hi (by omega))
    refine ⟨b1, b3, ?_, h1⟩
    simp (disch := omega) only [ni_lit, ni_add, ni_mul, ni_sub, ni_lt, ni_le, ni_ix, ni_eq, ni_div, ni_rem, ni_and, ni_or, ni_xor, ni_shl, ni_shr, ni_gi, ni_gz, ni_max, ni_min, ni_dc, ni_0a, ni_ml, ni_mle, Nat.reduceAnd, Nat.reduceAdd, Nat.reduceMul, Nat.reduceSub, Nat.reduceDiv, Nat.reduceMod, Nat.reduceXor, Nat.reduceShiftLeft, Nat.reduceShiftRight, sq_bd, sq_jn, sq_cb0, sq_cb1, sq_cb2, sq_cb3, sq_cb4, sq_cb5, e5, e3]
    rw [if_neg q]
    rw [show (-(ni 1)) = si 6 from rfl, hls]
    exact e1
