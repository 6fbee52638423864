/-! own rows: the model's ways with a block, step by step -/
def bv (b : Nat → Int32) (N : Nat) (w : Nat → Nat) : Prop := ∀ i : Nat, i < N → b i = ni (w i) ∧ w i < 256
theorem ni_gb {β : Type} {a : Nat} {k : Option β} (h : a ≤ 1) : sq_gb (ni a) k = k := by
  unfold sq_gb
  have : ni a = 0 ∨ ni a = 1 := by
    by_cases q : a = 0
    · exact Or.inl (by rw [q]; rfl)
    · exact Or.inr (by rw [show a = 1 by omega]; rfl)
  rw [if_pos this]
theorem iz2 {w : Nat → Nat} {b : Nat → Int32} {s len x n0 : Nat} (hn0 : 300 ≤ n0) (hs : s ≤ 255) (hl : s ≤ len) (hl2 : len ≤ 256) (hb : bv b s w) (hx : x < 256) (k9 : Int32 → Option (Int32 × (Nat → Int32))) : ∀ (d j m : Nat), j + d = s → d < m → fn_Md_isZero_L2 (ni s) n0 len b (ni x) k9 m (ni (hn w x j)) (ni j) = k9 (ni (hn w x s))
  | 0, j, m + 1, hj, _ => by
    rw [fn_Md_isZero_L2_s]
    simp (disch := omega) only [ni_lit, ni_add, ni_mul, ni_sub, ni_lt, ni_le, ni_ix, ni_eq, ni_div, ni_rem, ni_and, ni_or, ni_xor, ni_shl, ni_shr, ni_gi, ni_gz, ni_max, ni_min, ni_dc, ni_0a, ni_ml, ni_mle, Nat.reduceAnd, Nat.reduceAdd, Nat.reduceMul, Nat.reduceSub, Nat.reduceDiv, Nat.reduceMod, Nat.reduceXor, Nat.reduceShiftLeft, Nat.reduceShiftRight]
    rw [if_pos (by omega), show j = s by omega]
  | d + 1, j, m + 1, hj, hm => by
    have hh := hn_lt (c := w) x (n := j) (fun i hi => (hb i (by omega)).2)
    have e1 := (hb j (by omega)).1
    rw [fn_Md_isZero_L2_s, ← iz2 hn0 hs hl hl2 hb hx k9 d (j + 1) m (by omega) (by omega), hn_s]
    simp (disch := omega) only [ni_lit, ni_add, ni_mul, ni_sub, ni_lt, ni_le, ni_ix, ni_eq, ni_div, ni_rem, ni_and, ni_or, ni_xor, ni_shl, ni_shr, ni_gi, ni_gz, ni_max, ni_min, ni_dc, ni_0a, ni_ml, ni_mle, Nat.reduceAnd, Nat.reduceAdd, Nat.reduceMul, Nat.reduceSub, Nat.reduceDiv, Nat.reduceMod, Nat.reduceXor, Nat.reduceShiftLeft, Nat.reduceShiftRight, sq_bd, sq_jn, sq_cb0, sq_cb1, sq_cb2, sq_cb3, sq_cb4, sq_cb5, md_times, e1]
    rw [if_neg (by omega)]
def zc (S : Nat → Nat) : Nat → Nat
  | 0 => 1
  | k + 1 => if zc S k = 0 then 0 else if S k = 0 then 1 else 0
theorem zc_s (S : Nat → Nat) (k : Nat) : zc S (k + 1) = if zc S k = 0 then 0 else if S k = 0 then 1 else 0 := rfl
theorem zc_le (S : Nat → Nat) : ∀ k : Nat, zc S k ≤ 1
  | 0 => by show 1 ≤ 1; omega
  | k + 1 => by
    rw [zc_s]
    split
    · omega
    · split <;> omega
theorem zc_iff (S : Nat → Nat) : ∀ k : Nat, zc S k ≠ 0 ↔ ∀ i : Nat, i < k → S i = 0
  | 0 => ⟨fun _ i hi => absurd hi (by omega), fun _ => by show 1 ≠ 0; omega⟩
  | k + 1 => by
    have ih := zc_iff S k
    rw [zc_s]
    constructor
    · intro h i hi
      by_cases q : zc S k = 0
      · rw [if_pos q] at h; exact absurd rfl h
      · rw [if_neg q] at h
        by_cases q2 : i = k
        · rw [q2]
          by_cases q3 : S k = 0
          · exact q3
          · rw [if_neg q3] at h; exact absurd rfl h
        · exact ih.mp q i (by omega)
    · intro h
      rw [if_neg (ih.mpr (fun i hi => h i (by omega))), if_pos (h k (by omega))]
      omega
theorem iz1 {w : Nat → Nat} {b : Nat → Int32} {s len c n0 : Nat} (hn0 : 300 ≤ n0) (hs : s ≤ 255) (hl : s ≤ len) (hl2 : len ≤ 256) (hc : c ≤ 32) (hb : bv b s w) : ∀ (d k m : Nat) (v : Nat → Int32), k + d = c → d < m → (∀ i : Nat, i < k → v i = ni (sy w s i)) → ∃ v', fn_Md_isZero_L1 (ni s) (ni c) n0 len b m (ni (zc (sy w s) k)) (ni k) v = some (ni (zc (sy w s) c), v') ∧ ∀ i : Nat, i < c → v' i = ni (sy w s i)
  | 0, k, m + 1, v, hk, _, hv => by
    have hkc : k = c := by omega
    subst hkc
    refine ⟨v, ?_, hv⟩
    rw [fn_Md_isZero_L1_s]
    simp (disch := omega) only [ni_lit, ni_add, ni_mul, ni_sub, ni_lt, ni_le, ni_ix, ni_eq, ni_div, ni_rem, ni_and, ni_or, ni_xor, ni_shl, ni_shr, ni_gi, ni_gz, ni_max, ni_min, ni_dc, ni_0a, ni_ml, ni_mle, Nat.reduceAnd, Nat.reduceAdd, Nat.reduceMul, Nat.reduceSub, Nat.reduceDiv, Nat.reduceMod, Nat.reduceXor, Nat.reduceShiftLeft, Nat.reduceShiftRight]
    rw [if_pos (by omega), ni_gb (zc_le _ _)]
  | d + 1, k, m + 1, v, hk, hm, hv => by
    obtain ⟨v', h1, h2⟩ := iz1 hn0 hs hl hl2 hc hb d (k + 1) m (upd v k (ni (sy w s k))) (by omega) (by omega) (fun i hi => by
      rw [upd_a]
      by_cases q : i = k
      · rw [if_pos q, q]
      · rw [if_neg q]; exact hv i (by omega))
    refine ⟨v', ?_, h2⟩
    have hzl := zc_le (sy w s) k
    have hh : hn w (pw k) s < 256 := hn_lt _ (fun i hi => (hb i hi).2)
    have hz := fun k9 => iz2 hn0 hs hl hl2 hb (pw_lt k) k9 s 0 n0 (by omega) (by omega)
    rw [show ni (hn w (pw k) 0) = ni 0 from rfl] at hz
    rw [fn_Md_isZero_L1_s, ← h1, zc_s]
    simp (disch := omega) only [ni_lit, ni_add, ni_mul, ni_sub, ni_lt, ni_le, ni_ix, ni_eq, ni_div, ni_rem, ni_and, ni_or, ni_xor, ni_shl, ni_shr, ni_gi, ni_gz, ni_max, ni_min, ni_dc, ni_0a, ni_ml, ni_mle, Nat.reduceAnd, Nat.reduceAdd, Nat.reduceMul, Nat.reduceSub, Nat.reduceDiv, Nat.reduceMod, Nat.reduceXor, Nat.reduceShiftLeft, Nat.reduceShiftRight, sq_bd, sq_jn, sq_cb0, sq_cb1, sq_cb2, sq_cb3, sq_cb4, sq_cb5, md_two, hz]
    rw [if_neg (by omega)]
    show (if zc (sy w s) k = 0 then _ else if sy w s k = 0 then _ else _) = _
    by_cases q : zc (sy w s) k = 0
    · rw [if_pos q, if_pos q]; rfl
    · rw [if_neg q, if_neg q]
      by_cases q2 : sy w s k = 0
      · rw [if_pos q2, if_pos q2]; rfl
      · rw [if_neg q2, if_neg q2]; rfl
theorem md_isZero {w : Nat → Nat} {b : Nat → Int32} {s len c n0 : Nat} (hn0 : 300 ≤ n0) (hs : s ≤ 255) (hl : s ≤ len) (hl2 : len ≤ 256) (hc : c ≤ 32) (hb : bv b s w) (v : Nat → Int32) : ∃ v', fn_Md_isZero n0 (ni s) (ni c) len b v = some (ni (zc (sy w s) c), v') ∧ ∀ i : Nat, i < c → v' i = ni (sy w s i) := iz1 hn0 hs hl hl2 hc hb c 0 n0 v (by omega) (by omega) (fun i hi => absurd hi (by omega))
/-! finds -/
def mQ (b : Nat → Int32) (A : Nat → Nat → Nat) (P : Nat → Nat → Prop) : Prop := ∀ j k : Nat, P j k → k ≤ 16 → b (17 * j + k) = ni (A j k)
theorem mQ_u {b : Nat → Int32} {A : Nat → Nat → Nat} {P : Nat → Nat → Prop} (h : mQ b A P) {r x v : Nat} (hx : x ≤ 16) (hv : v = A r x) {P' : Nat → Nat → Prop} (hp : ∀ j k : Nat, P' j k → P j k ∨ (j = r ∧ k = x)) : mQ (upd b (17 * r + x) (ni v)) A P' := by
  intro j k hjk hk
  rw [upd_a]
  by_cases q : 17 * j + k = 17 * r + x
  · rw [if_pos q, hv, show j = r by omega, show k = x by omega]
  · rw [if_neg q]
    refine h j k ((hp j k hjk).resolve_right (fun w => q ?_)) hk
    rw [w.1, w.2]
theorem fi4 {S : Nat → Nat} {v : Nat → Int32} {n r : Nat} (hq : n ≤ 15) (hr : r < n) (hv : ∀ i : Nat, i < 2 * n → v i = ni (S i)) (k42 : (Nat → Int32) → Option (Int32 × (Nat → Int32) × (Nat → Int32) × (Nat → Int32))) : ∀ (d x m : Nat) (b : Nat → Int32), x + d = n → d < m → mQ b (hk n S) (fun j k => (j < r ∧ k ≤ n) ∨ (j = r ∧ k < x)) → ∃ b', fn_Md_finds_L4 (ni n) v (ni r) k42 m (ni x) b = k42 b' ∧ mQ b' (hk n S) (fun j k => (j < r ∧ k ≤ n) ∨ (j = r ∧ k < n))
  | 0, x, m + 1, b, hx, _, h => by
    have hxn : x = n := by omega
    subst hxn
    refine ⟨b, ?_, h⟩
    rw [fn_Md_finds_L4_s]
    simp (disch := omega) only [ni_lit, ni_add, ni_mul, ni_sub, ni_lt, ni_le, ni_ix, ni_eq, ni_div, ni_rem, ni_and, ni_or, ni_xor, ni_shl, ni_shr, ni_gi, ni_gz, ni_max, ni_min, ni_dc, ni_0a, ni_ml, ni_mle, Nat.reduceAnd, Nat.reduceAdd, Nat.reduceMul, Nat.reduceSub, Nat.reduceDiv, Nat.reduceMod, Nat.reduceXor, Nat.reduceShiftLeft, Nat.reduceShiftRight]
    rw [if_pos (by omega)]
  | d + 1, x, m + 1, b, hx, hm, h => by
    obtain ⟨b', hb, hA⟩ := fi4 hq hr hv k42 d (x + 1) m (upd b (17 * r + x) (ni (S (n + r - 1 - x)))) (by omega) (by omega) (mQ_u h (by omega) (by unfold hk; rw [if_neg (by omega)]) (fun j k q => by omega))
    refine ⟨b', ?_, hA⟩
    rw [fn_Md_finds_L4_s, ← hb]
    simp (disch := omega) only [ni_lit, ni_add, ni_mul, ni_sub, ni_lt, ni_le, ni_ix, ni_eq, ni_div, ni_rem, ni_and, ni_or, ni_xor, ni_shl, ni_shr, ni_gi, ni_gz, ni_max, ni_min, ni_dc, ni_0a, ni_ml, ni_mle, Nat.reduceAnd, Nat.reduceAdd, Nat.reduceMul, Nat.reduceSub, Nat.reduceDiv, Nat.reduceMod, Nat.reduceXor, Nat.reduceShiftLeft, Nat.reduceShiftRight, sq_bd, sq_jn, sq_cb0, sq_cb1, sq_cb2, sq_cb3, sq_cb4, sq_cb5, hv]
    rw [if_neg (by omega)]
theorem fi3 {S : Nat → Nat} {v : Nat → Int32} {n n0 : Nat} (hn0 : 300 ≤ n0) (hq : n ≤ 15) (hv : ∀ i : Nat, i < 2 * n → v i = ni (S i)) (k2 : (Nat → Int32) → Option (Int32 × (Nat → Int32) × (Nat → Int32) × (Nat → Int32))) : ∀ (d x m : Nat) (b : Nat → Int32), x + d = n → d < m → mQ b (hk n S) (fun j k => j < x ∧ k ≤ n) → ∃ b', fn_Md_finds_L3 (ni n) n0 v k2 m (ni x) b = k2 b' ∧ mQ b' (hk n S) (fun j k => j < n ∧ k ≤ n)
  | 0, x, m + 1, b, hx, _, h => by
    have hxn : x = n := by omega
    subst hxn
    refine ⟨b, ?_, h⟩
    rw [fn_Md_finds_L3_s]
    simp (disch := omega) only [ni_lit, ni_add, ni_mul, ni_sub, ni_lt, ni_le, ni_ix, ni_eq, ni_div, ni_rem, ni_and, ni_or, ni_xor, ni_shl, ni_shr, ni_gi, ni_gz, ni_max, ni_min, ni_dc, ni_0a, ni_ml, ni_mle, Nat.reduceAnd, Nat.reduceAdd, Nat.reduceMul, Nat.reduceSub, Nat.reduceDiv, Nat.reduceMod, Nat.reduceXor, Nat.reduceShiftLeft, Nat.reduceShiftRight]
    rw [if_pos (by omega)]
  | d + 1, x, m + 1, b, hx, hm, h => by
    obtain ⟨b4, hb4, hA4⟩ := fi4 (r := x) hq (by omega) hv (fun b41 => fn_Md_finds_L3 (ni n) n0 v k2 m (ni (x + 1)) (upd b41 (17 * x + n) (ni (S (n + x))))) n 0 n0 b (by omega) (by omega) (fun j k q => h j k (by omega))
    obtain ⟨b', hb, hA⟩ := fi3 hn0 hq hv k2 d (x + 1) m (upd b4 (17 * x + n) (ni (S (n + x)))) (by omega) (by omega) (mQ_u hA4 (by omega) (by unfold hk; rw [if_pos rfl]) (fun j k q => by omega))
    refine ⟨b', ?_, hA⟩
    rw [fn_Md_finds_L3_s, ← hb, ← hb4]
    simp (disch := omega) only [ni_lit, ni_add, ni_mul, ni_sub, ni_lt, ni_le, ni_ix, ni_eq, ni_div, ni_rem, ni_and, ni_or, ni_xor, ni_shl, ni_shr, ni_gi, ni_gz, ni_max, ni_min, ni_dc, ni_0a, ni_ml, ni_mle, Nat.reduceAnd, Nat.reduceAdd, Nat.reduceMul, Nat.reduceSub, Nat.reduceDiv, Nat.reduceMod, Nat.reduceXor, Nat.reduceShiftLeft, Nat.reduceShiftRight, sq_bd, sq_jn, sq_cb0, sq_cb1, sq_cb2, sq_cb3, sq_cb4, sq_cb5, hv]
    rw [if_neg (by omega)]
theorem fi2z {f : Nat → Int32} {x : Int32} {n0 : Nat} (k20 : Int32 → Option (Int32 × (Nat → Int32) × (Nat → Int32) × (Nat → Int32))) (m : Nat) (v : Int32) : fn_Md_finds_L2 n0 f x k20 (m + 1) v (-(ni 1)) = k20 v := by
  rw [fn_Md_finds_L2_s]
  rw [if_pos (by decide)]
theorem fi2 {y : Nat → Nat} {f : Nat → Int32} {n x n0 : Nat} (hn0 : 300 ≤ n0) (hq : n ≤ 15) (hf : ∀ i : Nat, i < n → f i = ni (y i)) (hy : ∀ i : Nat, y i < 256) (hx : x < 256) (k20 : Int32 → Option (Int32 × (Nat → Int32) × (Nat → Int32) × (Nat → Int32))) : ∀ (d j m : Nat), j + d + 1 = n → d + 1 < m → fn_Md_finds_L2 n0 f (ni x) k20 m (ni (gm (hn (fun i => y (n - 1 - i)) x j) x)) (ni d) = k20 (ni (gm (ps y x n) x))
  | d, j, m + 1, hj, hm => by
    have e1 := hf d (by omega)
    have l1 := hy d
    have l2 := gm_lt (hn (fun i => y (n - 1 - i)) x j) x
    have l3 := x_lt l2 l1
    have e2 : gm (gm (hn (fun i => y (n - 1 - i)) x j) x ^^^ y d) x = gm (hn (fun i => y (n - 1 - i)) x (j + 1)) x := by
      rw [hn_s, show n - 1 - j = d by omega]
    rw [fn_Md_finds_L2_s]
    simp (disch := omega) only [ni_lit, ni_add, ni_mul, ni_sub, ni_lt, ni_le, ni_ix, ni_eq, ni_div, ni_rem, ni_and, ni_or, ni_xor, ni_shl, ni_shr, ni_gi, ni_gz, ni_max, ni_min, ni_dc, ni_0a, ni_ml, ni_mle, Nat.reduceAnd, Nat.reduceAdd, Nat.reduceMul, Nat.reduceSub, Nat.reduceDiv, Nat.reduceMod, Nat.reduceXor, Nat.reduceShiftLeft, Nat.reduceShiftRight, sq_bd, sq_jn, sq_cb0, sq_cb1, sq_cb2, sq_cb3, sq_cb4, sq_cb5, md_times, e1, e2]
    rw [if_neg (by omega)]
    cases d with
    | zero =>
      obtain ⟨m', rfl⟩ : ∃ m', m = m' + 1 := ⟨m - 1, by omega⟩
      rw [ni_0a, fi2z, show j + 1 = n by omega, hn_ps hy]
    | succ d =>
      rw [ni_dc (by omega)]
      exact fi2 hn0 hq hf hy hx k20 d (j + 1) m (by omega) (by omega)
/-- where the polynomial of the terms y is 0 -/
def rt (y : Nat → Nat) (n s : Nat) : Nat → Nat := fun j => if gm (ps y (pw (255 - (s - 1 - j))) n) (pw (255 - (s - 1 - j))) = 1 then 1 else 0
theorem rt_01 (y : Nat → Nat) (n s i : Nat) : rt y n s i = 0 ∨ rt y n s i = 1 := by
  unfold rt
  split
  · exact Or.inr rfl
  · exact Or.inl rfl
theorem fi1 {y : Nat → Nat} {f g : Nat → Int32} {n s n0 : Nat} (hn0 : 300 ≤ n0) (hq : n ≤ 15) (hn1 : 1 ≤ n) (hs : s ≤ 255) (hf : ∀ i : Nat, i < n → f i = ni (y i)) (hy : ∀ i : Nat, y i < 256) : ∀ (d i m : Nat) (p : Nat → Int32), i + d = s → d < m → sc (rt y n s) i ≤ n → (∀ q : Nat, q < sc (rt y n s) i → p q = ni (pl (rt y n s) i q)) → (∃ p', sc (rt y n s) s ≤ n ∧ (∀ k10, fn_Md_finds_L1 (ni n) (ni s) n0 f g k10 m (ni (sc (rt y n s) i)) (ni i) p = k10 (ni (sc (rt y n s) s)) p') ∧ ∀ q : Nat, q < sc (rt y n s) s → p' q = ni (pl (rt y n s) s q)) ∨ ∃ p', ¬ sc (rt y n s) s ≤ n ∧ ∀ k10, fn_Md_finds_L1 (ni n) (ni s) n0 f g k10 m (ni (sc (rt y n s) i)) (ni i) p = some (0, p', f, g)
  | 0, i, m + 1, p, hi, _, hc, hp => by
    have his : i = s := by omega
    subst his
    refine Or.inl ⟨p, hc, fun k10 => ?_, hp⟩
    rw [fn_Md_finds_L1_s]
    simp (disch := omega) only [ni_lit, ni_add, ni_mul, ni_sub, ni_lt, ni_le, ni_ix, ni_eq, ni_div, ni_rem, ni_and, ni_or, ni_xor, ni_shl, ni_shr, ni_gi, ni_gz, ni_max, ni_min, ni_dc, ni_0a, ni_ml, ni_mle, Nat.reduceAnd, Nat.reduceAdd, Nat.reduceMul, Nat.reduceSub, Nat.reduceDiv, Nat.reduceMod, Nat.reduceXor, Nat.reduceShiftLeft, Nat.reduceShiftRight]
    rw [if_pos (by omega)]
  | d + 1, i, m + 1, p, hi, hm, hc, hp => by
    have hl := gm_lt (ps y (pw (255 - (s - 1 - i))) n) (pw (255 - (s - 1 - i)))
    have h2 := fun k20 => fi2 (x := pw (255 - (s - 1 - i))) hn0 hq hf hy (pw_lt _) k20 (n - 1) 0 n0 (by omega) (by omega)
    rw [show gm (hn (fun i => y (n - 1 - i)) (pw (255 - (s - 1 - i))) 0) (pw (255 - (s - 1 - i))) = 0 from gm_0l _] at h2
    have ht := md_twon (n0 := n0) (a := i + 1) (b := s) (by omega) (by omega) (by omega)
    rw [show s - (i + 1) = s - 1 - i by omega] at ht
    have hstep : ∀ k10, fn_Md_finds_L1 (ni n) (ni s) n0 f g k10 (m + 1) (ni (sc (rt y n s) i)) (ni i) p = if rt y n s i = 1 then (if sc (rt y n s) i = n then some (0, p, f, g) else fn_Md_finds_L1 (ni n) (ni s) n0 f g k10 m (ni (sc (rt y n s) i + 1)) (ni (i + 1)) (upd p (sc (rt y n s) i) (ni i))) else fn_Md_finds_L1 (ni n) (ni s) n0 f g k10 m (ni (sc (rt y n s) i)) (ni (i + 1)) p := fun k10 => by
      rw [fn_Md_finds_L1_s]
      simp (disch := omega) only [ni_lit, ni_add, ni_lt, ni_le, ni_eq, sq_bd, sq_jn, sq_cb0, sq_cb1, sq_cb2, sq_cb3, sq_cb4, sq_cb5]
      rw [if_neg (by omega), ht]
      simp (disch := omega) only [ni_lit, ni_add, ni_mul, ni_sub, ni_lt, ni_le, ni_ix, ni_eq, ni_div, ni_rem, ni_and, ni_or, ni_xor, ni_shl, ni_shr, ni_gi, ni_gz, ni_max, ni_min, ni_dc, ni_0a, ni_ml, ni_mle, Nat.reduceAnd, Nat.reduceAdd, Nat.reduceMul, Nat.reduceSub, Nat.reduceDiv, Nat.reduceMod, Nat.reduceXor, Nat.reduceShiftLeft, Nat.reduceShiftRight, sq_bd, sq_jn, sq_cb0, sq_cb1, sq_cb2, sq_cb3, sq_cb4, sq_cb5, h2]
      unfold rt
      by_cases q : gm (ps y (pw (255 - (s - 1 - i))) n) (pw (255 - (s - 1 - i))) = 1
      · rw [if_pos q, if_pos q, if_pos rfl]
      · rw [if_neg q, if_neg q, if_neg (by omega)]
    by_cases q : rt y n s i = 1
    · have e : sc (rt y n s) (i + 1) = sc (rt y n s) i + 1 := by rw [sc_s, q]; rfl
      by_cases q2 : sc (rt y n s) i = n
      · refine Or.inr ⟨p, ?_, fun k10 => by rw [hstep, if_pos q, if_pos q2]⟩
        have hmono : ∀ a b : Nat, sc (rt y n s) a ≤ sc (rt y n s) (a + b) := by
          intro a b
          induction b with
          | zero => exact Nat.le_refl _
          | succ b ih => rw [show a + (b + 1) = a + b + 1 by omega, sc_s]; omega
        have := hmono (i + 1) d
        rw [show i + 1 + d = s by omega] at this
        omega
      · have ih := fi1 hn0 hq hn1 hs hf hy (g := g) d (i + 1) m (upd p (sc (rt y n s) i) (ni i)) (by omega) (by omega) (by omega) (fun r hr => by
          rw [pl_s, upd_a]
          by_cases w : r = sc (rt y n s) i
          · rw [if_pos w, if_pos w]
          · rw [if_neg w, if_neg w]; exact hp r (by omega))
        rw [e] at ih
        rcases ih with ⟨p', a1, a2, a3⟩ | ⟨p', a1, a2⟩
        · exact Or.inl ⟨p', a1, fun k10 => by rw [hstep, if_pos q, if_neg q2, a2], a3⟩
        · exact Or.inr ⟨p', a1, fun k10 => by rw [hstep, if_pos q, if_neg q2, a2]⟩
    · have q0 : rt y n s i = 0 := (rt_01 y n s i).resolve_right q
      have e : sc (rt y n s) (i + 1) = sc (rt y n s) i := by rw [sc_s, q0]; rfl
      have ih := fi1 hn0 hq hn1 hs hf hy (g := g) d (i + 1) m p (by omega) (by omega) (by omega) (fun r hr => by
          rw [pl_s, if_neg (by omega)]; exact hp r (by omega))
      rw [e] at ih
      rcases ih with ⟨p', a1, a2, a3⟩ | ⟨p', a1, a2⟩
      · exact Or.inl ⟨p', a1, fun k10 => by rw [hstep, if_neg q, a2], a3⟩
      · exact Or.inr ⟨p', a1, fun k10 => by rw [hstep, if_neg q, a2]⟩
theorem md_finds {w : Nat → Nat} {v p0 f0 g0 : Nat → Int32} {n s n0 : Nat} (hn0 : 300 ≤ n0) (hq : n ≤ 15) (hn1 : 1 ≤ n) (hs : s ≤ 255) (hw : ∀ i : Nat, i < s → w i < 256) (hv : ∀ i : Nat, i < 2 * n → v i = ni (sy w s i)) : ∃ p f g, (fn_Md_finds n0 (ni n) (ni s) p0 f0 g0 v = some (1, p, f, g) ∧ ∃ y : Nat → Nat, (∀ i : Nat, y i < 256) ∧ y n = 1 ∧ kr (hk n (sy w s)) n y ∧ sc (rt y n s) s = n ∧ ∀ q : Nat, q < n → p q = ni (pl (rt y n s) s q)) ∨ (fn_Md_finds n0 (ni n) (ni s) p0 f0 g0 v = some (0, p, f, g) ∧ ((∃ z : Nat → Nat, (∀ k : Nat, z k < 256) ∧ z n = 0 ∧ (∃ k : Nat, k < n ∧ z k ≠ 0) ∧ kr (hk n (sy w s)) n z) ∨ ∃ y : Nat → Nat, (∀ i : Nat, y i < 256) ∧ y n = 1 ∧ kr (hk n (sy w s)) n y ∧ sc (rt y n s) s ≠ n)) := by
  obtain ⟨b3, e3, h3⟩ := fi3 hn0 hq hv (fun b1 => sq_cb3 (fn_Md_solves n0 (ni n) f0 b1) fun r3 b4 b5 => if r3 = 0 then (some ((0 : Int32), p0, b4, b5)) else (sq_jn (fun (x8 : Int32) (b9 : Nat → Int32) => if x8 = ni n then (some ((1 : Int32), b9, b4, b5)) else (some ((0 : Int32), b9, b4, b5))) fun k10 => fn_Md_finds_L1 (ni n) (ni s) n0 b4 b5 k10 n0 (0 : Int32) (0 : Int32) p0)) n 0 n0 g0 (by omega) (by omega) (fun j k q => absurd q.1 (by omega))
  have hA : mA b3 n (hk n (sy w s)) := fun j hj k hk2 => ⟨h3 j k ⟨hj, hk2⟩ (by omega), by unfold hk; split <;> exact hn_lt _ hw⟩
  have e0 : fn_Md_finds n0 (ni n) (ni s) p0 f0 g0 v = _ := e3
  rw [e0]
  rcases md_solves hn0 hq hA f0 with ⟨f, b', y, h1, h2, hy, hyn, hky⟩ | ⟨b', h1, z, z1, z2, z3, z4⟩
  · rw [h1]
    simp only [sq_cb3, sq_jn]
    rw [if_neg (by decide)]
    rcases fi1 hn0 hq hn1 hs h2 hy (g := b') s 0 n0 p0 (by omega) (by omega) (by show 0 ≤ n; omega) (fun q hq2 => absurd hq2 (by show ¬ q < 0; omega)) with ⟨p', a1, a2, a3⟩ | ⟨p', a1, a2⟩
    · have a2 := a2 (fun x8 b9 => if x8 = ni n then (some ((1 : Int32), b9, f, b')) else (some ((0 : Int32), b9, f, b')))
      by_cases q : sc (rt y n s) s = n
      · refine ⟨p', f, b', Or.inl ⟨?_, y, hy, hyn, hky, q, fun r hr => a3 r (by omega)⟩⟩
        rw [q] at a2
        rw [if_pos rfl] at a2
        exact a2
      · refine ⟨p', f, b', Or.inr ⟨?_, Or.inr ⟨y, hy, hyn, hky, q⟩⟩⟩
        simp (disch := omega) only [ni_eq] at a2
        rw [if_neg q] at a2
        exact a2
    · exact ⟨p', f, b', Or.inr ⟨a2 _, Or.inr ⟨y, hy, hyn, hky, fun q => a1 (by omega)⟩⟩⟩
  · refine ⟨p0, f0, b', Or.inr ⟨?_, Or.inl ⟨z, z1, z2, z3, z4⟩⟩⟩
    rw [h1]
    rfl
/-! mends -/
theorem me4 {S P : Nat → Nat} {p : Nat → Int32} {n s r n0 : Nat} (hn0 : 300 ≤ n0) (hq : n ≤ 15) (hr : r < n) (hs : s ≤ 255) (hp : ∀ i : Nat, i < n → p i = ni (P i) ∧ P i < s) (k46 : (Nat → Int32) → Option (Int32 × (Nat → Int32) × (Nat → Int32) × (Nat → Int32))) : ∀ (d x m : Nat) (b : Nat → Int32), x + d = n → d < m → mQ b (vm n s P S) (fun j k => (j < r ∧ k ≤ n) ∨ (j = r ∧ k < x)) → ∃ b', fn_Md_mends_L4 (ni n) (ni s) n0 p (ni r) k46 m (ni x) b = k46 b' ∧ mQ b' (vm n s P S) (fun j k => (j < r ∧ k ≤ n) ∨ (j = r ∧ k < n))
  | 0, x, m + 1, b, hx, _, h => by
    have hxn : x = n := by omega
    subst hxn
    refine ⟨b, ?_, h⟩
    rw [fn_Md_mends_L4_s]
    simp (disch := omega) only [ni_lit, ni_add, ni_mul, ni_sub, ni_lt, ni_le, ni_ix, ni_eq, ni_div, ni_rem, ni_and, ni_or, ni_xor, ni_shl, ni_shr, ni_gi, ni_gz, ni_max, ni_min, ni_dc, ni_0a, ni_ml, ni_mle, Nat.reduceAnd, Nat.reduceAdd, Nat.reduceMul, Nat.reduceSub, Nat.reduceDiv, Nat.reduceMod, Nat.reduceXor, Nat.reduceShiftLeft, Nat.reduceShiftRight]
    rw [if_pos (by omega)]
  | d + 1, x, m + 1, b, hx, hm, h => by
    obtain ⟨b', hb, hA⟩ := me4 hn0 hq hr hs hp k46 d (x + 1) m (upd b (17 * r + x) (ni (pw ((s - 1 - P x) * r)))) (by omega) (by omega) (mQ_u h (by omega) (by unfold vm; rw [if_neg (by omega)]) (fun j k q => by omega))
    refine ⟨b', ?_, hA⟩
    obtain ⟨e1, l1⟩ := hp x (by omega)
    have l2 : (s - 1 - P x) * r < 2147483648 := Nat.lt_of_le_of_lt (Nat.mul_le_mul (show s - 1 - P x ≤ 255 by omega) (show r ≤ 15 by omega)) (by omega)
    rw [fn_Md_mends_L4_s, ← hb]
    simp (disch := omega) only [ni_lit, ni_add, ni_mul, ni_sub, ni_lt, ni_le, ni_ix, ni_eq, ni_div, ni_rem, ni_and, ni_or, ni_xor, ni_shl, ni_shr, ni_gi, ni_gz, ni_max, ni_min, ni_dc, ni_0a, ni_ml, ni_mle, Nat.reduceAnd, Nat.reduceAdd, Nat.reduceMul, Nat.reduceSub, Nat.reduceDiv, Nat.reduceMod, Nat.reduceXor, Nat.reduceShiftLeft, Nat.reduceShiftRight, sq_bd, sq_jn, sq_cb0, sq_cb1, sq_cb2, sq_cb3, sq_cb4, sq_cb5, e1, md_two]
    rw [if_neg (by omega)]
theorem me3 {S P : Nat → Nat} {p v : Nat → Int32} {n s n0 : Nat} (hn0 : 300 ≤ n0) (hq : n ≤ 15) (hs : s ≤ 255) (hp : ∀ i : Nat, i < n → p i = ni (P i) ∧ P i < s) (hv : ∀ i : Nat, i < n → v i = ni (S i)) (k2 : (Nat → Int32) → Option (Int32 × (Nat → Int32) × (Nat → Int32) × (Nat → Int32))) : ∀ (d x m : Nat) (b : Nat → Int32), x + d = n → d < m → mQ b (vm n s P S) (fun j k => j < x ∧ k ≤ n) → ∃ b', fn_Md_mends_L3 (ni n) (ni s) n0 p v k2 m (ni x) b = k2 b' ∧ mQ b' (vm n s P S) (fun j k => j < n ∧ k ≤ n)
  | 0, x, m + 1, b, hx, _, h => by
    have hxn : x = n := by omega
    subst hxn
    refine ⟨b, ?_, h⟩
    rw [fn_Md_mends_L3_s]
    simp (disch := omega) only [ni_lit, ni_add, ni_mul, ni_sub, ni_lt, ni_le, ni_ix, ni_eq, ni_div, ni_rem, ni_and, ni_or, ni_xor, ni_shl, ni_shr, ni_gi, ni_gz, ni_max, ni_min, ni_dc, ni_0a, ni_ml, ni_mle, Nat.reduceAnd, Nat.reduceAdd, Nat.reduceMul, Nat.reduceSub, Nat.reduceDiv, Nat.reduceMod, Nat.reduceXor, Nat.reduceShiftLeft, Nat.reduceShiftRight]
    rw [if_pos (by omega)]
  | d + 1, x, m + 1, b, hx, hm, h => by
    obtain ⟨b4, hb4, hA4⟩ := me4 (S := S) (r := x) hn0 hq (by omega) hs hp (fun b41 => fn_Md_mends_L3 (ni n) (ni s) n0 p v k2 m (ni (x + 1)) (upd b41 (17 * x + n) (ni (S x)))) n 0 n0 b (by omega) (by omega) (fun j k q => h j k (by omega))
    obtain ⟨b', hb, hA⟩ := me3 hn0 hq hs hp hv k2 d (x + 1) m (upd b4 (17 * x + n) (ni (S x))) (by omega) (by omega) (mQ_u hA4 (by omega) (by unfold vm; rw [if_pos rfl]) (fun j k q => by omega))
    refine ⟨b', ?_, hA⟩
    rw [fn_Md_mends_L3_s, ← hb, ← hb4]
    simp (disch := omega) only [ni_lit, ni_add, ni_mul, ni_sub, ni_lt, ni_le, ni_ix, ni_eq, ni_div, ni_rem, ni_and, ni_or, ni_xor, ni_shl, ni_shr, ni_gi, ni_gz, ni_max, ni_min, ni_dc, ni_0a, ni_ml, ni_mle, Nat.reduceAnd, Nat.reduceAdd, Nat.reduceMul, Nat.reduceSub, Nat.reduceDiv, Nat.reduceMod, Nat.reduceXor, Nat.reduceShiftLeft, Nat.reduceShiftRight, sq_bd, sq_jn, sq_cb0, sq_cb1, sq_cb2, sq_cb3, sq_cb4, sq_cb5, hv]
    rw [if_neg (by omega)]
theorem me2 {w : Nat → Nat} {blk : Nat → Int32} {s : Nat} (hs : s ≤ 255) (hb : bv blk s w) (k9 : (Nat → Int32) → Option (Int32 × (Nat → Int32) × (Nat → Int32) × (Nat → Int32))) : ∀ (d x m : Nat) (b : Nat → Int32), x + d = s → d < m → (∀ i : Nat, i < x → b i = ni (w i)) → ∃ b', fn_Md_mends_L2 (ni s) blk k9 m (ni x) b = k9 b' ∧ ∀ i : Nat, i < s → b' i = ni (w i)
  | 0, x, m + 1, b, hx, _, h => by
    have hxn : x = s := by omega
    subst hxn
    refine ⟨b, ?_, h⟩
    rw [fn_Md_mends_L2_s]
    simp (disch := omega) only [ni_lit, ni_add, ni_mul, ni_sub, ni_lt, ni_le, ni_ix, ni_eq, ni_div, ni_rem, ni_and, ni_or, ni_xor, ni_shl, ni_shr, ni_gi, ni_gz, ni_max, ni_min, ni_dc, ni_0a, ni_ml, ni_mle, Nat.reduceAnd, Nat.reduceAdd, Nat.reduceMul, Nat.reduceSub, Nat.reduceDiv, Nat.reduceMod, Nat.reduceXor, Nat.reduceShiftLeft, Nat.reduceShiftRight]
    rw [if_pos (by omega)]
  | d + 1, x, m + 1, b, hx, hm, h => by
    obtain ⟨b', h1, h2⟩ := me2 hs hb k9 d (x + 1) m (upd b x (ni (w x))) (by omega) (by omega) (fun i hi => by
      rw [upd_a]
      by_cases q : i = x
      · rw [if_pos q, q]
      · rw [if_neg q]; exact h i (by omega))
    have e1 := (hb x (by omega)).1
    refine ⟨b', ?_, h2⟩
    rw [fn_Md_mends_L2_s, ← h1]
    simp (disch := omega) only [ni_lit, ni_add, ni_mul, ni_sub, ni_lt, ni_le, ni_ix, ni_eq, ni_div, ni_rem, ni_and, ni_or, ni_xor, ni_shl, ni_shr, ni_gi, ni_gz, ni_max, ni_min, ni_dc, ni_0a, ni_ml, ni_mle, Nat.reduceAnd, Nat.reduceAdd, Nat.reduceMul, Nat.reduceSub, Nat.reduceDiv, Nat.reduceMod, Nat.reduceXor, Nat.reduceShiftLeft, Nat.reduceShiftRight, sq_bd, sq_jn, sq_cb0, sq_cb1, sq_cb2, sq_cb3, sq_cb4, sq_cb5, e1]
    rw [if_neg (by omega)]
def nz (y : Nat → Nat) : Nat → Nat
  | 0 => 1
  | k + 1 => if nz y k = 0 then 0 else if y k = 0 then 0 else 1
theorem nz_s (y : Nat → Nat) (k : Nat) : nz y (k + 1) = if nz y k = 0 then 0 else if y k = 0 then 0 else 1 := rfl
theorem nz_le (y : Nat → Nat) : ∀ k : Nat, nz y k ≤ 1
  | 0 => by show 1 ≤ 1; omega
  | k + 1 => by
    rw [nz_s]
    split
    · omega
    · split <;> omega
theorem nz_iff (y : Nat → Nat) : ∀ k : Nat, nz y k ≠ 0 ↔ ∀ i : Nat, i < k → y i ≠ 0
  | 0 => ⟨fun _ i hi => absurd hi (by omega), fun _ => by show 1 ≠ 0; omega⟩
  | k + 1 => by
    have ih := nz_iff y k
    rw [nz_s]
    constructor
    · intro h i hi
      by_cases q : nz y k = 0
      · rw [if_pos q] at h; exact absurd rfl h
      · rw [if_neg q] at h
        by_cases q2 : i = k
        · rw [q2]
          intro q3
          rw [if_pos q3] at h; exact absurd rfl h
        · exact ih.mp q i (by omega)
    · intro h
      rw [if_neg (ih.mpr (fun i hi => h i (by omega))), if_neg (h k (by omega))]
      omega
theorem me1 {w y P : Nat → Nat} {p f g : Nat → Int32} {n s : Nat} (hq : n ≤ 15) (hs : s ≤ 255) (hw : ∀ i : Nat, i < s → w i < 256) (hp : ∀ i : Nat, i < n → p i = ni (P i) ∧ P i < s) (hf : ∀ i : Nat, i < n → f i = ni (y i)) (hy : ∀ i : Nat, y i < 256) : ∀ (d c m : Nat) (b : Nat → Int32), c + d = n → d < m → (∀ i : Nat, i < s → b i = ni (w i ^^^ sa P y c i)) → ∃ b', fn_Md_mends_L1 (ni n) p f g m (ni (nz y c)) (ni c) b = some (ni (nz y n), f, g, b') ∧ ∀ i : Nat, i < s → b' i = ni (w i ^^^ sa P y n i)
  | 0, c, m + 1, b, hx, _, h => by
    have hxn : c = n := by omega
    subst hxn
    refine ⟨b, ?_, h⟩
    rw [fn_Md_mends_L1_s]
    simp (disch := omega) only [ni_lit, ni_add, ni_mul, ni_sub, ni_lt, ni_le, ni_ix, ni_eq, ni_div, ni_rem, ni_and, ni_or, ni_xor, ni_shl, ni_shr, ni_gi, ni_gz, ni_max, ni_min, ni_dc, ni_0a, ni_ml, ni_mle, Nat.reduceAnd, Nat.reduceAdd, Nat.reduceMul, Nat.reduceSub, Nat.reduceDiv, Nat.reduceMod, Nat.reduceXor, Nat.reduceShiftLeft, Nat.reduceShiftRight]
    rw [if_pos (by omega), ni_gb (nz_le _ _)]
  | d + 1, c, m + 1, b, hx, hm, h => by
    obtain ⟨e1, l1⟩ := hp c (by omega)
    have e2 := h (P c) l1
    have e3 := hf c (by omega)
    have l2 := hw (P c) l1
    have l3 := sa_lt (P := P) (f := y) (n := c) (fun i _ => hy i) (P c)
    have l4 := hy c
    have l5 := nz_le y c
    obtain ⟨b', h1, h2⟩ := me1 hq hs hw hp hf hy (g := g) d (c + 1) m (upd b (P c) (ni (w (P c) ^^^ sa P y c (P c) ^^^ y c))) (by omega) (by omega) (fun i hi => by
      rw [upd_a, sa_s]
      by_cases q : i = P c
      · rw [if_pos q, if_pos q.symm, q, Nat.xor_assoc]
      · rw [if_neg q, if_neg (fun z => q z.symm), x_0]; exact h i hi)
    refine ⟨b', ?_, h2⟩
    rw [fn_Md_mends_L1_s, ← h1, nz_s]
    simp (disch := omega) only [ni_lit, ni_add, ni_mul, ni_sub, ni_lt, ni_le, ni_ix, ni_eq, ni_div, ni_rem, ni_and, ni_or, ni_xor, ni_shl, ni_shr, ni_gi, ni_gz, ni_max, ni_min, ni_dc, ni_0a, ni_ml, ni_mle, Nat.reduceAnd, Nat.reduceAdd, Nat.reduceMul, Nat.reduceSub, Nat.reduceDiv, Nat.reduceMod, Nat.reduceXor, Nat.reduceShiftLeft, Nat.reduceShiftRight, sq_bd, sq_jn, sq_cb0, sq_cb1, sq_cb2, sq_cb3, sq_cb4, sq_cb5, e1, e2, e3]
    rw [if_neg (by omega)]
    by_cases q : nz y c = 0
    · rw [if_pos q, if_pos q]
    · rw [if_neg q, if_neg q]
      by_cases q2 : y c = 0
      · rw [if_pos q2, if_pos q2]
      · rw [if_neg q2, if_neg q2]
theorem md_mends {w P : Nat → Nat} {v p f0 g0 t0 blk : Nat → Int32} {n s n0 : Nat} (hn0 : 300 ≤ n0) (hq : n ≤ 15) (hs : s ≤ 255) (hd : dj P n) (hb : bv blk s w) (hp : ∀ i : Nat, i < n → p i = ni (P i) ∧ P i < s) (hv : ∀ i : Nat, i < n → v i = ni (sy w s i)) : ∃ f g b' y, fn_Md_mends n0 (ni n) (ni s) blk p f0 g0 t0 v = some (ni (nz y n), f, g, b') ∧ (∀ i : Nat, y i < 256) ∧ y n = 1 ∧ kr (vm n s P (sy w s)) n y ∧ ∀ i : Nat, i < s → b' i = ni (w i ^^^ sa P y n i) := by
  obtain ⟨b3, e3, h3⟩ := me3 (S := sy w s) hn0 hq hs hp hv (fun b1 => sq_cb3 (fn_Md_solves n0 (ni n) f0 b1) fun r3 b4 b5 => if r3 = 0 then (some ((0 : Int32), b4, b5, t0)) else (sq_jn (fun (b8 : Nat → Int32) => fn_Md_mends_L1 (ni n) p b4 b5 n0 (1 : Int32) (0 : Int32) b8) fun k9 => fn_Md_mends_L2 (ni s) blk k9 n0 (0 : Int32) t0)) n 0 n0 g0 (by omega) (by omega) (fun j k q => absurd q.1 (by omega))
  have hw : ∀ i : Nat, i < s → w i < 256 := fun i hi => (hb i hi).2
  have hA : mA b3 n (vm n s P (sy w s)) := fun j hj k hk2 => ⟨h3 j k ⟨hj, hk2⟩ (by omega), by
    unfold vm
    split
    · exact hn_lt _ hw
    · exact pw_lt _⟩
  have e0 : fn_Md_mends n0 (ni n) (ni s) blk p f0 g0 t0 v = _ := e3
  rw [e0]
  rcases md_solves hn0 hq hA f0 with ⟨f, b', y, h1, h2, hy, hyn, hky⟩ | ⟨b', h1, z, z1, z2, z3, z4⟩
  · rw [h1]
    simp only [sq_cb3, sq_jn]
    rw [if_neg (by decide)]
    obtain ⟨b2, e2, h22⟩ := me2 hs hb (fun b8 => fn_Md_mends_L1 (ni n) p f b' n0 (1 : Int32) (0 : Int32) b8) s 0 n0 t0 (by omega) (by omega) (fun i hi => absurd hi (by omega))
    obtain ⟨b1, e1, h11⟩ := me1 hq hs hw hp h2 hy (g := b') n 0 n0 b2 (by omega) (by omega) (fun i hi => by rw [h22 i hi]; show _ = ni (w i ^^^ 0); rw [x_0])
    exact ⟨f, b', b1, y, e2.trans e1, hy, hyn, hky, h11⟩
  · exfalso
    obtain ⟨k, hk2, hne⟩ := z3
    exact hne (vm_sing hs hd (fun i hi => (hp i hi).2) z1 (fun k _ => hn_lt _ hw) z4 z2 k hk2)
/-! correct -/
def wx (w E : Nat → Nat) : Nat → Nat := fun i => w i ^^^ E i
theorem sy_wx (w E : Nat → Nat) (s k : Nat) : sy (wx w E) s k = sy w s k ^^^ sy E s k := hn_x w E _ s
theorem sy_cg {w w' : Nat → Nat} {s : Nat} (h : ∀ i : Nat, i < s → w i = w' i) (k : Nat) : sy w s k = sy w' s k := hn_cg _ h
/-- one number of wrong places tried -/
theorem md_try {w : Nat → Nat} {blk p0 f0 g0 t0 v0 : Nat → Int32} {n s c n0 : Nat} (hn0 : 300 ≤ n0) (hq : n ≤ 15) (hn1 : 1 ≤ n) (hs : s ≤ 255) (hc : 2 * n ≤ c) (hc2 : c ≤ 32) (hb : bv blk s w) (p3 : Nat) (h3 : n ≤ p3) (h33 : p3 ≤ 15) (m : Nat) : (∃ p f g t v E, ER s c w n E ∧ (∀ i : Nat, i < s → t i = ni (w i ^^^ E i)) ∧ ∀ k11, fn_Md_correct_L2 (ni s) (ni c) (ni p3) n0 blk k11 (m + 1) (ni n) p0 f0 g0 t0 v0 = k11 (ni n) p f g t v) ∨ ∃ p f g t v, (∀ E, ¬ ER s c w n E) ∧ ∀ k11, fn_Md_correct_L2 (ni s) (ni c) (ni p3) n0 blk k11 (m + 1) (ni n) p0 f0 g0 t0 v0 = fn_Md_correct_L2 (ni s) (ni c) (ni p3) n0 blk k11 m (ni (n + 1)) p f g t v := by
  have hw : ∀ i : Nat, i < s → w i < 256 := fun i hi => (hb i hi).2
  obtain ⟨v1, ev, hv⟩ := md_isZero (len := 256) hn0 hs (by omega) (by omega) hc2 hb v0
  obtain ⟨p, f, g, hfi⟩ := md_finds (p0 := p0) (f0 := f0) (g0 := g0) hn0 hq hn1 hs hw (fun i hi => hv i (by omega))
  rcases hfi with ⟨e1, y, hy, hyn, hky, hsc, hp⟩ | ⟨e1, hz⟩
  · have hpl : ∀ i : Nat, i < n → p i = ni (pl (rt y n s) s i) ∧ pl (rt y n s) s i < s := fun i hi => ⟨hp i hi, (pl_ok _ s i (by omega)).1⟩
    have hd : dj (pl (rt y n s) s) n := by have := pl_inj (rt y n s) s; rw [hsc] at this; exact this
    obtain ⟨f2, g2, b2, z, e2, hz, hzn, hkz, hb2⟩ := md_mends (f0 := f) (g0 := g) (t0 := t0) hn0 hq hs hd hb hpl (fun i hi => hv i (by omega))
    have hE2 : ∀ E, ER s c w n E → (∀ k : Nat, k < n → z k = E (pl (rt y n s) s k) ∧ z k ≠ 0) ∧ ∀ i : Nat, i < s → sa (pl (rt y n s) s) z n i = E i := by
      intro E hE
      have hr : ∀ j : Nat, j < s → (rt y n s j ≠ 0 ↔ E j ≠ 0) := fun j hj => by
        rw [← hk_places hs hE hc hy hyn hky j hj]
        unfold rt
        by_cases q : gm (ps y (pw (255 - (s - 1 - j))) n) (pw (255 - (s - 1 - j))) = 1
        · rw [if_pos q]; exact ⟨fun _ => q, fun _ => by omega⟩
        · rw [if_neg q]; exact ⟨fun h => absurd rfl h, fun h => absurd h q⟩
      have hEs : ∀ i : Nat, i < s → sa (pl (rt y n s) s) (fun k => E (pl (rt y n s) s k)) n i = E i := by
        intro i hi
        by_cases q : rt y n s i = 0
        · rw [sa_out (fun k hk2 h => (pl_ok (rt y n s) s k (by omega)).2 (by rw [h]; exact q))]
          by_cases q2 : E i = 0
          · exact q2.symm
          · exact absurd q ((hr i hi).mpr q2)
        · obtain ⟨k, h1, h2⟩ := pl_all (rt y n s) s i hi q
          rw [← h2]
          exact sa_at hd (by omega)
      have hzE : ∀ k : Nat, k < n → z k = E (pl (rt y n s) s k) := vm_sol hs hd (fun i hi => (hpl i hi).2) hz (fun k _ => hn_lt _ hw) hkz hzn (fun i hi => hE.1 _ (hpl i hi).2) (fun k hk2 => by
        show sy w s k = _
        rw [hE.2.2 k (by omega), ← sa_sy (fun i hi => ⟨(hpl i hi).2, hE.1 _ (hpl i hi).2⟩)]
        exact (sy_cg hEs k).symm)
      refine ⟨fun k hk2 => ⟨hzE k hk2, ?_⟩, fun i hi => ?_⟩
      · rw [hzE k hk2]
        exact (hr _ (hpl k hk2).2).mp (pl_ok (rt y n s) s k (by omega)).2
      · rw [← hEs i hi]
        by_cases q : rt y n s i = 0
        · rw [sa_out (fun k hk2 h => (pl_ok (rt y n s) s k (by omega)).2 (by rw [h]; exact q)), sa_out (fun k hk2 h => (pl_ok (rt y n s) s k (by omega)).2 (by rw [h]; exact q))]
        · obtain ⟨k, h1, h2⟩ := pl_all (rt y n s) s i hi q
          rw [← h2, sa_at hd (by omega), sa_at hd (by omega)]
          exact hzE k (by omega)
    have hbw : bv b2 s (wx w (sa (pl (rt y n s) s) z n)) := fun i hi => ⟨hb2 i hi, x_lt (hw i hi) (sa_lt (fun k _ => hz k) i)⟩
    have hl1 := nz_le z n
    by_cases qz : nz z n = 0
    · refine Or.inr ⟨p, f2, g2, b2, v1, fun E hE => ?_, fun k11 => ?_⟩
      · exact (nz_iff z n).mpr (fun i hi => ((hE2 E hE).1 i hi).2) qz
      · rw [fn_Md_correct_L2_s]
        simp (disch := omega) only [ni_lit, ni_add, ni_mul, ni_sub, ni_lt, ni_le, ni_ix, ni_eq, ni_div, ni_rem, ni_and, ni_or, ni_xor, ni_shl, ni_shr, ni_gi, ni_gz, ni_max, ni_min, ni_dc, ni_0a, ni_ml, ni_mle, Nat.reduceAnd, Nat.reduceAdd, Nat.reduceMul, Nat.reduceSub, Nat.reduceDiv, Nat.reduceMod, Nat.reduceXor, Nat.reduceShiftLeft, Nat.reduceShiftRight, sq_bd, sq_jn, sq_cb0, sq_cb1, sq_cb2, sq_cb3, sq_cb4, sq_cb5, ev, e1, e2]
        rw [if_neg (by omega), if_neg (by omega), if_pos qz]
    · obtain ⟨v2, ev2, hv2⟩ := md_isZero (len := 256) hn0 hs (by omega) (by omega) hc2 hbw v1
      have hl2 := zc_le (sy (wx w (sa (pl (rt y n s) s) z n)) s) c
      by_cases qc : zc (sy (wx w (sa (pl (rt y n s) s) z n)) s) c = 0
      · refine Or.inr ⟨p, f2, g2, b2, v2, fun E hE => ?_, fun k11 => ?_⟩
        · refine (zc_iff _ c).mpr (fun k hk2 => ?_) qc
          rw [sy_wx, sy_cg (hE2 E hE).2, hE.2.2 k hk2, x_s]
        · rw [fn_Md_correct_L2_s]
          simp (disch := omega) only [ni_lit, ni_add, ni_mul, ni_sub, ni_lt, ni_le, ni_ix, ni_eq, ni_div, ni_rem, ni_and, ni_or, ni_xor, ni_shl, ni_shr, ni_gi, ni_gz, ni_max, ni_min, ni_dc, ni_0a, ni_ml, ni_mle, Nat.reduceAnd, Nat.reduceAdd, Nat.reduceMul, Nat.reduceSub, Nat.reduceDiv, Nat.reduceMod, Nat.reduceXor, Nat.reduceShiftLeft, Nat.reduceShiftRight, sq_bd, sq_jn, sq_cb0, sq_cb1, sq_cb2, sq_cb3, sq_cb4, sq_cb5, ev, e1, e2, ev2]
          rw [if_neg (by omega), if_neg (by omega), if_neg qz, if_pos qc]
      · refine Or.inl ⟨p, f2, g2, b2, v2, sa (pl (rt y n s) s) z n, ⟨fun j _ => sa_lt (fun k _ => hz k) j, sa_sc hd (fun i hi => ⟨(hpl i hi).2, (nz_iff z n).mp qz i hi⟩), fun k hk2 => ?_⟩, hb2, fun k11 => ?_⟩
        · have := (zc_iff _ c).mp qc k hk2
          rw [sy_wx] at this
          exact x_eq this
        · rw [fn_Md_correct_L2_s]
          simp (disch := omega) only [ni_lit, ni_add, ni_mul, ni_sub, ni_lt, ni_le, ni_ix, ni_eq, ni_div, ni_rem, ni_and, ni_or, ni_xor, ni_shl, ni_shr, ni_gi, ni_gz, ni_max, ni_min, ni_dc, ni_0a, ni_ml, ni_mle, Nat.reduceAnd, Nat.reduceAdd, Nat.reduceMul, Nat.reduceSub, Nat.reduceDiv, Nat.reduceMod, Nat.reduceXor, Nat.reduceShiftLeft, Nat.reduceShiftRight, sq_bd, sq_jn, sq_cb0, sq_cb1, sq_cb2, sq_cb3, sq_cb4, sq_cb5, ev, e1, e2, ev2]
          rw [if_neg (by omega), if_neg (by omega), if_neg qz, if_neg qc]
  · refine Or.inr ⟨p, f, g, t0, v1, fun E hE => ?_, fun k11 => ?_⟩
    · rcases hz with ⟨z, z1, z2, ⟨k, z3, z4⟩, z5⟩ | ⟨y, hy, hyn, hky, hsc⟩
      · exact z4 (hk_sing hs hE hc z1 z5 z2 k z3)
      · apply hsc
        have : sc (rt y n s) s = sc E s := by
          have h1 : ∀ j : Nat, j < s → (rt y n s j ≠ 0 ↔ E j ≠ 0) := fun j hj => by
            rw [← hk_places hs hE hc hy hyn hky j hj]
            unfold rt
            by_cases q : gm (ps y (pw (255 - (s - 1 - j))) n) (pw (255 - (s - 1 - j))) = 1
            · rw [if_pos q]; exact ⟨fun _ => q, fun _ => by omega⟩
            · rw [if_neg q]; exact ⟨fun h => absurd rfl h, fun h => absurd h q⟩
          exact Nat.le_antisymm (sc_mono (fun j hj h => (h1 j hj).mp h)) (sc_mono (fun j hj h => (h1 j hj).mpr h))
        rw [this, hE.2.1]
    · rw [fn_Md_correct_L2_s]
      simp (disch := omega) only [ni_lit, ni_add, ni_mul, ni_sub, ni_lt, ni_le, ni_ix, ni_eq, ni_div, ni_rem, ni_and, ni_or, ni_xor, ni_shl, ni_shr, ni_gi, ni_gz, ni_max, ni_min, ni_dc, ni_0a, ni_ml, ni_mle, Nat.reduceAnd, Nat.reduceAdd, Nat.reduceMul, Nat.reduceSub, Nat.reduceDiv, Nat.reduceMod, Nat.reduceXor, Nat.reduceShiftLeft, Nat.reduceShiftRight, sq_bd, sq_jn, sq_cb0, sq_cb1, sq_cb2, sq_cb3, sq_cb4, sq_cb5, ev, e1]
      rw [if_neg (by omega), if_pos trivial]
theorem md_tries {w : Nat → Nat} {blk : Nat → Int32} {s c n0 most : Nat} (hn0 : 300 ≤ n0) (hs : s ≤ 255) (hm : most ≤ 15) (hc : 2 * most ≤ c) (hc2 : c ≤ 32) (hb : bv blk s w) : ∀ (d n m : Nat) (p f g t v : Nat → Int32), n + d = most + 1 → 1 ≤ n → d < m → (∃ i p' f' g' t' v' E, n ≤ i ∧ i ≤ most ∧ ER s c w i E ∧ (∀ i : Nat, i < s → t' i = ni (w i ^^^ E i)) ∧ ∀ k11, fn_Md_correct_L2 (ni s) (ni c) (ni most) n0 blk k11 m (ni n) p f g t v = k11 (ni i) p' f' g' t' v') ∨ ∃ p' f' g' t' v', (∀ i E, n ≤ i → i ≤ most → ¬ ER s c w i E) ∧ ∀ k11, fn_Md_correct_L2 (ni s) (ni c) (ni most) n0 blk k11 m (ni n) p f g t v = some (-1, blk, p', f', g', t', v')
  | 0, n, m + 1, p, f, g, t, v, hx, _, _ => by
    refine Or.inr ⟨p, f, g, t, v, fun i E h1 h2 => by omega, fun k11 => ?_⟩
    rw [fn_Md_correct_L2_s]
    simp (disch := omega) only [ni_lt]
    rw [if_pos (by omega)]
  | d + 1, n, m + 1, p, f, g, t, v, hx, h1, hm2 => by
    rcases md_try (p0 := p) (f0 := f) (g0 := g) (t0 := t) (v0 := v) (n := n) hn0 (by omega) h1 hs (by omega) hc2 hb most (by omega) hm m with ⟨p', f', g', t', v', E, a1, a2, a3⟩ | ⟨p', f', g', t', v', a1, a2⟩
    · exact Or.inl ⟨n, p', f', g', t', v', E, by omega, by omega, a1, a2, a3⟩
    · rcases md_tries hn0 hs hm hc hc2 hb d (n + 1) m p' f' g' t' v' (by omega) (by omega) (by omega) with ⟨i, p2, f2, g2, t2, v2, E, b1, b2, b3, b4, b5⟩ | ⟨p2, f2, g2, t2, v2, b1, b2⟩
      · exact Or.inl ⟨i, p2, f2, g2, t2, v2, E, by omega, b2, b3, b4, fun k11 => by rw [a2, b5]⟩
      · refine Or.inr ⟨p2, f2, g2, t2, v2, fun i E q1 q2 => ?_, fun k11 => by rw [a2, b2]⟩
        by_cases q : i = n
        · rw [q]; exact a1 E
        · exact b1 i E (by omega) q2
theorem co1 {u : Nat → Nat} {t : Nat → Int32} {s : Nat} (hs : s ≤ 255) (ht : ∀ i : Nat, i < s → t i = ni (u i)) (x5 : Int32) (b6 b7 b8 b10 : Nat → Int32) : ∀ (d x m : Nat) (b : Nat → Int32), x + d = s → d < m → (∀ i : Nat, i < x → b i = ni (u i)) → ∃ b', fn_Md_correct_L1 (ni s) x5 b6 b7 b8 t b10 m (ni x) b = some (x5, b', b6, b7, b8, t, b10) ∧ ∀ i : Nat, i < s → b' i = ni (u i)
  | 0, x, m + 1, b, hx, _, h => by
    have hxn : x = s := by omega
    subst hxn
    refine ⟨b, ?_, h⟩
    rw [fn_Md_correct_L1_s]
    simp (disch := omega) only [ni_lit, ni_add, ni_mul, ni_sub, ni_lt, ni_le, ni_ix, ni_eq, ni_div, ni_rem, ni_and, ni_or, ni_xor, ni_shl, ni_shr, ni_gi, ni_gz, ni_max, ni_min, ni_dc, ni_0a, ni_ml, ni_mle, Nat.reduceAnd, Nat.reduceAdd, Nat.reduceMul, Nat.reduceSub, Nat.reduceDiv, Nat.reduceMod, Nat.reduceXor, Nat.reduceShiftLeft, Nat.reduceShiftRight]
    rw [if_pos (by omega)]
  | d + 1, x, m + 1, b, hx, hm, h => by
    obtain ⟨b', h1, h2⟩ := co1 hs ht x5 b6 b7 b8 b10 d (x + 1) m (upd b x (ni (u x))) (by omega) (by omega) (fun i hi => by
      rw [upd_a]
      by_cases q : i = x
      · rw [if_pos q, q]
      · rw [if_neg q]; exact h i (by omega))
    have e1 := ht x (by omega)
    refine ⟨b', ?_, h2⟩
    rw [fn_Md_correct_L1_s, ← h1]
    simp (disch := omega) only [ni_lit, ni_add, ni_mul, ni_sub, ni_lt, ni_le, ni_ix, ni_eq, ni_div, ni_rem, ni_and, ni_or, ni_xor, ni_shl, ni_shr, ni_gi, ni_gz, ni_max, ni_min, ni_dc, ni_0a, ni_ml, ni_mle, Nat.reduceAnd, Nat.reduceAdd, Nat.reduceMul, Nat.reduceSub, Nat.reduceDiv, Nat.reduceMod, Nat.reduceXor, Nat.reduceShiftLeft, Nat.reduceShiftRight, sq_bd, sq_jn, sq_cb0, sq_cb1, sq_cb2, sq_cb3, sq_cb4, sq_cb5, e1]
    rw [if_neg (by omega)]
/-- the model puts a block right within most places, or says NONE -/
theorem md_correct {w : Nat → Nat} {blk p f g t v : Nat → Int32} {s c n0 most : Nat} (hn0 : 300 ≤ n0) (hs : s ≤ 255) (hm : most ≤ 15) (hc : 2 * most ≤ c) (hc2 : c ≤ 32) (hb : bv blk s w) : ∃ blk' p' f' g' t' v', (∃ i E, i ≤ most ∧ ER s c w i E ∧ (∀ j : Nat, j < s → blk' j = ni (w j ^^^ E j)) ∧ fn_Md_correct n0 (ni s) (ni c) (ni most) blk p f g t v = some (ni i, blk', p', f', g', t', v')) ∨ ((∀ i E, i ≤ most → ¬ ER s c w i E) ∧ fn_Md_correct n0 (ni s) (ni c) (ni most) blk p f g t v = some (-1, blk', p', f', g', t', v')) := by
  obtain ⟨v1, ev, hv⟩ := md_isZero (len := 256) hn0 hs (by omega) (by omega) hc2 hb v
  have hl := zc_le (sy w s) c
  unfold fn_Md_correct
  simp only [ev, sq_bd, sq_jn, sq_cb0, sq_cb1, sq_cb2, sq_cb3, sq_cb4, sq_cb5]
  by_cases q : zc (sy w s) c = 0
  · rcases md_tries hn0 hs hm hc hc2 hb most 1 n0 p f g t v1 (by omega) (by omega) (by omega) with ⟨i, p2, f2, g2, t2, v2, E, b1, b2, b3, b4, b5⟩ | ⟨p2, f2, g2, t2, v2, b1, b2⟩
    · obtain ⟨b', e1, h1⟩ := co1 hs b4 (ni i) p2 f2 g2 v2 s 0 n0 blk (by omega) (by omega) (fun i hi => absurd hi (by omega))
      refine ⟨b', p2, f2, g2, t2, v2, Or.inl ⟨i, E, b2, b3, h1, ?_⟩⟩
      rw [q, if_pos ni_0, ← e1]
      exact b5 _
    · refine ⟨blk, p2, f2, g2, t2, v2, Or.inr ⟨fun i E h1 hE => ?_, ?_⟩⟩
      · by_cases q0 : i = 0
        · subst q0
          have hz := sc_z hE.2.1
          refine (zc_iff (sy w s) c).mpr (fun k hk2 => ?_) q
          rw [hE.2.2 k hk2, sy_cg (w' := fun _ => 0) hz]
          exact hn_0 _ _
        · exact b1 i E (by omega) h1 hE
      · rw [q, if_pos ni_0]
        exact b2 _
  · refine ⟨blk, p, f, g, t, v1, Or.inl ⟨0, fun _ => 0, by omega, ⟨fun _ _ => (by omega : (0 : Nat) < 256), sc_z2 (fun _ _ => rfl), fun k hk2 => ?_⟩, fun j hj => by rw [x_0]; exact (hb j hj).1, ?_⟩⟩
    · rw [(zc_iff (sy w s) c).mp q k hk2]
      exact (hn_0 _ _).symm
    · rw [show zc (sy w s) c = 1 by omega, if_neg (by decide)]
      rfl
