/-! own rows: the class puts a block right (Berlekamp, Massey, Forney) -/
theorem ni_gc {β : Type} {a b n x y : Nat} {k : Option β} (h1 : a + n ≤ x) (h2 : b + n ≤ y) (hx : x ≤ 2147483647) (hy : y ≤ 2147483647) : sq_gc (ni a) (ni b) (ni n) x y k = k := by
  unfold sq_gc
  have e : ∀ z : Nat, z < 2147483648 → ¬ ni z < 0 := fun z hz => by rw [← ni_0, ni_lt hz (by omega)]; omega
  rw [if_neg]
  rw [ni_ix (by omega), ni_ix (by omega), ni_ix (by omega)]
  rintro (q | q | q | q | q)
  · exact e _ (by omega) q
  · exact e _ (by omega) q
  · exact e _ (by omega) q
  · omega
  · omega
theorem fl1 {v : Int32} {len : Nat} (hl : len < 2147483648) : ∀ (d x m : Nat) (b : Nat → Int32), x + d = len → d < m → (∀ i : Nat, i < x → b i = v) → ∃ b', fn_JArrays_fill1_L1 v len (ni len) m (ni x) b = some b' ∧ ∀ i : Nat, i < len → b' i = v
  | 0, x, m + 1, b, hx, _, h => by
    have hxn : x = len := by omega
    subst hxn
    refine ⟨b, ?_, h⟩
    rw [fn_JArrays_fill1_L1_s]
    simp (disch := omega) only [ni_lit, ni_add, ni_mul, ni_sub, ni_lt, ni_le, ni_ix, ni_eq, ni_div, ni_rem, ni_and, ni_or, ni_xor, ni_shl, ni_shr, ni_gi, ni_gz, ni_max, ni_min, ni_dc, ni_0a, ni_ml, ni_mle, Nat.reduceAnd, Nat.reduceAdd, Nat.reduceMul, Nat.reduceSub, Nat.reduceDiv, Nat.reduceMod, Nat.reduceXor, Nat.reduceShiftLeft, Nat.reduceShiftRight]
    rw [if_pos (by omega)]
  | d + 1, x, m + 1, b, hx, hm, h => by
    obtain ⟨b', h1, h2⟩ := fl1 hl d (x + 1) m (upd b x v) (by omega) (by omega) (fun i hi => by
      rw [upd_a]
      by_cases q : i = x
      · rw [if_pos q]
      · rw [if_neg q]; exact h i (by omega))
    refine ⟨b', ?_, h2⟩
    rw [fn_JArrays_fill1_L1_s, ← h1]
    simp (disch := omega) only [ni_lit, ni_add, ni_mul, ni_sub, ni_lt, ni_le, ni_ix, ni_eq, ni_div, ni_rem, ni_and, ni_or, ni_xor, ni_shl, ni_shr, ni_gi, ni_gz, ni_max, ni_min, ni_dc, ni_0a, ni_ml, ni_mle, Nat.reduceAnd, Nat.reduceAdd, Nat.reduceMul, Nat.reduceSub, Nat.reduceDiv, Nat.reduceMod, Nat.reduceXor, Nat.reduceShiftLeft, Nat.reduceShiftRight, sq_bd, sq_jn, sq_cb0, sq_cb1, sq_cb2, sq_cb3, sq_cb4, sq_cb5]
    rw [if_neg (by omega)]
theorem fill1 {v : Int32} {len n0 : Nat} (hl : len < 2147483648) (hn : len < n0) (b : Nat → Int32) : ∃ b', fn_JArrays_fill1 n0 v len b = some b' ∧ ∀ i : Nat, i < len → b' i = v := fl1 hl len 0 n0 b (by omega) (by omega) (fun i hi => absurd hi (by omega))
theorem vl1z {p3 : Int32} {lg pv b : Nat → Int32} {len : Nat} (m : Nat) (v : Int32) : fn_Field_value_L1 p3 len b lg pv (m + 1) v (-(ni 1)) = some v := by
  rw [fn_Field_value_L1_s]
  rw [if_pos (by decide)]
theorem vl1 {lg pv b : Nat → Int32} {u : Nat → Nat} {x n len : Nat} (F : FD lg pv) (hx : x < 256) (hl : n ≤ len) (hl2 : len ≤ 256) (hb : bv b n u) : ∀ (d j m : Nat), j + d + 1 = n → d + 1 < m → fn_Field_value_L1 (ni x) len b lg pv m (ni (hn (fun i => u (n - 1 - i)) x j)) (ni d) = some (ni (hn (fun i => u (n - 1 - i)) x n))
  | d, j, m + 1, hj, hm => by
    obtain ⟨e1, l1⟩ := hb d (by omega)
    have l2 : hn (fun i => u (n - 1 - i)) x j < 256 := hn_lt _ (fun i hi => (hb _ (by omega)).2)
    have e2 : gm (hn (fun i => u (n - 1 - i)) x j) x ^^^ u d = hn (fun i => u (n - 1 - i)) x (j + 1) := by
      rw [hn_s, show n - 1 - j = d by omega]
    rw [fn_Field_value_L1_s]
    simp (disch := omega) only [ni_lit, ni_add, ni_mul, ni_sub, ni_lt, ni_le, ni_ix, ni_eq, ni_div, ni_rem, ni_and, ni_or, ni_xor, ni_shl, ni_shr, ni_gi, ni_gz, ni_max, ni_min, ni_dc, ni_0a, ni_ml, ni_mle, Nat.reduceAnd, Nat.reduceAdd, Nat.reduceMul, Nat.reduceSub, Nat.reduceDiv, Nat.reduceMod, Nat.reduceXor, Nat.reduceShiftLeft, Nat.reduceShiftRight, sq_bd, sq_jn, sq_cb0, sq_cb1, sq_cb2, sq_cb3, sq_cb4, sq_cb5, fd_times F, e1, e2]
    rw [if_neg (by omega)]
    cases d with
    | zero =>
      obtain ⟨m', rfl⟩ : ∃ m', m = m' + 1 := ⟨m - 1, by omega⟩
      rw [ni_0a, vl1z, show j + 1 = n by omega]
    | succ d =>
      rw [ni_dc (by omega)]
      exact vl1 F hx hl hl2 hb d (j + 1) m (by omega) (by omega)
theorem fd_value {lg pv b : Nat → Int32} {u : Nat → Nat} {x n len n0 : Nat} (hn0 : 300 ≤ n0) (F : FD lg pv) (hx : x < 256) (h1 : 1 ≤ n) (hl : n ≤ len) (hl2 : len ≤ 256) (hb : bv b n u) : fn_Field_value n0 (ni n) (ni x) len b lg pv = some (ni (hn (fun i => u (n - 1 - i)) x n)) := by
  unfold fn_Field_value
  rw [show Int32.ofNat len = ni len from rfl]
  simp (disch := omega) only [ni_lit, ni_add, ni_mul, ni_sub, ni_lt, ni_le, ni_ix, ni_eq, ni_div, ni_rem, ni_and, ni_or, ni_xor, ni_shl, ni_shr, ni_gi, ni_gz, ni_max, ni_min, ni_dc, ni_0a, ni_ml, ni_mle, Nat.reduceAnd, Nat.reduceAdd, Nat.reduceMul, Nat.reduceSub, Nat.reduceDiv, Nat.reduceMod, Nat.reduceXor, Nat.reduceShiftLeft, Nat.reduceShiftRight, sq_bd, sq_jn, sq_cb0, sq_cb1, sq_cb2, sq_cb3, sq_cb4, sq_cb5]
  rw [Nat.min_eq_left hl]
  exact vl1 F hx hl hl2 hb (n - 1) 0 n0 (by omega) (by omega)
def oc (S : Nat → Nat) : Nat → Nat
  | 0 => 0
  | k + 1 => oc S k ||| S k
theorem oc_lt {S : Nat → Nat} (h : ∀ i : Nat, S i < 256) : ∀ k : Nat, oc S k < 256
  | 0 => by show 0 < 256; omega
  | k + 1 => Nat.or_lt_two_pow (n := 8) (oc_lt h k) (h k)
theorem oc_iff (S : Nat → Nat) : ∀ k : Nat, oc S k = 0 ↔ ∀ i : Nat, i < k → S i = 0
  | 0 => ⟨fun _ i hi => absurd hi (by omega), fun _ => rfl⟩
  | k + 1 => by
    have ih := oc_iff S k
    show oc S k ||| S k = 0 ↔ _
    rw [Nat.or_eq_zero_iff, ih]
    constructor
    · rintro ⟨h1, h2⟩ i hi
      by_cases q : i = k
      · rw [q]; exact h2
      · exact h1 i (by omega)
    · intro h
      exact ⟨fun i hi => h i (by omega), h k (by omega)⟩
theorem fs1 {lg pv blk : Nat → Int32} {w : Nat → Nat} {s c n0 : Nat} (hn0 : 300 ≤ n0) (F : FD lg pv) (hs1 : 1 ≤ s) (hs : s ≤ 255) (hc : c ≤ 32) (hb : bv blk s (fun i => w (s - 1 - i))) (k3 : Int32 → (Nat → Int32) → Option (Int32 × (Nat → Int32))) : ∀ (d k m : Nat) (v : Nat → Int32), k + d = c → d < m → (∀ i : Nat, i < k → v i = ni (sy w s i)) → ∃ v', fn_Mender_findSyndromes_L1 (ni s) (ni c) n0 blk lg pv k3 m (ni (oc (sy w s) k)) (ni k) v = k3 (ni (oc (sy w s) c)) v' ∧ ∀ i : Nat, i < c → v' i = ni (sy w s i)
  | 0, k, m + 1, v, hk, _, hv => by
    have hkc : k = c := by omega
    subst hkc
    refine ⟨v, ?_, hv⟩
    rw [fn_Mender_findSyndromes_L1_s]
    simp (disch := omega) only [ni_lit, ni_add, ni_mul, ni_sub, ni_lt, ni_le, ni_ix, ni_eq, ni_div, ni_rem, ni_and, ni_or, ni_xor, ni_shl, ni_shr, ni_gi, ni_gz, ni_max, ni_min, ni_dc, ni_0a, ni_ml, ni_mle, Nat.reduceAnd, Nat.reduceAdd, Nat.reduceMul, Nat.reduceSub, Nat.reduceDiv, Nat.reduceMod, Nat.reduceXor, Nat.reduceShiftLeft, Nat.reduceShiftRight]
    rw [if_pos (by omega)]
  | d + 1, k, m + 1, v, hk, hm, hv => by
    obtain ⟨v', h1, h2⟩ := fs1 hn0 F hs1 hs hc hb k3 d (k + 1) m (upd v k (ni (sy w s k))) (by omega) (by omega) (fun i hi => by
      rw [upd_a]
      by_cases q : i = k
      · rw [if_pos q, q]
      · rw [if_neg q]; exact hv i (by omega))
    refine ⟨v', ?_, h2⟩
    have hvl := fd_value (len := 255) hn0 F (pw_lt k) hs1 hs (by omega) hb
    have e : hn (fun i => w (s - 1 - (s - 1 - i))) (pw k) s = sy w s k := hn_cg _ (fun i hi => by rw [show s - 1 - (s - 1 - i) = i by omega])
    rw [e] at hvl
    rw [fn_Mender_findSyndromes_L1_s, ← h1]
    simp (disch := omega) only [ni_lit, ni_add, ni_mul, ni_sub, ni_lt, ni_le, ni_ix, ni_eq, ni_div, ni_rem, ni_and, ni_or, ni_xor, ni_shl, ni_shr, ni_gi, ni_gz, ni_max, ni_min, ni_dc, ni_0a, ni_ml, ni_mle, Nat.reduceAnd, Nat.reduceAdd, Nat.reduceMul, Nat.reduceSub, Nat.reduceDiv, Nat.reduceMod, Nat.reduceXor, Nat.reduceShiftLeft, Nat.reduceShiftRight, sq_bd, sq_jn, sq_cb0, sq_cb1, sq_cb2, sq_cb3, sq_cb4, sq_cb5, fd_power F, hvl, upd_s]
    rw [if_neg (by omega), if_neg (by omega)]
    rfl
theorem me_syn {lg pv blk : Nat → Int32} {w : Nat → Nat} {s c n0 : Nat} (hn0 : 300 ≤ n0) (F : FD lg pv) (hs1 : 1 ≤ s) (hs : s ≤ 255) (hc : c ≤ 32) (hw : ∀ i : Nat, i < s → w i < 256) (hb : bv blk s (fun i => w (s - 1 - i))) (v : Nat → Int32) : ∃ v', fn_Mender_findSyndromes n0 (ni s) (ni c) blk v lg pv = some (ni (if oc (sy w s) c = 0 then 0 else 1), v') ∧ ∀ i : Nat, i < c → v' i = ni (sy w s i) := by
  obtain ⟨v', h1, h2⟩ := fs1 hn0 F hs1 hs hc hb (fun (x1 : Int32) (b2 : Nat → Int32) => if x1 = 0 then (some ((0 : Int32), b2)) else (some ((1 : Int32), b2))) c 0 n0 v (by omega) (by omega) (fun i hi => absurd hi (by omega))
  refine ⟨v', ?_, h2⟩
  have h3 : fn_Mender_findSyndromes n0 (ni s) (ni c) blk v lg pv = _ := h1
  have hl := oc_lt (S := sy w s) (fun i => hn_lt _ hw) c
  rw [h3]
  simp (disch := omega) only [ni_lit, ni_eq]
  by_cases q : oc (sy w s) c = 0
  · rw [if_pos q, if_pos q]
  · rw [if_neg q, if_neg q]
theorem ms1 {lg pv loc syn : Nat → Int32} {C S : Nat → Nat} {n L : Nat} (F : FD lg pv) (hnn : n < 32) (hL : L < 32) (hC : bv loc 32 C) (hS : bv syn (n + 1) S) : ∀ (d i m : Nat), i + d = min L n + 1 → d < m → fn_Mender_missAt_L1 (ni n) (ni L) loc syn lg pv m (ni (xs i (fun i => gm (C i) (S (n - i))))) (ni i) = some (ni (xs (min L n + 1) (fun i => gm (C i) (S (n - i)))))
  | 0, i, m + 1, hi, _ => by
    rw [fn_Mender_missAt_L1_s, show i = min L n + 1 by omega]
    simp (disch := omega) only [ni_lit, ni_add, ni_mul, ni_sub, ni_lt, ni_le, ni_ix, ni_eq, ni_div, ni_rem, ni_and, ni_or, ni_xor, ni_shl, ni_shr, ni_gi, ni_gz, ni_max, ni_min, ni_dc, ni_0a, ni_ml, ni_mle, Nat.reduceAnd, Nat.reduceAdd, Nat.reduceMul, Nat.reduceSub, Nat.reduceDiv, Nat.reduceMod, Nat.reduceXor, Nat.reduceShiftLeft, Nat.reduceShiftRight]
    by_cases q : L < min L n + 1
    · rw [if_pos q]
    · rw [if_neg q, if_pos (by omega)]
  | d + 1, i, m + 1, hi, hm => by
    obtain ⟨e1, l1⟩ := hC i (by omega)
    obtain ⟨e2, l2⟩ := hS (n - i) (by omega)
    rw [fn_Mender_missAt_L1_s, ← ms1 F hnn hL hC hS d (i + 1) m (by omega) (by omega)]
    simp (disch := omega) only [ni_lit, ni_add, ni_mul, ni_sub, ni_lt, ni_le, ni_ix, ni_eq, ni_div, ni_rem, ni_and, ni_or, ni_xor, ni_shl, ni_shr, ni_gi, ni_gz, ni_max, ni_min, ni_dc, ni_0a, ni_ml, ni_mle, Nat.reduceAnd, Nat.reduceAdd, Nat.reduceMul, Nat.reduceSub, Nat.reduceDiv, Nat.reduceMod, Nat.reduceXor, Nat.reduceShiftLeft, Nat.reduceShiftRight, sq_bd, sq_jn, sq_cb0, sq_cb1, sq_cb2, sq_cb3, sq_cb4, sq_cb5, e1, e2, fd_times F]
    rw [if_neg (by omega), if_neg (by omega), if_neg (by omega)]
    rfl
theorem me_miss {lg pv loc syn : Nat → Int32} {C S : Nat → Nat} {n L n0 : Nat} (hn0 : 300 ≤ n0) (F : FD lg pv) (hnn : n < 32) (hL : L < 32) (hC : bv loc 32 C) (hz : ∀ i : Nat, L < i → i ≤ n → C i = 0) (hS : bv syn (n + 1) S) : fn_Mender_missAt n0 (ni n) (ni L) loc syn lg pv = some (ni (cv C S n)) := by
  have := ms1 F hnn hL hC hS (min L n + 1) 0 n0 (by omega) (by omega)
  refine Eq.trans this ?_
  congr 2
  exact (xs_up (by omega) (fun i h1 h2 => by rw [hz i (by omega) (by omega), gm_0l])).symm
theorem ao1 {lg pv old : Nat → Int32} {B C : Nat → Nat} {f sh : Nat} (F : FD lg pv) (hf : f < 256) (hsh : sh < 32) (hB : bv old 32 B) (hC : ∀ i : Nat, C i < 256) : ∀ (d x m : Nat) (b : Nat → Int32), x + d + sh = 32 → d < m → (∀ i : Nat, i < 32 → b i = ni (if i < x + sh then bmC C B sh f i else C i)) → ∃ b', fn_Mender_addOlder_L1 (ni f) (ni sh) old lg pv m (ni x) b = some b' ∧ ∀ i : Nat, i < 32 → b' i = ni (bmC C B sh f i)
  | 0, x, m + 1, b, hx, _, h => by
    refine ⟨b, ?_, fun i hi => by rw [h i hi, if_pos (by omega)]⟩
    rw [fn_Mender_addOlder_L1_s]
    simp (disch := omega) only [ni_lit, ni_add, ni_mul, ni_sub, ni_lt, ni_le, ni_ix, ni_eq, ni_div, ni_rem, ni_and, ni_or, ni_xor, ni_shl, ni_shr, ni_gi, ni_gz, ni_max, ni_min, ni_dc, ni_0a, ni_ml, ni_mle, Nat.reduceAnd, Nat.reduceAdd, Nat.reduceMul, Nat.reduceSub, Nat.reduceDiv, Nat.reduceMod, Nat.reduceXor, Nat.reduceShiftLeft, Nat.reduceShiftRight]
    rw [if_neg (by omega), if_pos (by omega)]
  | d + 1, x, m + 1, b, hx, hm, h => by
    have e0 := h (x + sh) (by omega)
    rw [if_neg (by omega)] at e0
    have l0 := hC (x + sh)
    obtain ⟨e1, l1⟩ := hB x (by omega)
    obtain ⟨b', h1, h2⟩ := ao1 F hf hsh hB hC d (x + 1) m (upd b (x + sh) (ni (C (x + sh) ^^^ gm f (B x)))) (by omega) (by omega) (fun i hi => by
      rw [upd_a]
      by_cases q : i = x + sh
      · rw [if_pos q, if_pos (by omega)]
        unfold bmC
        rw [if_pos (by omega), q, show x + sh - sh = x by omega]
      · rw [if_neg q, h i hi]
        by_cases q2 : i < x + sh
        · rw [if_pos q2, if_pos (by omega)]
        · rw [if_neg q2, if_neg (by omega)])
    refine ⟨b', ?_, h2⟩
    rw [fn_Mender_addOlder_L1_s, ← h1]
    simp (disch := omega) only [ni_lit, ni_add, ni_mul, ni_sub, ni_lt, ni_le, ni_ix, ni_eq, ni_div, ni_rem, ni_and, ni_or, ni_xor, ni_shl, ni_shr, ni_gi, ni_gz, ni_max, ni_min, ni_dc, ni_0a, ni_ml, ni_mle, Nat.reduceAnd, Nat.reduceAdd, Nat.reduceMul, Nat.reduceSub, Nat.reduceDiv, Nat.reduceMod, Nat.reduceXor, Nat.reduceShiftLeft, Nat.reduceShiftRight, sq_bd, sq_jn, sq_cb0, sq_cb1, sq_cb2, sq_cb3, sq_cb4, sq_cb5, e0, e1, fd_times F]
    rw [if_neg (by omega), if_neg (by omega)]
theorem me_add {lg pv old loc : Nat → Int32} {B C : Nat → Nat} {f sh n0 : Nat} (hn0 : 300 ≤ n0) (F : FD lg pv) (hf : f < 256) (hsh : sh < 32) (hB : bv old 32 B) (hC : bv loc 32 C) (hCl : ∀ i : Nat, C i < 256) : ∃ b', fn_Mender_addOlder n0 (ni f) (ni sh) loc old lg pv = some b' ∧ ∀ i : Nat, i < 32 → b' i = ni (bmC C B sh f i) := by
  refine ao1 F hf hsh hB hCl (32 - sh) 0 n0 loc (by omega) (by omega) (fun i hi => ?_)
  rw [(hC i hi).1]
  by_cases q : i < 0 + sh
  · rw [if_pos q]
    unfold bmC
    rw [if_neg (by omega), x_0]
  · rw [if_neg q]
theorem bmC_lt {C B : Nat → Nat} {m f : Nat} (hC : ∀ i : Nat, C i < 256) (i : Nat) : bmC C B m f i < 256 := by
  refine x_lt (hC i) ?_
  split
  · exact gm_lt _ _
  · omega
theorem cpy32 {f g : Nat → Int32} {u : Nat → Nat} (h : bv f 32 u) : bv (va_cpy f g 0 0 32) 32 u := by
  intro i hi
  unfold va_cpy
  rw [if_pos (by omega), show 0 + (i - 0) = i by omega]
  exact h i hi
theorem lo1 {lg pv syn : Nat → Int32} {S : Nat → Nat} {c n0 : Nat} (hn0 : 300 ≤ n0) (F : FD lg pv) (hc : c ≤ 30) (hS : bv syn c S) : ∀ (d n mm : Nat) (C B : Nat → Nat) (L K m b : Nat) (kept loc old : Nat → Int32), n + d = c → d < mm → BM S n C B L K m b → bv loc 32 C → bv old 32 B → ∃ L' C' B' K' m' b' kept' loc' old', fn_Mender_findLocator_L1 (ni c) n0 syn lg pv mm (ni L) (ni m) (ni b) (ni n) kept loc old = some (ni L', kept', loc', old') ∧ BM S c C' B' L' K' m' b' ∧ bv loc' 32 C'
  | 0, n, mm + 1, C, B, L, K, m, b, kept, loc, old, hx, _, hB, hl, ho => by
    have hxn : n = c := by omega
    subst hxn
    refine ⟨L, C, B, K, m, b, kept, loc, old, ?_, hB, hl⟩
    rw [fn_Mender_findLocator_L1_s]
    simp (disch := omega) only [ni_lit, ni_add, ni_mul, ni_sub, ni_lt, ni_le, ni_ix, ni_eq, ni_div, ni_rem, ni_and, ni_or, ni_xor, ni_shl, ni_shr, ni_gi, ni_gz, ni_max, ni_min, ni_dc, ni_0a, ni_ml, ni_mle, Nat.reduceAnd, Nat.reduceAdd, Nat.reduceMul, Nat.reduceSub, Nat.reduceDiv, Nat.reduceMod, Nat.reduceXor, Nat.reduceShiftLeft, Nat.reduceShiftRight]
    rw [if_pos (by omega)]
  | d + 1, n, mm + 1, C, B, L, K, m, b, kept, loc, old, hx, hm, hB, hl, ho => by
    obtain ⟨a1, a2, a3, a4, a5, a6, a7, a8, a9, a10, a11, a12⟩ := hB
    have hB : BM S n C B L K m b := ⟨a1, a2, a3, a4, a5, a6, a7, a8, a9, a10, a11, a12⟩
    have hd := cv_lt C S n
    have e1 := me_miss (L := L) (n := n) hn0 F (by omega) (by omega) hl (fun i h1 h2 => a1.2.2 i h1) (fun i hi => hS i (by omega))
    by_cases q : cv C S n = 0
    · obtain ⟨L', C', B', K', m', b', kept', loc', old', r1, r2, r3⟩ := lo1 hn0 F hc hS d (n + 1) mm C B L K (m + 1) b kept loc old (by omega) (by omega) (BM_z hB q) hl ho
      refine ⟨L', C', B', K', m', b', kept', loc', old', ?_, r2, r3⟩
      rw [fn_Mender_findLocator_L1_s, ← r1]
      simp (disch := omega) only [ni_lit, ni_add, ni_mul, ni_sub, ni_lt, ni_le, ni_ix, ni_eq, ni_div, ni_rem, ni_and, ni_or, ni_xor, ni_shl, ni_shr, ni_gi, ni_gz, ni_max, ni_min, ni_dc, ni_0a, ni_ml, ni_mle, Nat.reduceAnd, Nat.reduceAdd, Nat.reduceMul, Nat.reduceSub, Nat.reduceDiv, Nat.reduceMod, Nat.reduceXor, Nat.reduceShiftLeft, Nat.reduceShiftRight, sq_bd, sq_jn, sq_cb0, sq_cb1, sq_cb2, sq_cb3, sq_cb4, sq_cb5, e1]
      rw [if_neg (by omega), if_pos q]
    · have e2 := fd_over F hd a10 a9
      obtain ⟨loc2, e3, h3⟩ := me_add (f := gm (cv C S n) (gi b)) (sh := m) hn0 F (gm_lt _ _) (by omega) ho hl a1.2.1
      have hl2 : bv loc2 32 (bmC C B m (gm (cv C S n) (gi b))) := fun i hi => ⟨h3 i hi, bmC_lt a1.2.1 i⟩
      by_cases q2 : 2 * L ≤ n
      · obtain ⟨L', C', B', K', m', b', kept', loc', old', r1, r2, r3⟩ := lo1 hn0 F hc hS d (n + 1) mm (bmC C B m (gm (cv C S n) (gi b))) C (n + 1 - L) L 1 (cv C S n) (va_cpy loc kept 0 0 32) loc2 (va_cpy (va_cpy loc kept 0 0 32) old 0 0 32) (by omega) (by omega) (BM_l hB q rfl q2) hl2 (cpy32 (cpy32 hl))
        refine ⟨L', C', B', K', m', b', kept', loc', old', ?_, r2, r3⟩
        rw [fn_Mender_findLocator_L1_s, ← r1]
        simp (disch := omega) only [ni_lit, ni_add, ni_mul, ni_sub, ni_lt, ni_le, ni_ix, ni_eq, ni_div, ni_rem, ni_and, ni_or, ni_xor, ni_shl, ni_shr, ni_gi, ni_gz, ni_max, ni_min, ni_dc, ni_0a, ni_ml, ni_mle, Nat.reduceAnd, Nat.reduceAdd, Nat.reduceMul, Nat.reduceSub, Nat.reduceDiv, Nat.reduceMod, Nat.reduceXor, Nat.reduceShiftLeft, Nat.reduceShiftRight, sq_bd, sq_jn, sq_cb0, sq_cb1, sq_cb2, sq_cb3, sq_cb4, sq_cb5, e1, e2, e3, ni_gc]
        rw [if_neg (by omega), if_neg q, if_neg (by omega)]
      · obtain ⟨L', C', B', K', m', b', kept', loc', old', r1, r2, r3⟩ := lo1 hn0 F hc hS d (n + 1) mm (bmC C B m (gm (cv C S n) (gi b))) B L K (m + 1) b (va_cpy loc kept 0 0 32) loc2 old (by omega) (by omega) (BM_k hB q rfl q2) hl2 ho
        refine ⟨L', C', B', K', m', b', kept', loc', old', ?_, r2, r3⟩
        rw [fn_Mender_findLocator_L1_s, ← r1]
        simp (disch := omega) only [ni_lit, ni_add, ni_mul, ni_sub, ni_lt, ni_le, ni_ix, ni_eq, ni_div, ni_rem, ni_and, ni_or, ni_xor, ni_shl, ni_shr, ni_gi, ni_gz, ni_max, ni_min, ni_dc, ni_0a, ni_ml, ni_mle, Nat.reduceAnd, Nat.reduceAdd, Nat.reduceMul, Nat.reduceSub, Nat.reduceDiv, Nat.reduceMod, Nat.reduceXor, Nat.reduceShiftLeft, Nat.reduceShiftRight, sq_bd, sq_jn, sq_cb0, sq_cb1, sq_cb2, sq_cb3, sq_cb4, sq_cb5, e1, e2, e3, ni_gc]
        rw [if_neg (by omega), if_neg q, if_pos (by omega)]
theorem me_loc {lg pv syn : Nat → Int32} {S : Nat → Nat} {c n0 : Nat} (hn0 : 300 ≤ n0) (F : FD lg pv) (hc : c ≤ 30) (hS : bv syn c S) (kept loc old : Nat → Int32) : ∃ L C B K m b kept' loc' old', fn_Mender_findLocator n0 (ni c) kept loc old syn lg pv = some (ni L, kept', loc', old') ∧ BM S c C B L K m b ∧ bv loc' 32 C := by
  obtain ⟨b1, e1, h1⟩ := fill1 (v := 0) (len := 32) (n0 := n0) (by omega) (by omega) loc
  obtain ⟨b2, e2, h2⟩ := fill1 (v := 0) (len := 32) (n0 := n0) (by omega) (by omega) old
  have hu : ∀ b : Nat → Int32, (∀ i : Nat, i < 32 → b i = 0) → bv (upd b 0 (ni 1)) 32 u0 := fun b h i hi => ⟨by
    rw [upd_a]
    unfold u0
    by_cases q : i = 0
    · rw [if_pos q, if_pos q]
    · rw [if_neg q, if_neg q, h i hi]; rfl, u0_lt i⟩
  obtain ⟨L, C, B, K, m, b, kept', loc', old', r1, r2, r3⟩ := lo1 hn0 F hc hS c 0 n0 u0 u0 0 0 1 1 kept (upd b1 0 (ni 1)) (upd b2 0 (ni 1)) (by omega) (by omega) (BM_0 S) (hu b1 h1) (hu b2 h2)
  refine ⟨L, C, B, K, m, b, kept', loc', old', ?_, r2, r3⟩
  unfold fn_Mender_findLocator
  rw [e1, e2, ← r1]
  simp (disch := omega) only [ni_lit, ni_add, ni_mul, ni_sub, ni_lt, ni_le, ni_ix, ni_eq, ni_div, ni_rem, ni_and, ni_or, ni_xor, ni_shl, ni_shr, ni_gi, ni_gz, ni_max, ni_min, ni_dc, ni_0a, ni_ml, ni_mle, Nat.reduceAnd, Nat.reduceAdd, Nat.reduceMul, Nat.reduceSub, Nat.reduceDiv, Nat.reduceMod, Nat.reduceXor, Nat.reduceShiftLeft, Nat.reduceShiftRight, sq_bd, sq_jn, sq_cb0, sq_cb1, sq_cb2, sq_cb3, sq_cb4, sq_cb5]
theorem sc_le2 (E : Nat → Nat) (a : Nat) : ∀ b : Nat, sc E a ≤ sc E (a + b)
  | 0 => Nat.le_refl _
  | b + 1 => by
    have := sc_le2 E a b
    rw [show a + (b + 1) = a + b + 1 by omega, sc_s]; omega
/-- the roots, places counted from the last -/
def rp (C : Nat → Nat) (L : Nat) : Nat → Nat := fun i => if hn (fun j => C (L + 1 - 1 - j)) (pw (255 - i)) (L + 1) = 0 then 1 else 0
theorem rp_01 (C : Nat → Nat) (L i : Nat) : rp C L i = 0 ∨ rp C L i = 1 := by
  unfold rp
  split
  · exact Or.inr rfl
  · exact Or.inl rfl
theorem fp1 {lg pv loc : Nat → Int32} {C : Nat → Nat} {L s n0 : Nat} (hn0 : 300 ≤ n0) (F : FD lg pv) (hs : s ≤ 255) (hL : L ≤ 15) (hC : bv loc 32 C) : ∀ (d i m : Nat) (p : Nat → Int32), i + d = s → d < m → sc (rp C L) i ≤ 32 → (∀ q : Nat, q < sc (rp C L) i → p q = ni (pl (rp C L) i q)) → ∃ r p', fn_Mender_findPlaces_L1 (ni s) (ni L) n0 loc lg pv m (ni (sc (rp C L) i)) (ni i) p = some (ni r, p') ∧ r ≤ 32 ∧ (r = L ↔ sc (rp C L) s = L) ∧ (r = L → ∀ q : Nat, q < L → p' q = ni (pl (rp C L) s q))
  | 0, i, m + 1, p, hi, _, hc, hp => by
    have his : i = s := by omega
    subst his
    refine ⟨sc (rp C L) i, p, ?_, hc, Iff.rfl, fun h q hq => hp q (by omega)⟩
    rw [fn_Mender_findPlaces_L1_s]
    simp (disch := omega) only [ni_lit, ni_add, ni_mul, ni_sub, ni_lt, ni_le, ni_ix, ni_eq, ni_div, ni_rem, ni_and, ni_or, ni_xor, ni_shl, ni_shr, ni_gi, ni_gz, ni_max, ni_min, ni_dc, ni_0a, ni_ml, ni_mle, Nat.reduceAnd, Nat.reduceAdd, Nat.reduceMul, Nat.reduceSub, Nat.reduceDiv, Nat.reduceMod, Nat.reduceXor, Nat.reduceShiftLeft, Nat.reduceShiftRight]
    rw [if_pos (by omega)]
  | d + 1, i, m + 1, p, hi, hm, hc, hp => by
    by_cases q32 : sc (rp C L) i = 32
    · have := sc_le2 (rp C L) i (d + 1)
      rw [hi] at this
      refine ⟨32, p, ?_, by omega, by omega, by omega⟩
      rw [fn_Mender_findPlaces_L1_s, q32]
      simp (disch := omega) only [ni_lit, ni_add, ni_mul, ni_sub, ni_lt, ni_le, ni_ix, ni_eq, ni_div, ni_rem, ni_and, ni_or, ni_xor, ni_shl, ni_shr, ni_gi, ni_gz, ni_max, ni_min, ni_dc, ni_0a, ni_ml, ni_mle, Nat.reduceAnd, Nat.reduceAdd, Nat.reduceMul, Nat.reduceSub, Nat.reduceDiv, Nat.reduceMod, Nat.reduceXor, Nat.reduceShiftLeft, Nat.reduceShiftRight]
      rw [if_neg (by omega), if_pos (by omega)]
    · have hv := fd_value (x := pw (255 - i)) (n := L + 1) (len := 32) hn0 F (pw_lt _) (by omega) (by omega) (by omega) (fun i hi => hC i (by omega))
      have hl : hn (fun j => C (L + 1 - 1 - j)) (pw (255 - i)) (L + 1) < 256 := hn_lt _ (fun j hj => (hC _ (by omega)).2)
      have hstep : fn_Mender_findPlaces_L1 (ni s) (ni L) n0 loc lg pv (m + 1) (ni (sc (rp C L) i)) (ni i) p = if rp C L i = 1 then fn_Mender_findPlaces_L1 (ni s) (ni L) n0 loc lg pv m (ni (sc (rp C L) i + 1)) (ni (i + 1)) (upd p (sc (rp C L) i) (ni i)) else fn_Mender_findPlaces_L1 (ni s) (ni L) n0 loc lg pv m (ni (sc (rp C L) i)) (ni (i + 1)) p := by
        rw [fn_Mender_findPlaces_L1_s]
        simp (disch := omega) only [ni_lit, ni_add, ni_mul, ni_sub, ni_lt, ni_le, ni_ix, ni_eq, ni_div, ni_rem, ni_and, ni_or, ni_xor, ni_shl, ni_shr, ni_gi, ni_gz, ni_max, ni_min, ni_dc, ni_0a, ni_ml, ni_mle, Nat.reduceAnd, Nat.reduceAdd, Nat.reduceMul, Nat.reduceSub, Nat.reduceDiv, Nat.reduceMod, Nat.reduceXor, Nat.reduceShiftLeft, Nat.reduceShiftRight, sq_bd, sq_jn, sq_cb0, sq_cb1, sq_cb2, sq_cb3, sq_cb4, sq_cb5, fd_power F, hv]
        rw [if_neg (by omega), if_neg (by omega)]
        unfold rp
        by_cases q : hn (fun j => C (L + 1 - 1 - j)) (pw (255 - i)) (L + 1) = 0
        · rw [if_pos q, if_pos q, if_pos rfl]
        · rw [if_neg q, if_neg q, if_neg (by omega)]
      rw [hstep]
      by_cases q : rp C L i = 1
      · have e : sc (rp C L) (i + 1) = sc (rp C L) i + 1 := by rw [sc_s, q]; rfl
        have ih := fp1 hn0 F hs hL hC d (i + 1) m (upd p (sc (rp C L) i) (ni i)) (by omega) (by omega) (by omega) (fun r hr => by
          rw [pl_s, upd_a]
          by_cases w : r = sc (rp C L) i
          · rw [if_pos w, if_pos w]
          · rw [if_neg w, if_neg w]; exact hp r (by omega))
        rw [e] at ih
        rw [if_pos q]; exact ih
      · have q0 : rp C L i = 0 := (rp_01 C L i).resolve_right q
        have e : sc (rp C L) (i + 1) = sc (rp C L) i := by rw [sc_s, q0]; rfl
        have ih := fp1 hn0 F hs hL hC d (i + 1) m p (by omega) (by omega) (by omega) (fun r hr => by
          rw [pl_s, if_neg (by omega)]; exact hp r (by omega))
        rw [e] at ih
        rw [if_neg q]; exact ih
theorem me_pl {lg pv loc : Nat → Int32} {C : Nat → Nat} {L s n0 : Nat} (hn0 : 300 ≤ n0) (F : FD lg pv) (hs : s ≤ 255) (hL : L ≤ 15) (hC : bv loc 32 C) (p : Nat → Int32) : ∃ r p', fn_Mender_findPlaces n0 (ni s) (ni L) loc p lg pv = some (ni r, p') ∧ r ≤ 32 ∧ (r = L ↔ sc (rp C L) s = L) ∧ (r = L → ∀ q : Nat, q < L → p' q = ni (pl (rp C L) s q)) := fp1 hn0 F hs hL hC s 0 n0 p (by omega) (by omega) (by show 0 ≤ 32; omega) (fun q hq => absurd hq (by show ¬ q < 0; omega))
theorem ev1 {lg pv loc syn : Nat → Int32} {C S : Nat → Nat} {t n0 : Nat} (hn0 : 300 ≤ n0) (F : FD lg pv) (ht : t ≤ 15) (hC : bv loc 32 C) (hS : bv syn t S) : ∀ (d i m : Nat) (b : Nat → Int32), i + d = t → d < m → (∀ k : Nat, k < i → b k = ni (cv C S k)) → ∃ b', fn_Mender_findEvaluator_L1 (ni t) n0 loc syn lg pv m (ni i) b = some b' ∧ ∀ k : Nat, k < t → b' k = ni (cv C S k)
  | 0, i, m + 1, b, hi, _, h => by
    have hit : i = t := by omega
    subst hit
    refine ⟨b, ?_, h⟩
    rw [fn_Mender_findEvaluator_L1_s]
    simp (disch := omega) only [ni_lit, ni_add, ni_mul, ni_sub, ni_lt, ni_le, ni_ix, ni_eq, ni_div, ni_rem, ni_and, ni_or, ni_xor, ni_shl, ni_shr, ni_gi, ni_gz, ni_max, ni_min, ni_dc, ni_0a, ni_ml, ni_mle, Nat.reduceAnd, Nat.reduceAdd, Nat.reduceMul, Nat.reduceSub, Nat.reduceDiv, Nat.reduceMod, Nat.reduceXor, Nat.reduceShiftLeft, Nat.reduceShiftRight]
    rw [if_pos (by omega)]
  | d + 1, i, m + 1, b, hi, hm, h => by
    have e1 := me_miss (L := i) (n := i) hn0 F (by omega) (by omega) hC (fun k h1 h2 => by omega) (fun k hk => hS k (by omega))
    obtain ⟨b', h1, h2⟩ := ev1 hn0 F ht hC hS d (i + 1) m (upd b i (ni (cv C S i))) (by omega) (by omega) (fun k hk => by
      rw [upd_a]
      by_cases q : k = i
      · rw [if_pos q, q]
      · rw [if_neg q]; exact h k (by omega))
    refine ⟨b', ?_, h2⟩
    rw [fn_Mender_findEvaluator_L1_s, ← h1]
    simp (disch := omega) only [ni_lit, ni_add, ni_mul, ni_sub, ni_lt, ni_le, ni_ix, ni_eq, ni_div, ni_rem, ni_and, ni_or, ni_xor, ni_shl, ni_shr, ni_gi, ni_gz, ni_max, ni_min, ni_dc, ni_0a, ni_ml, ni_mle, Nat.reduceAnd, Nat.reduceAdd, Nat.reduceMul, Nat.reduceSub, Nat.reduceDiv, Nat.reduceMod, Nat.reduceXor, Nat.reduceShiftLeft, Nat.reduceShiftRight, sq_bd, sq_jn, sq_cb0, sq_cb1, sq_cb2, sq_cb3, sq_cb4, sq_cb5, e1]
    rw [if_neg (by omega), if_neg (by omega)]
theorem me_ev {lg pv loc syn : Nat → Int32} {C S : Nat → Nat} {t n0 : Nat} (hn0 : 300 ≤ n0) (F : FD lg pv) (ht : t ≤ 15) (hC : bv loc 32 C) (hS : bv syn t S) (b : Nat → Int32) : ∃ b', fn_Mender_findEvaluator n0 (ni t) b loc syn lg pv = some b' ∧ ∀ k : Nat, k < t → b' k = ni (cv C S k) := ev1 hn0 F ht hC hS t 0 n0 b (by omega) (by omega) (fun i hi => absurd hi (by omega))
/-- the slope: the odd terms -/
theorem od_ps {C : Nat → Nat} (x : Nat) : ∀ h : Nat, ps (od C) x (2 * h) = gm x (ps (fun i => C (2 * i + 1)) (gm x x) h)
  | 0 => (gm_0r x).symm
  | h + 1 => by
    have e1 : ps (od C) x (2 * (h + 1)) = ps (od C) x (2 * h) ^^^ gm (od C (2 * h)) (gq x (2 * h)) ^^^ gm (od C (2 * h + 1)) (gq x (2 * h + 1)) := rfl
    have e2 : ps (fun i => C (2 * i + 1)) (gm x x) (h + 1) = ps (fun i => C (2 * i + 1)) (gm x x) h ^^^ gm (C (2 * h + 1)) (gq (gm x x) h) := rfl
    have e3 : gq (gm x x) h = gq x (2 * h) := by
      induction h with
      | zero => rfl
      | succ h ih =>
        rw [gq_s, ih rfl rfl, show 2 * (h + 1) = 2 * h + 1 + 1 by omega, gq_s, gq_s, gm_assoc]
    rw [e1, e2, od_ps x h, gm_xr, e3]
    unfold od
    rw [if_neg (by omega), if_pos (by omega), gm_0l, x_0, gq_s, gm_lc]
theorem df1z {lg pv loc : Nat → Int32} {r3 : Int32} (k8 : Int32 → Option Int32) (m : Nat) (v : Int32) : fn_Mender_difference_L1 loc lg pv r3 k8 (m + 1) v (-(ni 1)) = k8 v := by
  rw [fn_Mender_difference_L1_s]
  rw [if_pos (by decide)]
theorem df1 {lg pv loc : Nat → Int32} {C : Nat → Nat} {x h : Nat} (F : FD lg pv) (hx : x < 256) (hh : 2 * h ≤ 32) (hC : bv loc 32 C) (k8 : Int32 → Option Int32) : ∀ (d j m : Nat), j + d + 1 = h → d + 1 < m → fn_Mender_difference_L1 loc lg pv (ni x) k8 m (ni (hn (fun i => C (2 * (h - 1 - i) + 1)) x j)) (ni d) = k8 (ni (hn (fun i => C (2 * (h - 1 - i) + 1)) x h))
  | d, j, m + 1, hj, hm => by
    obtain ⟨e1, l1⟩ := hC (2 * d + 1) (by omega)
    have l2 : hn (fun i => C (2 * (h - 1 - i) + 1)) x j < 256 := hn_lt _ (fun i hi => (hC _ (by omega)).2)
    have e2 : gm (hn (fun i => C (2 * (h - 1 - i) + 1)) x j) x ^^^ C (2 * d + 1) = hn (fun i => C (2 * (h - 1 - i) + 1)) x (j + 1) := by
      rw [hn_s, show h - 1 - j = d by omega]
    rw [fn_Mender_difference_L1_s]
    simp (disch := omega) only [ni_lit, ni_add, ni_mul, ni_sub, ni_lt, ni_le, ni_ix, ni_eq, ni_div, ni_rem, ni_and, ni_or, ni_xor, ni_shl, ni_shr, ni_gi, ni_gz, ni_max, ni_min, ni_dc, ni_0a, ni_ml, ni_mle, Nat.reduceAnd, Nat.reduceAdd, Nat.reduceMul, Nat.reduceSub, Nat.reduceDiv, Nat.reduceMod, Nat.reduceXor, Nat.reduceShiftLeft, Nat.reduceShiftRight, sq_bd, sq_jn, sq_cb0, sq_cb1, sq_cb2, sq_cb3, sq_cb4, sq_cb5, fd_times F, e1, e2]
    rw [if_neg (by omega)]
    cases d with
    | zero =>
      obtain ⟨m', rfl⟩ : ∃ m', m = m' + 1 := ⟨m - 1, by omega⟩
      rw [ni_0a, df1z, show j + 1 = h by omega]
    | succ d =>
      rw [ni_dc (by omega)]
      exact df1 F hx hh hC k8 d (j + 1) m (by omega) (by omega)
theorem gm_cx {x X g z : Nat} (h : gm x X = 1) (hz : z < 256) : gm (gm X g) (gm x z) = gm g z := by
  rw [gm_comm X g, gm_assoc, ← gm_assoc X, gm_comm X x, h, gm_i1 hz]
theorem me_diff {lg pv ev loc : Nat → Int32} {C W : Nat → Nat} {p t e n0 : Nat} (hn0 : 300 ≤ n0) (F : FD lg pv) (hp : p < 255) (ht : t ≤ 15) (ht1 : 1 ≤ t) (hC : bv loc 32 C) (hCl : ∀ i : Nat, C i < 256) (hW : bv ev t W) (hWl : ∀ i : Nat, W i < 256) (he : e < 256) (h1 : gm (pw p) (hn W (pw p) t) = gm e (hn (od C) (pw p) (t + 1))) (h2 : hn (od C) (pw p) (t + 1) ≠ 0) : fn_Mender_difference n0 (ni p) (ni t) ev loc lg pv = some (ni e) := by
  have hin : gm (pw (255 - p)) (pw p) = 1 := by rw [gm_pp, show 255 - p + p = 255 by omega, pw_255]
  have hsl : hn (fun i => C (2 * ((t - 1) / 2 + 1 - 1 - i) + 1)) (gm (pw (255 - p)) (pw (255 - p))) ((t - 1) / 2 + 1) = ps (fun i => C (2 * i + 1)) (gm (pw (255 - p)) (pw (255 - p))) ((t - 1) / 2 + 1) := hn_ps (y := fun i => C (2 * i + 1)) (fun i => hCl _) _ _
  have hodl : ∀ i : Nat, od C i < 256 := fun i => by
    unfold od
    split
    · exact hCl i
    · omega
  have hod : hn (od C) (pw p) (t + 1) = gm (gq (pw p) (t - 1)) (ps (fun i => C (2 * i + 1)) (gm (pw (255 - p)) (pw (255 - p))) ((t - 1) / 2 + 1)) := by
    rw [← ps_hn hodl hin]
    have q : ps (od C) (pw (255 - p)) (t + 1) = ps (od C) (pw (255 - p)) (2 * ((t - 1) / 2 + 1)) := by
      by_cases w : t % 2 = 1
      · rw [show 2 * ((t - 1) / 2 + 1) = t + 1 by omega]
      · rw [show 2 * ((t - 1) / 2 + 1) = t by omega]
        show _ ^^^ gm (od C t) _ = _
        rw [show od C t = 0 from if_neg w, gm_0l, x_0]
        rfl
    have e9 : gq (pw p) t = gm (pw p) (gq (pw p) (t - 1)) := by
      have := gq_s (pw p) (t - 1)
      rw [show t - 1 + 1 = t by omega] at this
      exact this
    rw [q, od_ps, e9, gm_cx hin (ps_lt _ _ _)]
  have hom : gm (gq (pw p) (t - 1)) (ps W (pw (255 - p)) t) = hn W (pw p) t := by
    have := ps_hn hWl hin (t - 1)
    rw [show t - 1 + 1 = t by omega] at this
    exact this
  generalize hS : ps (fun i => C (2 * i + 1)) (gm (pw (255 - p)) (pw (255 - p))) ((t - 1) / 2 + 1) = sl at hsl hod
  have hsll : sl < 256 := by rw [← hS]; exact ps_lt _ _ _
  have hs0 : sl ≠ 0 := fun z => h2 (by rw [hod, z, gm_0r])
  have hmain : gm (pw p) (ps W (pw (255 - p)) t) = gm e sl := by
    rw [hod, ← hom, gm_lc, gm_lc e] at h1
    exact gm_can (gq_lt _ _) (gq_ne (pw_ne p) (pw_lt p) _) (gm_lt _ _) (gm_lt _ _) h1
  have hfin : gm (gm (pw p) (ps W (pw (255 - p)) t)) (gi sl) = e := by
    rw [hmain, gm_assoc, gm_gi hsll hs0, gm_1 he]
  have hvl := fd_value (x := pw (255 - p)) (len := 32) hn0 F (pw_lt _) ht1 (by omega) (by omega) hW
  rw [hn_ps hWl] at hvl
  have hps := ps_lt W (pw (255 - p)) t
  have hd := fun k8 => df1 (x := gm (pw (255 - p)) (pw (255 - p))) (h := (t - 1) / 2 + 1) F (gm_lt _ _) (by omega) hC k8 ((t - 1) / 2) 0 n0 (by omega) (by omega)
  rw [hsl, show hn (fun i => C (2 * ((t - 1) / 2 + 1 - 1 - i) + 1)) (gm (pw (255 - p)) (pw (255 - p))) 0 = 0 from rfl] at hd
  have hl1 := gm_lt (pw p) (ps W (pw (255 - p)) t)
  have hpl := pw_lt (255 - p)
  have hpl2 := pw_lt p
  have hov := fd_over F hl1 hsll hs0
  rw [hfin] at hov
  unfold fn_Mender_difference
  simp (disch := omega) only [ni_lit, ni_add, ni_mul, ni_sub, ni_lt, ni_le, ni_ix, ni_eq, ni_div, ni_rem, ni_and, ni_or, ni_xor, ni_shl, ni_shr, ni_gi, ni_gz, ni_max, ni_min, ni_dc, ni_0a, ni_ml, ni_mle, Nat.reduceAnd, Nat.reduceAdd, Nat.reduceMul, Nat.reduceSub, Nat.reduceDiv, Nat.reduceMod, Nat.reduceXor, Nat.reduceShiftLeft, Nat.reduceShiftRight, sq_bd, sq_jn, sq_cb0, sq_cb1, sq_cb2, sq_cb3, sq_cb4, sq_cb5, fd_power F, fd_times F, show min t 31 = t by omega, hd, hvl, hov]
