/-! own rows: the model's check bytes -/
theorem gn2z {n0 : Nat} {r6 : Int32} (k13 : (Nat → Int32) → Option (Nat → Int32)) (m : Nat) (b : Nat → Int32) : fn_Md_generate_L2 n0 r6 k13 (m + 1) (ni 0) b = k13 b := by
  rw [fn_Md_generate_L2_s, if_pos (by decide)]
theorem gn2 {k n0 : Nat} (hn0 : 300 ≤ n0) (hk : k < 30) (k13 : (Nat → Int32) → Option (Nat → Int32)) : ∀ (x mm : Nat) (b : Nat → Int32), x ≤ k + 1 → x < mm → (∀ t : Nat, t ≤ x → b t = ni (lc pw k t)) → (∀ t : Nat, x < t → t ≤ k + 1 → b t = ni (lc pw (k + 1) t)) → ∃ b', fn_Md_generate_L2 n0 (ni (pw k)) k13 mm (ni x) b = k13 b' ∧ ∀ t : Nat, t ≤ k + 1 → b' t = ni (lc pw (k + 1) t)
  | 0, mm + 1, b, hx, _, h1, h2 => by
    refine ⟨b, gn2z k13 mm b, fun t ht => ?_⟩
    by_cases q : t = 0
    · rw [q, h1 0 (by omega), lc_s, if_pos rfl, x_0]
    · exact h2 t (by omega) ht
  | x + 1, mm + 1, b, hx, hmm, h1, h2 => by
    have e1 := h1 (x + 1) (by omega)
    have e2 := h1 x (by omega)
    have l1 := lc_lt pw k x
    have l2 := pw_lt k
    obtain ⟨b', g1, g2⟩ := gn2 hn0 hk k13 x mm (upd b (x + 1) (ni (lc pw (k + 1) (x + 1)))) (by omega) (by omega) (fun t ht => by rw [upd_n _ _ (by omega)]; exact h1 t (by omega)) (fun t t1 t2 => by
      rw [upd_a]
      by_cases q : t = x + 1
      · rw [if_pos q, q]
      · rw [if_neg q]; exact h2 t (by omega) t2)
    refine ⟨b', ?_, g2⟩
    have hlc : lc pw (k + 1) (x + 1) = lc pw k (x + 1) ^^^ gm (lc pw k x) (pw k) := by rw [lc_s, if_neg (by omega), Nat.add_sub_cancel, gm_comm]
    rw [fn_Md_generate_L2_s, ← g1, hlc]
    simp (disch := omega) only [ni_lit, ni_add, ni_mul, ni_sub, ni_lt, ni_le, ni_ix, ni_eq, ni_div, ni_rem, ni_and, ni_or, ni_xor, ni_shl, ni_shr, ni_gi, ni_gz, ni_max, ni_min, ni_dc, ni_0a, ni_ml, ni_mle, Nat.reduceAnd, Nat.reduceAdd, Nat.reduceMul, Nat.reduceSub, Nat.reduceDiv, Nat.reduceMod, Nat.reduceXor, Nat.reduceShiftLeft, Nat.reduceShiftRight, sq_bd, sq_jn, sq_cb0, sq_cb1, sq_cb2, sq_cb3, sq_cb4, sq_cb5, e1, e2, md_times, Nat.add_sub_cancel]
    rw [if_neg (by omega)]
theorem gn1 {c n0 : Nat} (hn0 : 300 ≤ n0) (hc : c ≤ 30) : ∀ (e k mm : Nat) (b : Nat → Int32), k + e = c → e < mm → (∀ t : Nat, t ≤ k → b t = ni (lc pw k t)) → ∃ b', fn_Md_generate_L1 (ni c) n0 mm (ni k) b = some b' ∧ ∀ t : Nat, t ≤ c → b' t = ni (lc pw c t)
  | 0, k, mm + 1, b, hk, _, h => by
    have hkc : k = c := by omega
    subst hkc
    refine ⟨b, ?_, h⟩
    rw [fn_Md_generate_L1_s]
    simp (disch := omega) only [ni_le]
    rw [if_pos (by omega)]
  | e + 1, k, mm + 1, b, hk, hmm, h => by
    obtain ⟨b2, e2, h2⟩ := gn2 (k := k) (n0 := n0) hn0 (by omega) (fun b12 => fn_Md_generate_L1 (ni c) n0 mm (ni (k + 1)) b12) (k + 1) n0 (upd b (k + 1) (ni 0)) (by omega) (by omega) (fun t ht => by
      rw [upd_a]
      by_cases q : t = k + 1
      · rw [if_pos q, q, (lc_rc pw k).2.2 (k + 1) (by omega)]
      · rw [if_neg q]; exact h t (by omega)) (fun t t1 t2 => by omega)
    obtain ⟨b', g1, g2⟩ := gn1 hn0 hc e (k + 1) mm b2 (by omega) (by omega) h2
    refine ⟨b', ?_, g2⟩
    rw [fn_Md_generate_L1_s, ← g1, ← e2]
    simp (disch := omega) only [ni_lit, ni_add, ni_mul, ni_sub, ni_lt, ni_le, ni_ix, ni_eq, ni_div, ni_rem, ni_and, ni_or, ni_xor, ni_shl, ni_shr, ni_gi, ni_gz, ni_max, ni_min, ni_dc, ni_0a, ni_ml, ni_mle, Nat.reduceAnd, Nat.reduceAdd, Nat.reduceMul, Nat.reduceSub, Nat.reduceDiv, Nat.reduceMod, Nat.reduceXor, Nat.reduceShiftLeft, Nat.reduceShiftRight, sq_bd, sq_jn, sq_cb0, sq_cb1, sq_cb2, sq_cb3, sq_cb4, sq_cb5, md_two]
    rw [if_neg (by omega)]
theorem md_gen {c n0 : Nat} (hn0 : 300 ≤ n0) (hc : c ≤ 30) (g : Nat → Int32) : ∃ b', fn_Md_generate n0 (ni c) g = some b' ∧ ∀ t : Nat, t ≤ c → b' t = ni (lc pw c t) := by
  obtain ⟨b', g1, g2⟩ := gn1 hn0 hc c 0 n0 (upd g 0 (ni 1)) (by omega) (by omega) (fun t ht => by
    rw [show t = 0 by omega, upd_s]; rfl)
  refine ⟨b', ?_, g2⟩
  unfold fn_Md_generate
  rw [← g1]
  simp (disch := omega) only [ni_lit, ni_add, ni_mul, ni_sub, ni_lt, ni_le, ni_ix, ni_eq, ni_div, ni_rem, ni_and, ni_or, ni_xor, ni_shl, ni_shr, ni_gi, ni_gz, ni_max, ni_min, ni_dc, ni_0a, ni_ml, ni_mle, Nat.reduceAnd, Nat.reduceAdd, Nat.reduceMul, Nat.reduceSub, Nat.reduceDiv, Nat.reduceMod, Nat.reduceXor, Nat.reduceShiftLeft, Nat.reduceShiftRight, sq_bd, sq_jn, sq_cb0, sq_cb1, sq_cb2, sq_cb3, sq_cb4, sq_cb5]
theorem ck5 {by0 : Nat → Int32} {D : Nat → Nat} {c s st : Nat} (hs : s + c ≤ 255) (hst : st + s ≤ 3706) (hD : ∀ p : Nat, p < st + s → by0 p = ni (D p)) : ∀ (e x mm : Nat) (b : Nat → Int32), x + e = s + c → e < mm → (∀ t : Nat, t < x → b t = ni (if t < s then D (st + t) else 0)) → ∃ b', (∀ k16, fn_Md_check_L5 by0 (ni c) (ni s) (ni st) k16 mm (ni x) b = k16 b') ∧ ∀ t : Nat, t < s + c → b' t = ni (if t < s then D (st + t) else 0)
  | 0, x, mm + 1, b, hx, _, h => by
    have hxx : x = s + c := by omega
    subst hxx
    refine ⟨b, fun k16 => ?_, h⟩
    rw [fn_Md_check_L5_s]
    simp (disch := omega) only [ni_le, ni_add]
    rw [if_pos (by omega)]
  | e + 1, x, mm + 1, b, hx, hmm, h => by
    obtain ⟨b', g1, g2⟩ := ck5 hs hst hD e (x + 1) mm (upd b x (ni (if x < s then D (st + x) else 0))) (by omega) (by omega) (fun t ht => by
      rw [upd_a]
      by_cases q : t = x
      · rw [if_pos q, q]
      · rw [if_neg q]; exact h t (by omega))
    refine ⟨b', fun k16 => ?_, g2⟩
    rw [fn_Md_check_L5_s, ← g1 k16]
    by_cases q : x < s
    · have e1 := hD (st + x) (by omega)
      simp (disch := omega) only [ni_lit, ni_add, ni_mul, ni_sub, ni_lt, ni_le, ni_ix, ni_eq, ni_div, ni_rem, ni_and, ni_or, ni_xor, ni_shl, ni_shr, ni_gi, ni_gz, ni_max, ni_min, ni_dc, ni_0a, ni_ml, ni_mle, Nat.reduceAnd, Nat.reduceAdd, Nat.reduceMul, Nat.reduceSub, Nat.reduceDiv, Nat.reduceMod, Nat.reduceXor, Nat.reduceShiftLeft, Nat.reduceShiftRight, sq_bd, sq_jn, sq_cb0, sq_cb1, sq_cb2, sq_cb3, sq_cb4, sq_cb5, e1, if_pos q]
      rw [if_neg (by omega), if_neg (by omega)]
    · simp (disch := omega) only [ni_lit, ni_add, ni_mul, ni_sub, ni_lt, ni_le, ni_ix, ni_eq, ni_div, ni_rem, ni_and, ni_or, ni_xor, ni_shl, ni_shr, ni_gi, ni_gz, ni_max, ni_min, ni_dc, ni_0a, ni_ml, ni_mle, Nat.reduceAnd, Nat.reduceAdd, Nat.reduceMul, Nat.reduceSub, Nat.reduceDiv, Nat.reduceMod, Nat.reduceXor, Nat.reduceShiftLeft, Nat.reduceShiftRight, sq_bd, sq_jn, sq_cb0, sq_cb1, sq_cb2, sq_cb3, sq_cb4, sq_cb5, if_neg q]
      rw [if_neg (by omega), if_pos (by omega)]
theorem ck4 {gen : Nat → Int32} {c s k n0 : Nat} {w : Nat → Nat} (hn0 : 300 ≤ n0) (hc : c ≤ 30) (hs : s + c ≤ 255) (hk : k < s) (hg : ∀ t : Nat, t ≤ c → gen t = ni (lc pw c t)) (hw : ∀ j : Nat, j < s → w j < 256) : ∀ (e j mm : Nat) (b : Nat → Int32), j + e = c + 1 → e < mm → (∀ m : Nat, k ≤ m → m < s + c → b m = ni ((if m < s then w m else 0) ^^^ rs c w k (m - k) ^^^ (if m < k + j then gm (w k ^^^ rs c w k 0) (lc pw c (m - k)) else 0))) → ∃ b', (∀ k44, fn_Md_check_L4 n0 (ni c) gen (ni k) (ni (w k ^^^ rs c w k 0)) k44 mm (ni j) b = k44 b') ∧ ∀ m : Nat, k + 1 ≤ m → m < s + c → b' m = ni ((if m < s then w m else 0) ^^^ rs c w (k + 1) (m - (k + 1)))
  | 0, j, mm + 1, b, hj, _, h => by
    refine ⟨b, fun k44 => ?_, fun m m1 m2 => ?_⟩
    · rw [fn_Md_check_L4_s]
      simp (disch := omega) only [ni_lt]
      rw [if_pos (by omega)]
    · rw [h m (by omega) m2, Nat.xor_assoc, rs_s, show m - (k + 1) + 1 = m - k by omega]
      congr 3
      by_cases q : m < k + j
      · rw [if_pos q, gm_comm]
      · rw [if_neg q, (lc_rc pw c).2.2 (m - k) (by omega), gm_0l]
  | e + 1, j, mm + 1, b, hj, hmm, h => by
    have l1 := x_lt (hw k hk) (rs_lt c w k 0)
    have l2 := lc_lt pw c j
    by_cases z : w k ^^^ rs c w k 0 = 0
    · refine ⟨b, fun k44 => ?_, fun m m1 m2 => ?_⟩
      · rw [fn_Md_check_L4_s]
        simp (disch := omega) only [ni_lit, ni_lt, ni_eq]
        rw [if_neg (by omega), if_pos z]
      · rw [h m (by omega) m2, Nat.xor_assoc, rs_s, show m - (k + 1) + 1 = m - k by omega, z, gm_0l, gm_0r, ite_self]
    · have e1 := h (k + j) (by omega) (by omega)
      rw [if_neg (show ¬ k + j < k + j by omega), x_0, show k + j - k = j by omega] at e1
      have l3 : (if k + j < s then w (k + j) else 0) ^^^ rs c w k j < 256 := by
        refine x_lt ?_ (rs_lt _ _ _ _)
        by_cases q : k + j < s
        · rw [if_pos q]; exact hw _ q
        · rw [if_neg q]; omega
      have e2 := hg j (by omega)
      obtain ⟨b', g1, g2⟩ := ck4 hn0 hc hs hk hg hw e (j + 1) mm (upd b (k + j) (ni ((if k + j < s then w (k + j) else 0) ^^^ rs c w k j ^^^ gm (w k ^^^ rs c w k 0) (lc pw c j)))) (by omega) (by omega) (fun m m1 m2 => by
        rw [upd_a]
        by_cases q : m = k + j
        · rw [if_pos q, q, if_pos (show k + j < k + (j + 1) by omega), show k + j - k = j by omega]
        · rw [if_neg q, h m m1 m2]
          by_cases q2 : m < k + j
          · rw [if_pos q2, if_pos (show m < k + (j + 1) by omega)]
          · rw [if_neg q2, if_neg (show ¬ m < k + (j + 1) by omega)])
      refine ⟨b', fun k44 => ?_, g2⟩
      rw [fn_Md_check_L4_s, ← g1 k44]
      simp (disch := omega) only [ni_lit, ni_add, ni_mul, ni_sub, ni_lt, ni_le, ni_ix, ni_eq, ni_div, ni_rem, ni_and, ni_or, ni_xor, ni_shl, ni_shr, ni_gi, ni_gz, ni_max, ni_min, ni_dc, ni_0a, ni_ml, ni_mle, Nat.reduceAnd, Nat.reduceAdd, Nat.reduceMul, Nat.reduceSub, Nat.reduceDiv, Nat.reduceMod, Nat.reduceXor, Nat.reduceShiftLeft, Nat.reduceShiftRight, sq_bd, sq_jn, sq_cb0, sq_cb1, sq_cb2, sq_cb3, sq_cb4, sq_cb5, e1, e2, md_times]
      rw [if_neg (by omega), if_neg z]
theorem ck3 {gen : Nat → Int32} {c s n0 : Nat} {w : Nat → Nat} (hn0 : 300 ≤ n0) (hc : c ≤ 30) (hs : s + c ≤ 255) (hg : ∀ t : Nat, t ≤ c → gen t = ni (lc pw c t)) (hw : ∀ j : Nat, j < s → w j < 256) : ∀ (e k mm : Nat) (b : Nat → Int32), k + e = s → e < mm → (∀ m : Nat, k ≤ m → m < s + c → b m = ni ((if m < s then w m else 0) ^^^ rs c w k (m - k))) → ∃ b', (∀ k18, fn_Md_check_L3 n0 (ni c) gen (ni s) k18 mm (ni k) b = k18 b') ∧ ∀ i : Nat, i < c → b' (s + i) = ni (rs c w s i)
  | 0, k, mm + 1, b, hk, _, h => by
    have hks : k = s := by omega
    subst hks
    refine ⟨b, fun k18 => ?_, fun i hi => ?_⟩
    · rw [fn_Md_check_L3_s]
      simp (disch := omega) only [ni_le]
      rw [if_pos (by omega)]
    · rw [h (k + i) (by omega) (by omega), if_neg (by omega), x_0l, show k + i - k = i by omega]
  | e + 1, k, mm + 1, b, hk, hmm, h => by
    have e1 := h k (by omega) (by omega)
    rw [if_pos (by omega), Nat.sub_self] at e1
    obtain ⟨b2, e2, h2⟩ := ck4 (k := k) hn0 hc hs (by omega) hg hw (c + 1) 0 n0 b (by omega) (by omega) (fun m m1 m2 => by rw [h m m1 m2, if_neg (show ¬ m < k + 0 by omega), x_0])
    obtain ⟨b', g1, g2⟩ := ck3 hn0 hc hs hg hw e (k + 1) mm b2 (by omega) (by omega) h2
    refine ⟨b', fun k18 => ?_, g2⟩
    rw [fn_Md_check_L3_s, ← g1 k18]
    simp (disch := omega) only [ni_lit, ni_add, ni_mul, ni_sub, ni_lt, ni_le, ni_ix, ni_eq, ni_div, ni_rem, ni_and, ni_or, ni_xor, ni_shl, ni_shr, ni_gi, ni_gz, ni_max, ni_min, ni_dc, ni_0a, ni_ml, ni_mle, Nat.reduceAnd, Nat.reduceAdd, Nat.reduceMul, Nat.reduceSub, Nat.reduceDiv, Nat.reduceMod, Nat.reduceXor, Nat.reduceShiftLeft, Nat.reduceShiftRight, sq_bd, sq_jn, sq_cb0, sq_cb1, sq_cb2, sq_cb3, sq_cb4, sq_cb5, e1, e2]
    rw [if_neg (by omega)]
theorem pof_inj {H B K S M b j c i : Nat} (h : VN H B K S M) (hb : b < B) (hc : c < B) (hj : j < ln S M b + K) (hi : i < ln S M c + K) (e : pof H B S M b j = pof H B S M c i) : b = c ∧ j = i := by
  have := congrArg (pio H B K S M) e
  rw [pio_pof h hb hj, pio_pof h hc hi] at this
  exact pib_inj h hb hc hj hi this
theorem ck2 {mb mc by0 blk : Nat → Int32} {D : Nat → Nat} (T : MT mb mc) {l v b : Nat} (hl : l < 4) (hv : v < 41) (h1 : 1 ≤ v) (hb : b < nB l v) (hD : ∀ p : Nat, p < nH l v → by0 p = ni (D p)) (hblk : ∀ i : Nat, i < nK l v → blk (ln (nS l v) (nM l v) b + i) = ni (rs (nK l v) (fun j => D (str (nS l v) (nM l v) b + j)) (ln (nS l v) (nM l v) b) i)) : ∀ (e x mm : Nat) (wd : Nat → Int32), x + e = ln (nS l v) (nM l v) b + nK l v → e < mm → (∀ j : Nat, j < x → wd (pof (nH l v) (nB l v) (nS l v) (nM l v) b j) = ni (cwb (nH l v) (nK l v) (nS l v) (nM l v) D b j)) → ∃ wd', (∀ k20, fn_Md_check_L2 (ni v) (ni l) mb by0 mc (ni (nK l v)) (ni b) (ni (ln (nS l v) (nM l v) b)) (ni (str (nS l v) (nM l v) b)) blk k20 mm (ni x) wd = k20 wd') ∧ (∀ j : Nat, j < ln (nS l v) (nM l v) b + nK l v → wd' (pof (nH l v) (nB l v) (nS l v) (nM l v) b j) = ni (cwb (nH l v) (nK l v) (nS l v) (nM l v) D b j)) ∧ (∀ c j : Nat, c < nB l v → c ≠ b → j < ln (nS l v) (nM l v) c + nK l v → wd' (pof (nH l v) (nB l v) (nS l v) (nM l v) c j) = wd (pof (nH l v) (nB l v) (nS l v) (nM l v) c j)) ∧ ∀ i : Nat, nH l v + nB l v * nK l v ≤ i → wd' i = wd i
  | 0, x, mm + 1, wd, hx, _, h => by
    obtain ⟨a1, a2, a3, a4, a5, a6, a7, a8, a9, a10, a11, a12⟩ := vr_nu l hl v hv h1
    have hll := ln_le (nS l v) (nM l v) b
    have hxx : x = ln (nS l v) (nM l v) b + nK l v := by omega
    subst hxx
    refine ⟨wd, fun k20 => ?_, h, fun _ _ _ _ _ => rfl, fun _ _ => rfl⟩
    rw [fn_Md_check_L2_s]
    simp (disch := omega) only [ni_le, ni_add]
    rw [if_pos (by omega)]
  | e + 1, x, mm + 1, wd, hx, hmm, h => by
    obtain ⟨a1, a2, a3, a4, a5, a6, a7, a8, a9, a10, a11, a12⟩ := vr_nu l hl v hv h1
    have hll := ln_le (nS l v) (nM l v) b
    have hvn := vn_ok hl hv h1
    have hp := pof_lt (j := x) hvn hb (by omega)
    have e1 := md_place T hl hv h1 hb (j := x) (by omega)
    have hst := str_le (S := nS l v) (M := nM l v) hb
    rw [str_H hvn] at hst
    obtain ⟨wd', g1, g2, g3, g4⟩ := ck2 T hl hv h1 hb hD hblk e (x + 1) mm (upd wd (pof (nH l v) (nB l v) (nS l v) (nM l v) b x) (ni (cwb (nH l v) (nK l v) (nS l v) (nM l v) D b x))) (by omega) (by omega) (fun j hj => by
      rw [upd_a]
      by_cases q : j = x
      · rw [if_pos (by rw [q]), q]
      · rw [if_neg (fun w => q (pof_inj hvn hb hb (by omega) (by omega) w).2)]; exact h j (by omega))
    refine ⟨wd', fun k20 => ?_, g2, fun c j hc hne hj => by rw [g3 c j hc hne hj, upd_n _ _ (fun w => hne (pof_inj hvn hc hb hj (by omega) w).1)], fun i hi => by rw [g4 i hi, upd_n _ _ (by omega)]⟩
    rw [fn_Md_check_L2_s, ← g1 k20]
    unfold cwb
    by_cases q : x < ln (nS l v) (nM l v) b
    · have e2 := hD (str (nS l v) (nM l v) b + x) (by omega)
      rw [if_pos q]
      simp (disch := omega) only [ni_lit, ni_add, ni_mul, ni_sub, ni_lt, ni_le, ni_ix, ni_eq, ni_div, ni_rem, ni_and, ni_or, ni_xor, ni_shl, ni_shr, ni_gi, ni_gz, ni_max, ni_min, ni_dc, ni_0a, ni_ml, ni_mle, Nat.reduceAnd, Nat.reduceAdd, Nat.reduceMul, Nat.reduceSub, Nat.reduceDiv, Nat.reduceMod, Nat.reduceXor, Nat.reduceShiftLeft, Nat.reduceShiftRight, sq_bd, sq_jn, sq_cb0, sq_cb1, sq_cb2, sq_cb3, sq_cb4, sq_cb5, e1, e2]
      rw [if_neg (by omega), if_neg (by omega)]
    · have e2 := hblk (x - ln (nS l v) (nM l v) b) (by omega)
      rw [show ln (nS l v) (nM l v) b + (x - ln (nS l v) (nM l v) b) = x by omega] at e2
      rw [if_neg q]
      simp (disch := omega) only [ni_lit, ni_add, ni_mul, ni_sub, ni_lt, ni_le, ni_ix, ni_eq, ni_div, ni_rem, ni_and, ni_or, ni_xor, ni_shl, ni_shr, ni_gi, ni_gz, ni_max, ni_min, ni_dc, ni_0a, ni_ml, ni_mle, Nat.reduceAnd, Nat.reduceAdd, Nat.reduceMul, Nat.reduceSub, Nat.reduceDiv, Nat.reduceMod, Nat.reduceXor, Nat.reduceShiftLeft, Nat.reduceShiftRight, sq_bd, sq_jn, sq_cb0, sq_cb1, sq_cb2, sq_cb3, sq_cb4, sq_cb5, e1, e2]
      rw [if_neg (by omega), if_pos (by omega)]
theorem ck1 {mb mc by0 gen : Nat → Int32} {D : Nat → Nat} (T : MT mb mc) {l v n0 : Nat} (hn0 : 300 ≤ n0) (hl : l < 4) (hv : v < 41) (h1 : 1 ≤ v) (hD : ∀ p : Nat, p < nH l v → by0 p = ni (D p) ∧ D p < 256) (hg : ∀ t : Nat, t ≤ nK l v → gen t = ni (lc pw (nK l v) t)) : ∀ (e b mm : Nat) (blk wd : Nat → Int32), b + e = nB l v → e < mm → (∀ c j : Nat, c < b → j < ln (nS l v) (nM l v) c + nK l v → wd (pof (nH l v) (nB l v) (nS l v) (nM l v) c j) = ni (cwb (nH l v) (nK l v) (nS l v) (nM l v) D c j)) → ∃ blk' wd', fn_Md_check_L1 (ni v) (ni l) n0 mb by0 mc (ni (nK l v)) gen mm (ni b) blk wd = some (blk', gen, wd') ∧ (∀ i : Nat, nH l v + nB l v * nK l v ≤ i → wd' i = wd i) ∧ ∀ c j : Nat, c < nB l v → j < ln (nS l v) (nM l v) c + nK l v → wd' (pof (nH l v) (nB l v) (nS l v) (nM l v) c j) = ni (cwb (nH l v) (nK l v) (nS l v) (nM l v) D c j)
  | 0, b, mm + 1, blk, wd, hb, _, h => by
    obtain ⟨a1, a2, a3, a4, a5, a6, a7, a8, a9, a10, a11, a12⟩ := vr_nu l hl v hv h1
    refine ⟨blk, wd, ?_, fun _ _ => rfl, fun c j hc hj => h c j (by omega) hj⟩
    rw [fn_Md_check_L1_s, md_blk T hl hv h1]
    simp (disch := omega) only [ni_le, sq_bd, sq_jn, sq_cb0, sq_cb1, sq_cb2, sq_cb3, sq_cb4, sq_cb5]
    rw [if_pos (by omega)]
  | e + 1, b, mm + 1, blk, wd, hb, hmm, h => by
    obtain ⟨a1, a2, a3, a4, a5, a6, a7, a8, a9, a10, a11, a12⟩ := vr_nu l hl v hv h1
    have hll := ln_le (nS l v) (nM l v) b
    have hvn := vn_ok hl hv h1
    have hbB : b < nB l v := by omega
    have hst := str_le (S := nS l v) (M := nM l v) hbB
    rw [str_H hvn] at hst
    obtain ⟨b5, e5, h5⟩ := ck5 (by0 := by0) (D := D) (c := nK l v) (s := ln (nS l v) (nM l v) b) (st := str (nS l v) (nM l v) b) (by omega) (by omega) (fun p hp => (hD p (by omega)).1) (ln (nS l v) (nM l v) b + nK l v) 0 n0 blk (by omega) (by omega) (fun t ht => absurd ht (by omega))
    obtain ⟨b3, e3, h3⟩ := ck3 (c := nK l v) (s := ln (nS l v) (nM l v) b) (w := fun j => D (str (nS l v) (nM l v) b + j)) hn0 a4 (by omega) hg (fun j hj => (hD _ (by omega)).2) (ln (nS l v) (nM l v) b) 0 n0 b5 (by omega) (by omega) (fun m m1 m2 => by rw [h5 m m2]; show _ = ni (_ ^^^ 0); rw [x_0])
    obtain ⟨wd2, e2, g2, g3, g4⟩ := ck2 T hl hv h1 hbB (fun p hp => (hD p hp).1) h3 (ln (nS l v) (nM l v) b + nK l v) 0 n0 wd (by omega) (by omega) (fun j hj => absurd hj (by omega))
    obtain ⟨blk', wd', r1, r3, r2⟩ := ck1 T hn0 hl hv h1 hD hg e (b + 1) mm b3 wd2 (by omega) (by omega) (fun c j hc hj => by
      by_cases q : c = b
      · subst q; exact g2 j hj
      · rw [g3 c j (by omega) q hj]; exact h c j (by omega) hj)
    refine ⟨blk', wd', ?_, fun i hi => by rw [r3 i hi, g4 i hi], r2⟩
    rw [fn_Md_check_L1_s, ← r1, md_blk T hl hv h1, md_share T hl hv h1 (by omega), md_start T hn0 hl hv h1 (by omega)]
    simp (disch := omega) only [ni_lit, ni_add, ni_mul, ni_sub, ni_lt, ni_le, ni_ix, ni_eq, ni_div, ni_rem, ni_and, ni_or, ni_xor, ni_shl, ni_shr, ni_gi, ni_gz, ni_max, ni_min, ni_dc, ni_0a, ni_ml, ni_mle, Nat.reduceAnd, Nat.reduceAdd, Nat.reduceMul, Nat.reduceSub, Nat.reduceDiv, Nat.reduceMod, Nat.reduceXor, Nat.reduceShiftLeft, Nat.reduceShiftRight, sq_bd, sq_jn, sq_cb0, sq_cb1, sq_cb2, sq_cb3, sq_cb4, sq_cb5, e5, e3, e2]
    rw [if_neg (by omega)]
theorem md_check {mb mc by0 blk gen wd : Nat → Int32} {D : Nat → Nat} (T : MT mb mc) {l v n0 : Nat} (hn0 : 300 ≤ n0) (hl : l < 4) (hv : v < 41) (h1 : 1 ≤ v) (hD : ∀ p : Nat, p < nH l v → by0 p = ni (D p) ∧ D p < 256) : ∃ blk' gen' wd', fn_Md_check n0 (ni v) (ni l) blk mb by0 mc gen wd = some (blk', gen', wd') ∧ (∀ i : Nat, acw v ≤ i → wd' i = wd i) ∧ ∀ c j : Nat, c < nB l v → j < ln (nS l v) (nM l v) c + nK l v → wd' (pof (nH l v) (nB l v) (nS l v) (nM l v) c j) = ni (cwb (nH l v) (nK l v) (nS l v) (nM l v) D c j) := by
  obtain ⟨a1, a2, a3, a4, a5, a6, a7, a8, a9, a10, a11, a12⟩ := vr_nu l hl v hv h1
  obtain ⟨g, e1, g1⟩ := md_gen hn0 a4 gen
  obtain ⟨blk', wd', r1, r3, r2⟩ := ck1 (gen := g) T hn0 hl hv h1 hD g1 (nB l v) 0 n0 blk wd (by omega) (by omega) (fun c j hc => absurd hc (by omega))
  refine ⟨blk', g, wd', ?_, fun i hi => r3 i (by omega), r2⟩
  unfold fn_Md_check
  rw [md_chk T hl hv h1]
  simp only [sq_bd, sq_jn, sq_cb0, sq_cb1, sq_cb2, sq_cb3, sq_cb4, sq_cb5, e1]
  exact r1
