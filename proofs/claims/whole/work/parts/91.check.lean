/-! own rows: the check bytes -/
theorem lc_lt (X : Nat → Nat) (t k : Nat) : lc X t k < 256 := (lc_rc X t).2.1 k
/-- the class's generator after i roots -/
def gq1 (c i j : Nat) : Nat := if c ≤ i + 1 + j then lc pw i (i + 1 + j - c) else 0
theorem gq1_lt (c i j : Nat) : gq1 c i j < 256 := by
  unfold gq1
  split
  · exact lc_lt _ _ _
  · omega
theorem gq1_s {c i j : Nat} (hj : j < c) : gq1 c (i + 1) j = gm (gq1 c i j) (pw i) ^^^ gq1 c i (j + 1) := by
  unfold gq1
  by_cases h : c ≤ i + 1 + 1 + j
  · rw [if_pos h, if_pos (show c ≤ i + 1 + (j + 1) by omega), lc_s]
    by_cases h2 : c ≤ i + 1 + j
    · rw [if_pos h2, if_neg (by omega), show i + 1 + 1 + j - c - 1 = i + 1 + j - c by omega, show i + 1 + 1 + j - c = i + 1 + (j + 1) - c by omega, Nat.xor_comm, gm_comm]
    · rw [if_neg h2, if_pos (by omega), gm_0l, x_0, x_0l, show i + 1 + 1 + j - c = i + 1 + (j + 1) - c by omega]
  · rw [if_neg h, if_neg (by omega), if_neg (by omega), gm_0l, x_0]
theorem pg2 {lg pv : Nat → Int32} {c i : Nat} (F : FD lg pv) (hc : c ≤ 30) (hc1 : 1 ≤ c) (hi : i < c) (k12 : (Nat → Int32) → Option (Nat → Int32)) : ∀ (e j mm : Nat) (b : Nat → Int32), j + e = c → e < mm → (∀ t : Nat, t < j → b t = ni (gq1 c (i + 1) t)) → (∀ t : Nat, j ≤ t → t ≤ c → b t = ni (if t = c then 0 else gq1 c i t)) → ∃ b', fn_Codewords_prepareGenerator_L2 (ni c) lg pv (ni i) k12 mm (ni j) b = k12 b' ∧ ∀ t : Nat, t ≤ c → b' t = ni (if t = c then 0 else gq1 c (i + 1) t)
  | 0, j, mm + 1, b, hj, _, h1, h2 => by
    have hjc : j = c := by omega
    subst hjc
    refine ⟨b, ?_, fun t ht => ?_⟩
    · rw [fn_Codewords_prepareGenerator_L2_s]
      simp (disch := omega) only [ni_le]
      rw [if_pos (by omega)]
    · by_cases q : t = j
      · rw [h2 t (by omega) ht, if_pos q, if_pos q]
      · rw [if_neg q]; exact h1 t (by omega)
  | e + 1, j, mm + 1, b, hj, hmm, h1, h2 => by
    have e1 := h2 j (by omega) (by omega)
    rw [if_neg (by omega)] at e1
    have e2 := h2 (j + 1) (by omega) (by omega)
    have l1 := gq1_lt c i j
    have e2' : b (j + 1) = ni (gq1 c i (j + 1)) ∨ j + 1 = c := by
      by_cases q : j + 1 = c
      · exact Or.inr q
      · rw [if_neg q] at e2; exact Or.inl e2
    have hv : gm (gq1 c i j) (pw i) ^^^ (if j + 1 = c then 0 else gq1 c i (j + 1)) = gq1 c (i + 1) j ∨ j + 1 = c := by
      by_cases q : j + 1 = c
      · exact Or.inr q
      · rw [if_neg q, ← gq1_s (by omega)]; exact Or.inl rfl
    have hz : j + 1 = c → gq1 c i (j + 1) = 0 := fun q => by
      unfold gq1
      rw [if_pos (by omega), show i + 1 + (j + 1) - c = i + 1 by omega]
      exact (lc_rc pw i).2.2 (i + 1) (by omega)
    have hv2 : gm (gq1 c i j) (pw i) ^^^ (if j + 1 = c then 0 else gq1 c i (j + 1)) = gq1 c (i + 1) j := by
      rw [gq1_s (by omega)]
      by_cases q : j + 1 = c
      · rw [if_pos q, hz q]
      · rw [if_neg q]
    obtain ⟨b', g1, g2⟩ := pg2 F hc hc1 hi k12 e (j + 1) mm (upd b j (ni (gq1 c (i + 1) j))) (by omega) (by omega) (fun t ht => by
      rw [upd_a]
      by_cases q : t = j
      · rw [if_pos q, q]
      · rw [if_neg q]; exact h1 t (by omega)) (fun t t1 t2 => by rw [upd_n _ _ (by omega)]; exact h2 t (by omega) t2)
    refine ⟨b', ?_, g2⟩
    rw [fn_Codewords_prepareGenerator_L2_s, ← g1, ← hv2]
    have hpl := pw_lt i
    simp (disch := omega) only [ni_lit, ni_add, ni_mul, ni_sub, ni_lt, ni_le, ni_ix, ni_eq, ni_div, ni_rem, ni_and, ni_or, ni_xor, ni_shl, ni_shr, ni_gi, ni_gz, ni_max, ni_min, ni_dc, ni_0a, ni_ml, ni_mle, Nat.reduceAnd, Nat.reduceAdd, Nat.reduceMul, Nat.reduceSub, Nat.reduceDiv, Nat.reduceMod, Nat.reduceXor, Nat.reduceShiftLeft, Nat.reduceShiftRight, sq_bd, sq_jn, sq_cb0, sq_cb1, sq_cb2, sq_cb3, sq_cb4, sq_cb5, e1, e2, fd_power F, fd_times F]
    rw [if_neg (by omega)]
theorem pg1 {lg pv : Nat → Int32} {c n0 : Nat} (hn0 : 300 ≤ n0) (F : FD lg pv) (hc : c ≤ 30) (hc1 : 1 ≤ c) : ∀ (e i mm : Nat) (b : Nat → Int32), i + e = c → e < mm → (∀ t : Nat, t ≤ c → b t = ni (if t = c then 0 else gq1 c i t)) → ∃ b', fn_Codewords_prepareGenerator_L1 n0 (ni c) lg pv mm (ni i) b = some b' ∧ ∀ t : Nat, t ≤ c → b' t = ni (if t = c then 0 else gq1 c c t)
  | 0, i, mm + 1, b, hi, _, h => by
    have hic : i = c := by omega
    subst hic
    refine ⟨b, ?_, h⟩
    rw [fn_Codewords_prepareGenerator_L1_s]
    simp (disch := omega) only [ni_le]
    rw [if_pos (by omega)]
  | e + 1, i, mm + 1, b, hi, hmm, h => by
    obtain ⟨b2, e2, h2⟩ := pg2 (i := i) F hc hc1 (by omega) (fun b11 => fn_Codewords_prepareGenerator_L1 n0 (ni c) lg pv mm (ni (i + 1)) b11) c 0 n0 b (by omega) (by omega) (fun t ht => absurd ht (by omega)) (fun t _ t2 => h t t2)
    obtain ⟨b', g1, g2⟩ := pg1 hn0 F hc hc1 e (i + 1) mm b2 (by omega) (by omega) h2
    refine ⟨b', ?_, g2⟩
    rw [fn_Codewords_prepareGenerator_L1_s, ← g1, ← e2]
    simp (disch := omega) only [ni_lit, ni_add, ni_mul, ni_sub, ni_lt, ni_le, ni_ix, ni_eq, ni_div, ni_rem, ni_and, ni_or, ni_xor, ni_shl, ni_shr, ni_gi, ni_gz, ni_max, ni_min, ni_dc, ni_0a, ni_ml, ni_mle, Nat.reduceAnd, Nat.reduceAdd, Nat.reduceMul, Nat.reduceSub, Nat.reduceDiv, Nat.reduceMod, Nat.reduceXor, Nat.reduceShiftLeft, Nat.reduceShiftRight, sq_bd, sq_jn, sq_cb0, sq_cb1, sq_cb2, sq_cb3, sq_cb4, sq_cb5]
    rw [if_neg (by omega)]
theorem cl_gen {lg pv g : Nat → Int32} {c n0 : Nat} (hn0 : 300 ≤ n0) (F : FD lg pv) (hc : c ≤ 30) (hc1 : 1 ≤ c) : ∃ b', fn_Codewords_prepareGenerator n0 (ni c) g lg pv = some b' ∧ ∀ t : Nat, t < c → b' t = ni (lc pw c (t + 1)) := by
  obtain ⟨b1, e1, h1⟩ := fill1 (v := 0) (len := 31) (n0 := n0) (by omega) (by omega) g
  obtain ⟨b', g1, g2⟩ := pg1 hn0 F hc hc1 c 0 n0 (upd b1 (c - 1) (ni 1)) (by omega) (by omega) (fun t ht => by
    rw [upd_a]
    unfold gq1
    by_cases q : t = c - 1
    · rw [if_pos q, if_neg (by omega), if_pos (by omega), show 0 + 1 + t - c = 0 by omega]; rfl
    · rw [if_neg q, h1 t (by omega)]
      by_cases w : t = c
      · rw [if_pos w]; rfl
      · rw [if_neg w, if_neg (by omega)]; rfl)
  refine ⟨b', ?_, fun t ht => ?_⟩
  · unfold fn_Codewords_prepareGenerator
    rw [e1]
    simp (disch := omega) only [ni_lit, ni_add, ni_mul, ni_sub, ni_lt, ni_le, ni_ix, ni_eq, ni_div, ni_rem, ni_and, ni_or, ni_xor, ni_shl, ni_shr, ni_gi, ni_gz, ni_max, ni_min, ni_dc, ni_0a, ni_ml, ni_mle, Nat.reduceAnd, Nat.reduceAdd, Nat.reduceMul, Nat.reduceSub, Nat.reduceDiv, Nat.reduceMod, Nat.reduceXor, Nat.reduceShiftLeft, Nat.reduceShiftRight, sq_bd, sq_jn, sq_cb0, sq_cb1, sq_cb2, sq_cb3, sq_cb4, sq_cb5, g1]
    rw [if_neg (by omega), if_pos (by omega)]
  · rw [g2 t (by omega), if_neg (by omega)]
    unfold gq1
    rw [if_pos (by omega), show c + 1 + t - c = t + 1 by omega]
/-- the remainder after k bytes -/
def rs (c : Nat) (w : Nat → Nat) : Nat → Nat → Nat
  | 0 => fun _ => 0
  | k + 1 => fun i => rs c w k (i + 1) ^^^ gm (lc pw c (i + 1)) (w k ^^^ rs c w k 0)
theorem rs_s (c : Nat) (w : Nat → Nat) (k i : Nat) : rs c w (k + 1) i = rs c w k (i + 1) ^^^ gm (lc pw c (i + 1)) (w k ^^^ rs c w k 0) := rfl
theorem rs_lt (c : Nat) (w : Nat → Nat) : ∀ k i : Nat, rs c w k i < 256
  | 0, _ => by show 0 < 256; omega
  | k + 1, i => x_lt (rs_lt c w k _) (gm_lt _ _)
theorem rs_z (c : Nat) (w : Nat → Nat) : ∀ k i : Nat, c ≤ i → rs c w k i = 0
  | 0, _, _ => rfl
  | k + 1, i, h => by rw [rs_s, rs_z c w k (i + 1) (by omega), (lc_rc pw c).2.2 (i + 1) (by omega), gm_0l, x_0]
theorem rs_cg {c : Nat} {w w' : Nat → Nat} : ∀ (k : Nat), (∀ j : Nat, j < k → w j = w' j) → ∀ i : Nat, rs c w k i = rs c w' k i
  | 0, _, _ => rfl
  | k + 1, h, i => by rw [rs_s, rs_s, rs_cg k (fun j hj => h j (by omega)), rs_cg k (fun j hj => h j (by omega)), h k (by omega)]
theorem ac3 {lg pv gen : Nat → Int32} {c k : Nat} {w : Nat → Nat} (F : FD lg pv) (hc : c ≤ 30) (hg : ∀ t : Nat, t < c → gen t = ni (lc pw c (t + 1))) (hw : w k < 256) (k29 : (Nat → Int32) → Option ((Nat → Int32) × (Nat → Int32))) : ∀ (e i mm : Nat) (b : Nat → Int32), i + e = c → e < mm → (∀ t : Nat, t < i → b t = ni (rs c w (k + 1) t)) → (∀ t : Nat, i ≤ t → t ≤ c → b t = ni (rs c w k t)) → ∃ b', fn_Codewords_addChecksOf_L3 (ni c) gen lg pv (ni (w k ^^^ rs c w k 0)) k29 mm (ni i) b = k29 b' ∧ ∀ t : Nat, t ≤ c → b' t = ni (rs c w (k + 1) t)
  | 0, i, mm + 1, b, hi, _, h1, h2 => by
    have hic : i = c := by omega
    subst hic
    refine ⟨b, ?_, fun t ht => ?_⟩
    · rw [fn_Codewords_addChecksOf_L3_s]
      simp (disch := omega) only [ni_le]
      rw [if_pos (by omega)]
    · by_cases q : t = i
      · rw [h2 t (by omega) ht, rs_z _ _ _ _ (by omega), rs_z _ _ _ _ (by omega)]
      · exact h1 t (by omega)
  | e + 1, i, mm + 1, b, hi, hmm, h1, h2 => by
    have e1 := h2 (i + 1) (by omega) (by omega)
    have e2 := hg i (by omega)
    have l1 := rs_lt c w k 0
    have l2 := x_lt hw l1
    have l3 := lc_lt pw c (i + 1)
    obtain ⟨b', g1, g2⟩ := ac3 F hc hg hw k29 e (i + 1) mm (upd b i (ni (rs c w (k + 1) i))) (by omega) (by omega) (fun t ht => by
      rw [upd_a]
      by_cases q : t = i
      · rw [if_pos q, q]
      · rw [if_neg q]; exact h1 t (by omega)) (fun t t1 t2 => by rw [upd_n _ _ (by omega)]; exact h2 t (by omega) t2)
    refine ⟨b', ?_, g2⟩
    rw [fn_Codewords_addChecksOf_L3_s, ← g1, rs_s]
    simp (disch := omega) only [ni_lit, ni_add, ni_mul, ni_sub, ni_lt, ni_le, ni_ix, ni_eq, ni_div, ni_rem, ni_and, ni_or, ni_xor, ni_shl, ni_shr, ni_gi, ni_gz, ni_max, ni_min, ni_dc, ni_0a, ni_ml, ni_mle, Nat.reduceAnd, Nat.reduceAdd, Nat.reduceMul, Nat.reduceSub, Nat.reduceDiv, Nat.reduceMod, Nat.reduceXor, Nat.reduceShiftLeft, Nat.reduceShiftRight, sq_bd, sq_jn, sq_cb0, sq_cb1, sq_cb2, sq_cb3, sq_cb4, sq_cb5, e1, e2, fd_times F]
    rw [if_neg (by omega), if_neg (by omega)]
theorem ac2 {lg pv gen by0 : Nat → Int32} {H B K S M b n0 : Nat} {u : Nat → Nat} (hn0 : 300 ≤ n0) (F : FD lg pv) (h : VN H B K S M) (hb : b < B) (hg : ∀ t : Nat, t < K → gen t = ni (lc pw K (t + 1))) (hcb : cb by0 H u) (k6 : (Nat → Int32) → Option ((Nat → Int32) × (Nat → Int32))) : ∀ (e k mm : Nat) (r : Nat → Int32), k + e = ln S M b → e < mm → (∀ t : Nat, t ≤ K → r t = ni (rs K (fun j => u (str S M b + j)) k t)) → ∃ r', fn_Codewords_addChecksOf_L2 (ni b) n0 (ni H) (ni K) (ni S) (ni M) by0 gen lg pv (ni (ln S M b)) k6 mm (ni k) r = k6 r' ∧ ∀ t : Nat, t ≤ K → r' t = ni (rs K (fun j => u (str S M b + j)) (ln S M b) t)
  | 0, k, mm + 1, r, hk, _, hr => by
    have hl := ln_le S M b
    have h8 := h.2.2.2.2.2.2.2.1
    refine ⟨r, ?_, by rw [← show k = ln S M b by omega]; exact hr⟩
    rw [fn_Codewords_addChecksOf_L2_s]
    simp (disch := omega) only [ni_le]
    rw [if_pos (by omega)]
  | e + 1, k, mm + 1, r, hk, hmm, hr => by
    have hl := ln_le S M b
    have h0 := h
    obtain ⟨h1, h2, h3, h4, h5, h6, h7, h8, h9⟩ := h0
    have hst := str_le (S := S) (M := M) hb
    rw [str_H h] at hst
    have hp : pib H K S M b k = str S M b + k := by unfold pib; rw [if_neg (by omega)]
    have hu := hcb (str S M b + k) (by omega)
    have e1 : fn_Codewords_get (ni (pib H K S M b k)) by0 = some (ni (u (str S M b + k))) := by
      rw [hp]; exact cw_get hcb (by omega) (by omega)
    have e0 := hr 0 (by omega)
    have l1 := rs_lt K (fun j => u (str S M b + j)) k 0
    obtain ⟨r2, e3, g3⟩ := ac3 (k := k) (w := fun j => u (str S M b + j)) F h5 hg hu.2 (fun b28 => fn_Codewords_addChecksOf_L2 (ni b) n0 (ni H) (ni K) (ni S) (ni M) by0 gen lg pv (ni (ln S M b)) k6 mm (ni (k + 1)) b28) K 0 n0 r (by omega) (by omega) (fun t ht => absurd ht (by omega)) (fun t _ t2 => hr t t2)
    obtain ⟨r', g1, g2⟩ := ac2 hn0 F h hb hg hcb k6 e (k + 1) mm r2 (by omega) (by omega) g3
    refine ⟨r', ?_, g2⟩
    rw [fn_Codewords_addChecksOf_L2_s, ← g1, ← e3]
    simp (disch := omega) only [ni_lit, ni_add, ni_mul, ni_sub, ni_lt, ni_le, ni_ix, ni_eq, ni_div, ni_rem, ni_and, ni_or, ni_xor, ni_shl, ni_shr, ni_gi, ni_gz, ni_max, ni_min, ni_dc, ni_0a, ni_ml, ni_mle, Nat.reduceAnd, Nat.reduceAdd, Nat.reduceMul, Nat.reduceSub, Nat.reduceDiv, Nat.reduceMod, Nat.reduceXor, Nat.reduceShiftLeft, Nat.reduceShiftRight, sq_bd, sq_jn, sq_cb0, sq_cb1, sq_cb2, sq_cb3, sq_cb4, sq_cb5, cl_pib, e1, e0]
    rw [if_neg (by omega)]
theorem ac1 {r : Nat → Int32} {H B K S M b : Nat} {q : Nat → Nat} (h : VN H B K S M) (hb : b < B) (hq : ∀ i : Nat, i < K → r i = ni (q i) ∧ q i < 256) : ∀ (e i mm : Nat) (by0 : Nat → Int32) (u : Nat → Nat) (N : Nat), i + e = K → e < mm → N = H + b * K + i → cb by0 N u → ∃ by1 u', fn_Codewords_addChecksOf_L1 (ni b) (ni H) (ni K) (ni S) (ni M) (ni (ln S M b)) r mm (ni i) by0 = some (by1, r) ∧ cb by1 (H + (b + 1) * K) u' ∧ (∀ p : Nat, p < N → u' p = u p) ∧ ∀ j : Nat, i ≤ j → j < K → u' (H + b * K + j) = q j
  | 0, i, mm + 1, by0, u, N, hi, _, hN, hcb => by
    have h5 := h.2.2.2.2.1
    refine ⟨by0, u, ?_, by rw [Nat.succ_mul, show H + (b * K + K) = N by omega]; exact hcb, fun _ _ => rfl, fun j j1 j2 => by omega⟩
    rw [fn_Codewords_addChecksOf_L1_s]
    simp (disch := omega) only [ni_le]
    rw [if_pos (by omega)]
  | e + 1, i, mm + 1, by0, u, N, hi, hmm, hN, hcb => by
    have hl := ln_le S M b
    have h0 := h
    obtain ⟨h1, h2, h3, h4, h5, h6, h7, h8, h9⟩ := h0
    obtain ⟨q1, q2⟩ := hq i (by omega)
    have hbK : (b + 1) * K ≤ B * K := Nat.mul_le_mul_right K hb
    rw [Nat.succ_mul] at hbK
    have hp : pib H K S M b (ln S M b + i) = N := by unfold pib; rw [if_pos (by omega)]; omega
    obtain ⟨s1, s2⟩ := cw_setm (b := by0) (p := N) (x := q i) (by omega)
    rw [Nat.mod_eq_of_lt q2] at s2
    obtain ⟨by1, u', g1, g2, g3, g4⟩ := ac1 h hb hq e (i + 1) mm (upd by0 N (vp_nar .byte (sq_i2b (ni (q i))))) (fun p => if p = N then q i else u p) (N + 1) (by omega) (by omega) (by omega) (fun p hp2 => by
      dsimp only
      rw [upd_a]
      by_cases w : p = N
      · rw [if_pos w, if_pos w]; exact ⟨s2, q2⟩
      · rw [if_neg w, if_neg w]; exact hcb p (by omega))
    refine ⟨by1, u', ?_, g2, fun p hp2 => by rw [g3 p (by omega), if_neg (by omega)], fun j j1 j2 => ?_⟩
    · rw [fn_Codewords_addChecksOf_L1_s, ← g1]
      simp (disch := omega) only [ni_lit, ni_add, ni_mul, ni_sub, ni_lt, ni_le, ni_ix, ni_eq, ni_div, ni_rem, ni_and, ni_or, ni_xor, ni_shl, ni_shr, ni_gi, ni_gz, ni_max, ni_min, ni_dc, ni_0a, ni_ml, ni_mle, Nat.reduceAnd, Nat.reduceAdd, Nat.reduceMul, Nat.reduceSub, Nat.reduceDiv, Nat.reduceMod, Nat.reduceXor, Nat.reduceShiftLeft, Nat.reduceShiftRight, sq_bd, sq_jn, sq_cb0, sq_cb1, sq_cb2, sq_cb3, sq_cb4, sq_cb5, cl_pib, hp, q1, s1]
      rw [if_neg (by omega), if_neg (by omega)]
    · by_cases w : j = i
      · rw [w, ← hN, g3 N (by omega), if_pos rfl]
      · exact g4 j (by omega) j2
/-- a block with its check bytes -/
def cwb (H K S M : Nat) (D : Nat → Nat) (b j : Nat) : Nat := if j < ln S M b then D (str S M b + j) else rs K (fun i => D (str S M b + i)) (ln S M b) (j - ln S M b)
theorem ak1 {lg pv gen : Nat → Int32} {H B K S M n0 : Nat} {D : Nat → Nat} (hn0 : 300 ≤ n0) (F : FD lg pv) (h : VN H B K S M) (hg : ∀ t : Nat, t < K → gen t = ni (lc pw K (t + 1))) : ∀ (e b mm : Nat) (by0 rest : Nat → Int32) (u : Nat → Nat), b + e = B → e < mm → cb by0 (H + b * K) u → (∀ p : Nat, p < H → u p = D p) → (∀ c i : Nat, c < b → i < K → u (H + c * K + i) = rs K (fun j => D (str S M c + j)) (ln S M c) i) → ∃ by1 rest1 u', fn_Codewords_addChecks_L1 n0 (ni H) (ni B) (ni K) (ni S) (ni M) lg pv gen mm (ni b) by0 rest = some (by1, gen, rest1) ∧ cb by1 (H + B * K) u' ∧ (∀ p : Nat, p < H → u' p = D p) ∧ ∀ c i : Nat, c < B → i < K → u' (H + c * K + i) = rs K (fun j => D (str S M c + j)) (ln S M c) i
  | 0, b, mm + 1, by0, rest, u, hb, _, hcb, h1, h2 => by
    have hbB : b = B := by omega
    subst hbB
    have h3 := h.2.2.1
    refine ⟨by0, rest, u, ?_, hcb, h1, h2⟩
    rw [fn_Codewords_addChecks_L1_s]
    simp (disch := omega) only [ni_le]
    rw [if_pos (by omega)]
  | e + 1, b, mm + 1, by0, rest, u, hb, hmm, hcb, h1, h2 => by
    have h0 := h
    obtain ⟨k1, k2, k3, k4, k5, k6, k7, k8, k9⟩ := h0
    have hl := ln_le S M b
    have hbB : b < B := by omega
    obtain ⟨r0, e0, g0⟩ := fill1 (v := 0) (len := 31) (n0 := n0) (by omega) (by omega) rest
    have hst := str_le (S := S) (M := M) hbB
    rw [str_H h] at hst
    obtain ⟨r1, e1, g1⟩ := ac2 (b := b) (u := u) hn0 F h hbB hg (fun p hp => hcb p (by omega)) (fun b5 => fn_Codewords_addChecksOf_L1 (ni b) (ni H) (ni K) (ni S) (ni M) (ni (ln S M b)) b5 n0 0 by0) (ln S M b) 0 n0 r0 (by omega) (by omega) (fun t ht => by rw [g0 t (by omega)]; rfl)
    obtain ⟨by1, u', e2, g2, g3, g4⟩ := ac1 (r := r1) (q := rs K (fun j => u (str S M b + j)) (ln S M b)) h hbB (fun i hi => ⟨g1 i (by omega), rs_lt _ _ _ _⟩) K 0 n0 by0 u (H + b * K) (by omega) (by omega) rfl hcb
    have hcg : ∀ i : Nat, rs K (fun j => u (str S M b + j)) (ln S M b) i = rs K (fun j => D (str S M b + j)) (ln S M b) i := rs_cg _ (fun j hj => h1 _ (by omega))
    obtain ⟨by3, rest3, u3, e3, a1, a2, a3⟩ := ak1 (D := D) hn0 F h hg e (b + 1) mm by1 r1 u' (by omega) (by omega) g2 (fun p hp => by rw [g3 p (by omega)]; exact h1 p hp) (fun c i hc hi => by
      by_cases w : c = b
      · rw [w, g4 i (by omega) hi]; exact hcg i
      · have : (c + 1) * K ≤ b * K := Nat.mul_le_mul_right K (by omega)
        rw [Nat.succ_mul] at this
        rw [g3 _ (by omega)]; exact h2 c i (by omega) hi)
    refine ⟨by3, rest3, u3, ?_, a1, a2, a3⟩
    rw [fn_Codewords_addChecks_L1_s, ← e3]
    have e9 : fn_Codewords_addChecksOf n0 (ni b) (ni H) (ni K) (ni S) (ni M) by0 gen rest lg pv = some (by1, r1) := by
      unfold fn_Codewords_addChecksOf
      rw [e0, cl_len (by omega) (by omega)]
      exact e1.trans e2
    simp (disch := omega) only [ni_lit, ni_add, ni_mul, ni_sub, ni_lt, ni_le, ni_ix, ni_eq, ni_div, ni_rem, ni_and, ni_or, ni_xor, ni_shl, ni_shr, ni_gi, ni_gz, ni_max, ni_min, ni_dc, ni_0a, ni_ml, ni_mle, Nat.reduceAnd, Nat.reduceAdd, Nat.reduceMul, Nat.reduceSub, Nat.reduceDiv, Nat.reduceMod, Nat.reduceXor, Nat.reduceShiftLeft, Nat.reduceShiftRight, sq_bd, sq_jn, sq_cb0, sq_cb1, sq_cb2, sq_cb3, sq_cb4, sq_cb5, e9]
    rw [if_neg (by omega)]
theorem cl_checks {lg pv gen rest by0 : Nat → Int32} {H B K S M n0 : Nat} {D : Nat → Nat} (hn0 : 300 ≤ n0) (F : FD lg pv) (h : VN H B K S M) (hD : cb by0 H D) : ∃ by1 gen1 rest1 u, fn_Codewords_addChecks n0 (ni H) (ni B) (ni K) (ni S) (ni M) by0 gen rest lg pv = some (by1, gen1, rest1) ∧ cb by1 (H + B * K) u ∧ ∀ b j : Nat, b < B → j < ln S M b + K → u (pib H K S M b j) = cwb H K S M D b j := by
  have h0 := h
  obtain ⟨k1, k2, k3, k4, k5, k6, k7, k8, k9⟩ := h0
  obtain ⟨g, e1, h1⟩ := cl_gen (g := gen) hn0 F k5 (by omega)
  obtain ⟨by1, rest1, u, e2, a1, a2, a3⟩ := ak1 (D := D) hn0 F h h1 B 0 n0 by0 rest D (by omega) (by omega) (by rw [Nat.zero_mul, Nat.add_zero]; exact hD) (fun _ _ => rfl) (fun c i hc => absurd hc (by omega))
  refine ⟨by1, g, rest1, u, ?_, a1, fun b j hb hj => ?_⟩
  · unfold fn_Codewords_addChecks
    rw [e1]
    exact e2
  · have hst := str_le (S := S) (M := M) hb
    rw [str_H h] at hst
    unfold pib cwb
    by_cases w : j < ln S M b
    · rw [if_neg (by omega), if_pos w]; exact a2 _ (by omega)
    · rw [if_pos (by omega), if_neg w, show H + b * K + j - ln S M b = H + b * K + (j - ln S M b) by omega]
      exact a3 b _ hb (by omega)
