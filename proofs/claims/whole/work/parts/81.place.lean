/-! own rows: the class's and the model's places -/
theorem cl_len {b S M : Nat} (hb : b < 1000000) (hM : M < 1000000) : fn_Codewords_length (ni b) (ni S) (ni M) = some (ni (ln S M b)) := by
  unfold fn_Codewords_length ln
  simp (disch := omega) only [ni_lit, ni_add, ni_mul, ni_sub, ni_lt, ni_le, ni_ix, ni_eq, ni_div, ni_rem, ni_and, ni_or, ni_xor, ni_shl, ni_shr, ni_gi, ni_gz, ni_max, ni_min, ni_dc, ni_0a, ni_ml, ni_mle, Nat.reduceAnd, Nat.reduceAdd, Nat.reduceMul, Nat.reduceSub, Nat.reduceDiv, Nat.reduceMod, Nat.reduceXor, Nat.reduceShiftLeft, Nat.reduceShiftRight]
  split <;> rfl
theorem ln_le (S M b : Nat) : S ≤ ln S M b ∧ ln S M b ≤ S + 1 := by unfold ln; split <;> omega
theorem cl_start {b S M : Nat} (hb : b < 1000) (hM : M < 1000) : fn_Codewords_start (ni b) (ni S) (ni M) = some (ni (str S M b)) := by
  unfold fn_Codewords_start str
  simp (disch := omega) only [sq_bd, ni_lit, ni_mx0, ni_mul, ni_add]
theorem cl_pib {b j H K S M : Nat} (hb : b < 1000) (hM : M < 1000) (hS : S < 1000) (hj : j < 1000) : fn_Codewords_placeInBlock (ni b) (ni j) (ni H) (ni K) (ni S) (ni M) = some (ni (pib H K S M b j)) := by
  have hl := ln_le S M b
  unfold fn_Codewords_placeInBlock pib
  rw [cl_len (by omega) (by omega), cl_start hb hM]
  simp (disch := omega) only [ni_lit, ni_add, ni_mul, ni_sub, ni_lt, ni_le, ni_ix, ni_eq, ni_div, ni_rem, ni_and, ni_or, ni_xor, ni_shl, ni_shr, ni_gi, ni_gz, ni_max, ni_min, ni_dc, ni_0a, ni_ml, ni_mle, Nat.reduceAnd, Nat.reduceAdd, Nat.reduceMul, Nat.reduceSub, Nat.reduceDiv, Nat.reduceMod, Nat.reduceXor, Nat.reduceShiftLeft, Nat.reduceShiftRight, sq_bd, sq_jn, sq_cb0, sq_cb1, sq_cb2, sq_cb3, sq_cb4, sq_cb5]
  split
  · rfl
  · rfl
def pio (H B K S M k : Nat) : Nat := if S * B ≤ k then (if H ≤ k then H + (k - H) % B * K + (k - H) / B else pib H K S M (M + k - S * B) S) else pib H K S M (k % B) (k / B)
theorem cl_pio {k H B K S M : Nat} (h : VN H B K S M) (hk : k < H + B * K) : fn_Codewords_placeInOrder (ni k) (ni H) (ni B) (ni K) (ni S) (ni M) = some (ni (pio H B K S M k)) := by
  obtain ⟨h1, h2, h3, h4, h5, h6, h7, h8, h9⟩ := h
  have hm : k % B < B := Nat.mod_lt _ (by omega)
  have hSB : S * B ≤ H := by rw [Nat.mul_comm]; omega
  unfold fn_Codewords_placeInOrder pio
  have hmx : max 1 B = B := Nat.max_eq_right (show 1 ≤ B by omega)
  simp (disch := omega) only [ni_lit, ni_add, ni_mul, ni_sub, ni_lt, ni_le, ni_ix, ni_eq, ni_div, ni_rem, ni_and, ni_or, ni_xor, ni_shl, ni_shr, ni_gi, ni_gz, ni_max, ni_min, ni_dc, ni_0a, ni_ml, ni_mle, Nat.reduceAnd, Nat.reduceAdd, Nat.reduceMul, Nat.reduceSub, Nat.reduceDiv, Nat.reduceMod, Nat.reduceXor, Nat.reduceShiftLeft, Nat.reduceShiftRight, sq_bd, sq_jn, sq_cb0, sq_cb1, sq_cb2, sq_cb3, sq_cb4, sq_cb5, hmx]
  by_cases q1 : S * B ≤ k
  · rw [if_pos q1, if_pos q1]
    by_cases q2 : H ≤ k
    · rw [if_pos q2, if_pos q2]
    · rw [if_neg q2, if_neg q2, cl_pib (by rw [Nat.mul_comm S B] at *; omega) (by omega) (by omega) (by omega)]
  · rw [if_neg q1, if_neg q1]
    have hd : k / B < S := (Nat.div_lt_iff_lt_mul (by omega)).mpr (by omega)
    simp (disch := omega) only [ni_lit, ni_add, ni_mul, ni_sub, ni_lt, ni_le, ni_ix, ni_eq, ni_div, ni_rem, ni_and, ni_or, ni_xor, ni_shl, ni_shr, ni_gi, ni_gz, ni_max, ni_min, ni_dc, ni_0a, ni_ml, ni_mle, Nat.reduceAnd, Nat.reduceAdd, Nat.reduceMul, Nat.reduceSub, Nat.reduceDiv, Nat.reduceMod, Nat.reduceXor, Nat.reduceShiftLeft, Nat.reduceShiftRight, cl_pib]
theorem pio_pof {H B K S M b j : Nat} (h : VN H B K S M) (hb : b < B) (hj : j < ln S M b + K) : pio H B K S M (pof H B S M b j) = pib H K S M b j := by
  obtain ⟨h1, h2, h3, h4, h5, h6, h7, h8, h9⟩ := h
  have hSB : S * B = B * S := Nat.mul_comm _ _
  unfold pio pof
  by_cases q1 : j < ln S M b
  · rw [if_pos q1]
    by_cases q2 : S ≤ j
    · have hMb : M ≤ b := by unfold ln at q1; split at q1 <;> omega
      have hjS : j = S := by have := ln_le S M b; omega
      rw [if_pos q2, if_pos (by omega), if_neg (by omega), show M + (S * B + b - M) - S * B = b by omega, hjS]
    · have : j * B + b < S * B := by
        have : (j + 1) * B ≤ S * B := Nat.mul_le_mul_right B (by omega)
        rw [Nat.succ_mul] at this; omega
      rw [if_neg q2, if_neg (by omega), Nat.mul_comm j B, Nat.mul_add_mod, Nat.mod_eq_of_lt hb, Nat.mul_add_div (by omega), Nat.div_eq_of_lt hb, Nat.add_zero]
  · rw [if_neg q1, if_pos (by omega), if_pos (by omega), show H + (j - ln S M b) * B + b - H = B * (j - ln S M b) + b by rw [Nat.mul_comm B]; omega, Nat.mul_add_mod, Nat.mod_eq_of_lt hb, Nat.mul_add_div (by omega), Nat.div_eq_of_lt hb]
    unfold pib
    rw [if_pos (by omega)]
    omega
theorem pof_lt {H B K S M b j : Nat} (h : VN H B K S M) (hb : b < B) (hj : j < ln S M b + K) : pof H B S M b j < H + B * K := by
  obtain ⟨h1, h2, h3, h4, h5, h6, h7, h8, h9⟩ := h
  have hSB : S * B = B * S := Nat.mul_comm _ _
  unfold pof
  by_cases q1 : j < ln S M b
  · rw [if_pos q1]
    by_cases q2 : S ≤ j
    · have hMb : M ≤ b := by unfold ln at q1; split at q1 <;> omega
      have : 0 ≤ B * K := Nat.zero_le _
      rw [if_pos q2]; omega
    · have : (j + 1) * B ≤ S * B := Nat.mul_le_mul_right B (by omega)
      rw [if_neg q2]
      rw [Nat.succ_mul] at this; omega
  · rw [if_neg q1]
    have : (j - ln S M b + 1) * B ≤ K * B := Nat.mul_le_mul_right B (by omega)
    rw [Nat.succ_mul, Nat.mul_comm K B] at this; omega
theorem pof_all {H B K S M k : Nat} (h : VN H B K S M) (hk : k < H + B * K) : ∃ b j : Nat, b < B ∧ j < ln S M b + K ∧ pof H B S M b j = k := by
  obtain ⟨h1, h2, h3, h4, h5, h6, h7, h8, h9⟩ := h
  have hSB : S * B = B * S := Nat.mul_comm _ _
  have hm : k % B < B := Nat.mod_lt _ (by omega)
  by_cases q1 : S * B ≤ k
  · by_cases q2 : H ≤ k
    · have hm2 : (k - H) % B < B := Nat.mod_lt _ (by omega)
      have hd : (k - H) / B < K := (Nat.div_lt_iff_lt_mul (by omega)).mpr (by rw [Nat.mul_comm]; omega)
      have hdm := Nat.div_add_mod (k - H) B
      generalize (k - H) % B = r at hm2 hdm
      generalize (k - H) / B = q at hd hdm
      refine ⟨r, ln S M r + q, hm2, by omega, ?_⟩
      unfold pof
      rw [if_neg (by omega), show ln S M r + q - ln S M r = q by omega, Nat.mul_comm]
      omega
    · refine ⟨M + (k - S * B), S, by omega, ?_, ?_⟩
      · unfold ln; rw [if_pos (by omega)]; omega
      · unfold pof ln
        rw [if_pos (show M ≤ M + (k - S * B) by omega), if_pos (by omega), if_pos (by omega)]
        omega
  · have hd : k / B < S := (Nat.div_lt_iff_lt_mul (by omega)).mpr (by omega)
    have hl := ln_le S M (k % B)
    refine ⟨k % B, k / B, hm, by omega, ?_⟩
    unfold pof
    rw [if_pos (by omega), if_neg (by omega), Nat.mul_comm]
    exact Nat.div_add_mod k B
theorem pio_inj {H B K S M k q : Nat} (h : VN H B K S M) (hk : k < H + B * K) (hq : q < H + B * K) (e : pio H B K S M k = pio H B K S M q) : k = q := by
  obtain ⟨b, j, h1, h2, h3⟩ := pof_all h hk
  obtain ⟨c, i, g1, g2, g3⟩ := pof_all h hq
  rw [← h3, ← g3, pio_pof h h1 h2, pio_pof h g1 g2] at e
  obtain ⟨r1, r2⟩ := pib_inj h h1 g1 h2 g2 e
  rw [← h3, ← g3, r1, r2]
theorem pio_lt {H B K S M k : Nat} (h : VN H B K S M) (hk : k < H + B * K) : pio H B K S M k < H + B * K := by
  obtain ⟨b, j, h1, h2, h3⟩ := pof_all h hk
  rw [← h3, pio_pof h h1 h2]
  exact pib_lt h h1 h2
/-! the model's -/
def MT (mb mc : Nat → Int32) : Prop := ∀ i : Nat, i < 160 → mb i = ni (bkT.getD i 0) ∧ mc i = ni (ckT.getD i 0)
theorem md_blk {mb mc : Nat → Int32} (T : MT mb mc) {l v : Nat} (hl : l < 4) (hv : v < 41) (h1 : 1 ≤ v) : fn_Md_blocksOf (ni v) (ni l) mb = some (ni (nB l v)) := by
  unfold fn_Md_blocksOf
  simp (disch := omega) only [ni_lit, ni_add, ni_mul, ni_sub, ni_lt, ni_le, ni_ix, ni_eq, ni_div, ni_rem, ni_and, ni_or, ni_xor, ni_shl, ni_shr, ni_gi, ni_gz, ni_max, ni_min, ni_dc, ni_0a, ni_ml, ni_mle, Nat.reduceAnd, Nat.reduceAdd, Nat.reduceMul, Nat.reduceSub, Nat.reduceDiv, Nat.reduceMod, Nat.reduceXor, Nat.reduceShiftLeft, Nat.reduceShiftRight, sq_bd, sq_jn, sq_cb0, sq_cb1, sq_cb2, sq_cb3, sq_cb4, sq_cb5, (T _ _).1]
  rfl
theorem md_chk {mb mc : Nat → Int32} (T : MT mb mc) {l v : Nat} (hl : l < 4) (hv : v < 41) (h1 : 1 ≤ v) : fn_Md_checkOf (ni v) (ni l) mc = some (ni (nK l v)) := by
  unfold fn_Md_checkOf
  simp (disch := omega) only [ni_lit, ni_add, ni_mul, ni_sub, ni_lt, ni_le, ni_ix, ni_eq, ni_div, ni_rem, ni_and, ni_or, ni_xor, ni_shl, ni_shr, ni_gi, ni_gz, ni_max, ni_min, ni_dc, ni_0a, ni_ml, ni_mle, Nat.reduceAnd, Nat.reduceAdd, Nat.reduceMul, Nat.reduceSub, Nat.reduceDiv, Nat.reduceMod, Nat.reduceXor, Nat.reduceShiftLeft, Nat.reduceShiftRight, sq_bd, sq_jn, sq_cb0, sq_cb1, sq_cb2, sq_cb3, sq_cb4, sq_cb5, (T _ _).2]
  rfl
theorem md_holds {mb mc : Nat → Int32} (T : MT mb mc) {l v : Nat} (hl : l < 4) (hv : v < 41) (h1 : 1 ≤ v) : fn_Md_holds (ni v) (ni l) mb mc = some (ni (nH l v)) := by
  obtain ⟨a1, a2, a3, a4, a5, a6, a7, a8, a9, a10, a11, a12⟩ := vr_nu l hl v hv h1
  unfold fn_Md_holds
  rw [(vr_cw v hv h1).2, md_chk T hl hv h1, md_blk T hl hv h1]
  simp (disch := omega) only [ni_lit, ni_add, ni_mul, ni_sub, ni_lt, ni_le, ni_ix, ni_eq, ni_div, ni_rem, ni_and, ni_or, ni_xor, ni_shl, ni_shr, ni_gi, ni_gz, ni_max, ni_min, ni_dc, ni_0a, ni_ml, ni_mle, Nat.reduceAnd, Nat.reduceAdd, Nat.reduceMul, Nat.reduceSub, Nat.reduceDiv, Nat.reduceMod, Nat.reduceXor, Nat.reduceShiftLeft, Nat.reduceShiftRight, sq_bd, sq_jn, sq_cb0, sq_cb1, sq_cb2, sq_cb3, sq_cb4, sq_cb5]
  rw [ni_sub (by rw [Nat.mul_comm]; omega), Nat.mul_comm]
  rfl
theorem md_share {mb mc : Nat → Int32} (T : MT mb mc) {l v b : Nat} (hl : l < 4) (hv : v < 41) (h1 : 1 ≤ v) (hb : b < 1000) : fn_Md_shareOf (ni v) (ni l) (ni b) mb mc = some (ni (ln (nS l v) (nM l v) b)) := by
  obtain ⟨a1, a2, a3, a4, a5, a6, a7, a8, a9, a10, a11, a12⟩ := vr_nu l hl v hv h1
  have hm : nH l v % nB l v < nB l v := Nat.mod_lt _ (by omega)
  unfold fn_Md_shareOf
  rw [md_holds T hl hv h1, md_blk T hl hv h1]
  simp (disch := omega) only [ni_lit, ni_add, ni_mul, ni_sub, ni_lt, ni_le, ni_ix, ni_eq, ni_div, ni_rem, ni_and, ni_or, ni_xor, ni_shl, ni_shr, ni_gi, ni_gz, ni_max, ni_min, ni_dc, ni_0a, ni_ml, ni_mle, Nat.reduceAnd, Nat.reduceAdd, Nat.reduceMul, Nat.reduceSub, Nat.reduceDiv, Nat.reduceMod, Nat.reduceXor, Nat.reduceShiftLeft, Nat.reduceShiftRight, sq_bd, sq_jn, sq_cb0, sq_cb1, sq_cb2, sq_cb3, sq_cb4, sq_cb5]
  unfold ln
  show (if b < nM l v then some (ni (nS l v)) else some (ni (nS l v + 1))) = _
  by_cases q : b < nM l v
  · rw [if_pos q, if_neg (by omega)]
  · rw [if_neg q, if_pos (by omega)]
theorem st_l {mb mc : Nat → Int32} (T : MT mb mc) {l v c : Nat} (hl : l < 4) (hv : v < 41) (h1 : 1 ≤ v) (hc : c ≤ 81) : ∀ (d b m : Nat), b + d = c → d < m → fn_Md_startOf_L1 (ni v) (ni l) (ni c) mb mc m (ni (str (nS l v) (nM l v) b)) (ni b) = some (ni (str (nS l v) (nM l v) c))
  | 0, b, m + 1, hb, _ => by
    rw [fn_Md_startOf_L1_s, show b = c by omega]
    simp (disch := omega) only [ni_lit, ni_add, ni_mul, ni_sub, ni_lt, ni_le, ni_ix, ni_eq, ni_div, ni_rem, ni_and, ni_or, ni_xor, ni_shl, ni_shr, ni_gi, ni_gz, ni_max, ni_min, ni_dc, ni_0a, ni_ml, ni_mle, Nat.reduceAnd, Nat.reduceAdd, Nat.reduceMul, Nat.reduceSub, Nat.reduceDiv, Nat.reduceMod, Nat.reduceXor, Nat.reduceShiftLeft, Nat.reduceShiftRight]
    rw [if_pos (by omega)]
  | d + 1, b, m + 1, hb, hm => by
    rw [fn_Md_startOf_L1_s, ← st_l T hl hv h1 hc d (b + 1) m (by omega) (by omega), str_s]
    simp (disch := omega) only [ni_lit, ni_add, ni_mul, ni_sub, ni_lt, ni_le, ni_ix, ni_eq, ni_div, ni_rem, ni_and, ni_or, ni_xor, ni_shl, ni_shr, ni_gi, ni_gz, ni_max, ni_min, ni_dc, ni_0a, ni_ml, ni_mle, Nat.reduceAnd, Nat.reduceAdd, Nat.reduceMul, Nat.reduceSub, Nat.reduceDiv, Nat.reduceMod, Nat.reduceXor, Nat.reduceShiftLeft, Nat.reduceShiftRight, sq_bd, sq_jn, sq_cb0, sq_cb1, sq_cb2, sq_cb3, sq_cb4, sq_cb5, md_share T hl hv h1]
    rw [if_neg (by omega)]
theorem md_start {mb mc : Nat → Int32} (T : MT mb mc) {l v c n0 : Nat} (hn0 : 300 ≤ n0) (hl : l < 4) (hv : v < 41) (h1 : 1 ≤ v) (hc : c ≤ 81) : fn_Md_startOf n0 (ni v) (ni l) (ni c) mb mc = some (ni (str (nS l v) (nM l v) c)) := by
  have := st_l T hl hv h1 hc c 0 n0 (by omega) (by omega)
  rw [show str (nS l v) (nM l v) 0 = 0 by unfold str; omega] at this
  exact this
theorem md_place {mb mc : Nat → Int32} (T : MT mb mc) {l v b j : Nat} (hl : l < 4) (hv : v < 41) (h1 : 1 ≤ v) (hb : b < nB l v) (hj : j < 1000) : fn_Md_placeOf (ni v) (ni l) (ni b) (ni j) mb mc = some (ni (pof (nH l v) (nB l v) (nS l v) (nM l v) b j)) := by
  obtain ⟨a1, a2, a3, a4, a5, a6, a7, a8, a9, a10, a11, a12⟩ := vr_nu l hl v hv h1
  have hm : nH l v % nB l v < nB l v := Nat.mod_lt _ (by omega)
  have hll := ln_le (nS l v) (nM l v) b
  unfold fn_Md_placeOf
  rw [md_holds T hl hv h1, md_blk T hl hv h1, md_share T hl hv h1 (by omega)]
  have eS : nH l v / nB l v = nS l v := rfl
  have eM : nB l v - nH l v % nB l v = nM l v := rfl
  have hM : nM l v ≤ nB l v := by rw [← eM]; omega
  simp (disch := omega) only [ni_lit, ni_add, ni_mul, ni_sub, ni_lt, ni_le, ni_ix, ni_eq, ni_div, ni_rem, ni_and, ni_or, ni_xor, ni_shl, ni_shr, ni_gi, ni_gz, ni_max, ni_min, ni_dc, ni_0a, ni_ml, ni_mle, Nat.reduceAnd, Nat.reduceAdd, Nat.reduceMul, Nat.reduceSub, Nat.reduceDiv, Nat.reduceMod, Nat.reduceXor, Nat.reduceShiftLeft, Nat.reduceShiftRight, sq_bd, sq_jn, sq_cb0, sq_cb1, sq_cb2, sq_cb3, sq_cb4, sq_cb5, eS, eM]
  unfold pof
  by_cases q1 : j < ln (nS l v) (nM l v) b
  · rw [if_pos q1, if_pos q1]
    by_cases q2 : nS l v ≤ j
    · have hMb : nM l v ≤ b := by unfold ln at q1; split at q1 <;> omega
      rw [if_pos q2, if_pos q2, ni_sub (by omega)]
    · rw [if_neg q2, if_neg q2]
  · rw [if_neg q1, if_neg q1]
