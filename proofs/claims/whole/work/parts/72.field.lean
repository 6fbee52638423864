/-! own rows: the field's tables, and times -/
theorem upd_s (f : Nat → Int32) (k : Nat) (x : Int32) : upd f k x k = x := by unfold upd; exact if_pos rfl
theorem upd_n (f : Nat → Int32) {k j : Nat} (x : Int32) (h : j ≠ k) : upd f k x j = f j := by unfold upd; exact if_neg h
theorem upd_a (f : Nat → Int32) (k j : Nat) (x : Int32) : upd f k x j = if j = k then x else f j := rfl
def FD (lg pv : Nat → Int32) : Prop := (∀ i : Nat, i < 510 → pv i = ni (pw i)) ∧ ∀ a : Nat, a < 256 → a ≠ 0 → lg a = ni (glog a)
theorem gx_cl : ∀ a : Nat, a < 256 → (a <<< 1) ^^^ ((a >>> 7) * 285) = gx a := by decide +kernel
theorem an_255 {a : Nat} (h : a < 256) : a &&& 255 = a := by
  rw [show (255 : Nat) = 2 ^ 8 - 1 from rfl, Nat.and_two_pow_sub_one_eq_mod, Nat.mod_eq_of_lt h]
theorem an_511 {a : Nat} (h : a < 512) : a &&& 511 = a := by
  rw [show (511 : Nat) = 2 ^ 9 - 1 from rfl, Nat.and_two_pow_sub_one_eq_mod, Nat.mod_eq_of_lt h]
theorem fi_step (m i a : Nat) (hi : i < 255) (ha : a < 256) (b3 b4 : Nat → Int32) : fn_Field_init_L1 (m + 1) (ni a) (ni i) b3 b4 = fn_Field_init_L1 m (ni (gx a)) (ni (i + 1)) (upd b3 a (ni i)) (upd (upd b4 i (ni a)) (i + 255) (ni a)) := by
  rw [fn_Field_init_L1_s]
  have h1 : a <<< 1 < 2147483648 := by rw [Nat.shiftLeft_eq]; omega
  have h2 := gx_cl a ha
  have h3 := an_255 ha
  simp (disch := omega) only [ni_lit, ni_add, ni_mul, ni_sub, ni_lt, ni_le, ni_ix, ni_eq, ni_div, ni_rem, ni_and, ni_or, ni_xor, ni_shl, ni_shr, ni_gi, ni_gz, ni_max, ni_min, ni_dc, ni_0a, ni_ml, ni_mle, Nat.reduceAnd, Nat.reduceAdd, Nat.reduceMul, Nat.reduceSub, Nat.reduceDiv, Nat.reduceMod, Nat.reduceXor, Nat.reduceShiftLeft, Nat.reduceShiftRight, sq_bd, sq_jn, sq_cb0, sq_cb1, sq_cb2, sq_cb3, sq_cb4, sq_cb5, h3, h2]
  rw [if_neg (by omega)]
theorem fi_inv : ∀ (r i m : Nat) (b3 b4 : Nat → Int32), i + r = 255 → r < m → (∀ j : Nat, j < i → b4 j = ni (pw j) ∧ b4 (j + 255) = ni (pw j) ∧ b3 (pw j) = ni j) → ∃ c3 c4, fn_Field_init_L1 m (ni (pw i)) (ni i) b3 b4 = some (c3, c4) ∧ ∀ j : Nat, j < 255 → c4 j = ni (pw j) ∧ c4 (j + 255) = ni (pw j) ∧ c3 (pw j) = ni j
  | 0, i, m + 1, b3, b4, hi, _, h => by
    refine ⟨b3, b4, ?_, ?_⟩
    · rw [fn_Field_init_L1_s]
      simp (disch := omega) only [ni_lit, ni_add, ni_mul, ni_sub, ni_lt, ni_le, ni_ix, ni_eq, ni_div, ni_rem, ni_and, ni_or, ni_xor, ni_shl, ni_shr, ni_gi, ni_gz, ni_max, ni_min, ni_dc, ni_0a, ni_ml, ni_mle, Nat.reduceAnd, Nat.reduceAdd, Nat.reduceMul, Nat.reduceSub, Nat.reduceDiv, Nat.reduceMod, Nat.reduceXor, Nat.reduceShiftLeft, Nat.reduceShiftRight]
      rw [if_pos (by omega)]
    · intro j hj; exact h j (by omega)
  | r + 1, i, m + 1, b3, b4, hi, hm, h => by
    rw [fi_step m i (pw i) (by omega) (pw_lt i), ← pw_s]
    refine fi_inv r (i + 1) m _ _ (by omega) (by omega) ?_
    intro j hj
    by_cases e : j = i
    · subst e
      refine ⟨?_, upd_s _ _ _, upd_s _ _ _⟩
      rw [upd_n _ _ (by omega), upd_s]
    · obtain ⟨g1, g2, g3⟩ := h j (by omega)
      refine ⟨?_, ?_, ?_⟩
      · rw [upd_n _ _ (by omega), upd_n _ _ e, g1]
      · rw [upd_n _ _ (by omega), upd_n _ _ (by omega), g2]
      · rw [upd_n _ _ (fun q => e (pw_inj (by omega) (by omega) q)), g3]
theorem fd_init {n0 : Nat} (hn : 256 ≤ n0) (a b : Nat → Int32) : ∃ c d, fn_Field_init n0 a b = some (c, d) ∧ FD c d := by
  obtain ⟨c, d, h, g⟩ := fi_inv 255 0 n0 a b rfl (by omega) (fun j hj => absurd hj (by omega))
  refine ⟨c, d, h, ?_, ?_⟩
  · intro i hi
    by_cases h1 : i < 255
    · exact (g i h1).1
    · have := (g (i - 255) (by omega)).2.1
      rw [show i - 255 + 255 = i by omega] at this
      rw [this, ← pw_mod i, show i % 255 = i - 255 by omega]
  · intro a ha h0
    obtain ⟨h1, h2⟩ := pw_glog a ha h0
    have := (g _ h2).2.2
    rwa [h1] at this
theorem ni_0 : ni 0 = 0 := rfl
theorem fd_times {lg pv : Nat → Int32} (F : FD lg pv) {a b : Nat} (ha : a < 256) (hb : b < 256) : fn_Field_times (ni a) (ni b) lg pv = some (ni (gm a b)) := by
  unfold fn_Field_times
  simp (disch := omega) only [ni_lit, ni_add, ni_mul, ni_sub, ni_lt, ni_le, ni_ix, ni_eq, ni_div, ni_rem, ni_and, ni_or, ni_xor, ni_shl, ni_shr, ni_gi, ni_gz, ni_max, ni_min, ni_dc, ni_0a, ni_ml, ni_mle, Nat.reduceAnd, Nat.reduceAdd, Nat.reduceMul, Nat.reduceSub, Nat.reduceDiv, Nat.reduceMod, Nat.reduceXor, Nat.reduceShiftLeft, Nat.reduceShiftRight, sq_bd, sq_jn, sq_cb0, sq_cb1, sq_cb2, sq_cb3, sq_cb4, sq_cb5]
  by_cases h0 : a = 0
  · rw [if_pos h0, h0, gm_0l]
  by_cases h1 : b = 0
  · rw [if_neg h0, if_pos h1, h1, gm_0r]
  rw [if_neg h0, if_neg h1]
  obtain ⟨ea, la⟩ := pw_glog a ha h0
  obtain ⟨eb, lb⟩ := pw_glog b hb h1
  simp (disch := omega) only [ni_lit, ni_add, ni_mul, ni_sub, ni_lt, ni_le, ni_ix, ni_eq, ni_div, ni_rem, ni_and, ni_or, ni_xor, ni_shl, ni_shr, ni_gi, ni_gz, ni_max, ni_min, ni_dc, ni_0a, ni_ml, ni_mle, Nat.reduceAnd, Nat.reduceAdd, Nat.reduceMul, Nat.reduceSub, Nat.reduceDiv, Nat.reduceMod, Nat.reduceXor, Nat.reduceShiftLeft, Nat.reduceShiftRight, sq_bd, sq_jn, sq_cb0, sq_cb1, sq_cb2, sq_cb3, sq_cb4, sq_cb5, an_255 ha, an_255 hb, F.2 a ha h0, F.2 b hb h1, an_511, F.1]
  rw [← gm_pp, ea, eb]
theorem fd_over {lg pv : Nat → Int32} (F : FD lg pv) {a b : Nat} (ha : a < 256) (hb : b < 256) (h1 : b ≠ 0) : fn_Field_over (ni a) (ni b) lg pv = some (ni (gm a (gi b))) := by
  unfold fn_Field_over
  simp (disch := omega) only [ni_lit, ni_add, ni_mul, ni_sub, ni_lt, ni_le, ni_ix, ni_eq, ni_div, ni_rem, ni_and, ni_or, ni_xor, ni_shl, ni_shr, ni_gi, ni_gz, ni_max, ni_min, ni_dc, ni_0a, ni_ml, ni_mle, Nat.reduceAnd, Nat.reduceAdd, Nat.reduceMul, Nat.reduceSub, Nat.reduceDiv, Nat.reduceMod, Nat.reduceXor, Nat.reduceShiftLeft, Nat.reduceShiftRight, sq_bd, sq_jn, sq_cb0, sq_cb1, sq_cb2, sq_cb3, sq_cb4, sq_cb5]
  by_cases h0 : a = 0
  · rw [if_pos h0, h0, gm_0l]
  rw [if_neg h0, if_neg h1]
  obtain ⟨ea, la⟩ := pw_glog a ha h0
  obtain ⟨eb, lb⟩ := pw_glog b hb h1
  simp (disch := omega) only [ni_lit, ni_add, ni_mul, ni_sub, ni_lt, ni_le, ni_ix, ni_eq, ni_div, ni_rem, ni_and, ni_or, ni_xor, ni_shl, ni_shr, ni_gi, ni_gz, ni_max, ni_min, ni_dc, ni_0a, ni_ml, ni_mle, Nat.reduceAnd, Nat.reduceAdd, Nat.reduceMul, Nat.reduceSub, Nat.reduceDiv, Nat.reduceMod, Nat.reduceXor, Nat.reduceShiftLeft, Nat.reduceShiftRight, sq_bd, sq_jn, sq_cb0, sq_cb1, sq_cb2, sq_cb3, sq_cb4, sq_cb5, an_255 ha, an_255 hb, F.2 a ha h0, F.2 b hb h1, an_511, F.1]
  rw [show glog a + 255 - glog b = glog a + (255 - glog b) by omega, ← gm_pp, ea]
  rfl
theorem fd_power {lg pv : Nat → Int32} (F : FD lg pv) {e : Nat} (he : e < 510) : fn_Field_power (ni e) pv = some (ni (pw e)) := by
  unfold fn_Field_power
  simp (disch := omega) only [ni_lit, ni_add, ni_mul, ni_sub, ni_lt, ni_le, ni_ix, ni_eq, ni_div, ni_rem, ni_and, ni_or, ni_xor, ni_shl, ni_shr, ni_gi, ni_gz, ni_max, ni_min, ni_dc, ni_0a, ni_ml, ni_mle, Nat.reduceAnd, Nat.reduceAdd, Nat.reduceMul, Nat.reduceSub, Nat.reduceDiv, Nat.reduceMod, Nat.reduceXor, Nat.reduceShiftLeft, Nat.reduceShiftRight, sq_bd, sq_jn, sq_cb0, sq_cb1, sq_cb2, sq_cb3, sq_cb4, sq_cb5, an_511, F.1]
theorem gx_md (a : Nat) : (if a <<< 1 ≤ 255 then a <<< 1 else (a <<< 1) ^^^ 285) = gx a := by
  unfold gx
  rw [Nat.shiftLeft_eq]
  by_cases h : a < 128
  · rw [if_pos h, if_pos (by omega)]; omega
  · rw [if_neg h, if_neg (by omega), Nat.mul_comm a]
theorem tw_inv : ∀ (r i e m : Nat), i + r = e → e < 1000 → r < m → fn_Md_two_L1 (ni e) m (ni (pw i)) (ni i) = some (ni (pw e))
  | 0, i, e, m + 1, hi, he, _ => by
    rw [fn_Md_two_L1_s]
    simp (disch := omega) only [ni_lit, ni_add, ni_mul, ni_sub, ni_lt, ni_le, ni_ix, ni_eq, ni_div, ni_rem, ni_and, ni_or, ni_xor, ni_shl, ni_shr, ni_gi, ni_gz, ni_max, ni_min, ni_dc, ni_0a, ni_ml, ni_mle, Nat.reduceAnd, Nat.reduceAdd, Nat.reduceMul, Nat.reduceSub, Nat.reduceDiv, Nat.reduceMod, Nat.reduceXor, Nat.reduceShiftLeft, Nat.reduceShiftRight]
    rw [if_pos (by omega), show i = e by omega]
  | r + 1, i, e, m + 1, hi, he, hm => by
    rw [fn_Md_two_L1_s]
    have h0 := pw_lt i
    have h1 : pw i <<< 1 < 2147483648 := by rw [Nat.shiftLeft_eq]; omega
    have := tw_inv r (i + 1) e m (by omega) he (by omega)
    rw [pw_s, ← gx_md] at this
    simp (disch := omega) only [ni_lit, ni_add, ni_mul, ni_sub, ni_lt, ni_le, ni_ix, ni_eq, ni_div, ni_rem, ni_and, ni_or, ni_xor, ni_shl, ni_shr, ni_gi, ni_gz, ni_max, ni_min, ni_dc, ni_0a, ni_ml, ni_mle, Nat.reduceAnd, Nat.reduceAdd, Nat.reduceMul, Nat.reduceSub, Nat.reduceDiv, Nat.reduceMod, Nat.reduceXor, Nat.reduceShiftLeft, Nat.reduceShiftRight, sq_bd, sq_jn, sq_cb0, sq_cb1, sq_cb2, sq_cb3, sq_cb4, sq_cb5]
    rw [if_neg (by omega)]
    split
    · next h => rw [if_pos h] at this; exact this
    · next h => rw [if_neg h] at this; exact this
theorem md_two {n0 e : Nat} (hn : 256 ≤ n0) (he : e < 2147483648) : fn_Md_two n0 (ni e) = some (ni (pw e)) := by
  unfold fn_Md_two
  have h9 : e % 255 < 255 := Nat.mod_lt _ (by omega)
  simp (disch := omega) only [ni_lit, ni_add, ni_mul, ni_sub, ni_lt, ni_le, ni_ix, ni_eq, ni_div, ni_rem, ni_and, ni_or, ni_xor, ni_shl, ni_shr, ni_gi, ni_gz, ni_max, ni_min, ni_dc, ni_0a, ni_ml, ni_mle, Nat.reduceAnd, Nat.reduceAdd, Nat.reduceMul, Nat.reduceSub, Nat.reduceDiv, Nat.reduceMod, Nat.reduceXor, Nat.reduceShiftLeft, Nat.reduceShiftRight, sq_bd, sq_jn, sq_cb0, sq_cb1, sq_cb2, sq_cb3, sq_cb4, sq_cb5]
  rw [if_pos (by omega), ← pw_mod e]
  exact tw_inv (e % 255) 0 (e % 255) n0 (by omega) (by omega) (by omega)
theorem gmb_hi (a b : Nat) {k : Nat} (h : b >>> k = 0) : ∀ j : Nat, gmb a b (k + j) = gmb a b k
  | 0 => rfl
  | j + 1 => by
    have h2 : b.testBit (k + j) = false := by
      rw [Nat.add_comm, Nat.testBit_add, ← Nat.shiftRight_eq_div_pow, h, Nat.zero_testBit]
    show gmb a b (k + j) ^^^ (if b.testBit (k + j) then gp (k + j) a else 0) = _
    rw [gmb_hi a b h j, h2]; exact x_0 _
theorem tm_inv (a b : Nat) (ha : a < 256) (hb : b < 256) : ∀ (r k m : Nat), k + r = 8 → r < m → fn_Md_times_L1 m (ni (gmb a b k)) (ni (gp k a)) (ni (b >>> k)) = some (ni (gmb a b 8))
  | r, k, m + 1, hk, hm => by
    rw [fn_Md_times_L1_s]
    have h0 := gp_lt ha k
    have h1 : gp k a <<< 1 < 2147483648 := by rw [Nat.shiftLeft_eq]; omega
    have h2 : b >>> k ≤ b := by rw [Nat.shiftRight_eq_div_pow]; exact Nat.div_le_self _ _
    have h3 : (b >>> k &&& 1) < 2 := by rw [Nat.and_one_is_mod]; omega
    simp (disch := omega) only [ni_lit, ni_add, ni_mul, ni_sub, ni_lt, ni_le, ni_ix, ni_eq, ni_div, ni_rem, ni_and, ni_or, ni_xor, ni_shl, ni_shr, ni_gi, ni_gz, ni_max, ni_min, ni_dc, ni_0a, ni_ml, ni_mle, Nat.reduceAnd, Nat.reduceAdd, Nat.reduceMul, Nat.reduceSub, Nat.reduceDiv, Nat.reduceMod, Nat.reduceXor, Nat.reduceShiftLeft, Nat.reduceShiftRight, sq_bd, sq_jn, sq_cb0, sq_cb1, sq_cb2, sq_cb3, sq_cb4, sq_cb5]
    by_cases hz : b >>> k = 0
    · rw [if_pos hz]
      have := gmb_hi a b hz r
      rw [hk] at this; rw [this]
    · rw [if_neg hz]
      cases r with
      | zero =>
        exfalso
        rw [show k = 8 by omega, Nat.shiftRight_eq_div_pow] at hz
        omega
      | succ r =>
        have ih := tm_inv a b ha hb r (k + 1) m (by omega) (by omega)
        have hs : gp (k + 1) a = gx (gp k a) := rfl
        have hb1 : gmb a b (k + 1) = gmb a b k ^^^ (if b.testBit k then gp k a else 0) := rfl
        have hr : b >>> k >>> 1 = b >>> (k + 1) := (Nat.shiftRight_add b k 1).symm
        rw [hs, ← gx_md, hb1] at ih
        rw [hr]
        have ht : b.testBit k = decide (b >>> k &&& 1 = 1) := by
          rw [Nat.testBit, Nat.and_comm, Nat.and_one_is_mod]
          rcases Nat.mod_two_eq_zero_or_one (b >>> k) with h | h <;> rw [h] <;> rfl
        rw [ht] at ih
        by_cases h4 : b >>> k &&& 1 = 1
        · rw [if_pos h4]
          rw [h4] at ih
          split
          · next h => rw [if_pos h] at ih; exact ih
          · next h => rw [if_neg h] at ih; exact ih
        · rw [if_neg h4]
          rw [decide_eq_false h4, show (gmb a b k ^^^ if false = true then gp k a else 0) = gmb a b k from x_0 _] at ih
          split
          · next h => rw [if_pos h] at ih; exact ih
          · next h => rw [if_neg h] at ih; exact ih
theorem md_times {n0 a b : Nat} (hn : 256 ≤ n0) (ha : a < 256) (hb : b < 256) : fn_Md_times n0 (ni a) (ni b) = some (ni (gm a b)) := by
  unfold fn_Md_times gm
  rw [Nat.mod_eq_of_lt ha]
  exact tm_inv a b ha hb 8 0 n0 rfl (by omega)
