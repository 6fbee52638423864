/-! own rows: runs of one mode; the version that fits -/
def rl (r : Nat) (d : Nat → Nat) (len : Nat) : Nat → Nat
  | 0 => 1
  | i + 1 => if ch r d len (i + 1) = ch r d len i then rl r d len i + 1 else 1
theorem rl_s (r : Nat) (d : Nat → Nat) (len i : Nat) : rl r d len (i + 1) = if ch r d len (i + 1) = ch r d len i then rl r d len i + 1 else 1 := rfl
theorem rl_le (r : Nat) (d : Nat → Nat) (len : Nat) : ∀ i : Nat, rl r d len i ≤ i + 1
  | 0 => Nat.le_refl _
  | i + 1 => by have := rl_le r d len i; rw [rl_s]; split <;> omega
theorem mof_nx : ∀ s : Nat, s < 7 → ∀ m : Nat, m < 3 → mof (nx s m) = m := by decide +kernel
theorem lb_le : ∀ r : Nat, r < 3 → ∀ m : Nat, m < 3 → lb r m ≤ 16 ∧ lb r m &&& 31 = lb r m := by decide +kernel
theorem sm_mof (r : Nat) (d : Nat → Nat) (len p : Nat) : mof (sm r d len (p + 1)) = ch r d len p := by rw [sm_s]; exact mof_nx _ (sm_lt _ _ _ _) _ (ch_lt _ _ _ _)
def FT (r : Nat) (d : Nat → Nat) (len : Nat) : Prop := ∀ i : Nat, i < len → rl r d len i < 2 ^ lb r (ch r d len i)
theorem cl_choice {chs : Nat → Int32} {v len i c : Nat} {d : Nat → Nat} (hc : cho chs v d len 0) (hl : len ≤ 3000) (hi : i < len) (hcc : c < 7) (hs : sg c = sm (rk v) d len i) : fn_Division_choice (ni i) (ni c) chs = some (ni (ch (rk v) d len i)) := by
  have hbm : ∀ s : Nat, bm (rk v) (d i) (gG (rk v) d len (len - (i + 1))) (sg s) < 4 := fun s => by have := (bm_ok (rk v) (d i) (gG (rk v) d len (len - (i + 1))) (sg s)).1; omega
  have hp := pkq_lt hbm 7
  have ha := pk_at hbm 7 c hcc
  have han : 2 * c &&& 31 = 2 * c := by
    rw [show (31 : Nat) = 2 ^ 5 - 1 from rfl, Nat.and_two_pow_sub_one_eq_mod, Nat.mod_eq_of_lt (by omega)]
  unfold fn_Division_choice
  rw [cl_item (by omega) (by omega), hc i (by omega) hi]
  simp (disch := omega) only [ni_lit, ni_add, ni_mul, ni_sub, ni_lt, ni_le, ni_ix, ni_eq, ni_div, ni_rem, ni_and, ni_or, ni_xor, ni_shl, ni_shr, ni_gi, ni_gz, ni_max, ni_min, ni_dc, ni_0a, ni_ml, ni_mle, Nat.reduceAnd, Nat.reduceAdd, Nat.reduceMul, Nat.reduceSub, Nat.reduceDiv, Nat.reduceMod, Nat.reduceXor, Nat.reduceShiftLeft, Nat.reduceShiftRight, sq_bd, sq_jn, sq_cb0, sq_cb1, sq_cb2, sq_cb3, sq_cb4, sq_cb5, han, ha]
  rw [hs]; rfl
theorem ad1 {chs : Nat → Int32} {v len m : Nat} {d : Nat → Nat} {vn : Int32} (hc : cho chs v d len 0) (hl : len ≤ 3000) (hm3 : m < 3) (p : Nat) : ∀ (e q c mm : Nat), q + e = len → e < mm → c < 7 → sg c = sm (rk v) d len q → mof (sg c) = m → (∀ i : Nat, p ≤ i → i < q → ch (rk v) d len i = m) → ∃ q' c', fn_Division_advance_L1 (ni len) vn chs (ni m) mm (ni q) (ni c) = some (1, vn, ni q', ni m, ni c') ∧ q ≤ q' ∧ q' ≤ len ∧ c' < 7 ∧ sg c' = sm (rk v) d len q' ∧ mof (sg c') = m ∧ (∀ i : Nat, p ≤ i → i < q' → ch (rk v) d len i = m) ∧ (q' < len → ch (rk v) d len q' ≠ m)
  | 0, q, c, mm + 1, hq, _, h1, h2, h3, h4 => by
    refine ⟨q, c, ?_, by omega, by omega, h1, h2, h3, h4, by omega⟩
    rw [fn_Division_advance_L1_s]
    simp (disch := omega) only [ni_lit, ni_add, ni_mul, ni_sub, ni_lt, ni_le, ni_ix, ni_eq, ni_div, ni_rem, ni_and, ni_or, ni_xor, ni_shl, ni_shr, ni_gi, ni_gz, ni_max, ni_min, ni_dc, ni_0a, ni_ml, ni_mle, Nat.reduceAnd, Nat.reduceAdd, Nat.reduceMul, Nat.reduceSub, Nat.reduceDiv, Nat.reduceMod, Nat.reduceXor, Nat.reduceShiftLeft, Nat.reduceShiftRight]
    rw [if_pos (by omega)]
  | e + 1, q, c, mm + 1, hq, hmm, h1, h2, h3, h4 => by
    have e1 := cl_choice hc hl (i := q) (by omega) h1 h2
    have hcl := ch_lt (rk v) d len q
    by_cases w : ch (rk v) d len q = m
    · obtain ⟨n1, n2, n3⟩ := cl_next c h1
      obtain ⟨s1, s2⟩ := sg_n (rk v) (rk_lt v) c h1 m hm3 h3
      obtain ⟨b1, b2⟩ := sg_b c h1
      have hs2 : sg (nxc c) = sm (rk v) d len (q + 1) := by rw [s2, h2, sm_s, w]
      obtain ⟨q', c', g1, g2, g3, g4, g5, g6, g7, g8⟩ := ad1 (vn := vn) hc hl hm3 p e (q + 1) (nxc c) mm (by omega) (by omega) b2 hs2 (by rw [hs2, sm_mof, w]) (fun i i1 i2 => by
        by_cases z : i = q
        · rw [z]; exact w
        · exact h4 i i1 (by omega))
      refine ⟨q', c', ?_, by omega, g3, g4, g5, g6, g7, g8⟩
      rw [fn_Division_advance_L1_s, ← g1]
      simp (disch := omega) only [ni_lit, ni_add, ni_mul, ni_sub, ni_lt, ni_le, ni_ix, ni_eq, ni_div, ni_rem, ni_and, ni_or, ni_xor, ni_shl, ni_shr, ni_gi, ni_gz, ni_max, ni_min, ni_dc, ni_0a, ni_ml, ni_mle, Nat.reduceAnd, Nat.reduceAdd, Nat.reduceMul, Nat.reduceSub, Nat.reduceDiv, Nat.reduceMod, Nat.reduceXor, Nat.reduceShiftLeft, Nat.reduceShiftRight, sq_bd, sq_jn, sq_cb0, sq_cb1, sq_cb2, sq_cb3, sq_cb4, sq_cb5, e1, n1]
      rw [if_neg (by omega), if_pos w]
    · refine ⟨q, c, ?_, by omega, by omega, h1, h2, h3, h4, fun _ => w⟩
      rw [fn_Division_advance_L1_s]
      simp (disch := omega) only [ni_lit, ni_add, ni_mul, ni_sub, ni_lt, ni_le, ni_ix, ni_eq, ni_div, ni_rem, ni_and, ni_or, ni_xor, ni_shl, ni_shr, ni_gi, ni_gz, ni_max, ni_min, ni_dc, ni_0a, ni_ml, ni_mle, Nat.reduceAnd, Nat.reduceAdd, Nat.reduceMul, Nat.reduceSub, Nat.reduceDiv, Nat.reduceMod, Nat.reduceXor, Nat.reduceShiftLeft, Nat.reduceShiftRight, sq_bd, sq_jn, sq_cb0, sq_cb1, sq_cb2, sq_cb3, sq_cb4, sq_cb5, e1]
      rw [if_neg (by omega), if_neg w]
theorem cl_adv {chs : Nat → Int32} {v len p c n0 : Nat} {d : Nat → Nat} {f md : Int32} (hn0 : 4000 ≤ n0) (hc : cho chs v d len 0) (hl : len ≤ 3000) (hp : p < len) (hcc : c < 7) (hs : sg c = sm (rk v) d len p) (hne : mof (sm (rk v) d len p) ≠ ch (rk v) d len p) : ∃ q c', fn_Division_advance n0 (ni len) f (ni p) md (ni c) chs = some (1, ni p, ni q, ni (ch (rk v) d len p), ni c') ∧ p < q ∧ q ≤ len ∧ c' < 7 ∧ sg c' = sm (rk v) d len q ∧ mof (sm (rk v) d len q) = ch (rk v) d len p ∧ (∀ i : Nat, p ≤ i → i < q → ch (rk v) d len i = ch (rk v) d len p) ∧ (q < len → ch (rk v) d len q ≠ ch (rk v) d len p) := by
  have e1 := cl_choice hc hl hp hcc hs
  have hcl := ch_lt (rk v) d len p
  obtain ⟨f1, f2, f3⟩ := fr_b _ hcl
  have hs2 : sg (fr (ch (rk v) d len p)) = sm (rk v) d len (p + 1) := by
    rw [sm_s, ← hs]
    exact (sg_f (rk v) (rk_lt v) c hcc _ hcl (by rw [hs]; exact hne)).2
  obtain ⟨q', c', g1, g2, g3, g4, g5, g6, g7, g8⟩ := ad1 (vn := ni p) hc hl hcl p (len - (p + 1)) (p + 1) (fr (ch (rk v) d len p)) n0 (by omega) (by omega) (by omega) hs2 f3 (fun i i1 i2 => by rw [show i = p by omega])
  refine ⟨q', c', ?_, by omega, g3, g4, g5, by rw [← g5]; exact g6, g7, g8⟩
  unfold fn_Division_advance
  simp (disch := omega) only [ni_lit, ni_add, ni_mul, ni_sub, ni_lt, ni_le, ni_ix, ni_eq, ni_div, ni_rem, ni_and, ni_or, ni_xor, ni_shl, ni_shr, ni_gi, ni_gz, ni_max, ni_min, ni_dc, ni_0a, ni_ml, ni_mle, Nat.reduceAnd, Nat.reduceAdd, Nat.reduceMul, Nat.reduceSub, Nat.reduceDiv, Nat.reduceMod, Nat.reduceXor, Nat.reduceShiftLeft, Nat.reduceShiftRight, sq_bd, sq_jn, sq_cb0, sq_cb1, sq_cb2, sq_cb3, sq_cb4, sq_cb5, e1, cl_first _ hcl, g1]
  rw [if_pos hp]
theorem cl_adv0 {chs : Nat → Int32} {len p n0 : Nat} {f md st : Int32} (hl : len ≤ 3000) (hp : p = len) : fn_Division_advance n0 (ni len) f (ni p) md st chs = some (0, f, ni p, md, st) := by
  unfold fn_Division_advance
  simp (disch := omega) only [ni_lit, ni_add, ni_mul, ni_sub, ni_lt, ni_le, ni_ix, ni_eq, ni_div, ni_rem, ni_and, ni_or, ni_xor, ni_shl, ni_shr, ni_gi, ni_gz, ni_max, ni_min, ni_dc, ni_0a, ni_ml, ni_mle, Nat.reduceAnd, Nat.reduceAdd, Nat.reduceMul, Nat.reduceSub, Nat.reduceDiv, Nat.reduceMod, Nat.reduceXor, Nat.reduceShiftLeft, Nat.reduceShiftRight]
  rw [if_neg (by omega)]
theorem rl_run {r : Nat} {d : Nat → Nat} {len p q : Nat} (h0 : rl r d len p = 1) (h : ∀ i : Nat, p ≤ i → i < q → ch r d len i = ch r d len p) : ∀ k : Nat, p + k < q → rl r d len (p + k) = k + 1
  | 0, _ => h0
  | k + 1, hk => by
    rw [show p + (k + 1) = p + k + 1 by omega, rl_s, if_pos (by rw [h _ (by omega) (by omega), h (p + k) (by omega) (by omega)]), rl_run h0 h k (by omega)]
theorem rl_1 {r : Nat} {d : Nat → Nat} {len p : Nat} (h : mof (sm r d len p) ≠ ch r d len p) : rl r d len p = 1 := by
  cases p with
  | zero => rfl
  | succ p => rw [rl_s, if_neg (fun w => h (by rw [sm_mof, w]))]
theorem ft1 {chs : Nat → Int32} {v len n0 : Nat} {d : Nat → Nat} (hn0 : 4000 ≤ n0) (hv : v < 41) (hv1 : 1 ≤ v) (hc : cho chs v d len 0) (hl : len ≤ 3000) : ∀ (e i p c mm : Nat) (f md : Int32), i + e = len → e < mm → i ≤ p → p ≤ len → c < 7 → sg c = sm (rk v) d len p → (p < len → mof (sm (rk v) d len p) ≠ ch (rk v) d len p) → (∀ j : Nat, j < p → rl (rk v) d len j < 2 ^ lb (rk v) (ch (rk v) d len j)) → ∃ b a1 a2 a3 a4, fn_Division_fits_L1 (ni v) n0 (ni len) chs mm (ni i) f (ni p) md (ni c) = some (ni b, a1, a2, a3, a4) ∧ ((b = 1 ∧ FT (rk v) d len) ∨ (b = 0 ∧ ¬ FT (rk v) d len))
  | 0, i, p, c, mm + 1, f, md, hi, _, h1, h2, h3, h4, h5, h6 => by
    refine ⟨1, f, ni p, md, ni c, ?_, Or.inl ⟨rfl, fun j hj => h6 j (by omega)⟩⟩
    rw [fn_Division_fits_L1_s]
    simp (disch := omega) only [ni_lit, ni_add, ni_mul, ni_sub, ni_lt, ni_le, ni_ix, ni_eq, ni_div, ni_rem, ni_and, ni_or, ni_xor, ni_shl, ni_shr, ni_gi, ni_gz, ni_max, ni_min, ni_dc, ni_0a, ni_ml, ni_mle, Nat.reduceAnd, Nat.reduceAdd, Nat.reduceMul, Nat.reduceSub, Nat.reduceDiv, Nat.reduceMod, Nat.reduceXor, Nat.reduceShiftLeft, Nat.reduceShiftRight]
    rw [if_pos (by omega)]
  | e + 1, i, p, c, mm + 1, f, md, hi, hm, h1, h2, h3, h4, h5, h6 => by
    by_cases q : p = len
    · refine ⟨1, f, ni p, md, ni c, ?_, Or.inl ⟨rfl, fun j hj => h6 j (by omega)⟩⟩
      rw [fn_Division_fits_L1_s]
      simp (disch := omega) only [ni_lit, ni_le, sq_bd, sq_jn, sq_cb0, sq_cb1, sq_cb2, sq_cb3, sq_cb4, sq_cb5, cl_adv0 hl q]
      rw [if_neg (by omega), if_pos trivial]
    · obtain ⟨q', c', g1, g2, g3, g4, g5, g6, g7, g8⟩ := cl_adv (f := f) (md := md) hn0 hc hl (p := p) (by omega) h3 h4 (h5 (by omega))
      have hcl := ch_lt (rk v) d len p
      obtain ⟨l1, l2⟩ := lb_le (rk v) (rk_lt v) _ hcl
      have e1 := cl_cnt _ hcl v hv hv1
      have hpow : 1 <<< lb (rk v) (ch (rk v) d len p) = 2 ^ lb (rk v) (ch (rk v) d len p) := by rw [Nat.shiftLeft_eq, Nat.one_mul]
      have hpl : 2 ^ lb (rk v) (ch (rk v) d len p) ≤ 2 ^ 16 := Nat.pow_le_pow_right (by omega) l1
      have h1r := rl_1 (h5 (by omega))
      have hrun := rl_run h1r g7
      have hend := hrun (q' - 1 - p) (by omega)
      rw [show p + (q' - 1 - p) = q' - 1 by omega] at hend
      have hst : fn_Division_fits_L1 (ni v) n0 (ni len) chs (mm + 1) (ni i) f (ni p) md (ni c) = if q' - p < 2 ^ lb (rk v) (ch (rk v) d len p) then fn_Division_fits_L1 (ni v) n0 (ni len) chs mm (ni (i + 1)) (ni p) (ni q') (ni (ch (rk v) d len p)) (ni c') else some (ni 0, ni p, ni q', ni (ch (rk v) d len p), ni c') := by
        rw [fn_Division_fits_L1_s]
        unfold fn_Division_length
        simp (disch := omega) only [ni_lit, ni_add, ni_mul, ni_sub, ni_lt, ni_le, ni_ix, ni_eq, ni_div, ni_rem, ni_and, ni_or, ni_xor, ni_shl, ni_shr, ni_gi, ni_gz, ni_max, ni_min, ni_dc, ni_0a, ni_ml, ni_mle, Nat.reduceAnd, Nat.reduceAdd, Nat.reduceMul, Nat.reduceSub, Nat.reduceDiv, Nat.reduceMod, Nat.reduceXor, Nat.reduceShiftLeft, Nat.reduceShiftRight, sq_bd, sq_jn, sq_cb0, sq_cb1, sq_cb2, sq_cb3, sq_cb4, sq_cb5, g1, e1, l2, hpow]
        rw [if_neg (by omega), if_neg (by decide)]
      by_cases w : q' - p < 2 ^ lb (rk v) (ch (rk v) d len p)
      · obtain ⟨b, a1, a2, a3, a4, r1, r2⟩ := ft1 hn0 hv hv1 hc hl e (i + 1) q' c' mm (ni p) (ni (ch (rk v) d len p)) (by omega) (by omega) (by omega) g3 g4 g5 (fun hq => by rw [g6]; exact fun z => g8 hq z.symm) (fun j hj => by
          by_cases z : j < p
          · exact h6 j z
          · have := hrun (j - p) (by omega)
            rw [show p + (j - p) = j by omega] at this
            rw [this, g7 j (by omega) hj]; omega)
        exact ⟨b, a1, a2, a3, a4, by rw [hst, if_pos w, r1], r2⟩
      · refine ⟨0, ni p, ni q', ni (ch (rk v) d len p), ni c', by rw [hst, if_neg w], Or.inr ⟨rfl, fun hF => ?_⟩⟩
        have := hF (q' - 1) (by omega)
        rw [hend, g7 (q' - 1) (by omega) (by omega)] at this
        omega
def okv (l v : Nat) (d : Nat → Nat) (len : Nat) : Prop := gG (rk v) d len len 6 ≤ 8 * nH l v ∧ FT (rk v) d len
theorem cl_fits {bb chs : Nat → Int32} {v len l n0 : Nat} {d : Nat → Nat} {f nx0 md st : Int32} (hn0 : 4000 ≤ n0) (hl4 : l < 4) (hv : v < 41) (hv1 : 1 ≤ v) (hb : bh bb (gG (rk v) d len len)) (hc : cho chs v d len 0) (hl : len ≤ 3000) : ∃ b a1 a2 a3 a4, fn_Division_fits n0 (ni (8 * nH l v)) (ni v) (ni len) f nx0 md st bb chs = some (ni b, a1, a2, a3, a4) ∧ ((b = 1 ∧ okv l v d len) ∨ (b = 0 ∧ ¬ okv l v d len)) := by
  have hG := gG_le (rk_lt v) d len len 6 (by omega)
  obtain ⟨z1, z2, z3, z4, z5, z6, -⟩ := vr_nu l hl4 v hv hv1
  have e6 := hb 6 (by omega)
  rw [show sg 6 = 6 from rfl] at e6
  unfold fn_Division_fits fn_Division_bits fn_Division_rewind
  simp (disch := omega) only [ni_lit, ni_add, ni_mul, ni_sub, ni_lt, ni_le, ni_ix, ni_eq, ni_div, ni_rem, ni_and, ni_or, ni_xor, ni_shl, ni_shr, ni_gi, ni_gz, ni_max, ni_min, ni_dc, ni_0a, ni_ml, ni_mle, Nat.reduceAnd, Nat.reduceAdd, Nat.reduceMul, Nat.reduceSub, Nat.reduceDiv, Nat.reduceMod, Nat.reduceXor, Nat.reduceShiftLeft, Nat.reduceShiftRight, sq_bd, sq_jn, sq_cb0, sq_cb1, sq_cb2, sq_cb3, sq_cb4, sq_cb5, e6]
  by_cases q : gG (rk v) d len len 6 ≤ 8 * nH l v
  · rw [if_pos q]
    obtain ⟨b, a1, a2, a3, a4, r1, r2⟩ := ft1 hn0 hv hv1 hc hl len 0 0 6 n0 (ni 0) md (by omega) (by omega) (by omega) (by omega) (by omega) rfl (fun _ => by
      have := ch_lt (rk v) d len 0
      show 3 ≠ _
      omega) (fun j hj => absurd hj (by omega))
    refine ⟨b, a1, a2, a3, a4, r1, ?_⟩
    rcases r2 with ⟨w1, w2⟩ | ⟨w1, w2⟩
    · exact Or.inl ⟨w1, q, w2⟩
    · exact Or.inr ⟨w1, fun z => w2 z.2⟩
  · rw [if_neg q]
    exact ⟨0, f, nx0, md, st, rfl, Or.inr ⟨rfl, fun z => q z.1⟩⟩
/-! the model's -/
theorem mf1 {md tt : Nat → Int32} {v len : Nat} {d : Nat → Nat} {y3 : Int32} (hv : v < 41) (hv1 : 1 ≤ v) (hl : len ≤ 3000) (hmd : ∀ i : Nat, i < len → md i = ni (ch (rk v) d len i)) (b0 : Nat) (hb0 : b0 ≤ 1) : ∀ (e p mm b run : Nat), p + e = len → e < mm → b ≤ 1 → (b = 1 ↔ b0 = 1 ∧ ∀ j : Nat, j < p → rl (rk v) d len j < 2 ^ lb (rk v) (ch (rk v) d len j)) → run ≤ p → (0 < p → run = rl (rk v) d len (p - 1)) → ∃ b', fn_Md_fits_L1 (ni v) (ni len) y3 md tt mm (ni b) (ni run) (ni p) = some (ni b', y3, md, tt) ∧ b' ≤ 1 ∧ (b' = 1 ↔ b0 = 1 ∧ FT (rk v) d len)
  | 0, p, mm + 1, b, run, hp, _, h1, h2, h3, h4 => by
    have hpl : p = len := by omega
    subst hpl
    refine ⟨b, ?_, h1, h2⟩
    rw [fn_Md_fits_L1_s]
    simp (disch := omega) only [ni_lit, ni_add, ni_mul, ni_sub, ni_lt, ni_le, ni_ix, ni_eq, ni_div, ni_rem, ni_and, ni_or, ni_xor, ni_shl, ni_shr, ni_gi, ni_gz, ni_max, ni_min, ni_dc, ni_0a, ni_ml, ni_mle, Nat.reduceAnd, Nat.reduceAdd, Nat.reduceMul, Nat.reduceSub, Nat.reduceDiv, Nat.reduceMod, Nat.reduceXor, Nat.reduceShiftLeft, Nat.reduceShiftRight]
    rw [if_pos (by omega), ni_gb h1]
  | e + 1, p, mm + 1, b, run, hp, hm, h1, h2, h3, h4 => by
    have hcl := ch_lt (rk v) d len p
    obtain ⟨l1, l2⟩ := lb_le (rk v) (rk_lt v) _ hcl
    have e1 := hmd p (by omega)
    have e2 := (cl_span v hv hv1).2
    have e3 := md_lb _ hcl _ (rk_lt v)
    have hpow : 1 <<< lb (rk v) (ch (rk v) d len p) = 2 ^ lb (rk v) (ch (rk v) d len p) := by rw [Nat.shiftLeft_eq, Nat.one_mul]
    have hpl : 2 ^ lb (rk v) (ch (rk v) d len p) ≤ 2 ^ 16 := Nat.pow_le_pow_right (by omega) l1
    have hrl := rl_le (rk v) d len p
    have hrest : ∀ m' : Nat, (if b = 0 then fn_Md_fits_L1 (ni v) (ni len) y3 md tt m' (ni 0) (ni (rl (rk v) d len p)) (ni (p + 1)) else if 2 ^ lb (rk v) (ch (rk v) d len p) ≤ rl (rk v) d len p then fn_Md_fits_L1 (ni v) (ni len) y3 md tt m' (ni 0) (ni (rl (rk v) d len p)) (ni (p + 1)) else fn_Md_fits_L1 (ni v) (ni len) y3 md tt m' (ni 1) (ni (rl (rk v) d len p)) (ni (p + 1))) = fn_Md_fits_L1 (ni v) (ni len) y3 md tt m' (ni (if b = 0 then 0 else if 2 ^ lb (rk v) (ch (rk v) d len p) ≤ rl (rk v) d len p then 0 else 1)) (ni (rl (rk v) d len p)) (ni (p + 1)) := fun m' => by
      by_cases q : b = 0
      · rw [if_pos q, if_pos q]
      · rw [if_neg q, if_neg q]
        by_cases w : 2 ^ lb (rk v) (ch (rk v) d len p) ≤ rl (rk v) d len p
        · rw [if_pos w, if_pos w]
        · rw [if_neg w, if_neg w]
    obtain ⟨b', g1, g2, g3⟩ := mf1 (tt := tt) (y3 := y3) hv hv1 hl hmd b0 hb0 e (p + 1) mm (if b = 0 then 0 else if 2 ^ lb (rk v) (ch (rk v) d len p) ≤ rl (rk v) d len p then 0 else 1) (rl (rk v) d len p) (by omega) (by omega) (by
      split
      · omega
      · split <;> omega) (by
      constructor
      · intro hh
        by_cases q : b = 0
        · rw [if_pos q] at hh; omega
        · rw [if_neg q] at hh
          by_cases w : 2 ^ lb (rk v) (ch (rk v) d len p) ≤ rl (rk v) d len p
          · rw [if_pos w] at hh; omega
          · obtain ⟨k1, k2⟩ := h2.mp (by omega)
            refine ⟨k1, fun j hj => ?_⟩
            by_cases z : j = p
            · rw [z]; omega
            · exact k2 j (by omega)
      · rintro ⟨k1, k2⟩
        have hb1 : b = 1 := h2.mpr ⟨k1, fun j hj => k2 j (by omega)⟩
        have := k2 p (by omega)
        rw [if_neg (by omega), if_neg (by omega)]) (by omega) (fun _ => by rw [Nat.add_sub_cancel])
    refine ⟨b', ?_, g2, g3⟩
    rw [fn_Md_fits_L1_s, ← g1, ← hrest]
    by_cases q : p = 0
    · subst q
      have hr0 : rl (rk v) d len 0 = 1 := rfl
      rw [hr0] at hrest ⊢
      simp (disch := omega) only [ni_lit, ni_add, ni_mul, ni_sub, ni_lt, ni_le, ni_ix, ni_eq, ni_div, ni_rem, ni_and, ni_or, ni_xor, ni_shl, ni_shr, ni_gi, ni_gz, ni_max, ni_min, ni_dc, ni_0a, ni_ml, ni_mle, Nat.reduceAnd, Nat.reduceAdd, Nat.reduceMul, Nat.reduceSub, Nat.reduceDiv, Nat.reduceMod, Nat.reduceXor, Nat.reduceShiftLeft, Nat.reduceShiftRight, sq_bd, sq_jn, sq_cb0, sq_cb1, sq_cb2, sq_cb3, sq_cb4, sq_cb5, e1, e2, e3, l2, hpow]
      rw [if_neg (by omega), if_pos (by omega)]
    · have e4 := hmd (p - 1) (by omega)
      have hcl2 := ch_lt (rk v) d len (p - 1)
      have hr2 : rl (rk v) d len p = if ch (rk v) d len p = ch (rk v) d len (p - 1) then run + 1 else 1 := by
        obtain ⟨p', rfl⟩ : ∃ p', p = p' + 1 := ⟨p - 1, by omega⟩
        rw [rl_s, h4 (by omega), Nat.add_sub_cancel]
      by_cases w : ch (rk v) d len p = ch (rk v) d len (p - 1)
      · rw [if_pos w] at hr2
        rw [hr2]
        simp (disch := omega) only [ni_lit, ni_add, ni_mul, ni_sub, ni_lt, ni_le, ni_ix, ni_eq, ni_div, ni_rem, ni_and, ni_or, ni_xor, ni_shl, ni_shr, ni_gi, ni_gz, ni_max, ni_min, ni_dc, ni_0a, ni_ml, ni_mle, Nat.reduceAnd, Nat.reduceAdd, Nat.reduceMul, Nat.reduceSub, Nat.reduceDiv, Nat.reduceMod, Nat.reduceXor, Nat.reduceShiftLeft, Nat.reduceShiftRight, sq_bd, sq_jn, sq_cb0, sq_cb1, sq_cb2, sq_cb3, sq_cb4, sq_cb5, e1, e2, e3, e4, l2, hpow]
        rw [if_neg (by omega), if_neg (by omega), if_pos w]
      · rw [if_neg w] at hr2
        rw [hr2]
        simp (disch := omega) only [ni_lit, ni_add, ni_mul, ni_sub, ni_lt, ni_le, ni_ix, ni_eq, ni_div, ni_rem, ni_and, ni_or, ni_xor, ni_shl, ni_shr, ni_gi, ni_gz, ni_max, ni_min, ni_dc, ni_0a, ni_ml, ni_mle, Nat.reduceAnd, Nat.reduceAdd, Nat.reduceMul, Nat.reduceSub, Nat.reduceDiv, Nat.reduceMod, Nat.reduceXor, Nat.reduceShiftLeft, Nat.reduceShiftRight, sq_bd, sq_jn, sq_cb0, sq_cb1, sq_cb2, sq_cb3, sq_cb4, sq_cb5, e1, e2, e3, e4, l2, hpow]
        rw [if_neg (by omega), if_neg (by omega), if_neg w]
theorem md_fits {mb mc dt md tt : Nat → Int32} {d : Nat → Nat} {v len l n0 : Nat} {bits : Int32} (T : MT mb mc) (hn0 : 4000 ≤ n0) (hl4 : l < 4) (hv : v < 41) (hv1 : 1 ≤ v) (hl : len ≤ 3000) (hd : ∀ i : Nat, i < len → dt i = ni (d i) ∧ d i < 256) : ∃ b md' tt', fn_Md_fits n0 (ni v) (ni l) (ni len) bits mb mc dt md tt = some (ni b, ni (gG (rk v) d len len 6), md', tt') ∧ (∀ i : Nat, i < len → md' i = ni (ch (rk v) d len i)) ∧ ((b = 1 ∧ okv l v d len) ∨ (b = 0 ∧ ¬ okv l v d len)) := by
  obtain ⟨md', tt', e1, h1⟩ := md_divide (md := md) (tt := tt) (bits := bits) hn0 (rk_lt v) hl hd
  have hG := gG_le (rk_lt v) d len len 6 (by omega)
  obtain ⟨z1, z2, z3, z4, z5, z6, -⟩ := vr_nu l hl4 v hv hv1
  obtain ⟨b', g1, g2, g3⟩ := mf1 (tt := tt') (y3 := ni (gG (rk v) d len len 6)) hv hv1 hl h1 (if gG (rk v) d len len 6 ≤ 8 * nH l v then 1 else 0) (by split <;> omega) len 0 n0 (if gG (rk v) d len len 6 ≤ 8 * nH l v then 1 else 0) 0 (by omega) (by omega) (by split <;> omega) ⟨fun h => ⟨h, fun j hj => absurd hj (by omega)⟩, fun h => h.1⟩ (by omega) (by omega)
  refine ⟨b', md', tt', ?_, h1, ?_⟩
  · unfold fn_Md_fits
    simp (disch := omega) only [ni_lit, sq_bd, sq_jn, sq_cb0, sq_cb1, sq_cb2, sq_cb3, sq_cb4, sq_cb5, (cl_span v hv hv1).2, e1, md_holds T hl4 hv hv1, ni_mul, ni_lt]
    rw [← g1]
    by_cases q : gG (rk v) d len len 6 ≤ 8 * nH l v
    · rw [if_neg (by omega), if_pos q]
    · rw [if_pos (by omega), if_neg q]
  · by_cases q : gG (rk v) d len len 6 ≤ 8 * nH l v
    · rw [if_pos q] at g3
      by_cases w : b' = 1
      · exact Or.inl ⟨w, q, (g3.mp w).2⟩
      · exact Or.inr ⟨by omega, fun z => w (g3.mpr ⟨rfl, z.2⟩)⟩
    · rw [if_neg q] at g3
      refine Or.inr ⟨?_, fun z => q z.1⟩
      by_cases w : b' = 1
      · have := (g3.mp w).1; omega
      · omega
theorem cho_cg {b : Nat → Int32} {v w len p : Nat} {d : Nat → Nat} (h : rk v = rk w) (hc : cho b v d len p) : cho b w d len p := fun i h1 h2 => by rw [← h]; exact hc i h1 h2
theorem fv1 {by0 : Nat → Int32} {l len last n0 : Nat} {d : Nat → Nat} (hn0 : 4000 ≤ n0) (hl4 : l < 4) (hlast : last < 41) (hl : len ≤ 3000) (hd : cdt by0 len d) : ∀ (e v mm : Nat) (dv : Int32) (sz f nxt md st : Int32) (bb bhr chs fb : Nat → Int32), v + e = last + 1 → 1 ≤ v → e < mm → (dv = -1 ∨ ∃ w : Nat, w < 41 ∧ 1 ≤ w ∧ dv = ni (rk w) ∧ sz = ni len ∧ bh bb (gG (rk w) d len len) ∧ cho chs w d len 0) → ∃ r sz' f' nxt' md' st' bb' bhr' chs' fb', fn_Sq_fittingVersion_L1 (ni l) n0 (ni len) by0 (ni last) mm dv (ni v) sz f nxt md st bb bhr chs fb = some (r, sz', f', nxt', md', st', bb', bhr', chs', fb') ∧ ((∃ u : Nat, r = ni u ∧ v ≤ u ∧ u ≤ last ∧ okv l u d len ∧ (∀ w : Nat, v ≤ w → w < u → ¬ okv l w d len) ∧ sz' = ni len ∧ bh bb' (gG (rk u) d len len) ∧ cho chs' u d len 0) ∨ (r = -1 ∧ ∀ w : Nat, v ≤ w → w ≤ last → ¬ okv l w d len))
  | 0, v, mm + 1, dv, sz, f, nxt, md, st, bb, bhr, chs, fb, hv, hv1, _, hdv => by
    refine ⟨-1, sz, f, nxt, md, st, bb, bhr, chs, fb, ?_, Or.inr ⟨rfl, fun w h1 h2 => by omega⟩⟩
    rw [fn_Sq_fittingVersion_L1_s]
    simp (disch := omega) only [ni_lt]
    rw [if_pos (by omega)]
  | e + 1, v, mm + 1, dv, sz, f, nxt, md, st, bb, bhr, chs, fb, hv, hv1, hm, hdv => by
    have hvl : v < 41 := by omega
    obtain ⟨z1, z2, z3, z4, z5, z6, -⟩ := vr_nu l hl4 v hvl hv1
    have eh := (vr_ck l hl4 v hvl hv1).2.2.1
    have es := (cl_span v hvl hv1).1
    have hrk := rk_lt v
    rw [fn_Sq_fittingVersion_L1_s]
    unfold fn_Data_size
    rw [eh, es]
    simp (disch := omega) only [ni_lit, ni_lt, ni_mul, ni_le, ni_add, sq_bd, sq_jn, sq_cb0, sq_cb1, sq_cb2, sq_cb3, sq_cb4, sq_cb5]
    rw [if_neg (by omega)]
    by_cases q3 : 3 * len ≤ 8 * nH l v
    · rw [if_pos q3]
      have key : ∀ (sz2 f2 nxt2 st2 : Int32) (bb2 bhr2 chs2 fb2 : Nat → Int32), sz2 = ni len → bh bb2 (gG (rk v) d len len) → cho chs2 v d len 0 → ∃ r sz' f' nxt' md' st' bb' bhr' chs' fb', sq_cb5 (fn_Division_fits n0 (ni (8 * nH l v)) (ni v) sz2 f2 nxt2 md st2 bb2 chs2) (fun r47 y48 y49 y50 y51 => if r47 = ni 0 then fn_Sq_fittingVersion_L1 (ni l) n0 (ni len) by0 (ni last) mm (ni (rk v)) (ni (v + 1)) sz2 y48 y49 y50 y51 bb2 bhr2 chs2 fb2 else some (ni v, sz2, y48, y49, y50, y51, bb2, bhr2, chs2, fb2)) = some (r, sz', f', nxt', md', st', bb', bhr', chs', fb') ∧ ((∃ u : Nat, r = ni u ∧ v ≤ u ∧ u ≤ last ∧ okv l u d len ∧ (∀ w : Nat, v ≤ w → w < u → ¬ okv l w d len) ∧ sz' = ni len ∧ bh bb' (gG (rk u) d len len) ∧ cho chs' u d len 0) ∨ (r = -1 ∧ ∀ w : Nat, v ≤ w → w ≤ last → ¬ okv l w d len)) := by
        intro sz2 f2 nxt2 st2 bb2 bhr2 chs2 fb2 hsz hbb hch
        subst hsz
        obtain ⟨b, a1, a2, a3, a4, r1, r2⟩ := cl_fits (l := l) (f := f2) (nx0 := nxt2) (md := md) (st := st2) hn0 hl4 hvl hv1 hbb hch hl
        rw [r1]
        simp only [sq_cb5]
        rcases r2 with ⟨w1, w2⟩ | ⟨w1, w2⟩
        · subst w1
          rw [if_neg (by decide)]
          exact ⟨ni v, ni len, a1, a2, a3, a4, bb2, bhr2, chs2, fb2, rfl, Or.inl ⟨v, rfl, by omega, by omega, w2, fun w h1 h2 => by omega, rfl, hbb, hch⟩⟩
        · subst w1
          rw [if_pos rfl]
          obtain ⟨r, sz', f', nxt', md', st', bb', bhr', chs', fb', g1, g2⟩ := fv1 hn0 hl4 hlast hl hd e (v + 1) mm (ni (rk v)) (ni len) a1 a2 a3 a4 bb2 bhr2 chs2 fb2 (by omega) (by omega) (by omega) (Or.inr ⟨v, hvl, hv1, rfl, rfl, hbb, hch⟩)
          refine ⟨r, sz', f', nxt', md', st', bb', bhr', chs', fb', g1, ?_⟩
          rcases g2 with ⟨u, u1, u2, u3, u4, u5, u6⟩ | ⟨u1, u2⟩
          · refine Or.inl ⟨u, u1, by omega, u3, u4, fun w h1 h2 => ?_, u6⟩
            by_cases z : w = v
            · rw [z]; exact w2
            · exact u5 w (by omega) h2
          · refine Or.inr ⟨u1, fun w h1 h2 => ?_⟩
            by_cases z : w = v
            · rw [z]; exact w2
            · exact u2 w (by omega) h2
      by_cases qd : ni (rk v) = dv
      · rw [if_pos qd]
        rcases hdv with h9 | ⟨w, w1, w2, w3, w4, w5, w6⟩
        · exact absurd (qd.trans h9) (ni_nm (by omega))
        · rw [w3] at qd
          have hrw := rk_lt w
          have e9 : rk v = rk w := by
            rw [ni_eq (by omega) (by omega)] at qd; exact qd
          have := key sz f nxt st bb bhr chs fb w4 (by rw [e9]; exact w5) (cho_cg e9.symm w6)
          rw [w3, ← e9]
          exact this
      · rw [if_neg qd]
        obtain ⟨bb2, bhr2, chs2, fb2, e2, h2, h3⟩ := cl_divide (bb := bb) (bhr := bhr) (chs := chs) (fb := fb) (a1 := sz) (a2 := f) (a3 := nxt) (a4 := st) hn0 hvl hv1 hl hd
        rw [e2]
        simp only [sq_cb8]
        exact key (ni len) 0 0 6 bb2 bhr2 chs2 fb2 rfl h2 h3
    · rw [if_neg q3]
      obtain ⟨r, sz', f', nxt', md', st', bb', bhr', chs', fb', g1, g2⟩ := fv1 hn0 hl4 hlast hl hd e (v + 1) mm dv sz f nxt md st bb bhr chs fb (by omega) (by omega) (by omega) hdv
      have hno : ¬ okv l v d len := fun z => by
        have := gG_ge (rk_lt v) d len len 6 (by omega)
        have := z.1
        omega
      refine ⟨r, sz', f', nxt', md', st', bb', bhr', chs', fb', g1, ?_⟩
      rcases g2 with ⟨u, u1, u2, u3, u4, u5, u6⟩ | ⟨u1, u2⟩
      · refine Or.inl ⟨u, u1, by omega, u3, u4, fun w h1 h2 => ?_, u6⟩
        by_cases z : w = v
        · rw [z]; exact hno
        · exact u5 w (by omega) h2
      · refine Or.inr ⟨u1, fun w h1 h2 => ?_⟩
        by_cases z : w = v
        · rw [z]; exact hno
        · exact u2 w (by omega) h2
/-- the least version between first and last that fits -/
def lv (l : Nat) (d : Nat → Nat) (len first last u : Nat) : Prop := first ≤ u ∧ u ≤ last ∧ okv l u d len ∧ ∀ w : Nat, first ≤ w → w < u → ¬ okv l w d len
theorem cl_fitting {by0 bb bhr chs fb : Nat → Int32} {l wish len n0 : Nat} {d : Nat → Nat} {sz f nxt md st : Int32} (hn0 : 4000 ≤ n0) (hl4 : l < 4) (hw : wish < 41) (hl : len ≤ 3000) (hd : cdt by0 len d) : ∃ r sz' f' nxt' md' st' bb' bhr' chs' fb', fn_Sq_fittingVersion n0 (ni l) (ni wish) (ni len) sz f nxt md st by0 bb bhr chs fb = some (r, sz', f', nxt', md', st', bb', bhr', chs', fb') ∧ ((∃ u : Nat, r = ni u ∧ lv l d len (if wish = 0 then 1 else wish) (if wish = 0 then 40 else wish) u ∧ sz' = ni len ∧ bh bb' (gG (rk u) d len len) ∧ cho chs' u d len 0) ∨ (r = -1 ∧ ∀ w : Nat, (if wish = 0 then 1 else wish) ≤ w → w ≤ (if wish = 0 then 40 else wish) → ¬ okv l w d len)) := by
  unfold fn_Sq_fittingVersion
  simp (disch := omega) only [ni_lit, ni_eq, sq_jn]
  by_cases q : wish = 0
  · rw [if_pos q, if_pos q, if_pos q, if_pos q]
    obtain ⟨r, sz', f', nxt', md', st', bb', bhr', chs', fb', g1, g2⟩ := fv1 (last := 40) hn0 hl4 (by omega) hl hd 40 1 n0 (-1) sz f nxt md st bb bhr chs fb (by omega) (by omega) (by omega) (Or.inl rfl)
    refine ⟨r, sz', f', nxt', md', st', bb', bhr', chs', fb', g1, ?_⟩
    rcases g2 with ⟨u, u1, u2, u3, u4, u5, u6⟩ | g2
    · exact Or.inl ⟨u, u1, ⟨u2, u3, u4, u5⟩, u6⟩
    · exact Or.inr g2
  · rw [if_neg q, if_neg q, if_neg q, if_neg q]
    obtain ⟨r, sz', f', nxt', md', st', bb', bhr', chs', fb', g1, g2⟩ := fv1 (last := wish) hn0 hl4 (by omega) hl hd 1 wish n0 (-1) sz f nxt md st bb bhr chs fb (by omega) (by omega) (by omega) (Or.inl rfl)
    refine ⟨r, sz', f', nxt', md', st', bb', bhr', chs', fb', g1, ?_⟩
    rcases g2 with ⟨u, u1, u2, u3, u4, u5, u6⟩ | g2
    · exact Or.inl ⟨u, u1, ⟨u2, u3, u4, u5⟩, u6⟩
    · exact Or.inr g2
/-! the model's -/
theorem vf2 {mb mc dt : Nat → Int32} {d : Nat → Nat} {l len r last n0 : Nat} (T : MT mb mc) (hn0 : 4000 ≤ n0) (hl4 : l < 4) (hlast : last < 41) (hl : len ≤ 3000) (hd : ∀ i : Nat, i < len → dt i = ni (d i) ∧ d i < 256) : ∀ (e v mm : Nat) (md tt : Nat → Int32), v + e = last + 1 → 1 ≤ v → e < mm → (∀ w : Nat, v ≤ w → w ≤ last → rk w = r) → (∃ md' tt', (∀ k18, fn_Md_versionFor_L2 (ni l) n0 (ni len) mb mc dt (ni last) k18 mm (ni v) (ni (gG r d len len 6)) md tt = k18 (ni (gG r d len len 6)) md' tt') ∧ ∀ w : Nat, v ≤ w → w ≤ last → ¬ okv l w d len) ∨ ∃ u md' tt', (∀ k18, fn_Md_versionFor_L2 (ni l) n0 (ni len) mb mc dt (ni last) k18 mm (ni v) (ni (gG r d len len 6)) md tt = some (ni u, ni (gG (rk u) d len len 6), md', tt')) ∧ v ≤ u ∧ u ≤ last ∧ okv l u d len ∧ (∀ w : Nat, v ≤ w → w < u → ¬ okv l w d len) ∧ ∀ i : Nat, i < len → md' i = ni (ch (rk u) d len i)
  | 0, v, mm + 1, md, tt, hv, hv1, _, hr => by
    refine Or.inl ⟨md, tt, fun k18 => ?_, fun w h1 h2 => by omega⟩
    rw [fn_Md_versionFor_L2_s]
    simp (disch := omega) only [ni_lt]
    rw [if_pos (by omega)]
  | e + 1, v, mm + 1, md, tt, hv, hv1, hm, hr => by
    have hvl : v < 41 := by omega
    have hrv := hr v (by omega) (by omega)
    obtain ⟨z1, z2, z3, z4, z5, z6, -⟩ := vr_nu l hl4 v hvl hv1
    have hG := gG_le (rk_lt v) d len len 6 (by omega)
    rw [hrv] at hG
    have hcase : (∃ md2 tt2, (∀ k18, fn_Md_versionFor_L2 (ni l) n0 (ni len) mb mc dt (ni last) k18 (mm + 1) (ni v) (ni (gG r d len len 6)) md tt = fn_Md_versionFor_L2 (ni l) n0 (ni len) mb mc dt (ni last) k18 mm (ni (v + 1)) (ni (gG r d len len 6)) md2 tt2) ∧ ¬ okv l v d len) ∨ ∃ md2 tt2, (∀ k18, fn_Md_versionFor_L2 (ni l) n0 (ni len) mb mc dt (ni last) k18 (mm + 1) (ni v) (ni (gG r d len len 6)) md tt = some (ni v, ni (gG (rk v) d len len 6), md2, tt2)) ∧ okv l v d len ∧ ∀ i : Nat, i < len → md2 i = ni (ch (rk v) d len i) := by
      by_cases q : 8 * nH l v < gG r d len len 6
      · refine Or.inl ⟨md, tt, fun k18 => ?_, fun z => by have := z.1; rw [hrv] at this; omega⟩
        rw [fn_Md_versionFor_L2_s, md_holds T hl4 hvl hv1]
        simp (disch := omega) only [ni_lit, ni_lt, ni_mul, ni_add, sq_bd, sq_jn, sq_cb0, sq_cb1, sq_cb2, sq_cb3, sq_cb4, sq_cb5]
        rw [if_neg (by omega), if_pos q]
      · obtain ⟨b, md2, tt2, e1, h1, h2⟩ := md_fits (md := md) (tt := tt) (bits := ni (gG r d len len 6)) T hn0 hl4 hvl hv1 hl hd
        rcases h2 with ⟨w1, w2⟩ | ⟨w1, w2⟩
        · subst w1
          refine Or.inr ⟨md2, tt2, fun k18 => ?_, w2, h1⟩
          rw [fn_Md_versionFor_L2_s, md_holds T hl4 hvl hv1]
          simp (disch := omega) only [ni_lit, ni_lt, ni_mul, ni_add, sq_bd, sq_jn, sq_cb0, sq_cb1, sq_cb2, sq_cb3, sq_cb4, sq_cb5, e1]
          rw [if_neg (by omega), if_neg q, if_neg (by decide)]
        · subst w1
          refine Or.inl ⟨md2, tt2, fun k18 => ?_, w2⟩
          rw [fn_Md_versionFor_L2_s, md_holds T hl4 hvl hv1]
          simp (disch := omega) only [ni_lit, ni_lt, ni_mul, ni_add, sq_bd, sq_jn, sq_cb0, sq_cb1, sq_cb2, sq_cb3, sq_cb4, sq_cb5, e1]
          rw [if_neg (by omega), if_neg q, if_pos trivial, hrv]
    rcases hcase with ⟨md2, tt2, hst, hno⟩ | ⟨md2, tt2, hst, hok, h1⟩
    · rcases vf2 (r := r) T hn0 hl4 hlast hl hd e (v + 1) mm md2 tt2 (by omega) (by omega) (by omega) (fun w h1 h2 => hr w (by omega) h2) with ⟨md', tt', g1, g2⟩ | ⟨u, md', tt', g1, g2, g3, g4, g5, g6⟩
      · refine Or.inl ⟨md', tt', fun k18 => by rw [hst, g1], fun w h1 h2 => ?_⟩
        by_cases z : w = v
        · rw [z]; exact hno
        · exact g2 w (by omega) h2
      · refine Or.inr ⟨u, md', tt', fun k18 => by rw [hst, g1], by omega, g3, g4, fun w h1 h2 => ?_, g6⟩
        by_cases z : w = v
        · rw [z]; exact hno
        · exact g5 w (by omega) h2
    · exact Or.inr ⟨v, md2, tt2, hst, by omega, by omega, hok, fun w h3 h4 => by omega, h1⟩
theorem md_version {mb mc dt md tt : Nat → Int32} {d : Nat → Nat} {l wish len n0 : Nat} {bits : Int32} (T : MT mb mc) (hn0 : 4000 ≤ n0) (hl4 : l < 4) (hw : wish < 41) (hl : len ≤ 3000) (hd : ∀ i : Nat, i < len → dt i = ni (d i) ∧ d i < 256) : ∃ r bits' md' tt', fn_Md_versionFor n0 (ni l) (ni wish) (ni len) bits mb mc dt md tt = some (r, bits', md', tt') ∧ ((∃ u : Nat, r = ni u ∧ lv l d len (if wish = 0 then 1 else wish) (if wish = 0 then 40 else wish) u ∧ bits' = ni (gG (rk u) d len len 6) ∧ ∀ i : Nat, i < len → md' i = ni (ch (rk u) d len i)) ∨ (r = -1 ∧ ∀ w : Nat, (if wish = 0 then 1 else wish) ≤ w → w ≤ (if wish = 0 then 40 else wish) → ¬ okv l w d len)) := by
  unfold fn_Md_versionFor
  simp (disch := omega) only [ni_lit, ni_le]
  by_cases q : wish = 0
  · subst q
    rw [if_pos (by omega), if_pos rfl, if_pos rfl]
    obtain ⟨m3, rfl⟩ : ∃ m3, n0 = m3 + 1 + 1 + 1 + 1 := ⟨n0 - 4, by omega⟩
    obtain ⟨mdA, ttA, eA, hA⟩ := md_divide (r := 0) (md := md) (tt := tt) (bits := bits) hn0 (by omega) hl hd
    have rk0 : ∀ w : Nat, 1 ≤ w → w ≤ 9 → rk w = 0 := fun w h1 h2 => by unfold rk; rw [if_pos (by omega)]
    have rk1 : ∀ w : Nat, 10 ≤ w → w ≤ 26 → rk w = 1 := fun w h1 h2 => by unfold rk; rw [if_neg (by omega), if_pos (by omega)]
    have rk2 : ∀ w : Nat, 27 ≤ w → w ≤ 40 → rk w = 2 := fun w h1 h2 => by unfold rk; rw [if_neg (by omega), if_neg (by omega)]
    rw [fn_Md_versionFor_L1_s]
    simp (disch := omega) only [ni_lit, ni_le, ni_eq, ni_add, sq_bd, sq_jn, sq_cb0, sq_cb1, sq_cb2, sq_cb3, sq_cb4, sq_cb5, eA, if_true]
    rw [if_neg (by omega)]
    rcases vf2 (last := 9) T hn0 hl4 (by omega) hl hd 9 1 (m3 + 1 + 1 + 1 + 1) mdA ttA (by omega) (by omega) (by omega) rk0 with ⟨md1, tt1, a1, a2⟩ | ⟨u, md1, tt1, a1, a2, a3, a4, a5, a6⟩
    · rw [a1, fn_Md_versionFor_L1_s]
      obtain ⟨mdB, ttB, eB, hB⟩ := md_divide (r := 1) (md := md1) (tt := tt1) (bits := ni (gG 0 d len len 6)) hn0 (by omega) hl hd
      simp (disch := omega) only [ni_lit, ni_le, ni_eq, ni_add, sq_bd, sq_jn, sq_cb0, sq_cb1, sq_cb2, sq_cb3, sq_cb4, sq_cb5, Nat.zero_add, eB, if_true]
      rw [if_neg (by omega), if_neg (by omega), if_neg (by omega)]
      rcases vf2 (last := 26) T hn0 hl4 (by omega) hl hd 17 10 (m3 + 1 + 1 + 1 + 1) mdB ttB (by omega) (by omega) (by omega) rk1 with ⟨md2, tt2, b1, b2⟩ | ⟨u, md2, tt2, b1, b2, b3, b4, b5, b6⟩
      · rw [b1, fn_Md_versionFor_L1_s]
        obtain ⟨mdC, ttC, eC, hC⟩ := md_divide (r := 2) (md := md2) (tt := tt2) (bits := ni (gG 1 d len len 6)) hn0 (by omega) hl hd
        simp (disch := omega) only [ni_lit, ni_le, ni_eq, ni_add, sq_bd, sq_jn, sq_cb0, sq_cb1, sq_cb2, sq_cb3, sq_cb4, sq_cb5, Nat.reduceAdd, eC]
        rw [if_neg (by omega), if_neg (by omega), if_neg (by omega), if_neg (by omega), if_neg (by omega)]
        rcases vf2 (last := 40) T hn0 hl4 (by omega) hl hd 14 27 (m3 + 1 + 1 + 1 + 1) mdC ttC (by omega) (by omega) (by omega) rk2 with ⟨md4, tt4, c1, c2⟩ | ⟨u, md4, tt4, c1, c2, c3, c4, c5, c6⟩
        · rw [c1, fn_Md_versionFor_L1_s, if_pos (by decide)]
          refine ⟨-1, _, md4, tt4, rfl, Or.inr ⟨rfl, fun w h1 h2 => ?_⟩⟩
          by_cases z1 : w ≤ 9
          · exact a2 w h1 z1
          · by_cases z2 : w ≤ 26
            · exact b2 w (by omega) z2
            · exact c2 w (by omega) h2
        · rw [c1]
          refine ⟨ni u, _, md4, tt4, rfl, Or.inl ⟨u, rfl, ⟨by omega, c3, c4, fun w h1 h2 => ?_⟩, rfl, c6⟩⟩
          by_cases z1 : w ≤ 9
          · exact a2 w h1 z1
          · by_cases z2 : w ≤ 26
            · exact b2 w (by omega) z2
            · exact c5 w (by omega) h2
      · rw [b1]
        refine ⟨ni u, _, md2, tt2, rfl, Or.inl ⟨u, rfl, ⟨by omega, by omega, b4, fun w h1 h2 => ?_⟩, rfl, b6⟩⟩
        by_cases z1 : w ≤ 9
        · exact a2 w h1 z1
        · exact b5 w (by omega) h2
    · rw [a1]
      exact ⟨ni u, _, md1, tt1, rfl, Or.inl ⟨u, rfl, ⟨by omega, by omega, a4, a5⟩, rfl, a6⟩⟩
  · rw [if_neg (by omega), if_neg q, if_neg q]
    obtain ⟨b, md2, tt2, e1, h1, h2⟩ := md_fits (l := l) (v := wish) (md := md) (tt := tt) (bits := bits) T hn0 hl4 hw (by omega) hl hd
    rw [e1]
    simp only [sq_cb4]
    rcases h2 with ⟨w1, w2⟩ | ⟨w1, w2⟩
    · subst w1
      exact ⟨ni wish, _, md2, tt2, rfl, Or.inl ⟨wish, rfl, ⟨by omega, by omega, w2, fun w h3 h4 => by omega⟩, rfl, h1⟩⟩
    · subst w1
      exact ⟨-1, _, md2, tt2, rfl, Or.inr ⟨rfl, fun w h3 h4 => by rw [show w = wish by omega]; exact w2⟩⟩
theorem lv_1 {l len first last u w : Nat} {d : Nat → Nat} (h : lv l d len first last u) (g : lv l d len first last w) : u = w := by
  obtain ⟨a1, a2, a3, a4⟩ := h
  obtain ⟨b1, b2, b3, b4⟩ := g
  rcases Nat.lt_trichotomy u w with q | q | q
  · exact absurd a3 (b4 u a1 q)
  · exact q
  · exact absurd b3 (a4 w b1 q)
