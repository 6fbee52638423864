/-! own rows: all blocks -/
/-- the first n blocks of the codewords W (in their order) put right, T places in all, the data D -/
def AB (H B K S M most : Nat) (W : Nat → Nat) : Nat → Nat → (Nat → Nat) → Prop
  | 0, T, _ => T = 0
  | n + 1, T, D => ∃ t E T', AB H B K S M most W n T' D ∧ t ≤ most ∧ ER (ln S M n + K) K (fun j => W (pof H B S M n j)) t E ∧ (∀ j : Nat, j < ln S M n → D (str S M n + j) = W (pof H B S M n j) ^^^ E j) ∧ T = T' + t
theorem AB_1 {H B K S M most : Nat} {W : Nat → Nat} (h : VN H B K S M) (hmK : 2 * most ≤ K) : ∀ (n T T2 : Nat) (D D2 : Nat → Nat), AB H B K S M most W n T D → AB H B K S M most W n T2 D2 → T = T2 ∧ ∀ p : Nat, p < str S M n → D p = D2 p
  | 0, T, T2, D, D2, h1, h2 => by
    refine ⟨h1.trans h2.symm, fun p hp => ?_⟩
    unfold str at hp; omega
  | n + 1, T, T2, D, D2, h1, h2 => by
    have hl := ln_le S M n
    have h8 := h.2.2.2.2.2.2.2.1
    obtain ⟨t, E, T', a1, a2, a3, a4, a5⟩ := h1
    obtain ⟨t2, E2, T2', b1, b2, b3, b4, b5⟩ := h2
    obtain ⟨c1, c2⟩ := AB_1 h hmK n T' T2' D D2 a1 b1
    obtain ⟨d1, d2⟩ := ER_1 (by omega) a3 b3 (by omega)
    refine ⟨by omega, fun p hp => ?_⟩
    rw [str_s] at hp
    by_cases q : p < str S M n
    · exact c2 p q
    · have e1 := a4 (p - str S M n) (by omega)
      have e2 := b4 (p - str S M n) (by omega)
      rw [show str S M n + (p - str S M n) = p by omega] at e1 e2
      rw [e1, e2, d2 _ (by omega)]
theorem AB_cg {H B K S M most : Nat} {W : Nat → Nat} : ∀ (n T : Nat) (D D2 : Nat → Nat), (∀ p : Nat, p < str S M n → D p = D2 p) → AB H B K S M most W n T D → AB H B K S M most W n T D2
  | 0, _, _, _, _, h => h
  | n + 1, T, D, D2, e, h => by
    obtain ⟨t, E, T', a1, a2, a3, a4, a5⟩ := h
    refine ⟨t, E, T', AB_cg n T' D D2 (fun p hp => e p (by rw [str_s]; omega)) a1, a2, a3, fun j hj => ?_, a5⟩
    rw [← e _ (by rw [str_s]; omega)]
    exact a4 j hj
theorem AB_le {H B K S M most : Nat} {W : Nat → Nat} : ∀ (n T : Nat) (D : Nat → Nat), AB H B K S M most W n T D → T ≤ n * most
  | 0, T, _, h => by rw [show T = 0 from h]; omega
  | n + 1, T, D, h => by
    obtain ⟨t, E, T', a1, a2, a3, a4, a5⟩ := h
    have := AB_le n T' D a1
    rw [Nat.succ_mul]; omega
theorem ER_cg {s c t : Nat} {w w' E : Nat → Nat} (e : ∀ j : Nat, j < s → w j = w' j) (h : ER s c w t E) : ER s c w' t E := ⟨h.1, h.2.1, fun k hk => by rw [← sy_cg e]; exact h.2.2 k hk⟩
theorem ER_cgE {s c t : Nat} {w E E' : Nat → Nat} (e : ∀ j : Nat, j < s → E j = E' j) (h : ER s c w t E) : ER s c w t E' := ⟨fun j hj => by rw [← e j hj]; exact h.1 j hj, by rw [← sc_cg e]; exact h.2.1, fun k hk => by rw [← sy_cg e]; exact h.2.2 k hk⟩
theorem ni_nm {a : Nat} (h : a < 2147483648) : ni a ≠ -(ni 1) := of_eq_false (ni_m1 h)
/-- the class: the codewords W lie at their places -/
theorem ma1 {H B K S M most n0 : Nat} {lg pv : Nat → Int32} {W : Nat → Nat} (hn0 : 300 ≤ n0) (F : FD lg pv) (h : VN H B K S M) (hm : most ≤ 15) (hmK : 2 * most ≤ K) : ∀ (d b mm T : Nat) (by0 blk ev kept loc old pls syn : Nat → Int32) (u : Nat → Nat), b + d = B → d < mm → cb by0 (H + B * K) u → AB H B K S M most W b T u → (∀ c j : Nat, b ≤ c → c < B → j < ln S M c + K → u (pib H K S M c j) = W (pof H B S M c j)) → ∃ r by1 blk1 ev1 kept1 loc1 old1 pls1 syn1, fn_Mender_mendAll_L1 (ni most) n0 (ni H) (ni B) (ni K) (ni S) (ni M) lg pv mm (ni T) (ni b) by0 blk ev kept loc old pls syn = some (r, by1, blk1, ev1, kept1, loc1, old1, pls1, syn1) ∧ ((∃ T' u', r = ni T' ∧ cb by1 (H + B * K) u' ∧ AB H B K S M most W B T' u') ∨ (r = -1 ∧ ∃ c : Nat, c < B ∧ ∀ t E, t ≤ most → ¬ ER (ln S M c + K) K (fun j => W (pof H B S M c j)) t E))
  | 0, b, mm + 1, T, by0, blk, ev, kept, loc, old, pls, syn, u, hb, _, hcb, hAB, hu => by
    have hbB : b = B := by omega
    subst hbB
    have h3 := h.2.2.1
    refine ⟨ni T, by0, blk, ev, kept, loc, old, pls, syn, ?_, Or.inl ⟨T, u, rfl, hcb, hAB⟩⟩
    rw [fn_Mender_mendAll_L1_s]
    unfold fn_Codewords_blocks
    simp (disch := omega) only [ni_lit, ni_add, ni_mul, ni_sub, ni_lt, ni_le, ni_ix, ni_eq, ni_div, ni_rem, ni_and, ni_or, ni_xor, ni_shl, ni_shr, ni_gi, ni_gz, ni_max, ni_min, ni_dc, ni_0a, ni_ml, ni_mle, Nat.reduceAnd, Nat.reduceAdd, Nat.reduceMul, Nat.reduceSub, Nat.reduceDiv, Nat.reduceMod, Nat.reduceXor, Nat.reduceShiftLeft, Nat.reduceShiftRight, sq_bd, sq_jn, sq_cb0, sq_cb1, sq_cb2, sq_cb3, sq_cb4, sq_cb5]
    rw [if_pos (by omega)]
  | d + 1, b, mm + 1, T, by0, blk, ev, kept, loc, old, pls, syn, u, hb, hd, hcb, hAB, hu => by
    have hl := ln_le S M b
    have h0 := h
    obtain ⟨h1, h2, h3, h4, h5, h6, h7, h8, h9⟩ := h0
    have hT := AB_le b T u hAB
    have hT2 : b * most ≤ 81 * 15 := Nat.mul_le_mul (by omega) hm
    have hEH := str_H h
    obtain ⟨r, by1, blk1, ev1, kept1, loc1, old1, pls1, syn1, e1, hr⟩ := cl_mend (blk := blk) (ev := ev) (kept := kept) (loc := loc) (old := old) (pls := pls) (syn := syn) (w := fun j => W (pof H B S M b j)) (b := b) hn0 F h (by omega) rfl hm hmK hcb (fun j hj => (hu b j (by omega) (by omega) hj).symm)
    rcases hr with ⟨t, E, u', g1, g2, g3, g4, g5, g6⟩ | ⟨g1, g2⟩
    · have hAB2 : AB H B K S M most W (b + 1) (T + t) u' := by
        refine ⟨t, E, T, AB_cg b T u u' (fun p hp => (g6 p (fun j hj q => ?_)).symm) hAB, g2, g3, fun j hj => ?_, rfl⟩
        · have hbs := str_le (S := S) (M := M) (show b < B by omega)
          unfold pib at q
          by_cases w : ln S M b ≤ j
          · rw [if_pos w] at q; omega
          · rw [if_neg w] at q; omega
        · have := g5 j (by omega)
          unfold pib at this
          rw [if_neg (by omega)] at this
          exact this
      obtain ⟨r2, by2, blk2, ev2, kept2, loc2, old2, pls2, syn2, e2, hr2⟩ := ma1 hn0 F h hm hmK d (b + 1) mm (T + t) by1 blk1 ev1 kept1 loc1 old1 pls1 syn1 u' (by omega) (by omega) g4 hAB2 (fun c j q1 q2 q3 => by
        rw [g6 _ (fun i hi w => by have := (pib_inj h q2 (by omega) q3 hi w).1; omega)]
        exact hu c j (by omega) q2 q3)
      refine ⟨r2, by2, blk2, ev2, kept2, loc2, old2, pls2, syn2, ?_, hr2⟩
      rw [fn_Mender_mendAll_L1_s, ← e2]
      unfold fn_Codewords_blocks
      simp (disch := omega) only [ni_lit, ni_add, ni_mul, ni_sub, ni_lt, ni_le, ni_ix, ni_eq, ni_div, ni_rem, ni_and, ni_or, ni_xor, ni_shl, ni_shr, ni_gi, ni_gz, ni_max, ni_min, ni_dc, ni_0a, ni_ml, ni_mle, Nat.reduceAnd, Nat.reduceAdd, Nat.reduceMul, Nat.reduceSub, Nat.reduceDiv, Nat.reduceMod, Nat.reduceXor, Nat.reduceShiftLeft, Nat.reduceShiftRight, sq_cb1, sq_bd, e1, sq_cb9]
      rw [if_neg (by omega), g1, if_neg (ni_nm (by omega)), ni_add]
    · subst g1
      refine ⟨-1, by1, blk1, ev1, kept1, loc1, old1, pls1, syn1, ?_, Or.inr ⟨rfl, b, by omega, g2⟩⟩
      rw [fn_Mender_mendAll_L1_s]
      unfold fn_Codewords_blocks
      simp (disch := omega) only [ni_lit, ni_le, sq_cb1, sq_bd, e1, sq_cb9]
      rw [if_neg (by omega), if_pos trivial]
theorem cl_mendAll {H B K S M most n0 : Nat} {lg pv : Nat → Int32} {W u : Nat → Nat} (hn0 : 300 ≤ n0) (F : FD lg pv) (h : VN H B K S M) (hm : most ≤ 15) (hmK : 2 * most ≤ K) {by0 blk ev kept loc old pls syn : Nat → Int32} (hcb : cb by0 (H + B * K) u) (hu : ∀ k : Nat, k < H + B * K → u (pio H B K S M k) = W k) : ∃ r by1 blk1 ev1 kept1 loc1 old1 pls1 syn1, fn_Mender_mendAll n0 (ni most) (ni H) (ni B) (ni K) (ni S) (ni M) by0 blk ev kept loc old pls syn lg pv = some (r, by1, blk1, ev1, kept1, loc1, old1, pls1, syn1) ∧ ((∃ T u', r = ni T ∧ cb by1 (H + B * K) u' ∧ AB H B K S M most W B T u') ∨ (r = -1 ∧ ∃ c : Nat, c < B ∧ ∀ t E, t ≤ most → ¬ ER (ln S M c + K) K (fun j => W (pof H B S M c j)) t E)) := by
  have h3 := h.2.2.1
  exact ma1 hn0 F h hm hmK B 0 n0 0 by0 blk ev kept loc old pls syn u (by omega) (by omega) hcb rfl (fun c j _ q2 q3 => by
    rw [← pio_pof h q2 q3]
    exact hu _ (pof_lt h q2 q3))
/-! the model's -/
theorem ab3 {mb mc wd : Nat → Int32} {W : Nat → Nat} (T : MT mb mc) {l v b s n0 : Nat} (hl : l < 4) (hv : v < 41) (h1 : 1 ≤ v) (hb : b < nB l v) (hs : s = ln (nS l v) (nM l v) b + nK l v) (hwd : ∀ k : Nat, k < acw v → wd k = ni (W k)) : ∀ (d x m : Nat) (blk : Nat → Int32), x + d = s → d < m → (∀ j : Nat, j < x → blk j = ni (W (pof (nH l v) (nB l v) (nS l v) (nM l v) b j))) → ∃ blk', (∀ k18, fn_Md_allBlocks_L3 (ni v) (ni l) mb mc wd (ni (nK l v)) (ni b) (ni (ln (nS l v) (nM l v) b)) k18 m (ni x) blk = k18 blk') ∧ ∀ j : Nat, j < s → blk' j = ni (W (pof (nH l v) (nB l v) (nS l v) (nM l v) b j))
  | 0, x, m + 1, blk, hx, _, h => by
    have hxs : x = s := by omega
    subst hxs
    have hll := ln_le (nS l v) (nM l v) b
    obtain ⟨a1, a2, a3, a4, a5, a6, a7, a8, a9, a10, a11, a12⟩ := vr_nu l hl v hv h1
    refine ⟨blk, fun k18 => ?_, h⟩
    rw [fn_Md_allBlocks_L3_s]
    simp (disch := omega) only [ni_lit, ni_add, ni_mul, ni_sub, ni_lt, ni_le, ni_ix, ni_eq, ni_div, ni_rem, ni_and, ni_or, ni_xor, ni_shl, ni_shr, ni_gi, ni_gz, ni_max, ni_min, ni_dc, ni_0a, ni_ml, ni_mle, Nat.reduceAnd, Nat.reduceAdd, Nat.reduceMul, Nat.reduceSub, Nat.reduceDiv, Nat.reduceMod, Nat.reduceXor, Nat.reduceShiftLeft, Nat.reduceShiftRight]
    rw [if_pos (by omega)]
  | d + 1, x, m + 1, blk, hx, hm, h => by
    have hll := ln_le (nS l v) (nM l v) b
    obtain ⟨a1, a2, a3, a4, a5, a6, a7, a8, a9, a10, a11, a12⟩ := vr_nu l hl v hv h1
    have hp := pof_lt (j := x) (vn_ok hl hv h1) hb (by omega)
    have e1 := hwd _ (show pof (nH l v) (nB l v) (nS l v) (nM l v) b x < acw v by omega)
    obtain ⟨blk', g1, g2⟩ := ab3 (n0 := n0) T hl hv h1 hb hs hwd d (x + 1) m (upd blk x (ni (W (pof (nH l v) (nB l v) (nS l v) (nM l v) b x)))) (by omega) (by omega) (fun j hj => by
      rw [upd_a]
      by_cases q : j = x
      · rw [if_pos q, q]
      · rw [if_neg q]; exact h j (by omega))
    refine ⟨blk', fun k18 => ?_, g2⟩
    rw [fn_Md_allBlocks_L3_s, ← g1 k18]
    simp (disch := omega) only [ni_lit, ni_add, ni_mul, ni_sub, ni_lt, ni_le, ni_ix, ni_eq, ni_div, ni_rem, ni_and, ni_or, ni_xor, ni_shl, ni_shr, ni_gi, ni_gz, ni_max, ni_min, ni_dc, ni_0a, ni_ml, ni_mle, Nat.reduceAnd, Nat.reduceAdd, Nat.reduceMul, Nat.reduceSub, Nat.reduceDiv, Nat.reduceMod, Nat.reduceXor, Nat.reduceShiftLeft, Nat.reduceShiftRight, sq_bd, sq_jn, sq_cb0, sq_cb1, sq_cb2, sq_cb3, sq_cb4, sq_cb5, md_place T hl hv h1, e1]
    rw [if_neg (by omega)]
theorem ab2 {b22 : Nat → Int32} {D : Nat → Nat} {r st : Nat} (hr : r ≤ 255) (hst : st + r ≤ 3800) (hb : ∀ j : Nat, j < r → b22 j = ni (D (st + j))) : ∀ (d x m : Nat) (by0 : Nat → Int32), x + d = r → d < m → (∀ p : Nat, p < st + x → by0 p = ni (D p)) → ∃ by1, (∀ k34, fn_Md_allBlocks_L2 (ni r) b22 (ni st) k34 m (ni x) by0 = k34 by1) ∧ ∀ p : Nat, p < st + r → by1 p = ni (D p)
  | 0, x, m + 1, by0, hx, _, h => by
    have hxs : x = r := by omega
    subst hxs
    refine ⟨by0, fun k34 => ?_, h⟩
    rw [fn_Md_allBlocks_L2_s]
    simp (disch := omega) only [ni_lit, ni_add, ni_mul, ni_sub, ni_lt, ni_le, ni_ix, ni_eq, ni_div, ni_rem, ni_and, ni_or, ni_xor, ni_shl, ni_shr, ni_gi, ni_gz, ni_max, ni_min, ni_dc, ni_0a, ni_ml, ni_mle, Nat.reduceAnd, Nat.reduceAdd, Nat.reduceMul, Nat.reduceSub, Nat.reduceDiv, Nat.reduceMod, Nat.reduceXor, Nat.reduceShiftLeft, Nat.reduceShiftRight]
    rw [if_pos (by omega)]
  | d + 1, x, m + 1, by0, hx, hm, h => by
    have e1 := hb x (by omega)
    obtain ⟨by1, g1, g2⟩ := ab2 hr hst hb d (x + 1) m (upd by0 (st + x) (ni (D (st + x)))) (by omega) (by omega) (fun p hp => by
      rw [upd_a]
      by_cases q : p = st + x
      · rw [if_pos q, q]
      · rw [if_neg q]; exact h p (by omega))
    refine ⟨by1, fun k34 => ?_, g2⟩
    rw [fn_Md_allBlocks_L2_s, ← g1 k34]
    simp (disch := omega) only [ni_lit, ni_add, ni_mul, ni_sub, ni_lt, ni_le, ni_ix, ni_eq, ni_div, ni_rem, ni_and, ni_or, ni_xor, ni_shl, ni_shr, ni_gi, ni_gz, ni_max, ni_min, ni_dc, ni_0a, ni_ml, ni_mle, Nat.reduceAnd, Nat.reduceAdd, Nat.reduceMul, Nat.reduceSub, Nat.reduceDiv, Nat.reduceMod, Nat.reduceXor, Nat.reduceShiftLeft, Nat.reduceShiftRight, sq_bd, sq_jn, sq_cb0, sq_cb1, sq_cb2, sq_cb3, sq_cb4, sq_cb5, e1]
    rw [if_neg (by omega)]
theorem ab1 {mb mc wd : Nat → Int32} {W : Nat → Nat} (T : MT mb mc) {l v n0 : Nat} (hn0 : 300 ≤ n0) (hl : l < 4) (hv : v < 41) (h1 : 1 ≤ v) (hwd : ∀ k : Nat, k < acw v → wd k = ni (W k) ∧ W k < 256) : ∀ (d b mm Ts : Nat) (blk by0 pls slv sys trd vls : Nat → Int32) (D : Nat → Nat), b + d = nB l v → d < mm → AB (nH l v) (nB l v) (nK l v) (nS l v) (nM l v) (nE l v) W b Ts D → (∀ p : Nat, p < str (nS l v) (nM l v) b → by0 p = ni (D p)) → ∃ r blk1 by1 pls1 slv1 sys1 trd1 vls1, fn_Md_allBlocks_L1 (ni v) (ni l) n0 mb mc wd (ni (nK l v)) mm (ni Ts) (ni b) blk by0 pls slv sys trd vls = some (r, blk1, by1, pls1, slv1, sys1, trd1, vls1) ∧ ((∃ T' D', r = ni T' ∧ AB (nH l v) (nB l v) (nK l v) (nS l v) (nM l v) (nE l v) W (nB l v) T' D' ∧ ∀ p : Nat, p < nH l v → by1 p = ni (D' p)) ∨ (r = -1 ∧ ∃ c : Nat, c < nB l v ∧ ∀ t E, t ≤ nE l v → ¬ ER (ln (nS l v) (nM l v) c + nK l v) (nK l v) (fun j => W (pof (nH l v) (nB l v) (nS l v) (nM l v) c j)) t E))
  | 0, b, mm + 1, Ts, blk, by0, pls, slv, sys, trd, vls, D, hb, _, hAB, hD => by
    have hbB : b = nB l v := by omega
    obtain ⟨a1, a2, a3, a4, a5, a6, a7, a8, a9, a10, a11, a12⟩ := vr_nu l hl v hv h1
    have hH := str_H (vn_ok hl hv h1)
    refine ⟨ni Ts, blk, by0, pls, slv, sys, trd, vls, ?_, Or.inl ⟨Ts, D, rfl, by rw [← hbB]; rw [← hbB] at hAB; exact hAB, fun p hp => hD p (by rw [hbB, hH]; exact hp)⟩⟩
    rw [fn_Md_allBlocks_L1_s, md_blk T hl hv h1]
    simp (disch := omega) only [ni_lit, ni_add, ni_mul, ni_sub, ni_lt, ni_le, ni_ix, ni_eq, ni_div, ni_rem, ni_and, ni_or, ni_xor, ni_shl, ni_shr, ni_gi, ni_gz, ni_max, ni_min, ni_dc, ni_0a, ni_ml, ni_mle, Nat.reduceAnd, Nat.reduceAdd, Nat.reduceMul, Nat.reduceSub, Nat.reduceDiv, Nat.reduceMod, Nat.reduceXor, Nat.reduceShiftLeft, Nat.reduceShiftRight, sq_bd, sq_jn, sq_cb0, sq_cb1, sq_cb2, sq_cb3, sq_cb4, sq_cb5]
    rw [if_pos (by omega)]
  | d + 1, b, mm + 1, Ts, blk, by0, pls, slv, sys, trd, vls, D, hb, hd, hAB, hD => by
    obtain ⟨a1, a2, a3, a4, a5, a6, a7, a8, a9, a10, a11, a12⟩ := vr_nu l hl v hv h1
    have hll := ln_le (nS l v) (nM l v) b
    have hvn := vn_ok hl hv h1
    have hT := AB_le b Ts D hAB
    have hT2 : b * nE l v ≤ 81 * 15 := Nat.mul_le_mul (by omega) a9
    obtain ⟨sp, s1, s2, s3⟩ := vr_sp l hl v hv h1
    obtain ⟨blk1, e3, hblk⟩ := ab3 (n0 := n0) (s := ln (nS l v) (nM l v) b + nK l v) T hl hv h1 (b := b) (by omega) rfl (fun k hk => (hwd k hk).1) (ln (nS l v) (nM l v) b + nK l v) 0 n0 blk (by omega) (by omega) (fun j hj => absurd hj (by omega))
    have hbv : bv blk1 (ln (nS l v) (nM l v) b + nK l v) (fun j => W (pof (nH l v) (nB l v) (nS l v) (nM l v) b j)) := fun j hj => ⟨hblk j hj, (hwd _ (by rw [← a6]; exact pof_lt hvn (by omega) hj)).2⟩
    obtain ⟨blk2, pls2, slv2, sys2, trd2, vls2, hc⟩ := md_correct (p := pls) (f := slv) (g := sys) (t := trd) (v := vls) (c := nK l v) (most := nE l v) hn0 (by omega) a9 a10 (by omega) hbv
    rcases hc with ⟨i, E, g1, g2, g3, g4⟩ | ⟨g1, g2⟩
    · have hstr := str_le (S := nS l v) (M := nM l v) (show b < nB l v by omega)
      have hH := str_H hvn
      have hstB : str (nS l v) (nM l v) b + ln (nS l v) (nM l v) b ≤ nH l v := by omega
      obtain ⟨by1, e2, h2⟩ := ab2 (b22 := blk2) (D := fun p => if p < str (nS l v) (nM l v) b then D p else W (pof (nH l v) (nB l v) (nS l v) (nM l v) b (p - str (nS l v) (nM l v) b)) ^^^ E (p - str (nS l v) (nM l v) b)) (r := ln (nS l v) (nM l v) b) (st := str (nS l v) (nM l v) b) (by omega) (by omega) (fun j hj => by
        rw [g3 j (by omega)]
        rw [if_neg (by omega), show str (nS l v) (nM l v) b + j - str (nS l v) (nM l v) b = j by omega]) (ln (nS l v) (nM l v) b) 0 n0 by0 (by omega) (by omega) (fun p hp => by
        rw [if_pos (by omega)]; exact hD p (by omega))
      have hAB2 : AB (nH l v) (nB l v) (nK l v) (nS l v) (nM l v) (nE l v) W (b + 1) (Ts + i) (fun p => if p < str (nS l v) (nM l v) b then D p else W (pof (nH l v) (nB l v) (nS l v) (nM l v) b (p - str (nS l v) (nM l v) b)) ^^^ E (p - str (nS l v) (nM l v) b)) := by
        refine ⟨i, E, Ts, AB_cg b Ts D _ (fun p hp => by rw [if_pos hp]) hAB, g1, g2, fun j hj => ?_, rfl⟩
        dsimp only
        rw [if_neg (by omega), show str (nS l v) (nM l v) b + j - str (nS l v) (nM l v) b = j by omega]
      obtain ⟨r3, blk3, by3, pls3, slv3, sys3, trd3, vls3, e4, h4⟩ := ab1 T hn0 hl hv h1 hwd d (b + 1) mm (Ts + i) blk2 by1 pls2 slv2 sys2 trd2 vls2 _ (by omega) (by omega) hAB2 (fun p hp => h2 p (by rw [str_s] at hp; exact hp))
      refine ⟨r3, blk3, by3, pls3, slv3, sys3, trd3, vls3, ?_, h4⟩
      rw [fn_Md_allBlocks_L1_s, ← e4, md_blk T hl hv h1, md_share T hl hv h1 (by omega)]
      simp (disch := omega) only [ni_lit, ni_add, ni_mul, ni_sub, ni_lt, ni_le, ni_ix, ni_eq, ni_div, ni_rem, ni_and, ni_or, ni_xor, ni_shl, ni_shr, ni_gi, ni_gz, ni_max, ni_min, ni_dc, ni_0a, ni_ml, ni_mle, Nat.reduceAnd, Nat.reduceAdd, Nat.reduceMul, Nat.reduceSub, Nat.reduceDiv, Nat.reduceMod, Nat.reduceXor, Nat.reduceShiftLeft, Nat.reduceShiftRight, sq_bd, sq_jn, sq_cb0, sq_cb1, sq_cb2, sq_cb3, sq_cb4, sq_cb5, e3, s1, s3, g4, sq_cb7, md_start T hn0 hl hv h1, e2]
      rw [if_neg (by omega), if_pos (by omega)]
    · refine ⟨-1, blk2, by0, pls2, slv2, sys2, trd2, vls2, ?_, Or.inr ⟨rfl, b, by omega, fun t E ht => g1 t E ht⟩⟩
      rw [fn_Md_allBlocks_L1_s, md_blk T hl hv h1, md_share T hl hv h1 (by omega)]
      simp (disch := omega) only [ni_lit, ni_add, ni_mul, ni_sub, ni_lt, ni_le, ni_ix, ni_eq, ni_div, ni_rem, ni_and, ni_or, ni_xor, ni_shl, ni_shr, ni_gi, ni_gz, ni_max, ni_min, ni_dc, ni_0a, ni_ml, ni_mle, Nat.reduceAnd, Nat.reduceAdd, Nat.reduceMul, Nat.reduceSub, Nat.reduceDiv, Nat.reduceMod, Nat.reduceXor, Nat.reduceShiftLeft, Nat.reduceShiftRight, sq_bd, sq_jn, sq_cb0, sq_cb1, sq_cb2, sq_cb3, sq_cb4, sq_cb5, e3, s1, s3, g2, sq_cb7]
      rw [if_neg (by omega), if_neg (by decide)]
theorem md_allBlocks {mb mc wd : Nat → Int32} {W : Nat → Nat} (T : MT mb mc) {l v n0 : Nat} (hn0 : 300 ≤ n0) (hl : l < 4) (hv : v < 41) (h1 : 1 ≤ v) (hwd : ∀ k : Nat, k < acw v → wd k = ni (W k) ∧ W k < 256) (blk by0 pls slv sys trd vls : Nat → Int32) : ∃ r blk1 by1 pls1 slv1 sys1 trd1 vls1, fn_Md_allBlocks n0 (ni v) (ni l) blk mb by0 mc pls slv sys trd vls wd = some (r, blk1, by1, pls1, slv1, sys1, trd1, vls1) ∧ ((∃ T' D', r = ni T' ∧ AB (nH l v) (nB l v) (nK l v) (nS l v) (nM l v) (nE l v) W (nB l v) T' D' ∧ ∀ p : Nat, p < nH l v → by1 p = ni (D' p)) ∨ (r = -1 ∧ ∃ c : Nat, c < nB l v ∧ ∀ t E, t ≤ nE l v → ¬ ER (ln (nS l v) (nM l v) c + nK l v) (nK l v) (fun j => W (pof (nH l v) (nB l v) (nS l v) (nM l v) c j)) t E)) := by
  obtain ⟨a1, a2, a3, a4, a5, a6, a7, a8, a9, a10, a11, a12⟩ := vr_nu l hl v hv h1
  unfold fn_Md_allBlocks
  rw [md_chk T hl hv h1]
  exact ab1 T hn0 hl hv h1 hwd (nB l v) 0 n0 0 blk by0 pls slv sys trd vls (fun _ => 0) (by omega) (by omega) rfl (fun p hp => absurd hp (by unfold str; omega))
/-- all blocks can be put right, or one can't: never both -/
theorem AB_no {H B K S M most : Nat} {W : Nat → Nat} {c : Nat} (h : ∀ t E, t ≤ most → ¬ ER (ln S M c + K) K (fun j => W (pof H B S M c j)) t E) : ∀ (n T : Nat) (D : Nat → Nat), c < n → ¬ AB H B K S M most W n T D
  | n + 1, T, D, hc, hAB => by
    obtain ⟨t, E, T', a1, a2, a3, a4, a5⟩ := hAB
    by_cases q : c = n
    · subst q; exact h t E a2 a3
    · exact AB_no h n T' D (by omega) a1
