/-! own rows: the class puts all blocks right; the model too -/
def cb (b : Nat → Int32) (N : Nat) (u : Nat → Nat) : Prop := ∀ p : Nat, p < N → b p &&& 255 = ni (u p) ∧ u p < 256
theorem by_rt : ∀ x : Nat, x < 256 → vp_nar .byte (sq_i2b (ni x)) &&& 255 = ni x := by
  simp only [vp_nar_byte]
  decide +kernel
theorem cw_get {b : Nat → Int32} {N p : Nat} {u : Nat → Nat} (h : cb b N u) (hN : N ≤ 3706) (hp : p < N) : fn_Codewords_get (ni p) b = some (ni (u p)) := by
  have e := (h p hp).1
  rw [show (255 : Int32) = ni 255 from rfl] at e
  unfold fn_Codewords_get
  simp (disch := omega) only [ni_lit, ni_add, ni_mul, ni_sub, ni_lt, ni_le, ni_ix, ni_eq, ni_div, ni_rem, ni_and, ni_or, ni_xor, ni_shl, ni_shr, ni_gi, ni_gz, ni_max, ni_min, ni_dc, ni_0a, ni_ml, ni_mle, Nat.reduceAnd, Nat.reduceAdd, Nat.reduceMul, Nat.reduceSub, Nat.reduceDiv, Nat.reduceMod, Nat.reduceXor, Nat.reduceShiftLeft, Nat.reduceShiftRight, sq_bd, sq_jn, sq_cb0, sq_cb1, sq_cb2, sq_cb3, sq_cb4, sq_cb5, e]
  rw [if_neg (by omega), if_neg (by omega)]
theorem cw_set {b : Nat → Int32} {N p x : Nat} {u : Nat → Nat} (h : cb b N u) (hN : N ≤ 3706) (hp : p < N) (hx : x < 256) : ∃ b', fn_Codewords_set (ni p) (ni x) b = some b' ∧ cb b' N (fun q => if q = p then x else u q) := by
  refine ⟨upd b p (vp_nar .byte (sq_i2b (ni x))), ?_, fun q hq => ?_⟩
  · unfold fn_Codewords_set
    simp (disch := omega) only [ni_lit, ni_add, ni_mul, ni_sub, ni_lt, ni_le, ni_ix, ni_eq, ni_div, ni_rem, ni_and, ni_or, ni_xor, ni_shl, ni_shr, ni_gi, ni_gz, ni_max, ni_min, ni_dc, ni_0a, ni_ml, ni_mle, Nat.reduceAnd, Nat.reduceAdd, Nat.reduceMul, Nat.reduceSub, Nat.reduceDiv, Nat.reduceMod, Nat.reduceXor, Nat.reduceShiftLeft, Nat.reduceShiftRight, sq_bd, sq_jn, sq_cb0, sq_cb1, sq_cb2, sq_cb3, sq_cb4, sq_cb5]
    rw [if_neg (by omega), if_neg (by omega)]
  · dsimp only
    rw [upd_a]
    by_cases e : q = p
    · rw [if_pos e, if_pos e]; exact ⟨by_rt x hx, hx⟩
    · rw [if_neg e, if_neg e]; exact h q hq
theorem sc_l (f : Nat → Nat) : ∀ n : Nat, sc f (n + 1) = (if f 0 = 0 then 0 else 1) + sc (fun i => f (i + 1)) n
  | 0 => by rw [sc_s]; show 0 + _ = _ + 0; omega
  | n + 1 => by rw [sc_s, sc_l f n, sc_s]; omega
theorem sc_rev (f : Nat → Nat) : ∀ n : Nat, sc (fun j => f (n - 1 - j)) n = sc f n
  | 0 => rfl
  | n + 1 => by
    rw [sc_l, sc_s, ← sc_rev f n]
    have : sc (fun i => f (n + 1 - 1 - (i + 1))) n = sc (fun j => f (n - 1 - j)) n := sc_cg (fun j hj => by rw [show n + 1 - 1 - (j + 1) = n - 1 - j by omega])
    rw [this]
    show (if f n = 0 then 0 else 1) + _ = _
    omega
theorem rp_iff {C : Nat → Nat} (hC : ∀ i : Nat, C i < 256) (L i : Nat) (hi : i ≤ 255) : rp C L i ≠ 0 ↔ hn C (pw i) (L + 1) = 0 := by
  have hin : gm (pw (255 - i)) (pw i) = 1 := by rw [gm_pp, show 255 - i + i = 255 by omega, pw_255]
  have e : hn (fun j => C (L + 1 - 1 - j)) (pw (255 - i)) (L + 1) = ps C (pw (255 - i)) (L + 1) := hn_ps hC _ _
  have e2 := ps_hn hC hin L
  unfold rp
  rw [e]
  by_cases q : ps C (pw (255 - i)) (L + 1) = 0
  · rw [if_pos q]
    refine ⟨fun _ => ?_, fun _ => by omega⟩
    rw [← e2, q, gm_0r]
  · rw [if_neg q]
    refine ⟨fun h => absurd rfl h, fun h => ?_⟩
    rw [h] at e2
    exact absurd ((gm_zero (gq_lt _ _) (ps_lt _ _ _) e2).resolve_left (gq_ne (pw_ne i) (pw_lt i) L)) q
theorem md2 {H B K S M b s : Nat} {by0 : Nat → Int32} {u : Nat → Nat} (h : VN H B K S M) (hb : b < B) (hs : s = ln S M b + K) (hcb : cb by0 (H + B * K) u) : ∀ (d i m : Nat) (blk : Nat → Int32), i + d = s → d < m → (∀ k : Nat, k < i → blk k = ni (u (pib H K S M b (s - 1 - k)))) → ∃ blk', (∀ k9, fn_Mender_mend_L2 (ni b) (ni H) (ni K) (ni S) (ni M) by0 (ni s) k9 m (ni i) blk = k9 blk') ∧ ∀ k : Nat, k < s → blk' k = ni (u (pib H K S M b (s - 1 - k)))
  | 0, i, m + 1, blk, hi, _, hk => by
    have hii : i = s := by omega
    subst hii
    refine ⟨blk, fun k9 => ?_, hk⟩
    have hl := ln_le S M b
    have h8 := h.2.2.2.2.2.2.2.1
    rw [fn_Mender_mend_L2_s]
    simp (disch := omega) only [ni_lit, ni_add, ni_mul, ni_sub, ni_lt, ni_le, ni_ix, ni_eq, ni_div, ni_rem, ni_and, ni_or, ni_xor, ni_shl, ni_shr, ni_gi, ni_gz, ni_max, ni_min, ni_dc, ni_0a, ni_ml, ni_mle, Nat.reduceAnd, Nat.reduceAdd, Nat.reduceMul, Nat.reduceSub, Nat.reduceDiv, Nat.reduceMod, Nat.reduceXor, Nat.reduceShiftLeft, Nat.reduceShiftRight]
    rw [if_pos (by omega)]
  | d + 1, i, m + 1, blk, hi, hm, hk => by
    have hl := ln_le S M b
    have h0 := h
    obtain ⟨h1, h2, h3, h4, h5, h6, h7, h8, h9⟩ := h0
    have hp := pib_lt (j := s - 1 - i) h hb (by omega)
    have e1 := cw_get hcb h7 hp
    obtain ⟨blk', g1, g2⟩ := md2 h hb hs hcb d (i + 1) m (upd blk i (ni (u (pib H K S M b (s - 1 - i))))) (by omega) (by omega) (fun k hk2 => by
      rw [upd_a]
      by_cases q : k = i
      · rw [if_pos q, q]
      · rw [if_neg q]; exact hk k (by omega))
    refine ⟨blk', fun k9 => ?_, g2⟩
    rw [fn_Mender_mend_L2_s, ← g1 k9]
    simp (disch := omega) only [ni_lit, ni_add, ni_mul, ni_sub, ni_lt, ni_le, ni_ix, ni_eq, ni_div, ni_rem, ni_and, ni_or, ni_xor, ni_shl, ni_shr, ni_gi, ni_gz, ni_max, ni_min, ni_dc, ni_0a, ni_ml, ni_mle, Nat.reduceAnd, Nat.reduceAdd, Nat.reduceMul, Nat.reduceSub, Nat.reduceDiv, Nat.reduceMod, Nat.reduceXor, Nat.reduceShiftLeft, Nat.reduceShiftRight, sq_bd, sq_jn, sq_cb0, sq_cb1, sq_cb2, sq_cb3, sq_cb4, sq_cb5, cl_pib, e1]
    rw [if_neg (by omega)]
theorem md1 {H B K S M b s t n0 : Nat} {lg pv blk syn kept loc old pls ev : Nat → Int32} {C W P e w : Nat → Nat} (hn0 : 300 ≤ n0) (F : FD lg pv) (h : VN H B K S M) (hb : b < B) (hs : s = ln S M b + K) (ht : t ≤ 15) (hw : ∀ j : Nat, j < s → w j < 256) (hP : ∀ i : Nat, i < t → P i < s ∧ pls i = ni (s - 1 - P i)) (he : ∀ i : Nat, e i < 256) (hdf : ∀ i : Nat, i < t → fn_Mender_difference n0 (ni (s - 1 - P i)) (ni t) ev loc lg pv = some (ni (e i))) : ∀ (d i m : Nat) (by0 : Nat → Int32) (u : Nat → Nat), i + d = t → d < m → cb by0 (H + B * K) u → (∀ j : Nat, j < s → u (pib H K S M b j) = w j ^^^ sa P e i j) → ∃ by1 u', fn_Mender_mend_L1 (ni b) n0 (ni H) (ni K) (ni S) (ni M) lg pv (ni s) blk syn (ni t) kept loc old pls ev m (ni i) by0 = some (ni t, by1, blk, ev, kept, loc, old, pls, syn) ∧ cb by1 (H + B * K) u' ∧ (∀ j : Nat, j < s → u' (pib H K S M b j) = w j ^^^ sa P e t j) ∧ ∀ q : Nat, (∀ j : Nat, j < s → q ≠ pib H K S M b j) → u' q = u q
  | 0, i, m + 1, by0, u, hi, _, hcb, hu => by
    have hii : i = t := by omega
    subst hii
    refine ⟨by0, u, ?_, hcb, hu, fun q _ => rfl⟩
    rw [fn_Mender_mend_L1_s]
    simp (disch := omega) only [ni_lit, ni_add, ni_mul, ni_sub, ni_lt, ni_le, ni_ix, ni_eq, ni_div, ni_rem, ni_and, ni_or, ni_xor, ni_shl, ni_shr, ni_gi, ni_gz, ni_max, ni_min, ni_dc, ni_0a, ni_ml, ni_mle, Nat.reduceAnd, Nat.reduceAdd, Nat.reduceMul, Nat.reduceSub, Nat.reduceDiv, Nat.reduceMod, Nat.reduceXor, Nat.reduceShiftLeft, Nat.reduceShiftRight]
    rw [if_pos (by omega)]
  | d + 1, i, m + 1, by0, u, hi, hm, hcb, hu => by
    have hl := ln_le S M b
    have h0 := h
    obtain ⟨h1, h2, h3, h4, h5, h6, h7, h8, h9⟩ := h0
    obtain ⟨p1, p2⟩ := hP i (by omega)
    have hp := pib_lt (j := P i) h hb (by omega)
    have e1 := cw_get hcb h7 hp
    rw [hu _ p1] at e1
    have l1 : w (P i) ^^^ sa P e i (P i) < 256 := x_lt (hw _ p1) (sa_lt (fun k _ => he k) _)
    obtain ⟨by1, e2, c2⟩ := cw_set (x := w (P i) ^^^ sa P e i (P i) ^^^ e i) hcb h7 hp (x_lt l1 (he i))
    obtain ⟨by2, u', g1, g2, g3, g4⟩ := md1 (C := C) (W := W) (blk := blk) (syn := syn) (kept := kept) (old := old) hn0 F h hb hs ht hw hP he hdf d (i + 1) m by1 _ (by omega) (by omega) c2 (fun j hj => by
      rw [sa_s]
      by_cases q : P i = j
      · rw [if_pos (by rw [q]), if_pos q, q, Nat.xor_assoc]
      · rw [if_neg (fun w2 => q (pib_inj h hb hb (by omega) (by omega) w2).2.symm), if_neg q, x_0]
        exact hu j hj)
    refine ⟨by2, u', ?_, g2, g3, fun q hq => ?_⟩
    · rw [fn_Mender_mend_L1_s, ← g1]
      simp (disch := omega) only [ni_lit, ni_add, ni_mul, ni_sub, ni_lt, ni_le, ni_ix, ni_eq, ni_div, ni_rem, ni_and, ni_or, ni_xor, ni_shl, ni_shr, ni_gi, ni_gz, ni_max, ni_min, ni_dc, ni_0a, ni_ml, ni_mle, Nat.reduceAnd, Nat.reduceAdd, Nat.reduceMul, Nat.reduceSub, Nat.reduceDiv, Nat.reduceMod, Nat.reduceXor, Nat.reduceShiftLeft, Nat.reduceShiftRight, sq_bd, sq_jn, sq_cb0, sq_cb1, sq_cb2, sq_cb3, sq_cb4, sq_cb5, p2, hdf, show s - 1 - (s - 1 - P i) = P i by omega, cl_pib, e1, e2]
      rw [if_neg (by omega), if_neg (by omega)]
    · rw [g4 q hq, if_neg (hq _ p1)]
/-- the class puts one block right within most places, or says NONE -/
theorem cl_mend {H B K S M b s most n0 : Nat} {lg pv by0 blk ev kept loc old pls syn : Nat → Int32} {u w : Nat → Nat} (hn0 : 300 ≤ n0) (F : FD lg pv) (h : VN H B K S M) (hb : b < B) (hs : s = ln S M b + K) (hm : most ≤ 15) (hmK : 2 * most ≤ K) (hcb : cb by0 (H + B * K) u) (hw : ∀ j : Nat, j < s → w j = u (pib H K S M b j)) : ∃ r by1 blk1 ev1 kept1 loc1 old1 pls1 syn1, fn_Mender_mend n0 (ni b) (ni most) (ni H) (ni K) (ni S) (ni M) by0 blk ev kept loc old pls syn lg pv = some (r, by1, blk1, ev1, kept1, loc1, old1, pls1, syn1) ∧ ((∃ t E u', r = ni t ∧ t ≤ most ∧ ER s K w t E ∧ cb by1 (H + B * K) u' ∧ (∀ j : Nat, j < s → u' (pib H K S M b j) = w j ^^^ E j) ∧ ∀ q : Nat, (∀ j : Nat, j < s → q ≠ pib H K S M b j) → u' q = u q) ∨ (r = -1 ∧ ∀ t E, t ≤ most → ¬ ER s K w t E)) := by
  have hl := ln_le S M b
  have h0 := h
  obtain ⟨h1, h2, h3, h4, h5, h6, h7, h8, h9⟩ := h0
  have hwl : ∀ j : Nat, j < s → w j < 256 := fun j hj => by rw [hw j hj]; exact (hcb _ (pib_lt h hb (by omega))).2
  obtain ⟨blk1, e2, hblk⟩ := md2 h hb hs hcb s 0 n0 blk (by omega) (by omega) (fun k hk => absurd hk (by omega))
  have hb2 : bv blk1 s (fun i => w (s - 1 - i)) := fun i hi => ⟨by dsimp only; rw [hblk i hi, hw _ (by omega)], hwl _ (by omega)⟩
  obtain ⟨syn1, e3, hsyn⟩ := me_syn hn0 F (s := s) (c := K) (by omega) (by omega) (by omega) hwl hb2 syn
  have hsy : bv syn1 K (sy w s) := fun i hi => ⟨hsyn i hi, hn_lt _ hwl⟩
  unfold fn_Mender_mend fn_Codewords_checks
  simp (disch := omega) only [ni_lit, ni_add, ni_mul, ni_sub, ni_lt, ni_le, ni_ix, ni_eq, ni_div, ni_rem, ni_and, ni_or, ni_xor, ni_shl, ni_shr, ni_gi, ni_gz, ni_max, ni_min, ni_dc, ni_0a, ni_ml, ni_mle, Nat.reduceAnd, Nat.reduceAdd, Nat.reduceMul, Nat.reduceSub, Nat.reduceDiv, Nat.reduceMod, Nat.reduceXor, Nat.reduceShiftLeft, Nat.reduceShiftRight, sq_bd, sq_jn, sq_cb0, sq_cb1, sq_cb2, sq_cb3, sq_cb4, sq_cb5, cl_len, show min K 32 = K by omega, ← hs, show min s 255 = s by omega, e2, e3]
  by_cases qo : oc (sy w s) K = 0
  · have hz := (oc_iff (sy w s) K).mp qo
    refine ⟨ni 0, by0, blk1, ev, kept, loc, old, pls, syn1, ?_, Or.inl ⟨0, fun _ => 0, u, rfl, by omega, ⟨fun _ _ => (by omega : (0 : Nat) < 256), sc_z2 (fun _ _ => rfl), fun k hk => ?_⟩, hcb, fun j hj => by rw [x_0, hw j hj], fun q _ => rfl⟩⟩
    · rw [if_pos qo, if_pos rfl]
    · rw [hz k hk]; exact (hn_0 _ _).symm
  rw [if_neg qo, if_neg (by decide)]
  obtain ⟨L, C, Bp, Kp, mp, bp, kept1, loc1, old1, e4, hBM, hloc⟩ := me_loc hn0 F h5 hsy kept loc old
  obtain ⟨a1, a2, a3, a4, -⟩ := hBM
  rw [e4]
  simp (disch := omega) only [ni_lt]
  by_cases qL : most < L
  · refine ⟨-(ni 1), by0, blk1, ev, kept1, loc1, old1, pls, syn1, by rw [if_pos qL], Or.inr ⟨rfl, fun t E ht hE => ?_⟩⟩
    have := (ER_bm (by omega) hE (by omega) a1 a3 a4).1
    omega
  rw [if_neg qL]
  obtain ⟨r, pls1, e5, r1, r2, r3⟩ := me_pl (s := s) (L := L) hn0 F (by omega) (by omega) hloc pls
  rw [e5]
  simp (disch := omega) only [ni_eq]
  have hrp : ∀ j : Nat, j < s → (rp C L (s - 1 - j) ≠ 0 ↔ hn C (pw (s - 1 - j)) (L + 1) = 0) := fun j hj => rp_iff a1.2.1 L _ (by omega)
  by_cases qr : r = L
  · have hsc : sc (rp C L) s = L := r2.mp qr
    have hsc2 : sc (fun j => if hn C (pw (s - 1 - j)) (L + 1) = 0 then 1 else 0) s = L := by
      refine Eq.trans ?_ hsc
      rw [← sc_rev (rp C L)]
      refine Nat.le_antisymm (sc_mono (fun j hj q => (hrp j hj).mpr ?_)) (sc_mono (fun j hj q => ?_))
      · by_cases w2 : hn C (pw (s - 1 - j)) (L + 1) = 0
        · exact w2
        · rw [if_neg w2] at q; exact absurd rfl q
      · rw [if_pos ((hrp j hj).mp q)]; omega
    obtain ⟨t, E, ht, hE⟩ := bm_ER (c := K) (by omega) hwl a1 a3 hsc2
    obtain ⟨g1, g2⟩ := ER_bm (by omega) hE (by omega) a1 a3 a4
    subst g1
    have ht1 : 1 ≤ L := by
      by_cases q : L = 0
      · exfalso
        apply qo
        refine (oc_iff (sy w s) K).mpr (fun k hk => ?_)
        rw [hE.2.2 k hk, sy_cg (w' := fun _ => 0) (sc_z (by rw [hE.2.1, q]))]
        exact hn_0 _ _
      · omega
    obtain ⟨ev1, e6, hev⟩ := me_ev (S := sy w s) (t := L) hn0 F (by omega) hloc (fun i hi => hsy i (by omega)) ev
    have hpl : ∀ i : Nat, i < L → pl (rp C L) s i < s ∧ rp C L (pl (rp C L) s i) ≠ 0 := fun i hi => pl_ok _ s i (by omega)
    have hinj : dj (pl (rp C L) s) L := by have := pl_inj (rp C L) s; rw [hsc] at this; exact this
    have hPE : ∀ i : Nat, i < L → E (s - 1 - pl (rp C L) s i) ≠ 0 := fun i hi => by
      obtain ⟨q1, q2⟩ := hpl i hi
      refine (g2 _ (by omega)).1.mp ((hrp _ (by omega)).mp ?_)
      rw [show s - 1 - (s - 1 - pl (rp C L) s i) = pl (rp C L) s i by omega]; exact q2
    obtain ⟨by1, u', f1, f2, f3, f4⟩ := md1 (C := C) (W := C) (blk := blk1) (syn := syn1) (kept := kept1) (loc := loc1) (old := old1) (pls := pls1) (ev := ev1) (P := fun i => s - 1 - pl (rp C L) s i) (e := fun i => if i < L then E (s - 1 - pl (rp C L) s i) else 0) (t := L) hn0 F h hb hs (by omega) hwl (fun i hi => by
        obtain ⟨q1, q2⟩ := hpl i hi
        refine ⟨by omega, ?_⟩
        rw [r3 qr i hi, show s - 1 - (s - 1 - pl (rp C L) s i) = pl (rp C L) s i by omega]) (fun i => by
        by_cases q : i < L
        · rw [if_pos q]; exact hE.1 _ (by have := (hpl i q).1; omega)
        · rw [if_neg q]; omega) (fun i hi => by
        obtain ⟨q1, q2⟩ := hpl i hi
        obtain ⟨w1, w2⟩ := (g2 (s - 1 - pl (rp C L) s i) (by omega)).2 (hPE i hi)
        rw [if_pos hi]
        rw [show s - 1 - (s - 1 - pl (rp C L) s i) = pl (rp C L) s i by omega] at w1 w2 ⊢
        exact me_diff hn0 F (by omega) (by omega) ht1 hloc a1.2.1 (fun k hk => ⟨hev k hk, cv_lt _ _ _⟩) (fun k => cv_lt _ _ _) (hE.1 _ (by omega)) w1 w2) L 0 n0 by0 u (by omega) (by omega) hcb (fun j hj => by rw [← hw j hj]; exact (x_0 _).symm)
    refine ⟨ni L, by1, blk1, ev1, kept1, loc1, old1, pls1, syn1, ?_, Or.inl ⟨L, E, u', rfl, by omega, hE, f2, fun j hj => ?_, f4⟩⟩
    · rw [if_pos qr, e6]
      exact f1
    · rw [f3 j hj]
      congr 1
      by_cases q : E j = 0
      · rw [q]
        refine sa_out (fun i hi w2 => ?_)
        have := hPE i hi
        rw [w2] at this
        exact this q
      · obtain ⟨i, w1, w2⟩ := pl_all (rp C L) s (s - 1 - j) (by omega) ((hrp j hj).mpr ((g2 j hj).1.mpr q))
        have w3 : j = s - 1 - pl (rp C L) s i := by omega
        have hd2 : dj (fun i => s - 1 - pl (rp C L) s i) L := fun a ha b2 hb2 hab => hinj a ha b2 hb2 (by
          have q1 := (hpl a ha).1
          have q2 := (hpl b2 hb2).1
          dsimp only at hab
          omega)
        have := sa_at (P := fun i => s - 1 - pl (rp C L) s i) (f := fun i => if i < L then E (s - 1 - pl (rp C L) s i) else 0) hd2 (i := i) (by omega)
        rw [← w3, if_pos (by omega)] at this
        exact this
  · refine ⟨-(ni 1), by0, blk1, ev, kept1, loc1, old1, pls1, syn1, by rw [if_neg qr], Or.inr ⟨rfl, fun t E ht hE => ?_⟩⟩
    obtain ⟨g1, g2⟩ := ER_bm (by omega) hE (by omega) a1 a3 a4
    subst g1
    apply qr
    rw [r2, ← sc_rev]
    refine Eq.trans ?_ hE.2.1
    exact Nat.le_antisymm (sc_mono (fun j hj q => ((g2 j hj).1.mp ((hrp j hj).mp q)))) (sc_mono (fun j hj q => ((hrp j hj).mpr ((g2 j hj).1.mpr q))))
