/-! own rows: the rest filled up -/
theorem sq_jne {κ β : Type} (k : κ) (b : κ → β) : sq_jn k b = b k := rfl
def fn1 (n H : Nat) : Nat := n + min 4 (8 * H - n)
def fn2 (n H : Nat) : Nat := fn1 n H + (8 - fn1 n H % 8) % 8
def fV2 (V n H : Nat) : Nat := V * 2 ^ min 4 (8 * H - n) * 2 ^ ((8 - fn1 n H % 8) % 8)
def fB (V n H k : Nat) : Nat := if k < fn2 n H / 8 then byt (fV2 V n H) (fn2 n H) k else if (k - fn2 n H / 8) % 2 = 0 then 236 else 17
theorem fn2_ok {n H : Nat} (h : n ≤ 8 * H) : fn2 n H % 8 = 0 ∧ fn2 n H ≤ 8 * H ∧ n ≤ fn2 n H := by
  unfold fn2 fn1
  omega
theorem fB_lt (V n H k : Nat) : fB V n H k < 256 := by
  unfold fB
  split
  · exact byt_lt _ _ _
  · split <;> omega
theorem an_7 (x : Nat) : x &&& 7 = x % 8 := an_p x 3
theorem fu1 {H V n : Nat} {y10 y11 : Int32} (hH : H ≤ 3706) : ∀ (e f mm : Nat) (b : Nat → Int32), f + e = H → e < mm → fn2 n H / 8 ≤ f → (∀ k : Nat, k < f → b k &&& 255 = ni (fB V n H k)) → ∃ b', fn_Codewords_fillUp_L1 (ni H) y10 y11 mm (ni (if (f - fn2 n H / 8) % 2 = 0 then 236 else 17)) (ni f) b = some (ni H, y10, y11, b') ∧ ∀ k : Nat, k < H → b' k &&& 255 = ni (fB V n H k)
  | 0, f, mm + 1, b, hf, _, h1, h2 => by
    have hfH : f = H := by omega
    subst hfH
    refine ⟨b, ?_, h2⟩
    rw [fn_Codewords_fillUp_L1_s]
    simp (disch := omega) only [ni_le]
    rw [if_pos (by omega)]
  | e + 1, f, mm + 1, b, hf, hmm, h1, h2 => by
    obtain ⟨s1, s2⟩ := cw_setm (b := b) (p := f) (x := if (f - fn2 n H / 8) % 2 = 0 then 236 else 17) (by omega)
    have hx : (if (f - fn2 n H / 8) % 2 = 0 then 236 else 17) % 256 = fB V n H f := by
      unfold fB
      rw [if_neg (show ¬ f < fn2 n H / 8 by omega)]
      split <;> rfl
    rw [hx] at s2
    obtain ⟨b', g1, g2⟩ := fu1 (V := V) (n := n) (y10 := y10) (y11 := y11) hH e (f + 1) mm (upd b f (vp_nar .byte (sq_i2b (ni (if (f - fn2 n H / 8) % 2 = 0 then 236 else 17))))) (by omega) (by omega) (by omega) (fun k hk => by
      rw [upd_a]
      by_cases q : k = f
      · rw [if_pos q, q]; exact s2
      · rw [if_neg q]; exact h2 k (by omega))
    refine ⟨b', ?_, g2⟩
    have hx2 : (if (f - fn2 n H / 8) % 2 = 0 then 236 else 17) ^^^ 253 = if (f + 1 - fn2 n H / 8) % 2 = 0 then 236 else 17 := by
      by_cases q : (f - fn2 n H / 8) % 2 = 0
      · rw [if_pos q, if_neg (by omega)]; rfl
      · rw [if_neg q, if_pos (by omega)]; rfl
    rw [fn_Codewords_fillUp_L1_s, ← g1, ← hx2]
    simp (disch := omega) only [ni_lit, ni_le, s1, sq_bd, sq_jn, sq_cb0, sq_cb1, sq_cb2, sq_cb3, sq_cb4, sq_cb5, ni_xor, ni_add]
    rw [if_neg (by omega)]
theorem cl_fill {H V n n0 : Nat} {b : Nat → Int32} (hn0 : 4000 ≤ n0) (hH : H ≤ 3706) (hn : n ≤ 8 * H) (hb : CB b V n) : ∃ f w wb b', fn_Codewords_fillUp n0 (ni H) (ni (n / 8)) (ni (V % 2 ^ (n % 8))) (ni (n % 8)) b = some (f, w, wb, b') ∧ ∀ k : Nat, k < H → b' k &&& 255 = ni (fB V n H k) := by
  obtain ⟨k1, k2, k3⟩ := fn2_ok hn
  have hp : 0 < 2 ^ min 4 (8 * H - n) := Nat.two_pow_pos _
  have hp2 : 0 < 2 ^ ((8 - fn1 n H % 8) % 8) := Nat.two_pow_pos _
  have hf1 : n + min 4 (8 * H - n) = fn1 n H := rfl
  obtain ⟨b1, e1, h1⟩ := cl_append (n0 := n0) (v := 0) (w := min 4 (8 * H - n)) (by omega) hp (by omega) (by omega) hb
  rw [hf1, Nat.add_zero] at e1 h1
  have hf2 : fn1 n H + (8 - fn1 n H % 8) % 8 = fn2 n H := rfl
  obtain ⟨b2, e2, h2⟩ := cl_append (n0 := n0) (v := 0) (w := (8 - fn1 n H % 8) % 8) (by omega) hp2 (by omega) (by omega) h1
  rw [hf2, Nat.add_zero, show V * 2 ^ min 4 (8 * H - n) * 2 ^ ((8 - fn1 n H % 8) % 8) = fV2 V n H from rfl] at e2 h2
  obtain ⟨b3, e3, h3⟩ := fu1 (V := V) (n := n) (y10 := ni (fV2 V n H % 2 ^ (fn2 n H % 8))) (y11 := ni (fn2 n H % 8)) hH (H - fn2 n H / 8) (fn2 n H / 8) n0 b2 (by omega) (by omega) (by omega) (fun k hk => by
    unfold fB
    rw [if_pos hk]; exact h2 k hk)
  refine ⟨ni H, ni (fV2 V n H % 2 ^ (fn2 n H % 8)), ni (fn2 n H % 8), b3, ?_, h3⟩
  rw [Nat.sub_self, if_pos (by omega)] at e3
  unfold fn_Codewords_fillUp
  simp (disch := omega) only [ni_lit, ni_sub, ni_mul, ni_min, ni_max, sq_bd, sq_jn, sq_cb0, sq_cb1, sq_cb2, sq_cb3, sq_cb4, sq_cb5, show 8 * (H - n / 8) - n % 8 = 8 * H - n by omega, show max 0 (min 4 (8 * H - n)) = min 4 (8 * H - n) by omega, e1, ni_and, an_7, e2, e3]
/-! the model's -/
theorem byt_n8 {V n v : Nat} (h8 : n % 8 = 0) (hv : v < 256) : byt (V * 2 ^ 8 + v) (n + 8) (n / 8) = v := by
  rw [byt_low (by omega), show n + 8 - 8 * (n / 8 + 1) = 0 by omega, Nat.pow_zero, Nat.div_one, show (2 : Nat) ^ 8 = 256 from rfl, Nat.mul_comm, Nat.mul_add_mod, Nat.mod_eq_of_lt hv]
theorem la1 {H V n n0 : Nat} {b3 : Int32} {b6 b7 : Nat → Int32} (hn0 : 300 ≤ n0) (hH : H ≤ 3706) : ∀ (e f mm V' : Nat) (b : Nat → Int32), f + e = H → e < mm → fn2 n H / 8 ≤ f → MB b V' (8 * f) → (∀ k : Nat, k < f → byt V' (8 * f) k = fB V n H k) → ∃ b', fn_Md_layAll_L1 n0 b3 b6 b7 (ni (8 * H)) mm (ni (if (f - fn2 n H / 8) % 2 = 0 then 1 else 0)) (ni (8 * f)) b = some (b3, ni (8 * H), b', b6, b7) ∧ ∀ k : Nat, k < H → b' k = ni (fB V n H k)
  | 0, f, mm + 1, V', b, hf, _, h1, h2, h3 => by
    have hfH : f = H := by omega
    subst hfH
    refine ⟨b, ?_, fun k hk => by rw [h2 k (by omega), h3 k hk]⟩
    rw [fn_Md_layAll_L1_s]
    simp (disch := omega) only [ni_le]
    rw [if_pos (by omega)]
  | e + 1, f, mm + 1, V', b, hf, hmm, h1, h2, h3 => by
    have hx : fB V n H f = if (f - fn2 n H / 8) % 2 = 0 then 236 else 17 := by
      unfold fB
      rw [if_neg (by omega)]
    have hfl := fB_lt V n H f
    obtain ⟨b2, e2, g2⟩ := md_lay (n0 := n0) (v := fB V n H f) (w := 8) hn0 hfl (by omega) (by omega) h2
    rw [show 8 * f + 8 = 8 * (f + 1) by omega] at e2 g2
    obtain ⟨b', r1, r2⟩ := la1 (V := V) (n := n) (b3 := b3) (b6 := b6) (b7 := b7) hn0 hH e (f + 1) mm _ b2 (by omega) (by omega) (by omega) g2 (fun k hk => by
      by_cases q : k = f
      · subst q
        have := byt_n8 (V := V') (n := 8 * k) (v := fB V n H k) (by omega) hfl
        rw [show 8 * k / 8 = k by omega, show 8 * k + 8 = 8 * (k + 1) by omega] at this
        exact this
      · have := byt_app (V := V') (n := 8 * f) (k := k) (v := fB V n H f) (w := 8) hfl (by omega)
        rw [show 8 * f + 8 = 8 * (f + 1) by omega] at this
        rw [this]; exact h3 k (by omega))
    refine ⟨b', ?_, r2⟩
    rw [fn_Md_layAll_L1_s, ← r1]
    by_cases q : (f - fn2 n H / 8) % 2 = 0
    · rw [if_pos q] at hx
      rw [hx] at e2
      rw [if_pos q, if_neg (show ¬ (f + 1 - fn2 n H / 8) % 2 = 0 by omega)]
      simp (disch := omega) only [ni_lit, ni_le, ni_eq, sq_bd, sq_jn, sq_cb0, sq_cb1, sq_cb2, sq_cb3, sq_cb4, sq_cb5, e2]
      rw [if_neg (by omega), if_neg (by omega), if_neg (by omega)]
    · rw [if_neg q] at hx
      rw [hx] at e2
      rw [if_neg q, if_pos (show (f + 1 - fn2 n H / 8) % 2 = 0 by omega)]
      simp (disch := omega) only [ni_lit, ni_le, ni_eq, sq_bd, sq_jn, sq_cb0, sq_cb1, sq_cb2, sq_cb3, sq_cb4, sq_cb5, e2, if_true]
      rw [if_neg (by omega)]
theorem la2 (k18 : Int32 → Option (Int32 × Int32 × (Nat → Int32) × (Nat → Int32) × (Nat → Int32))) : ∀ (e n mm : Nat), (8 - n % 8) % 8 = e → e < mm → n + e < 1000000 → fn_Md_layAll_L2 k18 mm (ni n) = k18 (ni (n + e))
  | 0, n, mm + 1, he, _, hn => by
    rw [fn_Md_layAll_L2_s]
    simp (disch := omega) only [ni_lit, ni_rem, ni_eq, sq_bd]
    rw [if_pos (by omega), Nat.add_zero]
  | e + 1, n, mm + 1, he, hmm, hn => by
    rw [fn_Md_layAll_L2_s]
    simp (disch := omega) only [ni_lit, ni_rem, ni_eq, sq_bd, ni_add]
    rw [if_neg (by omega), la2 k18 e (n + 1) mm (by omega) (by omega) (by omega), show n + 1 + e = n + (e + 1) by omega]
theorem la5 : ∀ (e x mm : Nat) (b : Nat → Int32), x + e = 3800 → e < mm → (∀ k : Nat, k < x → b k = ni 0) → ∃ b', (∀ k2, fn_Md_layAll_L5 k2 mm (ni x) b = k2 b') ∧ MB b' 0 0
  | 0, x, mm + 1, b, hx, _, h => by
    have hxx : x = 3800 := by omega
    subst hxx
    refine ⟨b, fun k2 => ?_, fun k hk => by rw [h k hk, byt_z (V := 0) (n := 0) (k := k) (Nat.zero_le _)]⟩
    rw [fn_Md_layAll_L5_s]
    simp (disch := omega) only [ni_lit, ni_le]
    rw [if_pos (by omega)]
  | e + 1, x, mm + 1, b, hx, hmm, h => by
    obtain ⟨b', g1, g2⟩ := la5 e (x + 1) mm (upd b x (ni 0)) (by omega) (by omega) (fun k hk => by
      rw [upd_a]
      by_cases q : k = x
      · rw [if_pos q]
      · rw [if_neg q]; exact h k (by omega))
    refine ⟨b', fun k2 => ?_, g2⟩
    rw [fn_Md_layAll_L5_s, ← g1 k2]
    simp (disch := omega) only [ni_lit, ni_add, ni_mul, ni_sub, ni_lt, ni_le, ni_ix, ni_eq, ni_div, ni_rem, ni_and, ni_or, ni_xor, ni_shl, ni_shr, ni_gi, ni_gz, ni_max, ni_min, ni_dc, ni_0a, ni_ml, ni_mle, Nat.reduceAnd, Nat.reduceAdd, Nat.reduceMul, Nat.reduceSub, Nat.reduceDiv, Nat.reduceMod, Nat.reduceXor, Nat.reduceShiftLeft, Nat.reduceShiftRight, sq_bd, sq_jn, sq_cb0, sq_cb1, sq_cb2, sq_cb3, sq_cb4, sq_cb5]
    rw [if_neg (by omega)]
theorem md_layAll {mb mc dt md b sl so : Nat → Int32} {d : Nat → Nat} {l v len K n0 : Nat} {a1 a2 : Int32} (T : MT mb mc) (hn0 : 4000 ≤ n0) (hl4 : l < 4) (hv : v < 41) (hv1 : 1 ≤ v) (hl : len ≤ 3000) (hd : ∀ i : Nat, i < len → dt i = ni (d i) ∧ d i < 256) (hmd : ∀ i : Nat, i < len → md i = ni (ch (rk v) d len i)) (hok : okv l v d len) (hK : spn (rk v) d len K = len) (hKl : ∀ k : Nat, k < K → spn (rk v) d len k < len) : ∃ f b' sl' so', fn_Md_layAll n0 (ni v) (ni l) (ni len) a1 a2 mb b mc dt md sl so = some (ni K, f, b', sl', so') ∧ (∀ k : Nat, k < nH l v → b' k = ni (fB (sV (rk v) d len K).1 (sV (rk v) d len K).2 (nH l v) k)) ∧ ∀ i : Nat, i < K → sl' i = ni (spn (rk v) d len (i + 1) - spn (rk v) d len i) ∧ so' i = ni (ch (rk v) d len (spn (rk v) d len i)) := by
  obtain ⟨z1, z2, z3, z4, z5, z6, -⟩ := vr_nu l hl4 v hv hv1
  have hKb := K_le hl4 hv hv1 hok hKl
  obtain ⟨b5, e5, h5⟩ := la5 3800 0 n0 b (by omega) (by omega) (fun k hk => absurd hk (by omega))
  obtain ⟨b3, sl', so', e3, h3, hs⟩ := la3 hn0 hl4 hv hv1 hl hd hmd hok hK hKl K 0 n0 b5 sl so (by omega) (by omega) h5 (fun i hi => absurd hi (by omega))
  have hn : (sV (rk v) d len K).2 ≤ 8 * nH l v := by
    rw [sV_nb (rk_lt v) K hKl, hK, nb_len]; exact hok.1
  generalize hV : (sV (rk v) d len K).1 = V at *
  generalize hN : (sV (rk v) d len K).2 = n at *
  obtain ⟨k1, k2, k3⟩ := fn2_ok hn
  have hp : 0 < 2 ^ min 4 (8 * nH l v - n) := Nat.two_pow_pos _
  obtain ⟨b1, e1, h1⟩ := md_lay (n0 := n0) (v := 0) (w := min 4 (8 * nH l v - n)) (by omega) hp (by omega) (by omega) h3
  rw [show n + min 4 (8 * nH l v - n) = fn1 n (nH l v) from rfl] at e1 h1
  rw [Nat.add_zero] at h1
  have hMB2 : MB b1 (fV2 V n (nH l v)) (8 * (fn2 n (nH l v) / 8)) := fun k hk => by
    rw [h1 k hk, show 8 * (fn2 n (nH l v) / 8) = fn2 n (nH l v) by omega]
    congr 1
    exact (byt_sh _ _ _ _).symm
  obtain ⟨b2, e2, h2⟩ := la1 (V := V) (n := n) (b3 := ni K) (b6 := sl') (b7 := so') (n0 := n0) (by omega) (show nH l v ≤ 3706 by omega) (nH l v - fn2 n (nH l v) / 8) (fn2 n (nH l v) / 8) n0 _ b1 (by omega) (by omega) (by omega) hMB2 (fun k hk => by
    unfold fB
    rw [if_pos hk, show 8 * (fn2 n (nH l v) / 8) = fn2 n (nH l v) by omega])
  rw [Nat.sub_self, if_pos (by omega), show 8 * (fn2 n (nH l v) / 8) = fn2 n (nH l v) by omega] at e2
  have el2 := fun k18 => la2 k18 ((8 - fn1 n (nH l v) % 8) % 8) (fn1 n (nH l v)) n0 rfl (by omega) (by show fn2 n (nH l v) < 1000000; omega)
  rw [show fn1 n (nH l v) + (8 - fn1 n (nH l v) % 8) % 8 = fn2 n (nH l v) from rfl] at el2
  refine ⟨ni (8 * nH l v), b2, sl', so', ?_, h2, hs⟩
  unfold fn_Md_layAll
  have e30 : ∀ k8, fn_Md_layAll_L3 (ni v) n0 (ni len) dt md k8 n0 0 0 0 b5 sl so = k8 (ni K) (ni n) b3 sl' so' := e3
  have hj : ∀ (K2 : Int32 → Option (Int32 × Int32 × (Nat → Int32) × (Nat → Int32) × (Nat → Int32))), sq_jn K2 (fun k13 => if (4 : Int32) ≤ ni (8 * nH l v) - ni n then k13 (4 : Int32) else k13 (ni (8 * nH l v) - ni n)) = K2 (ni (min 4 (8 * nH l v - n))) := fun K2 => by
    simp (disch := omega) only [ni_lit, sq_jn, ni_sub, ni_le]
    by_cases q : 4 ≤ 8 * nH l v - n
    · rw [if_pos q, Nat.min_eq_left q]
    · rw [if_neg q, Nat.min_eq_right (by omega)]
  have e50 : ∀ k2, fn_Md_layAll_L5 k2 n0 0 b = k2 b5 := e5
  have e8 : (8 : Int32) * ni (nH l v) = ni (8 * nH l v) := by rw [show (8 : Int32) = ni 8 from rfl, ni_mul]
  have e10 : fn_Md_lay n0 0 (ni (min 4 (8 * nH l v - n))) (ni n) b3 = some (ni (fn1 n (nH l v)), b1) := e1
  rw [sq_jne, e50, sq_jne, e30, md_holds T hl4 hv hv1]
  simp only [sq_cb1, sq_bd, e8, hj, e10, sq_cb2]
  rw [sq_jne, el2]
  exact e2
