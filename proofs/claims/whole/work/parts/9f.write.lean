def Dw (l v : Nat) (d : Nat → Nat) (len K : Nat) (k : Nat) : Nat := fB (sV (rk v) d len K).1 (sV (rk v) d len K).2 (nH l v) k
def WQ (l v : Nat) (D W : Nat → Nat) : Prop := (∀ c j : Nat, c < nB l v → j < ln (nS l v) (nM l v) c + nK l v → W (pof (nH l v) (nB l v) (nS l v) (nM l v) c j) = cwb (nH l v) (nK l v) (nS l v) (nM l v) D c j) ∧ ∀ k : Nat, k < acw v → W k < 256
theorem cl_begin {l v : Nat} {a0 a1 a2 a3 a4 a5 a6 a7 a8 a9 : Int32} (hl : l < 4) (hv : v < 41) (hv1 : 1 ≤ v) : fn_Codewords_begin (ni l) (ni v) a0 a1 a2 a3 a4 a5 a6 a7 a8 a9 = some (ni v, ni (acw v), ni (nH l v), ni (nB l v), ni (nK l v), ni (nS l v), ni (nM l v), 0, 0, 0) := by
  obtain ⟨z1, z2, z3, z4, z5, z6, -⟩ := vr_nu l hl v hv hv1
  obtain ⟨y1, y2, y3, y4⟩ := vr_ck l hl v hv hv1
  have hm : nH l v % nB l v < nB l v := Nat.mod_lt _ (by omega)
  unfold fn_Codewords_begin
  rw [(vr_cw v hv hv1).1, cb1_e, y3, cb1_e, y1, cb1_e]
  have m1 : sq_max 1 (ni (nB l v)) = ni (nB l v) := by rw [show (1 : Int32) = ni 1 from rfl, ni_max (by omega) (by omega), Nat.max_eq_right z1]
  have m2 : sq_min 30 (ni (nK l v)) = ni (nK l v) := by rw [show (30 : Int32) = ni 30 from rfl, ni_min (by omega) (by omega), Nat.min_eq_right z4]
  simp only [sq_bd, m1]
  rw [y2, cb1_e]
  rw [m2, ni_gz (by omega) (by omega), ni_gz (by omega) (by omega), ni_div (by omega) (by omega), ni_rem (by omega) (by omega), ni_sub (by omega)]
  rfl
/-- the segments that were made: their lengths and modes in one number each -/
def MS (ms : Nat → Int32) (r : Nat) (d : Nat → Nat) (len K : Nat) : Prop := ∀ i : Nat, i < K → ms i = ni (4 * (spn r d len (i + 1) - spn r d len i) + ch r d len (spn r d len i))
theorem cl_write {by0 chs lg pv made ms bytes gen rest : Nat → Int32} {d : Nat → Nat} {l v len K n0 : Nat} {a0 a1 a2 a3 a4 a5 a6 a7 a8 a9 f0 x0 md0 st0 : Int32} (hn0 : 4000 ≤ n0) (F : FD lg pv) (hl4 : l < 4) (hv : v < 41) (hv1 : 1 ≤ v) (hl : len ≤ 3000) (hd : cdt by0 len d) (hc : cho chs v d len 0) (hok : okv l v d len) (hK : spn (rk v) d len K = len) (hKl : ∀ k : Nat, k < K → spn (rk v) d len k < len) : ∃ c1 c2 c3 f' x' md' st' ms' by1 gen' rest' u, fn_Sq_writeCodewords n0 (ni l) (ni v) a0 a1 a2 a3 a4 a5 a6 a7 a8 a9 (ni len) (ni len) f0 x0 md0 st0 made ms bytes gen rest by0 chs lg pv = some (ni v, ni (acw v), ni (nH l v), ni (nB l v), ni (nK l v), ni (nS l v), ni (nM l v), c1, c2, c3, f', x', md', st', upd made 4 (ni K), ms', by1, gen', rest') ∧ MS ms' (rk v) d len K ∧ cb by1 (nH l v + nB l v * nK l v) u ∧ WQ l v (Dw l v d len K) (fun k => u (pio (nH l v) (nB l v) (nK l v) (nS l v) (nM l v) k)) := by
  obtain ⟨z1, z2, z3, z4, z5, z6, -⟩ := vr_nu l hl4 v hv hv1
  have hV := vn_ok hl4 hv hv1
  have hKb := K_le hl4 hv hv1 hok hKl
  obtain ⟨f', md', st', b', ms', e1, h1, s1⟩ := wc1 hn0 hl4 hv hv1 hl hd hc hok hK hKl K 0 n0 6 0 md0 bytes ms (by omega) (by omega) (by omega) rfl (fun k hk => absurd hk (by show ¬ k < 0 / 8; omega)) (fun i hi => absurd hi (by omega))
  have hn : (sV (rk v) d len K).2 ≤ 8 * nH l v := by
    rw [sV_nb (rk_lt v) K hKl, hK, nb_len]; exact hok.1
  obtain ⟨c1, c2, c3, b2, e2, h2⟩ := cl_fill (H := nH l v) hn0 (by omega) hn h1
  have hD : cb b2 (nH l v) (Dw l v d len K) := fun k hk => ⟨h2 k hk, fB_lt _ _ _ _⟩
  obtain ⟨by1, gen', rest', u, e3, hu, hw⟩ := cl_checks (gen := gen) (rest := rest) (n0 := n0) (by omega) F hV hD
  refine ⟨c1, c2, c3, f', ni len, md', st', ms', by1, gen', rest', u, ?_, s1, hu, fun c j hc hj => ?_, fun k hk => ?_⟩
  · have i1 : ni ((sV (rk v) d len 0).1 % 2 ^ ((sV (rk v) d len 0).2 % 8)) = 0 := by
      show ni (0 % 2 ^ (0 % 8)) = 0
      decide
    have i2 : ni ((sV (rk v) d len 0).2 % 8) = 0 := by
      show ni (0 % 8) = 0
      decide
    have i3 : ni ((sV (rk v) d len 0).2 / 8) = 0 := by
      show ni (0 / 8) = 0
      decide
    rw [i1, i2, i3] at e1
    have e1' : ∀ k26, fn_Sq_writeCodewords_L1 n0 (ni len) (ni len) by0 chs (ni v) k26 n0 0 0 0 0 0 0 0 md0 6 ms bytes = k26 (ni K) (ni ((sV (rk v) d len K).2 / 8)) (ni ((sV (rk v) d len K).1 % 2 ^ ((sV (rk v) d len K).2 % 8))) (ni ((sV (rk v) d len K).2 % 8)) f' (ni len) md' st' ms' b' := e1
    unfold fn_Sq_writeCodewords
    rw [cl_begin hl4 hv hv1]
    simp only [sq_cb10]
    unfold fn_Division_rewind
    simp only [sq_cb3]
    rw [sq_jne, e1', e2]
    simp only [sq_cb4]
    rw [e3]
    rfl
  · show u (pio _ _ _ _ _ (pof _ _ _ _ c j)) = _
    rw [pio_pof hV hc hj]
    exact hw c j hc hj
  · exact (hu _ (pio_lt hV (by omega))).2
theorem gr_copy {w w0 : Nat → Int64} {s : Nat} {a : Int32} {P : Nat → Nat → Bool} (h : GR w s P) : ∃ w', fn_Grid_copy (ni s) a w w0 = some (ni s, w') ∧ GR w' s P := by
  refine ⟨_, rfl, fun y hy x hx => ?_⟩
  have e : ∀ i : Nat, i < 531 → va_cpy w w0 (0 : Int32).toNatClampNeg (0 : Int32).toNatClampNeg (531 : Int32).toNatClampNeg i = w i := fun i hi => by
    have q1 : (0 : Int32).toNatClampNeg = 0 := by decide
    have q2 : (531 : Int32).toNatClampNeg = 531 := by decide
    rw [q1, q2]
    unfold va_cpy
    rw [if_pos (by omega), Nat.zero_add, Nat.sub_zero]
  rw [e _ (by omega)]
  exact h y hy x hx
/-- the class: frame, codewords placed -/
theorem cl_sym {by1 : Nat → Int32} {dw fw w0 : Nat → Int64} {u : Nat → Nat} {l v n0 : Nat} {a1 a2 a3 a4 : Int32} {x0 x1 y1 : Int32} (hn0 : 40000 ≤ n0) (hl4 : l < 4) (hv : v < 41) (hv1 : 1 ≤ v) (hu : cb by1 (nH l v + nB l v * nK l v) u) : ∃ dw' fw' w1 w2 n' x' y' P0, fn_Frame_lay n0 (ni v) a1 a2 a3 dw fw = some (ni (sd v), ni (sd v), ni (sd v), dw', fw') ∧ fn_Grid_copy (ni (sd v)) a4 dw' w0 = some (ni (sd v), w1) ∧ fn_Frame_placeCodewords n0 (ni (acw v)) (ni (nH l v)) (ni (nB l v)) (ni (nK l v)) (ni (nS l v)) (ni (nM l v)) (ni (sd v)) (ni (sd v)) x0 x1 y1 by1 w1 (ni (sd v)) fw' = some (n', x', y', w2) ∧ GR fw' (sd v) (FX v) ∧ GR w2 (sd v) P0 ∧ PL v (acw v) (fun k => u (pio (nH l v) (nB l v) (nK l v) (nS l v) (nM l v) k)) P0 := by
  obtain ⟨z1, z2, z3, z4, z5, z6, -⟩ := vr_nu l hl4 v hv hv1
  have hV := vn_ok hl4 hv hv1
  obtain ⟨dw', fw', e1, g1, g2⟩ := cl_frame (dw := dw) (fw := fw) (a1 := a1) (a2 := a2) (a3 := a3) (n0 := n0) (by omega) hv hv1
  have g3 : GR fw' (sd v) (FX v) := GR_cg g2 (fun a b ha hb => by
    show decide (qC v a b ≠ 0) = decide (qM v a b ≠ 0)
    rw [decide_eq_decide]; exact (qCM hv hv1 ha hb).1)
  obtain ⟨w1, e2, g4⟩ := gr_copy (w0 := w0) (a := a4) g1
  obtain ⟨n', x', y', w2, P0, e3, g5, hP⟩ := pc1 (n0 := n0) hn0 (sd_h (v := v)) (sd_ge hv1) (sd_le hv) g3 hV hu (nH l v + nB l v * nK l v) 0 n0 0 x1 y1 w1 _ (by omega) (by omega) (by omega) (.inl rfl) g4 ⟨fun _ _ _ _ _ => rfl, fun k _ _ => by rw [if_neg (by omega)]⟩
  refine ⟨dw', fw', w1, w2, n', x', y', P0, e1, e2, ?_, g3, g5, fun a b ha hb hF q => ?_, fun j hj hE => ?_⟩
  · rw [z6] at e3; exact e3
  · rw [(hP a b ha hb).1 (.inl hF)]
    show decide (qC v a b = 2) = decide (qM v a b = 2)
    rw [(qCM hv hv1 ha hb).2.1 q]
  · obtain ⟨i1, i2, -, -⟩ := z_in (sd_h (v := v)) hj
    have := (hP _ _ i1 i2).2 j hj hE rfl rfl
    rw [this, z6]
    by_cases q : sc (zE (sd v) (FX v)) j < 8 * acw v
    · rw [if_pos q, decide_eq_true q, Bool.true_and]
    · rw [if_neg q, decide_eq_false q, Bool.false_and]
      have hz : FX v (zx (sd v) j) (zy (sd v) j) = false := by
        unfold zE at hE
        cases h : FX v (zx (sd v) j) (zy (sd v) j)
        · rfl
        · rw [h] at hE; exact absurd hE (by decide)
      have : ¬ qC v (zx (sd v) j) (zy (sd v) j) ≠ 0 := fun c => by
        have := (qCM hv hv1 i1 i2).1.mp c
        unfold FX at hz
        rw [decide_eq_true this] at hz
        exact absurd hz (by decide)
      show decide (qC v _ _ = 2) = false
      exact decide_eq_false (by omega)
