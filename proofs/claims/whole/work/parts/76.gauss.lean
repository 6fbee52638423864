/-! own rows: the system of the model, solved by rows -/
def mA (b : Nat → Int32) (n : Nat) (A : Nat → Nat → Nat) : Prop := ∀ j : Nat, j < n → ∀ k : Nat, k ≤ n → b (17 * j + k) = ni (A j k) ∧ A j k < 256
theorem mA_cg {b : Nat → Int32} {n : Nat} {A A' : Nat → Nat → Nat} (h : mA b n A) (e : ∀ j : Nat, j < n → ∀ k : Nat, k ≤ n → A j k = A' j k) : mA b n A' := fun j hj k hk => by rw [← e j hj k hk]; exact h j hj k hk
theorem mA_u {b : Nat → Int32} {n : Nat} {A : Nat → Nat → Nat} (h : mA b n A) (hn : n ≤ 15) {r x v : Nat} (hx : x ≤ n) (hv : v < 256) : mA (upd b (17 * r + x) (ni v)) n (fun j k => if j = r ∧ k = x then v else A j k) := by
  intro j hj k hk
  rw [upd_a]
  dsimp only
  by_cases q : j = r ∧ k = x
  · rw [if_pos q, if_pos (by omega)]; exact ⟨rfl, hv⟩
  · rw [if_neg q, if_neg (by omega)]; exact h j hj k hk
def swp (A : Nat → Nat → Nat) (c r x : Nat) : Nat → Nat → Nat := fun j k => if k < x then (if j = r then A c k else if j = c then A r k else A j k) else A j k
theorem g6 {A : Nat → Nat → Nat} {n c r : Nat} (hn : n ≤ 15) (hc : c < n) (hr : r < n) : ∀ (d x m : Nat) (b : Nat → Int32), x + d = n + 1 → d < m → mA b n (swp A c r x) → ∃ b', (∀ k19 : (Nat → Int32) → Option (Int32 × (Nat → Int32) × (Nat → Int32)), fn_Md_solves_L6 (ni n) (ni c) (ni r) k19 m (ni x) b = k19 b') ∧ mA b' n (swp A c r (n + 1))
  | 0, x, m + 1, b, hx, _, h => by
    refine ⟨b, fun k19 => ?_, by rw [← show x = n + 1 by omega]; exact h⟩
    rw [fn_Md_solves_L6_s]
    simp (disch := omega) only [ni_lit, ni_add, ni_mul, ni_sub, ni_lt, ni_le, ni_ix, ni_eq, ni_div, ni_rem, ni_and, ni_or, ni_xor, ni_shl, ni_shr, ni_gi, ni_gz, ni_max, ni_min, ni_dc, ni_0a, ni_ml, ni_mle, Nat.reduceAnd, Nat.reduceAdd, Nat.reduceMul, Nat.reduceSub, Nat.reduceDiv, Nat.reduceMod, Nat.reduceXor, Nat.reduceShiftLeft, Nat.reduceShiftRight]
    rw [if_pos (by omega)]
  | d + 1, x, m + 1, b, hx, hm, h => by
    obtain ⟨e1, l1⟩ := h r hr x (by omega)
    obtain ⟨e2, l2⟩ := h c hc x (by omega)
    have i1 : swp A c r x r x = A r x := if_neg (by omega)
    have i2 : swp A c r x c x = A c x := if_neg (by omega)
    rw [i1] at e1 l1
    rw [i2] at e2 l2
    obtain ⟨b', hb, hA⟩ := g6 (A := A) hn hc hr d (x + 1) m (upd (upd b (17 * r + x) (ni (A c x))) (17 * c + x) (ni (A r x))) (by omega) (by omega) (mA_cg (mA_u (mA_u h hn (by omega) l2) hn (by omega) l1) (fun j hj k hk => by unfold swp; grind))
    refine ⟨b', fun k19 => ?_, hA⟩
    rw [fn_Md_solves_L6_s, ← hb k19]
    simp (disch := omega) only [ni_lit, ni_add, ni_mul, ni_sub, ni_lt, ni_le, ni_ix, ni_eq, ni_div, ni_rem, ni_and, ni_or, ni_xor, ni_shl, ni_shr, ni_gi, ni_gz, ni_max, ni_min, ni_dc, ni_0a, ni_ml, ni_mle, Nat.reduceAnd, Nat.reduceAdd, Nat.reduceMul, Nat.reduceSub, Nat.reduceDiv, Nat.reduceMod, Nat.reduceXor, Nat.reduceShiftLeft, Nat.reduceShiftRight, sq_bd, sq_jn, sq_cb0, sq_cb1, sq_cb2, sq_cb3, sq_cb4, sq_cb5, e1, e2]
    rw [if_neg (by omega)]
theorem g7 {A : Nat → Nat → Nat} {n c : Nat} {b : Nat → Int32} (hn : n ≤ 15) (hc : c < n) (h : mA b n A) : ∀ (d x m : Nat), x + d = n → d < m → ∃ r : Nat, (∀ k16 : Int32 → Option (Int32 × (Nat → Int32) × (Nat → Int32)), fn_Md_solves_L7 (ni n) (ni c) b k16 m (ni x) = k16 (ni r)) ∧ x ≤ r ∧ r ≤ n ∧ (r < n → A r c ≠ 0) ∧ ∀ j : Nat, x ≤ j → j < r → A j c = 0
  | 0, x, m + 1, hx, _ => by
    refine ⟨x, fun k16 => ?_, by omega, by omega, by omega, by omega⟩
    rw [fn_Md_solves_L7_s]
    simp (disch := omega) only [ni_lit, ni_add, ni_mul, ni_sub, ni_lt, ni_le, ni_ix, ni_eq, ni_div, ni_rem, ni_and, ni_or, ni_xor, ni_shl, ni_shr, ni_gi, ni_gz, ni_max, ni_min, ni_dc, ni_0a, ni_ml, ni_mle, Nat.reduceAnd, Nat.reduceAdd, Nat.reduceMul, Nat.reduceSub, Nat.reduceDiv, Nat.reduceMod, Nat.reduceXor, Nat.reduceShiftLeft, Nat.reduceShiftRight]
    rw [if_pos (by omega)]
  | d + 1, x, m + 1, hx, hm => by
    obtain ⟨e1, l1⟩ := h x (by omega) c (by omega)
    by_cases q : A x c = 0
    · obtain ⟨r, hr, h1, h2, h3, h4⟩ := g7 hn hc h d (x + 1) m (by omega) (by omega)
      refine ⟨r, fun k16 => ?_, by omega, h2, h3, fun j q1 q2 => ?_⟩
      · rw [fn_Md_solves_L7_s, ← hr k16]
        simp (disch := omega) only [ni_lit, ni_add, ni_mul, ni_sub, ni_lt, ni_le, ni_ix, ni_eq, ni_div, ni_rem, ni_and, ni_or, ni_xor, ni_shl, ni_shr, ni_gi, ni_gz, ni_max, ni_min, ni_dc, ni_0a, ni_ml, ni_mle, Nat.reduceAnd, Nat.reduceAdd, Nat.reduceMul, Nat.reduceSub, Nat.reduceDiv, Nat.reduceMod, Nat.reduceXor, Nat.reduceShiftLeft, Nat.reduceShiftRight, sq_bd, sq_jn, sq_cb0, sq_cb1, sq_cb2, sq_cb3, sq_cb4, sq_cb5, e1]
        rw [if_neg (by omega), if_pos q]
      · by_cases w : j = x
        · rw [w]; exact q
        · exact h4 j (by omega) q2
    · refine ⟨x, fun k16 => ?_, by omega, by omega, fun _ => q, by omega⟩
      rw [fn_Md_solves_L7_s]
      simp (disch := omega) only [ni_lit, ni_add, ni_mul, ni_sub, ni_lt, ni_le, ni_ix, ni_eq, ni_div, ni_rem, ni_and, ni_or, ni_xor, ni_shl, ni_shr, ni_gi, ni_gz, ni_max, ni_min, ni_dc, ni_0a, ni_ml, ni_mle, Nat.reduceAnd, Nat.reduceAdd, Nat.reduceMul, Nat.reduceSub, Nat.reduceDiv, Nat.reduceMod, Nat.reduceXor, Nat.reduceShiftLeft, Nat.reduceShiftRight, sq_bd, sq_jn, sq_cb0, sq_cb1, sq_cb2, sq_cb3, sq_cb4, sq_cb5, e1]
      rw [if_neg (by omega), if_neg q]
theorem g5 {A : Nat → Nat → Nat} {n c v n0 : Nat} (hn0 : 300 ≤ n0) (hn : n ≤ 15) (hc : c < n) (hv : v < 256) : ∀ (d x m : Nat) (b : Nat → Int32), x + d = n + 1 → d < m → mA b n (fun j k => if j = c ∧ k < x then gm (A j k) v else A j k) → ∃ b', (∀ k26 : (Nat → Int32) → Option (Int32 × (Nat → Int32) × (Nat → Int32)), fn_Md_solves_L5 (ni n) n0 (ni c) (ni v) k26 m (ni x) b = k26 b') ∧ mA b' n (fun j k => if j = c then gm (A j k) v else A j k)
  | 0, x, m + 1, b, hx, _, h => by
    refine ⟨b, fun k26 => ?_, mA_cg h (fun j hj k hk => ?_)⟩
    · rw [fn_Md_solves_L5_s]
      simp (disch := omega) only [ni_lit, ni_add, ni_mul, ni_sub, ni_lt, ni_le, ni_ix, ni_eq, ni_div, ni_rem, ni_and, ni_or, ni_xor, ni_shl, ni_shr, ni_gi, ni_gz, ni_max, ni_min, ni_dc, ni_0a, ni_ml, ni_mle, Nat.reduceAnd, Nat.reduceAdd, Nat.reduceMul, Nat.reduceSub, Nat.reduceDiv, Nat.reduceMod, Nat.reduceXor, Nat.reduceShiftLeft, Nat.reduceShiftRight]
      rw [if_pos (by omega)]
    · by_cases q : j = c
      · rw [if_pos q, if_pos ⟨q, by omega⟩]
      · rw [if_neg q, if_neg (fun w => q w.1)]
  | d + 1, x, m + 1, b, hx, hm, h => by
    obtain ⟨e1, l1⟩ := h c hc x (by omega)
    dsimp only at e1 l1
    rw [if_neg (by omega)] at e1 l1
    obtain ⟨b', hb, hA⟩ := g5 (A := A) hn0 hn hc hv d (x + 1) m (upd b (17 * c + x) (ni (gm (A c x) v))) (by omega) (by omega) (mA_cg (mA_u h hn (by omega) (gm_lt _ _)) (fun j hj k hk => by grind))
    refine ⟨b', fun k26 => ?_, hA⟩
    rw [fn_Md_solves_L5_s, ← hb k26]
    simp (disch := omega) only [ni_lit, ni_add, ni_mul, ni_sub, ni_lt, ni_le, ni_ix, ni_eq, ni_div, ni_rem, ni_and, ni_or, ni_xor, ni_shl, ni_shr, ni_gi, ni_gz, ni_max, ni_min, ni_dc, ni_0a, ni_ml, ni_mle, Nat.reduceAnd, Nat.reduceAdd, Nat.reduceMul, Nat.reduceSub, Nat.reduceDiv, Nat.reduceMod, Nat.reduceXor, Nat.reduceShiftLeft, Nat.reduceShiftRight, sq_bd, sq_jn, sq_cb0, sq_cb1, sq_cb2, sq_cb3, sq_cb4, sq_cb5, e1, md_times]
    rw [if_neg (by omega)]
theorem g4 {A : Nat → Nat → Nat} {n c j0 v n0 : Nat} (hn0 : 300 ≤ n0) (hn : n ≤ 15) (hc : c < n) (hj : j0 < n) (hjc : j0 ≠ c) (hv : v < 256) : ∀ (d x m : Nat) (b : Nat → Int32), x + d = n + 1 → d < m → mA b n (fun j k => if j = j0 ∧ k < x then A j k ^^^ gm v (A c k) else A j k) → ∃ b', (∀ k37 : (Nat → Int32) → Option (Int32 × (Nat → Int32) × (Nat → Int32)), fn_Md_solves_L4 (ni n) n0 (ni c) (ni j0) (ni v) k37 m (ni x) b = k37 b') ∧ mA b' n (fun j k => if j = j0 then A j k ^^^ gm v (A c k) else A j k)
  | 0, x, m + 1, b, hx, _, h => by
    refine ⟨b, fun k37 => ?_, mA_cg h (fun j hj k hk => ?_)⟩
    · rw [fn_Md_solves_L4_s]
      simp (disch := omega) only [ni_lit, ni_add, ni_mul, ni_sub, ni_lt, ni_le, ni_ix, ni_eq, ni_div, ni_rem, ni_and, ni_or, ni_xor, ni_shl, ni_shr, ni_gi, ni_gz, ni_max, ni_min, ni_dc, ni_0a, ni_ml, ni_mle, Nat.reduceAnd, Nat.reduceAdd, Nat.reduceMul, Nat.reduceSub, Nat.reduceDiv, Nat.reduceMod, Nat.reduceXor, Nat.reduceShiftLeft, Nat.reduceShiftRight]
      rw [if_pos (by omega)]
    · by_cases q : j = j0
      · rw [if_pos q, if_pos ⟨q, by omega⟩]
      · rw [if_neg q, if_neg (fun w => q w.1)]
  | d + 1, x, m + 1, b, hx, hm, h => by
    obtain ⟨e1, l1⟩ := h j0 hj x (by omega)
    dsimp only at e1 l1
    rw [if_neg (by omega)] at e1 l1
    obtain ⟨e2, l2⟩ := h c hc x (by omega)
    dsimp only at e2 l2
    rw [if_neg (by omega)] at e2 l2
    obtain ⟨b', hb, hA⟩ := g4 (A := A) hn0 hn hc hj hjc hv d (x + 1) m (upd b (17 * j0 + x) (ni (A j0 x ^^^ gm v (A c x)))) (by omega) (by omega) (mA_cg (mA_u h hn (by omega) (x_lt l1 (gm_lt _ _))) (fun j hj k hk => by grind))
    refine ⟨b', fun k37 => ?_, hA⟩
    rw [fn_Md_solves_L4_s, ← hb k37]
    simp (disch := omega) only [ni_lit, ni_add, ni_mul, ni_sub, ni_lt, ni_le, ni_ix, ni_eq, ni_div, ni_rem, ni_and, ni_or, ni_xor, ni_shl, ni_shr, ni_gi, ni_gz, ni_max, ni_min, ni_dc, ni_0a, ni_ml, ni_mle, Nat.reduceAnd, Nat.reduceAdd, Nat.reduceMul, Nat.reduceSub, Nat.reduceDiv, Nat.reduceMod, Nat.reduceXor, Nat.reduceShiftLeft, Nat.reduceShiftRight, sq_bd, sq_jn, sq_cb0, sq_cb1, sq_cb2, sq_cb3, sq_cb4, sq_cb5, e1, e2, md_times]
    rw [if_neg (by omega), if_neg (by omega)]
theorem g3 {A : Nat → Nat → Nat} {n c n0 : Nat} (hn0 : 300 ≤ n0) (hn : n ≤ 15) (hc : c < n) : ∀ (d x m : Nat) (b : Nat → Int32), x + d = n → d < m → mA b n (fun j k => if j ≠ c ∧ j < x then A j k ^^^ gm (A j c) (A c k) else A j k) → ∃ b', (∀ k28 : (Nat → Int32) → Option (Int32 × (Nat → Int32) × (Nat → Int32)), fn_Md_solves_L3 (ni n) n0 (ni c) k28 m (ni x) b = k28 b') ∧ mA b' n (fun j k => if j ≠ c then A j k ^^^ gm (A j c) (A c k) else A j k)
  | 0, x, m + 1, b, hx, _, h => by
    refine ⟨b, fun k28 => ?_, mA_cg h (fun j hj k hk => ?_)⟩
    · rw [fn_Md_solves_L3_s]
      simp (disch := omega) only [ni_lit, ni_add, ni_mul, ni_sub, ni_lt, ni_le, ni_ix, ni_eq, ni_div, ni_rem, ni_and, ni_or, ni_xor, ni_shl, ni_shr, ni_gi, ni_gz, ni_max, ni_min, ni_dc, ni_0a, ni_ml, ni_mle, Nat.reduceAnd, Nat.reduceAdd, Nat.reduceMul, Nat.reduceSub, Nat.reduceDiv, Nat.reduceMod, Nat.reduceXor, Nat.reduceShiftLeft, Nat.reduceShiftRight]
      rw [if_pos (by omega)]
    · by_cases q : j ≠ c
      · rw [if_pos q, if_pos ⟨q, by omega⟩]
      · rw [if_neg q, if_neg (fun w => q w.1)]
  | d + 1, x, m + 1, b, hx, hm, h => by
    obtain ⟨e1, l1⟩ := h x (by omega) c (by omega)
    dsimp only at e1 l1
    rw [if_neg (by omega)] at e1 l1
    by_cases qc : x = c
    · obtain ⟨b', hb, hA⟩ := g3 (A := A) hn0 hn hc d (x + 1) m b (by omega) (by omega) (mA_cg h (fun j hj k hk => by grind))
      refine ⟨b', fun k28 => ?_, hA⟩
      rw [fn_Md_solves_L3_s, ← hb k28]
      obtain ⟨m4, rfl⟩ : ∃ m4, n0 = m4 + 1 := ⟨n0 - 1, by omega⟩
      simp (disch := omega) only [ni_lit, ni_add, ni_mul, ni_sub, ni_lt, ni_le, ni_ix, ni_eq, ni_div, ni_rem, ni_and, ni_or, ni_xor, ni_shl, ni_shr, ni_gi, ni_gz, ni_max, ni_min, ni_dc, ni_0a, ni_ml, ni_mle, Nat.reduceAnd, Nat.reduceAdd, Nat.reduceMul, Nat.reduceSub, Nat.reduceDiv, Nat.reduceMod, Nat.reduceXor, Nat.reduceShiftLeft, Nat.reduceShiftRight, sq_bd, sq_jn, sq_cb0, sq_cb1, sq_cb2, sq_cb3, sq_cb4, sq_cb5, e1]
      rw [if_neg (by omega), fn_Md_solves_L4_s]
      simp (disch := omega) only [ni_lit, ni_add, ni_mul, ni_sub, ni_lt, ni_le, ni_ix, ni_eq, ni_div, ni_rem, ni_and, ni_or, ni_xor, ni_shl, ni_shr, ni_gi, ni_gz, ni_max, ni_min, ni_dc, ni_0a, ni_ml, ni_mle, Nat.reduceAnd, Nat.reduceAdd, Nat.reduceMul, Nat.reduceSub, Nat.reduceDiv, Nat.reduceMod, Nat.reduceXor, Nat.reduceShiftLeft, Nat.reduceShiftRight, sq_bd, sq_jn, sq_cb0, sq_cb1, sq_cb2, sq_cb3, sq_cb4, sq_cb5]
      rw [if_neg (by omega), if_pos qc]
    · obtain ⟨b2, hb2, hA2⟩ := g4 hn0 hn hc (j0 := x) (by omega) qc l1 (n + 1) 0 n0 b (by omega) (by omega) (mA_cg (A' := fun j k => if j = x ∧ k < 0 then (if j ≠ c ∧ j < x then A j k ^^^ gm (A j c) (A c k) else A j k) ^^^ gm (A x c) (if c ≠ c ∧ c < x then A c k ^^^ gm (A c c) (A c k) else A c k) else (if j ≠ c ∧ j < x then A j k ^^^ gm (A j c) (A c k) else A j k)) h (fun j hj k hk => by grind))
      obtain ⟨b', hb, hA⟩ := g3 (A := A) hn0 hn hc d (x + 1) m b2 (by omega) (by omega) (mA_cg hA2 (fun j hj k hk => by grind))
      refine ⟨b', fun k28 => ?_, hA⟩
      rw [fn_Md_solves_L3_s, ← hb k28]
      simp (disch := omega) only [ni_lit, ni_add, ni_mul, ni_sub, ni_lt, ni_le, ni_ix, ni_eq, ni_div, ni_rem, ni_and, ni_or, ni_xor, ni_shl, ni_shr, ni_gi, ni_gz, ni_max, ni_min, ni_dc, ni_0a, ni_ml, ni_mle, Nat.reduceAnd, Nat.reduceAdd, Nat.reduceMul, Nat.reduceSub, Nat.reduceDiv, Nat.reduceMod, Nat.reduceXor, Nat.reduceShiftLeft, Nat.reduceShiftRight, sq_bd, sq_jn, sq_cb0, sq_cb1, sq_cb2, sq_cb3, sq_cb4, sq_cb5, e1]
      rw [if_neg (by omega), hb2]
theorem gi_u {a x : Nat} (ha : a < 256) (h0 : a ≠ 0) (hx : x < 256) (h : gm x a = 1) : x = gi a := by
  refine gm_can ha h0 hx (gi_lt a) ?_
  rw [gm_gi ha h0, gm_comm, h]
theorem gi_ne {a : Nat} : gi a ≠ 0 := pw_ne _
theorem iv_l {a n0 : Nat} (hn0 : 300 ≤ n0) (ha : a < 256) (h0 : a ≠ 0) : ∀ (d x m : Nat), x + d = gi a → d < m → fn_Md_inverse_L1 (ni a) n0 m (ni x) = some (ni (gi a))
  | 0, x, m + 1, hx, _ => by
    have := gi_lt a
    rw [fn_Md_inverse_L1_s]
    simp (disch := omega) only [ni_lit, ni_add, ni_mul, ni_sub, ni_lt, ni_le, ni_ix, ni_eq, ni_div, ni_rem, ni_and, ni_or, ni_xor, ni_shl, ni_shr, ni_gi, ni_gz, ni_max, ni_min, ni_dc, ni_0a, ni_ml, ni_mle, Nat.reduceAnd, Nat.reduceAdd, Nat.reduceMul, Nat.reduceSub, Nat.reduceDiv, Nat.reduceMod, Nat.reduceXor, Nat.reduceShiftLeft, Nat.reduceShiftRight, sq_bd, sq_jn, sq_cb0, sq_cb1, sq_cb2, sq_cb3, sq_cb4, sq_cb5, md_times]
    rw [show x = gi a by omega, gm_comm, gm_gi ha h0, if_pos rfl]
  | d + 1, x, m + 1, hx, hm => by
    have := gi_lt a
    have hl := gm_lt x a
    rw [fn_Md_inverse_L1_s, ← iv_l hn0 ha h0 d (x + 1) m (by omega) (by omega)]
    simp (disch := omega) only [ni_lit, ni_add, ni_mul, ni_sub, ni_lt, ni_le, ni_ix, ni_eq, ni_div, ni_rem, ni_and, ni_or, ni_xor, ni_shl, ni_shr, ni_gi, ni_gz, ni_max, ni_min, ni_dc, ni_0a, ni_ml, ni_mle, Nat.reduceAnd, Nat.reduceAdd, Nat.reduceMul, Nat.reduceSub, Nat.reduceDiv, Nat.reduceMod, Nat.reduceXor, Nat.reduceShiftLeft, Nat.reduceShiftRight, sq_bd, sq_jn, sq_cb0, sq_cb1, sq_cb2, sq_cb3, sq_cb4, sq_cb5, md_times]
    rw [if_neg (fun w => by have := gi_u ha h0 (by omega) w; omega)]
theorem md_inv {a n0 : Nat} (hn0 : 300 ≤ n0) (ha : a < 256) (h0 : a ≠ 0) : fn_Md_inverse n0 (ni a) = some (ni (gi a)) := by
  have := gi_lt a
  have := gi_ne (a := a)
  exact iv_l hn0 ha h0 (gi a - 1) 1 n0 (by omega) (by omega)
def kr (A : Nat → Nat → Nat) (n : Nat) (z : Nat → Nat) : Prop := ∀ j : Nat, j < n → xs (n + 1) (fun k => gm (A j k) (z k)) = 0
def idc (A : Nat → Nat → Nat) (n c : Nat) : Prop := ∀ j : Nat, j < n → ∀ k : Nat, k < c → A j k = if j = k then 1 else 0
theorem kr_s {A : Nat → Nat → Nat} {n c r : Nat} (hc : c < n) (hr : r < n) {z : Nat → Nat} (h : kr (swp A c r (n + 1)) n z) : kr A n z := by
  have e : ∀ j k : Nat, k < n + 1 → swp A c r (n + 1) j k = if j = r then A c k else if j = c then A r k else A j k := fun j k hk => if_pos hk
  intro j hj
  by_cases q1 : j = r
  · rw [← h c hc]
    refine xs_cg (fun k hk => ?_)
    rw [e c k hk, q1]
    by_cases q2 : c = r
    · rw [if_pos q2, q2]
    · rw [if_neg q2, if_pos rfl]
  · by_cases q2 : j = c
    · rw [← h r hr]
      refine xs_cg (fun k hk => ?_)
      rw [e r k hk, if_pos rfl, q2]
    · rw [← h j hj]
      refine xs_cg (fun k hk => ?_)
      rw [e j k hk, if_neg q1, if_neg q2]
theorem kr_m {A : Nat → Nat → Nat} {n c v : Nat} (hA : ∀ j : Nat, j < n → ∀ k : Nat, k ≤ n → A j k < 256) (hv : v < 256) (h0 : v ≠ 0) {z : Nat → Nat} (h : kr (fun j k => if j = c then gm (A j k) v else A j k) n z) : kr A n z := by
  intro j hj
  have := h j hj
  by_cases q : j = c
  · simp only [if_pos q] at this
    rw [xs_cg (g := fun k => gm v (gm (A j k) (z k))) (fun k hk => by rw [gm_comm _ v, gm_assoc]), ← xs_m] at this
    exact (gm_zero hv (xs_lt (fun _ _ => gm_lt _ _)) this).resolve_left h0
  · simp only [if_neg q] at this
    exact this
theorem kr_a {A : Nat → Nat → Nat} {n c : Nat} (hc : c < n) {z : Nat → Nat} (h : kr (fun j k => if j ≠ c then A j k ^^^ gm (A j c) (A c k) else A j k) n z) : kr A n z := by
  have h1 := h c hc
  simp only [if_neg (show ¬ (c ≠ c) from fun w => w rfl)] at h1
  intro j hj
  by_cases q : j = c
  · rw [q]; exact h1
  · have := h j hj
    simp only [if_pos q] at this
    rw [xs_cg (g := fun k => gm (A j k) (z k) ^^^ gm (A j c) (gm (A c k) (z k))) (fun k hk => by rw [gm_xl, gm_assoc]), xs_x, ← xs_m, h1, gm_0r, x_0] at this
    exact this
theorem idc_step {A A5 : Nat → Nat → Nat} {n c r : Nat} (hcr : c ≤ r) (hrn : r < n) (h0 : A r c ≠ 0) (hl : A r c < 256) (hi : idc A n c) (h5 : ∀ j k : Nat, A5 j k = if j = c then gm (swp A c r (n + 1) j k) (gi (A r c)) else swp A c r (n + 1) j k) (hl5 : ∀ j : Nat, j < n → ∀ k : Nat, k ≤ n → A5 j k < 256) : idc (fun j k => if j ≠ c then A5 j k ^^^ gm (A5 j c) (A5 c k) else A5 j k) n (c + 1) := by
  have hs : ∀ j k : Nat, k < n + 1 → swp A c r (n + 1) j k = if j = r then A c k else if j = c then A r k else A j k := fun j k hk => if_pos hk
  have hcc : A5 c c = 1 := by
    rw [h5, if_pos rfl, hs c c (by omega)]
    by_cases q : c = r
    · subst q; rw [if_pos rfl, gm_gi hl h0]
    · rw [if_neg q, if_pos rfl, gm_gi hl h0]
  have hck : ∀ k : Nat, k < c → A5 c k = 0 := fun k hk => by
    rw [h5, if_pos rfl, hs c k (by omega)]
    by_cases q : c = r
    · rw [if_pos q, hi c (by omega) k hk, if_neg (by omega), gm_0l]
    · rw [if_neg q, if_pos rfl, hi r hrn k hk, if_neg (by omega), gm_0l]
  intro j hj k hk
  dsimp only
  by_cases q : j = c
  · subst q
    rw [if_neg (fun w => w rfl)]
    by_cases q2 : k = j
    · subst q2; rw [hcc, if_pos rfl]
    · rw [hck k (by omega), if_neg (by omega)]
  · rw [if_pos q]
    by_cases q2 : k = c
    · subst q2
      rw [hcc, gm_1 (hl5 j hj k (by omega)), x_s, if_neg q]
    · rw [hck k (by omega), gm_0r, x_0, h5, if_neg q, hs j k (by omega)]
      by_cases q3 : j = r
      · rw [if_pos q3, hi c (by omega) k (by omega), if_neg (by omega), if_neg (by omega)]
      · rw [if_neg q3, if_neg q, hi j hj k (by omega)]
theorem g2 {n n0 : Nat} (hn0 : 300 ≤ n0) (hn : n ≤ 15) (vt : Nat → Int32) : ∀ (d c m : Nat) (A : Nat → Nat → Nat) (b : Nat → Int32), c + d = n → d < m → mA b n A → idc A n c → (∃ b' A', (∀ k2, fn_Md_solves_L2 (ni n) n0 vt k2 m (ni c) b = k2 b') ∧ mA b' n A' ∧ idc A' n n ∧ ∀ z : Nat → Nat, kr A' n z → kr A n z) ∨ ∃ b', (∀ k2, fn_Md_solves_L2 (ni n) n0 vt k2 m (ni c) b = some (0, vt, b')) ∧ ∃ z : Nat → Nat, (∀ k : Nat, z k < 256) ∧ z n = 0 ∧ (∃ k : Nat, k < n ∧ z k ≠ 0) ∧ kr A n z
  | 0, c, m + 1, A, b, hx, _, h, hi => by
    have hcn : c = n := by omega
    subst hcn
    refine Or.inl ⟨b, A, fun k2 => ?_, h, hi, fun z q => q⟩
    rw [fn_Md_solves_L2_s]
    simp (disch := omega) only [ni_lit, ni_add, ni_mul, ni_sub, ni_lt, ni_le, ni_ix, ni_eq, ni_div, ni_rem, ni_and, ni_or, ni_xor, ni_shl, ni_shr, ni_gi, ni_gz, ni_max, ni_min, ni_dc, ni_0a, ni_ml, ni_mle, Nat.reduceAnd, Nat.reduceAdd, Nat.reduceMul, Nat.reduceSub, Nat.reduceDiv, Nat.reduceMod, Nat.reduceXor, Nat.reduceShiftLeft, Nat.reduceShiftRight]
    rw [if_pos (by omega)]
  | d + 1, c, m + 1, A, b, hx, hm, h, hi => by
    have hc : c < n := by omega
    have hAl : ∀ j : Nat, j < n → ∀ k : Nat, k ≤ n → A j k < 256 := fun j hj k hk => (h j hj k hk).2
    obtain ⟨r, e7, p1, p2, p3, p4⟩ := g7 hn hc h (d + 1) c n0 (by omega) (by omega)
    by_cases hr : r = n
    · subst hr
      refine Or.inr ⟨b, fun k2 => ?_, fun k => if k < c then A k c else if k = c then 1 else 0, fun k => ?_, ?_, ⟨c, hc, ?_⟩, fun j hj => ?_⟩
      · rw [fn_Md_solves_L2_s]
        simp (disch := omega) only [ni_lit, ni_add, ni_mul, ni_sub, ni_lt, ni_le, ni_ix, ni_eq, ni_div, ni_rem, ni_and, ni_or, ni_xor, ni_shl, ni_shr, ni_gi, ni_gz, ni_max, ni_min, ni_dc, ni_0a, ni_ml, ni_mle, Nat.reduceAnd, Nat.reduceAdd, Nat.reduceMul, Nat.reduceSub, Nat.reduceDiv, Nat.reduceMod, Nat.reduceXor, Nat.reduceShiftLeft, Nat.reduceShiftRight, sq_bd, sq_jn, sq_cb0, sq_cb1, sq_cb2, sq_cb3, sq_cb4, sq_cb5]
        rw [if_neg (by omega), e7, if_pos rfl]
      · dsimp only
        by_cases q : k < c
        · rw [if_pos q]; exact hAl k (by omega) c (by omega)
        · rw [if_neg q]; split <;> omega
      · dsimp only
        rw [if_neg (by omega), if_neg (by omega)]
      · dsimp only
        rw [if_neg (by omega), if_pos rfl]; omega
      · dsimp only
        rw [xs_up (n := c + 1) (by omega) (fun k q1 q2 => by rw [if_neg (by omega), if_neg (by omega), gm_0r]), xs_s, if_neg (by omega), if_pos rfl, gm_1 (hAl j hj c (by omega))]
        rw [xs_cg (g := fun k => gm (if j = k then 1 else 0) (A k c)) (fun k hk => by rw [if_pos hk, hi j hj k hk])]
        by_cases q : j < c
        · rw [xs_one q (fun i hi2 hne => by rw [if_neg (fun w => hne w.symm), gm_0l]), if_pos rfl, gm_i1 (hAl j hj c (by omega)), x_s]
        · rw [xs_0 (fun k hk => by rw [if_neg (by omega), gm_0l]), p4 j (by omega) hj, x_0]
    · have hrn : r < n := by omega
      obtain ⟨b6, e6, m6⟩ := g6 hn hc hrn (n + 1) 0 n0 b (by omega) (by omega) (mA_cg (A' := swp A c r 0) h (fun j hj k hk => (if_neg (by omega)).symm))
      have hp : swp A c r (n + 1) c c = A r c := by
        unfold swp
        rw [if_pos (by omega)]
        by_cases q : c = r
        · rw [if_pos q, ← q]
        · rw [if_neg q, if_pos rfl]
      obtain ⟨e8, l8⟩ := m6 c hc c (by omega)
      rw [hp] at e8 l8
      obtain ⟨b5, e5, m5⟩ := g5 (v := gi (A r c)) hn0 hn hc (gi_lt _) (n + 1) 0 n0 b6 (by omega) (by omega) (mA_cg m6 (fun j hj k hk => (if_neg (by omega)).symm))
      obtain ⟨b3, e3, m3⟩ := g3 hn0 hn hc n 0 n0 b5 (by omega) (by omega) (mA_cg m5 (fun j hj k hk => (if_neg (by omega)).symm))
      have hk : ∀ z : Nat → Nat, kr _ n z → kr A n z := fun z hz => kr_s hc hrn (kr_m (c := c) (fun j hj k hk => (m6 j hj k hk).2) (gi_lt (A r c)) gi_ne (kr_a hc hz))
      have hid := idc_step (A := A) p1 hrn (p3 hrn) (hAl r hrn c (by omega)) hi (fun j k => rfl) (fun j hj k hk => (m5 j hj k hk).2)
      have hstep : ∀ k2, fn_Md_solves_L2 (ni n) n0 vt k2 (m + 1) (ni c) b = fn_Md_solves_L2 (ni n) n0 vt k2 m (ni (c + 1)) b3 := fun k2 => by
        rw [fn_Md_solves_L2_s]
        simp (disch := omega) only [ni_lit, ni_add, ni_mul, ni_sub, ni_lt, ni_le, ni_ix, ni_eq, ni_div, ni_rem, ni_and, ni_or, ni_xor, ni_shl, ni_shr, ni_gi, ni_gz, ni_max, ni_min, ni_dc, ni_0a, ni_ml, ni_mle, Nat.reduceAnd, Nat.reduceAdd, Nat.reduceMul, Nat.reduceSub, Nat.reduceDiv, Nat.reduceMod, Nat.reduceXor, Nat.reduceShiftLeft, Nat.reduceShiftRight, sq_bd, sq_jn, sq_cb0, sq_cb1, sq_cb2, sq_cb3, sq_cb4, sq_cb5]
        rw [if_neg (by omega), e7]
        simp (disch := omega) only [ni_lit, ni_add, ni_mul, ni_sub, ni_lt, ni_le, ni_ix, ni_eq, ni_div, ni_rem, ni_and, ni_or, ni_xor, ni_shl, ni_shr, ni_gi, ni_gz, ni_max, ni_min, ni_dc, ni_0a, ni_ml, ni_mle, Nat.reduceAnd, Nat.reduceAdd, Nat.reduceMul, Nat.reduceSub, Nat.reduceDiv, Nat.reduceMod, Nat.reduceXor, Nat.reduceShiftLeft, Nat.reduceShiftRight, sq_bd, sq_jn, sq_cb0, sq_cb1, sq_cb2, sq_cb3, sq_cb4, sq_cb5, if_neg hr, e6, e8, md_inv, e5, e3]
      rcases g2 hn0 hn vt d (c + 1) m _ b3 (by omega) (by omega) m3 hid with ⟨b', A', q1, q2, q3, q4⟩ | ⟨b', q1, z, z1, z2, z3, z4⟩
      · exact Or.inl ⟨b', A', fun k2 => by rw [hstep, q1], q2, q3, fun z hz => hk z (q4 z hz)⟩
      · exact Or.inr ⟨b', fun k2 => by rw [hstep, q1], z, z1, z2, z3, hk z z4⟩
theorem g1 {n : Nat} (hn : n ≤ 15) {A : Nat → Nat → Nat} {b : Nat → Int32} (h : mA b n A) : ∀ (d x m : Nat) (f : Nat → Int32), x + d = n → d < m → (∀ i : Nat, i < x → f i = ni (A i n)) → ∃ f', fn_Md_solves_L1 (ni n) b m (ni x) f = some (1, f', b) ∧ ∀ i : Nat, i < n → f' i = ni (A i n)
  | 0, x, m + 1, f, hx, _, hf => by
    have hcn : x = n := by omega
    subst hcn
    refine ⟨f, ?_, hf⟩
    rw [fn_Md_solves_L1_s]
    simp (disch := omega) only [ni_lit, ni_add, ni_mul, ni_sub, ni_lt, ni_le, ni_ix, ni_eq, ni_div, ni_rem, ni_and, ni_or, ni_xor, ni_shl, ni_shr, ni_gi, ni_gz, ni_max, ni_min, ni_dc, ni_0a, ni_ml, ni_mle, Nat.reduceAnd, Nat.reduceAdd, Nat.reduceMul, Nat.reduceSub, Nat.reduceDiv, Nat.reduceMod, Nat.reduceXor, Nat.reduceShiftLeft, Nat.reduceShiftRight]
    rw [if_pos (by omega)]
  | d + 1, x, m + 1, f, hx, hm, hf => by
    obtain ⟨e1, l1⟩ := h x (by omega) n (by omega)
    obtain ⟨f', h1, h2⟩ := g1 hn h d (x + 1) m (upd f x (ni (A x n))) (by omega) (by omega) (fun i hi => by
      rw [upd_a]
      by_cases q : i = x
      · rw [if_pos q, q]
      · rw [if_neg q]; exact hf i (by omega))
    refine ⟨f', ?_, h2⟩
    rw [fn_Md_solves_L1_s, ← h1]
    simp (disch := omega) only [ni_lit, ni_add, ni_mul, ni_sub, ni_lt, ni_le, ni_ix, ni_eq, ni_div, ni_rem, ni_and, ni_or, ni_xor, ni_shl, ni_shr, ni_gi, ni_gz, ni_max, ni_min, ni_dc, ni_0a, ni_ml, ni_mle, Nat.reduceAnd, Nat.reduceAdd, Nat.reduceMul, Nat.reduceSub, Nat.reduceDiv, Nat.reduceMod, Nat.reduceXor, Nat.reduceShiftLeft, Nat.reduceShiftRight, sq_bd, sq_jn, sq_cb0, sq_cb1, sq_cb2, sq_cb3, sq_cb4, sq_cb5, e1]
    rw [if_neg (by omega)]
/-- solves: a solution, or a singular system -/
theorem md_solves {n n0 : Nat} (hn0 : 300 ≤ n0) (hn : n ≤ 15) {A : Nat → Nat → Nat} {b : Nat → Int32} (h : mA b n A) (vt : Nat → Int32) : (∃ f b' y, fn_Md_solves n0 (ni n) vt b = some (1, f, b') ∧ (∀ i : Nat, i < n → f i = ni (y i)) ∧ (∀ i : Nat, y i < 256) ∧ y n = 1 ∧ kr A n y) ∨ ∃ b', fn_Md_solves n0 (ni n) vt b = some (0, vt, b') ∧ ∃ z : Nat → Nat, (∀ k : Nat, z k < 256) ∧ z n = 0 ∧ (∃ k : Nat, k < n ∧ z k ≠ 0) ∧ kr A n z := by
  rcases g2 hn0 hn vt n 0 n0 A b (by omega) (by omega) h (fun j hj k hk => absurd hk (by omega)) with ⟨b', A', q1, q2, q3, q4⟩ | ⟨b', q1, z, z1, z2, z3, z4⟩
  · obtain ⟨f, h1, h2⟩ := g1 hn q2 n 0 n0 vt (by omega) (by omega) (fun i hi => absurd hi (by omega))
    refine Or.inl ⟨f, b', fun k => if k = n then 1 else if k < n then A' k n else 0, ?_, fun i hi => ?_, fun i => ?_, if_pos rfl, q4 _ (fun j hj => ?_)⟩
    · unfold fn_Md_solves
      simp only [sq_bd, sq_jn, sq_cb0, sq_cb1, sq_cb2, sq_cb3, sq_cb4, sq_cb5]
      rw [← ni_0, q1, h1]
    · dsimp only
      rw [if_neg (by omega), if_pos hi]; exact h2 i hi
    · dsimp only
      split
      · omega
      · split
        · exact (q2 i (by omega) n (by omega)).2
        · omega
    · have hl := (q2 j hj n (by omega)).2
      rw [xs_s, if_pos rfl, gm_1 hl]
      rw [xs_cg (g := fun k => gm (if j = k then 1 else 0) (A' k n)) (fun k hk => by rw [if_neg (by omega), if_pos hk, q3 j hj k hk])]
      rw [xs_one hj (fun i hi2 hne => by rw [if_neg (fun w => hne w.symm), gm_0l]), if_pos rfl, gm_i1 hl, x_s]
  · refine Or.inr ⟨b', ?_, z, z1, z2, z3, z4⟩
    unfold fn_Md_solves
    simp only [sq_bd, sq_jn, sq_cb0, sq_cb1, sq_cb2, sq_cb3, sq_cb4, sq_cb5]
    rw [← ni_0, q1]
    rfl
