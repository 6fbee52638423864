/-! own rows: what the segments lay -/
def vl (m c : Nat) : Nat := if m = 2 then c else sgn c
def bs (m : Nat) : Nat := if m = 0 then 10 else if m = 1 then 45 else 256
def nm (m : Nat) (d : Nat → Nat) (p : Nat) : Nat → Nat
  | 0 => 0
  | j + 1 => bs m * nm m d p j + vl m (d (p + j))
theorem nm_s (m : Nat) (d : Nat → Nat) (p j : Nat) : nm m d p (j + 1) = bs m * nm m d p j + vl m (d (p + j)) := rfl
def gbs (m g : Nat) : Nat := if m = 0 then 3 * g + 1 else if m = 1 then 5 * g + 1 else 8 * g
theorem vl_lt : ∀ c : Nat, c < 256 → ∀ m : Nat, m < 3 → lst c ≤ m → vl m c < bs m := by decide +kernel
theorem nm_lt {m : Nat} {d : Nat → Nat} {p : Nat} (hm : m < 3) : ∀ (g : Nat), (∀ j : Nat, j < g → d (p + j) < 256 ∧ lst (d (p + j)) ≤ m) → nm m d p g < bs m ^ g
  | 0, _ => by show 0 < 1; omega
  | g + 1, h => by
    have h1 := nm_lt hm g (fun j hj => h j (by omega))
    have h2 := vl_lt _ (h g (by omega)).1 m hm (h g (by omega)).2
    rw [nm_s, Nat.pow_succ, Nat.mul_comm (bs m ^ g)]
    have : bs m * (nm m d p g + 1) ≤ bs m * bs m ^ g := Nat.mul_le_mul_left _ h1
    rw [Nat.mul_add] at this
    omega
theorem bs_pow : ∀ m : Nat, m < 3 → ∀ g : Nat, g < 4 → 1 ≤ g → g ≤ 3 - m → bs m ^ g ≤ 2 ^ gbs m g ∧ gbs m g ≤ 11 ∧ 1 ≤ gbs m g := by decide +kernel
def gr (m : Nat) (d : Nat → Nat) (q : Nat) : Nat → Nat → Nat × Nat → Nat × Nat
  | 0, _, s => s
  | k + 1, p, s => if p < q then gr m d q k (p + min (3 - m) (q - p)) (s.1 * 2 ^ gbs m (min (3 - m) (q - p)) + nm m d p (min (3 - m) (q - p)), s.2 + gbs m (min (3 - m) (q - p))) else s
theorem gr_s (m : Nat) (d : Nat → Nat) (q k p : Nat) (s : Nat × Nat) : gr m d q (k + 1) p s = if p < q then gr m d q k (p + min (3 - m) (q - p)) (s.1 * 2 ^ gbs m (min (3 - m) (q - p)) + nm m d p (min (3 - m) (q - p)), s.2 + gbs m (min (3 - m) (q - p))) else s := rfl
theorem gr_le (m : Nat) (d : Nat → Nat) (q : Nat) : ∀ (k p : Nat) (s : Nat × Nat), s.2 ≤ (gr m d q k p s).2
  | 0, _, _ => Nat.le_refl _
  | k + 1, p, s => by
    rw [gr_s]
    split
    · have := gr_le m d q k (p + min (3 - m) (q - p)) (s.1 * 2 ^ gbs m (min (3 - m) (q - p)) + nm m d p (min (3 - m) (q - p)), s.2 + gbs m (min (3 - m) (q - p)))
      dsimp only at this
      omega
    · exact Nat.le_refl _
theorem gr_e (m : Nat) (d : Nat → Nat) (q : Nat) : ∀ (k p : Nat) (s : Nat × Nat), q ≤ p → gr m d q k p s = s
  | 0, _, _, _ => rfl
  | k + 1, p, s, h => by rw [gr_s, if_neg (by omega)]
def seg (r m : Nat) (d : Nat → Nat) (p q : Nat) (s : Nat × Nat) : Nat × Nat := gr m d q (q - p) p ((s.1 * 2 ^ 4 + 2 ^ m) * 2 ^ lb r m + (q - p), s.2 + 4 + lb r m)
/-! the class's -/
theorem cl_gs : ∀ m : Nat, m < 3 → fn_Mode_groupSize (ni m) = some (ni (3 - m)) ∧ fn_Mode_base (ni m) = some (ni (bs m)) := by decide +kernel
theorem cl_gbs : ∀ m : Nat, m < 3 → ∀ g : Nat, g < 4 → fn_Mode_groupBits (ni m) (ni g) = some (ni (gbs m g)) := by decide +kernel
theorem as2 {by0 : Nat → Int32} {d : Nat → Nat} {len m from0 i g n0 : Nat} (hn0 : 300 ≤ n0) (hl : len ≤ 3000) (hd : cdt by0 len d) (hm : m < 3) (hg : g ≤ 3 - m) (hi : from0 + i + g ≤ len) (hlst : ∀ j : Nat, j < g → lst (d (from0 + i + j)) ≤ m) (k25 : Int32 → Option (Int32 × Int32 × Int32 × (Nat → Int32))) : ∀ (e j mm : Nat), j + e = g → e < mm → fn_Codewords_appendSegment_L2 (ni from0) (ni m) n0 (ni len) by0 (ni i) (ni g) k25 mm (ni (nm m d (from0 + i) j)) (ni j) = k25 (ni (nm m d (from0 + i) g))
  | 0, j, mm + 1, hj, _ => by
    rw [fn_Codewords_appendSegment_L2_s, show j = g by omega]
    simp (disch := omega) only [ni_lit, ni_add, ni_mul, ni_sub, ni_lt, ni_le, ni_ix, ni_eq, ni_div, ni_rem, ni_and, ni_or, ni_xor, ni_shl, ni_shr, ni_gi, ni_gz, ni_max, ni_min, ni_dc, ni_0a, ni_ml, ni_mle, Nat.reduceAnd, Nat.reduceAdd, Nat.reduceMul, Nat.reduceSub, Nat.reduceDiv, Nat.reduceMod, Nat.reduceXor, Nat.reduceShiftLeft, Nat.reduceShiftRight]
    rw [if_pos (by omega)]
  | e + 1, j, mm + 1, hj, hmm => by
    have e1 := cl_get hd hl (i := from0 + i + j) (by omega)
    have e2 := cl_number hn0 (hd (from0 + i + j) (by omega)).2 hm (hlst j (by omega))
    have e3 := (cl_gs m hm).2
    rw [fn_Codewords_appendSegment_L2_s, ← as2 hn0 hl hd hm hg hi hlst k25 e (j + 1) mm (by omega) (by omega), nm_s]
    simp (disch := omega) only [ni_lit, ni_add, ni_mul, ni_sub, ni_lt, ni_le, ni_ix, ni_eq, ni_div, ni_rem, ni_and, ni_or, ni_xor, ni_shl, ni_shr, ni_gi, ni_gz, ni_max, ni_min, ni_dc, ni_0a, ni_ml, ni_mle, Nat.reduceAnd, Nat.reduceAdd, Nat.reduceMul, Nat.reduceSub, Nat.reduceDiv, Nat.reduceMod, Nat.reduceXor, Nat.reduceShiftLeft, Nat.reduceShiftRight, sq_bd, sq_jn, sq_cb0, sq_cb1, sq_cb2, sq_cb3, sq_cb4, sq_cb5, e1, e2, e3]
    rw [if_neg (by omega)]
    rfl
theorem as1 {by0 : Nat → Int32} {d : Nat → Nat} {len m p0 q n0 : Nat} (hn0 : 4000 ≤ n0) (hl : len ≤ 3000) (hd : cdt by0 len d) (hm : m < 3) (hpq : p0 ≤ q) (hq : q ≤ len) (hlst : ∀ j : Nat, p0 ≤ j → j < q → lst (d j) ≤ m) : ∀ (k i mm V n : Nat) (b : Nat → Int32), q ≤ p0 + i + k → k < mm → i ≤ 3003 → CB b V n → (gr m d q k (p0 + i) (V, n)).2 ≤ 8 * 3706 → ∃ b', fn_Codewords_appendSegment_L1 (ni p0) (ni (q - p0)) (ni m) n0 (ni len) by0 (ni (3 - m)) mm (ni i) (ni (n / 8)) (ni (V % 2 ^ (n % 8))) (ni (n % 8)) b = some (ni ((gr m d q k (p0 + i) (V, n)).2 / 8), ni ((gr m d q k (p0 + i) (V, n)).1 % 2 ^ ((gr m d q k (p0 + i) (V, n)).2 % 8)), ni ((gr m d q k (p0 + i) (V, n)).2 % 8), b') ∧ CB b' (gr m d q k (p0 + i) (V, n)).1 (gr m d q k (p0 + i) (V, n)).2
  | 0, i, mm + 1, V, n, b, hk, _, hi, hb, hle => by
    refine ⟨b, ?_, hb⟩
    rw [fn_Codewords_appendSegment_L1_s]
    simp (disch := omega) only [ni_le]
    rw [if_pos (by omega)]
    rfl
  | k + 1, i, mm + 1, V, n, b, hk, hmm, hi, hb, hle => by
    by_cases w : p0 + i < q
    · have hg1 : 1 ≤ min (3 - m) (q - (p0 + i)) := by omega
      obtain ⟨g1, g2, g3⟩ := bs_pow m hm (min (3 - m) (q - (p0 + i))) (by omega) hg1 (by omega)
      rw [gr_s, if_pos w] at hle ⊢
      have hle2 := gr_le m d q k (p0 + i + min (3 - m) (q - (p0 + i))) (V * 2 ^ gbs m (min (3 - m) (q - (p0 + i))) + nm m d (p0 + i) (min (3 - m) (q - (p0 + i))), n + gbs m (min (3 - m) (q - (p0 + i))))
      have hnl := nm_lt (d := d) (p := p0 + i) hm (min (3 - m) (q - (p0 + i))) (fun j hj => ⟨(hd _ (by omega)).2, hlst _ (by omega) (by omega)⟩)
      obtain ⟨b2, e1, h1⟩ := cl_append (V := V) (n := n) (n0 := n0) (v := nm m d (p0 + i) (min (3 - m) (q - (p0 + i)))) (w := gbs m (min (3 - m) (q - (p0 + i)))) (by omega) (Nat.lt_of_lt_of_le hnl g1) (by omega) (by dsimp only at hle2 hle; omega) hb
      have e2 := fun k25 => as2 (n0 := n0) (from0 := p0) (i := i) (g := min (3 - m) (q - (p0 + i))) (by omega) hl hd hm (by omega) (by omega) (fun j hj => hlst _ (by omega) (by omega)) k25 (min (3 - m) (q - (p0 + i))) 0 n0 (by omega) (by omega)
      rw [show nm m d (p0 + i) 0 = 0 from rfl] at e2
      have e3 := cl_gbs m hm (min (3 - m) (q - (p0 + i))) (by omega)
      have hst : fn_Codewords_appendSegment_L1 (ni p0) (ni (q - p0)) (ni m) n0 (ni len) by0 (ni (3 - m)) (mm + 1) (ni i) (ni (n / 8)) (ni (V % 2 ^ (n % 8))) (ni (n % 8)) b = fn_Codewords_appendSegment_L1 (ni p0) (ni (q - p0)) (ni m) n0 (ni len) by0 (ni (3 - m)) mm (ni (i + (3 - m))) (ni ((n + gbs m (min (3 - m) (q - (p0 + i)))) / 8)) (ni ((V * 2 ^ gbs m (min (3 - m) (q - (p0 + i))) + nm m d (p0 + i) (min (3 - m) (q - (p0 + i)))) % 2 ^ ((n + gbs m (min (3 - m) (q - (p0 + i)))) % 8))) (ni ((n + gbs m (min (3 - m) (q - (p0 + i)))) % 8)) b2 := by
        rw [fn_Codewords_appendSegment_L1_s]
        simp (disch := omega) only [ni_lit, ni_le, ni_sub, ni_min, ni_add, sq_bd, sq_jn, sq_cb0, sq_cb1, sq_cb2, sq_cb3, sq_cb4, sq_cb5, show q - p0 - i = q - (p0 + i) by omega, e2, e3, e1]
        rw [if_neg (by omega)]
      rw [hst]
      by_cases z : 3 - m ≤ q - (p0 + i)
      · obtain ⟨b3, r1, r2⟩ := as1 hn0 hl hd hm hpq hq hlst k (i + (3 - m)) mm _ _ b2 (by omega) (by omega) (by omega) h1 (by
          rw [show p0 + (i + (3 - m)) = p0 + i + min (3 - m) (q - (p0 + i)) by omega]; exact hle)
        rw [show p0 + (i + (3 - m)) = p0 + i + min (3 - m) (q - (p0 + i)) by omega] at r1 r2
        exact ⟨b3, r1, r2⟩
      · rw [gr_e m d q k _ _ (by omega)]
        refine ⟨b2, ?_, h1⟩
        obtain ⟨m', rfl⟩ : ∃ m', mm = m' + 1 := ⟨mm - 1, by omega⟩
        rw [fn_Codewords_appendSegment_L1_s]
        simp (disch := omega) only [ni_le]
        rw [if_pos (by omega)]
    · rw [gr_e m d q (k + 1) _ _ (by omega)]
      refine ⟨b, ?_, hb⟩
      rw [fn_Codewords_appendSegment_L1_s]
      simp (disch := omega) only [ni_le]
      rw [if_pos (by omega)]
theorem cl_segment {by0 b : Nat → Int32} {d : Nat → Nat} {len m p q n0 v V n : Nat} (hn0 : 4000 ≤ n0) (hl : len ≤ 3000) (hd : cdt by0 len d) (hv : v < 41) (hv1 : 1 ≤ v) (hm : m < 3) (hpq : p < q) (hq : q ≤ len) (hlst : ∀ j : Nat, p ≤ j → j < q → lst (d j) ≤ m) (hlen : q - p < 2 ^ lb (rk v) m) (hb : CB b V n) (hle : (seg (rk v) m d p q (V, n)).2 ≤ 8 * 3706) : ∃ b', fn_Codewords_appendSegment n0 (ni p) (ni (q - p)) (ni m) (ni len) (ni v) (ni (n / 8)) (ni (V % 2 ^ (n % 8))) (ni (n % 8)) by0 b = some (ni ((seg (rk v) m d p q (V, n)).2 / 8), ni ((seg (rk v) m d p q (V, n)).1 % 2 ^ ((seg (rk v) m d p q (V, n)).2 % 8)), ni ((seg (rk v) m d p q (V, n)).2 % 8), b') ∧ CB b' (seg (rk v) m d p q (V, n)).1 (seg (rk v) m d p q (V, n)).2 := by
  obtain ⟨l1, l2⟩ := lb_le (rk v) (rk_lt v) m hm
  have hmono := gr_le m d q (q - p) p (((V * 2 ^ 4 + 2 ^ m) * 2 ^ lb (rk v) m + (q - p)), n + 4 + lb (rk v) m)
  have hle' : (gr m d q (q - p) p (((V * 2 ^ 4 + 2 ^ m) * 2 ^ lb (rk v) m + (q - p)), n + 4 + lb (rk v) m)).2 ≤ 8 * 3706 := hle
  dsimp only at hmono
  have h2m : 2 ^ m < 2 ^ 4 := Nat.pow_lt_pow_right (by omega) (by omega)
  obtain ⟨b1, e1, h1⟩ := cl_append (V := V) (n := n) (n0 := n0) (v := 2 ^ m) (w := 4) (by omega) h2m (by omega) (by omega) hb
  obtain ⟨b2, e2, h2⟩ := cl_append (V := V * 2 ^ 4 + 2 ^ m) (n := n + 4) (n0 := n0) (v := q - p) (w := lb (rk v) m) (by omega) hlen (by omega) (by omega) h1
  obtain ⟨b3, e3, h3⟩ := as1 (p0 := p) hn0 hl hd hm (by omega) hq hlst (q - p) 0 n0 _ _ b2 (by omega) (by omega) (by omega) h2 hle'
  refine ⟨b3, ?_, h3⟩
  have han : m &&& 31 = m := by rw [show (31 : Nat) = 2 ^ 5 - 1 from rfl, an_p, Nat.mod_eq_of_lt (by omega)]
  have hs : (1 : Nat) <<< m = 2 ^ m := by rw [Nat.shiftLeft_eq, Nat.one_mul]
  unfold fn_Codewords_appendSegment
  simp (disch := omega) only [ni_lit, ni_and, han, ni_shl, hs, e1, sq_bd, sq_jn, sq_cb0, sq_cb1, sq_cb2, sq_cb3, sq_cb4, sq_cb5, cl_cnt m hm v hv hv1, e2, (cl_gs m hm).1, ni_max, show max 1 (3 - m) = 3 - m by omega]
  exact e3
/-! the model's -/
theorem ls2 {dt : Nat → Int32} {d : Nat → Nat} {len m p g : Nat} (hl : len ≤ 3000) (hd : ∀ i : Nat, i < len → dt i = ni (d i) ∧ d i < 256) (hm : m < 3) (hg1 : 1 ≤ g) (hg : g ≤ 3 - m) (hi : p + g ≤ len) (hlst : ∀ j : Nat, j < g → lst (d (p + j)) ≤ m) : ∀ (e j mm : Nat), j + e = g → e < mm → ∀ k26, fn_Md_laySegment_L2 dt (ni m) (ni p) (ni g) k26 mm (ni (nm m d p j)) (ni j) = k26 (ni (nm m d p g))
  | 0, j, mm + 1, hj, _ => by
    intro k26
    rw [fn_Md_laySegment_L2_s, show j = g by omega]
    simp (disch := omega) only [ni_lit, ni_add, ni_mul, ni_sub, ni_lt, ni_le, ni_ix, ni_eq, ni_div, ni_rem, ni_and, ni_or, ni_xor, ni_shl, ni_shr, ni_gi, ni_gz, ni_max, ni_min, ni_dc, ni_0a, ni_ml, ni_mle, Nat.reduceAnd, Nat.reduceAdd, Nat.reduceMul, Nat.reduceSub, Nat.reduceDiv, Nat.reduceMod, Nat.reduceXor, Nat.reduceShiftLeft, Nat.reduceShiftRight]
    rw [if_pos (by omega)]
  | e + 1, j, mm + 1, hj, hmm => by
    intro k26
    obtain ⟨d1, d2⟩ := hd (p + j) (by omega)
    have hls := hlst j (by omega)
    have hnl := nm_lt (d := d) (p := p) hm j (fun i hi2 => ⟨(hd _ (by omega)).2, hlst i (by omega)⟩)
    rw [fn_Md_laySegment_L2_s, ← ls2 hl hd hm hg1 hg hi hlst e (j + 1) mm (by omega) (by omega) k26, nm_s]
    by_cases q0 : m = 0
    · subst q0
      have hdg : 48 ≤ d (p + j) ∧ d (p + j) ≤ 57 := by
        unfold lst at hls
        by_cases w : 48 ≤ d (p + j) ∧ d (p + j) ≤ 57
        · exact w
        · rw [if_neg w] at hls; split at hls <;> omega
      have hv : vl 0 (d (p + j)) = d (p + j) - 48 := by
        unfold vl sgn
        rw [if_neg (by omega), if_pos hdg]
      simp (disch := omega) only [ni_lit, ni_add, ni_mul, ni_sub, ni_lt, ni_le, ni_ix, ni_eq, ni_div, ni_rem, ni_and, ni_or, ni_xor, ni_shl, ni_shr, ni_gi, ni_gz, ni_max, ni_min, ni_dc, ni_0a, ni_ml, ni_mle, Nat.reduceAnd, Nat.reduceAdd, Nat.reduceMul, Nat.reduceSub, Nat.reduceDiv, Nat.reduceMod, Nat.reduceXor, Nat.reduceShiftLeft, Nat.reduceShiftRight, sq_bd, sq_jn, sq_cb0, sq_cb1, sq_cb2, sq_cb3, sq_cb4, sq_cb5, d1, if_true]
      rw [if_neg (by omega), hv, show bs 0 = 10 from rfl, show 10 * nm 0 d p j + (d (p + j) - 48) = 10 * nm 0 d p j + d (p + j) - 48 by omega]
    · by_cases q1 : m = 1
      · subst q1
        have hsl : sgn (d (p + j)) < 45 := by
          unfold lst at hls
          by_cases w : 48 ≤ d (p + j) ∧ d (p + j) ≤ 57
          · unfold sgn; rw [if_pos w]; omega
          · rw [if_neg w] at hls
            by_cases z : sgn (d (p + j)) < 45
            · exact z
            · rw [if_neg z] at hls; omega
        have hv : vl 1 (d (p + j)) = sgn (d (p + j)) := if_neg (by omega)
        have e2 := md_sign _ d2
        rw [if_pos hsl] at e2
        simp (disch := omega) only [ni_lit, ni_add, ni_mul, ni_sub, ni_lt, ni_le, ni_ix, ni_eq, ni_div, ni_rem, ni_and, ni_or, ni_xor, ni_shl, ni_shr, ni_gi, ni_gz, ni_max, ni_min, ni_dc, ni_0a, ni_ml, ni_mle, Nat.reduceAnd, Nat.reduceAdd, Nat.reduceMul, Nat.reduceSub, Nat.reduceDiv, Nat.reduceMod, Nat.reduceXor, Nat.reduceShiftLeft, Nat.reduceShiftRight, sq_bd, sq_jn, sq_cb0, sq_cb1, sq_cb2, sq_cb3, sq_cb4, sq_cb5, d1, e2, if_true]
        rw [if_neg (by omega), if_neg (by omega), hv]
        rfl
      · have hm2 : m = 2 := by omega
        subst hm2
        have hj0 : j = 0 := by omega
        subst hj0
        have hv : vl 2 (d (p + 0)) = d (p + 0) := if_pos rfl
        simp (disch := omega) only [ni_lit, ni_add, ni_mul, ni_sub, ni_lt, ni_le, ni_ix, ni_eq, ni_div, ni_rem, ni_and, ni_or, ni_xor, ni_shl, ni_shr, ni_gi, ni_gz, ni_max, ni_min, ni_dc, ni_0a, ni_ml, ni_mle, Nat.reduceAnd, Nat.reduceAdd, Nat.reduceMul, Nat.reduceSub, Nat.reduceDiv, Nat.reduceMod, Nat.reduceXor, Nat.reduceShiftLeft, Nat.reduceShiftRight, sq_bd, sq_jn, sq_cb0, sq_cb1, sq_cb2, sq_cb3, sq_cb4, sq_cb5, d1]
        rw [if_neg (by omega), if_neg (by omega), if_neg (by omega), hv, show nm 2 d p 0 = 0 from rfl, Nat.mul_zero, Nat.zero_add]
theorem ls1 {dt a b7 : Nat → Int32} {d : Nat → Nat} {len m q n0 : Nat} {x8 : Int32} (hn0 : 4000 ≤ n0) (hl : len ≤ 3000) (hd : ∀ i : Nat, i < len → dt i = ni (d i) ∧ d i < 256) (hm : m < 3) (hq : q ≤ len) : ∀ (k p mm V n : Nat) (b : Nat → Int32), q ≤ p + k → p ≤ q → k < mm → (∀ j : Nat, p ≤ j → j < q → lst (d j) ≤ m) → MB b V n → (gr m d q k p (V, n)).2 ≤ 8 * 3706 → ∃ b', fn_Md_laySegment_L1 (ni q) n0 dt (ni m) a b7 x8 mm (ni p) (ni n) b = some (x8, ni (gr m d q k p (V, n)).2, b', b7, a) ∧ MB b' (gr m d q k p (V, n)).1 (gr m d q k p (V, n)).2
  | 0, p, mm + 1, V, n, b, hk, _, _, hlst, hb, hle => by
    refine ⟨b, ?_, hb⟩
    rw [fn_Md_laySegment_L1_s]
    simp (disch := omega) only [ni_le]
    rw [if_pos (by omega)]
    rfl
  | k + 1, p, mm + 1, V, n, b, hk, hpq, hmm, hlst, hb, hle => by
    by_cases w : p < q
    · have hg1 : 1 ≤ min (3 - m) (q - p) := by omega
      obtain ⟨g1, g2, g3⟩ := bs_pow m hm (min (3 - m) (q - p)) (by omega) hg1 (by omega)
      rw [gr_s, if_pos w] at hle ⊢
      have hle2 := gr_le m d q k (p + min (3 - m) (q - p)) (V * 2 ^ gbs m (min (3 - m) (q - p)) + nm m d p (min (3 - m) (q - p)), n + gbs m (min (3 - m) (q - p)))
      have hnl := nm_lt (d := d) (p := p) hm (min (3 - m) (q - p)) (fun j hj => ⟨(hd _ (by omega)).2, hlst _ (by omega) (by omega)⟩)
      obtain ⟨b2, e1, h1⟩ := md_lay (V := V) (n := n) (n0 := n0) (v := nm m d p (min (3 - m) (q - p))) (w := gbs m (min (3 - m) (q - p))) (by omega) (Nat.lt_of_lt_of_le hnl g1) (by omega) (by dsimp only at hle2 hle; omega) hb
      have e2 := ls2 (p := p) (g := min (3 - m) (q - p)) hl hd hm hg1 (by omega) (by omega) (fun j hj => hlst _ (by omega) (by omega)) (min (3 - m) (q - p)) 0 n0 (by omega) (by omega)
      rw [show nm m d p 0 = 0 from rfl] at e2
      obtain ⟨b3, r1, r2⟩ := ls1 (a := a) (b7 := b7) (x8 := x8) hn0 hl hd hm hq k (p + min (3 - m) (q - p)) mm _ _ b2 (by omega) (by omega) (by omega) (fun j h1 h2 => hlst j (by omega) h2) h1 hle
      refine ⟨b3, ?_, r2⟩
      rw [fn_Md_laySegment_L1_s, ← r1]
      have hgb : gbs m (min (3 - m) (q - p)) = if m = 0 then 3 * min (3 - m) (q - p) + 1 else if m = 1 then 5 * min (3 - m) (q - p) + 1 else 8 := by
        unfold gbs
        by_cases q0 : m = 0
        · rw [if_pos q0, if_pos q0]
        · rw [if_neg q0, if_neg q0]
          by_cases q1 : m = 1
          · rw [if_pos q1, if_pos q1]
          · rw [if_neg q1, if_neg q1, show min (3 - m) (q - p) = 1 by omega]
      have hx21 : ∀ (K : Int32 → Option (Int32 × Int32 × (Nat → Int32) × (Nat → Int32) × (Nat → Int32))), sq_jn K (fun k22 => if ni m = 0 then k22 (3 : Int32) else if ni m = 1 then k22 (2 : Int32) else k22 (1 : Int32)) = K (ni (3 - m)) := fun K => by
        simp (disch := omega) only [ni_lit, ni_eq, sq_jn]
        by_cases q0 : m = 0
        · rw [if_pos q0, q0]
        · rw [if_neg q0]
          by_cases q1 : m = 1
          · rw [if_pos q1, q1]
          · rw [if_neg q1, show 3 - m = 1 by omega]
      have hx23 : ∀ (K : Int32 → Option (Int32 × Int32 × (Nat → Int32) × (Nat → Int32) × (Nat → Int32))), sq_jn K (fun k24 => if ni (3 - m) ≤ ni q - ni p then k24 (ni (3 - m)) else k24 (ni q - ni p)) = K (ni (min (3 - m) (q - p))) := fun K => by
        simp (disch := omega) only [ni_sub, ni_le, sq_jn]
        by_cases z : 3 - m ≤ q - p
        · rw [if_pos z, Nat.min_eq_left z]
        · rw [if_neg z, Nat.min_eq_right (by omega)]
      have hx27 : ∀ (K : Int32 → Option (Int32 × Int32 × (Nat → Int32) × (Nat → Int32) × (Nat → Int32))), sq_jn K (fun k28 => if ni m = 0 then k28 ((3 : Int32) * ni (min (3 - m) (q - p)) + 1) else if ni m = 1 then k28 ((5 : Int32) * ni (min (3 - m) (q - p)) + 1) else k28 (8 : Int32)) = K (ni (gbs m (min (3 - m) (q - p)))) := fun K => by
        rw [hgb]
        simp (disch := omega) only [ni_lit, ni_eq, ni_mul, ni_add, sq_jn]
        by_cases q0 : m = 0
        · rw [if_pos q0, if_pos q0]
        · rw [if_neg q0, if_neg q0]
          by_cases q1 : m = 1
          · rw [if_pos q1, if_pos q1]
          · rw [if_neg q1, if_neg q1]
      rw [if_neg (by rw [ni_le (by omega) (by omega)]; omega), hx21, hx23]
      simp only [hx27]
      simp only [ni_lit, sq_jn, e2, e1, sq_cb2, sq_bd, ni_add]
    · rw [gr_e m d q (k + 1) _ _ (by omega)]
      refine ⟨b, ?_, hb⟩
      rw [fn_Md_laySegment_L1_s]
      simp (disch := omega) only [ni_le]
      rw [if_pos (by omega)]
theorem md_segment {dt md sl sm0 b : Nat → Int32} {d : Nat → Nat} {len m p q r k n0 V n : Nat} (hn0 : 4000 ≤ n0) (hl : len ≤ 3000) (hd : ∀ i : Nat, i < len → dt i = ni (d i) ∧ d i < 256) (hr : r < 3) (hm : m < 3) (hpq : p < q) (hq : q ≤ len) (hmd : md p = ni m) (hk : k < 3000) (hlst : ∀ j : Nat, p ≤ j → j < q → lst (d j) ≤ m) (hlen : q - p < 2 ^ lb r m) (hb : MB b V n) (hle : (seg r m d p q (V, n)).2 ≤ 8 * 3706) : ∃ b', fn_Md_laySegment n0 (ni p) (ni q) (ni r) (ni k) (ni n) b dt md sl sm0 = some (ni (k + 1), ni (seg r m d p q (V, n)).2, b', upd sl k (ni (q - p)), upd sm0 k (ni m)) ∧ MB b' (seg r m d p q (V, n)).1 (seg r m d p q (V, n)).2 := by
  obtain ⟨l1, l2⟩ := lb_le r hr m hm
  have hmono := gr_le m d q (q - p) p (((V * 2 ^ 4 + 2 ^ m) * 2 ^ lb r m + (q - p)), n + 4 + lb r m)
  have hle' : (gr m d q (q - p) p (((V * 2 ^ 4 + 2 ^ m) * 2 ^ lb r m + (q - p)), n + 4 + lb r m)).2 ≤ 8 * 3706 := hle
  dsimp only at hmono
  have h2m : 2 ^ m < 2 ^ 4 := Nat.pow_lt_pow_right (by omega) (by omega)
  obtain ⟨b1, e1, h1⟩ := md_lay (V := V) (n := n) (n0 := n0) (v := 2 ^ m) (w := 4) (by omega) h2m (by omega) (by omega) hb
  obtain ⟨b2, e2, h2⟩ := md_lay (V := V * 2 ^ 4 + 2 ^ m) (n := n + 4) (n0 := n0) (v := q - p) (w := lb r m) (by omega) hlen (by omega) (by omega) h1
  obtain ⟨b3, e3, h3⟩ := ls1 (a := upd sm0 k (ni m)) (b7 := upd sl k (ni (q - p))) (x8 := ni (k + 1)) hn0 hl hd hm hq (q - p) p n0 _ _ b2 (by omega) (by omega) (by omega) hlst h2 hle'
  refine ⟨b3, ?_, h3⟩
  have han : m &&& 31 = m := by rw [show (31 : Nat) = 2 ^ 5 - 1 from rfl, an_p, Nat.mod_eq_of_lt (by omega)]
  have hs : (1 : Nat) <<< m = 2 ^ m := by rw [Nat.shiftLeft_eq, Nat.one_mul]
  unfold fn_Md_laySegment
  simp (disch := omega) only [ni_lit, ni_add, ni_mul, ni_sub, ni_lt, ni_le, ni_ix, ni_eq, ni_div, ni_rem, ni_and, ni_or, ni_xor, ni_shl, ni_shr, ni_gi, ni_gz, ni_max, ni_min, ni_dc, ni_0a, ni_ml, ni_mle, Nat.reduceAnd, Nat.reduceAdd, Nat.reduceMul, Nat.reduceSub, Nat.reduceDiv, Nat.reduceMod, Nat.reduceXor, Nat.reduceShiftLeft, Nat.reduceShiftRight, sq_bd, sq_jn, sq_cb0, sq_cb1, sq_cb2, sq_cb3, sq_cb4, sq_cb5, hmd, han, hs, e1, md_lb m hm r hr, e2]
  exact e3
