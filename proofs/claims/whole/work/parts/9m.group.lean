/-! one group of a segment -/
def byN (x : Nat) : Nat := if x < 10 then 48 + x else if x < 36 then 55 + x else if x = 36 then 32 else if x = 37 then 36 else if x = 38 then 37 else if x = 39 then 42 else if x = 40 then 43 else if x = 41 then 45 else if x = 42 then 46 else if x = 43 then 47 else 58
def bo (m x : Nat) : Nat := if m = 2 then x else byN x
def bsz (m : Nat) : Nat := if m = 0 then 10 else if m = 1 then 45 else 256
def gbn (m n : Nat) : Nat := if m = 0 then 3 * n + 1 else if m = 1 then 5 * n + 1 else 8 * n
theorem cl_bo1 : ∀ m : Nat, m < 2 → ∀ x : Nat, x < 45 → fn_Mode_byteOf (ni m) (ni x) = some (ni (byN x)) ∧ fn_Md_byteOf (ni x) = some (ni (byN x)) ∧ byN x < 256 := by decide +kernel
theorem cl_bo2 : ∀ x : Nat, x < 256 → fn_Mode_byteOf (ni 2) (ni x) = some (ni x) := by decide +kernel
theorem cl_bo {m x : Nat} (hm : m < 3) (hx : x < bsz m) : fn_Mode_byteOf (ni m) (ni x) = some (ni (bo m x)) ∧ bo m x < 256 := by
  rcases (show m = 0 ∨ m = 1 ∨ m = 2 by omega) with rfl | rfl | rfl
  · have hx : x < 10 := hx
    obtain ⟨h1, h2, h3⟩ := cl_bo1 0 (by omega) x (by omega)
    exact ⟨h1, h3⟩
  · have hx : x < 45 := hx
    obtain ⟨h1, h2, h3⟩ := cl_bo1 1 (by omega) x (by omega)
    exact ⟨h1, h3⟩
  · exact ⟨cl_bo2 x hx, hx⟩
theorem bsz_b {m : Nat} : 10 ≤ bsz m ∧ bsz m ≤ 256 := by
  unfold bsz
  split
  · omega
  · split <;> omega
theorem cl_gb {m n : Nat} (hm : m < 3) : fn_Mode_groupBits (ni m) (ni n) = some (ni (gbn m n)) := by
  rcases (show m = 0 ∨ m = 1 ∨ m = 2 by omega) with rfl | rfl | rfl
  · show some ((3 : Int32) * ni n + 1) = _
    rw [show (3 : Int32) = ni 3 from rfl, ni_mul, show (1 : Int32) = ni 1 from rfl, ni_add]; rfl
  · show some ((5 : Int32) * ni n + 1) = _
    rw [show (5 : Int32) = ni 5 from rfl, ni_mul, show (1 : Int32) = ni 1 from rfl, ni_add]; rfl
  · show some ((8 : Int32) * ni n) = _
    rw [show (8 : Int32) = ni 8 from rfl, ni_mul]; rfl
theorem cl_bs {m : Nat} (hm : m < 3) : fn_Mode_base (ni m) = some (ni (bsz m)) := by
  rcases (show m = 0 ∨ m = 1 ∨ m = 2 by omega) with rfl | rfl | rfl <;> rfl
theorem cl_gn_l {m n : Nat} (hm : m < 3) (hq : n ≤ 3) : ∀ (e i k : Nat), i + e = n → e < k → fn_Mode_groupNumbers_L1 (ni m) (ni n) k (ni (bsz m ^ i)) (ni i) = some (ni (bsz m ^ n))
  | 0, i, k + 1, hi, _ => by
    rw [show i = n by omega, fn_Mode_groupNumbers_L1_s, if_pos ((ni_le (by omega) (by omega)).mpr (Nat.le_refl _))]
  | e + 1, i, k + 1, hi, hk => by
    rw [fn_Mode_groupNumbers_L1_s, if_neg (fun z => absurd ((ni_le (by omega) (by omega)).mp z) (by omega)), cl_bs hm, cb1_e, ← cl_gn_l hm hq e (i + 1) k (by omega) (by omega)]
    simp only [sq_bd]
    rw [ni_mul, show (1 : Int32) = ni 1 from rfl, ni_add, Nat.pow_succ]
theorem cl_gn {m n n0 : Nat} (hn0 : 300 ≤ n0) (hm : m < 3) (hq : n ≤ 3) : fn_Mode_groupNumbers n0 (ni m) (ni n) = some (ni (bsz m ^ n)) := cl_gn_l hm hq n 0 n0 (by omega) (by omega)
/-- a group's numbers are few -/
theorem bsz_p {m n : Nat} (hm : m < 3) (hq : n ≤ 3 - m) : bsz m ^ n ≤ 2025 := by
  rcases (show m = 0 ∨ m = 1 ∨ m = 2 by omega) with rfl | rfl | rfl
  · rcases (show n = 0 ∨ n = 1 ∨ n = 2 ∨ n = 3 by omega) with rfl | rfl | rfl | rfl <;> decide
  · rcases (show n = 0 ∨ n = 1 ∨ n = 2 by omega) with rfl | rfl | rfl <;> decide
  · rcases (show n = 0 ∨ n = 1 by omega) with rfl | rfl <;> decide
/-- the i-th of the n signs of a group -/
def dgt (m n x i : Nat) : Nat := bo m (x / bsz m ^ (n - 1 - i) % bsz m)
def gou (m n x sz : Nat) (out : Nat → Nat) (i : Nat) : Nat → Nat := fun j => if sz ≤ j ∧ j < sz + i then dgt m n x (j - sz) else out j
theorem gou_s {m n x sz i j : Nat} {out : Nat → Nat} : gou m n x sz out (i + 1) j = if j = sz + i then dgt m n x i else gou m n x sz out i j := by
  unfold gou
  by_cases h : j = sz + i
  · rw [if_pos (by omega), if_pos h, h, show sz + i - sz = i by omega]
  · rw [if_neg h]
    by_cases q : sz ≤ j ∧ j < sz + i
    · rw [if_pos (by omega), if_pos q]
    · rw [if_neg (by omega), if_neg q]
theorem dg_lt {m n x i : Nat} (hm : m < 3) : dgt m n x i < 256 := by
  have := bsz_b (m := m)
  exact (cl_bo hm (Nat.mod_lt _ (by omega))).2
/-- the class's bytes and the model's, of what was read -/
def oC (b : Nat → Int32) (sz : Nat) (out : Nat → Nat) : Prop := ∀ j : Nat, j < sz → b j &&& 255 = ni (out j) ∧ out j < 256
def oM (b : Nat → Int32) (sz : Nat) (out : Nat → Nat) : Prop := ∀ j : Nat, j < sz → b j = ni (out j)
theorem cl_g_l {m n x sz : Nat} {y : Int32} {out : Nat → Nat} (hm : m < 3) (hq : n ≤ 3 - m) (hx : x < bsz m ^ n) (hsz : sz + n ≤ 3000) : ∀ (e i k : Nat) (b : Nat → Int32), i + e = n → e < k → oC b (sz + i) (gou m n x sz out i) → ∃ b', fn_Parser_parseGroup_tD_L1 (ni m) (ni n) (ni x) y (ni (bsz m)) k (ni (bsz m ^ (n - i))) (ni i) (ni (sz + i)) b = some (0, y, ni (sz + n), b') ∧ oC b' (sz + n) (gou m n x sz out n)
  | 0, i, k + 1, b, hi, _, hb => by
    obtain rfl : i = n := by omega
    refine ⟨b, ?_, hb⟩
    rw [fn_Parser_parseGroup_tD_L1_s, if_pos ((ni_le (by omega) (by omega)).mpr (Nat.le_refl _))]
  | e + 1, i, k + 1, b, hi, hk, hb => by
    obtain ⟨c1, c2⟩ := bsz_b (m := m)
    have hxl := bsz_p hm hq
    have hb0 : bsz m ^ (n - i) ≤ 2025 := bsz_p hm (by omega)
    have hpw : bsz m ^ (n - i) = bsz m ^ (n - 1 - i) * bsz m := by rw [show n - i = n - 1 - i + 1 by omega, Nat.pow_succ]
    have hp1 : 1 ≤ bsz m ^ (n - 1 - i) := Nat.one_le_pow _ _ (by omega)
    have hp2 : bsz m ^ (n - 1 - i) ≤ 2025 := bsz_p hm (by omega)
    have hdv : bsz m ^ (n - i) / bsz m = bsz m ^ (n - 1 - i) := by rw [hpw, Nat.mul_div_cancel _ (by omega)]
    have hml : x / bsz m ^ (n - 1 - i) % bsz m < bsz m := Nat.mod_lt _ (by omega)
    have hdl : x / bsz m ^ (n - 1 - i) ≤ x := Nat.div_le_self _ _
    obtain ⟨o1, o2⟩ := cl_bo hm hml
    obtain ⟨b', r1, r2⟩ := cl_g_l (y := y) hm hq hx hsz e (i + 1) k (upd b (sz + i) (vp_nar .byte (sq_i2b (ni (dgt m n x i))))) (by omega) (by omega) (fun j hj => by
      rw [gou_s, upd_a]
      by_cases z : j = sz + i
      · rw [if_pos z, if_pos z]
        exact ⟨by_rt _ (dg_lt hm), dg_lt hm⟩
      · rw [if_neg z, if_neg z]
        exact hb j (by omega))
    refine ⟨b', ?_, r2⟩
    have ea : fn_Data_add (ni (dgt m n x i)) (ni (sz + i)) b = some (ni (sz + (i + 1)), upd b (sz + i) (vp_nar .byte (sq_i2b (ni (dgt m n x i))))) := by
      unfold fn_Data_add
      rw [if_neg (by rw [ni_nn (by omega)]; exact id), if_neg (show ¬ (3000 : Int32) ≤ ni (sz + i) from fun z => absurd ((ni_le (a := 3000) (by omega) (by omega)).mp z) (by omega))]
      simp only [sq_bd]
      rw [ni_gi (by omega) (by omega), ni_ix (by omega), show (1 : Int32) = ni 1 from rfl, ni_add]
      rfl
    rw [fn_Parser_parseGroup_tD_L1_s, if_neg (fun z => absurd ((ni_le (by omega) (by omega)).mp z) (by omega)), ← r1]
    simp only [sq_bd]
    rw [ni_gz (by omega) (by omega), ni_div (by omega) (by omega), hdv, show (1 : Int32) = ni 1 from rfl, ni_max (by omega) (by omega), Nat.max_eq_right hp1, ni_gz (by omega) (by omega), ni_gz (by omega) (by omega), ni_div (by omega) (by omega), ni_rem (by omega) (by omega), o1, cb1_e]
    rw [show bo m (x / bsz m ^ (n - 1 - i) % bsz m) = dgt m n x i from rfl, ea]
    simp only [sq_cb2]
    rw [ni_add, show n - (i + 1) = n - 1 - i by omega]
/-- a group: what comes of it -/
def gF (D : Nat → Nat) (N m n a : Nat) : Nat := if a + gbn m n ≤ 8 * N then (if nv D a (gbn m n) < bsz m ^ n then 0 else 5) else 4
theorem gbn_b {m n : Nat} (hm : m < 3) (hq : n ≤ 3 - m) (h1 : 1 ≤ n) : 1 ≤ gbn m n ∧ gbn m n ≤ 11 := by
  unfold gbn
  split
  · omega
  · split <;> omega
theorem nv_b {D : Nat → Nat} {a k : Nat} (hk : k ≤ 16) : nv D a k < 65536 := by
  have h1 := nv_lt D a k
  have h2 : (2 : Nat) ^ k ≤ 2 ^ 16 := Nat.pow_le_pow_right (by omega) hk
  omega
theorem cl_gN {b : Nat → Int32} {D : Nat → Nat} {m n a H N n0 : Nat} (hn0 : 300 ≤ n0) (hm : m < 3) (hq : n ≤ 3 - m) (h1 : 1 ≤ n) (hN : N ≤ 3706) (hH : H ≤ N) (ha : a ≤ 8 * H) (hb : cb b N D) : ∃ y, fn_Parser_parseGroup_tN n0 (ni m) (ni n) (ni a) (ni H) b = some (ni (gF D H m n a), y) ∧ (gF D H m n a = 0 → y = ni (a + gbn m n)) := by
  obtain ⟨g1, g2⟩ := gbn_b hm hq h1
  have hnb := nv_b (D := D) (a := a) (k := gbn m n) (by omega)
  have hbp := bsz_p hm hq
  obtain ⟨c1, c2⟩ := bsz_b (m := m)
  unfold fn_Parser_parseGroup_tN gF
  rw [cl_gb hm, cb1_e, cl_tk (k := gbn m n) (by omega) g1 hN hH ha hb]
  by_cases h : a + gbn m n ≤ 8 * H
  · rw [if_pos h, if_pos h]
    simp only [sq_cb2]
    rw [if_neg (by rw [ni_m1 (by omega)]; exact id), cl_gn hn0 hm (by omega), cb1_e]
    by_cases q : nv D a (gbn m n) < bsz m ^ n
    · rw [if_pos ((ni_lt (by omega) (by omega)).mpr q), if_pos q, cl_bs hm, cb1_e]
      refine ⟨ni (a + gbn m n), ?_, fun _ => rfl⟩
      simp only [sq_bd]
      split <;> rfl
    · rw [if_neg (fun z => q ((ni_lt (by omega) (by omega)).mp z)), if_neg q]
      exact ⟨ni (a + gbn m n), rfl, fun z => absurd z (by omega)⟩
  · rw [if_neg h, if_neg h]
    simp only [sq_cb2]
    rw [if_pos trivial]
    exact ⟨ni a, rfl, fun z => absurd z (by omega)⟩
theorem cl_gD {b tb : Nat → Int32} {D out : Nat → Nat} {m n a sz H N n0 : Nat} (hn0 : 300 ≤ n0) (hm : m < 3) (hq : n ≤ 3 - m) (h1 : 1 ≤ n) (hN : N ≤ 3706) (hH : H ≤ N) (ha : a ≤ 8 * H) (hb : cb b N D) (hsz : sz + n ≤ 3000) (ho : oC tb sz out) : ∃ y s' tb', fn_Parser_parseGroup_tD n0 (ni m) (ni n) (ni a) (ni sz) (ni H) tb b = some (ni (gF D H m n a), y, s', tb') ∧ (gF D H m n a = 0 → y = ni (a + gbn m n) ∧ s' = ni (sz + n) ∧ oC tb' (sz + n) (gou m n (nv D a (gbn m n)) sz out n)) := by
  obtain ⟨g1, g2⟩ := gbn_b hm hq h1
  have hnb := nv_b (D := D) (a := a) (k := gbn m n) (by omega)
  have hbp := bsz_p hm hq
  obtain ⟨c1, c2⟩ := bsz_b (m := m)
  unfold fn_Parser_parseGroup_tD gF
  rw [cl_gb hm, cb1_e, cl_tk (k := gbn m n) (by omega) g1 hN hH ha hb]
  by_cases h : a + gbn m n ≤ 8 * H
  · rw [if_pos h, if_pos h]
    simp only [sq_cb2]
    rw [if_neg (by rw [ni_m1 (by omega)]; exact id), cl_gn hn0 hm (by omega), cb1_e]
    by_cases q : nv D a (gbn m n) < bsz m ^ n
    · rw [if_pos ((ni_lt (by omega) (by omega)).mpr q), if_pos q, cl_bs hm, cb1_e]
      obtain ⟨tb', r1, r2⟩ := cl_g_l (y := ni (a + gbn m n)) (out := out) hm hq q hsz n 0 n0 tb (by omega) (by omega) (fun j hj => by
        have e : gou m n (nv D a (gbn m n)) sz out 0 j = out j := if_neg (by omega)
        rw [e]
        exact ho j (by omega))
      refine ⟨ni (a + gbn m n), ni (sz + n), tb', ?_, fun _ => ⟨rfl, rfl, r2⟩⟩
      simp only [sq_bd]
      rw [show (1 : Int32) = ni 1 from rfl, ni_max (by omega) (by omega), Nat.max_eq_right (by omega)]
      exact r1
    · rw [if_neg (fun z => q ((ni_lt (by omega) (by omega)).mp z)), if_neg q]
      exact ⟨ni (a + gbn m n), ni sz, tb, rfl, fun z => absurd z (by omega)⟩
  · rw [if_neg h, if_neg h]
    simp only [sq_cb2]
    rw [if_pos trivial]
    exact ⟨ni a, ni sz, tb, rfl, fun z => absurd z (by omega)⟩
theorem md_g_l {m n x sz : Nat} {y4 y5 : Int32} {out : Nat → Nat} (hm : m < 3) (hq : n ≤ 3 - m) (hx : x < bsz m ^ n) (hsz : sz + n ≤ 3000) : ∀ (e i k : Nat) (b : Nat → Int32), i + e = n → e < k → oM b (sz + i) (gou m n x sz out i) → ∃ b', fn_Md_group_L1 (ni m) y4 y5 k (ni (x % bsz m ^ (n - i))) (ni (if i < n then bsz m ^ (n - 1 - i) else 0)) (ni (sz + i)) b = some (ni (sz + n), y4, y5, b') ∧ oM b' (sz + n) (gou m n x sz out n)
  | 0, i, k + 1, b, hi, _, hb => by
    obtain rfl : i = n := by omega
    refine ⟨b, ?_, hb⟩
    rw [if_neg (by omega), fn_Md_group_L1_s, if_pos (by decide)]
  | e + 1, i, k + 1, b, hi, hk, hb => by
    obtain ⟨c1, c2⟩ := bsz_b (m := m)
    have hxl := bsz_p hm hq
    have hb0 : bsz m ^ (n - i) ≤ 2025 := bsz_p hm (by omega)
    have hpw : bsz m ^ (n - i) = bsz m ^ (n - 1 - i) * bsz m := by rw [show n - i = n - 1 - i + 1 by omega, Nat.pow_succ]
    have hp1 : 1 ≤ bsz m ^ (n - 1 - i) := Nat.one_le_pow _ _ (by omega)
    have hp2 : bsz m ^ (n - 1 - i) ≤ 2025 := bsz_p hm (by omega)
    have hxm : x % bsz m ^ (n - i) ≤ x := Nat.mod_le _ _
    have hdig : x % bsz m ^ (n - i) / bsz m ^ (n - 1 - i) = x / bsz m ^ (n - 1 - i) % bsz m := by rw [hpw, Nat.mod_mul_right_div_self]
    have hmod : x % bsz m ^ (n - i) % bsz m ^ (n - 1 - i) = x % bsz m ^ (n - 1 - i) := by rw [hpw]; exact Nat.mod_mod_of_dvd _ (Nat.dvd_mul_right _ _)
    have hml : x / bsz m ^ (n - 1 - i) % bsz m < bsz m := Nat.mod_lt _ (by omega)
    have hnx : bsz m ^ (n - 1 - i) / bsz m = if i + 1 < n then bsz m ^ (n - 1 - (i + 1)) else 0 := by
      by_cases z : i + 1 < n
      · rw [if_pos z, show n - 1 - i = n - 1 - (i + 1) + 1 by omega, Nat.pow_succ, Nat.mul_div_cancel _ (by omega)]
      · rw [if_neg z, show n - 1 - i = 0 by omega, Nat.pow_zero, Nat.div_eq_of_lt (by omega)]
    obtain ⟨b', r1, r2⟩ := md_g_l (y4 := y4) (y5 := y5) hm hq hx hsz e (i + 1) k (upd b (sz + i) (ni (dgt m n x i))) (by omega) (by omega) (fun j hj => by
      rw [gou_s, upd_a]
      by_cases z : j = sz + i
      · rw [if_pos z, if_pos z]
      · rw [if_neg z, if_neg z]
        exact hb j (by omega))
    refine ⟨b', ?_, r2⟩
    have ea : fn_Md_take (ni (dgt m n x i)) (ni (sz + i)) b = some (ni (sz + (i + 1)), upd b (sz + i) (ni (dgt m n x i))) := by
      unfold fn_Md_take
      simp only [sq_bd]
      rw [ni_gi (by omega) (by omega), ni_ix (by omega), show (1 : Int32) = ni 1 from rfl, ni_add]
      rfl
    have hj1 : ∀ K : Int32 → Option (Int32 × Int32 × Int32 × (Nat → Int32)), sq_jn K (fun k25 => if ni m = 0 then (k25 ((48 : Int32) + ni (x / bsz m ^ (n - 1 - i) % bsz m))) else (if ni m = (1 : Int32) then (sq_cb1 (fn_Md_byteOf (ni (x / bsz m ^ (n - 1 - i) % bsz m))) fun r37 => k25 r37) else (k25 (ni (x / bsz m ^ (n - 1 - i) % bsz m))))) = K (ni (dgt m n x i)) := fun K => by
      simp only [sq_jn]
      unfold dgt
      generalize x / bsz m ^ (n - 1 - i) % bsz m = t at hml
      rcases (show m = 0 ∨ m = 1 ∨ m = 2 by omega) with rfl | rfl | rfl
      · have ht : t < 10 := hml
        rw [if_pos (show ni 0 = 0 from rfl), show (48 : Int32) = ni 48 from rfl, ni_add]
        congr 1
        show ni (48 + t) = ni (if t < 10 then 48 + t else _)
        rw [if_pos ht]
      · rw [if_neg (by decide), if_pos (show ni 1 = 1 from rfl), (cl_bo1 0 (by omega) t hml).2.1, cb1_e]
        rfl
      · rw [if_neg (by decide), if_neg (by decide)]
        rfl
    have hj2 : ∀ K : Int32 → Option (Int32 × Int32 × Int32 × (Nat → Int32)), sq_jn K (fun k30 => if ni m = 0 then (k30 (10 : Int32)) else (if ni m = (1 : Int32) then (k30 (45 : Int32)) else (k30 (256 : Int32)))) = K (ni (bsz m)) := fun K => by
      simp only [sq_jn]
      rcases (show m = 0 ∨ m = 1 ∨ m = 2 by omega) with rfl | rfl | rfl <;> rfl
    rw [if_pos (by omega), fn_Md_group_L1_s, if_neg (by rw [← ni_0]; exact fun z => absurd ((ni_le (by omega) (by omega)).mp z) (by omega)), ← r1]
    simp only [sq_bd]
    rw [ni_gz (by omega) (by omega), ni_gz (by omega) (by omega), ni_div (by omega) (by omega), ni_rem (by omega) (by omega), hdig, hmod, hj1, ea]
    simp only [sq_cb2]
    rw [hj2, ni_gz (by omega) (by omega), ni_div (by omega) (by omega), hnx, show n - (i + 1) = n - 1 - i by omega]
theorem md_gM {b rb : Nat → Int32} {D out : Nat → Nat} {m n a sz H n0 : Nat} (hn0 : 300 ≤ n0) (hm : m < 3) (hq : n ≤ 3 - m) (h1 : 1 ≤ n) (hH : H ≤ 3706) (ha : a ≤ 8 * H) (hb : ∀ p : Nat, p < H → b p = ni (D p) ∧ D p < 256) (hsz : sz + n ≤ 3000) (ho : oM rb sz out) : ∃ s' y rb', fn_Md_group n0 (ni m) (ni n) (ni sz) (ni a) (ni (8 * H)) 0 b rb = some (s', y, ni (gF D H m n a), rb') ∧ (gF D H m n a = 0 → y = ni (a + gbn m n) ∧ s' = ni (sz + n) ∧ oM rb' (sz + n) (gou m n (nv D a (gbn m n)) sz out n)) := by
  obtain ⟨g1, g2⟩ := gbn_b hm hq h1
  have hnb := nv_b (D := D) (a := a) (k := gbn m n) (by omega)
  have hbp := bsz_p hm hq
  obtain ⟨c1, c2⟩ := bsz_b (m := m)
  have hp1 : 1 ≤ bsz m ^ n := Nat.one_le_pow _ _ (by omega)
  have hj1 : ∀ K : Int32 → Option (Int32 × Int32 × Int32 × (Nat → Int32)), sq_jn K (fun k2 => if ni m = 0 then (k2 (((3 : Int32) * ni n) + (1 : Int32))) else (if ni m = (1 : Int32) then (k2 (((5 : Int32) * ni n) + (1 : Int32))) else (k2 (8 : Int32)))) = K (ni (gbn m n)) := fun K => by
    simp only [sq_jn]
    rcases (show m = 0 ∨ m = 1 ∨ m = 2 by omega) with rfl | rfl | rfl
    · rw [if_pos (show ni 0 = 0 from rfl), show (3 : Int32) = ni 3 from rfl, ni_mul, show (1 : Int32) = ni 1 from rfl, ni_add]; rfl
    · rw [if_neg (by decide), if_pos (show ni 1 = 1 from rfl), show (5 : Int32) = ni 5 from rfl, ni_mul, show (1 : Int32) = ni 1 from rfl, ni_add]; rfl
    · rw [if_neg (by decide), if_neg (by decide), show n = 1 by omega]; rfl
  have hj2 : ∀ K : Int32 → Option (Int32 × Int32 × Int32 × (Nat → Int32)), sq_jn K (fun k9 => if ni m = 0 then (if ni n = (3 : Int32) then (k9 (1000 : Int32)) else (if ni n = (2 : Int32) then (k9 (100 : Int32)) else (k9 (10 : Int32)))) else (if ni m = (1 : Int32) then (if ni n = (2 : Int32) then (k9 (2025 : Int32)) else (k9 (45 : Int32))) else (k9 (256 : Int32)))) = K (ni (bsz m ^ n)) := fun K => by
    simp only [sq_jn]
    rcases (show m = 0 ∨ m = 1 ∨ m = 2 by omega) with rfl | rfl | rfl
    · rcases (show n = 1 ∨ n = 2 ∨ n = 3 by omega) with rfl | rfl | rfl <;> rfl
    · rcases (show n = 1 ∨ n = 2 by omega) with rfl | rfl <;> rfl
    · rcases (show n = 1 by omega) with rfl; rfl
  have hj3 : ∀ K : Int32 → Option (Int32 × Int32 × Int32 × (Nat → Int32)), sq_jn K (fun k30 => if ni m = 0 then (k30 (10 : Int32)) else (if ni m = (1 : Int32) then (k30 (45 : Int32)) else (k30 (256 : Int32)))) = K (ni (bsz m)) := fun K => by
    simp only [sq_jn]
    rcases (show m = 0 ∨ m = 1 ∨ m = 2 by omega) with rfl | rfl | rfl <;> rfl
  unfold fn_Md_group gF
  rw [hj1, md_nx hn0 (by omega) hH ha hb]
  by_cases h : a + gbn m n ≤ 8 * H
  · rw [if_pos h, if_pos h]
    simp only [sq_cb3]
    rw [if_pos (by decide), hj2]
    by_cases q : nv D a (gbn m n) < bsz m ^ n
    · rw [if_pos ((ni_lt (by omega) (by omega)).mpr q), if_pos q, hj3]
      obtain ⟨rb', r1, r2⟩ := md_g_l (y4 := ni (a + gbn m n)) (y5 := 0) (out := out) hm hq q hsz n 0 n0 rb (by omega) (by omega) (fun j hj => by
        have e : gou m n (nv D a (gbn m n)) sz out 0 j = out j := if_neg (by omega)
        rw [e]
        exact ho j (by omega))
      refine ⟨ni (sz + n), ni (a + gbn m n), rb', ?_, fun _ => ⟨rfl, rfl, r2⟩⟩
      simp only [sq_bd]
      rw [ni_gz (by omega) (by omega), ni_div (by omega) (by omega)]
      rw [Nat.sub_zero, Nat.mod_eq_of_lt q, if_pos (by omega), Nat.sub_zero] at r1
      have hd : bsz m ^ n / bsz m = bsz m ^ (n - 1) := by
        have : bsz m ^ n = bsz m ^ (n - 1) * bsz m := by rw [← Nat.pow_succ, show (n - 1).succ = n by omega]
        rw [this, Nat.mul_div_cancel _ (by omega)]
      rw [hd]
      exact r1
    · rw [if_neg (fun z => q ((ni_lt (by omega) (by omega)).mp z)), if_neg q]
      exact ⟨ni sz, ni (a + gbn m n), rb, rfl, fun z => absurd z (by omega)⟩
  · rw [if_neg h, if_neg h]
    simp only [sq_cb3]
    rw [if_neg (by decide)]
    exact ⟨ni sz, ni a, rb, rfl, fun z => absurd z (by omega)⟩
