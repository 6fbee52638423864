/-! own rows: masks; the model goes through the free modules; the class takes codewords -/
def mk (k x y : Nat) : Bool := if k = 0 then decide ((x + y) % 2 = 0) else if k = 1 then decide (y % 2 = 0) else if k = 2 then decide (x % 3 = 0) else if k = 3 then decide ((x + y) % 3 = 0) else if k = 4 then decide ((x / 3 + y / 2) % 2 = 0) else if k = 5 then decide (x * y % 2 + x * y % 3 = 0) else if k = 6 then decide ((x * y % 2 + x * y % 3) % 2 = 0) else decide (((x + y) % 2 + x * y % 3) % 2 = 0)
theorem dc_if {p : Prop} [Decidable p] : (if p then some (ni 1) else some (ni 0)) = some (ni (b2 (decide p))) := by
  by_cases q : p
  · rw [if_pos q, decide_eq_true q]; rfl
  · rw [if_neg q, decide_eq_false q]; rfl
theorem cl_turned {k x y : Nat} (hk : k < 8) (hx : x < 1000) (hy : y < 1000) : fn_Frame_isTurned (ni k) (ni x) (ni y) = some (ni (b2 (mk k x y))) := by
  have hxy : x * y ≤ 1000 * 1000 := Nat.mul_le_mul (by omega) (by omega)
  unfold fn_Frame_isTurned mk
  simp (disch := omega) only [ni_lit, ni_eq, ni_add, ni_mul, ni_div, ni_rem, sq_bd, dc_if]
  by_cases a0 : k = 0
  · rw [if_pos a0, if_pos a0]
  by_cases a1 : k = 1
  · rw [if_neg a0, if_neg a0, if_pos a1, if_pos a1]
  by_cases a2 : k = 2
  · rw [if_neg a0, if_neg a0, if_neg a1, if_neg a1, if_pos a2, if_pos a2]
  by_cases a3 : k = 3
  · rw [if_neg a0, if_neg a0, if_neg a1, if_neg a1, if_neg a2, if_neg a2, if_pos a3, if_pos a3]
  by_cases a4 : k = 4
  · rw [if_neg a0, if_neg a0, if_neg a1, if_neg a1, if_neg a2, if_neg a2, if_neg a3, if_neg a3, if_pos a4, if_pos a4]
  by_cases a5 : k = 5
  · rw [if_neg a0, if_neg a0, if_neg a1, if_neg a1, if_neg a2, if_neg a2, if_neg a3, if_neg a3, if_neg a4, if_neg a4, if_pos a5, if_pos a5]
  by_cases a6 : k = 6
  · rw [if_neg a0, if_neg a0, if_neg a1, if_neg a1, if_neg a2, if_neg a2, if_neg a3, if_neg a3, if_neg a4, if_neg a4, if_neg a5, if_neg a5, if_pos a6, if_pos a6]
  · rw [if_neg a0, if_neg a0, if_neg a1, if_neg a1, if_neg a2, if_neg a2, if_neg a3, if_neg a3, if_neg a4, if_neg a4, if_neg a5, if_neg a5, if_neg a6, if_neg a6]
theorem md_masked : fn_Md_masked = fn_Frame_isTurned := rfl
theorem mk_12 (k x y : Nat) : mk k x (y % 12) = mk k x y := by
  have h2 : x * (y % 12) % 2 = x * y % 2 := by rw [Nat.mul_mod, Nat.mod_mod_of_dvd _ (by decide), ← Nat.mul_mod]
  have h3 : x * (y % 12) % 3 = x * y % 3 := by rw [Nat.mul_mod, Nat.mod_mod_of_dvd _ (by decide), ← Nat.mul_mod]
  unfold mk
  rw [h2, h3, show (x + y % 12) % 2 = (x + y) % 2 by omega, show y % 12 % 2 = y % 2 by omega, show (x + y % 12) % 3 = (x + y) % 3 by omega, show (x / 3 + y % 12 / 2) % 2 = (x / 3 + y / 2) % 2 by omega]
theorem b2_x (a b : Bool) : b2 a ^^^ b2 b = b2 (a ^^ b) := by cases a <;> cases b <;> rfl
def MR (md : Nat → Int32) (s : Nat) (P : Nat → Nat → Bool) : Prop := ∀ a b : Nat, a < s → b < s → md (a + 177 * b) = ni (b2 (P a b))
theorem MR_cg {md : Nat → Int32} {s : Nat} {P Q : Nat → Nat → Bool} (h : MR md s P) (e : ∀ a b : Nat, a < s → b < s → P a b = Q a b) : MR md s Q := fun a b ha hb => by rw [← e a b ha hb]; exact h a b ha hb
/-- as PT, for the model: masked -/
def PM (s : Nat) (f B : Nat → Nat → Bool) (V : Nat → Bool) (k n : Nat) (P : Nat → Nat → Bool) : Prop := (∀ a b : Nat, a < s → b < s → (f a b = true ∨ a = 6) → P a b = B a b) ∧ ∀ j : Nat, j < zN s → zE s f j = 1 → P (zx s j) (zy s j) = if j < n then (V (sc (zE s f) j) ^^ mk k (zx s j) (zy s j)) else B (zx s j) (zy s j)
theorem PM_0 {s : Nat} {f B : Nat → Nat → Bool} {V : Nat → Bool} {k n : Nat} {P : Nat → Nat → Bool} (hE : zE s f n = 0) (h : PM s f B V k n P) : PM s f B V k (n + 1) P := by
  refine ⟨h.1, fun j hj hEj => ?_⟩
  rw [h.2 j hj hEj]
  by_cases w : j = n
  · subst w; omega
  · by_cases z : j < n
    · rw [if_pos z, if_pos (by omega)]
    · rw [if_neg z, if_neg (by omega)]
theorem PM_1 {s h : Nat} {f B : Nat → Nat → Bool} {V : Nat → Bool} {k n : Nat} {P : Nat → Nat → Bool} (hs : s = 2 * h + 1) (hn : n < zN s) (hE : zE s f n = 1) (hP : PM s f B V k n P) : PM s f B V k (n + 1) (fun a b => if a = zx s n ∧ b = zy s n then (V (sc (zE s f) n) ^^ mk k a b) else P a b) := by
  obtain ⟨i1, i2, i3, i4⟩ := z_in hs hn
  refine ⟨fun a b ha hb hab => ?_, fun j hj hEj => ?_⟩
  · dsimp only
    rw [if_neg (fun w => ?_)]
    · exact hP.1 a b ha hb hab
    · rcases hab with w2 | w2
      · unfold zE at hE
        rw [← w.1, ← w.2, if_pos w2] at hE
        omega
      · omega
  · dsimp only
    by_cases w : j = n
    · subst w
      rw [if_pos ⟨rfl, rfl⟩, if_pos (by omega)]
    · rw [if_neg (fun w2 => w (z_inj hs hj hn w2.1 w2.2)), hP.2 j hj hEj]
      by_cases w2 : j < n
      · rw [if_pos w2, if_pos (by omega)]
      · rw [if_neg w2, if_neg (by omega)]
theorem bit_r {w c : Nat} (hw : w < 256) (hc : c < 8) : ((ni w >>> (((7 : Int32) - ni c) &&& 31)) &&& 1) = ni (b2 (w.testBit (7 - c))) := by
  have han : 7 - c &&& 31 = 7 - c := by rw [show (31 : Nat) = 2 ^ 5 - 1 from rfl, an_p, Nat.mod_eq_of_lt (by omega)]
  rw [← tb_b2]
  have hlt : w >>> (7 - c) &&& 1 < 2 := by rw [Nat.and_one_is_mod]; omega
  simp (disch := omega) only [ni_lit, ni_sub, ni_and, han, ni_shr]
  by_cases q : w >>> (7 - c) &&& 1 = 1
  · rw [q, if_pos rfl]
  · rw [if_neg q, show w >>> (7 - c) &&& 1 = 0 by omega]
/-- down: a pair of columns -/
theorem gt2 {fx wd : Nat → Int32} {s h k T p : Nat} {f B : Nat → Nat → Bool} {W : Nat → Nat} (hs : s = 2 * h + 1) (hs1 : 21 ≤ s) (hs2 : s ≤ 177) (hk : k < 8) (hT : T ≤ 3706) (hp : p < h) (hfx : ∀ a b : Nat, a < s → b < s → fx (a + 177 * b) = ni (b2 (f a b))) (hwd : ∀ i : Nat, i < T → wd i = ni (W i) ∧ W i < 256) : ∀ (e t m : Nat) (md : Nat → Int32) (P : Nat → Nat → Bool), t + e = 2 * s → e < m → MR md s P → PM s f B (fun i => decide (i < 8 * T) && wbit W i) k (2 * s * p + t) P → ∃ md' P', (∀ k13, fn_Md_goThrough_L2 (ni k) 0 (ni T) (ni s) fx (ni (b2 (decide (p % 2 = 0)))) (ni (zR s p)) k13 m (ni (sc (zE s f) (2 * s * p + t))) (ni t) md wd = k13 (ni (sc (zE s f) (2 * s * (p + 1)))) md' wd) ∧ MR md' s P' ∧ PM s f B (fun i => decide (i < 8 * T) && wbit W i) k (2 * s * (p + 1)) P'
  | 0, t, m + 1, md, P, ht, _, hm, hP => by
    have htt : t = 2 * s := by omega
    subst htt
    have e9 : 2 * s * p + 2 * s = 2 * s * (p + 1) := by rw [Nat.mul_add, Nat.mul_one]
    rw [e9] at hP ⊢
    refine ⟨md, P, fun k13 => ?_, hm, hP⟩
    rw [fn_Md_goThrough_L2_s]
    simp (disch := omega) only [ni_lit, ni_mul, ni_le]
    rw [if_pos (by omega)]
  | e + 1, t, m + 1, md, P, ht, hmm, hm, hP => by
    have htl : t < 2 * s := by omega
    obtain ⟨z1, z2⟩ := z_pt (p := p) htl
    have hmul : 2 * s * (p + 1) ≤ 2 * s * h := Nat.mul_le_mul_left _ hp
    rw [Nat.mul_add] at hmul
    have hnN : 2 * s * p + t < zN s := by rw [zN_e hs]; omega
    obtain ⟨i1, i2, i3, i4⟩ := z_in hs hnN
    rw [z1] at i3
    have ezx : zx s (2 * s * p + t) = zR s p - t % 2 := by unfold zx; rw [z1, z2]
    have ezy : zy s (2 * s * p + t) = if p % 2 = 0 then s - 1 - t / 2 else t / 2 := by unfold zy; rw [z1, z2]
    have hscl := sc_le (zE s f) (2 * s * p + t)
    have hNl : zN s ≤ 177 * 176 := Nat.mul_le_mul hs2 (by omega)
    have hjy : ∀ K : Int32 → Option ((Nat → Int32) × (Nat → Int32)), sq_jn K (fun k24 => if ni (b2 (decide (p % 2 = 0))) = 0 then k24 (ni t / 2) else k24 ((ni s - 1) - (ni t / 2))) = K (ni (zy s (2 * s * p + t))) := fun K => by
      rw [ezy]
      simp (disch := omega) only [ni_lit, ni_div, ni_sub, sq_jn]
      by_cases w : p % 2 = 0
      · rw [decide_eq_true w, if_neg (by decide), if_pos w]
      · rw [decide_eq_false w, if_pos (show ni (b2 false) = ni 0 from rfl), if_neg w]
    have hxx : ni (zR s p) - sq_rem (ni t) 2 = ni (zx s (2 * s * p + t)) := by
      rw [show (2 : Int32) = ni 2 from rfl, ni_rem (by omega) (by omega), ni_sub (by omega), ezx]
    have hst : ∀ k13, fn_Md_goThrough_L2 (ni k) 0 (ni T) (ni s) fx (ni (b2 (decide (p % 2 = 0)))) (ni (zR s p)) k13 (m + 1) (ni (sc (zE s f) (2 * s * p + t))) (ni t) md wd = if zE s f (2 * s * p + t) = 1 then fn_Md_goThrough_L2 (ni k) 0 (ni T) (ni s) fx (ni (b2 (decide (p % 2 = 0)))) (ni (zR s p)) k13 m (ni (sc (zE s f) (2 * s * p + t) + 1)) (ni (t + 1)) (upd md (zx s (2 * s * p + t) + 177 * zy s (2 * s * p + t)) (ni (b2 ((decide (sc (zE s f) (2 * s * p + t) < 8 * T) && wbit W (sc (zE s f) (2 * s * p + t))) ^^ mk k (zx s (2 * s * p + t)) (zy s (2 * s * p + t)))))) wd else fn_Md_goThrough_L2 (ni k) 0 (ni T) (ni s) fx (ni (b2 (decide (p % 2 = 0)))) (ni (zR s p)) k13 m (ni (sc (zE s f) (2 * s * p + t))) (ni (t + 1)) md wd := fun k13 => by
      have efx := hfx _ _ i1 i2
      have emk := cl_turned (k := k) (x := zx s (2 * s * p + t)) (y := zy s (2 * s * p + t)) hk (by omega) (by omega)
      rw [fn_Md_goThrough_L2_s, if_neg (by rw [show (2 : Int32) = ni 2 from rfl, ni_mul, ni_le (by omega) (by omega)]; omega), hjy]
      simp only [sq_bd, hxx, md_masked, emk]
      unfold fn_Md_moduleAt
      generalize hX : zx s (2 * s * p + t) = X at *
      generalize hY : zy s (2 * s * p + t) = Y at *
      generalize hS : sc (zE s f) (2 * s * p + t) = q at *
      have hmo : ni X + (177 : Int32) * ni Y = ni (X + 177 * Y) := by simp only [ni_lit, ni_mul, ni_add]
      simp only [sq_cb1, hmo]
      rw [ni_gi (by omega) (by omega), ni_ix (by omega), efx]
      unfold zE
      rw [hX, hY]
      have et : ni t + 1 = ni (t + 1) := by rw [show (1 : Int32) = ni 1 from rfl, ni_add]
      have eq1 : ni q + 1 = ni (q + 1) := by rw [show (1 : Int32) = ni 1 from rfl, ni_add]
      simp only [sq_jn, et, eq1]
      by_cases w : f X Y = true
      · rw [w, if_neg (show ¬ ni (b2 true) = 0 from by decide), if_pos (show true = true from rfl), if_neg (show ¬ (0 : Nat) = 1 from by decide)]
      · have w2 : f X Y = false := by simpa using w
        rw [w2, if_pos (show ni (b2 false) = 0 from rfl)]
        rw [if_neg (show ¬ (false = true) from by decide), if_pos (show (1 : Nat) = 1 from rfl)]
        simp only [if_true]
        have key : ∀ (c : Bool) (C : Int32), C = ni (b2 c) → (if (8 : Int32) * ni T ≤ ni q then sq_gi (ni (X + 177 * Y)) 31329 (fn_Md_goThrough_L2 (ni k) 0 (ni T) (ni s) fx (ni (b2 (decide (p % 2 = 0)))) (ni (zR s p)) k13 m (ni (q + 1)) (ni (t + 1)) (upd md (X + 177 * Y) (0 ^^^ C)) wd) else sq_gi (ni q / 8) 3800 (sq_gi (ni (X + 177 * Y)) 31329 (fn_Md_goThrough_L2 (ni k) 0 (ni T) (ni s) fx (ni (b2 (decide (p % 2 = 0)))) (ni (zR s p)) k13 m (ni (q + 1)) (ni (t + 1)) (upd md (X + 177 * Y) (wd (ni q / 8).toNatClampNeg >>> ((7 - sq_rem (ni q) 8) &&& 31) &&& 1 ^^^ C)) wd))) = fn_Md_goThrough_L2 (ni k) 0 (ni T) (ni s) fx (ni (b2 (decide (p % 2 = 0)))) (ni (zR s p)) k13 m (ni (q + 1)) (ni (t + 1)) (upd md (X + 177 * Y) (ni (b2 ((decide (q < 8 * T) && wbit W q) ^^ c)))) wd := fun c C hC => by
          rw [hC, show (8 : Int32) = ni 8 from rfl, ni_mul]
          by_cases z : q < 8 * T
          · obtain ⟨w3, w4⟩ := hwd (q / 8) (by omega)
            rw [if_neg (by rw [ni_le (by omega) (by omega)]; omega), ni_div (by omega) (by omega), ni_gi (by omega) (by omega), ni_gi (by omega) (by omega), ni_ix (by omega), w3, ni_rem (by omega) (by omega), bit_r w4 (by omega), ni_xor, b2_x, decide_eq_true z]
            rfl
          · rw [if_pos (by rw [ni_le (by omega) (by omega)]; omega), ni_gi (by omega) (by omega), ← ni_0, ni_xor, show (0 : Nat) = b2 false from rfl, b2_x, decide_eq_false z]
            rfl
        cases hmk : mk k X Y with
        | false =>
          rw [if_pos (show ni (b2 false) = 0 from rfl)]
          exact key false 0 rfl
        | true =>
          rw [if_neg (show ¬ ni (b2 true) = 0 from by decide)]
          exact key true 1 rfl
    have e9 : 2 * s * p + t + 1 = 2 * s * p + (t + 1) := by omega
    by_cases w : zE s f (2 * s * p + t) = 1
    · have hP1 := PM_1 hs hnN w hP
      have hsc : sc (zE s f) (2 * s * p + t) + 1 = sc (zE s f) (2 * s * p + (t + 1)) := by rw [← e9, sc_s, w]; rfl
      rw [e9] at hP1
      obtain ⟨md', P', g1, g2, g3⟩ := gt2 hs hs1 hs2 hk hT hp hfx hwd e (t + 1) m (upd md (zx s (2 * s * p + t) + 177 * zy s (2 * s * p + t)) (ni (b2 ((decide (sc (zE s f) (2 * s * p + t) < 8 * T) && wbit W (sc (zE s f) (2 * s * p + t))) ^^ mk k (zx s (2 * s * p + t)) (zy s (2 * s * p + t)))))) _ (by omega) (by omega) (fun a b ha hb => by
        rw [upd_a]
        by_cases z : a = zx s (2 * s * p + t) ∧ b = zy s (2 * s * p + t)
        · rw [if_pos (by rw [z.1, z.2]), if_pos z, z.1, z.2]
        · rw [if_neg (by omega), if_neg z]
          exact hm a b ha hb) hP1
      exact ⟨md', P', fun k13 => by rw [hst, if_pos w, hsc]; exact g1 k13, g2, g3⟩
    · have w0 : zE s f (2 * s * p + t) = 0 := (zE_01 s f _).resolve_right w
      have hP1 := PM_0 w0 hP
      have hsc : sc (zE s f) (2 * s * p + t) = sc (zE s f) (2 * s * p + (t + 1)) := by rw [← e9, sc_s, w0]; rfl
      rw [e9] at hP1
      obtain ⟨md', P', g1, g2, g3⟩ := gt2 hs hs1 hs2 hk hT hp hfx hwd e (t + 1) m md P (by omega) (by omega) hm hP1
      exact ⟨md', P', fun k13 => by rw [hst, if_neg w, hsc]; exact g1 k13, g2, g3⟩
def xr (s p : Nat) : Int32 := if 6 < s - 1 - 2 * p then ni (s - 1 - 2 * p) else if s - 1 - 2 * p = 6 then ni 6 else ni (s - 1 - 2 * p) - ni 1
theorem xr_R {s h p : Nat} (hs : s = 2 * h + 1) (hs2 : s ≤ 177) (hp : p < h) : (¬ xr s p ≤ 0) ∧ (if xr s p = 6 then (5 : Int32) else xr s p) = ni (zR s p) ∧ ni (zR s p) + -2 = xr s (p + 1) := by
  have hm2 : ∀ a : Nat, 2 ≤ a → a < 1000 → ni a + -2 = ni (a - 2) := fun a h1 h2 => by
    rw [show (-2 : Int32) = -(ni 1) + -(ni 1) from by decide, ← Int32.add_assoc, ni_dc (by omega), ni_dc (by omega)]; rfl
  by_cases w : 6 < s - 1 - 2 * p
  · have hx : xr s p = ni (s - 1 - 2 * p) := if_pos w
    have hz : zR s p = s - 1 - 2 * p := if_pos w
    have hx1 : xr s (p + 1) = ni (s - 1 - 2 * p - 2) := by
      unfold xr
      by_cases z : 6 < s - 1 - 2 * (p + 1)
      · rw [if_pos z, show s - 1 - 2 * (p + 1) = s - 1 - 2 * p - 2 by omega]
      · rw [if_neg z, if_pos (by omega), show s - 1 - 2 * p - 2 = 6 by omega]
    rw [hx, hz, hx1, ← ni_0, show (6 : Int32) = ni 6 from rfl, ni_le (by omega) (by omega)]
    refine ⟨by omega, ?_, hm2 _ (by omega) (by omega)⟩
    rw [if_neg (by rw [ni_eq (by omega) (by omega)]; omega)]
  · by_cases z : s - 1 - 2 * p = 6
    · have hx : xr s p = ni 6 := by unfold xr; rw [if_neg w, if_pos z]
      have hz : zR s p = 5 := by unfold zR; rw [if_neg w, z]
      have hx1 : xr s (p + 1) = ni 4 - ni 1 := by unfold xr; rw [if_neg (by omega), if_neg (by omega), show s - 1 - 2 * (p + 1) = 4 by omega]
      rw [hx, hz, hx1]
      decide
    · have hx : xr s p = ni (s - 1 - 2 * p - 1) := by unfold xr; rw [if_neg w, if_neg z, ni_sub (by omega)]
      have hz : zR s p = s - 1 - 2 * p - 1 := if_neg w
      have hx1 : xr s (p + 1) = ni (s - 1 - 2 * (p + 1)) - ni 1 := by unfold xr; rw [if_neg (by omega), if_neg (by omega)]
      rw [hx, hz, hx1, ← ni_0, show (6 : Int32) = ni 6 from rfl, ni_le (by omega) (by omega)]
      refine ⟨by omega, ?_, ?_⟩
      · rw [if_neg (by rw [ni_eq (by omega) (by omega)]; omega)]
      · by_cases y : s - 1 - 2 * p - 1 = 1
        · rw [y, show s - 1 - 2 * (p + 1) = 0 by omega]; decide
        · rw [hm2 _ (by omega) (by omega), ni_sub (by omega), show s - 1 - 2 * (p + 1) - 1 = s - 1 - 2 * p - 1 - 2 by omega]
theorem gt1 {fx wd : Nat → Int32} {s h k T n0 : Nat} {f B : Nat → Nat → Bool} {W : Nat → Nat} (hn0 : 300 ≤ n0) (hn1 : 400 ≤ n0) (hs : s = 2 * h + 1) (hs1 : 21 ≤ s) (hs2 : s ≤ 177) (hk : k < 8) (hT : T ≤ 3706) (hfx : ∀ a b : Nat, a < s → b < s → fx (a + 177 * b) = ni (b2 (f a b))) (hwd : ∀ i : Nat, i < T → wd i = ni (W i) ∧ W i < 256) : ∀ (e p m : Nat) (md : Nat → Int32) (P : Nat → Nat → Bool), p + e = h → e < m → MR md s P → PM s f B (fun i => decide (i < 8 * T) && wbit W i) k (2 * s * p) P → ∃ md' P', fn_Md_goThrough_L1 (ni k) 0 (ni T) n0 (ni s) fx m (ni (sc (zE s f) (2 * s * p))) (ni (b2 (decide (p % 2 = 0)))) (xr s p) md wd = some (md', wd) ∧ MR md' s P' ∧ PM s f B (fun i => decide (i < 8 * T) && wbit W i) k (zN s) P'
  | 0, p, m + 1, md, P, hp, _, hm, hP => by
    have hph : p = h := by omega
    subst hph
    refine ⟨md, P, ?_, hm, by rw [zN_e hs]; exact hP⟩
    rw [fn_Md_goThrough_L1_s, if_pos]
    unfold xr
    rw [if_neg (by omega), if_neg (by omega), show s - 1 - 2 * p = 0 by omega]
    decide
  | e + 1, p, m + 1, md, P, hp, hmm, hm, hP => by
    obtain ⟨x1, x2, x3⟩ := xr_R (p := p) hs hs2 (by omega)
    obtain ⟨md1, P1, e1, h1, h2⟩ := gt2 (p := p) hs hs1 hs2 hk hT (by omega) hfx hwd (2 * s) 0 n0 md P (by omega) (by omega) hm hP
    obtain ⟨md', P', g1, g2, g3⟩ := gt1 hn0 hn1 hs hs1 hs2 hk hT hfx hwd e (p + 1) m md1 P1 (by omega) (by omega) h1 h2
    refine ⟨md', P', ?_, g2, g3⟩
    have hj : ∀ K : Int32 → Option ((Nat → Int32) × (Nat → Int32)), sq_jn K (fun k9 => if xr s p = 6 then k9 5 else k9 (xr s p)) = K (ni (zR s p)) := fun K => by
      rw [← x2]
      simp only [sq_jn]
      by_cases w : xr s p = 6
      · rw [if_pos w, if_pos w]
      · rw [if_neg w, if_neg w]
    have hj2 : ∀ K : Int32 → Option ((Nat → Int32) × (Nat → Int32)), sq_jn K (fun k15 => if ni (b2 (decide (p % 2 = 0))) = 0 then k15 1 else k15 0) = K (ni (b2 (decide ((p + 1) % 2 = 0)))) := fun K => by
      simp only [sq_jn]
      by_cases w : p % 2 = 0
      · rw [decide_eq_true w, if_neg (by decide), decide_eq_false (show ¬ (p + 1) % 2 = 0 by omega)]; rfl
      · rw [decide_eq_false w, if_pos (by decide), decide_eq_true (show (p + 1) % 2 = 0 by omega)]; rfl
    have e1' : ∀ k13, fn_Md_goThrough_L2 (ni k) 0 (ni T) (ni s) fx (ni (b2 (decide (p % 2 = 0)))) (ni (zR s p)) k13 n0 (ni (sc (zE s f) (2 * s * p))) 0 md wd = k13 (ni (sc (zE s f) (2 * s * (p + 1)))) md1 wd := e1
    rw [fn_Md_goThrough_L1_s, if_neg x1, hj]
    simp only [sq_bd, x3, hj2]
    rw [sq_jne, e1', g1]
theorem md_go {fx wd md : Nat → Int32} {s h k T n0 : Nat} {f B : Nat → Nat → Bool} {W : Nat → Nat} (hn0 : 400 ≤ n0) (hs : s = 2 * h + 1) (hs1 : 21 ≤ s) (hs2 : s ≤ 177) (hk : k < 8) (hT : T ≤ 3706) (hfx : ∀ a b : Nat, a < s → b < s → fx (a + 177 * b) = ni (b2 (f a b))) (hwd : ∀ i : Nat, i < T → wd i = ni (W i) ∧ W i < 256) (hm : MR md s B) : ∃ md' P', fn_Md_goThrough n0 (ni k) 0 (ni T) (ni s) fx md wd = some (md', wd) ∧ MR md' s P' ∧ (∀ a b : Nat, a < s → b < s → (f a b = true ∨ a = 6) → P' a b = B a b) ∧ ∀ j : Nat, j < zN s → zE s f j = 1 → P' (zx s j) (zy s j) = ((decide (sc (zE s f) j < 8 * T) && wbit W (sc (zE s f) j)) ^^ mk k (zx s j) (zy s j)) := by
  obtain ⟨md', P', e1, h1, h2⟩ := gt1 (B := B) (by omega) hn0 hs hs1 hs2 hk hT hfx hwd h 0 n0 md B (by omega) (by omega) hm ⟨fun _ _ _ _ _ => rfl, fun j hj hE => by rw [if_neg (by omega)]⟩
  refine ⟨md', P', ?_, h1, h2.1, fun j hj hE => by rw [h2.2 j hj hE, if_pos hj]⟩
  rw [Nat.mul_zero] at e1
  unfold fn_Md_goThrough
  simp only [sq_bd]
  have ex : ni s - 1 = xr s 0 := by
    unfold xr
    rw [show (1 : Int32) = ni 1 from rfl, ni_sub (by omega), Nat.mul_zero, Nat.sub_zero, if_pos (by omega)]
  rw [ex]
  exact e1
