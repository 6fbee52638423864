/-! the model reads its words off the modules -/
def sbN (w i : Nat) (b : Bool) : Nat := if w.testBit i = b then w else w ^^^ 2 ^ i
theorem sb_k : ∀ w : Nat, w < 256 → ∀ c : Nat, c < 8 → ∀ b : Bool, (ni w &&& (((1 : Int32) <<< (((7 : Int32) - ni c) &&& 31)) ^^^ (-1 : Int32))) ||| (ni (b2 b) <<< (((7 : Int32) - ni c) &&& 31)) = ni (sbN w (7 - c) b) ∧ sbN w (7 - c) b < 256 := by decide +kernel
theorem sb_t (w i j : Nat) (b : Bool) : (sbN w i b).testBit j = if j = i then b else w.testBit j := by
  unfold sbN
  by_cases h : w.testBit i = b
  · rw [if_pos h]
    by_cases q : j = i
    · rw [if_pos q, q, h]
    · rw [if_neg q]
  · rw [if_neg h, Nat.testBit_xor, Nat.testBit_two_pow]
    by_cases q : j = i
    · rw [if_pos q, q, decide_eq_true rfl]
      revert h
      cases w.testBit i <;> cases b <;> decide
    · rw [if_neg q, decide_eq_false (fun z => q z.symm), Bool.xor_false]
theorem pl_sc (E : Nat → Nat) : ∀ (n j : Nat), j < n → E j ≠ 0 → pl E n (sc E j) = j
  | n + 1, j, hj, hE => by
    rw [pl_s]
    by_cases q : j = n
    · rw [q, if_pos rfl]
    · rw [if_neg (by have := sc_lt2 (a := j) (b := n) (by omega) hE; omega)]
      exact pl_sc E n j (by omega) hE
def UI (V : Nat → Bool) (T c : Nat) (wd : Nat → Int32) : Prop := ∃ w : Nat → Nat, (∀ i : Nat, i < 3800 → wd i = ni (w i) ∧ w i < 256) ∧ ∀ q : Nat, q < c → q < 8 * T → wbit w q = V q
theorem UI_s {V : Nat → Bool} {T c : Nat} {w : Nat → Nat} {wd : Nat → Int32} (hT : T ≤ 3706) (hc : c < 8 * T) (h1 : ∀ i : Nat, i < 3800 → wd i = ni (w i) ∧ w i < 256) (h2 : ∀ q : Nat, q < c → q < 8 * T → wbit w q = V q) : UI V T (c + 1) (upd wd (c / 8) (ni (sbN (w (c / 8)) (7 - c % 8) (V c)))) := by
  refine ⟨fun i => if i = c / 8 then sbN (w (c / 8)) (7 - c % 8) (V c) else w i, fun i hi => ?_, fun q hq hq2 => ?_⟩
  · rw [upd_a]
    by_cases z : i = c / 8
    · rw [if_pos z]
      show _ = ni (if i = c / 8 then _ else _) ∧ (if i = c / 8 then _ else _) < 256
      rw [if_pos z]
      exact ⟨rfl, (sb_k _ (h1 (c / 8) (by omega)).2 (c % 8) (by omega) (V c)).2⟩
    · rw [if_neg z]
      show _ = ni (if i = c / 8 then _ else _) ∧ (if i = c / 8 then _ else _) < 256
      rw [if_neg z]
      exact h1 i hi
  · unfold wbit
    show Nat.testBit (if q / 8 = c / 8 then _ else _) _ = _
    by_cases z : q / 8 = c / 8
    · rw [if_pos z, sb_t]
      by_cases y : q = c
      · rw [y, if_pos rfl]
      · rw [if_neg (by omega), ← z]
        exact h2 q (by omega) hq2
    · rw [if_neg z]
      exact h2 q (by omega) hq2
theorem UI_c {V : Nat → Bool} {T c : Nat} {wd : Nat → Int32} (hc : 8 * T ≤ c) (h : UI V T c wd) : UI V T (c + 1) wd := by
  obtain ⟨w, h1, h2⟩ := h
  exact ⟨w, h1, fun q hq hq2 => h2 q (by omega) hq2⟩
theorem gu2 {fx md : Nat → Int32} {s h k T p : Nat} {f P : Nat → Nat → Bool} {V : Nat → Bool} (hs : s = 2 * h + 1) (hs1 : 21 ≤ s) (hs2 : s ≤ 177) (hk : k < 8) (hT : T ≤ 3706) (hp : p < h) (hfx : ∀ a b : Nat, a < s → b < s → fx (a + 177 * b) = ni (b2 (f a b))) (hm : MR md s P) (hV : ∀ j : Nat, j < zN s → zE s f j = 1 → V (sc (zE s f) j) = (P (zx s j) (zy s j) ^^ mk k (zx s j) (zy s j))) : ∀ (e t m : Nat) (wd : Nat → Int32), t + e = 2 * s → e < m → UI V T (sc (zE s f) (2 * s * p + t)) wd → ∃ wd', (∀ k13, fn_Md_goThrough_L2 (ni k) 1 (ni T) (ni s) fx (ni (b2 (decide (p % 2 = 0)))) (ni (zR s p)) k13 m (ni (sc (zE s f) (2 * s * p + t))) (ni t) md wd = k13 (ni (sc (zE s f) (2 * s * (p + 1)))) md wd') ∧ UI V T (sc (zE s f) (2 * s * (p + 1))) wd'
  | 0, t, m + 1, wd, ht, _, hU => by
    have htt : t = 2 * s := by omega
    subst htt
    have e9 : 2 * s * p + 2 * s = 2 * s * (p + 1) := by rw [Nat.mul_add, Nat.mul_one]
    rw [e9] at hU ⊢
    refine ⟨wd, fun k13 => ?_, hU⟩
    rw [fn_Md_goThrough_L2_s]
    simp (disch := omega) only [ni_lit, ni_mul, ni_le]
    rw [if_pos (by omega)]
  | e + 1, t, m + 1, wd, ht, hmm, hU => by
    have htl : t < 2 * s := by omega
    obtain ⟨z1, z2⟩ := z_pt (p := p) htl
    have hmul : 2 * s * (p + 1) ≤ 2 * s * h := Nat.mul_le_mul_left _ hp
    rw [Nat.mul_add] at hmul
    have hnN : 2 * s * p + t < zN s := by rw [zN_e hs]; omega
    obtain ⟨i1, i2, i3, i4⟩ := z_in hs hnN
    rw [z1] at i3
    have ezx : zx s (2 * s * p + t) = zR s p - t % 2 := by unfold zx; rw [z1, z2]
    have ezy : zy s (2 * s * p + t) = if p % 2 = 0 then s - 1 - t / 2 else t / 2 := by unfold zy; rw [z1, z2]
    have hscl := sc_le (zE s f) (2 * s * p + t)
    have hNl : zN s ≤ 177 * 176 := Nat.mul_le_mul hs2 (by omega)
    have hjy : ∀ K : Int32 → Option ((Nat → Int32) × (Nat → Int32)), sq_jn K (fun k24 => if ni (b2 (decide (p % 2 = 0))) = 0 then k24 (ni t / 2) else k24 ((ni s - 1) - (ni t / 2))) = K (ni (zy s (2 * s * p + t))) := fun K => by
      rw [ezy]
      simp (disch := omega) only [ni_lit, ni_div, ni_sub, sq_jn]
      by_cases w : p % 2 = 0
      · rw [decide_eq_true w, if_neg (by decide), if_pos w]
      · rw [decide_eq_false w, if_pos (show ni (b2 false) = ni 0 from rfl), if_neg w]
    have hxx : ni (zR s p) - sq_rem (ni t) 2 = ni (zx s (2 * s * p + t)) := by
      rw [show (2 : Int32) = ni 2 from rfl, ni_rem (by omega) (by omega), ni_sub (by omega), ezx]
    have hst : ∀ k13, fn_Md_goThrough_L2 (ni k) 1 (ni T) (ni s) fx (ni (b2 (decide (p % 2 = 0)))) (ni (zR s p)) k13 (m + 1) (ni (sc (zE s f) (2 * s * p + t))) (ni t) md wd = if zE s f (2 * s * p + t) = 1 then fn_Md_goThrough_L2 (ni k) 1 (ni T) (ni s) fx (ni (b2 (decide (p % 2 = 0)))) (ni (zR s p)) k13 m (ni (sc (zE s f) (2 * s * p + t) + 1)) (ni (t + 1)) md (if sc (zE s f) (2 * s * p + t) < 8 * T then upd wd (sc (zE s f) (2 * s * p + t) / 8) ((wd (sc (zE s f) (2 * s * p + t) / 8) &&& (((1 : Int32) <<< (((7 : Int32) - ni (sc (zE s f) (2 * s * p + t) % 8)) &&& 31)) ^^^ (-1 : Int32))) ||| (ni (b2 (P (zx s (2 * s * p + t)) (zy s (2 * s * p + t)) ^^ mk k (zx s (2 * s * p + t)) (zy s (2 * s * p + t)))) <<< (((7 : Int32) - ni (sc (zE s f) (2 * s * p + t) % 8)) &&& 31))) else wd) else fn_Md_goThrough_L2 (ni k) 1 (ni T) (ni s) fx (ni (b2 (decide (p % 2 = 0)))) (ni (zR s p)) k13 m (ni (sc (zE s f) (2 * s * p + t))) (ni (t + 1)) md wd := fun k13 => by
      have efx := hfx _ _ i1 i2
      have emd := hm _ _ i1 i2
      have emk := cl_turned (k := k) (x := zx s (2 * s * p + t)) (y := zy s (2 * s * p + t)) hk (by omega) (by omega)
      rw [fn_Md_goThrough_L2_s, if_neg (by rw [show (2 : Int32) = ni 2 from rfl, ni_mul, ni_le (by omega) (by omega)]; omega), hjy]
      simp only [sq_bd, hxx, md_masked, emk]
      unfold fn_Md_moduleAt
      generalize hX : zx s (2 * s * p + t) = X at *
      generalize hY : zy s (2 * s * p + t) = Y at *
      generalize hS : sc (zE s f) (2 * s * p + t) = q at *
      have hmo : ni X + (177 : Int32) * ni Y = ni (X + 177 * Y) := by simp only [ni_lit, ni_mul, ni_add]
      simp only [sq_cb1, hmo]
      rw [ni_gi (by omega) (by omega), ni_ix (by omega), efx]
      unfold zE
      rw [hX, hY]
      have et : ni t + 1 = ni (t + 1) := by rw [show (1 : Int32) = ni 1 from rfl, ni_add]
      have eq1 : ni q + 1 = ni (q + 1) := by rw [show (1 : Int32) = ni 1 from rfl, ni_add]
      simp only [sq_jn, et, eq1]
      by_cases w : f X Y = true
      · rw [w, if_neg (show ¬ ni (b2 true) = 0 from by decide), if_pos (show true = true from rfl), if_neg (show ¬ (0 : Nat) = 1 from by decide)]
      · have w2 : f X Y = false := by simpa using w
        rw [w2, if_pos (show ni (b2 false) = 0 from rfl)]
        rw [if_neg (show ¬ (false = true) from by decide), if_pos (show (1 : Nat) = 1 from rfl)]
        simp only [if_neg (show ¬ (1 : Int32) = 0 from by decide)]
        rw [emd, show (8 : Int32) = ni 8 from rfl, ni_mul]
        have key : ∀ (c : Bool) (C : Int32), C = ni (b2 c) → (if ni (8 * T) ≤ ni q then fn_Md_goThrough_L2 (ni k) 1 (ni T) (ni s) fx (ni (b2 (decide (p % 2 = 0)))) (ni (zR s p)) k13 m (ni (q + 1)) (ni (t + 1)) md wd else sq_gi (ni q / ni 8) 3800 (sq_gi (ni (X + 177 * Y)) 31329 (sq_gi (ni q / ni 8) 3800 (fn_Md_goThrough_L2 (ni k) 1 (ni T) (ni s) fx (ni (b2 (decide (p % 2 = 0)))) (ni (zR s p)) k13 m (ni (q + 1)) (ni (t + 1)) md (upd wd (ni q / ni 8).toNatClampNeg ((wd (ni q / ni 8).toNatClampNeg &&& (((1 : Int32) <<< (((7 : Int32) - sq_rem (ni q) (ni 8)) &&& 31)) ^^^ (-1 : Int32))) ||| ((ni (b2 (P X Y)) ^^^ C) <<< (((7 : Int32) - sq_rem (ni q) (ni 8)) &&& 31)))))))) = fn_Md_goThrough_L2 (ni k) 1 (ni T) (ni s) fx (ni (b2 (decide (p % 2 = 0)))) (ni (zR s p)) k13 m (ni (q + 1)) (ni (t + 1)) md (if q < 8 * T then upd wd (q / 8) ((wd (q / 8) &&& (((1 : Int32) <<< (((7 : Int32) - ni (q % 8)) &&& 31)) ^^^ (-1 : Int32))) ||| (ni (b2 (P X Y ^^ c)) <<< (((7 : Int32) - ni (q % 8)) &&& 31))) else wd) := fun c C hC => by
          rw [hC]
          by_cases z : q < 8 * T
          · rw [if_neg (fun y => absurd ((ni_le (by omega) (by omega)).mp y) (by omega)), ni_div (by omega) (by omega), ni_gi (by omega) (by omega), ni_gi (by omega) (by omega), ni_gi (by omega) (by omega), ni_ix (by omega), ni_rem (by omega) (by omega), ni_xor, b2_x, if_pos z]
          · rw [if_pos ((ni_le (by omega) (by omega)).mpr (by omega)), if_neg z]
        cases hmk : mk k X Y with
        | false =>
          rw [if_pos (show ni (b2 false) = 0 from rfl)]
          exact key false 0 rfl
        | true =>
          rw [if_neg (show ¬ ni (b2 true) = 0 from by decide)]
          exact key true 1 rfl
    have e9 : 2 * s * p + t + 1 = 2 * s * p + (t + 1) := by omega
    by_cases w : zE s f (2 * s * p + t) = 1
    · have hsc : sc (zE s f) (2 * s * p + t) + 1 = sc (zE s f) (2 * s * p + (t + 1)) := by rw [← e9, sc_s, w]; rfl
      have hU1 : UI V T (sc (zE s f) (2 * s * p + (t + 1))) (if sc (zE s f) (2 * s * p + t) < 8 * T then upd wd (sc (zE s f) (2 * s * p + t) / 8) ((wd (sc (zE s f) (2 * s * p + t) / 8) &&& (((1 : Int32) <<< (((7 : Int32) - ni (sc (zE s f) (2 * s * p + t) % 8)) &&& 31)) ^^^ (-1 : Int32))) ||| (ni (b2 (P (zx s (2 * s * p + t)) (zy s (2 * s * p + t)) ^^ mk k (zx s (2 * s * p + t)) (zy s (2 * s * p + t)))) <<< (((7 : Int32) - ni (sc (zE s f) (2 * s * p + t) % 8)) &&& 31))) else wd) := by
        rw [← hsc]
        by_cases z : sc (zE s f) (2 * s * p + t) < 8 * T
        · rw [if_pos z]
          obtain ⟨w1, h1, h2⟩ := hU
          rw [(h1 _ (by omega)).1, (sb_k _ (h1 (sc (zE s f) (2 * s * p + t) / 8) (by omega)).2 _ (by omega) _).1, ← hV _ hnN w]
          exact UI_s hT z h1 h2
        · rw [if_neg z]
          exact UI_c (by omega) hU
      obtain ⟨wd', g1, g2⟩ := gu2 hs hs1 hs2 hk hT hp hfx hm hV e (t + 1) m _ (by omega) (by omega) hU1
      exact ⟨wd', fun k13 => by rw [hst, if_pos w, hsc]; exact g1 k13, g2⟩
    · have w0 : zE s f (2 * s * p + t) = 0 := (zE_01 s f _).resolve_right w
      have hsc : sc (zE s f) (2 * s * p + t) = sc (zE s f) (2 * s * p + (t + 1)) := by rw [← e9, sc_s, w0]; rfl
      obtain ⟨wd', g1, g2⟩ := gu2 hs hs1 hs2 hk hT hp hfx hm hV e (t + 1) m wd (by omega) (by omega) (by rw [← hsc]; exact hU)
      exact ⟨wd', fun k13 => by rw [hst, if_neg w, hsc]; exact g1 k13, g2⟩
theorem gu1 {fx md : Nat → Int32} {s h k T n0 : Nat} {f P : Nat → Nat → Bool} {V : Nat → Bool} (hn0 : 400 ≤ n0) (hs : s = 2 * h + 1) (hs1 : 21 ≤ s) (hs2 : s ≤ 177) (hk : k < 8) (hT : T ≤ 3706) (hfx : ∀ a b : Nat, a < s → b < s → fx (a + 177 * b) = ni (b2 (f a b))) (hm : MR md s P) (hV : ∀ j : Nat, j < zN s → zE s f j = 1 → V (sc (zE s f) j) = (P (zx s j) (zy s j) ^^ mk k (zx s j) (zy s j))) : ∀ (e p m : Nat) (wd : Nat → Int32), p + e = h → e < m → UI V T (sc (zE s f) (2 * s * p)) wd → ∃ wd', fn_Md_goThrough_L1 (ni k) 1 (ni T) n0 (ni s) fx m (ni (sc (zE s f) (2 * s * p))) (ni (b2 (decide (p % 2 = 0)))) (xr s p) md wd = some (md, wd') ∧ UI V T (sc (zE s f) (zN s)) wd'
  | 0, p, m + 1, wd, hp, _, hU => by
    have hph : p = h := by omega
    subst hph
    refine ⟨wd, ?_, by rw [zN_e hs]; exact hU⟩
    rw [fn_Md_goThrough_L1_s, if_pos]
    unfold xr
    rw [if_neg (by omega), if_neg (by omega), show s - 1 - 2 * p = 0 by omega]
    decide
  | e + 1, p, m + 1, wd, hp, hmm, hU => by
    obtain ⟨x1, x2, x3⟩ := xr_R (p := p) hs hs2 (by omega)
    obtain ⟨wd1, e1, h1⟩ := gu2 (p := p) hs hs1 hs2 hk hT (by omega) hfx hm hV (2 * s) 0 n0 wd (by omega) (by omega) hU
    obtain ⟨wd', g1, g2⟩ := gu1 hn0 hs hs1 hs2 hk hT hfx hm hV e (p + 1) m wd1 (by omega) (by omega) h1
    refine ⟨wd', ?_, g2⟩
    have hj : ∀ K : Int32 → Option ((Nat → Int32) × (Nat → Int32)), sq_jn K (fun k9 => if xr s p = 6 then k9 5 else k9 (xr s p)) = K (ni (zR s p)) := fun K => by
      rw [← x2]
      simp only [sq_jn]
      by_cases w : xr s p = 6
      · rw [if_pos w, if_pos w]
      · rw [if_neg w, if_neg w]
    have hj2 : ∀ K : Int32 → Option ((Nat → Int32) × (Nat → Int32)), sq_jn K (fun k15 => if ni (b2 (decide (p % 2 = 0))) = 0 then k15 1 else k15 0) = K (ni (b2 (decide ((p + 1) % 2 = 0)))) := fun K => by
      simp only [sq_jn]
      by_cases w : p % 2 = 0
      · rw [decide_eq_true w, if_neg (by decide), decide_eq_false (show ¬ (p + 1) % 2 = 0 by omega)]; rfl
      · rw [decide_eq_false w, if_pos (by decide), decide_eq_true (show (p + 1) % 2 = 0 by omega)]; rfl
    have e1' : ∀ k13, fn_Md_goThrough_L2 (ni k) 1 (ni T) (ni s) fx (ni (b2 (decide (p % 2 = 0)))) (ni (zR s p)) k13 n0 (ni (sc (zE s f) (2 * s * p))) 0 md wd = k13 (ni (sc (zE s f) (2 * s * (p + 1)))) md wd1 := e1
    rw [fn_Md_goThrough_L1_s, if_neg x1, hj]
    simp only [sq_bd, x3, hj2]
    rw [sq_jne, e1', g1]
/-- the bits that stand in the modules, in their order, with mask k taken off -/
def Vb (v k : Nat) (P : Nat → Nat → Bool) (c : Nat) : Bool := P (zx (sd v) (pl (zE (sd v) (FX v)) (zN (sd v)) c)) (zy (sd v) (pl (zE (sd v) (FX v)) (zN (sd v)) c)) ^^ mk k (zx (sd v) (pl (zE (sd v) (FX v)) (zN (sd v)) c)) (zy (sd v) (pl (zE (sd v) (FX v)) (zN (sd v)) c))
theorem Vb_s {v k j : Nat} {P : Nat → Nat → Bool} (hj : j < zN (sd v)) (hE : zE (sd v) (FX v) j = 1) : Vb v k P (sc (zE (sd v) (FX v)) j) = (P (zx (sd v) j) (zy (sd v) j) ^^ mk k (zx (sd v) j) (zy (sd v) j)) := by
  unfold Vb
  rw [pl_sc _ _ _ hj (by omega)]
theorem md_up {fx md wd : Nat → Int32} {v k n0 : Nat} {P : Nat → Nat → Bool} (hn0 : 400 ≤ n0) (hv : v < 41) (hv1 : 1 ≤ v) (hk : k < 8) (hm : MG fx md (sd v) (FX v) P) (hI : WI wd) : ∃ wd', fn_Md_goThrough n0 (ni k) 1 (ni (acw v)) (ni (sd v)) fx md wd = some (md, wd') ∧ WI wd' ∧ ∃ w : Nat → Nat, (∀ i : Nat, i < acw v → wd' i = ni (w i) ∧ w i < 256) ∧ ∀ q : Nat, q < 8 * acw v → wbit w q = Vb v k P q := by
  have hT : acw v ≤ 3706 := (vr_nu 0 (by omega) v hv hv1).2.2.2.2.1
  have hU0 : UI (Vb v k P) (acw v) 0 wd := by
    refine ⟨fun i => (wd i).toNatClampNeg, fun i hi => ?_, fun q hq => absurd hq (by omega)⟩
    obtain ⟨n, h1, h2⟩ := hI i hi
    show wd i = ni (wd i).toNatClampNeg ∧ (wd i).toNatClampNeg < 256
    rw [h2, ni_ix (by omega)]
    exact ⟨rfl, h1⟩
  obtain ⟨wd', e1, w, h1, h2⟩ := gu1 (n0 := n0) hn0 (sd_h (v := v)) (sd_ge hv1) (sd_le hv) hk hT (fun a b ha hb => (hm a b ha hb).2) (fun a b ha hb => (hm a b ha hb).1) (fun j hj hE => Vb_s hj hE) (8 + 2 * v) 0 n0 wd (by omega) (by omega) hU0
  refine ⟨wd', ?_, fun i hi => ⟨w i, (h1 i hi).2, (h1 i hi).1⟩, w, fun i hi => h1 i (by omega), fun q hq => h2 q (by have := free_n hv hv1; omega) hq⟩
  rw [Nat.mul_zero] at e1
  unfold fn_Md_goThrough
  simp only [sq_bd]
  have ex : ni (sd v) - 1 = xr (sd v) 0 := by
    unfold xr
    rw [show (1 : Int32) = ni 1 from rfl, ni_sub (by unfold sd; omega), Nat.mul_zero, Nat.sub_zero, if_pos (by unfold sd; omega)]
  rw [ex]
  exact e1
