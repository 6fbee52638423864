/-! own rows: the model puts a block right -/
theorem tw_neg : ∀ e : Nat, e < 255 → (if 0 ≤ sq_rem (-(ni e)) 255 then sq_rem (-(ni e)) 255 else sq_rem (-(ni e)) 255 + 255) = ni ((255 - e) % 255) := by decide +kernel
theorem ni_neg {a b : Nat} (h : a ≤ b) : ni a - ni b = -(ni (b - a)) := by
  have e : ni b = ni a + ni (b - a) := by rw [ni_add]; congr 1; omega
  rw [e, Int32.sub_eq_add_neg, Int32.neg_add, Int32.sub_eq_add_neg, ← Int32.add_assoc, Int32.add_right_neg, Int32.zero_add]
theorem md_twon {n0 a b : Nat} (hn : 256 ≤ n0) (h : a ≤ b) (h2 : b - a < 255) : fn_Md_two n0 (ni a - ni b) = some (ni (pw (255 - (b - a)))) := by
  rw [ni_neg h]
  unfold fn_Md_two
  simp only [sq_bd, sq_jn]
  have e := tw_neg (b - a) h2
  have := tw_inv ((255 - (b - a)) % 255) 0 ((255 - (b - a)) % 255) n0 (by omega) (by omega) (by omega)
  rw [← pw_mod (255 - (b - a)), ← this, ← e]
  split <;> rfl
/-- lowest first -/
def ps (y : Nat → Nat) (x n : Nat) : Nat := xs n (fun k => gm (y k) (gq x k))
theorem ps_lt (y : Nat → Nat) (x n : Nat) : ps y x n < 256 := xs_lt (fun _ _ => gm_lt _ _)
theorem hn_ps {y : Nat → Nat} (hy : ∀ i : Nat, y i < 256) (x n : Nat) : hn (fun i => y (n - 1 - i)) x n = ps y x n := by
  rw [hn_xs x (fun i _ => hy _), xs_rev]
  refine xs_cg (fun i hi => ?_)
  rw [show n - 1 - (n - 1 - i) = i by omega]
theorem gq_inv {x X : Nat} (h : gm x X = 1) : ∀ k : Nat, gm (gq x k) (gq X k) = 1
  | 0 => by rw [gq_0, gq_0]; decide
  | k + 1 => by rw [gq_s, gq_s, gm_assoc, gm_lc (gq x k) X, gq_inv h k, gm_1r, ← gm_ml, ← gm_mr, Nat.mod_mod, gm_mr, gm_ml, h]
theorem ps_hn {y : Nat → Nat} (hy : ∀ i : Nat, y i < 256) {x X : Nat} (h : gm x X = 1) (n : Nat) : gm (gq X n) (ps y x (n + 1)) = hn y X (n + 1) := by
  rw [hn_xs X (fun i _ => hy _)]
  unfold ps
  rw [xs_m]
  refine xs_cg (fun k hk => ?_)
  rw [gm_lc, show gq X n = gm (gq X k) (gq X (n - k)) by rw [← gq_add, show k + (n - k) = n by omega], gm_comm (gm _ _) (gq x k), ← gm_assoc (gq x k), gq_inv h, gm_i1 (gq_lt _ _), show n + 1 - 1 - k = n - k by omega]
theorem gq_ne {X : Nat} (h : X ≠ 0) (hl : X < 256) : ∀ k : Nat, gq X k ≠ 0
  | 0 => by rw [gq_0]; omega
  | k + 1 => by rw [gq_s]; exact gm_ne hl (gq_lt _ _) h (gq_ne h hl k)
/-- 1 and the terms y -/
def y1 (a : Nat) (y : Nat → Nat) (n : Nat) : Nat → Nat := fun k => if k = 0 then a else if k ≤ n then y (k - 1) else 0
theorem y1_lt {a : Nat} {y : Nat → Nat} {n : Nat} (ha : a < 256) (hy : ∀ i : Nat, y i < 256) (k : Nat) : y1 a y n k < 256 := by
  unfold y1
  split
  · exact ha
  · split
    · exact hy _
    · omega
theorem y1_rc {y : Nat → Nat} {n : Nat} (hy : ∀ i : Nat, y i < 256) : rc (y1 1 y n) n := ⟨if_pos rfl, y1_lt (by omega) hy, fun i hi => by unfold y1; rw [if_neg (by omega), if_neg (by omega)]⟩
theorem y1_root {y : Nat → Nat} {n : Nat} (hy : ∀ i : Nat, y i < 256) {x X : Nat} (hX : X < 256) (h : gm x X = 1) : gm (ps y x n) x = 1 ↔ hn (y1 1 y n) X (n + 1) = 0 := by
  have hX0 : X ≠ 0 := fun q => by rw [q, gm_0r] at h; omega
  have e : ps (y1 1 y n) x (n + 1) = 1 ^^^ gm (ps y x n) x := by
    unfold ps
    rw [xs_l, xs_ml, show gm (y1 1 y n 0) (gq x 0) = 1 from (by rw [gq_0]; unfold y1; rw [if_pos rfl]; decide)]
    congr 1
    refine xs_cg (fun k hk => ?_)
    rw [show y1 1 y n (k + 1) = y k by unfold y1; rw [if_neg (by omega), if_pos (by omega), Nat.add_sub_cancel], gm_assoc, gq_s, gm_comm x]
  rw [← ps_hn (y1_lt (by omega) hy) h, e]
  constructor
  · intro q; rw [q, x_s, gm_0r]
  · intro q
    exact (x_eq ((gm_zero (gq_lt _ _) (x_lt (by omega) (gm_lt _ _)) q).resolve_left (gq_ne hX0 hX n))).symm
theorem hn_z0 {Z : Nat → Nat} (h : Z 0 = 0) (X : Nat) : ∀ n : Nat, hn Z X (n + 1) = hn (fun k => Z (k + 1)) X n
  | 0 => by rw [hn_s, h]; show gm 0 X ^^^ 0 = 0; rw [gm_0l, x_0]
  | n + 1 => by rw [hn_s, hn_z0 h X n, hn_s (fun k => Z (k + 1))]
theorem cv_spz {C S e X : Nat → Nat} {t L c : Nat} (hl : ∀ i : Nat, C i < 256) (hz : ∀ i : Nat, L < i → C i = 0) (hS : ∀ k : Nat, k < c → S k = sp t e X k) (r : Nat) (hr : L + r < c) : cv C S (L + r) = xs t (fun i => gm (gm (e i) (hn C (X i) (L + 1))) (gq (X i) r)) := by
  unfold cv
  rw [xs_up (n := L + 1) (by omega) (fun i h1 h2 => by rw [hz i (by omega), gm_0l])]
  rw [xs_cg (g := fun k => xs t (fun i => gm (gm (e i) (gq (X i) r)) (gm (C k) (gq (X i) (L - k))))) (fun k hk => by
    rw [hS _ (by omega)]
    unfold sp
    rw [xs_m]
    refine xs_cg (fun i hi => ?_)
    rw [show L + r - k = r + (L - k) by omega, gq_add, ← gm_assoc (e i), gm_lc])]
  rw [xs_sw]
  refine xs_cg (fun i hi => ?_)
  rw [← xs_m, hn_xs _ (fun i _ => hl i), gm_assoc (e i), gm_assoc (e i), gm_comm (gq (X i) r)]
  rfl
/-- the system for the places -/
def hk (n : Nat) (S : Nat → Nat) : Nat → Nat → Nat := fun r k => if k = n then S (n + r) else S (n + r - 1 - k)
theorem hk_cv {n : Nat} {S z : Nat → Nat} (h : kr (hk n S) n z) : ∀ r : Nat, r < n → cv (y1 (z n) z n) S (n + r) = 0 := by
  intro r hr
  have e := h r hr
  rw [xs_s] at e
  unfold cv
  rw [xs_up (n := n + 1) (by omega) (fun i h1 h2 => by unfold y1; rw [if_neg (by omega), if_neg (by omega), gm_0l]), xs_l, Nat.xor_comm]
  refine Eq.trans ?_ e
  congr 1
  · refine xs_cg (fun k hk2 => ?_)
    unfold y1 hk
    rw [if_neg (by omega), if_pos (by omega), if_neg (by omega), gm_comm, Nat.add_sub_cancel, show n + r - (k + 1) = n + r - 1 - k by omega]
  · unfold y1 hk
    rw [if_pos rfl, if_pos rfl, gm_comm, Nat.sub_zero]
theorem hk_roots {s c n : Nat} {w E z : Nat → Nat} (hs : s ≤ 255) (h : ER s c w n E) (hc : 2 * n ≤ c) (hz : ∀ i : Nat, z i < 256) (hk1 : kr (hk n (sy w s)) n z) : ∀ i : Nat, i < n → hn (y1 (z n) z n) (pw (s - 1 - pl E s i)) (n + 1) = 0 := by
  obtain ⟨a1, a2, a3⟩ := h
  have hS : ∀ k : Nat, k < c → sy w s k = sp n (fun i => E (pl E s i)) (fun i => pw (s - 1 - pl E s i)) k := fun k hk => by
    rw [a3 k hk, sy_sp a1, a2]
  have hd : dj (fun i => pw (s - 1 - pl E s i)) n := px_dj hs (by rw [← a2]; exact pl_inj E s) (fun i hi => (pl_ok E s i (by omega)).1)
  intro i hi
  have := vd_inj n (fun i => gm (E (pl E s i)) (hn (y1 (z n) z n) (pw (s - 1 - pl E s i)) (n + 1))) (fun i => pw (s - 1 - pl E s i)) (fun _ _ => gm_lt _ _) (fun i _ => pw_lt _) hd (fun r hr => by
    rw [← cv_spz (C := y1 (z n) z n) (y1_lt (hz n) hz) (fun i hi => by unfold y1; rw [if_neg (by omega), if_neg (by omega)]) hS r (by omega)]
    exact hk_cv hk1 r hr) i hi
  exact (gm_zero (a1 _ (pl_ok E s i (by omega)).1) (hn_lt _ (fun k _ => y1_lt (hz n) hz k)) this).resolve_left (pl_ok E s i (by omega)).2
theorem hk_sing {s c n : Nat} {w E z : Nat → Nat} (hs : s ≤ 255) (h : ER s c w n E) (hc : 2 * n ≤ c) (hz : ∀ i : Nat, z i < 256) (hk1 : kr (hk n (sy w s)) n z) (h0 : z n = 0) : ∀ k : Nat, k < n → z k = 0 := by
  have hr := hk_roots hs h hc hz hk1
  obtain ⟨a1, a2, a3⟩ := h
  have hd : dj (fun i => pw (s - 1 - pl E s i)) n := px_dj hs (by rw [← a2]; exact pl_inj E s) (fun i hi => (pl_ok E s i (by omega)).1)
  intro k hk2
  have := hn_root n (fun k => y1 (z n) z n (k + 1)) (fun i => pw (s - 1 - pl E s i)) (fun k _ => y1_lt (hz n) hz _) (fun i _ => pw_lt _) hd (fun i hi => by
    rw [← hn_z0 (Z := y1 (z n) z n) (by unfold y1; rw [if_pos rfl, h0])]; exact hr i hi) k hk2
  unfold y1 at this
  rw [if_neg (by omega), if_pos (by omega), Nat.add_sub_cancel] at this
  exact this
/-- the places found are the wrong ones -/
theorem hk_places {s c n : Nat} {w E y : Nat → Nat} (hs : s ≤ 255) (h : ER s c w n E) (hc : 2 * n ≤ c) (hy : ∀ i : Nat, y i < 256) (h1 : y n = 1) (hk1 : kr (hk n (sy w s)) n y) (j : Nat) (hj : j < s) : gm (ps y (pw (255 - (s - 1 - j))) n) (pw (255 - (s - 1 - j))) = 1 ↔ E j ≠ 0 := by
  have hr := hk_roots hs h hc hy hk1
  obtain ⟨a1, a2, a3⟩ := h
  have hd : dj (fun i => pw (s - 1 - pl E s i)) n := px_dj hs (by rw [← a2]; exact pl_inj E s) (fun i hi => (pl_ok E s i (by omega)).1)
  rw [h1] at hr
  rw [y1_root hy (pw_lt (s - 1 - j)) (by rw [gm_pp, show 255 - (s - 1 - j) + (s - 1 - j) = 255 by omega, pw_255])]
  constructor
  · intro h0
    obtain ⟨i, hi, hx⟩ := loc_only (y1_rc hy) (fun i => pw_lt _) hd hr (pw_lt _) h0
    have h2 := (pl_ok E s i (by omega))
    have := pw_inj (by omega) (by omega) hx
    rw [show j = pl E s i by omega]; exact h2.2
  · intro h0
    obtain ⟨i, hi, hx⟩ := pl_all E s j hj h0
    have := hr i (by omega)
    rw [hx] at this; exact this
/-- the system for the values -/
def vm (n s : Nat) (P S : Nat → Nat) : Nat → Nat → Nat := fun r k => if k = n then S r else pw ((s - 1 - P k) * r)
theorem vm_kr {n s : Nat} {P S z : Nat → Nat} (hS : ∀ k : Nat, k < n → S k < 256) (h : kr (vm n s P S) n z) (r : Nat) (hr : r < n) : sp n z (fun i => pw (s - 1 - P i)) r = gm (S r) (z n) := by
  have e := h r hr
  rw [xs_s] at e
  have e2 := x_eq e
  unfold vm at e2
  rw [if_pos rfl] at e2
  rw [← e2]
  unfold sp
  refine xs_cg (fun k hk2 => ?_)
  rw [if_neg (by omega), gm_comm, gq_pw]
theorem vm_sing {n s : Nat} {P S z : Nat → Nat} (hs : s ≤ 255) (hd : dj P n) (hP : ∀ i : Nat, i < n → P i < s) (hz : ∀ i : Nat, z i < 256) (hS : ∀ k : Nat, k < n → S k < 256) (h : kr (vm n s P S) n z) (h0 : z n = 0) : ∀ k : Nat, k < n → z k = 0 := by
  refine vd_inj n z (fun i => pw (s - 1 - P i)) (fun i _ => hz i) (fun i _ => pw_lt _) (px_dj hs hd hP) (fun r hr => ?_)
  have := vm_kr hS h r hr
  rw [h0, gm_0r] at this
  exact this
theorem vm_sol {n s : Nat} {P S z e : Nat → Nat} (hs : s ≤ 255) (hd : dj P n) (hP : ∀ i : Nat, i < n → P i < s) (hz : ∀ i : Nat, z i < 256) (hS : ∀ k : Nat, k < n → S k < 256) (h : kr (vm n s P S) n z) (h1 : z n = 1) (he : ∀ i : Nat, i < n → e i < 256) (hS2 : ∀ k : Nat, k < n → S k = sp n e (fun i => pw (s - 1 - P i)) k) : ∀ k : Nat, k < n → z k = e k := by
  intro k hk2
  refine x_eq (vd_inj n (fun i => z i ^^^ e i) (fun i => pw (s - 1 - P i)) (fun i hi => x_lt (hz i) (he i hi)) (fun i _ => pw_lt _) (px_dj hs hd hP) (fun r hr => ?_) k hk2)
  have q := vm_kr hS h r hr
  rw [h1, gm_1 (hS r hr), hS2 r hr] at q
  rw [xs_cg (g := fun i => gm (z i) (gq (pw (s - 1 - P i)) r) ^^^ gm (e i) (gq (pw (s - 1 - P i)) r)) (fun i hi => gm_xl _ _ _), xs_x]
  unfold sp at q
  rw [q, x_s]
