/-! own rows: sums in the field, powers, the scheme of Horner -/
theorem x_lc (a b c : Nat) : a ^^^ (b ^^^ c) = b ^^^ (a ^^^ c) := by rw [← Nat.xor_assoc, Nat.xor_comm a b, Nat.xor_assoc]
theorem x_c (a b : Nat) : a ^^^ (a ^^^ b) = b := by rw [← Nat.xor_assoc, x_s, x_0l]
def xs : Nat → (Nat → Nat) → Nat
  | 0, _ => 0
  | n + 1, f => xs n f ^^^ f n
theorem xs_s (n : Nat) (f : Nat → Nat) : xs (n + 1) f = xs n f ^^^ f n := rfl
theorem xs_lt {f : Nat → Nat} : ∀ {n : Nat}, (∀ i : Nat, i < n → f i < 256) → xs n f < 256
  | 0, _ => by show 0 < 256; omega
  | n + 1, h => x_lt (xs_lt (fun i hi => h i (by omega))) (h n (by omega))
theorem xs_cg {f g : Nat → Nat} : ∀ {n : Nat}, (∀ i : Nat, i < n → f i = g i) → xs n f = xs n g
  | 0, _ => rfl
  | n + 1, h => by rw [xs_s, xs_s, xs_cg (fun i hi => h i (by omega)), h n (by omega)]
theorem xs_x (f g : Nat → Nat) : ∀ n : Nat, xs n (fun i => f i ^^^ g i) = xs n f ^^^ xs n g
  | 0 => (x_0 0).symm
  | n + 1 => by rw [xs_s, xs_s, xs_s, xs_x f g n, x_4]
theorem xs_m (a : Nat) (f : Nat → Nat) : ∀ n : Nat, gm a (xs n f) = xs n (fun i => gm a (f i))
  | 0 => gm_0r a
  | n + 1 => by rw [xs_s, xs_s, gm_xr, xs_m a f n]
theorem xs_ml (a : Nat) (f : Nat → Nat) (n : Nat) : gm (xs n f) a = xs n (fun i => gm (f i) a) := by
  rw [gm_comm, xs_m]; exact xs_cg (fun i _ => gm_comm _ _)
theorem xs_0 {f : Nat → Nat} : ∀ {n : Nat}, (∀ i : Nat, i < n → f i = 0) → xs n f = 0
  | 0, _ => rfl
  | n + 1, h => by rw [xs_s, xs_0 (fun i hi => h i (by omega)), h n (by omega)]; exact x_0 0
theorem xs_sw (f : Nat → Nat → Nat) (m : Nat) : ∀ n : Nat, xs n (fun i => xs m (fun j => f i j)) = xs m (fun j => xs n (fun i => f i j))
  | 0 => (xs_0 (fun _ _ => rfl)).symm
  | n + 1 => by rw [xs_s, xs_sw f m n, ← xs_x]; rfl
theorem xs_l (f : Nat → Nat) : ∀ n : Nat, xs (n + 1) f = f 0 ^^^ xs n (fun i => f (i + 1))
  | 0 => by rw [xs_s]; show 0 ^^^ f 0 = f 0 ^^^ 0; rw [x_0, x_0l]
  | n + 1 => by rw [xs_s, xs_l f n, xs_s, Nat.xor_assoc]
theorem xs_rev (f : Nat → Nat) : ∀ n : Nat, xs n f = xs n (fun i => f (n - 1 - i))
  | 0 => rfl
  | n + 1 => by
    rw [xs_l (fun i => f (n + 1 - 1 - i)) n, xs_s, xs_rev f n, Nat.xor_comm]
    congr 1
    exact xs_cg (fun i hi => by rw [show n + 1 - 1 - (i + 1) = n - 1 - i by omega])
theorem xs_one {f : Nat → Nat} {k : Nat} : ∀ {n : Nat}, k < n → (∀ i : Nat, i < n → i ≠ k → f i = 0) → xs n f = f k
  | n + 1, hk, h => by
    rw [xs_s]
    by_cases e : k = n
    · rw [xs_0 (fun i hi => h i (by omega) (by omega)), x_0l, e]
    · rw [xs_one (by omega) (fun i hi => h i (by omega)), h n (by omega) (fun q => e q.symm), x_0]
theorem xs_add (f : Nat → Nat) (n : Nat) : ∀ m : Nat, xs (n + m) f = xs n f ^^^ xs m (fun i => f (n + i))
  | 0 => (x_0 _).symm
  | m + 1 => by rw [show n + (m + 1) = (n + m) + 1 by omega, xs_s, xs_s, xs_add f n m, Nat.xor_assoc]
theorem xs_up {f : Nat → Nat} {n m : Nat} (h : n ≤ m) (hz : ∀ i : Nat, n ≤ i → i < m → f i = 0) : xs m f = xs n f := by
  rw [show m = n + (m - n) by omega, xs_add, xs_0 (fun i hi => hz (n + i) (by omega) (by omega)), x_0]
/-- the sum over a triangle, by columns -/
theorem xs_tri (f : Nat → Nat → Nat) : ∀ n : Nat, xs n (fun k => xs (k + 1) (fun j => f j k)) = xs n (fun j => xs (n - j) (fun d => f j (j + d)))
  | 0 => rfl
  | n + 1 => by
    rw [xs_s, xs_tri f n, xs_s (n := n) (f := fun j => xs (n + 1 - j) (fun d => f j (j + d))), xs_s n, ← Nat.xor_assoc, ← xs_x]
    congr 1
    · refine xs_cg (fun j hj => ?_)
      rw [show n + 1 - j = (n - j) + 1 by omega, xs_s, show j + (n - j) = n by omega]
    · rw [show n + 1 - n = 0 + 1 by omega]; show _ = 0 ^^^ _; rw [x_0l]; rfl
def gq (x : Nat) : Nat → Nat
  | 0 => 1
  | k + 1 => gm x (gq x k)
theorem gq_s (x k : Nat) : gq x (k + 1) = gm x (gq x k) := rfl
theorem gq_0 (x : Nat) : gq x 0 = 1 := rfl
theorem gq_lt (x : Nat) : ∀ k : Nat, gq x k < 256
  | 0 => by show 1 < 256; omega
  | k + 1 => gm_lt _ _
theorem gm_1 {a : Nat} (h : a < 256) : gm a 1 = a := by rw [gm_1r, Nat.mod_eq_of_lt h]
theorem gm_i1 {a : Nat} (h : a < 256) : gm 1 a = a := by rw [gm_1l, Nat.mod_eq_of_lt h]
theorem gq_add (x i : Nat) : ∀ j : Nat, gq x (i + j) = gm (gq x i) (gq x j)
  | 0 => (gm_1 (gq_lt x i)).symm
  | j + 1 => by rw [show i + (j + 1) = (i + j) + 1 by omega, gq_s, gq_add x i j, gq_s, gm_lc]
theorem gq_pw (p : Nat) : ∀ k : Nat, gq (pw p) k = pw (p * k)
  | 0 => rfl
  | k + 1 => by rw [gq_s, gq_pw p k, gm_pp, Nat.mul_succ, Nat.add_comm]
theorem gq_1 {x : Nat} (h : x < 256) : gq x 1 = x := gm_1 h
/-- Horner: the first coefficient is the highest -/
def hn (c : Nat → Nat) (x : Nat) : Nat → Nat
  | 0 => 0
  | n + 1 => gm (hn c x n) x ^^^ c n
theorem hn_s (c : Nat → Nat) (x n : Nat) : hn c x (n + 1) = gm (hn c x n) x ^^^ c n := rfl
theorem hn_lt {c : Nat → Nat} (x : Nat) : ∀ {n : Nat}, (∀ i : Nat, i < n → c i < 256) → hn c x n < 256
  | 0, _ => by show 0 < 256; omega
  | n + 1, h => x_lt (gm_lt _ _) (h n (by omega))
theorem hn_cg {c d : Nat → Nat} (x : Nat) : ∀ {n : Nat}, (∀ i : Nat, i < n → c i = d i) → hn c x n = hn d x n
  | 0, _ => rfl
  | n + 1, h => by rw [hn_s, hn_s, hn_cg x (fun i hi => h i (by omega)), h n (by omega)]
theorem hn_x (c d : Nat → Nat) (x : Nat) : ∀ n : Nat, hn (fun i => c i ^^^ d i) x n = hn c x n ^^^ hn d x n
  | 0 => (x_0 0).symm
  | n + 1 => by rw [hn_s, hn_s, hn_s, hn_x c d x n, gm_xl, x_4]
theorem hn_xs {c : Nat → Nat} (x : Nat) : ∀ {n : Nat}, (∀ i : Nat, i < n → c i < 256) → hn c x n = xs n (fun j => gm (c j) (gq x (n - 1 - j)))
  | 0, _ => rfl
  | n + 1, h => by
    rw [hn_s, hn_xs x (fun i hi => h i (by omega)), xs_s, xs_ml]
    congr 1
    · refine xs_cg (fun i hi => ?_)
      rw [gm_assoc, gm_comm (gq x _) x, ← gq_s, show n - 1 - i + 1 = n + 1 - 1 - i by omega]
    · rw [show n + 1 - 1 - n = 0 by omega, gq_0, gm_1 (h n (by omega))]
/-- one root taken out -/
theorem hn_div (c : Nat → Nat) (X Y : Nat) : ∀ n : Nat, hn c Y (n + 1) = gm (X ^^^ Y) (hn (fun k => hn c X (k + 1)) Y n) ^^^ hn c X (n + 1)
  | 0 => by
    show gm 0 Y ^^^ c 0 = gm (X ^^^ Y) 0 ^^^ (gm 0 X ^^^ c 0)
    rw [gm_0l, gm_0l, gm_0r, x_0l, x_0l]
  | n + 1 => by
    rw [hn_s c Y (n + 1), hn_div c X Y n, hn_s (fun k => hn c X (k + 1)) Y n, hn_s c X (n + 1)]
    generalize hn (fun k => hn c X (k + 1)) Y n = A
    generalize hn c X (n + 1) = B
    rw [gm_xl, gm_xr, gm_assoc, gm_xl X Y B, gm_comm X B, gm_comm Y B, Nat.xor_assoc, Nat.xor_assoc (gm (X ^^^ Y) (gm A Y))]
    congr 1
    rw [← Nat.xor_assoc (gm B X ^^^ gm B Y), Nat.xor_comm (gm B X) (gm B Y), Nat.xor_assoc (gm B Y), x_s, x_0]
def dj (X : Nat → Nat) (n : Nat) : Prop := ∀ i : Nat, i < n → ∀ j : Nat, j < n → X i = X j → i = j
theorem dj_le {X : Nat → Nat} {n m : Nat} (h : dj X n) (hm : m ≤ n) : dj X m := fun i hi j hj => h i (by omega) j (by omega)
theorem x_ne {a b : Nat} (h : a ≠ b) : a ^^^ b ≠ 0 := fun q => h (x_eq q)
/-- as many roots as coefficients: all are 0 -/
theorem hn_root : ∀ (n : Nat) (c X : Nat → Nat), (∀ i : Nat, i < n → c i < 256) → (∀ i : Nat, i < n → X i < 256) → dj X n → (∀ i : Nat, i < n → hn c (X i) n = 0) → ∀ j : Nat, j < n → c j = 0
  | 0, _, _, _, _, _, _, j, hj => absurd hj (by omega)
  | n + 1, c, X, hc, hX, hd, h, j, hj => by
    have hl : ∀ k : Nat, k ≤ n → hn c (X n) (k + 1) < 256 := fun k hk => hn_lt _ (fun i hi => hc i (by omega))
    have q := hn_root n (fun k => hn c (X n) (k + 1)) X (fun i hi => hl i (by omega)) (fun i hi => hX i (by omega)) (dj_le hd (by omega)) (fun i hi => by
      have e := hn_div c (X n) (X i) n
      rw [h i (by omega), h n (by omega), x_0] at e
      refine (gm_zero (x_lt (hX n (by omega)) (hX i (by omega))) (hn_lt _ (fun k hk => hl k (by omega))) e.symm).resolve_left ?_
      exact x_ne (fun q => absurd (hd n (by omega) i (by omega) q) (by omega)))
    have q' : ∀ k : Nat, k ≤ n → hn c (X n) (k + 1) = 0 := fun k hk => by
      by_cases e : k = n
      · rw [e]; exact h n (by omega)
      · exact q k (by omega)
    cases j with
    | zero =>
      have := q' 0 (by omega)
      rw [hn_s, show hn c (X n) 0 = 0 from rfl, gm_0l, x_0l] at this; exact this
    | succ j =>
      have := q' (j + 1) (by omega)
      rw [hn_s, q' j (by omega), gm_0l, x_0l] at this; exact this
/-- Vandermonde -/
theorem vd_inj : ∀ (n : Nat) (f X : Nat → Nat), (∀ i : Nat, i < n → f i < 256) → (∀ i : Nat, i < n → X i < 256) → dj X n → (∀ r : Nat, r < n → xs n (fun i => gm (f i) (gq (X i) r)) = 0) → ∀ j : Nat, j < n → f j = 0
  | 0, _, _, _, _, _, _, j, hj => absurd hj (by omega)
  | n + 1, f, X, hf, hX, hd, h, j, hj => by
    have q := vd_inj n (fun i => gm (f i) (X i ^^^ X n)) X (fun i hi => gm_lt _ _) (fun i hi => hX i (by omega)) (dj_le hd (by omega)) (fun r hr => by
      have e1 := h (r + 1) (by omega)
      have e0 := h r (by omega)
      have e2 : xs (n + 1) (fun i => gm (f i) (gq (X i) (r + 1)) ^^^ gm (X n) (gm (f i) (gq (X i) r))) = 0 := by
        rw [xs_x, e1, ← xs_m, e0, gm_0r]; exact x_0 0
      rw [xs_s, gq_s, gm_lc (f n) (X n), x_s, x_0] at e2
      rw [← e2]
      refine xs_cg (fun i hi => ?_)
      rw [gm_xr, gm_xl, gq_s, gm_assoc, gm_lc (X n) (f i), gm_assoc])
    have q' : ∀ i : Nat, i < n → f i = 0 := fun i hi => by
      refine (gm_zero (hf i (by omega)) (x_lt (hX i (by omega)) (hX n (by omega))) (q i hi)).resolve_right ?_
      exact x_ne (fun e => absurd (hd i (by omega) n (by omega) e) (by omega))
    by_cases e : j = n
    · have h0 := h 0 (by omega)
      rw [xs_s, xs_0 (fun i hi => by rw [q' i hi, gm_0l]), x_0l, gq_0, gm_1 (hf n (by omega))] at h0
      rw [e, h0]
    · exact q' j (by omega)
/-- .. and every right side has a solution -/
theorem vd_sur : ∀ (n : Nat) (s X : Nat → Nat), (∀ i : Nat, i < n → s i < 256) → (∀ i : Nat, i < n → X i < 256) → dj X n → ∃ f : Nat → Nat, (∀ i : Nat, f i < 256) ∧ ∀ r : Nat, r < n → xs n (fun i => gm (f i) (gq (X i) r)) = s r
  | 0, _, _, _, _, _ => ⟨fun _ => 0, fun _ => (by omega : (0 : Nat) < 256), fun r hr => absurd hr (by omega)⟩
  | n + 1, s, X, hs, hX, hd => by
    obtain ⟨f, hf, h⟩ := vd_sur n (fun r => s (r + 1) ^^^ gm (X n) (s r)) X (fun i hi => x_lt (hs _ (by omega)) (gm_lt _ _)) (fun i hi => hX i (by omega)) (dj_le hd (by omega))
    have hg : ∀ i : Nat, i < n → gm (gm (f i) (gi (X i ^^^ X n))) (X i ^^^ X n) = f i := fun i hi => by
      rw [gm_assoc, gm_comm (gi _), gm_gi (x_lt (hX i (by omega)) (hX n (by omega))) (x_ne (fun e => absurd (hd i (by omega) n (by omega) e) (by omega))), gm_1 (hf i)]
    let g : Nat → Nat := fun i => gm (f i) (gi (X i ^^^ X n))
    let d : Nat → Nat := fun r => s r ^^^ xs n (fun i => gm (g i) (gq (X i) r))
    have hd1 : ∀ r : Nat, r < n → d (r + 1) = gm (X n) (d r) := fun r hr => by
      have e := h r hr
      have e2 : xs n (fun i => gm (f i) (gq (X i) r)) = xs n (fun i => gm (g i) (gq (X i) (r + 1))) ^^^ gm (X n) (xs n (fun i => gm (g i) (gq (X i) r))) := by
        rw [xs_m, ← xs_x]
        refine xs_cg (fun i hi => ?_)
        rw [← hg i hi]
        show gm (gm (g i) (X i ^^^ X n)) (gq (X i) r) = _
        generalize g i = G
        rw [gm_xr, gm_xl, gq_s, gm_assoc, gm_lc (X n) G, gm_assoc]
      rw [e2] at e
      show s (r + 1) ^^^ xs n _ = gm (X n) (s r ^^^ xs n _)
      rw [gm_xr]
      generalize xs n (fun i => gm (g i) (gq (X i) (r + 1))) = A at e ⊢
      generalize gm (X n) (xs n (fun i => gm (g i) (gq (X i) r))) = B at e ⊢
      have e3 : s (r + 1) = A ^^^ B ^^^ gm (X n) (s r) := by rw [e, Nat.xor_assoc, x_s, x_0]
      rw [e3]
      simp only [Nat.xor_assoc, Nat.xor_comm, x_lc, x_s, x_0, x_0l, x_c]
    have hdl : ∀ r : Nat, r < n + 1 → d r < 256 := fun r hr => x_lt (hs r hr) (xs_lt (fun i _ => gm_lt _ _))
    have hdq : ∀ r : Nat, r < n + 1 → d r = gm (d 0) (gq (X n) r) := by
      intro r
      induction r with
      | zero => intro _; rw [gq_0, gm_1 (hdl 0 (by omega))]
      | succ r ih => intro hr; rw [hd1 r (by omega), ih (by omega), gq_s, gm_lc]
    refine ⟨fun i => if i = n then d 0 else g i, fun i => ?_, fun r hr => ?_⟩
    · show (if i = n then d 0 else g i) < 256
      split
      · exact hdl 0 (by omega)
      · exact gm_lt _ _
    · show xs (n + 1) (fun i => gm (if i = n then d 0 else g i) (gq (X i) r)) = s r
      rw [xs_s, if_pos rfl, ← hdq r hr]
      show _ ^^^ (s r ^^^ xs n (fun i => gm (g i) (gq (X i) r))) = _
      rw [xs_cg (g := fun i => gm (g i) (gq (X i) r)) (fun i hi => by rw [if_neg (by omega)]), Nat.xor_comm (s r), ← Nat.xor_assoc, x_s, x_0l]
