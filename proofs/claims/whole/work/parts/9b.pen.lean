/-! own rows: the penalty, by places -/
theorem cb1_e {α β : Type} (a : α) (k : α → Option β) : sq_cb1 (some a) k = k a := rfl
def ns : Nat → (Nat → Nat) → Nat
  | 0, _ => 0
  | n + 1, f => ns n f + f n
theorem ns_s (n : Nat) (f : Nat → Nat) : ns (n + 1) f = ns n f + f n := rfl
theorem ns_cg {f g : Nat → Nat} : ∀ {n : Nat}, (∀ i : Nat, i < n → f i = g i) → ns n f = ns n g
  | 0, _ => rfl
  | n + 1, h => by rw [ns_s, ns_s, ns_cg (fun i hi => h i (by omega)), h n (by omega)]
theorem ns_a (f g : Nat → Nat) : ∀ n : Nat, ns n (fun i => f i + g i) = ns n f + ns n g
  | 0 => rfl
  | n + 1 => by rw [ns_s, ns_s, ns_s, ns_a f g n]; omega
theorem ns_0 {f : Nat → Nat} : ∀ {n : Nat}, (∀ i : Nat, i < n → f i = 0) → ns n f = 0
  | 0, _ => rfl
  | n + 1, h => by rw [ns_s, ns_0 (fun i hi => h i (by omega)), h n (by omega)]
theorem ns_sw (f : Nat → Nat → Nat) (m : Nat) : ∀ n : Nat, ns n (fun i => ns m (fun j => f i j)) = ns m (fun j => ns n (fun i => f i j))
  | 0 => (ns_0 (fun _ _ => rfl)).symm
  | n + 1 => by rw [ns_s, ns_sw f m n, ← ns_a]; rfl
theorem ns_le {f : Nat → Nat} {c : Nat} : ∀ {n : Nat}, (∀ i : Nat, i < n → f i ≤ c) → ns n f ≤ c * n
  | 0, _ => by show 0 ≤ _; omega
  | n + 1, h => by
    have := ns_le (n := n) (fun i hi => h i (by omega))
    have := h n (by omega)
    rw [ns_s, Nat.mul_add]; omega
theorem ns_p (f : Nat → Nat) (n : Nat) : ∀ m : Nat, ns (n + m) f = ns n f + ns m (fun i => f (n + i))
  | 0 => rfl
  | m + 1 => by rw [show n + (m + 1) = n + m + 1 by omega, ns_s, ns_p f n m, ns_s]; omega
theorem ns_up {f : Nat → Nat} {n m : Nat} (h : n ≤ m) (hz : ∀ i : Nat, n ≤ i → i < m → f i = 0) : ns m f = ns n f := by
  rw [show m = n + (m - n) by omega, ns_p, ns_0 (fun i hi => hz (n + i) (by omega) (by omega)), Nat.add_zero]
theorem ns_m (c : Nat) (f : Nat → Nat) : ∀ n : Nat, ns n (fun i => c * f i) = c * ns n f
  | 0 => rfl
  | n + 1 => by rw [ns_s, ns_s, ns_m c f n, Nat.mul_add]
/-- by their ends, by their beginnings -/
theorem ns_sh (A : Nat → Nat) (k s : Nat) : ns s (fun x => if x + k < s then A x else 0) = ns s (fun e => if k ≤ e then A (e - k) else 0) := by
  by_cases h : k ≤ s
  · rw [ns_up (n := s - k) (m := s) (by omega) (fun i h1 h2 => if_neg (by omega))]
    conv => rhs; rw [show s = k + (s - k) by omega, ns_p, ns_0 (fun i hi => if_neg (by omega)), Nat.zero_add]
    exact ns_cg (fun i hi => by rw [if_pos (by omega), if_pos (by omega), show k + i - k = i by omega])
  · rw [ns_0 (fun i hi => if_neg (by omega)), ns_0 (fun i hi => if_neg (by omega))]
def al5 (g : Nat → Bool) (x : Nat) : Prop := ∀ j : Nat, j ≤ 4 → g (x + j) = g x
def al5d (g : Nat → Bool) (x : Nat) : Bool := decide (g (x + 1) = g x ∧ g (x + 2) = g x ∧ g (x + 3) = g x ∧ g (x + 4) = g x)
/-- places like a finder: the pattern p, the first one the lowest bit -/
def fdp (p : Nat) (g : Nat → Bool) (x : Nat) : Bool := decide (∀ i : Nat, i < 11 → g (x + i) = p.testBit i)
/-- what a beginning counts -/
def rA (g : Nat → Bool) (x : Nat) : Nat := if al5d g x then (if x = 0 ∨ g (x - 1) ≠ g x then 3 else 1) else 0
def rF (g : Nat → Bool) (x : Nat) : Nat := if fdp 93 g x then 40 else if fdp 1488 g x then 40 else 0
def LSq (g : Nat → Bool) (s : Nat) : Nat := ns s (fun x => if x + 4 < s then rA g x else 0) + ns s (fun x => if x + 10 < s then rF g x else 0)
theorem rA_le (g : Nat → Bool) (x : Nat) : rA g x ≤ 3 := by unfold rA; repeat' split
                                                            all_goals omega
theorem rF_le (g : Nat → Bool) (x : Nat) : rF g x ≤ 40 := by unfold rF; repeat' split
                                                             all_goals omega
/-! the model's run and row -/
def rg (g : Nat → Bool) : Nat → Nat
  | 0 => 1
  | x + 1 => if g x = g (x + 1) then rg g x + 1 else 1
theorem rg_s (g : Nat → Bool) (x : Nat) : rg g (x + 1) = if g x = g (x + 1) then rg g x + 1 else 1 := rfl
theorem rg_le (g : Nat → Bool) : ∀ x : Nat, rg g x ≤ x + 1
  | 0 => Nat.le_refl _
  | x + 1 => by have := rg_le g x; rw [rg_s]; split <;> omega
theorem rg_ge (g : Nat → Bool) (x : Nat) : 1 ≤ rg g x := by
  cases x with
  | zero => exact Nat.le_refl _
  | succ x => rw [rg_s]; split <;> omega
theorem rg_gt (g : Nat → Bool) : ∀ (k e : Nat), k < rg g e ↔ (k ≤ e ∧ ∀ j : Nat, j ≤ k → g (e - j) = g e)
  | 0, e => ⟨fun _ => ⟨by omega, fun j hj => by rw [show j = 0 by omega]; rfl⟩, fun _ => rg_ge g e⟩
  | k + 1, 0 => ⟨fun h => by have : rg g 0 = 1 := rfl; omega, fun h => by omega⟩
  | k + 1, e + 1 => by
    have ih := rg_gt g k e
    rw [rg_s]
    by_cases w : g e = g (e + 1)
    · rw [if_pos w]
      constructor
      · intro h
        obtain ⟨h1, h2⟩ := ih.mp (by omega)
        refine ⟨by omega, fun j hj => ?_⟩
        cases j with
        | zero => rfl
        | succ j => rw [show e + 1 - (j + 1) = e - j by omega, h2 j (by omega), w]
      · rintro ⟨h1, h2⟩
        have : k < rg g e := ih.mpr ⟨by omega, fun j hj => by
          have := h2 (j + 1) (by omega)
          rw [show e + 1 - (j + 1) = e - j by omega] at this
          rw [this, w]⟩
        omega
    · rw [if_neg w]
      constructor
      · intro h; omega
      · rintro ⟨h1, h2⟩
        exact absurd (h2 1 (by omega)) w
theorem rA_rg (g : Nat → Bool) (e : Nat) : (if rg g e = 5 then 3 else if 5 < rg g e then 1 else 0) = if 4 ≤ e then rA g (e - 4) else 0 := by
  have h4 := rg_gt g 4 e
  have h5 := rg_gt g 5 e
  by_cases w : 4 ≤ e
  · rw [if_pos w]
    obtain ⟨x, rfl⟩ : ∃ x, e = x + 4 := ⟨e - 4, by omega⟩
    rw [Nat.add_sub_cancel]
    have k4 : 4 < rg g (x + 4) ↔ al5d g x = true := by
      rw [h4]
      unfold al5d
      rw [decide_eq_true_iff]
      constructor
      · rintro ⟨_, h⟩
        have a0 := h 0 (by omega); have a1 := h 1 (by omega); have a2 := h 2 (by omega); have a3 := h 3 (by omega); have a4 := h 4 (by omega)
        rw [show x + 4 - 1 = x + 3 by omega] at a1
        rw [show x + 4 - 2 = x + 2 by omega] at a2
        rw [show x + 4 - 3 = x + 1 by omega] at a3
        rw [show x + 4 - 4 = x by omega] at a4
        exact ⟨by rw [a3, a4], by rw [a2, a4], by rw [a1, a4], a4.symm⟩
      · rintro ⟨b1, b2, b3, b4⟩
        refine ⟨by omega, fun j hj => ?_⟩
        rcases (show j = 0 ∨ j = 1 ∨ j = 2 ∨ j = 3 ∨ j = 4 by omega) with e | e | e | e | e
        · subst e; rfl
        · subst e; rw [show x + 4 - 1 = x + 3 by omega, b3, b4]
        · subst e; rw [show x + 4 - 2 = x + 2 by omega, b2, b4]
        · subst e; rw [show x + 4 - 3 = x + 1 by omega, b1, b4]
        · subst e; rw [show x + 4 - 4 = x by omega, b4]
    unfold rA
    by_cases z : al5d g x = true
    · have z4 := k4.mpr z
      rw [if_pos z]
      have k5 : 5 < rg g (x + 4) ↔ ¬ (x = 0 ∨ g (x - 1) ≠ g x) := by
        rw [h5]
        constructor
        · rintro ⟨c1, c2⟩ c3
          rcases c3 with c3 | c3
          · omega
          · apply c3
            have a5 := c2 5 (by omega)
            have a4 := c2 4 (by omega)
            rw [show x + 4 - 5 = x - 1 by omega] at a5
            rw [show x + 4 - 4 = x by omega] at a4
            rw [a5, a4]
        · intro c
          have c1 : x ≠ 0 := fun q => c (Or.inl q)
          have c2 : g (x - 1) = g x := by
            by_cases q : g (x - 1) = g x
            · exact q
            · exact absurd (Or.inr q) c
          refine ⟨by omega, fun j hj => ?_⟩
          by_cases q : j = 5
          · subst q
            have a4 := (h4.mp z4).2 4 (by omega)
            rw [show x + 4 - 4 = x by omega] at a4
            rw [show x + 4 - 5 = x - 1 by omega, c2, a4]
          · exact (h4.mp z4).2 j (by omega)
      by_cases y : x = 0 ∨ g (x - 1) ≠ g x
      · have : ¬ 5 < rg g (x + 4) := fun q => (k5.mp q) y
        rw [if_pos (by omega), if_pos y]
      · have := k5.mpr y
        rw [if_neg (by omega), if_pos this, if_neg y]
    · have : ¬ 4 < rg g (x + 4) := fun q => z (k4.mp q)
      rw [if_neg (by omega), if_neg (by omega), if_neg z]
  · have := rg_le g e
    rw [if_neg w, if_neg (by omega), if_neg (by omega)]
def rw_ (g : Nat → Bool) : Nat → Nat
  | 0 => 0
  | x + 1 => (rw_ g x <<< 1 ||| b2 (g x)) &&& 2047
theorem rw_s (g : Nat → Bool) (x : Nat) : rw_ g (x + 1) = (rw_ g x <<< 1 ||| b2 (g x)) &&& 2047 := rfl
theorem rw_lt (g : Nat → Bool) (x : Nat) : rw_ g x < 2048 := by
  cases x with
  | zero => show 0 < 2048; omega
  | succ x => rw [rw_s, show (2047 : Nat) = 2 ^ 11 - 1 from rfl, an_p]; exact Nat.mod_lt _ (by decide)
theorem tb_b (b : Bool) (j : Nat) : (b2 b).testBit j = (decide (j = 0) && b) := by
  cases b with
  | false => show Nat.testBit 0 j = _; rw [Nat.zero_testBit, Bool.and_false]
  | true =>
    show Nat.testBit 1 j = _
    by_cases q : j = 0
    · subst q; rfl
    · rw [decide_eq_false q]
      cases h : Nat.testBit 1 j with
      | false => rfl
      | true => exact absurd (Nat.testBit_one_eq_true_iff_self_eq_zero.mp h) q
theorem rw_tb (g : Nat → Bool) : ∀ (j e : Nat), j < 11 → j ≤ e → (rw_ g (e + 1)).testBit j = g (e - j)
  | 0, e, _, _ => by
    rw [rw_s, Nat.testBit_and, Nat.testBit_or, tb_b, Nat.testBit_shiftLeft]
    simp
  | j + 1, e, hj, he => by
    have ih := rw_tb g j (e - 1) (by omega) (by omega)
    rw [show e - 1 + 1 = e by omega] at ih
    rw [rw_s, Nat.testBit_and, Nat.testBit_or, tb_b, Nat.testBit_shiftLeft, show (2047 : Nat) = 2 ^ 11 - 1 from rfl, Nat.testBit_two_pow_sub_one, decide_eq_true hj, Bool.and_true, decide_eq_false (show ¬ j + 1 = 0 by omega), Bool.false_and, Bool.or_false, decide_eq_true (show 1 ≤ j + 1 by omega), Bool.true_and, Nat.add_sub_cancel, ih, show e - 1 - j = e - (j + 1) by omega]
theorem rw_pat {g : Nat → Bool} {e p q : Nat} (he : 10 ≤ e) (hp : p < 2048) (hpq : ∀ j : Nat, j < 11 → p.testBit j = q.testBit (10 - j)) : (rw_ g (e + 1) = p) ↔ fdp q g (e - 10) = true := by
  unfold fdp
  rw [decide_eq_true_iff]
  constructor
  · intro h i hi
    have := rw_tb g (10 - i) e (by omega) (by omega)
    rw [h, hpq _ (by omega), show 10 - (10 - i) = i by omega] at this
    rw [show e - 10 + i = e - (10 - i) by omega, ← this]
  · intro h
    apply Nat.eq_of_testBit_eq
    intro j
    by_cases w : j < 11
    · have := h (10 - j) (by omega)
      rw [rw_tb g j e w (by omega), hpq j w, ← this, show e - 10 + (10 - j) = e - j by omega]
    · rw [Nat.testBit_lt_two_pow (Nat.lt_of_lt_of_le (rw_lt g (e + 1)) (show 2 ^ 11 ≤ 2 ^ j from Nat.pow_le_pow_right (by omega) (by omega))), Nat.testBit_lt_two_pow (Nat.lt_of_lt_of_le hp (show 2 ^ 11 ≤ 2 ^ j from Nat.pow_le_pow_right (by omega) (by omega)))]
theorem pat_r : ∀ j : Nat, j < 11 → (1488 : Nat).testBit j = (93 : Nat).testBit (10 - j) ∧ (93 : Nat).testBit j = (1488 : Nat).testBit (10 - j) := by decide
theorem rF_rw (g : Nat → Bool) (e : Nat) (he : 10 ≤ e) : (if rw_ g (e + 1) = 1488 then 40 else if rw_ g (e + 1) = 93 then 40 else 0) = rF g (e - 10) := by
  have h1 := rw_pat (g := g) (e := e) (p := 1488) (q := 93) he (by omega) (fun j hj => (pat_r j hj).1)
  have h2 := rw_pat (g := g) (e := e) (p := 93) (q := 1488) he (by omega) (fun j hj => (pat_r j hj).2)
  unfold rF
  by_cases w1 : rw_ g (e + 1) = 1488
  · rw [if_pos w1, if_pos (h1.mp w1)]
  · rw [if_neg w1, if_neg (fun z => w1 (h1.mpr z))]
    by_cases w2 : rw_ g (e + 1) = 93
    · rw [if_pos w2, if_pos (h2.mp w2)]
    · rw [if_neg w2, if_neg (fun z => w2 (h2.mpr z))]
def dE (g : Nat → Bool) (e : Nat) : Nat := (if 4 ≤ e then rA g (e - 4) else 0) + (if 10 ≤ e then rF g (e - 10) else 0)
theorem LS_dE (g : Nat → Bool) (s : Nat) : LSq g s = ns s (dE g) := by
  unfold LSq
  rw [ns_sh (rA g) 4 s, ns_sh (rF g) 10 s, ← ns_a]
  rfl
theorem dE_le (g : Nat → Bool) (e : Nat) : dE g e ≤ 43 := by
  unfold dE
  have h1 := rA_le g (e - 4)
  have h2 := rF_le g (e - 10)
  split <;> split <;> omega
/-! the model's lines -/
def acc (d : Nat) (P : Nat → Nat → Bool) (y : Nat) : Nat → Bool := fun x => if d = 0 then P x y else P y x
theorem md_module {md : Nat → Int32} {s d x y : Nat} {P : Nat → Nat → Bool} (hs : s ≤ 177) (h : MR md s P) (hd : d ≤ 1) (hx : x < s) (hy : y < s) : fn_Md_module (ni x) (ni y) (ni d) md = some (ni (b2 (acc d P y x))) := by
  have e1 := h x y hx hy
  have e2 := h y x hy hx
  unfold fn_Md_module acc
  by_cases q : d = 0
  · subst q
    simp (disch := omega) only [ni_lit, ni_add, ni_mul, ni_sub, ni_lt, ni_le, ni_ix, ni_eq, ni_div, ni_rem, ni_and, ni_or, ni_xor, ni_shl, ni_shr, ni_gi, ni_gz, ni_max, ni_min, ni_dc, ni_0a, ni_ml, ni_mle, Nat.reduceAnd, Nat.reduceAdd, Nat.reduceMul, Nat.reduceSub, Nat.reduceDiv, Nat.reduceMod, Nat.reduceXor, Nat.reduceShiftLeft, Nat.reduceShiftRight, sq_bd, sq_jn, sq_cb0, sq_cb1, sq_cb2, sq_cb3, sq_cb4, sq_cb5, if_true, e1]
  · rw [if_neg q]
    simp (disch := omega) only [ni_lit, ni_add, ni_mul, ni_sub, ni_lt, ni_le, ni_ix, ni_eq, ni_div, ni_rem, ni_and, ni_or, ni_xor, ni_shl, ni_shr, ni_gi, ni_gz, ni_max, ni_min, ni_dc, ni_0a, ni_ml, ni_mle, Nat.reduceAnd, Nat.reduceAdd, Nat.reduceMul, Nat.reduceSub, Nat.reduceDiv, Nat.reduceMod, Nat.reduceXor, Nat.reduceShiftLeft, Nat.reduceShiftRight, sq_bd, sq_jn, sq_cb0, sq_cb1, sq_cb2, sq_cb3, sq_cb4, sq_cb5, e2]
    rw [if_neg q]
theorem b2_e {a b : Bool} : (ni (b2 a) = ni (b2 b)) = (a = b) := by cases a <;> cases b <;> decide
theorem ml2 {md : Nat → Int32} {s d y A : Nat} {P : Nat → Nat → Bool} (hs : s ≤ 177) (h : MR md s P) (hd : d ≤ 1) (hy : y < s) (hA : A ≤ 10000000) (k5 : Int32 → Option Int32) : ∀ (e x m : Nat), x + e = s → e < m → fn_Md_lines_L2 (ni d) (ni s) md (ni y) k5 m (ni (A + ns x (dE (acc d P y)))) (ni (if x = 0 then 0 else rg (acc d P y) (x - 1))) (ni (rw_ (acc d P y) x)) (ni x) = k5 (ni (A + ns s (dE (acc d P y))))
  | 0, x, m + 1, hx, _ => by
    have hxs : x = s := by omega
    subst hxs
    rw [fn_Md_lines_L2_s, if_pos (by rw [le_I]; omega)]
  | e + 1, x, m + 1, hx, hm => by
    generalize hg : acc d P y = g
    have ih := ml2 hs h hd hy hA k5 e (x + 1) m (by omega) (by omega)
    rw [hg, if_neg (show ¬ x + 1 = 0 by omega), Nat.add_sub_cancel] at ih
    have e1 := md_module hs h hd (x := x) (by omega) hy
    rw [hg] at e1
    have hrl := rg_le g x
    have hns := ns_le (f := dE g) (c := 43) (n := x) (fun i _ => dE_le g i)
    have hrw := rw_lt g x
    have hrun : ∀ K : Int32 → Option Int32, sq_jn K (fun k15 => sq_jn (fun (_ : Unit) => k15 (1 : Int32)) fun k29 => if ni x ≤ 0 then (k29 ()) else (sq_cb1 (fn_Md_module (ni x - (1 : Int32)) (ni y) (ni d) md) fun r31 => if r31 = ni (b2 (g x)) then (k15 (ni (if x = 0 then 0 else rg g (x - 1)) + (1 : Int32))) else (k29 ()))) = K (ni (rg g x)) := fun K => by
      simp only [sq_jn]
      by_cases q : x = 0
      · subst q
        rw [if_pos (by decide)]
        rfl
      · have e2 := md_module hs h hd (x := x - 1) (by omega) hy
        rw [hg] at e2
        rw [if_neg (by rw [← ni_0, ni_le (by omega) (by omega)]; omega), show (1 : Int32) = ni 1 from rfl, ni_sub (by omega), e2, if_neg q]
        simp only [sq_cb1, b2_e]
        obtain ⟨x', rfl⟩ : ∃ x', x = x' + 1 := ⟨x - 1, by omega⟩
        rw [Nat.add_sub_cancel, rg_s]
        by_cases w : g x' = g (x' + 1)
        · rw [if_pos w, if_pos w, ni_add]
        · rw [if_neg w, if_neg w]
    have hsum : ∀ K : Int32 → Option Int32, sq_jn K (fun k17 => if ni (rg g x) = (5 : Int32) then (k17 (ni (A + ns x (dE g)) + (3 : Int32))) else (if ni (rg g x) ≤ (5 : Int32) then (k17 (ni (A + ns x (dE g)))) else (k17 (ni (A + ns x (dE g)) + (1 : Int32))))) = K (ni (A + ns x (dE g) + (if 4 ≤ x then rA g (x - 4) else 0))) := fun K => by
      rw [← rA_rg]
      simp (disch := omega) only [ni_lit, ni_eq, ni_le, ni_add, sq_jn]
      by_cases w : rg g x = 5
      · rw [if_pos w, if_pos w]
      · rw [if_neg w, if_neg w]
        by_cases z : rg g x ≤ 5
        · rw [if_pos z, if_neg (by omega), Nat.add_zero]
        · rw [if_neg z, if_pos (by omega)]
    have hrow : ((ni (rw_ g x) <<< ((1 : Int32) &&& 31)) ||| ni (b2 (g x))) &&& 2047 = ni (rw_ g (x + 1)) := by
      rw [rw_s]
      simp (disch := omega) only [ni_lit, ni_and, Nat.reduceAnd, ni_shl, ni_or]
    have hrA := rA_le g (x - 4)
    have hrA2 : (if 4 ≤ x then rA g (x - 4) else 0) ≤ 3 := by split <;> omega
    have hrw1 := rw_lt g (x + 1)
    have hfd : ∀ K : Int32 → Option Int32, sq_jn K (fun k20 => sq_jn (fun (_ : Unit) => k20 (ni (A + ns x (dE g) + (if 4 ≤ x then rA g (x - 4) else 0)))) fun k22 => if ni x < (10 : Int32) then (k22 ()) else (sq_jn (fun (_ : Unit) => k20 (ni (A + ns x (dE g) + (if 4 ≤ x then rA g (x - 4) else 0)) + (40 : Int32))) fun k24 => if ni (rw_ g (x + 1)) = (1488 : Int32) then (k24 ()) else (if ni (rw_ g (x + 1)) = (93 : Int32) then (k24 ()) else (k22 ())))) = K (ni (A + ns (x + 1) (dE g))) := fun K => by
      have hd1 : ns (x + 1) (dE g) = ns x (dE g) + ((if 4 ≤ x then rA g (x - 4) else 0) + (if 10 ≤ x then rF g (x - 10) else 0)) := rfl
      generalize (if 4 ≤ x then rA g (x - 4) else 0) = ra at *
      simp (disch := omega) only [ni_lit, ni_lt, ni_eq, ni_add, sq_jn]
      by_cases w : x < 10
      · rw [if_pos w, hd1, if_neg (by omega), Nat.add_zero, Nat.add_assoc]
      · rw [if_pos (show 10 ≤ x by omega), ← rF_rw g x (by omega)] at hd1
        rw [if_neg w, hd1]
        by_cases z1 : rw_ g (x + 1) = 1488
        · rw [if_pos z1, if_pos z1, ← Nat.add_assoc, Nat.add_assoc, Nat.add_assoc]
        · rw [if_neg z1, if_neg z1]
          by_cases z2 : rw_ g (x + 1) = 93
          · rw [if_pos z2, if_pos z2, ← Nat.add_assoc, Nat.add_assoc, Nat.add_assoc]
          · rw [if_neg z2, if_neg z2, Nat.add_zero, Nat.add_assoc]
    rw [fn_Md_lines_L2_s, if_neg (by rw [ni_le (by omega) (by omega)]; omega), e1, cb1_e, hrun, hsum]
    simp only [sq_bd, hrow]
    rw [hfd, ← ih]
    simp only [ni_lit, ni_add]
theorem ml1 {md : Nat → Int32} {s d n0 : Nat} {P : Nat → Nat → Bool} (hn0 : 300 ≤ n0) (hs : s ≤ 177) (h : MR md s P) (hd : d ≤ 1) : ∀ (e y m : Nat), y + e = s → e < m → fn_Md_lines_L1 (ni d) n0 (ni s) md m (ni (ns y (fun y => LSq (acc d P y) s))) (ni y) = some (ni (ns s (fun y => LSq (acc d P y) s)))
  | 0, y, m + 1, hy, _ => by
    have hys : y = s := by omega
    subst hys
    rw [fn_Md_lines_L1_s, if_pos (by rw [le_I]; omega)]
  | e + 1, y, m + 1, hy, hm => by
    have hLS : ∀ y : Nat, LSq (acc d P y) s ≤ 43 * 177 := fun y => by
      rw [LS_dE]
      have := ns_le (f := dE (acc d P y)) (c := 43) (n := s) (fun i _ => dE_le _ i)
      omega
    have hA := ns_le (f := fun y => LSq (acc d P y) s) (c := 43 * 177) (n := y) (fun i _ => hLS i)
    have e2 := fun k5 => ml2 (A := ns y (fun y => LSq (acc d P y) s)) hs h hd (y := y) (by omega) (by omega) k5 s 0 n0 (by omega) (by omega)
    have e2' : ∀ k5, fn_Md_lines_L2 (ni d) (ni s) md (ni y) k5 n0 (ni (ns y (fun y => LSq (acc d P y) s))) 0 0 0 = k5 (ni (ns (y + 1) (fun y => LSq (acc d P y) s))) := fun k5 => by
      rw [ns_s, LS_dE]; exact e2 k5
    rw [fn_Md_lines_L1_s, if_neg (by rw [ni_le (by omega) (by omega)]; omega), sq_jne, e2', ← ml1 hn0 hs h hd e (y + 1) m (by omega) (by omega)]
    simp only [ni_lit, sq_bd, ni_add]
theorem md_lines {md : Nat → Int32} {s d n0 : Nat} {P : Nat → Nat → Bool} (hn0 : 300 ≤ n0) (hs : s ≤ 177) (h : MR md s P) (hd : d ≤ 1) : fn_Md_lines n0 (ni d) (ni s) md = some (ni (ns s (fun y => LSq (acc d P y) s))) := ml1 hn0 hs h hd s 0 n0 (by omega) (by omega)
/-- four alike, by the last corner and by the first -/
def sq4 (P : Nat → Nat → Bool) (x y : Nat) : Nat := if P x y = P (x + 1) y ∧ P x y = P x (y + 1) ∧ P x y = P (x + 1) (y + 1) then 3 else 0
def sqE (P : Nat → Nat → Bool) (x y : Nat) : Nat := if 1 ≤ x ∧ 1 ≤ y then sq4 P (x - 1) (y - 1) else 0
def SQ (P : Nat → Nat → Bool) (s : Nat) : Nat := ns s (fun y => ns s (fun x => if x + 1 < s ∧ y + 1 < s then sq4 P x y else 0))
theorem SQ_E (P : Nat → Nat → Bool) (s : Nat) : SQ P s = ns s (fun y => ns s (fun x => sqE P x y)) := by
  unfold SQ
  have h1 : ∀ y : Nat, ns s (fun x => if x + 1 < s ∧ y + 1 < s then sq4 P x y else 0) = if y + 1 < s then ns s (fun e => if 1 ≤ e then sq4 P (e - 1) y else 0) else 0 := fun y => by
    by_cases q : y + 1 < s
    · rw [if_pos q, ← ns_sh (fun x => sq4 P x y) 1 s]
      refine ns_cg (fun x hx => ?_)
      by_cases w : x + 1 < s
      · rw [if_pos ⟨w, q⟩, if_pos w]
      · rw [if_neg (fun z => w z.1), if_neg w]
    · rw [if_neg q]
      exact ns_0 (fun x hx => if_neg (fun z => q z.2))
  rw [ns_cg (fun y _ => h1 y), ns_sh (fun y => ns s (fun e => if 1 ≤ e then sq4 P (e - 1) y else 0)) 1 s]
  refine ns_cg (fun y hy => ?_)
  by_cases q : 1 ≤ y
  · rw [if_pos q]
    refine ns_cg (fun x hx => ?_)
    unfold sqE
    by_cases w : 1 ≤ x
    · rw [if_pos w, if_pos ⟨w, q⟩]
    · rw [if_neg w, if_neg (fun z => w z.1)]
  · rw [if_neg q]
    exact (ns_0 (fun x hx => if_neg (fun z => q z.2))).symm
theorem sqE_le (P : Nat → Nat → Bool) (x y : Nat) : sqE P x y ≤ 3 := by
  unfold sqE sq4
  repeat' split
  all_goals omega
def DK (P : Nat → Nat → Bool) (s : Nat) : Nat := ns s (fun y => ns s (fun x => b2 (P x y)))
theorem mp2 {md : Nat → Int32} {s y A D : Nat} {P : Nat → Nat → Bool} (hs : s ≤ 177) (h : MR md s P) (hy : y < s) (hA : A ≤ 10000000) (hD : D ≤ 1000000) (k20 : Int32 → Int32 → Option Int32) : ∀ (e x m : Nat), x + e = s → e < m → fn_Md_penalty_L2 (ni s) md (ni y) k20 m (ni (A + ns x (fun x => sqE P x y))) (ni (D + ns x (fun x => b2 (P x y)))) (ni x) = k20 (ni (A + ns s (fun x => sqE P x y))) (ni (D + ns s (fun x => b2 (P x y))))
  | 0, x, m + 1, hx, _ => by
    have hxs : x = s := by omega
    subst hxs
    rw [fn_Md_penalty_L2_s, if_pos (by rw [le_I]; omega)]
  | e + 1, x, m + 1, hx, hm => by
    have ih := mp2 hs h hy hA hD k20 e (x + 1) m (by omega) (by omega)
    have e1 := md_module (d := 0) hs h (by omega) (x := x) (by omega) hy
    have a1 : acc 0 P y x = P x y := rfl
    rw [a1] at e1
    have hb := b2_le (P x y)
    have hnsA := ns_le (f := fun x => sqE P x y) (c := 3) (n := x) (fun i _ => sqE_le P i y)
    have hnsD := ns_le (f := fun x => b2 (P x y)) (c := 1) (n := x) (fun i _ => b2_le _)
    have e1' : fn_Md_module (ni x) (ni y) 0 md = some (ni (b2 (P x y))) := e1
    have hD1 : ni (D + ns x (fun x => b2 (P x y))) + ni (b2 (P x y)) = ni (D + ns (x + 1) (fun x => b2 (P x y))) := by rw [ni_add, ns_s, Nat.add_assoc]
    have hj : ∀ K : Int32 → Option Int32, sq_jn K (fun k30 => if ni x ≤ 0 then (k30 (ni (A + ns x (fun x => sqE P x y)))) else (if ni y ≤ 0 then (k30 (ni (A + ns x (fun x => sqE P x y)))) else (sq_cb1 (some (ni (b2 (P x y)))) fun r34 => sq_cb1 (fn_Md_module (ni x - (1 : Int32)) (ni y) (0 : Int32) md) fun r36 => sq_cb1 (fn_Md_module (ni x) (ni y - (1 : Int32)) (0 : Int32) md) fun r38 => sq_cb1 (fn_Md_module (ni x - (1 : Int32)) (ni y - (1 : Int32)) (0 : Int32) md) fun r40 => sq_bd (((r34 + r36) + r38) + r40) fun x42 => sq_jn (fun (x43 : Int32) => k30 x43) fun k44 => sq_jn (fun (_ : Unit) => k44 (ni (A + ns x (fun x => sqE P x y)) + (3 : Int32))) fun k45 => if x42 = 0 then (k45 ()) else (if x42 = (4 : Int32) then (k45 ()) else (k44 (ni (A + ns x (fun x => sqE P x y)))))))) = K (ni (A + ns (x + 1) (fun x => sqE P x y))) := fun K => by
      have hs1 : ns (x + 1) (fun x => sqE P x y) = ns x (fun x => sqE P x y) + sqE P x y := rfl
      rw [hs1, sq_jne]
      generalize ns x (fun x => sqE P x y) = N
      unfold sqE
      by_cases q1 : x = 0
      · rw [if_pos (by rw [← ni_0, ni_le (by omega) (by omega)]; omega), if_neg (fun z => by omega), Nat.add_zero]
      · rw [if_neg (by rw [← ni_0, ni_le (by omega) (by omega)]; omega)]
        by_cases q2 : y = 0
        · rw [if_pos (by rw [← ni_0, ni_le (by omega) (by omega)]; omega), if_neg (fun z => by omega), Nat.add_zero]
        · rw [if_neg (by rw [← ni_0, ni_le (by omega) (by omega)]; omega), if_pos (show 1 ≤ x ∧ 1 ≤ y by omega)]
          have f1 : fn_Md_module (ni (x - 1)) (ni y) 0 md = some (ni (b2 (P (x - 1) y))) := md_module (d := 0) hs h (by omega) (by omega) hy
          have f2 : fn_Md_module (ni x) (ni (y - 1)) 0 md = some (ni (b2 (P x (y - 1)))) := md_module (d := 0) hs h (by omega) (by omega) (by omega)
          have f3 : fn_Md_module (ni (x - 1)) (ni (y - 1)) 0 md = some (ni (b2 (P (x - 1) (y - 1)))) := md_module (d := 0) hs h (by omega) (by omega) (by omega)
          have g1 : ni x - 1 = ni (x - 1) := by rw [show (1 : Int32) = ni 1 from rfl, ni_sub (by omega)]
          have g2 : ni y - 1 = ni (y - 1) := by rw [show (1 : Int32) = ni 1 from rfl, ni_sub (by omega)]
          have g3 : ni (A + N) + 3 = ni (A + (N + 3)) := by rw [show (3 : Int32) = ni 3 from rfl, ni_add, Nat.add_assoc]
          unfold sq4
          rw [show x - 1 + 1 = x by omega, show y - 1 + 1 = y by omega, g1, g2, cb1_e, f1, cb1_e, f2, cb1_e, f3, cb1_e]
          generalize P x y = p1
          generalize P (x - 1) y = p2
          generalize P x (y - 1) = p3
          generalize P (x - 1) (y - 1) = p4
          cases p1 <;> cases p2 <;> cases p3 <;> cases p4 <;> first
            | (show K (ni (A + N) + 3) = K (ni (A + (N + 3))); rw [g3])
            | (show K (ni (A + N)) = K (ni (A + (N + 0))); rfl)
    rw [fn_Md_penalty_L2_s, if_neg (by rw [ni_le (by omega) (by omega)]; omega), e1', cb1_e]
    rw [show (sq_bd (ni (D + ns x (fun x => b2 (P x y))) + ni (b2 (P x y))) : (Int32 → Option Int32) → Option Int32) = fun k => k (ni (D + ns (x + 1) (fun x => b2 (P x y)))) from by unfold sq_bd; rw [hD1]]
    dsimp only
    rw [hj, ← ih]
    simp only [ni_lit, sq_bd, ni_add]
theorem mp1 {md : Nat → Int32} {s n0 A : Nat} {P : Nat → Nat → Bool} (hn0 : 300 ≤ n0) (hs : s ≤ 177) (h : MR md s P) (hA : A ≤ 5000000) (k8 : Int32 → Int32 → Option Int32) : ∀ (e y m : Nat), y + e = s → e < m → fn_Md_penalty_L1 n0 (ni s) md k8 m (ni (A + ns y (fun y => ns s (fun x => sqE P x y)))) (ni (ns y (fun y => ns s (fun x => b2 (P x y))))) (ni y) = k8 (ni (A + SQ P s)) (ni (DK P s))
  | 0, y, m + 1, hy, _ => by
    have hys : y = s := by omega
    subst hys
    rw [fn_Md_penalty_L1_s, if_pos (by rw [le_I]; omega), SQ_E]
    rfl
  | e + 1, y, m + 1, hy, hm => by
    have h1 : ∀ y : Nat, ns s (fun x => sqE P x y) ≤ 3 * 177 := fun y => by
      have := ns_le (f := fun x => sqE P x y) (c := 3) (n := s) (fun i _ => sqE_le P i y)
      omega
    have h2 : ∀ y : Nat, ns s (fun x => b2 (P x y)) ≤ 177 := fun y => by
      have := ns_le (f := fun x => b2 (P x y)) (c := 1) (n := s) (fun i _ => b2_le _)
      omega
    have hA1 := ns_le (f := fun y => ns s (fun x => sqE P x y)) (c := 3 * 177) (n := y) (fun i _ => h1 i)
    have hD1 := ns_le (f := fun y => ns s (fun x => b2 (P x y))) (c := 177) (n := y) (fun i _ => h2 i)
    have e2 := fun k20 => mp2 (A := A + ns y (fun y => ns s (fun x => sqE P x y))) (D := ns y (fun y => ns s (fun x => b2 (P x y)))) hs h (y := y) (by omega) (by omega) (by omega) k20 s 0 n0 (by omega) (by omega)
    have e2' : ∀ k20, fn_Md_penalty_L2 (ni s) md (ni y) k20 n0 (ni (A + ns y (fun y => ns s (fun x => sqE P x y)))) (ni (ns y (fun y => ns s (fun x => b2 (P x y))))) 0 = k20 (ni (A + ns (y + 1) (fun y => ns s (fun x => sqE P x y)))) (ni (ns (y + 1) (fun y => ns s (fun x => b2 (P x y))))) := fun k20 => by
      rw [ns_s, ns_s, ← Nat.add_assoc]; exact e2 k20
    rw [fn_Md_penalty_L1_s, if_neg (by rw [ni_le (by omega) (by omega)]; omega), sq_jne, e2', ← mp1 hn0 hs h hA k8 e (y + 1) m (by omega) (by omega)]
    simp only [ni_lit, sq_bd, ni_add]
/-- the penalty of the modules P -/
def PEN (P : Nat → Nat → Bool) (s : Nat) : Nat := ns s (fun y => LSq (acc 0 P y) s) + ns s (fun y => LSq (acc 1 P y) s) + SQ P s + 10 * ((if 10 * (s * s) ≤ 20 * DK P s then 20 * DK P s - 10 * (s * s) else 10 * (s * s) - 20 * DK P s) / (s * s))
theorem LS_sum (d : Nat) (P : Nat → Nat → Bool) {s : Nat} (hs : s ≤ 177) : ns s (fun y => LSq (acc d P y) s) ≤ 1400000 := by
  have hLS : ∀ y : Nat, LSq (acc d P y) s ≤ 43 * 177 := fun y => by
    rw [LS_dE]
    have := ns_le (f := dE (acc d P y)) (c := 43) (n := s) (fun i _ => dE_le _ i)
    omega
  have hA := ns_le (f := fun y => LSq (acc d P y) s) (c := 43 * 177) (n := s) (fun i _ => hLS i)
  omega
theorem SQ_le (P : Nat → Nat → Bool) {s : Nat} (hs : s ≤ 177) : SQ P s ≤ 100000 ∧ DK P s ≤ s * s := by
  have h1 : ∀ y : Nat, ns s (fun x => sqE P x y) ≤ 3 * 177 := fun y => by
    have := ns_le (f := fun x => sqE P x y) (c := 3) (n := s) (fun i _ => sqE_le P i y)
    omega
  have h2 : ∀ y : Nat, ns s (fun x => b2 (P x y)) ≤ s := fun y => by
    have := ns_le (f := fun x => b2 (P x y)) (c := 1) (n := s) (fun i _ => b2_le _)
    omega
  constructor
  · rw [SQ_E]
    have hA1 := ns_le (f := fun y => ns s (fun x => sqE P x y)) (c := 3 * 177) (n := s) (fun i _ => h1 i)
    omega
  · exact ns_le (f := fun y => ns s (fun x => b2 (P x y))) (c := s) (n := s) (fun i _ => h2 i)
theorem PEN_le (P : Nat → Nat → Bool) {s : Nat} (hs1 : 1 ≤ s) (hs : s ≤ 177) : PEN P s ≤ 3000000 := by
  have a1 := LS_sum 0 P hs
  have a2 := LS_sum 1 P hs
  obtain ⟨a3, a4⟩ := SQ_le P hs
  have hss : 1 ≤ s * s := Nat.mul_le_mul hs1 hs1
  have h3 : (if 10 * (s * s) ≤ 20 * DK P s then 20 * DK P s - 10 * (s * s) else 10 * (s * s) - 20 * DK P s) ≤ 10 * (s * s) := by split <;> omega
  have h4 : (if 10 * (s * s) ≤ 20 * DK P s then 20 * DK P s - 10 * (s * s) else 10 * (s * s) - 20 * DK P s) / (s * s) ≤ 10 := by
    rw [Nat.div_le_iff_le_mul (by omega)]
    omega
  unfold PEN
  omega
theorem md_penalty {md : Nat → Int32} {s n0 : Nat} {P : Nat → Nat → Bool} (hn0 : 300 ≤ n0) (hs1 : 1 ≤ s) (hs : s ≤ 177) (h : MR md s P) : fn_Md_penalty n0 (ni s) md = some (ni (PEN P s)) := by
  have a1 := LS_sum 0 P hs
  have a2 := LS_sum 1 P hs
  obtain ⟨a3, a4⟩ := SQ_le P hs
  have hss : 1 ≤ s * s := Nat.mul_le_mul hs1 hs1
  have hss2 : s * s ≤ 177 * 177 := Nat.mul_le_mul hs hs
  have l0 : fn_Md_lines n0 0 (ni s) md = some (ni (ns s (fun y => LSq (acc 0 P y) s))) := md_lines (d := 0) hn0 hs h (by omega)
  have l1 : fn_Md_lines n0 1 (ni s) md = some (ni (ns s (fun y => LSq (acc 1 P y) s))) := md_lines (d := 1) hn0 hs h (by omega)
  have e1 := fun k8 => mp1 (A := ns s (fun y => LSq (acc 0 P y) s) + ns s (fun y => LSq (acc 1 P y) s)) hn0 hs h (by omega) k8 s 0 n0 (by omega) (by omega)
  have e1' : ∀ k8, fn_Md_penalty_L1 n0 (ni s) md k8 n0 (ni (ns s (fun y => LSq (acc 0 P y) s) + ns s (fun y => LSq (acc 1 P y) s))) 0 0 = k8 (ni (ns s (fun y => LSq (acc 0 P y) s) + ns s (fun y => LSq (acc 1 P y) s) + SQ P s)) (ni (DK P s)) := e1
  unfold fn_Md_penalty PEN
  rw [l0, l1]
  simp only [sq_cb1, sq_bd, sq_jn, ni_add, e1']
  have m1 : (20 : Int32) * ni (DK P s) - (10 : Int32) * (ni s * ni s) = ni (20 * DK P s) - ni (10 * (s * s)) := by rw [show (20 : Int32) = ni 20 from rfl, show (10 : Int32) = ni 10 from rfl, ni_mul, ni_mul, ni_mul]
  have m2 : (0 ≤ ni (20 * DK P s) - ni (10 * (s * s))) ↔ (10 * (s * s) ≤ 20 * DK P s) := by
    rw [← ni_0, ni_sle (by omega) (by omega) (by omega)]; omega
  have m3 : ni s * ni s = ni (s * s) := ni_mul s s
  rw [m1, m3]
  by_cases q : 10 * (s * s) ≤ 20 * DK P s
  · rw [if_pos (m2.mpr q), if_pos q, ni_gz (by omega) (by omega), ni_sub q, ni_div (by omega) (by omega), show (10 : Int32) = ni 10 from rfl, ni_mul, ni_add]
  · have m4 : -(ni (20 * DK P s) - ni (10 * (s * s))) = ni (10 * (s * s) - 20 * DK P s) := by
      rw [ni_neg (by omega), Int32.neg_neg]
    rw [if_neg (fun z => q (m2.mp z)), if_neg q, ni_gz (by omega) (by omega), m4, ni_div (by omega) (by omega), show (10 : Int32) = ni 10 from rfl, ni_mul, ni_add]
