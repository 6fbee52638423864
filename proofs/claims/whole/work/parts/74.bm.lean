/-! own rows: recurrences of a run of field elements (Berlekamp and Massey), in numbers alone -/
def cv (A S : Nat → Nat) (k : Nat) : Nat := xs (k + 1) (fun i => gm (A i) (S (k - i)))
theorem cv_lt (A S : Nat → Nat) (k : Nat) : cv A S k < 256 := xs_lt (fun _ _ => gm_lt _ _)
theorem xs_sqr (F : Nat → Nat → Nat) (n : Nat) : xs (n + 1) (fun i => xs (n + 1 - i) (fun j => F i j)) = xs (n + 1) (fun j => xs (n + 1 - j) (fun i => F i j)) := by
  have e1 : xs (n + 1) (fun i => xs (n + 1 - i) (fun j => F i j)) = xs (n + 1) (fun i => xs (n + 1) (fun j => if i + j ≤ n then F i j else 0)) := by
    refine xs_cg (fun i hi => ?_)
    rw [xs_up (n := n + 1 - i) (m := n + 1) (by omega) (fun j h1 h2 => if_neg (by omega))]
    exact xs_cg (fun j hj => by rw [if_pos (by omega)])
  have e2 : xs (n + 1) (fun j => xs (n + 1 - j) (fun i => F i j)) = xs (n + 1) (fun j => xs (n + 1) (fun i => if i + j ≤ n then F i j else 0)) := by
    refine xs_cg (fun j hi => ?_)
    rw [xs_up (n := n + 1 - j) (m := n + 1) (by omega) (fun i h1 h2 => if_neg (by omega))]
    exact xs_cg (fun i hj => by rw [if_pos (by omega)])
  rw [e1, e2, xs_sw]
theorem cv_cv (A B S : Nat → Nat) (n : Nat) : cv A (cv B S) n = cv B (cv A S) n := by
  have h : ∀ A B : Nat → Nat, cv A (cv B S) n = xs (n + 1) (fun i => xs (n + 1 - i) (fun j => gm (A i) (gm (B j) (S (n - i - j))))) := by
    intro A B
    refine xs_cg (fun i hi => ?_)
    show gm (A i) (xs (n - i + 1) _) = _
    rw [xs_m, show n - i + 1 = n + 1 - i by omega]
  rw [h A B, h B A, xs_sqr]
  refine xs_cg (fun i hi => xs_cg (fun j hj => ?_))
  rw [gm_lc, show n - j - i = n - i - j by omega]
theorem cv_x (A B S : Nat → Nat) (k : Nat) : cv (fun i => A i ^^^ B i) S k = cv A S k ^^^ cv B S k := by
  unfold cv
  rw [← xs_x]
  exact xs_cg (fun i _ => gm_xl _ _ _)
/-- moved by m and multiplied -/
theorem cv_sh (f m : Nat) (B S : Nat → Nat) (k : Nat) : cv (fun i => if m ≤ i then gm f (B (i - m)) else 0) S k = if m ≤ k then gm f (cv B S (k - m)) else 0 := by
  unfold cv
  by_cases h : m ≤ k
  · rw [if_pos h, show k + 1 = m + (k - m + 1) by omega, xs_add, xs_0 (fun i hi => by dsimp only; rw [if_neg (by omega), gm_0l]), x_0l, xs_m]
    refine xs_cg (fun i hi => ?_)
    dsimp only
    rw [if_pos (by omega), show m + i - m = i by omega, gm_assoc, show k - (m + i) = k - m - i by omega]
  · rw [if_neg h]
    exact xs_0 (fun i hi => by dsimp only; rw [if_neg (by omega), gm_0l])
def rc (C : Nat → Nat) (L : Nat) : Prop := C 0 = 1 ∧ (∀ i : Nat, C i < 256) ∧ ∀ i : Nat, L < i → C i = 0
def gn (C S : Nat → Nat) (L n : Nat) : Prop := ∀ k : Nat, L ≤ k → k < n → cv C S k = 0
theorem massey {C D S : Nat → Nat} {L M n : Nat} (h1 : rc C L) (h2 : rc D M) (g1 : gn C S L n) (hd : cv C S n ≠ 0) (g2 : gn D S M (n + 1)) : n + 1 ≤ M + L := by
  by_cases hc : n + 1 ≤ M + L
  · exact hc
  · exfalso
    have e := cv_cv D C S n
    have e1 : cv D (cv C S) n = cv C S n := by
      have q : xs n (fun i => gm (D (i + 1)) (cv C S (n - (i + 1)))) = 0 := xs_0 (fun i hi => by
        by_cases hi2 : i + 1 ≤ M
        · rw [g1 _ (by omega) (by omega), gm_0r]
        · rw [h2.2.2 _ (by omega), gm_0l])
      show xs (n + 1) (fun i => gm (D i) (cv C S (n - i))) = cv C S n
      rw [xs_l, q, x_0, h2.1, gm_i1 (cv_lt _ _ _), Nat.sub_zero]
    have e2 : cv C (cv D S) n = 0 := by
      refine xs_0 (fun i hi => ?_)
      by_cases hi2 : i ≤ L
      · rw [g2 _ (by omega) (by omega), gm_0r]
      · rw [h1.2.2 _ (by omega), gm_0l]
    rw [e1, e2] at e
    exact hd e
def mn (S : Nat → Nat) (L n : Nat) : Prop := ∀ (D : Nat → Nat) (M : Nat), rc D M → gn D S M n → L ≤ M
def BM (S : Nat → Nat) (n : Nat) (C B : Nat → Nat) (L K m b : Nat) : Prop := rc C L ∧ L ≤ n ∧ gn C S L n ∧ mn S L n ∧ (∀ i : Nat, B i < 256) ∧ (∀ i : Nat, K < i → B i = 0) ∧ (∀ k : Nat, K ≤ k → k + m < n → cv B S k = 0) ∧ (m ≤ n → cv B S (n - m) = b) ∧ b ≠ 0 ∧ b < 256 ∧ 1 ≤ m ∧ L + K + m = n + 1
def u0 : Nat → Nat := fun i => if i = 0 then 1 else 0
theorem u0_lt (i : Nat) : u0 i < 256 := by unfold u0; split <;> omega
theorem BM_0 (S : Nat → Nat) : BM S 0 u0 u0 0 0 1 1 := by
  refine ⟨⟨rfl, u0_lt, fun i hi => if_neg (by omega)⟩, by omega, fun k _ h => absurd h (by omega), fun _ _ _ _ => by omega, u0_lt, fun i hi => if_neg (by omega), fun k _ h => absurd h (by omega), fun h => absurd h (by omega), by omega, by omega, by omega, rfl⟩
theorem BM_z {S C B : Nat → Nat} {n L K m b : Nat} (h : BM S n C B L K m b) (hd : cv C S n = 0) : BM S (n + 1) C B L K (m + 1) b := by
  obtain ⟨a1, a2, a3, a4, a5, a6, a7, a8, a9, a10, a11, a12⟩ := h
  refine ⟨a1, by omega, fun k h1 h2 => ?_, fun D M h1 h2 => a4 D M h1 (fun k q1 q2 => h2 k q1 (by omega)), a5, a6, fun k h1 h2 => a7 k h1 (by omega), fun h => ?_, a9, a10, by omega, by omega⟩
  · by_cases e : k = n
    · rw [e]; exact hd
    · exact a3 k h1 (by omega)
  · rw [show n + 1 - (m + 1) = n - m by omega]; exact a8 (by omega)
def bmC (C B : Nat → Nat) (m f : Nat) : Nat → Nat := fun i => C i ^^^ (if m ≤ i then gm f (B (i - m)) else 0)
theorem BM_gn {S C B : Nat → Nat} {n L K m b f : Nat} (h : BM S n C B L K m b) (hf : f = gm (cv C S n) (gi b)) {L' : Nat} (h1 : L ≤ L') (h2 : n + 1 ≤ L + L') (h3 : m ≤ n ∨ n < L') : rc (bmC C B m f) L' ∧ gn (bmC C B m f) S L' (n + 1) := by
  obtain ⟨a1, a2, a3, a4, a5, a6, a7, a8, a9, a10, a11, a12⟩ := h
  refine ⟨⟨?_, fun i => ?_, fun i hi => ?_⟩, fun k q1 q2 => ?_⟩
  · show C 0 ^^^ (if m ≤ 0 then _ else 0) = 1
    rw [if_neg (by omega), a1.1, x_0]
  · refine x_lt (a1.2.1 i) ?_
    split
    · exact gm_lt _ _
    · omega
  · show C i ^^^ (if m ≤ i then _ else 0) = 0
    rw [a1.2.2 i (by omega), a6 (i - m) (by omega), gm_0r, ite_self, x_0]
  · show cv (fun i => C i ^^^ (if m ≤ i then gm f (B (i - m)) else 0)) S k = 0
    rw [cv_x, cv_sh]
    by_cases e : k = n
    · subst e
      rw [if_pos (by omega), a8 (by omega), hf, gm_assoc, gm_comm (gi b) b, gm_gi a10 a9, gm_1 (cv_lt _ _ _), x_s]
    · rw [a3 k (by omega) (by omega), a7 (k - m) (by omega) (by omega), gm_0r, ite_self, x_0]
theorem BM_l {S C B : Nat → Nat} {n L K m b f : Nat} (h : BM S n C B L K m b) (hd : cv C S n ≠ 0) (hf : f = gm (cv C S n) (gi b)) (h2 : 2 * L ≤ n) : BM S (n + 1) (bmC C B m f) C (n + 1 - L) L 1 (cv C S n) := by
  obtain ⟨g1, g2⟩ := BM_gn h hf (L' := n + 1 - L) (by omega) (by omega) (by
    obtain ⟨a1, a2, a3, a4, a5, a6, a7, a8, a9, a10, a11, a12⟩ := h
    by_cases q : m ≤ n
    · exact Or.inl q
    · exact Or.inr (by omega))
  obtain ⟨a1, a2, a3, a4, a5, a6, a7, a8, a9, a10, a11, a12⟩ := h
  refine ⟨g1, by omega, g2, fun D M q1 q2 => ?_, a1.2.1, a1.2.2, fun k q1 q2 => a3 k q1 (by omega), fun _ => rfl, hd, cv_lt _ _ _, by omega, by omega⟩
  have := massey a1 q1 a3 hd q2
  omega
theorem BM_k {S C B : Nat → Nat} {n L K m b f : Nat} (h : BM S n C B L K m b) (hd : cv C S n ≠ 0) (hf : f = gm (cv C S n) (gi b)) (h2 : ¬ 2 * L ≤ n) : BM S (n + 1) (bmC C B m f) B L K (m + 1) b := by
  obtain ⟨g1, g2⟩ := BM_gn h hf (L' := L) (by omega) (by omega) (by
    obtain ⟨a1, a2, a3, a4, a5, a6, a7, a8, a9, a10, a11, a12⟩ := h
    exact Or.inl (by omega))
  obtain ⟨a1, a2, a3, a4, a5, a6, a7, a8, a9, a10, a11, a12⟩ := h
  refine ⟨g1, by omega, g2, fun D M q1 q2 => ?_, a5, a6, fun k q1 q2 => a7 k q1 (by omega), fun h => ?_, a9, a10, by omega, by omega⟩
  · exact a4 D M q1 (fun k w1 w2 => q2 k w1 (by omega))
  · rw [show n + 1 - (m + 1) = n - m by omega]; exact a8 (by omega)
/-! the locator of places -/
def lc (X : Nat → Nat) : Nat → Nat → Nat
  | 0 => u0
  | t + 1 => fun k => lc X t k ^^^ (if k = 0 then 0 else gm (X t) (lc X t (k - 1)))
theorem lc_s (X : Nat → Nat) (t k : Nat) : lc X (t + 1) k = lc X t k ^^^ (if k = 0 then 0 else gm (X t) (lc X t (k - 1))) := rfl
theorem lc_rc (X : Nat → Nat) : ∀ t : Nat, rc (lc X t) t
  | 0 => ⟨rfl, u0_lt, fun i hi => if_neg (by omega)⟩
  | t + 1 => by
    obtain ⟨h1, h2, h3⟩ := lc_rc X t
    refine ⟨?_, fun i => ?_, fun i hi => ?_⟩
    · rw [lc_s, h1, if_pos rfl, x_0]
    · rw [lc_s]; refine x_lt (h2 i) ?_
      split
      · omega
      · exact gm_lt _ _
    · rw [lc_s, h3 i (by omega), if_neg (by omega), h3 (i - 1) (by omega), gm_0r, x_0]
theorem hn_sh (c : Nat → Nat) (X Y : Nat) : ∀ n : Nat, hn (fun k => c k ^^^ (if k = 0 then 0 else gm X (c (k - 1)))) Y (n + 1) = hn c Y (n + 1) ^^^ gm X (hn c Y n)
  | 0 => by
    rw [hn_s, hn_s]; show gm 0 Y ^^^ (c 0 ^^^ 0) = gm 0 Y ^^^ c 0 ^^^ gm X 0
    rw [gm_0r, x_0, x_0]
  | n + 1 => by
    rw [hn_s, hn_sh c X Y n, hn_s c Y (n + 1), hn_s c Y n, gm_xl, if_neg (by omega), show n + 1 - 1 = n by omega]
    simp only [gm_xr, gm_xl, gm_assoc, Nat.xor_assoc, Nat.xor_comm, x_lc, x_s, x_0, x_0l, x_c]
theorem lc_root (X : Nat → Nat) (hX : ∀ i : Nat, X i < 256) : ∀ (t i : Nat), i < t → hn (lc X t) (X i) (t + 1) = 0
  | t + 1, i, hi => by
    obtain ⟨h1, h2, h3⟩ := lc_rc X t
    have e : hn (lc X (t + 1)) (X i) (t + 1 + 1) = hn (lc X t) (X i) (t + 1 + 1) ^^^ gm (X t) (hn (lc X t) (X i) (t + 1)) := hn_sh (lc X t) (X t) (X i) (t + 1)
    rw [e, hn_s, h3 (t + 1) (by omega), x_0, gm_comm, ← gm_xl]
    by_cases q : i = t
    · rw [q, x_s, gm_0l]
    · rw [lc_root X hX t i (by omega), gm_0r]
/-! a run of sums of powers -/
def sp (t : Nat) (e X : Nat → Nat) (k : Nat) : Nat := xs t (fun i => gm (e i) (gq (X i) k))
theorem sp_lt (t : Nat) (e X : Nat → Nat) (k : Nat) : sp t e X k < 256 := xs_lt (fun _ _ => gm_lt _ _)
theorem cv_sp {C S e X : Nat → Nat} {t L c : Nat} (hC : rc C L) (hS : ∀ k : Nat, k < c → S k = sp t e X k) (r : Nat) (hr : L + r < c) : cv C S (L + r) = xs t (fun i => gm (gm (e i) (hn C (X i) (L + 1))) (gq (X i) r)) := by
  unfold cv
  rw [xs_up (n := L + 1) (by omega) (fun i h1 h2 => by rw [hC.2.2 i (by omega), gm_0l])]
  rw [xs_cg (g := fun k => xs t (fun i => gm (gm (e i) (gq (X i) r)) (gm (C k) (gq (X i) (L - k))))) (fun k hk => by
    rw [hS _ (by omega)]
    unfold sp
    rw [xs_m]
    refine xs_cg (fun i hi => ?_)
    rw [show L + r - k = r + (L - k) by omega, gq_add, ← gm_assoc (e i), gm_lc])]
  rw [xs_sw]
  refine xs_cg (fun i hi => ?_)
  rw [← xs_m, hn_xs _ (fun i _ => hC.2.1 i), gm_assoc (e i), gm_assoc (e i), gm_comm (gq (X i) r)]
  rfl
theorem cv_sp2 {C S e X : Nat → Nat} {t c : Nat} (hC : ∀ i : Nat, C i < 256) (hS : ∀ k : Nat, k < c → S k = sp t e X k) (k : Nat) (hk : k < c) : cv C S k = xs t (fun i => gm (e i) (hn C (X i) (k + 1))) := by
  unfold cv
  rw [xs_cg (g := fun j => xs t (fun i => gm (e i) (gm (C j) (gq (X i) (k - j))))) (fun j hj => by
    rw [hS _ (by omega)]
    unfold sp
    rw [xs_m]
    exact xs_cg (fun i hi => gm_lc _ _ _))]
  rw [xs_sw]
  refine xs_cg (fun i hi => ?_)
  rw [← xs_m, hn_xs _ (fun i _ => hC i)]
  rfl
/-- the shortest recurrence of t powers: its length is t, its roots are theirs -/
theorem sp_loc {C S e X : Nat → Nat} {t L c : Nat} (hC : rc C L) (hg : gn C S L c) (hm : mn S L c) (hS : ∀ k : Nat, k < c → S k = sp t e X k) (hX : ∀ i : Nat, X i < 256) (he : ∀ i : Nat, i < t → e i < 256 ∧ e i ≠ 0) (hd : dj X t) (hc : 2 * t ≤ c) : L = t ∧ ∀ i : Nat, i < t → hn C (X i) (t + 1) = 0 := by
  have hL : L ≤ t := by
    refine hm (lc X t) t (lc_rc X t) (fun k h1 h2 => ?_)
    rw [show k = t + (k - t) by omega, cv_sp (lc_rc X t) hS _ (by omega)]
    refine xs_0 (fun i hi => ?_)
    rw [lc_root X hX t i hi, gm_0r, gm_0l]
  have hr : ∀ i : Nat, i < t → hn C (X i) (L + 1) = 0 := by
    intro i hi
    have := vd_inj t (fun i => gm (e i) (hn C (X i) (L + 1))) X (fun _ _ => gm_lt _ _) (fun i _ => hX i) hd (fun r hr => by
      rw [← cv_sp hC hS r (by omega)]; exact hg _ (by omega) (by omega)) i hi
    exact (gm_zero (he i hi).1 (hn_lt _ (fun k _ => hC.2.1 k)) this).resolve_left (he i hi).2
  have hLt : L = t := by
    by_cases q : L = t
    · exact q
    · have := hn_root (L + 1) C X (fun k _ => hC.2.1 k) (fun i _ => hX i) (dj_le hd (by omega)) (fun i hi => hr i (by omega)) 0 (by omega)
      rw [hC.1] at this
      omega
  exact ⟨hLt, fun i hi => by rw [← hLt]; exact hr i hi⟩
/-- no other roots -/
theorem loc_only {C X : Nat → Nat} {t : Nat} (hC : rc C t) (hX : ∀ i : Nat, X i < 256) (hd : dj X t) (hr : ∀ i : Nat, i < t → hn C (X i) (t + 1) = 0) {Y : Nat} (hY : Y < 256) (h : hn C Y (t + 1) = 0) : ∃ i : Nat, i < t ∧ X i = Y := by
  by_cases q : ∃ i : Nat, i < t ∧ X i = Y
  · exact q
  · exfalso
    have := hn_root (t + 1) C (fun i => if i = t then Y else X i) (fun k _ => hC.2.1 k) (fun i _ => by
      show (if i = t then Y else X i) < 256
      split
      · exact hY
      · exact hX i) (fun i hi j hj hh => by
      simp only at hh
      by_cases q1 : i = t
      · by_cases q2 : j = t
        · omega
        · rw [if_pos q1, if_neg q2] at hh
          exact absurd ⟨j, by omega, hh.symm⟩ q
      · by_cases q2 : j = t
        · rw [if_neg q1, if_pos q2] at hh
          exact absurd ⟨i, by omega, hh⟩ q
        · rw [if_neg q1, if_neg q2] at hh
          exact hd i (by omega) j (by omega) hh) (fun i hi => by
      show hn C (if i = t then Y else X i) (t + 1) = 0
      split
      · exact h
      · exact hr i (by omega)) 0 (by omega)
    rw [hC.1] at this
    omega
/-! Forney -/
def od (C : Nat → Nat) : Nat → Nat := fun j => if j % 2 = 1 then C j else 0
theorem hn_od (C : Nat → Nat) (X : Nat) : ∀ n : Nat, gm X (hn (fun k => hn C X (k + 1)) X n) = hn (od C) X (n + 1) ^^^ (if n % 2 = 1 then hn C X (n + 1) else 0)
  | 0 => by
    show gm X 0 = (gm 0 X ^^^ 0) ^^^ 0
    rw [gm_0l, gm_0r, x_0, x_0]
  | n + 1 => by
    have ih := hn_od C X n
    rw [hn_s (fun k => hn C X (k + 1)) X n, gm_xr, gm_comm _ X, ih, hn_s (od C) X (n + 1), hn_s C X (n + 1)]
    generalize hn (od C) X (n + 1) = A
    generalize hn C X (n + 1) = B
    unfold od
    by_cases q : n % 2 = 1
    · rw [if_pos q, if_neg (by omega), if_neg (by omega), gm_xr, gm_comm A X]
      simp only [Nat.xor_assoc, Nat.xor_comm, x_lc, x_s, x_0, x_0l, x_c]
    · rw [if_neg q, if_pos (by omega), if_pos (by omega), gm_comm A X, gm_comm B X, x_0]
      simp only [Nat.xor_assoc, Nat.xor_comm, x_lc, x_s, x_0, x_0l, x_c]
theorem forney {C S e X : Nat → Nat} {t c p : Nat} (hC : rc C t) (hS : ∀ k : Nat, k < c → S k = sp t e X k) (hX : ∀ i : Nat, X i < 256) (hz : ∀ i : Nat, i < t → X i ≠ 0) (hd : dj X t) (hr : ∀ i : Nat, i < t → hn C (X i) (t + 1) = 0) (hc : t ≤ c) (hp : p < t) : gm (X p) (hn (cv C S) (X p) t) = gm (e p) (hn (od C) (X p) (t + 1)) ∧ hn (od C) (X p) (t + 1) ≠ 0 := by
  have hq : ∀ a b : Nat, a < t → b < t → a ≠ b → hn (fun k => hn C (X a) (k + 1)) (X b) t = 0 := by
    intro a b ha hb hab
    have := hn_div C (X a) (X b) t
    rw [hr a ha, hr b hb, x_0] at this
    refine (gm_zero (x_lt (hX a) (hX b)) (hn_lt _ (fun k _ => hn_lt _ (fun i _ => hC.2.1 i))) this.symm).resolve_left ?_
    exact x_ne (fun q => hab (hd a ha b hb q))
  have hD : gm (X p) (hn (fun k => hn C (X p) (k + 1)) (X p) t) = hn (od C) (X p) (t + 1) := by
    rw [hn_od, hr p hp, ite_self, x_0]
  have e1 : hn (cv C S) (X p) t = gm (e p) (hn (fun k => hn C (X p) (k + 1)) (X p) t) := by
    rw [hn_xs _ (fun i _ => cv_lt _ _ _)]
    rw [xs_cg (g := fun k => xs t (fun i => gm (e i) (gm (hn C (X i) (k + 1)) (gq (X p) (t - 1 - k))))) (fun k hk => by
      rw [cv_sp2 hC.2.1 hS k (by omega), xs_ml]
      exact xs_cg (fun i hi => gm_assoc _ _ _))]
    rw [xs_sw]
    rw [xs_cg (g := fun i => gm (e i) (hn (fun k => hn C (X i) (k + 1)) (X p) t)) (fun i hi => by
      rw [← xs_m, hn_xs _ (fun k _ => hn_lt _ (fun i _ => hC.2.1 i))])]
    exact xs_one hp (fun i hi hne => by rw [hq i p hi hp hne, gm_0r])
  refine ⟨by rw [e1, gm_lc, hD], fun h0 => ?_⟩
  rw [h0] at hD
  have hz := (gm_zero (hX p) (hn_lt _ (fun k _ => hn_lt _ (fun i _ => hC.2.1 i))) hD).resolve_left (hz p hp)
  have := hn_root t (fun k => hn C (X p) (k + 1)) X (fun k _ => hn_lt _ (fun i _ => hC.2.1 i)) (fun i _ => hX i) hd (fun i hi => by
    by_cases q : i = p
    · rw [q]; exact hz
    · exact hq p i hp hi (fun w => q w.symm)) 0 (by omega)
  rw [hn_s, show hn C (X p) 0 = 0 from rfl, gm_0l, x_0l, hC.1] at this
  omega
