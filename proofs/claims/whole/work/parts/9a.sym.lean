/-! own rows: one symbol of the class and the model -/
def isF (s a b : Nat) : Prop := ∃ i : Nat, i < 15 ∧ ((a = fX 0 i s ∧ b = fY 0 i s) ∨ (a = fX 1 i s ∧ b = fY 1 i s))
theorem fX_b {c i s : Nat} (hc : c < 2) (hi : i < 15) (hs : 21 ≤ s) (hs2 : s ≤ 177) : fX c i s < s ∧ fY c i s < s := by
  unfold fX fY
  constructor
  · by_cases h : c = 1
    · rw [if_pos h]; split <;> omega
    · rw [if_neg h]; split
      · omega
      · split <;> omega
  · by_cases h : c = 1
    · rw [if_pos h]; split <;> omega
    · rw [if_neg h]; split
      · omega
      · split <;> omega
theorem fpB_no {s : Nat} {w : Nat → Bool} {P : Nat → Nat → Bool} {a b : Nat} (hs : 21 ≤ s) (hs2 : s ≤ 177) (ha : a < s) (hb : b < s) (h : ¬ isF s a b) : ∀ n : Nat, n ≤ 15 → fpB s w n P a b = P a b
  | 0, _ => rfl
  | n + 1, hn => by
    obtain ⟨x0, y0⟩ := fX_b (c := 0) (i := n) (s := s) (by omega) (by omega) hs hs2
    obtain ⟨x1, y1⟩ := fX_b (c := 1) (i := n) (s := s) (by omega) (by omega) hs hs2
    show sB (fX 1 n s) (fY 1 n s) (w n) (sB (fX 0 n s) (fY 0 n s) (w n) (fpB s w n P)) a b = _
    unfold sB
    rw [if_neg (fun z => h ⟨n, by omega, Or.inr ?_⟩), if_neg (fun z => h ⟨n, by omega, Or.inl ?_⟩), fpB_no hs hs2 ha hb h n (by omega)]
    · have z1 := z.1; have z2 := z.2
      rw [ni_eq (by omega) (by omega)] at z1 z2
      exact ⟨z1.symm, z2.symm⟩
    · have z1 := z.1; have z2 := z.2
      rw [ni_eq (by omega) (by omega)] at z1 z2
      exact ⟨z1.symm, z2.symm⟩
theorem fpB_same {s : Nat} {w : Nat → Bool} {P Q : Nat → Nat → Bool} {a b : Nat} (h : P a b = Q a b) : ∀ n : Nat, fpB s w n P a b = fpB s w n Q a b
  | 0 => h
  | n + 1 => by
    show sB (fX 1 n s) (fY 1 n s) (w n) (sB (fX 0 n s) (fY 0 n s) (w n) (fpB s w n P)) a b = sB (fX 1 n s) (fY 1 n s) (w n) (sB (fX 0 n s) (fY 0 n s) (w n) (fpB s w n Q)) a b
    unfold sB
    rw [fpB_same h n]
theorem fpB_F {s : Nat} {w : Nat → Bool} {P Q : Nat → Nat → Bool} {a b : Nat} : ∀ n : Nat, (∃ i : Nat, i < n ∧ ((a = fX 0 i s ∧ b = fY 0 i s) ∨ (a = fX 1 i s ∧ b = fY 1 i s))) → fpB s w n P a b = fpB s w n Q a b
  | 0, h => by obtain ⟨i, h1, _⟩ := h; omega
  | n + 1, h => by
    show sB (fX 1 n s) (fY 1 n s) (w n) (sB (fX 0 n s) (fY 0 n s) (w n) (fpB s w n P)) a b = sB (fX 1 n s) (fY 1 n s) (w n) (sB (fX 0 n s) (fY 0 n s) (w n) (fpB s w n Q)) a b
    unfold sB
    by_cases z1 : ni (fX 1 n s) = ni a ∧ ni (fY 1 n s) = ni b
    · rw [if_pos z1, if_pos z1]
    · rw [if_neg z1, if_neg z1]
      by_cases z2 : ni (fX 0 n s) = ni a ∧ ni (fY 0 n s) = ni b
      · rw [if_pos z2, if_pos z2]
      · rw [if_neg z2, if_neg z2]
        apply fpB_F n
        obtain ⟨i, h1, h2⟩ := h
        refine ⟨i, ?_, h2⟩
        by_cases z3 : i = n
        · subst z3
          rcases h2 with ⟨e1, e2⟩ | ⟨e1, e2⟩
          · exact absurd ⟨by rw [e1], by rw [e2]⟩ z2
          · exact absurd ⟨by rw [e1], by rw [e2]⟩ z1
        · omega
/-! what is fixed stays fixed -/
theorem fxq_nz {x y : Int32} {d : Bool} {q : Nat → Nat → Nat} {a b : Nat} (h : q a b ≠ 0) : fxq x y d q a b ≠ 0 := by
  unfold fxq
  split
  · cases d <;> decide
  · exact h
theorem fxq_iff {x y : Int32} {d d' : Bool} {q r : Nat → Nat → Nat} {a b : Nat} (h : q a b ≠ 0 ↔ r a b ≠ 0) : fxq x y d q a b ≠ 0 ↔ fxq x y d' r a b ≠ 0 := by
  unfold fxq
  by_cases z : x = ni a ∧ y = ni b
  · rw [if_pos z, if_pos z]; cases d <;> cases d' <;> decide
  · rw [if_neg z, if_neg z]; exact h
theorem fxq_eq {x y : Int32} {d : Bool} {q r : Nat → Nat → Nat} {a b : Nat} (h : q a b = r a b) : fxq x y d q a b = fxq x y d r a b := by
  unfold fxq; rw [h]
theorem rgx_nz {mx my : Int32} {r u : Nat} {dk : Nat → Nat → Bool} {q : Nat → Nat → Nat} {a b : Nat} (h : q a b ≠ 0) : ∀ t : Nat, rgx mx my r dk u t q a b ≠ 0
  | 0 => h
  | t + 1 => fxq_nz (rgx_nz h t)
theorem rgq_nz {mx my : Int32} {r : Nat} {dk : Nat → Nat → Bool} {q : Nat → Nat → Nat} {a b : Nat} (h : q a b ≠ 0) : ∀ u : Nat, rgq mx my r dk u q a b ≠ 0
  | 0 => h
  | u + 1 => rgx_nz (rgq_nz h u) _
theorem alx_nz {v i : Nat} {q : Nat → Nat → Nat} {a b : Nat} (h : q a b ≠ 0) : ∀ j : Nat, alx v i j q a b ≠ 0
  | 0 => h
  | j + 1 => by
    have e : alx v i (j + 1) q = if crn v i j then alx v i j q else rgq (ni (alN v i)) (ni (alN v j)) 2 dka 5 (alx v i j q) := rfl
    rw [e]
    split
    · exact alx_nz h j
    · exact rgq_nz (alx_nz h j) _
theorem alq_nz {v : Nat} {q : Nat → Nat → Nat} {a b : Nat} (h : q a b ≠ 0) : ∀ i : Nat, alq v i q a b ≠ 0
  | 0 => h
  | i + 1 => alx_nz (alq_nz h i) _
theorem tmq_6 {q : Nat → Nat → Nat} {b : Nat} : ∀ n : Nat, b < n → tmq n q 6 b ≠ 0
  | n + 1, h => by
    show fxq 6 (ni n) _ (fxq (ni n) 6 _ (tmq n q)) 6 b ≠ 0
    by_cases z : b = n
    · subst z
      unfold fxq
      rw [if_pos ⟨rfl, rfl⟩]
      split <;> decide
    · exact fxq_nz (fxq_nz (tmq_6 n (by omega)))
theorem q3_6 {v b : Nat} (hb : b < sd v) : q3 v 6 b ≠ 0 := by
  unfold q3
  by_cases w : v ≤ 1
  · rw [if_pos w]
    exact rgq_nz (rgq_nz (rgq_nz (tmq_6 _ hb) _) _) _
  · rw [if_neg w]
    exact alq_nz (rgq_nz (rgq_nz (rgq_nz (tmq_6 _ hb) _) _) _) _
theorem foq_nz {s : Nat} {w : Nat → Bool} {q : Nat → Nat → Nat} {a b : Nat} (h : q a b ≠ 0) : ∀ n : Nat, foq s w n q a b ≠ 0
  | 0 => h
  | n + 1 => fxq_nz (fxq_nz (foq_nz h n))
theorem foq_F {s : Nat} {w : Nat → Bool} {q : Nat → Nat → Nat} {a b : Nat} : ∀ n : Nat, (∃ i : Nat, i < n ∧ ((a = fX 0 i s ∧ b = fY 0 i s) ∨ (a = fX 1 i s ∧ b = fY 1 i s))) → foq s w n q a b ≠ 0
  | 0, h => by obtain ⟨i, h1, _⟩ := h; omega
  | n + 1, h => by
    show fxq (ni (fX 1 n s)) (ni (fY 1 n s)) (w n) (fxq (ni (fX 0 n s)) (ni (fY 0 n s)) (w n) (foq s w n q)) a b ≠ 0
    obtain ⟨i, h1, h2⟩ := h
    by_cases z : i = n
    · subst z
      rcases h2 with ⟨e1, e2⟩ | ⟨e1, e2⟩
      · apply fxq_nz
        unfold fxq
        rw [if_pos ⟨by rw [e1], by rw [e2]⟩]
        cases w i <;> decide
      · unfold fxq
        rw [if_pos ⟨by rw [e1], by rw [e2]⟩]
        cases w i <;> decide
    · exact fxq_nz (fxq_nz (foq_F n ⟨i, by omega, h2⟩))
theorem foq_no {s : Nat} {w : Nat → Bool} {q : Nat → Nat → Nat} {a b : Nat} (hs : 21 ≤ s) (hs2 : s ≤ 177) (ha : a < s) (hb : b < s) (h : ¬ isF s a b) : ∀ n : Nat, n ≤ 15 → foq s w n q a b = q a b
  | 0, _ => rfl
  | n + 1, hn => by
    obtain ⟨x0, y0⟩ := fX_b (c := 0) (i := n) (s := s) (by omega) (by omega) hs hs2
    obtain ⟨x1, y1⟩ := fX_b (c := 1) (i := n) (s := s) (by omega) (by omega) hs hs2
    show fxq (ni (fX 1 n s)) (ni (fY 1 n s)) (w n) (fxq (ni (fX 0 n s)) (ni (fY 0 n s)) (w n) (foq s w n q)) a b = _
    unfold fxq
    rw [if_neg (fun z => h ⟨n, by omega, Or.inr ?_⟩), if_neg (fun z => h ⟨n, by omega, Or.inl ?_⟩), foq_no hs hs2 ha hb h n (by omega)]
    · have z1 := z.1; have z2 := z.2
      rw [ni_eq (by omega) (by omega)] at z1 z2
      exact ⟨z1.symm, z2.symm⟩
    · have z1 := z.1; have z2 := z.2
      rw [ni_eq (by omega) (by omega)] at z1 z2
      exact ⟨z1.symm, z2.symm⟩
theorem veq_nz {s : Nat} {w : Nat → Bool} {q : Nat → Nat → Nat} {a b : Nat} (h : q a b ≠ 0) : ∀ n : Nat, veq s w n q a b ≠ 0
  | 0 => h
  | n + 1 => fxq_nz (fxq_nz (veq_nz h n))
theorem veq_iff {s : Nat} {w : Nat → Bool} {q r : Nat → Nat → Nat} {a b : Nat} (h : q a b ≠ 0 ↔ r a b ≠ 0) : ∀ n : Nat, veq s w n q a b ≠ 0 ↔ veq s w n r a b ≠ 0
  | 0 => h
  | n + 1 => fxq_iff (fxq_iff (veq_iff h n))
theorem veq_eq {s : Nat} {w : Nat → Bool} {q r : Nat → Nat → Nat} {a b : Nat} (h : q a b = r a b) : ∀ n : Nat, veq s w n q a b = veq s w n r a b
  | 0 => h
  | n + 1 => fxq_eq (fxq_eq (veq_eq h n))
/-- the fixed modules of the class and of the model -/
theorem qCM {v a b : Nat} (hv : v < 41) (hv1 : 1 ≤ v) (ha : a < sd v) (hb : b < sd v) : (qC v a b ≠ 0 ↔ qM v a b ≠ 0) ∧ (¬ isF (sd v) a b → qC v a b = qM v a b) ∧ (isF (sd v) a b → qM v a b ≠ 0) ∧ (a = 6 → qM v a b ≠ 0) := by
  have hs := sd_le hv
  have hs1 : 21 ≤ sd v := by unfold sd; omega
  have hin : ∀ w w' : Nat → Bool, (foq (sd v) w 15 (fxq 8 (ni (sd v) - 8) true (q3 v)) a b ≠ 0 ↔ fxq 8 (ni (sd v) - 8) true (foq (sd v) w' 15 (q3 v)) a b ≠ 0) ∧ (¬ isF (sd v) a b → foq (sd v) w 15 (fxq 8 (ni (sd v) - 8) true (q3 v)) a b = fxq 8 (ni (sd v) - 8) true (foq (sd v) w' 15 (q3 v)) a b) ∧ (isF (sd v) a b → fxq 8 (ni (sd v) - 8) true (foq (sd v) w' 15 (q3 v)) a b ≠ 0) := by
    intro w w'
    by_cases h : isF (sd v) a b
    · exact ⟨⟨fun _ => fxq_nz (foq_F 15 h), fun _ => foq_F 15 h⟩, fun h2 => absurd h h2, fun _ => fxq_nz (foq_F 15 h)⟩
    · have e1 : foq (sd v) w 15 (fxq 8 (ni (sd v) - 8) true (q3 v)) a b = fxq 8 (ni (sd v) - 8) true (q3 v) a b := foq_no hs1 hs ha hb h 15 (by omega)
      have e2 : fxq 8 (ni (sd v) - 8) true (foq (sd v) w' 15 (q3 v)) a b = fxq 8 (ni (sd v) - 8) true (q3 v) a b := fxq_eq (foq_no hs1 hs ha hb h 15 (by omega))
      exact ⟨by rw [e1, e2], fun _ => by rw [e1, e2], fun h2 => absurd h2 h⟩
  obtain ⟨k1, k2, k3⟩ := hin (fun _ => false) (fun i => (fwd 0).testBit i)
  have h6 : a = 6 → fxq 8 (ni (sd v) - 8) true (foq (sd v) (fun i => (fwd 0).testBit i) 15 (q3 v)) a b ≠ 0 := fun e => by
    subst e; exact fxq_nz (foq_nz (q3_6 hb) _)
  unfold qC qM
  by_cases w : v ≤ 6
  · rw [if_pos w]; exact ⟨k1, k2, k3, h6⟩
  · rw [if_neg w]
    exact ⟨veq_iff k1 _, fun h => veq_eq (k2 h) _, fun h => veq_nz (k3 h) _, fun h => veq_nz (h6 h) _⟩
/-! the model's form laid over any modules -/
def MG (fx md : Nat → Int32) (s : Nat) (F P : Nat → Nat → Bool) : Prop := ∀ a b : Nat, a < s → b < s → md (a + 177 * b) = ni (b2 (P a b)) ∧ fx (a + 177 * b) = ni (b2 (F a b))
theorem mg_fix {fx md : Nat → Int32} {s x y : Nat} {F P : Nat → Nat → Bool} (hs : s ≤ 177) (h : MG fx md s F P) (hx : x < s) (hy : y < s) (d : Bool) : ∃ fx' md', fn_Md_fix (ni x) (ni y) (ni (b2 d)) (ni s) fx md = some (fx', md') ∧ MG fx' md' s (sB x y true F) (sB x y d P) := by
  refine ⟨upd fx (x + 177 * y) (ni 1), upd md (x + 177 * y) (ni (b2 d)), ?_, fun u v hu hv => ?_⟩
  · unfold fn_Md_fix fn_Md_moduleAt
    cases d with
    | false =>
      simp (disch := omega) only [ni_lit, ni_add, ni_mul, ni_sub, ni_lt, ni_le, ni_ix, ni_eq, ni_div, ni_rem, ni_and, ni_or, ni_xor, ni_shl, ni_shr, ni_gi, ni_gz, ni_max, ni_min, ni_dc, ni_0a, ni_ml, ni_mle, Nat.reduceAnd, Nat.reduceAdd, Nat.reduceMul, Nat.reduceSub, Nat.reduceDiv, Nat.reduceMod, Nat.reduceXor, Nat.reduceShiftLeft, Nat.reduceShiftRight, sq_bd, sq_jn, sq_cb0, sq_cb1, sq_cb2, sq_cb3, sq_cb4, sq_cb5, show b2 false = 0 from rfl, if_true]
      rw [if_neg (by omega), if_neg (by omega), if_neg (by omega), if_neg (by omega)]
    | true =>
      simp (disch := omega) only [ni_lit, ni_add, ni_mul, ni_sub, ni_lt, ni_le, ni_ix, ni_eq, ni_div, ni_rem, ni_and, ni_or, ni_xor, ni_shl, ni_shr, ni_gi, ni_gz, ni_max, ni_min, ni_dc, ni_0a, ni_ml, ni_mle, Nat.reduceAnd, Nat.reduceAdd, Nat.reduceMul, Nat.reduceSub, Nat.reduceDiv, Nat.reduceMod, Nat.reduceXor, Nat.reduceShiftLeft, Nat.reduceShiftRight, sq_bd, sq_jn, sq_cb0, sq_cb1, sq_cb2, sq_cb3, sq_cb4, sq_cb5, show b2 true = 1 from rfl]
      rw [if_neg (by omega), if_neg (by omega), if_neg (by omega), if_neg (by omega), if_neg (by omega)]
  · unfold sB
    rw [upd_a, upd_a]
    have ez : (ni x = ni u ∧ ni y = ni v) = (x = u ∧ y = v) := by rw [ni_eq (by omega) (by omega), ni_eq (by omega) (by omega)]
    simp only [ez]
    by_cases z : x = u ∧ y = v
    · rw [if_pos (show u + 177 * v = x + 177 * y by omega), if_pos (show u + 177 * v = x + 177 * y by omega), if_pos z, if_pos z]
      exact ⟨rfl, rfl⟩
    · rw [if_neg (show ¬ u + 177 * v = x + 177 * y by omega), if_neg (show ¬ u + 177 * v = x + 177 * y by omega), if_neg z, if_neg z]
      exact h u v hu hv
theorem mg_fo {s w : Nat} (hs : 21 ≤ s) (hs2 : s ≤ 177) (hw : w < 2147483648) (F P : Nat → Nat → Bool) : ∀ (e i m : Nat) (fx md : Nat → Int32), i + e = 15 → e < m → MG fx md s (fpB s (fun _ => true) i F) (fpB s (fun i => w.testBit i) i P) → ∃ fx' md', fn_Md_layForm_L1 (ni s) (ni w) m (ni i) fx md = some (fx', md') ∧ MG fx' md' s (fpB s (fun _ => true) 15 F) (fpB s (fun i => w.testBit i) 15 P)
  | 0, i, m + 1, fx, md, hi, _, h => by
    have hii : i = 15 := by omega
    subst hii
    refine ⟨fx, md, ?_, h⟩
    rw [fn_Md_layForm_L1_s, if_pos (by decide)]
  | e + 1, i, m + 1, fx, md, hi, hm, h => by
    obtain ⟨x0, y0⟩ := fX_b (c := 0) (i := i) (s := s) (by omega) (by omega) hs hs2
    obtain ⟨x1, y1⟩ := fX_b (c := 1) (i := i) (s := s) (by omega) (by omega) hs hs2
    obtain ⟨fx1, md1, e1, h1⟩ := mg_fix hs2 h x0 y0 (w.testBit i)
    obtain ⟨fx2, md2, e2, h2⟩ := mg_fix hs2 h1 x1 y1 (w.testBit i)
    obtain ⟨fx', md', g1, g2⟩ := mg_fo hs hs2 hw F P e (i + 1) m fx2 md2 (by omega) (by omega) h2
    refine ⟨fx', md', ?_, g2⟩
    have han : i &&& 31 = i := by rw [show (31 : Nat) = 2 ^ 5 - 1 from rfl, an_p, Nat.mod_eq_of_lt (by omega)]
    have hlt : w >>> i &&& 1 < 2 := by rw [Nat.and_one_is_mod]; omega
    rw [← tb_b2] at e1 e2
    rw [fn_Md_layForm_L1_s, ← g1]
    by_cases z : w >>> i &&& 1 = 1
    · rw [if_pos z] at e1 e2
      simp (disch := omega) only [ni_lit, ni_add, ni_mul, ni_sub, ni_lt, ni_le, ni_ix, ni_eq, ni_div, ni_rem, ni_and, ni_or, ni_xor, ni_shl, ni_shr, ni_gi, ni_gz, ni_max, ni_min, ni_dc, ni_0a, ni_ml, ni_mle, Nat.reduceAnd, Nat.reduceAdd, Nat.reduceMul, Nat.reduceSub, Nat.reduceDiv, Nat.reduceMod, Nat.reduceXor, Nat.reduceShiftLeft, Nat.reduceShiftRight, sq_bd, sq_jn, sq_cb0, sq_cb1, sq_cb2, sq_cb3, sq_cb4, sq_cb5, han, z, if_true, (cl_fX (c := 0) (i := i) (s := s) (by omega) (by omega) hs hs2).2, (cl_fY (c := 0) (i := i) (s := s) (by omega) (by omega) hs hs2).2, (cl_fX (c := 1) (i := i) (s := s) (by omega) (by omega) hs hs2).2, (cl_fY (c := 1) (i := i) (s := s) (by omega) (by omega) hs hs2).2, e1, e2]
      rw [if_neg (by omega)]
    · rw [if_neg z] at e1 e2
      simp (disch := omega) only [ni_lit, ni_add, ni_mul, ni_sub, ni_lt, ni_le, ni_ix, ni_eq, ni_div, ni_rem, ni_and, ni_or, ni_xor, ni_shl, ni_shr, ni_gi, ni_gz, ni_max, ni_min, ni_dc, ni_0a, ni_ml, ni_mle, Nat.reduceAnd, Nat.reduceAdd, Nat.reduceMul, Nat.reduceSub, Nat.reduceDiv, Nat.reduceMod, Nat.reduceXor, Nat.reduceShiftLeft, Nat.reduceShiftRight, sq_bd, sq_jn, sq_cb0, sq_cb1, sq_cb2, sq_cb3, sq_cb4, sq_cb5, han, if_neg z, (cl_fX (c := 0) (i := i) (s := s) (by omega) (by omega) hs hs2).2, (cl_fY (c := 0) (i := i) (s := s) (by omega) (by omega) hs hs2).2, (cl_fX (c := 1) (i := i) (s := s) (by omega) (by omega) hs hs2).2, (cl_fY (c := 1) (i := i) (s := s) (by omega) (by omega) hs hs2).2, e1, e2]
      rw [if_neg (by omega)]
theorem mg_form {s l k n0 : Nat} {fx md : Nat → Int32} {F P : Nat → Nat → Bool} (hn0 : 300 ≤ n0) (hs : 21 ≤ s) (hs2 : s ≤ 177) (hl : l < 4) (hk : k < 8) (hF : ∀ a b : Nat, a < s → b < s → isF s a b → F a b = true) (h : MG fx md s F P) : ∃ fx' md', fn_Md_layForm n0 (ni (fno l k)) (ni s) fx md = some (fx', md') ∧ MG fx' md' s F (fpB s (fun i => (fwd (fno l k)).testBit i) 15 P) := by
  obtain ⟨f1, -⟩ := fno_lt l hl k hk
  obtain ⟨fx', md', e, g⟩ := mg_fo (w := fwd (fno l k)) hs hs2 (by have := (fw_20 _ f1).2; omega) F P 15 0 n0 fx md (by omega) (by omega) h
  refine ⟨fx', md', ?_, fun a b ha hb => ⟨(g a b ha hb).1, ?_⟩⟩
  · unfold fn_Md_layForm
    rw [(cl_fwd hn0 f1).2]
    exact e
  · rw [(g a b ha hb).2]
    congr 2
    by_cases z : isF s a b
    · rw [hF a b ha hb z]
      have key : ∀ n : Nat, n ≤ 15 → F a b = true → fpB s (fun _ => true) n F a b = true := by
        intro n
        induction n with
        | zero => intro _ h9; exact h9
        | succ n ih =>
          intro hn h9
          show sB _ _ true (sB _ _ true (fpB s (fun _ => true) n F)) a b = true
          unfold sB
          split
          · rfl
          · split
            · rfl
            · exact ih (by omega) h9
      exact key 15 (by omega) (hF a b ha hb z)
    · exact fpB_no hs hs2 ha hb z 15 (by omega)
