/-! the form's number, read -/
theorem sh_u : ∀ k : Nat, k < 32 → ((ni k).toUInt32 &&& Int32.toUInt32 31).toNat % 32 = k := by decide
theorem iu_k {a k : Nat} (ha : a < 2147483648) (hk : k < 32) : sq_iushr (ni a) (ni k) = ni (a >>> k) := by
  apply Int32.toBitVec_inj.mp
  apply BitVec.eq_of_toNat_eq
  show ((ni a).toUInt32 >>> ((ni k).toUInt32 &&& Int32.toUInt32 31)).toNat = (BitVec.ofNat 32 (a >>> k)).toNat
  have ha' : (ni a).toUInt32.toNat = a := by
    show (BitVec.ofNat 32 a).toNat = a
    rw [BitVec.toNat_ofNat, Nat.mod_eq_of_lt (by omega)]
  have hs : a >>> k ≤ a := by rw [Nat.shiftRight_eq_div_pow]; exact Nat.div_le_self _ _
  rw [UInt32.toNat_shiftRight, sh_u k hk, ha', BitVec.toNat_ofNat, Nat.mod_eq_of_lt (by omega)]
def pc15 (n : Nat) : Nat := sc (fun i => b2 (n.testBit i)) 15
theorem an_le (a b : Nat) : a &&& b ≤ a := Nat.and_le_left
theorem cl_pc {n : Nat} (hq : n < 32768) : fn_JInt_bitCount (ni n) = some (ni (pc15 n)) := by
  have hG1 := G1_le 4 n
  have h1 : G1 4 n ≤ n := by unfold G1; omega
  have h2 : G2 4 n ≤ 65536 := by
    have a1 := an_le (G1 4 n) (mm 51 4)
    have a2 := an_le (G1 4 n >>> 2) (mm 51 4)
    rw [Nat.shiftRight_eq_div_pow] at a2
    unfold G2
    rw [Nat.shiftRight_eq_div_pow]
    omega
  have h85 : (1431655765 : Int32) = ni (mm 85 4) := by decide
  have h51 : (858993459 : Int32) = ni (mm 51 4) := by decide
  have h15 : (252645135 : Int32) = ni (mm 15 4) := by decide
  have e3 := G3_d 3 n
  have e4 := G3_d 2 (n / 256)
  have e5 := G3_d 1 (n / 256 / 256)
  have e6 := G3_d 0 (n / 256 / 256 / 256)
  have p0 := pcb_le n
  have p1 := pcb_le (n / 256)
  have z1 : n / 256 / 256 = 0 := by omega
  rw [z1, show pcb (0 % 256) = 0 from by decide, show (0 / 256 : Nat) = 0 from rfl] at e5
  rw [z1, show (0 / 256 : Nat) = 0 from rfl, show pcb (0 % 256) = 0 from by decide, G3_0] at e6
  rw [e6] at e5
  rw [z1, e5] at e4
  rw [e4] at e3
  have hc := cN_sc 2 n
  have hcN : cN 2 n = pcb (n % 256) + (pcb (n / 256 % 256) + 0) := rfl
  have hs15 : sc (fun i => b2 (n.testBit i)) (8 * 2) = pc15 n := by
    show sc (fun i => b2 (n.testBit i)) 15 + (if b2 (n.testBit 15) = 0 then 0 else 1) = _
    rw [Nat.testBit_lt_two_pow (show n < 2 ^ 15 by omega)]
    rfl
  unfold fn_JInt_bitCount
  simp only [sq_bd]
  rw [show (1 : Int32) = ni 1 from rfl, iu_k (by omega) (by omega), h85, ni_and, ni_sub hG1, show n - (n >>> 1 &&& mm 85 4) = G1 4 n from rfl]
  rw [show (2 : Int32) = ni 2 from rfl, iu_k (by omega) (by omega), h51, ni_and, ni_and, ni_add, show (G1 4 n &&& mm 51 4) + (G1 4 n >>> 2 &&& mm 51 4) = G2 4 n from rfl]
  rw [show (4 : Int32) = ni 4 from rfl, iu_k (by omega) (by omega), ni_add, h15, ni_and, show (G2 4 n + G2 4 n >>> 4) &&& mm 15 4 = G3 4 n from rfl, e3]
  rw [show (8 : Int32) = ni 8 from rfl, iu_k (by omega) (by omega), ni_add, Nat.shiftRight_eq_div_pow, show (2 : Nat) ^ 8 = 256 from rfl]
  rw [show (16 : Int32) = ni 16 from rfl, iu_k (by omega) (by omega), ni_add, Nat.shiftRight_eq_div_pow, show (2 : Nat) ^ 16 = 65536 from rfl, show (63 : Int32) = ni 63 from rfl, ni_and, an_63, ← hs15, ← hc, hcN]
  generalize pcb (n % 256) = a0 at *
  generalize pcb (n / 256 % 256) = a1 at *
  congr 2
  have y1 : a0 + 256 * (a1 + 256 * (0 + 256 * (0 + 256 * 0))) = a0 + 256 * a1 := by omega
  have y2 : (a0 + 256 * a1) / 256 = a1 := by omega
  have y3 : (a0 + 256 * a1 + a1) / 65536 = 0 := by omega
  rw [y1, y2, y3]
  omega
theorem md_ones_l {n : Nat} (hq : n < 32768) : ∀ (e i m : Nat), i + e = 15 → e < m → fn_Md_ones_L1 (ni n) m (ni (sc (fun i => b2 (n.testBit i)) i)) (ni i) = some (ni (pc15 n))
  | 0, i, m + 1, hi, _ => by
    rw [show i = 15 by omega]
    rw [fn_Md_ones_L1_s, if_pos (by decide)]
    rfl
  | e + 1, i, m + 1, hi, hm => by
    rw [fn_Md_ones_L1_s, if_neg (show ¬ (15 : Int32) ≤ ni i from fun z => absurd ((ni_le (a := 15) (by omega) (by omega)).mp z) (by omega)), ← md_ones_l hq e (i + 1) m (by omega) (by omega)]
    have han : i &&& 31 = i := by rw [show (31 : Nat) = 2 ^ 5 - 1 from rfl, an_p, Nat.mod_eq_of_lt (by omega)]
    simp only [sq_bd]
    rw [show (31 : Int32) = ni 31 from rfl, show (1 : Int32) = ni 1 from rfl, ni_and, han, ni_shr (by omega) (by omega), ni_and, ni_add, ni_add, sc_s]
    congr 2
    rw [Nat.testBit, Nat.and_comm 1]
    have hlt : n >>> i &&& 1 < 2 := by rw [Nat.and_one_is_mod]; omega
    rcases (show n >>> i &&& 1 = 0 ∨ n >>> i &&& 1 = 1 by omega) with h | h
    · rw [h]; rfl
    · rw [h]; rfl
theorem md_pc {n n0 : Nat} (hn0 : 300 ≤ n0) (hq : n < 32768) : fn_Md_ones n0 (ni n) = some (ni (pc15 n)) := md_ones_l hq 15 0 n0 (by omega) (by omega)
/-- the bits of the form that stand in copy c -/
def fbN (P : Nat → Nat → Bool) (s c : Nat) : Nat → Nat
  | 0 => 0
  | i + 1 => fbN P s c i ||| (b2 (P (fX c i s) (fY c i s)) <<< i)
theorem fbN_lt (P : Nat → Nat → Bool) (s c : Nat) : ∀ i : Nat, fbN P s c i < 2 ^ i
  | 0 => by show 0 < 2 ^ 0; decide
  | i + 1 => by
    have h := fbN_lt P s c i
    have : fbN P s c i ||| (b2 (P (fX c i s) (fY c i s)) <<< i) < 2 ^ (i + 1) := by
      apply Nat.or_lt_two_pow
      · rw [Nat.pow_succ]; omega
      · have := b2_le (P (fX c i s) (fY c i s))
        rw [Nat.shiftLeft_eq, Nat.pow_succ]
        rcases (show b2 (P (fX c i s) (fY c i s)) = 0 ∨ b2 (P (fX c i s) (fY c i s)) = 1 by omega) with z | z
        · rw [z, Nat.zero_mul]; omega
        · rw [z, Nat.one_mul]; omega
    exact this
theorem fn3 {w : Nat → Int64} {s c : Nat} {P : Nat → Nat → Bool} (hs : 21 ≤ s) (hs2 : s ≤ 177) (hc : c < 2) (h : GR w s P) (k6 : Int32 → Option Int32) : ∀ (e i m : Nat), i + e = 15 → e < m → fn_Frame_formNumber_L3 (ni s) w (ni s) (ni c) k6 m (ni (fbN P s c i)) (ni i) = k6 (ni (fbN P s c 15))
  | 0, i, m + 1, hi, _ => by
    rw [show i = 15 by omega, fn_Frame_formNumber_L3_s, if_pos (by decide)]
  | e + 1, i, m + 1, hi, hm => by
    obtain ⟨b1, b2'⟩ := fX_b (c := c) (i := i) hc (by omega) hs hs2
    rw [fn_Frame_formNumber_L3_s, if_neg (show ¬ (15 : Int32) ≤ ni i from fun z => absurd ((ni_le (a := 15) (by omega) (by omega)).mp z) (by omega)), (cl_fX hc (by omega) hs hs2).1, cb1_e, (cl_fY hc (by omega) hs hs2).1, cb1_e, gr_dark hs2 h b1 b2', cb1_e, ← fn3 hs hs2 hc h k6 e (i + 1) m (by omega) (by omega)]
    have han : i &&& 31 = i := by rw [show (31 : Nat) = 2 ^ 5 - 1 from rfl, an_p, Nat.mod_eq_of_lt (by omega)]
    simp only [sq_jn, sq_bd]
    rw [show (31 : Int32) = ni 31 from rfl, show (1 : Int32) = ni 1 from rfl, ni_and, han, ni_shl (by omega), ni_or, ni_add]
    show _ = fn_Frame_formNumber_L3 (ni s) w (ni s) (ni c) k6 m (ni (fbN P s c i ||| (b2 (P (fX c i s) (fY c i s)) <<< i))) (ni (i + 1))
    cases P (fX c i s) (fY c i s) with
    | false => rw [if_pos (show ni (if false = true then 1 else 0) = 0 from rfl), show b2 false = 0 from rfl, Nat.zero_shiftLeft, Nat.or_zero]
    | true => rw [if_neg (show ¬ ni (if true = true then 1 else 0) = 0 from by decide), show b2 true = 1 from rfl]
theorem fmb1 {md : Nat → Int32} {s c : Nat} {P : Nat → Nat → Bool} (hs : 21 ≤ s) (hs2 : s ≤ 177) (hc : c < 2) (h : MR md s P) : ∀ (e i m : Nat), i + e = 15 → e < m → fn_Md_formBits_L1 (ni c) (ni s) md m (ni (fbN P s c i)) (ni i) = some (ni (fbN P s c 15))
  | 0, i, m + 1, hi, _ => by
    rw [show i = 15 by omega, fn_Md_formBits_L1_s, if_pos (by decide)]
  | e + 1, i, m + 1, hi, hm => by
    obtain ⟨b1, b2'⟩ := fX_b (c := c) (i := i) hc (by omega) hs hs2
    rw [fn_Md_formBits_L1_s, if_neg (show ¬ (15 : Int32) ≤ ni i from fun z => absurd ((ni_le (a := 15) (by omega) (by omega)).mp z) (by omega)), (cl_fX hc (by omega) hs hs2).2, cb1_e, (cl_fY hc (by omega) hs hs2).2, cb1_e, ← fmb1 hs hs2 hc h e (i + 1) m (by omega) (by omega)]
    have han : i &&& 31 = i := by rw [show (31 : Nat) = 2 ^ 5 - 1 from rfl, an_p, Nat.mod_eq_of_lt (by omega)]
    have hmo : ni (fX c i s) + (177 : Int32) * ni (fY c i s) = ni (fX c i s + 177 * fY c i s) := by simp only [ni_lit, ni_mul, ni_add]
    unfold fn_Md_moduleAt
    rw [cb1_e, hmo, ni_gi (by omega) (by omega), ni_ix (by omega), h _ _ b1 b2']
    simp only [sq_bd]
    rw [show (31 : Int32) = ni 31 from rfl, show (1 : Int32) = ni 1 from rfl, ni_and, han, ni_shl (by omega), ni_or, ni_add]
    rfl
/-- the first number whose word differs in at most three bits, from i on -/
def fnd (x : Nat) : Nat → Nat → Option Nat
  | 0, _ => none
  | e + 1, i => if pc15 (fwd i ^^^ x) ≤ 3 then some i else fnd x e (i + 1)
theorem fnd_lt (x : Nat) : ∀ (e i j : Nat), fnd x e i = some j → j < i + e
  | 0, i, j, h => by cases h
  | e + 1, i, j, h => by
    unfold fnd at h
    by_cases q : pc15 (fwd i ^^^ x) ≤ 3
    · rw [if_pos q] at h; cases h; omega
    · rw [if_neg q] at h
      have := fnd_lt x e (i + 1) j h
      omega
theorem fwd_lt : ∀ k : Nat, k < 32 → fwd k < 2 ^ 15 := by decide +kernel
theorem pc_le (n : Nat) : pc15 n ≤ 15 := sc_le _ 15
theorem fc2 {x n0 : Nat} (hn0 : 300 ≤ n0) (hx : x < 2 ^ 15) (k7 : Unit → Option Int32) : ∀ (e i m : Nat), i + e = 32 → e < m → fn_Frame_formNumber_L2 n0 (ni x) k7 m (ni i) = (match fnd x e i with | some j => some (ni j) | none => k7 ()) ∧ fn_Md_formNumberRead_L2 n0 (ni x) k7 m (ni i) = (match fnd x e i with | some j => some (ni j) | none => k7 ())
  | 0, i, m + 1, hi, _ => by
    rw [show i = 32 by omega, fn_Frame_formNumber_L2_s, fn_Md_formNumberRead_L2_s, if_pos (by decide), if_pos (by decide)]
    exact ⟨rfl, rfl⟩
  | e + 1, i, m + 1, hi, hm => by
    have hl : fwd i ^^^ x < 2 ^ 15 := Nat.xor_lt_two_pow (fwd_lt i (by omega)) hx
    obtain ⟨r1, r2⟩ := fc2 hn0 hx k7 e (i + 1) m (by omega) (by omega)
    obtain ⟨w1, w2⟩ := cl_fwd (n0 := n0) (k := i) hn0 (by omega)
    have hp := pc_le (fwd i ^^^ x)
    have ng : ¬ (32 : Int32) ≤ ni i := fun z => absurd ((ni_le (a := 32) (by omega) (by omega)).mp z) (by omega)
    rw [fn_Frame_formNumber_L2_s, fn_Md_formNumberRead_L2_s, if_neg ng, if_neg ng, w1, w2, cb1_e, cb1_e, ni_xor, ni_xor, Nat.xor_comm x, cl_pc hl, md_pc hn0 hl, cb1_e, cb1_e]
    have ef : fnd x (e + 1) i = if pc15 (fwd i ^^^ x) ≤ 3 then some i else fnd x e (i + 1) := rfl
    rw [ef]
    by_cases q : pc15 (fwd i ^^^ x) ≤ 3
    · have n3 : ¬ (3 : Int32) < ni (pc15 (fwd i ^^^ x)) := fun z => absurd ((ni_lt (a := 3) (by omega) (by omega)).mp z) (by omega)
      rw [if_neg n3, if_neg n3, if_pos q]
      exact ⟨rfl, rfl⟩
    · have n3 : (3 : Int32) < ni (pc15 (fwd i ^^^ x)) := (ni_lt (a := 3) (by omega) (by omega)).mpr (by omega)
      rw [if_pos n3, if_pos n3, if_neg q, ← r1]
      simp only [sq_bd]
      rw [show (1 : Int32) = ni 1 from rfl, ni_add, r2, r1]
      exact ⟨rfl, rfl⟩
/-- the form's number: of copy 0, else of copy 1 -/
def FN (P : Nat → Nat → Bool) (s : Nat) : Option Nat := match fnd (fbN P s 0 15) 32 0 with
  | some j => some j
  | none => fnd (fbN P s 1 15) 32 0
theorem FN_lt {P : Nat → Nat → Bool} {s j : Nat} (h : FN P s = some j) : j < 32 := by
  unfold FN at h
  cases q : fnd (fbN P s 0 15) 32 0 with
  | some i => rw [q] at h; cases h; have := fnd_lt _ _ _ _ q; omega
  | none => rw [q] at h; have := fnd_lt _ _ _ _ h; omega
theorem cl_fn {w : Nat → Int64} {s n0 : Nat} {P : Nat → Nat → Bool} (hn0 : 300 ≤ n0) (hs : 21 ≤ s) (hs2 : s ≤ 177) (h : GR w s P) : fn_Frame_formNumber n0 (ni s) w = some (match FN P s with | some j => ni j | none => -1) := by
  obtain ⟨n1, hn1⟩ : ∃ n1, n0 = n1 + 1 + 1 + 1 := ⟨n0 - 3, by omega⟩
  have a0 := fun k6 => fn3 (c := 0) hs hs2 (by omega) h k6 15 0 n0 (by omega) (by omega)
  have a1 := fun k6 => fn3 (c := 1) hs hs2 (by omega) h k6 15 0 n0 (by omega) (by omega)
  have a0' : ∀ k6, fn_Frame_formNumber_L3 (ni s) w (ni s) 0 k6 n0 0 0 = k6 (ni (fbN P s 0 15)) := a0
  have a1' : ∀ k6, fn_Frame_formNumber_L3 (ni s) w (ni s) 1 k6 n0 0 0 = k6 (ni (fbN P s 1 15)) := a1
  have b0 := fun k7 => (fc2 (n0 := n0) hn0 (fbN_lt P s 0 15) k7 32 0 n0 (by omega) (by omega)).1
  have b1 := fun k7 => (fc2 (n0 := n0) hn0 (fbN_lt P s 1 15) k7 32 0 n0 (by omega) (by omega)).1
  have b0' : ∀ k7, fn_Frame_formNumber_L2 n0 (ni (fbN P s 0 15)) k7 n0 0 = _ := b0
  have b1' : ∀ k7, fn_Frame_formNumber_L2 n0 (ni (fbN P s 1 15)) k7 n0 0 = _ := b1
  unfold fn_Frame_formNumber fn_Grid_side
  rw [cb1_e]
  conv => lhs; arg 5; rw [hn1]
  rw [fn_Frame_formNumber_L1_s, if_neg (by decide), sq_jne, a0', sq_jne, b0']
  unfold FN
  cases fnd (fbN P s 0 15) 32 0 with
  | some j => rfl
  | none =>
    show sq_bd ((0 : Int32) + 1) _ = _
    simp only [sq_bd]
    rw [show (0 : Int32) + 1 = 1 from rfl, fn_Frame_formNumber_L1_s, if_neg (by decide), sq_jne, a1', sq_jne, b1']
    cases fnd (fbN P s 1 15) 32 0 with
    | some j => rfl
    | none =>
      show sq_bd ((1 : Int32) + 1) _ = _
      simp only [sq_bd]
      rw [show (1 : Int32) + 1 = 2 from rfl, fn_Frame_formNumber_L1_s, if_pos (by decide)]
theorem md_fn {md : Nat → Int32} {s n0 : Nat} {P : Nat → Nat → Bool} (hn0 : 300 ≤ n0) (hs : 21 ≤ s) (hs2 : s ≤ 177) (h : MR md s P) : fn_Md_formNumberRead n0 (ni s) md = some (match FN P s with | some j => ni j | none => -1) := by
  obtain ⟨n1, hn1⟩ : ∃ n1, n0 = n1 + 1 + 1 + 1 := ⟨n0 - 3, by omega⟩
  have a0 := fmb1 (c := 0) hs hs2 (by omega) h 15 0 n0 (by omega) (by omega)
  have a1 := fmb1 (c := 1) hs hs2 (by omega) h 15 0 n0 (by omega) (by omega)
  have a0' : fn_Md_formBits n0 0 (ni s) md = some (ni (fbN P s 0 15)) := a0
  have a1' : fn_Md_formBits n0 1 (ni s) md = some (ni (fbN P s 1 15)) := a1
  have b0 := fun k7 => (fc2 (n0 := n0) hn0 (fbN_lt P s 0 15) k7 32 0 n0 (by omega) (by omega)).2
  have b1 := fun k7 => (fc2 (n0 := n0) hn0 (fbN_lt P s 1 15) k7 32 0 n0 (by omega) (by omega)).2
  have b0' : ∀ k7, fn_Md_formNumberRead_L2 n0 (ni (fbN P s 0 15)) k7 n0 0 = _ := b0
  have b1' : ∀ k7, fn_Md_formNumberRead_L2 n0 (ni (fbN P s 1 15)) k7 n0 0 = _ := b1
  unfold fn_Md_formNumberRead
  conv => lhs; arg 4; rw [hn1]
  rw [fn_Md_formNumberRead_L1_s, if_neg (by decide), sq_jne, if_neg (by decide)]
  simp only []
  rw [a0', cb1_e, sq_jne, b0']
  unfold FN
  cases fnd (fbN P s 0 15) 32 0 with
  | some j => rfl
  | none =>
    show sq_bd ((0 : Int32) + 1) _ = _
    simp only [sq_bd]
    rw [show (0 : Int32) + 1 = 1 from rfl, fn_Md_formNumberRead_L1_s, if_neg (by decide), sq_jne, if_pos rfl]
    simp only []
    rw [a1', cb1_e, sq_jne, b1']
    cases fnd (fbN P s 1 15) 32 0 with
    | some j => rfl
    | none =>
      show sq_bd ((1 : Int32) + 1) _ = _
      simp only [sq_bd]
      rw [show (1 : Int32) + 1 = 2 from rfl, fn_Md_formNumberRead_L1_s, if_pos (by decide)]
