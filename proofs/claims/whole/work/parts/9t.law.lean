/-! the law: both sides agree, call by call -/
def INV (b2 b3 b4 b6 b7 b8 b9 b10 b16 b17 b29 : Int32) (b35 b40 b41 : Nat → Int32) (b46 : Int32) (b49 b50 b53 b56 b57 b58 b62 b65 b69 : Nat → Int32) (b85 : Nat → Int64) : Prop := DT b29 b69 b6 b49 ∧ MDP b2 b9 b10 b40 b62 b41 b57 b58 ∧ (b3 = b17 ∧ (b3 = 0 ∨ (b3 = 1 ∧ ∀ i : Nat, i < 4 → b35 i = b56 i))) ∧ b4 = b16 ∧ WI b65 ∧ ((b7 = 0 ∧ b46 = 0 ∧ b17 = 0 ∧ ∃ P, GR b85 0 P) ∨ ∃ (v : Nat) (P : Nat → Nat → Bool), v < 41 ∧ 1 ≤ v ∧ b7 = ni v ∧ b8 = ni (sd v) ∧ b46 = ni (sd v) ∧ GR b85 (sd v) P ∧ MG b50 b53 (sd v) (FX v) P)
theorem jn_k {κ β : Type} (K : κ) (body : κ → β) (r : β) (Q : κ → Prop) (hK : Q K) (h : ∀ k, Q k → body k = r) : sq_jn K body = r := h K hK
theorem tc_s {β : Type} (a b : β) : sq_tc (some ()) a b = a := rfl
theorem tc_n {β : Type} (a b : β) : sq_tc none a b = b := rfl
theorem th_e (x : Int32) : fn_Md_thrown x = some x := rfl
theorem gi01 {β : Type} (k : Option β) : sq_gi (0 : Int32) 1 k = k := rfl
theorem uL0 (f : Nat → Int64) (x : Int64) : vp_updL f (0 : Int32).toNatClampNeg x (0 : Int32).toNatClampNeg = x := rfl
theorem lc_z (x : Int64) : sq_lcmp x x = 0 := by
  unfold sq_lcmp lg_cmp
  rw [if_neg (by rw [gt_iff_lt, Int64.lt_iff_toInt_lt]; omega), if_pos rfl]
theorem mk_gate {n0 : Nat} {p1 p2 p3 th len ver side mde segs bits fil : Int32} {blk mb by0 mc dt fx gnm mds mod sl so tk tl wd : Nat → Int32} : (ft_Sq_make p1 p2 p3 = some () ∧ fn_Md_make n0 p1 p2 p3 th len ver side mde segs bits fil blk mb by0 mc dt fx gnm mds mod sl so tk tl wd = some (0, 1, ver, side, mde, segs, bits, fil, blk, by0, fx, gnm, mds, mod, sl, so, tk, tl, wd)) ∨ (ft_Sq_make p1 p2 p3 = none ∧ ∃ l wish : Nat, l < 4 ∧ wish < 41 ∧ p1 = ni l ∧ p2 = ni wish ∧ (p3 = -1 ∨ ∃ k : Nat, k < 8 ∧ p3 = ni k)) := by
  unfold fn_Md_make
  rw [sq_jne, sq_jne]
  unfold ft_Sq_make
  by_cases h1 : p1 < 0
  · rw [if_pos h1, if_pos h1]
    exact .inl ⟨rfl, rfl⟩
  rw [if_neg h1, if_neg h1]
  by_cases h2 : p1 ≤ 3
  · obtain ⟨l, -, hl, rfl⟩ := int_rg (a := 0) (b := 3) (by omega) (by omega) h1 h2
    rw [if_pos h2, if_neg (show ¬ (3 : Int32) < ni l from fun z => absurd ((ni_lt (a := 3) (by omega) (by omega)).mp z) (by omega))]
    by_cases h3 : p2 < 0
    · rw [if_pos h3, if_pos h3]
      exact .inl ⟨rfl, rfl⟩
    rw [if_neg h3, if_neg h3]
    by_cases h4 : p2 ≤ 40
    · obtain ⟨w, -, hw, rfl⟩ := int_rg (a := 0) (b := 40) (by omega) (by omega) h3 h4
      rw [if_pos h4, if_neg (show ¬ (40 : Int32) < ni w from fun z => absurd ((ni_lt (a := 40) (by omega) (by omega)).mp z) (by omega)), sq_jne]
      by_cases h5 : p3 = -1
      · rw [if_pos h5]
        exact .inr ⟨rfl, l, w, by omega, by omega, rfl, rfl, .inl h5⟩
      rw [if_neg h5]
      by_cases h6 : p3 < 0
      · have h7 : p3 < -1 := by
          rw [lt_I] at h6 ⊢
          rw [show (0 : Int32).toInt = 0 from rfl] at h6
          rw [show (-1 : Int32).toInt = -1 from rfl]
          have : p3.toInt ≠ -1 := fun z => h5 (Int32.toInt_inj.mp (z.trans rfl))
          omega
        rw [if_pos h6, if_pos h7]
        exact .inl ⟨rfl, rfl⟩
      have h7 : ¬ p3 < -1 := by
        rw [lt_I] at h6 ⊢
        rw [show (0 : Int32).toInt = 0 from rfl] at h6
        rw [show (-1 : Int32).toInt = -1 from rfl]
        omega
      rw [if_neg h6, if_neg h7]
      rcases ni_cases p3 with q | ⟨k, hk, rfl⟩
      · exact absurd q h6
      by_cases h8 : k < 8
      · rw [if_pos (show ni k < (8 : Int32) from (ni_lt (b := 8) hk (by omega)).mpr h8)]
        exact .inr ⟨rfl, l, w, by omega, by omega, rfl, rfl, .inr ⟨k, h8, rfl⟩⟩
      · rw [if_neg (show ¬ ni k < (8 : Int32) from fun z => h8 ((ni_lt (b := 8) hk (by omega)).mp z)), if_neg (show ¬ ni k ≤ (7 : Int32) from fun z => absurd ((ni_le (b := 7) hk (by omega)).mp z) (by omega))]
        exact .inl ⟨rfl, rfl⟩
    · have h5 : (40 : Int32) < p2 := by
        rw [le_I] at h4
        rw [lt_I]
        omega
      rw [if_neg h4, if_pos h5]
      exact .inl ⟨rfl, rfl⟩
  · have h5 : (3 : Int32) < p1 := by
      rw [le_I] at h2
      rw [lt_I]
      omega
    rw [if_neg h2, if_pos h5]
    exact .inl ⟨rfl, rfl⟩
set_option maxHeartbeats 8000000 in
theorem law_l {n0 L : Nat} {xs mb mc lg pw : Nat → Int32} (hn0 : 40000 ≤ n0) (hL : L ≤ 100000) (T : MT mb mc) (F : FD lg pw) : ∀ (m i : Nat) (b2 : Int32) (b3 : Int32) (b4 : Int32) (b5 : Int32) (b6 : Int32) (b7 : Int32) (b8 : Int32) (b9 : Int32) (b10 : Int32) (b11 : Int32) (b12 : Int32) (b13 : Int32) (b14 : Int32) (b15 : Int32) (b16 : Int32) (b17 : Int32) (b18 : (Nat → Int64)) (b19 : Int32) (b20 : Int32) (b21 : Int32) (b22 : Int32) (b23 : Int32) (b24 : Int32) (b25 : Int32) (b26 : Int32) (b27 : Int32) (b28 : Int32) (b29 : Int32) (b30 : Int32) (b31 : Int32) (b32 : Int32) (b33 : Int32) (b34 : Int32) (b35 : (Nat → Int32)) (b36 : Int32) (b37 : Int32) (b38 : Int32) (b39 : Int32) (b40 : (Nat → Int32)) (b41 : (Nat → Int32)) (b42 : Int32) (b43 : Int32) (b44 : Int32) (b45 : Int32) (b46 : Int32) (b47 : (Nat → Int32)) (b48 : (Nat → Int32)) (b49 : (Nat → Int32)) (b50 : (Nat → Int32)) (b51 : (Nat → Int32)) (b52 : (Nat → Int32)) (b53 : (Nat → Int32)) (b54 : (Nat → Int32)) (b55 : (Nat → Int32)) (b56 : (Nat → Int32)) (b57 : (Nat → Int32)) (b58 : (Nat → Int32)) (b59 : (Nat → Int32)) (b60 : (Nat → Int32)) (b61 : (Nat → Int32)) (b62 : (Nat → Int32)) (b63 : (Nat → Int32)) (b64 : (Nat → Int32)) (b65 : (Nat → Int32)) (b66 : (Nat → Int32)) (b67 : (Nat → Int32)) (b68 : (Nat → Int32)) (b69 : (Nat → Int32)) (b70 : (Nat → Int32)) (b71 : (Nat → Int32)) (b72 : (Nat → Int32)) (b73 : (Nat → Int32)) (b74 : Int32) (b75 : Int32) (b76 : (Nat → Int64)) (b77 : (Nat → Int64)) (b78 : (Nat → Int32)) (b79 : (Nat → Int32)) (b80 : (Nat → Int32)) (b81 : (Nat → Int32)) (b82 : (Nat → Int32)) (b83 : (Nat → Int32)) (b84 : (Nat → Int32)) (b85 : (Nat → Int64)) (b86 : (Nat → Int64)) (b87 : (Nat → Int64)), L < i + 5 * m → i ≤ L → INV b2 b3 b4 b6 b7 b8 b9 b10 b16 b17 b29 b35 b40 b41 b46 b49 b50 b53 b56 b57 b58 b62 b65 b69 b85 → fn_Law_loop_L1 n0 L xs mb mc lg pw m (ni i) b2 b3 b4 b5 b6 b7 b8 b9 b10 b11 b12 b13 b14 b15 b16 b17 b18 b19 b20 b21 b22 b23 b24 b25 b26 b27 b28 b29 b30 b31 b32 b33 b34 b35 b36 b37 b38 b39 b40 b41 b42 b43 b44 b45 b46 b47 b48 b49 b50 b51 b52 b53 b54 b55 b56 b57 b58 b59 b60 b61 b62 b63 b64 b65 b66 b67 b68 b69 b70 b71 b72 b73 b74 b75 b76 b77 b78 b79 b80 b81 b82 b83 b84 b85 b86 b87 = some 1 := by
  intro m
  induction m with
  | zero => intro i b2 b3 b4 b5 b6 b7 b8 b9 b10 b11 b12 b13 b14 b15 b16 b17 b18 b19 b20 b21 b22 b23 b24 b25 b26 b27 b28 b29 b30 b31 b32 b33 b34 b35 b36 b37 b38 b39 b40 b41 b42 b43 b44 b45 b46 b47 b48 b49 b50 b51 b52 b53 b54 b55 b56 b57 b58 b59 b60 b61 b62 b63 b64 b65 b66 b67 b68 b69 b70 b71 b72 b73 b74 b75 b76 b77 b78 b79 b80 b81 b82 b83 b84 b85 b86 b87 h1 h2; omega
  | succ m ih =>
    intro i b2 b3 b4 b5 b6 b7 b8 b9 b10 b11 b12 b13 b14 b15 b16 b17 b18 b19 b20 b21 b22 b23 b24 b25 b26 b27 b28 b29 b30 b31 b32 b33 b34 b35 b36 b37 b38 b39 b40 b41 b42 b43 b44 b45 b46 b47 b48 b49 b50 b51 b52 b53 b54 b55 b56 b57 b58 b59 b60 b61 b62 b63 b64 b65 b66 b67 b68 b69 b70 b71 b72 b73 b74 b75 b76 b77 b78 b79 b80 b81 b82 b83 b84 b85 b86 b87 h1 h2 hI
    rw [fn_Law_loop_L1_s, bd_e]
    by_cases hq : L < i + 5
    · rw [if_pos (show Int32.ofNat L - (5 : Int32) < ni i by rw [show Int32.ofNat L = ni L from rfl, show (5 : Int32) = ni 5 from rfl, ni_ls (by omega) (by omega) (by omega)]; omega)]
    rw [if_neg (show ¬ Int32.ofNat L - (5 : Int32) < ni i by rw [show Int32.ofNat L = ni L from rfl, show (5 : Int32) = ni 5 from rfl, ni_ls (by omega) (by omega) (by omega)]; omega), ni_gi (by omega) (by omega), bd_e]
    refine jn_k _ _ _ (fun k => ∀ (b2 : Int32) (b3 : Int32) (b4 : Int32) (b5 : Int32) (b6 : Int32) (b7 : Int32) (b8 : Int32) (b9 : Int32) (b10 : Int32) (b11 : Int32) (b12 : Int32) (b13 : Int32) (b14 : Int32) (b15 : Int32) (b16 : Int32) (b17 : Int32) (b18 : (Nat → Int64)) (b19 : Int32) (b20 : Int32) (b21 : Int32) (b22 : Int32) (b23 : Int32) (b24 : Int32) (b25 : Int32) (b26 : Int32) (b27 : Int32) (b28 : Int32) (b29 : Int32) (b30 : Int32) (b31 : Int32) (b32 : Int32) (b33 : Int32) (b34 : Int32) (b35 : (Nat → Int32)) (b36 : Int32) (b37 : Int32) (b38 : Int32) (b39 : Int32) (b40 : (Nat → Int32)) (b41 : (Nat → Int32)) (b42 : Int32) (b43 : Int32) (b44 : Int32) (b45 : Int32) (b46 : Int32) (b47 : (Nat → Int32)) (b48 : (Nat → Int32)) (b49 : (Nat → Int32)) (b50 : (Nat → Int32)) (b51 : (Nat → Int32)) (b52 : (Nat → Int32)) (b53 : (Nat → Int32)) (b54 : (Nat → Int32)) (b55 : (Nat → Int32)) (b56 : (Nat → Int32)) (b57 : (Nat → Int32)) (b58 : (Nat → Int32)) (b59 : (Nat → Int32)) (b60 : (Nat → Int32)) (b61 : (Nat → Int32)) (b62 : (Nat → Int32)) (b63 : (Nat → Int32)) (b64 : (Nat → Int32)) (b65 : (Nat → Int32)) (b66 : (Nat → Int32)) (b67 : (Nat → Int32)) (b68 : (Nat → Int32)) (b69 : (Nat → Int32)) (b70 : (Nat → Int32)) (b71 : (Nat → Int32)) (b72 : (Nat → Int32)) (b73 : (Nat → Int32)) (b74 : Int32) (b75 : Int32) (b76 : (Nat → Int64)) (b77 : (Nat → Int64)) (b78 : (Nat → Int32)) (b79 : (Nat → Int32)) (b80 : (Nat → Int32)) (b81 : (Nat → Int32)) (b82 : (Nat → Int32)) (b83 : (Nat → Int32)) (b84 : (Nat → Int32)) (b85 : (Nat → Int64)) (b86 : (Nat → Int64)) (b87 : (Nat → Int64)), INV b2 b3 b4 b6 b7 b8 b9 b10 b16 b17 b29 b35 b40 b41 b46 b49 b50 b53 b56 b57 b58 b62 b65 b69 b85 → k b2 b3 b4 b5 b6 b7 b8 b9 b10 b11 b12 b13 b14 b15 b16 b17 b18 b19 b20 b21 b22 b23 b24 b25 b26 b27 b28 b29 b30 b31 b32 b33 b34 b35 b36 b37 b38 b39 b40 b41 b42 b43 b44 b45 b46 b47 b48 b49 b50 b51 b52 b53 b54 b55 b56 b57 b58 b59 b60 b61 b62 b63 b64 b65 b66 b67 b68 b69 b70 b71 b72 b73 b74 b75 b76 b77 b78 b79 b80 b81 b82 b83 b84 b85 b86 b87 = some 1) ?_ ?_
    · intro b2 b3 b4 b5 b6 b7 b8 b9 b10 b11 b12 b13 b14 b15 b16 b17 b18 b19 b20 b21 b22 b23 b24 b25 b26 b27 b28 b29 b30 b31 b32 b33 b34 b35 b36 b37 b38 b39 b40 b41 b42 b43 b44 b45 b46 b47 b48 b49 b50 b51 b52 b53 b54 b55 b56 b57 b58 b59 b60 b61 b62 b63 b64 b65 b66 b67 b68 b69 b70 b71 b72 b73 b74 b75 b76 b77 b78 b79 b80 b81 b82 b83 b84 b85 b86 b87 hI
      rw [bd_e, show (5 : Int32) = ni 5 from rfl, ni_add]
      exact ih (i + 5) b2 b3 b4 b5 b6 b7 b8 b9 b10 b11 b12 b13 b14 b15 b16 b17 b18 b19 b20 b21 b22 b23 b24 b25 b26 b27 b28 b29 b30 b31 b32 b33 b34 b35 b36 b37 b38 b39 b40 b41 b42 b43 b44 b45 b46 b47 b48 b49 b50 b51 b52 b53 b54 b55 b56 b57 b58 b59 b60 b61 b62 b63 b64 b65 b66 b67 b68 b69 b70 b71 b72 b73 b74 b75 b76 b77 b78 b79 b80 b81 b82 b83 b84 b85 b86 b87 (by omega) (by omega) hI
    intro k hk
    rw [bd_e, ni_ix (by omega)]
    have hg : ∀ j : Nat, 1 ≤ j → j ≤ 4 → ∀ (β : Type) (q : Option β), sq_gi (ni i + ni j) L q = q := fun j _ h _ _ => by rw [ni_add, ni_gi (by omega) (by omega)]
    have hg1 : ∀ (β : Type) (q : Option β), sq_gi (ni i + (1 : Int32)) L q = q := hg 1 (by omega) (by omega)
    have hg2 : ∀ (β : Type) (q : Option β), sq_gi (ni i + (2 : Int32)) L q = q := hg 2 (by omega) (by omega)
    have hg3 : ∀ (β : Type) (q : Option β), sq_gi (ni i + (3 : Int32)) L q = q := hg 3 (by omega) (by omega)
    have hg4 : ∀ (β : Type) (q : Option β), sq_gi (ni i + (4 : Int32)) L q = q := hg 4 (by omega) (by omega)
    clear hg
    obtain ⟨i1, i2, i3, i4, i5, i6⟩ := hI
    by_cases c0 : xs i &&& 15 = 0
    · rw [if_pos c0]
      simp only [bd_e, sq_jne, hg1, hg2, hg3, hg4]
      rcases pt_both (p := xs (ni i + 1).toNatClampNeg) (z := sq_lshl (sq_i2l (xs (ni i + 2).toNatClampNeg)) 32 ||| sq_i2l (xs (ni i + 3).toNatClampNeg) &&& 4294967295) (th := b5) (n0 := n0) (by omega) i1 with ⟨e1, e2⟩ | ⟨e1, r, ds', db', ln', dt', e2, e3, e4⟩
      · rw [e1, tc_s, e2, cb4_e, th_e, cb1_e, if_pos rfl, if_neg (by decide)]
        exact hk b2 b3 b4 1 b6 b7 b8 b9 b10 b11 b12 b13 b14 b15 b16 b17 b18 b19 b20 b21 b22 b23 b24 b25 b26 b27 b28 b29 b30 b31 b32 b33 b34 b35 b36 b37 b38 b39 b40 b41 b42 b43 b44 b45 b46 b47 b48 b49 b50 b51 b52 b53 b54 b55 b56 b57 b58 b59 b60 b61 b62 b63 b64 b65 b66 b67 b68 b69 b70 b71 b72 b73 b74 b75 b76 b77 b78 b79 b80 b81 b82 b83 b84 b85 b86 b87 ⟨i1, i2, i3, i4, i5, i6⟩
      · unfold fn_Law_put
        rw [e1, tc_n, e2, cb3_e]
        simp only [bd_e, gi01, cb4_e]
        rw [e3, cb4_e, th_e, cb1_e, if_pos rfl, if_pos trivial, uL0, lc_z, if_pos rfl]
        exact hk _ _ _ _ _ _ _ _ _ _ _ _ _ _ _ _ _ _ _ _ _ _ _ _ _ _ _ _ _ _ _ _ _ _ _ _ _ _ _ _ _ _ _ _ _ _ _ _ _ _ _ _ _ _ _ _ _ _ _ _ _ _ _ _ _ _ _ _ _ _ _ _ _ _ _ _ _ _ _ _ _ _ _ _ _ _ ⟨e4, i2, i3, i4, i5, i6⟩
    rw [if_neg c0]
    by_cases c1 : xs i &&& 15 = 1
    · rw [if_pos c1]
      simp only [bd_e, sq_jne, hg1, hg2, hg3, hg4]
      rcases rp_both (p := xs (ni i + 1).toNatClampNeg) (c := xs (ni i + 2).toNatClampNeg) (th := b5) (n0 := n0) (by omega) i1 with ⟨e1, e2⟩ | ⟨e1, r, ds', db', ln', dt', e2, e3, e4⟩
      · rw [e1, tc_s, e2, cb4_e, th_e, cb1_e, if_pos rfl, if_neg (by decide)]
        exact hk _ _ _ _ _ _ _ _ _ _ _ _ _ _ _ _ _ _ _ _ _ _ _ _ _ _ _ _ _ _ _ _ _ _ _ _ _ _ _ _ _ _ _ _ _ _ _ _ _ _ _ _ _ _ _ _ _ _ _ _ _ _ _ _ _ _ _ _ _ _ _ _ _ _ _ _ _ _ _ _ _ _ _ _ _ _ ⟨i1, i2, i3, i4, i5, i6⟩
      · unfold fn_Law_repeat
        rw [e1, tc_n, e2, cb3_e]
        simp only [bd_e, gi01, cb2_e, cb3_e, cb4_e, cb5_e, cb7_e, cb39_e]
        rw [e3, cb4_e, th_e, cb1_e, if_pos rfl, if_pos trivial, uL0, lc_z, if_pos rfl]
        exact hk _ _ _ _ _ _ _ _ _ _ _ _ _ _ _ _ _ _ _ _ _ _ _ _ _ _ _ _ _ _ _ _ _ _ _ _ _ _ _ _ _ _ _ _ _ _ _ _ _ _ _ _ _ _ _ _ _ _ _ _ _ _ _ _ _ _ _ _ _ _ _ _ _ _ _ _ _ _ _ _ _ _ _ _ _ _ ⟨e4, i2, i3, i4, i5, i6⟩
    rw [if_neg c1]
    by_cases c2 : xs i &&& 15 = 2
    · rw [if_pos c2]
      obtain ⟨len, d, hl, rfl, rfl, hcd, hd⟩ := i1
      rw [show fn_Sq_wipe (ni len) = some (ni len, 0) from rfl, cb2_e, show fn_Md_wipe b5 (ni len) = some (ni len, 0, 0) from rfl, cb3_e, if_pos rfl]
      exact hk _ _ _ _ _ _ _ _ _ _ _ _ _ _ _ _ _ _ _ _ _ _ _ _ _ _ _ _ _ _ _ _ _ _ _ _ _ _ _ _ _ _ _ _ _ _ _ _ _ _ _ _ _ _ _ _ _ _ _ _ _ _ _ _ _ _ _ _ _ _ _ _ _ _ _ _ _ _ _ _ _ _ _ _ _ _ ⟨⟨0, fun _ => 0, by omega, rfl, rfl, fun i hi => absurd hi (by omega), fun i hi => absurd hi (by omega)⟩, i2, i3, i4, i5, i6⟩
    rw [if_neg c2]
    by_cases c3 : xs i &&& 15 = 3
    · rw [if_pos c3]
      simp only [bd_e, sq_jne, hg1, hg2, hg3, hg4]
      obtain ⟨r, e1, e2⟩ := at_both (p := xs (ni i + 1).toNatClampNeg) (th := b5) i1
      rw [e1, cb1_e, e2, cb2_e, if_pos rfl]
      exact hk _ _ _ _ _ _ _ _ _ _ _ _ _ _ _ _ _ _ _ _ _ _ _ _ _ _ _ _ _ _ _ _ _ _ _ _ _ _ _ _ _ _ _ _ _ _ _ _ _ _ _ _ _ _ _ _ _ _ _ _ _ _ _ _ _ _ _ _ _ _ _ _ _ _ _ _ _ _ _ _ _ _ _ _ _ _ ⟨i1, i2, i3, i4, i5, i6⟩
    rw [if_neg c3]
    by_cases c4 : xs i &&& 15 = 4
    · rw [if_pos c4]
      simp only [bd_e, sq_jne, hg1, hg2, hg3, hg4]
      rcases mk_gate (n0 := n0) (p1 := xs (ni i + 1).toNatClampNeg) (p2 := xs (ni i + 2).toNatClampNeg) (p3 := xs (ni i + 3).toNatClampNeg) (th := b5) (len := b6) (ver := b7) (side := b8) (mde := b9) (segs := b10) (bits := b11) (fil := b12) (blk := b47) (mb := mb) (by0 := b48) (mc := mc) (dt := b49) (fx := b50) (gnm := b51) (mds := b52) (mod := b53) (sl := b57) (so := b58) (tk := b61) (tl := b62) (wd := b65) with ⟨e1, e2⟩ | ⟨e1, l, wish, g1, g2, g3, g4, g5⟩
      · rw [e1, tc_s, e2, cb19_e, th_e, cb1_e, if_pos rfl, if_neg (by decide)]
        exact hk _ _ _ _ _ _ _ _ _ _ _ _ _ _ _ _ _ _ _ _ _ _ _ _ _ _ _ _ _ _ _ _ _ _ _ _ _ _ _ _ _ _ _ _ _ _ _ _ _ _ _ _ _ _ _ _ _ _ _ _ _ _ _ _ _ _ _ _ _ _ _ _ _ _ _ _ _ _ _ _ _ _ _ _ _ _ ⟨i1, i2, i3, i4, i5, i6⟩
      · obtain ⟨len, d, hl, rfl, rfl, hcd, hd⟩ := i1
        unfold fn_Law_make
        rw [e1, tc_n, g3, g4]
        rcases mk_both (p := xs (ni i + 3).toNatClampNeg) (mkd := b40) (ms := b41) (byc := b66) (gen := b67) (rest := b68) (db := b69) (bb := b70) (bhr := b71) (chs := b72) (fb := b73) (mr := b76) (ah := b77) (sw := b85) (dw := b86) (fw := b87) (dt := b49) (blk := b47) (by0 := b48) (fx := b50) (gnm := b51) (mds := b52) (mod := b53) (sl := b57) (so := b58) (tk := b61) (tl := b62) (wd := b65) (iM := b2) (cw1 := b19) (cw2 := b20) (cw3 := b21) (cw4 := b22) (cw5 := b23) (cw6 := b24) (cw7 := b25) (cw8 := b26) (cw9 := b27) (cw10 := b28) (dv1 := b30) (dv2 := b31) (dv3 := b32) (dv4 := b33) (dv5 := b34) (fr1 := b36) (fr2 := b37) (fr3 := b38) (fr4 := b39) (ss := b46) (fds := b74) (ffs := b75) (th := b5) (ver := b7) (side := b8) (mde := b9) (segs := b10) (bits := b11) (fil := b12) hn0 T F g1 g2 g5 hl hcd hd with ⟨⟨_, _, _, _, _, _, _, _, _, hc⟩, bits', mds', tk', hm⟩ | ⟨u, K, P, hv, hv1, hK, _, _, _, _, _, _, _, _, _, _, _, _, _, _, _, _, _, _, _, mkd', ms', _, _, _, _, _, _, _, _, _, _, _, sw', _, _, hc, hG, bits', fil', blk', by', fx', gnm', mds', mod', sl', so', tk', tl', wd', hm, hM, hW, h6, h4, hS⟩
        · rw [hc, cb38_e]
          simp only [bd_e, gi01, cb2_e, cb3_e, cb4_e, cb5_e, cb7_e, cb39_e]
          rw [hm, cb19_e, th_e, cb1_e, if_pos rfl, if_pos trivial, uL0, lc_z, if_pos rfl]
          exact hk _ _ _ _ _ _ _ _ _ _ _ _ _ _ _ _ _ _ _ _ _ _ _ _ _ _ _ _ _ _ _ _ _ _ _ _ _ _ _ _ _ _ _ _ _ _ _ _ _ _ _ _ _ _ _ _ _ _ _ _ _ _ _ _ _ _ _ _ _ _ _ _ _ _ _ _ _ _ _ _ _ _ _ _ _ _ ⟨⟨len, d, hl, rfl, rfl, hcd, hd⟩, i2, i3, i4, i5, i6⟩
        · rw [hc, cb38_e]
          simp only [bd_e, gi01, cb2_e, cb3_e, cb4_e, cb5_e, cb7_e, cb39_e]
          rw [hm, cb19_e, th_e, cb1_e, if_pos rfl, if_pos trivial, uL0, lc_z, if_pos rfl]
          exact hk _ _ _ _ _ _ _ _ _ _ _ _ _ _ _ _ _ _ _ _ _ _ _ _ _ _ _ _ _ _ _ _ _ _ _ _ _ _ _ _ _ _ _ _ _ _ _ _ _ _ _ _ _ _ _ _ _ _ _ _ _ _ _ _ _ _ _ _ _ _ _ _ _ _ _ _ _ _ _ _ _ _ _ _ _ _ ⟨⟨len, d, hl, rfl, rfl, hcd, hd⟩, ⟨rfl, .inr ⟨rfl, h6, K, hK, h4, rfl, hS⟩⟩, i3, i4, hW i5, .inr ⟨u, P, hv, hv1, rfl, rfl, rfl, hG, hM⟩⟩
    rw [if_neg c4]
    by_cases c5 : xs i &&& 15 = 5
    · rw [if_pos c5]
      simp only [bd_e, sq_jne, hg1, hg2, hg3, hg4]
      rcases bl_both (p := xs (ni i + 1).toNatClampNeg) (iM := b2) (ss := b46) (sw := b85) (th := b5) (ver := b7) (side := b8) (mde := b9) (fx := b50) (md := b53) (n0 := n0) hn0 with ⟨e1, e2⟩ | ⟨e1, v, sw', fx', md', P, hv, hv1, e2, e3, hG, hM⟩
      · rw [e1, tc_s, e2, cb7_e, th_e, cb1_e, if_pos rfl, if_neg (by decide)]
        exact hk _ _ _ _ _ _ _ _ _ _ _ _ _ _ _ _ _ _ _ _ _ _ _ _ _ _ _ _ _ _ _ _ _ _ _ _ _ _ _ _ _ _ _ _ _ _ _ _ _ _ _ _ _ _ _ _ _ _ _ _ _ _ _ _ _ _ _ _ _ _ _ _ _ _ _ _ _ _ _ _ _ _ _ _ _ _ ⟨i1, i2, i3, i4, i5, i6⟩
      · unfold fn_Law_blank
        rw [e1, tc_n, e2, cb4_e]
        simp only [bd_e, gi01, cb2_e, cb3_e, cb4_e, cb5_e, cb7_e, cb39_e]
        rw [e3, cb7_e, th_e, cb1_e, if_pos rfl, if_pos trivial, uL0, lc_z, if_pos rfl]
        exact hk _ _ _ _ _ _ _ _ _ _ _ _ _ _ _ _ _ _ _ _ _ _ _ _ _ _ _ _ _ _ _ _ _ _ _ _ _ _ _ _ _ _ _ _ _ _ _ _ _ _ _ _ _ _ _ _ _ _ _ _ _ _ _ _ _ _ _ _ _ _ _ _ _ _ _ _ _ _ _ _ _ _ _ _ _ _ ⟨i1, ⟨rfl, .inl rfl⟩, i3, i4, i5, .inr ⟨v, P, hv, hv1, rfl, rfl, rfl, hG, hM⟩⟩
    rw [if_neg c5]
    by_cases c6 : xs i &&& 15 = 6
    · rw [if_pos c6]
      simp only [bd_e, sq_jne, hg1, hg2, hg3, hg4]
      rcases to_both (p := xs (ni i + 1).toNatClampNeg) (th := b5) i2 with ⟨e1, e2⟩ | ⟨e1, r, e2, e3⟩
      · rw [e1, tc_s, e2, cb2_e, th_e, cb1_e, if_pos rfl, if_neg (by decide)]
        exact hk _ _ _ _ _ _ _ _ _ _ _ _ _ _ _ _ _ _ _ _ _ _ _ _ _ _ _ _ _ _ _ _ _ _ _ _ _ _ _ _ _ _ _ _ _ _ _ _ _ _ _ _ _ _ _ _ _ _ _ _ _ _ _ _ _ _ _ _ _ _ _ _ _ _ _ _ _ _ _ _ _ _ _ _ _ _ ⟨i1, i2, i3, i4, i5, i6⟩
      · unfold fn_Law_told
        rw [e1, tc_n, e2, cb1_e]
        simp only [bd_e, gi01, cb2_e, cb3_e, cb4_e, cb5_e, cb7_e, cb39_e]
        rw [e3, cb2_e, th_e, cb1_e, if_pos rfl, if_pos trivial, uL0, lc_z, if_pos rfl]
        exact hk _ _ _ _ _ _ _ _ _ _ _ _ _ _ _ _ _ _ _ _ _ _ _ _ _ _ _ _ _ _ _ _ _ _ _ _ _ _ _ _ _ _ _ _ _ _ _ _ _ _ _ _ _ _ _ _ _ _ _ _ _ _ _ _ _ _ _ _ _ _ _ _ _ _ _ _ _ _ _ _ _ _ _ _ _ _ ⟨i1, i2, i3, i4, i5, i6⟩
    rw [if_neg c6]
    by_cases c7 : xs i &&& 15 = 7
    · rw [if_pos c7]
      simp only [bd_e, sq_jne, hg1, hg2, hg3, hg4]
      rcases sg_both (p := xs (ni i + 1).toNatClampNeg) (q := xs (ni i + 2).toNatClampNeg) (th := b5) i2 with ⟨e1, e2⟩ | ⟨e1, r, e2, e3⟩
      · rw [e1, tc_s, e2, cb2_e, th_e, cb1_e, if_pos rfl, if_neg (by decide)]
        exact hk _ _ _ _ _ _ _ _ _ _ _ _ _ _ _ _ _ _ _ _ _ _ _ _ _ _ _ _ _ _ _ _ _ _ _ _ _ _ _ _ _ _ _ _ _ _ _ _ _ _ _ _ _ _ _ _ _ _ _ _ _ _ _ _ _ _ _ _ _ _ _ _ _ _ _ _ _ _ _ _ _ _ _ _ _ _ ⟨i1, i2, i3, i4, i5, i6⟩
      · unfold fn_Law_segment
        rw [e1, tc_n, e2, cb1_e]
        simp only [bd_e, gi01, cb2_e, cb3_e, cb4_e, cb5_e, cb7_e, cb39_e]
        rw [e3, cb2_e, th_e, cb1_e, if_pos rfl, if_pos trivial, uL0, lc_z, if_pos rfl]
        exact hk _ _ _ _ _ _ _ _ _ _ _ _ _ _ _ _ _ _ _ _ _ _ _ _ _ _ _ _ _ _ _ _ _ _ _ _ _ _ _ _ _ _ _ _ _ _ _ _ _ _ _ _ _ _ _ _ _ _ _ _ _ _ _ _ _ _ _ _ _ _ _ _ _ _ _ _ _ _ _ _ _ _ _ _ _ _ ⟨i1, i2, i3, i4, i5, i6⟩
    rw [if_neg c7]
    by_cases c8 : xs i &&& 15 = 8
    · rw [if_pos c8]
      simp only [bd_e, sq_jne, hg1, hg2, hg3, hg4]
      rcases id i6 with ⟨h7, h46, h17, P, hG⟩ | ⟨v, P, hv, hv1, h7, h8, h46, hG, hM⟩
      · obtain ⟨u, e1, e2⟩ := rw_none (md := b53) (sw := b85) (side := b8) (p := xs (ni i + 1).toNatClampNeg) (q := xs (ni i + 2).toNatClampNeg) (th := b5) (n0 := n0) (by omega) hG
        rw [h46, e1, cb1_e, h7, e2, cb2_e, lc_z, if_pos rfl]
        exact hk _ _ _ _ _ _ _ _ _ _ _ _ _ _ _ _ _ _ _ _ _ _ _ _ _ _ _ _ _ _ _ _ _ _ _ _ _ _ _ _ _ _ _ _ _ _ _ _ _ _ _ _ _ _ _ _ _ _ _ _ _ _ _ _ _ _ _ _ _ _ _ _ _ _ _ _ _ _ _ _ _ _ _ _ _ _ ⟨i1, i2, i3, i4, i5, .inl ⟨rfl, rfl, h17, P, hG⟩⟩
      · obtain ⟨u, e1, e2⟩ := rw_both (md := b53) (sw := b85) (p := xs (ni i + 1).toNatClampNeg) (q := xs (ni i + 2).toNatClampNeg) (th := b5) (n0 := n0) (by omega) hv hv1 hG (fun a b ha hb => (hM a b ha hb).1)
        rw [h46, e1, cb1_e, h7, h8, e2, cb2_e, lc_z, if_pos rfl]
        exact hk _ _ _ _ _ _ _ _ _ _ _ _ _ _ _ _ _ _ _ _ _ _ _ _ _ _ _ _ _ _ _ _ _ _ _ _ _ _ _ _ _ _ _ _ _ _ _ _ _ _ _ _ _ _ _ _ _ _ _ _ _ _ _ _ _ _ _ _ _ _ _ _ _ _ _ _ _ _ _ _ _ _ _ _ _ _ ⟨i1, i2, i3, i4, i5, .inr ⟨v, P, hv, hv1, rfl, rfl, rfl, hG, hM⟩⟩
    rw [if_neg c8]
    by_cases c9 : xs i &&& 15 = 9
    · rw [if_pos c9]
      simp only [bd_e, sq_jne, hg1, hg2, hg3, hg4]
      rcases id i6 with ⟨h7, h46, h17, P, hG⟩ | ⟨v, P, hv, hv1, h7, h8, h46, hG, hM⟩
      · obtain ⟨sw', e1, hG'⟩ := cl_sp (p := xs (ni i + 1).toNatClampNeg) (q := xs (ni i + 2).toNatClampNeg) (z := sq_lshl (sq_i2l (xs (ni i + 3).toNatClampNeg)) 32 ||| sq_i2l (xs (ni i + 4).toNatClampNeg) &&& 4294967295) (by omega) hG
        rw [(sp_out (P := P) (fun i _ h => by omega)).1] at e1
        rw [h46, show (0 : Int32) = ni 0 from rfl, e1, cb2_e, h7, md_sp0 (by omega), cb3_e, if_pos (show ni 0 = 0 from rfl)]
        exact hk _ _ _ _ _ _ _ _ _ _ _ _ _ _ _ _ _ _ _ _ _ _ _ _ _ _ _ _ _ _ _ _ _ _ _ _ _ _ _ _ _ _ _ _ _ _ _ _ _ _ _ _ _ _ _ _ _ _ _ _ _ _ _ _ _ _ _ _ _ _ _ _ _ _ _ _ _ _ _ _ _ _ _ _ _ _ ⟨i1, i2, i3, i4, i5, .inl ⟨rfl, rfl, h17, _, hG'⟩⟩
      · obtain ⟨sw', e1, hG'⟩ := cl_sp (p := xs (ni i + 1).toNatClampNeg) (q := xs (ni i + 2).toNatClampNeg) (z := sq_lshl (sq_i2l (xs (ni i + 3).toNatClampNeg)) 32 ||| sq_i2l (xs (ni i + 4).toNatClampNeg) &&& 4294967295) (sd_le hv) hG
        obtain ⟨md', e2, hM'⟩ := md_sp (p := xs (ni i + 1).toNatClampNeg) (q := xs (ni i + 2).toNatClampNeg) (z := sq_lshl (sq_i2l (xs (ni i + 3).toNatClampNeg)) 32 ||| sq_i2l (xs (ni i + 4).toNatClampNeg) &&& 4294967295) (th := b5) (n0 := n0) (by omega) (sd_le hv) hv1 hv (fun a b ha hb => (hM a b ha hb).1)
        rw [h46, e1, cb2_e, h7, h8, e2, cb3_e, if_pos rfl]
        exact hk _ _ _ _ _ _ _ _ _ _ _ _ _ _ _ _ _ _ _ _ _ _ _ _ _ _ _ _ _ _ _ _ _ _ _ _ _ _ _ _ _ _ _ _ _ _ _ _ _ _ _ _ _ _ _ _ _ _ _ _ _ _ _ _ _ _ _ _ _ _ _ _ _ _ _ _ _ _ _ _ _ _ _ _ _ _ ⟨i1, i2, i3, i4, i5, .inr ⟨v, _, hv, hv1, rfl, rfl, rfl, hG', fun a b ha hb => ⟨hM' a b ha hb, (hM a b ha hb).2⟩⟩⟩
    rw [if_neg c9]
    by_cases c10 : xs i &&& 15 = 10
    · rw [if_pos c10]
      rcases id i6 with ⟨h7, h46, h17, P, hG⟩ | ⟨v, P, hv, hv1, h7, h8, h46, hG, hM⟩
      · unfold fn_Sq_read fn_Grid_side
        rw [h46, cb1_e, if_pos rfl, cb38_e]
        unfold fn_Md_read
        rw [h7, if_pos rfl, cb20_e, if_pos rfl]
        exact hk _ _ _ _ _ _ _ _ _ _ _ _ _ _ _ _ _ _ _ _ _ _ _ _ _ _ _ _ _ _ _ _ _ _ _ _ _ _ _ _ _ _ _ _ _ _ _ _ _ _ _ _ _ _ _ _ _ _ _ _ _ _ _ _ _ _ _ _ _ _ _ _ _ _ _ _ _ _ _ _ _ _ _ _ _ _ ⟨i1, i2, ⟨h17.symm, .inl rfl⟩, rfl, i5, .inl ⟨rfl, rfl, h17, P, hG⟩⟩
      · rw [h46, h7, h8]
        rcases rd_both (mb := mb) (mc := mc) (lg := lg) (pw := pw) (fo := b35) (byc := b66) (db := b69) (mn1 := b78) (mn2 := b79) (mn3 := b80) (mn4 := b81) (mn5 := b82) (mn6 := b83) (mn7 := b84) (mr := b76) (sw := b85) (dw := b86) (fw := b87) (blk := b47) (bym := b48) (dt := b49) (fx := b50) (md := b53) (pls := b54) (rb := b55) (rd := b56) (slv := b59) (sys := b60) (trd := b63) (vls := b64) (wd := b65) (n0 := n0) (v := v) (iR := b3) (lf := b4) (cw1 := b19) (cw2 := b20) (cw3 := b21) (cw4 := b22) (cw5 := b23) (cw6 := b24) (cw7 := b25) (cw8 := b26) (cw9 := b27) (cw10 := b28) (fr1 := b36) (fr2 := b37) (fr3 := b38) (fr4 := b39) (pa1 := b42) (pa2 := b43) (pa3 := b44) (pa4 := b45) (ds := b29) (fds := b74) (ffs := b75) (th := b5) (len := b6) (rl := b13) (ma := b14) (mal := b15) (flt := b16) (gd := b17) hn0 T F hv hv1 hG hM i5 with ⟨f, hf1, hf2, ⟨_, _, _, _, _, _, _, _, _, _, _, _, _, _, _, _, _, _, _, _, _, _, _, _, _, _, _, _, _, sw', _, _, hc, hG'⟩, ⟨_, _, _, _, _, _, _, _, _, _, _, _, wd', hm, hW⟩⟩ | ⟨s, out, a0, a1, a2, a3, hs, ⟨db', _, _, _, _, _, _, _, _, _, _, _, _, _, _, _, _, _, _, _, _, _, _, _, _, _, _, _, _, _, sw', _, _, hc, hG', ho⟩, ⟨dt', _, _, _, _, _, _, _, rd', _, _, _, _, wd', hm, hW, ho2, r0, r1, r2, r3⟩⟩
        · rw [hc, cb38_e, hm, cb20_e, if_pos rfl]
          exact hk _ _ _ _ _ _ _ _ _ _ _ _ _ _ _ _ _ _ _ _ _ _ _ _ _ _ _ _ _ _ _ _ _ _ _ _ _ _ _ _ _ _ _ _ _ _ _ _ _ _ _ _ _ _ _ _ _ _ _ _ _ _ _ _ _ _ _ _ _ _ _ _ _ _ _ _ _ _ _ _ _ _ _ _ _ _ ⟨i1, i2, ⟨rfl, .inl rfl⟩, rfl, hW, .inr ⟨v, P, hv, hv1, rfl, rfl, rfl, hG', hM⟩⟩
        · rw [hc, cb38_e, hm, cb20_e, if_pos rfl]
          exact hk _ _ _ _ _ _ _ _ _ _ _ _ _ _ _ _ _ _ _ _ _ _ _ _ _ _ _ _ _ _ _ _ _ _ _ _ _ _ _ _ _ _ _ _ _ _ _ _ _ _ _ _ _ _ _ _ _ _ _ _ _ _ _ _ _ _ _ _ _ _ _ _ _ _ _ _ _ _ _ _ _ _ _ _ _ _ ⟨⟨s, out, hs, rfl, rfl, ho, fun i hi => ⟨ho2 i hi, (ho i hi).2⟩⟩, i2, ⟨rfl, .inr ⟨rfl, fun i hi => by
            rcases (show i = 0 ∨ i = 1 ∨ i = 2 ∨ i = 3 by omega) with rfl | rfl | rfl | rfl
            · rw [r0]; rfl
            · rw [r1]; rfl
            · rw [r2]; rfl
            · rw [r3]; rfl⟩⟩, rfl, hW, .inr ⟨v, P, hv, hv1, rfl, rfl, rfl, hG', hM⟩⟩
    rw [if_neg c10]
    by_cases c11 : xs i &&& 15 = 11
    · rw [if_pos c11, show fn_Sq_fault b4 = some b4 from rfl, cb1_e, show fn_Md_fault b5 b16 = some (b16, 0) from rfl, cb2_e, if_pos i4]
      exact hk _ _ _ _ _ _ _ _ _ _ _ _ _ _ _ _ _ _ _ _ _ _ _ _ _ _ _ _ _ _ _ _ _ _ _ _ _ _ _ _ _ _ _ _ _ _ _ _ _ _ _ _ _ _ _ _ _ _ _ _ _ _ _ _ _ _ _ _ _ _ _ _ _ _ _ _ _ _ _ _ _ _ _ _ _ _ ⟨i1, i2, i3, i4, i5, i6⟩
    rw [if_neg c11]
    by_cases c12 : xs i &&& 15 = 12
    · rw [if_pos c12]
      simp only [bd_e, sq_jne, hg1, hg2, hg3, hg4]
      rcases rdg_both (p := xs (ni i + 1).toNatClampNeg) (th := b5) i3 with ⟨e1, e2⟩ | ⟨e1, r, e2, e3⟩
      · rw [e1, tc_s, e2, cb2_e, th_e, cb1_e, if_pos rfl, if_neg (by decide)]
        exact hk _ _ _ _ _ _ _ _ _ _ _ _ _ _ _ _ _ _ _ _ _ _ _ _ _ _ _ _ _ _ _ _ _ _ _ _ _ _ _ _ _ _ _ _ _ _ _ _ _ _ _ _ _ _ _ _ _ _ _ _ _ _ _ _ _ _ _ _ _ _ _ _ _ _ _ _ _ _ _ _ _ _ _ _ _ _ ⟨i1, i2, i3, i4, i5, i6⟩
      · unfold fn_Law_reading
        rw [e1, tc_n, e2, cb1_e]
        simp only [bd_e, gi01, cb2_e, cb3_e, cb4_e, cb5_e, cb7_e, cb39_e]
        rw [e3, cb2_e, th_e, cb1_e, if_pos rfl, if_pos trivial, uL0, lc_z, if_pos rfl]
        exact hk _ _ _ _ _ _ _ _ _ _ _ _ _ _ _ _ _ _ _ _ _ _ _ _ _ _ _ _ _ _ _ _ _ _ _ _ _ _ _ _ _ _ _ _ _ _ _ _ _ _ _ _ _ _ _ _ _ _ _ _ _ _ _ _ _ _ _ _ _ _ _ _ _ _ _ _ _ _ _ _ _ _ _ _ _ _ ⟨i1, i2, i3, i4, i5, i6⟩
    rw [if_neg c12]
    exact hk _ _ _ _ _ _ _ _ _ _ _ _ _ _ _ _ _ _ _ _ _ _ _ _ _ _ _ _ _ _ _ _ _ _ _ _ _ _ _ _ _ _ _ _ _ _ _ _ _ _ _ _ _ _ _ _ _ _ _ _ _ _ _ _ _ _ _ _ _ _ _ _ _ _ _ _ _ _ _ _ _ _ _ _ _ _ ⟨i1, i2, i3, i4, i5, i6⟩
