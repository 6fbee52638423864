/-! blank, told, segment, reading -/
theorem ve_side : ∀ v : Nat, v < 41 → fn_Version_side (ni v) = some (ni (sd v)) := by decide +kernel
theorem bl_l {k9 : (Nat → Int32) → Option (Int32 × Int32 × Int32 × Int32 × Int32 × (Nat → Int32) × (Nat → Int32))} : ∀ (e i m : Nat) (b : Nat → Int32), i + e = 31329 → e < m → (∀ j : Nat, j < i → b j = 0) → ∃ b', fn_Md_blank_L1 k9 m (ni i) b = k9 b' ∧ ∀ j : Nat, j < 31329 → b' j = 0
  | 0, i, m + 1, b, hi, _, h => by
    refine ⟨b, ?_, fun j hj => h j (by omega)⟩
    rw [fn_Md_blank_L1_s, if_pos (show (31329 : Int32) ≤ ni i from (ni_le (a := 31329) (by omega) (by omega)).mpr (by omega))]
  | e + 1, i, m + 1, b, hi, hm, h => by
    obtain ⟨b', r1, r2⟩ := bl_l (k9 := k9) e (i + 1) m (upd b i 0) (by omega) (by omega) (fun j hj => by
      rw [upd_a]
      by_cases z : j = i
      · rw [if_pos z]
      · rw [if_neg z]; exact h j (by omega))
    refine ⟨b', ?_, r2⟩
    rw [fn_Md_blank_L1_s, if_neg (show ¬ (31329 : Int32) ≤ ni i from fun z => absurd ((ni_le (a := 31329) (by omega) (by omega)).mp z) (by omega)), ni_gi (by omega) (by omega), bd_e, bd_e, ← r1, ni_ix (by omega), show (1 : Int32) = ni 1 from rfl, ni_add]
theorem int_rg {p : Int32} {a b : Nat} (ha : a < 1000) (hb : b < 1000) (h1 : ¬ p < ni a) (h2 : p ≤ ni b) : ∃ k : Nat, a ≤ k ∧ k ≤ b ∧ p = ni k := by
  rcases ni_cases p with q | ⟨k, hk, rfl⟩
  · exfalso
    apply h1
    rw [lt_I] at q ⊢
    rw [ni_toI (by omega)]
    rw [show (0 : Int32).toInt = 0 from rfl] at q
    omega
  · rw [ni_lt hk (by omega)] at h1
    rw [ni_le hk (by omega)] at h2
    exact ⟨k, by omega, h2, rfl⟩
theorem bl_both {n0 : Nat} {p iM ss th ver side mde : Int32} {sw : Nat → Int64} {fx md : Nat → Int32} (hn0 : 40000 ≤ n0) : (ft_Sq_blank p = some () ∧ fn_Md_blank n0 p th ver side mde fx md = some (0, 1, ver, side, mde, fx, md)) ∨ (ft_Sq_blank p = none ∧ ∃ (v : Nat) (sw' : Nat → Int64) (fx' md' : Nat → Int32) (P : Nat → Nat → Bool), v < 41 ∧ 1 ≤ v ∧ fn_Sq_blank n0 p iM ss sw = some (ni (sd v), 0, ni (sd v), sw') ∧ fn_Md_blank n0 p th ver side mde fx md = some (ni (sd v), 0, ni v, ni (sd v), 0, fx', md') ∧ GR sw' (sd v) P ∧ MG fx' md' (sd v) (FX v) P) := by
  unfold ft_Sq_blank fn_Md_blank fn_Sq_blank
  by_cases h1 : p < 1
  · rw [if_pos h1, sq_jne, sq_jne, if_pos h1]
    exact .inl ⟨rfl, rfl⟩
  · rw [if_neg h1, if_neg h1, sq_jne, sq_jne, if_neg h1]
    by_cases h2 : p ≤ 40
    · obtain ⟨v, hv1, hv2, rfl⟩ := int_rg (a := 1) (b := 40) (by omega) (by omega) h1 h2
      have hv : v < 41 := by omega
      rw [if_pos h2, if_pos h2, if_pos h2]
      right
      refine ⟨rfl, ?_⟩
      obtain ⟨sw', e1, g1⟩ := gr_clear (x := ss) (w := sw) (n0 := n0) (by omega) (sd_le hv)
      obtain ⟨fx', md1, e2, g2⟩ := md_frame (fx := fx) (md := md) (a1 := side) (n0 := n0) hn0 hv hv1
      obtain ⟨md', e3, g3⟩ := bl_l (k9 := fun (b8 : Nat → Int32) => some (ni (sd v), 0, ni v, ni (sd v), (0 : Int32), fx', b8)) 31329 0 n0 md1 (by omega) (by omega) (fun j hj => absurd hj (by omega))
      refine ⟨v, sw', fx', md', _, hv, hv1, ?_, ?_, g1, fun a b ha hb => ⟨?_, ?_⟩⟩
      · rw [ve_side v hv, cb1_e, e1, cb2_e]
        rfl
      · show (if (0 : Int32) ≤ 0 then _ else _) = _
        rw [if_pos (by decide), e2, cb3_e, sq_jne]
        exact e3
      · have := sd_le hv
        rw [g3 _ (by omega)]
        rfl
      · exact (g2 a b ha hb).2
    · rw [if_neg h2, if_neg h2]
      exact .inl ⟨rfl, rfl⟩
def MDP (iM mde segs : Int32) (mkd tl ms sl so : Nat → Int32) : Prop := iM = mde ∧ (iM = 0 ∨ (iM = 1 ∧ (∀ i : Nat, i < 6 → mkd i = tl i) ∧ ∃ K : Nat, K ≤ 1074 ∧ mkd 4 = ni K ∧ segs = ni K ∧ ∀ i : Nat, i < K → ∃ L m : Nat, L ≤ 3000 ∧ m < 4 ∧ ms i = ni (4 * L + m) ∧ sl i = ni L ∧ so i = ni m))
theorem it_e {p : Nat} {n : Nat} {f : Nat → Int32} (hp : p < n) (hq : n < 100000) : fn_Sq_item (ni p) n f = some (f p) := by
  unfold fn_Sq_item
  rw [if_neg (by rw [ni_nn (by omega)]; exact id), if_neg (show ¬ Int32.ofNat n ≤ ni p from fun z => absurd ((ni_le (a := n) (by omega) (by omega)).mp z) (by omega)), ni_gi hp (by omega), bd_e, ni_ix (by omega)]
theorem to_both {p iM mde segs th : Int32} {mkd tl ms sl so : Nat → Int32} (h : MDP iM mde segs mkd tl ms sl so) : (ft_Sq_told p = some () ∧ fn_Md_told p th mde tl = some (0, 1)) ∨ (ft_Sq_told p = none ∧ ∃ r, fn_Sq_told p iM mkd = some r ∧ fn_Md_told p th mde tl = some (r, 0)) := by
  obtain ⟨rfl, h⟩ := h
  unfold ft_Sq_told fn_Md_told fn_Sq_told
  rw [sq_jne, sq_jne]
  by_cases h1 : p < 0
  · rw [if_pos h1, if_pos h1]
    exact .inl ⟨rfl, rfl⟩
  · rw [if_neg h1, if_neg h1, if_neg h1]
    by_cases h2 : p ≤ 5
    · obtain ⟨k, hk1, hk2, rfl⟩ := int_rg (a := 0) (b := 5) (by omega) (by omega) h1 h2
      rw [if_pos h2, if_pos h2, if_pos h2]
      right
      refine ⟨rfl, ?_⟩
      show ∃ r, _ ∧ (if (0 : Int32) ≤ 0 then _ else _) = _
      rw [if_pos (show (0 : Int32) ≤ 0 by decide)]
      rcases h with rfl | ⟨rfl, h3, -⟩
      · rw [if_pos rfl, if_pos rfl]
        exact ⟨_, rfl, rfl⟩
      · rw [if_neg (show ¬ (1 : Int32) = 0 by decide), if_neg (show ¬ (1 : Int32) = 0 by decide), it_e (by omega) (by omega), cb1_e, ni_gi (by omega) (by omega), bd_e, ni_ix (by omega), h3 k (by omega)]
        exact ⟨_, rfl, rfl⟩
    · rw [if_neg h2, if_neg h2]
      exact .inl ⟨rfl, rfl⟩
theorem rdg_both {p iR gd th : Int32} {fo rd : Nat → Int32} (h : iR = gd ∧ (iR = 0 ∨ (iR = 1 ∧ ∀ i : Nat, i < 4 → fo i = rd i))) : (ft_Sq_reading p = some () ∧ fn_Md_reading p th gd rd = some (0, 1)) ∨ (ft_Sq_reading p = none ∧ ∃ r, fn_Sq_reading p iR fo = some r ∧ fn_Md_reading p th gd rd = some (r, 0)) := by
  obtain ⟨rfl, h⟩ := h
  unfold ft_Sq_reading fn_Md_reading fn_Sq_reading
  rw [sq_jne, sq_jne]
  by_cases h1 : p < 0
  · rw [if_pos h1, if_pos h1]
    exact .inl ⟨rfl, rfl⟩
  · rw [if_neg h1, if_neg h1, if_neg h1]
    by_cases h2 : p ≤ 3
    · obtain ⟨k, hk1, hk2, rfl⟩ := int_rg (a := 0) (b := 3) (by omega) (by omega) h1 h2
      rw [if_pos h2, if_pos h2, if_pos h2]
      right
      refine ⟨rfl, ?_⟩
      show ∃ r, _ ∧ (if (0 : Int32) ≤ 0 then _ else _) = _
      rw [if_pos (show (0 : Int32) ≤ 0 by decide)]
      rcases h with rfl | ⟨rfl, h3⟩
      · rw [if_pos rfl, if_pos rfl]
        exact ⟨_, rfl, rfl⟩
      · rw [if_neg (show ¬ (1 : Int32) = 0 by decide), if_neg (show ¬ (1 : Int32) = 0 by decide), it_e (by omega) (by omega), cb1_e, ni_gi (by omega) (by omega), bd_e, ni_ix (by omega), h3 k (by omega)]
        exact ⟨_, rfl, rfl⟩
    · rw [if_neg h2, if_neg h2]
      exact .inl ⟨rfl, rfl⟩
theorem lm_e {L m : Nat} (hL : L ≤ 3000) (hm : m < 4) : ni (4 * L + m) &&& (3 : Int32) = ni m ∧ ni (4 * L + m) >>> ((2 : Int32) &&& 31) = ni L := by
  refine ⟨?_, ?_⟩
  · rw [show (3 : Int32) = ni 3 from rfl, ni_and, show (3 : Nat) = 2 ^ 2 - 1 from rfl, an_p, show (4 * L + m) % 2 ^ 2 = m by omega]
  · rw [show ((2 : Int32) &&& 31) = ni 2 from by decide, ni_shr (by omega) (by omega), Nat.shiftRight_eq_div_pow, show (4 * L + m) / 2 ^ 2 = L by omega]
theorem sg_both {p q iM mde segs th : Int32} {mkd tl ms sl so : Nat → Int32} (h : MDP iM mde segs mkd tl ms sl so) : (ft_Sq_segment p q = some () ∧ fn_Md_segment p q th mde segs sl so = some (0, 1)) ∨ (ft_Sq_segment p q = none ∧ ∃ r, fn_Sq_segment p q iM mkd ms = some r ∧ fn_Md_segment p q th mde segs sl so = some (r, 0)) := by
  obtain ⟨rfl, h⟩ := h
  unfold ft_Sq_segment fn_Md_segment fn_Sq_segment
  rw [sq_jne, sq_jne]
  by_cases h1 : q < 0
  · rw [if_pos h1, if_pos h1]
    exact .inl ⟨rfl, rfl⟩
  · rw [if_neg h1, if_neg h1, if_neg h1]
    by_cases h2 : q ≤ 1
    · rw [if_pos h2, if_pos h2, if_pos h2]
      right
      refine ⟨rfl, ?_⟩
      show ∃ r, _ ∧ (if (0 : Int32) ≤ 0 then _ else _) = _
      rw [if_pos (show (0 : Int32) ≤ 0 by decide)]
      rcases h with rfl | ⟨rfl, -, K, hK, h3, h4, h5⟩
      · rw [if_pos rfl, if_pos rfl]
        exact ⟨_, rfl, rfl⟩
      · rw [if_neg (show ¬ (1 : Int32) = 0 by decide), if_neg (show ¬ (1 : Int32) = 0 by decide)]
        rcases ni_cases p with p1 | ⟨k, hk, rfl⟩
        · rw [if_pos p1, if_pos p1]
          exact ⟨_, rfl, rfl⟩
        · have p1 : ¬ ni k < 0 := by rw [ni_nn hk]; exact id
          rw [if_neg p1, if_neg p1, show sq_gi (4 : Int32) 6 = id from rfl]
          simp only [id]
          rw [bd_e, show (4 : Int32).toNatClampNeg = 4 from rfl, h3, h4]
          by_cases h6 : k < K
          · obtain ⟨L, m, hL, hm, e1, e2, e3⟩ := h5 k h6
            obtain ⟨l1, l2⟩ := lm_e hL hm
            have hlt : ni k < ni K := (ni_lt hk (by omega)).mpr h6
            rw [if_pos hlt, if_pos hlt, it_e (by omega) (by omega), cb1_e, ni_gi (by omega) (by omega), ni_gi (by omega) (by omega), bd_e, bd_e, ni_ix hk, e1, e2, e3, l1, l2]
            by_cases h7 : q = 0
            · rw [if_pos h7, if_pos h7]
              exact ⟨_, rfl, rfl⟩
            · rw [if_neg h7, if_neg h7]
              exact ⟨_, rfl, rfl⟩
          · have hlt : ¬ ni k < ni K := fun z => h6 ((ni_lt hk (by omega)).mp z)
            rw [if_neg hlt, if_neg hlt]
            exact ⟨_, rfl, rfl⟩
    · rw [if_neg h2, if_neg h2]
      exact .inl ⟨rfl, rfl⟩
