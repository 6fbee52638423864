/-! own rows: all segments, and what fills the rest -/
def rne (r : Nat) (d : Nat → Nat) (len m : Nat) : Nat → Nat → Nat
  | 0, q => q
  | k + 1, q => if q < len ∧ ch r d len q = m then rne r d len m k (q + 1) else q
def re (r : Nat) (d : Nat → Nat) (len p : Nat) : Nat := rne r d len (ch r d len p) len (p + 1)
theorem rne_ok (r : Nat) (d : Nat → Nat) (len m p : Nat) : ∀ (k q : Nat), len ≤ q + k → q ≤ len → (∀ i : Nat, p ≤ i → i < q → ch r d len i = m) → q ≤ rne r d len m k q ∧ rne r d len m k q ≤ len ∧ (∀ i : Nat, p ≤ i → i < rne r d len m k q → ch r d len i = m) ∧ (rne r d len m k q < len → ch r d len (rne r d len m k q) ≠ m)
  | 0, q, h1, h2, h3 => ⟨Nat.le_refl _, h2, h3, fun h => by have : rne r d len m 0 q = q := rfl; omega⟩
  | k + 1, q, h1, h2, h3 => by
    have e : rne r d len m (k + 1) q = if q < len ∧ ch r d len q = m then rne r d len m k (q + 1) else q := rfl
    by_cases w : q < len ∧ ch r d len q = m
    · rw [e, if_pos w]
      obtain ⟨a1, a2, a3, a4⟩ := rne_ok r d len m p k (q + 1) (by omega) (by omega) (fun i i1 i2 => by
        by_cases z : i = q
        · rw [z]; exact w.2
        · exact h3 i i1 (by omega))
      exact ⟨by omega, a2, a3, a4⟩
    · rw [e, if_neg w]
      exact ⟨Nat.le_refl _, h2, h3, fun h z => w ⟨h, z⟩⟩
theorem re_ok {r : Nat} {d : Nat → Nat} {len p : Nat} (hp : p < len) : p < re r d len p ∧ re r d len p ≤ len ∧ (∀ i : Nat, p ≤ i → i < re r d len p → ch r d len i = ch r d len p) ∧ (re r d len p < len → ch r d len (re r d len p) ≠ ch r d len p) := by
  obtain ⟨a1, a2, a3, a4⟩ := rne_ok r d len (ch r d len p) p len (p + 1) (by omega) (by omega) (fun i i1 i2 => by rw [show i = p by omega])
  exact ⟨a1, a2, a3, a4⟩
theorem re_u {r : Nat} {d : Nat → Nat} {len p q : Nat} (hp : p < len) (h1 : p < q) (h2 : q ≤ len) (h3 : ∀ i : Nat, p ≤ i → i < q → ch r d len i = ch r d len p) (h4 : q < len → ch r d len q ≠ ch r d len p) : q = re r d len p := by
  obtain ⟨a1, a2, a3, a4⟩ := re_ok (r := r) (d := d) hp
  rcases Nat.lt_trichotomy q (re r d len p) with w | w | w
  · exact absurd (a3 q (by omega) w) (h4 (by omega))
  · exact w
  · exact absurd (h3 _ (by omega) w) (a4 (by omega))
def spn (r : Nat) (d : Nat → Nat) (len : Nat) : Nat → Nat
  | 0 => 0
  | k + 1 => if spn r d len k < len then re r d len (spn r d len k) else spn r d len k
theorem spn_s {r : Nat} {d : Nat → Nat} {len k : Nat} (h : spn r d len k < len) : spn r d len (k + 1) = re r d len (spn r d len k) := if_pos h
theorem spn_le (r : Nat) (d : Nat → Nat) (len : Nat) : ∀ k : Nat, spn r d len k ≤ len
  | 0 => Nat.zero_le _
  | k + 1 => by
    by_cases w : spn r d len k < len
    · rw [spn_s w]; exact (re_ok w).2.1
    · rw [show spn r d len (k + 1) = spn r d len k from if_neg w]; exact spn_le r d len k
theorem spn_ge (r : Nat) (d : Nat → Nat) (len : Nat) : ∀ k : Nat, min k len ≤ spn r d len k
  | 0 => by omega
  | k + 1 => by
    have ih := spn_ge r d len k
    by_cases w : spn r d len k < len
    · have := (re_ok (r := r) (d := d) w).1
      rw [spn_s w]; omega
    · rw [show spn r d len (k + 1) = spn r d len k from if_neg w]; omega
theorem spn_K (r : Nat) (d : Nat → Nat) (len : Nat) : ∃ K : Nat, spn r d len K = len ∧ ∀ k : Nat, k < K → spn r d len k < len := by
  have key : ∀ n : Nat, (∀ k : Nat, k < n → spn r d len k < len) ∨ ∃ K : Nat, spn r d len K = len ∧ ∀ k : Nat, k < K → spn r d len k < len := by
    intro n
    induction n with
    | zero => exact Or.inl (fun k hk => absurd hk (by omega))
    | succ n ih =>
      rcases ih with h | h
      · by_cases w : spn r d len n < len
        · refine Or.inl (fun k hk => ?_)
          by_cases z : k = n
          · rw [z]; exact w
          · exact h k (by omega)
        · have := spn_le r d len n
          exact Or.inr ⟨n, by omega, h⟩
      · exact Or.inr h
  rcases key (len + 1) with h | h
  · have h1 := h len (by omega)
    have h2 := spn_ge r d len len
    omega
  · exact h
theorem spn_ne {r : Nat} {d : Nat → Nat} {len : Nat} : ∀ k : Nat, spn r d len k < len → mof (sm r d len (spn r d len k)) ≠ ch r d len (spn r d len k)
  | 0, _ => by
    have := ch_lt r d len 0
    show 3 ≠ _
    have e : spn r d len 0 = 0 := rfl
    rw [e]; omega
  | k + 1, h => by
    by_cases w : spn r d len k < len
    · obtain ⟨a1, a2, a3, a4⟩ := re_ok (r := r) (d := d) w
      rw [spn_s w] at h ⊢
      have e : mof (sm r d len (re r d len (spn r d len k))) = ch r d len (spn r d len k) := by
        obtain ⟨q, hq⟩ : ∃ q, re r d len (spn r d len k) = q + 1 := ⟨re r d len (spn r d len k) - 1, by omega⟩
        rw [hq, sm_mof]
        exact a3 q (by omega) (by omega)
      rw [e]
      exact fun z => a4 h z.symm
    · rw [show spn r d len (k + 1) = spn r d len k from if_neg w] at h
      exact absurd h w
def sV (r : Nat) (d : Nat → Nat) (len : Nat) : Nat → Nat × Nat
  | 0 => (0, 0)
  | k + 1 => seg r (ch r d len (spn r d len k)) d (spn r d len k) (spn r d len (k + 1)) (sV r d len k)
theorem sV_s (r : Nat) (d : Nat → Nat) (len k : Nat) : sV r d len (k + 1) = seg r (ch r d len (spn r d len k)) d (spn r d len k) (spn r d len (k + 1)) (sV r d len k) := rfl
/-! how many bits -/
def nb (r : Nat) (d : Nat → Nat) (len : Nat) : Nat → Nat
  | 0 => 0
  | p + 1 => nb r d len p + cs r (sm r d len p) (ch r d len p)
theorem nb_s (r : Nat) (d : Nat → Nat) (len p : Nat) : nb r d len (p + 1) = nb r d len p + cs r (sm r d len p) (ch r d len p) := rfl
theorem nb_le (r : Nat) (d : Nat → Nat) (len p : Nat) : ∀ k : Nat, nb r d len p ≤ nb r d len (p + k)
  | 0 => Nat.le_refl _
  | k + 1 => by have := nb_le r d len p k; rw [show p + (k + 1) = p + k + 1 by omega, nb_s]; omega
theorem nb_le2 {r : Nat} {d : Nat → Nat} {len p q : Nat} (h : p ≤ q) : nb r d len p ≤ nb r d len q := by
  have := nb_le r d len p (q - p)
  rw [show p + (q - p) = q by omega] at this
  exact this
theorem gG_nb (r : Nat) (d : Nat → Nat) (len : Nat) : ∀ p : Nat, p ≤ len → nb r d len p + gG r d len (len - p) (sm r d len p) = gG r d len len 6
  | 0, _ => by rw [Nat.sub_zero]; show 0 + gG r d len len 6 = _; omega
  | p + 1, h => by
    have ih := gG_nb r d len p (by omega)
    rw [show len - p = len - (p + 1) + 1 by omega, gG_s, show len - (len - (p + 1) + 1) = p by omega] at ih
    obtain ⟨h1, h2, h3⟩ := bm_ok r (d p) (gG r d len (len - (p + 1))) (sm r d len p)
    rw [← h3] at ih
    unfold vw at ih
    rw [nb_s, sm_s]
    unfold ch
    omega
theorem nb_len (r : Nat) (d : Nat → Nat) (len : Nat) : nb r d len len = gG r d len len 6 := by
  have := gG_nb r d len len (Nat.le_refl _)
  rw [Nat.sub_self] at this
  exact this
def gc (r m : Nat) : Nat → Nat → Nat
  | 0, _ => 0
  | g + 1, s => cs r s m + gc r m g (nx s m)
def nxi (m : Nat) : Nat → Nat → Nat
  | 0, s => s
  | g + 1, s => nxi m g (nx s m)
def bst (m : Nat) : Nat := if m = 0 then 0 else if m = 1 then 3 else 5
theorem gc_g10 : ∀ m : Nat, m < 3 → ∀ s : Nat, s < 7 → ((mof s ≠ m ∨ s = bst m) ∧ 1 ≤ 3 - m) → gc 0 m 1 s = (if mof s = m then 0 else 4 + lb 0 m) + gbs m 1 := by decide +kernel
theorem gc_g11 : ∀ m : Nat, m < 3 → ∀ s : Nat, s < 7 → ((mof s ≠ m ∨ s = bst m) ∧ 1 ≤ 3 - m) → gc 1 m 1 s = (if mof s = m then 0 else 4 + lb 1 m) + gbs m 1 := by decide +kernel
theorem gc_g12 : ∀ m : Nat, m < 3 → ∀ s : Nat, s < 7 → ((mof s ≠ m ∨ s = bst m) ∧ 1 ≤ 3 - m) → gc 2 m 1 s = (if mof s = m then 0 else 4 + lb 2 m) + gbs m 1 := by decide +kernel
theorem gc_g20 : ∀ m : Nat, m < 3 → ∀ s : Nat, s < 7 → ((mof s ≠ m ∨ s = bst m) ∧ 2 ≤ 3 - m) → gc 0 m 2 s = (if mof s = m then 0 else 4 + lb 0 m) + gbs m 2 := by decide +kernel
theorem gc_g21 : ∀ m : Nat, m < 3 → ∀ s : Nat, s < 7 → ((mof s ≠ m ∨ s = bst m) ∧ 2 ≤ 3 - m) → gc 1 m 2 s = (if mof s = m then 0 else 4 + lb 1 m) + gbs m 2 := by decide +kernel
theorem gc_g22 : ∀ m : Nat, m < 3 → ∀ s : Nat, s < 7 → ((mof s ≠ m ∨ s = bst m) ∧ 2 ≤ 3 - m) → gc 2 m 2 s = (if mof s = m then 0 else 4 + lb 2 m) + gbs m 2 := by decide +kernel
theorem gc_g30 : ∀ m : Nat, m < 3 → ∀ s : Nat, s < 7 → ((mof s ≠ m ∨ s = bst m) ∧ 3 ≤ 3 - m) → gc 0 m 3 s = (if mof s = m then 0 else 4 + lb 0 m) + gbs m 3 := by decide +kernel
theorem gc_g31 : ∀ m : Nat, m < 3 → ∀ s : Nat, s < 7 → ((mof s ≠ m ∨ s = bst m) ∧ 3 ≤ 3 - m) → gc 1 m 3 s = (if mof s = m then 0 else 4 + lb 1 m) + gbs m 3 := by decide +kernel
theorem gc_g32 : ∀ m : Nat, m < 3 → ∀ s : Nat, s < 7 → ((mof s ≠ m ∨ s = bst m) ∧ 3 ≤ 3 - m) → gc 2 m 3 s = (if mof s = m then 0 else 4 + lb 2 m) + gbs m 3 := by decide +kernel
theorem gc_d1 (r : Nat) (hr : r < 3) (m : Nat) (hm : m < 3) (s : Nat) (hs : s < 7) (g : Nat) (hg : g < 4) (h : (mof s ≠ m ∨ s = bst m) ∧ 1 ≤ g ∧ g ≤ 3 - m) : gc r m g s = (if mof s = m then 0 else 4 + lb r m) + gbs m g := by
  rcases (show g = 1 ∨ g = 2 ∨ g = 3 by omega) with e | e | e <;> rcases (show r = 0 ∨ r = 1 ∨ r = 2 by omega) with w | w | w <;> subst e <;> subst w
  · exact gc_g10 m hm s hs ⟨h.1, h.2.2⟩
  · exact gc_g11 m hm s hs ⟨h.1, h.2.2⟩
  · exact gc_g12 m hm s hs ⟨h.1, h.2.2⟩
  · exact gc_g20 m hm s hs ⟨h.1, h.2.2⟩
  · exact gc_g21 m hm s hs ⟨h.1, h.2.2⟩
  · exact gc_g22 m hm s hs ⟨h.1, h.2.2⟩
  · exact gc_g30 m hm s hs ⟨h.1, h.2.2⟩
  · exact gc_g31 m hm s hs ⟨h.1, h.2.2⟩
  · exact gc_g32 m hm s hs ⟨h.1, h.2.2⟩
theorem gc_d2 : ∀ m : Nat, m < 3 → ∀ s : Nat, s < 7 → (mof s ≠ m ∨ s = bst m) → nxi m (3 - m) s = bst m := by decide +kernel
theorem gc_ok (r : Nat) (hr : r < 3) (m : Nat) (hm : m < 3) (s : Nat) (hs : s < 7) (hb : mof s ≠ m ∨ s = bst m) (g : Nat) (hg : g < 4) (h1 : 1 ≤ g) (h2 : g ≤ 3 - m) : gc r m g s = (if mof s = m then 0 else 4 + lb r m) + gbs m g ∧ (g = 3 - m → nxi m g s = bst m) := ⟨gc_d1 r hr m hm s hs g hg ⟨hb, h1, h2⟩, fun e => by rw [e]; exact gc_d2 m hm s hs hb⟩
theorem bst_m : ∀ m : Nat, m < 3 → mof (bst m) = m := by decide +kernel
theorem nb_g {r : Nat} {d : Nat → Nat} {len m : Nat} : ∀ (g p : Nat), (∀ j : Nat, j < g → ch r d len (p + j) = m) → nb r d len (p + g) = nb r d len p + gc r m g (sm r d len p) ∧ sm r d len (p + g) = nxi m g (sm r d len p)
  | 0, p, _ => ⟨rfl, rfl⟩
  | g + 1, p, h => by
    have h0 := h 0 (by omega)
    rw [Nat.add_zero] at h0
    obtain ⟨a1, a2⟩ := nb_g g (p + 1) (fun j hj => by rw [show p + 1 + j = p + (j + 1) by omega]; exact h (j + 1) (by omega))
    rw [show p + (g + 1) = p + 1 + g by omega, a1, a2, nb_s, sm_s, h0]
    refine ⟨?_, rfl⟩
    show _ = _ + (cs r _ m + gc r m g _)
    omega
theorem gr_nb {r : Nat} {d : Nat → Nat} {len m q : Nat} (hr : r < 3) (hm : m < 3) : ∀ (k i : Nat) (s : Nat × Nat), q ≤ i + k → i < q → (∀ j : Nat, i ≤ j → j < q → ch r d len j = m) → (mof (sm r d len i) ≠ m ∨ sm r d len i = bst m) → (gr m d q k i s).2 + (if mof (sm r d len i) = m then 0 else 4 + lb r m) = s.2 + (nb r d len q - nb r d len i)
  | 0, i, s, h1, h2, _, _ => by omega
  | k + 1, i, s, h1, h2, h3, h4 => by
    have hs := sm_lt r d len i
    obtain ⟨c1, c2⟩ := gc_ok r hr m hm _ hs h4 (min (3 - m) (q - i)) (by omega) (by omega) (by omega)
    obtain ⟨n1, n2⟩ := nb_g (r := r) (d := d) (len := len) (m := m) (min (3 - m) (q - i)) i (fun j hj => h3 _ (by omega) (by omega))
    have hnb := nb_le2 (r := r) (d := d) (len := len) (show i + min (3 - m) (q - i) ≤ q by omega)
    rw [gr_s, if_pos h2]
    by_cases w : 3 - m < q - i
    · have e9 := gr_nb hr hm k (i + min (3 - m) (q - i)) (s.1 * 2 ^ gbs m (min (3 - m) (q - i)) + nm m d i (min (3 - m) (q - i)), s.2 + gbs m (min (3 - m) (q - i))) (by omega) (by omega) (fun j j1 j2 => h3 j (by omega) j2) (Or.inr (by rw [n2]; exact c2 (by omega)))
      rw [n2, c2 (by omega), bst_m m hm, if_pos rfl] at e9
      dsimp only at e9
      omega
    · rw [gr_e m d q k _ _ (by omega)]
      have : i + min (3 - m) (q - i) = q := by omega
      rw [this] at n1
      dsimp only
      omega
theorem seg_nb {r : Nat} {d : Nat → Nat} {len p q : Nat} (hr : r < 3) (hpq : p < q) (h3 : ∀ j : Nat, p ≤ j → j < q → ch r d len j = ch r d len p) (hne : mof (sm r d len p) ≠ ch r d len p) (s : Nat × Nat) : (seg r (ch r d len p) d p q s).2 = s.2 + (nb r d len q - nb r d len p) := by
  have := gr_nb (q := q) hr (ch_lt r d len p) (q - p) p ((s.1 * 2 ^ 4 + 2 ^ ch r d len p) * 2 ^ lb r (ch r d len p) + (q - p), s.2 + 4 + lb r (ch r d len p)) (by omega) hpq h3 (Or.inl hne)
  rw [if_neg hne] at this
  dsimp only at this
  unfold seg
  omega
theorem sV_nb {r : Nat} {d : Nat → Nat} {len : Nat} (hr : r < 3) : ∀ k : Nat, (∀ j : Nat, j < k → spn r d len j < len) → (sV r d len k).2 = nb r d len (spn r d len k)
  | 0, _ => rfl
  | k + 1, h => by
    have w := h k (by omega)
    obtain ⟨a1, a2, a3, a4⟩ := re_ok (r := r) (d := d) w
    have ih := sV_nb hr k (fun j hj => h j (by omega))
    rw [sV_s, spn_s w, seg_nb hr a1 a3 (spn_ne k w), ih]
    have := nb_le2 (r := r) (d := d) (len := len) (Nat.le_of_lt a1)
    omega
def mnb (r : Nat) : Nat := if r = 0 then 18 else if r = 1 then 20 else 22
theorem mnb_le : ∀ r : Nat, r < 3 → ∀ s : Nat, s < 7 → ∀ m : Nat, m < 3 → mof s ≠ m → mnb r ≤ cs r s m := by decide +kernel
theorem mnb_v : ∀ l : Nat, l < 4 → ∀ v : Nat, v < 41 → 1 ≤ v → 8 * nH l v < 1075 * mnb (rk v) := by decide +kernel
theorem nb_k {r : Nat} {d : Nat → Nat} {len : Nat} (hr : r < 3) : ∀ k : Nat, (∀ j : Nat, j < k → spn r d len j < len) → k * mnb r ≤ nb r d len (spn r d len k)
  | 0, _ => by omega
  | k + 1, h => by
    have w := h k (by omega)
    have ih := nb_k hr k (fun j hj => h j (by omega))
    obtain ⟨a1, a2, a3, a4⟩ := re_ok (r := r) (d := d) w
    have h1 := mnb_le r hr _ (sm_lt r d len (spn r d len k)) _ (ch_lt r d len (spn r d len k)) (spn_ne k w)
    have h2 := nb_le2 (r := r) (d := d) (len := len) (show spn r d len k + 1 ≤ re r d len (spn r d len k) by omega)
    rw [nb_s] at h2
    rw [spn_s w, Nat.succ_mul]
    omega
theorem K_le {l v : Nat} {d : Nat → Nat} {len k : Nat} (hl : l < 4) (hv : v < 41) (h1 : 1 ≤ v) (hok : okv l v d len) (h : ∀ j : Nat, j < k → spn (rk v) d len j < len) : k ≤ 1074 := by
  have a1 := nb_k (rk_lt v) k h
  have a2 := nb_le2 (r := rk v) (d := d) (len := len) (spn_le (rk v) d len k)
  rw [nb_len] at a2
  have a3 := hok.1
  have a4 := mnb_v l hl v hv h1
  by_cases w : k ≤ 1074
  · exact w
  · have : 1075 * mnb (rk v) ≤ k * mnb (rk v) := Nat.mul_le_mul_right _ (by omega)
    omega
theorem run_len {r : Nat} {d : Nat → Nat} {len p : Nat} (hp : p < len) (hF : FT r d len) (hne : mof (sm r d len p) ≠ ch r d len p) : re r d len p - p < 2 ^ lb r (ch r d len p) := by
  obtain ⟨a1, a2, a3, a4⟩ := re_ok (r := r) (d := d) hp
  have h1 := rl_run (rl_1 hne) a3 (re r d len p - 1 - p) (by omega)
  rw [show p + (re r d len p - 1 - p) = re r d len p - 1 by omega] at h1
  have h2 := hF (re r d len p - 1) (by omega)
  rw [h1, a3 _ (by omega) (by omega)] at h2
  omega
theorem ch_ok (r : Nat) (d : Nat → Nat) (len p : Nat) : lst (d p) ≤ ch r d len p := (bm_ok _ _ _ _).2.1
/-! the class's loop over the segments -/
theorem wc1 {by0 chs : Nat → Int32} {d : Nat → Nat} {l v len K n0 : Nat} (hn0 : 4000 ≤ n0) (hl4 : l < 4) (hv : v < 41) (hv1 : 1 ≤ v) (hl : len ≤ 3000) (hd : cdt by0 len d) (hc : cho chs v d len 0) (hok : okv l v d len) (hK : spn (rk v) d len K = len) (hKl : ∀ k : Nat, k < K → spn (rk v) d len k < len) : ∀ (e k mm c : Nat) (f md : Int32) (b ms : Nat → Int32), k + e = K → e < mm → c < 7 → sg c = sm (rk v) d len (spn (rk v) d len k) → CB b (sV (rk v) d len k).1 (sV (rk v) d len k).2 → (∀ i : Nat, i < k → ms i = ni (4 * (spn (rk v) d len (i + 1) - spn (rk v) d len i) + ch (rk v) d len (spn (rk v) d len i))) → ∃ f' md' st' b' ms', (∀ k26, fn_Sq_writeCodewords_L1 n0 (ni len) (ni len) by0 chs (ni v) k26 mm (ni k) (ni k) (ni ((sV (rk v) d len k).2 / 8)) (ni ((sV (rk v) d len k).1 % 2 ^ ((sV (rk v) d len k).2 % 8))) (ni ((sV (rk v) d len k).2 % 8)) f (ni (spn (rk v) d len k)) md (ni c) ms b = k26 (ni K) (ni ((sV (rk v) d len K).2 / 8)) (ni ((sV (rk v) d len K).1 % 2 ^ ((sV (rk v) d len K).2 % 8))) (ni ((sV (rk v) d len K).2 % 8)) f' (ni len) md' st' ms' b') ∧ CB b' (sV (rk v) d len K).1 (sV (rk v) d len K).2 ∧ ∀ i : Nat, i < K → ms' i = ni (4 * (spn (rk v) d len (i + 1) - spn (rk v) d len i) + ch (rk v) d len (spn (rk v) d len i))
  | 0, k, mm + 1, c, f, md, b, ms, hk, _, hc7, hs, hb, hms => by
    have hkK : k = K := by omega
    subst hkK
    have hKb := K_le hl4 hv hv1 hok hKl
    refine ⟨f, md, ni c, b, ms, fun k26 => ?_, hb, hms⟩
    rw [fn_Sq_writeCodewords_L1_s, hK]
    by_cases q : k = 1074
    · rw [q, if_pos (by decide)]
    · simp (disch := omega) only [ni_lit, ni_le, cl_adv0 hl (rfl : len = len), sq_cb5]
      rw [if_neg (by omega), if_pos trivial]
  | e + 1, k, mm + 1, c, f, md, b, ms, hk, hmm, hc7, hs, hb, hms => by
    have w := hKl k (by omega)
    have hKb := K_le hl4 hv hv1 hok hKl
    obtain ⟨a1, a2, a3, a4⟩ := re_ok (r := rk v) (d := d) w
    have hne := spn_ne k w
    have hcl := ch_lt (rk v) d len (spn (rk v) d len k)
    obtain ⟨q, c', g1, g2, g3, g4, g5, g6, g7, g8⟩ := cl_adv (f := f) (md := md) hn0 hc hl w hc7 hs hne
    have hq : q = spn (rk v) d len (k + 1) := by rw [spn_s w]; exact re_u w g2 g3 g7 g8
    subst hq
    have hrl := run_len w hok.2 hne
    rw [← spn_s w] at hrl
    have hnb := sV_nb (r := rk v) (d := d) (len := len) (rk_lt v) (k + 1) (fun j hj => hKl j (by omega))
    have hnl := nb_le2 (r := rk v) (d := d) (len := len) (spn_le (rk v) d len (k + 1))
    rw [nb_len] at hnl
    obtain ⟨z1, z2, z3, z4, z5, z6, -⟩ := vr_nu l hl4 v hv hv1
    have hb8 := hok.1
    have hle : (seg (rk v) (ch (rk v) d len (spn (rk v) d len k)) d (spn (rk v) d len k) (spn (rk v) d len (k + 1)) (sV (rk v) d len k)).2 ≤ 8 * 3706 := by rw [← sV_s, hnb]; omega
    obtain ⟨b2, e2, h2⟩ := cl_segment (b := b) (n0 := n0) (V := (sV (rk v) d len k).1) (n := (sV (rk v) d len k).2) hn0 hl hd hv hv1 hcl g2 g3 (fun j j1 j2 => by rw [← g7 j j1 j2]; exact ch_ok _ _ _ _) hrl hb hle
    rw [show ((sV (rk v) d len k).1, (sV (rk v) d len k).2) = sV (rk v) d len k from rfl, ← sV_s] at e2 h2
    obtain ⟨f', md', st', b', ms', r1, r2, r3⟩ := wc1 hn0 hl4 hv hv1 hl hd hc hok hK hKl e (k + 1) mm c' (ni (spn (rk v) d len k)) (ni (ch (rk v) d len (spn (rk v) d len k))) b2 (upd ms k (ni (4 * (spn (rk v) d len (k + 1) - spn (rk v) d len k) + ch (rk v) d len (spn (rk v) d len k)))) (by omega) (by omega) g4 g5 h2 (fun i hi => by
      rw [upd_a]
      by_cases z : i = k
      · rw [if_pos z, z]
      · rw [if_neg z]; exact hms i (by omega))
    refine ⟨f', md', st', b', ms', fun k26 => ?_, r2, r3⟩
    rw [fn_Sq_writeCodewords_L1_s, ← r1 k26]
    unfold fn_Division_length fn_Division_mode fn_Division_from
    simp (disch := omega) only [ni_lit, ni_add, ni_mul, ni_sub, ni_lt, ni_le, ni_ix, ni_eq, ni_div, ni_rem, ni_and, ni_or, ni_xor, ni_shl, ni_shr, ni_gi, ni_gz, ni_max, ni_min, ni_dc, ni_0a, ni_ml, ni_mle, Nat.reduceAnd, Nat.reduceAdd, Nat.reduceMul, Nat.reduceSub, Nat.reduceDiv, Nat.reduceMod, Nat.reduceXor, Nat.reduceShiftLeft, Nat.reduceShiftRight, sq_bd, sq_jn, sq_cb0, sq_cb1, sq_cb2, sq_cb3, sq_cb4, sq_cb5, g1, e2]
    rw [if_neg (by omega), if_neg (by decide)]
/-! the model's -/
theorem la4 {md : Nat → Int32} {d : Nat → Nat} {r len p : Nat} (hl : len ≤ 3000) (hp : p < len) (hmd : ∀ i : Nat, i < len → md i = ni (ch r d len i)) : ∀ (e q mm : Nat), q + e = len → e < mm → p < q → (∀ i : Nat, p ≤ i → i < q → ch r d len i = ch r d len p) → ∀ k46, fn_Md_layAll_L4 (ni len) md (ni p) k46 mm (ni q) = k46 (ni (re r d len p))
  | 0, q, mm + 1, hq, _, h1, h2 => by
    intro k46
    have : q = re r d len p := re_u hp h1 (by omega) h2 (by omega)
    rw [fn_Md_layAll_L4_s]
    simp (disch := omega) only [ni_le]
    rw [if_pos (by omega), this]
  | e + 1, q, mm + 1, hq, hmm, h1, h2 => by
    intro k46
    have e1 := hmd q (by omega)
    have e2 := hmd p hp
    have c1 := ch_lt r d len q
    have c2 := ch_lt r d len p
    rw [fn_Md_layAll_L4_s]
    simp (disch := omega) only [ni_lit, ni_add, ni_mul, ni_sub, ni_lt, ni_le, ni_ix, ni_eq, ni_div, ni_rem, ni_and, ni_or, ni_xor, ni_shl, ni_shr, ni_gi, ni_gz, ni_max, ni_min, ni_dc, ni_0a, ni_ml, ni_mle, Nat.reduceAnd, Nat.reduceAdd, Nat.reduceMul, Nat.reduceSub, Nat.reduceDiv, Nat.reduceMod, Nat.reduceXor, Nat.reduceShiftLeft, Nat.reduceShiftRight, sq_bd, sq_jn, sq_cb0, sq_cb1, sq_cb2, sq_cb3, sq_cb4, sq_cb5, e1, e2]
    rw [if_neg (by omega)]
    by_cases w : ch r d len q = ch r d len p
    · rw [if_pos w]
      exact la4 hl hp hmd e (q + 1) mm (by omega) (by omega) (by omega) (fun i i1 i2 => by
        by_cases z : i = q
        · rw [z]; exact w
        · exact h2 i i1 (by omega)) k46
    · rw [if_neg w, ← re_u hp h1 (by omega) h2 (fun _ => w)]
theorem la3 {dt md : Nat → Int32} {d : Nat → Nat} {l v len K n0 : Nat} (hn0 : 4000 ≤ n0) (hl4 : l < 4) (hv : v < 41) (hv1 : 1 ≤ v) (hl : len ≤ 3000) (hd : ∀ i : Nat, i < len → dt i = ni (d i) ∧ d i < 256) (hmd : ∀ i : Nat, i < len → md i = ni (ch (rk v) d len i)) (hok : okv l v d len) (hK : spn (rk v) d len K = len) (hKl : ∀ k : Nat, k < K → spn (rk v) d len k < len) : ∀ (e k mm : Nat) (b sl so : Nat → Int32), k + e = K → e < mm → MB b (sV (rk v) d len k).1 (sV (rk v) d len k).2 → (∀ i : Nat, i < k → sl i = ni (spn (rk v) d len (i + 1) - spn (rk v) d len i) ∧ so i = ni (ch (rk v) d len (spn (rk v) d len i))) → ∃ b' sl' so', (∀ k8, fn_Md_layAll_L3 (ni v) n0 (ni len) dt md k8 mm (ni (spn (rk v) d len k)) (ni k) (ni (sV (rk v) d len k).2) b sl so = k8 (ni K) (ni (sV (rk v) d len K).2) b' sl' so') ∧ MB b' (sV (rk v) d len K).1 (sV (rk v) d len K).2 ∧ ∀ i : Nat, i < K → sl' i = ni (spn (rk v) d len (i + 1) - spn (rk v) d len i) ∧ so' i = ni (ch (rk v) d len (spn (rk v) d len i))
  | 0, k, mm + 1, b, sl, so, hk, _, hb, hs => by
    have hkK : k = K := by omega
    subst hkK
    refine ⟨b, sl, so, fun k8 => ?_, hb, hs⟩
    rw [fn_Md_layAll_L3_s, hK]
    simp (disch := omega) only [ni_le]
    rw [if_pos (by omega)]
  | e + 1, k, mm + 1, b, sl, so, hk, hmm, hb, hs => by
    have w := hKl k (by omega)
    have hKb := K_le hl4 hv hv1 hok hKl
    obtain ⟨a1, a2, a3, a4⟩ := re_ok (r := rk v) (d := d) w
    have hne := spn_ne k w
    have hcl := ch_lt (rk v) d len (spn (rk v) d len k)
    have hrl := run_len w hok.2 hne
    have hnb := sV_nb (r := rk v) (d := d) (len := len) (rk_lt v) (k + 1) (fun j hj => hKl j (by omega))
    have hnl := nb_le2 (r := rk v) (d := d) (len := len) (spn_le (rk v) d len (k + 1))
    rw [nb_len] at hnl
    obtain ⟨z1, z2, z3, z4, z5, z6, -⟩ := vr_nu l hl4 v hv hv1
    have hb8 := hok.1
    rw [← spn_s w] at a1 a2 a3 a4 hrl
    have hle : (seg (rk v) (ch (rk v) d len (spn (rk v) d len k)) d (spn (rk v) d len k) (spn (rk v) d len (k + 1)) (sV (rk v) d len k)).2 ≤ 8 * 3706 := by rw [← sV_s, hnb]; omega
    have e4 := la4 (p := spn (rk v) d len k) hl w hmd (len - (spn (rk v) d len k + 1)) (spn (rk v) d len k + 1) n0 (by omega) (by omega) (by omega) (fun i i1 i2 => by rw [show i = spn (rk v) d len k by omega])
    rw [← spn_s w] at e4
    obtain ⟨b2, e2, h2⟩ := md_segment (b := b) (sl := sl) (sm0 := so) (k := k) (n0 := n0) (V := (sV (rk v) d len k).1) (n := (sV (rk v) d len k).2) hn0 hl hd (rk_lt v) hcl a1 a2 (hmd _ w) (by omega) (fun j j1 j2 => by rw [← a3 j j1 j2]; exact ch_ok _ _ _ _) hrl hb hle
    rw [show ((sV (rk v) d len k).1, (sV (rk v) d len k).2) = sV (rk v) d len k from rfl, ← sV_s] at e2 h2
    obtain ⟨b', sl', so', r1, r2, r3⟩ := la3 hn0 hl4 hv hv1 hl hd hmd hok hK hKl e (k + 1) mm b2 (upd sl k (ni (spn (rk v) d len (k + 1) - spn (rk v) d len k))) (upd so k (ni (ch (rk v) d len (spn (rk v) d len k)))) (by omega) (by omega) h2 (fun i hi => by
      rw [upd_a, upd_a]
      by_cases z : i = k
      · rw [if_pos z, if_pos z, z]; exact ⟨rfl, rfl⟩
      · rw [if_neg z, if_neg z]; exact hs i (by omega))
    refine ⟨b', sl', so', fun k8 => ?_, r2, r3⟩
    rw [fn_Md_layAll_L3_s, ← r1 k8]
    simp (disch := omega) only [ni_lit, ni_add, ni_mul, ni_sub, ni_lt, ni_le, ni_ix, ni_eq, ni_div, ni_rem, ni_and, ni_or, ni_xor, ni_shl, ni_shr, ni_gi, ni_gz, ni_max, ni_min, ni_dc, ni_0a, ni_ml, ni_mle, Nat.reduceAnd, Nat.reduceAdd, Nat.reduceMul, Nat.reduceSub, Nat.reduceDiv, Nat.reduceMod, Nat.reduceXor, Nat.reduceShiftLeft, Nat.reduceShiftRight, sq_bd, sq_jn, sq_cb0, sq_cb1, sq_cb2, sq_cb3, sq_cb4, sq_cb5, e4, (cl_span v hv hv1).2, e2]
    rw [if_neg (by omega)]
