/-! own rows: wrong places of a block -/
def sc (E : Nat → Nat) : Nat → Nat
  | 0 => 0
  | n + 1 => sc E n + (if E n = 0 then 0 else 1)
theorem sc_s (E : Nat → Nat) (n : Nat) : sc E (n + 1) = sc E n + (if E n = 0 then 0 else 1) := rfl
def pl (E : Nat → Nat) : Nat → Nat → Nat
  | 0 => fun _ => 0
  | n + 1 => fun i => if i = sc E n then n else pl E n i
theorem pl_s (E : Nat → Nat) (n i : Nat) : pl E (n + 1) i = if i = sc E n then n else pl E n i := rfl
theorem pl_ok (E : Nat → Nat) : ∀ (n i : Nat), i < sc E n → pl E n i < n ∧ E (pl E n i) ≠ 0
  | 0, i, h => absurd h (by show ¬ i < 0; omega)
  | n + 1, i, h => by
    rw [sc_s] at h
    rw [pl_s]
    by_cases q : i = sc E n
    · rw [if_pos q]
      refine ⟨by omega, fun z => ?_⟩
      rw [if_pos z] at h; omega
    · rw [if_neg q]
      have hi : i < sc E n := by split at h <;> omega
      obtain ⟨h1, h2⟩ := pl_ok E n i hi
      exact ⟨by omega, h2⟩
theorem pl_inj (E : Nat → Nat) : ∀ n : Nat, dj (pl E n) (sc E n)
  | 0 => fun i hi => absurd hi (by show ¬ i < 0; omega)
  | n + 1 => by
    intro i hi j hj h
    rw [pl_s, pl_s] at h
    by_cases q1 : i = sc E n
    · by_cases q2 : j = sc E n
      · omega
      · rw [if_pos q1, if_neg q2] at h
        have hj' : j < sc E n := by rw [sc_s] at hj; split at hj <;> omega
        have := (pl_ok E n j hj').1
        omega
    · have hi' : i < sc E n := by rw [sc_s] at hi; split at hi <;> omega
      by_cases q2 : j = sc E n
      · rw [if_neg q1, if_pos q2] at h
        have := (pl_ok E n i hi').1
        omega
      · have hj' : j < sc E n := by rw [sc_s] at hj; split at hj <;> omega
        rw [if_neg q1, if_neg q2] at h
        exact pl_inj E n i hi' j hj' h
theorem pl_all (E : Nat → Nat) : ∀ (n j : Nat), j < n → E j ≠ 0 → ∃ i : Nat, i < sc E n ∧ pl E n i = j
  | n + 1, j, hj, h => by
    by_cases q : j = n
    · subst q
      exact ⟨sc E j, by rw [sc_s, if_neg h]; omega, by rw [pl_s, if_pos rfl]⟩
    · obtain ⟨i, h1, h2⟩ := pl_all E n j (by omega) h
      exact ⟨i, by rw [sc_s]; omega, by rw [pl_s, if_neg (by omega), h2]⟩
theorem sc_xs (E g : Nat → Nat) : ∀ n : Nat, xs n (fun j => gm (E j) (g j)) = xs (sc E n) (fun i => gm (E (pl E n i)) (g (pl E n i)))
  | 0 => rfl
  | n + 1 => by
    rw [xs_s, sc_xs E g n, sc_s]
    by_cases q : E n = 0
    · rw [if_pos q, q, gm_0l, x_0, Nat.add_zero]
      exact xs_cg (fun i hi => by rw [pl_s, if_neg (by omega)])
    · rw [if_neg q, xs_s, pl_s, if_pos rfl]
      congr 1
      exact xs_cg (fun i hi => by rw [pl_s, if_neg (by omega)])
theorem sc_cg {E D : Nat → Nat} : ∀ {n : Nat}, (∀ j : Nat, j < n → E j = D j) → sc E n = sc D n
  | 0, _ => rfl
  | n + 1, h => by rw [sc_s, sc_s, sc_cg (fun j hj => h j (by omega)), h n (by omega)]
theorem sc_z {E : Nat → Nat} {n : Nat} (h : sc E n = 0) : ∀ j : Nat, j < n → E j = 0 := by
  intro j hj
  by_cases q : E j = 0
  · exact q
  · obtain ⟨i, h1, _⟩ := pl_all E n j hj q
    omega
theorem sc_z2 {E : Nat → Nat} : ∀ {n : Nat}, (∀ j : Nat, j < n → E j = 0) → sc E n = 0
  | 0, _ => rfl
  | n + 1, h => by rw [sc_s, sc_z2 (fun j hj => h j (by omega)), h n (by omega)]; rfl
theorem sc_le (E : Nat → Nat) : ∀ n : Nat, sc E n ≤ n
  | 0 => by show 0 ≤ 0; omega
  | n + 1 => by have := sc_le E n; rw [sc_s]; split <;> omega
theorem sc_x (E D : Nat → Nat) : ∀ n : Nat, sc (fun j => E j ^^^ D j) n ≤ sc E n + sc D n
  | 0 => by show 0 ≤ 0 + 0; omega
  | n + 1 => by
    have := sc_x E D n
    rw [sc_s, sc_s, sc_s]
    by_cases q1 : E n = 0
    · by_cases q2 : D n = 0
      · rw [if_pos q1, if_pos q2, q1, q2, x_0, if_pos rfl]; omega
      · rw [if_pos q1, if_neg q2]; split <;> omega
    · rw [if_neg q1]; split <;> split <;> omega
theorem sc_mono {E D : Nat → Nat} : ∀ {n : Nat}, (∀ j : Nat, j < n → E j ≠ 0 → D j ≠ 0) → sc E n ≤ sc D n
  | 0, _ => by show 0 ≤ 0; omega
  | n + 1, h => by
    have := sc_mono (n := n) (fun j hj => h j (by omega))
    rw [sc_s, sc_s]
    by_cases q : E n = 0
    · rw [if_pos q]; omega
    · rw [if_neg q, if_neg (h n (by omega) q)]; omega
/-- values at places -/
def st1 (p v : Nat) : Nat → Nat := fun j => if p = j then v else 0
def sa (P f : Nat → Nat) : Nat → Nat → Nat
  | 0 => fun _ => 0
  | n + 1 => fun j => sa P f n j ^^^ st1 (P n) (f n) j
theorem sa_s (P f : Nat → Nat) (n j : Nat) : sa P f (n + 1) j = sa P f n j ^^^ (if P n = j then f n else 0) := rfl
theorem st1_lt {p v : Nat} (h : v < 256) (j : Nat) : st1 p v j < 256 := by unfold st1; split <;> omega
theorem sa_lt {P f : Nat → Nat} : ∀ {n : Nat}, (∀ i : Nat, i < n → f i < 256) → ∀ j : Nat, sa P f n j < 256
  | 0, _, j => by show 0 < 256; omega
  | n + 1, h, j => x_lt (sa_lt (fun i hi => h i (by omega)) j) (st1_lt (h n (by omega)) j)
theorem sa_out {P f : Nat → Nat} : ∀ {n j : Nat}, (∀ i : Nat, i < n → P i ≠ j) → sa P f n j = 0
  | 0, _, _ => rfl
  | n + 1, j, h => by rw [sa_s, sa_out (fun i hi => h i (by omega)), if_neg (h n (by omega)), x_0]
theorem sa_at {P f : Nat → Nat} : ∀ {n i : Nat}, dj P n → i < n → sa P f n (P i) = f i
  | n + 1, i, hd, hi => by
    rw [sa_s]
    by_cases q : i = n
    · rw [if_pos (by rw [q]), q, sa_out (fun k hk h => absurd (hd k (by omega) n (by omega) h) (by omega)), x_0l]
    · rw [if_neg (fun h => q (hd n (by omega) i (by omega) h).symm), sa_at (dj_le hd (by omega)) (by omega), x_0]
theorem sc_st (g : Nat → Nat) {p v : Nat} (hg : g p = 0) (hv : v ≠ 0) : ∀ n : Nat, sc (fun j => g j ^^^ st1 p v j) n = sc g n + (if p < n then 1 else 0)
  | 0 => rfl
  | n + 1 => by
    rw [sc_s, sc_s, sc_st g hg hv n]
    unfold st1
    by_cases q : p = n
    · subst q
      rw [if_pos rfl, hg, x_0l, if_neg hv, if_neg (by omega), if_pos rfl, if_pos (by omega)]
    · rw [if_neg q, x_0]
      by_cases r : p < n
      · have e : (if p < n + 1 then 1 else 0 : Nat) = 1 := if_pos (by omega)
        rw [if_pos r, e]; omega
      · have e : (if p < n + 1 then 1 else 0 : Nat) = 0 := if_neg (by omega)
        rw [if_neg r, e]; omega
theorem sa_sc {P f : Nat → Nat} {s : Nat} : ∀ {n : Nat}, dj P n → (∀ i : Nat, i < n → P i < s ∧ f i ≠ 0) → sc (sa P f n) s = n
  | 0, _, _ => sc_z2 (fun _ _ => rfl)
  | n + 1, hd, h => by
    have e : sc (sa P f (n + 1)) s = sc (fun j => sa P f n j ^^^ st1 (P n) (f n) j) s := rfl
    rw [e, sc_st _ (sa_out (fun k hk q => absurd (hd k (by omega) n (by omega) q) (by omega))) (h n (by omega)).2, if_pos (h n (by omega)).1, sa_sc (dj_le hd (by omega)) (fun i hi => h i (by omega))]
theorem hn_0 (x : Nat) : ∀ n : Nat, hn (fun _ => 0) x n = 0
  | 0 => rfl
  | n + 1 => by rw [hn_s, hn_0 x n, gm_0l, x_0]
theorem sa_hn {P f : Nat → Nat} {s : Nat} (x : Nat) : ∀ {n : Nat}, (∀ i : Nat, i < n → P i < s ∧ f i < 256) → hn (sa P f n) x s = xs n (fun i => gm (f i) (gq x (s - 1 - P i)))
  | 0, _ => hn_0 x s
  | n + 1, h => by
    have e : hn (sa P f (n + 1)) x s = hn (fun j => sa P f n j ^^^ st1 (P n) (f n) j) x s := rfl
    rw [e, hn_x, sa_hn x (fun i hi => h i (by omega)), xs_s]
    congr 1
    rw [hn_xs x (fun i _ => st1_lt (h n (by omega)).2 i), xs_one (h n (by omega)).1 (fun i hi hne => by unfold st1; rw [if_neg (fun q => hne q.symm), gm_0l])]
    unfold st1
    rw [if_pos rfl]
/-! the values of a block at the powers -/
def sy (w : Nat → Nat) (s k : Nat) : Nat := hn w (pw k) s
theorem gq_pc (i k : Nat) : gq (pw k) i = gq (pw i) k := by rw [gq_pw, gq_pw, Nat.mul_comm]
theorem sa_sy {P f : Nat → Nat} {s n : Nat} (h : ∀ i : Nat, i < n → P i < s ∧ f i < 256) (k : Nat) : sy (sa P f n) s k = sp n f (fun i => pw (s - 1 - P i)) k := by
  unfold sy sp
  rw [sa_hn _ h]
  exact xs_cg (fun i hi => by rw [gq_pc])
theorem sy_sp {E : Nat → Nat} {s : Nat} (hE : ∀ j : Nat, j < s → E j < 256) (k : Nat) : sy E s k = sp (sc E s) (fun i => E (pl E s i)) (fun i => pw (s - 1 - pl E s i)) k := by
  unfold sy sp
  rw [hn_xs _ hE, sc_xs E (fun j => gq (pw k) (s - 1 - j)) s]
  exact xs_cg (fun i hi => by rw [gq_pc])
theorem px_dj {P : Nat → Nat} {s n : Nat} (hs : s ≤ 255) (hd : dj P n) (hP : ∀ i : Nat, i < n → P i < s) : dj (fun i => pw (s - 1 - P i)) n := by
  intro i hi j hj h
  have h1 := hP i hi
  have h2 := hP j hj
  have := pw_inj (by omega) (by omega) h
  exact hd i hi j hj (by omega)
def ER (s c : Nat) (w : Nat → Nat) (t : Nat) (E : Nat → Nat) : Prop := (∀ j : Nat, j < s → E j < 256) ∧ sc E s = t ∧ ∀ k : Nat, k < c → sy w s k = sy E s k
theorem ER_1 {s c t t' : Nat} {w E E' : Nat → Nat} (hs : s ≤ 255) (h : ER s c w t E) (h' : ER s c w t' E') (hc : t + t' ≤ c) : t = t' ∧ ∀ j : Nat, j < s → E j = E' j := by
  obtain ⟨a1, a2, a3⟩ := h
  obtain ⟨b1, b2, b3⟩ := h'
  have hl : ∀ j : Nat, j < s → (fun j => E j ^^^ E' j) j < 256 := fun j hj => x_lt (a1 j hj) (b1 j hj)
  have hsc := sc_x E E' s
  have h0 : sc (fun j => E j ^^^ E' j) s = 0 := by
    by_cases q : sc (fun j => E j ^^^ E' j) s = 0
    · exact q
    · exfalso
      have z := vd_inj (sc (fun j => E j ^^^ E' j) s) (fun i => (fun j => E j ^^^ E' j) (pl (fun j => E j ^^^ E' j) s i)) (fun i => pw (s - 1 - pl (fun j => E j ^^^ E' j) s i)) (fun i hi => hl _ (pl_ok _ s i hi).1) (fun i _ => pw_lt _) (px_dj hs (pl_inj _ s) (fun i hi => (pl_ok _ s i hi).1)) (fun r hr => by
        have e := sy_sp (E := fun j => E j ^^^ E' j) hl r
        unfold sp at e
        rw [← e]
        unfold sy
        rw [hn_x]
        have hr2 : r < c := by omega
        have q1 := a3 r hr2
        have q2 := b3 r hr2
        unfold sy at q1 q2
        rw [← q1, q2, x_s]) 0 (Nat.pos_of_ne_zero q)
      exact (pl_ok _ s 0 (Nat.pos_of_ne_zero q)).2 z
  have hz := sc_z h0
  have he : ∀ j : Nat, j < s → E j = E' j := fun j hj => x_eq (hz j hj)
  exact ⟨by rw [← a2, ← b2, sc_cg he], he⟩
/-- the run of a wrong block: its shortest recurrence has the wrong places as roots -/
theorem ER_bm {s c t L : Nat} {w E C : Nat → Nat} (hs : s ≤ 255) (h : ER s c w t E) (hc : 2 * t ≤ c) (hC : rc C L) (hg : gn C (sy w s) L c) (hm : mn (sy w s) L c) : L = t ∧ ∀ j : Nat, j < s → (hn C (pw (s - 1 - j)) (t + 1) = 0 ↔ E j ≠ 0) ∧ (E j ≠ 0 → gm (pw (s - 1 - j)) (hn (cv C (sy w s)) (pw (s - 1 - j)) t) = gm (E j) (hn (od C) (pw (s - 1 - j)) (t + 1)) ∧ hn (od C) (pw (s - 1 - j)) (t + 1) ≠ 0) := by
  obtain ⟨a1, a2, a3⟩ := h
  have hS : ∀ k : Nat, k < c → sy w s k = sp t (fun i => E (pl E s i)) (fun i => pw (s - 1 - pl E s i)) k := fun k hk => by
    rw [a3 k hk, sy_sp a1, a2]
  have hd : dj (fun i => pw (s - 1 - pl E s i)) t := px_dj hs (by rw [← a2]; exact pl_inj E s) (fun i hi => (pl_ok E s i (by omega)).1)
  obtain ⟨hL, hr⟩ := sp_loc hC hg hm hS (fun i => pw_lt _) (fun i hi => ⟨a1 _ (pl_ok E s i (by omega)).1, (pl_ok E s i (by omega)).2⟩) hd hc
  subst hL
  refine ⟨rfl, fun j hj => ⟨⟨fun h0 => ?_, fun h0 => ?_⟩, fun h0 => ?_⟩⟩
  · obtain ⟨i, hi, hx⟩ := loc_only hC (fun i => pw_lt _) hd hr (pw_lt _) h0
    have h1 := (pl_ok E s i (by omega))
    have := pw_inj (by omega) (by omega) hx
    rw [show j = pl E s i by omega]; exact h1.2
  · obtain ⟨i, hi, hx⟩ := pl_all E s j hj h0
    have := hr i (by omega)
    rw [hx] at this; exact this
  · obtain ⟨i, hi, hx⟩ := pl_all E s j hj h0
    have := forney hC hS (fun i => pw_lt _) (fun i _ => pw_ne _) hd hr (by omega) (p := i) (by omega)
    rw [hx] at this; exact this
/-- a recurrence whose roots are as many places: the block is wrong at some of them -/
theorem bm_ER {s c L : Nat} {w C : Nat → Nat} (hs : s ≤ 255) (hw : ∀ j : Nat, j < s → w j < 256) (hC : rc C L) (hg : gn C (sy w s) L c) (hr : sc (fun j => if hn C (pw (s - 1 - j)) (L + 1) = 0 then 1 else 0) s = L) : ∃ t E, t ≤ L ∧ ER s c w t E := by
  generalize hR : (fun j => if hn C (pw (s - 1 - j)) (L + 1) = 0 then 1 else 0 : Nat → Nat) = R at hr
  have hp : ∀ i : Nat, i < L → pl R s i < s ∧ hn C (pw (s - 1 - pl R s i)) (L + 1) = 0 := by
    intro i hi
    obtain ⟨h1, h2⟩ := pl_ok R s i (by omega)
    refine ⟨h1, ?_⟩
    rw [← hR] at h2
    by_cases q : hn C (pw (s - 1 - pl R s i)) (L + 1) = 0
    · exact q
    · simp only [← hR] at q
      exact absurd (if_neg q) h2
  have hinj : dj (pl R s) L := by rw [← hr]; exact pl_inj R s
  have hd : dj (fun i => pw (s - 1 - pl R s i)) L := px_dj hs hinj (fun i hi => (hp i hi).1)
  obtain ⟨f, hf, hfs⟩ := vd_sur L (sy w s) (fun i => pw (s - 1 - pl R s i)) (fun i _ => hn_lt _ hw) (fun i _ => pw_lt _) hd
  have hS : ∀ k : Nat, k < c → sy w s k = sp L f (fun i => pw (s - 1 - pl R s i)) k := by
    intro k
    induction k using Nat.strongRecOn with
    | ind k ih =>
      intro hk
      by_cases q : k < L
      · exact (hfs k q).symm
      · have e1 := hg k (by omega) hk
        have e2 : cv C (sp L f (fun i => pw (s - 1 - pl R s i))) k = 0 := by
          rw [show k = L + (k - L) by omega, cv_sp (c := c) hC (fun _ _ => rfl) _ (by omega)]
          exact xs_0 (fun i hi => by rw [(hp i hi).2, gm_0r, gm_0l])
        unfold cv at e1 e2
        rw [xs_l, hC.1, Nat.sub_zero] at e1 e2
        rw [gm_i1 (show sy w s k < 256 from hn_lt _ hw)] at e1
        rw [gm_i1 (sp_lt _ _ _ _)] at e2
        rw [x_eq e1, x_eq e2]
        exact xs_cg (fun i hi => by rw [ih (k - (i + 1)) (by omega) (by omega)])
  refine ⟨sc (sa (pl R s) f L) s, sa (pl R s) f L, ?_, fun j _ => sa_lt (fun i _ => hf i) j, rfl, fun k hk => ?_⟩
  · have : sc (sa (pl R s) f L) s ≤ sc R s := sc_mono (fun j hj h0 => by
      by_cases q : ∃ i : Nat, i < L ∧ pl R s i = j
      · obtain ⟨i, hi, hx⟩ := q
        rw [← hx]; exact (pl_ok R s i (by omega)).2
      · exact absurd (sa_out (fun i hi hx => q ⟨i, hi, hx⟩)) h0)
    omega
  · rw [hS k hk, sa_sy (fun i hi => ⟨(hp i hi).1, hf i⟩)]
