/-! how many modules are free -/
abbrev RC := Nat × Nat × Nat × Nat
def inR (r : RC) (a b : Nat) : Nat := if (r.1 ≤ a ∧ a < r.2.1) ∧ (r.2.2.1 ≤ b ∧ b < r.2.2.2) then 1 else 0
def suR : List RC → Nat → Nat → Nat
  | [], _, _ => 0
  | r :: L, a, b => inR r a b + suR L a b
def arR : List RC → Nat
  | [] => 0
  | r :: L => (r.2.1 - r.1) * (r.2.2.2 - r.2.2.1) + arR L
theorem ns_iv (x0 x1 : Nat) : ∀ s : Nat, ns s (fun a => if x0 ≤ a ∧ a < x1 then 1 else 0) ≤ min s x1 - x0
  | 0 => by show 0 ≤ _; omega
  | s + 1 => by
    have := ns_iv x0 x1 s
    rw [ns_s]
    by_cases q : x0 ≤ s ∧ s < x1
    · rw [if_pos q]; omega
    · rw [if_neg q]; omega
theorem ns_mono {f g : Nat → Nat} : ∀ {n : Nat}, (∀ i : Nat, i < n → f i ≤ g i) → ns n f ≤ ns n g
  | 0, _ => Nat.le_refl _
  | n + 1, h => by
    rw [ns_s, ns_s]
    exact Nat.add_le_add (ns_mono (fun i hi => h i (by omega))) (h n (by omega))
theorem ar_1 (r : RC) (s : Nat) : ns s (fun b => ns s (fun a => inR r a b)) ≤ (r.2.1 - r.1) * (r.2.2.2 - r.2.2.1) := by
  have h1 : ∀ b : Nat, b < s → ns s (fun a => inR r a b) ≤ (r.2.1 - r.1) * (if r.2.2.1 ≤ b ∧ b < r.2.2.2 then 1 else 0) := by
    intro b _
    by_cases q : r.2.2.1 ≤ b ∧ b < r.2.2.2
    · rw [if_pos q, Nat.mul_one]
      have e : ns s (fun a => inR r a b) = ns s (fun a => if r.1 ≤ a ∧ a < r.2.1 then 1 else 0) := ns_cg (fun i _ => by
        show inR r i b = _
        unfold inR
        by_cases z : r.1 ≤ i ∧ i < r.2.1
        · rw [if_pos ⟨z, q⟩, if_pos z]
        · rw [if_neg (fun w => z w.1), if_neg z])
      rw [e]
      have := ns_iv r.1 r.2.1 s
      omega
    · rw [if_neg q, Nat.mul_zero, ns_0 (fun i _ => by show inR r i b = 0; unfold inR; rw [if_neg (fun w => q w.2)])]
      exact Nat.le_refl _
  refine Nat.le_trans (ns_mono h1) ?_
  rw [ns_m]
  exact Nat.mul_le_mul_left _ (by have := ns_iv r.2.2.1 r.2.2.2 s; omega)
theorem ar_L (s : Nat) : ∀ L : List RC, ns s (fun b => ns s (fun a => suR L a b)) ≤ arR L
  | [] => by
    rw [ns_0 (f := fun b => ns s (fun a => suR [] a b)) (fun i _ => ns_0 (f := fun a => suR [] a i) (fun j _ => rfl))]
    exact Nat.le_refl _
  | r :: L => by
    have e : ns s (fun b => ns s (fun a => suR (r :: L) a b)) = ns s (fun b => ns s (fun a => inR r a b)) + ns s (fun b => ns s (fun a => suR L a b)) := by
      rw [← ns_a]
      apply ns_cg
      intro b _
      show ns s (fun a => inR r a b + suR L a b) = _
      rw [ns_a]
    rw [e]
    exact Nat.add_le_add (ar_1 r s) (ar_L s L)
theorem su_in {r : RC} {a b : Nat} (h : inR r a b = 1) : ∀ {L : List RC}, r ∈ L → 1 ≤ suR L a b
  | x :: L, hm => by
    show 1 ≤ inR x a b + suR L a b
    rcases List.mem_cons.mp hm with rfl | hm
    · omega
    · have := su_in h hm
      omega
def blR (v i j : Nat) : List RC := if crn v i j then [] else if i = 0 then [(4, 6, alN v j - 2, alN v j + 3), (7, 9, alN v j - 2, alN v j + 3)] else if j = 0 then [(alN v i - 2, alN v i + 3, 4, 6), (alN v i - 2, alN v i + 3, 7, 9)] else [(alN v i - 2, alN v i + 3, alN v j - 2, alN v j + 3)]
def aR (v : Nat) : List RC := (List.range (v / 7 + 2)).flatMap (fun i => (List.range (v / 7 + 2)).flatMap (fun j => blR v i j))
def R0 (s : Nat) : List RC := [(0, 9, 0, 9), (s - 8, s, 0, 9), (0, 9, s - 8, s), (9, s - 8, 6, 7), (6, 7, 9, s - 8)]
def R1 (s : Nat) : List RC := [(0, 6, s - 11, s - 8), (s - 11, s - 8, 0, 6)]
def RR (v : Nat) : List RC := R0 (sd v) ++ ((if v ≤ 6 then [] else R1 (sd v)) ++ (if v ≤ 1 then [] else aR v))
theorem RR_n : ∀ v : Nat, v < 41 → 1 ≤ v → 8 * acw v + arR (RR v) ≤ sd v * sd v := by decide +kernel
theorem al_b0 : ∀ v : Nat, v < 41 → ∀ j : Nat, j < v / 7 + 2 → decide (v < 2 ∨ (6 ≤ alN v j ∧ alN v j < 1000 ∧ (j = 0 ∨ j = v / 7 + 1 ∨ (11 ≤ alN v j ∧ alN v j + 11 ≤ sd v)))) = true := by decide +kernel
theorem al_b (v : Nat) (hv : v < 41) (h2 : 2 ≤ v) (j : Nat) (hj : j < v / 7 + 2) : 6 ≤ alN v j ∧ alN v j < 1000 ∧ (j ≠ 0 → j ≠ v / 7 + 1 → 11 ≤ alN v j ∧ alN v j + 11 ≤ sd v) := by
  have := of_decide_eq_true (al_b0 v hv j hj)
  omega
theorem dx_e {c r t a : Nat} (hc : c < 1000) (hr : r < 1000) (ht : t < 1000) (ha : a < 1000) (h : ni c + dxs r t = ni a) : a + r = c + t := by
  have h2 : ni (a + r) = ni (c + t) := by
    rw [← ni_add, ← h, ← ni_add]
    unfold dxs
    rw [Int32.add_assoc, Int32.add_comm (-(ni r)), Int32.add_assoc, Int32.add_left_neg, Int32.add_zero]
  rw [ni_eq (by omega) (by omega)] at h2
  exact h2
theorem fx_or {x y : Int32} {d : Bool} {q : Nat → Nat → Nat} {a b : Nat} (h : fxq x y d q a b ≠ 0) : (x = ni a ∧ y = ni b) ∨ q a b ≠ 0 := by
  unfold fxq at h
  by_cases z : x = ni a ∧ y = ni b
  · exact .inl z
  · rw [if_neg z] at h; exact .inr h
theorem rx_or {mx my : Int32} {r u : Nat} {dk : Nat → Nat → Bool} {q : Nat → Nat → Nat} {a b : Nat} : ∀ n : Nat, rgx mx my r dk u n q a b ≠ 0 → (∃ t : Nat, t < n ∧ mx + dxs r t = ni a ∧ my + dxs r u = ni b) ∨ q a b ≠ 0
  | 0, h => .inr h
  | n + 1, h => by
    rcases fx_or h with ⟨h1, h2⟩ | h
    · exact .inl ⟨n, by omega, h1, h2⟩
    · rcases rx_or n h with ⟨t, h1, h2⟩ | h
      · exact .inl ⟨t, by omega, h2⟩
      · exact .inr h
theorem rg_or {mx my : Int32} {r : Nat} {dk : Nat → Nat → Bool} {q : Nat → Nat → Nat} {a b : Nat} : ∀ n : Nat, rgq mx my r dk n q a b ≠ 0 → (∃ t u : Nat, t < 2 * r + 1 ∧ u < n ∧ mx + dxs r t = ni a ∧ my + dxs r u = ni b) ∨ q a b ≠ 0
  | 0, h => .inr h
  | n + 1, h => by
    rcases rx_or _ h with ⟨t, h1, h2⟩ | h
    · exact .inl ⟨t, n, h1, by omega, h2⟩
    · rcases rg_or n h with ⟨t, u, h1, h2, h3⟩ | h
      · exact .inl ⟨t, u, h1, by omega, h3⟩
      · exact .inr h
theorem tm_or {q : Nat → Nat → Nat} {a b : Nat} (ha : a < 1000) (hb : b < 1000) : ∀ n : Nat, n < 1000 → tmq n q a b ≠ 0 → (a = 6 ∨ b = 6) ∨ q a b ≠ 0
  | 0, _, h => .inr h
  | n + 1, hn, h => by
    rcases fx_or h with ⟨h1, h2⟩ | h
    · have h1' : ni 6 = ni a := h1
      rw [ni_eq (by omega) (by omega)] at h1'
      exact .inl (.inl h1'.symm)
    · rcases fx_or h with ⟨h1, h2⟩ | h
      · have h2' : ni 6 = ni b := h2
        rw [ni_eq (by omega) (by omega)] at h2'
        exact .inl (.inr h2'.symm)
      · exact tm_or ha hb n (by omega) h
theorem ax_or {v i : Nat} {q : Nat → Nat → Nat} {a b : Nat} (hv : v < 41) (hv2 : 2 ≤ v) (hi : i < v / 7 + 2) (ha : a < 1000) (hb : b < 1000) : ∀ n : Nat, n ≤ v / 7 + 2 → alx v i n q a b ≠ 0 → (∃ j : Nat, j < n ∧ crn v i j = false ∧ (alN v i ≤ a + 2 ∧ a ≤ alN v i + 2) ∧ (alN v j ≤ b + 2 ∧ b ≤ alN v j + 2)) ∨ q a b ≠ 0
  | 0, _, h => .inr h
  | n + 1, hn, h => by
    have hA : alx v i (n + 1) q a b = (if crn v i n then alx v i n q else rgq (ni (alN v i)) (ni (alN v n)) 2 dka 5 (alx v i n q)) a b := rfl
    rw [hA] at h
    by_cases c : crn v i n = true
    · rw [if_pos c] at h
      rcases ax_or hv hv2 hi ha hb n (by omega) h with ⟨j, h1, h2⟩ | h
      · exact .inl ⟨j, by omega, h2⟩
      · exact .inr h
    · rw [if_neg c] at h
      rcases rg_or 5 h with ⟨t, u, h1, h2, h3, h4⟩ | h
      · obtain ⟨p1, p2, -⟩ := al_b v hv hv2 i hi
        obtain ⟨p3, p4, -⟩ := al_b v hv hv2 n (by omega)
        have e1 := dx_e p2 (by omega) (by omega) ha h3
        have e2 := dx_e p4 (by omega) (by omega) hb h4
        exact .inl ⟨n, by omega, Bool.eq_false_iff.mpr c, by omega, by omega⟩
      · rcases ax_or hv hv2 hi ha hb n (by omega) h with ⟨j, h1, h2⟩ | h
        · exact .inl ⟨j, by omega, h2⟩
        · exact .inr h
theorem aq_or {v : Nat} {q : Nat → Nat → Nat} {a b : Nat} (hv : v < 41) (hv2 : 2 ≤ v) (ha : a < 1000) (hb : b < 1000) : ∀ n : Nat, n ≤ v / 7 + 2 → alq v n q a b ≠ 0 → (∃ i j : Nat, i < n ∧ j < v / 7 + 2 ∧ crn v i j = false ∧ (alN v i ≤ a + 2 ∧ a ≤ alN v i + 2) ∧ (alN v j ≤ b + 2 ∧ b ≤ alN v j + 2)) ∨ q a b ≠ 0
  | 0, _, h => .inr h
  | n + 1, hn, h => by
    rcases ax_or hv hv2 (by omega) ha hb (v / 7 + 2) (Nat.le_refl _) h with ⟨j, h1, h2⟩ | h
    · exact .inl ⟨n, j, by omega, h1, h2⟩
    · rcases aq_or hv hv2 ha hb n (by omega) h with ⟨i, j, h1, h2⟩ | h
      · exact .inl ⟨i, j, by omega, h2⟩
      · exact .inr h
theorem ve_or {s : Nat} {w : Nat → Bool} {q : Nat → Nat → Nat} {a b : Nat} (hs : s < 1000) (ha : a < 1000) (hb : b < 1000) : ∀ n : Nat, n ≤ 18 → veq s w n q a b ≠ 0 → (∃ i : Nat, i < 18 ∧ ((a = i / 3 ∧ b = s - 11 + i % 3) ∨ (a = s - 11 + i % 3 ∧ b = i / 3))) ∨ q a b ≠ 0
  | 0, _, h => .inr h
  | n + 1, hn, h => by
    rcases fx_or h with ⟨h1, h2⟩ | h
    · rw [ni_eq (by omega) (by omega)] at h1 h2
      exact .inl ⟨n, by omega, .inl ⟨h1.symm, h2.symm⟩⟩
    · rcases fx_or h with ⟨h1, h2⟩ | h
      · rw [ni_eq (by omega) (by omega)] at h1 h2
        exact .inl ⟨n, by omega, .inr ⟨h1.symm, h2.symm⟩⟩
      · exact ve_or hs ha hb n (by omega) h
theorem su_R0 {s a b : Nat} {L : List RC} (r : RC) (hr : r ∈ R0 s) (h : (r.1 ≤ a ∧ a < r.2.1) ∧ (r.2.2.1 ≤ b ∧ b < r.2.2.2)) : 1 ≤ suR (R0 s ++ L) a b := su_in (if_pos h) (List.mem_append_left _ hr)
theorem R0_c {s a b : Nat} (hs : 21 ≤ s) (ha : a < s) (hb : b < s) {L : List RC} (h : (a < 9 ∧ b < 9) ∨ (s ≤ a + 8 ∧ b < 9) ∨ (a < 9 ∧ s ≤ b + 8) ∨ a = 6 ∨ b = 6) : 1 ≤ suR (R0 s ++ L) a b := by
  by_cases h1 : a < 9 ∧ b < 9
  · exact su_R0 (0, 9, 0, 9) (by simp [R0]) ⟨⟨Nat.zero_le _, h1.1⟩, Nat.zero_le _, h1.2⟩
  by_cases h2 : s ≤ a + 8 ∧ b < 9
  · exact su_R0 (s - 8, s, 0, 9) (by simp [R0]) ⟨⟨by show s - 8 ≤ a; omega, ha⟩, Nat.zero_le _, h2.2⟩
  by_cases h3 : a < 9 ∧ s ≤ b + 8
  · exact su_R0 (0, 9, s - 8, s) (by simp [R0]) ⟨⟨Nat.zero_le _, h3.1⟩, by show s - 8 ≤ b; omega, hb⟩
  by_cases h4 : b = 6
  · exact su_R0 (9, s - 8, 6, 7) (by simp [R0]) ⟨⟨by show 9 ≤ a; omega, by show a < s - 8; omega⟩, by show 6 ≤ b; omega, by show b < 7; omega⟩
  · exact su_R0 (6, 7, 9, s - 8) (by simp [R0]) ⟨⟨by show 6 ≤ a; omega, by show a < 7; omega⟩, by show 9 ≤ b; omega, by show b < s - 8; omega⟩
theorem FX_R {v a b : Nat} (hv : v < 41) (hv1 : 1 ≤ v) (ha : a < sd v) (hb : b < sd v) (h : FX v a b = true) : 1 ≤ suR (RR v) a b := by
  have hs := sd_le hv
  have hs1 := sd_ge hv1
  have h := of_decide_eq_true h
  unfold qM at h
  have h0 : fxq 8 (ni (sd v) - 8) true (foq (sd v) (fun i => (fwd 0).testBit i) 15 (q3 v)) a b ≠ 0 ∨ 1 ≤ suR (RR v) a b := by
    by_cases c : v ≤ 6
    · rw [if_pos c] at h; exact .inl h
    · rw [if_neg c] at h
      rcases ve_or (by omega) (by omega) (by omega) 18 (Nat.le_refl _) h with ⟨i, hi, z⟩ | h
      · right
        unfold RR
        rw [if_neg c]
        rcases z with ⟨z1, z2⟩ | ⟨z1, z2⟩
        · exact su_in (r := (0, 6, sd v - 11, sd v - 8)) (if_pos ⟨⟨Nat.zero_le _, by show a < 6; omega⟩, by show sd v - 11 ≤ b; omega, by show b < sd v - 8; omega⟩) (List.mem_append_right _ (List.mem_append_left _ (by simp [R1])))
        · exact su_in (r := (sd v - 11, sd v - 8, 0, 6)) (if_pos ⟨⟨by show sd v - 11 ≤ a; omega, by show a < sd v - 8; omega⟩, Nat.zero_le _, by show b < 6; omega⟩) (List.mem_append_right _ (List.mem_append_left _ (by simp [R1])))
      · exact .inl h
  rcases h0 with h0 | h0
  · rcases fx_or h0 with ⟨h1, h2⟩ | h0
    · rw [show (8 : Int32) = ni 8 from rfl] at h1 h2
      rw [ni_sub (by omega), ni_eq (by omega) (by omega)] at h2
      rw [ni_eq (by omega) (by omega)] at h1
      exact R0_c hs1 ha hb (by omega)
    · by_cases f : isF (sd v) a b
      · obtain ⟨i, hi, f⟩ := f
        refine R0_c hs1 ha hb ?_
        unfold fX fY at f
        rcases f with ⟨f1, f2⟩ | ⟨f1, f2⟩
        · simp only [if_neg (show ¬ (0 = 1) by decide)] at f1 f2
          revert f1 f2
          repeat' split
          all_goals omega
        · simp only [if_pos] at f1 f2
          revert f1 f2
          repeat' split
          all_goals omega
      · rw [foq_no hs1 hs ha hb f 15 (Nat.le_refl _)] at h0
        unfold q3 at h0
        have h3 : rgq 3 (ni (sd v) - 4) 4 dkf 9 (rgq (ni (sd v) - 4) 3 4 dkf 9 (rgq 3 3 4 dkf 9 (tmq (sd v) (fun _ _ => 0)))) a b ≠ 0 ∨ 1 ≤ suR (RR v) a b := by
          by_cases c : v ≤ 1
          · rw [if_pos c] at h0; exact .inl h0
          · rw [if_neg c] at h0
            rcases aq_or hv (by omega) (by omega) (by omega) (v / 7 + 2) (Nat.le_refl _) h0 with ⟨i, j, hi, hj, hc, z1, z2⟩ | h
            · right
              obtain ⟨p1, p2, p3⟩ := al_b v hv (by omega) i hi
              obtain ⟨q1, q2, q3⟩ := al_b v hv (by omega) j hj
              have hcr : ¬ ((i = 0 ∧ (j = 0 ∨ j = v / 7 + 1)) ∨ (i = v / 7 + 1 ∧ j = 0)) := of_decide_eq_false hc
              have inA : ∀ r : RC, r ∈ blR v i j → inR r a b = 1 → 1 ≤ suR (RR v) a b := fun r hr hI => by
                unfold RR
                rw [if_neg c]
                refine su_in hI (List.mem_append_right _ (List.mem_append_right _ ?_))
                unfold aR
                exact List.mem_flatMap.mpr ⟨i, List.mem_range.mpr hi, List.mem_flatMap.mpr ⟨j, List.mem_range.mpr hj, hr⟩⟩
              by_cases i0 : i = 0
              · have a0 : alN v i = 6 := by rw [i0]; rfl
                obtain ⟨w1, w2⟩ := q3 (by omega) (by omega)
                by_cases a6 : a = 6
                · exact R0_c hs1 ha hb (by omega)
                · by_cases al : a < 6
                  · exact inA (4, 6, alN v j - 2, alN v j + 3) (by unfold blR; rw [hc, i0]; simp) (if_pos ⟨⟨by show 4 ≤ a; omega, al⟩, by show alN v j - 2 ≤ b; omega, by show b < alN v j + 3; omega⟩)
                  · exact inA (7, 9, alN v j - 2, alN v j + 3) (by unfold blR; rw [hc, i0]; simp) (if_pos ⟨⟨by show 7 ≤ a; omega, by show a < 9; omega⟩, by show alN v j - 2 ≤ b; omega, by show b < alN v j + 3; omega⟩)
              · by_cases j0 : j = 0
                · have a0 : alN v j = 6 := by rw [j0]; rfl
                  obtain ⟨w1, w2⟩ := p3 i0 (by omega)
                  by_cases b6 : b = 6
                  · exact R0_c hs1 ha hb (by omega)
                  · by_cases bl : b < 6
                    · exact inA (alN v i - 2, alN v i + 3, 4, 6) (by unfold blR; rw [hc, j0]; simp [i0]) (if_pos ⟨⟨by show alN v i - 2 ≤ a; omega, by show a < alN v i + 3; omega⟩, by show 4 ≤ b; omega, bl⟩)
                    · exact inA (alN v i - 2, alN v i + 3, 7, 9) (by unfold blR; rw [hc, j0]; simp [i0]) (if_pos ⟨⟨by show alN v i - 2 ≤ a; omega, by show a < alN v i + 3; omega⟩, by show 7 ≤ b; omega, by show b < 9; omega⟩)
                · exact inA (alN v i - 2, alN v i + 3, alN v j - 2, alN v j + 3) (by unfold blR; rw [hc]; simp [i0, j0]) (if_pos ⟨⟨by show alN v i - 2 ≤ a; omega, by show a < alN v i + 3; omega⟩, by show alN v j - 2 ≤ b; omega, by show b < alN v j + 3; omega⟩)
            · exact .inl h
        rcases h3 with h3 | h3
        · have e4 : ni (sd v) - 4 = ni (sd v - 4) := by rw [show (4 : Int32) = ni 4 from rfl, ni_sub (by omega)]
          rw [e4] at h3
          rcases rg_or 9 h3 with ⟨t, u, k1, k2, k3, k4⟩ | h3
          · have e1 := dx_e (c := 3) (by omega) (by omega) (by omega) (by omega) k3
            have e2 := dx_e (by omega) (by omega) (by omega) (by omega) k4
            exact R0_c hs1 ha hb (by omega)
          · rcases rg_or 9 h3 with ⟨t, u, k1, k2, k3, k4⟩ | h3
            · have e1 := dx_e (by omega) (by omega) (by omega) (by omega) k3
              have e2 := dx_e (c := 3) (by omega) (by omega) (by omega) (by omega) k4
              exact R0_c hs1 ha hb (by omega)
            · rcases rg_or 9 h3 with ⟨t, u, k1, k2, k3, k4⟩ | h3
              · have e1 := dx_e (c := 3) (by omega) (by omega) (by omega) (by omega) k3
                have e2 := dx_e (c := 3) (by omega) (by omega) (by omega) (by omega) k4
                exact R0_c hs1 ha hb (by omega)
              · rcases tm_or (by omega) (by omega) (sd v) (by omega) h3 with h3 | h3
                · exact R0_c hs1 ha hb (by omega)
                · exact absurd rfl h3
        · exact h3
  · exact h0
/-! the order goes through every column but 6 -/
theorem ns_blk (f : Nat → Nat) (k : Nat) : ∀ n : Nat, ns (k * n) f = ns n (fun p => ns k (fun t => f (k * p + t)))
  | 0 => rfl
  | n + 1 => by rw [Nat.mul_succ, ns_p, ns_blk f k n, ns_s]
theorem ns_2 (f : Nat → Nat) : ∀ n : Nat, ns (2 * n) f = ns n (fun r => f (2 * r) + f (2 * r + 1))
  | 0 => rfl
  | n + 1 => by rw [show 2 * (n + 1) = 2 * n + 1 + 1 by omega, ns_s, ns_s, ns_s, ns_2 f n]; omega
theorem ns_rev (f : Nat → Nat) : ∀ n : Nat, ns n (fun r => f (n - 1 - r)) = ns n f
  | 0 => rfl
  | n + 1 => by
    have h : ns (n + 1) (fun r => f (n + 1 - 1 - r)) = f n + ns n (fun r => f (n - 1 - r)) := by
      rw [Nat.add_comm n 1, ns_p]
      show 0 + f (1 + n - 1 - 0) + _ = _
      rw [show 1 + n - 1 - 0 = n by omega, Nat.zero_add]
      congr 1
      apply ns_cg
      intro i hi
      show f _ = f _
      congr 1
      omega
    rw [h, ns_rev f n, ns_s]
    omega
def zF (c : Nat → Nat) (q : Nat) : Nat := if 4 ≤ q then c (2 * q) + c (2 * q - 1) else c (2 * q - 1) + c (2 * q - 2)
theorem zF_s (c : Nat → Nat) (h6 : c 6 = 0) : ∀ e : Nat, ns (3 + e) (fun i => zF c (i + 1)) = ns (2 * (3 + e) + 1) c
  | 0 => by
    show 0 + (c 1 + c 0) + (c 3 + c 2) + (c 5 + c 4) = 0 + c 0 + c 1 + c 2 + c 3 + c 4 + c 5 + c 6
    omega
  | e + 1 => by
    rw [show 3 + (e + 1) = 3 + e + 1 by omega, ns_s, zF_s c h6 e, show 2 * (3 + e + 1) + 1 = 2 * (3 + e) + 1 + 1 + 1 by omega, ns_s (2 * (3 + e) + 1 + 1), ns_s (2 * (3 + e) + 1)]
    unfold zF
    rw [if_pos (by omega), show 2 * (3 + e + 1) = 2 * (3 + e) + 1 + 1 by omega, show 2 * (3 + e) + 1 + 1 - 1 = 2 * (3 + e) + 1 by omega]
    omega
theorem z_sum {s h : Nat} {f : Nat → Nat → Bool} (hs : s = 2 * h + 1) (hh : 3 ≤ h) (h6 : ∀ b : Nat, b < s → f 6 b = true) : sc (zE s f) (zN s) = ns s (fun a => ns s (fun b => if f a b then 0 else 1)) := by
  rw [sc_ns (fun i => by rcases zE_01 s f i with h | h <;> omega), zN_e hs, ns_blk]
  have e1 : ∀ p : Nat, p < h → ns (2 * s) (fun t => zE s f (2 * s * p + t)) = zF (fun a => ns s (fun b => if f a b then 0 else 1)) (h - p) := by
    intro p hp
    rw [ns_2]
    have e2 : ∀ r : Nat, r < s → zE s f (2 * s * p + 2 * r) + zE s f (2 * s * p + (2 * r + 1)) = (if f (zR s p) (if p % 2 = 0 then s - 1 - r else r) then 0 else 1) + (if f (zR s p - 1) (if p % 2 = 0 then s - 1 - r else r) then 0 else 1) := by
      intro r hr
      obtain ⟨a1, a2⟩ := z_pt (s := s) (p := p) (t := 2 * r) (by omega)
      obtain ⟨a3, a4⟩ := z_pt (s := s) (p := p) (t := 2 * r + 1) (by omega)
      unfold zE zx zy
      rw [a1, a2, a3, a4, show 2 * r % 2 = 0 by omega, show (2 * r + 1) % 2 = 1 by omega, show 2 * r / 2 = r by omega, show (2 * r + 1) / 2 = r by omega, Nat.sub_zero]
    rw [ns_cg (g := fun r => (if f (zR s p) (if p % 2 = 0 then s - 1 - r else r) then 0 else 1) + (if f (zR s p - 1) (if p % 2 = 0 then s - 1 - r else r) then 0 else 1)) e2, ns_a]
    have e3 : ∀ a : Nat, ns s (fun r => if f a (if p % 2 = 0 then s - 1 - r else r) then 0 else 1) = ns s (fun b => if f a b then 0 else 1) := by
      intro a
      by_cases q : p % 2 = 0
      · simp only [if_pos q]
        exact ns_rev (fun b => if f a b then 0 else 1) s
      · simp only [if_neg q]
    rw [e3, e3]
    unfold zF zR
    by_cases q : 6 < s - 1 - 2 * p
    · rw [if_pos q, if_pos (by omega), show s - 1 - 2 * p = 2 * (h - p) by omega]
    · rw [if_neg q, if_neg (by omega), show s - 1 - 2 * p - 1 = 2 * (h - p) - 1 by omega, show 2 * (h - p) - 1 - 1 = 2 * (h - p) - 2 by omega]
  rw [ns_cg (g := fun p => zF (fun a => ns s (fun b => if f a b then 0 else 1)) (h - p)) e1]
  have e4 := ns_rev (fun i => zF (fun a => ns s (fun b => if f a b then 0 else 1)) (i + 1)) h
  have e5 : ns h (fun p => zF (fun a => ns s (fun b => if f a b then 0 else 1)) (h - p)) = ns h (fun r => zF (fun a => ns s (fun b => if f a b then 0 else 1)) (h - 1 - r + 1)) := ns_cg (fun i hi => by
    show zF _ _ = zF _ _
    rw [show h - 1 - i + 1 = h - i by omega])
  rw [e5, e4]
  have e6 := zF_s (fun a => ns s (fun b => if f a b then 0 else 1)) (ns_0 (fun b hb => by show (if f 6 b then 0 else 1) = 0; rw [h6 b hb]; rfl)) (h - 3)
  rw [show 3 + (h - 3) = h by omega, ← hs] at e6
  exact e6
theorem ns_c (c : Nat) : ∀ n : Nat, ns n (fun _ => c) = c * n
  | 0 => rfl
  | n + 1 => by rw [ns_s, ns_c c n, Nat.mul_succ]
theorem free_n {v : Nat} (hv : v < 41) (hv1 : 1 ≤ v) : 8 * acw v ≤ sc (zE (sd v) (FX v)) (zN (sd v)) := by
  rw [z_sum (sd_h (v := v)) (by omega) (fun b hb => FX_6 hv hv1 (by unfold sd; omega) hb rfl)]
  have h1 := RR_n v hv hv1
  have h2 := ar_L (sd v) (RR v)
  have h3 : ns (sd v) (fun b => ns (sd v) (fun a => b2 (FX v a b))) ≤ ns (sd v) (fun b => ns (sd v) (fun a => suR (RR v) a b)) := ns_mono (fun b hb => ns_mono (fun a ha => by
    show b2 (FX v a b) ≤ suR (RR v) a b
    cases h : FX v a b
    · exact Nat.zero_le _
    · exact FX_R hv hv1 ha hb h))
  have h4 : ns (sd v) (fun a => ns (sd v) (fun b => if FX v a b then 0 else 1)) + ns (sd v) (fun b => ns (sd v) (fun a => b2 (FX v a b))) = sd v * sd v := by
    rw [ns_sw (fun b a => b2 (FX v a b)), ← ns_a]
    have : ns (sd v) (fun a => ns (sd v) (fun b => if FX v a b then 0 else 1) + ns (sd v) (fun b => b2 (FX v a b))) = ns (sd v) (fun _ => sd v) := ns_cg (fun a _ => by
      show ns (sd v) (fun b => if FX v a b then 0 else 1) + ns (sd v) (fun b => b2 (FX v a b)) = sd v
      rw [← ns_a]
      have : ns (sd v) (fun b => (if FX v a b then 0 else 1) + b2 (FX v a b)) = ns (sd v) (fun _ => 1) := ns_cg (fun b _ => by
        show (if FX v a b then 0 else 1) + b2 (FX v a b) = 1
        cases FX v a b <;> rfl)
      rw [this, ns_c, Nat.one_mul])
    rw [this, ns_c]
  omega
