/-! own rows: the field of 256 elements, on natural numbers -/
def gx (a : Nat) : Nat := if a < 128 then 2 * a else (2 * a) ^^^ 285
theorem gx_lt : ∀ a : Nat, a < 256 → gx a < 256 := by decide +kernel
theorem gx_tb : ∀ a : Nat, a < 256 → gx a = (a <<< 1) ^^^ (if a.testBit 7 then 285 else 0) := by decide +kernel
theorem x_4 (u v p q : Nat) : (u ^^^ v) ^^^ (p ^^^ q) = (u ^^^ p) ^^^ (v ^^^ q) := by
  rw [Nat.xor_assoc, Nat.xor_assoc, ← Nat.xor_assoc v p q, Nat.xor_comm v p, Nat.xor_assoc p v q]
theorem x_lt {a b : Nat} (ha : a < 256) (hb : b < 256) : a ^^^ b < 256 := Nat.xor_lt_two_pow (n := 8) ha hb
theorem gx_xor (a : Nat) (ha : a < 256) (b : Nat) (hb : b < 256) : gx (a ^^^ b) = gx a ^^^ gx b := by
  rw [gx_tb _ (x_lt ha hb), gx_tb _ ha, gx_tb _ hb, x_4, Nat.testBit_xor, Nat.shiftLeft_xor_distrib]
  cases a.testBit 7 <;> cases b.testBit 7 <;> simp
def gp : Nat → Nat → Nat
  | 0, a => a
  | k + 1, a => gx (gp k a)
theorem gp_lt {a : Nat} (h : a < 256) : ∀ k : Nat, gp k a < 256
  | 0 => h
  | k + 1 => gx_lt _ (gp_lt h k)
theorem gp_xor {a b : Nat} (ha : a < 256) (hb : b < 256) : ∀ k : Nat, gp k (a ^^^ b) = gp k a ^^^ gp k b
  | 0 => rfl
  | k + 1 => by
    show gx (gp k (a ^^^ b)) = gx (gp k a) ^^^ gx (gp k b)
    rw [gp_xor ha hb k, gx_xor _ (gp_lt ha k) _ (gp_lt hb k)]
theorem gp_add (a i : Nat) : ∀ j : Nat, gp (j + i) a = gp j (gp i a)
  | 0 => by rw [Nat.zero_add]; rfl
  | j + 1 => by
    rw [show j + 1 + i = (j + i) + 1 by omega]
    show gx (gp (j + i) a) = gx (gp j (gp i a))
    rw [gp_add a i j]
theorem gp_gx (a k : Nat) : gp k (gx a) = gx (gp k a) := by
  have := gp_add a 1 k
  rw [show k + 1 = 1 + k by omega, gp_add a k 1] at this
  exact this.symm
def gmb (a b : Nat) : Nat → Nat
  | 0 => 0
  | k + 1 => gmb a b k ^^^ (if b.testBit k then gp k a else 0)
def gm (a b : Nat) : Nat := gmb (a % 256) b 8
theorem x_0 (a : Nat) : a ^^^ 0 = a := Nat.xor_zero a
theorem x_0l (a : Nat) : 0 ^^^ a = a := Nat.zero_xor a
theorem x_s (a : Nat) : a ^^^ a = 0 := Nat.xor_self a
theorem gmb_lt {a : Nat} (h : a < 256) (b : Nat) : ∀ k : Nat, gmb a b k < 256
  | 0 => by show 0 < 256; omega
  | k + 1 => x_lt (gmb_lt h b k) (by split; exact gp_lt h k; omega)
theorem gm_lt (a b : Nat) : gm a b < 256 := gmb_lt (Nat.mod_lt _ (by omega)) b 8
theorem gmb_xr (a b c : Nat) : ∀ k : Nat, gmb a (b ^^^ c) k = gmb a b k ^^^ gmb a c k
  | 0 => (x_0 0).symm
  | k + 1 => by
    show gmb a (b ^^^ c) k ^^^ _ = (gmb a b k ^^^ _) ^^^ (gmb a c k ^^^ _)
    rw [gmb_xr a b c k, x_4, Nat.testBit_xor]
    cases b.testBit k <;> cases c.testBit k <;> simp
theorem gm_xr (a b c : Nat) : gm a (b ^^^ c) = gm a b ^^^ gm a c := gmb_xr _ _ _ _
theorem gmb_xl {a b : Nat} (ha : a < 256) (hb : b < 256) (c : Nat) : ∀ k : Nat, gmb (a ^^^ b) c k = gmb a c k ^^^ gmb b c k
  | 0 => (x_0 0).symm
  | k + 1 => by
    show gmb (a ^^^ b) c k ^^^ _ = (gmb a c k ^^^ _) ^^^ (gmb b c k ^^^ _)
    rw [gmb_xl ha hb c k, x_4, gp_xor ha hb]
    cases c.testBit k <;> simp
theorem x_mod (a b : Nat) : (a ^^^ b) % 256 = (a % 256) ^^^ (b % 256) := Nat.xor_mod_two_pow (n := 8)
theorem gm_xl (a b c : Nat) : gm (a ^^^ b) c = gm a c ^^^ gm b c := by
  unfold gm
  rw [x_mod, gmb_xl (Nat.mod_lt _ (by omega)) (Nat.mod_lt _ (by omega))]
theorem gmb_gx {a : Nat} (ha : a < 256) (b : Nat) : ∀ k : Nat, gmb (gx a) b k = gx (gmb a b k)
  | 0 => rfl
  | k + 1 => by
    show gmb (gx a) b k ^^^ _ = gx (gmb a b k ^^^ _)
    rw [gmb_gx ha b k, gp_gx, gx_xor _ (gmb_lt ha b k) _ (by split; exact gp_lt ha k; omega)]
    cases b.testBit k <;> simp [gx]
theorem gm_gx {a : Nat} (ha : a < 256) (b : Nat) : gm (gx a) b = gx (gm a b) := by
  unfold gm
  rw [Nat.mod_eq_of_lt (gx_lt a ha), Nat.mod_eq_of_lt ha, gmb_gx ha]
theorem gm_gp {a : Nat} (ha : a < 256) (b : Nat) : ∀ k : Nat, gm (gp k a) b = gp k (gm a b)
  | 0 => rfl
  | k + 1 => by
    show gm (gx (gp k a)) b = gx (gp k (gm a b))
    rw [gm_gx (gp_lt ha k), gm_gp ha b k]
theorem gmb_mod (a b : Nat) : ∀ k : Nat, k ≤ 8 → gmb a (b % 256) k = gmb a b k
  | 0, _ => rfl
  | k + 1, h => by
    show gmb a (b % 256) k ^^^ _ = gmb a b k ^^^ _
    rw [gmb_mod a b k (by omega)]
    have : (b % 256).testBit k = b.testBit k := by
      rw [show (256 : Nat) = 2 ^ 8 from rfl, Nat.testBit_mod_two_pow]
      simp; intro; omega
    rw [this]
theorem gm_mr (a b : Nat) : gm a (b % 256) = gm a b := gmb_mod _ _ 8 (Nat.le_refl 8)
theorem gm_ml (a b : Nat) : gm (a % 256) b = gm a b := by unfold gm; rw [Nat.mod_mod]
theorem gm_one1 : ∀ b : Nat, b < 256 → gm 1 b = b := by decide +kernel
theorem gm_1l (b : Nat) : gm 1 b = b % 256 := by rw [← gm_mr, gm_one1 _ (Nat.mod_lt _ (by omega))]
def pw (k : Nat) : Nat := gp k 1
theorem pw_lt (k : Nat) : pw k < 256 := gp_lt (by omega) k
theorem pw_0 : pw 0 = 1 := rfl
theorem pw_s (k : Nat) : pw (k + 1) = gx (pw k) := rfl
theorem gm_pw (k b : Nat) : gm (pw k) b = gp k (b % 256) := by
  unfold pw; rw [gm_gp (by omega), gm_1l]
theorem gm_pp (i j : Nat) : gm (pw i) (pw j) = pw (i + j) := by
  rw [gm_pw, Nat.mod_eq_of_lt (pw_lt j)]
  exact (gp_add 1 j i).symm
def glog (a : Nat) : Nat := ([0, 0, 1, 25, 2, 50, 26, 198, 3, 223, 51, 238, 27, 104, 199, 75, 4, 100, 224, 14, 52, 141, 239, 129, 28, 193, 105, 248, 200, 8, 76, 113, 5, 138, 101, 47, 225, 36, 15, 33, 53, 147, 142, 218, 240, 18, 130, 69, 29, 181, 194, 125, 106, 39, 249, 185, 201, 154, 9, 120, 77, 228, 114, 166, 6, 191, 139, 98, 102, 221, 48, 253, 226, 152, 37, 179, 16, 145, 34, 136, 54, 208, 148, 206, 143, 150, 219, 189, 241, 210, 19, 92, 131, 56, 70, 64, 30, 66, 182, 163, 195, 72, 126, 110, 107, 58, 40, 84, 250, 133, 186, 61, 202, 94, 155, 159, 10, 21, 121, 43, 78, 212, 229, 172, 115, 243, 167, 87, 7, 112, 192, 247, 140, 128, 99, 13, 103, 74, 222, 237, 49, 197, 254, 24, 227, 165, 153, 119, 38, 184, 180, 124, 17, 68, 146, 217, 35, 32, 137, 46, 55, 63, 209, 91, 149, 188, 207, 205, 144, 135, 151, 178, 220, 252, 190, 97, 242, 86, 211, 171, 20, 42, 93, 158, 132, 60, 57, 83, 71, 109, 65, 162, 31, 45, 67, 216, 183, 123, 164, 118, 196, 23, 73, 236, 127, 12, 111, 246, 108, 161, 59, 82, 41, 157, 85, 170, 251, 96, 134, 177, 187, 204, 62, 90, 203, 89, 95, 176, 156, 169, 160, 81, 11, 245, 22, 235, 122, 117, 44, 215, 79, 174, 213, 233, 230, 231, 173, 232, 116, 214, 244, 234, 168, 80, 88, 175] : List Nat).getD a 0
theorem pw_glog : ∀ a : Nat, a < 256 → a ≠ 0 → pw (glog a) = a ∧ glog a < 255 := by decide +kernel
theorem glog_pw : ∀ i : Nat, i < 255 → glog (pw i) = i ∧ pw i ≠ 0 := by decide +kernel
theorem pw_255 : pw 255 = 1 := by decide +kernel
theorem pw_p (i : Nat) : pw (i + 255) = pw i := by
  show gp (i + 255) 1 = gp i 1
  rw [gp_add 1 255 i]
  show gp i (pw 255) = gp i 1
  rw [pw_255]
theorem pw_pm (i : Nat) : ∀ k : Nat, pw (i + 255 * k) = pw i
  | 0 => rfl
  | k + 1 => by rw [show i + 255 * (k + 1) = (i + 255 * k) + 255 by omega, pw_p, pw_pm i k]
theorem pw_mod (i : Nat) : pw (i % 255) = pw i := by
  have := pw_pm (i % 255) (i / 255)
  rw [Nat.mod_add_div] at this
  exact this.symm
theorem pw_ne (i : Nat) : pw i ≠ 0 := by rw [← pw_mod]; exact (glog_pw _ (Nat.mod_lt _ (by omega))).2
theorem pw_inj {i j : Nat} (hi : i < 255) (hj : j < 255) (h : pw i = pw j) : i = j := by
  rw [← (glog_pw i hi).1, ← (glog_pw j hj).1, h]
theorem pw_some {a : Nat} (ha : a < 256) (h : a ≠ 0) : ∃ i : Nat, i < 255 ∧ a = pw i := ⟨glog a, (pw_glog a ha h).2, (pw_glog a ha h).1.symm⟩
theorem gm_0l (b : Nat) : gm 0 b = 0 := by
  have h := gm_xl 0 0 b
  rw [x_s 0] at h; rw [h, x_s]
theorem gm_0r (a : Nat) : gm a 0 = 0 := by
  have h := gm_xr a 0 0
  rw [x_s 0] at h; rw [h, x_s]
theorem gm_comm (a b : Nat) : gm a b = gm b a := by
  have key : ∀ a b : Nat, a < 256 → b < 256 → gm a b = gm b a := by
    intro a b ha hb
    by_cases h0 : a = 0
    · rw [h0, gm_0l, gm_0r]
    by_cases h1 : b = 0
    · rw [h1, gm_0l, gm_0r]
    obtain ⟨i, -, rfl⟩ := pw_some ha h0
    obtain ⟨j, -, rfl⟩ := pw_some hb h1
    rw [gm_pp, gm_pp, Nat.add_comm]
  rw [← gm_ml, ← gm_mr, key _ _ (Nat.mod_lt _ (by omega)) (Nat.mod_lt _ (by omega)), gm_ml, gm_mr]
theorem gm_assoc (a b c : Nat) : gm (gm a b) c = gm a (gm b c) := by
  have key : ∀ a b c : Nat, a < 256 → b < 256 → c < 256 → gm (gm a b) c = gm a (gm b c) := by
    intro a b c ha hb hc
    by_cases h0 : a = 0
    · rw [h0, gm_0l, gm_0l, gm_0l]
    by_cases h1 : b = 0
    · rw [h1, gm_0l, gm_0r, gm_0l]
    by_cases h2 : c = 0
    · rw [h2, gm_0r, gm_0r, gm_0r]
    obtain ⟨i, -, rfl⟩ := pw_some ha h0
    obtain ⟨j, -, rfl⟩ := pw_some hb h1
    obtain ⟨k, -, rfl⟩ := pw_some hc h2
    rw [gm_pp, gm_pp, gm_pp, gm_pp, Nat.add_assoc]
  have e := key (a % 256) (b % 256) (c % 256) (Nat.mod_lt _ (by omega)) (Nat.mod_lt _ (by omega)) (Nat.mod_lt _ (by omega))
  rw [gm_ml, gm_mr, gm_mr, gm_ml, gm_ml, gm_mr] at e
  exact e
theorem gm_lc (a b c : Nat) : gm a (gm b c) = gm b (gm a c) := by rw [← gm_assoc, gm_comm a b, gm_assoc]
theorem gm_1r (a : Nat) : gm a 1 = a % 256 := by rw [gm_comm, gm_1l]
theorem gm_zero {a b : Nat} (ha : a < 256) (hb : b < 256) (h : gm a b = 0) : a = 0 ∨ b = 0 := by
  by_cases h0 : a = 0
  · exact Or.inl h0
  by_cases h1 : b = 0
  · exact Or.inr h1
  obtain ⟨i, -, rfl⟩ := pw_some ha h0
  obtain ⟨j, -, rfl⟩ := pw_some hb h1
  rw [gm_pp] at h
  exact absurd h (pw_ne _)
theorem gm_ne {a b : Nat} (ha : a < 256) (hb : b < 256) (h0 : a ≠ 0) (h1 : b ≠ 0) : gm a b ≠ 0 := fun h => (gm_zero ha hb h).elim h0 h1
def gi (a : Nat) : Nat := pw (255 - glog a)
theorem gi_lt (a : Nat) : gi a < 256 := pw_lt _
theorem gm_gi {a : Nat} (ha : a < 256) (h : a ≠ 0) : gm a (gi a) = 1 := by
  obtain ⟨h1, h2⟩ := pw_glog a ha h
  unfold gi
  rw [show gm a (pw (255 - glog a)) = gm (pw (glog a)) (pw (255 - glog a)) by rw [h1], gm_pp, show glog a + (255 - glog a) = 255 by omega, pw_255]
/-- a factor that isn't 0 may be taken away -/
theorem gm_can {a b c : Nat} (ha : a < 256) (h0 : a ≠ 0) (hb : b < 256) (hc : c < 256) (h : gm a b = gm a c) : b = c := by
  have h1 : gm (gi a) (gm a b) = gm (gi a) (gm a c) := by rw [h]
  rw [← gm_assoc, ← gm_assoc, gm_comm (gi a) a, gm_gi ha h0, gm_1l, gm_1l, Nat.mod_eq_of_lt hb, Nat.mod_eq_of_lt hc] at h1
  exact h1
theorem x_eq {a b : Nat} (h : a ^^^ b = 0) : a = b := by
  have := congrArg (· ^^^ b) h
  simp only [Nat.xor_assoc, x_s, x_0, x_0l] at this
  exact this
