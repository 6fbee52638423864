/-! own rows: versions, levels, places of codewords -/
def bkT : List Nat := [1, 1, 1, 1, 1, 2, 2, 2, 2, 4, 4, 4, 4, 4, 6, 6, 6, 6, 7, 8, 8, 9, 9, 10, 12, 12, 12, 13, 14, 15, 16, 17, 18, 19, 19, 20, 21, 22, 24, 25, 1, 1, 1, 2, 2, 4, 4, 4, 5, 5, 5, 8, 9, 9, 10, 10, 11, 13, 14, 16, 17, 17, 18, 20, 21, 23, 25, 26, 28, 29, 31, 33, 35, 37, 38, 40, 43, 45, 47, 49, 1, 1, 2, 2, 4, 4, 6, 6, 8, 8, 8, 10, 12, 16, 12, 17, 16, 18, 21, 20, 23, 23, 25, 27, 29, 34, 34, 35, 38, 40, 43, 45, 48, 51, 53, 56, 59, 62, 65, 68, 1, 1, 2, 4, 4, 4, 5, 6, 8, 8, 11, 11, 16, 16, 18, 16, 19, 21, 25, 25, 25, 34, 30, 32, 35, 37, 40, 42, 45, 48, 51, 54, 57, 60, 63, 66, 70, 74, 77, 81]
def ckT : List Nat := [7, 10, 15, 20, 26, 18, 20, 24, 30, 18, 20, 24, 26, 30, 22, 24, 28, 30, 28, 28, 28, 28, 30, 30, 26, 28, 30, 30, 30, 30, 30, 30, 30, 30, 30, 30, 30, 30, 30, 30, 10, 16, 26, 18, 24, 16, 18, 22, 22, 26, 30, 22, 22, 24, 24, 28, 28, 26, 26, 26, 26, 28, 28, 28, 28, 28, 28, 28, 28, 28, 28, 28, 28, 28, 28, 28, 28, 28, 28, 28, 13, 22, 18, 26, 18, 24, 18, 22, 20, 24, 28, 26, 24, 20, 30, 24, 28, 28, 26, 30, 28, 30, 30, 30, 30, 28, 30, 30, 30, 30, 30, 30, 30, 30, 30, 30, 30, 30, 30, 30, 17, 28, 22, 16, 22, 28, 26, 26, 24, 28, 24, 28, 22, 24, 24, 30, 28, 28, 26, 28, 30, 24, 30, 30, 30, 30, 30, 30, 30, 30, 30, 30, 30, 30, 30, 30, 30, 30, 30, 30]
def nB (l v : Nat) : Nat := bkT.getD (40 * l + v - 1) 0
def nK (l v : Nat) : Nat := ckT.getD (40 * l + v - 1) 0
def acw (v : Nat) : Nat := ((16 * v + 128) * v + 64 - (if v ≤ 1 then 0 else (25 * (v / 7 + 2) - 10) * (v / 7 + 2) - 55) - (if v ≤ 6 then 0 else 36)) / 8
def nH (l v : Nat) : Nat := acw v - nB l v * nK l v
def nS (l v : Nat) : Nat := nH l v / nB l v
def nM (l v : Nat) : Nat := nB l v - nH l v % nB l v
def nE (l v : Nat) : Nat := (nK l v - (if v = 1 then (if l = 0 then 3 else if l = 1 then 2 else 1) else if l = 0 then (if v = 2 then 2 else if v = 3 then 1 else 0) else 0)) / 2
theorem tB : ∀ i : Nat, i < 160 → tv_BLOCKS i = ni (bkT.getD i 0) ∧ tv_CHECKS i = ni (ckT.getD i 0) := by decide +kernel
theorem vr_cw : ∀ v : Nat, v < 41 → 1 ≤ v → fn_Version_codewords (ni v) = some (ni (acw v)) ∧ fn_Md_allCodewords (ni v) = some (ni (acw v)) := by decide +kernel
theorem vr_ck : ∀ l : Nat, l < 4 → ∀ v : Nat, v < 41 → 1 ≤ v → fn_Version_blocks (ni l) (ni v) = some (ni (nB l v)) ∧ fn_Version_checks (ni l) (ni v) = some (ni (nK l v)) ∧ fn_Version_holds (ni l) (ni v) = some (ni (nH l v)) ∧ fn_Version_mendable (ni l) (ni v) = some (ni (nE l v)) := by decide +kernel
theorem vr_n1 : ∀ l : Nat, l < 4 → ∀ v : Nat, v < 41 → 1 ≤ v → 1 ≤ nB l v ∧ nB l v ≤ 81 ∧ 7 ≤ nK l v ∧ nK l v ≤ 30 ∧ acw v ≤ 3706 ∧ nH l v + nB l v * nK l v = acw v := by decide +kernel
theorem vr_n2 : ∀ l : Nat, l < 4 → ∀ v : Nat, v < 41 → 1 ≤ v → 9 ≤ nH l v ∧ nS l v + 1 + nK l v ≤ 255 ∧ nE l v ≤ 15 ∧ 2 * nE l v ≤ nK l v ∧ 1 ≤ nS l v ∧ 40 * l + v - 1 < 160 := by decide +kernel
theorem vr_nu (l : Nat) (hl : l < 4) (v : Nat) (hv : v < 41) (h1 : 1 ≤ v) : 1 ≤ nB l v ∧ nB l v ≤ 81 ∧ 7 ≤ nK l v ∧ nK l v ≤ 30 ∧ acw v ≤ 3706 ∧ nH l v + nB l v * nK l v = acw v ∧ 9 ≤ nH l v ∧ nS l v + 1 + nK l v ≤ 255 ∧ nE l v ≤ 15 ∧ 2 * nE l v ≤ nK l v ∧ 1 ≤ nS l v ∧ 40 * l + v - 1 < 160 := by
  obtain ⟨a1, a2, a3, a4, a5, a6⟩ := vr_n1 l hl v hv h1
  exact ⟨a1, a2, a3, a4, a5, a6, vr_n2 l hl v hv h1⟩
theorem vr_sp : ∀ l : Nat, l < 4 → ∀ v : Nat, v < 41 → 1 ≤ v → ∃ p : Nat, fn_Md_spared (ni v) (ni l) = some (ni p) ∧ p ≤ nK l v ∧ (nK l v - p) / 2 = nE l v := by
  intro l hl v hv h1
  have key : ∀ l : Nat, l < 4 → ∀ v : Nat, v < 41 → 1 ≤ v → fn_Md_spared (ni v) (ni l) = some (ni (if v = 1 then (if l = 0 then 3 else if l = 1 then 2 else 1) else if l = 0 then (if v = 2 then 2 else if v = 3 then 1 else 0) else 0)) ∧ (if v = 1 then (if l = 0 then 3 else if l = 1 then 2 else 1) else if l = 0 then (if v = 2 then 2 else if v = 3 then 1 else 0) else 0) ≤ nK l v := by decide +kernel
  exact ⟨_, (key l hl v hv h1).1, (key l hl v hv h1).2, rfl⟩
/-- the numbers of a level and a version -/
def VN (H B K S M : Nat) : Prop := 1 ≤ M ∧ M ≤ B ∧ B ≤ 81 ∧ 7 ≤ K ∧ K ≤ 30 ∧ H = B * S + (B - M) ∧ H + B * K ≤ 3706 ∧ S + 1 + K ≤ 255 ∧ 1 ≤ S
theorem vn_ok {l v : Nat} (hl : l < 4) (hv : v < 41) (h1 : 1 ≤ v) : VN (nH l v) (nB l v) (nK l v) (nS l v) (nM l v) := by
  obtain ⟨a1, a2, a3, a4, a5, a6, a7, a8, a9, a10, a11, a12⟩ := vr_nu l hl v hv h1
  have hm : nH l v % nB l v < nB l v := Nat.mod_lt _ (by omega)
  have hd := Nat.div_add_mod (nH l v) (nB l v)
  refine ⟨?_, ?_, a2, a3, a4, ?_, by omega, a8, a11⟩
  · unfold nM; omega
  · unfold nM; omega
  · unfold nM nS; omega
/-- the length of a block, its start, its places -/
def ln (S M b : Nat) : Nat := if M ≤ b then S + 1 else S
def str (S M b : Nat) : Nat := b * S + (b - M)
def pib (H K S M b j : Nat) : Nat := if ln S M b ≤ j then H + b * K + j - ln S M b else str S M b + j
def pof (H B S M b j : Nat) : Nat := if j < ln S M b then (if S ≤ j then S * B + b - M else j * B + b) else H + (j - ln S M b) * B + b
theorem str_s (S M b : Nat) : str S M (b + 1) = str S M b + ln S M b := by
  unfold str ln
  rw [Nat.succ_mul]
  split <;> omega
theorem str_le {S M b c : Nat} (h : b < c) : str S M b + ln S M b ≤ str S M c := by
  rw [← str_s]
  obtain ⟨d, rfl⟩ : ∃ d, c = b + 1 + d := ⟨c - (b + 1), by omega⟩
  clear h
  induction d with
  | zero => exact Nat.le_refl _
  | succ d ih => rw [show b + 1 + (d + 1) = b + 1 + d + 1 by omega, str_s S M (b + 1 + d)]; omega
theorem str_H {H B K S M : Nat} (h : VN H B K S M) : str S M B = H := by
  obtain ⟨h1, h2, h3, h4, h5, h6, h7, h8, h9⟩ := h
  unfold str; omega
theorem pib_lt {H B K S M b j : Nat} (h : VN H B K S M) (hb : b < B) (hj : j < ln S M b + K) : pib H K S M b j < H + B * K := by
  have e := str_H h
  have e2 := str_le (S := S) (M := M) hb
  unfold pib
  split
  · have : (b + 1) * K ≤ B * K := Nat.mul_le_mul_right K hb
    rw [Nat.succ_mul] at this; omega
  · omega
theorem pib_inj {H B K S M b j c i : Nat} (h : VN H B K S M) (hb : b < B) (hc : c < B) (hj : j < ln S M b + K) (hi : i < ln S M c + K) (e : pib H K S M b j = pib H K S M c i) : b = c ∧ j = i := by
  have eH := str_H h
  have e1 := str_le (S := S) (M := M) hb
  have e2 := str_le (S := S) (M := M) hc
  unfold pib at e
  by_cases q1 : ln S M b ≤ j
  · rw [if_pos q1] at e
    by_cases q2 : ln S M c ≤ i
    · rw [if_pos q2] at e
      have hbc : b = c := by
        rcases Nat.lt_trichotomy b c with w | w | w
        · have : (b + 1) * K ≤ c * K := Nat.mul_le_mul_right K w
          rw [Nat.succ_mul] at this; omega
        · exact w
        · have : (c + 1) * K ≤ b * K := Nat.mul_le_mul_right K w
          rw [Nat.succ_mul] at this; omega
      subst hbc
      exact ⟨rfl, by omega⟩
    · rw [if_neg q2] at e; omega
  · rw [if_neg q1] at e
    by_cases q2 : ln S M c ≤ i
    · rw [if_pos q2] at e; omega
    · rw [if_neg q2] at e
      have hbc : b = c := by
        rcases Nat.lt_trichotomy b c with w | w | w
        · have := str_le (S := S) (M := M) w; omega
        · exact w
        · have := str_le (S := S) (M := M) w; omega
      subst hbc
      exact ⟨rfl, by omega⟩
