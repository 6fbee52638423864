/-! put, repeat, wipe, at -/
def DT (ds : Int32) (db : Nat → Int32) (ln : Int32) (dt : Nat → Int32) : Prop := ∃ (len : Nat) (d : Nat → Nat), len ≤ 3000 ∧ ds = ni len ∧ ln = ni len ∧ cdt db len d ∧ ∀ i : Nat, i < len → dt i = ni (d i) ∧ d i < 256
theorem l2i_un (z : Int64) : sq_l2i z = ni (un z) := by
  apply Int32.toBitVec_inj.mp
  show z.toBitVec.signExtend 32 = BitVec.ofNat 32 (un z)
  unfold un
  apply BitVec.eq_of_getLsbD_eq
  intro i hi
  rw [BitVec.getLsbD_signExtend, BitVec.getLsbD_ofNat, decide_eq_true hi, Bool.true_and, Bool.true_and, if_pos (by omega), BitVec.testBit_toNat]
theorem bt_sshr (z : Int64) {k : Nat} (hk : k < 64) {i : Nat} (h : k + i < 64) : bt (sq_lshr z (ni k)) i = bt z (k + i) := by
  unfold bt sq_lshr
  rw [Int64.toBitVec_shiftRight, (sh_k k hk).1]
  show (z.toBitVec.sshiftRight (BitVec.ofNat 64 k).toNat).getLsbD i = _
  rw [BitVec.getLsbD_sshiftRight, BitVec.toNat_ofNat, Nat.mod_eq_of_lt (by omega), decide_eq_false (by omega), if_pos h]
  rfl
theorem bt_255 (i : Nat) : bt 255 i = decide (i < 8) := by
  by_cases h : i < 64
  · have : ∀ i : Nat, i < 64 → bt 255 i = decide (i < 8) := by decide
    exact this i h
  · rw [bt_hi _ (by omega), decide_eq_false (by omega)]
def pbv (z : Int64) (i : Nat) : Nat := (un z >>> (8 * i)) &&& 255
theorem pb_lt (z : Int64) (i : Nat) : pbv z i < 256 := by
  have : (un z >>> (8 * i)) &&& 255 ≤ 255 := Nat.and_le_right
  unfold pbv
  omega
theorem pb_c (z : Int64) {i : Nat} (hi : i < 8) : sq_l2i (sq_lushr z ((8 : Int32) * ni i)) &&& (255 : Int32) = ni (pbv z i) := by
  rw [show (8 : Int32) = ni 8 from rfl, ni_mul, l2i_un, un_shr z (by omega), show (255 : Int32) = ni 255 from rfl, ni_and]
  rfl
theorem pb_m (z : Int64) {i : Nat} (hi : i < 8) : sq_l2i (sq_lshr z ((8 : Int32) * ni i) &&& (255 : Int64)) = ni (pbv z i) := by
  have e : sq_lshr z (ni (8 * i)) &&& (255 : Int64) = sq_lushr z (ni (8 * i)) &&& (255 : Int64) := by
    apply bt_ext
    intro j hj
    rw [bt_and, bt_and, bt_255]
    by_cases q : j < 8
    · rw [bt_sshr z (by omega) (by omega), bt_ushr z (by omega), Nat.add_comm]
    · rw [decide_eq_false q, Bool.and_false, Bool.and_false]
  rw [show (8 : Int32) = ni 8 from rfl, ni_mul, e, l2i_un, un_and, un_shr z (by omega)]
  rfl
theorem da_1 {db : Nat → Int32} {len x : Nat} {d : Nat → Nat} (hl : len < 3000) (hx : x < 256) (h : cdt db len d) : fn_Data_add (ni x) (ni len) db = some (ni (len + 1), upd db len (vp_nar .byte (sq_i2b (ni x)))) ∧ cdt (upd db len (vp_nar .byte (sq_i2b (ni x)))) (len + 1) (fun j => if j = len then x else d j) := by
  refine ⟨?_, fun j hj => ?_⟩
  · unfold fn_Data_add
    rw [if_neg (by rw [ni_nn (by omega)]; exact id), if_neg (show ¬ (3000 : Int32) ≤ ni len from fun z => absurd ((ni_le (a := 3000) (by omega) (by omega)).mp z) (by omega))]
    simp only [sq_bd]
    rw [ni_gi (by omega) (by omega), ni_ix (by omega), show (1 : Int32) = ni 1 from rfl, ni_add]
  · show upd db len _ j &&& 255 = ni (if j = len then x else d j) ∧ (if j = len then x else d j) < 256
    rw [upd_a]
    by_cases z : j = len
    · rw [if_pos z, if_pos z]
      exact ⟨by_rt x hx, hx⟩
    · rw [if_neg z, if_neg z]
      exact h j (by omega)
theorem dm_1 {dt : Nat → Int32} {len x : Nat} {d : Nat → Nat} (hx : x < 256) (h : ∀ i : Nat, i < len → dt i = ni (d i) ∧ d i < 256) : ∀ i : Nat, i < len + 1 → upd dt len (ni x) i = ni ((fun j => if j = len then x else d j) i) ∧ (fun j => if j = len then x else d j) i < 256 := fun j hj => by
  show upd dt len _ j = ni (if j = len then x else d j) ∧ (if j = len then x else d j) < 256
  rw [upd_a]
  by_cases z : j = len
  · rw [if_pos z, if_pos z]
    exact ⟨rfl, hx⟩
  · rw [if_neg z, if_neg z]
    exact h j (by omega)
theorem pt_l {z : Int64} {k : Nat} {x1 : Int32} (hk : k ≤ 8) : ∀ (e i m len : Nat) (d : Nat → Nat) (db dt : Nat → Int32), i + e = k → e < m → len + e ≤ 3000 → cdt db len d → (∀ i : Nat, i < len → dt i = ni (d i) ∧ d i < 256) → ∃ db' dt' d', (∀ k8, fn_Sq_put_L1 (ni k) z k8 m (ni i) (ni len) db = k8 (ni (len + e)) db') ∧ fn_Md_put_L1 (ni k) z x1 m (ni i) (ni len) dt = some (ni (len + e), x1, ni (len + e), dt') ∧ cdt db' (len + e) d' ∧ ∀ i : Nat, i < len + e → dt' i = ni (d' i) ∧ d' i < 256
  | 0, i, m + 1, len, d, db, dt, hi, _, hl, h1, h2 => by
    obtain rfl : i = k := by omega
    refine ⟨db, dt, d, fun k8 => ?_, ?_, h1, h2⟩
    · rw [fn_Sq_put_L1_s, if_pos ((ni_le (by omega) (by omega)).mpr (Nat.le_refl _))]
      rfl
    · rw [fn_Md_put_L1_s, if_pos ((ni_le (by omega) (by omega)).mpr (Nat.le_refl _))]
      rfl
  | e + 1, i, m + 1, len, d, db, dt, hi, hm, hl, h1, h2 => by
    obtain ⟨a1, a2⟩ := da_1 (len := len) (by omega) (pb_lt z i) h1
    obtain ⟨db', dt', d', r1, r2, r3, r4⟩ := pt_l (z := z) (x1 := x1) hk e (i + 1) m (len + 1) _ _ _ (by omega) (by omega) (by omega) a2 (dm_1 (pb_lt z i) h2)
    rw [show len + 1 + e = len + (e + 1) by omega] at r1 r2 r3 r4
    refine ⟨db', dt', d', fun k8 => ?_, ?_, r3, r4⟩
    · rw [fn_Sq_put_L1_s, if_neg (fun z => absurd ((ni_le (by omega) (by omega)).mp z) (by omega)), ← r1 k8]
      simp only [sq_bd]
      rw [pb_c z (by omega), a1, cb2_e, show (1 : Int32) = ni 1 from rfl, ni_add]
    · rw [fn_Md_put_L1_s, if_neg (fun z => absurd ((ni_le (by omega) (by omega)).mp z) (by omega)), ← r2]
      simp only [sq_bd]
      rw [pb_m z (by omega), ni_gi (by omega) (by omega), ni_ix (by omega), show (1 : Int32) = ni 1 from rfl, ni_add, ni_add]
theorem pt_both {n0 : Nat} {p ds ln th : Int32} {z : Int64} {db dt : Nat → Int32} (hn0 : 4000 ≤ n0) (h : DT ds db ln dt) : (ft_Sq_put p z = some () ∧ fn_Md_put n0 p z th ln dt = some (0, 1, ln, dt)) ∨ (ft_Sq_put p z = none ∧ ∃ r ds' db' ln' dt', fn_Sq_put n0 p z ds db = some (r, ds', db') ∧ fn_Md_put n0 p z th ln dt = some (r, 0, ln', dt') ∧ DT ds' db' ln' dt') := by
  obtain ⟨len, d, hl, rfl, rfl, hc, hm⟩ := h
  unfold ft_Sq_put fn_Md_put fn_Sq_put
  simp only [sq_jn]
  by_cases q1 : p < 1
  · rw [if_pos q1, if_pos q1]
    exact .inl ⟨rfl, by rw [if_neg (by decide)]⟩
  · rw [if_neg q1, if_neg q1, if_neg q1]
    by_cases q2 : p ≤ 8
    · rw [if_pos q2, if_pos q2, if_pos q2]
      right
      refine ⟨rfl, ?_⟩
      obtain ⟨k, hk, rfl⟩ : ∃ k : Nat, k ≤ 8 ∧ p = ni k := by
        rcases ni_cases p with q | ⟨k, hk, rfl⟩
        · exfalso
          apply q1
          rw [lt_I] at q ⊢
          rw [show (1 : Int32).toInt = 1 from rfl]
          rw [show (0 : Int32).toInt = 0 from rfl] at q
          omega
        · exact ⟨k, (ni_le (b := 8) (by omega) (by omega)).mp q2, rfl⟩
      rw [if_pos (by decide)]
      have hroom : fn_Data_hasRoomFor (ni k) (ni len) = some (if len + k ≤ 3000 then 1 else 0) := by
        unfold fn_Data_hasRoomFor
        rw [show (3000 : Int32) = ni 3000 from rfl]
        by_cases z : len + k ≤ 3000
        · rw [if_neg (by rw [ni_ls (by omega) (by omega) (by omega)]; omega), if_pos z]
        · rw [if_pos (by rw [ni_ls (by omega) (by omega) (by omega)]; omega), if_neg z]
      rw [hroom, cb1_e, ni_add]
      by_cases q3 : len + k ≤ 3000
      · rw [if_pos q3, if_neg (by decide), if_pos (show ni (len + k) ≤ (3000 : Int32) from (ni_le (b := 3000) (by omega) (by omega)).mpr q3)]
        obtain ⟨db', dt', d', r1, r2, r3, r4⟩ := pt_l (z := z) (x1 := 0) hk k 0 n0 len d db dt (by omega) (by omega) q3 hc hm
        refine ⟨ni (len + k), ni (len + k), db', ni (len + k), dt', ?_, r2, len + k, d', q3, rfl, rfl, r3, r4⟩
        exact r1 _
      · rw [if_neg q3, if_pos rfl, if_neg (show ¬ ni (len + k) ≤ (3000 : Int32) from fun z => q3 ((ni_le (b := 3000) (by omega) (by omega)).mp z))]
        exact ⟨_, _, _, _, _, rfl, rfl, len, d, hl, rfl, rfl, hc, hm⟩
    · rw [if_neg q2, if_neg q2, if_neg q2]
      exact .inl ⟨rfl, by rw [if_neg (by decide)]⟩
theorem rp_l {x c : Nat} {x1 : Int32} (hx : x < 256) (hc3 : c ≤ 3000) : ∀ (e i m len : Nat) (d : Nat → Nat) (db dt : Nat → Int32), i + e = c → e < m → len + e ≤ 3000 → cdt db len d → (∀ i : Nat, i < len → dt i = ni (d i) ∧ d i < 256) → ∃ db' dt' d', (∀ k8, fn_Sq_repeat_L1 (ni x) (ni c) k8 m (ni i) (ni len) db = k8 (ni (len + e)) db') ∧ fn_Md_repeat_L1 (ni x) (ni c) x1 m (ni i) (ni len) dt = some (ni (len + e), x1, ni (len + e), dt') ∧ cdt db' (len + e) d' ∧ ∀ i : Nat, i < len + e → dt' i = ni (d' i) ∧ d' i < 256
  | 0, i, m + 1, len, d, db, dt, hi, _, hl, h1, h2 => by
    obtain rfl : i = c := by omega
    refine ⟨db, dt, d, fun k8 => ?_, ?_, h1, h2⟩
    · rw [fn_Sq_repeat_L1_s, if_pos ((ni_le (by omega) (by omega)).mpr (Nat.le_refl _))]
      rfl
    · rw [fn_Md_repeat_L1_s, if_pos ((ni_le (by omega) (by omega)).mpr (Nat.le_refl _))]
      rfl
  | e + 1, i, m + 1, len, d, db, dt, hi, hm, hl, h1, h2 => by
    obtain ⟨a1, a2⟩ := da_1 (len := len) (by omega) hx h1
    obtain ⟨db', dt', d', r1, r2, r3, r4⟩ := rp_l (x1 := x1) hx hc3 e (i + 1) m (len + 1) _ _ _ (by omega) (by omega) (by omega) a2 (dm_1 hx h2)
    rw [show len + 1 + e = len + (e + 1) by omega] at r1 r2 r3 r4
    refine ⟨db', dt', d', fun k8 => ?_, ?_, r3, r4⟩
    · rw [fn_Sq_repeat_L1_s, if_neg (fun z => absurd ((ni_le (by omega) (by omega)).mp z) (by omega)), ← r1 k8]
      simp only [sq_bd]
      rw [a1, cb2_e, show (1 : Int32) = ni 1 from rfl, ni_add]
    · rw [fn_Md_repeat_L1_s, if_neg (fun z => absurd ((ni_le (by omega) (by omega)).mp z) (by omega)), ← r2]
      simp only [sq_bd]
      rw [ni_gi (by omega) (by omega), ni_ix (by omega), show (1 : Int32) = ni 1 from rfl, ni_add, ni_add]
theorem rp_both {n0 : Nat} {p c ds ln th : Int32} {db dt : Nat → Int32} (hn0 : 4000 ≤ n0) (h : DT ds db ln dt) : (ft_Sq_repeat p c = some () ∧ fn_Md_repeat n0 p c th ln dt = some (0, 1, ln, dt)) ∨ (ft_Sq_repeat p c = none ∧ ∃ r ds' db' ln' dt', fn_Sq_repeat n0 p c ds db = some (r, ds', db') ∧ fn_Md_repeat n0 p c th ln dt = some (r, 0, ln', dt') ∧ DT ds' db' ln' dt') := by
  obtain ⟨len, d, hl, rfl, rfl, hc, hm⟩ := h
  unfold ft_Sq_repeat fn_Md_repeat fn_Sq_repeat
  simp only [sq_jn]
  rcases ni_cases p with q1 | ⟨x, hx, rfl⟩
  · rw [if_pos q1, if_pos q1]
    exact .inl ⟨rfl, by rw [if_neg (by decide)]⟩
  · have q1 : ¬ ni x < 0 := by rw [ni_nn hx]; exact id
    rw [if_neg q1, if_neg q1, if_neg q1]
    by_cases q2 : x ≤ 255
    · have e2 : ni x ≤ (255 : Int32) := (ni_le (b := 255) (by omega) (by omega)).mpr q2
      have e3 : ¬ (255 : Int32) < ni x := fun z => absurd ((ni_lt (a := 255) (by omega) (by omega)).mp z) (by omega)
      rw [if_pos e2, if_neg e3, if_pos e2]
      rcases ni_cases c with q3 | ⟨y, hy, rfl⟩
      · have q4 : ¬ 0 ≤ c := by
          rw [lt_I] at q3
          rw [le_I]
          rw [show (0 : Int32).toInt = 0 from rfl] at q3 ⊢
          omega
        rw [if_neg q4, if_neg q4]
        exact .inl ⟨rfl, by rw [if_neg (by decide)]⟩
      · have q4 : 0 ≤ ni y := by rw [← ni_0, ni_le (by omega) (by omega)]; omega
        rw [if_pos q4, if_pos q4, if_pos q4]
        right
        refine ⟨rfl, ?_⟩
        rw [if_pos (by decide)]
        have hroom : fn_Data_hasRoomFor (ni y) (ni len) = some (if len + y ≤ 3000 then 1 else 0) := by
          unfold fn_Data_hasRoomFor
          rw [show (3000 : Int32) = ni 3000 from rfl]
          by_cases z : len + y ≤ 3000
          · rw [if_neg (by rw [ni_ls (by omega) (by omega) (by omega)]; omega), if_pos z]
          · rw [if_pos (by rw [ni_ls (by omega) (by omega) (by omega)]; omega), if_neg z]
        have hr2 : (ni y ≤ (3000 : Int32) - ni len) ↔ len + y ≤ 3000 := by
          rw [show (3000 : Int32) = ni 3000 from rfl, show (ni y ≤ ni 3000 - ni len) = (y + len ≤ 3000) from ni_sle (by omega) (by omega) (by omega)]
          omega
        rw [hroom, cb1_e]
        by_cases q5 : len + y ≤ 3000
        · rw [if_pos q5, if_neg (by decide), if_pos (hr2.mpr q5)]
          obtain ⟨db', dt', d', r1, r2, r3, r4⟩ := rp_l (x := x) (c := y) (x1 := 0) (by omega) (by omega) y 0 n0 len d db dt (by omega) (by omega) q5 hc hm
          refine ⟨ni (len + y), ni (len + y), db', ni (len + y), dt', ?_, r2, len + y, d', q5, rfl, rfl, r3, r4⟩
          exact r1 _
        · rw [if_neg q5, if_pos rfl, if_neg (fun z => q5 (hr2.mp z))]
          exact ⟨_, _, _, _, _, rfl, rfl, len, d, hl, rfl, rfl, hc, hm⟩
    · have e2 : ¬ ni x ≤ (255 : Int32) := fun z => q2 ((ni_le (b := 255) (by omega) (by omega)).mp z)
      have e3 : (255 : Int32) < ni x := (ni_lt (a := 255) (by omega) (by omega)).mpr (by omega)
      rw [if_neg e2, if_pos e3]
      exact .inl ⟨rfl, by rw [if_neg (by decide)]⟩
theorem at_both {p ds ln th : Int32} {db dt : Nat → Int32} (h : DT ds db ln dt) : ∃ r, fn_Sq_at p ds db = some r ∧ fn_Md_at p th ln dt = some (r, 0) := by
  obtain ⟨len, d, hl, rfl, rfl, hc, hm⟩ := h
  unfold fn_Sq_at fn_Data_get fn_Md_at
  rcases ni_cases p with q1 | ⟨x, hx, rfl⟩
  · rw [if_pos q1, if_pos q1]
    exact ⟨_, rfl, rfl⟩
  · have q1 : ¬ ni x < 0 := by rw [ni_nn hx]; exact id
    rw [if_neg q1, if_neg q1]
    by_cases q2 : x < len
    · obtain ⟨c1, -⟩ := hc x q2
      obtain ⟨m1, -⟩ := hm x q2
      rw [if_neg (show ¬ ni len ≤ ni x from fun z => absurd ((ni_le (by omega) hx).mp z) (by omega)), if_neg (show ¬ (3000 : Int32) ≤ ni x from fun z => absurd ((ni_le (a := 3000) (by omega) hx).mp z) (by omega)), if_pos ((ni_lt hx (by omega)).mpr q2), ni_gi (by omega) (by omega), ni_gi (by omega) (by omega), ni_ix hx]
      simp only [sq_bd]
      rw [c1, m1]
      exact ⟨_, rfl, rfl⟩
    · rw [if_pos (show ni len ≤ ni x from (ni_le (by omega) hx).mpr (by omega)), if_neg (show ¬ ni x < ni len from fun z => q2 ((ni_lt hx (by omega)).mp z))]
      exact ⟨_, rfl, rfl⟩
