theorem cb2_e {α1 α2 β : Type} (x1 : α1) (x2 : α2) (k : α1 → α2 → Option β) : sq_cb2 (some (x1, x2)) k = k x1 x2 := rfl
theorem cb3_e {α1 α2 α3 β : Type} (x1 : α1) (x2 : α2) (x3 : α3) (k : α1 → α2 → α3 → Option β) : sq_cb3 (some (x1, x2, x3)) k = k x1 x2 x3 := rfl
theorem cb4_e {α1 α2 α3 α4 β : Type} (x1 : α1) (x2 : α2) (x3 : α3) (x4 : α4) (k : α1 → α2 → α3 → α4 → Option β) : sq_cb4 (some (x1, x2, x3, x4)) k = k x1 x2 x3 x4 := rfl
theorem cb5_e {α1 α2 α3 α4 α5 β : Type} (x1 : α1) (x2 : α2) (x3 : α3) (x4 : α4) (x5 : α5) (k : α1 → α2 → α3 → α4 → α5 → Option β) : sq_cb5 (some (x1, x2, x3, x4, x5)) k = k x1 x2 x3 x4 x5 := rfl
theorem cb7_e {α1 α2 α3 α4 α5 α6 α7 β : Type} (x1 : α1) (x2 : α2) (x3 : α3) (x4 : α4) (x5 : α5) (x6 : α6) (x7 : α7) (k : α1 → α2 → α3 → α4 → α5 → α6 → α7 → Option β) : sq_cb7 (some (x1, x2, x3, x4, x5, x6, x7)) k = k x1 x2 x3 x4 x5 x6 x7 := rfl
theorem cb8_e {α1 α2 α3 α4 α5 α6 α7 α8 β : Type} (x1 : α1) (x2 : α2) (x3 : α3) (x4 : α4) (x5 : α5) (x6 : α6) (x7 : α7) (x8 : α8) (k : α1 → α2 → α3 → α4 → α5 → α6 → α7 → α8 → Option β) : sq_cb8 (some (x1, x2, x3, x4, x5, x6, x7, x8)) k = k x1 x2 x3 x4 x5 x6 x7 x8 := rfl
theorem cb9_e {α1 α2 α3 α4 α5 α6 α7 α8 α9 β : Type} (x1 : α1) (x2 : α2) (x3 : α3) (x4 : α4) (x5 : α5) (x6 : α6) (x7 : α7) (x8 : α8) (x9 : α9) (k : α1 → α2 → α3 → α4 → α5 → α6 → α7 → α8 → α9 → Option β) : sq_cb9 (some (x1, x2, x3, x4, x5, x6, x7, x8, x9)) k = k x1 x2 x3 x4 x5 x6 x7 x8 x9 := rfl
theorem cb10_e {α1 α2 α3 α4 α5 α6 α7 α8 α9 α10 β : Type} (x1 : α1) (x2 : α2) (x3 : α3) (x4 : α4) (x5 : α5) (x6 : α6) (x7 : α7) (x8 : α8) (x9 : α9) (x10 : α10) (k : α1 → α2 → α3 → α4 → α5 → α6 → α7 → α8 → α9 → α10 → Option β) : sq_cb10 (some (x1, x2, x3, x4, x5, x6, x7, x8, x9, x10)) k = k x1 x2 x3 x4 x5 x6 x7 x8 x9 x10 := rfl
theorem cb19_e {α1 α2 α3 α4 α5 α6 α7 α8 α9 α10 α11 α12 α13 α14 α15 α16 α17 α18 α19 β : Type} (x1 : α1) (x2 : α2) (x3 : α3) (x4 : α4) (x5 : α5) (x6 : α6) (x7 : α7) (x8 : α8) (x9 : α9) (x10 : α10) (x11 : α11) (x12 : α12) (x13 : α13) (x14 : α14) (x15 : α15) (x16 : α16) (x17 : α17) (x18 : α18) (x19 : α19) (k : α1 → α2 → α3 → α4 → α5 → α6 → α7 → α8 → α9 → α10 → α11 → α12 → α13 → α14 → α15 → α16 → α17 → α18 → α19 → Option β) : sq_cb19 (some (x1, x2, x3, x4, x5, x6, x7, x8, x9, x10, x11, x12, x13, x14, x15, x16, x17, x18, x19)) k = k x1 x2 x3 x4 x5 x6 x7 x8 x9 x10 x11 x12 x13 x14 x15 x16 x17 x18 x19 := rfl
theorem cb20_e {α1 α2 α3 α4 α5 α6 α7 α8 α9 α10 α11 α12 α13 α14 α15 α16 α17 α18 α19 α20 β : Type} (x1 : α1) (x2 : α2) (x3 : α3) (x4 : α4) (x5 : α5) (x6 : α6) (x7 : α7) (x8 : α8) (x9 : α9) (x10 : α10) (x11 : α11) (x12 : α12) (x13 : α13) (x14 : α14) (x15 : α15) (x16 : α16) (x17 : α17) (x18 : α18) (x19 : α19) (x20 : α20) (k : α1 → α2 → α3 → α4 → α5 → α6 → α7 → α8 → α9 → α10 → α11 → α12 → α13 → α14 → α15 → α16 → α17 → α18 → α19 → α20 → Option β) : sq_cb20 (some (x1, x2, x3, x4, x5, x6, x7, x8, x9, x10, x11, x12, x13, x14, x15, x16, x17, x18, x19, x20)) k = k x1 x2 x3 x4 x5 x6 x7 x8 x9 x10 x11 x12 x13 x14 x15 x16 x17 x18 x19 x20 := rfl
theorem cb36_e {α1 α2 α3 α4 α5 α6 α7 α8 α9 α10 α11 α12 α13 α14 α15 α16 α17 α18 α19 α20 α21 α22 α23 α24 α25 α26 α27 α28 α29 α30 α31 α32 α33 α34 α35 α36 β : Type} (x1 : α1) (x2 : α2) (x3 : α3) (x4 : α4) (x5 : α5) (x6 : α6) (x7 : α7) (x8 : α8) (x9 : α9) (x10 : α10) (x11 : α11) (x12 : α12) (x13 : α13) (x14 : α14) (x15 : α15) (x16 : α16) (x17 : α17) (x18 : α18) (x19 : α19) (x20 : α20) (x21 : α21) (x22 : α22) (x23 : α23) (x24 : α24) (x25 : α25) (x26 : α26) (x27 : α27) (x28 : α28) (x29 : α29) (x30 : α30) (x31 : α31) (x32 : α32) (x33 : α33) (x34 : α34) (x35 : α35) (x36 : α36) (k : α1 → α2 → α3 → α4 → α5 → α6 → α7 → α8 → α9 → α10 → α11 → α12 → α13 → α14 → α15 → α16 → α17 → α18 → α19 → α20 → α21 → α22 → α23 → α24 → α25 → α26 → α27 → α28 → α29 → α30 → α31 → α32 → α33 → α34 → α35 → α36 → Option β) : sq_cb36 (some (x1, x2, x3, x4, x5, x6, x7, x8, x9, x10, x11, x12, x13, x14, x15, x16, x17, x18, x19, x20, x21, x22, x23, x24, x25, x26, x27, x28, x29, x30, x31, x32, x33, x34, x35, x36)) k = k x1 x2 x3 x4 x5 x6 x7 x8 x9 x10 x11 x12 x13 x14 x15 x16 x17 x18 x19 x20 x21 x22 x23 x24 x25 x26 x27 x28 x29 x30 x31 x32 x33 x34 x35 x36 := rfl
theorem cb38_e {α1 α2 α3 α4 α5 α6 α7 α8 α9 α10 α11 α12 α13 α14 α15 α16 α17 α18 α19 α20 α21 α22 α23 α24 α25 α26 α27 α28 α29 α30 α31 α32 α33 α34 α35 α36 α37 α38 β : Type} (x1 : α1) (x2 : α2) (x3 : α3) (x4 : α4) (x5 : α5) (x6 : α6) (x7 : α7) (x8 : α8) (x9 : α9) (x10 : α10) (x11 : α11) (x12 : α12) (x13 : α13) (x14 : α14) (x15 : α15) (x16 : α16) (x17 : α17) (x18 : α18) (x19 : α19) (x20 : α20) (x21 : α21) (x22 : α22) (x23 : α23) (x24 : α24) (x25 : α25) (x26 : α26) (x27 : α27) (x28 : α28) (x29 : α29) (x30 : α30) (x31 : α31) (x32 : α32) (x33 : α33) (x34 : α34) (x35 : α35) (x36 : α36) (x37 : α37) (x38 : α38) (k : α1 → α2 → α3 → α4 → α5 → α6 → α7 → α8 → α9 → α10 → α11 → α12 → α13 → α14 → α15 → α16 → α17 → α18 → α19 → α20 → α21 → α22 → α23 → α24 → α25 → α26 → α27 → α28 → α29 → α30 → α31 → α32 → α33 → α34 → α35 → α36 → α37 → α38 → Option β) : sq_cb38 (some (x1, x2, x3, x4, x5, x6, x7, x8, x9, x10, x11, x12, x13, x14, x15, x16, x17, x18, x19, x20, x21, x22, x23, x24, x25, x26, x27, x28, x29, x30, x31, x32, x33, x34, x35, x36, x37, x38)) k = k x1 x2 x3 x4 x5 x6 x7 x8 x9 x10 x11 x12 x13 x14 x15 x16 x17 x18 x19 x20 x21 x22 x23 x24 x25 x26 x27 x28 x29 x30 x31 x32 x33 x34 x35 x36 x37 x38 := rfl
theorem cb39_e {α1 α2 α3 α4 α5 α6 α7 α8 α9 α10 α11 α12 α13 α14 α15 α16 α17 α18 α19 α20 α21 α22 α23 α24 α25 α26 α27 α28 α29 α30 α31 α32 α33 α34 α35 α36 α37 α38 α39 β : Type} (x1 : α1) (x2 : α2) (x3 : α3) (x4 : α4) (x5 : α5) (x6 : α6) (x7 : α7) (x8 : α8) (x9 : α9) (x10 : α10) (x11 : α11) (x12 : α12) (x13 : α13) (x14 : α14) (x15 : α15) (x16 : α16) (x17 : α17) (x18 : α18) (x19 : α19) (x20 : α20) (x21 : α21) (x22 : α22) (x23 : α23) (x24 : α24) (x25 : α25) (x26 : α26) (x27 : α27) (x28 : α28) (x29 : α29) (x30 : α30) (x31 : α31) (x32 : α32) (x33 : α33) (x34 : α34) (x35 : α35) (x36 : α36) (x37 : α37) (x38 : α38) (x39 : α39) (k : α1 → α2 → α3 → α4 → α5 → α6 → α7 → α8 → α9 → α10 → α11 → α12 → α13 → α14 → α15 → α16 → α17 → α18 → α19 → α20 → α21 → α22 → α23 → α24 → α25 → α26 → α27 → α28 → α29 → α30 → α31 → α32 → α33 → α34 → α35 → α36 → α37 → α38 → α39 → Option β) : sq_cb39 (some (x1, x2, x3, x4, x5, x6, x7, x8, x9, x10, x11, x12, x13, x14, x15, x16, x17, x18, x19, x20, x21, x22, x23, x24, x25, x26, x27, x28, x29, x30, x31, x32, x33, x34, x35, x36, x37, x38, x39)) k = k x1 x2 x3 x4 x5 x6 x7 x8 x9 x10 x11 x12 x13 x14 x15 x16 x17 x18 x19 x20 x21 x22 x23 x24 x25 x26 x27 x28 x29 x30 x31 x32 x33 x34 x35 x36 x37 x38 x39 := rfl
theorem gi_04 {β : Type} (k : Option β) : sq_gi (0 : Int32) 4 k = k := rfl
theorem gi_14 {β : Type} (k : Option β) : sq_gi (1 : Int32) 4 k = k := rfl
theorem gi_24 {β : Type} (k : Option β) : sq_gi (2 : Int32) 4 k = k := rfl
theorem gi_34 {β : Type} (k : Option β) : sq_gi (3 : Int32) 4 k = k := rfl
theorem lk_x : ∀ j : Nat, j < 32 → (ni j >>> ((3 : Int32) &&& 31)) ^^^ (1 : Int32) = ni ((j / 8) ^^^ 1) ∧ ni j &&& (7 : Int32) = ni (j % 8) ∧ ni j >>> ((3 : Int32) &&& 31) = ni (j / 8) ∧ (j / 8) ^^^ 1 < 4 ∧ (if ni (j / 8) = (1 : Int32) then (0 : Int32) else (if ni (j / 8) = 0 then (1 : Int32) else (if ni (j / 8) = (3 : Int32) then (2 : Int32) else (3 : Int32)))) = ni ((j / 8) ^^^ 1) := by decide +kernel
theorem of_side : ∀ v : Nat, v < 41 → fn_Version_ofSide (ni (sd v)) = some (ni v) := by decide +kernel
theorem rdcp {a1 a2 a3 a4 a5 a6 a7 a8 a9 : Nat → Int32} {x25 y27 y28 : Int32} {rb b39 : Nat → Int32} {s : Nat} {out : Nat → Nat} (hs : s ≤ 3000) (ho : oM rb s out) : ∀ (e i m : Nat) (dt : Nat → Int32), i + e = s → e < m → oM dt i out → ∃ dt', fn_Md_read_L1 a1 a2 a3 a4 a5 a6 a7 a8 a9 x25 (ni s) y27 y28 rb b39 m (ni i) dt = some (ni s, 0, ni s, ni s, y27, x25, y28, 1, a3, a4, dt', a1, a5, rb, b39, a6, a7, a8, a9, a2) ∧ oM dt' s out
  | 0, i, m + 1, dt, hi, _, h => by
    obtain rfl : i = s := by omega
    refine ⟨dt, ?_, h⟩
    rw [fn_Md_read_L1_s, if_pos ((ni_le (by omega) (by omega)).mpr (Nat.le_refl _))]
  | e + 1, i, m + 1, dt, hi, hm, h => by
    obtain ⟨dt', r1, r2⟩ := rdcp (a1 := a1) (a2 := a2) (a3 := a3) (a4 := a4) (a5 := a5) (a6 := a6) (a7 := a7) (a8 := a8) (a9 := a9) (x25 := x25) (y27 := y27) (y28 := y28) (b39 := b39) hs ho e (i + 1) m (upd dt i (rb i)) (by omega) (by omega) (fun j hj => by
      rw [upd_a]
      by_cases z : j = i
      · rw [if_pos z, z]; exact ho i (by omega)
      · rw [if_neg z]; exact h j (by omega))
    refine ⟨dt', ?_, r2⟩
    rw [fn_Md_read_L1_s, if_neg (fun z => absurd ((ni_le (by omega) (by omega)).mp z) (by omega)), ni_gi (by omega) (by omega), ← r1]
    simp only [sq_bd]
    rw [ni_gi (by omega) (by omega), ni_ix (by omega), show (1 : Int32) = ni 1 from rfl, ni_add]
set_option maxHeartbeats 4000000 in
theorem rd_both {mb mc lg pw fo byc db mn1 mn2 mn3 mn4 mn5 mn6 mn7 : Nat → Int32} {mr sw dw fw : Nat → Int64} {blk bym dt fx md pls rb rd slv sys trd vls wd : Nat → Int32} {n0 v : Nat} {iR lf cw1 cw2 cw3 cw4 cw5 cw6 cw7 cw8 cw9 cw10 fr1 fr2 fr3 fr4 pa1 pa2 pa3 pa4 ds fds ffs th len rl ma mal flt gd : Int32} {P : Nat → Nat → Bool} (hn0 : 40000 ≤ n0) (T : MT mb mc) (F : FD lg pw) (hv : v < 41) (hv1 : 1 ≤ v) (hG : GR sw (sd v) P) (hM : MG fx md (sd v) (FX v) P) (hI : WI wd) : (∃ (f : Nat), f ≤ 6 ∧ f ≠ 0 ∧ (∃ cw1' cw2' cw3' cw4' cw5' cw6' cw7' cw8' cw9' cw10' fr1' fr2' fr3' fr4' pa1' pa2' pa3' pa4' byc' fds' ffs' mr' mn1' mn2' mn3' mn4' mn5' mn6' mn7' sw' dw' fw', fn_Sq_read n0 iR lf cw1 cw2 cw3 cw4 cw5 cw6 cw7 cw8 cw9 cw10 ds fo fr1 fr2 fr3 fr4 pa1 pa2 pa3 pa4 (ni (sd v)) byc db fds ffs mr mn1 mn2 mn3 mn4 mn5 mn6 mn7 sw lg pw dw fw = some (-1, 0, ni f, cw1', cw2', cw3', cw4', cw5', cw6', cw7', cw8', cw9', cw10', ds, fo, fr1', fr2', fr3', fr4', pa1', pa2', pa3', pa4', byc', db, fds', ffs', mr', mn1', mn2', mn3', mn4', mn5', mn6', mn7', sw', dw', fw') ∧ GR sw' (sd v) P) ∧ ∃ rl' ma' mal' blk' bym' pls' rb' rd' slv' sys' trd' vls' wd', fn_Md_read n0 th len (ni v) (ni (sd v)) rl ma mal flt gd blk mb bym mc dt fx md pls rb rd slv sys trd vls wd = some (-1, 0, len, rl', ma', mal', ni f, 0, blk', bym', dt, md, pls', rb', rd', slv', sys', trd', vls', wd') ∧ WI wd') ∨ (∃ (s : Nat) (out : Nat → Nat) (a0 a1 a2 a3 : Int32), s ≤ 3000 ∧ (∃ db' cw1' cw2' cw3' cw4' cw5' cw6' cw7' cw8' cw9' cw10' fr1' fr2' fr3' fr4' pa1' pa2' pa3' pa4' byc' fds' ffs' mr' mn1' mn2' mn3' mn4' mn5' mn6' mn7' sw' dw' fw', fn_Sq_read n0 iR lf cw1 cw2 cw3 cw4 cw5 cw6 cw7 cw8 cw9 cw10 ds fo fr1 fr2 fr3 fr4 pa1 pa2 pa3 pa4 (ni (sd v)) byc db fds ffs mr mn1 mn2 mn3 mn4 mn5 mn6 mn7 sw lg pw dw fw = some (ni s, 1, 0, cw1', cw2', cw3', cw4', cw5', cw6', cw7', cw8', cw9', cw10', ni s, upd (upd (upd (upd fo 0 a0) 1 a1) 2 a2) 3 a3, fr1', fr2', fr3', fr4', pa1', pa2', pa3', pa4', byc', db', fds', ffs', mr', mn1', mn2', mn3', mn4', mn5', mn6', mn7', sw', dw', fw') ∧ GR sw' (sd v) P ∧ oC db' s out) ∧ ∃ dt' rl' ma' mal' blk' bym' pls' rb' rd' slv' sys' trd' vls' wd', fn_Md_read n0 th len (ni v) (ni (sd v)) rl ma mal flt gd blk mb bym mc dt fx md pls rb rd slv sys trd vls wd = some (ni s, 0, ni s, rl', ma', mal', 0, 1, blk', bym', dt', md, pls', rb', rd', slv', sys', trd', vls', wd') ∧ WI wd' ∧ oM dt' s out ∧ rd' 0 = a0 ∧ rd' 1 = a1 ∧ rd' 2 = a2 ∧ rd' 3 = a3) := by
  have hs1 := sd_ge hv1
  have hs2 := sd_le hv
  have hMR : MR md (sd v) P := fun a b ha hb => (hM a b ha hb).1
  have cfn := cl_fn (n0 := n0) (by omega) hs1 hs2 hG
  have mfn := md_fn (n0 := n0) (by omega) hs1 hs2 hMR
  have e0 : ¬ ni (sd v) = 0 := by rw [← ni_0, ni_eq (by omega) (by omega)]; omega
  have e1 : ¬ ni v = 0 := by rw [← ni_0, ni_eq (by omega) (by omega)]; omega
  cases hF : FN P (sd v) with
  | none =>
    have cfn' : fn_Frame_formNumber n0 (ni (sd v)) sw = some (-1) := by rw [cfn, hF]
    have mfn' : fn_Md_formNumberRead n0 (ni (sd v)) md = some (-1) := by rw [mfn, hF]
    have hc : fn_Sq_read n0 iR lf cw1 cw2 cw3 cw4 cw5 cw6 cw7 cw8 cw9 cw10 ds fo fr1 fr2 fr3 fr4 pa1 pa2 pa3 pa4 (ni (sd v)) byc db fds ffs mr mn1 mn2 mn3 mn4 mn5 mn6 mn7 sw lg pw dw fw = some (-1, 0, 1, cw1, cw2, cw3, cw4, cw5, cw6, cw7, cw8, cw9, cw10, ds, fo, fr1, fr2, fr3, fr4, pa1, pa2, pa3, pa4, byc, db, fds, ffs, mr, mn1, mn2, mn3, mn4, mn5, mn6, mn7, sw, dw, fw) := by
      unfold fn_Sq_read fn_Grid_side
      rw [cb1_e, if_neg e0, cb1_e, of_side v hv, cb1_e]
      unfold fn_Sq_readSymbol
      rw [cfn', cb1_e, if_pos rfl, cb36_e, if_neg (by decide)]
    have hm : fn_Md_read n0 th len (ni v) (ni (sd v)) rl ma mal flt gd blk mb bym mc dt fx md pls rb rd slv sys trd vls wd = some (-1, 0, len, rl, ma, mal, 1, 0, blk, bym, dt, md, pls, rb, rd, slv, sys, trd, vls, wd) := by
      unfold fn_Md_read
      rw [if_neg e1, mfn', cb1_e, if_neg (by decide)]
    exact .inl ⟨1, by omega, by omega, ⟨_, _, _, _, _, _, _, _, _, _, _, _, _, _, _, _, _, _, _, _, _, _, _, _, _, _, _, _, _, _, _, _, hc, hG⟩, ⟨_, _, _, _, _, _, _, _, _, _, _, _, _, hm, hI⟩⟩
  | some j =>
    have cfn' : fn_Frame_formNumber n0 (ni (sd v)) sw = some (ni j) := by rw [cfn, hF]
    have mfn' : fn_Md_formNumberRead n0 (ni (sd v)) md = some (ni j) := by rw [mfn, hF]
    have hj := FN_lt hF
    obtain ⟨x1, x2, x3, x4, x5⟩ := lk_x j hj
    have hk : j % 8 < 8 := by omega
    generalize hl : (j / 8) ^^^ 1 = l at *
    generalize hkk : j % 8 = k at *
    obtain ⟨z1, z2, z3, z4, z5, z6, z7, z8, z9, z10, z11, z12⟩ := vr_nu l x4 v hv hv1
    have hV := vn_ok x4 hv hv1
    obtain ⟨wd', u1, u2, w, u3, u4⟩ := md_up (k := k) (n0 := n0) (by omega) hv hv1 hk hM hI
    obtain ⟨dw', fw', l1, l2, l3⟩ := cl_frame (dw := dw) (fw := fw) (a1 := fr1) (a2 := fds) (a3 := ffs) (n0 := n0) (by omega) hv hv1
    have l4 : GR fw' (sd v) (FX v) := GR_cg l3 (fun a b ha hb => by
      show decide (qC v a b ≠ 0) = decide (qM v a b ≠ 0)
      rw [decide_eq_decide]; exact (qCM hv hv1 ha hb).1)
    obtain ⟨mr', w1, w2, n', x', y', by1, u, t1, t2, t3, t4, t5, t6, t7⟩ := cl_take (l := l) (mr := mr) (by0 := byc) (a0 := fr2) (a1 := fr3) (a2 := fr4) (n0 := n0) hn0 x4 hv hv1 hk l4 hG (fun i hi => (u3 i hi).2) u4
    obtain ⟨r, by2, k1, k2, k3, k4, k5, k6, k7, m1, m2⟩ := cl_mendAll (lg := lg) (pv := pw) (W := w) (u := u) (n0 := n0) (by omega) F hV (by omega) z10 (blk := mn1) (ev := mn2) (kept := mn3) (loc := mn4) (old := mn5) (pls := mn6) (syn := mn7) t6 t7
    obtain ⟨r', blk', bym', pls', slv', sys', trd', vls', q1, q2⟩ := md_allBlocks (W := w) (wd := wd') (n0 := n0) T (by omega) x4 hv hv1 u3 blk bym pls slv sys trd vls
    have hcb := (vr_ck l x4 v hv hv1).2.2.2
    have hbg := cl_begin (a0 := cw1) (a1 := cw2) (a2 := cw3) (a3 := cw4) (a4 := cw5) (a5 := cw6) (a6 := cw7) (a7 := cw8) (a8 := cw9) (a9 := cw10) x4 hv hv1
    have nj : ¬ ni j = -1 := by rw [ni_m1 (by omega)]; exact id
    have pj : 0 ≤ ni j := by rw [← ni_0, ni_le (by omega) (by omega)]; omega
    have hjl : ∀ K : Int32 → Option (Int32 × Int32 × Int32 × Int32 × Int32 × Int32 × Int32 × Int32 × (Nat → Int32) × (Nat → Int32) × (Nat → Int32) × (Nat → Int32) × (Nat → Int32) × (Nat → Int32) × (Nat → Int32) × (Nat → Int32) × (Nat → Int32) × (Nat → Int32) × (Nat → Int32) × (Nat → Int32)), sq_jn K (fun k7 => if ni (j / 8) = (1 : Int32) then (k7 (0 : Int32)) else (if ni (j / 8) = 0 then (k7 (1 : Int32)) else (if ni (j / 8) = (3 : Int32) then (k7 (2 : Int32)) else (k7 (3 : Int32))))) = K (ni l) := fun K => by
      rw [← x5]
      simp only [sq_jn]
      split
      · rfl
      · split
        · rfl
        · split <;> rfl
    have bad : r = -1 ∧ r' = -1 ∨ ∃ (T' : Nat) (D : Nat → Nat), r = ni T' ∧ r' = ni T' ∧ T' < 2147483648 ∧ cb by2 (nH l v + nB l v * nK l v) D ∧ ∀ p : Nat, p < nH l v → bym' p = ni (D p) ∧ D p < 256 := by
      rcases m2 with ⟨Tc, u', rfl, c1, c2⟩ | ⟨rfl, c, c1, c2⟩
      · rcases q2 with ⟨Tm, D', rfl, d1, d2⟩ | ⟨rfl, c, c1', c2'⟩
        · obtain ⟨g1, g2⟩ := AB_1 hV z10 _ _ _ _ _ c2 d1
          have hle := AB_le _ _ _ c2
          have hle2 : nB l v * nE l v ≤ 81 * 15 := Nat.mul_le_mul z2 z9
          exact .inr ⟨Tc, u', rfl, by rw [g1], by omega, c1, fun p hp => ⟨by rw [d2 p hp, ← g2 p (by rw [str_H hV]; exact hp)], (c1 p (by omega)).2⟩⟩
        · exact absurd c2 (AB_no c2' _ _ _ c1')
      · rcases q2 with ⟨Tm, D', rfl, d1, d2⟩ | ⟨rfl, c', c1', c2'⟩
        · exact absurd d1 (AB_no c2 _ _ _ c1)
        · exact .inl ⟨rfl, rfl⟩
    rcases bad with ⟨rfl, rfl⟩ | ⟨T', D, rfl, rfl, hT', hD1, hD2⟩
    · have hc : fn_Sq_read n0 iR lf cw1 cw2 cw3 cw4 cw5 cw6 cw7 cw8 cw9 cw10 ds fo fr1 fr2 fr3 fr4 pa1 pa2 pa3 pa4 (ni (sd v)) byc db fds ffs mr mn1 mn2 mn3 mn4 mn5 mn6 mn7 sw lg pw dw fw = some (-1, 0, 2, ni v, ni (acw v), ni (nH l v), ni (nB l v), ni (nK l v), ni (nS l v), ni (nM l v), 0, 0, 0, ds, fo, ni (sd v), n', x', y', pa1, pa2, pa3, pa4, by2, db, ni (sd v), ni (sd v), mr', k1, k2, k3, k4, k5, k6, k7, w2, dw', fw') := by
        unfold fn_Sq_read fn_Grid_side
        rw [cb1_e, if_neg e0, cb1_e, of_side v hv, cb1_e]
        unfold fn_Sq_readSymbol
        rw [cfn', cb1_e, if_neg nj]
        simp only [sq_bd]
        rw [x1, x2, hbg, cb10_e, l1, cb5_e, t1, cb1_e, t2, cb1_e, t3, cb4_e, t4, cb1_e, hcb, cb1_e, m1, cb9_e]
        rw [if_pos rfl, cb36_e, if_neg (by decide)]
      have hm : fn_Md_read n0 th len (ni v) (ni (sd v)) rl ma mal flt gd blk mb bym mc dt fx md pls rb rd slv sys trd vls wd = some (-1, 0, len, rl, ma, mal, 2, 0, blk', bym', dt, md, pls', rb, rd, slv', sys', trd', vls', wd') := by
        unfold fn_Md_read
        rw [if_neg e1, mfn', cb1_e, if_pos pj]
        simp only [sq_bd]
        rw [x3, hjl, (vr_cw v hv hv1).2, cb1_e, x2, u1, cb2_e, q1, cb8_e]
        rw [if_neg (by decide)]
      exact .inl ⟨2, by omega, by omega, ⟨_, _, _, _, _, _, _, _, _, _, _, _, _, _, _, _, _, _, _, _, _, _, _, _, _, _, _, _, _, _, _, _, hc, t5⟩, ⟨_, _, _, _, _, _, _, _, _, _, _, _, _, hm, u2⟩⟩
    · have nT : ¬ ni T' = -1 := by rw [ni_m1 hT']; exact id
      have pT : 0 ≤ ni T' := by rw [← ni_0, ni_le (by omega) hT']; omega
      obtain ⟨p2, p3, p4, hp⟩ := cl_p2 (a1 := pa1) (a2 := pa2) (a3 := pa3) (a4 := pa4) (D := D) (v := v) (H := nH l v) (N := nH l v + nB l v * nK l v) (n0 := n0) hn0 hv hv1 (by omega) (by omega) (by omega) hD1
      obtain ⟨s1, y1, rb', rd', hs, hs'⟩ := md_segs (rb := rb) (rd := rd) (D := D) (v := v) (H := nH l v) (n0 := n0) hn0 hv hv1 (by omega) hD2
      have hfb : (sl0 D (nH l v) (rk v)).1 ≤ 6 := sl_b _ _ _ _ _
      have h8 : (8 : Int32) * ni (nH l v) = ni (8 * nH l v) := by rw [show (8 : Int32) = ni 8 from rfl, ni_mul]
      by_cases hf : (sl0 D (nH l v) (rk v)).1 = 0
      · obtain ⟨v1, v2, v3⟩ := hs' hf
        obtain ⟨p5, p6, db', hd, hd2, hd3⟩ := cl_pD (tb := db) (a1 := ni v) (a2 := p2) (a3 := p3) (a4 := p4) (D := D) (v := v) (H := nH l v) (N := nH l v + nB l v * nK l v) (n0 := n0) hn0 hv hv1 (by omega) (by omega) (by omega) hD1 hf
        obtain ⟨dt', hcp, hcp2⟩ := rdcp (a1 := md) (a2 := wd') (a3 := blk') (a4 := bym') (a5 := pls') (a6 := slv') (a7 := sys') (a8 := trd') (a9 := vls') (x25 := ni (8 * nH l v)) (y27 := y1) (y28 := 0) (rb := rb') (b39 := upd (upd (upd rd' 0 (ni l)) 1 (ni k)) 2 (ni T')) hd3 v3 (sl0 D (nH l v) (rk v)).2.1 0 n0 dt (by omega) (by omega) (fun j hj => absurd hj (by omega))
        have hc : fn_Sq_read n0 iR lf cw1 cw2 cw3 cw4 cw5 cw6 cw7 cw8 cw9 cw10 ds fo fr1 fr2 fr3 fr4 pa1 pa2 pa3 pa4 (ni (sd v)) byc db fds ffs mr mn1 mn2 mn3 mn4 mn5 mn6 mn7 sw lg pw dw fw = some (ni (sl0 D (nH l v) (rk v)).2.1, 1, 0, ni v, ni (acw v), ni (nH l v), ni (nB l v), ni (nK l v), ni (nS l v), ni (nM l v), 0, 0, 0, ni (sl0 D (nH l v) (rk v)).2.1, upd (upd (upd (upd fo 0 (ni l)) 1 (ni k)) 2 (ni T')) 3 (ni (sl0 D (nH l v) (rk v)).2.2.1), ni (sd v), n', x', y', ni v, p5, p6, ni (sl0 D (nH l v) (rk v)).2.2.1, by2, db', ni (sd v), ni (sd v), mr', k1, k2, k3, k4, k5, k6, k7, w2, dw', fw') := by
          unfold fn_Sq_read fn_Grid_side
          rw [cb1_e, if_neg e0, cb1_e, of_side v hv, cb1_e]
          unfold fn_Sq_readSymbol
          rw [cfn', cb1_e, if_neg nj]
          simp only [sq_bd]
          rw [x1, x2, hbg, cb10_e, l1, cb5_e, t1, cb1_e, t2, cb1_e, t3, cb4_e, t4, cb1_e, hcb, cb1_e, m1, cb9_e]
          rw [if_neg nT, hp, cb5_e, if_pos (by rw [hf]; rfl)]
          unfold fn_Data_clear
          rw [cb1_e, hd, cb7_e]
          unfold fn_Parser_segments
          rw [cb1_e, gi_04, gi_14, gi_24, gi_34, cb36_e, if_pos rfl]
          unfold fn_Data_size
          rw [cb1_e]
          rfl
        have hm : fn_Md_read n0 th len (ni v) (ni (sd v)) rl ma mal flt gd blk mb bym mc dt fx md pls rb rd slv sys trd vls wd = some (ni (sl0 D (nH l v) (rk v)).2.1, 0, ni (sl0 D (nH l v) (rk v)).2.1, ni (sl0 D (nH l v) (rk v)).2.1, y1, ni (8 * nH l v), 0, 1, blk', bym', dt', md, pls', rb', upd (upd (upd rd' 0 (ni l)) 1 (ni k)) 2 (ni T'), slv', sys', trd', vls', wd') := by
          unfold fn_Md_read
          rw [if_neg e1, mfn', cb1_e, if_pos pj]
          simp only [sq_bd]
          rw [x3, hjl, (vr_cw v hv hv1).2, cb1_e, x2, u1, cb2_e, q1, cb8_e]
          rw [if_pos pT, md_holds T x4 hv hv1, cb1_e]
          rw [h8, hs, cb5_e, if_pos (by rw [hf]; decide)]
          rw [v1, hf, ← hcp, gi_04, gi_14, gi_24]
          rfl
        refine .inr ⟨(sl0 D (nH l v) (rk v)).2.1, _, ni l, ni k, ni T', ni (sl0 D (nH l v) (rk v)).2.2.1, hd3, ⟨db', _, _, _, _, _, _, _, _, _, _, _, _, _, _, _, _, _, _, _, _, _, _, _, _, _, _, _, _, _, _, _, _, hc, t5, hd2⟩, ⟨dt', _, _, _, _, _, _, _, _, _, _, _, _, _, hm, u2, hcp2, ?_, ?_, ?_, ?_⟩⟩
        · rw [upd_a, upd_a, upd_a]; rfl
        · rw [upd_a, upd_a]; rfl
        · rw [upd_a]; rfl
        · rw [v2, upd_a, upd_a, upd_a, upd_a]; rfl
      · have hc : fn_Sq_read n0 iR lf cw1 cw2 cw3 cw4 cw5 cw6 cw7 cw8 cw9 cw10 ds fo fr1 fr2 fr3 fr4 pa1 pa2 pa3 pa4 (ni (sd v)) byc db fds ffs mr mn1 mn2 mn3 mn4 mn5 mn6 mn7 sw lg pw dw fw = some (-1, 0, ni (sl0 D (nH l v) (rk v)).1, ni v, ni (acw v), ni (nH l v), ni (nB l v), ni (nK l v), ni (nS l v), ni (nM l v), 0, 0, 0, ds, fo, ni (sd v), n', x', y', ni v, p2, p3, p4, by2, db, ni (sd v), ni (sd v), mr', k1, k2, k3, k4, k5, k6, k7, w2, dw', fw') := by
          unfold fn_Sq_read fn_Grid_side
          rw [cb1_e, if_neg e0, cb1_e, of_side v hv, cb1_e]
          unfold fn_Sq_readSymbol
          rw [cfn', cb1_e, if_neg nj]
          simp only [sq_bd]
          rw [x1, x2, hbg, cb10_e, l1, cb5_e, t1, cb1_e, t2, cb1_e, t3, cb4_e, t4, cb1_e, hcb, cb1_e, m1, cb9_e]
          rw [if_neg nT, hp, cb5_e, if_neg (by rw [← ni_0, ni_eq (by omega) (by omega)]; exact hf), cb36_e, if_neg (by rw [← ni_0, ni_eq (by omega) (by omega)]; exact hf)]
        have hm : fn_Md_read n0 th len (ni v) (ni (sd v)) rl ma mal flt gd blk mb bym mc dt fx md pls rb rd slv sys trd vls wd = some (-1, 0, len, s1, y1, ni (8 * nH l v), ni (sl0 D (nH l v) (rk v)).1, 0, blk', bym', dt, md, pls', rb', rd', slv', sys', trd', vls', wd') := by
          unfold fn_Md_read
          rw [if_neg e1, mfn', cb1_e, if_pos pj]
          simp only [sq_bd]
          rw [x3, hjl, (vr_cw v hv hv1).2, cb1_e, x2, u1, cb2_e, q1, cb8_e]
          rw [if_pos pT, md_holds T x4 hv hv1, cb1_e]
          rw [h8, hs, cb5_e, if_neg (by rw [← ni_0, ni_le (by omega) (by omega)]; omega)]
        exact .inl ⟨(sl0 D (nH l v) (rk v)).1, hfb, hf, ⟨_, _, _, _, _, _, _, _, _, _, _, _, _, _, _, _, _, _, _, _, _, _, _, _, _, _, _, _, _, _, _, _, hc, t5⟩, ⟨_, _, _, _, _, _, _, _, _, _, _, _, _, hm, u2⟩⟩
