def fn_Division_rewind (vt_from : Int32) (vt_next : Int32) (vt_state : Int32) : Option (Int32 × Int32 × Int32) :=
  some ((0 : Int32), (0 : Int32), (6 : Int32))
abbrev ww_Division_rewind (qt qt_choices qt_bitsBehind qt_bitsHere qt_freshBits : Nat) (vt_size : Int32) (vt_from : Int32) (vt_next : Int32) (vt_mode : Int32) (vt_state : Int32) : va_W := [(qt, .inr (1, [.ref qt_choices, .ref qt_bitsBehind, .ref qt_bitsHere, .ref qt_freshBits, .int vt_size, .int vt_from, .int vt_next, .int vt_mode, .int vt_state]))]

def rm_Division_rewind : Room := { frames := 0, cells := 0, slots := 0, locals := 0 }
abbrev qc_Division_rewind (dC : Nat → ClassId) (dI : Nat → Nat → Nat) (A : Nat → Prop) (qt qt_choices qt_bitsBehind qt_bitsHere qt_freshBits : Nat) (vt_size : Int32) (vt_from : Int32) (vt_next : Int32) (vt_mode : Int32) (vt_state : Int32) : Array Value → State → Outcome → State → Prop := va_Qv (fun (_ : Unit) => True) (fun _ t => va_P (dC, dI) cl_All (ww_Division_rewind qt qt_choices qt_bitsBehind qt_bitsHere qt_freshBits vt_size vt_from vt_next vt_mode vt_state) t.heap ∧ va_D A (ww_Division_rewind qt qt_choices qt_bitsBehind qt_bitsHere qt_freshBits vt_size vt_from vt_next vt_mode vt_state)) A

set_option maxHeartbeats 4000000 in
set_option maxRecDepth 100000 in
theorem kt_Division_rewind (l : Launch) (dC : Nat → ClassId) (dI : Nat → Nat → Nat) (qt qt_choices qt_bitsBehind qt_bitsHere qt_freshBits : Nat) (vt_size : Int32) (vt_from : Int32) (vt_next : Int32) (vt_mode : Int32) (vt_state : Int32) (sz : Nat) (nvt_from : Int32) (nvt_next : Int32) (nvt_state : Int32) (Hf : fn_Division_rewind vt_from vt_next vt_state = some (nvt_from, nvt_next, nvt_state)) : Met l y_Division_rewind w_Division_rewind rm_Division_rewind (va_Pc [.ref qt] (fun U => U.heap.size = sz ∧ va_P (dC, dI) cl_All (ww_Division_rewind qt qt_choices qt_bitsBehind qt_bitsHere qt_freshBits vt_size vt_from vt_next vt_mode vt_state) U.heap ∧ va_K (dC, dI) cl_All [] U ∧ va_D (fun _ => True) (ww_Division_rewind qt qt_choices qt_bitsBehind qt_bitsHere qt_freshBits vt_size vt_from vt_next vt_mode vt_state))) (qc_Division_rewind dC dI (va_A (ww_Division_rewind qt qt_choices qt_bitsBehind qt_bitsHere qt_freshBits vt_size vt_from vt_next vt_mode vt_state) sz) qt qt_choices qt_bitsBehind qt_bitsHere qt_freshBits vt_size nvt_from nvt_next vt_mode nvt_state) 0 0 (va_A (ww_Division_rewind qt qt_choices qt_bitsBehind qt_bitsHere qt_freshBits vt_size vt_from vt_next vt_mode vt_state) sz) := by
  refine Met.ofW (cc := prog_4_method_6_code) (maxL := 1) (ret := none) (by decide) rfl ?_
  intro p e s m args below meth c s₁ B hml hv
  obtain ⟨rfl, hsz, hP, hK, hD0⟩ := hv
  have hx := B.exec; have hb := B.bytes; have hr := B.returns; have hlocks := B.notSynchronized
  have ht : ∀ w ∈ lw_g, w.before _ s = true := fun w h => atoms_spec (ws := w_Division_rewind) B.pre w (List.mem_cons_of_mem _ h)
  have hown : s.vm.findClass "SquareSymbols$Division" = some m.cls := findClass_of_methodNamed B.named
  subst hsz
  have hD := hD0.self (sz := s.heap.size)
  generalize hAe : va_A (ww_Division_rewind qt qt_choices qt_bitsBehind qt_bitsHere qt_freshBits vt_size vt_from vt_next vt_mode vt_state) s.heap.size = A at hD ⊢
  have hA : ∀ q : Nat, s.heap.size ≤ q → A q := fun q h => by rw [← hAe]; exact Or.inr h
  have hS : va_S A s.heap s.heap [] := va_S.rf
  have hl := lv_entry ([.ref qt]) (n := 1) (Nat.le_of_ble_eq_true rfl)
  rw [lg_entry_eq]
  generalize (lg_sl ([.ref qt]) ++ List.replicate (1 - (lg_sl ([.ref qt])).length) Slot.unset).toArray = ls at hl ⊢
  have hl : lv_has ls 1 [(0, .ref qt)] := hl
  refine lv_aload_n hx hb d_Division_rewind_0 rfl (lv_at hl 0 rfl) ?_
  refine lv_iconst (v := (0 : Int32)) hx hb d_Division_rewind_1 (by decide) ?_
  refine va_put (D := (dC, dI)) (ci := 1) (v := .int (0 : Int32)) (ty := .int) (C := R_Division) (T := F_Division) (N := 9) hx hb ht i_Division t_Division t_Division_ok n_Division hown hK hP hD hS 0 rfl rfl 5 (by decide) (ht _ tb_75) (fun _ h9 => h9) rfl (by decide +kernel) rfl rfl (Nat.le_of_ble_eq_true rfl) d_Division_rewind_2 (fun H locs hP hD hS => ?_)
  replace hP : va_P (dC, dI) cl_All (ww_Division_rewind qt qt_choices qt_bitsBehind qt_bitsHere qt_freshBits vt_size (0 : Int32) vt_next vt_mode vt_state) H := hP
  replace hD : va_D A (ww_Division_rewind qt qt_choices qt_bitsBehind qt_bitsHere qt_freshBits vt_size (0 : Int32) vt_next vt_mode vt_state) := hD
  refine lv_aload_n hx hb d_Division_rewind_5 rfl (lv_at hl 0 rfl) ?_
  refine lv_iconst (v := (0 : Int32)) hx hb d_Division_rewind_6 (by decide) ?_
  refine va_put (D := (dC, dI)) (ci := 1) (v := .int (0 : Int32)) (ty := .int) (C := R_Division) (T := F_Division) (N := 9) hx hb ht i_Division t_Division t_Division_ok n_Division hown hK hP hD hS 0 rfl rfl 6 (by decide) (ht _ tb_76) (fun _ h9 => h9) rfl (by decide +kernel) rfl rfl (Nat.le_of_ble_eq_true rfl) d_Division_rewind_7 (fun H locs hP hD hS => ?_)
  replace hP : va_P (dC, dI) cl_All (ww_Division_rewind qt qt_choices qt_bitsBehind qt_bitsHere qt_freshBits vt_size (0 : Int32) (0 : Int32) vt_mode vt_state) H := hP
  replace hD : va_D A (ww_Division_rewind qt qt_choices qt_bitsBehind qt_bitsHere qt_freshBits vt_size (0 : Int32) (0 : Int32) vt_mode vt_state) := hD
  refine lv_aload_n hx hb d_Division_rewind_10 rfl (lv_at hl 0 rfl) ?_
  refine lv_bipush (v := (6 : Int32)) hx hb d_Division_rewind_11 (by decide) ?_
  refine va_put (D := (dC, dI)) (ci := 1) (v := .int (6 : Int32)) (ty := .int) (C := R_Division) (T := F_Division) (N := 9) hx hb ht i_Division t_Division t_Division_ok n_Division hown hK hP hD hS 0 rfl rfl 8 (by decide) (ht _ tb_78) (fun _ h9 => h9) rfl (by decide +kernel) rfl rfl (Nat.le_of_ble_eq_true rfl) d_Division_rewind_13 (fun H locs hP hD hS => ?_)
  replace hP : va_P (dC, dI) cl_All (ww_Division_rewind qt qt_choices qt_bitsBehind qt_bitsHere qt_freshBits vt_size (0 : Int32) (0 : Int32) vt_mode (6 : Int32)) H := hP
  replace hD : va_D A (ww_Division_rewind qt qt_choices qt_bitsBehind qt_bitsHere qt_freshBits vt_size (0 : Int32) (0 : Int32) vt_mode (6 : Int32)) := hD
  obtain ⟨rfl, rfl, rfl⟩ := sq_so3 Hf
  exact W.vret hx hb hr (fun t ht hW => ⟨⟨(), rfl, trivial, by rw [ht]; exact hP, hD⟩, hS.F ht⟩) hS.2.2 d_Division_rewind_16

def fn_Sq_item (p2 : Int32) (lenp1 : Nat) (vp1 : Nat → Int32) : Option (Int32) :=
  if p2 < 0 then (some ((0 : Int32))) else (if (Int32.ofNat lenp1) ≤ p2 then (some ((0 : Int32))) else (sq_gi p2 lenp1 <| sq_bd (vp1 p2.toNatClampNeg) fun x4 => some (x4)))
abbrev ww_Sq_item (qp1 : Nat) (cp1 : ClassId) (lenp1 : Nat) (vp1 : Nat → Int32) : va_W := [(qp1, .inl (cp1, lenp1, .inl vp1))]

def rm_Sq_item : Room := { frames := 0, cells := 0, slots := 0, locals := 0 }
abbrev qc_Sq_item (r0 : Int32) : Array Value → State → Outcome → State → Prop := vp_Si (fun r => r = r0)

set_option maxHeartbeats 4000000 in
set_option maxRecDepth 100000 in
theorem kt_Sq_item (l : Launch) (dC : Nat → ClassId) (dI : Nat → Nat → Nat) (qp1 : Nat) (cp1 : ClassId) (lenp1 : Nat) (vp1 : Nat → Int32) (p2 : Int32) (r0 : Int32) (Hf : fn_Sq_item p2 lenp1 vp1 = some r0) : Met l y_Sq_item w_Sq_item rm_Sq_item (va_Pc [.ref qp1, .int p2] (fun U => va_P (dC, dI) cl_All (ww_Sq_item qp1 cp1 lenp1 vp1) U.heap ∧ va_K (dC, dI) cl_All [(cp1, .int)] U)) (qc_Sq_item r0) 0 0 (fun _ => False) := by
  refine Met.ofW (cc := prog_1_method_20_code) (maxL := 2) (ret := (some .int)) (by decide) rfl ?_
  intro p e s m args below meth c s₁ B hml hv
  obtain ⟨rfl, hP, hK⟩ := hv
  have hx := B.exec; have hb := B.bytes; have hr := B.returns; have hlocks := B.notSynchronized
  have ht : ∀ w ∈ lw_g, w.before _ s = true := fun w h => atoms_spec (ws := w_Sq_item) B.pre w (List.mem_cons_of_mem _ h)
  have hown : s.vm.findClass "SquareSymbols" = some m.cls := findClass_of_methodNamed B.named
  have hl := lv_entry ([.ref qp1, .int p2]) (n := 2) (Nat.le_of_ble_eq_true rfl)
  rw [lg_entry_eq]
  generalize (lg_sl ([.ref qp1, .int p2]) ++ List.replicate (2 - (lg_sl ([.ref qp1, .int p2])).length) Slot.unset).toArray = ls at hl ⊢
  have hl : lv_has ls 2 [(0, .ref qp1), (1, .int p2)] := hl
  refine lv_iload_n hx hb d_Sq_item_0 rfl (lv_at hl 1 rfl) ?_
  refine lv_if_lt (tgt := 16) hx hb d_Sq_item_1 (by decide) (fun c1 => ?_) (fun c1 => ?_)
  · replace Hf := sq_ite_t Hf c1
    refine lv_iconst (v := (0 : Int32)) hx hb d_Sq_item_16 (by decide) ?_
    have er := Option.some.inj Hf
    exact W.iret hx hb hr (fun t ht hW => ⟨_, rfl, er, ht⟩) (fun q h => by cases h) d_Sq_item_17
  · replace Hf := sq_ite_f Hf c1
    refine lv_iload_n hx hb d_Sq_item_4 rfl (lv_at hl 1 rfl) ?_
    refine lv_aload_n hx hb d_Sq_item_5 rfl (lv_at hl 0 rfl) ?_
    refine va_alen hx hb hK hP 0 0 rfl rfl (v := Int32.ofNat lenp1) rfl d_Sq_item_6 ?_
    refine lv_icmp_ge (tgt := 16) hx hb d_Sq_item_7 (by decide) (fun c2 => ?_) (fun c2 => ?_)
    · replace Hf := sq_ite_t Hf c2
      refine lv_iconst (v := (0 : Int32)) hx hb d_Sq_item_16 (by decide) ?_
      have er := Option.some.inj Hf
      exact W.iret hx hb hr (fun t ht hW => ⟨_, rfl, er, ht⟩) (fun q h => by cases h) d_Sq_item_17
    · replace Hf := sq_ite_f Hf c2
      refine lv_aload_n hx hb d_Sq_item_10 rfl (lv_at hl 0 rfl) ?_
      refine lv_iload_n hx hb d_Sq_item_11 rfl (lv_at hl 1 rfl) ?_
      obtain ⟨hi3, Hf⟩ := sq_gi_e Hf
      refine va_iald hx hb hK hP 0 0 rfl rfl hi3 d_Sq_item_12 ?_
      obtain ⟨x4, ex4, Hf⟩ := sq_bd_e Hf
      refine sq_top ex4 ?_
      refine lv_goto (tgt := 17) hx hb d_Sq_item_13 (by decide) ?_
      have er := Option.some.inj Hf
      exact W.iret hx hb hr (fun t ht hW => ⟨_, rfl, er, ht⟩) (fun q h => by cases h) d_Sq_item_17

def fn_Division_chooseModes_L2 (vt_bitsBehind : Nat → Int32) (b1 : Nat → Int32) (x9 : Int32) (k14 : Int32 → Int32 → Option (Int32 × (Nat → Int32) × (Nat → Int32) × (Nat → Int32))) : Nat → Int32 → Int32 → Int32 → Option (Int32 × (Nat → Int32) × (Nat → Int32) × (Nat → Int32))
  | 0, _, _, _ => none
  | m2 + 1, x19, x20, x21 => if (3 : Int32) ≤ x21 then (k14 x19 x20) else (sq_gi x9 7 <| sq_bd (tv_MODE x9.toNatClampNeg) fun x24 => sq_jn (fun (x25 : Int32) => sq_jn (fun (x27 : Int32) (x28 : Int32) => sq_bd (x21 + (1 : Int32)) fun x30 => fn_Division_chooseModes_L2 vt_bitsBehind b1 x9 k14 m2 x27 x28 x30) fun k29 => if x20 ≤ x25 then (k29 x19 x20) else (k29 x21 x25)) fun k26 => if x21 = x24 then (sq_gi x9 7 <| sq_bd (tv_NEXT_BITS x9.toNatClampNeg) fun x36 => sq_gi x9 7 <| sq_bd (tv_NEXT x9.toNatClampNeg) fun x38 => sq_gi x38 7 <| sq_bd (vt_bitsBehind x38.toNatClampNeg) fun x40 => k26 (x36 + x40)) else (sq_gi x21 3 <| sq_bd (b1 x21.toNatClampNeg) fun x34 => k26 x34))
theorem fn_Division_chooseModes_L2_s (vt_bitsBehind : Nat → Int32) (b1 : Nat → Int32) (x9 : Int32) (k14 : Int32 → Int32 → Option (Int32 × (Nat → Int32) × (Nat → Int32) × (Nat → Int32))) (m2 : Nat) (x19 : Int32) (x20 : Int32) (x21 : Int32) : fn_Division_chooseModes_L2 vt_bitsBehind b1 x9 k14 (m2 + 1) x19 x20 x21 = if (3 : Int32) ≤ x21 then (k14 x19 x20) else (sq_gi x9 7 <| sq_bd (tv_MODE x9.toNatClampNeg) fun x24 => sq_jn (fun (x25 : Int32) => sq_jn (fun (x27 : Int32) (x28 : Int32) => sq_bd (x21 + (1 : Int32)) fun x30 => fn_Division_chooseModes_L2 vt_bitsBehind b1 x9 k14 m2 x27 x28 x30) fun k29 => if x20 ≤ x25 then (k29 x19 x20) else (k29 x21 x25)) fun k26 => if x21 = x24 then (sq_gi x9 7 <| sq_bd (tv_NEXT_BITS x9.toNatClampNeg) fun x36 => sq_gi x9 7 <| sq_bd (tv_NEXT x9.toNatClampNeg) fun x38 => sq_gi x38 7 <| sq_bd (vt_bitsBehind x38.toNatClampNeg) fun x40 => k26 (x36 + x40)) else (sq_gi x21 3 <| sq_bd (b1 x21.toNatClampNeg) fun x34 => k26 x34)) := rfl
def fn_Division_chooseModes_L1 (p1 : Int32) (n0 : Nat) (vt_bitsBehind : Nat → Int32) (b1 : Nat → Int32) (k5 : Int32 → (Nat → Int32) → Option (Int32 × (Nat → Int32) × (Nat → Int32) × (Nat → Int32))) : Nat → Int32 → Int32 → (Nat → Int32) → Option (Int32 × (Nat → Int32) × (Nat → Int32) × (Nat → Int32))
  | 0, _, _, _ => none
  | m1 + 1, x8, x9, b10 => if (6 : Int32) < x9 then (k5 x8 b10) else (sq_jn (fun (x12 : Int32) (x13 : Int32) => sq_gi x9 7 <| sq_bd (upd b10 x9.toNatClampNeg x13) fun b16 => sq_bd (x8 ||| (x12 <<< (((2 : Int32) * x9) &&& 31))) fun x17 => sq_bd (x9 + (1 : Int32)) fun x18 => fn_Division_chooseModes_L1 p1 n0 vt_bitsBehind b1 k5 m1 x17 x18 b16) fun k14 => fn_Division_chooseModes_L2 vt_bitsBehind b1 x9 k14 n0 (2 : Int32) (1073741824 : Int32) p1)
theorem fn_Division_chooseModes_L1_s (p1 : Int32) (n0 : Nat) (vt_bitsBehind : Nat → Int32) (b1 : Nat → Int32) (k5 : Int32 → (Nat → Int32) → Option (Int32 × (Nat → Int32) × (Nat → Int32) × (Nat → Int32))) (m1 : Nat) (x8 : Int32) (x9 : Int32) (b10 : Nat → Int32) : fn_Division_chooseModes_L1 p1 n0 vt_bitsBehind b1 k5 (m1 + 1) x8 x9 b10 = if (6 : Int32) < x9 then (k5 x8 b10) else (sq_jn (fun (x12 : Int32) (x13 : Int32) => sq_gi x9 7 <| sq_bd (upd b10 x9.toNatClampNeg x13) fun b16 => sq_bd (x8 ||| (x12 <<< (((2 : Int32) * x9) &&& 31))) fun x17 => sq_bd (x9 + (1 : Int32)) fun x18 => fn_Division_chooseModes_L1 p1 n0 vt_bitsBehind b1 k5 m1 x17 x18 b16) fun k14 => fn_Division_chooseModes_L2 vt_bitsBehind b1 x9 k14 n0 (2 : Int32) (1073741824 : Int32) p1) := rfl
def fn_Division_chooseModes_L3 (p2 : Int32) (vt_bitsBehind : Nat → Int32) (k2 : (Nat → Int32) → Option (Int32 × (Nat → Int32) × (Nat → Int32) × (Nat → Int32))) : Nat → Int32 → (Nat → Int32) → Option (Int32 × (Nat → Int32) × (Nat → Int32) × (Nat → Int32))
  | 0, _, _ => none
  | m3 + 1, x41, b42 => if (3 : Int32) ≤ x41 then (k2 b42) else (sq_cb1 (fn_Version_countBits x41 p2) fun r44 => sq_cb1 (fn_Mode_groupBits x41 (1 : Int32)) fun r46 => sq_bd (((4 : Int32) + r44) + r46) fun x48 => sq_cb1 (fn_Sq_item_p1T x41 3 tv_FIRST) fun r49 => sq_cb1 (fn_Sq_item r49 7 vt_bitsBehind) fun r51 => sq_bd (x48 + r51) fun x53 => sq_gi x41 3 <| sq_bd (upd b42 x41.toNatClampNeg x53) fun b55 => sq_bd (x41 + (1 : Int32)) fun x56 => fn_Division_chooseModes_L3 p2 vt_bitsBehind k2 m3 x56 b55)
theorem fn_Division_chooseModes_L3_s (p2 : Int32) (vt_bitsBehind : Nat → Int32) (k2 : (Nat → Int32) → Option (Int32 × (Nat → Int32) × (Nat → Int32) × (Nat → Int32))) (m3 : Nat) (x41 : Int32) (b42 : Nat → Int32) : fn_Division_chooseModes_L3 p2 vt_bitsBehind k2 (m3 + 1) x41 b42 = if (3 : Int32) ≤ x41 then (k2 b42) else (sq_cb1 (fn_Version_countBits x41 p2) fun r44 => sq_cb1 (fn_Mode_groupBits x41 (1 : Int32)) fun r46 => sq_bd (((4 : Int32) + r44) + r46) fun x48 => sq_cb1 (fn_Sq_item_p1T x41 3 tv_FIRST) fun r49 => sq_cb1 (fn_Sq_item r49 7 vt_bitsBehind) fun r51 => sq_bd (x48 + r51) fun x53 => sq_gi x41 3 <| sq_bd (upd b42 x41.toNatClampNeg x53) fun b55 => sq_bd (x41 + (1 : Int32)) fun x56 => fn_Division_chooseModes_L3 p2 vt_bitsBehind k2 m3 x56 b55) := rfl
def fn_Division_chooseModes (n0 : Nat) (p1 : Int32) (p2 : Int32) (vt_bitsBehind : Nat → Int32) (vt_bitsHere : Nat → Int32) (vt_freshBits : Nat → Int32) : Option (Int32 × (Nat → Int32) × (Nat → Int32) × (Nat → Int32)) :=
  sq_jn (fun (b1 : Nat → Int32) => sq_jn (fun (x3 : Int32) (b4 : Nat → Int32) => sq_gc (0 : Int32) (0 : Int32) (7 : Int32) 7 7 <| sq_bd (va_cpy b4 vt_bitsBehind (0 : Int32).toNatClampNeg (0 : Int32).toNatClampNeg (7 : Int32).toNatClampNeg) fun b7 => some (x3, b7, b4, b1)) fun k5 => fn_Division_chooseModes_L1 p1 n0 vt_bitsBehind b1 k5 n0 (0 : Int32) (0 : Int32) vt_bitsHere) fun k2 => fn_Division_chooseModes_L3 p2 vt_bitsBehind k2 n0 p1 vt_freshBits
abbrev ww_Division_chooseModes (qt qt_bitsBehind qt_bitsHere qt_freshBits qt_choices : Nat) (ct_bitsBehind ct_bitsHere ct_freshBits : ClassId) (vt_size : Int32) (vt_from : Int32) (vt_next : Int32) (vt_mode : Int32) (vt_state : Int32) (vt_bitsBehind : Nat → Int32) (vt_bitsHere : Nat → Int32) (vt_freshBits : Nat → Int32) : va_W := [(qt, .inr (1, [.ref qt_choices, .ref qt_bitsBehind, .ref qt_bitsHere, .ref qt_freshBits, .int vt_size, .int vt_from, .int vt_next, .int vt_mode, .int vt_state])), (qt_bitsBehind, .inl (ct_bitsBehind, 7, .inl vt_bitsBehind)), (qt_bitsHere, .inl (ct_bitsHere, 7, .inl vt_bitsHere)), (qt_freshBits, .inl (ct_freshBits, 3, .inl vt_freshBits))]

def rm_Division_chooseModes : Room := { frames := 2, cells := 0, slots := 0, locals := 42 }
abbrev qc_Division_chooseModes (dC : Nat → ClassId) (dI : Nat → Nat → Nat) (A : Nat → Prop) (r0 : Int32) (qt qt_bitsBehind qt_bitsHere qt_freshBits qt_choices : Nat) (ct_bitsBehind ct_bitsHere ct_freshBits : ClassId) (vt_size : Int32) (vt_from : Int32) (vt_next : Int32) (vt_mode : Int32) (vt_state : Int32) (vt_bitsBehind : Nat → Int32) (vt_bitsHere : Nat → Int32) (vt_freshBits : Nat → Int32) : Array Value → State → Outcome → State → Prop := va_Qi (fun r (_ : Unit) => r = r0) (fun _ t => va_P (dC, dI) cl_All (ww_Division_chooseModes qt qt_bitsBehind qt_bitsHere qt_freshBits qt_choices ct_bitsBehind ct_bitsHere ct_freshBits vt_size vt_from vt_next vt_mode vt_state vt_bitsBehind vt_bitsHere vt_freshBits) t.heap ∧ va_D A (ww_Division_chooseModes qt qt_bitsBehind qt_bitsHere qt_freshBits qt_choices ct_bitsBehind ct_bitsHere ct_freshBits vt_size vt_from vt_next vt_mode vt_state vt_bitsBehind vt_bitsHere vt_freshBits)) A

set_option maxHeartbeats 4000000 in
set_option maxRecDepth 100000 in
theorem kt_Division_chooseModes (l : Launch) (dC : Nat → ClassId) (dI : Nat → Nat → Nat) (qt qt_bitsBehind qt_bitsHere qt_freshBits qt_choices : Nat) (ct_bitsBehind ct_bitsHere ct_freshBits : ClassId) (vt_size : Int32) (vt_from : Int32) (vt_next : Int32) (vt_mode : Int32) (vt_state : Int32) (vt_bitsBehind : Nat → Int32) (vt_bitsHere : Nat → Int32) (vt_freshBits : Nat → Int32) (p1 : Int32) (p2 : Int32) (tt : Nat → Nat) (sz : Nat) (n0 : Nat) (r0 : Int32) (nvt_bitsBehind : Nat → Int32) (nvt_bitsHere : Nat → Int32) (nvt_freshBits : Nat → Int32) (Hf : fn_Division_chooseModes n0 p1 p2 vt_bitsBehind vt_bitsHere vt_freshBits = some (r0, nvt_bitsBehind, nvt_bitsHere, nvt_freshBits)) : Met l y_Division_chooseModes w_Division_chooseModes rm_Division_chooseModes (va_Pc [.ref qt, .int p1, .int p2] (fun U => U.heap.size = sz ∧ va_P (dC, dI) cl_All (ww_Division_chooseModes qt qt_bitsBehind qt_bitsHere qt_freshBits qt_choices ct_bitsBehind ct_bitsHere ct_freshBits vt_size vt_from vt_next vt_mode vt_state vt_bitsBehind vt_bitsHere vt_freshBits) U.heap ∧ va_K (dC, dI) cl_All [(ct_bitsBehind, .int), (ct_bitsHere, .int), (ct_freshBits, .int)] U ∧ va_D (fun _ => True) (ww_Division_chooseModes qt qt_bitsBehind qt_bitsHere qt_freshBits qt_choices ct_bitsBehind ct_bitsHere ct_freshBits vt_size vt_from vt_next vt_mode vt_state vt_bitsBehind vt_bitsHere vt_freshBits) ∧ sx_T tt (va_A (ww_Division_chooseModes qt qt_bitsBehind qt_bitsHere qt_freshBits qt_choices ct_bitsBehind ct_bitsHere ct_freshBits vt_size vt_from vt_next vt_mode vt_state vt_bitsBehind vt_bitsHere vt_freshBits) sz) U U.heap)) (qc_Division_chooseModes dC dI (va_A (ww_Division_chooseModes qt qt_bitsBehind qt_bitsHere qt_freshBits qt_choices ct_bitsBehind ct_bitsHere ct_freshBits vt_size vt_from vt_next vt_mode vt_state vt_bitsBehind vt_bitsHere vt_freshBits) sz) r0 qt qt_bitsBehind qt_bitsHere qt_freshBits qt_choices ct_bitsBehind ct_bitsHere ct_freshBits vt_size vt_from vt_next vt_mode vt_state nvt_bitsBehind nvt_bitsHere nvt_freshBits) 0 0 (va_A (ww_Division_chooseModes qt qt_bitsBehind qt_bitsHere qt_freshBits qt_choices ct_bitsBehind ct_bitsHere ct_freshBits vt_size vt_from vt_next vt_mode vt_state vt_bitsBehind vt_bitsHere vt_freshBits) sz) := by
  refine Met.ofW (cc := prog_4_method_3_code) (maxL := 9) (ret := (some .int)) (by decide) rfl ?_
  intro p e s m args below meth c s₁ B hml hv
  obtain ⟨rfl, hsz, hP, hK, hD0, hX⟩ := hv
  have hx := B.exec; have hb := B.bytes; have hr := B.returns; have hlocks := B.notSynchronized
  have ht : ∀ w ∈ lw_g, w.before _ s = true := fun w h => atoms_spec (ws := w_Division_chooseModes) B.pre w (List.mem_cons_of_mem _ h)
  have hown : s.vm.findClass "SquareSymbols$Division" = some m.cls := findClass_of_methodNamed B.named
  subst hsz
  have hD := hD0.self (sz := s.heap.size)
  generalize hAe : va_A (ww_Division_chooseModes qt qt_bitsBehind qt_bitsHere qt_freshBits qt_choices ct_bitsBehind ct_bitsHere ct_freshBits vt_size vt_from vt_next vt_mode vt_state vt_bitsBehind vt_bitsHere vt_freshBits) s.heap.size = A at hD hX ⊢
  have hA : ∀ q : Nat, s.heap.size ≤ q → A q := fun q h => by rw [← hAe]; exact Or.inr h
  have hS : va_S A s.heap s.heap [] := va_S.rf
  have hl := lv_entry ([.ref qt, .int p1, .int p2]) (n := 9) (Nat.le_of_ble_eq_true rfl)
  rw [lg_entry_eq]
  generalize (lg_sl ([.ref qt, .int p1, .int p2]) ++ List.replicate (9 - (lg_sl ([.ref qt, .int p1, .int p2])).length) Slot.unset).toArray = ls at hl ⊢
  have hl : lv_has ls 9 [(0, .ref qt), (1, .int p1), (2, .int p2)] := hl
  refine lv_iload_n hx hb d_Division_chooseModes_0 rfl (lv_at hl 1 rfl) ?_
  refine lv_istore_n (lv' := [(3, .int p1), (0, .ref qt), (1, .int p1), (2, .int p2)]) hx hb d_Division_chooseModes_1 rfl hl (by decide) rfl (fun ls hl => ?_)
  obtain ⟨k2, hk2, Hf⟩ := sq_jn_e Hf
  have Jk2 : ∀ (b1 : Nat → Int32), k2 b1 = some (r0, nvt_bitsBehind, nvt_bitsHere, nvt_freshBits) → ∀ (H : Heap) (locs : List Loc), va_P (dC, dI) cl_All (ww_Division_chooseModes qt qt_bitsBehind qt_bitsHere qt_freshBits qt_choices ct_bitsBehind ct_bitsHere ct_freshBits vt_size vt_from vt_next vt_mode vt_state vt_bitsBehind vt_bitsHere b1) H → va_D A (ww_Division_chooseModes qt qt_bitsBehind qt_bitsHere qt_freshBits qt_choices ct_bitsBehind ct_bitsHere ct_freshBits vt_size vt_from vt_next vt_mode vt_state vt_bitsBehind vt_bitsHere b1) → va_S A s.heap H locs → ∀ ls : Array Slot, lv_has ls 9 [(0, .ref qt), (1, .int p1)] → W p l e (headSpec w_Division_chooseModes rm_Division_chooseModes).room s m (([.ref qt, .int p1, .int p2] : List Value).toArray) below meth c H locs 0 0 (MQ below (qc_Division_chooseModes dC dI A r0 qt qt_bitsBehind qt_bitsHere qt_freshBits qt_choices ct_bitsBehind ct_bitsHere ct_freshBits vt_size vt_from vt_next vt_mode vt_state nvt_bitsBehind nvt_bitsHere nvt_freshBits) (([.ref qt, .int p1, .int p2] : List Value).toArray) s 0 0 A) (F0 m 51 ls []) := by
    intro b1 Hf H locs  hP hD hS ls hl
    rw [hk2] at Hf
    refine lv_iconst (v := (0 : Int32)) hx hb d_Division_chooseModes_51 (by decide) ?_
    refine lv_istore_n (lv' := [(3, .int (0 : Int32)), (0, .ref qt), (1, .int p1)]) hx hb d_Division_chooseModes_52 rfl hl (by decide) rfl (fun ls hl => ?_)
    refine lv_iconst (v := (0 : Int32)) hx hb d_Division_chooseModes_53 (by decide) ?_
    refine lv_istore (lv' := [(4, .int (0 : Int32)), (3, .int (0 : Int32)), (0, .ref qt), (1, .int p1)]) hx hb d_Division_chooseModes_54 hl (by decide) rfl (fun ls hl => ?_)
    obtain ⟨k5, hk5, Hf⟩ := sq_jn_e Hf
    have Jk5 : ∀ (x3 : Int32) (b4 : Nat → Int32), k5 x3 b4 = some (r0, nvt_bitsBehind, nvt_bitsHere, nvt_freshBits) → ∀ (H : Heap) (locs : List Loc), va_P (dC, dI) cl_All (ww_Division_chooseModes qt qt_bitsBehind qt_bitsHere qt_freshBits qt_choices ct_bitsBehind ct_bitsHere ct_freshBits vt_size vt_from vt_next vt_mode vt_state vt_bitsBehind b4 b1) H → va_D A (ww_Division_chooseModes qt qt_bitsBehind qt_bitsHere qt_freshBits qt_choices ct_bitsBehind ct_bitsHere ct_freshBits vt_size vt_from vt_next vt_mode vt_state vt_bitsBehind b4 b1) → va_S A s.heap H locs → ∀ ls : Array Slot, lv_has ls 9 [(0, .ref qt), (3, .int x3)] → W p l e (headSpec w_Division_chooseModes rm_Division_chooseModes).room s m (([.ref qt, .int p1, .int p2] : List Value).toArray) below meth c H locs 0 0 (MQ below (qc_Division_chooseModes dC dI A r0 qt qt_bitsBehind qt_bitsHere qt_freshBits qt_choices ct_bitsBehind ct_bitsHere ct_freshBits vt_size vt_from vt_next vt_mode vt_state nvt_bitsBehind nvt_bitsHere nvt_freshBits) (([.ref qt, .int p1, .int p2] : List Value).toArray) s 0 0 A) (F0 m 166 ls []) := by
      intro x3 b4 Hf H locs  hP hD hS ls hl
      rw [hk5] at Hf
      refine lv_aload_n hx hb d_Division_chooseModes_166 rfl (lv_at hl 0 rfl) ?_
      refine va_get (D := (dC, dI)) (ci := 1) (v := .ref qt_bitsHere) (C := R_Division) (T := F_Division) (N := 9) hx hb ht i_Division hown hK hP 0 rfl rfl 2 (by decide) (ht _ tb_72) (fun _ h9 => h9) rfl d_Division_chooseModes_167 ?_
      refine lv_iconst (v := (0 : Int32)) hx hb d_Division_chooseModes_170 (by decide) ?_
      refine lv_aload_n hx hb d_Division_chooseModes_171 rfl (lv_at hl 0 rfl) ?_
      refine va_get (D := (dC, dI)) (ci := 1) (v := .ref qt_bitsBehind) (C := R_Division) (T := F_Division) (N := 9) hx hb ht i_Division hown hK hP 0 rfl rfl 1 (by decide) (ht _ tb_71) (fun _ h9 => h9) rfl d_Division_chooseModes_172 ?_
      refine lv_iconst (v := (0 : Int32)) hx hb d_Division_chooseModes_175 (by decide) ?_
      refine lv_aload_n hx hb d_Division_chooseModes_176 rfl (lv_at hl 0 rfl) ?_
      refine va_get (D := (dC, dI)) (ci := 1) (v := .ref qt_bitsHere) (C := R_Division) (T := F_Division) (N := 9) hx hb ht i_Division hown hK hP 0 rfl rfl 2 (by decide) (ht _ tb_72) (fun _ h9 => h9) rfl d_Division_chooseModes_177 ?_
      refine va_alen hx hb hK hP 2 1 rfl rfl (v := (7 : Int32)) rfl d_Division_chooseModes_180 ?_
      obtain ⟨⟨hp61, hp62, hp63, hp64, hp65⟩, Hf⟩ := sq_gc_e Hf
      obtain ⟨b7, eb7, Hf⟩ := sq_bd_e Hf
      refine va_copyi hx hb (by rw [hml]; exact hl.1.symm) hown (ht _ tb_889) (ht _ tb_574) (ht _ tb_573) (ht _ tb_25) hK hP hD hS 2 1 1 0 rfl rfl rfl rfl rfl hp61 hp62 hp63 hp64 hp65 (fun _ _ => rfl) (Nat.le_of_ble_eq_true rfl) (Nat.le_of_ble_eq_true rfl) d_Division_chooseModes_181 (fun H locs hP hD hS => ?_)
      rw [← eb7] at hP hD
      replace hP : va_P (dC, dI) cl_All (ww_Division_chooseModes qt qt_bitsBehind qt_bitsHere qt_freshBits qt_choices ct_bitsBehind ct_bitsHere ct_freshBits vt_size vt_from vt_next vt_mode vt_state b7 b4 b1) H := hP
      replace hD : va_D A (ww_Division_chooseModes qt qt_bitsBehind qt_bitsHere qt_freshBits qt_choices ct_bitsBehind ct_bitsHere ct_freshBits vt_size vt_from vt_next vt_mode vt_state b7 b4 b1) := hD
      refine lv_iload_n hx hb d_Division_chooseModes_184 rfl (lv_at hl 1 rfl) ?_
      obtain ⟨rfl, rfl, rfl, rfl⟩ := sq_so4 Hf
      exact W.iret hx hb hr (fun t ht hW => ⟨⟨_, (), rfl, rfl, by rw [ht]; exact hP, hD⟩, hS.F ht⟩) hS.2.2 d_Division_chooseModes_185
    have L1 : ∀ (m1 : Nat), ∀ (x8 : Int32) (x9 : Int32) (b10 : Nat → Int32), fn_Division_chooseModes_L1 p1 n0 vt_bitsBehind b1 k5 m1 x8 x9 b10 = some (r0, nvt_bitsBehind, nvt_bitsHere, nvt_freshBits) → ∀ (H : Heap) (locs : List Loc), va_P (dC, dI) cl_All (ww_Division_chooseModes qt qt_bitsBehind qt_bitsHere qt_freshBits qt_choices ct_bitsBehind ct_bitsHere ct_freshBits vt_size vt_from vt_next vt_mode vt_state vt_bitsBehind b10 b1) H → va_D A (ww_Division_chooseModes qt qt_bitsBehind qt_bitsHere qt_freshBits qt_choices ct_bitsBehind ct_bitsHere ct_freshBits vt_size vt_from vt_next vt_mode vt_state vt_bitsBehind b10 b1) → va_S A s.heap H locs → ∀ ls : Array Slot, lv_has ls 9 [(0, .ref qt), (1, .int p1), (3, .int x8), (4, .int x9)] → W p l e (headSpec w_Division_chooseModes rm_Division_chooseModes).room s m (([.ref qt, .int p1, .int p2] : List Value).toArray) below meth c H locs 0 0 (MQ below (qc_Division_chooseModes dC dI A r0 qt qt_bitsBehind qt_bitsHere qt_freshBits qt_choices ct_bitsBehind ct_bitsHere ct_freshBits vt_size vt_from vt_next vt_mode vt_state nvt_bitsBehind nvt_bitsHere nvt_freshBits) (([.ref qt, .int p1, .int p2] : List Value).toArray) s 0 0 A) (F0 m 56 ls []) := by
      intro m1
      induction m1 with
      | zero => intro x8 x9 b10 Hf; exact sq_none Hf
      | succ m1 ih1 =>
        intro x8 x9 b10 Hf H locs  hP hD hS ls hl
        replace Hf := (fn_Division_chooseModes_L1_s p1 n0 vt_bitsBehind b1 k5 m1 x8 x9 b10).symm.trans Hf
        refine lv_iload hx hb d_Division_chooseModes_56 (lv_at hl 3 rfl) ?_
        refine lv_bipush (v := (6 : Int32)) hx hb d_Division_chooseModes_58 (by decide) ?_
        refine lv_icmp_gt (tgt := 166) hx hb d_Division_chooseModes_60 (by decide) (fun c11 => ?_) (fun c11 => ?_)
        · replace Hf := sq_ite_t Hf c11
          exact Jk5 x8 b10 Hf _ _  hP hD hS _ (lv_sub hl [0, 2] rfl)
        · replace Hf := sq_ite_f Hf c11
          refine lv_iconst (v := (2 : Int32)) hx hb d_Division_chooseModes_63 (by decide) ?_
          refine lv_istore (lv' := [(5, .int (2 : Int32)), (0, .ref qt), (1, .int p1), (3, .int x8), (4, .int x9)]) hx hb d_Division_chooseModes_64 hl (by decide) rfl (fun ls hl => ?_)
          refine lv_ldc (v := (1073741824 : Int32)) hx hb hown (ht _ tb_882) d_Division_chooseModes_66 ?_
          refine lv_istore (lv' := [(6, .int (1073741824 : Int32)), (5, .int (2 : Int32)), (0, .ref qt), (1, .int p1), (3, .int x8), (4, .int x9)]) hx hb d_Division_chooseModes_68 hl (by decide) rfl (fun ls hl => ?_)
          refine lv_iload_n hx hb d_Division_chooseModes_70 rfl (lv_at hl 3 rfl) ?_
          refine lv_istore (lv' := [(7, .int p1), (6, .int (1073741824 : Int32)), (5, .int (2 : Int32)), (0, .ref qt), (1, .int p1), (3, .int x8), (4, .int x9)]) hx hb d_Division_chooseModes_71 hl (by decide) rfl (fun ls hl => ?_)
          obtain ⟨k14, hk14, Hf⟩ := sq_jn_e Hf
          have Jk14 : ∀ (x12 : Int32) (x13 : Int32), k14 x12 x13 = some (r0, nvt_bitsBehind, nvt_bitsHere, nvt_freshBits) → ∀ (H : Heap) (locs : List Loc), va_P (dC, dI) cl_All (ww_Division_chooseModes qt qt_bitsBehind qt_bitsHere qt_freshBits qt_choices ct_bitsBehind ct_bitsHere ct_freshBits vt_size vt_from vt_next vt_mode vt_state vt_bitsBehind b10 b1) H → va_D A (ww_Division_chooseModes qt qt_bitsBehind qt_bitsHere qt_freshBits qt_choices ct_bitsBehind ct_bitsHere ct_freshBits vt_size vt_from vt_next vt_mode vt_state vt_bitsBehind b10 b1) → va_S A s.heap H locs → ∀ ls : Array Slot, lv_has ls 9 [(0, .ref qt), (1, .int p1), (3, .int x8), (4, .int x9), (5, .int x12), (6, .int x13)] → W p l e (headSpec w_Division_chooseModes rm_Division_chooseModes).room s m (([.ref qt, .int p1, .int p2] : List Value).toArray) below meth c H locs 0 0 (MQ below (qc_Division_chooseModes dC dI A r0 qt qt_bitsBehind qt_bitsHere qt_freshBits qt_choices ct_bitsBehind ct_bitsHere ct_freshBits vt_size vt_from vt_next vt_mode vt_state nvt_bitsBehind nvt_bitsHere nvt_freshBits) (([.ref qt, .int p1, .int p2] : List Value).toArray) s 0 0 A) (F0 m 141 ls []) := by
            intro x12 x13 Hf H locs  hP hD hS ls hl
            rw [hk14] at Hf
            refine lv_aload_n hx hb d_Division_chooseModes_141 rfl (lv_at hl 0 rfl) ?_
            refine va_get (D := (dC, dI)) (ci := 1) (v := .ref qt_bitsHere) (C := R_Division) (T := F_Division) (N := 9) hx hb ht i_Division hown hK hP 0 rfl rfl 2 (by decide) (ht _ tb_72) (fun _ h9 => h9) rfl d_Division_chooseModes_142 ?_
            refine lv_iload hx hb d_Division_chooseModes_145 (lv_at hl 3 rfl) ?_
            refine lv_iload hx hb d_Division_chooseModes_147 (lv_at hl 5 rfl) ?_
            obtain ⟨hi15, Hf⟩ := sq_gi_e Hf
            obtain ⟨b16, eb16, Hf⟩ := sq_bd_e Hf
            refine va_iast hx hb hK hP hD hS 2 1 rfl rfl hi15 d_Division_chooseModes_149 (fun H locs hP hD hS => ?_)
            rw [← eb16] at hP hD
            replace hP : va_P (dC, dI) cl_All (ww_Division_chooseModes qt qt_bitsBehind qt_bitsHere qt_freshBits qt_choices ct_bitsBehind ct_bitsHere ct_freshBits vt_size vt_from vt_next vt_mode vt_state vt_bitsBehind b16 b1) H := hP
            replace hD : va_D A (ww_Division_chooseModes qt qt_bitsBehind qt_bitsHere qt_freshBits qt_choices ct_bitsBehind ct_bitsHere ct_freshBits vt_size vt_from vt_next vt_mode vt_state vt_bitsBehind b16 b1) := hD
            refine lv_iload_n hx hb d_Division_chooseModes_150 rfl (lv_at hl 2 rfl) ?_
            refine lv_iload hx hb d_Division_chooseModes_151 (lv_at hl 4 rfl) ?_
            refine lv_iconst (v := (2 : Int32)) hx hb d_Division_chooseModes_153 (by decide) ?_
            refine lv_iload hx hb d_Division_chooseModes_154 (lv_at hl 3 rfl) ?_
            refine lv_imul hx hb d_Division_chooseModes_156 ?_
            refine lv_ishl hx hb d_Division_chooseModes_157 ?_
            refine lv_ior hx hb d_Division_chooseModes_158 ?_
            obtain ⟨x17, ex17, Hf⟩ := sq_bd_e Hf
            refine sq_top ex17 ?_
            refine lv_istore_n (lv' := [(3, .int x17), (0, .ref qt), (1, .int p1), (4, .int x9), (5, .int x12), (6, .int x13)]) hx hb d_Division_chooseModes_159 rfl hl (by decide) rfl (fun ls hl => ?_)
            obtain ⟨x18, ex18, Hf⟩ := sq_bd_e Hf
            refine lv_iinc (v := x18) (lv' := [(4, .int x18), (3, .int x17), (0, .ref qt), (1, .int p1), (5, .int x12), (6, .int x13)]) hx hb d_Division_chooseModes_160 hl (k := 3) rfl (by rw [ex18]; rfl) (by decide) rfl (fun ls hl => ?_)
            refine lv_goto (tgt := 56) hx hb d_Division_chooseModes_163 (by decide) ?_
            exact ih1 x17 x18 b16 Hf _ _  hP hD hS _ (lv_sub hl [2, 3, 1, 0] rfl)
          have L2 : ∀ (m2 : Nat), ∀ (x19 : Int32) (x20 : Int32) (x21 : Int32), fn_Division_chooseModes_L2 vt_bitsBehind b1 x9 k14 m2 x19 x20 x21 = some (r0, nvt_bitsBehind, nvt_bitsHere, nvt_freshBits) → ∀ (H : Heap) (locs : List Loc), va_P (dC, dI) cl_All (ww_Division_chooseModes qt qt_bitsBehind qt_bitsHere qt_freshBits qt_choices ct_bitsBehind ct_bitsHere ct_freshBits vt_size vt_from vt_next vt_mode vt_state vt_bitsBehind b10 b1) H → va_D A (ww_Division_chooseModes qt qt_bitsBehind qt_bitsHere qt_freshBits qt_choices ct_bitsBehind ct_bitsHere ct_freshBits vt_size vt_from vt_next vt_mode vt_state vt_bitsBehind b10 b1) → va_S A s.heap H locs → ∀ ls : Array Slot, lv_has ls 9 [(0, .ref qt), (1, .int p1), (3, .int x8), (4, .int x9), (5, .int x19), (6, .int x20), (7, .int x21)] → W p l e (headSpec w_Division_chooseModes rm_Division_chooseModes).room s m (([.ref qt, .int p1, .int p2] : List Value).toArray) below meth c H locs 0 0 (MQ below (qc_Division_chooseModes dC dI A r0 qt qt_bitsBehind qt_bitsHere qt_freshBits qt_choices ct_bitsBehind ct_bitsHere ct_freshBits vt_size vt_from vt_next vt_mode vt_state nvt_bitsBehind nvt_bitsHere nvt_freshBits) (([.ref qt, .int p1, .int p2] : List Value).toArray) s 0 0 A) (F0 m 73 ls []) := by
            intro m2
            induction m2 with
            | zero => intro x19 x20 x21 Hf; exact sq_none Hf
            | succ m2 ih2 =>
              intro x19 x20 x21 Hf H locs  hP hD hS ls hl
              replace Hf := (fn_Division_chooseModes_L2_s vt_bitsBehind b1 x9 k14 m2 x19 x20 x21).symm.trans Hf
              refine lv_iload hx hb d_Division_chooseModes_73 (lv_at hl 6 rfl) ?_
              refine lv_iconst (v := (3 : Int32)) hx hb d_Division_chooseModes_75 (by decide) ?_
              refine lv_icmp_ge (tgt := 141) hx hb d_Division_chooseModes_76 (by decide) (fun c22 => ?_) (fun c22 => ?_)
              · replace Hf := sq_ite_t Hf c22
                exact Jk14 x19 x20 Hf _ _  hP hD hS _ (lv_sub hl [0, 1, 2, 3, 4, 5] rfl)
              · replace Hf := sq_ite_f Hf c22
                refine lv_iload hx hb d_Division_chooseModes_79 (lv_at hl 6 rfl) ?_
                refine va_gets hx hb hX.z3 hS hown (ht _ tb_883) (fun _ h => h) d_Division_chooseModes_81 ?_
                refine lv_iload hx hb d_Division_chooseModes_84 (lv_at hl 3 rfl) ?_
                obtain ⟨hi23, Hf⟩ := sq_gi_e Hf
                refine va_ti hx hb hX.t3 hS hi23 rfl d_Division_chooseModes_86 ?_
                obtain ⟨x24, ex24, Hf⟩ := sq_bd_e Hf
                refine sq_top ex24 ?_
                obtain ⟨k26, hk26, Hf⟩ := sq_jn_e Hf
                have Jk26 : ∀ (x25 : Int32), k26 x25 = some (r0, nvt_bitsBehind, nvt_bitsHere, nvt_freshBits) → ∀ (H : Heap) (locs : List Loc), va_P (dC, dI) cl_All (ww_Division_chooseModes qt qt_bitsBehind qt_bitsHere qt_freshBits qt_choices ct_bitsBehind ct_bitsHere ct_freshBits vt_size vt_from vt_next vt_mode vt_state vt_bitsBehind b10 b1) H → va_D A (ww_Division_chooseModes qt qt_bitsBehind qt_bitsHere qt_freshBits qt_choices ct_bitsBehind ct_bitsHere ct_freshBits vt_size vt_from vt_next vt_mode vt_state vt_bitsBehind b10 b1) → va_S A s.heap H locs → ∀ ls : Array Slot, lv_has ls 9 [(0, .ref qt), (1, .int p1), (3, .int x8), (4, .int x9), (5, .int x19), (6, .int x20), (7, .int x21)] → W p l e (headSpec w_Division_chooseModes rm_Division_chooseModes).room s m (([.ref qt, .int p1, .int p2] : List Value).toArray) below meth c H locs 0 0 (MQ below (qc_Division_chooseModes dC dI A r0 qt qt_bitsBehind qt_bitsHere qt_freshBits qt_choices ct_bitsBehind ct_bitsHere ct_freshBits vt_size vt_from vt_next vt_mode vt_state nvt_bitsBehind nvt_bitsHere nvt_freshBits) (([.ref qt, .int p1, .int p2] : List Value).toArray) s 0 0 A) (F0 m 118 ls [.int x25]) := by
                  intro x25 Hf H locs  hP hD hS ls hl
                  rw [hk26] at Hf
                  refine lv_istore (lv' := [(8, .int x25), (0, .ref qt), (1, .int p1), (3, .int x8), (4, .int x9), (5, .int x19), (6, .int x20), (7, .int x21)]) hx hb d_Division_chooseModes_118 hl (by decide) rfl (fun ls hl => ?_)
                  refine lv_iload hx hb d_Division_chooseModes_120 (lv_at hl 0 rfl) ?_
                  refine lv_iload hx hb d_Division_chooseModes_122 (lv_at hl 6 rfl) ?_
                  obtain ⟨k29, hk29, Hf⟩ := sq_jn_e Hf
                  have Jk29 : ∀ (x27 : Int32) (x28 : Int32), k29 x27 x28 = some (r0, nvt_bitsBehind, nvt_bitsHere, nvt_freshBits) → ∀ (H : Heap) (locs : List Loc), va_P (dC, dI) cl_All (ww_Division_chooseModes qt qt_bitsBehind qt_bitsHere qt_freshBits qt_choices ct_bitsBehind ct_bitsHere ct_freshBits vt_size vt_from vt_next vt_mode vt_state vt_bitsBehind b10 b1) H → va_D A (ww_Division_chooseModes qt qt_bitsBehind qt_bitsHere qt_freshBits qt_choices ct_bitsBehind ct_bitsHere ct_freshBits vt_size vt_from vt_next vt_mode vt_state vt_bitsBehind b10 b1) → va_S A s.heap H locs → ∀ ls : Array Slot, lv_has ls 9 [(0, .ref qt), (1, .int p1), (3, .int x8), (4, .int x9), (5, .int x27), (6, .int x28), (7, .int x21)] → W p l e (headSpec w_Division_chooseModes rm_Division_chooseModes).room s m (([.ref qt, .int p1, .int p2] : List Value).toArray) below meth c H locs 0 0 (MQ below (qc_Division_chooseModes dC dI A r0 qt qt_bitsBehind qt_bitsHere qt_freshBits qt_choices ct_bitsBehind ct_bitsHere ct_freshBits vt_size vt_from vt_next vt_mode vt_state nvt_bitsBehind nvt_bitsHere nvt_freshBits) (([.ref qt, .int p1, .int p2] : List Value).toArray) s 0 0 A) (F0 m 135 ls []) := by
                    intro x27 x28 Hf H locs  hP hD hS ls hl
                    rw [hk29] at Hf
                    obtain ⟨x30, ex30, Hf⟩ := sq_bd_e Hf
                    refine lv_iinc (v := x30) (lv' := [(7, .int x30), (0, .ref qt), (1, .int p1), (3, .int x8), (4, .int x9), (5, .int x27), (6, .int x28)]) hx hb d_Division_chooseModes_135 hl (k := 6) rfl (by rw [ex30]; rfl) (by decide) rfl (fun ls hl => ?_)
                    refine lv_goto (tgt := 73) hx hb d_Division_chooseModes_138 (by decide) ?_
                    exact ih2 x27 x28 x30 Hf _ _  hP hD hS _ (lv_sub hl [1, 2, 3, 4, 5, 6, 0] rfl)
                  refine lv_icmp_ge (tgt := 135) hx hb d_Division_chooseModes_124 (by decide) (fun c31 => ?_) (fun c31 => ?_)
                  · replace Hf := sq_ite_t Hf c31
                    exact Jk29 x19 x20 Hf _ _  hP hD hS _ (lv_sub hl [1, 2, 3, 4, 5, 6, 7] rfl)
                  · replace Hf := sq_ite_f Hf c31
                    refine lv_iload hx hb d_Division_chooseModes_127 (lv_at hl 0 rfl) ?_
                    refine lv_istore (lv' := [(6, .int x25), (8, .int x25), (0, .ref qt), (1, .int p1), (3, .int x8), (4, .int x9), (5, .int x19), (7, .int x21)]) hx hb d_Division_chooseModes_129 hl (by decide) rfl (fun ls hl => ?_)
                    refine lv_iload hx hb d_Division_chooseModes_131 (lv_at hl 7 rfl) ?_
                    refine lv_istore (lv' := [(5, .int x21), (6, .int x25), (8, .int x25), (0, .ref qt), (1, .int p1), (3, .int x8), (4, .int x9), (7, .int x21)]) hx hb d_Division_chooseModes_133 hl (by decide) rfl (fun ls hl => ?_)
                    exact Jk29 x21 x25 Hf _ _  hP hD hS _ (lv_sub hl [3, 4, 5, 6, 0, 1, 7] rfl)
                refine lv_icmp_ne (tgt := 111) hx hb d_Division_chooseModes_87 (by decide) (fun c32 => ?_) (fun c32 => ?_)
                · replace Hf := sq_ite_f Hf c32
                  refine lv_aload_n hx hb d_Division_chooseModes_111 rfl (lv_at hl 0 rfl) ?_
                  refine va_get (D := (dC, dI)) (ci := 1) (v := .ref qt_freshBits) (C := R_Division) (T := F_Division) (N := 9) hx hb ht i_Division hown hK hP 0 rfl rfl 3 (by decide) (ht _ tb_73) (fun _ h9 => h9) rfl d_Division_chooseModes_112 ?_
                  refine lv_iload hx hb d_Division_chooseModes_115 (lv_at hl 6 rfl) ?_
                  obtain ⟨hi33, Hf⟩ := sq_gi_e Hf
                  refine va_iald hx hb hK hP 3 2 rfl rfl hi33 d_Division_chooseModes_117 ?_
                  obtain ⟨x34, ex34, Hf⟩ := sq_bd_e Hf
                  refine sq_top ex34 ?_
                  exact Jk26 x34 Hf _ _  hP hD hS _ (lv_sub hl [0, 1, 2, 3, 4, 5, 6] rfl)
                · replace Hf := sq_ite_t Hf c32
                  refine va_gets hx hb hX.z5 hS hown (ht _ tb_885) (fun _ h => h) d_Division_chooseModes_90 ?_
                  refine lv_iload hx hb d_Division_chooseModes_93 (lv_at hl 3 rfl) ?_
                  obtain ⟨hi35, Hf⟩ := sq_gi_e Hf
                  refine va_ti hx hb hX.t5 hS hi35 rfl d_Division_chooseModes_95 ?_
                  obtain ⟨x36, ex36, Hf⟩ := sq_bd_e Hf
                  refine sq_top ex36 ?_
                  refine lv_aload_n hx hb d_Division_chooseModes_96 rfl (lv_at hl 0 rfl) ?_
                  refine va_get (D := (dC, dI)) (ci := 1) (v := .ref qt_bitsBehind) (C := R_Division) (T := F_Division) (N := 9) hx hb ht i_Division hown hK hP 0 rfl rfl 1 (by decide) (ht _ tb_71) (fun _ h9 => h9) rfl d_Division_chooseModes_97 ?_
                  refine va_gets hx hb hX.z4 hS hown (ht _ tb_887) (fun _ h => h) d_Division_chooseModes_100 ?_
                  refine lv_iload hx hb d_Division_chooseModes_103 (lv_at hl 3 rfl) ?_
                  obtain ⟨hi37, Hf⟩ := sq_gi_e Hf
                  refine va_ti hx hb hX.t4 hS hi37 rfl d_Division_chooseModes_105 ?_
                  obtain ⟨x38, ex38, Hf⟩ := sq_bd_e Hf
                  refine sq_top ex38 ?_
                  obtain ⟨hi39, Hf⟩ := sq_gi_e Hf
                  refine va_iald hx hb hK hP 1 0 rfl rfl hi39 d_Division_chooseModes_106 ?_
                  obtain ⟨x40, ex40, Hf⟩ := sq_bd_e Hf
                  refine sq_top ex40 ?_
                  refine lv_iadd hx hb d_Division_chooseModes_107 ?_
                  refine lv_goto (tgt := 118) hx hb d_Division_chooseModes_108 (by decide) ?_
                  exact Jk26 (x36 + x40) Hf _ _  hP hD hS _ (lv_sub hl [0, 1, 2, 3, 4, 5, 6] rfl)
          exact L2 n0 (2 : Int32) (1073741824 : Int32) p1 Hf _ _  hP hD hS _ (lv_sub hl [3, 4, 5, 6, 2, 1, 0] rfl)
    exact L1 n0 (0 : Int32) (0 : Int32) vt_bitsHere Hf _ _  hP hD hS _ (lv_sub hl [2, 3, 1, 0] rfl)
  have L3 : ∀ (m3 : Nat), ∀ (x41 : Int32) (b42 : Nat → Int32), fn_Division_chooseModes_L3 p2 vt_bitsBehind k2 m3 x41 b42 = some (r0, nvt_bitsBehind, nvt_bitsHere, nvt_freshBits) → ∀ (H : Heap) (locs : List Loc), va_P (dC, dI) cl_All (ww_Division_chooseModes qt qt_bitsBehind qt_bitsHere qt_freshBits qt_choices ct_bitsBehind ct_bitsHere ct_freshBits vt_size vt_from vt_next vt_mode vt_state vt_bitsBehind vt_bitsHere b42) H → va_D A (ww_Division_chooseModes qt qt_bitsBehind qt_bitsHere qt_freshBits qt_choices ct_bitsBehind ct_bitsHere ct_freshBits vt_size vt_from vt_next vt_mode vt_state vt_bitsBehind vt_bitsHere b42) → va_S A s.heap H locs → ∀ ls : Array Slot, lv_has ls 9 [(0, .ref qt), (1, .int p1), (2, .int p2), (3, .int x41)] → W p l e (headSpec w_Division_chooseModes rm_Division_chooseModes).room s m (([.ref qt, .int p1, .int p2] : List Value).toArray) below meth c H locs 0 0 (MQ below (qc_Division_chooseModes dC dI A r0 qt qt_bitsBehind qt_bitsHere qt_freshBits qt_choices ct_bitsBehind ct_bitsHere ct_freshBits vt_size vt_from vt_next vt_mode vt_state nvt_bitsBehind nvt_bitsHere nvt_freshBits) (([.ref qt, .int p1, .int p2] : List Value).toArray) s 0 0 A) (F0 m 2 ls []) := by
    intro m3
    induction m3 with
    | zero => intro x41 b42 Hf; exact sq_none Hf
    | succ m3 ih3 =>
      intro x41 b42 Hf H locs  hP hD hS ls hl
      replace Hf := (fn_Division_chooseModes_L3_s p2 vt_bitsBehind k2 m3 x41 b42).symm.trans Hf
      refine lv_iload_n hx hb d_Division_chooseModes_2 rfl (lv_at hl 3 rfl) ?_
      refine lv_iconst (v := (3 : Int32)) hx hb d_Division_chooseModes_3 (by decide) ?_
      refine lv_icmp_ge (tgt := 51) hx hb d_Division_chooseModes_4 (by decide) (fun c43 => ?_) (fun c43 => ?_)
      · replace Hf := sq_ite_t Hf c43
        exact Jk2 b42 Hf _ _  hP hD hS _ (lv_sub hl [0, 1] rfl)
      · replace Hf := sq_ite_f Hf c43
        refine lv_iconst (v := (4 : Int32)) hx hb d_Division_chooseModes_7 (by decide) ?_
        refine lv_iload_n hx hb d_Division_chooseModes_8 rfl (lv_at hl 3 rfl) ?_
        refine lv_iload_n hx hb d_Division_chooseModes_9 rfl (lv_at hl 2 rfl) ?_
        obtain ⟨r44, hc45, Hf⟩ := sq_cb1_e Hf
        refine sq_roi (va_runS (As := [.int x41, .int p2]) (rest := [.int (4 : Int32)]) ⟨hx, hb, hml, hown, ht⟩ (kt_Version_countBits l dC dI x41 p2 tt r44 hc45) (va_cwS 2 ht (sq_gS tb_877 tb_614 tb_16 tb_615) rfl rfl rfl (by decide +kernel) ⟨Nat.le_of_ble_eq_true rfl, Nat.le_of_ble_eq_true rfl⟩) (sq_roSX (hP.sub (ws' := ([] : va_W)) [] rfl) (hK.sub (tys' := []) [] rfl) hX hS (fun _ h => h.elim)) rfl rfl hl.1 rfl (lv_room (Nat.le_of_ble_eq_true rfl)) d_Division_chooseModes_10 ⟨Nat.le_of_ble_eq_true rfl, Nat.le_of_ble_eq_true rfl⟩) ?_
        refine lv_iadd hx hb d_Division_chooseModes_13 ?_
        refine lv_iload_n hx hb d_Division_chooseModes_14 rfl (lv_at hl 3 rfl) ?_
        refine lv_iconst (v := (1 : Int32)) hx hb d_Division_chooseModes_15 (by decide) ?_
        obtain ⟨r46, hc47, Hf⟩ := sq_cb1_e Hf
        refine sq_roi (va_runS (As := [.int x41, .int (1 : Int32)]) (rest := [.int ((4 : Int32) + r44)]) ⟨hx, hb, hml, hown, ht⟩ (kt_Mode_groupBits l dC dI x41 (1 : Int32) r46 hc47) (va_cwS 2 ht (sq_gS tb_878 tb_631 tb_19 tb_632) rfl rfl rfl (by decide +kernel) ⟨Nat.le_of_ble_eq_true rfl, Nat.le_of_ble_eq_true rfl⟩) (sq_roS (hP.sub (ws' := ([] : va_W)) [] rfl) (hK.sub (tys' := []) [] rfl)) rfl rfl hl.1 rfl (lv_room (Nat.le_of_ble_eq_true rfl)) d_Division_chooseModes_16 ⟨Nat.le_of_ble_eq_true rfl, Nat.le_of_ble_eq_true rfl⟩) ?_
        refine lv_iadd hx hb d_Division_chooseModes_19 ?_
        obtain ⟨x48, ex48, Hf⟩ := sq_bd_e Hf
        refine sq_top ex48 ?_
        refine lv_istore (lv' := [(4, .int x48), (0, .ref qt), (1, .int p1), (2, .int p2), (3, .int x41)]) hx hb d_Division_chooseModes_20 hl (by decide) rfl (fun ls hl => ?_)
        refine lv_aload_n hx hb d_Division_chooseModes_22 rfl (lv_at hl 1 rfl) ?_
        refine va_get (D := (dC, dI)) (ci := 1) (v := .ref qt_freshBits) (C := R_Division) (T := F_Division) (N := 9) hx hb ht i_Division hown hK hP 0 rfl rfl 3 (by decide) (ht _ tb_73) (fun _ h9 => h9) rfl d_Division_chooseModes_23 ?_
        refine lv_iload_n hx hb d_Division_chooseModes_26 rfl (lv_at hl 4 rfl) ?_
        refine lv_iload hx hb d_Division_chooseModes_27 (lv_at hl 0 rfl) ?_
        refine lv_aload_n hx hb d_Division_chooseModes_29 rfl (lv_at hl 1 rfl) ?_
        refine va_get (D := (dC, dI)) (ci := 1) (v := .ref qt_bitsBehind) (C := R_Division) (T := F_Division) (N := 9) hx hb ht i_Division hown hK hP 0 rfl rfl 1 (by decide) (ht _ tb_71) (fun _ h9 => h9) rfl d_Division_chooseModes_30 ?_
        refine va_gets hx hb hX.z6 hS hown (ht _ tb_879) (fun _ h => h) d_Division_chooseModes_33 ?_
        refine lv_iload_n hx hb d_Division_chooseModes_36 rfl (lv_at hl 4 rfl) ?_
        obtain ⟨r49, hc50, Hf⟩ := sq_cb1_e Hf
        refine sq_roi (va_runSN (As := [.ref (tt 6), .int x41]) (rest := [.ref qt_bitsBehind, .int x48, .int x41, .ref qt_freshBits]) ⟨hx, hb, hml, hown, ht⟩ (kt_Sq_item_p1T l dC dI (tt 6) 3 tv_FIRST x41 r49 hc50) ⟨va_cnB 2 ht (sq_g1 tb_414) rfl rfl rfl hX.n881 (ht _ tb_1) (by decide +kernel) ⟨Nat.le_of_ble_eq_true rfl, Nat.le_of_ble_eq_true rfl⟩, ht _ tb_413, trivial⟩ (sq_roT (hP.sub (ws' := ([] : va_W)) [] rfl) (hK.sub (tys' := []) [] rfl) hX.t6 hS) rfl rfl hl.1 rfl (lv_room (Nat.le_of_ble_eq_true rfl)) d_Division_chooseModes_37 ⟨Nat.le_of_ble_eq_true rfl, Nat.le_of_ble_eq_true rfl⟩) ?_
        obtain ⟨r51, hc52, Hf⟩ := sq_cb1_e Hf
        refine sq_roi (va_runSN (As := [.ref qt_bitsBehind, .int r49]) (rest := [.int x48, .int x41, .ref qt_freshBits]) ⟨hx, hb, hml, hown, ht⟩ (kt_Sq_item l dC dI qt_bitsBehind ct_bitsBehind 7 vt_bitsBehind r49 r51 hc52) ⟨va_cnB 2 ht (sq_g1 tb_414) rfl rfl rfl hX.n881 (ht _ tb_1) (by decide +kernel) ⟨Nat.le_of_ble_eq_true rfl, Nat.le_of_ble_eq_true rfl⟩, ht _ tb_413, trivial⟩ (sq_roS (hP.sub (ws' := (ww_Sq_item qt_bitsBehind ct_bitsBehind 7 vt_bitsBehind)) [1] rfl) (hK.sub (tys' := [(ct_bitsBehind, .int)]) [0] rfl)) rfl rfl hl.1 rfl (lv_room (Nat.le_of_ble_eq_true rfl)) d_Division_chooseModes_40 ⟨Nat.le_of_ble_eq_true rfl, Nat.le_of_ble_eq_true rfl⟩) ?_
        refine lv_iadd hx hb d_Division_chooseModes_43 ?_
        obtain ⟨x53, ex53, Hf⟩ := sq_bd_e Hf
        refine sq_top ex53 ?_
        obtain ⟨hi54, Hf⟩ := sq_gi_e Hf
        obtain ⟨b55, eb55, Hf⟩ := sq_bd_e Hf
        refine va_iast hx hb hK hP hD hS 3 2 rfl rfl hi54 d_Division_chooseModes_44 (fun H locs hP hD hS => ?_)
        rw [← eb55] at hP hD
        replace hP : va_P (dC, dI) cl_All (ww_Division_chooseModes qt qt_bitsBehind qt_bitsHere qt_freshBits qt_choices ct_bitsBehind ct_bitsHere ct_freshBits vt_size vt_from vt_next vt_mode vt_state vt_bitsBehind vt_bitsHere b55) H := hP
        replace hD : va_D A (ww_Division_chooseModes qt qt_bitsBehind qt_bitsHere qt_freshBits qt_choices ct_bitsBehind ct_bitsHere ct_freshBits vt_size vt_from vt_next vt_mode vt_state vt_bitsBehind vt_bitsHere b55) := hD
        obtain ⟨x56, ex56, Hf⟩ := sq_bd_e Hf
        refine lv_iinc (v := x56) (lv' := [(3, .int x56), (4, .int x48), (0, .ref qt), (1, .int p1), (2, .int p2)]) hx hb d_Division_chooseModes_45 hl (k := 4) rfl (by rw [ex56]; rfl) (by decide) rfl (fun ls hl => ?_)
        refine lv_goto (tgt := 2) hx hb d_Division_chooseModes_48 (by decide) ?_
        exact ih3 x56 b55 Hf _ _  hP hD hS _ (lv_sub hl [2, 3, 4, 0] rfl)
  exact L3 n0 p1 vt_freshBits Hf _ _  hP hD hS _ (lv_sub hl [1, 2, 3, 0] rfl)

def fn_Division_divide_L1 (p2 : Int32) (n0 : Nat) (vp1_size : Int32) (vp1_bytes : Nat → Int32) (k11 : (Nat → Int32) → (Nat → Int32) → (Nat → Int32) → (Nat → Int32) → Option (Int32 × Int32 × Int32 × Int32 × (Nat → Int32) × (Nat → Int32) × (Nat → Int32) × (Nat → Int32))) : Nat → Int32 → (Nat → Int32) → (Nat → Int32) → (Nat → Int32) → (Nat → Int32) → Option (Int32 × Int32 × Int32 × Int32 × (Nat → Int32) × (Nat → Int32) × (Nat → Int32) × (Nat → Int32))
  | 0, _, _, _, _, _ => none
  | m1 + 1, x16, b17, b18, b19, b20 => if x16 < 0 then (k11 b17 b18 b19 b20) else (sq_cb1 (fn_Data_get x16 vp1_size vp1_bytes) fun r22 => sq_cb1 (fn_Mode_least n0 r22) fun r24 => sq_cb4 (fn_Division_chooseModes n0 r24 p2 b17 b18 b20) fun r26 b27 b28 b29 => sq_gi x16 3000 <| sq_bd (upd b19 x16.toNatClampNeg r26) fun b32 => sq_bd (x16 + (-1 : Int32)) fun x33 => fn_Division_divide_L1 p2 n0 vp1_size vp1_bytes k11 m1 x33 b27 b28 b32 b29)
theorem fn_Division_divide_L1_s (p2 : Int32) (n0 : Nat) (vp1_size : Int32) (vp1_bytes : Nat → Int32) (k11 : (Nat → Int32) → (Nat → Int32) → (Nat → Int32) → (Nat → Int32) → Option (Int32 × Int32 × Int32 × Int32 × (Nat → Int32) × (Nat → Int32) × (Nat → Int32) × (Nat → Int32))) (m1 : Nat) (x16 : Int32) (b17 : Nat → Int32) (b18 : Nat → Int32) (b19 : Nat → Int32) (b20 : Nat → Int32) : fn_Division_divide_L1 p2 n0 vp1_size vp1_bytes k11 (m1 + 1) x16 b17 b18 b19 b20 = if x16 < 0 then (k11 b17 b18 b19 b20) else (sq_cb1 (fn_Data_get x16 vp1_size vp1_bytes) fun r22 => sq_cb1 (fn_Mode_least n0 r22) fun r24 => sq_cb4 (fn_Division_chooseModes n0 r24 p2 b17 b18 b20) fun r26 b27 b28 b29 => sq_gi x16 3000 <| sq_bd (upd b19 x16.toNatClampNeg r26) fun b32 => sq_bd (x16 + (-1 : Int32)) fun x33 => fn_Division_divide_L1 p2 n0 vp1_size vp1_bytes k11 m1 x33 b27 b28 b32 b29) := rfl
def fn_Division_divide (n0 : Nat) (p2 : Int32) (vp1_size : Int32) (vt_size : Int32) (vt_from : Int32) (vt_next : Int32) (vt_state : Int32) (vp1_bytes : Nat → Int32) (vt_bitsBehind : Nat → Int32) (vt_bitsHere : Nat → Int32) (vt_choices : Nat → Int32) (vt_freshBits : Nat → Int32) : Option (Int32 × Int32 × Int32 × Int32 × (Nat → Int32) × (Nat → Int32) × (Nat → Int32) × (Nat → Int32)) :=
  sq_cb1 (fn_Data_size vp1_size) fun r1 => sq_bd (sq_min r1 (3000 : Int32)) fun x3 => sq_cb1 (fn_JArrays_fill1 n0 (0 : Int32) 7 vt_bitsBehind) fun b4 => sq_bd (x3 - (1 : Int32)) fun x6 => sq_jn (fun (b7 : Nat → Int32) (b8 : Nat → Int32) (b9 : Nat → Int32) (b10 : Nat → Int32) => sq_cb3 (fn_Division_rewind vt_from vt_next vt_state) fun y12 y13 y14 => some (x3, y12, y13, y14, b7, b8, b9, b10)) fun k11 => fn_Division_divide_L1 p2 n0 vp1_size vp1_bytes k11 n0 x6 b4 vt_bitsHere vt_choices vt_freshBits
abbrev ww_Division_divide (qp1 qt qp1_bytes qt_bitsBehind qt_bitsHere qt_choices qt_freshBits : Nat) (cp1_bytes ct_bitsBehind ct_bitsHere ct_choices ct_freshBits : ClassId) (vp1_size : Int32) (vt_size : Int32) (vt_from : Int32) (vt_next : Int32) (vt_mode : Int32) (vt_state : Int32) (vp1_bytes : Nat → Int32) (vt_bitsBehind : Nat → Int32) (vt_bitsHere : Nat → Int32) (vt_choices : Nat → Int32) (vt_freshBits : Nat → Int32) : va_W := [(qp1, .inr (0, [.ref qp1_bytes, .int vp1_size])), (qt, .inr (1, [.ref qt_choices, .ref qt_bitsBehind, .ref qt_bitsHere, .ref qt_freshBits, .int vt_size, .int vt_from, .int vt_next, .int vt_mode, .int vt_state])), (qp1_bytes, .inl (cp1_bytes, 3000, .inl vp1_bytes)), (qt_bitsBehind, .inl (ct_bitsBehind, 7, .inl vt_bitsBehind)), (qt_bitsHere, .inl (ct_bitsHere, 7, .inl vt_bitsHere)), (qt_choices, .inl (ct_choices, 3000, .inl vt_choices)), (qt_freshBits, .inl (ct_freshBits, 3, .inl vt_freshBits))]

def rm_Division_divide : Room := { frames := 5, cells := 0, slots := 0, locals := 111 }
abbrev qc_Division_divide (dC : Nat → ClassId) (dI : Nat → Nat → Nat) (A : Nat → Prop) (qp1 qt qp1_bytes qt_bitsBehind qt_bitsHere qt_choices qt_freshBits : Nat) (cp1_bytes ct_bitsBehind ct_bitsHere ct_choices ct_freshBits : ClassId) (vp1_size : Int32) (vt_size : Int32) (vt_from : Int32) (vt_next : Int32) (vt_mode : Int32) (vt_state : Int32) (vp1_bytes : Nat → Int32) (vt_bitsBehind : Nat → Int32) (vt_bitsHere : Nat → Int32) (vt_choices : Nat → Int32) (vt_freshBits : Nat → Int32) : Array Value → State → Outcome → State → Prop := va_Qv (fun (_ : Unit) => True) (fun _ t => va_P (dC, dI) cl_All (ww_Division_divide qp1 qt qp1_bytes qt_bitsBehind qt_bitsHere qt_choices qt_freshBits cp1_bytes ct_bitsBehind ct_bitsHere ct_choices ct_freshBits vp1_size vt_size vt_from vt_next vt_mode vt_state vp1_bytes vt_bitsBehind vt_bitsHere vt_choices vt_freshBits) t.heap ∧ va_D A (ww_Division_divide qp1 qt qp1_bytes qt_bitsBehind qt_bitsHere qt_choices qt_freshBits cp1_bytes ct_bitsBehind ct_bitsHere ct_choices ct_freshBits vp1_size vt_size vt_from vt_next vt_mode vt_state vp1_bytes vt_bitsBehind vt_bitsHere vt_choices vt_freshBits)) A

set_option maxHeartbeats 4000000 in
set_option maxRecDepth 100000 in
theorem kt_Division_divide (l : Launch) (dC : Nat → ClassId) (dI : Nat → Nat → Nat) (qp1 qt qp1_bytes qt_bitsBehind qt_bitsHere qt_choices qt_freshBits : Nat) (cp1_bytes ct_bitsBehind ct_bitsHere ct_choices ct_freshBits : ClassId) (vp1_size : Int32) (vt_size : Int32) (vt_from : Int32) (vt_next : Int32) (vt_mode : Int32) (vt_state : Int32) (vp1_bytes : Nat → Int32) (vt_bitsBehind : Nat → Int32) (vt_bitsHere : Nat → Int32) (vt_choices : Nat → Int32) (vt_freshBits : Nat → Int32) (p2 : Int32) (tt : Nat → Nat) (sz : Nat) (n0 : Nat) (nvt_size : Int32) (nvt_from : Int32) (nvt_next : Int32) (nvt_state : Int32) (nvt_bitsBehind : Nat → Int32) (nvt_bitsHere : Nat → Int32) (nvt_choices : Nat → Int32) (nvt_freshBits : Nat → Int32) (Hf : fn_Division_divide n0 p2 vp1_size vt_size vt_from vt_next vt_state vp1_bytes vt_bitsBehind vt_bitsHere vt_choices vt_freshBits = some (nvt_size, nvt_from, nvt_next, nvt_state, nvt_bitsBehind, nvt_bitsHere, nvt_choices, nvt_freshBits)) : Met l y_Division_divide w_Division_divide rm_Division_divide (va_Pc [.ref qt, .ref qp1, .int p2] (fun U => U.heap.size = sz ∧ va_P (dC, dI) cl_All (ww_Division_divide qp1 qt qp1_bytes qt_bitsBehind qt_bitsHere qt_choices qt_freshBits cp1_bytes ct_bitsBehind ct_bitsHere ct_choices ct_freshBits vp1_size vt_size vt_from vt_next vt_mode vt_state vp1_bytes vt_bitsBehind vt_bitsHere vt_choices vt_freshBits) U.heap ∧ va_K (dC, dI) cl_All [(cp1_bytes, .byte), (ct_bitsBehind, .int), (ct_bitsHere, .int), (ct_choices, .int), (ct_freshBits, .int)] U ∧ va_D (fun _ => True) (ww_Division_divide qp1 qt qp1_bytes qt_bitsBehind qt_bitsHere qt_choices qt_freshBits cp1_bytes ct_bitsBehind ct_bitsHere ct_choices ct_freshBits vp1_size vt_size vt_from vt_next vt_mode vt_state vp1_bytes vt_bitsBehind vt_bitsHere vt_choices vt_freshBits) ∧ sx_T tt (va_A (ww_Division_divide qp1 qt qp1_bytes qt_bitsBehind qt_bitsHere qt_choices qt_freshBits cp1_bytes ct_bitsBehind ct_bitsHere ct_choices ct_freshBits vp1_size vt_size vt_from vt_next vt_mode vt_state vp1_bytes vt_bitsBehind vt_bitsHere vt_choices vt_freshBits) sz) U U.heap)) (qc_Division_divide dC dI (va_A (ww_Division_divide qp1 qt qp1_bytes qt_bitsBehind qt_bitsHere qt_choices qt_freshBits cp1_bytes ct_bitsBehind ct_bitsHere ct_choices ct_freshBits vp1_size vt_size vt_from vt_next vt_mode vt_state vp1_bytes vt_bitsBehind vt_bitsHere vt_choices vt_freshBits) sz) qp1 qt qp1_bytes qt_bitsBehind qt_bitsHere qt_choices qt_freshBits cp1_bytes ct_bitsBehind ct_bitsHere ct_choices ct_freshBits vp1_size nvt_size nvt_from nvt_next vt_mode nvt_state vp1_bytes nvt_bitsBehind nvt_bitsHere nvt_choices nvt_freshBits) 0 0 (va_A (ww_Division_divide qp1 qt qp1_bytes qt_bitsBehind qt_bitsHere qt_choices qt_freshBits cp1_bytes ct_bitsBehind ct_bitsHere ct_choices ct_freshBits vp1_size vt_size vt_from vt_next vt_mode vt_state vp1_bytes vt_bitsBehind vt_bitsHere vt_choices vt_freshBits) sz) := by
  refine Met.ofW (cc := prog_4_method_2_code) (maxL := 4) (ret := none) (by decide) rfl ?_
  intro p e s m args below meth c s₁ B hml hv
  obtain ⟨rfl, hsz, hP, hK, hD0, hX⟩ := hv
  have hx := B.exec; have hb := B.bytes; have hr := B.returns; have hlocks := B.notSynchronized
  have ht : ∀ w ∈ lw_g, w.before _ s = true := fun w h => atoms_spec (ws := w_Division_divide) B.pre w (List.mem_cons_of_mem _ h)
  have hown : s.vm.findClass "SquareSymbols$Division" = some m.cls := findClass_of_methodNamed B.named
  subst hsz
  have hD := hD0.self (sz := s.heap.size)
  generalize hAe : va_A (ww_Division_divide qp1 qt qp1_bytes qt_bitsBehind qt_bitsHere qt_choices qt_freshBits cp1_bytes ct_bitsBehind ct_bitsHere ct_choices ct_freshBits vp1_size vt_size vt_from vt_next vt_mode vt_state vp1_bytes vt_bitsBehind vt_bitsHere vt_choices vt_freshBits) s.heap.size = A at hD hX ⊢
  have hA : ∀ q : Nat, s.heap.size ≤ q → A q := fun q h => by rw [← hAe]; exact Or.inr h
  have hS : va_S A s.heap s.heap [] := va_S.rf
  have hl := lv_entry ([.ref qt, .ref qp1, .int p2]) (n := 4) (Nat.le_of_ble_eq_true rfl)
  rw [lg_entry_eq]
  generalize (lg_sl ([.ref qt, .ref qp1, .int p2]) ++ List.replicate (4 - (lg_sl ([.ref qt, .ref qp1, .int p2])).length) Slot.unset).toArray = ls at hl ⊢
  have hl : lv_has ls 4 [(0, .ref qt), (1, .ref qp1), (2, .int p2)] := hl
  refine lv_aload_n hx hb d_Division_divide_0 rfl (lv_at hl 0 rfl) ?_
  refine lv_aload_n hx hb d_Division_divide_1 rfl (lv_at hl 1 rfl) ?_
  obtain ⟨r1, hc2, Hf⟩ := sq_cb1_e Hf
  refine sq_roi (va_runV (As := []) (rest := [.ref qt]) ⟨hx, hb, hml, hown, ht⟩ (kt_Data_size l dC dI qp1 qp1_bytes vp1_size r1 hc2) (cwV 0 ht (sq_gV tb_811 tb_306 tb_307 tb_3 tb_308) rfl rfl rfl (by decide +kernel) ⟨Nat.le_of_ble_eq_true rfl, Nat.le_of_ble_eq_true rfl⟩) (sq_roV (hP.sub (ws' := (ww_Data_size qp1 qp1_bytes vp1_size)) [0] rfl) (hK.sub (tys' := []) [] rfl) (va_recv hK hP (ci := 0) (q0 := 0) rfl rfl)) rfl rfl hl.1 rfl (lv_room (Nat.le_of_ble_eq_true rfl)) d_Division_divide_2 ⟨Nat.le_of_ble_eq_true rfl, Nat.le_of_ble_eq_true rfl⟩) ?_
  refine lv_aload_n hx hb d_Division_divide_5 rfl (lv_at hl 0 rfl) ?_
  refine va_get (D := (dC, dI)) (ci := 1) (v := .ref qt_choices) (C := R_Division) (T := F_Division) (N := 9) hx hb ht i_Division hown hK hP 1 rfl rfl 0 (by decide) (ht _ tb_70) (fun _ h9 => h9) rfl d_Division_divide_6 ?_
  refine va_alen hx hb hK hP 5 3 rfl rfl (v := (3000 : Int32)) rfl d_Division_divide_9 ?_
  refine va_mmin hx hb (by rw [hml]; exact hl.1.symm) hown (ht _ tb_812) (ht _ tb_427) (ht _ tb_17) (ht _ tb_428) (Nat.le_of_ble_eq_true rfl) (Nat.le_of_ble_eq_true rfl) (Nat.zero_le _) (Nat.zero_le _) d_Division_divide_10 ?_
  obtain ⟨x3, ex3, Hf⟩ := sq_bd_e Hf
  refine sq_top ex3 ?_
  refine va_put (D := (dC, dI)) (ci := 1) (v := .int x3) (ty := .int) (C := R_Division) (T := F_Division) (N := 9) hx hb ht i_Division t_Division t_Division_ok n_Division hown hK hP hD hS 1 rfl rfl 4 (by decide) (ht _ tb_74) (fun _ h9 => h9) rfl (by decide +kernel) rfl rfl (Nat.le_of_ble_eq_true rfl) d_Division_divide_13 (fun H locs hP hD hS => ?_)
  replace hP : va_P (dC, dI) cl_All (ww_Division_divide qp1 qt qp1_bytes qt_bitsBehind qt_bitsHere qt_choices qt_freshBits cp1_bytes ct_bitsBehind ct_bitsHere ct_choices ct_freshBits vp1_size x3 vt_from vt_next vt_mode vt_state vp1_bytes vt_bitsBehind vt_bitsHere vt_choices vt_freshBits) H := hP
  replace hD : va_D A (ww_Division_divide qp1 qt qp1_bytes qt_bitsBehind qt_bitsHere qt_choices qt_freshBits cp1_bytes ct_bitsBehind ct_bitsHere ct_choices ct_freshBits vp1_size x3 vt_from vt_next vt_mode vt_state vp1_bytes vt_bitsBehind vt_bitsHere vt_choices vt_freshBits) := hD
  refine lv_aload_n hx hb d_Division_divide_16 rfl (lv_at hl 0 rfl) ?_
  refine va_get (D := (dC, dI)) (ci := 1) (v := .ref qt_bitsBehind) (C := R_Division) (T := F_Division) (N := 9) hx hb ht i_Division hown hK hP 1 rfl rfl 1 (by decide) (ht _ tb_71) (fun _ h9 => h9) rfl d_Division_divide_17 ?_
  refine lv_iconst (v := (0 : Int32)) hx hb d_Division_divide_20 (by decide) ?_
  obtain ⟨b4, hc5, Hf⟩ := sq_cb1_e Hf
  refine sq_rwv (wn := (ww_Division_divide qp1 qt qp1_bytes qt_bitsBehind qt_bitsHere qt_choices qt_freshBits cp1_bytes ct_bitsBehind ct_bitsHere ct_choices ct_freshBits vp1_size x3 vt_from vt_next vt_mode vt_state vp1_bytes b4 vt_bitsHere vt_choices vt_freshBits)) (va_runS (As := [.ref qt_bitsBehind, .int (0 : Int32)]) (rest := []) ⟨hx, hb, hml, hown, ht⟩ (kt_JArrays_fill1 l dC dI qt_bitsBehind ct_bitsBehind 7 vt_bitsBehind (0 : Int32) H.size n0 b4 hc5) (va_cwS 2 ht (sq_gS tb_813 tb_565 tb_18 tb_566) rfl rfl rfl (by decide +kernel) ⟨Nat.le_of_ble_eq_true rfl, Nat.le_of_ble_eq_true rfl⟩) (sq_rwS (hP.sub (ws' := (ww_JArrays_fill1 qt_bitsBehind ct_bitsBehind 7 vt_bitsBehind)) [3] rfl) (hK.sub (tys' := [(ct_bitsBehind, .int)]) [1] rfl) (hD.sub (ws' := (ww_JArrays_fill1 qt_bitsBehind ct_bitsBehind 7 vt_bitsBehind)) [3] (by decide) rfl)) rfl rfl hl.1 rfl (lv_room (Nat.le_of_ble_eq_true rfl)) d_Division_divide_21 ⟨Nat.le_of_ble_eq_true rfl, Nat.le_of_ble_eq_true rfl⟩) hP hD hS hA [3] [0, 1, 2, 4, 5, 6] [0, 1, 2, 6, 3, 4, 5] rfl rfl (by decide) (by decide) rfl (by decide) (fun H locs hP hD hS => ?_)
  refine lv_aload_n hx hb d_Division_divide_24 rfl (lv_at hl 0 rfl) ?_
  refine va_get (D := (dC, dI)) (ci := 1) (v := .int x3) (C := R_Division) (T := F_Division) (N := 9) hx hb ht i_Division hown hK hP 1 rfl rfl 4 (by decide) (ht _ tb_74) (fun _ h9 => h9) rfl d_Division_divide_25 ?_
  refine lv_iconst (v := (1 : Int32)) hx hb d_Division_divide_28 (by decide) ?_
  refine lv_isub hx hb d_Division_divide_29 ?_
  obtain ⟨x6, ex6, Hf⟩ := sq_bd_e Hf
  refine sq_top ex6 ?_
  refine lv_istore_n (lv' := [(3, .int x6), (0, .ref qt), (1, .ref qp1), (2, .int p2)]) hx hb d_Division_divide_30 rfl hl (by decide) rfl (fun ls hl => ?_)
  obtain ⟨k11, hk11, Hf⟩ := sq_jn_e Hf
  have Jk11 : ∀ (b7 : Nat → Int32) (b8 : Nat → Int32) (b9 : Nat → Int32) (b10 : Nat → Int32), k11 b7 b8 b9 b10 = some (nvt_size, nvt_from, nvt_next, nvt_state, nvt_bitsBehind, nvt_bitsHere, nvt_choices, nvt_freshBits) → ∀ (H : Heap) (locs : List Loc), va_P (dC, dI) cl_All (ww_Division_divide qp1 qt qp1_bytes qt_bitsBehind qt_bitsHere qt_choices qt_freshBits cp1_bytes ct_bitsBehind ct_bitsHere ct_choices ct_freshBits vp1_size x3 vt_from vt_next vt_mode vt_state vp1_bytes b7 b8 b9 b10) H → va_D A (ww_Division_divide qp1 qt qp1_bytes qt_bitsBehind qt_bitsHere qt_choices qt_freshBits cp1_bytes ct_bitsBehind ct_bitsHere ct_choices ct_freshBits vp1_size x3 vt_from vt_next vt_mode vt_state vp1_bytes b7 b8 b9 b10) → va_S A s.heap H locs → ∀ ls : Array Slot, lv_has ls 4 [(0, .ref qt)] → W p l e (headSpec w_Division_divide rm_Division_divide).room s m (([.ref qt, .ref qp1, .int p2] : List Value).toArray) below meth c H locs 0 0 (MQ below (qc_Division_divide dC dI A qp1 qt qp1_bytes qt_bitsBehind qt_bitsHere qt_choices qt_freshBits cp1_bytes ct_bitsBehind ct_bitsHere ct_choices ct_freshBits vp1_size nvt_size nvt_from nvt_next vt_mode nvt_state vp1_bytes nvt_bitsBehind nvt_bitsHere nvt_choices nvt_freshBits) (([.ref qt, .ref qp1, .int p2] : List Value).toArray) s 0 0 A) (F0 m 60 ls []) := by
    intro b7 b8 b9 b10 Hf H locs  hP hD hS ls hl
    rw [hk11] at Hf
    refine lv_aload_n hx hb d_Division_divide_60 rfl (lv_at hl 0 rfl) ?_
    obtain ⟨y12, y13, y14, hc15, Hf⟩ := sq_cb3_e Hf
    refine sq_rwv (wn := (ww_Division_divide qp1 qt qp1_bytes qt_bitsBehind qt_bitsHere qt_choices qt_freshBits cp1_bytes ct_bitsBehind ct_bitsHere ct_choices ct_freshBits vp1_size x3 y12 y13 vt_mode y14 vp1_bytes b7 b8 b9 b10)) (va_runV (As := []) (rest := []) ⟨hx, hb, hml, hown, ht⟩ (kt_Division_rewind l dC dI qt qt_choices qt_bitsBehind qt_bitsHere qt_freshBits x3 vt_from vt_next vt_mode vt_state H.size y12 y13 y14 hc15) (cwV 0 ht (sq_gV tb_890 tb_891 tb_892 tb_4 tb_893) rfl rfl rfl (by decide +kernel) ⟨Nat.le_of_ble_eq_true rfl, Nat.le_of_ble_eq_true rfl⟩) (sq_rwV (hP.sub (ws' := (ww_Division_rewind qt qt_choices qt_bitsBehind qt_bitsHere qt_freshBits x3 vt_from vt_next vt_mode vt_state)) [1] rfl) (hK.sub (tys' := []) [] rfl) (hD.sub (ws' := (ww_Division_rewind qt qt_choices qt_bitsBehind qt_bitsHere qt_freshBits x3 vt_from vt_next vt_mode vt_state)) [1] (by decide) rfl) (va_recv hK hP (ci := 1) (q0 := 1) rfl rfl)) rfl rfl hl.1 rfl (lv_room (Nat.le_of_ble_eq_true rfl)) d_Division_divide_61 ⟨Nat.le_of_ble_eq_true rfl, Nat.le_of_ble_eq_true rfl⟩) hP hD hS hA [1] [0, 2, 3, 4, 5, 6] [0, 6, 1, 2, 3, 4, 5] rfl rfl (by decide) (by decide) rfl (by decide) (fun H locs hP hD hS => ?_)
    obtain ⟨rfl, rfl, rfl, rfl, rfl, rfl, rfl, rfl⟩ := sq_so8 Hf
    exact W.vret hx hb hr (fun t ht hW => ⟨⟨(), rfl, trivial, by rw [ht]; exact hP, hD⟩, hS.F ht⟩) hS.2.2 d_Division_divide_64
  have L1 : ∀ (m1 : Nat), ∀ (x16 : Int32) (b17 : Nat → Int32) (b18 : Nat → Int32) (b19 : Nat → Int32) (b20 : Nat → Int32), fn_Division_divide_L1 p2 n0 vp1_size vp1_bytes k11 m1 x16 b17 b18 b19 b20 = some (nvt_size, nvt_from, nvt_next, nvt_state, nvt_bitsBehind, nvt_bitsHere, nvt_choices, nvt_freshBits) → ∀ (H : Heap) (locs : List Loc), va_P (dC, dI) cl_All (ww_Division_divide qp1 qt qp1_bytes qt_bitsBehind qt_bitsHere qt_choices qt_freshBits cp1_bytes ct_bitsBehind ct_bitsHere ct_choices ct_freshBits vp1_size x3 vt_from vt_next vt_mode vt_state vp1_bytes b17 b18 b19 b20) H → va_D A (ww_Division_divide qp1 qt qp1_bytes qt_bitsBehind qt_bitsHere qt_choices qt_freshBits cp1_bytes ct_bitsBehind ct_bitsHere ct_choices ct_freshBits vp1_size x3 vt_from vt_next vt_mode vt_state vp1_bytes b17 b18 b19 b20) → va_S A s.heap H locs → ∀ ls : Array Slot, lv_has ls 4 [(0, .ref qt), (1, .ref qp1), (2, .int p2), (3, .int x16)] → W p l e (headSpec w_Division_divide rm_Division_divide).room s m (([.ref qt, .ref qp1, .int p2] : List Value).toArray) below meth c H locs 0 0 (MQ below (qc_Division_divide dC dI A qp1 qt qp1_bytes qt_bitsBehind qt_bitsHere qt_choices qt_freshBits cp1_bytes ct_bitsBehind ct_bitsHere ct_choices ct_freshBits vp1_size nvt_size nvt_from nvt_next vt_mode nvt_state vp1_bytes nvt_bitsBehind nvt_bitsHere nvt_choices nvt_freshBits) (([.ref qt, .ref qp1, .int p2] : List Value).toArray) s 0 0 A) (F0 m 31 ls []) := by
    intro m1
    induction m1 with
    | zero => intro x16 b17 b18 b19 b20 Hf; exact sq_none Hf
    | succ m1 ih1 =>
      intro x16 b17 b18 b19 b20 Hf H locs  hP hD hS ls hl
      replace Hf := (fn_Division_divide_L1_s p2 n0 vp1_size vp1_bytes k11 m1 x16 b17 b18 b19 b20).symm.trans Hf
      refine lv_iload_n hx hb d_Division_divide_31 rfl (lv_at hl 3 rfl) ?_
      refine lv_if_lt (tgt := 60) hx hb d_Division_divide_32 (by decide) (fun c21 => ?_) (fun c21 => ?_)
      · replace Hf := sq_ite_t Hf c21
        exact Jk11 b17 b18 b19 b20 Hf _ _  hP hD hS _ (lv_sub hl [0] rfl)
      · replace Hf := sq_ite_f Hf c21
        refine lv_aload_n hx hb d_Division_divide_35 rfl (lv_at hl 0 rfl) ?_
        refine va_get (D := (dC, dI)) (ci := 1) (v := .ref qt_choices) (C := R_Division) (T := F_Division) (N := 9) hx hb ht i_Division hown hK hP 1 rfl rfl 0 (by decide) (ht _ tb_70) (fun _ h9 => h9) rfl d_Division_divide_36 ?_
        refine lv_iload_n hx hb d_Division_divide_39 rfl (lv_at hl 3 rfl) ?_
        refine lv_aload_n hx hb d_Division_divide_40 rfl (lv_at hl 0 rfl) ?_
        refine lv_aload_n hx hb d_Division_divide_41 rfl (lv_at hl 1 rfl) ?_
        refine lv_iload_n hx hb d_Division_divide_42 rfl (lv_at hl 3 rfl) ?_
        obtain ⟨r22, hc23, Hf⟩ := sq_cb1_e Hf
        refine sq_roi (va_runV (As := [.int x16]) (rest := [.ref qt, .int x16, .ref qt_choices]) ⟨hx, hb, hml, hown, ht⟩ (kt_Data_get l dC dI qp1 qp1_bytes cp1_bytes vp1_size vp1_bytes x16 r22 hc23) (cwV 1 ht (sq_gV tb_814 tb_318 tb_319 tb_3 tb_320) rfl rfl rfl (by decide +kernel) ⟨Nat.le_of_ble_eq_true rfl, Nat.le_of_ble_eq_true rfl⟩) (sq_roV (hP.sub (ws' := (ww_Data_get qp1 qp1_bytes cp1_bytes vp1_size vp1_bytes)) [0, 2] rfl) (hK.sub (tys' := [(cp1_bytes, .byte)]) [0] rfl) (va_recv hK hP (ci := 0) (q0 := 0) rfl rfl)) rfl rfl hl.1 rfl (lv_room (Nat.le_of_ble_eq_true rfl)) d_Division_divide_43 ⟨Nat.le_of_ble_eq_true rfl, Nat.le_of_ble_eq_true rfl⟩) ?_
        obtain ⟨r24, hc25, Hf⟩ := sq_cb1_e Hf
        refine sq_roi (va_runS (As := [.int r22]) (rest := [.ref qt, .int x16, .ref qt_choices]) ⟨hx, hb, hml, hown, ht⟩ (kt_Mode_least l dC dI r22 tt n0 r24 hc25) (va_cwS 1 ht (sq_gS tb_815 tb_816 tb_19 tb_817) rfl rfl rfl (by decide +kernel) ⟨Nat.le_of_ble_eq_true rfl, Nat.le_of_ble_eq_true rfl⟩) (sq_roSX (hP.sub (ws' := ([] : va_W)) [] rfl) (hK.sub (tys' := []) [] rfl) hX hS (fun _ h => h.elim)) rfl rfl hl.1 rfl (lv_room (Nat.le_of_ble_eq_true rfl)) d_Division_divide_46 ⟨Nat.le_of_ble_eq_true rfl, Nat.le_of_ble_eq_true rfl⟩) ?_
        refine lv_iload_n hx hb d_Division_divide_49 rfl (lv_at hl 2 rfl) ?_
        obtain ⟨r26, b27, b28, b29, hc30, Hf⟩ := sq_cb4_e Hf
        refine sq_rwi (wn := (ww_Division_divide qp1 qt qp1_bytes qt_bitsBehind qt_bitsHere qt_choices qt_freshBits cp1_bytes ct_bitsBehind ct_bitsHere ct_choices ct_freshBits vp1_size x3 vt_from vt_next vt_mode vt_state vp1_bytes b27 b28 b19 b29)) (va_runV (As := [.int r24, .int p2]) (rest := [.int x16, .ref qt_choices]) ⟨hx, hb, hml, hown, ht⟩ (kt_Division_chooseModes l dC dI qt qt_bitsBehind qt_bitsHere qt_freshBits qt_choices ct_bitsBehind ct_bitsHere ct_freshBits x3 vt_from vt_next vt_mode vt_state b17 b18 b20 r24 p2 tt H.size n0 r26 b27 b28 b29 hc30) (cwV 2 ht (sq_gV tb_873 tb_875 sl_21 tb_4 tb_876) rfl rfl rfl (by decide +kernel) ⟨Nat.le_of_ble_eq_true rfl, Nat.le_of_ble_eq_true rfl⟩) (sq_rwVX (hP.sub (ws' := (ww_Division_chooseModes qt qt_bitsBehind qt_bitsHere qt_freshBits qt_choices ct_bitsBehind ct_bitsHere ct_freshBits x3 vt_from vt_next vt_mode vt_state b17 b18 b20)) [1, 3, 4, 6] rfl) (hK.sub (tys' := [(ct_bitsBehind, .int), (ct_bitsHere, .int), (ct_freshBits, .int)]) [1, 2, 4] rfl) (hD.sub (ws' := (ww_Division_chooseModes qt qt_bitsBehind qt_bitsHere qt_freshBits qt_choices ct_bitsBehind ct_bitsHere ct_freshBits x3 vt_from vt_next vt_mode vt_state b17 b18 b20)) [1, 3, 4, 6] (by decide) rfl) (va_recv hK hP (ci := 1) (q0 := 1) rfl rfl) hX hS (va_free (wc := (ww_Division_chooseModes qt qt_bitsBehind qt_bitsHere qt_freshBits qt_choices ct_bitsBehind ct_bitsHere ct_freshBits x3 vt_from vt_next vt_mode vt_state b17 b18 b20)) hD hS hA [1, 3, 4, 6] rfl)) rfl rfl hl.1 rfl (lv_room (Nat.le_of_ble_eq_true rfl)) d_Division_divide_50 ⟨Nat.le_of_ble_eq_true rfl, Nat.le_of_ble_eq_true rfl⟩) hP hD hS hA [1, 3, 4, 6] [0, 2, 5] [0, 3, 1, 4, 5, 2, 6] rfl rfl (by decide) (by decide) rfl (by decide) (fun H locs hP hD hS => ?_)
        obtain ⟨hi31, Hf⟩ := sq_gi_e Hf
        obtain ⟨b32, eb32, Hf⟩ := sq_bd_e Hf
        refine va_iast hx hb hK hP hD hS 5 3 rfl rfl hi31 d_Division_divide_53 (fun H locs hP hD hS => ?_)
        rw [← eb32] at hP hD
        replace hP : va_P (dC, dI) cl_All (ww_Division_divide qp1 qt qp1_bytes qt_bitsBehind qt_bitsHere qt_choices qt_freshBits cp1_bytes ct_bitsBehind ct_bitsHere ct_choices ct_freshBits vp1_size x3 vt_from vt_next vt_mode vt_state vp1_bytes b27 b28 b32 b29) H := hP
        replace hD : va_D A (ww_Division_divide qp1 qt qp1_bytes qt_bitsBehind qt_bitsHere qt_choices qt_freshBits cp1_bytes ct_bitsBehind ct_bitsHere ct_choices ct_freshBits vp1_size x3 vt_from vt_next vt_mode vt_state vp1_bytes b27 b28 b32 b29) := hD
        obtain ⟨x33, ex33, Hf⟩ := sq_bd_e Hf
        refine lv_iinc (v := x33) (lv' := [(3, .int x33), (0, .ref qt), (1, .ref qp1), (2, .int p2)]) hx hb d_Division_divide_54 hl (k := 3) rfl (by rw [ex33]; rfl) (by decide) rfl (fun ls hl => ?_)
        refine lv_goto (tgt := 31) hx hb d_Division_divide_57 (by decide) ?_
        exact ih1 x33 b27 b28 b32 b29 Hf _ _  hP hD hS _ (lv_sub hl [1, 2, 3, 0] rfl)
  exact L1 n0 x6 b4 vt_bitsHere vt_choices vt_freshBits Hf _ _  hP hD hS _ (lv_sub hl [1, 2, 3, 0] rfl)

def fn_Division_bits (vt_bitsBehind : Nat → Int32) : Option (Int32) :=
  sq_gi (6 : Int32) 7 <| sq_bd (vt_bitsBehind (6 : Int32).toNatClampNeg) fun x2 => some (x2)
abbrev ww_Division_bits (qt qt_bitsBehind qt_choices qt_bitsHere qt_freshBits : Nat) (ct_bitsBehind : ClassId) (vt_size : Int32) (vt_from : Int32) (vt_next : Int32) (vt_mode : Int32) (vt_state : Int32) (vt_bitsBehind : Nat → Int32) : va_W := [(qt, .inr (1, [.ref qt_choices, .ref qt_bitsBehind, .ref qt_bitsHere, .ref qt_freshBits, .int vt_size, .int vt_from, .int vt_next, .int vt_mode, .int vt_state])), (qt_bitsBehind, .inl (ct_bitsBehind, 7, .inl vt_bitsBehind))]

def rm_Division_bits : Room := { frames := 0, cells := 0, slots := 0, locals := 0 }
abbrev qc_Division_bits (r0 : Int32) : Array Value → State → Outcome → State → Prop := vp_Si (fun r => r = r0)

set_option maxHeartbeats 4000000 in
set_option maxRecDepth 100000 in
theorem kt_Division_bits (l : Launch) (dC : Nat → ClassId) (dI : Nat → Nat → Nat) (qt qt_bitsBehind qt_choices qt_bitsHere qt_freshBits : Nat) (ct_bitsBehind : ClassId) (vt_size : Int32) (vt_from : Int32) (vt_next : Int32) (vt_mode : Int32) (vt_state : Int32) (vt_bitsBehind : Nat → Int32) (r0 : Int32) (Hf : fn_Division_bits vt_bitsBehind = some r0) : Met l y_Division_bits w_Division_bits rm_Division_bits (va_Pc [.ref qt] (fun U => va_P (dC, dI) cl_All (ww_Division_bits qt qt_bitsBehind qt_choices qt_bitsHere qt_freshBits ct_bitsBehind vt_size vt_from vt_next vt_mode vt_state vt_bitsBehind) U.heap ∧ va_K (dC, dI) cl_All [(ct_bitsBehind, .int)] U)) (qc_Division_bits r0) 0 0 (fun _ => False) := by
  refine Met.ofW (cc := prog_4_method_4_code) (maxL := 1) (ret := (some .int)) (by decide) rfl ?_
  intro p e s m args below meth c s₁ B hml hv
  obtain ⟨rfl, hP, hK⟩ := hv
  have hx := B.exec; have hb := B.bytes; have hr := B.returns; have hlocks := B.notSynchronized
  have ht : ∀ w ∈ lw_g, w.before _ s = true := fun w h => atoms_spec (ws := w_Division_bits) B.pre w (List.mem_cons_of_mem _ h)
  have hown : s.vm.findClass "SquareSymbols$Division" = some m.cls := findClass_of_methodNamed B.named
  have hl := lv_entry ([.ref qt]) (n := 1) (Nat.le_of_ble_eq_true rfl)
  rw [lg_entry_eq]
  generalize (lg_sl ([.ref qt]) ++ List.replicate (1 - (lg_sl ([.ref qt])).length) Slot.unset).toArray = ls at hl ⊢
  have hl : lv_has ls 1 [(0, .ref qt)] := hl
  refine lv_aload_n hx hb d_Division_bits_0 rfl (lv_at hl 0 rfl) ?_
  refine va_get (D := (dC, dI)) (ci := 1) (v := .ref qt_bitsBehind) (C := R_Division) (T := F_Division) (N := 9) hx hb ht i_Division hown hK hP 0 rfl rfl 1 (by decide) (ht _ tb_71) (fun _ h9 => h9) rfl d_Division_bits_1 ?_
  refine lv_bipush (v := (6 : Int32)) hx hb d_Division_bits_4 (by decide) ?_
  obtain ⟨hi1, Hf⟩ := sq_gi_e Hf
  refine va_iald hx hb hK hP 1 0 rfl rfl hi1 d_Division_bits_6 ?_
  obtain ⟨x2, ex2, Hf⟩ := sq_bd_e Hf
  refine sq_top ex2 ?_
  have er := Option.some.inj Hf
  exact W.iret hx hb hr (fun t ht hW => ⟨_, rfl, er, ht⟩) (fun q h => by cases h) d_Division_bits_7

def fn_Division_choice (p1 : Int32) (vt_state : Int32) (vt_choices : Nat → Int32) : Option (Int32) :=
  sq_cb1 (fn_Sq_item p1 3000 vt_choices) fun r1 => some ((r1 >>> (((2 : Int32) * vt_state) &&& 31)) &&& (3 : Int32))
abbrev ww_Division_choice (qt qt_choices qt_bitsBehind qt_bitsHere qt_freshBits : Nat) (ct_choices : ClassId) (vt_size : Int32) (vt_from : Int32) (vt_next : Int32) (vt_mode : Int32) (vt_state : Int32) (vt_choices : Nat → Int32) : va_W := [(qt, .inr (1, [.ref qt_choices, .ref qt_bitsBehind, .ref qt_bitsHere, .ref qt_freshBits, .int vt_size, .int vt_from, .int vt_next, .int vt_mode, .int vt_state])), (qt_choices, .inl (ct_choices, 3000, .inl vt_choices))]

def rm_Division_choice : Room := { frames := 1, cells := 0, slots := 0, locals := 21 }
abbrev qc_Division_choice (r0 : Int32) : Array Value → State → Outcome → State → Prop := vp_Si (fun r => r = r0)

set_option maxHeartbeats 4000000 in
set_option maxRecDepth 100000 in
theorem kt_Division_choice (l : Launch) (dC : Nat → ClassId) (dI : Nat → Nat → Nat) (qt qt_choices qt_bitsBehind qt_bitsHere qt_freshBits : Nat) (ct_choices : ClassId) (vt_size : Int32) (vt_from : Int32) (vt_next : Int32) (vt_mode : Int32) (vt_state : Int32) (vt_choices : Nat → Int32) (p1 : Int32) (tt : Nat → Nat) (r0 : Int32) (Hf : fn_Division_choice p1 vt_state vt_choices = some r0) : Met l y_Division_choice w_Division_choice rm_Division_choice (va_Pc [.ref qt, .int p1] (fun U => va_P (dC, dI) cl_All (ww_Division_choice qt qt_choices qt_bitsBehind qt_bitsHere qt_freshBits ct_choices vt_size vt_from vt_next vt_mode vt_state vt_choices) U.heap ∧ va_K (dC, dI) cl_All [(ct_choices, .int)] U ∧ sx_T tt (fun _ => False) U U.heap)) (qc_Division_choice r0) 0 0 (fun _ => False) := by
  refine Met.ofW (cc := prog_4_method_8_code) (maxL := 2) (ret := (some .int)) (by decide) rfl ?_
  intro p e s m args below meth c s₁ B hml hv
  obtain ⟨rfl, hP, hK, hX⟩ := hv
  have hx := B.exec; have hb := B.bytes; have hr := B.returns; have hlocks := B.notSynchronized
  have ht : ∀ w ∈ lw_g, w.before _ s = true := fun w h => atoms_spec (ws := w_Division_choice) B.pre w (List.mem_cons_of_mem _ h)
  have hown : s.vm.findClass "SquareSymbols$Division" = some m.cls := findClass_of_methodNamed B.named
  have hl := lv_entry ([.ref qt, .int p1]) (n := 2) (Nat.le_of_ble_eq_true rfl)
  rw [lg_entry_eq]
  generalize (lg_sl ([.ref qt, .int p1]) ++ List.replicate (2 - (lg_sl ([.ref qt, .int p1])).length) Slot.unset).toArray = ls at hl ⊢
  have hl : lv_has ls 2 [(0, .ref qt), (1, .int p1)] := hl
  refine lv_aload_n hx hb d_Division_choice_0 rfl (lv_at hl 0 rfl) ?_
  refine va_get (D := (dC, dI)) (ci := 1) (v := .ref qt_choices) (C := R_Division) (T := F_Division) (N := 9) hx hb ht i_Division hown hK hP 0 rfl rfl 0 (by decide) (ht _ tb_70) (fun _ h9 => h9) rfl d_Division_choice_1 ?_
  refine lv_iload_n hx hb d_Division_choice_4 rfl (lv_at hl 1 rfl) ?_
  obtain ⟨r1, hc2, Hf⟩ := sq_cb1_e Hf
  refine sq_roi (va_runSN (As := [.ref qt_choices, .int p1]) (rest := []) ⟨hx, hb, hml, hown, ht⟩ (kt_Sq_item l dC dI qt_choices ct_choices 3000 vt_choices p1 r1 hc2) ⟨va_cnB 2 ht (sq_g1 tb_414) rfl rfl rfl hX.n881 (ht _ tb_1) (by decide +kernel) ⟨Nat.le_of_ble_eq_true rfl, Nat.le_of_ble_eq_true rfl⟩, ht _ tb_413, trivial⟩ (sq_roS (hP.sub (ws' := (ww_Sq_item qt_choices ct_choices 3000 vt_choices)) [1] rfl) (hK.sub (tys' := [(ct_choices, .int)]) [0] rfl)) rfl rfl hl.1 rfl (lv_room (Nat.le_of_ble_eq_true rfl)) d_Division_choice_5 ⟨Nat.le_of_ble_eq_true rfl, Nat.le_of_ble_eq_true rfl⟩) ?_
  refine lv_iconst (v := (2 : Int32)) hx hb d_Division_choice_8 (by decide) ?_
  refine lv_aload_n hx hb d_Division_choice_9 rfl (lv_at hl 0 rfl) ?_
  refine va_get (D := (dC, dI)) (ci := 1) (v := .int vt_state) (C := R_Division) (T := F_Division) (N := 9) hx hb ht i_Division hown hK hP 0 rfl rfl 8 (by decide) (ht _ tb_78) (fun _ h9 => h9) rfl d_Division_choice_10 ?_
  refine lv_imul hx hb d_Division_choice_13 ?_
  refine lv_ishr hx hb d_Division_choice_14 ?_
  refine lv_iconst (v := (3 : Int32)) hx hb d_Division_choice_15 (by decide) ?_
  refine lv_iand hx hb d_Division_choice_16 ?_
  have er := Option.some.inj Hf
  exact W.iret hx hb hr (fun t ht hW => ⟨_, rfl, er, ht⟩) (fun q h => by cases h) d_Division_choice_17

def fn_Division_advance_L1 (vt_size : Int32) (vt_next : Int32) (vt_choices : Nat → Int32) (r2 : Int32) : Nat → Int32 → Int32 → Option (Int32 × Int32 × Int32 × Int32 × Int32)
  | 0, _, _ => none
  | m1 + 1, b7, b8 => if vt_size ≤ b7 then (some ((1 : Int32), vt_next, b7, r2, b8)) else (sq_cb1 (fn_Division_choice b7 b8 vt_choices) fun r10 => if r10 = r2 then (sq_cb1 (fn_Sq_item_p1T b8 7 tv_NEXT) fun r13 => sq_bd (b7 + (1 : Int32)) fun x15 => fn_Division_advance_L1 vt_size vt_next vt_choices r2 m1 x15 r13) else (some ((1 : Int32), vt_next, b7, r2, b8)))
theorem fn_Division_advance_L1_s (vt_size : Int32) (vt_next : Int32) (vt_choices : Nat → Int32) (r2 : Int32) (m1 : Nat) (b7 : Int32) (b8 : Int32) : fn_Division_advance_L1 vt_size vt_next vt_choices r2 (m1 + 1) b7 b8 = if vt_size ≤ b7 then (some ((1 : Int32), vt_next, b7, r2, b8)) else (sq_cb1 (fn_Division_choice b7 b8 vt_choices) fun r10 => if r10 = r2 then (sq_cb1 (fn_Sq_item_p1T b8 7 tv_NEXT) fun r13 => sq_bd (b7 + (1 : Int32)) fun x15 => fn_Division_advance_L1 vt_size vt_next vt_choices r2 m1 x15 r13) else (some ((1 : Int32), vt_next, b7, r2, b8))) := rfl
def fn_Division_advance (n0 : Nat) (vt_size : Int32) (vt_from : Int32) (vt_next : Int32) (vt_mode : Int32) (vt_state : Int32) (vt_choices : Nat → Int32) : Option (Int32 × Int32 × Int32 × Int32 × Int32) :=
  if vt_next < vt_size then (sq_cb1 (fn_Division_choice vt_next vt_state vt_choices) fun r2 => sq_cb1 (fn_Sq_item_p1T r2 3 tv_FIRST) fun r4 => sq_bd (vt_next + (1 : Int32)) fun x6 => fn_Division_advance_L1 vt_size vt_next vt_choices r2 n0 x6 r4) else (some ((0 : Int32), vt_from, vt_next, vt_mode, vt_state))
abbrev ww_Division_advance (qt qt_choices qt_bitsBehind qt_bitsHere qt_freshBits : Nat) (ct_choices : ClassId) (vt_size : Int32) (vt_from : Int32) (vt_next : Int32) (vt_mode : Int32) (vt_state : Int32) (vt_choices : Nat → Int32) : va_W := [(qt, .inr (1, [.ref qt_choices, .ref qt_bitsBehind, .ref qt_bitsHere, .ref qt_freshBits, .int vt_size, .int vt_from, .int vt_next, .int vt_mode, .int vt_state])), (qt_choices, .inl (ct_choices, 3000, .inl vt_choices))]

def rm_Division_advance : Room := { frames := 2, cells := 0, slots := 0, locals := 42 }
abbrev qc_Division_advance (dC : Nat → ClassId) (dI : Nat → Nat → Nat) (A : Nat → Prop) (r0 : Int32) (qt qt_choices qt_bitsBehind qt_bitsHere qt_freshBits : Nat) (ct_choices : ClassId) (vt_size : Int32) (vt_from : Int32) (vt_next : Int32) (vt_mode : Int32) (vt_state : Int32) (vt_choices : Nat → Int32) : Array Value → State → Outcome → State → Prop := va_Qi (fun r (_ : Unit) => r = r0) (fun _ t => va_P (dC, dI) cl_All (ww_Division_advance qt qt_choices qt_bitsBehind qt_bitsHere qt_freshBits ct_choices vt_size vt_from vt_next vt_mode vt_state vt_choices) t.heap ∧ va_D A (ww_Division_advance qt qt_choices qt_bitsBehind qt_bitsHere qt_freshBits ct_choices vt_size vt_from vt_next vt_mode vt_state vt_choices)) A

set_option maxHeartbeats 4000000 in
set_option maxRecDepth 100000 in
theorem kt_Division_advance (l : Launch) (dC : Nat → ClassId) (dI : Nat → Nat → Nat) (qt qt_choices qt_bitsBehind qt_bitsHere qt_freshBits : Nat) (ct_choices : ClassId) (vt_size : Int32) (vt_from : Int32) (vt_next : Int32) (vt_mode : Int32) (vt_state : Int32) (vt_choices : Nat → Int32) (tt : Nat → Nat) (sz : Nat) (n0 : Nat) (r0 : Int32) (nvt_from : Int32) (nvt_next : Int32) (nvt_mode : Int32) (nvt_state : Int32) (Hf : fn_Division_advance n0 vt_size vt_from vt_next vt_mode vt_state vt_choices = some (r0, nvt_from, nvt_next, nvt_mode, nvt_state)) : Met l y_Division_advance w_Division_advance rm_Division_advance (va_Pc [.ref qt] (fun U => U.heap.size = sz ∧ va_P (dC, dI) cl_All (ww_Division_advance qt qt_choices qt_bitsBehind qt_bitsHere qt_freshBits ct_choices vt_size vt_from vt_next vt_mode vt_state vt_choices) U.heap ∧ va_K (dC, dI) cl_All [(ct_choices, .int)] U ∧ va_D (fun _ => True) (ww_Division_advance qt qt_choices qt_bitsBehind qt_bitsHere qt_freshBits ct_choices vt_size vt_from vt_next vt_mode vt_state vt_choices) ∧ sx_T tt (va_A (ww_Division_advance qt qt_choices qt_bitsBehind qt_bitsHere qt_freshBits ct_choices vt_size vt_from vt_next vt_mode vt_state vt_choices) sz) U U.heap)) (qc_Division_advance dC dI (va_A (ww_Division_advance qt qt_choices qt_bitsBehind qt_bitsHere qt_freshBits ct_choices vt_size vt_from vt_next vt_mode vt_state vt_choices) sz) r0 qt qt_choices qt_bitsBehind qt_bitsHere qt_freshBits ct_choices vt_size nvt_from nvt_next nvt_mode nvt_state vt_choices) 0 0 (va_A (ww_Division_advance qt qt_choices qt_bitsBehind qt_bitsHere qt_freshBits ct_choices vt_size vt_from vt_next vt_mode vt_state vt_choices) sz) := by
  refine Met.ofW (cc := prog_4_method_7_code) (maxL := 1) (ret := (some .boolean)) (by decide) rfl ?_
  intro p e s m args below meth c s₁ B hml hv
  obtain ⟨rfl, hsz, hP, hK, hD0, hX⟩ := hv
  have hx := B.exec; have hb := B.bytes; have hr := B.returns; have hlocks := B.notSynchronized
  have ht : ∀ w ∈ lw_g, w.before _ s = true := fun w h => atoms_spec (ws := w_Division_advance) B.pre w (List.mem_cons_of_mem _ h)
  have hown : s.vm.findClass "SquareSymbols$Division" = some m.cls := findClass_of_methodNamed B.named
  subst hsz
  have hD := hD0.self (sz := s.heap.size)
  generalize hAe : va_A (ww_Division_advance qt qt_choices qt_bitsBehind qt_bitsHere qt_freshBits ct_choices vt_size vt_from vt_next vt_mode vt_state vt_choices) s.heap.size = A at hD hX ⊢
  have hA : ∀ q : Nat, s.heap.size ≤ q → A q := fun q h => by rw [← hAe]; exact Or.inr h
  have hS : va_S A s.heap s.heap [] := va_S.rf
  have hl := lv_entry ([.ref qt]) (n := 1) (Nat.le_of_ble_eq_true rfl)
  rw [lg_entry_eq]
  generalize (lg_sl ([.ref qt]) ++ List.replicate (1 - (lg_sl ([.ref qt])).length) Slot.unset).toArray = ls at hl ⊢
  have hl : lv_has ls 1 [(0, .ref qt)] := hl
  refine lv_aload_n hx hb d_Division_advance_0 rfl (lv_at hl 0 rfl) ?_
  refine va_get (D := (dC, dI)) (ci := 1) (v := .int vt_next) (C := R_Division) (T := F_Division) (N := 9) hx hb ht i_Division hown hK hP 0 rfl rfl 6 (by decide) (ht _ tb_76) (fun _ h9 => h9) rfl d_Division_advance_1 ?_
  refine lv_aload_n hx hb d_Division_advance_4 rfl (lv_at hl 0 rfl) ?_
  refine va_get (D := (dC, dI)) (ci := 1) (v := .int vt_size) (C := R_Division) (T := F_Division) (N := 9) hx hb ht i_Division hown hK hP 0 rfl rfl 4 (by decide) (ht _ tb_74) (fun _ h9 => h9) rfl d_Division_advance_5 ?_
  refine lv_icmp_lt (tgt := 13) hx hb d_Division_advance_8 (by decide) (fun c1 => ?_) (fun c1 => ?_)
  · replace Hf := sq_ite_t Hf c1
    refine lv_aload_n hx hb d_Division_advance_13 rfl (lv_at hl 0 rfl) ?_
    refine lv_aload_n hx hb d_Division_advance_14 rfl (lv_at hl 0 rfl) ?_
    refine va_get (D := (dC, dI)) (ci := 1) (v := .int vt_next) (C := R_Division) (T := F_Division) (N := 9) hx hb ht i_Division hown hK hP 0 rfl rfl 6 (by decide) (ht _ tb_76) (fun _ h9 => h9) rfl d_Division_advance_15 ?_
    refine va_put (D := (dC, dI)) (ci := 1) (v := .int vt_next) (ty := .int) (C := R_Division) (T := F_Division) (N := 9) hx hb ht i_Division t_Division t_Division_ok n_Division hown hK hP hD hS 0 rfl rfl 5 (by decide) (ht _ tb_75) (fun _ h9 => h9) rfl (by decide +kernel) rfl rfl (Nat.le_of_ble_eq_true rfl) d_Division_advance_18 (fun H locs hP hD hS => ?_)
    replace hP : va_P (dC, dI) cl_All (ww_Division_advance qt qt_choices qt_bitsBehind qt_bitsHere qt_freshBits ct_choices vt_size vt_next vt_next vt_mode vt_state vt_choices) H := hP
    replace hD : va_D A (ww_Division_advance qt qt_choices qt_bitsBehind qt_bitsHere qt_freshBits ct_choices vt_size vt_next vt_next vt_mode vt_state vt_choices) := hD
    refine lv_aload_n hx hb d_Division_advance_21 rfl (lv_at hl 0 rfl) ?_
    refine lv_aload_n hx hb d_Division_advance_22 rfl (lv_at hl 0 rfl) ?_
    refine lv_aload_n hx hb d_Division_advance_23 rfl (lv_at hl 0 rfl) ?_
    refine va_get (D := (dC, dI)) (ci := 1) (v := .int vt_next) (C := R_Division) (T := F_Division) (N := 9) hx hb ht i_Division hown hK hP 0 rfl rfl 5 (by decide) (ht _ tb_75) (fun _ h9 => h9) rfl d_Division_advance_24 ?_
    obtain ⟨r2, hc3, Hf⟩ := sq_cb1_e Hf
    refine sq_roi (va_runV (As := [.int vt_next]) (rest := [.ref qt]) ⟨hx, hb, hml, hown, ht⟩ (kt_Division_choice l dC dI qt qt_choices qt_bitsBehind qt_bitsHere qt_freshBits ct_choices vt_size vt_next vt_next vt_mode vt_state vt_choices vt_next tt r2 hc3) (cwV 1 ht (sq_gV tb_906 tb_908 sl_22 tb_4 tb_909) rfl rfl rfl (by decide +kernel) ⟨Nat.le_of_ble_eq_true rfl, Nat.le_of_ble_eq_true rfl⟩) (sq_roVX (hP.sub (ws' := (ww_Division_choice qt qt_choices qt_bitsBehind qt_bitsHere qt_freshBits ct_choices vt_size vt_next vt_next vt_mode vt_state vt_choices)) [0, 1] rfl) (hK.sub (tys' := [(ct_choices, .int)]) [0] rfl) (va_recv hK hP (ci := 1) (q0 := 0) rfl rfl) hX hS (fun _ h => h.elim)) rfl rfl hl.1 rfl (lv_room (Nat.le_of_ble_eq_true rfl)) d_Division_advance_27 ⟨Nat.le_of_ble_eq_true rfl, Nat.le_of_ble_eq_true rfl⟩) ?_
    refine va_put (D := (dC, dI)) (ci := 1) (v := .int r2) (ty := .int) (C := R_Division) (T := F_Division) (N := 9) hx hb ht i_Division t_Division t_Division_ok n_Division hown hK hP hD hS 0 rfl rfl 7 (by decide) (ht _ tb_77) (fun _ h9 => h9) rfl (by decide +kernel) rfl rfl (Nat.le_of_ble_eq_true rfl) d_Division_advance_30 (fun H locs hP hD hS => ?_)
    replace hP : va_P (dC, dI) cl_All (ww_Division_advance qt qt_choices qt_bitsBehind qt_bitsHere qt_freshBits ct_choices vt_size vt_next vt_next r2 vt_state vt_choices) H := hP
    replace hD : va_D A (ww_Division_advance qt qt_choices qt_bitsBehind qt_bitsHere qt_freshBits ct_choices vt_size vt_next vt_next r2 vt_state vt_choices) := hD
    refine lv_aload_n hx hb d_Division_advance_33 rfl (lv_at hl 0 rfl) ?_
    refine va_gets hx hb hX.z6 hS hown (ht _ tb_879) (fun _ h => h) d_Division_advance_34 ?_
    refine lv_aload_n hx hb d_Division_advance_37 rfl (lv_at hl 0 rfl) ?_
    refine va_get (D := (dC, dI)) (ci := 1) (v := .int r2) (C := R_Division) (T := F_Division) (N := 9) hx hb ht i_Division hown hK hP 0 rfl rfl 7 (by decide) (ht _ tb_77) (fun _ h9 => h9) rfl d_Division_advance_38 ?_
    obtain ⟨r4, hc5, Hf⟩ := sq_cb1_e Hf
    refine sq_roi (va_runSN (As := [.ref (tt 6), .int r2]) (rest := [.ref qt]) ⟨hx, hb, hml, hown, ht⟩ (kt_Sq_item_p1T l dC dI (tt 6) 3 tv_FIRST r2 r4 hc5) ⟨va_cnB 2 ht (sq_g1 tb_414) rfl rfl rfl hX.n881 (ht _ tb_1) (by decide +kernel) ⟨Nat.le_of_ble_eq_true rfl, Nat.le_of_ble_eq_true rfl⟩, ht _ tb_413, trivial⟩ (sq_roT (hP.sub (ws' := ([] : va_W)) [] rfl) (hK.sub (tys' := []) [] rfl) hX.t6 hS) rfl rfl hl.1 rfl (lv_room (Nat.le_of_ble_eq_true rfl)) d_Division_advance_41 ⟨Nat.le_of_ble_eq_true rfl, Nat.le_of_ble_eq_true rfl⟩) ?_
    refine va_put (D := (dC, dI)) (ci := 1) (v := .int r4) (ty := .int) (C := R_Division) (T := F_Division) (N := 9) hx hb ht i_Division t_Division t_Division_ok n_Division hown hK hP hD hS 0 rfl rfl 8 (by decide) (ht _ tb_78) (fun _ h9 => h9) rfl (by decide +kernel) rfl rfl (Nat.le_of_ble_eq_true rfl) d_Division_advance_44 (fun H locs hP hD hS => ?_)
    replace hP : va_P (dC, dI) cl_All (ww_Division_advance qt qt_choices qt_bitsBehind qt_bitsHere qt_freshBits ct_choices vt_size vt_next vt_next r2 r4 vt_choices) H := hP
    replace hD : va_D A (ww_Division_advance qt qt_choices qt_bitsBehind qt_bitsHere qt_freshBits ct_choices vt_size vt_next vt_next r2 r4 vt_choices) := hD
    refine lv_aload_n hx hb d_Division_advance_47 rfl (lv_at hl 0 rfl) ?_
    refine lv_dup hx hb d_Division_advance_48 rfl ?_
    refine va_get (D := (dC, dI)) (ci := 1) (v := .int vt_next) (C := R_Division) (T := F_Division) (N := 9) hx hb ht i_Division hown hK hP 0 rfl rfl 6 (by decide) (ht _ tb_76) (fun _ h9 => h9) rfl d_Division_advance_49 ?_
    refine lv_iconst (v := (1 : Int32)) hx hb d_Division_advance_52 (by decide) ?_
    refine lv_iadd hx hb d_Division_advance_53 ?_
    obtain ⟨x6, ex6, Hf⟩ := sq_bd_e Hf
    refine sq_top ex6 ?_
    refine va_put (D := (dC, dI)) (ci := 1) (v := .int x6) (ty := .int) (C := R_Division) (T := F_Division) (N := 9) hx hb ht i_Division t_Division t_Division_ok n_Division hown hK hP hD hS 0 rfl rfl 6 (by decide) (ht _ tb_76) (fun _ h9 => h9) rfl (by decide +kernel) rfl rfl (Nat.le_of_ble_eq_true rfl) d_Division_advance_54 (fun H locs hP hD hS => ?_)
    replace hP : va_P (dC, dI) cl_All (ww_Division_advance qt qt_choices qt_bitsBehind qt_bitsHere qt_freshBits ct_choices vt_size vt_next x6 r2 r4 vt_choices) H := hP
    replace hD : va_D A (ww_Division_advance qt qt_choices qt_bitsBehind qt_bitsHere qt_freshBits ct_choices vt_size vt_next x6 r2 r4 vt_choices) := hD
    have L1 : ∀ (m1 : Nat), ∀ (b7 : Int32) (b8 : Int32), fn_Division_advance_L1 vt_size vt_next vt_choices r2 m1 b7 b8 = some (r0, nvt_from, nvt_next, nvt_mode, nvt_state) → ∀ (H : Heap) (locs : List Loc), va_P (dC, dI) cl_All (ww_Division_advance qt qt_choices qt_bitsBehind qt_bitsHere qt_freshBits ct_choices vt_size vt_next b7 r2 b8 vt_choices) H → va_D A (ww_Division_advance qt qt_choices qt_bitsBehind qt_bitsHere qt_freshBits ct_choices vt_size vt_next b7 r2 b8 vt_choices) → va_S A s.heap H locs → ∀ ls : Array Slot, lv_has ls 1 [(0, .ref qt)] → W p l e (headSpec w_Division_advance rm_Division_advance).room s m (([.ref qt] : List Value).toArray) below meth c H locs 0 0 (MQ below (qc_Division_advance dC dI A r0 qt qt_choices qt_bitsBehind qt_bitsHere qt_freshBits ct_choices vt_size nvt_from nvt_next nvt_mode nvt_state vt_choices) (([.ref qt] : List Value).toArray) s 0 0 A) (F0 m 57 ls []) := by
      intro m1
      induction m1 with
      | zero => intro b7 b8 Hf; exact sq_none Hf
      | succ m1 ih1 =>
        intro b7 b8 Hf H locs  hP hD hS ls hl
        replace Hf := (fn_Division_advance_L1_s vt_size vt_next vt_choices r2 m1 b7 b8).symm.trans Hf
        refine lv_aload_n hx hb d_Division_advance_57 rfl (lv_at hl 0 rfl) ?_
        refine va_get (D := (dC, dI)) (ci := 1) (v := .int b7) (C := R_Division) (T := F_Division) (N := 9) hx hb ht i_Division hown hK hP 0 rfl rfl 6 (by decide) (ht _ tb_76) (fun _ h9 => h9) rfl d_Division_advance_58 ?_
        refine lv_aload_n hx hb d_Division_advance_61 rfl (lv_at hl 0 rfl) ?_
        refine va_get (D := (dC, dI)) (ci := 1) (v := .int vt_size) (C := R_Division) (T := F_Division) (N := 9) hx hb ht i_Division hown hK hP 0 rfl rfl 4 (by decide) (ht _ tb_74) (fun _ h9 => h9) rfl d_Division_advance_62 ?_
        refine lv_icmp_ge (tgt := 110) hx hb d_Division_advance_65 (by decide) (fun c9 => ?_) (fun c9 => ?_)
        · replace Hf := sq_ite_t Hf c9
          refine lv_iconst (v := (1 : Int32)) hx hb d_Division_advance_110 (by decide) ?_
          obtain ⟨rfl, rfl, rfl, rfl, rfl⟩ := sq_so5 Hf
          exact W.zret hx hb hr rfl (fun t ht hW => ⟨⟨_, (), rfl, rfl, by rw [ht]; exact hP, hD⟩, hS.F ht⟩) hS.2.2 d_Division_advance_111
        · replace Hf := sq_ite_f Hf c9
          refine lv_aload_n hx hb d_Division_advance_68 rfl (lv_at hl 0 rfl) ?_
          refine lv_aload_n hx hb d_Division_advance_69 rfl (lv_at hl 0 rfl) ?_
          refine va_get (D := (dC, dI)) (ci := 1) (v := .int b7) (C := R_Division) (T := F_Division) (N := 9) hx hb ht i_Division hown hK hP 0 rfl rfl 6 (by decide) (ht _ tb_76) (fun _ h9 => h9) rfl d_Division_advance_70 ?_
          obtain ⟨r10, hc11, Hf⟩ := sq_cb1_e Hf
          refine sq_roi (va_runV (As := [.int b7]) (rest := []) ⟨hx, hb, hml, hown, ht⟩ (kt_Division_choice l dC dI qt qt_choices qt_bitsBehind qt_bitsHere qt_freshBits ct_choices vt_size vt_next b7 r2 b8 vt_choices b7 tt r10 hc11) (cwV 1 ht (sq_gV tb_906 tb_908 sl_22 tb_4 tb_909) rfl rfl rfl (by decide +kernel) ⟨Nat.le_of_ble_eq_true rfl, Nat.le_of_ble_eq_true rfl⟩) (sq_roVX (hP.sub (ws' := (ww_Division_choice qt qt_choices qt_bitsBehind qt_bitsHere qt_freshBits ct_choices vt_size vt_next b7 r2 b8 vt_choices)) [0, 1] rfl) (hK.sub (tys' := [(ct_choices, .int)]) [0] rfl) (va_recv hK hP (ci := 1) (q0 := 0) rfl rfl) hX hS (fun _ h => h.elim)) rfl rfl hl.1 rfl (lv_room (Nat.le_of_ble_eq_true rfl)) d_Division_advance_73 ⟨Nat.le_of_ble_eq_true rfl, Nat.le_of_ble_eq_true rfl⟩) ?_
          refine lv_aload_n hx hb d_Division_advance_76 rfl (lv_at hl 0 rfl) ?_
          refine va_get (D := (dC, dI)) (ci := 1) (v := .int r2) (C := R_Division) (T := F_Division) (N := 9) hx hb ht i_Division hown hK hP 0 rfl rfl 7 (by decide) (ht _ tb_77) (fun _ h9 => h9) rfl d_Division_advance_77 ?_
          refine lv_icmp_ne (tgt := 110) hx hb d_Division_advance_80 (by decide) (fun c12 => ?_) (fun c12 => ?_)
          · replace Hf := sq_ite_f Hf c12
            refine lv_iconst (v := (1 : Int32)) hx hb d_Division_advance_110 (by decide) ?_
            obtain ⟨rfl, rfl, rfl, rfl, rfl⟩ := sq_so5 Hf
            exact W.zret hx hb hr rfl (fun t ht hW => ⟨⟨_, (), rfl, rfl, by rw [ht]; exact hP, hD⟩, hS.F ht⟩) hS.2.2 d_Division_advance_111
          · replace Hf := sq_ite_t Hf c12
            refine lv_aload_n hx hb d_Division_advance_83 rfl (lv_at hl 0 rfl) ?_
            refine va_gets hx hb hX.z4 hS hown (ht _ tb_887) (fun _ h => h) d_Division_advance_84 ?_
            refine lv_aload_n hx hb d_Division_advance_87 rfl (lv_at hl 0 rfl) ?_
            refine va_get (D := (dC, dI)) (ci := 1) (v := .int b8) (C := R_Division) (T := F_Division) (N := 9) hx hb ht i_Division hown hK hP 0 rfl rfl 8 (by decide) (ht _ tb_78) (fun _ h9 => h9) rfl d_Division_advance_88 ?_
            obtain ⟨r13, hc14, Hf⟩ := sq_cb1_e Hf
            refine sq_roi (va_runSN (As := [.ref (tt 4), .int b8]) (rest := [.ref qt]) ⟨hx, hb, hml, hown, ht⟩ (kt_Sq_item_p1T l dC dI (tt 4) 7 tv_NEXT b8 r13 hc14) ⟨va_cnB 2 ht (sq_g1 tb_414) rfl rfl rfl hX.n881 (ht _ tb_1) (by decide +kernel) ⟨Nat.le_of_ble_eq_true rfl, Nat.le_of_ble_eq_true rfl⟩, ht _ tb_413, trivial⟩ (sq_roT (hP.sub (ws' := ([] : va_W)) [] rfl) (hK.sub (tys' := []) [] rfl) hX.t4 hS) rfl rfl hl.1 rfl (lv_room (Nat.le_of_ble_eq_true rfl)) d_Division_advance_91 ⟨Nat.le_of_ble_eq_true rfl, Nat.le_of_ble_eq_true rfl⟩) ?_
            refine va_put (D := (dC, dI)) (ci := 1) (v := .int r13) (ty := .int) (C := R_Division) (T := F_Division) (N := 9) hx hb ht i_Division t_Division t_Division_ok n_Division hown hK hP hD hS 0 rfl rfl 8 (by decide) (ht _ tb_78) (fun _ h9 => h9) rfl (by decide +kernel) rfl rfl (Nat.le_of_ble_eq_true rfl) d_Division_advance_94 (fun H locs hP hD hS => ?_)
            replace hP : va_P (dC, dI) cl_All (ww_Division_advance qt qt_choices qt_bitsBehind qt_bitsHere qt_freshBits ct_choices vt_size vt_next b7 r2 r13 vt_choices) H := hP
            replace hD : va_D A (ww_Division_advance qt qt_choices qt_bitsBehind qt_bitsHere qt_freshBits ct_choices vt_size vt_next b7 r2 r13 vt_choices) := hD
            refine lv_aload_n hx hb d_Division_advance_97 rfl (lv_at hl 0 rfl) ?_
            refine lv_dup hx hb d_Division_advance_98 rfl ?_
            refine va_get (D := (dC, dI)) (ci := 1) (v := .int b7) (C := R_Division) (T := F_Division) (N := 9) hx hb ht i_Division hown hK hP 0 rfl rfl 6 (by decide) (ht _ tb_76) (fun _ h9 => h9) rfl d_Division_advance_99 ?_
            refine lv_iconst (v := (1 : Int32)) hx hb d_Division_advance_102 (by decide) ?_
            refine lv_iadd hx hb d_Division_advance_103 ?_
            obtain ⟨x15, ex15, Hf⟩ := sq_bd_e Hf
            refine sq_top ex15 ?_
            refine va_put (D := (dC, dI)) (ci := 1) (v := .int x15) (ty := .int) (C := R_Division) (T := F_Division) (N := 9) hx hb ht i_Division t_Division t_Division_ok n_Division hown hK hP hD hS 0 rfl rfl 6 (by decide) (ht _ tb_76) (fun _ h9 => h9) rfl (by decide +kernel) rfl rfl (Nat.le_of_ble_eq_true rfl) d_Division_advance_104 (fun H locs hP hD hS => ?_)
            replace hP : va_P (dC, dI) cl_All (ww_Division_advance qt qt_choices qt_bitsBehind qt_bitsHere qt_freshBits ct_choices vt_size vt_next x15 r2 r13 vt_choices) H := hP
            replace hD : va_D A (ww_Division_advance qt qt_choices qt_bitsBehind qt_bitsHere qt_freshBits ct_choices vt_size vt_next x15 r2 r13 vt_choices) := hD
            refine lv_goto (tgt := 57) hx hb d_Division_advance_107 (by decide) ?_
            exact ih1 x15 r13 Hf _ _  hP hD hS _ (lv_sub hl [0] rfl)
    exact L1 n0 x6 r4 Hf _ _  hP hD hS _ (lv_sub hl [0] rfl)
  · replace Hf := sq_ite_f Hf c1
    refine lv_iconst (v := (0 : Int32)) hx hb d_Division_advance_11 (by decide) ?_
    obtain ⟨rfl, rfl, rfl, rfl, rfl⟩ := sq_so5 Hf
    exact W.zret hx hb hr rfl (fun t ht hW => ⟨⟨_, (), rfl, rfl, by rw [ht]; exact hP, hD⟩, hS.F ht⟩) hS.2.2 d_Division_advance_12

def fn_Division_length (vt_from : Int32) (vt_next : Int32) : Option (Int32) :=
  some (vt_next - vt_from)
abbrev ww_Division_length (qt qt_choices qt_bitsBehind qt_bitsHere qt_freshBits : Nat) (vt_size : Int32) (vt_from : Int32) (vt_next : Int32) (vt_mode : Int32) (vt_state : Int32) : va_W := [(qt, .inr (1, [.ref qt_choices, .ref qt_bitsBehind, .ref qt_bitsHere, .ref qt_freshBits, .int vt_size, .int vt_from, .int vt_next, .int vt_mode, .int vt_state]))]

def rm_Division_length : Room := { frames := 0, cells := 0, slots := 0, locals := 0 }
abbrev qc_Division_length (r0 : Int32) : Array Value → State → Outcome → State → Prop := vp_Si (fun r => r = r0)

set_option maxHeartbeats 4000000 in
set_option maxRecDepth 100000 in
theorem kt_Division_length (l : Launch) (dC : Nat → ClassId) (dI : Nat → Nat → Nat) (qt qt_choices qt_bitsBehind qt_bitsHere qt_freshBits : Nat) (vt_size : Int32) (vt_from : Int32) (vt_next : Int32) (vt_mode : Int32) (vt_state : Int32) (r0 : Int32) (Hf : fn_Division_length vt_from vt_next = some r0) : Met l y_Division_length w_Division_length rm_Division_length (va_Pc [.ref qt] (fun U => va_P (dC, dI) cl_All (ww_Division_length qt qt_choices qt_bitsBehind qt_bitsHere qt_freshBits vt_size vt_from vt_next vt_mode vt_state) U.heap ∧ va_K (dC, dI) cl_All [] U)) (qc_Division_length r0) 0 0 (fun _ => False) := by
  refine Met.ofW (cc := prog_4_method_10_code) (maxL := 1) (ret := (some .int)) (by decide) rfl ?_
  intro p e s m args below meth c s₁ B hml hv
  obtain ⟨rfl, hP, hK⟩ := hv
  have hx := B.exec; have hb := B.bytes; have hr := B.returns; have hlocks := B.notSynchronized
  have ht : ∀ w ∈ lw_g, w.before _ s = true := fun w h => atoms_spec (ws := w_Division_length) B.pre w (List.mem_cons_of_mem _ h)
  have hown : s.vm.findClass "SquareSymbols$Division" = some m.cls := findClass_of_methodNamed B.named
  have hl := lv_entry ([.ref qt]) (n := 1) (Nat.le_of_ble_eq_true rfl)
  rw [lg_entry_eq]
  generalize (lg_sl ([.ref qt]) ++ List.replicate (1 - (lg_sl ([.ref qt])).length) Slot.unset).toArray = ls at hl ⊢
  have hl : lv_has ls 1 [(0, .ref qt)] := hl
  refine lv_aload_n hx hb d_Division_length_0 rfl (lv_at hl 0 rfl) ?_
  refine va_get (D := (dC, dI)) (ci := 1) (v := .int vt_next) (C := R_Division) (T := F_Division) (N := 9) hx hb ht i_Division hown hK hP 0 rfl rfl 6 (by decide) (ht _ tb_76) (fun _ h9 => h9) rfl d_Division_length_1 ?_
  refine lv_aload_n hx hb d_Division_length_4 rfl (lv_at hl 0 rfl) ?_
  refine va_get (D := (dC, dI)) (ci := 1) (v := .int vt_from) (C := R_Division) (T := F_Division) (N := 9) hx hb ht i_Division hown hK hP 0 rfl rfl 5 (by decide) (ht _ tb_75) (fun _ h9 => h9) rfl d_Division_length_5 ?_
  refine lv_isub hx hb d_Division_length_8 ?_
  have er := Option.some.inj Hf
  exact W.iret hx hb hr (fun t ht hW => ⟨_, rfl, er, ht⟩) (fun q h => by cases h) d_Division_length_9

def fn_Division_fits_L1 (p2 : Int32) (n0 : Nat) (vt_size : Int32) (vt_choices : Nat → Int32) : Nat → Int32 → Int32 → Int32 → Int32 → Int32 → Option (Int32 × Int32 × Int32 × Int32 × Int32)
  | 0, _, _, _, _, _ => none
  | m1 + 1, x8, b9, b10, b11, b12 => if vt_size ≤ x8 then (some ((1 : Int32), b9, b10, b11, b12)) else (sq_cb5 (fn_Division_advance n0 vt_size b9 b10 b11 b12 vt_choices) fun r14 y15 y16 y17 y18 => if r14 = 0 then (some ((1 : Int32), y15, y16, y17, y18)) else (sq_cb1 (fn_Division_length y15 y16) fun r21 => sq_cb1 (fn_Version_countBits y17 p2) fun r23 => if r21 < ((1 : Int32) <<< (r23 &&& 31)) then (sq_bd (x8 + (1 : Int32)) fun x26 => fn_Division_fits_L1 p2 n0 vt_size vt_choices m1 x26 y15 y16 y17 y18) else (some ((0 : Int32), y15, y16, y17, y18))))
theorem fn_Division_fits_L1_s (p2 : Int32) (n0 : Nat) (vt_size : Int32) (vt_choices : Nat → Int32) (m1 : Nat) (x8 : Int32) (b9 : Int32) (b10 : Int32) (b11 : Int32) (b12 : Int32) : fn_Division_fits_L1 p2 n0 vt_size vt_choices (m1 + 1) x8 b9 b10 b11 b12 = if vt_size ≤ x8 then (some ((1 : Int32), b9, b10, b11, b12)) else (sq_cb5 (fn_Division_advance n0 vt_size b9 b10 b11 b12 vt_choices) fun r14 y15 y16 y17 y18 => if r14 = 0 then (some ((1 : Int32), y15, y16, y17, y18)) else (sq_cb1 (fn_Division_length y15 y16) fun r21 => sq_cb1 (fn_Version_countBits y17 p2) fun r23 => if r21 < ((1 : Int32) <<< (r23 &&& 31)) then (sq_bd (x8 + (1 : Int32)) fun x26 => fn_Division_fits_L1 p2 n0 vt_size vt_choices m1 x26 y15 y16 y17 y18) else (some ((0 : Int32), y15, y16, y17, y18)))) := rfl
def fn_Division_fits (n0 : Nat) (p1 : Int32) (p2 : Int32) (vt_size : Int32) (vt_from : Int32) (vt_next : Int32) (vt_mode : Int32) (vt_state : Int32) (vt_bitsBehind : Nat → Int32) (vt_choices : Nat → Int32) : Option (Int32 × Int32 × Int32 × Int32 × Int32) :=
  sq_cb1 (fn_Division_bits vt_bitsBehind) fun r1 => if r1 ≤ p1 then (sq_cb3 (fn_Division_rewind vt_from vt_next vt_state) fun y4 y5 y6 => fn_Division_fits_L1 p2 n0 vt_size vt_choices n0 (0 : Int32) y4 y5 vt_mode y6) else (some ((0 : Int32), vt_from, vt_next, vt_mode, vt_state))
abbrev ww_Division_fits (qt qt_bitsBehind qt_choices qt_bitsHere qt_freshBits : Nat) (ct_bitsBehind ct_choices : ClassId) (vt_size : Int32) (vt_from : Int32) (vt_next : Int32) (vt_mode : Int32) (vt_state : Int32) (vt_bitsBehind : Nat → Int32) (vt_choices : Nat → Int32) : va_W := [(qt, .inr (1, [.ref qt_choices, .ref qt_bitsBehind, .ref qt_bitsHere, .ref qt_freshBits, .int vt_size, .int vt_from, .int vt_next, .int vt_mode, .int vt_state])), (qt_bitsBehind, .inl (ct_bitsBehind, 7, .inl vt_bitsBehind)), (qt_choices, .inl (ct_choices, 3000, .inl vt_choices))]

def rm_Division_fits : Room := { frames := 3, cells := 0, slots := 0, locals := 62 }
abbrev qc_Division_fits (dC : Nat → ClassId) (dI : Nat → Nat → Nat) (A : Nat → Prop) (r0 : Int32) (qt qt_bitsBehind qt_choices qt_bitsHere qt_freshBits : Nat) (ct_bitsBehind ct_choices : ClassId) (vt_size : Int32) (vt_from : Int32) (vt_next : Int32) (vt_mode : Int32) (vt_state : Int32) (vt_bitsBehind : Nat → Int32) (vt_choices : Nat → Int32) : Array Value → State → Outcome → State → Prop := va_Qi (fun r (_ : Unit) => r = r0) (fun _ t => va_P (dC, dI) cl_All (ww_Division_fits qt qt_bitsBehind qt_choices qt_bitsHere qt_freshBits ct_bitsBehind ct_choices vt_size vt_from vt_next vt_mode vt_state vt_bitsBehind vt_choices) t.heap ∧ va_D A (ww_Division_fits qt qt_bitsBehind qt_choices qt_bitsHere qt_freshBits ct_bitsBehind ct_choices vt_size vt_from vt_next vt_mode vt_state vt_bitsBehind vt_choices)) A

set_option maxHeartbeats 4000000 in
set_option maxRecDepth 100000 in
theorem kt_Division_fits (l : Launch) (dC : Nat → ClassId) (dI : Nat → Nat → Nat) (qt qt_bitsBehind qt_choices qt_bitsHere qt_freshBits : Nat) (ct_bitsBehind ct_choices : ClassId) (vt_size : Int32) (vt_from : Int32) (vt_next : Int32) (vt_mode : Int32) (vt_state : Int32) (vt_bitsBehind : Nat → Int32) (vt_choices : Nat → Int32) (p1 : Int32) (p2 : Int32) (tt : Nat → Nat) (sz : Nat) (n0 : Nat) (r0 : Int32) (nvt_from : Int32) (nvt_next : Int32) (nvt_mode : Int32) (nvt_state : Int32) (Hf : fn_Division_fits n0 p1 p2 vt_size vt_from vt_next vt_mode vt_state vt_bitsBehind vt_choices = some (r0, nvt_from, nvt_next, nvt_mode, nvt_state)) : Met l y_Division_fits w_Division_fits rm_Division_fits (va_Pc [.ref qt, .int p1, .int p2] (fun U => U.heap.size = sz ∧ va_P (dC, dI) cl_All (ww_Division_fits qt qt_bitsBehind qt_choices qt_bitsHere qt_freshBits ct_bitsBehind ct_choices vt_size vt_from vt_next vt_mode vt_state vt_bitsBehind vt_choices) U.heap ∧ va_K (dC, dI) cl_All [(ct_bitsBehind, .int), (ct_choices, .int)] U ∧ va_D (fun _ => True) (ww_Division_fits qt qt_bitsBehind qt_choices qt_bitsHere qt_freshBits ct_bitsBehind ct_choices vt_size vt_from vt_next vt_mode vt_state vt_bitsBehind vt_choices) ∧ sx_T tt (va_A (ww_Division_fits qt qt_bitsBehind qt_choices qt_bitsHere qt_freshBits ct_bitsBehind ct_choices vt_size vt_from vt_next vt_mode vt_state vt_bitsBehind vt_choices) sz) U U.heap)) (qc_Division_fits dC dI (va_A (ww_Division_fits qt qt_bitsBehind qt_choices qt_bitsHere qt_freshBits ct_bitsBehind ct_choices vt_size vt_from vt_next vt_mode vt_state vt_bitsBehind vt_choices) sz) r0 qt qt_bitsBehind qt_choices qt_bitsHere qt_freshBits ct_bitsBehind ct_choices vt_size nvt_from nvt_next nvt_mode nvt_state vt_bitsBehind vt_choices) 0 0 (va_A (ww_Division_fits qt qt_bitsBehind qt_choices qt_bitsHere qt_freshBits ct_bitsBehind ct_choices vt_size vt_from vt_next vt_mode vt_state vt_bitsBehind vt_choices) sz) := by
  refine Met.ofW (cc := prog_4_method_5_code) (maxL := 4) (ret := (some .boolean)) (by decide) rfl ?_
  intro p e s m args below meth c s₁ B hml hv
  obtain ⟨rfl, hsz, hP, hK, hD0, hX⟩ := hv
  have hx := B.exec; have hb := B.bytes; have hr := B.returns; have hlocks := B.notSynchronized
  have ht : ∀ w ∈ lw_g, w.before _ s = true := fun w h => atoms_spec (ws := w_Division_fits) B.pre w (List.mem_cons_of_mem _ h)
  have hown : s.vm.findClass "SquareSymbols$Division" = some m.cls := findClass_of_methodNamed B.named
  subst hsz
  have hD := hD0.self (sz := s.heap.size)
  generalize hAe : va_A (ww_Division_fits qt qt_bitsBehind qt_choices qt_bitsHere qt_freshBits ct_bitsBehind ct_choices vt_size vt_from vt_next vt_mode vt_state vt_bitsBehind vt_choices) s.heap.size = A at hD hX ⊢
  have hA : ∀ q : Nat, s.heap.size ≤ q → A q := fun q h => by rw [← hAe]; exact Or.inr h
  have hS : va_S A s.heap s.heap [] := va_S.rf
  have hl := lv_entry ([.ref qt, .int p1, .int p2]) (n := 4) (Nat.le_of_ble_eq_true rfl)
  rw [lg_entry_eq]
  generalize (lg_sl ([.ref qt, .int p1, .int p2]) ++ List.replicate (4 - (lg_sl ([.ref qt, .int p1, .int p2])).length) Slot.unset).toArray = ls at hl ⊢
  have hl : lv_has ls 4 [(0, .ref qt), (1, .int p1), (2, .int p2)] := hl
  refine lv_aload_n hx hb d_Division_fits_0 rfl (lv_at hl 0 rfl) ?_
  obtain ⟨r1, hc2, Hf⟩ := sq_cb1_e Hf
  refine sq_roi (va_runV (As := []) (rest := []) ⟨hx, hb, hml, hown, ht⟩ (kt_Division_bits l dC dI qt qt_bitsBehind qt_choices qt_bitsHere qt_freshBits ct_bitsBehind vt_size vt_from vt_next vt_mode vt_state vt_bitsBehind r1 hc2) (cwV 0 ht (sq_gV tb_898 tb_899 tb_900 tb_4 tb_901) rfl rfl rfl (by decide +kernel) ⟨Nat.le_of_ble_eq_true rfl, Nat.le_of_ble_eq_true rfl⟩) (sq_roV (hP.sub (ws' := (ww_Division_bits qt qt_bitsBehind qt_choices qt_bitsHere qt_freshBits ct_bitsBehind vt_size vt_from vt_next vt_mode vt_state vt_bitsBehind)) [0, 1] rfl) (hK.sub (tys' := [(ct_bitsBehind, .int)]) [0] rfl) (va_recv hK hP (ci := 1) (q0 := 0) rfl rfl)) rfl rfl hl.1 rfl (lv_room (Nat.le_of_ble_eq_true rfl)) d_Division_fits_1 ⟨Nat.le_of_ble_eq_true rfl, Nat.le_of_ble_eq_true rfl⟩) ?_
  refine lv_iload_n hx hb d_Division_fits_4 rfl (lv_at hl 1 rfl) ?_
  refine lv_icmp_le (tgt := 10) hx hb d_Division_fits_5 (by decide) (fun c3 => ?_) (fun c3 => ?_)
  · replace Hf := sq_ite_t Hf c3
    refine lv_aload_n hx hb d_Division_fits_10 rfl (lv_at hl 0 rfl) ?_
    obtain ⟨y4, y5, y6, hc7, Hf⟩ := sq_cb3_e Hf
    refine sq_rwv (wn := (ww_Division_fits qt qt_bitsBehind qt_choices qt_bitsHere qt_freshBits ct_bitsBehind ct_choices vt_size y4 y5 vt_mode y6 vt_bitsBehind vt_choices)) (va_runV (As := []) (rest := []) ⟨hx, hb, hml, hown, ht⟩ (kt_Division_rewind l dC dI qt qt_choices qt_bitsBehind qt_bitsHere qt_freshBits vt_size vt_from vt_next vt_mode vt_state s.heap.size y4 y5 y6 hc7) (cwV 0 ht (sq_gV tb_890 tb_891 tb_892 tb_4 tb_893) rfl rfl rfl (by decide +kernel) ⟨Nat.le_of_ble_eq_true rfl, Nat.le_of_ble_eq_true rfl⟩) (sq_rwV (hP.sub (ws' := (ww_Division_rewind qt qt_choices qt_bitsBehind qt_bitsHere qt_freshBits vt_size vt_from vt_next vt_mode vt_state)) [0] rfl) (hK.sub (tys' := []) [] rfl) (hD.sub (ws' := (ww_Division_rewind qt qt_choices qt_bitsBehind qt_bitsHere qt_freshBits vt_size vt_from vt_next vt_mode vt_state)) [0] (by decide) rfl) (va_recv hK hP (ci := 1) (q0 := 0) rfl rfl)) rfl rfl hl.1 rfl (lv_room (Nat.le_of_ble_eq_true rfl)) d_Division_fits_11 ⟨Nat.le_of_ble_eq_true rfl, Nat.le_of_ble_eq_true rfl⟩) hP hD hS hA [0] [1, 2] [2, 0, 1] rfl rfl (by decide) (by decide) rfl (by decide) (fun H locs hP hD hS => ?_)
    refine lv_iconst (v := (0 : Int32)) hx hb d_Division_fits_14 (by decide) ?_
    refine lv_istore_n (lv' := [(3, .int (0 : Int32)), (0, .ref qt), (1, .int p1), (2, .int p2)]) hx hb d_Division_fits_15 rfl hl (by decide) rfl (fun ls hl => ?_)
    have L1 : ∀ (m1 : Nat), ∀ (x8 : Int32) (b9 : Int32) (b10 : Int32) (b11 : Int32) (b12 : Int32), fn_Division_fits_L1 p2 n0 vt_size vt_choices m1 x8 b9 b10 b11 b12 = some (r0, nvt_from, nvt_next, nvt_mode, nvt_state) → ∀ (H : Heap) (locs : List Loc), va_P (dC, dI) cl_All (ww_Division_fits qt qt_bitsBehind qt_choices qt_bitsHere qt_freshBits ct_bitsBehind ct_choices vt_size b9 b10 b11 b12 vt_bitsBehind vt_choices) H → va_D A (ww_Division_fits qt qt_bitsBehind qt_choices qt_bitsHere qt_freshBits ct_bitsBehind ct_choices vt_size b9 b10 b11 b12 vt_bitsBehind vt_choices) → va_S A s.heap H locs → ∀ ls : Array Slot, lv_has ls 4 [(0, .ref qt), (2, .int p2), (3, .int x8)] → W p l e (headSpec w_Division_fits rm_Division_fits).room s m (([.ref qt, .int p1, .int p2] : List Value).toArray) below meth c H locs 0 0 (MQ below (qc_Division_fits dC dI A r0 qt qt_bitsBehind qt_choices qt_bitsHere qt_freshBits ct_bitsBehind ct_choices vt_size nvt_from nvt_next nvt_mode nvt_state vt_bitsBehind vt_choices) (([.ref qt, .int p1, .int p2] : List Value).toArray) s 0 0 A) (F0 m 16 ls []) := by
      intro m1
      induction m1 with
      | zero => intro x8 b9 b10 b11 b12 Hf; exact sq_none Hf
      | succ m1 ih1 =>
        intro x8 b9 b10 b11 b12 Hf H locs  hP hD hS ls hl
        replace Hf := (fn_Division_fits_L1_s p2 n0 vt_size vt_choices m1 x8 b9 b10 b11 b12).symm.trans Hf
        refine lv_iload_n hx hb d_Division_fits_16 rfl (lv_at hl 2 rfl) ?_
        refine lv_aload_n hx hb d_Division_fits_17 rfl (lv_at hl 0 rfl) ?_
        refine va_get (D := (dC, dI)) (ci := 1) (v := .int vt_size) (C := R_Division) (T := F_Division) (N := 9) hx hb ht i_Division hown hK hP 0 rfl rfl 4 (by decide) (ht _ tb_74) (fun _ h9 => h9) rfl d_Division_fits_18 ?_
        refine lv_icmp_ge (tgt := 56) hx hb d_Division_fits_21 (by decide) (fun c13 => ?_) (fun c13 => ?_)
        · replace Hf := sq_ite_t Hf c13
          refine lv_iconst (v := (1 : Int32)) hx hb d_Division_fits_56 (by decide) ?_
          obtain ⟨rfl, rfl, rfl, rfl, rfl⟩ := sq_so5 Hf
          exact W.zret hx hb hr rfl (fun t ht hW => ⟨⟨_, (), rfl, rfl, by rw [ht]; exact hP, hD⟩, hS.F ht⟩) hS.2.2 d_Division_fits_57
        · replace Hf := sq_ite_f Hf c13
          refine lv_aload_n hx hb d_Division_fits_24 rfl (lv_at hl 0 rfl) ?_
          obtain ⟨r14, y15, y16, y17, y18, hc19, Hf⟩ := sq_cb5_e Hf
          refine sq_rwi (wn := (ww_Division_fits qt qt_bitsBehind qt_choices qt_bitsHere qt_freshBits ct_bitsBehind ct_choices vt_size y15 y16 y17 y18 vt_bitsBehind vt_choices)) (va_runV (As := []) (rest := []) ⟨hx, hb, hml, hown, ht⟩ (kt_Division_advance l dC dI qt qt_choices qt_bitsBehind qt_bitsHere qt_freshBits ct_choices vt_size b9 b10 b11 b12 vt_choices tt H.size n0 r14 y15 y16 y17 y18 hc19) (cwV 0 ht (sq_gV tb_902 tb_903 tb_904 tb_4 tb_905) rfl rfl rfl (by decide +kernel) ⟨Nat.le_of_ble_eq_true rfl, Nat.le_of_ble_eq_true rfl⟩) (sq_rwVX (hP.sub (ws' := (ww_Division_advance qt qt_choices qt_bitsBehind qt_bitsHere qt_freshBits ct_choices vt_size b9 b10 b11 b12 vt_choices)) [0, 2] rfl) (hK.sub (tys' := [(ct_choices, .int)]) [1] rfl) (hD.sub (ws' := (ww_Division_advance qt qt_choices qt_bitsBehind qt_bitsHere qt_freshBits ct_choices vt_size b9 b10 b11 b12 vt_choices)) [0, 2] (by decide) rfl) (va_recv hK hP (ci := 1) (q0 := 0) rfl rfl) hX hS (va_free (wc := (ww_Division_advance qt qt_choices qt_bitsBehind qt_bitsHere qt_freshBits ct_choices vt_size b9 b10 b11 b12 vt_choices)) hD hS hA [0, 2] rfl)) rfl rfl hl.1 rfl (lv_room (Nat.le_of_ble_eq_true rfl)) d_Division_fits_25 ⟨Nat.le_of_ble_eq_true rfl, Nat.le_of_ble_eq_true rfl⟩) hP hD hS hA [0, 2] [1] [1, 0, 2] rfl rfl (by decide) (by decide) rfl (by decide) (fun H locs hP hD hS => ?_)
          refine lv_if_eq (tgt := 56) hx hb d_Division_fits_28 (by decide) (fun c20 => ?_) (fun c20 => ?_)
          · replace Hf := sq_ite_t Hf c20
            refine lv_iconst (v := (1 : Int32)) hx hb d_Division_fits_56 (by decide) ?_
            obtain ⟨rfl, rfl, rfl, rfl, rfl⟩ := sq_so5 Hf
            exact W.zret hx hb hr rfl (fun t ht hW => ⟨⟨_, (), rfl, rfl, by rw [ht]; exact hP, hD⟩, hS.F ht⟩) hS.2.2 d_Division_fits_57
          · replace Hf := sq_ite_f Hf c20
            refine lv_aload_n hx hb d_Division_fits_31 rfl (lv_at hl 0 rfl) ?_
            obtain ⟨r21, hc22, Hf⟩ := sq_cb1_e Hf
            refine sq_roi (va_runV (As := []) (rest := []) ⟨hx, hb, hml, hown, ht⟩ (kt_Division_length l dC dI qt qt_choices qt_bitsBehind qt_bitsHere qt_freshBits vt_size y15 y16 y17 y18 r21 hc22) (cwV 0 ht (sq_gV tb_910 tb_911 tb_912 tb_4 tb_913) rfl rfl rfl (by decide +kernel) ⟨Nat.le_of_ble_eq_true rfl, Nat.le_of_ble_eq_true rfl⟩) (sq_roV (hP.sub (ws' := (ww_Division_length qt qt_choices qt_bitsBehind qt_bitsHere qt_freshBits vt_size y15 y16 y17 y18)) [0] rfl) (hK.sub (tys' := []) [] rfl) (va_recv hK hP (ci := 1) (q0 := 0) rfl rfl)) rfl rfl hl.1 rfl (lv_room (Nat.le_of_ble_eq_true rfl)) d_Division_fits_32 ⟨Nat.le_of_ble_eq_true rfl, Nat.le_of_ble_eq_true rfl⟩) ?_
            refine lv_iconst (v := (1 : Int32)) hx hb d_Division_fits_35 (by decide) ?_
            refine lv_aload_n hx hb d_Division_fits_36 rfl (lv_at hl 0 rfl) ?_
            refine va_get (D := (dC, dI)) (ci := 1) (v := .int y17) (C := R_Division) (T := F_Division) (N := 9) hx hb ht i_Division hown hK hP 0 rfl rfl 7 (by decide) (ht _ tb_77) (fun _ h9 => h9) rfl d_Division_fits_37 ?_
            refine lv_iload_n hx hb d_Division_fits_40 rfl (lv_at hl 1 rfl) ?_
            obtain ⟨r23, hc24, Hf⟩ := sq_cb1_e Hf
            refine sq_roi (va_runS (As := [.int y17, .int p2]) (rest := [.int (1 : Int32), .int r21]) ⟨hx, hb, hml, hown, ht⟩ (kt_Version_countBits l dC dI y17 p2 tt r23 hc24) (va_cwS 2 ht (sq_gS tb_877 tb_614 tb_16 tb_615) rfl rfl rfl (by decide +kernel) ⟨Nat.le_of_ble_eq_true rfl, Nat.le_of_ble_eq_true rfl⟩) (sq_roSX (hP.sub (ws' := ([] : va_W)) [] rfl) (hK.sub (tys' := []) [] rfl) hX hS (fun _ h => h.elim)) rfl rfl hl.1 rfl (lv_room (Nat.le_of_ble_eq_true rfl)) d_Division_fits_41 ⟨Nat.le_of_ble_eq_true rfl, Nat.le_of_ble_eq_true rfl⟩) ?_
            refine lv_ishl hx hb d_Division_fits_44 ?_
            refine lv_icmp_lt (tgt := 50) hx hb d_Division_fits_45 (by decide) (fun c25 => ?_) (fun c25 => ?_)
            · replace Hf := sq_ite_t Hf c25
              obtain ⟨x26, ex26, Hf⟩ := sq_bd_e Hf
              refine lv_iinc (v := x26) (lv' := [(3, .int x26), (0, .ref qt), (2, .int p2)]) hx hb d_Division_fits_50 hl (k := 2) rfl (by rw [ex26]; rfl) (by decide) rfl (fun ls hl => ?_)
              refine lv_goto (tgt := 16) hx hb d_Division_fits_53 (by decide) ?_
              exact ih1 x26 y15 y16 y17 y18 Hf _ _  hP hD hS _ (lv_sub hl [1, 2, 0] rfl)
            · replace Hf := sq_ite_f Hf c25
              refine lv_iconst (v := (0 : Int32)) hx hb d_Division_fits_48 (by decide) ?_
              obtain ⟨rfl, rfl, rfl, rfl, rfl⟩ := sq_so5 Hf
              exact W.zret hx hb hr rfl (fun t ht hW => ⟨⟨_, (), rfl, rfl, by rw [ht]; exact hP, hD⟩, hS.F ht⟩) hS.2.2 d_Division_fits_49
    exact L1 n0 (0 : Int32) y4 y5 vt_mode y6 Hf _ _  hP hD hS _ (lv_sub hl [1, 3, 0] rfl)
  · replace Hf := sq_ite_f Hf c3
    refine lv_iconst (v := (0 : Int32)) hx hb d_Division_fits_8 (by decide) ?_
    obtain ⟨rfl, rfl, rfl, rfl, rfl⟩ := sq_so5 Hf
    exact W.zret hx hb hr rfl (fun t ht hW => ⟨⟨_, (), rfl, rfl, by rw [ht]; exact hP, hD⟩, hS.F ht⟩) hS.2.2 d_Division_fits_9

def fn_Division_mode (vt_mode : Int32) : Option (Int32) :=
  some (vt_mode)
abbrev ww_Division_mode (qt qt_choices qt_bitsBehind qt_bitsHere qt_freshBits : Nat) (vt_size : Int32) (vt_from : Int32) (vt_next : Int32) (vt_mode : Int32) (vt_state : Int32) : va_W := [(qt, .inr (1, [.ref qt_choices, .ref qt_bitsBehind, .ref qt_bitsHere, .ref qt_freshBits, .int vt_size, .int vt_from, .int vt_next, .int vt_mode, .int vt_state]))]

def rm_Division_mode : Room := { frames := 0, cells := 0, slots := 0, locals := 0 }
abbrev qc_Division_mode (r0 : Int32) : Array Value → State → Outcome → State → Prop := vp_Si (fun r => r = r0)

set_option maxHeartbeats 4000000 in
set_option maxRecDepth 100000 in
theorem kt_Division_mode (l : Launch) (dC : Nat → ClassId) (dI : Nat → Nat → Nat) (qt qt_choices qt_bitsBehind qt_bitsHere qt_freshBits : Nat) (vt_size : Int32) (vt_from : Int32) (vt_next : Int32) (vt_mode : Int32) (vt_state : Int32) (r0 : Int32) (Hf : fn_Division_mode vt_mode = some r0) : Met l y_Division_mode w_Division_mode rm_Division_mode (va_Pc [.ref qt] (fun U => va_P (dC, dI) cl_All (ww_Division_mode qt qt_choices qt_bitsBehind qt_bitsHere qt_freshBits vt_size vt_from vt_next vt_mode vt_state) U.heap ∧ va_K (dC, dI) cl_All [] U)) (qc_Division_mode r0) 0 0 (fun _ => False) := by
  refine Met.ofW (cc := prog_4_method_11_code) (maxL := 1) (ret := (some .int)) (by decide) rfl ?_
  intro p e s m args below meth c s₁ B hml hv
  obtain ⟨rfl, hP, hK⟩ := hv
  have hx := B.exec; have hb := B.bytes; have hr := B.returns; have hlocks := B.notSynchronized
  have ht : ∀ w ∈ lw_g, w.before _ s = true := fun w h => atoms_spec (ws := w_Division_mode) B.pre w (List.mem_cons_of_mem _ h)
  have hown : s.vm.findClass "SquareSymbols$Division" = some m.cls := findClass_of_methodNamed B.named
  have hl := lv_entry ([.ref qt]) (n := 1) (Nat.le_of_ble_eq_true rfl)
  rw [lg_entry_eq]
  generalize (lg_sl ([.ref qt]) ++ List.replicate (1 - (lg_sl ([.ref qt])).length) Slot.unset).toArray = ls at hl ⊢
  have hl : lv_has ls 1 [(0, .ref qt)] := hl
  refine lv_aload_n hx hb d_Division_mode_0 rfl (lv_at hl 0 rfl) ?_
  refine va_get (D := (dC, dI)) (ci := 1) (v := .int vt_mode) (C := R_Division) (T := F_Division) (N := 9) hx hb ht i_Division hown hK hP 0 rfl rfl 7 (by decide) (ht _ tb_77) (fun _ h9 => h9) rfl d_Division_mode_1 ?_
  have er := Option.some.inj Hf
  exact W.iret hx hb hr (fun t ht hW => ⟨_, rfl, er, ht⟩) (fun q h => by cases h) d_Division_mode_4

def fn_Division_from (vt_from : Int32) : Option (Int32) :=
  some (vt_from)
abbrev ww_Division_from (qt qt_choices qt_bitsBehind qt_bitsHere qt_freshBits : Nat) (vt_size : Int32) (vt_from : Int32) (vt_next : Int32) (vt_mode : Int32) (vt_state : Int32) : va_W := [(qt, .inr (1, [.ref qt_choices, .ref qt_bitsBehind, .ref qt_bitsHere, .ref qt_freshBits, .int vt_size, .int vt_from, .int vt_next, .int vt_mode, .int vt_state]))]

def rm_Division_from : Room := { frames := 0, cells := 0, slots := 0, locals := 0 }
abbrev qc_Division_from (r0 : Int32) : Array Value → State → Outcome → State → Prop := vp_Si (fun r => r = r0)

set_option maxHeartbeats 4000000 in
set_option maxRecDepth 100000 in
theorem kt_Division_from (l : Launch) (dC : Nat → ClassId) (dI : Nat → Nat → Nat) (qt qt_choices qt_bitsBehind qt_bitsHere qt_freshBits : Nat) (vt_size : Int32) (vt_from : Int32) (vt_next : Int32) (vt_mode : Int32) (vt_state : Int32) (r0 : Int32) (Hf : fn_Division_from vt_from = some r0) : Met l y_Division_from w_Division_from rm_Division_from (va_Pc [.ref qt] (fun U => va_P (dC, dI) cl_All (ww_Division_from qt qt_choices qt_bitsBehind qt_bitsHere qt_freshBits vt_size vt_from vt_next vt_mode vt_state) U.heap ∧ va_K (dC, dI) cl_All [] U)) (qc_Division_from r0) 0 0 (fun _ => False) := by
  refine Met.ofW (cc := prog_4_method_9_code) (maxL := 1) (ret := (some .int)) (by decide) rfl ?_
  intro p e s m args below meth c s₁ B hml hv
  obtain ⟨rfl, hP, hK⟩ := hv
  have hx := B.exec; have hb := B.bytes; have hr := B.returns; have hlocks := B.notSynchronized
  have ht : ∀ w ∈ lw_g, w.before _ s = true := fun w h => atoms_spec (ws := w_Division_from) B.pre w (List.mem_cons_of_mem _ h)
  have hown : s.vm.findClass "SquareSymbols$Division" = some m.cls := findClass_of_methodNamed B.named
  have hl := lv_entry ([.ref qt]) (n := 1) (Nat.le_of_ble_eq_true rfl)
  rw [lg_entry_eq]
  generalize (lg_sl ([.ref qt]) ++ List.replicate (1 - (lg_sl ([.ref qt])).length) Slot.unset).toArray = ls at hl ⊢
  have hl : lv_has ls 1 [(0, .ref qt)] := hl
  refine lv_aload_n hx hb d_Division_from_0 rfl (lv_at hl 0 rfl) ?_
  refine va_get (D := (dC, dI)) (ci := 1) (v := .int vt_from) (C := R_Division) (T := F_Division) (N := 9) hx hb ht i_Division hown hK hP 0 rfl rfl 5 (by decide) (ht _ tb_75) (fun _ h9 => h9) rfl d_Division_from_1 ?_
  have er := Option.some.inj Hf
  exact W.iret hx hb hr (fun t ht hW => ⟨_, rfl, er, ht⟩) (fun q h => by cases h) d_Division_from_4

