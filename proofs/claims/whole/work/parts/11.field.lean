def fn_Field_power (p1 : Int32) (vt_powers : Nat → Int32) : Option (Int32) :=
  sq_bd (p1 &&& (511 : Int32)) fun x1 => sq_gi x1 512 <| sq_bd (vt_powers x1.toNatClampNeg) fun x3 => some (x3)
abbrev ww_Field_power (qt qt_powers qt_logs : Nat) (ct_powers : ClassId) (vt_powers : Nat → Int32) : va_W := [(qt, .inr (2, [.ref qt_powers, .ref qt_logs])), (qt_powers, .inl (ct_powers, 512, .inl vt_powers))]

def rm_Field_power : Room := { frames := 0, cells := 0, slots := 0, locals := 0 }
abbrev qc_Field_power (r0 : Int32) : Array Value → State → Outcome → State → Prop := vp_Si (fun r => r = r0)

set_option maxHeartbeats 4000000 in
set_option maxRecDepth 100000 in
theorem kt_Field_power (l : Launch) (dC : Nat → ClassId) (dI : Nat → Nat → Nat) (qt qt_powers qt_logs : Nat) (ct_powers : ClassId) (vt_powers : Nat → Int32) (p1 : Int32) (r0 : Int32) (Hf : fn_Field_power p1 vt_powers = some r0) : Met l y_Field_power w_Field_power rm_Field_power (va_Pc [.ref qt, .int p1] (fun U => va_P (dC, dI) cl_All (ww_Field_power qt qt_powers qt_logs ct_powers vt_powers) U.heap ∧ va_K (dC, dI) cl_All [(ct_powers, .int)] U)) (qc_Field_power r0) 0 0 (fun _ => False) := by
  refine Met.ofW (cc := prog_5_method_2_code) (maxL := 2) (ret := (some .int)) (by decide) rfl ?_
  intro p e s m args below meth c s₁ B hml hv
  obtain ⟨rfl, hP, hK⟩ := hv
  have hx := B.exec; have hb := B.bytes; have hr := B.returns; have hlocks := B.notSynchronized
  have ht : ∀ w ∈ lw_g, w.before _ s = true := fun w h => atoms_spec (ws := w_Field_power) B.pre w (List.mem_cons_of_mem _ h)
  have hown : s.vm.findClass "SquareSymbols$Field" = some m.cls := findClass_of_methodNamed B.named
  have hl := lv_entry ([.ref qt, .int p1]) (n := 2) (Nat.le_of_ble_eq_true rfl)
  rw [lg_entry_eq]
  generalize (lg_sl ([.ref qt, .int p1]) ++ List.replicate (2 - (lg_sl ([.ref qt, .int p1])).length) Slot.unset).toArray = ls at hl ⊢
  have hl : lv_has ls 2 [(0, .ref qt), (1, .int p1)] := hl
  refine lv_aload_n hx hb d_Field_power_0 rfl (lv_at hl 0 rfl) ?_
  refine va_get (D := (dC, dI)) (ci := 2) (v := .ref qt_powers) (C := R_Field) (T := F_Field) (N := 2) hx hb ht i_Field hown hK hP 0 rfl rfl 0 (by decide) (ht _ tb_42) (fun _ h9 => h9) rfl d_Field_power_1 ?_
  refine lv_iload_n hx hb d_Field_power_4 rfl (lv_at hl 1 rfl) ?_
  refine lv_sipush (v := (511 : Int32)) hx hb d_Field_power_5 (by decide) ?_
  refine lv_iand hx hb d_Field_power_8 ?_
  obtain ⟨x1, ex1, Hf⟩ := sq_bd_e Hf
  refine sq_top ex1 ?_
  obtain ⟨hi2, Hf⟩ := sq_gi_e Hf
  refine va_iald hx hb hK hP 1 0 rfl rfl hi2 d_Field_power_9 ?_
  obtain ⟨x3, ex3, Hf⟩ := sq_bd_e Hf
  refine sq_top ex3 ?_
  have er := Option.some.inj Hf
  exact W.iret hx hb hr (fun t ht hW => ⟨_, rfl, er, ht⟩) (fun q h => by cases h) d_Field_power_10

def fn_Field_times (p1 : Int32) (p2 : Int32) (vt_logs : Nat → Int32) (vt_powers : Nat → Int32) : Option (Int32) :=
  if p1 = 0 then (some ((0 : Int32))) else (if p2 = 0 then (some ((0 : Int32))) else (sq_bd (p1 &&& (255 : Int32)) fun x3 => sq_gi x3 256 <| sq_bd (vt_logs x3.toNatClampNeg) fun x5 => sq_bd (p2 &&& (255 : Int32)) fun x6 => sq_gi x6 256 <| sq_bd (vt_logs x6.toNatClampNeg) fun x8 => sq_bd ((x5 + x8) &&& (511 : Int32)) fun x9 => sq_gi x9 512 <| sq_bd (vt_powers x9.toNatClampNeg) fun x11 => some (x11)))
abbrev ww_Field_times (qt qt_logs qt_powers : Nat) (ct_logs ct_powers : ClassId) (vt_logs : Nat → Int32) (vt_powers : Nat → Int32) : va_W := [(qt, .inr (2, [.ref qt_powers, .ref qt_logs])), (qt_logs, .inl (ct_logs, 256, .inl vt_logs)), (qt_powers, .inl (ct_powers, 512, .inl vt_powers))]

def rm_Field_times : Room := { frames := 0, cells := 0, slots := 0, locals := 0 }
abbrev qc_Field_times (r0 : Int32) : Array Value → State → Outcome → State → Prop := vp_Si (fun r => r = r0)

set_option maxHeartbeats 4000000 in
set_option maxRecDepth 100000 in
theorem kt_Field_times (l : Launch) (dC : Nat → ClassId) (dI : Nat → Nat → Nat) (qt qt_logs qt_powers : Nat) (ct_logs ct_powers : ClassId) (vt_logs : Nat → Int32) (vt_powers : Nat → Int32) (p1 : Int32) (p2 : Int32) (r0 : Int32) (Hf : fn_Field_times p1 p2 vt_logs vt_powers = some r0) : Met l y_Field_times w_Field_times rm_Field_times (va_Pc [.ref qt, .int p1, .int p2] (fun U => va_P (dC, dI) cl_All (ww_Field_times qt qt_logs qt_powers ct_logs ct_powers vt_logs vt_powers) U.heap ∧ va_K (dC, dI) cl_All [(ct_logs, .int), (ct_powers, .int)] U)) (qc_Field_times r0) 0 0 (fun _ => False) := by
  refine Met.ofW (cc := prog_5_method_3_code) (maxL := 3) (ret := (some .int)) (by decide) rfl ?_
  intro p e s m args below meth c s₁ B hml hv
  obtain ⟨rfl, hP, hK⟩ := hv
  have hx := B.exec; have hb := B.bytes; have hr := B.returns; have hlocks := B.notSynchronized
  have ht : ∀ w ∈ lw_g, w.before _ s = true := fun w h => atoms_spec (ws := w_Field_times) B.pre w (List.mem_cons_of_mem _ h)
  have hown : s.vm.findClass "SquareSymbols$Field" = some m.cls := findClass_of_methodNamed B.named
  have hl := lv_entry ([.ref qt, .int p1, .int p2]) (n := 3) (Nat.le_of_ble_eq_true rfl)
  rw [lg_entry_eq]
  generalize (lg_sl ([.ref qt, .int p1, .int p2]) ++ List.replicate (3 - (lg_sl ([.ref qt, .int p1, .int p2])).length) Slot.unset).toArray = ls at hl ⊢
  have hl : lv_has ls 3 [(0, .ref qt), (1, .int p1), (2, .int p2)] := hl
  refine lv_iload_n hx hb d_Field_times_0 rfl (lv_at hl 1 rfl) ?_
  refine lv_if_eq (tgt := 8) hx hb d_Field_times_1 (by decide) (fun c1 => ?_) (fun c1 => ?_)
  · replace Hf := sq_ite_t Hf c1
    refine lv_iconst (v := (0 : Int32)) hx hb d_Field_times_8 (by decide) ?_
    refine lv_goto (tgt := 42) hx hb d_Field_times_9 (by decide) ?_
    have er := Option.some.inj Hf
    exact W.iret hx hb hr (fun t ht hW => ⟨_, rfl, er, ht⟩) (fun q h => by cases h) d_Field_times_42
  · replace Hf := sq_ite_f Hf c1
    refine lv_iload_n hx hb d_Field_times_4 rfl (lv_at hl 2 rfl) ?_
    refine lv_if_ne (tgt := 12) hx hb d_Field_times_5 (by decide) (fun c2 => ?_) (fun c2 => ?_)
    · replace Hf := sq_ite_f Hf c2
      refine lv_aload_n hx hb d_Field_times_12 rfl (lv_at hl 0 rfl) ?_
      refine va_get (D := (dC, dI)) (ci := 2) (v := .ref qt_powers) (C := R_Field) (T := F_Field) (N := 2) hx hb ht i_Field hown hK hP 0 rfl rfl 0 (by decide) (ht _ tb_42) (fun _ h9 => h9) rfl d_Field_times_13 ?_
      refine lv_aload_n hx hb d_Field_times_16 rfl (lv_at hl 0 rfl) ?_
      refine va_get (D := (dC, dI)) (ci := 2) (v := .ref qt_logs) (C := R_Field) (T := F_Field) (N := 2) hx hb ht i_Field hown hK hP 0 rfl rfl 1 (by decide) (ht _ tb_43) (fun _ h9 => h9) rfl d_Field_times_17 ?_
      refine lv_iload_n hx hb d_Field_times_20 rfl (lv_at hl 1 rfl) ?_
      refine lv_sipush (v := (255 : Int32)) hx hb d_Field_times_21 (by decide) ?_
      refine lv_iand hx hb d_Field_times_24 ?_
      obtain ⟨x3, ex3, Hf⟩ := sq_bd_e Hf
      refine sq_top ex3 ?_
      obtain ⟨hi4, Hf⟩ := sq_gi_e Hf
      refine va_iald hx hb hK hP 1 0 rfl rfl hi4 d_Field_times_25 ?_
      obtain ⟨x5, ex5, Hf⟩ := sq_bd_e Hf
      refine sq_top ex5 ?_
      refine lv_aload_n hx hb d_Field_times_26 rfl (lv_at hl 0 rfl) ?_
      refine va_get (D := (dC, dI)) (ci := 2) (v := .ref qt_logs) (C := R_Field) (T := F_Field) (N := 2) hx hb ht i_Field hown hK hP 0 rfl rfl 1 (by decide) (ht _ tb_43) (fun _ h9 => h9) rfl d_Field_times_27 ?_
      refine lv_iload_n hx hb d_Field_times_30 rfl (lv_at hl 2 rfl) ?_
      refine lv_sipush (v := (255 : Int32)) hx hb d_Field_times_31 (by decide) ?_
      refine lv_iand hx hb d_Field_times_34 ?_
      obtain ⟨x6, ex6, Hf⟩ := sq_bd_e Hf
      refine sq_top ex6 ?_
      obtain ⟨hi7, Hf⟩ := sq_gi_e Hf
      refine va_iald hx hb hK hP 1 0 rfl rfl hi7 d_Field_times_35 ?_
      obtain ⟨x8, ex8, Hf⟩ := sq_bd_e Hf
      refine sq_top ex8 ?_
      refine lv_iadd hx hb d_Field_times_36 ?_
      refine lv_sipush (v := (511 : Int32)) hx hb d_Field_times_37 (by decide) ?_
      refine lv_iand hx hb d_Field_times_40 ?_
      obtain ⟨x9, ex9, Hf⟩ := sq_bd_e Hf
      refine sq_top ex9 ?_
      obtain ⟨hi10, Hf⟩ := sq_gi_e Hf
      refine va_iald hx hb hK hP 2 1 rfl rfl hi10 d_Field_times_41 ?_
      obtain ⟨x11, ex11, Hf⟩ := sq_bd_e Hf
      refine sq_top ex11 ?_
      have er := Option.some.inj Hf
      exact W.iret hx hb hr (fun t ht hW => ⟨_, rfl, er, ht⟩) (fun q h => by cases h) d_Field_times_42
    · replace Hf := sq_ite_t Hf c2
      refine lv_iconst (v := (0 : Int32)) hx hb d_Field_times_8 (by decide) ?_
      refine lv_goto (tgt := 42) hx hb d_Field_times_9 (by decide) ?_
      have er := Option.some.inj Hf
      exact W.iret hx hb hr (fun t ht hW => ⟨_, rfl, er, ht⟩) (fun q h => by cases h) d_Field_times_42

def fn_Field_value_L1 (p3 : Int32) (lenp1 : Nat) (vp1 : Nat → Int32) (vt_logs : Nat → Int32) (vt_powers : Nat → Int32) : Nat → Int32 → Int32 → Option (Int32)
  | 0, _, _ => none
  | m1 + 1, x4, x5 => if x5 < 0 then (some (x4)) else (sq_cb1 (fn_Field_times x4 p3 vt_logs vt_powers) fun r7 => sq_gi x5 lenp1 <| sq_bd (vp1 x5.toNatClampNeg) fun x10 => sq_bd (r7 ^^^ x10) fun x11 => sq_bd (x5 + (-1 : Int32)) fun x12 => fn_Field_value_L1 p3 lenp1 vp1 vt_logs vt_powers m1 x11 x12)
theorem fn_Field_value_L1_s (p3 : Int32) (lenp1 : Nat) (vp1 : Nat → Int32) (vt_logs : Nat → Int32) (vt_powers : Nat → Int32) (m1 : Nat) (x4 : Int32) (x5 : Int32) : fn_Field_value_L1 p3 lenp1 vp1 vt_logs vt_powers (m1 + 1) x4 x5 = if x5 < 0 then (some (x4)) else (sq_cb1 (fn_Field_times x4 p3 vt_logs vt_powers) fun r7 => sq_gi x5 lenp1 <| sq_bd (vp1 x5.toNatClampNeg) fun x10 => sq_bd (r7 ^^^ x10) fun x11 => sq_bd (x5 + (-1 : Int32)) fun x12 => fn_Field_value_L1 p3 lenp1 vp1 vt_logs vt_powers m1 x11 x12) := rfl
def fn_Field_value (n0 : Nat) (p2 : Int32) (p3 : Int32) (lenp1 : Nat) (vp1 : Nat → Int32) (vt_logs : Nat → Int32) (vt_powers : Nat → Int32) : Option (Int32) :=
  sq_bd (Int32.ofNat lenp1) fun x1 => sq_bd (sq_min p2 x1) fun x2 => sq_bd (x2 - (1 : Int32)) fun x3 => fn_Field_value_L1 p3 lenp1 vp1 vt_logs vt_powers n0 (0 : Int32) x3
abbrev ww_Field_value (qp1 qt qt_logs qt_powers : Nat) (cp1 ct_logs ct_powers : ClassId) (lenp1 : Nat) (vp1 : Nat → Int32) (vt_logs : Nat → Int32) (vt_powers : Nat → Int32) : va_W := [(qp1, .inl (cp1, lenp1, .inl vp1)), (qt, .inr (2, [.ref qt_powers, .ref qt_logs])), (qt_logs, .inl (ct_logs, 256, .inl vt_logs)), (qt_powers, .inl (ct_powers, 512, .inl vt_powers))]

def rm_Field_value : Room := { frames := 1, cells := 0, slots := 0, locals := 24 }
abbrev qc_Field_value (r0 : Int32) : Array Value → State → Outcome → State → Prop := vp_Si (fun r => r = r0)

set_option maxHeartbeats 4000000 in
set_option maxRecDepth 100000 in
theorem kt_Field_value (l : Launch) (dC : Nat → ClassId) (dI : Nat → Nat → Nat) (qp1 qt qt_logs qt_powers : Nat) (cp1 ct_logs ct_powers : ClassId) (lenp1 : Nat) (vp1 : Nat → Int32) (vt_logs : Nat → Int32) (vt_powers : Nat → Int32) (p2 : Int32) (p3 : Int32) (n0 : Nat) (r0 : Int32) (Hf : fn_Field_value n0 p2 p3 lenp1 vp1 vt_logs vt_powers = some r0) : Met l y_Field_value w_Field_value rm_Field_value (va_Pc [.ref qt, .ref qp1, .int p2, .int p3] (fun U => va_P (dC, dI) cl_All (ww_Field_value qp1 qt qt_logs qt_powers cp1 ct_logs ct_powers lenp1 vp1 vt_logs vt_powers) U.heap ∧ va_K (dC, dI) cl_All [(cp1, .int), (ct_logs, .int), (ct_powers, .int)] U)) (qc_Field_value r0) 0 0 (fun _ => False) := by
  refine Met.ofW (cc := prog_5_method_5_code) (maxL := 6) (ret := (some .int)) (by decide) rfl ?_
  intro p e s m args below meth c s₁ B hml hv
  obtain ⟨rfl, hP, hK⟩ := hv
  have hx := B.exec; have hb := B.bytes; have hr := B.returns; have hlocks := B.notSynchronized
  have ht : ∀ w ∈ lw_g, w.before _ s = true := fun w h => atoms_spec (ws := w_Field_value) B.pre w (List.mem_cons_of_mem _ h)
  have hown : s.vm.findClass "SquareSymbols$Field" = some m.cls := findClass_of_methodNamed B.named
  have hl := lv_entry ([.ref qt, .ref qp1, .int p2, .int p3]) (n := 6) (Nat.le_of_ble_eq_true rfl)
  rw [lg_entry_eq]
  generalize (lg_sl ([.ref qt, .ref qp1, .int p2, .int p3]) ++ List.replicate (6 - (lg_sl ([.ref qt, .ref qp1, .int p2, .int p3])).length) Slot.unset).toArray = ls at hl ⊢
  have hl : lv_has ls 6 [(0, .ref qt), (1, .ref qp1), (2, .int p2), (3, .int p3)] := hl
  refine lv_iconst (v := (0 : Int32)) hx hb d_Field_value_0 (by decide) ?_
  refine lv_istore (lv' := [(4, .int (0 : Int32)), (0, .ref qt), (1, .ref qp1), (2, .int p2), (3, .int p3)]) hx hb d_Field_value_1 hl (by decide) rfl (fun ls hl => ?_)
  refine lv_iload_n hx hb d_Field_value_3 rfl (lv_at hl 3 rfl) ?_
  refine lv_aload_n hx hb d_Field_value_4 rfl (lv_at hl 2 rfl) ?_
  refine va_alen hx hb hK hP 0 0 rfl rfl (v := Int32.ofNat lenp1) rfl d_Field_value_5 ?_
  obtain ⟨x1, ex1, Hf⟩ := sq_bd_e Hf
  refine sq_top ex1 ?_
  refine va_mmin hx hb (by rw [hml]; exact hl.1.symm) hown (ht _ tb_555) (ht _ tb_427) (ht _ tb_17) (ht _ tb_428) (Nat.le_of_ble_eq_true rfl) (Nat.le_of_ble_eq_true rfl) (Nat.zero_le _) (Nat.zero_le _) d_Field_value_6 ?_
  obtain ⟨x2, ex2, Hf⟩ := sq_bd_e Hf
  refine sq_top ex2 ?_
  refine lv_iconst (v := (1 : Int32)) hx hb d_Field_value_9 (by decide) ?_
  refine lv_isub hx hb d_Field_value_10 ?_
  obtain ⟨x3, ex3, Hf⟩ := sq_bd_e Hf
  refine sq_top ex3 ?_
  refine lv_istore (lv' := [(5, .int x3), (4, .int (0 : Int32)), (0, .ref qt), (1, .ref qp1), (2, .int p2), (3, .int p3)]) hx hb d_Field_value_11 hl (by decide) rfl (fun ls hl => ?_)
  have L1 : ∀ (m1 : Nat), ∀ (x4 : Int32) (x5 : Int32), fn_Field_value_L1 p3 lenp1 vp1 vt_logs vt_powers m1 x4 x5 = some r0 → ∀ ls : Array Slot, lv_has ls 6 [(0, .ref qt), (1, .ref qp1), (3, .int p3), (4, .int x4), (5, .int x5)] → W p l e (headSpec w_Field_value rm_Field_value).room s m (([.ref qt, .ref qp1, .int p2, .int p3] : List Value).toArray) below meth c s.heap [] 0 0 (MQ below (qc_Field_value r0) (([.ref qt, .ref qp1, .int p2, .int p3] : List Value).toArray) s 0 0 (fun _ => False)) (F0 m 13 ls []) := by
    intro m1
    induction m1 with
    | zero => intro x4 x5 Hf; exact sq_none Hf
    | succ m1 ih1 =>
      intro x4 x5 Hf ls hl
      replace Hf := (fn_Field_value_L1_s p3 lenp1 vp1 vt_logs vt_powers m1 x4 x5).symm.trans Hf
      refine lv_iload hx hb d_Field_value_13 (lv_at hl 4 rfl) ?_
      refine lv_if_lt (tgt := 38) hx hb d_Field_value_15 (by decide) (fun c6 => ?_) (fun c6 => ?_)
      · replace Hf := sq_ite_t Hf c6
        refine lv_iload hx hb d_Field_value_38 (lv_at hl 3 rfl) ?_
        have er := Option.some.inj Hf
        exact W.iret hx hb hr (fun t ht hW => ⟨_, rfl, er, ht⟩) (fun q h => by cases h) d_Field_value_40
      · replace Hf := sq_ite_f Hf c6
        refine lv_aload_n hx hb d_Field_value_18 rfl (lv_at hl 0 rfl) ?_
        refine lv_iload hx hb d_Field_value_19 (lv_at hl 3 rfl) ?_
        refine lv_iload_n hx hb d_Field_value_21 rfl (lv_at hl 2 rfl) ?_
        obtain ⟨r7, hc8, Hf⟩ := sq_cb1_e Hf
        refine sq_roi (va_runV (As := [.int x4, .int p3]) (rest := []) ⟨hx, hb, hml, hown, ht⟩ (kt_Field_times l dC dI qt qt_logs qt_powers ct_logs ct_powers vt_logs vt_powers x4 p3 r7 hc8) (cwV 2 ht (sq_gV tb_556 tb_557 tb_558 tb_2 tb_559) rfl rfl rfl (by decide +kernel) ⟨Nat.le_of_ble_eq_true rfl, Nat.le_of_ble_eq_true rfl⟩) (sq_roV (hP.sub (ws' := (ww_Field_times qt qt_logs qt_powers ct_logs ct_powers vt_logs vt_powers)) [1, 2, 3] rfl) (hK.sub (tys' := [(ct_logs, .int), (ct_powers, .int)]) [1, 2] rfl) (va_recv hK hP (ci := 2) (q0 := 1) rfl rfl)) rfl rfl hl.1 rfl (lv_room (Nat.le_of_ble_eq_true rfl)) d_Field_value_22 ⟨Nat.le_of_ble_eq_true rfl, Nat.le_of_ble_eq_true rfl⟩) ?_
        refine lv_aload_n hx hb d_Field_value_25 rfl (lv_at hl 1 rfl) ?_
        refine lv_iload hx hb d_Field_value_26 (lv_at hl 4 rfl) ?_
        obtain ⟨hi9, Hf⟩ := sq_gi_e Hf
        refine va_iald hx hb hK hP 0 0 rfl rfl hi9 d_Field_value_28 ?_
        obtain ⟨x10, ex10, Hf⟩ := sq_bd_e Hf
        refine sq_top ex10 ?_
        refine lv_ixor hx hb d_Field_value_29 ?_
        obtain ⟨x11, ex11, Hf⟩ := sq_bd_e Hf
        refine sq_top ex11 ?_
        refine lv_istore (lv' := [(4, .int x11), (0, .ref qt), (1, .ref qp1), (3, .int p3), (5, .int x5)]) hx hb d_Field_value_30 hl (by decide) rfl (fun ls hl => ?_)
        obtain ⟨x12, ex12, Hf⟩ := sq_bd_e Hf
        refine lv_iinc (v := x12) (lv' := [(5, .int x12), (4, .int x11), (0, .ref qt), (1, .ref qp1), (3, .int p3)]) hx hb d_Field_value_32 hl (k := 4) rfl (by rw [ex12]; rfl) (by decide) rfl (fun ls hl => ?_)
        refine lv_goto (tgt := 13) hx hb d_Field_value_35 (by decide) ?_
        exact ih1 x11 x12 Hf _ (lv_sub hl [2, 3, 4, 1, 0] rfl)
  exact L1 n0 (0 : Int32) x3 Hf _ (lv_sub hl [2, 3, 5, 1, 0] rfl)

def fn_Field_over (p1 : Int32) (p2 : Int32) (vt_logs : Nat → Int32) (vt_powers : Nat → Int32) : Option (Int32) :=
  if p1 = 0 then (some ((0 : Int32))) else (if p2 = 0 then (some ((0 : Int32))) else (sq_bd (p1 &&& (255 : Int32)) fun x3 => sq_gi x3 256 <| sq_bd (vt_logs x3.toNatClampNeg) fun x5 => sq_bd (p2 &&& (255 : Int32)) fun x6 => sq_gi x6 256 <| sq_bd (vt_logs x6.toNatClampNeg) fun x8 => sq_bd (((x5 + (255 : Int32)) - x8) &&& (511 : Int32)) fun x9 => sq_gi x9 512 <| sq_bd (vt_powers x9.toNatClampNeg) fun x11 => some (x11)))
abbrev ww_Field_over (qt qt_logs qt_powers : Nat) (ct_logs ct_powers : ClassId) (vt_logs : Nat → Int32) (vt_powers : Nat → Int32) : va_W := [(qt, .inr (2, [.ref qt_powers, .ref qt_logs])), (qt_logs, .inl (ct_logs, 256, .inl vt_logs)), (qt_powers, .inl (ct_powers, 512, .inl vt_powers))]

def rm_Field_over : Room := { frames := 0, cells := 0, slots := 0, locals := 0 }
abbrev qc_Field_over (r0 : Int32) : Array Value → State → Outcome → State → Prop := vp_Si (fun r => r = r0)

set_option maxHeartbeats 4000000 in
set_option maxRecDepth 100000 in
theorem kt_Field_over (l : Launch) (dC : Nat → ClassId) (dI : Nat → Nat → Nat) (qt qt_logs qt_powers : Nat) (ct_logs ct_powers : ClassId) (vt_logs : Nat → Int32) (vt_powers : Nat → Int32) (p1 : Int32) (p2 : Int32) (r0 : Int32) (Hf : fn_Field_over p1 p2 vt_logs vt_powers = some r0) : Met l y_Field_over w_Field_over rm_Field_over (va_Pc [.ref qt, .int p1, .int p2] (fun U => va_P (dC, dI) cl_All (ww_Field_over qt qt_logs qt_powers ct_logs ct_powers vt_logs vt_powers) U.heap ∧ va_K (dC, dI) cl_All [(ct_logs, .int), (ct_powers, .int)] U)) (qc_Field_over r0) 0 0 (fun _ => False) := by
  refine Met.ofW (cc := prog_5_method_4_code) (maxL := 3) (ret := (some .int)) (by decide) rfl ?_
  intro p e s m args below meth c s₁ B hml hv
  obtain ⟨rfl, hP, hK⟩ := hv
  have hx := B.exec; have hb := B.bytes; have hr := B.returns; have hlocks := B.notSynchronized
  have ht : ∀ w ∈ lw_g, w.before _ s = true := fun w h => atoms_spec (ws := w_Field_over) B.pre w (List.mem_cons_of_mem _ h)
  have hown : s.vm.findClass "SquareSymbols$Field" = some m.cls := findClass_of_methodNamed B.named
  have hl := lv_entry ([.ref qt, .int p1, .int p2]) (n := 3) (Nat.le_of_ble_eq_true rfl)
  rw [lg_entry_eq]
  generalize (lg_sl ([.ref qt, .int p1, .int p2]) ++ List.replicate (3 - (lg_sl ([.ref qt, .int p1, .int p2])).length) Slot.unset).toArray = ls at hl ⊢
  have hl : lv_has ls 3 [(0, .ref qt), (1, .int p1), (2, .int p2)] := hl
  refine lv_iload_n hx hb d_Field_over_0 rfl (lv_at hl 1 rfl) ?_
  refine lv_if_eq (tgt := 8) hx hb d_Field_over_1 (by decide) (fun c1 => ?_) (fun c1 => ?_)
  · replace Hf := sq_ite_t Hf c1
    refine lv_iconst (v := (0 : Int32)) hx hb d_Field_over_8 (by decide) ?_
    refine lv_goto (tgt := 46) hx hb d_Field_over_9 (by decide) ?_
    have er := Option.some.inj Hf
    exact W.iret hx hb hr (fun t ht hW => ⟨_, rfl, er, ht⟩) (fun q h => by cases h) d_Field_over_46
  · replace Hf := sq_ite_f Hf c1
    refine lv_iload_n hx hb d_Field_over_4 rfl (lv_at hl 2 rfl) ?_
    refine lv_if_ne (tgt := 12) hx hb d_Field_over_5 (by decide) (fun c2 => ?_) (fun c2 => ?_)
    · replace Hf := sq_ite_f Hf c2
      refine lv_aload_n hx hb d_Field_over_12 rfl (lv_at hl 0 rfl) ?_
      refine va_get (D := (dC, dI)) (ci := 2) (v := .ref qt_powers) (C := R_Field) (T := F_Field) (N := 2) hx hb ht i_Field hown hK hP 0 rfl rfl 0 (by decide) (ht _ tb_42) (fun _ h9 => h9) rfl d_Field_over_13 ?_
      refine lv_aload_n hx hb d_Field_over_16 rfl (lv_at hl 0 rfl) ?_
      refine va_get (D := (dC, dI)) (ci := 2) (v := .ref qt_logs) (C := R_Field) (T := F_Field) (N := 2) hx hb ht i_Field hown hK hP 0 rfl rfl 1 (by decide) (ht _ tb_43) (fun _ h9 => h9) rfl d_Field_over_17 ?_
      refine lv_iload_n hx hb d_Field_over_20 rfl (lv_at hl 1 rfl) ?_
      refine lv_sipush (v := (255 : Int32)) hx hb d_Field_over_21 (by decide) ?_
      refine lv_iand hx hb d_Field_over_24 ?_
      obtain ⟨x3, ex3, Hf⟩ := sq_bd_e Hf
      refine sq_top ex3 ?_
      obtain ⟨hi4, Hf⟩ := sq_gi_e Hf
      refine va_iald hx hb hK hP 1 0 rfl rfl hi4 d_Field_over_25 ?_
      obtain ⟨x5, ex5, Hf⟩ := sq_bd_e Hf
      refine sq_top ex5 ?_
      refine lv_sipush (v := (255 : Int32)) hx hb d_Field_over_26 (by decide) ?_
      refine lv_iadd hx hb d_Field_over_29 ?_
      refine lv_aload_n hx hb d_Field_over_30 rfl (lv_at hl 0 rfl) ?_
      refine va_get (D := (dC, dI)) (ci := 2) (v := .ref qt_logs) (C := R_Field) (T := F_Field) (N := 2) hx hb ht i_Field hown hK hP 0 rfl rfl 1 (by decide) (ht _ tb_43) (fun _ h9 => h9) rfl d_Field_over_31 ?_
      refine lv_iload_n hx hb d_Field_over_34 rfl (lv_at hl 2 rfl) ?_
      refine lv_sipush (v := (255 : Int32)) hx hb d_Field_over_35 (by decide) ?_
      refine lv_iand hx hb d_Field_over_38 ?_
      obtain ⟨x6, ex6, Hf⟩ := sq_bd_e Hf
      refine sq_top ex6 ?_
      obtain ⟨hi7, Hf⟩ := sq_gi_e Hf
      refine va_iald hx hb hK hP 1 0 rfl rfl hi7 d_Field_over_39 ?_
      obtain ⟨x8, ex8, Hf⟩ := sq_bd_e Hf
      refine sq_top ex8 ?_
      refine lv_isub hx hb d_Field_over_40 ?_
      refine lv_sipush (v := (511 : Int32)) hx hb d_Field_over_41 (by decide) ?_
      refine lv_iand hx hb d_Field_over_44 ?_
      obtain ⟨x9, ex9, Hf⟩ := sq_bd_e Hf
      refine sq_top ex9 ?_
      obtain ⟨hi10, Hf⟩ := sq_gi_e Hf
      refine va_iald hx hb hK hP 2 1 rfl rfl hi10 d_Field_over_45 ?_
      obtain ⟨x11, ex11, Hf⟩ := sq_bd_e Hf
      refine sq_top ex11 ?_
      have er := Option.some.inj Hf
      exact W.iret hx hb hr (fun t ht hW => ⟨_, rfl, er, ht⟩) (fun q h => by cases h) d_Field_over_46
    · replace Hf := sq_ite_t Hf c2
      refine lv_iconst (v := (0 : Int32)) hx hb d_Field_over_8 (by decide) ?_
      refine lv_goto (tgt := 46) hx hb d_Field_over_9 (by decide) ?_
      have er := Option.some.inj Hf
      exact W.iret hx hb hr (fun t ht hW => ⟨_, rfl, er, ht⟩) (fun q h => by cases h) d_Field_over_46

