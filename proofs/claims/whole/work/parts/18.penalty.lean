def fn_Penalty_balance (n0 : Nat) (vp1_side : Int32) (vp1_words : Nat → Int64) : Option (Int32) :=
  sq_cb1 (fn_Grid_side vp1_side) fun r1 => sq_cb1 (fn_Grid_side vp1_side) fun r3 => sq_bd (r1 * r3) fun x5 => sq_bd (sq_max (1 : Int32) x5) fun x6 => sq_cb1 (fn_Grid_darkOnes n0 vp1_words) fun r7 => sq_bd (((20 : Int32) * r7) - ((10 : Int32) * x6)) fun x9 => sq_bd (sq_abs x9) fun x10 => sq_gz x6 <| some ((10 : Int32) * (x10 / x6))
abbrev ww_Penalty_balance (qp1 qp1_words : Nat) (cp1_words : ClassId) (vp1_side : Int32) (vp1_words : Nat → Int64) : va_W := [(qp1, .inr (6, [.ref qp1_words, .int vp1_side])), (qp1_words, .inl (cp1_words, 531, .inr (.inl vp1_words)))]

def rm_Penalty_balance : Room := { frames := 2, cells := 0, slots := 0, locals := 43 }
abbrev qc_Penalty_balance (r0 : Int32) : Array Value → State → Outcome → State → Prop := vp_Si (fun r => r = r0)

set_option maxHeartbeats 4000000 in
set_option maxRecDepth 100000 in
theorem kt_Penalty_balance (l : Launch) (dC : Nat → ClassId) (dI : Nat → Nat → Nat) (qp1 qp1_words : Nat) (cp1_words : ClassId) (vp1_side : Int32) (vp1_words : Nat → Int64) (n0 : Nat) (r0 : Int32) (Hf : fn_Penalty_balance n0 vp1_side vp1_words = some r0) : Met l y_Penalty_balance w_Penalty_balance rm_Penalty_balance (va_Pc [.ref qp1] (fun U => va_P (dC, dI) cl_All (ww_Penalty_balance qp1 qp1_words cp1_words vp1_side vp1_words) U.heap ∧ va_K (dC, dI) cl_All [(cp1_words, .long)] U)) (qc_Penalty_balance r0) 0 0 (fun _ => False) := by
  refine Met.ofW (cc := prog_11_method_7_code) (maxL := 2) (ret := (some .int)) (by decide) rfl ?_
  intro p e s m args below meth c s₁ B hml hv
  obtain ⟨rfl, hP, hK⟩ := hv
  have hx := B.exec; have hb := B.bytes; have hr := B.returns; have hlocks := B.notSynchronized
  have ht : ∀ w ∈ lw_g, w.before _ s = true := fun w h => atoms_spec (ws := w_Penalty_balance) B.pre w (List.mem_cons_of_mem _ h)
  have hown : s.vm.findClass "SquareSymbols$Penalty" = some m.cls := findClass_of_methodNamed B.named
  have hl := lv_entry ([.ref qp1]) (n := 2) (Nat.le_of_ble_eq_true rfl)
  rw [lg_entry_eq]
  generalize (lg_sl ([.ref qp1]) ++ List.replicate (2 - (lg_sl ([.ref qp1])).length) Slot.unset).toArray = ls at hl ⊢
  have hl : lv_has ls 2 [(0, .ref qp1)] := hl
  refine lv_iconst (v := (1 : Int32)) hx hb d_Penalty_balance_0 (by decide) ?_
  refine lv_aload_n hx hb d_Penalty_balance_1 rfl (lv_at hl 0 rfl) ?_
  obtain ⟨r1, hc2, Hf⟩ := sq_cb1_e Hf
  refine sq_roi (va_runV (As := []) (rest := [.int (1 : Int32)]) ⟨hx, hb, hml, hown, ht⟩ (kt_Grid_side l dC dI qp1 qp1_words vp1_side r1 hc2) (cwV 0 ht (sq_gV tb_992 tb_356 tb_357 tb_8 tb_358) rfl rfl rfl (by decide +kernel) ⟨Nat.le_of_ble_eq_true rfl, Nat.le_of_ble_eq_true rfl⟩) (sq_roV (hP.sub (ws' := (ww_Grid_side qp1 qp1_words vp1_side)) [0] rfl) (hK.sub (tys' := []) [] rfl) (va_recv hK hP (ci := 6) (q0 := 0) rfl rfl)) rfl rfl hl.1 rfl (lv_room (Nat.le_of_ble_eq_true rfl)) d_Penalty_balance_2 ⟨Nat.le_of_ble_eq_true rfl, Nat.le_of_ble_eq_true rfl⟩) ?_
  refine lv_aload_n hx hb d_Penalty_balance_5 rfl (lv_at hl 0 rfl) ?_
  obtain ⟨r3, hc4, Hf⟩ := sq_cb1_e Hf
  refine sq_roi (va_runV (As := []) (rest := [.int r1, .int (1 : Int32)]) ⟨hx, hb, hml, hown, ht⟩ (kt_Grid_side l dC dI qp1 qp1_words vp1_side r3 hc4) (cwV 0 ht (sq_gV tb_992 tb_356 tb_357 tb_8 tb_358) rfl rfl rfl (by decide +kernel) ⟨Nat.le_of_ble_eq_true rfl, Nat.le_of_ble_eq_true rfl⟩) (sq_roV (hP.sub (ws' := (ww_Grid_side qp1 qp1_words vp1_side)) [0] rfl) (hK.sub (tys' := []) [] rfl) (va_recv hK hP (ci := 6) (q0 := 0) rfl rfl)) rfl rfl hl.1 rfl (lv_room (Nat.le_of_ble_eq_true rfl)) d_Penalty_balance_6 ⟨Nat.le_of_ble_eq_true rfl, Nat.le_of_ble_eq_true rfl⟩) ?_
  refine lv_imul hx hb d_Penalty_balance_9 ?_
  obtain ⟨x5, ex5, Hf⟩ := sq_bd_e Hf
  refine sq_top ex5 ?_
  refine va_mmax hx hb (by rw [hml]; exact hl.1.symm) hown (ht _ tb_1014) (ht _ tb_416) (ht _ tb_17) (ht _ tb_417) (Nat.le_of_ble_eq_true rfl) (Nat.le_of_ble_eq_true rfl) (Nat.zero_le _) (Nat.zero_le _) d_Penalty_balance_10 ?_
  obtain ⟨x6, ex6, Hf⟩ := sq_bd_e Hf
  refine sq_top ex6 ?_
  refine lv_istore_n (lv' := [(1, .int x6), (0, .ref qp1)]) hx hb d_Penalty_balance_13 rfl hl (by decide) rfl (fun ls hl => ?_)
  refine lv_bipush (v := (10 : Int32)) hx hb d_Penalty_balance_14 (by decide) ?_
  refine lv_bipush (v := (20 : Int32)) hx hb d_Penalty_balance_16 (by decide) ?_
  refine lv_aload_n hx hb d_Penalty_balance_18 rfl (lv_at hl 1 rfl) ?_
  obtain ⟨r7, hc8, Hf⟩ := sq_cb1_e Hf
  refine sq_roi (va_runV (As := []) (rest := [.int (20 : Int32), .int (10 : Int32)]) ⟨hx, hb, hml, hown, ht⟩ (kt_Grid_darkOnes l dC dI qp1 qp1_words cp1_words vp1_side vp1_words n0 r7 hc8) (cwV 0 ht (sq_gV tb_1015 tb_1016 tb_1017 tb_8 tb_1018) rfl rfl rfl (by decide +kernel) ⟨Nat.le_of_ble_eq_true rfl, Nat.le_of_ble_eq_true rfl⟩) (sq_roV (hP.sub (ws' := (ww_Grid_darkOnes qp1 qp1_words cp1_words vp1_side vp1_words)) [0, 1] rfl) (hK.sub (tys' := [(cp1_words, .long)]) [0] rfl) (va_recv hK hP (ci := 6) (q0 := 0) rfl rfl)) rfl rfl hl.1 rfl (lv_room (Nat.le_of_ble_eq_true rfl)) d_Penalty_balance_19 ⟨Nat.le_of_ble_eq_true rfl, Nat.le_of_ble_eq_true rfl⟩) ?_
  refine lv_imul hx hb d_Penalty_balance_22 ?_
  refine lv_bipush (v := (10 : Int32)) hx hb d_Penalty_balance_23 (by decide) ?_
  refine lv_iload_n hx hb d_Penalty_balance_25 rfl (lv_at hl 0 rfl) ?_
  refine lv_imul hx hb d_Penalty_balance_26 ?_
  refine lv_isub hx hb d_Penalty_balance_27 ?_
  obtain ⟨x9, ex9, Hf⟩ := sq_bd_e Hf
  refine sq_top ex9 ?_
  refine va_mabs hx hb (by rw [hml]; exact hl.1.symm) hown (ht _ tb_1019) (ht _ tb_459) (ht _ tb_17) (ht _ tb_460) (Nat.le_of_ble_eq_true rfl) (Nat.le_of_ble_eq_true rfl) (Nat.zero_le _) (Nat.zero_le _) d_Penalty_balance_28 ?_
  obtain ⟨x10, ex10, Hf⟩ := sq_bd_e Hf
  refine sq_top ex10 ?_
  refine lv_iload_n hx hb d_Penalty_balance_31 rfl (lv_at hl 0 rfl) ?_
  obtain ⟨hz11, Hf⟩ := sq_gz_e Hf
  refine lv_idiv hx hb d_Penalty_balance_32 hz11 ?_
  refine lv_imul hx hb d_Penalty_balance_33 ?_
  have er := Option.some.inj Hf
  exact W.iret hx hb hr (fun t ht hW => ⟨_, rfl, er, ht⟩) (fun q h => by cases h) d_Penalty_balance_34

def fn_Penalty_withRoom (p2 : Int32) (p3 : Int32) (p4 : Int32) (p5 : Int32) (vp1_side : Int32) : Option (Int64) :=
  sq_cb1 (fn_Grid_side vp1_side) fun r1 => if r1 ≤ (p3 + p5) then (some ((0 : Int64))) else (sq_cb1 (fn_Grid_side vp1_side) fun r4 => sq_cb1 (fn_Sq_lowBits ((r4 - p2) - p4)) fun u6 => some (u6))
abbrev ww_Penalty_withRoom (qp1 qp1_words : Nat) (vp1_side : Int32) : va_W := [(qp1, .inr (6, [.ref qp1_words, .int vp1_side]))]

def rm_Penalty_withRoom : Room := { frames := 1, cells := 0, slots := 0, locals := 20 }
abbrev qc_Penalty_withRoom (r0 : Int64) : Array Value → State → Outcome → State → Prop := vp_Sl (fun r => r = r0)

set_option maxHeartbeats 4000000 in
set_option maxRecDepth 100000 in
theorem kt_Penalty_withRoom (l : Launch) (dC : Nat → ClassId) (dI : Nat → Nat → Nat) (qp1 qp1_words : Nat) (vp1_side : Int32) (p2 : Int32) (p3 : Int32) (p4 : Int32) (p5 : Int32) (tt : Nat → Nat) (r0 : Int64) (Hf : fn_Penalty_withRoom p2 p3 p4 p5 vp1_side = some r0) : Met l y_Penalty_withRoom w_Penalty_withRoom rm_Penalty_withRoom (va_Pc [.ref qp1, .int p2, .int p3, .int p4, .int p5] (fun U => va_P (dC, dI) cl_All (ww_Penalty_withRoom qp1 qp1_words vp1_side) U.heap ∧ va_K (dC, dI) cl_All [] U ∧ sx_T tt (fun _ => False) U U.heap)) (qc_Penalty_withRoom r0) 0 0 (fun _ => False) := by
  refine Met.ofW (cc := prog_11_method_4_code) (maxL := 5) (ret := (some .long)) (by decide) rfl ?_
  intro p e s m args below meth c s₁ B hml hv
  obtain ⟨rfl, hP, hK, hX⟩ := hv
  have hx := B.exec; have hb := B.bytes; have hr := B.returns; have hlocks := B.notSynchronized
  have ht : ∀ w ∈ lw_g, w.before _ s = true := fun w h => atoms_spec (ws := w_Penalty_withRoom) B.pre w (List.mem_cons_of_mem _ h)
  have hown : s.vm.findClass "SquareSymbols$Penalty" = some m.cls := findClass_of_methodNamed B.named
  have hl := lv_entry ([.ref qp1, .int p2, .int p3, .int p4, .int p5]) (n := 5) (Nat.le_of_ble_eq_true rfl)
  rw [lg_entry_eq]
  generalize (lg_sl ([.ref qp1, .int p2, .int p3, .int p4, .int p5]) ++ List.replicate (5 - (lg_sl ([.ref qp1, .int p2, .int p3, .int p4, .int p5])).length) Slot.unset).toArray = ls at hl ⊢
  have hl : lv_has ls 5 [(0, .ref qp1), (1, .int p2), (2, .int p3), (3, .int p4), (4, .int p5)] := hl
  refine lv_iload_n hx hb d_Penalty_withRoom_0 rfl (lv_at hl 2 rfl) ?_
  refine lv_iload hx hb d_Penalty_withRoom_1 (lv_at hl 4 rfl) ?_
  refine lv_iadd hx hb d_Penalty_withRoom_3 ?_
  refine lv_aload_n hx hb d_Penalty_withRoom_4 rfl (lv_at hl 0 rfl) ?_
  obtain ⟨r1, hc2, Hf⟩ := sq_cb1_e Hf
  refine sq_roi (va_runV (As := []) (rest := [.int (p3 + p5)]) ⟨hx, hb, hml, hown, ht⟩ (kt_Grid_side l dC dI qp1 qp1_words vp1_side r1 hc2) (cwV 0 ht (sq_gV tb_992 tb_356 tb_357 tb_8 tb_358) rfl rfl rfl (by decide +kernel) ⟨Nat.le_of_ble_eq_true rfl, Nat.le_of_ble_eq_true rfl⟩) (sq_roV (hP.sub (ws' := (ww_Grid_side qp1 qp1_words vp1_side)) [0] rfl) (hK.sub (tys' := []) [] rfl) (va_recv hK hP (ci := 6) (q0 := 0) rfl rfl)) rfl rfl hl.1 rfl (lv_room (Nat.le_of_ble_eq_true rfl)) d_Penalty_withRoom_5 ⟨Nat.le_of_ble_eq_true rfl, Nat.le_of_ble_eq_true rfl⟩) ?_
  refine lv_icmp_ge (tgt := 25) hx hb d_Penalty_withRoom_8 (by decide) (fun c3 => ?_) (fun c3 => ?_)
  · replace Hf := sq_ite_t Hf c3
    refine lv_lconst (v := (0 : Int64)) hx hb d_Penalty_withRoom_25 (by decide) ?_
    have er := Option.some.inj Hf
    exact W.lret hx hb hr (fun t ht hW => ⟨_, rfl, er, ht⟩) (fun q h => by cases h) d_Penalty_withRoom_26
  · replace Hf := sq_ite_f Hf c3
    refine lv_aload_n hx hb d_Penalty_withRoom_11 rfl (lv_at hl 0 rfl) ?_
    obtain ⟨r4, hc5, Hf⟩ := sq_cb1_e Hf
    refine sq_roi (va_runV (As := []) (rest := []) ⟨hx, hb, hml, hown, ht⟩ (kt_Grid_side l dC dI qp1 qp1_words vp1_side r4 hc5) (cwV 0 ht (sq_gV tb_992 tb_356 tb_357 tb_8 tb_358) rfl rfl rfl (by decide +kernel) ⟨Nat.le_of_ble_eq_true rfl, Nat.le_of_ble_eq_true rfl⟩) (sq_roV (hP.sub (ws' := (ww_Grid_side qp1 qp1_words vp1_side)) [0] rfl) (hK.sub (tys' := []) [] rfl) (va_recv hK hP (ci := 6) (q0 := 0) rfl rfl)) rfl rfl hl.1 rfl (lv_room (Nat.le_of_ble_eq_true rfl)) d_Penalty_withRoom_12 ⟨Nat.le_of_ble_eq_true rfl, Nat.le_of_ble_eq_true rfl⟩) ?_
    refine lv_iload_n hx hb d_Penalty_withRoom_15 rfl (lv_at hl 1 rfl) ?_
    refine lv_isub hx hb d_Penalty_withRoom_16 ?_
    refine lv_iload_n hx hb d_Penalty_withRoom_17 rfl (lv_at hl 3 rfl) ?_
    refine lv_isub hx hb d_Penalty_withRoom_18 ?_
    obtain ⟨u6, hc7, Hf⟩ := sq_cb1_e Hf
    refine sq_rol (va_runSN (As := [.int ((r4 - p2) - p4)]) (rest := []) ⟨hx, hb, hml, hown, ht⟩ (kt_Sq_lowBits l dC dI ((r4 - p2) - p4) u6 hc7) ⟨va_cnB 1 ht (sq_g1 tb_343) rfl rfl rfl hX.n1002 (ht _ tb_1) (by decide +kernel) ⟨Nat.le_of_ble_eq_true rfl, Nat.le_of_ble_eq_true rfl⟩, ht _ tb_342, trivial⟩ (sq_roS (hP.sub (ws' := ([] : va_W)) [] rfl) (hK.sub (tys' := []) [] rfl)) rfl rfl hl.1 rfl (lv_room (Nat.le_of_ble_eq_true rfl)) d_Penalty_withRoom_19 ⟨Nat.le_of_ble_eq_true rfl, Nat.le_of_ble_eq_true rfl⟩) ?_
    refine lv_goto (tgt := 26) hx hb d_Penalty_withRoom_22 (by decide) ?_
    have er := Option.some.inj Hf
    exact W.lret hx hb hr (fun t ht hW => ⟨_, rfl, er, ht⟩) (fun q h => by cases h) d_Penalty_withRoom_26

def fn_Penalty_places_L1 (p1 : Int32) (vt_ahead : Nat → Int64) : Nat → Int64 → Int32 → Option (Int64)
  | 0, _, _ => none
  | m1 + 1, w1, x2 => if (11 : Int32) ≤ x2 then (some (w1)) else (sq_jn (fun (w4 : Int64) => sq_bd (w1 &&& w4) fun w6 => sq_bd (x2 + (1 : Int32)) fun x7 => fn_Penalty_places_L1 p1 vt_ahead m1 w6 x7) fun k5 => if ((p1 >>> (x2 &&& 31)) &&& (1 : Int32)) = (1 : Int32) then (sq_gi x2 11 <| sq_bd (vt_ahead x2.toNatClampNeg) fun w12 => k5 w12) else (sq_gi x2 11 <| sq_bd (vt_ahead x2.toNatClampNeg) fun w10 => k5 (w10 ^^^ (-1 : Int64))))
theorem fn_Penalty_places_L1_s (p1 : Int32) (vt_ahead : Nat → Int64) (m1 : Nat) (w1 : Int64) (x2 : Int32) : fn_Penalty_places_L1 p1 vt_ahead (m1 + 1) w1 x2 = if (11 : Int32) ≤ x2 then (some (w1)) else (sq_jn (fun (w4 : Int64) => sq_bd (w1 &&& w4) fun w6 => sq_bd (x2 + (1 : Int32)) fun x7 => fn_Penalty_places_L1 p1 vt_ahead m1 w6 x7) fun k5 => if ((p1 >>> (x2 &&& 31)) &&& (1 : Int32)) = (1 : Int32) then (sq_gi x2 11 <| sq_bd (vt_ahead x2.toNatClampNeg) fun w12 => k5 w12) else (sq_gi x2 11 <| sq_bd (vt_ahead x2.toNatClampNeg) fun w10 => k5 (w10 ^^^ (-1 : Int64)))) := rfl
def fn_Penalty_places (n0 : Nat) (p1 : Int32) (vt_ahead : Nat → Int64) : Option (Int64) :=
  fn_Penalty_places_L1 p1 vt_ahead n0 (-1 : Int64) (0 : Int32)
abbrev ww_Penalty_places (qt qt_ahead : Nat) (ct_ahead : ClassId) (vt_ahead : Nat → Int64) : va_W := [(qt, .inr (8, [.ref qt_ahead])), (qt_ahead, .inl (ct_ahead, 11, .inr (.inl vt_ahead)))]

def rm_Penalty_places : Room := { frames := 0, cells := 0, slots := 0, locals := 0 }
abbrev qc_Penalty_places (r0 : Int64) : Array Value → State → Outcome → State → Prop := vp_Sl (fun r => r = r0)

set_option maxHeartbeats 4000000 in
set_option maxRecDepth 100000 in
theorem kt_Penalty_places (l : Launch) (dC : Nat → ClassId) (dI : Nat → Nat → Nat) (qt qt_ahead : Nat) (ct_ahead : ClassId) (vt_ahead : Nat → Int64) (p1 : Int32) (n0 : Nat) (r0 : Int64) (Hf : fn_Penalty_places n0 p1 vt_ahead = some r0) : Met l y_Penalty_places w_Penalty_places rm_Penalty_places (va_Pc [.ref qt, .int p1] (fun U => va_P (dC, dI) cl_All (ww_Penalty_places qt qt_ahead ct_ahead vt_ahead) U.heap ∧ va_K (dC, dI) cl_All [(ct_ahead, .long)] U)) (qc_Penalty_places r0) 0 0 (fun _ => False) := by
  refine Met.ofW (cc := prog_11_method_5_code) (maxL := 5) (ret := (some .long)) (by decide) rfl ?_
  intro p e s m args below meth c s₁ B hml hv
  obtain ⟨rfl, hP, hK⟩ := hv
  have hx := B.exec; have hb := B.bytes; have hr := B.returns; have hlocks := B.notSynchronized
  have ht : ∀ w ∈ lw_g, w.before _ s = true := fun w h => atoms_spec (ws := w_Penalty_places) B.pre w (List.mem_cons_of_mem _ h)
  have hown : s.vm.findClass "SquareSymbols$Penalty" = some m.cls := findClass_of_methodNamed B.named
  have hl := lv_entry ([.ref qt, .int p1]) (n := 5) (Nat.le_of_ble_eq_true rfl)
  rw [lg_entry_eq]
  generalize (lg_sl ([.ref qt, .int p1]) ++ List.replicate (5 - (lg_sl ([.ref qt, .int p1])).length) Slot.unset).toArray = ls at hl ⊢
  have hl : lv_has ls 5 [(0, .ref qt), (1, .int p1)] := hl
  refine lv_ldc2 (v := (-1 : Int64)) hx hb hown (ht _ tb_997) d_Penalty_places_0 ?_
  refine lv_lstore_n (lv' := [(2, .long (-1 : Int64)), (0, .ref qt), (1, .int p1)]) hx hb d_Penalty_places_3 rfl hl (by decide) rfl (fun ls hl => ?_)
  refine lv_iconst (v := (0 : Int32)) hx hb d_Penalty_places_4 (by decide) ?_
  refine lv_istore (lv' := [(4, .int (0 : Int32)), (2, .long (-1 : Int64)), (0, .ref qt), (1, .int p1)]) hx hb d_Penalty_places_5 hl (by decide) rfl (fun ls hl => ?_)
  have L1 : ∀ (m1 : Nat), ∀ (w1 : Int64) (x2 : Int32), fn_Penalty_places_L1 p1 vt_ahead m1 w1 x2 = some r0 → ∀ ls : Array Slot, lv_has ls 5 [(0, .ref qt), (1, .int p1), (2, .long w1), (4, .int x2)] → W p l e (headSpec w_Penalty_places rm_Penalty_places).room s m (([.ref qt, .int p1] : List Value).toArray) below meth c s.heap [] 0 0 (MQ below (qc_Penalty_places r0) (([.ref qt, .int p1] : List Value).toArray) s 0 0 (fun _ => False)) (F0 m 7 ls []) := by
    intro m1
    induction m1 with
    | zero => intro w1 x2 Hf; exact sq_none Hf
    | succ m1 ih1 =>
      intro w1 x2 Hf ls hl
      replace Hf := (fn_Penalty_places_L1_s p1 vt_ahead m1 w1 x2).symm.trans Hf
      refine lv_iload hx hb d_Penalty_places_7 (lv_at hl 3 rfl) ?_
      refine lv_bipush (v := (11 : Int32)) hx hb d_Penalty_places_9 (by decide) ?_
      refine lv_icmp_ge (tgt := 54) hx hb d_Penalty_places_11 (by decide) (fun c3 => ?_) (fun c3 => ?_)
      · replace Hf := sq_ite_t Hf c3
        refine lv_lload_n hx hb d_Penalty_places_54 rfl (lv_at hl 2 rfl) ?_
        have er := Option.some.inj Hf
        exact W.lret hx hb hr (fun t ht hW => ⟨_, rfl, er, ht⟩) (fun q h => by cases h) d_Penalty_places_55
      · replace Hf := sq_ite_f Hf c3
        refine lv_lload_n hx hb d_Penalty_places_14 rfl (lv_at hl 2 rfl) ?_
        refine lv_iload_n hx hb d_Penalty_places_15 rfl (lv_at hl 1 rfl) ?_
        refine lv_iload hx hb d_Penalty_places_16 (lv_at hl 3 rfl) ?_
        refine lv_ishr hx hb d_Penalty_places_18 ?_
        refine lv_iconst (v := (1 : Int32)) hx hb d_Penalty_places_19 (by decide) ?_
        refine lv_iand hx hb d_Penalty_places_20 ?_
        refine lv_iconst (v := (1 : Int32)) hx hb d_Penalty_places_21 (by decide) ?_
        obtain ⟨k5, hk5, Hf⟩ := sq_jn_e Hf
        have Jk5 : ∀ (w4 : Int64), k5 w4 = some r0 → ∀ ls : Array Slot, lv_has ls 5 [(0, .ref qt), (1, .int p1), (4, .int x2)] → W p l e (headSpec w_Penalty_places rm_Penalty_places).room s m (([.ref qt, .int p1] : List Value).toArray) below meth c s.heap [] 0 0 (MQ below (qc_Penalty_places r0) (([.ref qt, .int p1] : List Value).toArray) s 0 0 (fun _ => False)) (F0 m 46 ls [.long w4, .long w1]) := by
          intro w4 Hf ls hl
          rw [hk5] at Hf
          refine lv_land hx hb d_Penalty_places_46 ?_
          obtain ⟨w6, ew6, Hf⟩ := sq_bd_e Hf
          refine sq_topl ew6 ?_
          refine lv_lstore_n (lv' := [(2, .long w6), (0, .ref qt), (1, .int p1), (4, .int x2)]) hx hb d_Penalty_places_47 rfl hl (by decide) rfl (fun ls hl => ?_)
          obtain ⟨x7, ex7, Hf⟩ := sq_bd_e Hf
          refine lv_iinc (v := x7) (lv' := [(4, .int x7), (2, .long w6), (0, .ref qt), (1, .int p1)]) hx hb d_Penalty_places_48 hl (k := 3) rfl (by rw [ex7]; rfl) (by decide) rfl (fun ls hl => ?_)
          refine lv_goto (tgt := 7) hx hb d_Penalty_places_51 (by decide) ?_
          exact ih1 w6 x7 Hf _ (lv_sub hl [2, 3, 1, 0] rfl)
        refine lv_icmp_ne (tgt := 35) hx hb d_Penalty_places_22 (by decide) (fun c8 => ?_) (fun c8 => ?_)
        · replace Hf := sq_ite_f Hf c8
          refine lv_aload_n hx hb d_Penalty_places_35 rfl (lv_at hl 0 rfl) ?_
          refine va_get (D := (dC, dI)) (ci := 8) (v := .ref qt_ahead) (C := R_Penalty) (T := F_Penalty) (N := 1) hx hb ht i_Penalty hown hK hP 0 rfl rfl 0 (by decide) (ht _ tb_254) (fun _ h9 => h9) rfl d_Penalty_places_36 ?_
          refine lv_iload hx hb d_Penalty_places_39 (lv_at hl 3 rfl) ?_
          obtain ⟨hi9, Hf⟩ := sq_gi_e Hf
          refine va_lald hx hb hK hP 1 0 rfl rfl hi9 d_Penalty_places_41 ?_
          obtain ⟨w10, ew10, Hf⟩ := sq_bd_e Hf
          refine sq_topl ew10 ?_
          refine lv_ldc2 (v := (-1 : Int64)) hx hb hown (ht _ tb_997) d_Penalty_places_42 ?_
          refine lv_lxor hx hb d_Penalty_places_45 ?_
          exact Jk5 (w10 ^^^ (-1 : Int64)) Hf _ (lv_sub hl [0, 1, 3] rfl)
        · replace Hf := sq_ite_t Hf c8
          refine lv_aload_n hx hb d_Penalty_places_25 rfl (lv_at hl 0 rfl) ?_
          refine va_get (D := (dC, dI)) (ci := 8) (v := .ref qt_ahead) (C := R_Penalty) (T := F_Penalty) (N := 1) hx hb ht i_Penalty hown hK hP 0 rfl rfl 0 (by decide) (ht _ tb_254) (fun _ h9 => h9) rfl d_Penalty_places_26 ?_
          refine lv_iload hx hb d_Penalty_places_29 (lv_at hl 3 rfl) ?_
          obtain ⟨hi11, Hf⟩ := sq_gi_e Hf
          refine va_lald hx hb hK hP 1 0 rfl rfl hi11 d_Penalty_places_31 ?_
          obtain ⟨w12, ew12, Hf⟩ := sq_bd_e Hf
          refine sq_topl ew12 ?_
          refine lv_goto (tgt := 46) hx hb d_Penalty_places_32 (by decide) ?_
          exact Jk5 w12 Hf _ (lv_sub hl [0, 1, 3] rfl)
  exact L1 n0 (-1 : Int64) (0 : Int32) Hf _ (lv_sub hl [2, 3, 1, 0] rfl)

def fn_Penalty_lines_L1 (p2 : Int32) (p3 : Int32) (p4 : Int32) (p5 : Int32) (vp1_side : Int32) (vp1_words : Nat → Int64) (k4 : Int64 → Int64 → (Nat → Int64) → Option (Int32 × (Nat → Int64))) : Nat → Int64 → Int64 → Int32 → (Nat → Int64) → Option (Int32 × (Nat → Int64))
  | 0, _, _, _, _ => none
  | m1 + 1, w33, w34, x35, b36 => if (11 : Int32) ≤ x35 then (k4 w33 w34 b36) else (sq_cb1 (fn_Grid_from (p2 + (x35 * p4)) (p3 + (x35 * p5)) vp1_side vp1_words) fun u38 => sq_gi x35 11 <| sq_bd (vp_updL b36 x35.toNatClampNeg u38) fun b41 => sq_jn (fun (w42 : Int64) (w43 : Int64) => sq_bd (x35 + (1 : Int32)) fun x45 => fn_Penalty_lines_L1 p2 p3 p4 p5 vp1_side vp1_words k4 m1 w42 w43 x45 b41) fun k44 => if (5 : Int32) ≤ x35 then (k44 w33 w34) else (sq_gi x35 11 <| sq_bd (b41 x35.toNatClampNeg) fun w48 => sq_bd (w33 &&& w48) fun w49 => sq_gi x35 11 <| sq_bd (b41 x35.toNatClampNeg) fun w51 => sq_bd (w34 &&& (w51 ^^^ (-1 : Int64))) fun w52 => k44 w49 w52))
theorem fn_Penalty_lines_L1_s (p2 : Int32) (p3 : Int32) (p4 : Int32) (p5 : Int32) (vp1_side : Int32) (vp1_words : Nat → Int64) (k4 : Int64 → Int64 → (Nat → Int64) → Option (Int32 × (Nat → Int64))) (m1 : Nat) (w33 : Int64) (w34 : Int64) (x35 : Int32) (b36 : Nat → Int64) : fn_Penalty_lines_L1 p2 p3 p4 p5 vp1_side vp1_words k4 (m1 + 1) w33 w34 x35 b36 = if (11 : Int32) ≤ x35 then (k4 w33 w34 b36) else (sq_cb1 (fn_Grid_from (p2 + (x35 * p4)) (p3 + (x35 * p5)) vp1_side vp1_words) fun u38 => sq_gi x35 11 <| sq_bd (vp_updL b36 x35.toNatClampNeg u38) fun b41 => sq_jn (fun (w42 : Int64) (w43 : Int64) => sq_bd (x35 + (1 : Int32)) fun x45 => fn_Penalty_lines_L1 p2 p3 p4 p5 vp1_side vp1_words k4 m1 w42 w43 x45 b41) fun k44 => if (5 : Int32) ≤ x35 then (k44 w33 w34) else (sq_gi x35 11 <| sq_bd (b41 x35.toNatClampNeg) fun w48 => sq_bd (w33 &&& w48) fun w49 => sq_gi x35 11 <| sq_bd (b41 x35.toNatClampNeg) fun w51 => sq_bd (w34 &&& (w51 ^^^ (-1 : Int64))) fun w52 => k44 w49 w52)) := rfl
def fn_Penalty_lines (n0 : Nat) (p2 : Int32) (p3 : Int32) (p4 : Int32) (p5 : Int32) (vp1_side : Int32) (vp1_words : Nat → Int64) (vt_ahead : Nat → Int64) : Option (Int32 × (Nat → Int64)) :=
  sq_jn (fun (w1 : Int64) (w2 : Int64) (b3 : Nat → Int64) => sq_cb1 (fn_Penalty_withRoom p2 p3 ((4 : Int32) * p4) ((4 : Int32) * p5) vp1_side) fun u5 => sq_bd ((w1 ||| w2) &&& u5) fun w7 => sq_jn (fun (w8 : Int64) => sq_cb1 (fn_Grid_from (p2 - p4) (p3 - p5) vp1_side vp1_words) fun u10 => sq_gi (0 : Int32) 11 <| sq_bd (b3 (0 : Int32).toNatClampNeg) fun w13 => sq_bd (w7 &&& (w8 ||| (u10 ^^^ w13))) fun w14 => sq_cb1 (fn_Penalty_withRoom p2 p3 ((10 : Int32) * p4) ((10 : Int32) * p5) vp1_side) fun u15 => sq_cb1 (fn_Penalty_places n0 (93 : Int32) b3) fun u17 => sq_cb1 (fn_JLong_bitCount (u17 &&& u15)) fun r19 => sq_cb1 (fn_Penalty_places n0 (1488 : Int32) b3) fun u21 => sq_cb1 (fn_JLong_bitCount (u21 &&& u15)) fun r23 => sq_bd (r19 + r23) fun x25 => sq_cb1 (fn_JLong_bitCount w7) fun r26 => sq_cb1 (fn_JLong_bitCount w14) fun r28 => some ((r26 + ((2 : Int32) * r28)) + ((40 : Int32) * x25), b3)) fun k9 => if p5 = 0 then (if p2 = 0 then (k9 (1 : Int64)) else (k9 (0 : Int64))) else (if p3 = 0 then (k9 (-1 : Int64)) else (k9 (0 : Int64)))) fun k4 => fn_Penalty_lines_L1 p2 p3 p4 p5 vp1_side vp1_words k4 n0 (-1 : Int64) (-1 : Int64) (0 : Int32) vt_ahead
abbrev ww_Penalty_lines (qp1 qt qp1_words qt_ahead : Nat) (cp1_words ct_ahead : ClassId) (vp1_side : Int32) (vp1_words : Nat → Int64) (vt_ahead : Nat → Int64) : va_W := [(qp1, .inr (6, [.ref qp1_words, .int vp1_side])), (qt, .inr (8, [.ref qt_ahead])), (qp1_words, .inl (cp1_words, 531, .inr (.inl vp1_words))), (qt_ahead, .inl (ct_ahead, 11, .inr (.inl vt_ahead)))]

def rm_Penalty_lines : Room := { frames := 2, cells := 0, slots := 0, locals := 44 }
abbrev qc_Penalty_lines (dC : Nat → ClassId) (dI : Nat → Nat → Nat) (A : Nat → Prop) (r0 : Int32) (qp1 qt qp1_words qt_ahead : Nat) (cp1_words ct_ahead : ClassId) (vp1_side : Int32) (vp1_words : Nat → Int64) (vt_ahead : Nat → Int64) : Array Value → State → Outcome → State → Prop := va_Qi (fun r (_ : Unit) => r = r0) (fun _ t => va_P (dC, dI) cl_All (ww_Penalty_lines qp1 qt qp1_words qt_ahead cp1_words ct_ahead vp1_side vp1_words vt_ahead) t.heap ∧ va_D A (ww_Penalty_lines qp1 qt qp1_words qt_ahead cp1_words ct_ahead vp1_side vp1_words vt_ahead)) A

set_option maxHeartbeats 4000000 in
set_option maxRecDepth 100000 in
theorem kt_Penalty_lines (l : Launch) (dC : Nat → ClassId) (dI : Nat → Nat → Nat) (qp1 qt qp1_words qt_ahead : Nat) (cp1_words ct_ahead : ClassId) (vp1_side : Int32) (vp1_words : Nat → Int64) (vt_ahead : Nat → Int64) (p2 : Int32) (p3 : Int32) (p4 : Int32) (p5 : Int32) (tt : Nat → Nat) (sz : Nat) (n0 : Nat) (r0 : Int32) (nvt_ahead : Nat → Int64) (Hf : fn_Penalty_lines n0 p2 p3 p4 p5 vp1_side vp1_words vt_ahead = some (r0, nvt_ahead)) : Met l y_Penalty_lines w_Penalty_lines rm_Penalty_lines (va_Pc [.ref qt, .ref qp1, .int p2, .int p3, .int p4, .int p5] (fun U => U.heap.size = sz ∧ va_P (dC, dI) cl_All (ww_Penalty_lines qp1 qt qp1_words qt_ahead cp1_words ct_ahead vp1_side vp1_words vt_ahead) U.heap ∧ va_K (dC, dI) cl_All [(cp1_words, .long), (ct_ahead, .long)] U ∧ va_D (fun _ => True) (ww_Penalty_lines qp1 qt qp1_words qt_ahead cp1_words ct_ahead vp1_side vp1_words vt_ahead) ∧ sx_T tt (va_A (ww_Penalty_lines qp1 qt qp1_words qt_ahead cp1_words ct_ahead vp1_side vp1_words vt_ahead) sz) U U.heap)) (qc_Penalty_lines dC dI (va_A (ww_Penalty_lines qp1 qt qp1_words qt_ahead cp1_words ct_ahead vp1_side vp1_words vt_ahead) sz) r0 qp1 qt qp1_words qt_ahead cp1_words ct_ahead vp1_side vp1_words nvt_ahead) 0 0 (va_A (ww_Penalty_lines qp1 qt qp1_words qt_ahead cp1_words ct_ahead vp1_side vp1_words vt_ahead) sz) := by
  refine Met.ofW (cc := prog_11_method_3_code) (maxL := 21) (ret := (some .int)) (by decide) rfl ?_
  intro p e s m args below meth c s₁ B hml hv
  obtain ⟨rfl, hsz, hP, hK, hD0, hX⟩ := hv
  have hx := B.exec; have hb := B.bytes; have hr := B.returns; have hlocks := B.notSynchronized
  have ht : ∀ w ∈ lw_g, w.before _ s = true := fun w h => atoms_spec (ws := w_Penalty_lines) B.pre w (List.mem_cons_of_mem _ h)
  have hown : s.vm.findClass "SquareSymbols$Penalty" = some m.cls := findClass_of_methodNamed B.named
  subst hsz
  have hD := hD0.self (sz := s.heap.size)
  generalize hAe : va_A (ww_Penalty_lines qp1 qt qp1_words qt_ahead cp1_words ct_ahead vp1_side vp1_words vt_ahead) s.heap.size = A at hD hX ⊢
  have hA : ∀ q : Nat, s.heap.size ≤ q → A q := fun q h => by rw [← hAe]; exact Or.inr h
  have hS : va_S A s.heap s.heap [] := va_S.rf
  have hl := lv_entry ([.ref qt, .ref qp1, .int p2, .int p3, .int p4, .int p5]) (n := 21) (Nat.le_of_ble_eq_true rfl)
  rw [lg_entry_eq]
  generalize (lg_sl ([.ref qt, .ref qp1, .int p2, .int p3, .int p4, .int p5]) ++ List.replicate (21 - (lg_sl ([.ref qt, .ref qp1, .int p2, .int p3, .int p4, .int p5])).length) Slot.unset).toArray = ls at hl ⊢
  have hl : lv_has ls 21 [(0, .ref qt), (1, .ref qp1), (2, .int p2), (3, .int p3), (4, .int p4), (5, .int p5)] := hl
  refine lv_ldc2 (v := (-1 : Int64)) hx hb hown (ht _ tb_997) d_Penalty_lines_0 ?_
  refine lv_lstore (lv' := [(6, .long (-1 : Int64)), (0, .ref qt), (1, .ref qp1), (2, .int p2), (3, .int p3), (4, .int p4), (5, .int p5)]) hx hb d_Penalty_lines_3 hl (by decide) rfl (fun ls hl => ?_)
  refine lv_ldc2 (v := (-1 : Int64)) hx hb hown (ht _ tb_997) d_Penalty_lines_5 ?_
  refine lv_lstore (lv' := [(8, .long (-1 : Int64)), (6, .long (-1 : Int64)), (0, .ref qt), (1, .ref qp1), (2, .int p2), (3, .int p3), (4, .int p4), (5, .int p5)]) hx hb d_Penalty_lines_8 hl (by decide) rfl (fun ls hl => ?_)
  refine lv_iconst (v := (0 : Int32)) hx hb d_Penalty_lines_10 (by decide) ?_
  refine lv_istore (lv' := [(10, .int (0 : Int32)), (8, .long (-1 : Int64)), (6, .long (-1 : Int64)), (0, .ref qt), (1, .ref qp1), (2, .int p2), (3, .int p3), (4, .int p4), (5, .int p5)]) hx hb d_Penalty_lines_11 hl (by decide) rfl (fun ls hl => ?_)
  obtain ⟨k4, hk4, Hf⟩ := sq_jn_e Hf
  have Jk4 : ∀ (w1 : Int64) (w2 : Int64) (b3 : Nat → Int64), k4 w1 w2 b3 = some (r0, nvt_ahead) → ∀ (H : Heap) (locs : List Loc), va_P (dC, dI) cl_All (ww_Penalty_lines qp1 qt qp1_words qt_ahead cp1_words ct_ahead vp1_side vp1_words b3) H → va_D A (ww_Penalty_lines qp1 qt qp1_words qt_ahead cp1_words ct_ahead vp1_side vp1_words b3) → va_S A s.heap H locs → ∀ ls : Array Slot, lv_has ls 21 [(0, .ref qt), (1, .ref qp1), (2, .int p2), (3, .int p3), (4, .int p4), (5, .int p5), (6, .long w1), (8, .long w2)] → W p l e (headSpec w_Penalty_lines rm_Penalty_lines).room s m (([.ref qt, .ref qp1, .int p2, .int p3, .int p4, .int p5] : List Value).toArray) below meth c H locs 0 0 (MQ below (qc_Penalty_lines dC dI A r0 qp1 qt qp1_words qt_ahead cp1_words ct_ahead vp1_side vp1_words nvt_ahead) (([.ref qt, .ref qp1, .int p2, .int p3, .int p4, .int p5] : List Value).toArray) s 0 0 A) (F0 m 85 ls []) := by
    intro w1 w2 b3 Hf H locs  hP hD hS ls hl
    rw [hk4] at Hf
    refine lv_iconst (v := (4 : Int32)) hx hb d_Penalty_lines_85 (by decide) ?_
    refine lv_istore (lv' := [(10, .int (4 : Int32)), (0, .ref qt), (1, .ref qp1), (2, .int p2), (3, .int p3), (4, .int p4), (5, .int p5), (6, .long w1), (8, .long w2)]) hx hb d_Penalty_lines_86 hl (by decide) rfl (fun ls hl => ?_)
    refine lv_lload hx hb d_Penalty_lines_88 (lv_at hl 7 rfl) ?_
    refine lv_lload hx hb d_Penalty_lines_90 (lv_at hl 8 rfl) ?_
    refine lv_lor hx hb d_Penalty_lines_92 ?_
    refine lv_aload_n hx hb d_Penalty_lines_93 rfl (lv_at hl 2 rfl) ?_
    refine lv_iload_n hx hb d_Penalty_lines_94 rfl (lv_at hl 3 rfl) ?_
    refine lv_iload_n hx hb d_Penalty_lines_95 rfl (lv_at hl 4 rfl) ?_
    refine lv_iload hx hb d_Penalty_lines_96 (lv_at hl 0 rfl) ?_
    refine lv_iload hx hb d_Penalty_lines_98 (lv_at hl 5 rfl) ?_
    refine lv_imul hx hb d_Penalty_lines_100 ?_
    refine lv_iload hx hb d_Penalty_lines_101 (lv_at hl 0 rfl) ?_
    refine lv_iload hx hb d_Penalty_lines_103 (lv_at hl 6 rfl) ?_
    refine lv_imul hx hb d_Penalty_lines_105 ?_
    obtain ⟨u5, hc6, Hf⟩ := sq_cb1_e Hf
    refine sq_rol (va_runS (As := [.ref qp1, .int p2, .int p3, .int ((4 : Int32) * p4), .int ((4 : Int32) * p5)]) (rest := [.long (w1 ||| w2)]) ⟨hx, hb, hml, hown, ht⟩ (kt_Penalty_withRoom l dC dI qp1 qp1_words vp1_side p2 p3 ((4 : Int32) * p4) ((4 : Int32) * p5) tt u5 hc6) (va_cwS 5 ht (sq_gS tb_999 tb_1000 tb_10 tb_1001) rfl rfl rfl (by decide +kernel) ⟨Nat.le_of_ble_eq_true rfl, Nat.le_of_ble_eq_true rfl⟩) (sq_roSX (hP.sub (ws' := (ww_Penalty_withRoom qp1 qp1_words vp1_side)) [0] rfl) (hK.sub (tys' := []) [] rfl) hX hS (fun _ h => h.elim)) rfl rfl hl.1 rfl (lv_room (Nat.le_of_ble_eq_true rfl)) d_Penalty_lines_106 ⟨Nat.le_of_ble_eq_true rfl, Nat.le_of_ble_eq_true rfl⟩) ?_
    refine lv_land hx hb d_Penalty_lines_109 ?_
    obtain ⟨w7, ew7, Hf⟩ := sq_bd_e Hf
    refine sq_topl ew7 ?_
    refine lv_lstore (lv' := [(11, .long w7), (10, .int (4 : Int32)), (0, .ref qt), (1, .ref qp1), (2, .int p2), (3, .int p3), (4, .int p4), (5, .int p5), (6, .long w1), (8, .long w2)]) hx hb d_Penalty_lines_110 hl (by decide) rfl (fun ls hl => ?_)
    refine lv_iload hx hb d_Penalty_lines_112 (lv_at hl 7 rfl) ?_
    obtain ⟨k9, hk9, Hf⟩ := sq_jn_e Hf
    have Jk9 : ∀ (w8 : Int64), k9 w8 = some (r0, nvt_ahead) → ∀ (H : Heap) (locs : List Loc), va_P (dC, dI) cl_All (ww_Penalty_lines qp1 qt qp1_words qt_ahead cp1_words ct_ahead vp1_side vp1_words b3) H → va_D A (ww_Penalty_lines qp1 qt qp1_words qt_ahead cp1_words ct_ahead vp1_side vp1_words b3) → va_S A s.heap H locs → ∀ ls : Array Slot, lv_has ls 21 [(0, .ref qt), (1, .ref qp1), (2, .int p2), (3, .int p3), (4, .int p4), (5, .int p5), (11, .long w7)] → W p l e (headSpec w_Penalty_lines rm_Penalty_lines).room s m (([.ref qt, .ref qp1, .int p2, .int p3, .int p4, .int p5] : List Value).toArray) below meth c H locs 0 0 (MQ below (qc_Penalty_lines dC dI A r0 qp1 qt qp1_words qt_ahead cp1_words ct_ahead vp1_side vp1_words nvt_ahead) (([.ref qt, .ref qp1, .int p2, .int p3, .int p4, .int p5] : List Value).toArray) s 0 0 A) (F0 m 140 ls [.long w8]) := by
      intro w8 Hf H locs  hP hD hS ls hl
      rw [hk9] at Hf
      refine lv_lstore (lv' := [(13, .long w8), (0, .ref qt), (1, .ref qp1), (2, .int p2), (3, .int p3), (4, .int p4), (5, .int p5), (11, .long w7)]) hx hb d_Penalty_lines_140 hl (by decide) rfl (fun ls hl => ?_)
      refine lv_lload hx hb d_Penalty_lines_142 (lv_at hl 7 rfl) ?_
      refine lv_lload hx hb d_Penalty_lines_144 (lv_at hl 0 rfl) ?_
      refine lv_aload_n hx hb d_Penalty_lines_146 rfl (lv_at hl 2 rfl) ?_
      refine lv_iload_n hx hb d_Penalty_lines_147 rfl (lv_at hl 3 rfl) ?_
      refine lv_iload hx hb d_Penalty_lines_148 (lv_at hl 5 rfl) ?_
      refine lv_isub hx hb d_Penalty_lines_150 ?_
      refine lv_iload_n hx hb d_Penalty_lines_151 rfl (lv_at hl 4 rfl) ?_
      refine lv_iload hx hb d_Penalty_lines_152 (lv_at hl 6 rfl) ?_
      refine lv_isub hx hb d_Penalty_lines_154 ?_
      obtain ⟨u10, hc11, Hf⟩ := sq_cb1_e Hf
      refine sq_rol (va_runV (As := [.int (p2 - p4), .int (p3 - p5)]) (rest := [.long w8, .long w7]) ⟨hx, hb, hml, hown, ht⟩ (kt_Grid_from l dC dI qp1 qp1_words cp1_words vp1_side vp1_words (p2 - p4) (p3 - p5) u10 hc11) (cwV 2 ht (sq_gV tb_998 tb_326 tb_327 tb_8 tb_328) rfl rfl rfl (by decide +kernel) ⟨Nat.le_of_ble_eq_true rfl, Nat.le_of_ble_eq_true rfl⟩) (sq_roV (hP.sub (ws' := (ww_Grid_from qp1 qp1_words cp1_words vp1_side vp1_words)) [0, 2] rfl) (hK.sub (tys' := [(cp1_words, .long)]) [0] rfl) (va_recv hK hP (ci := 6) (q0 := 0) rfl rfl)) rfl rfl hl.1 rfl (lv_room (Nat.le_of_ble_eq_true rfl)) d_Penalty_lines_155 ⟨Nat.le_of_ble_eq_true rfl, Nat.le_of_ble_eq_true rfl⟩) ?_
      refine lv_aload_n hx hb d_Penalty_lines_158 rfl (lv_at hl 1 rfl) ?_
      refine va_get (D := (dC, dI)) (ci := 8) (v := .ref qt_ahead) (C := R_Penalty) (T := F_Penalty) (N := 1) hx hb ht i_Penalty hown hK hP 1 rfl rfl 0 (by decide) (ht _ tb_254) (fun _ h9 => h9) rfl d_Penalty_lines_159 ?_
      refine lv_iconst (v := (0 : Int32)) hx hb d_Penalty_lines_162 (by decide) ?_
      obtain ⟨hi12, Hf⟩ := sq_gi_e Hf
      refine va_lald hx hb hK hP 3 1 rfl rfl hi12 d_Penalty_lines_163 ?_
      obtain ⟨w13, ew13, Hf⟩ := sq_bd_e Hf
      refine sq_topl ew13 ?_
      refine lv_lxor hx hb d_Penalty_lines_164 ?_
      refine lv_lor hx hb d_Penalty_lines_165 ?_
      refine lv_land hx hb d_Penalty_lines_166 ?_
      obtain ⟨w14, ew14, Hf⟩ := sq_bd_e Hf
      refine sq_topl ew14 ?_
      refine lv_lstore (lv' := [(15, .long w14), (13, .long w8), (0, .ref qt), (1, .ref qp1), (2, .int p2), (3, .int p3), (4, .int p4), (5, .int p5), (11, .long w7)]) hx hb d_Penalty_lines_167 hl (by decide) rfl (fun ls hl => ?_)
      refine lv_bipush (v := (10 : Int32)) hx hb d_Penalty_lines_169 (by decide) ?_
      refine lv_istore (lv' := [(17, .int (10 : Int32)), (15, .long w14), (13, .long w8), (0, .ref qt), (1, .ref qp1), (2, .int p2), (3, .int p3), (4, .int p4), (5, .int p5), (11, .long w7)]) hx hb d_Penalty_lines_171 hl (by decide) rfl (fun ls hl => ?_)
      refine lv_aload_n hx hb d_Penalty_lines_173 rfl (lv_at hl 4 rfl) ?_
      refine lv_iload_n hx hb d_Penalty_lines_174 rfl (lv_at hl 5 rfl) ?_
      refine lv_iload_n hx hb d_Penalty_lines_175 rfl (lv_at hl 6 rfl) ?_
      refine lv_iload hx hb d_Penalty_lines_176 (lv_at hl 0 rfl) ?_
      refine lv_iload hx hb d_Penalty_lines_178 (lv_at hl 7 rfl) ?_
      refine lv_imul hx hb d_Penalty_lines_180 ?_
      refine lv_iload hx hb d_Penalty_lines_181 (lv_at hl 0 rfl) ?_
      refine lv_iload hx hb d_Penalty_lines_183 (lv_at hl 8 rfl) ?_
      refine lv_imul hx hb d_Penalty_lines_185 ?_
      obtain ⟨u15, hc16, Hf⟩ := sq_cb1_e Hf
      refine sq_rol (va_runS (As := [.ref qp1, .int p2, .int p3, .int ((10 : Int32) * p4), .int ((10 : Int32) * p5)]) (rest := []) ⟨hx, hb, hml, hown, ht⟩ (kt_Penalty_withRoom l dC dI qp1 qp1_words vp1_side p2 p3 ((10 : Int32) * p4) ((10 : Int32) * p5) tt u15 hc16) (va_cwS 5 ht (sq_gS tb_999 tb_1000 tb_10 tb_1001) rfl rfl rfl (by decide +kernel) ⟨Nat.le_of_ble_eq_true rfl, Nat.le_of_ble_eq_true rfl⟩) (sq_roSX (hP.sub (ws' := (ww_Penalty_withRoom qp1 qp1_words vp1_side)) [0] rfl) (hK.sub (tys' := []) [] rfl) hX hS (fun _ h => h.elim)) rfl rfl hl.1 rfl (lv_room (Nat.le_of_ble_eq_true rfl)) d_Penalty_lines_186 ⟨Nat.le_of_ble_eq_true rfl, Nat.le_of_ble_eq_true rfl⟩) ?_
      refine lv_lstore (lv' := [(18, .long u15), (17, .int (10 : Int32)), (15, .long w14), (13, .long w8), (0, .ref qt), (1, .ref qp1), (2, .int p2), (3, .int p3), (4, .int p4), (5, .int p5), (11, .long w7)]) hx hb d_Penalty_lines_189 hl (by decide) rfl (fun ls hl => ?_)
      refine lv_aload_n hx hb d_Penalty_lines_191 rfl (lv_at hl 4 rfl) ?_
      refine lv_bipush (v := (93 : Int32)) hx hb d_Penalty_lines_192 (by decide) ?_
      obtain ⟨u17, hc18, Hf⟩ := sq_cb1_e Hf
      refine sq_rol (va_runV (As := [.int (93 : Int32)]) (rest := []) ⟨hx, hb, hml, hown, ht⟩ (kt_Penalty_places l dC dI qt qt_ahead ct_ahead b3 (93 : Int32) n0 u17 hc18) (cwV 1 ht (sq_gV tb_1003 tb_1005 sl_30 tb_10 tb_1006) rfl rfl rfl (by decide +kernel) ⟨Nat.le_of_ble_eq_true rfl, Nat.le_of_ble_eq_true rfl⟩) (sq_roV (hP.sub (ws' := (ww_Penalty_places qt qt_ahead ct_ahead b3)) [1, 3] rfl) (hK.sub (tys' := [(ct_ahead, .long)]) [1] rfl) (va_recv hK hP (ci := 8) (q0 := 1) rfl rfl)) rfl rfl hl.1 rfl (lv_room (Nat.le_of_ble_eq_true rfl)) d_Penalty_lines_194 ⟨Nat.le_of_ble_eq_true rfl, Nat.le_of_ble_eq_true rfl⟩) ?_
      refine lv_lload hx hb d_Penalty_lines_197 (lv_at hl 0 rfl) ?_
      refine lv_land hx hb d_Penalty_lines_199 ?_
      obtain ⟨r19, hc20, Hf⟩ := sq_cb1_e Hf
      refine sq_roi (va_runS (As := [.long (u17 &&& u15)]) (rest := []) ⟨hx, hb, hml, hown, ht⟩ (kt_JLong_bitCount l dC dI (u17 &&& u15) r19 hc20) (va_cwS 1 ht (sq_gS tb_1007 tb_346 tb_26 tb_347) rfl rfl rfl (by decide +kernel) ⟨Nat.le_of_ble_eq_true rfl, Nat.le_of_ble_eq_true rfl⟩) (sq_roS (hP.sub (ws' := ([] : va_W)) [] rfl) (hK.sub (tys' := []) [] rfl)) rfl rfl hl.1 rfl (lv_room (Nat.le_of_ble_eq_true rfl)) d_Penalty_lines_200 ⟨Nat.le_of_ble_eq_true rfl, Nat.le_of_ble_eq_true rfl⟩) ?_
      refine lv_aload_n hx hb d_Penalty_lines_203 rfl (lv_at hl 4 rfl) ?_
      refine lv_sipush (v := (1488 : Int32)) hx hb d_Penalty_lines_204 (by decide) ?_
      obtain ⟨u21, hc22, Hf⟩ := sq_cb1_e Hf
      refine sq_rol (va_runV (As := [.int (1488 : Int32)]) (rest := [.int r19]) ⟨hx, hb, hml, hown, ht⟩ (kt_Penalty_places l dC dI qt qt_ahead ct_ahead b3 (1488 : Int32) n0 u21 hc22) (cwV 1 ht (sq_gV tb_1003 tb_1005 sl_30 tb_10 tb_1006) rfl rfl rfl (by decide +kernel) ⟨Nat.le_of_ble_eq_true rfl, Nat.le_of_ble_eq_true rfl⟩) (sq_roV (hP.sub (ws' := (ww_Penalty_places qt qt_ahead ct_ahead b3)) [1, 3] rfl) (hK.sub (tys' := [(ct_ahead, .long)]) [1] rfl) (va_recv hK hP (ci := 8) (q0 := 1) rfl rfl)) rfl rfl hl.1 rfl (lv_room (Nat.le_of_ble_eq_true rfl)) d_Penalty_lines_207 ⟨Nat.le_of_ble_eq_true rfl, Nat.le_of_ble_eq_true rfl⟩) ?_
      refine lv_lload hx hb d_Penalty_lines_210 (lv_at hl 0 rfl) ?_
      refine lv_land hx hb d_Penalty_lines_212 ?_
      obtain ⟨r23, hc24, Hf⟩ := sq_cb1_e Hf
      refine sq_roi (va_runS (As := [.long (u21 &&& u15)]) (rest := [.int r19]) ⟨hx, hb, hml, hown, ht⟩ (kt_JLong_bitCount l dC dI (u21 &&& u15) r23 hc24) (va_cwS 1 ht (sq_gS tb_1007 tb_346 tb_26 tb_347) rfl rfl rfl (by decide +kernel) ⟨Nat.le_of_ble_eq_true rfl, Nat.le_of_ble_eq_true rfl⟩) (sq_roS (hP.sub (ws' := ([] : va_W)) [] rfl) (hK.sub (tys' := []) [] rfl)) rfl rfl hl.1 rfl (lv_room (Nat.le_of_ble_eq_true rfl)) d_Penalty_lines_213 ⟨Nat.le_of_ble_eq_true rfl, Nat.le_of_ble_eq_true rfl⟩) ?_
      refine lv_iadd hx hb d_Penalty_lines_216 ?_
      obtain ⟨x25, ex25, Hf⟩ := sq_bd_e Hf
      refine sq_top ex25 ?_
      refine lv_istore (lv' := [(20, .int x25), (18, .long u15), (17, .int (10 : Int32)), (15, .long w14), (13, .long w8), (0, .ref qt), (1, .ref qp1), (2, .int p2), (3, .int p3), (4, .int p4), (5, .int p5), (11, .long w7)]) hx hb d_Penalty_lines_217 hl (by decide) rfl (fun ls hl => ?_)
      refine lv_lload hx hb d_Penalty_lines_219 (lv_at hl 11 rfl) ?_
      obtain ⟨r26, hc27, Hf⟩ := sq_cb1_e Hf
      refine sq_roi (va_runS (As := [.long w7]) (rest := []) ⟨hx, hb, hml, hown, ht⟩ (kt_JLong_bitCount l dC dI w7 r26 hc27) (va_cwS 1 ht (sq_gS tb_1007 tb_346 tb_26 tb_347) rfl rfl rfl (by decide +kernel) ⟨Nat.le_of_ble_eq_true rfl, Nat.le_of_ble_eq_true rfl⟩) (sq_roS (hP.sub (ws' := ([] : va_W)) [] rfl) (hK.sub (tys' := []) [] rfl)) rfl rfl hl.1 rfl (lv_room (Nat.le_of_ble_eq_true rfl)) d_Penalty_lines_221 ⟨Nat.le_of_ble_eq_true rfl, Nat.le_of_ble_eq_true rfl⟩) ?_
      refine lv_iconst (v := (2 : Int32)) hx hb d_Penalty_lines_224 (by decide) ?_
      refine lv_lload hx hb d_Penalty_lines_225 (lv_at hl 3 rfl) ?_
      obtain ⟨r28, hc29, Hf⟩ := sq_cb1_e Hf
      refine sq_roi (va_runS (As := [.long w14]) (rest := [.int (2 : Int32), .int r26]) ⟨hx, hb, hml, hown, ht⟩ (kt_JLong_bitCount l dC dI w14 r28 hc29) (va_cwS 1 ht (sq_gS tb_1007 tb_346 tb_26 tb_347) rfl rfl rfl (by decide +kernel) ⟨Nat.le_of_ble_eq_true rfl, Nat.le_of_ble_eq_true rfl⟩) (sq_roS (hP.sub (ws' := ([] : va_W)) [] rfl) (hK.sub (tys' := []) [] rfl)) rfl rfl hl.1 rfl (lv_room (Nat.le_of_ble_eq_true rfl)) d_Penalty_lines_227 ⟨Nat.le_of_ble_eq_true rfl, Nat.le_of_ble_eq_true rfl⟩) ?_
      refine lv_imul hx hb d_Penalty_lines_230 ?_
      refine lv_iadd hx hb d_Penalty_lines_231 ?_
      refine lv_bipush (v := (40 : Int32)) hx hb d_Penalty_lines_232 (by decide) ?_
      refine lv_iload hx hb d_Penalty_lines_234 (lv_at hl 0 rfl) ?_
      refine lv_imul hx hb d_Penalty_lines_236 ?_
      refine lv_iadd hx hb d_Penalty_lines_237 ?_
      obtain ⟨rfl, rfl⟩ := sq_so2 Hf
      exact W.iret hx hb hr (fun t ht hW => ⟨⟨_, (), rfl, rfl, by rw [ht]; exact hP, hD⟩, hS.F ht⟩) hS.2.2 d_Penalty_lines_238
    refine lv_if_ne (tgt := 129) hx hb d_Penalty_lines_114 (by decide) (fun c30 => ?_) (fun c30 => ?_)
    · replace Hf := sq_ite_f Hf c30
      refine lv_iload_n hx hb d_Penalty_lines_129 rfl (lv_at hl 5 rfl) ?_
      refine lv_if_ne (tgt := 139) hx hb d_Penalty_lines_130 (by decide) (fun c31 => ?_) (fun c31 => ?_)
      · replace Hf := sq_ite_f Hf c31
        refine lv_lconst (v := (0 : Int64)) hx hb d_Penalty_lines_139 (by decide) ?_
        exact Jk9 (0 : Int64) Hf _ _  hP hD hS _ (lv_sub hl [2, 3, 4, 5, 6, 7, 0] rfl)
      · replace Hf := sq_ite_t Hf c31
        refine lv_ldc2 (v := (-1 : Int64)) hx hb hown (ht _ tb_997) d_Penalty_lines_133 ?_
        refine lv_goto (tgt := 140) hx hb d_Penalty_lines_136 (by decide) ?_
        exact Jk9 (-1 : Int64) Hf _ _  hP hD hS _ (lv_sub hl [2, 3, 4, 5, 6, 7, 0] rfl)
    · replace Hf := sq_ite_t Hf c30
      refine lv_iload_n hx hb d_Penalty_lines_117 rfl (lv_at hl 4 rfl) ?_
      refine lv_if_ne (tgt := 125) hx hb d_Penalty_lines_118 (by decide) (fun c32 => ?_) (fun c32 => ?_)
      · replace Hf := sq_ite_f Hf c32
        refine lv_lconst (v := (0 : Int64)) hx hb d_Penalty_lines_125 (by decide) ?_
        refine lv_goto (tgt := 140) hx hb d_Penalty_lines_126 (by decide) ?_
        exact Jk9 (0 : Int64) Hf _ _  hP hD hS _ (lv_sub hl [2, 3, 4, 5, 6, 7, 0] rfl)
      · replace Hf := sq_ite_t Hf c32
        refine lv_lconst (v := (1 : Int64)) hx hb d_Penalty_lines_121 (by decide) ?_
        refine lv_goto (tgt := 140) hx hb d_Penalty_lines_122 (by decide) ?_
        exact Jk9 (1 : Int64) Hf _ _  hP hD hS _ (lv_sub hl [2, 3, 4, 5, 6, 7, 0] rfl)
  have L1 : ∀ (m1 : Nat), ∀ (w33 : Int64) (w34 : Int64) (x35 : Int32) (b36 : Nat → Int64), fn_Penalty_lines_L1 p2 p3 p4 p5 vp1_side vp1_words k4 m1 w33 w34 x35 b36 = some (r0, nvt_ahead) → ∀ (H : Heap) (locs : List Loc), va_P (dC, dI) cl_All (ww_Penalty_lines qp1 qt qp1_words qt_ahead cp1_words ct_ahead vp1_side vp1_words b36) H → va_D A (ww_Penalty_lines qp1 qt qp1_words qt_ahead cp1_words ct_ahead vp1_side vp1_words b36) → va_S A s.heap H locs → ∀ ls : Array Slot, lv_has ls 21 [(0, .ref qt), (1, .ref qp1), (2, .int p2), (3, .int p3), (4, .int p4), (5, .int p5), (6, .long w33), (8, .long w34), (10, .int x35)] → W p l e (headSpec w_Penalty_lines rm_Penalty_lines).room s m (([.ref qt, .ref qp1, .int p2, .int p3, .int p4, .int p5] : List Value).toArray) below meth c H locs 0 0 (MQ below (qc_Penalty_lines dC dI A r0 qp1 qt qp1_words qt_ahead cp1_words ct_ahead vp1_side vp1_words nvt_ahead) (([.ref qt, .ref qp1, .int p2, .int p3, .int p4, .int p5] : List Value).toArray) s 0 0 A) (F0 m 13 ls []) := by
    intro m1
    induction m1 with
    | zero => intro w33 w34 x35 b36 Hf; exact sq_none Hf
    | succ m1 ih1 =>
      intro w33 w34 x35 b36 Hf H locs  hP hD hS ls hl
      replace Hf := (fn_Penalty_lines_L1_s p2 p3 p4 p5 vp1_side vp1_words k4 m1 w33 w34 x35 b36).symm.trans Hf
      refine lv_iload hx hb d_Penalty_lines_13 (lv_at hl 8 rfl) ?_
      refine lv_bipush (v := (11 : Int32)) hx hb d_Penalty_lines_15 (by decide) ?_
      refine lv_icmp_ge (tgt := 85) hx hb d_Penalty_lines_17 (by decide) (fun c37 => ?_) (fun c37 => ?_)
      · replace Hf := sq_ite_t Hf c37
        exact Jk4 w33 w34 b36 Hf _ _  hP hD hS _ (lv_sub hl [0, 1, 2, 3, 4, 5, 6, 7] rfl)
      · replace Hf := sq_ite_f Hf c37
        refine lv_aload_n hx hb d_Penalty_lines_20 rfl (lv_at hl 0 rfl) ?_
        refine va_get (D := (dC, dI)) (ci := 8) (v := .ref qt_ahead) (C := R_Penalty) (T := F_Penalty) (N := 1) hx hb ht i_Penalty hown hK hP 1 rfl rfl 0 (by decide) (ht _ tb_254) (fun _ h9 => h9) rfl d_Penalty_lines_21 ?_
        refine lv_iload hx hb d_Penalty_lines_24 (lv_at hl 8 rfl) ?_
        refine lv_aload_n hx hb d_Penalty_lines_26 rfl (lv_at hl 1 rfl) ?_
        refine lv_iload_n hx hb d_Penalty_lines_27 rfl (lv_at hl 2 rfl) ?_
        refine lv_iload hx hb d_Penalty_lines_28 (lv_at hl 8 rfl) ?_
        refine lv_iload hx hb d_Penalty_lines_30 (lv_at hl 4 rfl) ?_
        refine lv_imul hx hb d_Penalty_lines_32 ?_
        refine lv_iadd hx hb d_Penalty_lines_33 ?_
        refine lv_iload_n hx hb d_Penalty_lines_34 rfl (lv_at hl 3 rfl) ?_
        refine lv_iload hx hb d_Penalty_lines_35 (lv_at hl 8 rfl) ?_
        refine lv_iload hx hb d_Penalty_lines_37 (lv_at hl 5 rfl) ?_
        refine lv_imul hx hb d_Penalty_lines_39 ?_
        refine lv_iadd hx hb d_Penalty_lines_40 ?_
        obtain ⟨u38, hc39, Hf⟩ := sq_cb1_e Hf
        refine sq_rol (va_runV (As := [.int (p2 + (x35 * p4)), .int (p3 + (x35 * p5))]) (rest := [.int x35, .ref qt_ahead]) ⟨hx, hb, hml, hown, ht⟩ (kt_Grid_from l dC dI qp1 qp1_words cp1_words vp1_side vp1_words (p2 + (x35 * p4)) (p3 + (x35 * p5)) u38 hc39) (cwV 2 ht (sq_gV tb_998 tb_326 tb_327 tb_8 tb_328) rfl rfl rfl (by decide +kernel) ⟨Nat.le_of_ble_eq_true rfl, Nat.le_of_ble_eq_true rfl⟩) (sq_roV (hP.sub (ws' := (ww_Grid_from qp1 qp1_words cp1_words vp1_side vp1_words)) [0, 2] rfl) (hK.sub (tys' := [(cp1_words, .long)]) [0] rfl) (va_recv hK hP (ci := 6) (q0 := 0) rfl rfl)) rfl rfl hl.1 rfl (lv_room (Nat.le_of_ble_eq_true rfl)) d_Penalty_lines_41 ⟨Nat.le_of_ble_eq_true rfl, Nat.le_of_ble_eq_true rfl⟩) ?_
        obtain ⟨hi40, Hf⟩ := sq_gi_e Hf
        obtain ⟨b41, eb41, Hf⟩ := sq_bd_e Hf
        refine va_last hx hb hK hP hD hS 3 1 rfl rfl hi40 d_Penalty_lines_44 (fun H locs hP hD hS => ?_)
        rw [← eb41] at hP hD
        replace hP : va_P (dC, dI) cl_All (ww_Penalty_lines qp1 qt qp1_words qt_ahead cp1_words ct_ahead vp1_side vp1_words b41) H := hP
        replace hD : va_D A (ww_Penalty_lines qp1 qt qp1_words qt_ahead cp1_words ct_ahead vp1_side vp1_words b41) := hD
        refine lv_iload hx hb d_Penalty_lines_45 (lv_at hl 8 rfl) ?_
        refine lv_iconst (v := (5 : Int32)) hx hb d_Penalty_lines_47 (by decide) ?_
        obtain ⟨k44, hk44, Hf⟩ := sq_jn_e Hf
        have Jk44 : ∀ (w42 : Int64) (w43 : Int64), k44 w42 w43 = some (r0, nvt_ahead) → ∀ (H : Heap) (locs : List Loc), va_P (dC, dI) cl_All (ww_Penalty_lines qp1 qt qp1_words qt_ahead cp1_words ct_ahead vp1_side vp1_words b41) H → va_D A (ww_Penalty_lines qp1 qt qp1_words qt_ahead cp1_words ct_ahead vp1_side vp1_words b41) → va_S A s.heap H locs → ∀ ls : Array Slot, lv_has ls 21 [(0, .ref qt), (1, .ref qp1), (2, .int p2), (3, .int p3), (4, .int p4), (5, .int p5), (6, .long w42), (8, .long w43), (10, .int x35)] → W p l e (headSpec w_Penalty_lines rm_Penalty_lines).room s m (([.ref qt, .ref qp1, .int p2, .int p3, .int p4, .int p5] : List Value).toArray) below meth c H locs 0 0 (MQ below (qc_Penalty_lines dC dI A r0 qp1 qt qp1_words qt_ahead cp1_words ct_ahead vp1_side vp1_words nvt_ahead) (([.ref qt, .ref qp1, .int p2, .int p3, .int p4, .int p5] : List Value).toArray) s 0 0 A) (F0 m 79 ls []) := by
          intro w42 w43 Hf H locs  hP hD hS ls hl
          rw [hk44] at Hf
          obtain ⟨x45, ex45, Hf⟩ := sq_bd_e Hf
          refine lv_iinc (v := x45) (lv' := [(10, .int x45), (0, .ref qt), (1, .ref qp1), (2, .int p2), (3, .int p3), (4, .int p4), (5, .int p5), (6, .long w42), (8, .long w43)]) hx hb d_Penalty_lines_79 hl (k := 8) rfl (by rw [ex45]; rfl) (by decide) rfl (fun ls hl => ?_)
          refine lv_goto (tgt := 13) hx hb d_Penalty_lines_82 (by decide) ?_
          exact ih1 w42 w43 x45 b41 Hf _ _  hP hD hS _ (lv_sub hl [1, 2, 3, 4, 5, 6, 7, 8, 0] rfl)
        refine lv_icmp_ge (tgt := 79) hx hb d_Penalty_lines_48 (by decide) (fun c46 => ?_) (fun c46 => ?_)
        · replace Hf := sq_ite_t Hf c46
          exact Jk44 w33 w34 Hf _ _  hP hD hS _ (lv_sub hl [0, 1, 2, 3, 4, 5, 6, 7, 8] rfl)
        · replace Hf := sq_ite_f Hf c46
          refine lv_lload hx hb d_Penalty_lines_51 (lv_at hl 6 rfl) ?_
          refine lv_aload_n hx hb d_Penalty_lines_53 rfl (lv_at hl 0 rfl) ?_
          refine va_get (D := (dC, dI)) (ci := 8) (v := .ref qt_ahead) (C := R_Penalty) (T := F_Penalty) (N := 1) hx hb ht i_Penalty hown hK hP 1 rfl rfl 0 (by decide) (ht _ tb_254) (fun _ h9 => h9) rfl d_Penalty_lines_54 ?_
          refine lv_iload hx hb d_Penalty_lines_57 (lv_at hl 8 rfl) ?_
          obtain ⟨hi47, Hf⟩ := sq_gi_e Hf
          refine va_lald hx hb hK hP 3 1 rfl rfl hi47 d_Penalty_lines_59 ?_
          obtain ⟨w48, ew48, Hf⟩ := sq_bd_e Hf
          refine sq_topl ew48 ?_
          refine lv_land hx hb d_Penalty_lines_60 ?_
          obtain ⟨w49, ew49, Hf⟩ := sq_bd_e Hf
          refine sq_topl ew49 ?_
          refine lv_lstore (lv' := [(6, .long w49), (0, .ref qt), (1, .ref qp1), (2, .int p2), (3, .int p3), (4, .int p4), (5, .int p5), (8, .long w34), (10, .int x35)]) hx hb d_Penalty_lines_61 hl (by decide) rfl (fun ls hl => ?_)
          refine lv_lload hx hb d_Penalty_lines_63 (lv_at hl 7 rfl) ?_
          refine lv_aload_n hx hb d_Penalty_lines_65 rfl (lv_at hl 1 rfl) ?_
          refine va_get (D := (dC, dI)) (ci := 8) (v := .ref qt_ahead) (C := R_Penalty) (T := F_Penalty) (N := 1) hx hb ht i_Penalty hown hK hP 1 rfl rfl 0 (by decide) (ht _ tb_254) (fun _ h9 => h9) rfl d_Penalty_lines_66 ?_
          refine lv_iload hx hb d_Penalty_lines_69 (lv_at hl 8 rfl) ?_
          obtain ⟨hi50, Hf⟩ := sq_gi_e Hf
          refine va_lald hx hb hK hP 3 1 rfl rfl hi50 d_Penalty_lines_71 ?_
          obtain ⟨w51, ew51, Hf⟩ := sq_bd_e Hf
          refine sq_topl ew51 ?_
          refine lv_ldc2 (v := (-1 : Int64)) hx hb hown (ht _ tb_997) d_Penalty_lines_72 ?_
          refine lv_lxor hx hb d_Penalty_lines_75 ?_
          refine lv_land hx hb d_Penalty_lines_76 ?_
          obtain ⟨w52, ew52, Hf⟩ := sq_bd_e Hf
          refine sq_topl ew52 ?_
          refine lv_lstore (lv' := [(8, .long w52), (6, .long w49), (0, .ref qt), (1, .ref qp1), (2, .int p2), (3, .int p3), (4, .int p4), (5, .int p5), (10, .int x35)]) hx hb d_Penalty_lines_77 hl (by decide) rfl (fun ls hl => ?_)
          exact Jk44 w49 w52 Hf _ _  hP hD hS _ (lv_sub hl [2, 3, 4, 5, 6, 7, 1, 0, 8] rfl)
  exact L1 n0 (-1 : Int64) (-1 : Int64) (0 : Int32) vt_ahead Hf _ _  hP hD hS _ (lv_sub hl [3, 4, 5, 6, 7, 8, 2, 1, 0] rfl)

def fn_Penalty_squares (p2 : Int32) (p3 : Int32) (vp1_side : Int32) (vp1_words : Nat → Int64) : Option (Int32) :=
  sq_cb1 (fn_Grid_from p2 p3 vp1_side vp1_words) fun u1 => sq_cb1 (fn_Grid_from (p2 + (1 : Int32)) p3 vp1_side vp1_words) fun u3 => sq_cb1 (fn_Grid_from p2 (p3 + (1 : Int32)) vp1_side vp1_words) fun u5 => sq_cb1 (fn_Grid_from (p2 + (1 : Int32)) (p3 + (1 : Int32)) vp1_side vp1_words) fun u7 => sq_bd ((((u1 &&& u3) &&& u5) &&& u7) ||| ((((u1 ||| u3) ||| u5) ||| u7) ^^^ (-1 : Int64))) fun w9 => sq_cb1 (fn_Penalty_withRoom p2 p3 (1 : Int32) (1 : Int32) vp1_side) fun u10 => sq_cb1 (fn_JLong_bitCount (w9 &&& u10)) fun r12 => some ((3 : Int32) * r12)
abbrev ww_Penalty_squares (qp1 qp1_words : Nat) (cp1_words : ClassId) (vp1_side : Int32) (vp1_words : Nat → Int64) : va_W := [(qp1, .inr (6, [.ref qp1_words, .int vp1_side])), (qp1_words, .inl (cp1_words, 531, .inr (.inl vp1_words)))]

def rm_Penalty_squares : Room := { frames := 2, cells := 0, slots := 0, locals := 44 }
abbrev qc_Penalty_squares (r0 : Int32) : Array Value → State → Outcome → State → Prop := vp_Si (fun r => r = r0)

set_option maxHeartbeats 4000000 in
set_option maxRecDepth 100000 in
theorem kt_Penalty_squares (l : Launch) (dC : Nat → ClassId) (dI : Nat → Nat → Nat) (qp1 qp1_words : Nat) (cp1_words : ClassId) (vp1_side : Int32) (vp1_words : Nat → Int64) (p2 : Int32) (p3 : Int32) (tt : Nat → Nat) (r0 : Int32) (Hf : fn_Penalty_squares p2 p3 vp1_side vp1_words = some r0) : Met l y_Penalty_squares w_Penalty_squares rm_Penalty_squares (va_Pc [.ref qp1, .int p2, .int p3] (fun U => va_P (dC, dI) cl_All (ww_Penalty_squares qp1 qp1_words cp1_words vp1_side vp1_words) U.heap ∧ va_K (dC, dI) cl_All [(cp1_words, .long)] U ∧ sx_T tt (fun _ => False) U U.heap)) (qc_Penalty_squares r0) 0 0 (fun _ => False) := by
  refine Met.ofW (cc := prog_11_method_6_code) (maxL := 13) (ret := (some .int)) (by decide) rfl ?_
  intro p e s m args below meth c s₁ B hml hv
  obtain ⟨rfl, hP, hK, hX⟩ := hv
  have hx := B.exec; have hb := B.bytes; have hr := B.returns; have hlocks := B.notSynchronized
  have ht : ∀ w ∈ lw_g, w.before _ s = true := fun w h => atoms_spec (ws := w_Penalty_squares) B.pre w (List.mem_cons_of_mem _ h)
  have hown : s.vm.findClass "SquareSymbols$Penalty" = some m.cls := findClass_of_methodNamed B.named
  have hl := lv_entry ([.ref qp1, .int p2, .int p3]) (n := 13) (Nat.le_of_ble_eq_true rfl)
  rw [lg_entry_eq]
  generalize (lg_sl ([.ref qp1, .int p2, .int p3]) ++ List.replicate (13 - (lg_sl ([.ref qp1, .int p2, .int p3])).length) Slot.unset).toArray = ls at hl ⊢
  have hl : lv_has ls 13 [(0, .ref qp1), (1, .int p2), (2, .int p3)] := hl
  refine lv_aload_n hx hb d_Penalty_squares_0 rfl (lv_at hl 0 rfl) ?_
  refine lv_iload_n hx hb d_Penalty_squares_1 rfl (lv_at hl 1 rfl) ?_
  refine lv_iload_n hx hb d_Penalty_squares_2 rfl (lv_at hl 2 rfl) ?_
  obtain ⟨u1, hc2, Hf⟩ := sq_cb1_e Hf
  refine sq_rol (va_runV (As := [.int p2, .int p3]) (rest := []) ⟨hx, hb, hml, hown, ht⟩ (kt_Grid_from l dC dI qp1 qp1_words cp1_words vp1_side vp1_words p2 p3 u1 hc2) (cwV 2 ht (sq_gV tb_998 tb_326 tb_327 tb_8 tb_328) rfl rfl rfl (by decide +kernel) ⟨Nat.le_of_ble_eq_true rfl, Nat.le_of_ble_eq_true rfl⟩) (sq_roV (hP.sub (ws' := (ww_Grid_from qp1 qp1_words cp1_words vp1_side vp1_words)) [0, 1] rfl) (hK.sub (tys' := [(cp1_words, .long)]) [0] rfl) (va_recv hK hP (ci := 6) (q0 := 0) rfl rfl)) rfl rfl hl.1 rfl (lv_room (Nat.le_of_ble_eq_true rfl)) d_Penalty_squares_3 ⟨Nat.le_of_ble_eq_true rfl, Nat.le_of_ble_eq_true rfl⟩) ?_
  refine lv_lstore_n (lv' := [(3, .long u1), (0, .ref qp1), (1, .int p2), (2, .int p3)]) hx hb d_Penalty_squares_6 rfl hl (by decide) rfl (fun ls hl => ?_)
  refine lv_aload_n hx hb d_Penalty_squares_7 rfl (lv_at hl 1 rfl) ?_
  refine lv_iload_n hx hb d_Penalty_squares_8 rfl (lv_at hl 2 rfl) ?_
  refine lv_iconst (v := (1 : Int32)) hx hb d_Penalty_squares_9 (by decide) ?_
  refine lv_iadd hx hb d_Penalty_squares_10 ?_
  refine lv_iload_n hx hb d_Penalty_squares_11 rfl (lv_at hl 3 rfl) ?_
  obtain ⟨u3, hc4, Hf⟩ := sq_cb1_e Hf
  refine sq_rol (va_runV (As := [.int (p2 + (1 : Int32)), .int p3]) (rest := []) ⟨hx, hb, hml, hown, ht⟩ (kt_Grid_from l dC dI qp1 qp1_words cp1_words vp1_side vp1_words (p2 + (1 : Int32)) p3 u3 hc4) (cwV 2 ht (sq_gV tb_998 tb_326 tb_327 tb_8 tb_328) rfl rfl rfl (by decide +kernel) ⟨Nat.le_of_ble_eq_true rfl, Nat.le_of_ble_eq_true rfl⟩) (sq_roV (hP.sub (ws' := (ww_Grid_from qp1 qp1_words cp1_words vp1_side vp1_words)) [0, 1] rfl) (hK.sub (tys' := [(cp1_words, .long)]) [0] rfl) (va_recv hK hP (ci := 6) (q0 := 0) rfl rfl)) rfl rfl hl.1 rfl (lv_room (Nat.le_of_ble_eq_true rfl)) d_Penalty_squares_12 ⟨Nat.le_of_ble_eq_true rfl, Nat.le_of_ble_eq_true rfl⟩) ?_
  refine lv_lstore (lv' := [(5, .long u3), (3, .long u1), (0, .ref qp1), (1, .int p2), (2, .int p3)]) hx hb d_Penalty_squares_15 hl (by decide) rfl (fun ls hl => ?_)
  refine lv_aload_n hx hb d_Penalty_squares_17 rfl (lv_at hl 2 rfl) ?_
  refine lv_iload_n hx hb d_Penalty_squares_18 rfl (lv_at hl 3 rfl) ?_
  refine lv_iload_n hx hb d_Penalty_squares_19 rfl (lv_at hl 4 rfl) ?_
  refine lv_iconst (v := (1 : Int32)) hx hb d_Penalty_squares_20 (by decide) ?_
  refine lv_iadd hx hb d_Penalty_squares_21 ?_
  obtain ⟨u5, hc6, Hf⟩ := sq_cb1_e Hf
  refine sq_rol (va_runV (As := [.int p2, .int (p3 + (1 : Int32))]) (rest := []) ⟨hx, hb, hml, hown, ht⟩ (kt_Grid_from l dC dI qp1 qp1_words cp1_words vp1_side vp1_words p2 (p3 + (1 : Int32)) u5 hc6) (cwV 2 ht (sq_gV tb_998 tb_326 tb_327 tb_8 tb_328) rfl rfl rfl (by decide +kernel) ⟨Nat.le_of_ble_eq_true rfl, Nat.le_of_ble_eq_true rfl⟩) (sq_roV (hP.sub (ws' := (ww_Grid_from qp1 qp1_words cp1_words vp1_side vp1_words)) [0, 1] rfl) (hK.sub (tys' := [(cp1_words, .long)]) [0] rfl) (va_recv hK hP (ci := 6) (q0 := 0) rfl rfl)) rfl rfl hl.1 rfl (lv_room (Nat.le_of_ble_eq_true rfl)) d_Penalty_squares_22 ⟨Nat.le_of_ble_eq_true rfl, Nat.le_of_ble_eq_true rfl⟩) ?_
  refine lv_lstore (lv' := [(7, .long u5), (5, .long u3), (3, .long u1), (0, .ref qp1), (1, .int p2), (2, .int p3)]) hx hb d_Penalty_squares_25 hl (by decide) rfl (fun ls hl => ?_)
  refine lv_aload_n hx hb d_Penalty_squares_27 rfl (lv_at hl 3 rfl) ?_
  refine lv_iload_n hx hb d_Penalty_squares_28 rfl (lv_at hl 4 rfl) ?_
  refine lv_iconst (v := (1 : Int32)) hx hb d_Penalty_squares_29 (by decide) ?_
  refine lv_iadd hx hb d_Penalty_squares_30 ?_
  refine lv_iload_n hx hb d_Penalty_squares_31 rfl (lv_at hl 5 rfl) ?_
  refine lv_iconst (v := (1 : Int32)) hx hb d_Penalty_squares_32 (by decide) ?_
  refine lv_iadd hx hb d_Penalty_squares_33 ?_
  obtain ⟨u7, hc8, Hf⟩ := sq_cb1_e Hf
  refine sq_rol (va_runV (As := [.int (p2 + (1 : Int32)), .int (p3 + (1 : Int32))]) (rest := []) ⟨hx, hb, hml, hown, ht⟩ (kt_Grid_from l dC dI qp1 qp1_words cp1_words vp1_side vp1_words (p2 + (1 : Int32)) (p3 + (1 : Int32)) u7 hc8) (cwV 2 ht (sq_gV tb_998 tb_326 tb_327 tb_8 tb_328) rfl rfl rfl (by decide +kernel) ⟨Nat.le_of_ble_eq_true rfl, Nat.le_of_ble_eq_true rfl⟩) (sq_roV (hP.sub (ws' := (ww_Grid_from qp1 qp1_words cp1_words vp1_side vp1_words)) [0, 1] rfl) (hK.sub (tys' := [(cp1_words, .long)]) [0] rfl) (va_recv hK hP (ci := 6) (q0 := 0) rfl rfl)) rfl rfl hl.1 rfl (lv_room (Nat.le_of_ble_eq_true rfl)) d_Penalty_squares_34 ⟨Nat.le_of_ble_eq_true rfl, Nat.le_of_ble_eq_true rfl⟩) ?_
  refine lv_lstore (lv' := [(9, .long u7), (7, .long u5), (5, .long u3), (3, .long u1), (0, .ref qp1), (1, .int p2), (2, .int p3)]) hx hb d_Penalty_squares_37 hl (by decide) rfl (fun ls hl => ?_)
  refine lv_lload_n hx hb d_Penalty_squares_39 rfl (lv_at hl 3 rfl) ?_
  refine lv_lload hx hb d_Penalty_squares_40 (lv_at hl 2 rfl) ?_
  refine lv_land hx hb d_Penalty_squares_42 ?_
  refine lv_lload hx hb d_Penalty_squares_43 (lv_at hl 1 rfl) ?_
  refine lv_land hx hb d_Penalty_squares_45 ?_
  refine lv_lload hx hb d_Penalty_squares_46 (lv_at hl 0 rfl) ?_
  refine lv_land hx hb d_Penalty_squares_48 ?_
  refine lv_lload_n hx hb d_Penalty_squares_49 rfl (lv_at hl 3 rfl) ?_
  refine lv_lload hx hb d_Penalty_squares_50 (lv_at hl 2 rfl) ?_
  refine lv_lor hx hb d_Penalty_squares_52 ?_
  refine lv_lload hx hb d_Penalty_squares_53 (lv_at hl 1 rfl) ?_
  refine lv_lor hx hb d_Penalty_squares_55 ?_
  refine lv_lload hx hb d_Penalty_squares_56 (lv_at hl 0 rfl) ?_
  refine lv_lor hx hb d_Penalty_squares_58 ?_
  refine lv_ldc2 (v := (-1 : Int64)) hx hb hown (ht _ tb_997) d_Penalty_squares_59 ?_
  refine lv_lxor hx hb d_Penalty_squares_62 ?_
  refine lv_lor hx hb d_Penalty_squares_63 ?_
  obtain ⟨w9, ew9, Hf⟩ := sq_bd_e Hf
  refine sq_topl ew9 ?_
  refine lv_lstore (lv' := [(11, .long w9), (9, .long u7), (7, .long u5), (5, .long u3), (3, .long u1), (0, .ref qp1), (1, .int p2), (2, .int p3)]) hx hb d_Penalty_squares_64 hl (by decide) rfl (fun ls hl => ?_)
  refine lv_iconst (v := (3 : Int32)) hx hb d_Penalty_squares_66 (by decide) ?_
  refine lv_lload hx hb d_Penalty_squares_67 (lv_at hl 0 rfl) ?_
  refine lv_aload_n hx hb d_Penalty_squares_69 rfl (lv_at hl 5 rfl) ?_
  refine lv_iload_n hx hb d_Penalty_squares_70 rfl (lv_at hl 6 rfl) ?_
  refine lv_iload_n hx hb d_Penalty_squares_71 rfl (lv_at hl 7 rfl) ?_
  refine lv_iconst (v := (1 : Int32)) hx hb d_Penalty_squares_72 (by decide) ?_
  refine lv_iconst (v := (1 : Int32)) hx hb d_Penalty_squares_73 (by decide) ?_
  obtain ⟨u10, hc11, Hf⟩ := sq_cb1_e Hf
  refine sq_rol (va_runS (As := [.ref qp1, .int p2, .int p3, .int (1 : Int32), .int (1 : Int32)]) (rest := [.long w9, .int (3 : Int32)]) ⟨hx, hb, hml, hown, ht⟩ (kt_Penalty_withRoom l dC dI qp1 qp1_words vp1_side p2 p3 (1 : Int32) (1 : Int32) tt u10 hc11) (va_cwS 5 ht (sq_gS tb_999 tb_1000 tb_10 tb_1001) rfl rfl rfl (by decide +kernel) ⟨Nat.le_of_ble_eq_true rfl, Nat.le_of_ble_eq_true rfl⟩) (sq_roSX (hP.sub (ws' := (ww_Penalty_withRoom qp1 qp1_words vp1_side)) [0] rfl) (hK.sub (tys' := []) [] rfl) hX va_S.rf (fun _ h => h.elim)) rfl rfl hl.1 rfl (lv_room (Nat.le_of_ble_eq_true rfl)) d_Penalty_squares_74 ⟨Nat.le_of_ble_eq_true rfl, Nat.le_of_ble_eq_true rfl⟩) ?_
  refine lv_land hx hb d_Penalty_squares_77 ?_
  obtain ⟨r12, hc13, Hf⟩ := sq_cb1_e Hf
  refine sq_roi (va_runS (As := [.long (w9 &&& u10)]) (rest := [.int (3 : Int32)]) ⟨hx, hb, hml, hown, ht⟩ (kt_JLong_bitCount l dC dI (w9 &&& u10) r12 hc13) (va_cwS 1 ht (sq_gS tb_1007 tb_346 tb_26 tb_347) rfl rfl rfl (by decide +kernel) ⟨Nat.le_of_ble_eq_true rfl, Nat.le_of_ble_eq_true rfl⟩) (sq_roS (hP.sub (ws' := ([] : va_W)) [] rfl) (hK.sub (tys' := []) [] rfl)) rfl rfl hl.1 rfl (lv_room (Nat.le_of_ble_eq_true rfl)) d_Penalty_squares_78 ⟨Nat.le_of_ble_eq_true rfl, Nat.le_of_ble_eq_true rfl⟩) ?_
  refine lv_imul hx hb d_Penalty_squares_81 ?_
  have er := Option.some.inj Hf
  exact W.iret hx hb hr (fun t ht hW => ⟨_, rfl, er, ht⟩) (fun q h => by cases h) d_Penalty_squares_82

def fn_Penalty_of_L2 (n0 : Nat) (vp1_side : Int32) (vp1_words : Nat → Int64) (r1 : Int32) (x9 : Int32) (k14 : Int32 → (Nat → Int64) → Option (Int32 × (Nat → Int64))) : Nat → Int32 → Int32 → (Nat → Int64) → Option (Int32 × (Nat → Int64))
  | 0, _, _, _ => none
  | m2 + 1, x16, x17, b18 => if r1 ≤ x17 then (k14 x16 b18) else (sq_cb2 (fn_Penalty_lines n0 x17 x9 (1 : Int32) (0 : Int32) vp1_side vp1_words b18) fun r20 b21 => sq_bd (x16 + r20) fun x23 => sq_cb2 (fn_Penalty_lines n0 x17 x9 (0 : Int32) (1 : Int32) vp1_side vp1_words b21) fun r24 b25 => sq_bd (x23 + r24) fun x27 => sq_cb1 (fn_Penalty_squares x17 x9 vp1_side vp1_words) fun r28 => sq_bd (x27 + r28) fun x30 => sq_bd (x17 + (64 : Int32)) fun x31 => fn_Penalty_of_L2 n0 vp1_side vp1_words r1 x9 k14 m2 x30 x31 b25)
theorem fn_Penalty_of_L2_s (n0 : Nat) (vp1_side : Int32) (vp1_words : Nat → Int64) (r1 : Int32) (x9 : Int32) (k14 : Int32 → (Nat → Int64) → Option (Int32 × (Nat → Int64))) (m2 : Nat) (x16 : Int32) (x17 : Int32) (b18 : Nat → Int64) : fn_Penalty_of_L2 n0 vp1_side vp1_words r1 x9 k14 (m2 + 1) x16 x17 b18 = if r1 ≤ x17 then (k14 x16 b18) else (sq_cb2 (fn_Penalty_lines n0 x17 x9 (1 : Int32) (0 : Int32) vp1_side vp1_words b18) fun r20 b21 => sq_bd (x16 + r20) fun x23 => sq_cb2 (fn_Penalty_lines n0 x17 x9 (0 : Int32) (1 : Int32) vp1_side vp1_words b21) fun r24 b25 => sq_bd (x23 + r24) fun x27 => sq_cb1 (fn_Penalty_squares x17 x9 vp1_side vp1_words) fun r28 => sq_bd (x27 + r28) fun x30 => sq_bd (x17 + (64 : Int32)) fun x31 => fn_Penalty_of_L2 n0 vp1_side vp1_words r1 x9 k14 m2 x30 x31 b25) := rfl
def fn_Penalty_of_L1 (n0 : Nat) (vp1_side : Int32) (vp1_words : Nat → Int64) (r1 : Int32) (k5 : Int32 → (Nat → Int64) → Option (Int32 × (Nat → Int64))) : Nat → Int32 → Int32 → (Nat → Int64) → Option (Int32 × (Nat → Int64))
  | 0, _, _, _ => none
  | m1 + 1, x8, x9, b10 => if r1 ≤ x9 then (k5 x8 b10) else (sq_jn (fun (x12 : Int32) (b13 : Nat → Int64) => sq_bd (x9 + (1 : Int32)) fun x15 => fn_Penalty_of_L1 n0 vp1_side vp1_words r1 k5 m1 x12 x15 b13) fun k14 => fn_Penalty_of_L2 n0 vp1_side vp1_words r1 x9 k14 n0 x8 (0 : Int32) b10)
theorem fn_Penalty_of_L1_s (n0 : Nat) (vp1_side : Int32) (vp1_words : Nat → Int64) (r1 : Int32) (k5 : Int32 → (Nat → Int64) → Option (Int32 × (Nat → Int64))) (m1 : Nat) (x8 : Int32) (x9 : Int32) (b10 : Nat → Int64) : fn_Penalty_of_L1 n0 vp1_side vp1_words r1 k5 (m1 + 1) x8 x9 b10 = if r1 ≤ x9 then (k5 x8 b10) else (sq_jn (fun (x12 : Int32) (b13 : Nat → Int64) => sq_bd (x9 + (1 : Int32)) fun x15 => fn_Penalty_of_L1 n0 vp1_side vp1_words r1 k5 m1 x12 x15 b13) fun k14 => fn_Penalty_of_L2 n0 vp1_side vp1_words r1 x9 k14 n0 x8 (0 : Int32) b10) := rfl
def fn_Penalty_of (n0 : Nat) (vp1_side : Int32) (vp1_words : Nat → Int64) (vt_ahead : Nat → Int64) : Option (Int32 × (Nat → Int64)) :=
  sq_cb1 (fn_Grid_side vp1_side) fun r1 => sq_jn (fun (x3 : Int32) (b4 : Nat → Int64) => sq_cb1 (fn_Penalty_balance n0 vp1_side vp1_words) fun r6 => some (x3 + r6, b4)) fun k5 => fn_Penalty_of_L1 n0 vp1_side vp1_words r1 k5 n0 (0 : Int32) (0 : Int32) vt_ahead
abbrev ww_Penalty_of (qp1 qt qp1_words qt_ahead : Nat) (cp1_words ct_ahead : ClassId) (vp1_side : Int32) (vp1_words : Nat → Int64) (vt_ahead : Nat → Int64) : va_W := [(qp1, .inr (6, [.ref qp1_words, .int vp1_side])), (qt, .inr (8, [.ref qt_ahead])), (qp1_words, .inl (cp1_words, 531, .inr (.inl vp1_words))), (qt_ahead, .inl (ct_ahead, 11, .inr (.inl vt_ahead)))]

def rm_Penalty_of : Room := { frames := 3, cells := 0, slots := 0, locals := 84 }
abbrev qc_Penalty_of (dC : Nat → ClassId) (dI : Nat → Nat → Nat) (A : Nat → Prop) (r0 : Int32) (qp1 qt qp1_words qt_ahead : Nat) (cp1_words ct_ahead : ClassId) (vp1_side : Int32) (vp1_words : Nat → Int64) (vt_ahead : Nat → Int64) : Array Value → State → Outcome → State → Prop := va_Qi (fun r (_ : Unit) => r = r0) (fun _ t => va_P (dC, dI) cl_All (ww_Penalty_of qp1 qt qp1_words qt_ahead cp1_words ct_ahead vp1_side vp1_words vt_ahead) t.heap ∧ va_D A (ww_Penalty_of qp1 qt qp1_words qt_ahead cp1_words ct_ahead vp1_side vp1_words vt_ahead)) A

set_option maxHeartbeats 4000000 in
set_option maxRecDepth 100000 in
theorem kt_Penalty_of (l : Launch) (dC : Nat → ClassId) (dI : Nat → Nat → Nat) (qp1 qt qp1_words qt_ahead : Nat) (cp1_words ct_ahead : ClassId) (vp1_side : Int32) (vp1_words : Nat → Int64) (vt_ahead : Nat → Int64) (tt : Nat → Nat) (sz : Nat) (n0 : Nat) (r0 : Int32) (nvt_ahead : Nat → Int64) (Hf : fn_Penalty_of n0 vp1_side vp1_words vt_ahead = some (r0, nvt_ahead)) : Met l y_Penalty_of w_Penalty_of rm_Penalty_of (va_Pc [.ref qt, .ref qp1] (fun U => U.heap.size = sz ∧ va_P (dC, dI) cl_All (ww_Penalty_of qp1 qt qp1_words qt_ahead cp1_words ct_ahead vp1_side vp1_words vt_ahead) U.heap ∧ va_K (dC, dI) cl_All [(cp1_words, .long), (ct_ahead, .long)] U ∧ va_D (fun _ => True) (ww_Penalty_of qp1 qt qp1_words qt_ahead cp1_words ct_ahead vp1_side vp1_words vt_ahead) ∧ sx_T tt (va_A (ww_Penalty_of qp1 qt qp1_words qt_ahead cp1_words ct_ahead vp1_side vp1_words vt_ahead) sz) U U.heap)) (qc_Penalty_of dC dI (va_A (ww_Penalty_of qp1 qt qp1_words qt_ahead cp1_words ct_ahead vp1_side vp1_words vt_ahead) sz) r0 qp1 qt qp1_words qt_ahead cp1_words ct_ahead vp1_side vp1_words nvt_ahead) 0 0 (va_A (ww_Penalty_of qp1 qt qp1_words qt_ahead cp1_words ct_ahead vp1_side vp1_words vt_ahead) sz) := by
  refine Met.ofW (cc := prog_11_method_2_code) (maxL := 6) (ret := (some .int)) (by decide) rfl ?_
  intro p e s m args below meth c s₁ B hml hv
  obtain ⟨rfl, hsz, hP, hK, hD0, hX⟩ := hv
  have hx := B.exec; have hb := B.bytes; have hr := B.returns; have hlocks := B.notSynchronized
  have ht : ∀ w ∈ lw_g, w.before _ s = true := fun w h => atoms_spec (ws := w_Penalty_of) B.pre w (List.mem_cons_of_mem _ h)
  have hown : s.vm.findClass "SquareSymbols$Penalty" = some m.cls := findClass_of_methodNamed B.named
  subst hsz
  have hD := hD0.self (sz := s.heap.size)
  generalize hAe : va_A (ww_Penalty_of qp1 qt qp1_words qt_ahead cp1_words ct_ahead vp1_side vp1_words vt_ahead) s.heap.size = A at hD hX ⊢
  have hA : ∀ q : Nat, s.heap.size ≤ q → A q := fun q h => by rw [← hAe]; exact Or.inr h
  have hS : va_S A s.heap s.heap [] := va_S.rf
  have hl := lv_entry ([.ref qt, .ref qp1]) (n := 6) (Nat.le_of_ble_eq_true rfl)
  rw [lg_entry_eq]
  generalize (lg_sl ([.ref qt, .ref qp1]) ++ List.replicate (6 - (lg_sl ([.ref qt, .ref qp1])).length) Slot.unset).toArray = ls at hl ⊢
  have hl : lv_has ls 6 [(0, .ref qt), (1, .ref qp1)] := hl
  refine lv_aload_n hx hb d_Penalty_of_0 rfl (lv_at hl 1 rfl) ?_
  obtain ⟨r1, hc2, Hf⟩ := sq_cb1_e Hf
  refine sq_roi (va_runV (As := []) (rest := []) ⟨hx, hb, hml, hown, ht⟩ (kt_Grid_side l dC dI qp1 qp1_words vp1_side r1 hc2) (cwV 0 ht (sq_gV tb_992 tb_356 tb_357 tb_8 tb_358) rfl rfl rfl (by decide +kernel) ⟨Nat.le_of_ble_eq_true rfl, Nat.le_of_ble_eq_true rfl⟩) (sq_roV (hP.sub (ws' := (ww_Grid_side qp1 qp1_words vp1_side)) [0] rfl) (hK.sub (tys' := []) [] rfl) (va_recv hK hP (ci := 6) (q0 := 0) rfl rfl)) rfl rfl hl.1 rfl (lv_room (Nat.le_of_ble_eq_true rfl)) d_Penalty_of_1 ⟨Nat.le_of_ble_eq_true rfl, Nat.le_of_ble_eq_true rfl⟩) ?_
  refine lv_istore_n (lv' := [(2, .int r1), (0, .ref qt), (1, .ref qp1)]) hx hb d_Penalty_of_4 rfl hl (by decide) rfl (fun ls hl => ?_)
  refine lv_iconst (v := (0 : Int32)) hx hb d_Penalty_of_5 (by decide) ?_
  refine lv_istore_n (lv' := [(3, .int (0 : Int32)), (2, .int r1), (0, .ref qt), (1, .ref qp1)]) hx hb d_Penalty_of_6 rfl hl (by decide) rfl (fun ls hl => ?_)
  refine lv_iconst (v := (0 : Int32)) hx hb d_Penalty_of_7 (by decide) ?_
  refine lv_istore (lv' := [(4, .int (0 : Int32)), (3, .int (0 : Int32)), (2, .int r1), (0, .ref qt), (1, .ref qp1)]) hx hb d_Penalty_of_8 hl (by decide) rfl (fun ls hl => ?_)
  obtain ⟨k5, hk5, Hf⟩ := sq_jn_e Hf
  have Jk5 : ∀ (x3 : Int32) (b4 : Nat → Int64), k5 x3 b4 = some (r0, nvt_ahead) → ∀ (H : Heap) (locs : List Loc), va_P (dC, dI) cl_All (ww_Penalty_of qp1 qt qp1_words qt_ahead cp1_words ct_ahead vp1_side vp1_words b4) H → va_D A (ww_Penalty_of qp1 qt qp1_words qt_ahead cp1_words ct_ahead vp1_side vp1_words b4) → va_S A s.heap H locs → ∀ ls : Array Slot, lv_has ls 6 [(1, .ref qp1), (3, .int x3)] → W p l e (headSpec w_Penalty_of rm_Penalty_of).room s m (([.ref qt, .ref qp1] : List Value).toArray) below meth c H locs 0 0 (MQ below (qc_Penalty_of dC dI A r0 qp1 qt qp1_words qt_ahead cp1_words ct_ahead vp1_side vp1_words nvt_ahead) (([.ref qt, .ref qp1] : List Value).toArray) s 0 0 A) (F0 m 76 ls []) := by
    intro x3 b4 Hf H locs  hP hD hS ls hl
    rw [hk5] at Hf
    refine lv_iload_n hx hb d_Penalty_of_76 rfl (lv_at hl 1 rfl) ?_
    refine lv_aload_n hx hb d_Penalty_of_77 rfl (lv_at hl 0 rfl) ?_
    obtain ⟨r6, hc7, Hf⟩ := sq_cb1_e Hf
    refine sq_roi (va_runS (As := [.ref qp1]) (rest := [.int x3]) ⟨hx, hb, hml, hown, ht⟩ (kt_Penalty_balance l dC dI qp1 qp1_words cp1_words vp1_side vp1_words n0 r6 hc7) (va_cwS 1 ht (sq_gS tb_1011 tb_1012 tb_10 tb_1013) rfl rfl rfl (by decide +kernel) ⟨Nat.le_of_ble_eq_true rfl, Nat.le_of_ble_eq_true rfl⟩) (sq_roS (hP.sub (ws' := (ww_Penalty_balance qp1 qp1_words cp1_words vp1_side vp1_words)) [0, 2] rfl) (hK.sub (tys' := [(cp1_words, .long)]) [0] rfl)) rfl rfl hl.1 rfl (lv_room (Nat.le_of_ble_eq_true rfl)) d_Penalty_of_78 ⟨Nat.le_of_ble_eq_true rfl, Nat.le_of_ble_eq_true rfl⟩) ?_
    refine lv_iadd hx hb d_Penalty_of_81 ?_
    obtain ⟨rfl, rfl⟩ := sq_so2 Hf
    exact W.iret hx hb hr (fun t ht hW => ⟨⟨_, (), rfl, rfl, by rw [ht]; exact hP, hD⟩, hS.F ht⟩) hS.2.2 d_Penalty_of_82
  have L1 : ∀ (m1 : Nat), ∀ (x8 : Int32) (x9 : Int32) (b10 : Nat → Int64), fn_Penalty_of_L1 n0 vp1_side vp1_words r1 k5 m1 x8 x9 b10 = some (r0, nvt_ahead) → ∀ (H : Heap) (locs : List Loc), va_P (dC, dI) cl_All (ww_Penalty_of qp1 qt qp1_words qt_ahead cp1_words ct_ahead vp1_side vp1_words b10) H → va_D A (ww_Penalty_of qp1 qt qp1_words qt_ahead cp1_words ct_ahead vp1_side vp1_words b10) → va_S A s.heap H locs → ∀ ls : Array Slot, lv_has ls 6 [(0, .ref qt), (1, .ref qp1), (2, .int r1), (3, .int x8), (4, .int x9)] → W p l e (headSpec w_Penalty_of rm_Penalty_of).room s m (([.ref qt, .ref qp1] : List Value).toArray) below meth c H locs 0 0 (MQ below (qc_Penalty_of dC dI A r0 qp1 qt qp1_words qt_ahead cp1_words ct_ahead vp1_side vp1_words nvt_ahead) (([.ref qt, .ref qp1] : List Value).toArray) s 0 0 A) (F0 m 10 ls []) := by
    intro m1
    induction m1 with
    | zero => intro x8 x9 b10 Hf; exact sq_none Hf
    | succ m1 ih1 =>
      intro x8 x9 b10 Hf H locs  hP hD hS ls hl
      replace Hf := (fn_Penalty_of_L1_s n0 vp1_side vp1_words r1 k5 m1 x8 x9 b10).symm.trans Hf
      refine lv_iload hx hb d_Penalty_of_10 (lv_at hl 4 rfl) ?_
      refine lv_iload_n hx hb d_Penalty_of_12 rfl (lv_at hl 2 rfl) ?_
      refine lv_icmp_ge (tgt := 76) hx hb d_Penalty_of_13 (by decide) (fun c11 => ?_) (fun c11 => ?_)
      · replace Hf := sq_ite_t Hf c11
        exact Jk5 x8 b10 Hf _ _  hP hD hS _ (lv_sub hl [1, 3] rfl)
      · replace Hf := sq_ite_f Hf c11
        refine lv_iconst (v := (0 : Int32)) hx hb d_Penalty_of_16 (by decide) ?_
        refine lv_istore (lv' := [(5, .int (0 : Int32)), (0, .ref qt), (1, .ref qp1), (2, .int r1), (3, .int x8), (4, .int x9)]) hx hb d_Penalty_of_17 hl (by decide) rfl (fun ls hl => ?_)
        obtain ⟨k14, hk14, Hf⟩ := sq_jn_e Hf
        have Jk14 : ∀ (x12 : Int32) (b13 : Nat → Int64), k14 x12 b13 = some (r0, nvt_ahead) → ∀ (H : Heap) (locs : List Loc), va_P (dC, dI) cl_All (ww_Penalty_of qp1 qt qp1_words qt_ahead cp1_words ct_ahead vp1_side vp1_words b13) H → va_D A (ww_Penalty_of qp1 qt qp1_words qt_ahead cp1_words ct_ahead vp1_side vp1_words b13) → va_S A s.heap H locs → ∀ ls : Array Slot, lv_has ls 6 [(0, .ref qt), (1, .ref qp1), (2, .int r1), (3, .int x12), (4, .int x9)] → W p l e (headSpec w_Penalty_of rm_Penalty_of).room s m (([.ref qt, .ref qp1] : List Value).toArray) below meth c H locs 0 0 (MQ below (qc_Penalty_of dC dI A r0 qp1 qt qp1_words qt_ahead cp1_words ct_ahead vp1_side vp1_words nvt_ahead) (([.ref qt, .ref qp1] : List Value).toArray) s 0 0 A) (F0 m 70 ls []) := by
          intro x12 b13 Hf H locs  hP hD hS ls hl
          rw [hk14] at Hf
          obtain ⟨x15, ex15, Hf⟩ := sq_bd_e Hf
          refine lv_iinc (v := x15) (lv' := [(4, .int x15), (0, .ref qt), (1, .ref qp1), (2, .int r1), (3, .int x12)]) hx hb d_Penalty_of_70 hl (k := 4) rfl (by rw [ex15]; rfl) (by decide) rfl (fun ls hl => ?_)
          refine lv_goto (tgt := 10) hx hb d_Penalty_of_73 (by decide) ?_
          exact ih1 x12 x15 b13 Hf _ _  hP hD hS _ (lv_sub hl [1, 2, 3, 4, 0] rfl)
        have L2 : ∀ (m2 : Nat), ∀ (x16 : Int32) (x17 : Int32) (b18 : Nat → Int64), fn_Penalty_of_L2 n0 vp1_side vp1_words r1 x9 k14 m2 x16 x17 b18 = some (r0, nvt_ahead) → ∀ (H : Heap) (locs : List Loc), va_P (dC, dI) cl_All (ww_Penalty_of qp1 qt qp1_words qt_ahead cp1_words ct_ahead vp1_side vp1_words b18) H → va_D A (ww_Penalty_of qp1 qt qp1_words qt_ahead cp1_words ct_ahead vp1_side vp1_words b18) → va_S A s.heap H locs → ∀ ls : Array Slot, lv_has ls 6 [(0, .ref qt), (1, .ref qp1), (2, .int r1), (3, .int x16), (4, .int x9), (5, .int x17)] → W p l e (headSpec w_Penalty_of rm_Penalty_of).room s m (([.ref qt, .ref qp1] : List Value).toArray) below meth c H locs 0 0 (MQ below (qc_Penalty_of dC dI A r0 qp1 qt qp1_words qt_ahead cp1_words ct_ahead vp1_side vp1_words nvt_ahead) (([.ref qt, .ref qp1] : List Value).toArray) s 0 0 A) (F0 m 19 ls []) := by
          intro m2
          induction m2 with
          | zero => intro x16 x17 b18 Hf; exact sq_none Hf
          | succ m2 ih2 =>
            intro x16 x17 b18 Hf H locs  hP hD hS ls hl
            replace Hf := (fn_Penalty_of_L2_s n0 vp1_side vp1_words r1 x9 k14 m2 x16 x17 b18).symm.trans Hf
            refine lv_iload hx hb d_Penalty_of_19 (lv_at hl 5 rfl) ?_
            refine lv_iload_n hx hb d_Penalty_of_21 rfl (lv_at hl 2 rfl) ?_
            refine lv_icmp_ge (tgt := 70) hx hb d_Penalty_of_22 (by decide) (fun c19 => ?_) (fun c19 => ?_)
            · replace Hf := sq_ite_t Hf c19
              exact Jk14 x16 b18 Hf _ _  hP hD hS _ (lv_sub hl [0, 1, 2, 3, 4] rfl)
            · replace Hf := sq_ite_f Hf c19
              refine lv_iload_n hx hb d_Penalty_of_25 rfl (lv_at hl 3 rfl) ?_
              refine lv_aload_n hx hb d_Penalty_of_26 rfl (lv_at hl 0 rfl) ?_
              refine lv_aload_n hx hb d_Penalty_of_27 rfl (lv_at hl 1 rfl) ?_
              refine lv_iload hx hb d_Penalty_of_28 (lv_at hl 5 rfl) ?_
              refine lv_iload hx hb d_Penalty_of_30 (lv_at hl 4 rfl) ?_
              refine lv_iconst (v := (1 : Int32)) hx hb d_Penalty_of_32 (by decide) ?_
              refine lv_iconst (v := (0 : Int32)) hx hb d_Penalty_of_33 (by decide) ?_
              obtain ⟨r20, b21, hc22, Hf⟩ := sq_cb2_e Hf
              refine sq_rwi (wn := (ww_Penalty_of qp1 qt qp1_words qt_ahead cp1_words ct_ahead vp1_side vp1_words b21)) (va_runV (As := [.ref qp1, .int x17, .int x9, .int (1 : Int32), .int (0 : Int32)]) (rest := [.int x16]) ⟨hx, hb, hml, hown, ht⟩ (kt_Penalty_lines l dC dI qp1 qt qp1_words qt_ahead cp1_words ct_ahead vp1_side vp1_words b18 x17 x9 (1 : Int32) (0 : Int32) tt H.size n0 r20 b21 hc22) (cwV 5 ht (sq_gV tb_993 tb_995 sl_29 tb_10 tb_996) rfl rfl rfl (by decide +kernel) ⟨Nat.le_of_ble_eq_true rfl, Nat.le_of_ble_eq_true rfl⟩) (sq_rwVX (hP.sub (ws' := (ww_Penalty_lines qp1 qt qp1_words qt_ahead cp1_words ct_ahead vp1_side vp1_words b18)) [0, 1, 2, 3] rfl) (hK.sub (tys' := [(cp1_words, .long), (ct_ahead, .long)]) [0, 1] rfl) (hD.sub (ws' := (ww_Penalty_lines qp1 qt qp1_words qt_ahead cp1_words ct_ahead vp1_side vp1_words b18)) [0, 1, 2, 3] (by decide) rfl) (va_recv hK hP (ci := 8) (q0 := 1) rfl rfl) hX hS (va_free (wc := (ww_Penalty_lines qp1 qt qp1_words qt_ahead cp1_words ct_ahead vp1_side vp1_words b18)) hD hS hA [0, 1, 2, 3] rfl)) rfl rfl hl.1 rfl (lv_room (Nat.le_of_ble_eq_true rfl)) d_Penalty_of_34 ⟨Nat.le_of_ble_eq_true rfl, Nat.le_of_ble_eq_true rfl⟩) hP hD hS hA [0, 1, 2, 3] [] [0, 1, 2, 3] rfl rfl (by decide) (by decide) rfl (by decide) (fun H locs hP hD hS => ?_)
              refine lv_iadd hx hb d_Penalty_of_37 ?_
              obtain ⟨x23, ex23, Hf⟩ := sq_bd_e Hf
              refine sq_top ex23 ?_
              refine lv_istore_n (lv' := [(3, .int x23), (0, .ref qt), (1, .ref qp1), (2, .int r1), (4, .int x9), (5, .int x17)]) hx hb d_Penalty_of_38 rfl hl (by decide) rfl (fun ls hl => ?_)
              refine lv_iload_n hx hb d_Penalty_of_39 rfl (lv_at hl 0 rfl) ?_
              refine lv_aload_n hx hb d_Penalty_of_40 rfl (lv_at hl 1 rfl) ?_
              refine lv_aload_n hx hb d_Penalty_of_41 rfl (lv_at hl 2 rfl) ?_
              refine lv_iload hx hb d_Penalty_of_42 (lv_at hl 5 rfl) ?_
              refine lv_iload hx hb d_Penalty_of_44 (lv_at hl 4 rfl) ?_
              refine lv_iconst (v := (0 : Int32)) hx hb d_Penalty_of_46 (by decide) ?_
              refine lv_iconst (v := (1 : Int32)) hx hb d_Penalty_of_47 (by decide) ?_
              obtain ⟨r24, b25, hc26, Hf⟩ := sq_cb2_e Hf
              refine sq_rwi (wn := (ww_Penalty_of qp1 qt qp1_words qt_ahead cp1_words ct_ahead vp1_side vp1_words b25)) (va_runV (As := [.ref qp1, .int x17, .int x9, .int (0 : Int32), .int (1 : Int32)]) (rest := [.int x23]) ⟨hx, hb, hml, hown, ht⟩ (kt_Penalty_lines l dC dI qp1 qt qp1_words qt_ahead cp1_words ct_ahead vp1_side vp1_words b21 x17 x9 (0 : Int32) (1 : Int32) tt H.size n0 r24 b25 hc26) (cwV 5 ht (sq_gV tb_993 tb_995 sl_29 tb_10 tb_996) rfl rfl rfl (by decide +kernel) ⟨Nat.le_of_ble_eq_true rfl, Nat.le_of_ble_eq_true rfl⟩) (sq_rwVX (hP.sub (ws' := (ww_Penalty_lines qp1 qt qp1_words qt_ahead cp1_words ct_ahead vp1_side vp1_words b21)) [0, 1, 2, 3] rfl) (hK.sub (tys' := [(cp1_words, .long), (ct_ahead, .long)]) [0, 1] rfl) (hD.sub (ws' := (ww_Penalty_lines qp1 qt qp1_words qt_ahead cp1_words ct_ahead vp1_side vp1_words b21)) [0, 1, 2, 3] (by decide) rfl) (va_recv hK hP (ci := 8) (q0 := 1) rfl rfl) hX hS (va_free (wc := (ww_Penalty_lines qp1 qt qp1_words qt_ahead cp1_words ct_ahead vp1_side vp1_words b21)) hD hS hA [0, 1, 2, 3] rfl)) rfl rfl hl.1 rfl (lv_room (Nat.le_of_ble_eq_true rfl)) d_Penalty_of_48 ⟨Nat.le_of_ble_eq_true rfl, Nat.le_of_ble_eq_true rfl⟩) hP hD hS hA [0, 1, 2, 3] [] [0, 1, 2, 3] rfl rfl (by decide) (by decide) rfl (by decide) (fun H locs hP hD hS => ?_)
              refine lv_iadd hx hb d_Penalty_of_51 ?_
              obtain ⟨x27, ex27, Hf⟩ := sq_bd_e Hf
              refine sq_top ex27 ?_
              refine lv_istore_n (lv' := [(3, .int x27), (0, .ref qt), (1, .ref qp1), (2, .int r1), (4, .int x9), (5, .int x17)]) hx hb d_Penalty_of_52 rfl hl (by decide) rfl (fun ls hl => ?_)
              refine lv_iload_n hx hb d_Penalty_of_53 rfl (lv_at hl 0 rfl) ?_
              refine lv_aload_n hx hb d_Penalty_of_54 rfl (lv_at hl 2 rfl) ?_
              refine lv_iload hx hb d_Penalty_of_55 (lv_at hl 5 rfl) ?_
              refine lv_iload hx hb d_Penalty_of_57 (lv_at hl 4 rfl) ?_
              obtain ⟨r28, hc29, Hf⟩ := sq_cb1_e Hf
              refine sq_roi (va_runS (As := [.ref qp1, .int x17, .int x9]) (rest := [.int x27]) ⟨hx, hb, hml, hown, ht⟩ (kt_Penalty_squares l dC dI qp1 qp1_words cp1_words vp1_side vp1_words x17 x9 tt r28 hc29) (va_cwS 3 ht (sq_gS tb_1008 tb_1009 tb_10 tb_1010) rfl rfl rfl (by decide +kernel) ⟨Nat.le_of_ble_eq_true rfl, Nat.le_of_ble_eq_true rfl⟩) (sq_roSX (hP.sub (ws' := (ww_Penalty_squares qp1 qp1_words cp1_words vp1_side vp1_words)) [0, 2] rfl) (hK.sub (tys' := [(cp1_words, .long)]) [0] rfl) hX hS (fun _ h => h.elim)) rfl rfl hl.1 rfl (lv_room (Nat.le_of_ble_eq_true rfl)) d_Penalty_of_59 ⟨Nat.le_of_ble_eq_true rfl, Nat.le_of_ble_eq_true rfl⟩) ?_
              refine lv_iadd hx hb d_Penalty_of_62 ?_
              obtain ⟨x30, ex30, Hf⟩ := sq_bd_e Hf
              refine sq_top ex30 ?_
              refine lv_istore_n (lv' := [(3, .int x30), (0, .ref qt), (1, .ref qp1), (2, .int r1), (4, .int x9), (5, .int x17)]) hx hb d_Penalty_of_63 rfl hl (by decide) rfl (fun ls hl => ?_)
              obtain ⟨x31, ex31, Hf⟩ := sq_bd_e Hf
              refine lv_iinc (v := x31) (lv' := [(5, .int x31), (3, .int x30), (0, .ref qt), (1, .ref qp1), (2, .int r1), (4, .int x9)]) hx hb d_Penalty_of_64 hl (k := 5) rfl (by rw [ex31]; rfl) (by decide) rfl (fun ls hl => ?_)
              refine lv_goto (tgt := 19) hx hb d_Penalty_of_67 (by decide) ?_
              exact ih2 x30 x31 b25 Hf _ _  hP hD hS _ (lv_sub hl [2, 3, 4, 1, 5, 0] rfl)
        exact L2 n0 x8 (0 : Int32) b10 Hf _ _  hP hD hS _ (lv_sub hl [1, 2, 3, 4, 5, 0] rfl)
  exact L1 n0 (0 : Int32) (0 : Int32) vt_ahead Hf _ _  hP hD hS _ (lv_sub hl [3, 4, 2, 1, 0] rfl)

