def fn_Sq_wipe (vt_data_size : Int32) : Option (Int32 × Int32) :=
  sq_cb1 (fn_Data_size vt_data_size) fun r1 => sq_cb1 (fn_Data_clear vt_data_size) fun y3 => some (r1, y3)
abbrev ww_Sq_wipe (qt qt_data qt_division qt_codewords qt_mender qt_parser qt_symbol qt_frame qt_judge qt_made qt_madeSegments qt_found qt_data_bytes : Nat) (vt_isMade : Int32) (vt_isRead : Int32) (vt_lastFault : Int32) (vt_data_size : Int32) : va_W := [(qt, .inr (9, [.ref qt_data, .ref qt_division, .ref qt_codewords, .ref qt_mender, .ref qt_parser, .ref qt_symbol, .ref qt_frame, .ref qt_judge, .int vt_isMade, .ref qt_made, .ref qt_madeSegments, .int vt_isRead, .ref qt_found, .int vt_lastFault])), (qt_data, .inr (0, [.ref qt_data_bytes, .int vt_data_size]))]

def rm_Sq_wipe : Room := { frames := 1, cells := 0, slots := 0, locals := 20 }
abbrev qc_Sq_wipe (dC : Nat → ClassId) (dI : Nat → Nat → Nat) (A : Nat → Prop) (r0 : Int32) (qt qt_data qt_division qt_codewords qt_mender qt_parser qt_symbol qt_frame qt_judge qt_made qt_madeSegments qt_found qt_data_bytes : Nat) (vt_isMade : Int32) (vt_isRead : Int32) (vt_lastFault : Int32) (vt_data_size : Int32) : Array Value → State → Outcome → State → Prop := va_Qi (fun r (_ : Unit) => r = r0) (fun _ t => va_P (dC, dI) cl_All (ww_Sq_wipe qt qt_data qt_division qt_codewords qt_mender qt_parser qt_symbol qt_frame qt_judge qt_made qt_madeSegments qt_found qt_data_bytes vt_isMade vt_isRead vt_lastFault vt_data_size) t.heap ∧ va_D A (ww_Sq_wipe qt qt_data qt_division qt_codewords qt_mender qt_parser qt_symbol qt_frame qt_judge qt_made qt_madeSegments qt_found qt_data_bytes vt_isMade vt_isRead vt_lastFault vt_data_size)) A

set_option maxHeartbeats 4000000 in
set_option maxRecDepth 100000 in
theorem kt_Sq_wipe (l : Launch) (dC : Nat → ClassId) (dI : Nat → Nat → Nat) (qt qt_data qt_division qt_codewords qt_mender qt_parser qt_symbol qt_frame qt_judge qt_made qt_madeSegments qt_found qt_data_bytes : Nat) (vt_isMade : Int32) (vt_isRead : Int32) (vt_lastFault : Int32) (vt_data_size : Int32) (sz : Nat) (r0 : Int32) (nvt_data_size : Int32) (Hf : fn_Sq_wipe vt_data_size = some (r0, nvt_data_size)) : Met l y_Sq_wipe w_Sq_wipe rm_Sq_wipe (va_Pc [.ref qt] (fun U => U.heap.size = sz ∧ va_P (dC, dI) cl_All (ww_Sq_wipe qt qt_data qt_division qt_codewords qt_mender qt_parser qt_symbol qt_frame qt_judge qt_made qt_madeSegments qt_found qt_data_bytes vt_isMade vt_isRead vt_lastFault vt_data_size) U.heap ∧ va_K (dC, dI) cl_All [] U ∧ va_D (fun _ => True) (ww_Sq_wipe qt qt_data qt_division qt_codewords qt_mender qt_parser qt_symbol qt_frame qt_judge qt_made qt_madeSegments qt_found qt_data_bytes vt_isMade vt_isRead vt_lastFault vt_data_size))) (qc_Sq_wipe dC dI (va_A (ww_Sq_wipe qt qt_data qt_division qt_codewords qt_mender qt_parser qt_symbol qt_frame qt_judge qt_made qt_madeSegments qt_found qt_data_bytes vt_isMade vt_isRead vt_lastFault vt_data_size) sz) r0 qt qt_data qt_division qt_codewords qt_mender qt_parser qt_symbol qt_frame qt_judge qt_made qt_madeSegments qt_found qt_data_bytes vt_isMade vt_isRead vt_lastFault nvt_data_size) 0 0 (va_A (ww_Sq_wipe qt qt_data qt_division qt_codewords qt_mender qt_parser qt_symbol qt_frame qt_judge qt_made qt_madeSegments qt_found qt_data_bytes vt_isMade vt_isRead vt_lastFault vt_data_size) sz) := by
  refine Met.ofW (cc := prog_1_method_4_code) (maxL := 2) (ret := (some .int)) (by decide) rfl ?_
  intro p e s m args below meth c s₁ B hml hv
  obtain ⟨rfl, hsz, hP, hK, hD0⟩ := hv
  have hx := B.exec; have hb := B.bytes; have hr := B.returns; have hlocks := B.notSynchronized
  have ht : ∀ w ∈ lw_g, w.before _ s = true := fun w h => atoms_spec (ws := w_Sq_wipe) B.pre w (List.mem_cons_of_mem _ h)
  have hown : s.vm.findClass "SquareSymbols" = some m.cls := findClass_of_methodNamed B.named
  subst hsz
  have hD := hD0.self (sz := s.heap.size)
  generalize hAe : va_A (ww_Sq_wipe qt qt_data qt_division qt_codewords qt_mender qt_parser qt_symbol qt_frame qt_judge qt_made qt_madeSegments qt_found qt_data_bytes vt_isMade vt_isRead vt_lastFault vt_data_size) s.heap.size = A at hD ⊢
  have hA : ∀ q : Nat, s.heap.size ≤ q → A q := fun q h => by rw [← hAe]; exact Or.inr h
  have hS : va_S A s.heap s.heap [] := va_S.rf
  have hl := lv_entry ([.ref qt]) (n := 2) (Nat.le_of_ble_eq_true rfl)
  rw [lg_entry_eq]
  generalize (lg_sl ([.ref qt]) ++ List.replicate (2 - (lg_sl ([.ref qt])).length) Slot.unset).toArray = ls at hl ⊢
  have hl : lv_has ls 2 [(0, .ref qt)] := hl
  refine lv_aload_n hx hb d_Sq_wipe_0 rfl (lv_at hl 0 rfl) ?_
  refine va_get (D := (dC, dI)) (ci := 9) (v := .ref qt_data) (C := R_Sq) (T := F_Sq) (N := 14) hx hb ht i_Sq hown hK hP 0 rfl rfl 0 (by decide) (ht _ tb_258) (fun _ h9 => h9) rfl d_Sq_wipe_1 ?_
  obtain ⟨r1, hc2, Hf⟩ := sq_cb1_e Hf
  refine sq_roi (va_runV (As := []) (rest := []) ⟨hx, hb, hml, hown, ht⟩ (kt_Data_size l dC dI qt_data qt_data_bytes vt_data_size r1 hc2) (cwV 0 ht (sq_gV tb_305 tb_306 tb_307 tb_3 tb_308) rfl rfl rfl (by decide +kernel) ⟨Nat.le_of_ble_eq_true rfl, Nat.le_of_ble_eq_true rfl⟩) (sq_roV (hP.sub (ws' := (ww_Data_size qt_data qt_data_bytes vt_data_size)) [1] rfl) (hK.sub (tys' := []) [] rfl) (va_recv hK hP (ci := 0) (q0 := 1) rfl rfl)) rfl rfl hl.1 rfl (lv_room (Nat.le_of_ble_eq_true rfl)) d_Sq_wipe_4 ⟨Nat.le_of_ble_eq_true rfl, Nat.le_of_ble_eq_true rfl⟩) ?_
  refine lv_istore_n (lv' := [(1, .int r1), (0, .ref qt)]) hx hb d_Sq_wipe_7 rfl hl (by decide) rfl (fun ls hl => ?_)
  refine lv_aload_n hx hb d_Sq_wipe_8 rfl (lv_at hl 1 rfl) ?_
  refine va_get (D := (dC, dI)) (ci := 9) (v := .ref qt_data) (C := R_Sq) (T := F_Sq) (N := 14) hx hb ht i_Sq hown hK hP 0 rfl rfl 0 (by decide) (ht _ tb_258) (fun _ h9 => h9) rfl d_Sq_wipe_9 ?_
  obtain ⟨y3, hc4, Hf⟩ := sq_cb1_e Hf
  refine sq_rwv (wn := (ww_Sq_wipe qt qt_data qt_division qt_codewords qt_mender qt_parser qt_symbol qt_frame qt_judge qt_made qt_madeSegments qt_found qt_data_bytes vt_isMade vt_isRead vt_lastFault y3)) (va_runV (As := []) (rest := []) ⟨hx, hb, hml, hown, ht⟩ (kt_Data_clear l dC dI qt_data qt_data_bytes vt_data_size s.heap.size y3 hc4) (cwV 0 ht (sq_gV tb_309 tb_310 tb_311 tb_3 tb_312) rfl rfl rfl (by decide +kernel) ⟨Nat.le_of_ble_eq_true rfl, Nat.le_of_ble_eq_true rfl⟩) (sq_rwV (hP.sub (ws' := (ww_Data_clear qt_data qt_data_bytes vt_data_size)) [1] rfl) (hK.sub (tys' := []) [] rfl) (hD.sub (ws' := (ww_Data_clear qt_data qt_data_bytes vt_data_size)) [1] (by decide) rfl) (va_recv hK hP (ci := 0) (q0 := 1) rfl rfl)) rfl rfl hl.1 rfl (lv_room (Nat.le_of_ble_eq_true rfl)) d_Sq_wipe_12 ⟨Nat.le_of_ble_eq_true rfl, Nat.le_of_ble_eq_true rfl⟩) hP hD hS hA [1] [0] [0, 1] rfl rfl (by decide) (by decide) rfl (by decide) (fun H locs hP hD hS => ?_)
  refine lv_iload_n hx hb d_Sq_wipe_15 rfl (lv_at hl 0 rfl) ?_
  obtain ⟨rfl, rfl⟩ := sq_so2 Hf
  exact W.iret hx hb hr (fun t ht hW => ⟨⟨_, (), rfl, rfl, by rw [ht]; exact hP, hD⟩, hS.F ht⟩) hS.2.2 d_Sq_wipe_16

def fn_Sq_at (p1 : Int32) (vt_data_size : Int32) (vt_data_bytes : Nat → Int32) : Option (Int32) :=
  sq_cb1 (fn_Data_get p1 vt_data_size vt_data_bytes) fun r1 => some (r1)
abbrev ww_Sq_at (qt qt_data qt_data_bytes qt_division qt_codewords qt_mender qt_parser qt_symbol qt_frame qt_judge qt_made qt_madeSegments qt_found : Nat) (ct_data_bytes : ClassId) (vt_isMade : Int32) (vt_isRead : Int32) (vt_lastFault : Int32) (vt_data_size : Int32) (vt_data_bytes : Nat → Int32) : va_W := [(qt, .inr (9, [.ref qt_data, .ref qt_division, .ref qt_codewords, .ref qt_mender, .ref qt_parser, .ref qt_symbol, .ref qt_frame, .ref qt_judge, .int vt_isMade, .ref qt_made, .ref qt_madeSegments, .int vt_isRead, .ref qt_found, .int vt_lastFault])), (qt_data, .inr (0, [.ref qt_data_bytes, .int vt_data_size])), (qt_data_bytes, .inl (ct_data_bytes, 3000, .inl vt_data_bytes))]

def rm_Sq_at : Room := { frames := 1, cells := 0, slots := 0, locals := 21 }
abbrev qc_Sq_at (r0 : Int32) : Array Value → State → Outcome → State → Prop := vp_Si (fun r => r = r0)

set_option maxHeartbeats 4000000 in
set_option maxRecDepth 100000 in
theorem kt_Sq_at (l : Launch) (dC : Nat → ClassId) (dI : Nat → Nat → Nat) (qt qt_data qt_data_bytes qt_division qt_codewords qt_mender qt_parser qt_symbol qt_frame qt_judge qt_made qt_madeSegments qt_found : Nat) (ct_data_bytes : ClassId) (vt_isMade : Int32) (vt_isRead : Int32) (vt_lastFault : Int32) (vt_data_size : Int32) (vt_data_bytes : Nat → Int32) (p1 : Int32) (r0 : Int32) (Hf : fn_Sq_at p1 vt_data_size vt_data_bytes = some r0) : Met l y_Sq_at w_Sq_at rm_Sq_at (va_Pc [.ref qt, .int p1] (fun U => va_P (dC, dI) cl_All (ww_Sq_at qt qt_data qt_data_bytes qt_division qt_codewords qt_mender qt_parser qt_symbol qt_frame qt_judge qt_made qt_madeSegments qt_found ct_data_bytes vt_isMade vt_isRead vt_lastFault vt_data_size vt_data_bytes) U.heap ∧ va_K (dC, dI) cl_All [(ct_data_bytes, .byte)] U)) (qc_Sq_at r0) 0 0 (fun _ => False) := by
  refine Met.ofW (cc := prog_1_method_5_code) (maxL := 2) (ret := (some .int)) (by decide) rfl ?_
  intro p e s m args below meth c s₁ B hml hv
  obtain ⟨rfl, hP, hK⟩ := hv
  have hx := B.exec; have hb := B.bytes; have hr := B.returns; have hlocks := B.notSynchronized
  have ht : ∀ w ∈ lw_g, w.before _ s = true := fun w h => atoms_spec (ws := w_Sq_at) B.pre w (List.mem_cons_of_mem _ h)
  have hown : s.vm.findClass "SquareSymbols" = some m.cls := findClass_of_methodNamed B.named
  have hl := lv_entry ([.ref qt, .int p1]) (n := 2) (Nat.le_of_ble_eq_true rfl)
  rw [lg_entry_eq]
  generalize (lg_sl ([.ref qt, .int p1]) ++ List.replicate (2 - (lg_sl ([.ref qt, .int p1])).length) Slot.unset).toArray = ls at hl ⊢
  have hl : lv_has ls 2 [(0, .ref qt), (1, .int p1)] := hl
  refine lv_aload_n hx hb d_Sq_at_0 rfl (lv_at hl 0 rfl) ?_
  refine va_get (D := (dC, dI)) (ci := 9) (v := .ref qt_data) (C := R_Sq) (T := F_Sq) (N := 14) hx hb ht i_Sq hown hK hP 0 rfl rfl 0 (by decide) (ht _ tb_258) (fun _ h9 => h9) rfl d_Sq_at_1 ?_
  refine lv_iload_n hx hb d_Sq_at_4 rfl (lv_at hl 1 rfl) ?_
  obtain ⟨r1, hc2, Hf⟩ := sq_cb1_e Hf
  refine sq_roi (va_runV (As := [.int p1]) (rest := []) ⟨hx, hb, hml, hown, ht⟩ (kt_Data_get l dC dI qt_data qt_data_bytes ct_data_bytes vt_data_size vt_data_bytes p1 r1 hc2) (cwV 1 ht (sq_gV tb_317 tb_318 tb_319 tb_3 tb_320) rfl rfl rfl (by decide +kernel) ⟨Nat.le_of_ble_eq_true rfl, Nat.le_of_ble_eq_true rfl⟩) (sq_roV (hP.sub (ws' := (ww_Data_get qt_data qt_data_bytes ct_data_bytes vt_data_size vt_data_bytes)) [1, 2] rfl) (hK.sub (tys' := [(ct_data_bytes, .byte)]) [0] rfl) (va_recv hK hP (ci := 0) (q0 := 1) rfl rfl)) rfl rfl hl.1 rfl (lv_room (Nat.le_of_ble_eq_true rfl)) d_Sq_at_5 ⟨Nat.le_of_ble_eq_true rfl, Nat.le_of_ble_eq_true rfl⟩) ?_
  have er := Option.some.inj Hf
  exact W.iret hx hb hr (fun t ht hW => ⟨_, rfl, er, ht⟩) (fun q h => by cases h) d_Sq_at_8

def fn_Sq_row (p1 : Int32) (p2 : Int32) (vt_symbol_side : Int32) (vt_symbol_words : Nat → Int64) : Option (Int64) :=
  sq_cb1 (fn_Grid_from p1 p2 vt_symbol_side vt_symbol_words) fun u1 => some (u1)
abbrev ww_Sq_row (qt qt_symbol qt_symbol_words qt_data qt_division qt_codewords qt_mender qt_parser qt_frame qt_judge qt_made qt_madeSegments qt_found : Nat) (ct_symbol_words : ClassId) (vt_isMade : Int32) (vt_isRead : Int32) (vt_lastFault : Int32) (vt_symbol_side : Int32) (vt_symbol_words : Nat → Int64) : va_W := [(qt, .inr (9, [.ref qt_data, .ref qt_division, .ref qt_codewords, .ref qt_mender, .ref qt_parser, .ref qt_symbol, .ref qt_frame, .ref qt_judge, .int vt_isMade, .ref qt_made, .ref qt_madeSegments, .int vt_isRead, .ref qt_found, .int vt_lastFault])), (qt_symbol, .inr (6, [.ref qt_symbol_words, .int vt_symbol_side])), (qt_symbol_words, .inl (ct_symbol_words, 531, .inr (.inl vt_symbol_words)))]

def rm_Sq_row : Room := { frames := 1, cells := 0, slots := 0, locals := 27 }
abbrev qc_Sq_row (r0 : Int64) : Array Value → State → Outcome → State → Prop := vp_Sl (fun r => r = r0)

set_option maxHeartbeats 4000000 in
set_option maxRecDepth 100000 in
theorem kt_Sq_row (l : Launch) (dC : Nat → ClassId) (dI : Nat → Nat → Nat) (qt qt_symbol qt_symbol_words qt_data qt_division qt_codewords qt_mender qt_parser qt_frame qt_judge qt_made qt_madeSegments qt_found : Nat) (ct_symbol_words : ClassId) (vt_isMade : Int32) (vt_isRead : Int32) (vt_lastFault : Int32) (vt_symbol_side : Int32) (vt_symbol_words : Nat → Int64) (p1 : Int32) (p2 : Int32) (r0 : Int64) (Hf : fn_Sq_row p1 p2 vt_symbol_side vt_symbol_words = some r0) : Met l y_Sq_row w_Sq_row rm_Sq_row (va_Pc [.ref qt, .int p1, .int p2] (fun U => va_P (dC, dI) cl_All (ww_Sq_row qt qt_symbol qt_symbol_words qt_data qt_division qt_codewords qt_mender qt_parser qt_frame qt_judge qt_made qt_madeSegments qt_found ct_symbol_words vt_isMade vt_isRead vt_lastFault vt_symbol_side vt_symbol_words) U.heap ∧ va_K (dC, dI) cl_All [(ct_symbol_words, .long)] U)) (qc_Sq_row r0) 0 0 (fun _ => False) := by
  refine Met.ofW (cc := prog_1_method_10_code) (maxL := 3) (ret := (some .long)) (by decide) rfl ?_
  intro p e s m args below meth c s₁ B hml hv
  obtain ⟨rfl, hP, hK⟩ := hv
  have hx := B.exec; have hb := B.bytes; have hr := B.returns; have hlocks := B.notSynchronized
  have ht : ∀ w ∈ lw_g, w.before _ s = true := fun w h => atoms_spec (ws := w_Sq_row) B.pre w (List.mem_cons_of_mem _ h)
  have hown : s.vm.findClass "SquareSymbols" = some m.cls := findClass_of_methodNamed B.named
  have hl := lv_entry ([.ref qt, .int p1, .int p2]) (n := 3) (Nat.le_of_ble_eq_true rfl)
  rw [lg_entry_eq]
  generalize (lg_sl ([.ref qt, .int p1, .int p2]) ++ List.replicate (3 - (lg_sl ([.ref qt, .int p1, .int p2])).length) Slot.unset).toArray = ls at hl ⊢
  have hl : lv_has ls 3 [(0, .ref qt), (1, .int p1), (2, .int p2)] := hl
  refine lv_aload_n hx hb d_Sq_row_0 rfl (lv_at hl 0 rfl) ?_
  refine va_get (D := (dC, dI)) (ci := 9) (v := .ref qt_symbol) (C := R_Sq) (T := F_Sq) (N := 14) hx hb ht i_Sq hown hK hP 0 rfl rfl 5 (by decide) (ht _ tb_263) (fun _ h9 => h9) rfl d_Sq_row_1 ?_
  refine lv_iload_n hx hb d_Sq_row_4 rfl (lv_at hl 1 rfl) ?_
  refine lv_iload_n hx hb d_Sq_row_5 rfl (lv_at hl 2 rfl) ?_
  obtain ⟨u1, hc2, Hf⟩ := sq_cb1_e Hf
  refine sq_rol (va_runV (As := [.int p1, .int p2]) (rest := []) ⟨hx, hb, hml, hown, ht⟩ (kt_Grid_from l dC dI qt_symbol qt_symbol_words ct_symbol_words vt_symbol_side vt_symbol_words p1 p2 u1 hc2) (cwV 2 ht (sq_gV tb_325 tb_326 tb_327 tb_8 tb_328) rfl rfl rfl (by decide +kernel) ⟨Nat.le_of_ble_eq_true rfl, Nat.le_of_ble_eq_true rfl⟩) (sq_roV (hP.sub (ws' := (ww_Grid_from qt_symbol qt_symbol_words ct_symbol_words vt_symbol_side vt_symbol_words)) [1, 2] rfl) (hK.sub (tys' := [(ct_symbol_words, .long)]) [0] rfl) (va_recv hK hP (ci := 6) (q0 := 1) rfl rfl)) rfl rfl hl.1 rfl (lv_room (Nat.le_of_ble_eq_true rfl)) d_Sq_row_6 ⟨Nat.le_of_ble_eq_true rfl, Nat.le_of_ble_eq_true rfl⟩) ?_
  have er := Option.some.inj Hf
  exact W.lret hx hb hr (fun t ht hW => ⟨_, rfl, er, ht⟩) (fun q h => by cases h) d_Sq_row_9

def fn_Sq_spoil (p1 : Int32) (p2 : Int32) (p3 : Int64) (vt_symbol_side : Int32) (vt_symbol_words : Nat → Int64) : Option (Int32 × (Nat → Int64)) :=
  sq_cb2 (fn_Grid_turnFrom p1 p2 p3 vt_symbol_side vt_symbol_words) fun r1 b2 => some (r1, b2)
abbrev ww_Sq_spoil (qt qt_symbol qt_symbol_words qt_data qt_division qt_codewords qt_mender qt_parser qt_frame qt_judge qt_made qt_madeSegments qt_found : Nat) (ct_symbol_words : ClassId) (vt_isMade : Int32) (vt_isRead : Int32) (vt_lastFault : Int32) (vt_symbol_side : Int32) (vt_symbol_words : Nat → Int64) : va_W := [(qt, .inr (9, [.ref qt_data, .ref qt_division, .ref qt_codewords, .ref qt_mender, .ref qt_parser, .ref qt_symbol, .ref qt_frame, .ref qt_judge, .int vt_isMade, .ref qt_made, .ref qt_madeSegments, .int vt_isRead, .ref qt_found, .int vt_lastFault])), (qt_symbol, .inr (6, [.ref qt_symbol_words, .int vt_symbol_side])), (qt_symbol_words, .inl (ct_symbol_words, 531, .inr (.inl vt_symbol_words)))]

def rm_Sq_spoil : Room := { frames := 3, cells := 0, slots := 0, locals := 74 }
abbrev qc_Sq_spoil (dC : Nat → ClassId) (dI : Nat → Nat → Nat) (A : Nat → Prop) (r0 : Int32) (qt qt_symbol qt_symbol_words qt_data qt_division qt_codewords qt_mender qt_parser qt_frame qt_judge qt_made qt_madeSegments qt_found : Nat) (ct_symbol_words : ClassId) (vt_isMade : Int32) (vt_isRead : Int32) (vt_lastFault : Int32) (vt_symbol_side : Int32) (vt_symbol_words : Nat → Int64) : Array Value → State → Outcome → State → Prop := va_Qi (fun r (_ : Unit) => r = r0) (fun _ t => va_P (dC, dI) cl_All (ww_Sq_spoil qt qt_symbol qt_symbol_words qt_data qt_division qt_codewords qt_mender qt_parser qt_frame qt_judge qt_made qt_madeSegments qt_found ct_symbol_words vt_isMade vt_isRead vt_lastFault vt_symbol_side vt_symbol_words) t.heap ∧ va_D A (ww_Sq_spoil qt qt_symbol qt_symbol_words qt_data qt_division qt_codewords qt_mender qt_parser qt_frame qt_judge qt_made qt_madeSegments qt_found ct_symbol_words vt_isMade vt_isRead vt_lastFault vt_symbol_side vt_symbol_words)) A

set_option maxHeartbeats 4000000 in
set_option maxRecDepth 100000 in
theorem kt_Sq_spoil (l : Launch) (dC : Nat → ClassId) (dI : Nat → Nat → Nat) (qt qt_symbol qt_symbol_words qt_data qt_division qt_codewords qt_mender qt_parser qt_frame qt_judge qt_made qt_madeSegments qt_found : Nat) (ct_symbol_words : ClassId) (vt_isMade : Int32) (vt_isRead : Int32) (vt_lastFault : Int32) (vt_symbol_side : Int32) (vt_symbol_words : Nat → Int64) (p1 : Int32) (p2 : Int32) (p3 : Int64) (tt : Nat → Nat) (sz : Nat) (r0 : Int32) (nvt_symbol_words : Nat → Int64) (Hf : fn_Sq_spoil p1 p2 p3 vt_symbol_side vt_symbol_words = some (r0, nvt_symbol_words)) : Met l y_Sq_spoil w_Sq_spoil rm_Sq_spoil (va_Pc [.ref qt, .int p1, .int p2, .long p3] (fun U => U.heap.size = sz ∧ va_P (dC, dI) cl_All (ww_Sq_spoil qt qt_symbol qt_symbol_words qt_data qt_division qt_codewords qt_mender qt_parser qt_frame qt_judge qt_made qt_madeSegments qt_found ct_symbol_words vt_isMade vt_isRead vt_lastFault vt_symbol_side vt_symbol_words) U.heap ∧ va_K (dC, dI) cl_All [(ct_symbol_words, .long)] U ∧ va_D (fun _ => True) (ww_Sq_spoil qt qt_symbol qt_symbol_words qt_data qt_division qt_codewords qt_mender qt_parser qt_frame qt_judge qt_made qt_madeSegments qt_found ct_symbol_words vt_isMade vt_isRead vt_lastFault vt_symbol_side vt_symbol_words) ∧ sx_T tt (va_A (ww_Sq_spoil qt qt_symbol qt_symbol_words qt_data qt_division qt_codewords qt_mender qt_parser qt_frame qt_judge qt_made qt_madeSegments qt_found ct_symbol_words vt_isMade vt_isRead vt_lastFault vt_symbol_side vt_symbol_words) sz) U U.heap)) (qc_Sq_spoil dC dI (va_A (ww_Sq_spoil qt qt_symbol qt_symbol_words qt_data qt_division qt_codewords qt_mender qt_parser qt_frame qt_judge qt_made qt_madeSegments qt_found ct_symbol_words vt_isMade vt_isRead vt_lastFault vt_symbol_side vt_symbol_words) sz) r0 qt qt_symbol qt_symbol_words qt_data qt_division qt_codewords qt_mender qt_parser qt_frame qt_judge qt_made qt_madeSegments qt_found ct_symbol_words vt_isMade vt_isRead vt_lastFault vt_symbol_side nvt_symbol_words) 0 0 (va_A (ww_Sq_spoil qt qt_symbol qt_symbol_words qt_data qt_division qt_codewords qt_mender qt_parser qt_frame qt_judge qt_made qt_madeSegments qt_found ct_symbol_words vt_isMade vt_isRead vt_lastFault vt_symbol_side vt_symbol_words) sz) := by
  refine Met.ofW (cc := prog_1_method_11_code) (maxL := 5) (ret := (some .int)) (by decide) rfl ?_
  intro p e s m args below meth c s₁ B hml hv
  obtain ⟨rfl, hsz, hP, hK, hD0, hX⟩ := hv
  have hx := B.exec; have hb := B.bytes; have hr := B.returns; have hlocks := B.notSynchronized
  have ht : ∀ w ∈ lw_g, w.before _ s = true := fun w h => atoms_spec (ws := w_Sq_spoil) B.pre w (List.mem_cons_of_mem _ h)
  have hown : s.vm.findClass "SquareSymbols" = some m.cls := findClass_of_methodNamed B.named
  subst hsz
  have hD := hD0.self (sz := s.heap.size)
  generalize hAe : va_A (ww_Sq_spoil qt qt_symbol qt_symbol_words qt_data qt_division qt_codewords qt_mender qt_parser qt_frame qt_judge qt_made qt_madeSegments qt_found ct_symbol_words vt_isMade vt_isRead vt_lastFault vt_symbol_side vt_symbol_words) s.heap.size = A at hD hX ⊢
  have hA : ∀ q : Nat, s.heap.size ≤ q → A q := fun q h => by rw [← hAe]; exact Or.inr h
  have hS : va_S A s.heap s.heap [] := va_S.rf
  have hl := lv_entry ([.ref qt, .int p1, .int p2, .long p3]) (n := 5) (Nat.le_of_ble_eq_true rfl)
  rw [lg_entry_eq]
  generalize (lg_sl ([.ref qt, .int p1, .int p2, .long p3]) ++ List.replicate (5 - (lg_sl ([.ref qt, .int p1, .int p2, .long p3])).length) Slot.unset).toArray = ls at hl ⊢
  have hl : lv_has ls 5 [(0, .ref qt), (1, .int p1), (2, .int p2), (3, .long p3)] := hl
  refine lv_aload_n hx hb d_Sq_spoil_0 rfl (lv_at hl 0 rfl) ?_
  refine va_get (D := (dC, dI)) (ci := 9) (v := .ref qt_symbol) (C := R_Sq) (T := F_Sq) (N := 14) hx hb ht i_Sq hown hK hP 0 rfl rfl 5 (by decide) (ht _ tb_263) (fun _ h9 => h9) rfl d_Sq_spoil_1 ?_
  refine lv_iload_n hx hb d_Sq_spoil_4 rfl (lv_at hl 1 rfl) ?_
  refine lv_iload_n hx hb d_Sq_spoil_5 rfl (lv_at hl 2 rfl) ?_
  refine lv_lload_n hx hb d_Sq_spoil_6 rfl (lv_at hl 3 rfl) ?_
  obtain ⟨r1, b2, hc3, Hf⟩ := sq_cb2_e Hf
  refine sq_rwi (wn := (ww_Sq_spoil qt qt_symbol qt_symbol_words qt_data qt_division qt_codewords qt_mender qt_parser qt_frame qt_judge qt_made qt_madeSegments qt_found ct_symbol_words vt_isMade vt_isRead vt_lastFault vt_symbol_side b2)) (va_runV (As := [.int p1, .int p2, .long p3]) (rest := []) ⟨hx, hb, hml, hown, ht⟩ (kt_Grid_turnFrom l dC dI qt_symbol qt_symbol_words ct_symbol_words vt_symbol_side vt_symbol_words p1 p2 p3 tt s.heap.size r1 b2 hc3) (cwV 3 ht (sq_gV tb_333 tb_334 tb_335 tb_8 tb_336) rfl rfl rfl (by decide +kernel) ⟨Nat.le_of_ble_eq_true rfl, Nat.le_of_ble_eq_true rfl⟩) (sq_rwVX (hP.sub (ws' := (ww_Grid_turnFrom qt_symbol qt_symbol_words ct_symbol_words vt_symbol_side vt_symbol_words)) [1, 2] rfl) (hK.sub (tys' := [(ct_symbol_words, .long)]) [0] rfl) (hD.sub (ws' := (ww_Grid_turnFrom qt_symbol qt_symbol_words ct_symbol_words vt_symbol_side vt_symbol_words)) [1, 2] (by decide) rfl) (va_recv hK hP (ci := 6) (q0 := 1) rfl rfl) hX hS (va_free (wc := (ww_Grid_turnFrom qt_symbol qt_symbol_words ct_symbol_words vt_symbol_side vt_symbol_words)) hD hS hA [1, 2] rfl)) rfl rfl hl.1 rfl (lv_room (Nat.le_of_ble_eq_true rfl)) d_Sq_spoil_7 ⟨Nat.le_of_ble_eq_true rfl, Nat.le_of_ble_eq_true rfl⟩) hP hD hS hA [1, 2] [0] [0, 1, 2] rfl rfl (by decide) (by decide) rfl (by decide) (fun H locs hP hD hS => ?_)
  obtain ⟨rfl, rfl⟩ := sq_so2 Hf
  exact W.iret hx hb hr (fun t ht hW => ⟨⟨_, (), rfl, rfl, by rw [ht]; exact hP, hD⟩, hS.F ht⟩) hS.2.2 d_Sq_spoil_10

def fn_Parser_parseGroup_tN (n0 : Nat) (p1 : Int32) (p2 : Int32) (vt_next : Int32) (vt_words_holds : Int32) (vt_words_bytes : Nat → Int32) : Option (Int32 × Int32) :=
  sq_cb1 (fn_Mode_groupBits p1 p2) fun r1 => sq_cb2 (fn_Parser_take r1 vt_next vt_words_holds vt_words_bytes) fun r3 y4 => if r3 = (-1 : Int32) then (some ((4 : Int32), y4)) else (sq_cb1 (fn_Mode_groupNumbers n0 p1 p2) fun r7 => if r3 < r7 then (sq_cb1 (fn_Mode_base p1) fun r10 => sq_bd (sq_max (1 : Int32) r10) fun x12 => if p2 ≤ (0 : Int32) then (some ((0 : Int32), y4)) else (some ((0 : Int32), y4))) else (some ((5 : Int32), y4)))
abbrev ww_Parser_parseGroup_tN (qt qt_words qt_words_bytes qt_words_field qt_words_generator qt_words_rest : Nat) (ct_words_bytes : ClassId) (vt_target : Value) (vt_version : Int32) (vt_next : Int32) (vt_size : Int32) (vt_segments : Int32) (vt_words_version : Int32) (vt_words_total : Int32) (vt_words_holds : Int32) (vt_words_blocks : Int32) (vt_words_checks : Int32) (vt_words_shortLength : Int32) (vt_words_shortBlocks : Int32) (vt_words_filled : Int32) (vt_words_waiting : Int32) (vt_words_waitingBits : Int32) (vt_words_bytes : Nat → Int32) : va_W := [(qt, .inr (5, [.ref qt_words, vt_target, .int vt_version, .int vt_next, .int vt_size, .int vt_segments])), (qt_words, .inr (3, [.ref qt_words_field, .ref qt_words_bytes, .ref qt_words_generator, .ref qt_words_rest, .int vt_words_version, .int vt_words_total, .int vt_words_holds, .int vt_words_blocks, .int vt_words_checks, .int vt_words_shortLength, .int vt_words_shortBlocks, .int vt_words_filled, .int vt_words_waiting, .int vt_words_waitingBits])), (qt_words_bytes, .inl (ct_words_bytes, 3706, .inl vt_words_bytes))]

def rm_Parser_parseGroup_tN : Room := { frames := 2, cells := 0, slots := 0, locals := 45 }
abbrev qc_Parser_parseGroup_tN (dC : Nat → ClassId) (dI : Nat → Nat → Nat) (A : Nat → Prop) (r0 : Int32) (qt qt_words qt_words_bytes qt_words_field qt_words_generator qt_words_rest : Nat) (ct_words_bytes : ClassId) (vt_target : Value) (vt_version : Int32) (vt_next : Int32) (vt_size : Int32) (vt_segments : Int32) (vt_words_version : Int32) (vt_words_total : Int32) (vt_words_holds : Int32) (vt_words_blocks : Int32) (vt_words_checks : Int32) (vt_words_shortLength : Int32) (vt_words_shortBlocks : Int32) (vt_words_filled : Int32) (vt_words_waiting : Int32) (vt_words_waitingBits : Int32) (vt_words_bytes : Nat → Int32) : Array Value → State → Outcome → State → Prop := va_Qi (fun r (_ : Unit) => r = r0) (fun _ t => va_P (dC, dI) cl_All (ww_Parser_parseGroup_tN qt qt_words qt_words_bytes qt_words_field qt_words_generator qt_words_rest ct_words_bytes vt_target vt_version vt_next vt_size vt_segments vt_words_version vt_words_total vt_words_holds vt_words_blocks vt_words_checks vt_words_shortLength vt_words_shortBlocks vt_words_filled vt_words_waiting vt_words_waitingBits vt_words_bytes) t.heap ∧ va_D A (ww_Parser_parseGroup_tN qt qt_words qt_words_bytes qt_words_field qt_words_generator qt_words_rest ct_words_bytes vt_target vt_version vt_next vt_size vt_segments vt_words_version vt_words_total vt_words_holds vt_words_blocks vt_words_checks vt_words_shortLength vt_words_shortBlocks vt_words_filled vt_words_waiting vt_words_waitingBits vt_words_bytes)) A

set_option maxHeartbeats 4000000 in
set_option maxRecDepth 100000 in
theorem kt_Parser_parseGroup_tN (l : Launch) (dC : Nat → ClassId) (dI : Nat → Nat → Nat) (qt qt_words qt_words_bytes qt_words_field qt_words_generator qt_words_rest : Nat) (ct_words_bytes : ClassId) (vt_version : Int32) (vt_next : Int32) (vt_size : Int32) (vt_segments : Int32) (vt_words_version : Int32) (vt_words_total : Int32) (vt_words_holds : Int32) (vt_words_blocks : Int32) (vt_words_checks : Int32) (vt_words_shortLength : Int32) (vt_words_shortBlocks : Int32) (vt_words_filled : Int32) (vt_words_waiting : Int32) (vt_words_waitingBits : Int32) (vt_words_bytes : Nat → Int32) (p1 : Int32) (p2 : Int32) (sz : Nat) (n0 : Nat) (r0 : Int32) (nvt_next : Int32) (Hf : fn_Parser_parseGroup_tN n0 p1 p2 vt_next vt_words_holds vt_words_bytes = some (r0, nvt_next)) : Met l y_Parser_parseGroup w_Parser_parseGroup rm_Parser_parseGroup_tN (va_Pc [.ref qt, .int p1, .int p2] (fun U => U.heap.size = sz ∧ va_P (dC, dI) cl_All (ww_Parser_parseGroup_tN qt qt_words qt_words_bytes qt_words_field qt_words_generator qt_words_rest ct_words_bytes (.null) vt_version vt_next vt_size vt_segments vt_words_version vt_words_total vt_words_holds vt_words_blocks vt_words_checks vt_words_shortLength vt_words_shortBlocks vt_words_filled vt_words_waiting vt_words_waitingBits vt_words_bytes) U.heap ∧ va_K (dC, dI) cl_All [(ct_words_bytes, .byte)] U ∧ va_D (fun _ => True) (ww_Parser_parseGroup_tN qt qt_words qt_words_bytes qt_words_field qt_words_generator qt_words_rest ct_words_bytes (.null) vt_version vt_next vt_size vt_segments vt_words_version vt_words_total vt_words_holds vt_words_blocks vt_words_checks vt_words_shortLength vt_words_shortBlocks vt_words_filled vt_words_waiting vt_words_waitingBits vt_words_bytes))) (qc_Parser_parseGroup_tN dC dI (va_A (ww_Parser_parseGroup_tN qt qt_words qt_words_bytes qt_words_field qt_words_generator qt_words_rest ct_words_bytes (.null) vt_version vt_next vt_size vt_segments vt_words_version vt_words_total vt_words_holds vt_words_blocks vt_words_checks vt_words_shortLength vt_words_shortBlocks vt_words_filled vt_words_waiting vt_words_waitingBits vt_words_bytes) sz) r0 qt qt_words qt_words_bytes qt_words_field qt_words_generator qt_words_rest ct_words_bytes (.null) vt_version nvt_next vt_size vt_segments vt_words_version vt_words_total vt_words_holds vt_words_blocks vt_words_checks vt_words_shortLength vt_words_shortBlocks vt_words_filled vt_words_waiting vt_words_waitingBits vt_words_bytes) 0 0 (va_A (ww_Parser_parseGroup_tN qt qt_words qt_words_bytes qt_words_field qt_words_generator qt_words_rest ct_words_bytes (.null) vt_version vt_next vt_size vt_segments vt_words_version vt_words_total vt_words_holds vt_words_blocks vt_words_checks vt_words_shortLength vt_words_shortBlocks vt_words_filled vt_words_waiting vt_words_waitingBits vt_words_bytes) sz) := by
  refine Met.ofW (cc := prog_10_method_6_code) (maxL := 7) (ret := (some .int)) (by decide) rfl ?_
  intro p e s m args below meth c s₁ B hml hv
  obtain ⟨rfl, hsz, hP, hK, hD0⟩ := hv
  have hx := B.exec; have hb := B.bytes; have hr := B.returns; have hlocks := B.notSynchronized
  have ht : ∀ w ∈ lw_g, w.before _ s = true := fun w h => atoms_spec (ws := w_Parser_parseGroup) B.pre w (List.mem_cons_of_mem _ h)
  have hown : s.vm.findClass "SquareSymbols$Parser" = some m.cls := findClass_of_methodNamed B.named
  subst hsz
  have hD := hD0.self (sz := s.heap.size)
  generalize hAe : va_A (ww_Parser_parseGroup_tN qt qt_words qt_words_bytes qt_words_field qt_words_generator qt_words_rest ct_words_bytes (.null) vt_version vt_next vt_size vt_segments vt_words_version vt_words_total vt_words_holds vt_words_blocks vt_words_checks vt_words_shortLength vt_words_shortBlocks vt_words_filled vt_words_waiting vt_words_waitingBits vt_words_bytes) s.heap.size = A at hD ⊢
  have hA : ∀ q : Nat, s.heap.size ≤ q → A q := fun q h => by rw [← hAe]; exact Or.inr h
  have hS : va_S A s.heap s.heap [] := va_S.rf
  have hl := lv_entry ([.ref qt, .int p1, .int p2]) (n := 7) (Nat.le_of_ble_eq_true rfl)
  rw [lg_entry_eq]
  generalize (lg_sl ([.ref qt, .int p1, .int p2]) ++ List.replicate (7 - (lg_sl ([.ref qt, .int p1, .int p2])).length) Slot.unset).toArray = ls at hl ⊢
  have hl : lv_has ls 7 [(0, .ref qt), (1, .int p1), (2, .int p2)] := hl
  refine lv_aload_n hx hb d_Parser_parseGroup_0 rfl (lv_at hl 0 rfl) ?_
  refine lv_iload_n hx hb d_Parser_parseGroup_1 rfl (lv_at hl 1 rfl) ?_
  refine lv_iload_n hx hb d_Parser_parseGroup_2 rfl (lv_at hl 2 rfl) ?_
  obtain ⟨r1, hc2, Hf⟩ := sq_cb1_e Hf
  refine sq_roi (va_runS (As := [.int p1, .int p2]) (rest := [.ref qt]) ⟨hx, hb, hml, hown, ht⟩ (kt_Mode_groupBits l dC dI p1 p2 r1 hc2) (va_cwS 2 ht (sq_gS tb_630 tb_631 tb_19 tb_632) rfl rfl rfl (by decide +kernel) ⟨Nat.le_of_ble_eq_true rfl, Nat.le_of_ble_eq_true rfl⟩) (sq_roS (hP.sub (ws' := ([] : va_W)) [] rfl) (hK.sub (tys' := []) [] rfl)) rfl rfl hl.1 rfl (lv_room (Nat.le_of_ble_eq_true rfl)) d_Parser_parseGroup_3 ⟨Nat.le_of_ble_eq_true rfl, Nat.le_of_ble_eq_true rfl⟩) ?_
  obtain ⟨r3, y4, hc5, Hf⟩ := sq_cb2_e Hf
  refine sq_rwi (wn := (ww_Parser_parseGroup_tN qt qt_words qt_words_bytes qt_words_field qt_words_generator qt_words_rest ct_words_bytes (.null) vt_version y4 vt_size vt_segments vt_words_version vt_words_total vt_words_holds vt_words_blocks vt_words_checks vt_words_shortLength vt_words_shortBlocks vt_words_filled vt_words_waiting vt_words_waitingBits vt_words_bytes)) (va_runV (As := [.int r1]) (rest := []) ⟨hx, hb, hml, hown, ht⟩ (kt_Parser_take l dC dI qt qt_words qt_words_bytes qt_words_field qt_words_generator qt_words_rest ct_words_bytes (.null) vt_version vt_next vt_size vt_segments vt_words_version vt_words_total vt_words_holds vt_words_blocks vt_words_checks vt_words_shortLength vt_words_shortBlocks vt_words_filled vt_words_waiting vt_words_waitingBits vt_words_bytes r1 s.heap.size r3 y4 hc5) (cwV 1 ht (sq_gV tb_604 tb_606 sl_16 tb_7 tb_607) rfl rfl rfl (by decide +kernel) ⟨Nat.le_of_ble_eq_true rfl, Nat.le_of_ble_eq_true rfl⟩) (sq_rwV (hP.sub (ws' := (ww_Parser_take qt qt_words qt_words_bytes qt_words_field qt_words_generator qt_words_rest ct_words_bytes (.null) vt_version vt_next vt_size vt_segments vt_words_version vt_words_total vt_words_holds vt_words_blocks vt_words_checks vt_words_shortLength vt_words_shortBlocks vt_words_filled vt_words_waiting vt_words_waitingBits vt_words_bytes)) [0, 1, 2] rfl) (hK.sub (tys' := [(ct_words_bytes, .byte)]) [0] rfl) (hD.sub (ws' := (ww_Parser_take qt qt_words qt_words_bytes qt_words_field qt_words_generator qt_words_rest ct_words_bytes (.null) vt_version vt_next vt_size vt_segments vt_words_version vt_words_total vt_words_holds vt_words_blocks vt_words_checks vt_words_shortLength vt_words_shortBlocks vt_words_filled vt_words_waiting vt_words_waitingBits vt_words_bytes)) [0, 1, 2] (by decide) rfl) (va_recv hK hP (ci := 5) (q0 := 0) rfl rfl)) rfl rfl hl.1 rfl (lv_room (Nat.le_of_ble_eq_true rfl)) d_Parser_parseGroup_6 ⟨Nat.le_of_ble_eq_true rfl, Nat.le_of_ble_eq_true rfl⟩) hP hD hS hA [0, 1, 2] [] [0, 1, 2] rfl rfl (by decide) (by decide) rfl (by decide) (fun H locs hP hD hS => ?_)
  refine lv_istore_n (lv' := [(3, .int r3), (0, .ref qt), (1, .int p1), (2, .int p2)]) hx hb d_Parser_parseGroup_9 rfl hl (by decide) rfl (fun ls hl => ?_)
  refine lv_iload_n hx hb d_Parser_parseGroup_10 rfl (lv_at hl 0 rfl) ?_
  refine lv_iconst (v := (-1 : Int32)) hx hb d_Parser_parseGroup_11 (by decide) ?_
  refine lv_icmp_ne (tgt := 17) hx hb d_Parser_parseGroup_12 (by decide) (fun c6 => ?_) (fun c6 => ?_)
  · replace Hf := sq_ite_f Hf c6
    refine lv_iload_n hx hb d_Parser_parseGroup_17 rfl (lv_at hl 2 rfl) ?_
    refine lv_iload_n hx hb d_Parser_parseGroup_18 rfl (lv_at hl 3 rfl) ?_
    obtain ⟨r7, hc8, Hf⟩ := sq_cb1_e Hf
    refine sq_roi (va_runS (As := [.int p1, .int p2]) (rest := []) ⟨hx, hb, hml, hown, ht⟩ (kt_Mode_groupNumbers l dC dI p1 p2 n0 r7 hc8) (va_cwS 2 ht (sq_gS tb_633 tb_634 tb_19 tb_635) rfl rfl rfl (by decide +kernel) ⟨Nat.le_of_ble_eq_true rfl, Nat.le_of_ble_eq_true rfl⟩) (sq_roS (hP.sub (ws' := ([] : va_W)) [] rfl) (hK.sub (tys' := []) [] rfl)) rfl rfl hl.1 rfl (lv_room (Nat.le_of_ble_eq_true rfl)) d_Parser_parseGroup_19 ⟨Nat.le_of_ble_eq_true rfl, Nat.le_of_ble_eq_true rfl⟩) ?_
    refine lv_istore (lv' := [(4, .int r7), (3, .int r3), (0, .ref qt), (1, .int p1), (2, .int p2)]) hx hb d_Parser_parseGroup_22 hl (by decide) rfl (fun ls hl => ?_)
    refine lv_iload_n hx hb d_Parser_parseGroup_24 rfl (lv_at hl 1 rfl) ?_
    refine lv_iload hx hb d_Parser_parseGroup_25 (lv_at hl 0 rfl) ?_
    refine lv_icmp_lt (tgt := 32) hx hb d_Parser_parseGroup_27 (by decide) (fun c9 => ?_) (fun c9 => ?_)
    · replace Hf := sq_ite_t Hf c9
      refine lv_iconst (v := (1 : Int32)) hx hb d_Parser_parseGroup_32 (by decide) ?_
      refine lv_iload_n hx hb d_Parser_parseGroup_33 rfl (lv_at hl 3 rfl) ?_
      obtain ⟨r10, hc11, Hf⟩ := sq_cb1_e Hf
      refine sq_roi (va_runS (As := [.int p1]) (rest := [.int (1 : Int32)]) ⟨hx, hb, hml, hown, ht⟩ (kt_Mode_base l dC dI p1 r10 hc11) (va_cwS 1 ht (sq_gS tb_639 tb_637 tb_19 tb_638) rfl rfl rfl (by decide +kernel) ⟨Nat.le_of_ble_eq_true rfl, Nat.le_of_ble_eq_true rfl⟩) (sq_roS (hP.sub (ws' := ([] : va_W)) [] rfl) (hK.sub (tys' := []) [] rfl)) rfl rfl hl.1 rfl (lv_room (Nat.le_of_ble_eq_true rfl)) d_Parser_parseGroup_34 ⟨Nat.le_of_ble_eq_true rfl, Nat.le_of_ble_eq_true rfl⟩) ?_
      refine va_mmax hx hb (by rw [hml]; exact hl.1.symm) hown (ht _ tb_624) (ht _ tb_416) (ht _ tb_17) (ht _ tb_417) (Nat.le_of_ble_eq_true rfl) (Nat.le_of_ble_eq_true rfl) (Nat.zero_le _) (Nat.zero_le _) d_Parser_parseGroup_37 ?_
      obtain ⟨x12, ex12, Hf⟩ := sq_bd_e Hf
      refine sq_top ex12 ?_
      refine lv_istore (lv' := [(5, .int x12), (4, .int r7), (3, .int r3), (0, .ref qt), (1, .int p1), (2, .int p2)]) hx hb d_Parser_parseGroup_40 hl (by decide) rfl (fun ls hl => ?_)
      refine lv_iconst (v := (0 : Int32)) hx hb d_Parser_parseGroup_42 (by decide) ?_
      refine lv_istore (lv' := [(6, .int (0 : Int32)), (5, .int x12), (4, .int r7), (3, .int r3), (0, .ref qt), (1, .int p1), (2, .int p2)]) hx hb d_Parser_parseGroup_43 hl (by decide) rfl (fun ls hl => ?_)
      refine lv_iload hx hb d_Parser_parseGroup_45 (lv_at hl 0 rfl) ?_
      refine lv_iload_n hx hb d_Parser_parseGroup_47 rfl (lv_at hl 6 rfl) ?_
      refine lv_icmp_ge (tgt := 93) hx hb d_Parser_parseGroup_48 (by decide) (fun c13 => ?_) (fun c13 => ?_)
      · replace Hf := sq_ite_t Hf c13
        refine lv_iconst (v := (0 : Int32)) hx hb d_Parser_parseGroup_93 (by decide) ?_
        obtain ⟨rfl, rfl⟩ := sq_so2 Hf
        exact W.iret hx hb hr (fun t ht hW => ⟨⟨_, (), rfl, rfl, by rw [ht]; exact hP, hD⟩, hS.F ht⟩) hS.2.2 d_Parser_parseGroup_94
      · replace Hf := sq_ite_f Hf c13
        refine lv_aload_n hx hb d_Parser_parseGroup_51 rfl (lv_at hl 4 rfl) ?_
        refine va_get (D := (dC, dI)) (ci := 5) (v := .null) (C := R_Parser) (T := F_Parser) (N := 6) hx hb ht i_Parser hown hK hP 0 rfl rfl 1 (by decide) (ht _ tb_185) (fun _ h9 => h9) rfl d_Parser_parseGroup_52 ?_
        refine lv_ifnullN (tgt := 93) hx hb d_Parser_parseGroup_55 (by decide) ?_
        refine lv_iconst (v := (0 : Int32)) hx hb d_Parser_parseGroup_93 (by decide) ?_
        obtain ⟨rfl, rfl⟩ := sq_so2 Hf
        exact W.iret hx hb hr (fun t ht hW => ⟨⟨_, (), rfl, rfl, by rw [ht]; exact hP, hD⟩, hS.F ht⟩) hS.2.2 d_Parser_parseGroup_94
    · replace Hf := sq_ite_f Hf c9
      refine lv_iconst (v := (5 : Int32)) hx hb d_Parser_parseGroup_30 (by decide) ?_
      obtain ⟨rfl, rfl⟩ := sq_so2 Hf
      exact W.iret hx hb hr (fun t ht hW => ⟨⟨_, (), rfl, rfl, by rw [ht]; exact hP, hD⟩, hS.F ht⟩) hS.2.2 d_Parser_parseGroup_31
  · replace Hf := sq_ite_t Hf c6
    refine lv_iconst (v := (4 : Int32)) hx hb d_Parser_parseGroup_15 (by decide) ?_
    obtain ⟨rfl, rfl⟩ := sq_so2 Hf
    exact W.iret hx hb hr (fun t ht hW => ⟨⟨_, (), rfl, rfl, by rw [ht]; exact hP, hD⟩, hS.F ht⟩) hS.2.2 d_Parser_parseGroup_16

def fn_Parser_parseSegment_tN_L1 (p1 : Int32) (n0 : Nat) (vt_words_holds : Int32) (vt_words_bytes : Nat → Int32) (r3 : Int32) (x8 : Int32) (x11 : Int32) : Nat → Int32 → Int32 → Option (Int32 × Int32 × Int32)
  | 0, _, _ => none
  | m1 + 1, x12, b13 => if r3 ≤ x12 then (some ((0 : Int32), b13, x8)) else (sq_bd (r3 - x12) fun x15 => sq_bd (sq_min x11 x15) fun x16 => sq_cb2 (fn_Parser_parseGroup_tN n0 p1 x16 b13 vt_words_holds vt_words_bytes) fun r17 y18 => if r17 = 0 then (sq_bd (x12 + x11) fun x21 => fn_Parser_parseSegment_tN_L1 p1 n0 vt_words_holds vt_words_bytes r3 x8 x11 m1 x21 y18) else (some (r17, y18, x8)))
theorem fn_Parser_parseSegment_tN_L1_s (p1 : Int32) (n0 : Nat) (vt_words_holds : Int32) (vt_words_bytes : Nat → Int32) (r3 : Int32) (x8 : Int32) (x11 : Int32) (m1 : Nat) (x12 : Int32) (b13 : Int32) : fn_Parser_parseSegment_tN_L1 p1 n0 vt_words_holds vt_words_bytes r3 x8 x11 (m1 + 1) x12 b13 = if r3 ≤ x12 then (some ((0 : Int32), b13, x8)) else (sq_bd (r3 - x12) fun x15 => sq_bd (sq_min x11 x15) fun x16 => sq_cb2 (fn_Parser_parseGroup_tN n0 p1 x16 b13 vt_words_holds vt_words_bytes) fun r17 y18 => if r17 = 0 then (sq_bd (x12 + x11) fun x21 => fn_Parser_parseSegment_tN_L1 p1 n0 vt_words_holds vt_words_bytes r3 x8 x11 m1 x21 y18) else (some (r17, y18, x8))) := rfl
def fn_Parser_parseSegment_tN (n0 : Nat) (p1 : Int32) (vt_version : Int32) (vt_next : Int32) (vt_size : Int32) (vt_words_holds : Int32) (vt_words_bytes : Nat → Int32) : Option (Int32 × Int32 × Int32) :=
  sq_cb1 (fn_Version_countBits p1 vt_version) fun r1 => sq_cb2 (fn_Parser_take r1 vt_next vt_words_holds vt_words_bytes) fun r3 y4 => if r3 = (-1 : Int32) then (some ((4 : Int32), y4, vt_size)) else (if r3 ≤ ((3000 : Int32) - vt_size) then (sq_bd (vt_size + r3) fun x8 => sq_cb1 (fn_Mode_groupSize p1) fun r9 => sq_bd (sq_max (1 : Int32) r9) fun x11 => fn_Parser_parseSegment_tN_L1 p1 n0 vt_words_holds vt_words_bytes r3 x8 x11 n0 (0 : Int32) y4) else (some ((6 : Int32), y4, vt_size)))
abbrev ww_Parser_parseSegment_tN (qt qt_words qt_words_bytes qt_words_field qt_words_generator qt_words_rest : Nat) (ct_words_bytes : ClassId) (vt_target : Value) (vt_version : Int32) (vt_next : Int32) (vt_size : Int32) (vt_segments : Int32) (vt_words_version : Int32) (vt_words_total : Int32) (vt_words_holds : Int32) (vt_words_blocks : Int32) (vt_words_checks : Int32) (vt_words_shortLength : Int32) (vt_words_shortBlocks : Int32) (vt_words_filled : Int32) (vt_words_waiting : Int32) (vt_words_waitingBits : Int32) (vt_words_bytes : Nat → Int32) : va_W := [(qt, .inr (5, [.ref qt_words, vt_target, .int vt_version, .int vt_next, .int vt_size, .int vt_segments])), (qt_words, .inr (3, [.ref qt_words_field, .ref qt_words_bytes, .ref qt_words_generator, .ref qt_words_rest, .int vt_words_version, .int vt_words_total, .int vt_words_holds, .int vt_words_blocks, .int vt_words_checks, .int vt_words_shortLength, .int vt_words_shortBlocks, .int vt_words_filled, .int vt_words_waiting, .int vt_words_waitingBits])), (qt_words_bytes, .inl (ct_words_bytes, 3706, .inl vt_words_bytes))]

def rm_Parser_parseSegment_tN : Room := { frames := 3, cells := 0, slots := 0, locals := 71 }
abbrev qc_Parser_parseSegment_tN (dC : Nat → ClassId) (dI : Nat → Nat → Nat) (A : Nat → Prop) (r0 : Int32) (qt qt_words qt_words_bytes qt_words_field qt_words_generator qt_words_rest : Nat) (ct_words_bytes : ClassId) (vt_target : Value) (vt_version : Int32) (vt_next : Int32) (vt_size : Int32) (vt_segments : Int32) (vt_words_version : Int32) (vt_words_total : Int32) (vt_words_holds : Int32) (vt_words_blocks : Int32) (vt_words_checks : Int32) (vt_words_shortLength : Int32) (vt_words_shortBlocks : Int32) (vt_words_filled : Int32) (vt_words_waiting : Int32) (vt_words_waitingBits : Int32) (vt_words_bytes : Nat → Int32) : Array Value → State → Outcome → State → Prop := va_Qi (fun r (_ : Unit) => r = r0) (fun _ t => va_P (dC, dI) cl_All (ww_Parser_parseSegment_tN qt qt_words qt_words_bytes qt_words_field qt_words_generator qt_words_rest ct_words_bytes vt_target vt_version vt_next vt_size vt_segments vt_words_version vt_words_total vt_words_holds vt_words_blocks vt_words_checks vt_words_shortLength vt_words_shortBlocks vt_words_filled vt_words_waiting vt_words_waitingBits vt_words_bytes) t.heap ∧ va_D A (ww_Parser_parseSegment_tN qt qt_words qt_words_bytes qt_words_field qt_words_generator qt_words_rest ct_words_bytes vt_target vt_version vt_next vt_size vt_segments vt_words_version vt_words_total vt_words_holds vt_words_blocks vt_words_checks vt_words_shortLength vt_words_shortBlocks vt_words_filled vt_words_waiting vt_words_waitingBits vt_words_bytes)) A

set_option maxHeartbeats 4000000 in
set_option maxRecDepth 100000 in
theorem kt_Parser_parseSegment_tN (l : Launch) (dC : Nat → ClassId) (dI : Nat → Nat → Nat) (qt qt_words qt_words_bytes qt_words_field qt_words_generator qt_words_rest : Nat) (ct_words_bytes : ClassId) (vt_version : Int32) (vt_next : Int32) (vt_size : Int32) (vt_segments : Int32) (vt_words_version : Int32) (vt_words_total : Int32) (vt_words_holds : Int32) (vt_words_blocks : Int32) (vt_words_checks : Int32) (vt_words_shortLength : Int32) (vt_words_shortBlocks : Int32) (vt_words_filled : Int32) (vt_words_waiting : Int32) (vt_words_waitingBits : Int32) (vt_words_bytes : Nat → Int32) (p1 : Int32) (tt : Nat → Nat) (sz : Nat) (n0 : Nat) (r0 : Int32) (nvt_next : Int32) (nvt_size : Int32) (Hf : fn_Parser_parseSegment_tN n0 p1 vt_version vt_next vt_size vt_words_holds vt_words_bytes = some (r0, nvt_next, nvt_size)) : Met l y_Parser_parseSegment w_Parser_parseSegment rm_Parser_parseSegment_tN (va_Pc [.ref qt, .int p1] (fun U => U.heap.size = sz ∧ va_P (dC, dI) cl_All (ww_Parser_parseSegment_tN qt qt_words qt_words_bytes qt_words_field qt_words_generator qt_words_rest ct_words_bytes (.null) vt_version vt_next vt_size vt_segments vt_words_version vt_words_total vt_words_holds vt_words_blocks vt_words_checks vt_words_shortLength vt_words_shortBlocks vt_words_filled vt_words_waiting vt_words_waitingBits vt_words_bytes) U.heap ∧ va_K (dC, dI) cl_All [(ct_words_bytes, .byte)] U ∧ va_D (fun _ => True) (ww_Parser_parseSegment_tN qt qt_words qt_words_bytes qt_words_field qt_words_generator qt_words_rest ct_words_bytes (.null) vt_version vt_next vt_size vt_segments vt_words_version vt_words_total vt_words_holds vt_words_blocks vt_words_checks vt_words_shortLength vt_words_shortBlocks vt_words_filled vt_words_waiting vt_words_waitingBits vt_words_bytes) ∧ sx_T tt (va_A (ww_Parser_parseSegment_tN qt qt_words qt_words_bytes qt_words_field qt_words_generator qt_words_rest ct_words_bytes (.null) vt_version vt_next vt_size vt_segments vt_words_version vt_words_total vt_words_holds vt_words_blocks vt_words_checks vt_words_shortLength vt_words_shortBlocks vt_words_filled vt_words_waiting vt_words_waitingBits vt_words_bytes) sz) U U.heap)) (qc_Parser_parseSegment_tN dC dI (va_A (ww_Parser_parseSegment_tN qt qt_words qt_words_bytes qt_words_field qt_words_generator qt_words_rest ct_words_bytes (.null) vt_version vt_next vt_size vt_segments vt_words_version vt_words_total vt_words_holds vt_words_blocks vt_words_checks vt_words_shortLength vt_words_shortBlocks vt_words_filled vt_words_waiting vt_words_waitingBits vt_words_bytes) sz) r0 qt qt_words qt_words_bytes qt_words_field qt_words_generator qt_words_rest ct_words_bytes (.null) vt_version nvt_next nvt_size vt_segments vt_words_version vt_words_total vt_words_holds vt_words_blocks vt_words_checks vt_words_shortLength vt_words_shortBlocks vt_words_filled vt_words_waiting vt_words_waitingBits vt_words_bytes) 0 0 (va_A (ww_Parser_parseSegment_tN qt qt_words qt_words_bytes qt_words_field qt_words_generator qt_words_rest ct_words_bytes (.null) vt_version vt_next vt_size vt_segments vt_words_version vt_words_total vt_words_holds vt_words_blocks vt_words_checks vt_words_shortLength vt_words_shortBlocks vt_words_filled vt_words_waiting vt_words_waitingBits vt_words_bytes) sz) := by
  refine Met.ofW (cc := prog_10_method_5_code) (maxL := 6) (ret := (some .int)) (by decide) rfl ?_
  intro p e s m args below meth c s₁ B hml hv
  obtain ⟨rfl, hsz, hP, hK, hD0, hX⟩ := hv
  have hx := B.exec; have hb := B.bytes; have hr := B.returns; have hlocks := B.notSynchronized
  have ht : ∀ w ∈ lw_g, w.before _ s = true := fun w h => atoms_spec (ws := w_Parser_parseSegment) B.pre w (List.mem_cons_of_mem _ h)
  have hown : s.vm.findClass "SquareSymbols$Parser" = some m.cls := findClass_of_methodNamed B.named
  subst hsz
  have hD := hD0.self (sz := s.heap.size)
  generalize hAe : va_A (ww_Parser_parseSegment_tN qt qt_words qt_words_bytes qt_words_field qt_words_generator qt_words_rest ct_words_bytes (.null) vt_version vt_next vt_size vt_segments vt_words_version vt_words_total vt_words_holds vt_words_blocks vt_words_checks vt_words_shortLength vt_words_shortBlocks vt_words_filled vt_words_waiting vt_words_waitingBits vt_words_bytes) s.heap.size = A at hD hX ⊢
  have hA : ∀ q : Nat, s.heap.size ≤ q → A q := fun q h => by rw [← hAe]; exact Or.inr h
  have hS : va_S A s.heap s.heap [] := va_S.rf
  have hl := lv_entry ([.ref qt, .int p1]) (n := 6) (Nat.le_of_ble_eq_true rfl)
  rw [lg_entry_eq]
  generalize (lg_sl ([.ref qt, .int p1]) ++ List.replicate (6 - (lg_sl ([.ref qt, .int p1])).length) Slot.unset).toArray = ls at hl ⊢
  have hl : lv_has ls 6 [(0, .ref qt), (1, .int p1)] := hl
  refine lv_aload_n hx hb d_Parser_parseSegment_0 rfl (lv_at hl 0 rfl) ?_
  refine lv_iload_n hx hb d_Parser_parseSegment_1 rfl (lv_at hl 1 rfl) ?_
  refine lv_aload_n hx hb d_Parser_parseSegment_2 rfl (lv_at hl 0 rfl) ?_
  refine va_get (D := (dC, dI)) (ci := 5) (v := .int vt_version) (C := R_Parser) (T := F_Parser) (N := 6) hx hb ht i_Parser hown hK hP 0 rfl rfl 2 (by decide) (ht _ tb_186) (fun _ h9 => h9) rfl d_Parser_parseSegment_3 ?_
  obtain ⟨r1, hc2, Hf⟩ := sq_cb1_e Hf
  refine sq_roi (va_runS (As := [.int p1, .int vt_version]) (rest := [.ref qt]) ⟨hx, hb, hml, hown, ht⟩ (kt_Version_countBits l dC dI p1 vt_version tt r1 hc2) (va_cwS 2 ht (sq_gS tb_613 tb_614 tb_16 tb_615) rfl rfl rfl (by decide +kernel) ⟨Nat.le_of_ble_eq_true rfl, Nat.le_of_ble_eq_true rfl⟩) (sq_roSX (hP.sub (ws' := ([] : va_W)) [] rfl) (hK.sub (tys' := []) [] rfl) hX hS (fun _ h => h.elim)) rfl rfl hl.1 rfl (lv_room (Nat.le_of_ble_eq_true rfl)) d_Parser_parseSegment_6 ⟨Nat.le_of_ble_eq_true rfl, Nat.le_of_ble_eq_true rfl⟩) ?_
  obtain ⟨r3, y4, hc5, Hf⟩ := sq_cb2_e Hf
  refine sq_rwi (wn := (ww_Parser_parseSegment_tN qt qt_words qt_words_bytes qt_words_field qt_words_generator qt_words_rest ct_words_bytes (.null) vt_version y4 vt_size vt_segments vt_words_version vt_words_total vt_words_holds vt_words_blocks vt_words_checks vt_words_shortLength vt_words_shortBlocks vt_words_filled vt_words_waiting vt_words_waitingBits vt_words_bytes)) (va_runV (As := [.int r1]) (rest := []) ⟨hx, hb, hml, hown, ht⟩ (kt_Parser_take l dC dI qt qt_words qt_words_bytes qt_words_field qt_words_generator qt_words_rest ct_words_bytes (.null) vt_version vt_next vt_size vt_segments vt_words_version vt_words_total vt_words_holds vt_words_blocks vt_words_checks vt_words_shortLength vt_words_shortBlocks vt_words_filled vt_words_waiting vt_words_waitingBits vt_words_bytes r1 s.heap.size r3 y4 hc5) (cwV 1 ht (sq_gV tb_604 tb_606 sl_16 tb_7 tb_607) rfl rfl rfl (by decide +kernel) ⟨Nat.le_of_ble_eq_true rfl, Nat.le_of_ble_eq_true rfl⟩) (sq_rwV (hP.sub (ws' := (ww_Parser_take qt qt_words qt_words_bytes qt_words_field qt_words_generator qt_words_rest ct_words_bytes (.null) vt_version vt_next vt_size vt_segments vt_words_version vt_words_total vt_words_holds vt_words_blocks vt_words_checks vt_words_shortLength vt_words_shortBlocks vt_words_filled vt_words_waiting vt_words_waitingBits vt_words_bytes)) [0, 1, 2] rfl) (hK.sub (tys' := [(ct_words_bytes, .byte)]) [0] rfl) (hD.sub (ws' := (ww_Parser_take qt qt_words qt_words_bytes qt_words_field qt_words_generator qt_words_rest ct_words_bytes (.null) vt_version vt_next vt_size vt_segments vt_words_version vt_words_total vt_words_holds vt_words_blocks vt_words_checks vt_words_shortLength vt_words_shortBlocks vt_words_filled vt_words_waiting vt_words_waitingBits vt_words_bytes)) [0, 1, 2] (by decide) rfl) (va_recv hK hP (ci := 5) (q0 := 0) rfl rfl)) rfl rfl hl.1 rfl (lv_room (Nat.le_of_ble_eq_true rfl)) d_Parser_parseSegment_9 ⟨Nat.le_of_ble_eq_true rfl, Nat.le_of_ble_eq_true rfl⟩) hP hD hS hA [0, 1, 2] [] [0, 1, 2] rfl rfl (by decide) (by decide) rfl (by decide) (fun H locs hP hD hS => ?_)
  refine lv_istore_n (lv' := [(2, .int r3), (0, .ref qt), (1, .int p1)]) hx hb d_Parser_parseSegment_12 rfl hl (by decide) rfl (fun ls hl => ?_)
  refine lv_iload_n hx hb d_Parser_parseSegment_13 rfl (lv_at hl 0 rfl) ?_
  refine lv_iconst (v := (-1 : Int32)) hx hb d_Parser_parseSegment_14 (by decide) ?_
  refine lv_icmp_ne (tgt := 20) hx hb d_Parser_parseSegment_15 (by decide) (fun c6 => ?_) (fun c6 => ?_)
  · replace Hf := sq_ite_f Hf c6
    refine lv_iload_n hx hb d_Parser_parseSegment_20 rfl (lv_at hl 0 rfl) ?_
    refine lv_sipush (v := (3000 : Int32)) hx hb d_Parser_parseSegment_21 (by decide) ?_
    refine lv_aload_n hx hb d_Parser_parseSegment_24 rfl (lv_at hl 1 rfl) ?_
    refine va_get (D := (dC, dI)) (ci := 5) (v := .int vt_size) (C := R_Parser) (T := F_Parser) (N := 6) hx hb ht i_Parser hown hK hP 0 rfl rfl 4 (by decide) (ht _ tb_188) (fun _ h9 => h9) rfl d_Parser_parseSegment_25 ?_
    refine lv_isub hx hb d_Parser_parseSegment_28 ?_
    refine lv_icmp_le (tgt := 35) hx hb d_Parser_parseSegment_29 (by decide) (fun c7 => ?_) (fun c7 => ?_)
    · replace Hf := sq_ite_t Hf c7
      refine lv_aload_n hx hb d_Parser_parseSegment_35 rfl (lv_at hl 1 rfl) ?_
      refine lv_dup hx hb d_Parser_parseSegment_36 rfl ?_
      refine va_get (D := (dC, dI)) (ci := 5) (v := .int vt_size) (C := R_Parser) (T := F_Parser) (N := 6) hx hb ht i_Parser hown hK hP 0 rfl rfl 4 (by decide) (ht _ tb_188) (fun _ h9 => h9) rfl d_Parser_parseSegment_37 ?_
      refine lv_iload_n hx hb d_Parser_parseSegment_40 rfl (lv_at hl 0 rfl) ?_
      refine lv_iadd hx hb d_Parser_parseSegment_41 ?_
      obtain ⟨x8, ex8, Hf⟩ := sq_bd_e Hf
      refine sq_top ex8 ?_
      refine va_put (D := (dC, dI)) (ci := 5) (v := .int x8) (ty := .int) (C := R_Parser) (T := F_Parser) (N := 6) hx hb ht i_Parser t_Parser t_Parser_ok n_Parser hown hK hP hD hS 0 rfl rfl 4 (by decide) (ht _ tb_188) (fun _ h9 => h9) rfl (by decide +kernel) rfl rfl (Nat.le_of_ble_eq_true rfl) d_Parser_parseSegment_42 (fun H locs hP hD hS => ?_)
      replace hP : va_P (dC, dI) cl_All (ww_Parser_parseSegment_tN qt qt_words qt_words_bytes qt_words_field qt_words_generator qt_words_rest ct_words_bytes (.null) vt_version y4 x8 vt_segments vt_words_version vt_words_total vt_words_holds vt_words_blocks vt_words_checks vt_words_shortLength vt_words_shortBlocks vt_words_filled vt_words_waiting vt_words_waitingBits vt_words_bytes) H := hP
      replace hD : va_D A (ww_Parser_parseSegment_tN qt qt_words qt_words_bytes qt_words_field qt_words_generator qt_words_rest ct_words_bytes (.null) vt_version y4 x8 vt_segments vt_words_version vt_words_total vt_words_holds vt_words_blocks vt_words_checks vt_words_shortLength vt_words_shortBlocks vt_words_filled vt_words_waiting vt_words_waitingBits vt_words_bytes) := hD
      refine lv_iconst (v := (1 : Int32)) hx hb d_Parser_parseSegment_45 (by decide) ?_
      refine lv_iload_n hx hb d_Parser_parseSegment_46 rfl (lv_at hl 2 rfl) ?_
      obtain ⟨r9, hc10, Hf⟩ := sq_cb1_e Hf
      refine sq_roi (va_runS (As := [.int p1]) (rest := [.int (1 : Int32)]) ⟨hx, hb, hml, hown, ht⟩ (kt_Mode_groupSize l dC dI p1 r9 hc10) (va_cwS 1 ht (sq_gS tb_621 tb_622 tb_19 tb_623) rfl rfl rfl (by decide +kernel) ⟨Nat.le_of_ble_eq_true rfl, Nat.le_of_ble_eq_true rfl⟩) (sq_roS (hP.sub (ws' := ([] : va_W)) [] rfl) (hK.sub (tys' := []) [] rfl)) rfl rfl hl.1 rfl (lv_room (Nat.le_of_ble_eq_true rfl)) d_Parser_parseSegment_47 ⟨Nat.le_of_ble_eq_true rfl, Nat.le_of_ble_eq_true rfl⟩) ?_
      refine va_mmax hx hb (by rw [hml]; exact hl.1.symm) hown (ht _ tb_624) (ht _ tb_416) (ht _ tb_17) (ht _ tb_417) (Nat.le_of_ble_eq_true rfl) (Nat.le_of_ble_eq_true rfl) (Nat.zero_le _) (Nat.zero_le _) d_Parser_parseSegment_50 ?_
      obtain ⟨x11, ex11, Hf⟩ := sq_bd_e Hf
      refine sq_top ex11 ?_
      refine lv_istore_n (lv' := [(3, .int x11), (2, .int r3), (0, .ref qt), (1, .int p1)]) hx hb d_Parser_parseSegment_53 rfl hl (by decide) rfl (fun ls hl => ?_)
      refine lv_iconst (v := (0 : Int32)) hx hb d_Parser_parseSegment_54 (by decide) ?_
      refine lv_istore (lv' := [(4, .int (0 : Int32)), (3, .int x11), (2, .int r3), (0, .ref qt), (1, .int p1)]) hx hb d_Parser_parseSegment_55 hl (by decide) rfl (fun ls hl => ?_)
      have L1 : ∀ (m1 : Nat), ∀ (x12 : Int32) (b13 : Int32), fn_Parser_parseSegment_tN_L1 p1 n0 vt_words_holds vt_words_bytes r3 x8 x11 m1 x12 b13 = some (r0, nvt_next, nvt_size) → ∀ (H : Heap) (locs : List Loc), va_P (dC, dI) cl_All (ww_Parser_parseSegment_tN qt qt_words qt_words_bytes qt_words_field qt_words_generator qt_words_rest ct_words_bytes (.null) vt_version b13 x8 vt_segments vt_words_version vt_words_total vt_words_holds vt_words_blocks vt_words_checks vt_words_shortLength vt_words_shortBlocks vt_words_filled vt_words_waiting vt_words_waitingBits vt_words_bytes) H → va_D A (ww_Parser_parseSegment_tN qt qt_words qt_words_bytes qt_words_field qt_words_generator qt_words_rest ct_words_bytes (.null) vt_version b13 x8 vt_segments vt_words_version vt_words_total vt_words_holds vt_words_blocks vt_words_checks vt_words_shortLength vt_words_shortBlocks vt_words_filled vt_words_waiting vt_words_waitingBits vt_words_bytes) → va_S A s.heap H locs → ∀ ls : Array Slot, lv_has ls 6 [(0, .ref qt), (1, .int p1), (2, .int r3), (3, .int x11), (4, .int x12)] → W p l e (headSpec w_Parser_parseSegment rm_Parser_parseSegment_tN).room s m (([.ref qt, .int p1] : List Value).toArray) below meth c H locs 0 0 (MQ below (qc_Parser_parseSegment_tN dC dI A r0 qt qt_words qt_words_bytes qt_words_field qt_words_generator qt_words_rest ct_words_bytes (.null) vt_version nvt_next nvt_size vt_segments vt_words_version vt_words_total vt_words_holds vt_words_blocks vt_words_checks vt_words_shortLength vt_words_shortBlocks vt_words_filled vt_words_waiting vt_words_waitingBits vt_words_bytes) (([.ref qt, .int p1] : List Value).toArray) s 0 0 A) (F0 m 57 ls []) := by
        intro m1
        induction m1 with
        | zero => intro x12 b13 Hf; exact sq_none Hf
        | succ m1 ih1 =>
          intro x12 b13 Hf H locs  hP hD hS ls hl
          replace Hf := (fn_Parser_parseSegment_tN_L1_s p1 n0 vt_words_holds vt_words_bytes r3 x8 x11 m1 x12 b13).symm.trans Hf
          refine lv_iload hx hb d_Parser_parseSegment_57 (lv_at hl 4 rfl) ?_
          refine lv_iload_n hx hb d_Parser_parseSegment_59 rfl (lv_at hl 2 rfl) ?_
          refine lv_icmp_ge (tgt := 95) hx hb d_Parser_parseSegment_60 (by decide) (fun c14 => ?_) (fun c14 => ?_)
          · replace Hf := sq_ite_t Hf c14
            refine lv_iconst (v := (0 : Int32)) hx hb d_Parser_parseSegment_95 (by decide) ?_
            obtain ⟨rfl, rfl, rfl⟩ := sq_so3 Hf
            exact W.iret hx hb hr (fun t ht hW => ⟨⟨_, (), rfl, rfl, by rw [ht]; exact hP, hD⟩, hS.F ht⟩) hS.2.2 d_Parser_parseSegment_96
          · replace Hf := sq_ite_f Hf c14
            refine lv_aload_n hx hb d_Parser_parseSegment_63 rfl (lv_at hl 0 rfl) ?_
            refine lv_iload_n hx hb d_Parser_parseSegment_64 rfl (lv_at hl 1 rfl) ?_
            refine lv_iload_n hx hb d_Parser_parseSegment_65 rfl (lv_at hl 3 rfl) ?_
            refine lv_iload_n hx hb d_Parser_parseSegment_66 rfl (lv_at hl 2 rfl) ?_
            refine lv_iload hx hb d_Parser_parseSegment_67 (lv_at hl 4 rfl) ?_
            refine lv_isub hx hb d_Parser_parseSegment_69 ?_
            obtain ⟨x15, ex15, Hf⟩ := sq_bd_e Hf
            refine sq_top ex15 ?_
            refine va_mmin hx hb (by rw [hml]; exact hl.1.symm) hown (ht _ tb_625) (ht _ tb_427) (ht _ tb_17) (ht _ tb_428) (Nat.le_of_ble_eq_true rfl) (Nat.le_of_ble_eq_true rfl) (Nat.zero_le _) (Nat.zero_le _) d_Parser_parseSegment_70 ?_
            obtain ⟨x16, ex16, Hf⟩ := sq_bd_e Hf
            refine sq_top ex16 ?_
            obtain ⟨r17, y18, hc19, Hf⟩ := sq_cb2_e Hf
            refine sq_rwi (wn := (ww_Parser_parseSegment_tN qt qt_words qt_words_bytes qt_words_field qt_words_generator qt_words_rest ct_words_bytes (.null) vt_version y18 x8 vt_segments vt_words_version vt_words_total vt_words_holds vt_words_blocks vt_words_checks vt_words_shortLength vt_words_shortBlocks vt_words_filled vt_words_waiting vt_words_waitingBits vt_words_bytes)) (va_runV (As := [.int p1, .int x16]) (rest := []) ⟨hx, hb, hml, hown, ht⟩ (kt_Parser_parseGroup_tN l dC dI qt qt_words qt_words_bytes qt_words_field qt_words_generator qt_words_rest ct_words_bytes vt_version b13 x8 vt_segments vt_words_version vt_words_total vt_words_holds vt_words_blocks vt_words_checks vt_words_shortLength vt_words_shortBlocks vt_words_filled vt_words_waiting vt_words_waitingBits vt_words_bytes p1 x16 H.size n0 r17 y18 hc19) (cwV 2 ht (sq_gV tb_626 tb_628 sl_18 tb_7 tb_629) rfl rfl rfl (by decide +kernel) ⟨Nat.le_of_ble_eq_true rfl, Nat.le_of_ble_eq_true rfl⟩) (sq_rwV (hP.sub (ws' := (ww_Parser_parseGroup_tN qt qt_words qt_words_bytes qt_words_field qt_words_generator qt_words_rest ct_words_bytes (.null) vt_version b13 x8 vt_segments vt_words_version vt_words_total vt_words_holds vt_words_blocks vt_words_checks vt_words_shortLength vt_words_shortBlocks vt_words_filled vt_words_waiting vt_words_waitingBits vt_words_bytes)) [0, 1, 2] rfl) (hK.sub (tys' := [(ct_words_bytes, .byte)]) [0] rfl) (hD.sub (ws' := (ww_Parser_parseGroup_tN qt qt_words qt_words_bytes qt_words_field qt_words_generator qt_words_rest ct_words_bytes (.null) vt_version b13 x8 vt_segments vt_words_version vt_words_total vt_words_holds vt_words_blocks vt_words_checks vt_words_shortLength vt_words_shortBlocks vt_words_filled vt_words_waiting vt_words_waitingBits vt_words_bytes)) [0, 1, 2] (by decide) rfl) (va_recv hK hP (ci := 5) (q0 := 0) rfl rfl)) rfl rfl hl.1 rfl (lv_room (Nat.le_of_ble_eq_true rfl)) d_Parser_parseSegment_73 ⟨Nat.le_of_ble_eq_true rfl, Nat.le_of_ble_eq_true rfl⟩) hP hD hS hA [0, 1, 2] [] [0, 1, 2] rfl rfl (by decide) (by decide) rfl (by decide) (fun H locs hP hD hS => ?_)
            refine lv_istore (lv' := [(5, .int r17), (0, .ref qt), (1, .int p1), (2, .int r3), (3, .int x11), (4, .int x12)]) hx hb d_Parser_parseSegment_76 hl (by decide) rfl (fun ls hl => ?_)
            refine lv_iload hx hb d_Parser_parseSegment_78 (lv_at hl 0 rfl) ?_
            refine lv_if_eq (tgt := 86) hx hb d_Parser_parseSegment_80 (by decide) (fun c20 => ?_) (fun c20 => ?_)
            · replace Hf := sq_ite_t Hf c20
              refine lv_iload hx hb d_Parser_parseSegment_86 (lv_at hl 5 rfl) ?_
              refine lv_iload_n hx hb d_Parser_parseSegment_88 rfl (lv_at hl 4 rfl) ?_
              refine lv_iadd hx hb d_Parser_parseSegment_89 ?_
              obtain ⟨x21, ex21, Hf⟩ := sq_bd_e Hf
              refine sq_top ex21 ?_
              refine lv_istore (lv' := [(4, .int x21), (5, .int r17), (0, .ref qt), (1, .int p1), (2, .int r3), (3, .int x11)]) hx hb d_Parser_parseSegment_90 hl (by decide) rfl (fun ls hl => ?_)
              refine lv_goto (tgt := 57) hx hb d_Parser_parseSegment_92 (by decide) ?_
              exact ih1 x21 y18 Hf _ _  hP hD hS _ (lv_sub hl [2, 3, 4, 5, 0] rfl)
            · replace Hf := sq_ite_f Hf c20
              refine lv_iload hx hb d_Parser_parseSegment_83 (lv_at hl 0 rfl) ?_
              obtain ⟨rfl, rfl, rfl⟩ := sq_so3 Hf
              exact W.iret hx hb hr (fun t ht hW => ⟨⟨_, (), rfl, rfl, by rw [ht]; exact hP, hD⟩, hS.F ht⟩) hS.2.2 d_Parser_parseSegment_85
      exact L1 n0 (0 : Int32) y4 Hf _ _  hP hD hS _ (lv_sub hl [3, 4, 2, 1, 0] rfl)
    · replace Hf := sq_ite_f Hf c7
      refine lv_bipush (v := (6 : Int32)) hx hb d_Parser_parseSegment_32 (by decide) ?_
      obtain ⟨rfl, rfl, rfl⟩ := sq_so3 Hf
      exact W.iret hx hb hr (fun t ht hW => ⟨⟨_, (), rfl, rfl, by rw [ht]; exact hP, hD⟩, hS.F ht⟩) hS.2.2 d_Parser_parseSegment_34
  · replace Hf := sq_ite_t Hf c6
    refine lv_iconst (v := (4 : Int32)) hx hb d_Parser_parseSegment_18 (by decide) ?_
    obtain ⟨rfl, rfl, rfl⟩ := sq_so3 Hf
    exact W.iret hx hb hr (fun t ht hW => ⟨⟨_, (), rfl, rfl, by rw [ht]; exact hP, hD⟩, hS.F ht⟩) hS.2.2 d_Parser_parseSegment_19

