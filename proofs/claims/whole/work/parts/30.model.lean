def fn_Md_thrown (vt_thrown : Int32) : Option (Int32) :=
  some (vt_thrown)
abbrev ww_Md_thrown (qt qt_checkBytes qt_blocks qt_data qt_modules qt_fixed qt_tells qt_segmentModes qt_segmentLengths qt_modes qt_takes qt_bytes qt_words qt_block qt_tried qt_values qt_system qt_solved qt_places qt_generator qt_readBytes qt_readings : Nat) (vt_thrown : Int32) (vt_length : Int32) (vt_version : Int32) (vt_side : Int32) (vt_made : Int32) (vt_segments : Int32) (vt_bits : Int32) (vt_filled : Int32) (vt_readLength : Int32) (vt_at : Int32) (vt_all : Int32) (vt_fault : Int32) (vt_good : Int32) : va_W := [(qt, .inr (10, [.int vt_thrown, .ref qt_checkBytes, .ref qt_blocks, .ref qt_data, .int vt_length, .ref qt_modules, .ref qt_fixed, .int vt_version, .int vt_side, .int vt_made, .ref qt_tells, .ref qt_segmentModes, .ref qt_segmentLengths, .int vt_segments, .ref qt_modes, .ref qt_takes, .int vt_bits, .ref qt_bytes, .ref qt_words, .int vt_filled, .ref qt_block, .ref qt_tried, .ref qt_values, .ref qt_system, .ref qt_solved, .ref qt_places, .ref qt_generator, .ref qt_readBytes, .int vt_readLength, .int vt_at, .int vt_all, .int vt_fault, .int vt_good, .ref qt_readings]))]

def rm_Md_thrown : Room := { frames := 0, cells := 0, slots := 0, locals := 0 }
abbrev qc_Md_thrown (r0 : Int32) : Array Value → State → Outcome → State → Prop := vp_Si (fun r => r = r0)

set_option maxHeartbeats 4000000 in
set_option maxRecDepth 100000 in
theorem kt_Md_thrown (l : Launch) (dC : Nat → ClassId) (dI : Nat → Nat → Nat) (qt qt_checkBytes qt_blocks qt_data qt_modules qt_fixed qt_tells qt_segmentModes qt_segmentLengths qt_modes qt_takes qt_bytes qt_words qt_block qt_tried qt_values qt_system qt_solved qt_places qt_generator qt_readBytes qt_readings : Nat) (vt_thrown : Int32) (vt_length : Int32) (vt_version : Int32) (vt_side : Int32) (vt_made : Int32) (vt_segments : Int32) (vt_bits : Int32) (vt_filled : Int32) (vt_readLength : Int32) (vt_at : Int32) (vt_all : Int32) (vt_fault : Int32) (vt_good : Int32) (r0 : Int32) (Hf : fn_Md_thrown vt_thrown = some r0) : Met l y_Md_thrown w_Md_thrown rm_Md_thrown (va_Pc [.ref qt] (fun U => va_P (dC, dI) cl_All (ww_Md_thrown qt qt_checkBytes qt_blocks qt_data qt_modules qt_fixed qt_tells qt_segmentModes qt_segmentLengths qt_modes qt_takes qt_bytes qt_words qt_block qt_tried qt_values qt_system qt_solved qt_places qt_generator qt_readBytes qt_readings vt_thrown vt_length vt_version vt_side vt_made vt_segments vt_bits vt_filled vt_readLength vt_at vt_all vt_fault vt_good) U.heap ∧ va_K (dC, dI) cl_All [] U)) (qc_Md_thrown r0) 0 0 (fun _ => False) := by
  refine Met.ofW (cc := prog_14_method_2_code) (maxL := 1) (ret := (some .int)) (by decide) rfl ?_
  intro p e s m args below meth c s₁ B hml hv
  obtain ⟨rfl, hP, hK⟩ := hv
  have hx := B.exec; have hb := B.bytes; have hr := B.returns; have hlocks := B.notSynchronized
  have ht : ∀ w ∈ lw_g, w.before _ s = true := fun w h => atoms_spec (ws := w_Md_thrown) B.pre w (List.mem_cons_of_mem _ h)
  have hown : s.vm.findClass "SquareSymbolsModel" = some m.cls := findClass_of_methodNamed B.named
  have hl := lv_entry ([.ref qt]) (n := 1) (Nat.le_of_ble_eq_true rfl)
  rw [lg_entry_eq]
  generalize (lg_sl ([.ref qt]) ++ List.replicate (1 - (lg_sl ([.ref qt])).length) Slot.unset).toArray = ls at hl ⊢
  have hl : lv_has ls 1 [(0, .ref qt)] := hl
  refine lv_aload_n hx hb d_Md_thrown_0 rfl (lv_at hl 0 rfl) ?_
  refine va_get (D := (dC, dI)) (ci := 10) (v := .int vt_thrown) (C := R_Md) (T := F_Md) (N := 34) hx hb ht i_Md hown hK hP 0 rfl rfl 0 (by decide) (ht _ tb_1062) (fun _ h9 => h9) rfl d_Md_thrown_1 ?_
  have er := Option.some.inj Hf
  exact W.iret hx hb hr (fun t ht hW => ⟨_, rfl, er, ht⟩) (fun q h => by cases h) d_Md_thrown_4

def fn_Md_put_L1 (p1 : Int32) (p2 : Int64) (x1 : Int32) : Nat → Int32 → Int32 → (Nat → Int32) → Option (Int32 × Int32 × Int32 × (Nat → Int32))
  | 0, _, _, _ => none
  | m1 + 1, x5, b6, b7 => if p1 ≤ x5 then (some (b6, x1, b6, b7)) else (sq_bd (sq_lshr p2 ((8 : Int32) * x5)) fun w9 => sq_bd (sq_l2i (w9 &&& (255 : Int64))) fun x10 => sq_gi b6 3000 <| sq_bd (upd b7 b6.toNatClampNeg x10) fun b12 => sq_bd (b6 + (1 : Int32)) fun x13 => sq_bd (x5 + (1 : Int32)) fun x14 => fn_Md_put_L1 p1 p2 x1 m1 x14 x13 b12)
theorem fn_Md_put_L1_s (p1 : Int32) (p2 : Int64) (x1 : Int32) (m1 : Nat) (x5 : Int32) (b6 : Int32) (b7 : Nat → Int32) : fn_Md_put_L1 p1 p2 x1 (m1 + 1) x5 b6 b7 = if p1 ≤ x5 then (some (b6, x1, b6, b7)) else (sq_bd (sq_lshr p2 ((8 : Int32) * x5)) fun w9 => sq_bd (sq_l2i (w9 &&& (255 : Int64))) fun x10 => sq_gi b6 3000 <| sq_bd (upd b7 b6.toNatClampNeg x10) fun b12 => sq_bd (b6 + (1 : Int32)) fun x13 => sq_bd (x5 + (1 : Int32)) fun x14 => fn_Md_put_L1 p1 p2 x1 m1 x14 x13 b12) := rfl
def fn_Md_put (n0 : Nat) (p1 : Int32) (p2 : Int64) (vt_thrown : Int32) (vt_length : Int32) (vt_data : Nat → Int32) : Option (Int32 × Int32 × Int32 × (Nat → Int32)) :=
  sq_jn (fun (x1 : Int32) => if x1 ≤ 0 then (if (vt_length + p1) ≤ (3000 : Int32) then (fn_Md_put_L1 p1 p2 x1 n0 (0 : Int32) vt_length vt_data) else (some ((-1 : Int32), x1, vt_length, vt_data))) else (some ((0 : Int32), x1, vt_length, vt_data))) fun k2 => sq_jn (fun (_ : Unit) => k2 (1 : Int32)) fun k15 => if p1 < (1 : Int32) then (k15 ()) else (if p1 ≤ (8 : Int32) then (k2 (0 : Int32)) else (k15 ()))
abbrev ww_Md_put (qt qt_data qt_checkBytes qt_blocks qt_modules qt_fixed qt_tells qt_segmentModes qt_segmentLengths qt_modes qt_takes qt_bytes qt_words qt_block qt_tried qt_values qt_system qt_solved qt_places qt_generator qt_readBytes qt_readings : Nat) (ct_data : ClassId) (vt_thrown : Int32) (vt_length : Int32) (vt_version : Int32) (vt_side : Int32) (vt_made : Int32) (vt_segments : Int32) (vt_bits : Int32) (vt_filled : Int32) (vt_readLength : Int32) (vt_at : Int32) (vt_all : Int32) (vt_fault : Int32) (vt_good : Int32) (vt_data : Nat → Int32) : va_W := [(qt, .inr (10, [.int vt_thrown, .ref qt_checkBytes, .ref qt_blocks, .ref qt_data, .int vt_length, .ref qt_modules, .ref qt_fixed, .int vt_version, .int vt_side, .int vt_made, .ref qt_tells, .ref qt_segmentModes, .ref qt_segmentLengths, .int vt_segments, .ref qt_modes, .ref qt_takes, .int vt_bits, .ref qt_bytes, .ref qt_words, .int vt_filled, .ref qt_block, .ref qt_tried, .ref qt_values, .ref qt_system, .ref qt_solved, .ref qt_places, .ref qt_generator, .ref qt_readBytes, .int vt_readLength, .int vt_at, .int vt_all, .int vt_fault, .int vt_good, .ref qt_readings])), (qt_data, .inl (ct_data, 3000, .inl vt_data))]

def rm_Md_put : Room := { frames := 0, cells := 0, slots := 0, locals := 0 }
abbrev qc_Md_put (dC : Nat → ClassId) (dI : Nat → Nat → Nat) (A : Nat → Prop) (r0 : Int32) (qt qt_data qt_checkBytes qt_blocks qt_modules qt_fixed qt_tells qt_segmentModes qt_segmentLengths qt_modes qt_takes qt_bytes qt_words qt_block qt_tried qt_values qt_system qt_solved qt_places qt_generator qt_readBytes qt_readings : Nat) (ct_data : ClassId) (vt_thrown : Int32) (vt_length : Int32) (vt_version : Int32) (vt_side : Int32) (vt_made : Int32) (vt_segments : Int32) (vt_bits : Int32) (vt_filled : Int32) (vt_readLength : Int32) (vt_at : Int32) (vt_all : Int32) (vt_fault : Int32) (vt_good : Int32) (vt_data : Nat → Int32) : Array Value → State → Outcome → State → Prop := va_Qi (fun r (_ : Unit) => r = r0) (fun _ t => va_P (dC, dI) cl_All (ww_Md_put qt qt_data qt_checkBytes qt_blocks qt_modules qt_fixed qt_tells qt_segmentModes qt_segmentLengths qt_modes qt_takes qt_bytes qt_words qt_block qt_tried qt_values qt_system qt_solved qt_places qt_generator qt_readBytes qt_readings ct_data vt_thrown vt_length vt_version vt_side vt_made vt_segments vt_bits vt_filled vt_readLength vt_at vt_all vt_fault vt_good vt_data) t.heap ∧ va_D A (ww_Md_put qt qt_data qt_checkBytes qt_blocks qt_modules qt_fixed qt_tells qt_segmentModes qt_segmentLengths qt_modes qt_takes qt_bytes qt_words qt_block qt_tried qt_values qt_system qt_solved qt_places qt_generator qt_readBytes qt_readings ct_data vt_thrown vt_length vt_version vt_side vt_made vt_segments vt_bits vt_filled vt_readLength vt_at vt_all vt_fault vt_good vt_data)) A

set_option maxHeartbeats 4000000 in
set_option maxRecDepth 100000 in
theorem kt_Md_put (l : Launch) (dC : Nat → ClassId) (dI : Nat → Nat → Nat) (qt qt_data qt_checkBytes qt_blocks qt_modules qt_fixed qt_tells qt_segmentModes qt_segmentLengths qt_modes qt_takes qt_bytes qt_words qt_block qt_tried qt_values qt_system qt_solved qt_places qt_generator qt_readBytes qt_readings : Nat) (ct_data : ClassId) (vt_thrown : Int32) (vt_length : Int32) (vt_version : Int32) (vt_side : Int32) (vt_made : Int32) (vt_segments : Int32) (vt_bits : Int32) (vt_filled : Int32) (vt_readLength : Int32) (vt_at : Int32) (vt_all : Int32) (vt_fault : Int32) (vt_good : Int32) (vt_data : Nat → Int32) (p1 : Int32) (p2 : Int64) (sz : Nat) (n0 : Nat) (r0 : Int32) (nvt_thrown : Int32) (nvt_length : Int32) (nvt_data : Nat → Int32) (Hf : fn_Md_put n0 p1 p2 vt_thrown vt_length vt_data = some (r0, nvt_thrown, nvt_length, nvt_data)) : Met l y_Md_put w_Md_put rm_Md_put (va_Pc [.ref qt, .int p1, .long p2] (fun U => U.heap.size = sz ∧ va_P (dC, dI) cl_All (ww_Md_put qt qt_data qt_checkBytes qt_blocks qt_modules qt_fixed qt_tells qt_segmentModes qt_segmentLengths qt_modes qt_takes qt_bytes qt_words qt_block qt_tried qt_values qt_system qt_solved qt_places qt_generator qt_readBytes qt_readings ct_data vt_thrown vt_length vt_version vt_side vt_made vt_segments vt_bits vt_filled vt_readLength vt_at vt_all vt_fault vt_good vt_data) U.heap ∧ va_K (dC, dI) cl_All [(ct_data, .int)] U ∧ va_D (fun _ => True) (ww_Md_put qt qt_data qt_checkBytes qt_blocks qt_modules qt_fixed qt_tells qt_segmentModes qt_segmentLengths qt_modes qt_takes qt_bytes qt_words qt_block qt_tried qt_values qt_system qt_solved qt_places qt_generator qt_readBytes qt_readings ct_data vt_thrown vt_length vt_version vt_side vt_made vt_segments vt_bits vt_filled vt_readLength vt_at vt_all vt_fault vt_good vt_data))) (qc_Md_put dC dI (va_A (ww_Md_put qt qt_data qt_checkBytes qt_blocks qt_modules qt_fixed qt_tells qt_segmentModes qt_segmentLengths qt_modes qt_takes qt_bytes qt_words qt_block qt_tried qt_values qt_system qt_solved qt_places qt_generator qt_readBytes qt_readings ct_data vt_thrown vt_length vt_version vt_side vt_made vt_segments vt_bits vt_filled vt_readLength vt_at vt_all vt_fault vt_good vt_data) sz) r0 qt qt_data qt_checkBytes qt_blocks qt_modules qt_fixed qt_tells qt_segmentModes qt_segmentLengths qt_modes qt_takes qt_bytes qt_words qt_block qt_tried qt_values qt_system qt_solved qt_places qt_generator qt_readBytes qt_readings ct_data nvt_thrown nvt_length vt_version vt_side vt_made vt_segments vt_bits vt_filled vt_readLength vt_at vt_all vt_fault vt_good nvt_data) 0 0 (va_A (ww_Md_put qt qt_data qt_checkBytes qt_blocks qt_modules qt_fixed qt_tells qt_segmentModes qt_segmentLengths qt_modes qt_takes qt_bytes qt_words qt_block qt_tried qt_values qt_system qt_solved qt_places qt_generator qt_readBytes qt_readings ct_data vt_thrown vt_length vt_version vt_side vt_made vt_segments vt_bits vt_filled vt_readLength vt_at vt_all vt_fault vt_good vt_data) sz) := by
  refine Met.ofW (cc := prog_14_method_3_code) (maxL := 5) (ret := (some .int)) (by decide) rfl ?_
  intro p e s m args below meth c s₁ B hml hv
  obtain ⟨rfl, hsz, hP, hK, hD0⟩ := hv
  have hx := B.exec; have hb := B.bytes; have hr := B.returns; have hlocks := B.notSynchronized
  have ht : ∀ w ∈ lw_g, w.before _ s = true := fun w h => atoms_spec (ws := w_Md_put) B.pre w (List.mem_cons_of_mem _ h)
  have hown : s.vm.findClass "SquareSymbolsModel" = some m.cls := findClass_of_methodNamed B.named
  subst hsz
  have hD := hD0.self (sz := s.heap.size)
  generalize hAe : va_A (ww_Md_put qt qt_data qt_checkBytes qt_blocks qt_modules qt_fixed qt_tells qt_segmentModes qt_segmentLengths qt_modes qt_takes qt_bytes qt_words qt_block qt_tried qt_values qt_system qt_solved qt_places qt_generator qt_readBytes qt_readings ct_data vt_thrown vt_length vt_version vt_side vt_made vt_segments vt_bits vt_filled vt_readLength vt_at vt_all vt_fault vt_good vt_data) s.heap.size = A at hD ⊢
  have hA : ∀ q : Nat, s.heap.size ≤ q → A q := fun q h => by rw [← hAe]; exact Or.inr h
  have hS : va_S A s.heap s.heap [] := va_S.rf
  have hl := lv_entry ([.ref qt, .int p1, .long p2]) (n := 5) (Nat.le_of_ble_eq_true rfl)
  rw [lg_entry_eq]
  generalize (lg_sl ([.ref qt, .int p1, .long p2]) ++ List.replicate (5 - (lg_sl ([.ref qt, .int p1, .long p2])).length) Slot.unset).toArray = ls at hl ⊢
  have hl : lv_has ls 5 [(0, .ref qt), (1, .int p1), (2, .long p2)] := hl
  refine lv_aload_n hx hb d_Md_put_0 rfl (lv_at hl 0 rfl) ?_
  refine lv_iload_n hx hb d_Md_put_1 rfl (lv_at hl 1 rfl) ?_
  refine lv_iconst (v := (1 : Int32)) hx hb d_Md_put_2 (by decide) ?_
  obtain ⟨k2, hk2, Hf⟩ := sq_jn_e Hf
  have Jk2 : ∀ (x1 : Int32), k2 x1 = some (r0, nvt_thrown, nvt_length, nvt_data) → ∀ (H : Heap) (locs : List Loc), va_P (dC, dI) cl_All (ww_Md_put qt qt_data qt_checkBytes qt_blocks qt_modules qt_fixed qt_tells qt_segmentModes qt_segmentLengths qt_modes qt_takes qt_bytes qt_words qt_block qt_tried qt_values qt_system qt_solved qt_places qt_generator qt_readBytes qt_readings ct_data vt_thrown vt_length vt_version vt_side vt_made vt_segments vt_bits vt_filled vt_readLength vt_at vt_all vt_fault vt_good vt_data) H → va_D A (ww_Md_put qt qt_data qt_checkBytes qt_blocks qt_modules qt_fixed qt_tells qt_segmentModes qt_segmentLengths qt_modes qt_takes qt_bytes qt_words qt_block qt_tried qt_values qt_system qt_solved qt_places qt_generator qt_readBytes qt_readings ct_data vt_thrown vt_length vt_version vt_side vt_made vt_segments vt_bits vt_filled vt_readLength vt_at vt_all vt_fault vt_good vt_data) → va_S A s.heap H locs → ∀ ls : Array Slot, lv_has ls 5 [(0, .ref qt), (1, .int p1), (2, .long p2)] → W p l e (headSpec w_Md_put rm_Md_put).room s m (([.ref qt, .int p1, .long p2] : List Value).toArray) below meth c H locs 0 0 (MQ below (qc_Md_put dC dI A r0 qt qt_data qt_checkBytes qt_blocks qt_modules qt_fixed qt_tells qt_segmentModes qt_segmentLengths qt_modes qt_takes qt_bytes qt_words qt_block qt_tried qt_values qt_system qt_solved qt_places qt_generator qt_readBytes qt_readings ct_data nvt_thrown nvt_length vt_version vt_side vt_made vt_segments vt_bits vt_filled vt_readLength vt_at vt_all vt_fault vt_good nvt_data) (([.ref qt, .int p1, .long p2] : List Value).toArray) s 0 0 A) (F0 m 17 ls [.int x1, .ref qt]) := by
    intro x1 Hf H locs  hP hD hS ls hl
    rw [hk2] at Hf
    refine va_put (D := (dC, dI)) (ci := 10) (v := .int x1) (ty := .int) (C := R_Md) (T := F_Md) (N := 34) hx hb ht i_Md t_Md t_Md_ok n_Md hown hK hP hD hS 0 rfl rfl 0 (by decide) (ht _ tb_1062) (fun _ h9 => h9) rfl (by decide +kernel) rfl rfl (Nat.le_of_ble_eq_true rfl) d_Md_put_17 (fun H locs hP hD hS => ?_)
    replace hP : va_P (dC, dI) cl_All (ww_Md_put qt qt_data qt_checkBytes qt_blocks qt_modules qt_fixed qt_tells qt_segmentModes qt_segmentLengths qt_modes qt_takes qt_bytes qt_words qt_block qt_tried qt_values qt_system qt_solved qt_places qt_generator qt_readBytes qt_readings ct_data x1 vt_length vt_version vt_side vt_made vt_segments vt_bits vt_filled vt_readLength vt_at vt_all vt_fault vt_good vt_data) H := hP
    replace hD : va_D A (ww_Md_put qt qt_data qt_checkBytes qt_blocks qt_modules qt_fixed qt_tells qt_segmentModes qt_segmentLengths qt_modes qt_takes qt_bytes qt_words qt_block qt_tried qt_values qt_system qt_solved qt_places qt_generator qt_readBytes qt_readings ct_data x1 vt_length vt_version vt_side vt_made vt_segments vt_bits vt_filled vt_readLength vt_at vt_all vt_fault vt_good vt_data) := hD
    refine lv_aload_n hx hb d_Md_put_20 rfl (lv_at hl 0 rfl) ?_
    refine va_get (D := (dC, dI)) (ci := 10) (v := .int x1) (C := R_Md) (T := F_Md) (N := 34) hx hb ht i_Md hown hK hP 0 rfl rfl 0 (by decide) (ht _ tb_1062) (fun _ h9 => h9) rfl d_Md_put_21 ?_
    refine lv_if_le (tgt := 29) hx hb d_Md_put_24 (by decide) (fun c3 => ?_) (fun c3 => ?_)
    · replace Hf := sq_ite_t Hf c3
      refine lv_aload_n hx hb d_Md_put_29 rfl (lv_at hl 0 rfl) ?_
      refine va_get (D := (dC, dI)) (ci := 10) (v := .int vt_length) (C := R_Md) (T := F_Md) (N := 34) hx hb ht i_Md hown hK hP 0 rfl rfl 4 (by decide) (ht _ tb_1066) (fun _ h9 => h9) rfl d_Md_put_30 ?_
      refine lv_iload_n hx hb d_Md_put_33 rfl (lv_at hl 1 rfl) ?_
      refine lv_iadd hx hb d_Md_put_34 ?_
      refine lv_sipush (v := (3000 : Int32)) hx hb d_Md_put_35 (by decide) ?_
      refine lv_icmp_le (tgt := 43) hx hb d_Md_put_38 (by decide) (fun c4 => ?_) (fun c4 => ?_)
      · replace Hf := sq_ite_t Hf c4
        refine lv_iconst (v := (0 : Int32)) hx hb d_Md_put_43 (by decide) ?_
        refine lv_istore (lv' := [(4, .int (0 : Int32)), (0, .ref qt), (1, .int p1), (2, .long p2)]) hx hb d_Md_put_44 hl (by decide) rfl (fun ls hl => ?_)
        have L1 : ∀ (m1 : Nat), ∀ (x5 : Int32) (b6 : Int32) (b7 : Nat → Int32), fn_Md_put_L1 p1 p2 x1 m1 x5 b6 b7 = some (r0, nvt_thrown, nvt_length, nvt_data) → ∀ (H : Heap) (locs : List Loc), va_P (dC, dI) cl_All (ww_Md_put qt qt_data qt_checkBytes qt_blocks qt_modules qt_fixed qt_tells qt_segmentModes qt_segmentLengths qt_modes qt_takes qt_bytes qt_words qt_block qt_tried qt_values qt_system qt_solved qt_places qt_generator qt_readBytes qt_readings ct_data x1 b6 vt_version vt_side vt_made vt_segments vt_bits vt_filled vt_readLength vt_at vt_all vt_fault vt_good b7) H → va_D A (ww_Md_put qt qt_data qt_checkBytes qt_blocks qt_modules qt_fixed qt_tells qt_segmentModes qt_segmentLengths qt_modes qt_takes qt_bytes qt_words qt_block qt_tried qt_values qt_system qt_solved qt_places qt_generator qt_readBytes qt_readings ct_data x1 b6 vt_version vt_side vt_made vt_segments vt_bits vt_filled vt_readLength vt_at vt_all vt_fault vt_good b7) → va_S A s.heap H locs → ∀ ls : Array Slot, lv_has ls 5 [(0, .ref qt), (1, .int p1), (2, .long p2), (4, .int x5)] → W p l e (headSpec w_Md_put rm_Md_put).room s m (([.ref qt, .int p1, .long p2] : List Value).toArray) below meth c H locs 0 0 (MQ below (qc_Md_put dC dI A r0 qt qt_data qt_checkBytes qt_blocks qt_modules qt_fixed qt_tells qt_segmentModes qt_segmentLengths qt_modes qt_takes qt_bytes qt_words qt_block qt_tried qt_values qt_system qt_solved qt_places qt_generator qt_readBytes qt_readings ct_data nvt_thrown nvt_length vt_version vt_side vt_made vt_segments vt_bits vt_filled vt_readLength vt_at vt_all vt_fault vt_good nvt_data) (([.ref qt, .int p1, .long p2] : List Value).toArray) s 0 0 A) (F0 m 46 ls []) := by
          intro m1
          induction m1 with
          | zero => intro x5 b6 b7 Hf; exact sq_none Hf
          | succ m1 ih1 =>
            intro x5 b6 b7 Hf H locs  hP hD hS ls hl
            replace Hf := (fn_Md_put_L1_s p1 p2 x1 m1 x5 b6 b7).symm.trans Hf
            refine lv_iload hx hb d_Md_put_46 (lv_at hl 3 rfl) ?_
            refine lv_iload_n hx hb d_Md_put_48 rfl (lv_at hl 1 rfl) ?_
            refine lv_icmp_ge (tgt := 89) hx hb d_Md_put_49 (by decide) (fun c8 => ?_) (fun c8 => ?_)
            · replace Hf := sq_ite_t Hf c8
              refine lv_aload_n hx hb d_Md_put_89 rfl (lv_at hl 0 rfl) ?_
              refine va_get (D := (dC, dI)) (ci := 10) (v := .int b6) (C := R_Md) (T := F_Md) (N := 34) hx hb ht i_Md hown hK hP 0 rfl rfl 4 (by decide) (ht _ tb_1066) (fun _ h9 => h9) rfl d_Md_put_90 ?_
              obtain ⟨rfl, rfl, rfl, rfl⟩ := sq_so4 Hf
              exact W.iret hx hb hr (fun t ht hW => ⟨⟨_, (), rfl, rfl, by rw [ht]; exact hP, hD⟩, hS.F ht⟩) hS.2.2 d_Md_put_93
            · replace Hf := sq_ite_f Hf c8
              refine lv_aload_n hx hb d_Md_put_52 rfl (lv_at hl 0 rfl) ?_
              refine va_get (D := (dC, dI)) (ci := 10) (v := .ref qt_data) (C := R_Md) (T := F_Md) (N := 34) hx hb ht i_Md hown hK hP 0 rfl rfl 3 (by decide) (ht _ tb_1065) (fun _ h9 => h9) rfl d_Md_put_53 ?_
              refine lv_aload_n hx hb d_Md_put_56 rfl (lv_at hl 0 rfl) ?_
              refine va_get (D := (dC, dI)) (ci := 10) (v := .int b6) (C := R_Md) (T := F_Md) (N := 34) hx hb ht i_Md hown hK hP 0 rfl rfl 4 (by decide) (ht _ tb_1066) (fun _ h9 => h9) rfl d_Md_put_57 ?_
              refine lv_lload_n hx hb d_Md_put_60 rfl (lv_at hl 2 rfl) ?_
              refine lv_bipush (v := (8 : Int32)) hx hb d_Md_put_61 (by decide) ?_
              refine lv_iload hx hb d_Md_put_63 (lv_at hl 3 rfl) ?_
              refine lv_imul hx hb d_Md_put_65 ?_
              refine lv_lshr hx hb d_Md_put_66 rfl ?_
              obtain ⟨w9, ew9, Hf⟩ := sq_bd_e Hf
              refine sq_topl ew9 ?_
              refine lv_ldc2 (v := (255 : Int64)) hx hb hown (ht _ tb_1173) d_Md_put_67 ?_
              refine lv_land hx hb d_Md_put_70 ?_
              refine lv_l2i hx hb d_Md_put_71 rfl ?_
              obtain ⟨x10, ex10, Hf⟩ := sq_bd_e Hf
              refine sq_top ex10 ?_
              obtain ⟨hi11, Hf⟩ := sq_gi_e Hf
              obtain ⟨b12, eb12, Hf⟩ := sq_bd_e Hf
              refine va_iast hx hb hK hP hD hS 1 0 rfl rfl hi11 d_Md_put_72 (fun H locs hP hD hS => ?_)
              rw [← eb12] at hP hD
              replace hP : va_P (dC, dI) cl_All (ww_Md_put qt qt_data qt_checkBytes qt_blocks qt_modules qt_fixed qt_tells qt_segmentModes qt_segmentLengths qt_modes qt_takes qt_bytes qt_words qt_block qt_tried qt_values qt_system qt_solved qt_places qt_generator qt_readBytes qt_readings ct_data x1 b6 vt_version vt_side vt_made vt_segments vt_bits vt_filled vt_readLength vt_at vt_all vt_fault vt_good b12) H := hP
              replace hD : va_D A (ww_Md_put qt qt_data qt_checkBytes qt_blocks qt_modules qt_fixed qt_tells qt_segmentModes qt_segmentLengths qt_modes qt_takes qt_bytes qt_words qt_block qt_tried qt_values qt_system qt_solved qt_places qt_generator qt_readBytes qt_readings ct_data x1 b6 vt_version vt_side vt_made vt_segments vt_bits vt_filled vt_readLength vt_at vt_all vt_fault vt_good b12) := hD
              refine lv_aload_n hx hb d_Md_put_73 rfl (lv_at hl 0 rfl) ?_
              refine lv_dup hx hb d_Md_put_74 rfl ?_
              refine va_get (D := (dC, dI)) (ci := 10) (v := .int b6) (C := R_Md) (T := F_Md) (N := 34) hx hb ht i_Md hown hK hP 0 rfl rfl 4 (by decide) (ht _ tb_1066) (fun _ h9 => h9) rfl d_Md_put_75 ?_
              refine lv_iconst (v := (1 : Int32)) hx hb d_Md_put_78 (by decide) ?_
              refine lv_iadd hx hb d_Md_put_79 ?_
              obtain ⟨x13, ex13, Hf⟩ := sq_bd_e Hf
              refine sq_top ex13 ?_
              refine va_put (D := (dC, dI)) (ci := 10) (v := .int x13) (ty := .int) (C := R_Md) (T := F_Md) (N := 34) hx hb ht i_Md t_Md t_Md_ok n_Md hown hK hP hD hS 0 rfl rfl 4 (by decide) (ht _ tb_1066) (fun _ h9 => h9) rfl (by decide +kernel) rfl rfl (Nat.le_of_ble_eq_true rfl) d_Md_put_80 (fun H locs hP hD hS => ?_)
              replace hP : va_P (dC, dI) cl_All (ww_Md_put qt qt_data qt_checkBytes qt_blocks qt_modules qt_fixed qt_tells qt_segmentModes qt_segmentLengths qt_modes qt_takes qt_bytes qt_words qt_block qt_tried qt_values qt_system qt_solved qt_places qt_generator qt_readBytes qt_readings ct_data x1 x13 vt_version vt_side vt_made vt_segments vt_bits vt_filled vt_readLength vt_at vt_all vt_fault vt_good b12) H := hP
              replace hD : va_D A (ww_Md_put qt qt_data qt_checkBytes qt_blocks qt_modules qt_fixed qt_tells qt_segmentModes qt_segmentLengths qt_modes qt_takes qt_bytes qt_words qt_block qt_tried qt_values qt_system qt_solved qt_places qt_generator qt_readBytes qt_readings ct_data x1 x13 vt_version vt_side vt_made vt_segments vt_bits vt_filled vt_readLength vt_at vt_all vt_fault vt_good b12) := hD
              obtain ⟨x14, ex14, Hf⟩ := sq_bd_e Hf
              refine lv_iinc (v := x14) (lv' := [(4, .int x14), (0, .ref qt), (1, .int p1), (2, .long p2)]) hx hb d_Md_put_83 hl (k := 3) rfl (by rw [ex14]; rfl) (by decide) rfl (fun ls hl => ?_)
              refine lv_goto (tgt := 46) hx hb d_Md_put_86 (by decide) ?_
              exact ih1 x14 x13 b12 Hf _ _  hP hD hS _ (lv_sub hl [1, 2, 3, 0] rfl)
        exact L1 n0 (0 : Int32) vt_length vt_data Hf _ _  hP hD hS _ (lv_sub hl [1, 2, 3, 0] rfl)
      · replace Hf := sq_ite_f Hf c4
        refine lv_iconst (v := (-1 : Int32)) hx hb d_Md_put_41 (by decide) ?_
        obtain ⟨rfl, rfl, rfl, rfl⟩ := sq_so4 Hf
        exact W.iret hx hb hr (fun t ht hW => ⟨⟨_, (), rfl, rfl, by rw [ht]; exact hP, hD⟩, hS.F ht⟩) hS.2.2 d_Md_put_42
    · replace Hf := sq_ite_f Hf c3
      refine lv_iconst (v := (0 : Int32)) hx hb d_Md_put_27 (by decide) ?_
      obtain ⟨rfl, rfl, rfl, rfl⟩ := sq_so4 Hf
      exact W.iret hx hb hr (fun t ht hW => ⟨⟨_, (), rfl, rfl, by rw [ht]; exact hP, hD⟩, hS.F ht⟩) hS.2.2 d_Md_put_28
  obtain ⟨k15, hk15, Hf⟩ := sq_jn_e Hf
  have Jk15 : ∀ (_u : Unit), k15 _u = some (r0, nvt_thrown, nvt_length, nvt_data) → ∀ (H : Heap) (locs : List Loc), va_P (dC, dI) cl_All (ww_Md_put qt qt_data qt_checkBytes qt_blocks qt_modules qt_fixed qt_tells qt_segmentModes qt_segmentLengths qt_modes qt_takes qt_bytes qt_words qt_block qt_tried qt_values qt_system qt_solved qt_places qt_generator qt_readBytes qt_readings ct_data vt_thrown vt_length vt_version vt_side vt_made vt_segments vt_bits vt_filled vt_readLength vt_at vt_all vt_fault vt_good vt_data) H → va_D A (ww_Md_put qt qt_data qt_checkBytes qt_blocks qt_modules qt_fixed qt_tells qt_segmentModes qt_segmentLengths qt_modes qt_takes qt_bytes qt_words qt_block qt_tried qt_values qt_system qt_solved qt_places qt_generator qt_readBytes qt_readings ct_data vt_thrown vt_length vt_version vt_side vt_made vt_segments vt_bits vt_filled vt_readLength vt_at vt_all vt_fault vt_good vt_data) → va_S A s.heap H locs → ∀ ls : Array Slot, lv_has ls 5 [(0, .ref qt), (1, .int p1), (2, .long p2)] → W p l e (headSpec w_Md_put rm_Md_put).room s m (([.ref qt, .int p1, .long p2] : List Value).toArray) below meth c H locs 0 0 (MQ below (qc_Md_put dC dI A r0 qt qt_data qt_checkBytes qt_blocks qt_modules qt_fixed qt_tells qt_segmentModes qt_segmentLengths qt_modes qt_takes qt_bytes qt_words qt_block qt_tried qt_values qt_system qt_solved qt_places qt_generator qt_readBytes qt_readings ct_data nvt_thrown nvt_length vt_version vt_side vt_made vt_segments vt_bits vt_filled vt_readLength vt_at vt_all vt_fault vt_good nvt_data) (([.ref qt, .int p1, .long p2] : List Value).toArray) s 0 0 A) (F0 m 12 ls [.ref qt]) := by
    intro _u Hf H locs  hP hD hS ls hl
    rw [hk15] at Hf
    refine lv_iconst (v := (1 : Int32)) hx hb d_Md_put_12 (by decide) ?_
    refine lv_goto (tgt := 17) hx hb d_Md_put_13 (by decide) ?_
    exact Jk2 (1 : Int32) Hf _ _  hP hD hS _ (lv_sub hl [0, 1, 2] rfl)
  refine lv_icmp_lt (tgt := 12) hx hb d_Md_put_3 (by decide) (fun c16 => ?_) (fun c16 => ?_)
  · replace Hf := sq_ite_t Hf c16
    exact Jk15 () Hf _ _  hP hD hS _ (lv_sub hl [0, 1, 2] rfl)
  · replace Hf := sq_ite_f Hf c16
    refine lv_iload_n hx hb d_Md_put_6 rfl (lv_at hl 1 rfl) ?_
    refine lv_bipush (v := (8 : Int32)) hx hb d_Md_put_7 (by decide) ?_
    refine lv_icmp_le (tgt := 16) hx hb d_Md_put_9 (by decide) (fun c17 => ?_) (fun c17 => ?_)
    · replace Hf := sq_ite_t Hf c17
      refine lv_iconst (v := (0 : Int32)) hx hb d_Md_put_16 (by decide) ?_
      exact Jk2 (0 : Int32) Hf _ _  hP hD hS _ (lv_sub hl [0, 1, 2] rfl)
    · replace Hf := sq_ite_f Hf c17
      exact Jk15 () Hf _ _  hP hD hS _ (lv_sub hl [0, 1, 2] rfl)

def fn_Md_repeat_L1 (p1 : Int32) (p2 : Int32) (x1 : Int32) : Nat → Int32 → Int32 → (Nat → Int32) → Option (Int32 × Int32 × Int32 × (Nat → Int32))
  | 0, _, _, _ => none
  | m1 + 1, x5, b6, b7 => if p2 ≤ x5 then (some (b6, x1, b6, b7)) else (sq_gi b6 3000 <| sq_bd (upd b7 b6.toNatClampNeg p1) fun b10 => sq_bd (b6 + (1 : Int32)) fun x11 => sq_bd (x5 + (1 : Int32)) fun x12 => fn_Md_repeat_L1 p1 p2 x1 m1 x12 x11 b10)
theorem fn_Md_repeat_L1_s (p1 : Int32) (p2 : Int32) (x1 : Int32) (m1 : Nat) (x5 : Int32) (b6 : Int32) (b7 : Nat → Int32) : fn_Md_repeat_L1 p1 p2 x1 (m1 + 1) x5 b6 b7 = if p2 ≤ x5 then (some (b6, x1, b6, b7)) else (sq_gi b6 3000 <| sq_bd (upd b7 b6.toNatClampNeg p1) fun b10 => sq_bd (b6 + (1 : Int32)) fun x11 => sq_bd (x5 + (1 : Int32)) fun x12 => fn_Md_repeat_L1 p1 p2 x1 m1 x12 x11 b10) := rfl
def fn_Md_repeat (n0 : Nat) (p1 : Int32) (p2 : Int32) (vt_thrown : Int32) (vt_length : Int32) (vt_data : Nat → Int32) : Option (Int32 × Int32 × Int32 × (Nat → Int32)) :=
  sq_jn (fun (x1 : Int32) => if x1 ≤ 0 then (if p2 ≤ ((3000 : Int32) - vt_length) then (fn_Md_repeat_L1 p1 p2 x1 n0 (0 : Int32) vt_length vt_data) else (some ((-1 : Int32), x1, vt_length, vt_data))) else (some ((0 : Int32), x1, vt_length, vt_data))) fun k2 => sq_jn (fun (_ : Unit) => k2 (1 : Int32)) fun k13 => if p1 < 0 then (k13 ()) else (if (255 : Int32) < p1 then (k13 ()) else (if 0 ≤ p2 then (k2 (0 : Int32)) else (k13 ())))
abbrev ww_Md_repeat (qt qt_data qt_checkBytes qt_blocks qt_modules qt_fixed qt_tells qt_segmentModes qt_segmentLengths qt_modes qt_takes qt_bytes qt_words qt_block qt_tried qt_values qt_system qt_solved qt_places qt_generator qt_readBytes qt_readings : Nat) (ct_data : ClassId) (vt_thrown : Int32) (vt_length : Int32) (vt_version : Int32) (vt_side : Int32) (vt_made : Int32) (vt_segments : Int32) (vt_bits : Int32) (vt_filled : Int32) (vt_readLength : Int32) (vt_at : Int32) (vt_all : Int32) (vt_fault : Int32) (vt_good : Int32) (vt_data : Nat → Int32) : va_W := [(qt, .inr (10, [.int vt_thrown, .ref qt_checkBytes, .ref qt_blocks, .ref qt_data, .int vt_length, .ref qt_modules, .ref qt_fixed, .int vt_version, .int vt_side, .int vt_made, .ref qt_tells, .ref qt_segmentModes, .ref qt_segmentLengths, .int vt_segments, .ref qt_modes, .ref qt_takes, .int vt_bits, .ref qt_bytes, .ref qt_words, .int vt_filled, .ref qt_block, .ref qt_tried, .ref qt_values, .ref qt_system, .ref qt_solved, .ref qt_places, .ref qt_generator, .ref qt_readBytes, .int vt_readLength, .int vt_at, .int vt_all, .int vt_fault, .int vt_good, .ref qt_readings])), (qt_data, .inl (ct_data, 3000, .inl vt_data))]

def rm_Md_repeat : Room := { frames := 0, cells := 0, slots := 0, locals := 0 }
abbrev qc_Md_repeat (dC : Nat → ClassId) (dI : Nat → Nat → Nat) (A : Nat → Prop) (r0 : Int32) (qt qt_data qt_checkBytes qt_blocks qt_modules qt_fixed qt_tells qt_segmentModes qt_segmentLengths qt_modes qt_takes qt_bytes qt_words qt_block qt_tried qt_values qt_system qt_solved qt_places qt_generator qt_readBytes qt_readings : Nat) (ct_data : ClassId) (vt_thrown : Int32) (vt_length : Int32) (vt_version : Int32) (vt_side : Int32) (vt_made : Int32) (vt_segments : Int32) (vt_bits : Int32) (vt_filled : Int32) (vt_readLength : Int32) (vt_at : Int32) (vt_all : Int32) (vt_fault : Int32) (vt_good : Int32) (vt_data : Nat → Int32) : Array Value → State → Outcome → State → Prop := va_Qi (fun r (_ : Unit) => r = r0) (fun _ t => va_P (dC, dI) cl_All (ww_Md_repeat qt qt_data qt_checkBytes qt_blocks qt_modules qt_fixed qt_tells qt_segmentModes qt_segmentLengths qt_modes qt_takes qt_bytes qt_words qt_block qt_tried qt_values qt_system qt_solved qt_places qt_generator qt_readBytes qt_readings ct_data vt_thrown vt_length vt_version vt_side vt_made vt_segments vt_bits vt_filled vt_readLength vt_at vt_all vt_fault vt_good vt_data) t.heap ∧ va_D A (ww_Md_repeat qt qt_data qt_checkBytes qt_blocks qt_modules qt_fixed qt_tells qt_segmentModes qt_segmentLengths qt_modes qt_takes qt_bytes qt_words qt_block qt_tried qt_values qt_system qt_solved qt_places qt_generator qt_readBytes qt_readings ct_data vt_thrown vt_length vt_version vt_side vt_made vt_segments vt_bits vt_filled vt_readLength vt_at vt_all vt_fault vt_good vt_data)) A

set_option maxHeartbeats 4000000 in
set_option maxRecDepth 100000 in
theorem kt_Md_repeat (l : Launch) (dC : Nat → ClassId) (dI : Nat → Nat → Nat) (qt qt_data qt_checkBytes qt_blocks qt_modules qt_fixed qt_tells qt_segmentModes qt_segmentLengths qt_modes qt_takes qt_bytes qt_words qt_block qt_tried qt_values qt_system qt_solved qt_places qt_generator qt_readBytes qt_readings : Nat) (ct_data : ClassId) (vt_thrown : Int32) (vt_length : Int32) (vt_version : Int32) (vt_side : Int32) (vt_made : Int32) (vt_segments : Int32) (vt_bits : Int32) (vt_filled : Int32) (vt_readLength : Int32) (vt_at : Int32) (vt_all : Int32) (vt_fault : Int32) (vt_good : Int32) (vt_data : Nat → Int32) (p1 : Int32) (p2 : Int32) (sz : Nat) (n0 : Nat) (r0 : Int32) (nvt_thrown : Int32) (nvt_length : Int32) (nvt_data : Nat → Int32) (Hf : fn_Md_repeat n0 p1 p2 vt_thrown vt_length vt_data = some (r0, nvt_thrown, nvt_length, nvt_data)) : Met l y_Md_repeat w_Md_repeat rm_Md_repeat (va_Pc [.ref qt, .int p1, .int p2] (fun U => U.heap.size = sz ∧ va_P (dC, dI) cl_All (ww_Md_repeat qt qt_data qt_checkBytes qt_blocks qt_modules qt_fixed qt_tells qt_segmentModes qt_segmentLengths qt_modes qt_takes qt_bytes qt_words qt_block qt_tried qt_values qt_system qt_solved qt_places qt_generator qt_readBytes qt_readings ct_data vt_thrown vt_length vt_version vt_side vt_made vt_segments vt_bits vt_filled vt_readLength vt_at vt_all vt_fault vt_good vt_data) U.heap ∧ va_K (dC, dI) cl_All [(ct_data, .int)] U ∧ va_D (fun _ => True) (ww_Md_repeat qt qt_data qt_checkBytes qt_blocks qt_modules qt_fixed qt_tells qt_segmentModes qt_segmentLengths qt_modes qt_takes qt_bytes qt_words qt_block qt_tried qt_values qt_system qt_solved qt_places qt_generator qt_readBytes qt_readings ct_data vt_thrown vt_length vt_version vt_side vt_made vt_segments vt_bits vt_filled vt_readLength vt_at vt_all vt_fault vt_good vt_data))) (qc_Md_repeat dC dI (va_A (ww_Md_repeat qt qt_data qt_checkBytes qt_blocks qt_modules qt_fixed qt_tells qt_segmentModes qt_segmentLengths qt_modes qt_takes qt_bytes qt_words qt_block qt_tried qt_values qt_system qt_solved qt_places qt_generator qt_readBytes qt_readings ct_data vt_thrown vt_length vt_version vt_side vt_made vt_segments vt_bits vt_filled vt_readLength vt_at vt_all vt_fault vt_good vt_data) sz) r0 qt qt_data qt_checkBytes qt_blocks qt_modules qt_fixed qt_tells qt_segmentModes qt_segmentLengths qt_modes qt_takes qt_bytes qt_words qt_block qt_tried qt_values qt_system qt_solved qt_places qt_generator qt_readBytes qt_readings ct_data nvt_thrown nvt_length vt_version vt_side vt_made vt_segments vt_bits vt_filled vt_readLength vt_at vt_all vt_fault vt_good nvt_data) 0 0 (va_A (ww_Md_repeat qt qt_data qt_checkBytes qt_blocks qt_modules qt_fixed qt_tells qt_segmentModes qt_segmentLengths qt_modes qt_takes qt_bytes qt_words qt_block qt_tried qt_values qt_system qt_solved qt_places qt_generator qt_readBytes qt_readings ct_data vt_thrown vt_length vt_version vt_side vt_made vt_segments vt_bits vt_filled vt_readLength vt_at vt_all vt_fault vt_good vt_data) sz) := by
  refine Met.ofW (cc := prog_14_method_4_code) (maxL := 4) (ret := (some .int)) (by decide) rfl ?_
  intro p e s m args below meth c s₁ B hml hv
  obtain ⟨rfl, hsz, hP, hK, hD0⟩ := hv
  have hx := B.exec; have hb := B.bytes; have hr := B.returns; have hlocks := B.notSynchronized
  have ht : ∀ w ∈ lw_g, w.before _ s = true := fun w h => atoms_spec (ws := w_Md_repeat) B.pre w (List.mem_cons_of_mem _ h)
  have hown : s.vm.findClass "SquareSymbolsModel" = some m.cls := findClass_of_methodNamed B.named
  subst hsz
  have hD := hD0.self (sz := s.heap.size)
  generalize hAe : va_A (ww_Md_repeat qt qt_data qt_checkBytes qt_blocks qt_modules qt_fixed qt_tells qt_segmentModes qt_segmentLengths qt_modes qt_takes qt_bytes qt_words qt_block qt_tried qt_values qt_system qt_solved qt_places qt_generator qt_readBytes qt_readings ct_data vt_thrown vt_length vt_version vt_side vt_made vt_segments vt_bits vt_filled vt_readLength vt_at vt_all vt_fault vt_good vt_data) s.heap.size = A at hD ⊢
  have hA : ∀ q : Nat, s.heap.size ≤ q → A q := fun q h => by rw [← hAe]; exact Or.inr h
  have hS : va_S A s.heap s.heap [] := va_S.rf
  have hl := lv_entry ([.ref qt, .int p1, .int p2]) (n := 4) (Nat.le_of_ble_eq_true rfl)
  rw [lg_entry_eq]
  generalize (lg_sl ([.ref qt, .int p1, .int p2]) ++ List.replicate (4 - (lg_sl ([.ref qt, .int p1, .int p2])).length) Slot.unset).toArray = ls at hl ⊢
  have hl : lv_has ls 4 [(0, .ref qt), (1, .int p1), (2, .int p2)] := hl
  refine lv_aload_n hx hb d_Md_repeat_0 rfl (lv_at hl 0 rfl) ?_
  refine lv_iload_n hx hb d_Md_repeat_1 rfl (lv_at hl 1 rfl) ?_
  obtain ⟨k2, hk2, Hf⟩ := sq_jn_e Hf
  have Jk2 : ∀ (x1 : Int32), k2 x1 = some (r0, nvt_thrown, nvt_length, nvt_data) → ∀ (H : Heap) (locs : List Loc), va_P (dC, dI) cl_All (ww_Md_repeat qt qt_data qt_checkBytes qt_blocks qt_modules qt_fixed qt_tells qt_segmentModes qt_segmentLengths qt_modes qt_takes qt_bytes qt_words qt_block qt_tried qt_values qt_system qt_solved qt_places qt_generator qt_readBytes qt_readings ct_data vt_thrown vt_length vt_version vt_side vt_made vt_segments vt_bits vt_filled vt_readLength vt_at vt_all vt_fault vt_good vt_data) H → va_D A (ww_Md_repeat qt qt_data qt_checkBytes qt_blocks qt_modules qt_fixed qt_tells qt_segmentModes qt_segmentLengths qt_modes qt_takes qt_bytes qt_words qt_block qt_tried qt_values qt_system qt_solved qt_places qt_generator qt_readBytes qt_readings ct_data vt_thrown vt_length vt_version vt_side vt_made vt_segments vt_bits vt_filled vt_readLength vt_at vt_all vt_fault vt_good vt_data) → va_S A s.heap H locs → ∀ ls : Array Slot, lv_has ls 4 [(0, .ref qt), (1, .int p1), (2, .int p2)] → W p l e (headSpec w_Md_repeat rm_Md_repeat).room s m (([.ref qt, .int p1, .int p2] : List Value).toArray) below meth c H locs 0 0 (MQ below (qc_Md_repeat dC dI A r0 qt qt_data qt_checkBytes qt_blocks qt_modules qt_fixed qt_tells qt_segmentModes qt_segmentLengths qt_modes qt_takes qt_bytes qt_words qt_block qt_tried qt_values qt_system qt_solved qt_places qt_generator qt_readBytes qt_readings ct_data nvt_thrown nvt_length vt_version vt_side vt_made vt_segments vt_bits vt_filled vt_readLength vt_at vt_all vt_fault vt_good nvt_data) (([.ref qt, .int p1, .int p2] : List Value).toArray) s 0 0 A) (F0 m 21 ls [.int x1, .ref qt]) := by
    intro x1 Hf H locs  hP hD hS ls hl
    rw [hk2] at Hf
    refine va_put (D := (dC, dI)) (ci := 10) (v := .int x1) (ty := .int) (C := R_Md) (T := F_Md) (N := 34) hx hb ht i_Md t_Md t_Md_ok n_Md hown hK hP hD hS 0 rfl rfl 0 (by decide) (ht _ tb_1062) (fun _ h9 => h9) rfl (by decide +kernel) rfl rfl (Nat.le_of_ble_eq_true rfl) d_Md_repeat_21 (fun H locs hP hD hS => ?_)
    replace hP : va_P (dC, dI) cl_All (ww_Md_repeat qt qt_data qt_checkBytes qt_blocks qt_modules qt_fixed qt_tells qt_segmentModes qt_segmentLengths qt_modes qt_takes qt_bytes qt_words qt_block qt_tried qt_values qt_system qt_solved qt_places qt_generator qt_readBytes qt_readings ct_data x1 vt_length vt_version vt_side vt_made vt_segments vt_bits vt_filled vt_readLength vt_at vt_all vt_fault vt_good vt_data) H := hP
    replace hD : va_D A (ww_Md_repeat qt qt_data qt_checkBytes qt_blocks qt_modules qt_fixed qt_tells qt_segmentModes qt_segmentLengths qt_modes qt_takes qt_bytes qt_words qt_block qt_tried qt_values qt_system qt_solved qt_places qt_generator qt_readBytes qt_readings ct_data x1 vt_length vt_version vt_side vt_made vt_segments vt_bits vt_filled vt_readLength vt_at vt_all vt_fault vt_good vt_data) := hD
    refine lv_aload_n hx hb d_Md_repeat_24 rfl (lv_at hl 0 rfl) ?_
    refine va_get (D := (dC, dI)) (ci := 10) (v := .int x1) (C := R_Md) (T := F_Md) (N := 34) hx hb ht i_Md hown hK hP 0 rfl rfl 0 (by decide) (ht _ tb_1062) (fun _ h9 => h9) rfl d_Md_repeat_25 ?_
    refine lv_if_le (tgt := 33) hx hb d_Md_repeat_28 (by decide) (fun c3 => ?_) (fun c3 => ?_)
    · replace Hf := sq_ite_t Hf c3
      refine lv_iload_n hx hb d_Md_repeat_33 rfl (lv_at hl 2 rfl) ?_
      refine lv_sipush (v := (3000 : Int32)) hx hb d_Md_repeat_34 (by decide) ?_
      refine lv_aload_n hx hb d_Md_repeat_37 rfl (lv_at hl 0 rfl) ?_
      refine va_get (D := (dC, dI)) (ci := 10) (v := .int vt_length) (C := R_Md) (T := F_Md) (N := 34) hx hb ht i_Md hown hK hP 0 rfl rfl 4 (by decide) (ht _ tb_1066) (fun _ h9 => h9) rfl d_Md_repeat_38 ?_
      refine lv_isub hx hb d_Md_repeat_41 ?_
      refine lv_icmp_le (tgt := 47) hx hb d_Md_repeat_42 (by decide) (fun c4 => ?_) (fun c4 => ?_)
      · replace Hf := sq_ite_t Hf c4
        refine lv_iconst (v := (0 : Int32)) hx hb d_Md_repeat_47 (by decide) ?_
        refine lv_istore_n (lv' := [(3, .int (0 : Int32)), (0, .ref qt), (1, .int p1), (2, .int p2)]) hx hb d_Md_repeat_48 rfl hl (by decide) rfl (fun ls hl => ?_)
        have L1 : ∀ (m1 : Nat), ∀ (x5 : Int32) (b6 : Int32) (b7 : Nat → Int32), fn_Md_repeat_L1 p1 p2 x1 m1 x5 b6 b7 = some (r0, nvt_thrown, nvt_length, nvt_data) → ∀ (H : Heap) (locs : List Loc), va_P (dC, dI) cl_All (ww_Md_repeat qt qt_data qt_checkBytes qt_blocks qt_modules qt_fixed qt_tells qt_segmentModes qt_segmentLengths qt_modes qt_takes qt_bytes qt_words qt_block qt_tried qt_values qt_system qt_solved qt_places qt_generator qt_readBytes qt_readings ct_data x1 b6 vt_version vt_side vt_made vt_segments vt_bits vt_filled vt_readLength vt_at vt_all vt_fault vt_good b7) H → va_D A (ww_Md_repeat qt qt_data qt_checkBytes qt_blocks qt_modules qt_fixed qt_tells qt_segmentModes qt_segmentLengths qt_modes qt_takes qt_bytes qt_words qt_block qt_tried qt_values qt_system qt_solved qt_places qt_generator qt_readBytes qt_readings ct_data x1 b6 vt_version vt_side vt_made vt_segments vt_bits vt_filled vt_readLength vt_at vt_all vt_fault vt_good b7) → va_S A s.heap H locs → ∀ ls : Array Slot, lv_has ls 4 [(0, .ref qt), (1, .int p1), (2, .int p2), (3, .int x5)] → W p l e (headSpec w_Md_repeat rm_Md_repeat).room s m (([.ref qt, .int p1, .int p2] : List Value).toArray) below meth c H locs 0 0 (MQ below (qc_Md_repeat dC dI A r0 qt qt_data qt_checkBytes qt_blocks qt_modules qt_fixed qt_tells qt_segmentModes qt_segmentLengths qt_modes qt_takes qt_bytes qt_words qt_block qt_tried qt_values qt_system qt_solved qt_places qt_generator qt_readBytes qt_readings ct_data nvt_thrown nvt_length vt_version vt_side vt_made vt_segments vt_bits vt_filled vt_readLength vt_at vt_all vt_fault vt_good nvt_data) (([.ref qt, .int p1, .int p2] : List Value).toArray) s 0 0 A) (F0 m 49 ls []) := by
          intro m1
          induction m1 with
          | zero => intro x5 b6 b7 Hf; exact sq_none Hf
          | succ m1 ih1 =>
            intro x5 b6 b7 Hf H locs  hP hD hS ls hl
            replace Hf := (fn_Md_repeat_L1_s p1 p2 x1 m1 x5 b6 b7).symm.trans Hf
            refine lv_iload_n hx hb d_Md_repeat_49 rfl (lv_at hl 3 rfl) ?_
            refine lv_iload_n hx hb d_Md_repeat_50 rfl (lv_at hl 2 rfl) ?_
            refine lv_icmp_ge (tgt := 80) hx hb d_Md_repeat_51 (by decide) (fun c8 => ?_) (fun c8 => ?_)
            · replace Hf := sq_ite_t Hf c8
              refine lv_aload_n hx hb d_Md_repeat_80 rfl (lv_at hl 0 rfl) ?_
              refine va_get (D := (dC, dI)) (ci := 10) (v := .int b6) (C := R_Md) (T := F_Md) (N := 34) hx hb ht i_Md hown hK hP 0 rfl rfl 4 (by decide) (ht _ tb_1066) (fun _ h9 => h9) rfl d_Md_repeat_81 ?_
              obtain ⟨rfl, rfl, rfl, rfl⟩ := sq_so4 Hf
              exact W.iret hx hb hr (fun t ht hW => ⟨⟨_, (), rfl, rfl, by rw [ht]; exact hP, hD⟩, hS.F ht⟩) hS.2.2 d_Md_repeat_84
            · replace Hf := sq_ite_f Hf c8
              refine lv_aload_n hx hb d_Md_repeat_54 rfl (lv_at hl 0 rfl) ?_
              refine va_get (D := (dC, dI)) (ci := 10) (v := .ref qt_data) (C := R_Md) (T := F_Md) (N := 34) hx hb ht i_Md hown hK hP 0 rfl rfl 3 (by decide) (ht _ tb_1065) (fun _ h9 => h9) rfl d_Md_repeat_55 ?_
              refine lv_aload_n hx hb d_Md_repeat_58 rfl (lv_at hl 0 rfl) ?_
              refine va_get (D := (dC, dI)) (ci := 10) (v := .int b6) (C := R_Md) (T := F_Md) (N := 34) hx hb ht i_Md hown hK hP 0 rfl rfl 4 (by decide) (ht _ tb_1066) (fun _ h9 => h9) rfl d_Md_repeat_59 ?_
              refine lv_iload_n hx hb d_Md_repeat_62 rfl (lv_at hl 1 rfl) ?_
              obtain ⟨hi9, Hf⟩ := sq_gi_e Hf
              obtain ⟨b10, eb10, Hf⟩ := sq_bd_e Hf
              refine va_iast hx hb hK hP hD hS 1 0 rfl rfl hi9 d_Md_repeat_63 (fun H locs hP hD hS => ?_)
              rw [← eb10] at hP hD
              replace hP : va_P (dC, dI) cl_All (ww_Md_repeat qt qt_data qt_checkBytes qt_blocks qt_modules qt_fixed qt_tells qt_segmentModes qt_segmentLengths qt_modes qt_takes qt_bytes qt_words qt_block qt_tried qt_values qt_system qt_solved qt_places qt_generator qt_readBytes qt_readings ct_data x1 b6 vt_version vt_side vt_made vt_segments vt_bits vt_filled vt_readLength vt_at vt_all vt_fault vt_good b10) H := hP
              replace hD : va_D A (ww_Md_repeat qt qt_data qt_checkBytes qt_blocks qt_modules qt_fixed qt_tells qt_segmentModes qt_segmentLengths qt_modes qt_takes qt_bytes qt_words qt_block qt_tried qt_values qt_system qt_solved qt_places qt_generator qt_readBytes qt_readings ct_data x1 b6 vt_version vt_side vt_made vt_segments vt_bits vt_filled vt_readLength vt_at vt_all vt_fault vt_good b10) := hD
              refine lv_aload_n hx hb d_Md_repeat_64 rfl (lv_at hl 0 rfl) ?_
              refine lv_dup hx hb d_Md_repeat_65 rfl ?_
              refine va_get (D := (dC, dI)) (ci := 10) (v := .int b6) (C := R_Md) (T := F_Md) (N := 34) hx hb ht i_Md hown hK hP 0 rfl rfl 4 (by decide) (ht _ tb_1066) (fun _ h9 => h9) rfl d_Md_repeat_66 ?_
              refine lv_iconst (v := (1 : Int32)) hx hb d_Md_repeat_69 (by decide) ?_
              refine lv_iadd hx hb d_Md_repeat_70 ?_
              obtain ⟨x11, ex11, Hf⟩ := sq_bd_e Hf
              refine sq_top ex11 ?_
              refine va_put (D := (dC, dI)) (ci := 10) (v := .int x11) (ty := .int) (C := R_Md) (T := F_Md) (N := 34) hx hb ht i_Md t_Md t_Md_ok n_Md hown hK hP hD hS 0 rfl rfl 4 (by decide) (ht _ tb_1066) (fun _ h9 => h9) rfl (by decide +kernel) rfl rfl (Nat.le_of_ble_eq_true rfl) d_Md_repeat_71 (fun H locs hP hD hS => ?_)
              replace hP : va_P (dC, dI) cl_All (ww_Md_repeat qt qt_data qt_checkBytes qt_blocks qt_modules qt_fixed qt_tells qt_segmentModes qt_segmentLengths qt_modes qt_takes qt_bytes qt_words qt_block qt_tried qt_values qt_system qt_solved qt_places qt_generator qt_readBytes qt_readings ct_data x1 x11 vt_version vt_side vt_made vt_segments vt_bits vt_filled vt_readLength vt_at vt_all vt_fault vt_good b10) H := hP
              replace hD : va_D A (ww_Md_repeat qt qt_data qt_checkBytes qt_blocks qt_modules qt_fixed qt_tells qt_segmentModes qt_segmentLengths qt_modes qt_takes qt_bytes qt_words qt_block qt_tried qt_values qt_system qt_solved qt_places qt_generator qt_readBytes qt_readings ct_data x1 x11 vt_version vt_side vt_made vt_segments vt_bits vt_filled vt_readLength vt_at vt_all vt_fault vt_good b10) := hD
              obtain ⟨x12, ex12, Hf⟩ := sq_bd_e Hf
              refine lv_iinc (v := x12) (lv' := [(3, .int x12), (0, .ref qt), (1, .int p1), (2, .int p2)]) hx hb d_Md_repeat_74 hl (k := 3) rfl (by rw [ex12]; rfl) (by decide) rfl (fun ls hl => ?_)
              refine lv_goto (tgt := 49) hx hb d_Md_repeat_77 (by decide) ?_
              exact ih1 x12 x11 b10 Hf _ _  hP hD hS _ (lv_sub hl [1, 2, 3, 0] rfl)
        exact L1 n0 (0 : Int32) vt_length vt_data Hf _ _  hP hD hS _ (lv_sub hl [1, 2, 3, 0] rfl)
      · replace Hf := sq_ite_f Hf c4
        refine lv_iconst (v := (-1 : Int32)) hx hb d_Md_repeat_45 (by decide) ?_
        obtain ⟨rfl, rfl, rfl, rfl⟩ := sq_so4 Hf
        exact W.iret hx hb hr (fun t ht hW => ⟨⟨_, (), rfl, rfl, by rw [ht]; exact hP, hD⟩, hS.F ht⟩) hS.2.2 d_Md_repeat_46
    · replace Hf := sq_ite_f Hf c3
      refine lv_iconst (v := (0 : Int32)) hx hb d_Md_repeat_31 (by decide) ?_
      obtain ⟨rfl, rfl, rfl, rfl⟩ := sq_so4 Hf
      exact W.iret hx hb hr (fun t ht hW => ⟨⟨_, (), rfl, rfl, by rw [ht]; exact hP, hD⟩, hS.F ht⟩) hS.2.2 d_Md_repeat_32
  obtain ⟨k13, hk13, Hf⟩ := sq_jn_e Hf
  have Jk13 : ∀ (_u : Unit), k13 _u = some (r0, nvt_thrown, nvt_length, nvt_data) → ∀ (H : Heap) (locs : List Loc), va_P (dC, dI) cl_All (ww_Md_repeat qt qt_data qt_checkBytes qt_blocks qt_modules qt_fixed qt_tells qt_segmentModes qt_segmentLengths qt_modes qt_takes qt_bytes qt_words qt_block qt_tried qt_values qt_system qt_solved qt_places qt_generator qt_readBytes qt_readings ct_data vt_thrown vt_length vt_version vt_side vt_made vt_segments vt_bits vt_filled vt_readLength vt_at vt_all vt_fault vt_good vt_data) H → va_D A (ww_Md_repeat qt qt_data qt_checkBytes qt_blocks qt_modules qt_fixed qt_tells qt_segmentModes qt_segmentLengths qt_modes qt_takes qt_bytes qt_words qt_block qt_tried qt_values qt_system qt_solved qt_places qt_generator qt_readBytes qt_readings ct_data vt_thrown vt_length vt_version vt_side vt_made vt_segments vt_bits vt_filled vt_readLength vt_at vt_all vt_fault vt_good vt_data) → va_S A s.heap H locs → ∀ ls : Array Slot, lv_has ls 4 [(0, .ref qt), (1, .int p1), (2, .int p2)] → W p l e (headSpec w_Md_repeat rm_Md_repeat).room s m (([.ref qt, .int p1, .int p2] : List Value).toArray) below meth c H locs 0 0 (MQ below (qc_Md_repeat dC dI A r0 qt qt_data qt_checkBytes qt_blocks qt_modules qt_fixed qt_tells qt_segmentModes qt_segmentLengths qt_modes qt_takes qt_bytes qt_words qt_block qt_tried qt_values qt_system qt_solved qt_places qt_generator qt_readBytes qt_readings ct_data nvt_thrown nvt_length vt_version vt_side vt_made vt_segments vt_bits vt_filled vt_readLength vt_at vt_all vt_fault vt_good nvt_data) (([.ref qt, .int p1, .int p2] : List Value).toArray) s 0 0 A) (F0 m 16 ls [.ref qt]) := by
    intro _u Hf H locs  hP hD hS ls hl
    rw [hk13] at Hf
    refine lv_iconst (v := (1 : Int32)) hx hb d_Md_repeat_16 (by decide) ?_
    refine lv_goto (tgt := 21) hx hb d_Md_repeat_17 (by decide) ?_
    exact Jk2 (1 : Int32) Hf _ _  hP hD hS _ (lv_sub hl [0, 1, 2] rfl)
  refine lv_if_lt (tgt := 16) hx hb d_Md_repeat_2 (by decide) (fun c14 => ?_) (fun c14 => ?_)
  · replace Hf := sq_ite_t Hf c14
    exact Jk13 () Hf _ _  hP hD hS _ (lv_sub hl [0, 1, 2] rfl)
  · replace Hf := sq_ite_f Hf c14
    refine lv_iload_n hx hb d_Md_repeat_5 rfl (lv_at hl 1 rfl) ?_
    refine lv_sipush (v := (255 : Int32)) hx hb d_Md_repeat_6 (by decide) ?_
    refine lv_icmp_gt (tgt := 16) hx hb d_Md_repeat_9 (by decide) (fun c15 => ?_) (fun c15 => ?_)
    · replace Hf := sq_ite_t Hf c15
      exact Jk13 () Hf _ _  hP hD hS _ (lv_sub hl [0, 1, 2] rfl)
    · replace Hf := sq_ite_f Hf c15
      refine lv_iload_n hx hb d_Md_repeat_12 rfl (lv_at hl 2 rfl) ?_
      refine lv_if_ge (tgt := 20) hx hb d_Md_repeat_13 (by decide) (fun c16 => ?_) (fun c16 => ?_)
      · replace Hf := sq_ite_t Hf c16
        refine lv_iconst (v := (0 : Int32)) hx hb d_Md_repeat_20 (by decide) ?_
        exact Jk2 (0 : Int32) Hf _ _  hP hD hS _ (lv_sub hl [0, 1, 2] rfl)
      · replace Hf := sq_ite_f Hf c16
        exact Jk13 () Hf _ _  hP hD hS _ (lv_sub hl [0, 1, 2] rfl)

def fn_Md_wipe (vt_thrown : Int32) (vt_length : Int32) : Option (Int32 × Int32 × Int32) :=
  some (vt_length, (0 : Int32), (0 : Int32))
abbrev ww_Md_wipe (qt qt_checkBytes qt_blocks qt_data qt_modules qt_fixed qt_tells qt_segmentModes qt_segmentLengths qt_modes qt_takes qt_bytes qt_words qt_block qt_tried qt_values qt_system qt_solved qt_places qt_generator qt_readBytes qt_readings : Nat) (vt_thrown : Int32) (vt_length : Int32) (vt_version : Int32) (vt_side : Int32) (vt_made : Int32) (vt_segments : Int32) (vt_bits : Int32) (vt_filled : Int32) (vt_readLength : Int32) (vt_at : Int32) (vt_all : Int32) (vt_fault : Int32) (vt_good : Int32) : va_W := [(qt, .inr (10, [.int vt_thrown, .ref qt_checkBytes, .ref qt_blocks, .ref qt_data, .int vt_length, .ref qt_modules, .ref qt_fixed, .int vt_version, .int vt_side, .int vt_made, .ref qt_tells, .ref qt_segmentModes, .ref qt_segmentLengths, .int vt_segments, .ref qt_modes, .ref qt_takes, .int vt_bits, .ref qt_bytes, .ref qt_words, .int vt_filled, .ref qt_block, .ref qt_tried, .ref qt_values, .ref qt_system, .ref qt_solved, .ref qt_places, .ref qt_generator, .ref qt_readBytes, .int vt_readLength, .int vt_at, .int vt_all, .int vt_fault, .int vt_good, .ref qt_readings]))]

def rm_Md_wipe : Room := { frames := 0, cells := 0, slots := 0, locals := 0 }
abbrev qc_Md_wipe (dC : Nat → ClassId) (dI : Nat → Nat → Nat) (A : Nat → Prop) (r0 : Int32) (qt qt_checkBytes qt_blocks qt_data qt_modules qt_fixed qt_tells qt_segmentModes qt_segmentLengths qt_modes qt_takes qt_bytes qt_words qt_block qt_tried qt_values qt_system qt_solved qt_places qt_generator qt_readBytes qt_readings : Nat) (vt_thrown : Int32) (vt_length : Int32) (vt_version : Int32) (vt_side : Int32) (vt_made : Int32) (vt_segments : Int32) (vt_bits : Int32) (vt_filled : Int32) (vt_readLength : Int32) (vt_at : Int32) (vt_all : Int32) (vt_fault : Int32) (vt_good : Int32) : Array Value → State → Outcome → State → Prop := va_Qi (fun r (_ : Unit) => r = r0) (fun _ t => va_P (dC, dI) cl_All (ww_Md_wipe qt qt_checkBytes qt_blocks qt_data qt_modules qt_fixed qt_tells qt_segmentModes qt_segmentLengths qt_modes qt_takes qt_bytes qt_words qt_block qt_tried qt_values qt_system qt_solved qt_places qt_generator qt_readBytes qt_readings vt_thrown vt_length vt_version vt_side vt_made vt_segments vt_bits vt_filled vt_readLength vt_at vt_all vt_fault vt_good) t.heap ∧ va_D A (ww_Md_wipe qt qt_checkBytes qt_blocks qt_data qt_modules qt_fixed qt_tells qt_segmentModes qt_segmentLengths qt_modes qt_takes qt_bytes qt_words qt_block qt_tried qt_values qt_system qt_solved qt_places qt_generator qt_readBytes qt_readings vt_thrown vt_length vt_version vt_side vt_made vt_segments vt_bits vt_filled vt_readLength vt_at vt_all vt_fault vt_good)) A

set_option maxHeartbeats 4000000 in
set_option maxRecDepth 100000 in
theorem kt_Md_wipe (l : Launch) (dC : Nat → ClassId) (dI : Nat → Nat → Nat) (qt qt_checkBytes qt_blocks qt_data qt_modules qt_fixed qt_tells qt_segmentModes qt_segmentLengths qt_modes qt_takes qt_bytes qt_words qt_block qt_tried qt_values qt_system qt_solved qt_places qt_generator qt_readBytes qt_readings : Nat) (vt_thrown : Int32) (vt_length : Int32) (vt_version : Int32) (vt_side : Int32) (vt_made : Int32) (vt_segments : Int32) (vt_bits : Int32) (vt_filled : Int32) (vt_readLength : Int32) (vt_at : Int32) (vt_all : Int32) (vt_fault : Int32) (vt_good : Int32) (sz : Nat) (r0 : Int32) (nvt_thrown : Int32) (nvt_length : Int32) (Hf : fn_Md_wipe vt_thrown vt_length = some (r0, nvt_thrown, nvt_length)) : Met l y_Md_wipe w_Md_wipe rm_Md_wipe (va_Pc [.ref qt] (fun U => U.heap.size = sz ∧ va_P (dC, dI) cl_All (ww_Md_wipe qt qt_checkBytes qt_blocks qt_data qt_modules qt_fixed qt_tells qt_segmentModes qt_segmentLengths qt_modes qt_takes qt_bytes qt_words qt_block qt_tried qt_values qt_system qt_solved qt_places qt_generator qt_readBytes qt_readings vt_thrown vt_length vt_version vt_side vt_made vt_segments vt_bits vt_filled vt_readLength vt_at vt_all vt_fault vt_good) U.heap ∧ va_K (dC, dI) cl_All [] U ∧ va_D (fun _ => True) (ww_Md_wipe qt qt_checkBytes qt_blocks qt_data qt_modules qt_fixed qt_tells qt_segmentModes qt_segmentLengths qt_modes qt_takes qt_bytes qt_words qt_block qt_tried qt_values qt_system qt_solved qt_places qt_generator qt_readBytes qt_readings vt_thrown vt_length vt_version vt_side vt_made vt_segments vt_bits vt_filled vt_readLength vt_at vt_all vt_fault vt_good))) (qc_Md_wipe dC dI (va_A (ww_Md_wipe qt qt_checkBytes qt_blocks qt_data qt_modules qt_fixed qt_tells qt_segmentModes qt_segmentLengths qt_modes qt_takes qt_bytes qt_words qt_block qt_tried qt_values qt_system qt_solved qt_places qt_generator qt_readBytes qt_readings vt_thrown vt_length vt_version vt_side vt_made vt_segments vt_bits vt_filled vt_readLength vt_at vt_all vt_fault vt_good) sz) r0 qt qt_checkBytes qt_blocks qt_data qt_modules qt_fixed qt_tells qt_segmentModes qt_segmentLengths qt_modes qt_takes qt_bytes qt_words qt_block qt_tried qt_values qt_system qt_solved qt_places qt_generator qt_readBytes qt_readings nvt_thrown nvt_length vt_version vt_side vt_made vt_segments vt_bits vt_filled vt_readLength vt_at vt_all vt_fault vt_good) 0 0 (va_A (ww_Md_wipe qt qt_checkBytes qt_blocks qt_data qt_modules qt_fixed qt_tells qt_segmentModes qt_segmentLengths qt_modes qt_takes qt_bytes qt_words qt_block qt_tried qt_values qt_system qt_solved qt_places qt_generator qt_readBytes qt_readings vt_thrown vt_length vt_version vt_side vt_made vt_segments vt_bits vt_filled vt_readLength vt_at vt_all vt_fault vt_good) sz) := by
  refine Met.ofW (cc := prog_14_method_5_code) (maxL := 2) (ret := (some .int)) (by decide) rfl ?_
  intro p e s m args below meth c s₁ B hml hv
  obtain ⟨rfl, hsz, hP, hK, hD0⟩ := hv
  have hx := B.exec; have hb := B.bytes; have hr := B.returns; have hlocks := B.notSynchronized
  have ht : ∀ w ∈ lw_g, w.before _ s = true := fun w h => atoms_spec (ws := w_Md_wipe) B.pre w (List.mem_cons_of_mem _ h)
  have hown : s.vm.findClass "SquareSymbolsModel" = some m.cls := findClass_of_methodNamed B.named
  subst hsz
  have hD := hD0.self (sz := s.heap.size)
  generalize hAe : va_A (ww_Md_wipe qt qt_checkBytes qt_blocks qt_data qt_modules qt_fixed qt_tells qt_segmentModes qt_segmentLengths qt_modes qt_takes qt_bytes qt_words qt_block qt_tried qt_values qt_system qt_solved qt_places qt_generator qt_readBytes qt_readings vt_thrown vt_length vt_version vt_side vt_made vt_segments vt_bits vt_filled vt_readLength vt_at vt_all vt_fault vt_good) s.heap.size = A at hD ⊢
  have hA : ∀ q : Nat, s.heap.size ≤ q → A q := fun q h => by rw [← hAe]; exact Or.inr h
  have hS : va_S A s.heap s.heap [] := va_S.rf
  have hl := lv_entry ([.ref qt]) (n := 2) (Nat.le_of_ble_eq_true rfl)
  rw [lg_entry_eq]
  generalize (lg_sl ([.ref qt]) ++ List.replicate (2 - (lg_sl ([.ref qt])).length) Slot.unset).toArray = ls at hl ⊢
  have hl : lv_has ls 2 [(0, .ref qt)] := hl
  refine lv_aload_n hx hb d_Md_wipe_0 rfl (lv_at hl 0 rfl) ?_
  refine lv_iconst (v := (0 : Int32)) hx hb d_Md_wipe_1 (by decide) ?_
  refine va_put (D := (dC, dI)) (ci := 10) (v := .int (0 : Int32)) (ty := .int) (C := R_Md) (T := F_Md) (N := 34) hx hb ht i_Md t_Md t_Md_ok n_Md hown hK hP hD hS 0 rfl rfl 0 (by decide) (ht _ tb_1062) (fun _ h9 => h9) rfl (by decide +kernel) rfl rfl (Nat.le_of_ble_eq_true rfl) d_Md_wipe_2 (fun H locs hP hD hS => ?_)
  replace hP : va_P (dC, dI) cl_All (ww_Md_wipe qt qt_checkBytes qt_blocks qt_data qt_modules qt_fixed qt_tells qt_segmentModes qt_segmentLengths qt_modes qt_takes qt_bytes qt_words qt_block qt_tried qt_values qt_system qt_solved qt_places qt_generator qt_readBytes qt_readings (0 : Int32) vt_length vt_version vt_side vt_made vt_segments vt_bits vt_filled vt_readLength vt_at vt_all vt_fault vt_good) H := hP
  replace hD : va_D A (ww_Md_wipe qt qt_checkBytes qt_blocks qt_data qt_modules qt_fixed qt_tells qt_segmentModes qt_segmentLengths qt_modes qt_takes qt_bytes qt_words qt_block qt_tried qt_values qt_system qt_solved qt_places qt_generator qt_readBytes qt_readings (0 : Int32) vt_length vt_version vt_side vt_made vt_segments vt_bits vt_filled vt_readLength vt_at vt_all vt_fault vt_good) := hD
  refine lv_aload_n hx hb d_Md_wipe_5 rfl (lv_at hl 0 rfl) ?_
  refine va_get (D := (dC, dI)) (ci := 10) (v := .int vt_length) (C := R_Md) (T := F_Md) (N := 34) hx hb ht i_Md hown hK hP 0 rfl rfl 4 (by decide) (ht _ tb_1066) (fun _ h9 => h9) rfl d_Md_wipe_6 ?_
  refine lv_istore_n (lv' := [(1, .int vt_length), (0, .ref qt)]) hx hb d_Md_wipe_9 rfl hl (by decide) rfl (fun ls hl => ?_)
  refine lv_aload_n hx hb d_Md_wipe_10 rfl (lv_at hl 1 rfl) ?_
  refine lv_iconst (v := (0 : Int32)) hx hb d_Md_wipe_11 (by decide) ?_
  refine va_put (D := (dC, dI)) (ci := 10) (v := .int (0 : Int32)) (ty := .int) (C := R_Md) (T := F_Md) (N := 34) hx hb ht i_Md t_Md t_Md_ok n_Md hown hK hP hD hS 0 rfl rfl 4 (by decide) (ht _ tb_1066) (fun _ h9 => h9) rfl (by decide +kernel) rfl rfl (Nat.le_of_ble_eq_true rfl) d_Md_wipe_12 (fun H locs hP hD hS => ?_)
  replace hP : va_P (dC, dI) cl_All (ww_Md_wipe qt qt_checkBytes qt_blocks qt_data qt_modules qt_fixed qt_tells qt_segmentModes qt_segmentLengths qt_modes qt_takes qt_bytes qt_words qt_block qt_tried qt_values qt_system qt_solved qt_places qt_generator qt_readBytes qt_readings (0 : Int32) (0 : Int32) vt_version vt_side vt_made vt_segments vt_bits vt_filled vt_readLength vt_at vt_all vt_fault vt_good) H := hP
  replace hD : va_D A (ww_Md_wipe qt qt_checkBytes qt_blocks qt_data qt_modules qt_fixed qt_tells qt_segmentModes qt_segmentLengths qt_modes qt_takes qt_bytes qt_words qt_block qt_tried qt_values qt_system qt_solved qt_places qt_generator qt_readBytes qt_readings (0 : Int32) (0 : Int32) vt_version vt_side vt_made vt_segments vt_bits vt_filled vt_readLength vt_at vt_all vt_fault vt_good) := hD
  refine lv_iload_n hx hb d_Md_wipe_15 rfl (lv_at hl 0 rfl) ?_
  obtain ⟨rfl, rfl, rfl⟩ := sq_so3 Hf
  exact W.iret hx hb hr (fun t ht hW => ⟨⟨_, (), rfl, rfl, by rw [ht]; exact hP, hD⟩, hS.F ht⟩) hS.2.2 d_Md_wipe_16

def fn_Md_at (p1 : Int32) (vt_thrown : Int32) (vt_length : Int32) (vt_data : Nat → Int32) : Option (Int32 × Int32) :=
  if p1 < 0 then (some ((-1 : Int32), (0 : Int32))) else (if p1 < vt_length then (sq_gi p1 3000 <| sq_bd (vt_data p1.toNatClampNeg) fun x4 => some (x4, (0 : Int32))) else (some ((-1 : Int32), (0 : Int32))))
abbrev ww_Md_at (qt qt_data qt_checkBytes qt_blocks qt_modules qt_fixed qt_tells qt_segmentModes qt_segmentLengths qt_modes qt_takes qt_bytes qt_words qt_block qt_tried qt_values qt_system qt_solved qt_places qt_generator qt_readBytes qt_readings : Nat) (ct_data : ClassId) (vt_thrown : Int32) (vt_length : Int32) (vt_version : Int32) (vt_side : Int32) (vt_made : Int32) (vt_segments : Int32) (vt_bits : Int32) (vt_filled : Int32) (vt_readLength : Int32) (vt_at : Int32) (vt_all : Int32) (vt_fault : Int32) (vt_good : Int32) (vt_data : Nat → Int32) : va_W := [(qt, .inr (10, [.int vt_thrown, .ref qt_checkBytes, .ref qt_blocks, .ref qt_data, .int vt_length, .ref qt_modules, .ref qt_fixed, .int vt_version, .int vt_side, .int vt_made, .ref qt_tells, .ref qt_segmentModes, .ref qt_segmentLengths, .int vt_segments, .ref qt_modes, .ref qt_takes, .int vt_bits, .ref qt_bytes, .ref qt_words, .int vt_filled, .ref qt_block, .ref qt_tried, .ref qt_values, .ref qt_system, .ref qt_solved, .ref qt_places, .ref qt_generator, .ref qt_readBytes, .int vt_readLength, .int vt_at, .int vt_all, .int vt_fault, .int vt_good, .ref qt_readings])), (qt_data, .inl (ct_data, 3000, .inl vt_data))]

def rm_Md_at : Room := { frames := 0, cells := 0, slots := 0, locals := 0 }
abbrev qc_Md_at (dC : Nat → ClassId) (dI : Nat → Nat → Nat) (A : Nat → Prop) (r0 : Int32) (qt qt_data qt_checkBytes qt_blocks qt_modules qt_fixed qt_tells qt_segmentModes qt_segmentLengths qt_modes qt_takes qt_bytes qt_words qt_block qt_tried qt_values qt_system qt_solved qt_places qt_generator qt_readBytes qt_readings : Nat) (ct_data : ClassId) (vt_thrown : Int32) (vt_length : Int32) (vt_version : Int32) (vt_side : Int32) (vt_made : Int32) (vt_segments : Int32) (vt_bits : Int32) (vt_filled : Int32) (vt_readLength : Int32) (vt_at : Int32) (vt_all : Int32) (vt_fault : Int32) (vt_good : Int32) (vt_data : Nat → Int32) : Array Value → State → Outcome → State → Prop := va_Qi (fun r (_ : Unit) => r = r0) (fun _ t => va_P (dC, dI) cl_All (ww_Md_at qt qt_data qt_checkBytes qt_blocks qt_modules qt_fixed qt_tells qt_segmentModes qt_segmentLengths qt_modes qt_takes qt_bytes qt_words qt_block qt_tried qt_values qt_system qt_solved qt_places qt_generator qt_readBytes qt_readings ct_data vt_thrown vt_length vt_version vt_side vt_made vt_segments vt_bits vt_filled vt_readLength vt_at vt_all vt_fault vt_good vt_data) t.heap ∧ va_D A (ww_Md_at qt qt_data qt_checkBytes qt_blocks qt_modules qt_fixed qt_tells qt_segmentModes qt_segmentLengths qt_modes qt_takes qt_bytes qt_words qt_block qt_tried qt_values qt_system qt_solved qt_places qt_generator qt_readBytes qt_readings ct_data vt_thrown vt_length vt_version vt_side vt_made vt_segments vt_bits vt_filled vt_readLength vt_at vt_all vt_fault vt_good vt_data)) A

set_option maxHeartbeats 4000000 in
set_option maxRecDepth 100000 in
theorem kt_Md_at (l : Launch) (dC : Nat → ClassId) (dI : Nat → Nat → Nat) (qt qt_data qt_checkBytes qt_blocks qt_modules qt_fixed qt_tells qt_segmentModes qt_segmentLengths qt_modes qt_takes qt_bytes qt_words qt_block qt_tried qt_values qt_system qt_solved qt_places qt_generator qt_readBytes qt_readings : Nat) (ct_data : ClassId) (vt_thrown : Int32) (vt_length : Int32) (vt_version : Int32) (vt_side : Int32) (vt_made : Int32) (vt_segments : Int32) (vt_bits : Int32) (vt_filled : Int32) (vt_readLength : Int32) (vt_at : Int32) (vt_all : Int32) (vt_fault : Int32) (vt_good : Int32) (vt_data : Nat → Int32) (p1 : Int32) (sz : Nat) (r0 : Int32) (nvt_thrown : Int32) (Hf : fn_Md_at p1 vt_thrown vt_length vt_data = some (r0, nvt_thrown)) : Met l y_Md_at w_Md_at rm_Md_at (va_Pc [.ref qt, .int p1] (fun U => U.heap.size = sz ∧ va_P (dC, dI) cl_All (ww_Md_at qt qt_data qt_checkBytes qt_blocks qt_modules qt_fixed qt_tells qt_segmentModes qt_segmentLengths qt_modes qt_takes qt_bytes qt_words qt_block qt_tried qt_values qt_system qt_solved qt_places qt_generator qt_readBytes qt_readings ct_data vt_thrown vt_length vt_version vt_side vt_made vt_segments vt_bits vt_filled vt_readLength vt_at vt_all vt_fault vt_good vt_data) U.heap ∧ va_K (dC, dI) cl_All [(ct_data, .int)] U ∧ va_D (fun _ => True) (ww_Md_at qt qt_data qt_checkBytes qt_blocks qt_modules qt_fixed qt_tells qt_segmentModes qt_segmentLengths qt_modes qt_takes qt_bytes qt_words qt_block qt_tried qt_values qt_system qt_solved qt_places qt_generator qt_readBytes qt_readings ct_data vt_thrown vt_length vt_version vt_side vt_made vt_segments vt_bits vt_filled vt_readLength vt_at vt_all vt_fault vt_good vt_data))) (qc_Md_at dC dI (va_A (ww_Md_at qt qt_data qt_checkBytes qt_blocks qt_modules qt_fixed qt_tells qt_segmentModes qt_segmentLengths qt_modes qt_takes qt_bytes qt_words qt_block qt_tried qt_values qt_system qt_solved qt_places qt_generator qt_readBytes qt_readings ct_data vt_thrown vt_length vt_version vt_side vt_made vt_segments vt_bits vt_filled vt_readLength vt_at vt_all vt_fault vt_good vt_data) sz) r0 qt qt_data qt_checkBytes qt_blocks qt_modules qt_fixed qt_tells qt_segmentModes qt_segmentLengths qt_modes qt_takes qt_bytes qt_words qt_block qt_tried qt_values qt_system qt_solved qt_places qt_generator qt_readBytes qt_readings ct_data nvt_thrown vt_length vt_version vt_side vt_made vt_segments vt_bits vt_filled vt_readLength vt_at vt_all vt_fault vt_good vt_data) 0 0 (va_A (ww_Md_at qt qt_data qt_checkBytes qt_blocks qt_modules qt_fixed qt_tells qt_segmentModes qt_segmentLengths qt_modes qt_takes qt_bytes qt_words qt_block qt_tried qt_values qt_system qt_solved qt_places qt_generator qt_readBytes qt_readings ct_data vt_thrown vt_length vt_version vt_side vt_made vt_segments vt_bits vt_filled vt_readLength vt_at vt_all vt_fault vt_good vt_data) sz) := by
  refine Met.ofW (cc := prog_14_method_6_code) (maxL := 2) (ret := (some .int)) (by decide) rfl ?_
  intro p e s m args below meth c s₁ B hml hv
  obtain ⟨rfl, hsz, hP, hK, hD0⟩ := hv
  have hx := B.exec; have hb := B.bytes; have hr := B.returns; have hlocks := B.notSynchronized
  have ht : ∀ w ∈ lw_g, w.before _ s = true := fun w h => atoms_spec (ws := w_Md_at) B.pre w (List.mem_cons_of_mem _ h)
  have hown : s.vm.findClass "SquareSymbolsModel" = some m.cls := findClass_of_methodNamed B.named
  subst hsz
  have hD := hD0.self (sz := s.heap.size)
  generalize hAe : va_A (ww_Md_at qt qt_data qt_checkBytes qt_blocks qt_modules qt_fixed qt_tells qt_segmentModes qt_segmentLengths qt_modes qt_takes qt_bytes qt_words qt_block qt_tried qt_values qt_system qt_solved qt_places qt_generator qt_readBytes qt_readings ct_data vt_thrown vt_length vt_version vt_side vt_made vt_segments vt_bits vt_filled vt_readLength vt_at vt_all vt_fault vt_good vt_data) s.heap.size = A at hD ⊢
  have hA : ∀ q : Nat, s.heap.size ≤ q → A q := fun q h => by rw [← hAe]; exact Or.inr h
  have hS : va_S A s.heap s.heap [] := va_S.rf
  have hl := lv_entry ([.ref qt, .int p1]) (n := 2) (Nat.le_of_ble_eq_true rfl)
  rw [lg_entry_eq]
  generalize (lg_sl ([.ref qt, .int p1]) ++ List.replicate (2 - (lg_sl ([.ref qt, .int p1])).length) Slot.unset).toArray = ls at hl ⊢
  have hl : lv_has ls 2 [(0, .ref qt), (1, .int p1)] := hl
  refine lv_aload_n hx hb d_Md_at_0 rfl (lv_at hl 0 rfl) ?_
  refine lv_iconst (v := (0 : Int32)) hx hb d_Md_at_1 (by decide) ?_
  refine va_put (D := (dC, dI)) (ci := 10) (v := .int (0 : Int32)) (ty := .int) (C := R_Md) (T := F_Md) (N := 34) hx hb ht i_Md t_Md t_Md_ok n_Md hown hK hP hD hS 0 rfl rfl 0 (by decide) (ht _ tb_1062) (fun _ h9 => h9) rfl (by decide +kernel) rfl rfl (Nat.le_of_ble_eq_true rfl) d_Md_at_2 (fun H locs hP hD hS => ?_)
  replace hP : va_P (dC, dI) cl_All (ww_Md_at qt qt_data qt_checkBytes qt_blocks qt_modules qt_fixed qt_tells qt_segmentModes qt_segmentLengths qt_modes qt_takes qt_bytes qt_words qt_block qt_tried qt_values qt_system qt_solved qt_places qt_generator qt_readBytes qt_readings ct_data (0 : Int32) vt_length vt_version vt_side vt_made vt_segments vt_bits vt_filled vt_readLength vt_at vt_all vt_fault vt_good vt_data) H := hP
  replace hD : va_D A (ww_Md_at qt qt_data qt_checkBytes qt_blocks qt_modules qt_fixed qt_tells qt_segmentModes qt_segmentLengths qt_modes qt_takes qt_bytes qt_words qt_block qt_tried qt_values qt_system qt_solved qt_places qt_generator qt_readBytes qt_readings ct_data (0 : Int32) vt_length vt_version vt_side vt_made vt_segments vt_bits vt_filled vt_readLength vt_at vt_all vt_fault vt_good vt_data) := hD
  refine lv_iload_n hx hb d_Md_at_5 rfl (lv_at hl 1 rfl) ?_
  refine lv_if_lt (tgt := 17) hx hb d_Md_at_6 (by decide) (fun c1 => ?_) (fun c1 => ?_)
  · replace Hf := sq_ite_t Hf c1
    refine lv_iconst (v := (-1 : Int32)) hx hb d_Md_at_17 (by decide) ?_
    refine lv_goto (tgt := 27) hx hb d_Md_at_18 (by decide) ?_
    obtain ⟨rfl, rfl⟩ := sq_so2 Hf
    exact W.iret hx hb hr (fun t ht hW => ⟨⟨_, (), rfl, rfl, by rw [ht]; exact hP, hD⟩, hS.F ht⟩) hS.2.2 d_Md_at_27
  · replace Hf := sq_ite_f Hf c1
    refine lv_iload_n hx hb d_Md_at_9 rfl (lv_at hl 1 rfl) ?_
    refine lv_aload_n hx hb d_Md_at_10 rfl (lv_at hl 0 rfl) ?_
    refine va_get (D := (dC, dI)) (ci := 10) (v := .int vt_length) (C := R_Md) (T := F_Md) (N := 34) hx hb ht i_Md hown hK hP 0 rfl rfl 4 (by decide) (ht _ tb_1066) (fun _ h9 => h9) rfl d_Md_at_11 ?_
    refine lv_icmp_lt (tgt := 21) hx hb d_Md_at_14 (by decide) (fun c2 => ?_) (fun c2 => ?_)
    · replace Hf := sq_ite_t Hf c2
      refine lv_aload_n hx hb d_Md_at_21 rfl (lv_at hl 0 rfl) ?_
      refine va_get (D := (dC, dI)) (ci := 10) (v := .ref qt_data) (C := R_Md) (T := F_Md) (N := 34) hx hb ht i_Md hown hK hP 0 rfl rfl 3 (by decide) (ht _ tb_1065) (fun _ h9 => h9) rfl d_Md_at_22 ?_
      refine lv_iload_n hx hb d_Md_at_25 rfl (lv_at hl 1 rfl) ?_
      obtain ⟨hi3, Hf⟩ := sq_gi_e Hf
      refine va_iald hx hb hK hP 1 0 rfl rfl hi3 d_Md_at_26 ?_
      obtain ⟨x4, ex4, Hf⟩ := sq_bd_e Hf
      refine sq_top ex4 ?_
      obtain ⟨rfl, rfl⟩ := sq_so2 Hf
      exact W.iret hx hb hr (fun t ht hW => ⟨⟨_, (), rfl, rfl, by rw [ht]; exact hP, hD⟩, hS.F ht⟩) hS.2.2 d_Md_at_27
    · replace Hf := sq_ite_f Hf c2
      refine lv_iconst (v := (-1 : Int32)) hx hb d_Md_at_17 (by decide) ?_
      refine lv_goto (tgt := 27) hx hb d_Md_at_18 (by decide) ?_
      obtain ⟨rfl, rfl⟩ := sq_so2 Hf
      exact W.iret hx hb hr (fun t ht hW => ⟨⟨_, (), rfl, rfl, by rw [ht]; exact hP, hD⟩, hS.F ht⟩) hS.2.2 d_Md_at_27

def fn_Md_rank (p1 : Int32) : Option (Int32) :=
  if (10 : Int32) ≤ p1 then (if (27 : Int32) ≤ p1 then (some ((2 : Int32))) else (some ((1 : Int32)))) else (some ((0 : Int32)))
def rm_Md_rank : Room := { frames := 0, cells := 0, slots := 0, locals := 0 }
abbrev qc_Md_rank (r0 : Int32) : Array Value → State → Outcome → State → Prop := vp_Si (fun r => r = r0)

set_option maxHeartbeats 4000000 in
set_option maxRecDepth 100000 in
theorem kt_Md_rank (l : Launch) (dC : Nat → ClassId) (dI : Nat → Nat → Nat) (p1 : Int32) (r0 : Int32) (Hf : fn_Md_rank p1 = some r0) : Met l y_Md_rank w_Md_rank rm_Md_rank (va_Pc [.int p1] (fun U => va_P (dC, dI) cl_All ([] : va_W) U.heap ∧ va_K (dC, dI) cl_All [] U)) (qc_Md_rank r0) 0 0 (fun _ => False) := by
  refine Met.ofW (cc := prog_14_method_12_code) (maxL := 1) (ret := (some .int)) (by decide) rfl ?_
  intro p e s m args below meth c s₁ B hml hv
  obtain ⟨rfl, hP, hK⟩ := hv
  have hx := B.exec; have hb := B.bytes; have hr := B.returns; have hlocks := B.notSynchronized
  have ht : ∀ w ∈ lw_g, w.before _ s = true := fun w h => atoms_spec (ws := w_Md_rank) B.pre w (List.mem_cons_of_mem _ h)
  have hown : s.vm.findClass "SquareSymbolsModel" = some m.cls := findClass_of_methodNamed B.named
  have hl := lv_entry ([.int p1]) (n := 1) (Nat.le_of_ble_eq_true rfl)
  rw [lg_entry_eq]
  generalize (lg_sl ([.int p1]) ++ List.replicate (1 - (lg_sl ([.int p1])).length) Slot.unset).toArray = ls at hl ⊢
  have hl : lv_has ls 1 [(0, .int p1)] := hl
  refine lv_iload_n hx hb d_Md_rank_0 rfl (lv_at hl 0 rfl) ?_
  refine lv_bipush (v := (10 : Int32)) hx hb d_Md_rank_1 (by decide) ?_
  refine lv_icmp_ge (tgt := 10) hx hb d_Md_rank_3 (by decide) (fun c1 => ?_) (fun c1 => ?_)
  · replace Hf := sq_ite_t Hf c1
    refine lv_iload_n hx hb d_Md_rank_10 rfl (lv_at hl 0 rfl) ?_
    refine lv_bipush (v := (27 : Int32)) hx hb d_Md_rank_11 (by decide) ?_
    refine lv_icmp_ge (tgt := 20) hx hb d_Md_rank_13 (by decide) (fun c2 => ?_) (fun c2 => ?_)
    · replace Hf := sq_ite_t Hf c2
      refine lv_iconst (v := (2 : Int32)) hx hb d_Md_rank_20 (by decide) ?_
      have er := Option.some.inj Hf
      exact W.iret hx hb hr (fun t ht hW => ⟨_, rfl, er, ht⟩) (fun q h => by cases h) d_Md_rank_21
    · replace Hf := sq_ite_f Hf c2
      refine lv_iconst (v := (1 : Int32)) hx hb d_Md_rank_16 (by decide) ?_
      refine lv_goto (tgt := 21) hx hb d_Md_rank_17 (by decide) ?_
      have er := Option.some.inj Hf
      exact W.iret hx hb hr (fun t ht hW => ⟨_, rfl, er, ht⟩) (fun q h => by cases h) d_Md_rank_21
  · replace Hf := sq_ite_f Hf c1
    refine lv_iconst (v := (0 : Int32)) hx hb d_Md_rank_6 (by decide) ?_
    refine lv_goto (tgt := 21) hx hb d_Md_rank_7 (by decide) ?_
    have er := Option.some.inj Hf
    exact W.iret hx hb hr (fun t ht hW => ⟨_, rfl, er, ht⟩) (fun q h => by cases h) d_Md_rank_21

def fn_Md_signOf (p1 : Int32) : Option (Int32) :=
  sq_jn (fun (_ : Unit) => sq_jn (fun (_ : Unit) => if p1 = (32 : Int32) then (some ((36 : Int32))) else ( if p1 = (36 : Int32) then (some ((37 : Int32))) else ( if p1 = (37 : Int32) then (some ((38 : Int32))) else ( if p1 = (42 : Int32) then (some ((39 : Int32))) else ( if p1 = (43 : Int32) then (some ((40 : Int32))) else ( if p1 = (45 : Int32) then (some ((41 : Int32))) else ( if p1 = (46 : Int32) then (some ((42 : Int32))) else ( if p1 = (47 : Int32) then (some ((43 : Int32))) else ( if p1 = (58 : Int32) then (some ((44 : Int32))) else ( some ((-1 : Int32)))))))))))) fun k2 => if p1 < (65 : Int32) then (k2 ()) else (if (90 : Int32) < p1 then (k2 ()) else (some ((p1 - (65 : Int32)) + (10 : Int32))))) fun k1 => if p1 < (48 : Int32) then (k1 ()) else (if (57 : Int32) < p1 then (k1 ()) else (some (p1 - (48 : Int32))))
def rm_Md_signOf : Room := { frames := 0, cells := 0, slots := 0, locals := 0 }
abbrev qc_Md_signOf (r0 : Int32) : Array Value → State → Outcome → State → Prop := vp_Si (fun r => r = r0)

set_option maxHeartbeats 4000000 in
set_option maxRecDepth 100000 in
theorem kt_Md_signOf (l : Launch) (dC : Nat → ClassId) (dI : Nat → Nat → Nat) (p1 : Int32) (r0 : Int32) (Hf : fn_Md_signOf p1 = some r0) : Met l y_Md_signOf w_Md_signOf rm_Md_signOf (va_Pc [.int p1] (fun U => va_P (dC, dI) cl_All ([] : va_W) U.heap ∧ va_K (dC, dI) cl_All [] U)) (qc_Md_signOf r0) 0 0 (fun _ => False) := by
  refine Met.ofW (cc := prog_14_method_14_code) (maxL := 1) (ret := (some .int)) (by decide) rfl ?_
  intro p e s m args below meth c s₁ B hml hv
  obtain ⟨rfl, hP, hK⟩ := hv
  have hx := B.exec; have hb := B.bytes; have hr := B.returns; have hlocks := B.notSynchronized
  have ht : ∀ w ∈ lw_g, w.before _ s = true := fun w h => atoms_spec (ws := w_Md_signOf) B.pre w (List.mem_cons_of_mem _ h)
  have hown : s.vm.findClass "SquareSymbolsModel" = some m.cls := findClass_of_methodNamed B.named
  have hl := lv_entry ([.int p1]) (n := 1) (Nat.le_of_ble_eq_true rfl)
  rw [lg_entry_eq]
  generalize (lg_sl ([.int p1]) ++ List.replicate (1 - (lg_sl ([.int p1])).length) Slot.unset).toArray = ls at hl ⊢
  have hl : lv_has ls 1 [(0, .int p1)] := hl
  refine lv_iload_n hx hb d_Md_signOf_0 rfl (lv_at hl 0 rfl) ?_
  refine lv_bipush (v := (48 : Int32)) hx hb d_Md_signOf_1 (by decide) ?_
  obtain ⟨k1, hk1, Hf⟩ := sq_jn_e Hf
  have Jk1 : ∀ (_u : Unit), k1 _u = some r0 → ∀ ls : Array Slot, lv_has ls 1 [(0, .int p1)] → W p l e (headSpec w_Md_signOf rm_Md_signOf).room s m (([.int p1] : List Value).toArray) below meth c s.heap [] 0 0 (MQ below (qc_Md_signOf r0) (([.int p1] : List Value).toArray) s 0 0 (fun _ => False)) (F0 m 17 ls []) := by
    intro _u Hf ls hl
    rw [hk1] at Hf
    refine lv_iload_n hx hb d_Md_signOf_17 rfl (lv_at hl 0 rfl) ?_
    refine lv_bipush (v := (65 : Int32)) hx hb d_Md_signOf_18 (by decide) ?_
    obtain ⟨k2, hk2, Hf⟩ := sq_jn_e Hf
    have Jk2 : ∀ (_u : Unit), k2 _u = some r0 → ∀ ls : Array Slot, lv_has ls 1 [(0, .int p1)] → W p l e (headSpec w_Md_signOf rm_Md_signOf).room s m (([.int p1] : List Value).toArray) below meth c s.heap [] 0 0 (MQ below (qc_Md_signOf r0) (([.int p1] : List Value).toArray) s 0 0 (fun _ => False)) (F0 m 37 ls []) := by
      intro _u Hf ls hl
      rw [hk2] at Hf
      refine lv_iload_n hx hb d_Md_signOf_37 rfl (lv_at hl 0 rfl) ?_
      by_cases c3 : p1 = (32 : Int32)
      · replace Hf := sq_ite_t Hf c3
        refine lv_tableIn (tgt := 160) (off := 122) hx hb d_Md_signOf_38 (by rw [c3]; decide) (by rw [c3]; decide) (by rw [c3]; rfl) (by decide) ?_
        refine lv_bipush (v := (36 : Int32)) hx hb d_Md_signOf_160 (by decide) ?_
        have er := Option.some.inj Hf
        exact W.iret hx hb hr (fun t ht hW => ⟨_, rfl, er, ht⟩) (fun q h => by cases h) d_Md_signOf_162
      replace Hf := sq_ite_f Hf c3
      have nc3 := lv_neT c3 (a := 32) (by decide)
      by_cases c4 : p1 = (36 : Int32)
      · replace Hf := sq_ite_t Hf c4
        refine lv_tableIn (tgt := 163) (off := 125) hx hb d_Md_signOf_38 (by rw [c4]; decide) (by rw [c4]; decide) (by rw [c4]; rfl) (by decide) ?_
        refine lv_bipush (v := (37 : Int32)) hx hb d_Md_signOf_163 (by decide) ?_
        have er := Option.some.inj Hf
        exact W.iret hx hb hr (fun t ht hW => ⟨_, rfl, er, ht⟩) (fun q h => by cases h) d_Md_signOf_165
      replace Hf := sq_ite_f Hf c4
      have nc4 := lv_neT c4 (a := 36) (by decide)
      by_cases c5 : p1 = (37 : Int32)
      · replace Hf := sq_ite_t Hf c5
        refine lv_tableIn (tgt := 166) (off := 128) hx hb d_Md_signOf_38 (by rw [c5]; decide) (by rw [c5]; decide) (by rw [c5]; rfl) (by decide) ?_
        refine lv_bipush (v := (38 : Int32)) hx hb d_Md_signOf_166 (by decide) ?_
        have er := Option.some.inj Hf
        exact W.iret hx hb hr (fun t ht hW => ⟨_, rfl, er, ht⟩) (fun q h => by cases h) d_Md_signOf_168
      replace Hf := sq_ite_f Hf c5
      have nc5 := lv_neT c5 (a := 37) (by decide)
      by_cases c6 : p1 = (42 : Int32)
      · replace Hf := sq_ite_t Hf c6
        refine lv_tableIn (tgt := 169) (off := 131) hx hb d_Md_signOf_38 (by rw [c6]; decide) (by rw [c6]; decide) (by rw [c6]; rfl) (by decide) ?_
        refine lv_bipush (v := (39 : Int32)) hx hb d_Md_signOf_169 (by decide) ?_
        have er := Option.some.inj Hf
        exact W.iret hx hb hr (fun t ht hW => ⟨_, rfl, er, ht⟩) (fun q h => by cases h) d_Md_signOf_171
      replace Hf := sq_ite_f Hf c6
      have nc6 := lv_neT c6 (a := 42) (by decide)
      by_cases c7 : p1 = (43 : Int32)
      · replace Hf := sq_ite_t Hf c7
        refine lv_tableIn (tgt := 172) (off := 134) hx hb d_Md_signOf_38 (by rw [c7]; decide) (by rw [c7]; decide) (by rw [c7]; rfl) (by decide) ?_
        refine lv_bipush (v := (40 : Int32)) hx hb d_Md_signOf_172 (by decide) ?_
        have er := Option.some.inj Hf
        exact W.iret hx hb hr (fun t ht hW => ⟨_, rfl, er, ht⟩) (fun q h => by cases h) d_Md_signOf_174
      replace Hf := sq_ite_f Hf c7
      have nc7 := lv_neT c7 (a := 43) (by decide)
      by_cases c8 : p1 = (45 : Int32)
      · replace Hf := sq_ite_t Hf c8
        refine lv_tableIn (tgt := 175) (off := 137) hx hb d_Md_signOf_38 (by rw [c8]; decide) (by rw [c8]; decide) (by rw [c8]; rfl) (by decide) ?_
        refine lv_bipush (v := (41 : Int32)) hx hb d_Md_signOf_175 (by decide) ?_
        have er := Option.some.inj Hf
        exact W.iret hx hb hr (fun t ht hW => ⟨_, rfl, er, ht⟩) (fun q h => by cases h) d_Md_signOf_177
      replace Hf := sq_ite_f Hf c8
      have nc8 := lv_neT c8 (a := 45) (by decide)
      by_cases c9 : p1 = (46 : Int32)
      · replace Hf := sq_ite_t Hf c9
        refine lv_tableIn (tgt := 178) (off := 140) hx hb d_Md_signOf_38 (by rw [c9]; decide) (by rw [c9]; decide) (by rw [c9]; rfl) (by decide) ?_
        refine lv_bipush (v := (42 : Int32)) hx hb d_Md_signOf_178 (by decide) ?_
        have er := Option.some.inj Hf
        exact W.iret hx hb hr (fun t ht hW => ⟨_, rfl, er, ht⟩) (fun q h => by cases h) d_Md_signOf_180
      replace Hf := sq_ite_f Hf c9
      have nc9 := lv_neT c9 (a := 46) (by decide)
      by_cases c10 : p1 = (47 : Int32)
      · replace Hf := sq_ite_t Hf c10
        refine lv_tableIn (tgt := 181) (off := 143) hx hb d_Md_signOf_38 (by rw [c10]; decide) (by rw [c10]; decide) (by rw [c10]; rfl) (by decide) ?_
        refine lv_bipush (v := (43 : Int32)) hx hb d_Md_signOf_181 (by decide) ?_
        have er := Option.some.inj Hf
        exact W.iret hx hb hr (fun t ht hW => ⟨_, rfl, er, ht⟩) (fun q h => by cases h) d_Md_signOf_183
      replace Hf := sq_ite_f Hf c10
      have nc10 := lv_neT c10 (a := 47) (by decide)
      by_cases c11 : p1 = (58 : Int32)
      · replace Hf := sq_ite_t Hf c11
        refine lv_tableIn (tgt := 184) (off := 146) hx hb d_Md_signOf_38 (by rw [c11]; decide) (by rw [c11]; decide) (by rw [c11]; rfl) (by decide) ?_
        refine lv_bipush (v := (44 : Int32)) hx hb d_Md_signOf_184 (by decide) ?_
        have er := Option.some.inj Hf
        exact W.iret hx hb hr (fun t ht hW => ⟨_, rfl, er, ht⟩) (fun q h => by cases h) d_Md_signOf_186
      replace Hf := sq_ite_f Hf c11
      have nc11 := lv_neT c11 (a := 58) (by decide)
      have Kd : W p l e (headSpec w_Md_signOf rm_Md_signOf).room s m (([.int p1] : List Value).toArray) below meth c s.heap [] 0 0 (MQ below (qc_Md_signOf r0) (([.int p1] : List Value).toArray) s 0 0 (fun _ => False)) (F0 m 187 ls []) := by
        refine lv_iconst (v := (-1 : Int32)) hx hb d_Md_signOf_187 (by decide) ?_
        have er := Option.some.inj Hf
        exact W.iret hx hb hr (fun t ht hW => ⟨_, rfl, er, ht⟩) (fun q h => by cases h) d_Md_signOf_188
      have hd : (p1.toInt < 32 ∨ 58 < p1.toInt) ∨ p1.toInt = 33 ∨ p1.toInt = 34 ∨ p1.toInt = 35 ∨ p1.toInt = 38 ∨ p1.toInt = 39 ∨ p1.toInt = 40 ∨ p1.toInt = 41 ∨ p1.toInt = 44 ∨ p1.toInt = 48 ∨ p1.toInt = 49 ∨ p1.toInt = 50 ∨ p1.toInt = 51 ∨ p1.toInt = 52 ∨ p1.toInt = 53 ∨ p1.toInt = 54 ∨ p1.toInt = 55 ∨ p1.toInt = 56 ∨ p1.toInt = 57 := by omega
      rcases hd with hd | hd | hd | hd | hd | hd | hd | hd | hd | hd | hd | hd | hd | hd | hd | hd | hd | hd | hd
      · exact lv_tableOut (tgt := 187) hx hb d_Md_signOf_38 hd (by decide) Kd
      · exact lv_tableIn (tgt := 187) (off := 149) hx hb d_Md_signOf_38 (by rw [hd]; decide) (by rw [hd]; decide) (by rw [hd]; rfl) (by decide) Kd
      · exact lv_tableIn (tgt := 187) (off := 149) hx hb d_Md_signOf_38 (by rw [hd]; decide) (by rw [hd]; decide) (by rw [hd]; rfl) (by decide) Kd
      · exact lv_tableIn (tgt := 187) (off := 149) hx hb d_Md_signOf_38 (by rw [hd]; decide) (by rw [hd]; decide) (by rw [hd]; rfl) (by decide) Kd
      · exact lv_tableIn (tgt := 187) (off := 149) hx hb d_Md_signOf_38 (by rw [hd]; decide) (by rw [hd]; decide) (by rw [hd]; rfl) (by decide) Kd
      · exact lv_tableIn (tgt := 187) (off := 149) hx hb d_Md_signOf_38 (by rw [hd]; decide) (by rw [hd]; decide) (by rw [hd]; rfl) (by decide) Kd
      · exact lv_tableIn (tgt := 187) (off := 149) hx hb d_Md_signOf_38 (by rw [hd]; decide) (by rw [hd]; decide) (by rw [hd]; rfl) (by decide) Kd
      · exact lv_tableIn (tgt := 187) (off := 149) hx hb d_Md_signOf_38 (by rw [hd]; decide) (by rw [hd]; decide) (by rw [hd]; rfl) (by decide) Kd
      · exact lv_tableIn (tgt := 187) (off := 149) hx hb d_Md_signOf_38 (by rw [hd]; decide) (by rw [hd]; decide) (by rw [hd]; rfl) (by decide) Kd
      · exact lv_tableIn (tgt := 187) (off := 149) hx hb d_Md_signOf_38 (by rw [hd]; decide) (by rw [hd]; decide) (by rw [hd]; rfl) (by decide) Kd
      · exact lv_tableIn (tgt := 187) (off := 149) hx hb d_Md_signOf_38 (by rw [hd]; decide) (by rw [hd]; decide) (by rw [hd]; rfl) (by decide) Kd
      · exact lv_tableIn (tgt := 187) (off := 149) hx hb d_Md_signOf_38 (by rw [hd]; decide) (by rw [hd]; decide) (by rw [hd]; rfl) (by decide) Kd
      · exact lv_tableIn (tgt := 187) (off := 149) hx hb d_Md_signOf_38 (by rw [hd]; decide) (by rw [hd]; decide) (by rw [hd]; rfl) (by decide) Kd
      · exact lv_tableIn (tgt := 187) (off := 149) hx hb d_Md_signOf_38 (by rw [hd]; decide) (by rw [hd]; decide) (by rw [hd]; rfl) (by decide) Kd
      · exact lv_tableIn (tgt := 187) (off := 149) hx hb d_Md_signOf_38 (by rw [hd]; decide) (by rw [hd]; decide) (by rw [hd]; rfl) (by decide) Kd
      · exact lv_tableIn (tgt := 187) (off := 149) hx hb d_Md_signOf_38 (by rw [hd]; decide) (by rw [hd]; decide) (by rw [hd]; rfl) (by decide) Kd
      · exact lv_tableIn (tgt := 187) (off := 149) hx hb d_Md_signOf_38 (by rw [hd]; decide) (by rw [hd]; decide) (by rw [hd]; rfl) (by decide) Kd
      · exact lv_tableIn (tgt := 187) (off := 149) hx hb d_Md_signOf_38 (by rw [hd]; decide) (by rw [hd]; decide) (by rw [hd]; rfl) (by decide) Kd
      · exact lv_tableIn (tgt := 187) (off := 149) hx hb d_Md_signOf_38 (by rw [hd]; decide) (by rw [hd]; decide) (by rw [hd]; rfl) (by decide) Kd
    refine lv_icmp_lt (tgt := 37) hx hb d_Md_signOf_20 (by decide) (fun c12 => ?_) (fun c12 => ?_)
    · replace Hf := sq_ite_t Hf c12
      exact Jk2 () Hf _ (lv_sub hl [0] rfl)
    · replace Hf := sq_ite_f Hf c12
      refine lv_iload_n hx hb d_Md_signOf_23 rfl (lv_at hl 0 rfl) ?_
      refine lv_bipush (v := (90 : Int32)) hx hb d_Md_signOf_24 (by decide) ?_
      refine lv_icmp_gt (tgt := 37) hx hb d_Md_signOf_26 (by decide) (fun c13 => ?_) (fun c13 => ?_)
      · replace Hf := sq_ite_t Hf c13
        exact Jk2 () Hf _ (lv_sub hl [0] rfl)
      · replace Hf := sq_ite_f Hf c13
        refine lv_iload_n hx hb d_Md_signOf_29 rfl (lv_at hl 0 rfl) ?_
        refine lv_bipush (v := (65 : Int32)) hx hb d_Md_signOf_30 (by decide) ?_
        refine lv_isub hx hb d_Md_signOf_32 ?_
        refine lv_bipush (v := (10 : Int32)) hx hb d_Md_signOf_33 (by decide) ?_
        refine lv_iadd hx hb d_Md_signOf_35 ?_
        have er := Option.some.inj Hf
        exact W.iret hx hb hr (fun t ht hW => ⟨_, rfl, er, ht⟩) (fun q h => by cases h) d_Md_signOf_36
  refine lv_icmp_lt (tgt := 17) hx hb d_Md_signOf_3 (by decide) (fun c14 => ?_) (fun c14 => ?_)
  · replace Hf := sq_ite_t Hf c14
    exact Jk1 () Hf _ (lv_sub hl [0] rfl)
  · replace Hf := sq_ite_f Hf c14
    refine lv_iload_n hx hb d_Md_signOf_6 rfl (lv_at hl 0 rfl) ?_
    refine lv_bipush (v := (57 : Int32)) hx hb d_Md_signOf_7 (by decide) ?_
    refine lv_icmp_gt (tgt := 17) hx hb d_Md_signOf_9 (by decide) (fun c15 => ?_) (fun c15 => ?_)
    · replace Hf := sq_ite_t Hf c15
      exact Jk1 () Hf _ (lv_sub hl [0] rfl)
    · replace Hf := sq_ite_f Hf c15
      refine lv_iload_n hx hb d_Md_signOf_12 rfl (lv_at hl 0 rfl) ?_
      refine lv_bipush (v := (48 : Int32)) hx hb d_Md_signOf_13 (by decide) ?_
      refine lv_isub hx hb d_Md_signOf_15 ?_
      have er := Option.some.inj Hf
      exact W.iret hx hb hr (fun t ht hW => ⟨_, rfl, er, ht⟩) (fun q h => by cases h) d_Md_signOf_16

def fn_Md_may (p1 : Int32) (p2 : Int32) : Option (Int32) :=
  if p1 = (2 : Int32) then (some ((1 : Int32))) else (sq_jn (fun (_ : Unit) => if p1 = 0 then (if p2 < (48 : Int32) then (some ((0 : Int32))) else (if (57 : Int32) < p2 then (some ((0 : Int32))) else (some ((1 : Int32))))) else (some ((0 : Int32)))) fun k2 => if p1 = (1 : Int32) then (sq_cb1 (fn_Md_signOf p2) fun r7 => if 0 ≤ r7 then (some ((1 : Int32))) else (k2 ())) else (k2 ()))
def rm_Md_may : Room := { frames := 1, cells := 0, slots := 0, locals := 20 }
abbrev qc_Md_may (r0 : Int32) : Array Value → State → Outcome → State → Prop := vp_Si (fun r => r = r0)

set_option maxHeartbeats 4000000 in
set_option maxRecDepth 100000 in
theorem kt_Md_may (l : Launch) (dC : Nat → ClassId) (dI : Nat → Nat → Nat) (p1 : Int32) (p2 : Int32) (r0 : Int32) (Hf : fn_Md_may p1 p2 = some r0) : Met l y_Md_may w_Md_may rm_Md_may (va_Pc [.int p1, .int p2] (fun U => va_P (dC, dI) cl_All ([] : va_W) U.heap ∧ va_K (dC, dI) cl_All [] U)) (qc_Md_may r0) 0 0 (fun _ => False) := by
  refine Met.ofW (cc := prog_14_method_16_code) (maxL := 2) (ret := (some .boolean)) (by decide) rfl ?_
  intro p e s m args below meth c s₁ B hml hv
  obtain ⟨rfl, hP, hK⟩ := hv
  have hx := B.exec; have hb := B.bytes; have hr := B.returns; have hlocks := B.notSynchronized
  have ht : ∀ w ∈ lw_g, w.before _ s = true := fun w h => atoms_spec (ws := w_Md_may) B.pre w (List.mem_cons_of_mem _ h)
  have hown : s.vm.findClass "SquareSymbolsModel" = some m.cls := findClass_of_methodNamed B.named
  have hl := lv_entry ([.int p1, .int p2]) (n := 2) (Nat.le_of_ble_eq_true rfl)
  rw [lg_entry_eq]
  generalize (lg_sl ([.int p1, .int p2]) ++ List.replicate (2 - (lg_sl ([.int p1, .int p2])).length) Slot.unset).toArray = ls at hl ⊢
  have hl : lv_has ls 2 [(0, .int p1), (1, .int p2)] := hl
  refine lv_iload_n hx hb d_Md_may_0 rfl (lv_at hl 0 rfl) ?_
  refine lv_iconst (v := (2 : Int32)) hx hb d_Md_may_1 (by decide) ?_
  refine lv_icmp_eq (tgt := 33) hx hb d_Md_may_2 (by decide) (fun c1 => ?_) (fun c1 => ?_)
  · replace Hf := sq_ite_t Hf c1
    refine lv_iconst (v := (1 : Int32)) hx hb d_Md_may_33 (by decide) ?_
    refine lv_goto (tgt := 38) hx hb d_Md_may_34 (by decide) ?_
    have er := Option.some.inj Hf
    exact W.zret hx hb hr rfl (fun t ht hW => ⟨_, rfl, er, ht⟩) (fun q h => by cases h) d_Md_may_38
  · replace Hf := sq_ite_f Hf c1
    refine lv_iload_n hx hb d_Md_may_5 rfl (lv_at hl 0 rfl) ?_
    refine lv_iconst (v := (1 : Int32)) hx hb d_Md_may_6 (by decide) ?_
    obtain ⟨k2, hk2, Hf⟩ := sq_jn_e Hf
    have Jk2 : ∀ (_u : Unit), k2 _u = some r0 → ∀ ls : Array Slot, lv_has ls 2 [(0, .int p1), (1, .int p2)] → W p l e (headSpec w_Md_may rm_Md_may).room s m (([.int p1, .int p2] : List Value).toArray) below meth c s.heap [] 0 0 (MQ below (qc_Md_may r0) (([.int p1, .int p2] : List Value).toArray) s 0 0 (fun _ => False)) (F0 m 17 ls []) := by
      intro _u Hf ls hl
      rw [hk2] at Hf
      refine lv_iload_n hx hb d_Md_may_17 rfl (lv_at hl 0 rfl) ?_
      refine lv_if_ne (tgt := 37) hx hb d_Md_may_18 (by decide) (fun c3 => ?_) (fun c3 => ?_)
      · replace Hf := sq_ite_f Hf c3
        refine lv_iconst (v := (0 : Int32)) hx hb d_Md_may_37 (by decide) ?_
        have er := Option.some.inj Hf
        exact W.zret hx hb hr rfl (fun t ht hW => ⟨_, rfl, er, ht⟩) (fun q h => by cases h) d_Md_may_38
      · replace Hf := sq_ite_t Hf c3
        refine lv_iload_n hx hb d_Md_may_21 rfl (lv_at hl 1 rfl) ?_
        refine lv_bipush (v := (48 : Int32)) hx hb d_Md_may_22 (by decide) ?_
        refine lv_icmp_lt (tgt := 37) hx hb d_Md_may_24 (by decide) (fun c4 => ?_) (fun c4 => ?_)
        · replace Hf := sq_ite_t Hf c4
          refine lv_iconst (v := (0 : Int32)) hx hb d_Md_may_37 (by decide) ?_
          have er := Option.some.inj Hf
          exact W.zret hx hb hr rfl (fun t ht hW => ⟨_, rfl, er, ht⟩) (fun q h => by cases h) d_Md_may_38
        · replace Hf := sq_ite_f Hf c4
          refine lv_iload_n hx hb d_Md_may_27 rfl (lv_at hl 1 rfl) ?_
          refine lv_bipush (v := (57 : Int32)) hx hb d_Md_may_28 (by decide) ?_
          refine lv_icmp_gt (tgt := 37) hx hb d_Md_may_30 (by decide) (fun c5 => ?_) (fun c5 => ?_)
          · replace Hf := sq_ite_t Hf c5
            refine lv_iconst (v := (0 : Int32)) hx hb d_Md_may_37 (by decide) ?_
            have er := Option.some.inj Hf
            exact W.zret hx hb hr rfl (fun t ht hW => ⟨_, rfl, er, ht⟩) (fun q h => by cases h) d_Md_may_38
          · replace Hf := sq_ite_f Hf c5
            refine lv_iconst (v := (1 : Int32)) hx hb d_Md_may_33 (by decide) ?_
            refine lv_goto (tgt := 38) hx hb d_Md_may_34 (by decide) ?_
            have er := Option.some.inj Hf
            exact W.zret hx hb hr rfl (fun t ht hW => ⟨_, rfl, er, ht⟩) (fun q h => by cases h) d_Md_may_38
    refine lv_icmp_ne (tgt := 17) hx hb d_Md_may_7 (by decide) (fun c6 => ?_) (fun c6 => ?_)
    · replace Hf := sq_ite_f Hf c6
      exact Jk2 () Hf _ (lv_sub hl [0, 1] rfl)
    · replace Hf := sq_ite_t Hf c6
      refine lv_iload_n hx hb d_Md_may_10 rfl (lv_at hl 1 rfl) ?_
      obtain ⟨r7, hc8, Hf⟩ := sq_cb1_e Hf
      refine sq_roi (va_runS (As := [.int p2]) (rest := []) ⟨hx, hb, hml, hown, ht⟩ (kt_Md_signOf l dC dI p2 r7 hc8) (va_cwS 1 ht (sq_gS tb_1217 tb_1218 tb_11 tb_1219) rfl rfl rfl (by decide +kernel) ⟨Nat.le_of_ble_eq_true rfl, Nat.le_of_ble_eq_true rfl⟩) (sq_roS (hP.sub (ws' := ([] : va_W)) [] rfl) (hK.sub (tys' := []) [] rfl)) rfl rfl hl.1 rfl (lv_room (Nat.le_of_ble_eq_true rfl)) d_Md_may_11 ⟨Nat.le_of_ble_eq_true rfl, Nat.le_of_ble_eq_true rfl⟩) ?_
      refine lv_if_ge (tgt := 33) hx hb d_Md_may_14 (by decide) (fun c9 => ?_) (fun c9 => ?_)
      · replace Hf := sq_ite_t Hf c9
        refine lv_iconst (v := (1 : Int32)) hx hb d_Md_may_33 (by decide) ?_
        refine lv_goto (tgt := 38) hx hb d_Md_may_34 (by decide) ?_
        have er := Option.some.inj Hf
        exact W.zret hx hb hr rfl (fun t ht hW => ⟨_, rfl, er, ht⟩) (fun q h => by cases h) d_Md_may_38
      · replace Hf := sq_ite_f Hf c9
        exact Jk2 () Hf _ (lv_sub hl [0, 1] rfl)

def fn_Md_modeOf (p1 : Int32) : Option (Int32) :=
  if (3 : Int32) ≤ p1 then (if (5 : Int32) ≤ p1 then (some ((2 : Int32))) else (some ((1 : Int32)))) else (some ((0 : Int32)))
def rm_Md_modeOf : Room := { frames := 0, cells := 0, slots := 0, locals := 0 }
abbrev qc_Md_modeOf (r0 : Int32) : Array Value → State → Outcome → State → Prop := vp_Si (fun r => r = r0)

set_option maxHeartbeats 4000000 in
set_option maxRecDepth 100000 in
theorem kt_Md_modeOf (l : Launch) (dC : Nat → ClassId) (dI : Nat → Nat → Nat) (p1 : Int32) (r0 : Int32) (Hf : fn_Md_modeOf p1 = some r0) : Met l y_Md_modeOf w_Md_modeOf rm_Md_modeOf (va_Pc [.int p1] (fun U => va_P (dC, dI) cl_All ([] : va_W) U.heap ∧ va_K (dC, dI) cl_All [] U)) (qc_Md_modeOf r0) 0 0 (fun _ => False) := by
  refine Met.ofW (cc := prog_14_method_17_code) (maxL := 1) (ret := (some .int)) (by decide) rfl ?_
  intro p e s m args below meth c s₁ B hml hv
  obtain ⟨rfl, hP, hK⟩ := hv
  have hx := B.exec; have hb := B.bytes; have hr := B.returns; have hlocks := B.notSynchronized
  have ht : ∀ w ∈ lw_g, w.before _ s = true := fun w h => atoms_spec (ws := w_Md_modeOf) B.pre w (List.mem_cons_of_mem _ h)
  have hown : s.vm.findClass "SquareSymbolsModel" = some m.cls := findClass_of_methodNamed B.named
  have hl := lv_entry ([.int p1]) (n := 1) (Nat.le_of_ble_eq_true rfl)
  rw [lg_entry_eq]
  generalize (lg_sl ([.int p1]) ++ List.replicate (1 - (lg_sl ([.int p1])).length) Slot.unset).toArray = ls at hl ⊢
  have hl : lv_has ls 1 [(0, .int p1)] := hl
  refine lv_iload_n hx hb d_Md_modeOf_0 rfl (lv_at hl 0 rfl) ?_
  refine lv_iconst (v := (3 : Int32)) hx hb d_Md_modeOf_1 (by decide) ?_
  refine lv_icmp_ge (tgt := 9) hx hb d_Md_modeOf_2 (by decide) (fun c1 => ?_) (fun c1 => ?_)
  · replace Hf := sq_ite_t Hf c1
    refine lv_iload_n hx hb d_Md_modeOf_9 rfl (lv_at hl 0 rfl) ?_
    refine lv_iconst (v := (5 : Int32)) hx hb d_Md_modeOf_10 (by decide) ?_
    refine lv_icmp_ge (tgt := 18) hx hb d_Md_modeOf_11 (by decide) (fun c2 => ?_) (fun c2 => ?_)
    · replace Hf := sq_ite_t Hf c2
      refine lv_iconst (v := (2 : Int32)) hx hb d_Md_modeOf_18 (by decide) ?_
      have er := Option.some.inj Hf
      exact W.iret hx hb hr (fun t ht hW => ⟨_, rfl, er, ht⟩) (fun q h => by cases h) d_Md_modeOf_19
    · replace Hf := sq_ite_f Hf c2
      refine lv_iconst (v := (1 : Int32)) hx hb d_Md_modeOf_14 (by decide) ?_
      refine lv_goto (tgt := 19) hx hb d_Md_modeOf_15 (by decide) ?_
      have er := Option.some.inj Hf
      exact W.iret hx hb hr (fun t ht hW => ⟨_, rfl, er, ht⟩) (fun q h => by cases h) d_Md_modeOf_19
  · replace Hf := sq_ite_f Hf c1
    refine lv_iconst (v := (0 : Int32)) hx hb d_Md_modeOf_5 (by decide) ?_
    refine lv_goto (tgt := 19) hx hb d_Md_modeOf_6 (by decide) ?_
    have er := Option.some.inj Hf
    exact W.iret hx hb hr (fun t ht hW => ⟨_, rfl, er, ht⟩) (fun q h => by cases h) d_Md_modeOf_19

def fn_Md_lengthBits (p1 : Int32) (p2 : Int32) : Option (Int32) :=
  if p1 = 0 then (some ((10 : Int32) + ((2 : Int32) * p2))) else (if p1 = (1 : Int32) then (some ((9 : Int32) + ((2 : Int32) * p2))) else (if p2 = 0 then (some ((8 : Int32))) else (some ((16 : Int32)))))
def rm_Md_lengthBits : Room := { frames := 0, cells := 0, slots := 0, locals := 0 }
abbrev qc_Md_lengthBits (r0 : Int32) : Array Value → State → Outcome → State → Prop := vp_Si (fun r => r = r0)

set_option maxHeartbeats 4000000 in
set_option maxRecDepth 100000 in
theorem kt_Md_lengthBits (l : Launch) (dC : Nat → ClassId) (dI : Nat → Nat → Nat) (p1 : Int32) (p2 : Int32) (r0 : Int32) (Hf : fn_Md_lengthBits p1 p2 = some r0) : Met l y_Md_lengthBits w_Md_lengthBits rm_Md_lengthBits (va_Pc [.int p1, .int p2] (fun U => va_P (dC, dI) cl_All ([] : va_W) U.heap ∧ va_K (dC, dI) cl_All [] U)) (qc_Md_lengthBits r0) 0 0 (fun _ => False) := by
  refine Met.ofW (cc := prog_14_method_13_code) (maxL := 2) (ret := (some .int)) (by decide) rfl ?_
  intro p e s m args below meth c s₁ B hml hv
  obtain ⟨rfl, hP, hK⟩ := hv
  have hx := B.exec; have hb := B.bytes; have hr := B.returns; have hlocks := B.notSynchronized
  have ht : ∀ w ∈ lw_g, w.before _ s = true := fun w h => atoms_spec (ws := w_Md_lengthBits) B.pre w (List.mem_cons_of_mem _ h)
  have hown : s.vm.findClass "SquareSymbolsModel" = some m.cls := findClass_of_methodNamed B.named
  have hl := lv_entry ([.int p1, .int p2]) (n := 2) (Nat.le_of_ble_eq_true rfl)
  rw [lg_entry_eq]
  generalize (lg_sl ([.int p1, .int p2]) ++ List.replicate (2 - (lg_sl ([.int p1, .int p2])).length) Slot.unset).toArray = ls at hl ⊢
  have hl : lv_has ls 2 [(0, .int p1), (1, .int p2)] := hl
  refine lv_iload_n hx hb d_Md_lengthBits_0 rfl (lv_at hl 0 rfl) ?_
  refine lv_if_ne (tgt := 13) hx hb d_Md_lengthBits_1 (by decide) (fun c1 => ?_) (fun c1 => ?_)
  · replace Hf := sq_ite_f Hf c1
    refine lv_iload_n hx hb d_Md_lengthBits_13 rfl (lv_at hl 0 rfl) ?_
    refine lv_iconst (v := (1 : Int32)) hx hb d_Md_lengthBits_14 (by decide) ?_
    refine lv_icmp_ne (tgt := 27) hx hb d_Md_lengthBits_15 (by decide) (fun c2 => ?_) (fun c2 => ?_)
    · replace Hf := sq_ite_f Hf c2
      refine lv_iload_n hx hb d_Md_lengthBits_27 rfl (lv_at hl 1 rfl) ?_
      refine lv_if_ne (tgt := 36) hx hb d_Md_lengthBits_28 (by decide) (fun c3 => ?_) (fun c3 => ?_)
      · replace Hf := sq_ite_f Hf c3
        refine lv_bipush (v := (16 : Int32)) hx hb d_Md_lengthBits_36 (by decide) ?_
        have er := Option.some.inj Hf
        exact W.iret hx hb hr (fun t ht hW => ⟨_, rfl, er, ht⟩) (fun q h => by cases h) d_Md_lengthBits_38
      · replace Hf := sq_ite_t Hf c3
        refine lv_bipush (v := (8 : Int32)) hx hb d_Md_lengthBits_31 (by decide) ?_
        refine lv_goto (tgt := 38) hx hb d_Md_lengthBits_33 (by decide) ?_
        have er := Option.some.inj Hf
        exact W.iret hx hb hr (fun t ht hW => ⟨_, rfl, er, ht⟩) (fun q h => by cases h) d_Md_lengthBits_38
    · replace Hf := sq_ite_t Hf c2
      refine lv_bipush (v := (9 : Int32)) hx hb d_Md_lengthBits_18 (by decide) ?_
      refine lv_iconst (v := (2 : Int32)) hx hb d_Md_lengthBits_20 (by decide) ?_
      refine lv_iload_n hx hb d_Md_lengthBits_21 rfl (lv_at hl 1 rfl) ?_
      refine lv_imul hx hb d_Md_lengthBits_22 ?_
      refine lv_iadd hx hb d_Md_lengthBits_23 ?_
      refine lv_goto (tgt := 38) hx hb d_Md_lengthBits_24 (by decide) ?_
      have er := Option.some.inj Hf
      exact W.iret hx hb hr (fun t ht hW => ⟨_, rfl, er, ht⟩) (fun q h => by cases h) d_Md_lengthBits_38
  · replace Hf := sq_ite_t Hf c1
    refine lv_bipush (v := (10 : Int32)) hx hb d_Md_lengthBits_4 (by decide) ?_
    refine lv_iconst (v := (2 : Int32)) hx hb d_Md_lengthBits_6 (by decide) ?_
    refine lv_iload_n hx hb d_Md_lengthBits_7 rfl (lv_at hl 1 rfl) ?_
    refine lv_imul hx hb d_Md_lengthBits_8 ?_
    refine lv_iadd hx hb d_Md_lengthBits_9 ?_
    refine lv_goto (tgt := 38) hx hb d_Md_lengthBits_10 (by decide) ?_
    have er := Option.some.inj Hf
    exact W.iret hx hb hr (fun t ht hW => ⟨_, rfl, er, ht⟩) (fun q h => by cases h) d_Md_lengthBits_38

def fn_Md_stateAfter (p1 : Int32) (p2 : Int32) : Option (Int32) :=
  sq_jn (fun (x1 : Int32) => if p2 = 0 then (if 0 ≤ x1 then (sq_bd (sq_rem (x1 + (1 : Int32)) (3 : Int32)) fun x7 => some (x7)) else (some ((1 : Int32)))) else (if p2 = (1 : Int32) then (if 0 ≤ x1 then (some ((7 : Int32) - x1)) else (some ((4 : Int32)))) else (some ((5 : Int32))))) fun k2 => sq_jn (fun (_ : Unit) => k2 (-1 : Int32)) fun k8 => if p1 < 0 then (k8 ()) else (sq_cb1 (fn_Md_modeOf p1) fun r10 => if r10 = p2 then (k2 p1) else (k8 ()))
def rm_Md_stateAfter : Room := { frames := 1, cells := 0, slots := 0, locals := 20 }
abbrev qc_Md_stateAfter (r0 : Int32) : Array Value → State → Outcome → State → Prop := vp_Si (fun r => r = r0)

set_option maxHeartbeats 4000000 in
set_option maxRecDepth 100000 in
theorem kt_Md_stateAfter (l : Launch) (dC : Nat → ClassId) (dI : Nat → Nat → Nat) (p1 : Int32) (p2 : Int32) (r0 : Int32) (Hf : fn_Md_stateAfter p1 p2 = some r0) : Met l y_Md_stateAfter w_Md_stateAfter rm_Md_stateAfter (va_Pc [.int p1, .int p2] (fun U => va_P (dC, dI) cl_All ([] : va_W) U.heap ∧ va_K (dC, dI) cl_All [] U)) (qc_Md_stateAfter r0) 0 0 (fun _ => False) := by
  refine Met.ofW (cc := prog_14_method_18_code) (maxL := 3) (ret := (some .int)) (by decide) rfl ?_
  intro p e s m args below meth c s₁ B hml hv
  obtain ⟨rfl, hP, hK⟩ := hv
  have hx := B.exec; have hb := B.bytes; have hr := B.returns; have hlocks := B.notSynchronized
  have ht : ∀ w ∈ lw_g, w.before _ s = true := fun w h => atoms_spec (ws := w_Md_stateAfter) B.pre w (List.mem_cons_of_mem _ h)
  have hown : s.vm.findClass "SquareSymbolsModel" = some m.cls := findClass_of_methodNamed B.named
  have hl := lv_entry ([.int p1, .int p2]) (n := 3) (Nat.le_of_ble_eq_true rfl)
  rw [lg_entry_eq]
  generalize (lg_sl ([.int p1, .int p2]) ++ List.replicate (3 - (lg_sl ([.int p1, .int p2])).length) Slot.unset).toArray = ls at hl ⊢
  have hl : lv_has ls 3 [(0, .int p1), (1, .int p2)] := hl
  refine lv_iload_n hx hb d_Md_stateAfter_0 rfl (lv_at hl 0 rfl) ?_
  obtain ⟨k2, hk2, Hf⟩ := sq_jn_e Hf
  have Jk2 : ∀ (x1 : Int32), k2 x1 = some r0 → ∀ ls : Array Slot, lv_has ls 3 [(1, .int p2)] → W p l e (headSpec w_Md_stateAfter rm_Md_stateAfter).room s m (([.int p1, .int p2] : List Value).toArray) below meth c s.heap [] 0 0 (MQ below (qc_Md_stateAfter r0) (([.int p1, .int p2] : List Value).toArray) s 0 0 (fun _ => False)) (F0 m 17 ls [.int x1]) := by
    intro x1 Hf ls hl
    rw [hk2] at Hf
    refine lv_istore_n (lv' := [(2, .int x1), (1, .int p2)]) hx hb d_Md_stateAfter_17 rfl hl (by decide) rfl (fun ls hl => ?_)
    refine lv_iload_n hx hb d_Md_stateAfter_18 rfl (lv_at hl 1 rfl) ?_
    refine lv_if_ne (tgt := 36) hx hb d_Md_stateAfter_19 (by decide) (fun c3 => ?_) (fun c3 => ?_)
    · replace Hf := sq_ite_f Hf c3
      refine lv_iload_n hx hb d_Md_stateAfter_36 rfl (lv_at hl 1 rfl) ?_
      refine lv_iconst (v := (1 : Int32)) hx hb d_Md_stateAfter_37 (by decide) ?_
      refine lv_icmp_ne (tgt := 56) hx hb d_Md_stateAfter_38 (by decide) (fun c4 => ?_) (fun c4 => ?_)
      · replace Hf := sq_ite_f Hf c4
        refine lv_iconst (v := (5 : Int32)) hx hb d_Md_stateAfter_56 (by decide) ?_
        have er := Option.some.inj Hf
        exact W.iret hx hb hr (fun t ht hW => ⟨_, rfl, er, ht⟩) (fun q h => by cases h) d_Md_stateAfter_57
      · replace Hf := sq_ite_t Hf c4
        refine lv_iload_n hx hb d_Md_stateAfter_41 rfl (lv_at hl 0 rfl) ?_
        refine lv_if_ge (tgt := 49) hx hb d_Md_stateAfter_42 (by decide) (fun c5 => ?_) (fun c5 => ?_)
        · replace Hf := sq_ite_t Hf c5
          refine lv_bipush (v := (7 : Int32)) hx hb d_Md_stateAfter_49 (by decide) ?_
          refine lv_iload_n hx hb d_Md_stateAfter_51 rfl (lv_at hl 0 rfl) ?_
          refine lv_isub hx hb d_Md_stateAfter_52 ?_
          refine lv_goto (tgt := 57) hx hb d_Md_stateAfter_53 (by decide) ?_
          have er := Option.some.inj Hf
          exact W.iret hx hb hr (fun t ht hW => ⟨_, rfl, er, ht⟩) (fun q h => by cases h) d_Md_stateAfter_57
        · replace Hf := sq_ite_f Hf c5
          refine lv_iconst (v := (4 : Int32)) hx hb d_Md_stateAfter_45 (by decide) ?_
          refine lv_goto (tgt := 57) hx hb d_Md_stateAfter_46 (by decide) ?_
          have er := Option.some.inj Hf
          exact W.iret hx hb hr (fun t ht hW => ⟨_, rfl, er, ht⟩) (fun q h => by cases h) d_Md_stateAfter_57
    · replace Hf := sq_ite_t Hf c3
      refine lv_iload_n hx hb d_Md_stateAfter_22 rfl (lv_at hl 0 rfl) ?_
      refine lv_if_ge (tgt := 30) hx hb d_Md_stateAfter_23 (by decide) (fun c6 => ?_) (fun c6 => ?_)
      · replace Hf := sq_ite_t Hf c6
        refine lv_iload_n hx hb d_Md_stateAfter_30 rfl (lv_at hl 0 rfl) ?_
        refine lv_iconst (v := (1 : Int32)) hx hb d_Md_stateAfter_31 (by decide) ?_
        refine lv_iadd hx hb d_Md_stateAfter_32 ?_
        refine lv_iconst (v := (3 : Int32)) hx hb d_Md_stateAfter_33 (by decide) ?_
        refine lv_irem hx hb d_Md_stateAfter_34 (by decide) ?_
        obtain ⟨x7, ex7, Hf⟩ := sq_bd_e Hf
        refine sq_top ex7 ?_
        have er := Option.some.inj Hf
        exact W.iret hx hb hr (fun t ht hW => ⟨_, rfl, er, ht⟩) (fun q h => by cases h) d_Md_stateAfter_35
      · replace Hf := sq_ite_f Hf c6
        refine lv_iconst (v := (1 : Int32)) hx hb d_Md_stateAfter_26 (by decide) ?_
        refine lv_goto (tgt := 35) hx hb d_Md_stateAfter_27 (by decide) ?_
        have er := Option.some.inj Hf
        exact W.iret hx hb hr (fun t ht hW => ⟨_, rfl, er, ht⟩) (fun q h => by cases h) d_Md_stateAfter_35
  obtain ⟨k8, hk8, Hf⟩ := sq_jn_e Hf
  have Jk8 : ∀ (_u : Unit), k8 _u = some r0 → ∀ ls : Array Slot, lv_has ls 3 [(1, .int p2)] → W p l e (headSpec w_Md_stateAfter rm_Md_stateAfter).room s m (([.int p1, .int p2] : List Value).toArray) below meth c s.heap [] 0 0 (MQ below (qc_Md_stateAfter r0) (([.int p1, .int p2] : List Value).toArray) s 0 0 (fun _ => False)) (F0 m 16 ls []) := by
    intro _u Hf ls hl
    rw [hk8] at Hf
    refine lv_iconst (v := (-1 : Int32)) hx hb d_Md_stateAfter_16 (by decide) ?_
    exact Jk2 (-1 : Int32) Hf _ (lv_sub hl [0] rfl)
  refine lv_if_lt (tgt := 16) hx hb d_Md_stateAfter_1 (by decide) (fun c9 => ?_) (fun c9 => ?_)
  · replace Hf := sq_ite_t Hf c9
    exact Jk8 () Hf _ (lv_sub hl [1] rfl)
  · replace Hf := sq_ite_f Hf c9
    refine lv_iload_n hx hb d_Md_stateAfter_4 rfl (lv_at hl 0 rfl) ?_
    obtain ⟨r10, hc11, Hf⟩ := sq_cb1_e Hf
    refine sq_roi (va_runS (As := [.int p1]) (rest := []) ⟨hx, hb, hml, hown, ht⟩ (kt_Md_modeOf l dC dI p1 r10 hc11) (va_cwS 1 ht (sq_gS tb_1223 tb_1224 tb_11 tb_1225) rfl rfl rfl (by decide +kernel) ⟨Nat.le_of_ble_eq_true rfl, Nat.le_of_ble_eq_true rfl⟩) (sq_roS (hP.sub (ws' := ([] : va_W)) [] rfl) (hK.sub (tys' := []) [] rfl)) rfl rfl hl.1 rfl (lv_room (Nat.le_of_ble_eq_true rfl)) d_Md_stateAfter_5 ⟨Nat.le_of_ble_eq_true rfl, Nat.le_of_ble_eq_true rfl⟩) ?_
    refine lv_iload_n hx hb d_Md_stateAfter_8 rfl (lv_at hl 1 rfl) ?_
    refine lv_icmp_ne (tgt := 16) hx hb d_Md_stateAfter_9 (by decide) (fun c12 => ?_) (fun c12 => ?_)
    · replace Hf := sq_ite_f Hf c12
      exact Jk8 () Hf _ (lv_sub hl [1] rfl)
    · replace Hf := sq_ite_t Hf c12
      refine lv_iload_n hx hb d_Md_stateAfter_12 rfl (lv_at hl 0 rfl) ?_
      refine lv_goto (tgt := 17) hx hb d_Md_stateAfter_13 (by decide) ?_
      exact Jk2 p1 Hf _ (lv_sub hl [1] rfl)

def fn_Md_costOf (p1 : Int32) (p2 : Int32) (p3 : Int32) : Option (Int32) :=
  sq_jn (fun (x1 : Int32) => sq_jn (fun (x3 : Int32) => sq_cb1 (fn_Md_stateAfter p1 p2) fun r5 => if p2 = 0 then (if r5 = (1 : Int32) then (some (x3 + (4 : Int32))) else (some (x3 + (3 : Int32)))) else (if p2 = (1 : Int32) then (if r5 = (4 : Int32) then (some (x3 + (6 : Int32))) else (some (x3 + (5 : Int32)))) else (some (x3 + (8 : Int32))))) fun k4 => if x1 = 0 then (k4 (0 : Int32)) else (sq_cb1 (fn_Md_lengthBits p2 p3) fun r12 => k4 ((4 : Int32) + r12))) fun k2 => sq_jn (fun (_ : Unit) => k2 (1 : Int32)) fun k14 => if p1 < 0 then (k14 ()) else (sq_cb1 (fn_Md_modeOf p1) fun r16 => if r16 = p2 then (k2 (0 : Int32)) else (k14 ()))
def rm_Md_costOf : Room := { frames := 2, cells := 0, slots := 0, locals := 42 }
abbrev qc_Md_costOf (r0 : Int32) : Array Value → State → Outcome → State → Prop := vp_Si (fun r => r = r0)

set_option maxHeartbeats 4000000 in
set_option maxRecDepth 100000 in
theorem kt_Md_costOf (l : Launch) (dC : Nat → ClassId) (dI : Nat → Nat → Nat) (p1 : Int32) (p2 : Int32) (p3 : Int32) (r0 : Int32) (Hf : fn_Md_costOf p1 p2 p3 = some r0) : Met l y_Md_costOf w_Md_costOf rm_Md_costOf (va_Pc [.int p1, .int p2, .int p3] (fun U => va_P (dC, dI) cl_All ([] : va_W) U.heap ∧ va_K (dC, dI) cl_All [] U)) (qc_Md_costOf r0) 0 0 (fun _ => False) := by
  refine Met.ofW (cc := prog_14_method_19_code) (maxL := 6) (ret := (some .int)) (by decide) rfl ?_
  intro p e s m args below meth c s₁ B hml hv
  obtain ⟨rfl, hP, hK⟩ := hv
  have hx := B.exec; have hb := B.bytes; have hr := B.returns; have hlocks := B.notSynchronized
  have ht : ∀ w ∈ lw_g, w.before _ s = true := fun w h => atoms_spec (ws := w_Md_costOf) B.pre w (List.mem_cons_of_mem _ h)
  have hown : s.vm.findClass "SquareSymbolsModel" = some m.cls := findClass_of_methodNamed B.named
  have hl := lv_entry ([.int p1, .int p2, .int p3]) (n := 6) (Nat.le_of_ble_eq_true rfl)
  rw [lg_entry_eq]
  generalize (lg_sl ([.int p1, .int p2, .int p3]) ++ List.replicate (6 - (lg_sl ([.int p1, .int p2, .int p3])).length) Slot.unset).toArray = ls at hl ⊢
  have hl : lv_has ls 6 [(0, .int p1), (1, .int p2), (2, .int p3)] := hl
  refine lv_iload_n hx hb d_Md_costOf_0 rfl (lv_at hl 0 rfl) ?_
  obtain ⟨k2, hk2, Hf⟩ := sq_jn_e Hf
  have Jk2 : ∀ (x1 : Int32), k2 x1 = some r0 → ∀ ls : Array Slot, lv_has ls 6 [(0, .int p1), (1, .int p2), (2, .int p3)] → W p l e (headSpec w_Md_costOf rm_Md_costOf).room s m (([.int p1, .int p2, .int p3] : List Value).toArray) below meth c s.heap [] 0 0 (MQ below (qc_Md_costOf r0) (([.int p1, .int p2, .int p3] : List Value).toArray) s 0 0 (fun _ => False)) (F0 m 17 ls [.int x1]) := by
    intro x1 Hf ls hl
    rw [hk2] at Hf
    refine lv_istore_n (lv' := [(3, .int x1), (0, .int p1), (1, .int p2), (2, .int p3)]) hx hb d_Md_costOf_17 rfl hl (by decide) rfl (fun ls hl => ?_)
    refine lv_iload_n hx hb d_Md_costOf_18 rfl (lv_at hl 0 rfl) ?_
    obtain ⟨k4, hk4, Hf⟩ := sq_jn_e Hf
    have Jk4 : ∀ (x3 : Int32), k4 x3 = some r0 → ∀ ls : Array Slot, lv_has ls 6 [(0, .int p1), (1, .int p2)] → W p l e (headSpec w_Md_costOf rm_Md_costOf).room s m (([.int p1, .int p2, .int p3] : List Value).toArray) below meth c s.heap [] 0 0 (MQ below (qc_Md_costOf r0) (([.int p1, .int p2, .int p3] : List Value).toArray) s 0 0 (fun _ => False)) (F0 m 33 ls [.int x3]) := by
      intro x3 Hf ls hl
      rw [hk4] at Hf
      refine lv_istore (lv' := [(4, .int x3), (0, .int p1), (1, .int p2)]) hx hb d_Md_costOf_33 hl (by decide) rfl (fun ls hl => ?_)
      refine lv_iload_n hx hb d_Md_costOf_35 rfl (lv_at hl 1 rfl) ?_
      refine lv_iload_n hx hb d_Md_costOf_36 rfl (lv_at hl 2 rfl) ?_
      obtain ⟨r5, hc6, Hf⟩ := sq_cb1_e Hf
      refine sq_roi (va_runS (As := [.int p1, .int p2]) (rest := []) ⟨hx, hb, hml, hown, ht⟩ (kt_Md_stateAfter l dC dI p1 p2 r5 hc6) (va_cwS 2 ht (sq_gS tb_1229 tb_1230 tb_11 tb_1231) rfl rfl rfl (by decide +kernel) ⟨Nat.le_of_ble_eq_true rfl, Nat.le_of_ble_eq_true rfl⟩) (sq_roS (hP.sub (ws' := ([] : va_W)) [] rfl) (hK.sub (tys' := []) [] rfl)) rfl rfl hl.1 rfl (lv_room (Nat.le_of_ble_eq_true rfl)) d_Md_costOf_37 ⟨Nat.le_of_ble_eq_true rfl, Nat.le_of_ble_eq_true rfl⟩) ?_
      refine lv_istore (lv' := [(5, .int r5), (4, .int x3), (0, .int p1), (1, .int p2)]) hx hb d_Md_costOf_40 hl (by decide) rfl (fun ls hl => ?_)
      refine lv_iload hx hb d_Md_costOf_42 (lv_at hl 1 rfl) ?_
      refine lv_iload_n hx hb d_Md_costOf_44 rfl (lv_at hl 3 rfl) ?_
      refine lv_if_ne (tgt := 62) hx hb d_Md_costOf_45 (by decide) (fun c7 => ?_) (fun c7 => ?_)
      · replace Hf := sq_ite_f Hf c7
        refine lv_iload_n hx hb d_Md_costOf_62 rfl (lv_at hl 3 rfl) ?_
        refine lv_iconst (v := (1 : Int32)) hx hb d_Md_costOf_63 (by decide) ?_
        refine lv_icmp_ne (tgt := 82) hx hb d_Md_costOf_64 (by decide) (fun c8 => ?_) (fun c8 => ?_)
        · replace Hf := sq_ite_f Hf c8
          refine lv_bipush (v := (8 : Int32)) hx hb d_Md_costOf_82 (by decide) ?_
          refine lv_iadd hx hb d_Md_costOf_84 ?_
          have er := Option.some.inj Hf
          exact W.iret hx hb hr (fun t ht hW => ⟨_, rfl, er, ht⟩) (fun q h => by cases h) d_Md_costOf_85
        · replace Hf := sq_ite_t Hf c8
          refine lv_iload hx hb d_Md_costOf_67 (lv_at hl 0 rfl) ?_
          refine lv_iconst (v := (4 : Int32)) hx hb d_Md_costOf_69 (by decide) ?_
          refine lv_icmp_ne (tgt := 78) hx hb d_Md_costOf_70 (by decide) (fun c9 => ?_) (fun c9 => ?_)
          · replace Hf := sq_ite_f Hf c9
            refine lv_iconst (v := (5 : Int32)) hx hb d_Md_costOf_78 (by decide) ?_
            refine lv_goto (tgt := 84) hx hb d_Md_costOf_79 (by decide) ?_
            refine lv_iadd hx hb d_Md_costOf_84 ?_
            have er := Option.some.inj Hf
            exact W.iret hx hb hr (fun t ht hW => ⟨_, rfl, er, ht⟩) (fun q h => by cases h) d_Md_costOf_85
          · replace Hf := sq_ite_t Hf c9
            refine lv_bipush (v := (6 : Int32)) hx hb d_Md_costOf_73 (by decide) ?_
            refine lv_goto (tgt := 84) hx hb d_Md_costOf_75 (by decide) ?_
            refine lv_iadd hx hb d_Md_costOf_84 ?_
            have er := Option.some.inj Hf
            exact W.iret hx hb hr (fun t ht hW => ⟨_, rfl, er, ht⟩) (fun q h => by cases h) d_Md_costOf_85
      · replace Hf := sq_ite_t Hf c7
        refine lv_iload hx hb d_Md_costOf_48 (lv_at hl 0 rfl) ?_
        refine lv_iconst (v := (1 : Int32)) hx hb d_Md_costOf_50 (by decide) ?_
        refine lv_icmp_ne (tgt := 58) hx hb d_Md_costOf_51 (by decide) (fun c10 => ?_) (fun c10 => ?_)
        · replace Hf := sq_ite_f Hf c10
          refine lv_iconst (v := (3 : Int32)) hx hb d_Md_costOf_58 (by decide) ?_
          refine lv_goto (tgt := 84) hx hb d_Md_costOf_59 (by decide) ?_
          refine lv_iadd hx hb d_Md_costOf_84 ?_
          have er := Option.some.inj Hf
          exact W.iret hx hb hr (fun t ht hW => ⟨_, rfl, er, ht⟩) (fun q h => by cases h) d_Md_costOf_85
        · replace Hf := sq_ite_t Hf c10
          refine lv_iconst (v := (4 : Int32)) hx hb d_Md_costOf_54 (by decide) ?_
          refine lv_goto (tgt := 84) hx hb d_Md_costOf_55 (by decide) ?_
          refine lv_iadd hx hb d_Md_costOf_84 ?_
          have er := Option.some.inj Hf
          exact W.iret hx hb hr (fun t ht hW => ⟨_, rfl, er, ht⟩) (fun q h => by cases h) d_Md_costOf_85
    refine lv_if_eq (tgt := 32) hx hb d_Md_costOf_19 (by decide) (fun c11 => ?_) (fun c11 => ?_)
    · replace Hf := sq_ite_t Hf c11
      refine lv_iconst (v := (0 : Int32)) hx hb d_Md_costOf_32 (by decide) ?_
      exact Jk4 (0 : Int32) Hf _ (lv_sub hl [1, 2] rfl)
    · replace Hf := sq_ite_f Hf c11
      refine lv_iconst (v := (4 : Int32)) hx hb d_Md_costOf_22 (by decide) ?_
      refine lv_iload_n hx hb d_Md_costOf_23 rfl (lv_at hl 2 rfl) ?_
      refine lv_iload_n hx hb d_Md_costOf_24 rfl (lv_at hl 3 rfl) ?_
      obtain ⟨r12, hc13, Hf⟩ := sq_cb1_e Hf
      refine sq_roi (va_runS (As := [.int p2, .int p3]) (rest := [.int (4 : Int32)]) ⟨hx, hb, hml, hown, ht⟩ (kt_Md_lengthBits l dC dI p2 p3 r12 hc13) (va_cwS 2 ht (sq_gS tb_1226 tb_1227 tb_11 tb_1228) rfl rfl rfl (by decide +kernel) ⟨Nat.le_of_ble_eq_true rfl, Nat.le_of_ble_eq_true rfl⟩) (sq_roS (hP.sub (ws' := ([] : va_W)) [] rfl) (hK.sub (tys' := []) [] rfl)) rfl rfl hl.1 rfl (lv_room (Nat.le_of_ble_eq_true rfl)) d_Md_costOf_25 ⟨Nat.le_of_ble_eq_true rfl, Nat.le_of_ble_eq_true rfl⟩) ?_
      refine lv_iadd hx hb d_Md_costOf_28 ?_
      refine lv_goto (tgt := 33) hx hb d_Md_costOf_29 (by decide) ?_
      exact Jk4 ((4 : Int32) + r12) Hf _ (lv_sub hl [1, 2] rfl)
  obtain ⟨k14, hk14, Hf⟩ := sq_jn_e Hf
  have Jk14 : ∀ (_u : Unit), k14 _u = some r0 → ∀ ls : Array Slot, lv_has ls 6 [(0, .int p1), (1, .int p2), (2, .int p3)] → W p l e (headSpec w_Md_costOf rm_Md_costOf).room s m (([.int p1, .int p2, .int p3] : List Value).toArray) below meth c s.heap [] 0 0 (MQ below (qc_Md_costOf r0) (([.int p1, .int p2, .int p3] : List Value).toArray) s 0 0 (fun _ => False)) (F0 m 12 ls []) := by
    intro _u Hf ls hl
    rw [hk14] at Hf
    refine lv_iconst (v := (1 : Int32)) hx hb d_Md_costOf_12 (by decide) ?_
    refine lv_goto (tgt := 17) hx hb d_Md_costOf_13 (by decide) ?_
    exact Jk2 (1 : Int32) Hf _ (lv_sub hl [0, 1, 2] rfl)
  refine lv_if_lt (tgt := 12) hx hb d_Md_costOf_1 (by decide) (fun c15 => ?_) (fun c15 => ?_)
  · replace Hf := sq_ite_t Hf c15
    exact Jk14 () Hf _ (lv_sub hl [0, 1, 2] rfl)
  · replace Hf := sq_ite_f Hf c15
    refine lv_iload_n hx hb d_Md_costOf_4 rfl (lv_at hl 0 rfl) ?_
    obtain ⟨r16, hc17, Hf⟩ := sq_cb1_e Hf
    refine sq_roi (va_runS (As := [.int p1]) (rest := []) ⟨hx, hb, hml, hown, ht⟩ (kt_Md_modeOf l dC dI p1 r16 hc17) (va_cwS 1 ht (sq_gS tb_1223 tb_1224 tb_11 tb_1225) rfl rfl rfl (by decide +kernel) ⟨Nat.le_of_ble_eq_true rfl, Nat.le_of_ble_eq_true rfl⟩) (sq_roS (hP.sub (ws' := ([] : va_W)) [] rfl) (hK.sub (tys' := []) [] rfl)) rfl rfl hl.1 rfl (lv_room (Nat.le_of_ble_eq_true rfl)) d_Md_costOf_5 ⟨Nat.le_of_ble_eq_true rfl, Nat.le_of_ble_eq_true rfl⟩) ?_
    refine lv_iload_n hx hb d_Md_costOf_8 rfl (lv_at hl 1 rfl) ?_
    refine lv_icmp_eq (tgt := 16) hx hb d_Md_costOf_9 (by decide) (fun c18 => ?_) (fun c18 => ?_)
    · replace Hf := sq_ite_t Hf c18
      refine lv_iconst (v := (0 : Int32)) hx hb d_Md_costOf_16 (by decide) ?_
      exact Jk2 (0 : Int32) Hf _ (lv_sub hl [0, 1, 2] rfl)
    · replace Hf := sq_ite_f Hf c18
      exact Jk14 () Hf _ (lv_sub hl [0, 1, 2] rfl)

