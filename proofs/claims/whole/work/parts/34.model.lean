def fn_Md_penalty_L2 (vt_side : Int32) (vt_modules : Nat → Int32) (x16 : Int32) (k20 : Int32 → Int32 → Option (Int32)) : Nat → Int32 → Int32 → Int32 → Option (Int32)
  | 0, _, _, _ => none
  | m2 + 1, x22, x23, x24 => if vt_side ≤ x24 then (k20 x22 x23) else (sq_cb1 (fn_Md_module x24 x16 (0 : Int32) vt_modules) fun r26 => sq_bd (x23 + r26) fun x28 => sq_jn (fun (x29 : Int32) => sq_bd (x24 + (1 : Int32)) fun x31 => fn_Md_penalty_L2 vt_side vt_modules x16 k20 m2 x29 x28 x31) fun k30 => if x24 ≤ 0 then (k30 x22) else (if x16 ≤ 0 then (k30 x22) else (sq_cb1 (fn_Md_module x24 x16 (0 : Int32) vt_modules) fun r34 => sq_cb1 (fn_Md_module (x24 - (1 : Int32)) x16 (0 : Int32) vt_modules) fun r36 => sq_cb1 (fn_Md_module x24 (x16 - (1 : Int32)) (0 : Int32) vt_modules) fun r38 => sq_cb1 (fn_Md_module (x24 - (1 : Int32)) (x16 - (1 : Int32)) (0 : Int32) vt_modules) fun r40 => sq_bd (((r34 + r36) + r38) + r40) fun x42 => sq_jn (fun (x43 : Int32) => k30 x43) fun k44 => sq_jn (fun (_ : Unit) => k44 (x22 + (3 : Int32))) fun k45 => if x42 = 0 then (k45 ()) else (if x42 = (4 : Int32) then (k45 ()) else (k44 x22)))))
theorem fn_Md_penalty_L2_s (vt_side : Int32) (vt_modules : Nat → Int32) (x16 : Int32) (k20 : Int32 → Int32 → Option (Int32)) (m2 : Nat) (x22 : Int32) (x23 : Int32) (x24 : Int32) : fn_Md_penalty_L2 vt_side vt_modules x16 k20 (m2 + 1) x22 x23 x24 = if vt_side ≤ x24 then (k20 x22 x23) else (sq_cb1 (fn_Md_module x24 x16 (0 : Int32) vt_modules) fun r26 => sq_bd (x23 + r26) fun x28 => sq_jn (fun (x29 : Int32) => sq_bd (x24 + (1 : Int32)) fun x31 => fn_Md_penalty_L2 vt_side vt_modules x16 k20 m2 x29 x28 x31) fun k30 => if x24 ≤ 0 then (k30 x22) else (if x16 ≤ 0 then (k30 x22) else (sq_cb1 (fn_Md_module x24 x16 (0 : Int32) vt_modules) fun r34 => sq_cb1 (fn_Md_module (x24 - (1 : Int32)) x16 (0 : Int32) vt_modules) fun r36 => sq_cb1 (fn_Md_module x24 (x16 - (1 : Int32)) (0 : Int32) vt_modules) fun r38 => sq_cb1 (fn_Md_module (x24 - (1 : Int32)) (x16 - (1 : Int32)) (0 : Int32) vt_modules) fun r40 => sq_bd (((r34 + r36) + r38) + r40) fun x42 => sq_jn (fun (x43 : Int32) => k30 x43) fun k44 => sq_jn (fun (_ : Unit) => k44 (x22 + (3 : Int32))) fun k45 => if x42 = 0 then (k45 ()) else (if x42 = (4 : Int32) then (k45 ()) else (k44 x22))))) := rfl
def fn_Md_penalty_L1 (n0 : Nat) (vt_side : Int32) (vt_modules : Nat → Int32) (k8 : Int32 → Int32 → Option (Int32)) : Nat → Int32 → Int32 → Int32 → Option (Int32)
  | 0, _, _, _ => none
  | m1 + 1, x14, x15, x16 => if vt_side ≤ x16 then (k8 x14 x15) else (sq_jn (fun (x18 : Int32) (x19 : Int32) => sq_bd (x16 + (1 : Int32)) fun x21 => fn_Md_penalty_L1 n0 vt_side vt_modules k8 m1 x18 x19 x21) fun k20 => fn_Md_penalty_L2 vt_side vt_modules x16 k20 n0 x14 x15 (0 : Int32))
theorem fn_Md_penalty_L1_s (n0 : Nat) (vt_side : Int32) (vt_modules : Nat → Int32) (k8 : Int32 → Int32 → Option (Int32)) (m1 : Nat) (x14 : Int32) (x15 : Int32) (x16 : Int32) : fn_Md_penalty_L1 n0 vt_side vt_modules k8 (m1 + 1) x14 x15 x16 = if vt_side ≤ x16 then (k8 x14 x15) else (sq_jn (fun (x18 : Int32) (x19 : Int32) => sq_bd (x16 + (1 : Int32)) fun x21 => fn_Md_penalty_L1 n0 vt_side vt_modules k8 m1 x18 x19 x21) fun k20 => fn_Md_penalty_L2 vt_side vt_modules x16 k20 n0 x14 x15 (0 : Int32)) := rfl
def fn_Md_penalty (n0 : Nat) (vt_side : Int32) (vt_modules : Nat → Int32) : Option (Int32) :=
  sq_cb1 (fn_Md_lines n0 (0 : Int32) vt_side vt_modules) fun r1 => sq_cb1 (fn_Md_lines n0 (1 : Int32) vt_side vt_modules) fun r3 => sq_bd (r1 + r3) fun x5 => sq_jn (fun (x6 : Int32) (x7 : Int32) => sq_bd (vt_side * vt_side) fun x9 => sq_bd (((20 : Int32) * x7) - ((10 : Int32) * x9)) fun x10 => if 0 ≤ x10 then (sq_gz x9 <| some (x6 + ((10 : Int32) * (x10 / x9)))) else (sq_gz x9 <| some (x6 + ((10 : Int32) * ((-x10) / x9))))) fun k8 => fn_Md_penalty_L1 n0 vt_side vt_modules k8 n0 x5 (0 : Int32) (0 : Int32)
abbrev ww_Md_penalty (qt qt_modules qt_checkBytes qt_blocks qt_data qt_fixed qt_tells qt_segmentModes qt_segmentLengths qt_modes qt_takes qt_bytes qt_words qt_block qt_tried qt_values qt_system qt_solved qt_places qt_generator qt_readBytes qt_readings : Nat) (ct_modules : ClassId) (vt_thrown : Int32) (vt_length : Int32) (vt_version : Int32) (vt_side : Int32) (vt_made : Int32) (vt_segments : Int32) (vt_bits : Int32) (vt_filled : Int32) (vt_readLength : Int32) (vt_at : Int32) (vt_all : Int32) (vt_fault : Int32) (vt_good : Int32) (vt_modules : Nat → Int32) : va_W := [(qt, .inr (10, [.int vt_thrown, .ref qt_checkBytes, .ref qt_blocks, .ref qt_data, .int vt_length, .ref qt_modules, .ref qt_fixed, .int vt_version, .int vt_side, .int vt_made, .ref qt_tells, .ref qt_segmentModes, .ref qt_segmentLengths, .int vt_segments, .ref qt_modes, .ref qt_takes, .int vt_bits, .ref qt_bytes, .ref qt_words, .int vt_filled, .ref qt_block, .ref qt_tried, .ref qt_values, .ref qt_system, .ref qt_solved, .ref qt_places, .ref qt_generator, .ref qt_readBytes, .int vt_readLength, .int vt_at, .int vt_all, .int vt_fault, .int vt_good, .ref qt_readings])), (qt_modules, .inl (ct_modules, 31329, .inl vt_modules))]

def rm_Md_penalty : Room := { frames := 2, cells := 0, slots := 0, locals := 50 }
abbrev qc_Md_penalty (r0 : Int32) : Array Value → State → Outcome → State → Prop := vp_Si (fun r => r = r0)

set_option maxHeartbeats 4000000 in
set_option maxRecDepth 100000 in
theorem kt_Md_penalty (l : Launch) (dC : Nat → ClassId) (dI : Nat → Nat → Nat) (qt qt_modules qt_checkBytes qt_blocks qt_data qt_fixed qt_tells qt_segmentModes qt_segmentLengths qt_modes qt_takes qt_bytes qt_words qt_block qt_tried qt_values qt_system qt_solved qt_places qt_generator qt_readBytes qt_readings : Nat) (ct_modules : ClassId) (vt_thrown : Int32) (vt_length : Int32) (vt_version : Int32) (vt_side : Int32) (vt_made : Int32) (vt_segments : Int32) (vt_bits : Int32) (vt_filled : Int32) (vt_readLength : Int32) (vt_at : Int32) (vt_all : Int32) (vt_fault : Int32) (vt_good : Int32) (vt_modules : Nat → Int32) (n0 : Nat) (r0 : Int32) (Hf : fn_Md_penalty n0 vt_side vt_modules = some r0) : Met l y_Md_penalty w_Md_penalty rm_Md_penalty (va_Pc [.ref qt] (fun U => va_P (dC, dI) cl_All (ww_Md_penalty qt qt_modules qt_checkBytes qt_blocks qt_data qt_fixed qt_tells qt_segmentModes qt_segmentLengths qt_modes qt_takes qt_bytes qt_words qt_block qt_tried qt_values qt_system qt_solved qt_places qt_generator qt_readBytes qt_readings ct_modules vt_thrown vt_length vt_version vt_side vt_made vt_segments vt_bits vt_filled vt_readLength vt_at vt_all vt_fault vt_good vt_modules) U.heap ∧ va_K (dC, dI) cl_All [(ct_modules, .int)] U)) (qc_Md_penalty r0) 0 0 (fun _ => False) := by
  refine Met.ofW (cc := prog_14_method_48_code) (maxL := 6) (ret := (some .int)) (by decide) rfl ?_
  intro p e s m args below meth c s₁ B hml hv
  obtain ⟨rfl, hP, hK⟩ := hv
  have hx := B.exec; have hb := B.bytes; have hr := B.returns; have hlocks := B.notSynchronized
  have ht : ∀ w ∈ lw_g, w.before _ s = true := fun w h => atoms_spec (ws := w_Md_penalty) B.pre w (List.mem_cons_of_mem _ h)
  have hown : s.vm.findClass "SquareSymbolsModel" = some m.cls := findClass_of_methodNamed B.named
  have hl := lv_entry ([.ref qt]) (n := 6) (Nat.le_of_ble_eq_true rfl)
  rw [lg_entry_eq]
  generalize (lg_sl ([.ref qt]) ++ List.replicate (6 - (lg_sl ([.ref qt])).length) Slot.unset).toArray = ls at hl ⊢
  have hl : lv_has ls 6 [(0, .ref qt)] := hl
  refine lv_aload_n hx hb d_Md_penalty_0 rfl (lv_at hl 0 rfl) ?_
  refine lv_iconst (v := (0 : Int32)) hx hb d_Md_penalty_1 (by decide) ?_
  obtain ⟨r1, hc2, Hf⟩ := sq_cb1_e Hf
  refine sq_roi (va_runV (As := [.int (0 : Int32)]) (rest := []) ⟨hx, hb, hml, hown, ht⟩ (kt_Md_lines l dC dI qt qt_modules qt_checkBytes qt_blocks qt_data qt_fixed qt_tells qt_segmentModes qt_segmentLengths qt_modes qt_takes qt_bytes qt_words qt_block qt_tried qt_values qt_system qt_solved qt_places qt_generator qt_readBytes qt_readings ct_modules vt_thrown vt_length vt_version vt_side vt_made vt_segments vt_bits vt_filled vt_readLength vt_at vt_all vt_fault vt_good vt_modules (0 : Int32) n0 r1 hc2) (cwV 1 ht (sq_gV tb_1340 tb_1342 sl_54 tb_11 tb_1343) rfl rfl rfl (by decide +kernel) ⟨Nat.le_of_ble_eq_true rfl, Nat.le_of_ble_eq_true rfl⟩) (sq_roV (hP.sub (ws' := (ww_Md_lines qt qt_modules qt_checkBytes qt_blocks qt_data qt_fixed qt_tells qt_segmentModes qt_segmentLengths qt_modes qt_takes qt_bytes qt_words qt_block qt_tried qt_values qt_system qt_solved qt_places qt_generator qt_readBytes qt_readings ct_modules vt_thrown vt_length vt_version vt_side vt_made vt_segments vt_bits vt_filled vt_readLength vt_at vt_all vt_fault vt_good vt_modules)) [0, 1] rfl) (hK.sub (tys' := [(ct_modules, .int)]) [0] rfl) (va_recv hK hP (ci := 10) (q0 := 0) rfl rfl)) rfl rfl hl.1 rfl (lv_room (Nat.le_of_ble_eq_true rfl)) d_Md_penalty_2 ⟨Nat.le_of_ble_eq_true rfl, Nat.le_of_ble_eq_true rfl⟩) ?_
  refine lv_aload_n hx hb d_Md_penalty_5 rfl (lv_at hl 0 rfl) ?_
  refine lv_iconst (v := (1 : Int32)) hx hb d_Md_penalty_6 (by decide) ?_
  obtain ⟨r3, hc4, Hf⟩ := sq_cb1_e Hf
  refine sq_roi (va_runV (As := [.int (1 : Int32)]) (rest := [.int r1]) ⟨hx, hb, hml, hown, ht⟩ (kt_Md_lines l dC dI qt qt_modules qt_checkBytes qt_blocks qt_data qt_fixed qt_tells qt_segmentModes qt_segmentLengths qt_modes qt_takes qt_bytes qt_words qt_block qt_tried qt_values qt_system qt_solved qt_places qt_generator qt_readBytes qt_readings ct_modules vt_thrown vt_length vt_version vt_side vt_made vt_segments vt_bits vt_filled vt_readLength vt_at vt_all vt_fault vt_good vt_modules (1 : Int32) n0 r3 hc4) (cwV 1 ht (sq_gV tb_1340 tb_1342 sl_54 tb_11 tb_1343) rfl rfl rfl (by decide +kernel) ⟨Nat.le_of_ble_eq_true rfl, Nat.le_of_ble_eq_true rfl⟩) (sq_roV (hP.sub (ws' := (ww_Md_lines qt qt_modules qt_checkBytes qt_blocks qt_data qt_fixed qt_tells qt_segmentModes qt_segmentLengths qt_modes qt_takes qt_bytes qt_words qt_block qt_tried qt_values qt_system qt_solved qt_places qt_generator qt_readBytes qt_readings ct_modules vt_thrown vt_length vt_version vt_side vt_made vt_segments vt_bits vt_filled vt_readLength vt_at vt_all vt_fault vt_good vt_modules)) [0, 1] rfl) (hK.sub (tys' := [(ct_modules, .int)]) [0] rfl) (va_recv hK hP (ci := 10) (q0 := 0) rfl rfl)) rfl rfl hl.1 rfl (lv_room (Nat.le_of_ble_eq_true rfl)) d_Md_penalty_7 ⟨Nat.le_of_ble_eq_true rfl, Nat.le_of_ble_eq_true rfl⟩) ?_
  refine lv_iadd hx hb d_Md_penalty_10 ?_
  obtain ⟨x5, ex5, Hf⟩ := sq_bd_e Hf
  refine sq_top ex5 ?_
  refine lv_istore_n (lv' := [(1, .int x5), (0, .ref qt)]) hx hb d_Md_penalty_11 rfl hl (by decide) rfl (fun ls hl => ?_)
  refine lv_iconst (v := (0 : Int32)) hx hb d_Md_penalty_12 (by decide) ?_
  refine lv_istore_n (lv' := [(2, .int (0 : Int32)), (1, .int x5), (0, .ref qt)]) hx hb d_Md_penalty_13 rfl hl (by decide) rfl (fun ls hl => ?_)
  refine lv_iconst (v := (0 : Int32)) hx hb d_Md_penalty_14 (by decide) ?_
  refine lv_istore_n (lv' := [(3, .int (0 : Int32)), (2, .int (0 : Int32)), (1, .int x5), (0, .ref qt)]) hx hb d_Md_penalty_15 rfl hl (by decide) rfl (fun ls hl => ?_)
  obtain ⟨k8, hk8, Hf⟩ := sq_jn_e Hf
  have Jk8 : ∀ (x6 : Int32) (x7 : Int32), k8 x6 x7 = some r0 → ∀ ls : Array Slot, lv_has ls 6 [(0, .ref qt), (1, .int x6), (2, .int x7)] → W p l e (headSpec w_Md_penalty rm_Md_penalty).room s m (([.ref qt] : List Value).toArray) below meth c s.heap [] 0 0 (MQ below (qc_Md_penalty r0) (([.ref qt] : List Value).toArray) s 0 0 (fun _ => False)) (F0 m 132 ls []) := by
    intro x6 x7 Hf ls hl
    rw [hk8] at Hf
    refine lv_aload_n hx hb d_Md_penalty_132 rfl (lv_at hl 0 rfl) ?_
    refine va_get (D := (dC, dI)) (ci := 10) (v := .int vt_side) (C := R_Md) (T := F_Md) (N := 34) hx hb ht i_Md hown hK hP 0 rfl rfl 8 (by decide) (ht _ tb_1070) (fun _ h9 => h9) rfl d_Md_penalty_133 ?_
    refine lv_aload_n hx hb d_Md_penalty_136 rfl (lv_at hl 0 rfl) ?_
    refine va_get (D := (dC, dI)) (ci := 10) (v := .int vt_side) (C := R_Md) (T := F_Md) (N := 34) hx hb ht i_Md hown hK hP 0 rfl rfl 8 (by decide) (ht _ tb_1070) (fun _ h9 => h9) rfl d_Md_penalty_137 ?_
    refine lv_imul hx hb d_Md_penalty_140 ?_
    obtain ⟨x9, ex9, Hf⟩ := sq_bd_e Hf
    refine sq_top ex9 ?_
    refine lv_istore_n (lv' := [(3, .int x9), (0, .ref qt), (1, .int x6), (2, .int x7)]) hx hb d_Md_penalty_141 rfl hl (by decide) rfl (fun ls hl => ?_)
    refine lv_bipush (v := (20 : Int32)) hx hb d_Md_penalty_142 (by decide) ?_
    refine lv_iload_n hx hb d_Md_penalty_144 rfl (lv_at hl 3 rfl) ?_
    refine lv_imul hx hb d_Md_penalty_145 ?_
    refine lv_bipush (v := (10 : Int32)) hx hb d_Md_penalty_146 (by decide) ?_
    refine lv_iload_n hx hb d_Md_penalty_148 rfl (lv_at hl 0 rfl) ?_
    refine lv_imul hx hb d_Md_penalty_149 ?_
    refine lv_isub hx hb d_Md_penalty_150 ?_
    obtain ⟨x10, ex10, Hf⟩ := sq_bd_e Hf
    refine sq_top ex10 ?_
    refine lv_istore (lv' := [(4, .int x10), (3, .int x9), (0, .ref qt), (1, .int x6), (2, .int x7)]) hx hb d_Md_penalty_151 hl (by decide) rfl (fun ls hl => ?_)
    refine lv_iload_n hx hb d_Md_penalty_153 rfl (lv_at hl 3 rfl) ?_
    refine lv_bipush (v := (10 : Int32)) hx hb d_Md_penalty_154 (by decide) ?_
    refine lv_iload hx hb d_Md_penalty_156 (lv_at hl 0 rfl) ?_
    refine lv_if_ge (tgt := 167) hx hb d_Md_penalty_158 (by decide) (fun c11 => ?_) (fun c11 => ?_)
    · replace Hf := sq_ite_t Hf c11
      refine lv_iload hx hb d_Md_penalty_167 (lv_at hl 0 rfl) ?_
      refine lv_iload_n hx hb d_Md_penalty_169 rfl (lv_at hl 1 rfl) ?_
      obtain ⟨hz12, Hf⟩ := sq_gz_e Hf
      refine lv_idiv hx hb d_Md_penalty_170 hz12 ?_
      refine lv_imul hx hb d_Md_penalty_171 ?_
      refine lv_iadd hx hb d_Md_penalty_172 ?_
      have er := Option.some.inj Hf
      exact W.iret hx hb hr (fun t ht hW => ⟨_, rfl, er, ht⟩) (fun q h => by cases h) d_Md_penalty_173
    · replace Hf := sq_ite_f Hf c11
      refine lv_iload hx hb d_Md_penalty_161 (lv_at hl 0 rfl) ?_
      refine lv_ineg hx hb d_Md_penalty_163 ?_
      refine lv_goto (tgt := 169) hx hb d_Md_penalty_164 (by decide) ?_
      refine lv_iload_n hx hb d_Md_penalty_169 rfl (lv_at hl 1 rfl) ?_
      obtain ⟨hz13, Hf⟩ := sq_gz_e Hf
      refine lv_idiv hx hb d_Md_penalty_170 hz13 ?_
      refine lv_imul hx hb d_Md_penalty_171 ?_
      refine lv_iadd hx hb d_Md_penalty_172 ?_
      have er := Option.some.inj Hf
      exact W.iret hx hb hr (fun t ht hW => ⟨_, rfl, er, ht⟩) (fun q h => by cases h) d_Md_penalty_173
  have L1 : ∀ (m1 : Nat), ∀ (x14 : Int32) (x15 : Int32) (x16 : Int32), fn_Md_penalty_L1 n0 vt_side vt_modules k8 m1 x14 x15 x16 = some r0 → ∀ ls : Array Slot, lv_has ls 6 [(0, .ref qt), (1, .int x14), (2, .int x15), (3, .int x16)] → W p l e (headSpec w_Md_penalty rm_Md_penalty).room s m (([.ref qt] : List Value).toArray) below meth c s.heap [] 0 0 (MQ below (qc_Md_penalty r0) (([.ref qt] : List Value).toArray) s 0 0 (fun _ => False)) (F0 m 16 ls []) := by
    intro m1
    induction m1 with
    | zero => intro x14 x15 x16 Hf; exact sq_none Hf
    | succ m1 ih1 =>
      intro x14 x15 x16 Hf ls hl
      replace Hf := (fn_Md_penalty_L1_s n0 vt_side vt_modules k8 m1 x14 x15 x16).symm.trans Hf
      refine lv_iload_n hx hb d_Md_penalty_16 rfl (lv_at hl 3 rfl) ?_
      refine lv_aload_n hx hb d_Md_penalty_17 rfl (lv_at hl 0 rfl) ?_
      refine va_get (D := (dC, dI)) (ci := 10) (v := .int vt_side) (C := R_Md) (T := F_Md) (N := 34) hx hb ht i_Md hown hK hP 0 rfl rfl 8 (by decide) (ht _ tb_1070) (fun _ h9 => h9) rfl d_Md_penalty_18 ?_
      refine lv_icmp_ge (tgt := 132) hx hb d_Md_penalty_21 (by decide) (fun c17 => ?_) (fun c17 => ?_)
      · replace Hf := sq_ite_t Hf c17
        exact Jk8 x14 x15 Hf _ (lv_sub hl [0, 1, 2] rfl)
      · replace Hf := sq_ite_f Hf c17
        refine lv_iconst (v := (0 : Int32)) hx hb d_Md_penalty_24 (by decide) ?_
        refine lv_istore (lv' := [(4, .int (0 : Int32)), (0, .ref qt), (1, .int x14), (2, .int x15), (3, .int x16)]) hx hb d_Md_penalty_25 hl (by decide) rfl (fun ls hl => ?_)
        obtain ⟨k20, hk20, Hf⟩ := sq_jn_e Hf
        have Jk20 : ∀ (x18 : Int32) (x19 : Int32), k20 x18 x19 = some r0 → ∀ ls : Array Slot, lv_has ls 6 [(0, .ref qt), (1, .int x18), (2, .int x19), (3, .int x16)] → W p l e (headSpec w_Md_penalty rm_Md_penalty).room s m (([.ref qt] : List Value).toArray) below meth c s.heap [] 0 0 (MQ below (qc_Md_penalty r0) (([.ref qt] : List Value).toArray) s 0 0 (fun _ => False)) (F0 m 126 ls []) := by
          intro x18 x19 Hf ls hl
          rw [hk20] at Hf
          obtain ⟨x21, ex21, Hf⟩ := sq_bd_e Hf
          refine lv_iinc (v := x21) (lv' := [(3, .int x21), (0, .ref qt), (1, .int x18), (2, .int x19)]) hx hb d_Md_penalty_126 hl (k := 3) rfl (by rw [ex21]; rfl) (by decide) rfl (fun ls hl => ?_)
          refine lv_goto (tgt := 16) hx hb d_Md_penalty_129 (by decide) ?_
          exact ih1 x18 x19 x21 Hf _ (lv_sub hl [1, 2, 3, 0] rfl)
        have L2 : ∀ (m2 : Nat), ∀ (x22 : Int32) (x23 : Int32) (x24 : Int32), fn_Md_penalty_L2 vt_side vt_modules x16 k20 m2 x22 x23 x24 = some r0 → ∀ ls : Array Slot, lv_has ls 6 [(0, .ref qt), (1, .int x22), (2, .int x23), (3, .int x16), (4, .int x24)] → W p l e (headSpec w_Md_penalty rm_Md_penalty).room s m (([.ref qt] : List Value).toArray) below meth c s.heap [] 0 0 (MQ below (qc_Md_penalty r0) (([.ref qt] : List Value).toArray) s 0 0 (fun _ => False)) (F0 m 27 ls []) := by
          intro m2
          induction m2 with
          | zero => intro x22 x23 x24 Hf; exact sq_none Hf
          | succ m2 ih2 =>
            intro x22 x23 x24 Hf ls hl
            replace Hf := (fn_Md_penalty_L2_s vt_side vt_modules x16 k20 m2 x22 x23 x24).symm.trans Hf
            refine lv_iload hx hb d_Md_penalty_27 (lv_at hl 4 rfl) ?_
            refine lv_aload_n hx hb d_Md_penalty_29 rfl (lv_at hl 0 rfl) ?_
            refine va_get (D := (dC, dI)) (ci := 10) (v := .int vt_side) (C := R_Md) (T := F_Md) (N := 34) hx hb ht i_Md hown hK hP 0 rfl rfl 8 (by decide) (ht _ tb_1070) (fun _ h9 => h9) rfl d_Md_penalty_30 ?_
            refine lv_icmp_ge (tgt := 126) hx hb d_Md_penalty_33 (by decide) (fun c25 => ?_) (fun c25 => ?_)
            · replace Hf := sq_ite_t Hf c25
              exact Jk20 x22 x23 Hf _ (lv_sub hl [0, 1, 2, 3] rfl)
            · replace Hf := sq_ite_f Hf c25
              refine lv_iload_n hx hb d_Md_penalty_36 rfl (lv_at hl 2 rfl) ?_
              refine lv_aload_n hx hb d_Md_penalty_37 rfl (lv_at hl 0 rfl) ?_
              refine lv_iload hx hb d_Md_penalty_38 (lv_at hl 4 rfl) ?_
              refine lv_iload_n hx hb d_Md_penalty_40 rfl (lv_at hl 3 rfl) ?_
              refine lv_iconst (v := (0 : Int32)) hx hb d_Md_penalty_41 (by decide) ?_
              obtain ⟨r26, hc27, Hf⟩ := sq_cb1_e Hf
              refine sq_roi (va_runV (As := [.int x24, .int x16, .int (0 : Int32)]) (rest := [.int x23]) ⟨hx, hb, hml, hown, ht⟩ (kt_Md_module l dC dI qt qt_modules qt_checkBytes qt_blocks qt_data qt_fixed qt_tells qt_segmentModes qt_segmentLengths qt_modes qt_takes qt_bytes qt_words qt_block qt_tried qt_values qt_system qt_solved qt_places qt_generator qt_readBytes qt_readings ct_modules vt_thrown vt_length vt_version vt_side vt_made vt_segments vt_bits vt_filled vt_readLength vt_at vt_all vt_fault vt_good vt_modules x24 x16 (0 : Int32) r26 hc27) (cwV 3 ht (sq_gV tb_1344 tb_1346 sl_55 tb_11 tb_1347) rfl rfl rfl (by decide +kernel) ⟨Nat.le_of_ble_eq_true rfl, Nat.le_of_ble_eq_true rfl⟩) (sq_roV (hP.sub (ws' := (ww_Md_module qt qt_modules qt_checkBytes qt_blocks qt_data qt_fixed qt_tells qt_segmentModes qt_segmentLengths qt_modes qt_takes qt_bytes qt_words qt_block qt_tried qt_values qt_system qt_solved qt_places qt_generator qt_readBytes qt_readings ct_modules vt_thrown vt_length vt_version vt_side vt_made vt_segments vt_bits vt_filled vt_readLength vt_at vt_all vt_fault vt_good vt_modules)) [0, 1] rfl) (hK.sub (tys' := [(ct_modules, .int)]) [0] rfl) (va_recv hK hP (ci := 10) (q0 := 0) rfl rfl)) rfl rfl hl.1 rfl (lv_room (Nat.le_of_ble_eq_true rfl)) d_Md_penalty_42 ⟨Nat.le_of_ble_eq_true rfl, Nat.le_of_ble_eq_true rfl⟩) ?_
              refine lv_iadd hx hb d_Md_penalty_45 ?_
              obtain ⟨x28, ex28, Hf⟩ := sq_bd_e Hf
              refine sq_top ex28 ?_
              refine lv_istore_n (lv' := [(2, .int x28), (0, .ref qt), (1, .int x22), (3, .int x16), (4, .int x24)]) hx hb d_Md_penalty_46 rfl hl (by decide) rfl (fun ls hl => ?_)
              refine lv_iload hx hb d_Md_penalty_47 (lv_at hl 4 rfl) ?_
              obtain ⟨k30, hk30, Hf⟩ := sq_jn_e Hf
              have Jk30 : ∀ (x29 : Int32), k30 x29 = some r0 → ∀ ls : Array Slot, lv_has ls 6 [(0, .ref qt), (1, .int x29), (2, .int x28), (3, .int x16), (4, .int x24)] → W p l e (headSpec w_Md_penalty rm_Md_penalty).room s m (([.ref qt] : List Value).toArray) below meth c s.heap [] 0 0 (MQ below (qc_Md_penalty r0) (([.ref qt] : List Value).toArray) s 0 0 (fun _ => False)) (F0 m 120 ls []) := by
                intro x29 Hf ls hl
                rw [hk30] at Hf
                obtain ⟨x31, ex31, Hf⟩ := sq_bd_e Hf
                refine lv_iinc (v := x31) (lv' := [(4, .int x31), (0, .ref qt), (1, .int x29), (2, .int x28), (3, .int x16)]) hx hb d_Md_penalty_120 hl (k := 4) rfl (by rw [ex31]; rfl) (by decide) rfl (fun ls hl => ?_)
                refine lv_goto (tgt := 27) hx hb d_Md_penalty_123 (by decide) ?_
                exact ih2 x29 x28 x31 Hf _ (lv_sub hl [1, 2, 3, 4, 0] rfl)
              refine lv_if_le (tgt := 120) hx hb d_Md_penalty_49 (by decide) (fun c32 => ?_) (fun c32 => ?_)
              · replace Hf := sq_ite_t Hf c32
                exact Jk30 x22 Hf _ (lv_sub hl [1, 2, 0, 3, 4] rfl)
              · replace Hf := sq_ite_f Hf c32
                refine lv_iload_n hx hb d_Md_penalty_52 rfl (lv_at hl 3 rfl) ?_
                refine lv_if_le (tgt := 120) hx hb d_Md_penalty_53 (by decide) (fun c33 => ?_) (fun c33 => ?_)
                · replace Hf := sq_ite_t Hf c33
                  exact Jk30 x22 Hf _ (lv_sub hl [1, 2, 0, 3, 4] rfl)
                · replace Hf := sq_ite_f Hf c33
                  refine lv_aload_n hx hb d_Md_penalty_56 rfl (lv_at hl 1 rfl) ?_
                  refine lv_iload hx hb d_Md_penalty_57 (lv_at hl 4 rfl) ?_
                  refine lv_iload_n hx hb d_Md_penalty_59 rfl (lv_at hl 3 rfl) ?_
                  refine lv_iconst (v := (0 : Int32)) hx hb d_Md_penalty_60 (by decide) ?_
                  obtain ⟨r34, hc35, Hf⟩ := sq_cb1_e Hf
                  refine sq_roi (va_runV (As := [.int x24, .int x16, .int (0 : Int32)]) (rest := []) ⟨hx, hb, hml, hown, ht⟩ (kt_Md_module l dC dI qt qt_modules qt_checkBytes qt_blocks qt_data qt_fixed qt_tells qt_segmentModes qt_segmentLengths qt_modes qt_takes qt_bytes qt_words qt_block qt_tried qt_values qt_system qt_solved qt_places qt_generator qt_readBytes qt_readings ct_modules vt_thrown vt_length vt_version vt_side vt_made vt_segments vt_bits vt_filled vt_readLength vt_at vt_all vt_fault vt_good vt_modules x24 x16 (0 : Int32) r34 hc35) (cwV 3 ht (sq_gV tb_1344 tb_1346 sl_55 tb_11 tb_1347) rfl rfl rfl (by decide +kernel) ⟨Nat.le_of_ble_eq_true rfl, Nat.le_of_ble_eq_true rfl⟩) (sq_roV (hP.sub (ws' := (ww_Md_module qt qt_modules qt_checkBytes qt_blocks qt_data qt_fixed qt_tells qt_segmentModes qt_segmentLengths qt_modes qt_takes qt_bytes qt_words qt_block qt_tried qt_values qt_system qt_solved qt_places qt_generator qt_readBytes qt_readings ct_modules vt_thrown vt_length vt_version vt_side vt_made vt_segments vt_bits vt_filled vt_readLength vt_at vt_all vt_fault vt_good vt_modules)) [0, 1] rfl) (hK.sub (tys' := [(ct_modules, .int)]) [0] rfl) (va_recv hK hP (ci := 10) (q0 := 0) rfl rfl)) rfl rfl hl.1 rfl (lv_room (Nat.le_of_ble_eq_true rfl)) d_Md_penalty_61 ⟨Nat.le_of_ble_eq_true rfl, Nat.le_of_ble_eq_true rfl⟩) ?_
                  refine lv_aload_n hx hb d_Md_penalty_64 rfl (lv_at hl 1 rfl) ?_
                  refine lv_iload hx hb d_Md_penalty_65 (lv_at hl 4 rfl) ?_
                  refine lv_iconst (v := (1 : Int32)) hx hb d_Md_penalty_67 (by decide) ?_
                  refine lv_isub hx hb d_Md_penalty_68 ?_
                  refine lv_iload_n hx hb d_Md_penalty_69 rfl (lv_at hl 3 rfl) ?_
                  refine lv_iconst (v := (0 : Int32)) hx hb d_Md_penalty_70 (by decide) ?_
                  obtain ⟨r36, hc37, Hf⟩ := sq_cb1_e Hf
                  refine sq_roi (va_runV (As := [.int (x24 - (1 : Int32)), .int x16, .int (0 : Int32)]) (rest := [.int r34]) ⟨hx, hb, hml, hown, ht⟩ (kt_Md_module l dC dI qt qt_modules qt_checkBytes qt_blocks qt_data qt_fixed qt_tells qt_segmentModes qt_segmentLengths qt_modes qt_takes qt_bytes qt_words qt_block qt_tried qt_values qt_system qt_solved qt_places qt_generator qt_readBytes qt_readings ct_modules vt_thrown vt_length vt_version vt_side vt_made vt_segments vt_bits vt_filled vt_readLength vt_at vt_all vt_fault vt_good vt_modules (x24 - (1 : Int32)) x16 (0 : Int32) r36 hc37) (cwV 3 ht (sq_gV tb_1344 tb_1346 sl_55 tb_11 tb_1347) rfl rfl rfl (by decide +kernel) ⟨Nat.le_of_ble_eq_true rfl, Nat.le_of_ble_eq_true rfl⟩) (sq_roV (hP.sub (ws' := (ww_Md_module qt qt_modules qt_checkBytes qt_blocks qt_data qt_fixed qt_tells qt_segmentModes qt_segmentLengths qt_modes qt_takes qt_bytes qt_words qt_block qt_tried qt_values qt_system qt_solved qt_places qt_generator qt_readBytes qt_readings ct_modules vt_thrown vt_length vt_version vt_side vt_made vt_segments vt_bits vt_filled vt_readLength vt_at vt_all vt_fault vt_good vt_modules)) [0, 1] rfl) (hK.sub (tys' := [(ct_modules, .int)]) [0] rfl) (va_recv hK hP (ci := 10) (q0 := 0) rfl rfl)) rfl rfl hl.1 rfl (lv_room (Nat.le_of_ble_eq_true rfl)) d_Md_penalty_71 ⟨Nat.le_of_ble_eq_true rfl, Nat.le_of_ble_eq_true rfl⟩) ?_
                  refine lv_iadd hx hb d_Md_penalty_74 ?_
                  refine lv_aload_n hx hb d_Md_penalty_75 rfl (lv_at hl 1 rfl) ?_
                  refine lv_iload hx hb d_Md_penalty_76 (lv_at hl 4 rfl) ?_
                  refine lv_iload_n hx hb d_Md_penalty_78 rfl (lv_at hl 3 rfl) ?_
                  refine lv_iconst (v := (1 : Int32)) hx hb d_Md_penalty_79 (by decide) ?_
                  refine lv_isub hx hb d_Md_penalty_80 ?_
                  refine lv_iconst (v := (0 : Int32)) hx hb d_Md_penalty_81 (by decide) ?_
                  obtain ⟨r38, hc39, Hf⟩ := sq_cb1_e Hf
                  refine sq_roi (va_runV (As := [.int x24, .int (x16 - (1 : Int32)), .int (0 : Int32)]) (rest := [.int (r34 + r36)]) ⟨hx, hb, hml, hown, ht⟩ (kt_Md_module l dC dI qt qt_modules qt_checkBytes qt_blocks qt_data qt_fixed qt_tells qt_segmentModes qt_segmentLengths qt_modes qt_takes qt_bytes qt_words qt_block qt_tried qt_values qt_system qt_solved qt_places qt_generator qt_readBytes qt_readings ct_modules vt_thrown vt_length vt_version vt_side vt_made vt_segments vt_bits vt_filled vt_readLength vt_at vt_all vt_fault vt_good vt_modules x24 (x16 - (1 : Int32)) (0 : Int32) r38 hc39) (cwV 3 ht (sq_gV tb_1344 tb_1346 sl_55 tb_11 tb_1347) rfl rfl rfl (by decide +kernel) ⟨Nat.le_of_ble_eq_true rfl, Nat.le_of_ble_eq_true rfl⟩) (sq_roV (hP.sub (ws' := (ww_Md_module qt qt_modules qt_checkBytes qt_blocks qt_data qt_fixed qt_tells qt_segmentModes qt_segmentLengths qt_modes qt_takes qt_bytes qt_words qt_block qt_tried qt_values qt_system qt_solved qt_places qt_generator qt_readBytes qt_readings ct_modules vt_thrown vt_length vt_version vt_side vt_made vt_segments vt_bits vt_filled vt_readLength vt_at vt_all vt_fault vt_good vt_modules)) [0, 1] rfl) (hK.sub (tys' := [(ct_modules, .int)]) [0] rfl) (va_recv hK hP (ci := 10) (q0 := 0) rfl rfl)) rfl rfl hl.1 rfl (lv_room (Nat.le_of_ble_eq_true rfl)) d_Md_penalty_82 ⟨Nat.le_of_ble_eq_true rfl, Nat.le_of_ble_eq_true rfl⟩) ?_
                  refine lv_iadd hx hb d_Md_penalty_85 ?_
                  refine lv_aload_n hx hb d_Md_penalty_86 rfl (lv_at hl 1 rfl) ?_
                  refine lv_iload hx hb d_Md_penalty_87 (lv_at hl 4 rfl) ?_
                  refine lv_iconst (v := (1 : Int32)) hx hb d_Md_penalty_89 (by decide) ?_
                  refine lv_isub hx hb d_Md_penalty_90 ?_
                  refine lv_iload_n hx hb d_Md_penalty_91 rfl (lv_at hl 3 rfl) ?_
                  refine lv_iconst (v := (1 : Int32)) hx hb d_Md_penalty_92 (by decide) ?_
                  refine lv_isub hx hb d_Md_penalty_93 ?_
                  refine lv_iconst (v := (0 : Int32)) hx hb d_Md_penalty_94 (by decide) ?_
                  obtain ⟨r40, hc41, Hf⟩ := sq_cb1_e Hf
                  refine sq_roi (va_runV (As := [.int (x24 - (1 : Int32)), .int (x16 - (1 : Int32)), .int (0 : Int32)]) (rest := [.int ((r34 + r36) + r38)]) ⟨hx, hb, hml, hown, ht⟩ (kt_Md_module l dC dI qt qt_modules qt_checkBytes qt_blocks qt_data qt_fixed qt_tells qt_segmentModes qt_segmentLengths qt_modes qt_takes qt_bytes qt_words qt_block qt_tried qt_values qt_system qt_solved qt_places qt_generator qt_readBytes qt_readings ct_modules vt_thrown vt_length vt_version vt_side vt_made vt_segments vt_bits vt_filled vt_readLength vt_at vt_all vt_fault vt_good vt_modules (x24 - (1 : Int32)) (x16 - (1 : Int32)) (0 : Int32) r40 hc41) (cwV 3 ht (sq_gV tb_1344 tb_1346 sl_55 tb_11 tb_1347) rfl rfl rfl (by decide +kernel) ⟨Nat.le_of_ble_eq_true rfl, Nat.le_of_ble_eq_true rfl⟩) (sq_roV (hP.sub (ws' := (ww_Md_module qt qt_modules qt_checkBytes qt_blocks qt_data qt_fixed qt_tells qt_segmentModes qt_segmentLengths qt_modes qt_takes qt_bytes qt_words qt_block qt_tried qt_values qt_system qt_solved qt_places qt_generator qt_readBytes qt_readings ct_modules vt_thrown vt_length vt_version vt_side vt_made vt_segments vt_bits vt_filled vt_readLength vt_at vt_all vt_fault vt_good vt_modules)) [0, 1] rfl) (hK.sub (tys' := [(ct_modules, .int)]) [0] rfl) (va_recv hK hP (ci := 10) (q0 := 0) rfl rfl)) rfl rfl hl.1 rfl (lv_room (Nat.le_of_ble_eq_true rfl)) d_Md_penalty_95 ⟨Nat.le_of_ble_eq_true rfl, Nat.le_of_ble_eq_true rfl⟩) ?_
                  refine lv_iadd hx hb d_Md_penalty_98 ?_
                  obtain ⟨x42, ex42, Hf⟩ := sq_bd_e Hf
                  refine sq_top ex42 ?_
                  refine lv_istore (lv' := [(5, .int x42), (2, .int x28), (0, .ref qt), (1, .int x22), (3, .int x16), (4, .int x24)]) hx hb d_Md_penalty_99 hl (by decide) rfl (fun ls hl => ?_)
                  refine lv_iload hx hb d_Md_penalty_101 (lv_at hl 0 rfl) ?_
                  obtain ⟨k44, hk44, Hf⟩ := sq_jn_e Hf
                  have Jk44 : ∀ (x43 : Int32), k44 x43 = some r0 → ∀ ls : Array Slot, lv_has ls 6 [(0, .ref qt), (2, .int x28), (3, .int x16), (4, .int x24)] → W p l e (headSpec w_Md_penalty rm_Md_penalty).room s m (([.ref qt] : List Value).toArray) below meth c s.heap [] 0 0 (MQ below (qc_Md_penalty r0) (([.ref qt] : List Value).toArray) s 0 0 (fun _ => False)) (F0 m 119 ls [.int x43]) := by
                    intro x43 Hf ls hl
                    rw [hk44] at Hf
                    refine lv_istore_n (lv' := [(1, .int x43), (0, .ref qt), (2, .int x28), (3, .int x16), (4, .int x24)]) hx hb d_Md_penalty_119 rfl hl (by decide) rfl (fun ls hl => ?_)
                    exact Jk30 x43 Hf _ (lv_sub hl [1, 0, 2, 3, 4] rfl)
                  obtain ⟨k45, hk45, Hf⟩ := sq_jn_e Hf
                  have Jk45 : ∀ (_u : Unit), k45 _u = some r0 → ∀ ls : Array Slot, lv_has ls 6 [(0, .ref qt), (1, .int x22), (2, .int x28), (3, .int x16), (4, .int x24)] → W p l e (headSpec w_Md_penalty rm_Md_penalty).room s m (([.ref qt] : List Value).toArray) below meth c s.heap [] 0 0 (MQ below (qc_Md_penalty r0) (([.ref qt] : List Value).toArray) s 0 0 (fun _ => False)) (F0 m 112 ls []) := by
                    intro _u Hf ls hl
                    rw [hk45] at Hf
                    refine lv_iload_n hx hb d_Md_penalty_112 rfl (lv_at hl 1 rfl) ?_
                    refine lv_iconst (v := (3 : Int32)) hx hb d_Md_penalty_113 (by decide) ?_
                    refine lv_iadd hx hb d_Md_penalty_114 ?_
                    refine lv_goto (tgt := 119) hx hb d_Md_penalty_115 (by decide) ?_
                    exact Jk44 (x22 + (3 : Int32)) Hf _ (lv_sub hl [0, 2, 3, 4] rfl)
                  refine lv_if_eq (tgt := 112) hx hb d_Md_penalty_103 (by decide) (fun c46 => ?_) (fun c46 => ?_)
                  · replace Hf := sq_ite_t Hf c46
                    exact Jk45 () Hf _ (lv_sub hl [2, 3, 1, 4, 5] rfl)
                  · replace Hf := sq_ite_f Hf c46
                    refine lv_iload hx hb d_Md_penalty_106 (lv_at hl 0 rfl) ?_
                    refine lv_iconst (v := (4 : Int32)) hx hb d_Md_penalty_108 (by decide) ?_
                    refine lv_icmp_ne (tgt := 118) hx hb d_Md_penalty_109 (by decide) (fun c47 => ?_) (fun c47 => ?_)
                    · replace Hf := sq_ite_f Hf c47
                      refine lv_iload_n hx hb d_Md_penalty_118 rfl (lv_at hl 3 rfl) ?_
                      exact Jk44 x22 Hf _ (lv_sub hl [2, 1, 4, 5] rfl)
                    · replace Hf := sq_ite_t Hf c47
                      exact Jk45 () Hf _ (lv_sub hl [2, 3, 1, 4, 5] rfl)
        exact L2 n0 x14 x15 (0 : Int32) Hf _ (lv_sub hl [1, 2, 3, 4, 0] rfl)
  exact L1 n0 x5 (0 : Int32) (0 : Int32) Hf _ (lv_sub hl [3, 2, 1, 0] rfl)

def fn_Md_make_L1 (p1 : Int32) (p3 : Int32) (n0 : Nat) (y20 : Int32) (r24 : Int32) (k31 : Int32 → Int32 → (Nat → Int32) → (Nat → Int32) → (Nat → Int32) → Option (Int32 × Int32 × Int32 × Int32 × Int32 × Int32 × Int32 × Int32 × (Nat → Int32) × (Nat → Int32) × (Nat → Int32) × (Nat → Int32) × (Nat → Int32) × (Nat → Int32) × (Nat → Int32) × (Nat → Int32) × (Nat → Int32) × (Nat → Int32) × (Nat → Int32))) : Nat → Int32 → Int32 → Int32 → (Nat → Int32) → (Nat → Int32) → (Nat → Int32) → Option (Int32 × Int32 × Int32 × Int32 × Int32 × Int32 × Int32 × Int32 × (Nat → Int32) × (Nat → Int32) × (Nat → Int32) × (Nat → Int32) × (Nat → Int32) × (Nat → Int32) × (Nat → Int32) × (Nat → Int32) × (Nat → Int32) × (Nat → Int32) × (Nat → Int32))
  | 0, _, _, _, _, _, _ => none
  | m1 + 1, x52, x53, x54, b55, b56, b57 => if (8 : Int32) ≤ x54 then (k31 x52 x53 b55 b56 b57) else (sq_jn (fun (x59 : Int32) (x60 : Int32) (b61 : Nat → Int32) (b62 : Nat → Int32) (b63 : Nat → Int32) => sq_bd (x54 + (1 : Int32)) fun x65 => fn_Md_make_L1 p1 p3 n0 y20 r24 k31 m1 x59 x60 x65 b61 b62 b63) fun k64 => sq_jn (fun (_ : Unit) => sq_cb1 (fn_Md_formNumber p1 x54) fun r67 => sq_cb2 (fn_Md_layForm n0 r67 y20 b55 b56) fun b69 b70 => sq_cb2 (fn_Md_goThrough n0 x54 (0 : Int32) r24 y20 b69 b70 b57) fun b72 b73 => sq_cb1 (fn_Md_penalty n0 y20 b72) fun r75 => sq_jn (fun (_ : Unit) => k64 x54 r75 b69 b72 b73) fun k77 => if x53 < 0 then (k77 ()) else (if x53 ≤ r75 then (k64 x52 x53 b69 b72 b73) else (k77 ()))) fun k66 => if p3 < 0 then (k66 ()) else (if p3 = x54 then (k66 ()) else (k64 x52 x53 b55 b56 b57)))
theorem fn_Md_make_L1_s (p1 : Int32) (p3 : Int32) (n0 : Nat) (y20 : Int32) (r24 : Int32) (k31 : Int32 → Int32 → (Nat → Int32) → (Nat → Int32) → (Nat → Int32) → Option (Int32 × Int32 × Int32 × Int32 × Int32 × Int32 × Int32 × Int32 × (Nat → Int32) × (Nat → Int32) × (Nat → Int32) × (Nat → Int32) × (Nat → Int32) × (Nat → Int32) × (Nat → Int32) × (Nat → Int32) × (Nat → Int32) × (Nat → Int32) × (Nat → Int32))) (m1 : Nat) (x52 : Int32) (x53 : Int32) (x54 : Int32) (b55 : Nat → Int32) (b56 : Nat → Int32) (b57 : Nat → Int32) : fn_Md_make_L1 p1 p3 n0 y20 r24 k31 (m1 + 1) x52 x53 x54 b55 b56 b57 = if (8 : Int32) ≤ x54 then (k31 x52 x53 b55 b56 b57) else (sq_jn (fun (x59 : Int32) (x60 : Int32) (b61 : Nat → Int32) (b62 : Nat → Int32) (b63 : Nat → Int32) => sq_bd (x54 + (1 : Int32)) fun x65 => fn_Md_make_L1 p1 p3 n0 y20 r24 k31 m1 x59 x60 x65 b61 b62 b63) fun k64 => sq_jn (fun (_ : Unit) => sq_cb1 (fn_Md_formNumber p1 x54) fun r67 => sq_cb2 (fn_Md_layForm n0 r67 y20 b55 b56) fun b69 b70 => sq_cb2 (fn_Md_goThrough n0 x54 (0 : Int32) r24 y20 b69 b70 b57) fun b72 b73 => sq_cb1 (fn_Md_penalty n0 y20 b72) fun r75 => sq_jn (fun (_ : Unit) => k64 x54 r75 b69 b72 b73) fun k77 => if x53 < 0 then (k77 ()) else (if x53 ≤ r75 then (k64 x52 x53 b69 b72 b73) else (k77 ()))) fun k66 => if p3 < 0 then (k66 ()) else (if p3 = x54 then (k66 ()) else (k64 x52 x53 b55 b56 b57))) := rfl
def fn_Md_make (n0 : Nat) (p1 : Int32) (p2 : Int32) (p3 : Int32) (vt_thrown : Int32) (vt_length : Int32) (vt_version : Int32) (vt_side : Int32) (vt_made : Int32) (vt_segments : Int32) (vt_bits : Int32) (vt_filled : Int32) (vt_block : Nat → Int32) (vt_blocks : Nat → Int32) (vt_bytes : Nat → Int32) (vt_checkBytes : Nat → Int32) (vt_data : Nat → Int32) (vt_fixed : Nat → Int32) (vt_generator : Nat → Int32) (vt_modes : Nat → Int32) (vt_modules : Nat → Int32) (vt_segmentLengths : Nat → Int32) (vt_segmentModes : Nat → Int32) (vt_takes : Nat → Int32) (vt_tells : Nat → Int32) (vt_words : Nat → Int32) : Option (Int32 × Int32 × Int32 × Int32 × Int32 × Int32 × Int32 × Int32 × (Nat → Int32) × (Nat → Int32) × (Nat → Int32) × (Nat → Int32) × (Nat → Int32) × (Nat → Int32) × (Nat → Int32) × (Nat → Int32) × (Nat → Int32) × (Nat → Int32) × (Nat → Int32)) :=
  sq_jn (fun (x1 : Int32) => if x1 ≤ 0 then (sq_cb4 (fn_Md_versionFor n0 p1 p2 vt_length vt_bits vt_blocks vt_checkBytes vt_data vt_modes vt_takes) fun r4 y5 b6 b7 => if 0 ≤ r4 then (sq_cb5 (fn_Md_layAll n0 r4 p1 vt_length vt_segments vt_filled vt_blocks vt_bytes vt_checkBytes vt_data b6 vt_segmentLengths vt_segmentModes) fun y10 y11 b12 b13 b14 => sq_cb3 (fn_Md_check n0 r4 p1 vt_block vt_blocks b12 vt_checkBytes vt_generator vt_words) fun b16 b17 b18 => sq_cb3 (fn_Md_frame n0 r4 vt_side vt_fixed vt_modules) fun y20 b21 b22 => sq_cb1 (fn_Md_allCodewords r4) fun r24 => sq_jn (fun (x26 : Int32) (x27 : Int32) (b28 : Nat → Int32) (b29 : Nat → Int32) (b30 : Nat → Int32) => sq_cb1 (fn_Md_formNumber p1 x26) fun r32 => sq_cb2 (fn_Md_layForm n0 r32 y20 b28 b29) fun b34 b35 => sq_cb2 (fn_Md_goThrough n0 x26 (0 : Int32) r24 y20 b34 b35 b30) fun b37 b38 => sq_gi (0 : Int32) 6 <| sq_bd (upd vt_tells (0 : Int32).toNatClampNeg r4) fun b41 => sq_gi (1 : Int32) 6 <| sq_bd (upd b41 (1 : Int32).toNatClampNeg p1) fun b43 => sq_gi (2 : Int32) 6 <| sq_bd (upd b43 (2 : Int32).toNatClampNeg x26) fun b45 => sq_gi (3 : Int32) 6 <| sq_bd (upd b45 (3 : Int32).toNatClampNeg x27) fun b47 => sq_gi (4 : Int32) 6 <| sq_bd (upd b47 (4 : Int32).toNatClampNeg y10) fun b49 => sq_gi (5 : Int32) 6 <| sq_bd (upd b49 (5 : Int32).toNatClampNeg y5) fun b51 => some (r4, x1, r4, y20, (1 : Int32), y10, y5, y11, b16, b12, b34, b17, b6, b37, b13, b14, b7, b51, b38)) fun k31 => fn_Md_make_L1 p1 p3 n0 y20 r24 k31 n0 p3 (-1 : Int32) (0 : Int32) b21 b22 b18) else (some ((-1 : Int32), x1, vt_version, vt_side, vt_made, vt_segments, y5, vt_filled, vt_block, vt_bytes, vt_fixed, vt_generator, b6, vt_modules, vt_segmentLengths, vt_segmentModes, b7, vt_tells, vt_words))) else (some ((0 : Int32), x1, vt_version, vt_side, vt_made, vt_segments, vt_bits, vt_filled, vt_block, vt_bytes, vt_fixed, vt_generator, vt_modes, vt_modules, vt_segmentLengths, vt_segmentModes, vt_takes, vt_tells, vt_words))) fun k2 => sq_jn (fun (_ : Unit) => k2 (1 : Int32)) fun k82 => if p1 < 0 then (k82 ()) else (if (3 : Int32) < p1 then (k82 ()) else (if p2 < 0 then (k82 ()) else (if (40 : Int32) < p2 then (k82 ()) else (if p3 < (-1 : Int32) then (k82 ()) else (if p3 ≤ (7 : Int32) then (k2 (0 : Int32)) else (k82 ()))))))
abbrev ww_Md_make (qt qt_block qt_blocks qt_bytes qt_checkBytes qt_data qt_fixed qt_generator qt_modes qt_modules qt_segmentLengths qt_segmentModes qt_takes qt_tells qt_words qt_tried qt_values qt_system qt_solved qt_places qt_readBytes qt_readings : Nat) (ct_block ct_blocks ct_bytes ct_checkBytes ct_data ct_fixed ct_generator ct_modes ct_modules ct_segmentLengths ct_segmentModes ct_takes ct_tells ct_words : ClassId) (vt_thrown : Int32) (vt_length : Int32) (vt_version : Int32) (vt_side : Int32) (vt_made : Int32) (vt_segments : Int32) (vt_bits : Int32) (vt_filled : Int32) (vt_readLength : Int32) (vt_at : Int32) (vt_all : Int32) (vt_fault : Int32) (vt_good : Int32) (vt_block : Nat → Int32) (vt_blocks : Nat → Int32) (vt_bytes : Nat → Int32) (vt_checkBytes : Nat → Int32) (vt_data : Nat → Int32) (vt_fixed : Nat → Int32) (vt_generator : Nat → Int32) (vt_modes : Nat → Int32) (vt_modules : Nat → Int32) (vt_segmentLengths : Nat → Int32) (vt_segmentModes : Nat → Int32) (vt_takes : Nat → Int32) (vt_tells : Nat → Int32) (vt_words : Nat → Int32) : va_W := [(qt, .inr (10, [.int vt_thrown, .ref qt_checkBytes, .ref qt_blocks, .ref qt_data, .int vt_length, .ref qt_modules, .ref qt_fixed, .int vt_version, .int vt_side, .int vt_made, .ref qt_tells, .ref qt_segmentModes, .ref qt_segmentLengths, .int vt_segments, .ref qt_modes, .ref qt_takes, .int vt_bits, .ref qt_bytes, .ref qt_words, .int vt_filled, .ref qt_block, .ref qt_tried, .ref qt_values, .ref qt_system, .ref qt_solved, .ref qt_places, .ref qt_generator, .ref qt_readBytes, .int vt_readLength, .int vt_at, .int vt_all, .int vt_fault, .int vt_good, .ref qt_readings])), (qt_block, .inl (ct_block, 256, .inl vt_block)), (qt_blocks, .inl (ct_blocks, 160, .inl vt_blocks)), (qt_bytes, .inl (ct_bytes, 3800, .inl vt_bytes)), (qt_checkBytes, .inl (ct_checkBytes, 160, .inl vt_checkBytes)), (qt_data, .inl (ct_data, 3000, .inl vt_data)), (qt_fixed, .inl (ct_fixed, 31329, .inl vt_fixed)), (qt_generator, .inl (ct_generator, 32, .inl vt_generator)), (qt_modes, .inl (ct_modes, 3000, .inl vt_modes)), (qt_modules, .inl (ct_modules, 31329, .inl vt_modules)), (qt_segmentLengths, .inl (ct_segmentLengths, 3000, .inl vt_segmentLengths)), (qt_segmentModes, .inl (ct_segmentModes, 3000, .inl vt_segmentModes)), (qt_takes, .inl (ct_takes, 18006, .inl vt_takes)), (qt_tells, .inl (ct_tells, 6, .inl vt_tells)), (qt_words, .inl (ct_words, 3800, .inl vt_words))]

def rm_Md_make : Room := { frames := 8, cells := 0, slots := 0, locals := 193 }
abbrev qc_Md_make (dC : Nat → ClassId) (dI : Nat → Nat → Nat) (A : Nat → Prop) (r0 : Int32) (qt qt_block qt_blocks qt_bytes qt_checkBytes qt_data qt_fixed qt_generator qt_modes qt_modules qt_segmentLengths qt_segmentModes qt_takes qt_tells qt_words qt_tried qt_values qt_system qt_solved qt_places qt_readBytes qt_readings : Nat) (ct_block ct_blocks ct_bytes ct_checkBytes ct_data ct_fixed ct_generator ct_modes ct_modules ct_segmentLengths ct_segmentModes ct_takes ct_tells ct_words : ClassId) (vt_thrown : Int32) (vt_length : Int32) (vt_version : Int32) (vt_side : Int32) (vt_made : Int32) (vt_segments : Int32) (vt_bits : Int32) (vt_filled : Int32) (vt_readLength : Int32) (vt_at : Int32) (vt_all : Int32) (vt_fault : Int32) (vt_good : Int32) (vt_block : Nat → Int32) (vt_blocks : Nat → Int32) (vt_bytes : Nat → Int32) (vt_checkBytes : Nat → Int32) (vt_data : Nat → Int32) (vt_fixed : Nat → Int32) (vt_generator : Nat → Int32) (vt_modes : Nat → Int32) (vt_modules : Nat → Int32) (vt_segmentLengths : Nat → Int32) (vt_segmentModes : Nat → Int32) (vt_takes : Nat → Int32) (vt_tells : Nat → Int32) (vt_words : Nat → Int32) : Array Value → State → Outcome → State → Prop := va_Qi (fun r (_ : Unit) => r = r0) (fun _ t => va_P (dC, dI) cl_All (ww_Md_make qt qt_block qt_blocks qt_bytes qt_checkBytes qt_data qt_fixed qt_generator qt_modes qt_modules qt_segmentLengths qt_segmentModes qt_takes qt_tells qt_words qt_tried qt_values qt_system qt_solved qt_places qt_readBytes qt_readings ct_block ct_blocks ct_bytes ct_checkBytes ct_data ct_fixed ct_generator ct_modes ct_modules ct_segmentLengths ct_segmentModes ct_takes ct_tells ct_words vt_thrown vt_length vt_version vt_side vt_made vt_segments vt_bits vt_filled vt_readLength vt_at vt_all vt_fault vt_good vt_block vt_blocks vt_bytes vt_checkBytes vt_data vt_fixed vt_generator vt_modes vt_modules vt_segmentLengths vt_segmentModes vt_takes vt_tells vt_words) t.heap ∧ va_D A (ww_Md_make qt qt_block qt_blocks qt_bytes qt_checkBytes qt_data qt_fixed qt_generator qt_modes qt_modules qt_segmentLengths qt_segmentModes qt_takes qt_tells qt_words qt_tried qt_values qt_system qt_solved qt_places qt_readBytes qt_readings ct_block ct_blocks ct_bytes ct_checkBytes ct_data ct_fixed ct_generator ct_modes ct_modules ct_segmentLengths ct_segmentModes ct_takes ct_tells ct_words vt_thrown vt_length vt_version vt_side vt_made vt_segments vt_bits vt_filled vt_readLength vt_at vt_all vt_fault vt_good vt_block vt_blocks vt_bytes vt_checkBytes vt_data vt_fixed vt_generator vt_modes vt_modules vt_segmentLengths vt_segmentModes vt_takes vt_tells vt_words)) A

set_option maxHeartbeats 4000000 in
set_option maxRecDepth 100000 in
theorem kt_Md_make (l : Launch) (dC : Nat → ClassId) (dI : Nat → Nat → Nat) (qt qt_block qt_blocks qt_bytes qt_checkBytes qt_data qt_fixed qt_generator qt_modes qt_modules qt_segmentLengths qt_segmentModes qt_takes qt_tells qt_words qt_tried qt_values qt_system qt_solved qt_places qt_readBytes qt_readings : Nat) (ct_block ct_blocks ct_bytes ct_checkBytes ct_data ct_fixed ct_generator ct_modes ct_modules ct_segmentLengths ct_segmentModes ct_takes ct_tells ct_words : ClassId) (vt_thrown : Int32) (vt_length : Int32) (vt_version : Int32) (vt_side : Int32) (vt_made : Int32) (vt_segments : Int32) (vt_bits : Int32) (vt_filled : Int32) (vt_readLength : Int32) (vt_at : Int32) (vt_all : Int32) (vt_fault : Int32) (vt_good : Int32) (vt_block : Nat → Int32) (vt_blocks : Nat → Int32) (vt_bytes : Nat → Int32) (vt_checkBytes : Nat → Int32) (vt_data : Nat → Int32) (vt_fixed : Nat → Int32) (vt_generator : Nat → Int32) (vt_modes : Nat → Int32) (vt_modules : Nat → Int32) (vt_segmentLengths : Nat → Int32) (vt_segmentModes : Nat → Int32) (vt_takes : Nat → Int32) (vt_tells : Nat → Int32) (vt_words : Nat → Int32) (p1 : Int32) (p2 : Int32) (p3 : Int32) (sz : Nat) (n0 : Nat) (r0 : Int32) (nvt_thrown : Int32) (nvt_version : Int32) (nvt_side : Int32) (nvt_made : Int32) (nvt_segments : Int32) (nvt_bits : Int32) (nvt_filled : Int32) (nvt_block : Nat → Int32) (nvt_bytes : Nat → Int32) (nvt_fixed : Nat → Int32) (nvt_generator : Nat → Int32) (nvt_modes : Nat → Int32) (nvt_modules : Nat → Int32) (nvt_segmentLengths : Nat → Int32) (nvt_segmentModes : Nat → Int32) (nvt_takes : Nat → Int32) (nvt_tells : Nat → Int32) (nvt_words : Nat → Int32) (Hf : fn_Md_make n0 p1 p2 p3 vt_thrown vt_length vt_version vt_side vt_made vt_segments vt_bits vt_filled vt_block vt_blocks vt_bytes vt_checkBytes vt_data vt_fixed vt_generator vt_modes vt_modules vt_segmentLengths vt_segmentModes vt_takes vt_tells vt_words = some (r0, nvt_thrown, nvt_version, nvt_side, nvt_made, nvt_segments, nvt_bits, nvt_filled, nvt_block, nvt_bytes, nvt_fixed, nvt_generator, nvt_modes, nvt_modules, nvt_segmentLengths, nvt_segmentModes, nvt_takes, nvt_tells, nvt_words)) : Met l y_Md_make w_Md_make rm_Md_make (va_Pc [.ref qt, .int p1, .int p2, .int p3] (fun U => U.heap.size = sz ∧ va_P (dC, dI) cl_All (ww_Md_make qt qt_block qt_blocks qt_bytes qt_checkBytes qt_data qt_fixed qt_generator qt_modes qt_modules qt_segmentLengths qt_segmentModes qt_takes qt_tells qt_words qt_tried qt_values qt_system qt_solved qt_places qt_readBytes qt_readings ct_block ct_blocks ct_bytes ct_checkBytes ct_data ct_fixed ct_generator ct_modes ct_modules ct_segmentLengths ct_segmentModes ct_takes ct_tells ct_words vt_thrown vt_length vt_version vt_side vt_made vt_segments vt_bits vt_filled vt_readLength vt_at vt_all vt_fault vt_good vt_block vt_blocks vt_bytes vt_checkBytes vt_data vt_fixed vt_generator vt_modes vt_modules vt_segmentLengths vt_segmentModes vt_takes vt_tells vt_words) U.heap ∧ va_K (dC, dI) cl_All [(ct_block, .int), (ct_blocks, .int), (ct_bytes, .int), (ct_checkBytes, .int), (ct_data, .int), (ct_fixed, .int), (ct_generator, .int), (ct_modes, .int), (ct_modules, .int), (ct_segmentLengths, .int), (ct_segmentModes, .int), (ct_takes, .int), (ct_tells, .int), (ct_words, .int)] U ∧ va_D (fun _ => True) (ww_Md_make qt qt_block qt_blocks qt_bytes qt_checkBytes qt_data qt_fixed qt_generator qt_modes qt_modules qt_segmentLengths qt_segmentModes qt_takes qt_tells qt_words qt_tried qt_values qt_system qt_solved qt_places qt_readBytes qt_readings ct_block ct_blocks ct_bytes ct_checkBytes ct_data ct_fixed ct_generator ct_modes ct_modules ct_segmentLengths ct_segmentModes ct_takes ct_tells ct_words vt_thrown vt_length vt_version vt_side vt_made vt_segments vt_bits vt_filled vt_readLength vt_at vt_all vt_fault vt_good vt_block vt_blocks vt_bytes vt_checkBytes vt_data vt_fixed vt_generator vt_modes vt_modules vt_segmentLengths vt_segmentModes vt_takes vt_tells vt_words))) (qc_Md_make dC dI (va_A (ww_Md_make qt qt_block qt_blocks qt_bytes qt_checkBytes qt_data qt_fixed qt_generator qt_modes qt_modules qt_segmentLengths qt_segmentModes qt_takes qt_tells qt_words qt_tried qt_values qt_system qt_solved qt_places qt_readBytes qt_readings ct_block ct_blocks ct_bytes ct_checkBytes ct_data ct_fixed ct_generator ct_modes ct_modules ct_segmentLengths ct_segmentModes ct_takes ct_tells ct_words vt_thrown vt_length vt_version vt_side vt_made vt_segments vt_bits vt_filled vt_readLength vt_at vt_all vt_fault vt_good vt_block vt_blocks vt_bytes vt_checkBytes vt_data vt_fixed vt_generator vt_modes vt_modules vt_segmentLengths vt_segmentModes vt_takes vt_tells vt_words) sz) r0 qt qt_block qt_blocks qt_bytes qt_checkBytes qt_data qt_fixed qt_generator qt_modes qt_modules qt_segmentLengths qt_segmentModes qt_takes qt_tells qt_words qt_tried qt_values qt_system qt_solved qt_places qt_readBytes qt_readings ct_block ct_blocks ct_bytes ct_checkBytes ct_data ct_fixed ct_generator ct_modes ct_modules ct_segmentLengths ct_segmentModes ct_takes ct_tells ct_words nvt_thrown vt_length nvt_version nvt_side nvt_made nvt_segments nvt_bits nvt_filled vt_readLength vt_at vt_all vt_fault vt_good nvt_block vt_blocks nvt_bytes vt_checkBytes vt_data nvt_fixed nvt_generator nvt_modes nvt_modules nvt_segmentLengths nvt_segmentModes nvt_takes nvt_tells nvt_words) 0 0 (va_A (ww_Md_make qt qt_block qt_blocks qt_bytes qt_checkBytes qt_data qt_fixed qt_generator qt_modes qt_modules qt_segmentLengths qt_segmentModes qt_takes qt_tells qt_words qt_tried qt_values qt_system qt_solved qt_places qt_readBytes qt_readings ct_block ct_blocks ct_bytes ct_checkBytes ct_data ct_fixed ct_generator ct_modes ct_modules ct_segmentLengths ct_segmentModes ct_takes ct_tells ct_words vt_thrown vt_length vt_version vt_side vt_made vt_segments vt_bits vt_filled vt_readLength vt_at vt_all vt_fault vt_good vt_block vt_blocks vt_bytes vt_checkBytes vt_data vt_fixed vt_generator vt_modes vt_modules vt_segmentLengths vt_segmentModes vt_takes vt_tells vt_words) sz) := by
  refine Met.ofW (cc := prog_14_method_52_code) (maxL := 10) (ret := (some .int)) (by decide) rfl ?_
  intro p e s m args below meth c s₁ B hml hv
  obtain ⟨rfl, hsz, hP, hK, hD0⟩ := hv
  have hx := B.exec; have hb := B.bytes; have hr := B.returns; have hlocks := B.notSynchronized
  have ht : ∀ w ∈ lw_g, w.before _ s = true := fun w h => atoms_spec (ws := w_Md_make) B.pre w (List.mem_cons_of_mem _ h)
  have hown : s.vm.findClass "SquareSymbolsModel" = some m.cls := findClass_of_methodNamed B.named
  subst hsz
  have hD := hD0.self (sz := s.heap.size)
  generalize hAe : va_A (ww_Md_make qt qt_block qt_blocks qt_bytes qt_checkBytes qt_data qt_fixed qt_generator qt_modes qt_modules qt_segmentLengths qt_segmentModes qt_takes qt_tells qt_words qt_tried qt_values qt_system qt_solved qt_places qt_readBytes qt_readings ct_block ct_blocks ct_bytes ct_checkBytes ct_data ct_fixed ct_generator ct_modes ct_modules ct_segmentLengths ct_segmentModes ct_takes ct_tells ct_words vt_thrown vt_length vt_version vt_side vt_made vt_segments vt_bits vt_filled vt_readLength vt_at vt_all vt_fault vt_good vt_block vt_blocks vt_bytes vt_checkBytes vt_data vt_fixed vt_generator vt_modes vt_modules vt_segmentLengths vt_segmentModes vt_takes vt_tells vt_words) s.heap.size = A at hD ⊢
  have hA : ∀ q : Nat, s.heap.size ≤ q → A q := fun q h => by rw [← hAe]; exact Or.inr h
  have hS : va_S A s.heap s.heap [] := va_S.rf
  have hl := lv_entry ([.ref qt, .int p1, .int p2, .int p3]) (n := 10) (Nat.le_of_ble_eq_true rfl)
  rw [lg_entry_eq]
  generalize (lg_sl ([.ref qt, .int p1, .int p2, .int p3]) ++ List.replicate (10 - (lg_sl ([.ref qt, .int p1, .int p2, .int p3])).length) Slot.unset).toArray = ls at hl ⊢
  have hl : lv_has ls 10 [(0, .ref qt), (1, .int p1), (2, .int p2), (3, .int p3)] := hl
  refine lv_aload_n hx hb d_Md_make_0 rfl (lv_at hl 0 rfl) ?_
  refine lv_iload_n hx hb d_Md_make_1 rfl (lv_at hl 1 rfl) ?_
  obtain ⟨k2, hk2, Hf⟩ := sq_jn_e Hf
  have Jk2 : ∀ (x1 : Int32), k2 x1 = some (r0, nvt_thrown, nvt_version, nvt_side, nvt_made, nvt_segments, nvt_bits, nvt_filled, nvt_block, nvt_bytes, nvt_fixed, nvt_generator, nvt_modes, nvt_modules, nvt_segmentLengths, nvt_segmentModes, nvt_takes, nvt_tells, nvt_words) → ∀ (H : Heap) (locs : List Loc), va_P (dC, dI) cl_All (ww_Md_make qt qt_block qt_blocks qt_bytes qt_checkBytes qt_data qt_fixed qt_generator qt_modes qt_modules qt_segmentLengths qt_segmentModes qt_takes qt_tells qt_words qt_tried qt_values qt_system qt_solved qt_places qt_readBytes qt_readings ct_block ct_blocks ct_bytes ct_checkBytes ct_data ct_fixed ct_generator ct_modes ct_modules ct_segmentLengths ct_segmentModes ct_takes ct_tells ct_words vt_thrown vt_length vt_version vt_side vt_made vt_segments vt_bits vt_filled vt_readLength vt_at vt_all vt_fault vt_good vt_block vt_blocks vt_bytes vt_checkBytes vt_data vt_fixed vt_generator vt_modes vt_modules vt_segmentLengths vt_segmentModes vt_takes vt_tells vt_words) H → va_D A (ww_Md_make qt qt_block qt_blocks qt_bytes qt_checkBytes qt_data qt_fixed qt_generator qt_modes qt_modules qt_segmentLengths qt_segmentModes qt_takes qt_tells qt_words qt_tried qt_values qt_system qt_solved qt_places qt_readBytes qt_readings ct_block ct_blocks ct_bytes ct_checkBytes ct_data ct_fixed ct_generator ct_modes ct_modules ct_segmentLengths ct_segmentModes ct_takes ct_tells ct_words vt_thrown vt_length vt_version vt_side vt_made vt_segments vt_bits vt_filled vt_readLength vt_at vt_all vt_fault vt_good vt_block vt_blocks vt_bytes vt_checkBytes vt_data vt_fixed vt_generator vt_modes vt_modules vt_segmentLengths vt_segmentModes vt_takes vt_tells vt_words) → va_S A s.heap H locs → ∀ ls : Array Slot, lv_has ls 10 [(0, .ref qt), (1, .int p1), (2, .int p2), (3, .int p3)] → W p l e (headSpec w_Md_make rm_Md_make).room s m (([.ref qt, .int p1, .int p2, .int p3] : List Value).toArray) below meth c H locs 0 0 (MQ below (qc_Md_make dC dI A r0 qt qt_block qt_blocks qt_bytes qt_checkBytes qt_data qt_fixed qt_generator qt_modes qt_modules qt_segmentLengths qt_segmentModes qt_takes qt_tells qt_words qt_tried qt_values qt_system qt_solved qt_places qt_readBytes qt_readings ct_block ct_blocks ct_bytes ct_checkBytes ct_data ct_fixed ct_generator ct_modes ct_modules ct_segmentLengths ct_segmentModes ct_takes ct_tells ct_words nvt_thrown vt_length nvt_version nvt_side nvt_made nvt_segments nvt_bits nvt_filled vt_readLength vt_at vt_all vt_fault vt_good nvt_block vt_blocks nvt_bytes vt_checkBytes vt_data nvt_fixed nvt_generator nvt_modes nvt_modules nvt_segmentLengths nvt_segmentModes nvt_takes nvt_tells nvt_words) (([.ref qt, .int p1, .int p2, .int p3] : List Value).toArray) s 0 0 A) (F0 m 36 ls [.int x1, .ref qt]) := by
    intro x1 Hf H locs  hP hD hS ls hl
    rw [hk2] at Hf
    refine va_put (D := (dC, dI)) (ci := 10) (v := .int x1) (ty := .int) (C := R_Md) (T := F_Md) (N := 34) hx hb ht i_Md t_Md t_Md_ok n_Md hown hK hP hD hS 0 rfl rfl 0 (by decide) (ht _ tb_1062) (fun _ h9 => h9) rfl (by decide +kernel) rfl rfl (Nat.le_of_ble_eq_true rfl) d_Md_make_36 (fun H locs hP hD hS => ?_)
    replace hP : va_P (dC, dI) cl_All (ww_Md_make qt qt_block qt_blocks qt_bytes qt_checkBytes qt_data qt_fixed qt_generator qt_modes qt_modules qt_segmentLengths qt_segmentModes qt_takes qt_tells qt_words qt_tried qt_values qt_system qt_solved qt_places qt_readBytes qt_readings ct_block ct_blocks ct_bytes ct_checkBytes ct_data ct_fixed ct_generator ct_modes ct_modules ct_segmentLengths ct_segmentModes ct_takes ct_tells ct_words x1 vt_length vt_version vt_side vt_made vt_segments vt_bits vt_filled vt_readLength vt_at vt_all vt_fault vt_good vt_block vt_blocks vt_bytes vt_checkBytes vt_data vt_fixed vt_generator vt_modes vt_modules vt_segmentLengths vt_segmentModes vt_takes vt_tells vt_words) H := hP
    replace hD : va_D A (ww_Md_make qt qt_block qt_blocks qt_bytes qt_checkBytes qt_data qt_fixed qt_generator qt_modes qt_modules qt_segmentLengths qt_segmentModes qt_takes qt_tells qt_words qt_tried qt_values qt_system qt_solved qt_places qt_readBytes qt_readings ct_block ct_blocks ct_bytes ct_checkBytes ct_data ct_fixed ct_generator ct_modes ct_modules ct_segmentLengths ct_segmentModes ct_takes ct_tells ct_words x1 vt_length vt_version vt_side vt_made vt_segments vt_bits vt_filled vt_readLength vt_at vt_all vt_fault vt_good vt_block vt_blocks vt_bytes vt_checkBytes vt_data vt_fixed vt_generator vt_modes vt_modules vt_segmentLengths vt_segmentModes vt_takes vt_tells vt_words) := hD
    refine lv_aload_n hx hb d_Md_make_39 rfl (lv_at hl 0 rfl) ?_
    refine va_get (D := (dC, dI)) (ci := 10) (v := .int x1) (C := R_Md) (T := F_Md) (N := 34) hx hb ht i_Md hown hK hP 0 rfl rfl 0 (by decide) (ht _ tb_1062) (fun _ h9 => h9) rfl d_Md_make_40 ?_
    refine lv_if_le (tgt := 48) hx hb d_Md_make_43 (by decide) (fun c3 => ?_) (fun c3 => ?_)
    · replace Hf := sq_ite_t Hf c3
      refine lv_aload_n hx hb d_Md_make_48 rfl (lv_at hl 0 rfl) ?_
      refine lv_iload_n hx hb d_Md_make_49 rfl (lv_at hl 1 rfl) ?_
      refine lv_iload_n hx hb d_Md_make_50 rfl (lv_at hl 2 rfl) ?_
      obtain ⟨r4, y5, b6, b7, hc8, Hf⟩ := sq_cb4_e Hf
      refine sq_rwi (wn := (ww_Md_make qt qt_block qt_blocks qt_bytes qt_checkBytes qt_data qt_fixed qt_generator qt_modes qt_modules qt_segmentLengths qt_segmentModes qt_takes qt_tells qt_words qt_tried qt_values qt_system qt_solved qt_places qt_readBytes qt_readings ct_block ct_blocks ct_bytes ct_checkBytes ct_data ct_fixed ct_generator ct_modes ct_modules ct_segmentLengths ct_segmentModes ct_takes ct_tells ct_words x1 vt_length vt_version vt_side vt_made vt_segments y5 vt_filled vt_readLength vt_at vt_all vt_fault vt_good vt_block vt_blocks vt_bytes vt_checkBytes vt_data vt_fixed vt_generator b6 vt_modules vt_segmentLengths vt_segmentModes b7 vt_tells vt_words)) (va_runV (As := [.int p1, .int p2]) (rest := []) ⟨hx, hb, hml, hown, ht⟩ (kt_Md_versionFor l dC dI qt qt_blocks qt_checkBytes qt_data qt_modes qt_takes qt_modules qt_fixed qt_tells qt_segmentModes qt_segmentLengths qt_bytes qt_words qt_block qt_tried qt_values qt_system qt_solved qt_places qt_generator qt_readBytes qt_readings ct_blocks ct_checkBytes ct_data ct_modes ct_takes x1 vt_length vt_version vt_side vt_made vt_segments vt_bits vt_filled vt_readLength vt_at vt_all vt_fault vt_good vt_blocks vt_checkBytes vt_data vt_modes vt_takes p1 p2 H.size n0 r4 y5 b6 b7 hc8) (cwV 2 ht (sq_gV tb_1190 tb_1192 sl_31 tb_11 tb_1193) rfl rfl rfl (by decide +kernel) ⟨Nat.le_of_ble_eq_true rfl, Nat.le_of_ble_eq_true rfl⟩) (sq_rwV (hP.sub (ws' := (ww_Md_versionFor qt qt_blocks qt_checkBytes qt_data qt_modes qt_takes qt_modules qt_fixed qt_tells qt_segmentModes qt_segmentLengths qt_bytes qt_words qt_block qt_tried qt_values qt_system qt_solved qt_places qt_generator qt_readBytes qt_readings ct_blocks ct_checkBytes ct_data ct_modes ct_takes x1 vt_length vt_version vt_side vt_made vt_segments vt_bits vt_filled vt_readLength vt_at vt_all vt_fault vt_good vt_blocks vt_checkBytes vt_data vt_modes vt_takes)) [0, 2, 4, 5, 8, 12] rfl) (hK.sub (tys' := [(ct_blocks, .int), (ct_checkBytes, .int), (ct_data, .int), (ct_modes, .int), (ct_takes, .int)]) [1, 3, 4, 7, 11] rfl) (hD.sub (ws' := (ww_Md_versionFor qt qt_blocks qt_checkBytes qt_data qt_modes qt_takes qt_modules qt_fixed qt_tells qt_segmentModes qt_segmentLengths qt_bytes qt_words qt_block qt_tried qt_values qt_system qt_solved qt_places qt_generator qt_readBytes qt_readings ct_blocks ct_checkBytes ct_data ct_modes ct_takes x1 vt_length vt_version vt_side vt_made vt_segments vt_bits vt_filled vt_readLength vt_at vt_all vt_fault vt_good vt_blocks vt_checkBytes vt_data vt_modes vt_takes)) [0, 2, 4, 5, 8, 12] (by decide) rfl) (va_recv hK hP (ci := 10) (q0 := 0) rfl rfl)) rfl rfl hl.1 rfl (lv_room (Nat.le_of_ble_eq_true rfl)) d_Md_make_51 ⟨Nat.le_of_ble_eq_true rfl, Nat.le_of_ble_eq_true rfl⟩) hP hD hS hA [0, 2, 4, 5, 8, 12] [1, 3, 6, 7, 9, 10, 11, 13, 14] [9, 0, 10, 1, 11, 12, 2, 3, 13, 4, 5, 6, 14, 7, 8] rfl rfl (by decide) (by decide) rfl (by decide) (fun H locs hP hD hS => ?_)
      refine lv_istore (lv' := [(4, .int r4), (0, .ref qt), (1, .int p1), (2, .int p2), (3, .int p3)]) hx hb d_Md_make_54 hl (by decide) rfl (fun ls hl => ?_)
      refine lv_iload hx hb d_Md_make_56 (lv_at hl 0 rfl) ?_
      refine lv_if_ge (tgt := 63) hx hb d_Md_make_58 (by decide) (fun c9 => ?_) (fun c9 => ?_)
      · replace Hf := sq_ite_t Hf c9
        refine lv_aload_n hx hb d_Md_make_63 rfl (lv_at hl 1 rfl) ?_
        refine lv_iload hx hb d_Md_make_64 (lv_at hl 0 rfl) ?_
        refine lv_iload_n hx hb d_Md_make_66 rfl (lv_at hl 2 rfl) ?_
        obtain ⟨y10, y11, b12, b13, b14, hc15, Hf⟩ := sq_cb5_e Hf
        refine sq_rwv (wn := (ww_Md_make qt qt_block qt_blocks qt_bytes qt_checkBytes qt_data qt_fixed qt_generator qt_modes qt_modules qt_segmentLengths qt_segmentModes qt_takes qt_tells qt_words qt_tried qt_values qt_system qt_solved qt_places qt_readBytes qt_readings ct_block ct_blocks ct_bytes ct_checkBytes ct_data ct_fixed ct_generator ct_modes ct_modules ct_segmentLengths ct_segmentModes ct_takes ct_tells ct_words x1 vt_length vt_version vt_side vt_made y10 y5 y11 vt_readLength vt_at vt_all vt_fault vt_good vt_block vt_blocks b12 vt_checkBytes vt_data vt_fixed vt_generator b6 vt_modules b13 b14 b7 vt_tells vt_words)) (va_runV (As := [.int r4, .int p1]) (rest := []) ⟨hx, hb, hml, hown, ht⟩ (kt_Md_layAll l dC dI qt qt_blocks qt_bytes qt_checkBytes qt_data qt_modes qt_segmentLengths qt_segmentModes qt_modules qt_fixed qt_tells qt_takes qt_words qt_block qt_tried qt_values qt_system qt_solved qt_places qt_generator qt_readBytes qt_readings ct_blocks ct_bytes ct_checkBytes ct_data ct_modes ct_segmentLengths ct_segmentModes x1 vt_length vt_version vt_side vt_made vt_segments y5 vt_filled vt_readLength vt_at vt_all vt_fault vt_good vt_blocks vt_bytes vt_checkBytes vt_data b6 vt_segmentLengths vt_segmentModes r4 p1 H.size n0 y10 y11 b12 b13 b14 hc15) (cwV 2 ht (sq_gV tb_1247 tb_1249 sl_39 tb_11 tb_1250) rfl rfl rfl (by decide +kernel) ⟨Nat.le_of_ble_eq_true rfl, Nat.le_of_ble_eq_true rfl⟩) (sq_rwV (hP.sub (ws' := (ww_Md_layAll qt qt_blocks qt_bytes qt_checkBytes qt_data qt_modes qt_segmentLengths qt_segmentModes qt_modules qt_fixed qt_tells qt_takes qt_words qt_block qt_tried qt_values qt_system qt_solved qt_places qt_generator qt_readBytes qt_readings ct_blocks ct_bytes ct_checkBytes ct_data ct_modes ct_segmentLengths ct_segmentModes x1 vt_length vt_version vt_side vt_made vt_segments y5 vt_filled vt_readLength vt_at vt_all vt_fault vt_good vt_blocks vt_bytes vt_checkBytes vt_data b6 vt_segmentLengths vt_segmentModes)) [0, 2, 3, 4, 5, 8, 10, 11] rfl) (hK.sub (tys' := [(ct_blocks, .int), (ct_bytes, .int), (ct_checkBytes, .int), (ct_data, .int), (ct_modes, .int), (ct_segmentLengths, .int), (ct_segmentModes, .int)]) [1, 2, 3, 4, 7, 9, 10] rfl) (hD.sub (ws' := (ww_Md_layAll qt qt_blocks qt_bytes qt_checkBytes qt_data qt_modes qt_segmentLengths qt_segmentModes qt_modules qt_fixed qt_tells qt_takes qt_words qt_block qt_tried qt_values qt_system qt_solved qt_places qt_generator qt_readBytes qt_readings ct_blocks ct_bytes ct_checkBytes ct_data ct_modes ct_segmentLengths ct_segmentModes x1 vt_length vt_version vt_side vt_made vt_segments y5 vt_filled vt_readLength vt_at vt_all vt_fault vt_good vt_blocks vt_bytes vt_checkBytes vt_data b6 vt_segmentLengths vt_segmentModes)) [0, 2, 3, 4, 5, 8, 10, 11] (by decide) rfl) (va_recv hK hP (ci := 10) (q0 := 0) rfl rfl)) rfl rfl hl.1 rfl (lv_room (Nat.le_of_ble_eq_true rfl)) d_Md_make_67 ⟨Nat.le_of_ble_eq_true rfl, Nat.le_of_ble_eq_true rfl⟩) hP hD hS hA [0, 2, 3, 4, 5, 8, 10, 11] [1, 6, 7, 9, 12, 13, 14] [7, 0, 8, 9, 10, 11, 1, 2, 12, 3, 13, 14, 4, 5, 6] rfl rfl (by decide) (by decide) rfl (by decide) (fun H locs hP hD hS => ?_)
        refine lv_aload_n hx hb d_Md_make_70 rfl (lv_at hl 1 rfl) ?_
        refine lv_iload hx hb d_Md_make_71 (lv_at hl 0 rfl) ?_
        refine lv_iload_n hx hb d_Md_make_73 rfl (lv_at hl 2 rfl) ?_
        obtain ⟨b16, b17, b18, hc19, Hf⟩ := sq_cb3_e Hf
        refine sq_rwv (wn := (ww_Md_make qt qt_block qt_blocks qt_bytes qt_checkBytes qt_data qt_fixed qt_generator qt_modes qt_modules qt_segmentLengths qt_segmentModes qt_takes qt_tells qt_words qt_tried qt_values qt_system qt_solved qt_places qt_readBytes qt_readings ct_block ct_blocks ct_bytes ct_checkBytes ct_data ct_fixed ct_generator ct_modes ct_modules ct_segmentLengths ct_segmentModes ct_takes ct_tells ct_words x1 vt_length vt_version vt_side vt_made y10 y5 y11 vt_readLength vt_at vt_all vt_fault vt_good b16 vt_blocks b12 vt_checkBytes vt_data vt_fixed b17 b6 vt_modules b13 b14 b7 vt_tells b18)) (va_runV (As := [.int r4, .int p1]) (rest := []) ⟨hx, hb, hml, hown, ht⟩ (kt_Md_check l dC dI qt qt_block qt_blocks qt_bytes qt_checkBytes qt_generator qt_words qt_data qt_modules qt_fixed qt_tells qt_segmentModes qt_segmentLengths qt_modes qt_takes qt_tried qt_values qt_system qt_solved qt_places qt_readBytes qt_readings ct_block ct_blocks ct_bytes ct_checkBytes ct_generator ct_words x1 vt_length vt_version vt_side vt_made y10 y5 y11 vt_readLength vt_at vt_all vt_fault vt_good vt_block vt_blocks b12 vt_checkBytes vt_generator vt_words r4 p1 H.size n0 b16 b17 b18 hc19) (cwV 2 ht (sq_gV tb_1259 tb_1261 sl_42 tb_11 tb_1262) rfl rfl rfl (by decide +kernel) ⟨Nat.le_of_ble_eq_true rfl, Nat.le_of_ble_eq_true rfl⟩) (sq_rwV (hP.sub (ws' := (ww_Md_check qt qt_block qt_blocks qt_bytes qt_checkBytes qt_generator qt_words qt_data qt_modules qt_fixed qt_tells qt_segmentModes qt_segmentLengths qt_modes qt_takes qt_tried qt_values qt_system qt_solved qt_places qt_readBytes qt_readings ct_block ct_blocks ct_bytes ct_checkBytes ct_generator ct_words x1 vt_length vt_version vt_side vt_made y10 y5 y11 vt_readLength vt_at vt_all vt_fault vt_good vt_block vt_blocks b12 vt_checkBytes vt_generator vt_words)) [0, 1, 2, 3, 4, 7, 14] rfl) (hK.sub (tys' := [(ct_block, .int), (ct_blocks, .int), (ct_bytes, .int), (ct_checkBytes, .int), (ct_generator, .int), (ct_words, .int)]) [0, 1, 2, 3, 6, 13] rfl) (hD.sub (ws' := (ww_Md_check qt qt_block qt_blocks qt_bytes qt_checkBytes qt_generator qt_words qt_data qt_modules qt_fixed qt_tells qt_segmentModes qt_segmentLengths qt_modes qt_takes qt_tried qt_values qt_system qt_solved qt_places qt_readBytes qt_readings ct_block ct_blocks ct_bytes ct_checkBytes ct_generator ct_words x1 vt_length vt_version vt_side vt_made y10 y5 y11 vt_readLength vt_at vt_all vt_fault vt_good vt_block vt_blocks b12 vt_checkBytes vt_generator vt_words)) [0, 1, 2, 3, 4, 7, 14] (by decide) rfl) (va_recv hK hP (ci := 10) (q0 := 0) rfl rfl)) rfl rfl hl.1 rfl (lv_room (Nat.le_of_ble_eq_true rfl)) d_Md_make_74 ⟨Nat.le_of_ble_eq_true rfl, Nat.le_of_ble_eq_true rfl⟩) hP hD hS hA [0, 1, 2, 3, 4, 7, 14] [5, 6, 8, 9, 10, 11, 12, 13] [8, 9, 10, 11, 12, 0, 1, 13, 2, 3, 4, 5, 6, 7, 14] rfl rfl (by decide) (by decide) rfl (by decide) (fun H locs hP hD hS => ?_)
        refine lv_aload_n hx hb d_Md_make_77 rfl (lv_at hl 1 rfl) ?_
        refine lv_iload hx hb d_Md_make_78 (lv_at hl 0 rfl) ?_
        refine va_put (D := (dC, dI)) (ci := 10) (v := .int r4) (ty := .int) (C := R_Md) (T := F_Md) (N := 34) hx hb ht i_Md t_Md t_Md_ok n_Md hown hK hP hD hS 0 rfl rfl 7 (by decide) (ht _ tb_1069) (fun _ h9 => h9) rfl (by decide +kernel) rfl rfl (Nat.le_of_ble_eq_true rfl) d_Md_make_80 (fun H locs hP hD hS => ?_)
        replace hP : va_P (dC, dI) cl_All (ww_Md_make qt qt_block qt_blocks qt_bytes qt_checkBytes qt_data qt_fixed qt_generator qt_modes qt_modules qt_segmentLengths qt_segmentModes qt_takes qt_tells qt_words qt_tried qt_values qt_system qt_solved qt_places qt_readBytes qt_readings ct_block ct_blocks ct_bytes ct_checkBytes ct_data ct_fixed ct_generator ct_modes ct_modules ct_segmentLengths ct_segmentModes ct_takes ct_tells ct_words x1 vt_length r4 vt_side vt_made y10 y5 y11 vt_readLength vt_at vt_all vt_fault vt_good b16 vt_blocks b12 vt_checkBytes vt_data vt_fixed b17 b6 vt_modules b13 b14 b7 vt_tells b18) H := hP
        replace hD : va_D A (ww_Md_make qt qt_block qt_blocks qt_bytes qt_checkBytes qt_data qt_fixed qt_generator qt_modes qt_modules qt_segmentLengths qt_segmentModes qt_takes qt_tells qt_words qt_tried qt_values qt_system qt_solved qt_places qt_readBytes qt_readings ct_block ct_blocks ct_bytes ct_checkBytes ct_data ct_fixed ct_generator ct_modes ct_modules ct_segmentLengths ct_segmentModes ct_takes ct_tells ct_words x1 vt_length r4 vt_side vt_made y10 y5 y11 vt_readLength vt_at vt_all vt_fault vt_good b16 vt_blocks b12 vt_checkBytes vt_data vt_fixed b17 b6 vt_modules b13 b14 b7 vt_tells b18) := hD
        refine lv_aload_n hx hb d_Md_make_83 rfl (lv_at hl 1 rfl) ?_
        refine lv_iload hx hb d_Md_make_84 (lv_at hl 0 rfl) ?_
        obtain ⟨y20, b21, b22, hc23, Hf⟩ := sq_cb3_e Hf
        refine sq_rwv (wn := (ww_Md_make qt qt_block qt_blocks qt_bytes qt_checkBytes qt_data qt_fixed qt_generator qt_modes qt_modules qt_segmentLengths qt_segmentModes qt_takes qt_tells qt_words qt_tried qt_values qt_system qt_solved qt_places qt_readBytes qt_readings ct_block ct_blocks ct_bytes ct_checkBytes ct_data ct_fixed ct_generator ct_modes ct_modules ct_segmentLengths ct_segmentModes ct_takes ct_tells ct_words x1 vt_length r4 y20 vt_made y10 y5 y11 vt_readLength vt_at vt_all vt_fault vt_good b16 vt_blocks b12 vt_checkBytes vt_data b21 b17 b6 b22 b13 b14 b7 vt_tells b18)) (va_runV (As := [.int r4]) (rest := []) ⟨hx, hb, hml, hown, ht⟩ (kt_Md_frame l dC dI qt qt_fixed qt_modules qt_checkBytes qt_blocks qt_data qt_tells qt_segmentModes qt_segmentLengths qt_modes qt_takes qt_bytes qt_words qt_block qt_tried qt_values qt_system qt_solved qt_places qt_generator qt_readBytes qt_readings ct_fixed ct_modules x1 vt_length r4 vt_side vt_made y10 y5 y11 vt_readLength vt_at vt_all vt_fault vt_good vt_fixed vt_modules r4 H.size n0 y20 b21 b22 hc23) (cwV 1 ht (sq_gV tb_1285 tb_1287 sl_47 tb_11 tb_1288) rfl rfl rfl (by decide +kernel) ⟨Nat.le_of_ble_eq_true rfl, Nat.le_of_ble_eq_true rfl⟩) (sq_rwV (hP.sub (ws' := (ww_Md_frame qt qt_fixed qt_modules qt_checkBytes qt_blocks qt_data qt_tells qt_segmentModes qt_segmentLengths qt_modes qt_takes qt_bytes qt_words qt_block qt_tried qt_values qt_system qt_solved qt_places qt_generator qt_readBytes qt_readings ct_fixed ct_modules x1 vt_length r4 vt_side vt_made y10 y5 y11 vt_readLength vt_at vt_all vt_fault vt_good vt_fixed vt_modules)) [0, 6, 9] rfl) (hK.sub (tys' := [(ct_fixed, .int), (ct_modules, .int)]) [5, 8] rfl) (hD.sub (ws' := (ww_Md_frame qt qt_fixed qt_modules qt_checkBytes qt_blocks qt_data qt_tells qt_segmentModes qt_segmentLengths qt_modes qt_takes qt_bytes qt_words qt_block qt_tried qt_values qt_system qt_solved qt_places qt_generator qt_readBytes qt_readings ct_fixed ct_modules x1 vt_length r4 vt_side vt_made y10 y5 y11 vt_readLength vt_at vt_all vt_fault vt_good vt_fixed vt_modules)) [0, 6, 9] (by decide) rfl) (va_recv hK hP (ci := 10) (q0 := 0) rfl rfl)) rfl rfl hl.1 rfl (lv_room (Nat.le_of_ble_eq_true rfl)) d_Md_make_86 ⟨Nat.le_of_ble_eq_true rfl, Nat.le_of_ble_eq_true rfl⟩) hP hD hS hA [0, 6, 9] [1, 2, 3, 4, 5, 7, 8, 10, 11, 12, 13, 14] [12, 0, 1, 2, 3, 4, 13, 5, 6, 14, 7, 8, 9, 10, 11] rfl rfl (by decide) (by decide) rfl (by decide) (fun H locs hP hD hS => ?_)
        refine lv_iload hx hb d_Md_make_89 (lv_at hl 0 rfl) ?_
        obtain ⟨r24, hc25, Hf⟩ := sq_cb1_e Hf
        refine sq_roi (va_runS (As := [.int r4]) (rest := []) ⟨hx, hb, hml, hown, ht⟩ (kt_Md_allCodewords l dC dI r4 r24 hc25) (va_cwS 1 ht (sq_gS tb_1236 tb_1237 tb_11 tb_1238) rfl rfl rfl (by decide +kernel) ⟨Nat.le_of_ble_eq_true rfl, Nat.le_of_ble_eq_true rfl⟩) (sq_roS (hP.sub (ws' := ([] : va_W)) [] rfl) (hK.sub (tys' := []) [] rfl)) rfl rfl hl.1 rfl (lv_room (Nat.le_of_ble_eq_true rfl)) d_Md_make_91 ⟨Nat.le_of_ble_eq_true rfl, Nat.le_of_ble_eq_true rfl⟩) ?_
        refine lv_istore (lv' := [(5, .int r24), (4, .int r4), (0, .ref qt), (1, .int p1), (2, .int p2), (3, .int p3)]) hx hb d_Md_make_94 hl (by decide) rfl (fun ls hl => ?_)
        refine lv_iload_n hx hb d_Md_make_96 rfl (lv_at hl 5 rfl) ?_
        refine lv_istore (lv' := [(6, .int p3), (5, .int r24), (4, .int r4), (0, .ref qt), (1, .int p1), (2, .int p2), (3, .int p3)]) hx hb d_Md_make_97 hl (by decide) rfl (fun ls hl => ?_)
        refine lv_iconst (v := (-1 : Int32)) hx hb d_Md_make_99 (by decide) ?_
        refine lv_istore (lv' := [(7, .int (-1 : Int32)), (6, .int p3), (5, .int r24), (4, .int r4), (0, .ref qt), (1, .int p1), (2, .int p2), (3, .int p3)]) hx hb d_Md_make_100 hl (by decide) rfl (fun ls hl => ?_)
        refine lv_iconst (v := (0 : Int32)) hx hb d_Md_make_102 (by decide) ?_
        refine lv_istore (lv' := [(8, .int (0 : Int32)), (7, .int (-1 : Int32)), (6, .int p3), (5, .int r24), (4, .int r4), (0, .ref qt), (1, .int p1), (2, .int p2), (3, .int p3)]) hx hb d_Md_make_103 hl (by decide) rfl (fun ls hl => ?_)
        obtain ⟨k31, hk31, Hf⟩ := sq_jn_e Hf
        have Jk31 : ∀ (x26 : Int32) (x27 : Int32) (b28 : Nat → Int32) (b29 : Nat → Int32) (b30 : Nat → Int32), k31 x26 x27 b28 b29 b30 = some (r0, nvt_thrown, nvt_version, nvt_side, nvt_made, nvt_segments, nvt_bits, nvt_filled, nvt_block, nvt_bytes, nvt_fixed, nvt_generator, nvt_modes, nvt_modules, nvt_segmentLengths, nvt_segmentModes, nvt_takes, nvt_tells, nvt_words) → ∀ (H : Heap) (locs : List Loc), va_P (dC, dI) cl_All (ww_Md_make qt qt_block qt_blocks qt_bytes qt_checkBytes qt_data qt_fixed qt_generator qt_modes qt_modules qt_segmentLengths qt_segmentModes qt_takes qt_tells qt_words qt_tried qt_values qt_system qt_solved qt_places qt_readBytes qt_readings ct_block ct_blocks ct_bytes ct_checkBytes ct_data ct_fixed ct_generator ct_modes ct_modules ct_segmentLengths ct_segmentModes ct_takes ct_tells ct_words x1 vt_length r4 y20 vt_made y10 y5 y11 vt_readLength vt_at vt_all vt_fault vt_good b16 vt_blocks b12 vt_checkBytes vt_data b28 b17 b6 b29 b13 b14 b7 vt_tells b30) H → va_D A (ww_Md_make qt qt_block qt_blocks qt_bytes qt_checkBytes qt_data qt_fixed qt_generator qt_modes qt_modules qt_segmentLengths qt_segmentModes qt_takes qt_tells qt_words qt_tried qt_values qt_system qt_solved qt_places qt_readBytes qt_readings ct_block ct_blocks ct_bytes ct_checkBytes ct_data ct_fixed ct_generator ct_modes ct_modules ct_segmentLengths ct_segmentModes ct_takes ct_tells ct_words x1 vt_length r4 y20 vt_made y10 y5 y11 vt_readLength vt_at vt_all vt_fault vt_good b16 vt_blocks b12 vt_checkBytes vt_data b28 b17 b6 b29 b13 b14 b7 vt_tells b30) → va_S A s.heap H locs → ∀ ls : Array Slot, lv_has ls 10 [(0, .ref qt), (1, .int p1), (4, .int r4), (5, .int r24), (6, .int x26), (7, .int x27)] → W p l e (headSpec w_Md_make rm_Md_make).room s m (([.ref qt, .int p1, .int p2, .int p3] : List Value).toArray) below meth c H locs 0 0 (MQ below (qc_Md_make dC dI A r0 qt qt_block qt_blocks qt_bytes qt_checkBytes qt_data qt_fixed qt_generator qt_modes qt_modules qt_segmentLengths qt_segmentModes qt_takes qt_tells qt_words qt_tried qt_values qt_system qt_solved qt_places qt_readBytes qt_readings ct_block ct_blocks ct_bytes ct_checkBytes ct_data ct_fixed ct_generator ct_modes ct_modules ct_segmentLengths ct_segmentModes ct_takes ct_tells ct_words nvt_thrown vt_length nvt_version nvt_side nvt_made nvt_segments nvt_bits nvt_filled vt_readLength vt_at vt_all vt_fault vt_good nvt_block vt_blocks nvt_bytes vt_checkBytes vt_data nvt_fixed nvt_generator nvt_modes nvt_modules nvt_segmentLengths nvt_segmentModes nvt_takes nvt_tells nvt_words) (([.ref qt, .int p1, .int p2, .int p3] : List Value).toArray) s 0 0 A) (F0 m 173 ls []) := by
          intro x26 x27 b28 b29 b30 Hf H locs  hP hD hS ls hl
          rw [hk31] at Hf
          refine lv_aload_n hx hb d_Md_make_173 rfl (lv_at hl 0 rfl) ?_
          refine lv_iload_n hx hb d_Md_make_174 rfl (lv_at hl 1 rfl) ?_
          refine lv_iload hx hb d_Md_make_175 (lv_at hl 4 rfl) ?_
          obtain ⟨r32, hc33, Hf⟩ := sq_cb1_e Hf
          refine sq_roi (va_runS (As := [.int p1, .int x26]) (rest := [.ref qt]) ⟨hx, hb, hml, hown, ht⟩ (kt_Md_formNumber l dC dI p1 x26 r32 hc33) (va_cwS 2 ht (sq_gS tb_1326 tb_1327 tb_11 tb_1328) rfl rfl rfl (by decide +kernel) ⟨Nat.le_of_ble_eq_true rfl, Nat.le_of_ble_eq_true rfl⟩) (sq_roS (hP.sub (ws' := ([] : va_W)) [] rfl) (hK.sub (tys' := []) [] rfl)) rfl rfl hl.1 rfl (lv_room (Nat.le_of_ble_eq_true rfl)) d_Md_make_177 ⟨Nat.le_of_ble_eq_true rfl, Nat.le_of_ble_eq_true rfl⟩) ?_
          obtain ⟨b34, b35, hc36, Hf⟩ := sq_cb2_e Hf
          refine sq_rwv (wn := (ww_Md_make qt qt_block qt_blocks qt_bytes qt_checkBytes qt_data qt_fixed qt_generator qt_modes qt_modules qt_segmentLengths qt_segmentModes qt_takes qt_tells qt_words qt_tried qt_values qt_system qt_solved qt_places qt_readBytes qt_readings ct_block ct_blocks ct_bytes ct_checkBytes ct_data ct_fixed ct_generator ct_modes ct_modules ct_segmentLengths ct_segmentModes ct_takes ct_tells ct_words x1 vt_length r4 y20 vt_made y10 y5 y11 vt_readLength vt_at vt_all vt_fault vt_good b16 vt_blocks b12 vt_checkBytes vt_data b34 b17 b6 b35 b13 b14 b7 vt_tells b30)) (va_runV (As := [.int r32]) (rest := []) ⟨hx, hb, hml, hown, ht⟩ (kt_Md_layForm l dC dI qt qt_fixed qt_modules qt_checkBytes qt_blocks qt_data qt_tells qt_segmentModes qt_segmentLengths qt_modes qt_takes qt_bytes qt_words qt_block qt_tried qt_values qt_system qt_solved qt_places qt_generator qt_readBytes qt_readings ct_fixed ct_modules x1 vt_length r4 y20 vt_made y10 y5 y11 vt_readLength vt_at vt_all vt_fault vt_good b28 b29 r32 H.size n0 b34 b35 hc36) (cwV 1 ht (sq_gV tb_1310 tb_1312 sl_51 tb_11 tb_1313) rfl rfl rfl (by decide +kernel) ⟨Nat.le_of_ble_eq_true rfl, Nat.le_of_ble_eq_true rfl⟩) (sq_rwV (hP.sub (ws' := (ww_Md_layForm qt qt_fixed qt_modules qt_checkBytes qt_blocks qt_data qt_tells qt_segmentModes qt_segmentLengths qt_modes qt_takes qt_bytes qt_words qt_block qt_tried qt_values qt_system qt_solved qt_places qt_generator qt_readBytes qt_readings ct_fixed ct_modules x1 vt_length r4 y20 vt_made y10 y5 y11 vt_readLength vt_at vt_all vt_fault vt_good b28 b29)) [0, 6, 9] rfl) (hK.sub (tys' := [(ct_fixed, .int), (ct_modules, .int)]) [5, 8] rfl) (hD.sub (ws' := (ww_Md_layForm qt qt_fixed qt_modules qt_checkBytes qt_blocks qt_data qt_tells qt_segmentModes qt_segmentLengths qt_modes qt_takes qt_bytes qt_words qt_block qt_tried qt_values qt_system qt_solved qt_places qt_generator qt_readBytes qt_readings ct_fixed ct_modules x1 vt_length r4 y20 vt_made y10 y5 y11 vt_readLength vt_at vt_all vt_fault vt_good b28 b29)) [0, 6, 9] (by decide) rfl) (va_recv hK hP (ci := 10) (q0 := 0) rfl rfl)) rfl rfl hl.1 rfl (lv_room (Nat.le_of_ble_eq_true rfl)) d_Md_make_180 ⟨Nat.le_of_ble_eq_true rfl, Nat.le_of_ble_eq_true rfl⟩) hP hD hS hA [0, 6, 9] [1, 2, 3, 4, 5, 7, 8, 10, 11, 12, 13, 14] [12, 0, 1, 2, 3, 4, 13, 5, 6, 14, 7, 8, 9, 10, 11] rfl rfl (by decide) (by decide) rfl (by decide) (fun H locs hP hD hS => ?_)
          refine lv_aload_n hx hb d_Md_make_183 rfl (lv_at hl 0 rfl) ?_
          refine lv_iload hx hb d_Md_make_184 (lv_at hl 4 rfl) ?_
          refine lv_iconst (v := (0 : Int32)) hx hb d_Md_make_186 (by decide) ?_
          refine lv_iload hx hb d_Md_make_187 (lv_at hl 3 rfl) ?_
          obtain ⟨b37, b38, hc39, Hf⟩ := sq_cb2_e Hf
          refine sq_rwv (wn := (ww_Md_make qt qt_block qt_blocks qt_bytes qt_checkBytes qt_data qt_fixed qt_generator qt_modes qt_modules qt_segmentLengths qt_segmentModes qt_takes qt_tells qt_words qt_tried qt_values qt_system qt_solved qt_places qt_readBytes qt_readings ct_block ct_blocks ct_bytes ct_checkBytes ct_data ct_fixed ct_generator ct_modes ct_modules ct_segmentLengths ct_segmentModes ct_takes ct_tells ct_words x1 vt_length r4 y20 vt_made y10 y5 y11 vt_readLength vt_at vt_all vt_fault vt_good b16 vt_blocks b12 vt_checkBytes vt_data b34 b17 b6 b37 b13 b14 b7 vt_tells b38)) (va_runV (As := [.int x26, .int (0 : Int32), .int r24]) (rest := []) ⟨hx, hb, hml, hown, ht⟩ (kt_Md_goThrough l dC dI qt qt_fixed qt_modules qt_words qt_checkBytes qt_blocks qt_data qt_tells qt_segmentModes qt_segmentLengths qt_modes qt_takes qt_bytes qt_block qt_tried qt_values qt_system qt_solved qt_places qt_generator qt_readBytes qt_readings ct_fixed ct_modules ct_words x1 vt_length r4 y20 vt_made y10 y5 y11 vt_readLength vt_at vt_all vt_fault vt_good b34 b35 b30 x26 (0 : Int32) r24 H.size n0 b37 b38 hc39) (cwV 3 ht (sq_gV tb_1329 tb_1331 sl_52 tb_11 tb_1332) rfl rfl rfl (by decide +kernel) ⟨Nat.le_of_ble_eq_true rfl, Nat.le_of_ble_eq_true rfl⟩) (sq_rwV (hP.sub (ws' := (ww_Md_goThrough qt qt_fixed qt_modules qt_words qt_checkBytes qt_blocks qt_data qt_tells qt_segmentModes qt_segmentLengths qt_modes qt_takes qt_bytes qt_block qt_tried qt_values qt_system qt_solved qt_places qt_generator qt_readBytes qt_readings ct_fixed ct_modules ct_words x1 vt_length r4 y20 vt_made y10 y5 y11 vt_readLength vt_at vt_all vt_fault vt_good b34 b35 b30)) [0, 6, 9, 14] rfl) (hK.sub (tys' := [(ct_fixed, .int), (ct_modules, .int), (ct_words, .int)]) [5, 8, 13] rfl) (hD.sub (ws' := (ww_Md_goThrough qt qt_fixed qt_modules qt_words qt_checkBytes qt_blocks qt_data qt_tells qt_segmentModes qt_segmentLengths qt_modes qt_takes qt_bytes qt_block qt_tried qt_values qt_system qt_solved qt_places qt_generator qt_readBytes qt_readings ct_fixed ct_modules ct_words x1 vt_length r4 y20 vt_made y10 y5 y11 vt_readLength vt_at vt_all vt_fault vt_good b34 b35 b30)) [0, 6, 9, 14] (by decide) rfl) (va_recv hK hP (ci := 10) (q0 := 0) rfl rfl)) rfl rfl hl.1 rfl (lv_room (Nat.le_of_ble_eq_true rfl)) d_Md_make_189 ⟨Nat.le_of_ble_eq_true rfl, Nat.le_of_ble_eq_true rfl⟩) hP hD hS hA [0, 6, 9, 14] [1, 2, 3, 4, 5, 7, 8, 10, 11, 12, 13] [11, 0, 1, 2, 3, 4, 12, 5, 6, 13, 7, 8, 9, 10, 14] rfl rfl (by decide) (by decide) rfl (by decide) (fun H locs hP hD hS => ?_)
          refine lv_aload_n hx hb d_Md_make_192 rfl (lv_at hl 0 rfl) ?_
          refine lv_iconst (v := (1 : Int32)) hx hb d_Md_make_193 (by decide) ?_
          refine va_put (D := (dC, dI)) (ci := 10) (v := .int (1 : Int32)) (ty := .boolean) (C := R_Md) (T := F_Md) (N := 34) hx hb ht i_Md t_Md t_Md_ok n_Md hown hK hP hD hS 0 rfl rfl 9 (by decide) (ht _ tb_1071) (fun _ h9 => h9) rfl (by decide +kernel) rfl rfl (Nat.le_of_ble_eq_true rfl) d_Md_make_194 (fun H locs hP hD hS => ?_)
          replace hP : va_P (dC, dI) cl_All (ww_Md_make qt qt_block qt_blocks qt_bytes qt_checkBytes qt_data qt_fixed qt_generator qt_modes qt_modules qt_segmentLengths qt_segmentModes qt_takes qt_tells qt_words qt_tried qt_values qt_system qt_solved qt_places qt_readBytes qt_readings ct_block ct_blocks ct_bytes ct_checkBytes ct_data ct_fixed ct_generator ct_modes ct_modules ct_segmentLengths ct_segmentModes ct_takes ct_tells ct_words x1 vt_length r4 y20 (1 : Int32) y10 y5 y11 vt_readLength vt_at vt_all vt_fault vt_good b16 vt_blocks b12 vt_checkBytes vt_data b34 b17 b6 b37 b13 b14 b7 vt_tells b38) H := hP
          replace hD : va_D A (ww_Md_make qt qt_block qt_blocks qt_bytes qt_checkBytes qt_data qt_fixed qt_generator qt_modes qt_modules qt_segmentLengths qt_segmentModes qt_takes qt_tells qt_words qt_tried qt_values qt_system qt_solved qt_places qt_readBytes qt_readings ct_block ct_blocks ct_bytes ct_checkBytes ct_data ct_fixed ct_generator ct_modes ct_modules ct_segmentLengths ct_segmentModes ct_takes ct_tells ct_words x1 vt_length r4 y20 (1 : Int32) y10 y5 y11 vt_readLength vt_at vt_all vt_fault vt_good b16 vt_blocks b12 vt_checkBytes vt_data b34 b17 b6 b37 b13 b14 b7 vt_tells b38) := hD
          refine lv_aload_n hx hb d_Md_make_197 rfl (lv_at hl 0 rfl) ?_
          refine va_get (D := (dC, dI)) (ci := 10) (v := .ref qt_tells) (C := R_Md) (T := F_Md) (N := 34) hx hb ht i_Md hown hK hP 0 rfl rfl 10 (by decide) (ht _ tb_1072) (fun _ h9 => h9) rfl d_Md_make_198 ?_
          refine lv_iconst (v := (0 : Int32)) hx hb d_Md_make_201 (by decide) ?_
          refine lv_iload hx hb d_Md_make_202 (lv_at hl 2 rfl) ?_
          obtain ⟨hi40, Hf⟩ := sq_gi_e Hf
          obtain ⟨b41, eb41, Hf⟩ := sq_bd_e Hf
          refine va_iast hx hb hK hP hD hS 13 12 rfl rfl hi40 d_Md_make_204 (fun H locs hP hD hS => ?_)
          rw [← eb41] at hP hD
          replace hP : va_P (dC, dI) cl_All (ww_Md_make qt qt_block qt_blocks qt_bytes qt_checkBytes qt_data qt_fixed qt_generator qt_modes qt_modules qt_segmentLengths qt_segmentModes qt_takes qt_tells qt_words qt_tried qt_values qt_system qt_solved qt_places qt_readBytes qt_readings ct_block ct_blocks ct_bytes ct_checkBytes ct_data ct_fixed ct_generator ct_modes ct_modules ct_segmentLengths ct_segmentModes ct_takes ct_tells ct_words x1 vt_length r4 y20 (1 : Int32) y10 y5 y11 vt_readLength vt_at vt_all vt_fault vt_good b16 vt_blocks b12 vt_checkBytes vt_data b34 b17 b6 b37 b13 b14 b7 b41 b38) H := hP
          replace hD : va_D A (ww_Md_make qt qt_block qt_blocks qt_bytes qt_checkBytes qt_data qt_fixed qt_generator qt_modes qt_modules qt_segmentLengths qt_segmentModes qt_takes qt_tells qt_words qt_tried qt_values qt_system qt_solved qt_places qt_readBytes qt_readings ct_block ct_blocks ct_bytes ct_checkBytes ct_data ct_fixed ct_generator ct_modes ct_modules ct_segmentLengths ct_segmentModes ct_takes ct_tells ct_words x1 vt_length r4 y20 (1 : Int32) y10 y5 y11 vt_readLength vt_at vt_all vt_fault vt_good b16 vt_blocks b12 vt_checkBytes vt_data b34 b17 b6 b37 b13 b14 b7 b41 b38) := hD
          refine lv_aload_n hx hb d_Md_make_205 rfl (lv_at hl 0 rfl) ?_
          refine va_get (D := (dC, dI)) (ci := 10) (v := .ref qt_tells) (C := R_Md) (T := F_Md) (N := 34) hx hb ht i_Md hown hK hP 0 rfl rfl 10 (by decide) (ht _ tb_1072) (fun _ h9 => h9) rfl d_Md_make_206 ?_
          refine lv_iconst (v := (1 : Int32)) hx hb d_Md_make_209 (by decide) ?_
          refine lv_iload_n hx hb d_Md_make_210 rfl (lv_at hl 1 rfl) ?_
          obtain ⟨hi42, Hf⟩ := sq_gi_e Hf
          obtain ⟨b43, eb43, Hf⟩ := sq_bd_e Hf
          refine va_iast hx hb hK hP hD hS 13 12 rfl rfl hi42 d_Md_make_211 (fun H locs hP hD hS => ?_)
          rw [← eb43] at hP hD
          replace hP : va_P (dC, dI) cl_All (ww_Md_make qt qt_block qt_blocks qt_bytes qt_checkBytes qt_data qt_fixed qt_generator qt_modes qt_modules qt_segmentLengths qt_segmentModes qt_takes qt_tells qt_words qt_tried qt_values qt_system qt_solved qt_places qt_readBytes qt_readings ct_block ct_blocks ct_bytes ct_checkBytes ct_data ct_fixed ct_generator ct_modes ct_modules ct_segmentLengths ct_segmentModes ct_takes ct_tells ct_words x1 vt_length r4 y20 (1 : Int32) y10 y5 y11 vt_readLength vt_at vt_all vt_fault vt_good b16 vt_blocks b12 vt_checkBytes vt_data b34 b17 b6 b37 b13 b14 b7 b43 b38) H := hP
          replace hD : va_D A (ww_Md_make qt qt_block qt_blocks qt_bytes qt_checkBytes qt_data qt_fixed qt_generator qt_modes qt_modules qt_segmentLengths qt_segmentModes qt_takes qt_tells qt_words qt_tried qt_values qt_system qt_solved qt_places qt_readBytes qt_readings ct_block ct_blocks ct_bytes ct_checkBytes ct_data ct_fixed ct_generator ct_modes ct_modules ct_segmentLengths ct_segmentModes ct_takes ct_tells ct_words x1 vt_length r4 y20 (1 : Int32) y10 y5 y11 vt_readLength vt_at vt_all vt_fault vt_good b16 vt_blocks b12 vt_checkBytes vt_data b34 b17 b6 b37 b13 b14 b7 b43 b38) := hD
          refine lv_aload_n hx hb d_Md_make_212 rfl (lv_at hl 0 rfl) ?_
          refine va_get (D := (dC, dI)) (ci := 10) (v := .ref qt_tells) (C := R_Md) (T := F_Md) (N := 34) hx hb ht i_Md hown hK hP 0 rfl rfl 10 (by decide) (ht _ tb_1072) (fun _ h9 => h9) rfl d_Md_make_213 ?_
          refine lv_iconst (v := (2 : Int32)) hx hb d_Md_make_216 (by decide) ?_
          refine lv_iload hx hb d_Md_make_217 (lv_at hl 4 rfl) ?_
          obtain ⟨hi44, Hf⟩ := sq_gi_e Hf
          obtain ⟨b45, eb45, Hf⟩ := sq_bd_e Hf
          refine va_iast hx hb hK hP hD hS 13 12 rfl rfl hi44 d_Md_make_219 (fun H locs hP hD hS => ?_)
          rw [← eb45] at hP hD
          replace hP : va_P (dC, dI) cl_All (ww_Md_make qt qt_block qt_blocks qt_bytes qt_checkBytes qt_data qt_fixed qt_generator qt_modes qt_modules qt_segmentLengths qt_segmentModes qt_takes qt_tells qt_words qt_tried qt_values qt_system qt_solved qt_places qt_readBytes qt_readings ct_block ct_blocks ct_bytes ct_checkBytes ct_data ct_fixed ct_generator ct_modes ct_modules ct_segmentLengths ct_segmentModes ct_takes ct_tells ct_words x1 vt_length r4 y20 (1 : Int32) y10 y5 y11 vt_readLength vt_at vt_all vt_fault vt_good b16 vt_blocks b12 vt_checkBytes vt_data b34 b17 b6 b37 b13 b14 b7 b45 b38) H := hP
          replace hD : va_D A (ww_Md_make qt qt_block qt_blocks qt_bytes qt_checkBytes qt_data qt_fixed qt_generator qt_modes qt_modules qt_segmentLengths qt_segmentModes qt_takes qt_tells qt_words qt_tried qt_values qt_system qt_solved qt_places qt_readBytes qt_readings ct_block ct_blocks ct_bytes ct_checkBytes ct_data ct_fixed ct_generator ct_modes ct_modules ct_segmentLengths ct_segmentModes ct_takes ct_tells ct_words x1 vt_length r4 y20 (1 : Int32) y10 y5 y11 vt_readLength vt_at vt_all vt_fault vt_good b16 vt_blocks b12 vt_checkBytes vt_data b34 b17 b6 b37 b13 b14 b7 b45 b38) := hD
          refine lv_aload_n hx hb d_Md_make_220 rfl (lv_at hl 0 rfl) ?_
          refine va_get (D := (dC, dI)) (ci := 10) (v := .ref qt_tells) (C := R_Md) (T := F_Md) (N := 34) hx hb ht i_Md hown hK hP 0 rfl rfl 10 (by decide) (ht _ tb_1072) (fun _ h9 => h9) rfl d_Md_make_221 ?_
          refine lv_iconst (v := (3 : Int32)) hx hb d_Md_make_224 (by decide) ?_
          refine lv_iload hx hb d_Md_make_225 (lv_at hl 5 rfl) ?_
          obtain ⟨hi46, Hf⟩ := sq_gi_e Hf
          obtain ⟨b47, eb47, Hf⟩ := sq_bd_e Hf
          refine va_iast hx hb hK hP hD hS 13 12 rfl rfl hi46 d_Md_make_227 (fun H locs hP hD hS => ?_)
          rw [← eb47] at hP hD
          replace hP : va_P (dC, dI) cl_All (ww_Md_make qt qt_block qt_blocks qt_bytes qt_checkBytes qt_data qt_fixed qt_generator qt_modes qt_modules qt_segmentLengths qt_segmentModes qt_takes qt_tells qt_words qt_tried qt_values qt_system qt_solved qt_places qt_readBytes qt_readings ct_block ct_blocks ct_bytes ct_checkBytes ct_data ct_fixed ct_generator ct_modes ct_modules ct_segmentLengths ct_segmentModes ct_takes ct_tells ct_words x1 vt_length r4 y20 (1 : Int32) y10 y5 y11 vt_readLength vt_at vt_all vt_fault vt_good b16 vt_blocks b12 vt_checkBytes vt_data b34 b17 b6 b37 b13 b14 b7 b47 b38) H := hP
          replace hD : va_D A (ww_Md_make qt qt_block qt_blocks qt_bytes qt_checkBytes qt_data qt_fixed qt_generator qt_modes qt_modules qt_segmentLengths qt_segmentModes qt_takes qt_tells qt_words qt_tried qt_values qt_system qt_solved qt_places qt_readBytes qt_readings ct_block ct_blocks ct_bytes ct_checkBytes ct_data ct_fixed ct_generator ct_modes ct_modules ct_segmentLengths ct_segmentModes ct_takes ct_tells ct_words x1 vt_length r4 y20 (1 : Int32) y10 y5 y11 vt_readLength vt_at vt_all vt_fault vt_good b16 vt_blocks b12 vt_checkBytes vt_data b34 b17 b6 b37 b13 b14 b7 b47 b38) := hD
          refine lv_aload_n hx hb d_Md_make_228 rfl (lv_at hl 0 rfl) ?_
          refine va_get (D := (dC, dI)) (ci := 10) (v := .ref qt_tells) (C := R_Md) (T := F_Md) (N := 34) hx hb ht i_Md hown hK hP 0 rfl rfl 10 (by decide) (ht _ tb_1072) (fun _ h9 => h9) rfl d_Md_make_229 ?_
          refine lv_iconst (v := (4 : Int32)) hx hb d_Md_make_232 (by decide) ?_
          refine lv_aload_n hx hb d_Md_make_233 rfl (lv_at hl 0 rfl) ?_
          refine va_get (D := (dC, dI)) (ci := 10) (v := .int y10) (C := R_Md) (T := F_Md) (N := 34) hx hb ht i_Md hown hK hP 0 rfl rfl 13 (by decide) (ht _ tb_1075) (fun _ h9 => h9) rfl d_Md_make_234 ?_
          obtain ⟨hi48, Hf⟩ := sq_gi_e Hf
          obtain ⟨b49, eb49, Hf⟩ := sq_bd_e Hf
          refine va_iast hx hb hK hP hD hS 13 12 rfl rfl hi48 d_Md_make_237 (fun H locs hP hD hS => ?_)
          rw [← eb49] at hP hD
          replace hP : va_P (dC, dI) cl_All (ww_Md_make qt qt_block qt_blocks qt_bytes qt_checkBytes qt_data qt_fixed qt_generator qt_modes qt_modules qt_segmentLengths qt_segmentModes qt_takes qt_tells qt_words qt_tried qt_values qt_system qt_solved qt_places qt_readBytes qt_readings ct_block ct_blocks ct_bytes ct_checkBytes ct_data ct_fixed ct_generator ct_modes ct_modules ct_segmentLengths ct_segmentModes ct_takes ct_tells ct_words x1 vt_length r4 y20 (1 : Int32) y10 y5 y11 vt_readLength vt_at vt_all vt_fault vt_good b16 vt_blocks b12 vt_checkBytes vt_data b34 b17 b6 b37 b13 b14 b7 b49 b38) H := hP
          replace hD : va_D A (ww_Md_make qt qt_block qt_blocks qt_bytes qt_checkBytes qt_data qt_fixed qt_generator qt_modes qt_modules qt_segmentLengths qt_segmentModes qt_takes qt_tells qt_words qt_tried qt_values qt_system qt_solved qt_places qt_readBytes qt_readings ct_block ct_blocks ct_bytes ct_checkBytes ct_data ct_fixed ct_generator ct_modes ct_modules ct_segmentLengths ct_segmentModes ct_takes ct_tells ct_words x1 vt_length r4 y20 (1 : Int32) y10 y5 y11 vt_readLength vt_at vt_all vt_fault vt_good b16 vt_blocks b12 vt_checkBytes vt_data b34 b17 b6 b37 b13 b14 b7 b49 b38) := hD
          refine lv_aload_n hx hb d_Md_make_238 rfl (lv_at hl 0 rfl) ?_
          refine va_get (D := (dC, dI)) (ci := 10) (v := .ref qt_tells) (C := R_Md) (T := F_Md) (N := 34) hx hb ht i_Md hown hK hP 0 rfl rfl 10 (by decide) (ht _ tb_1072) (fun _ h9 => h9) rfl d_Md_make_239 ?_
          refine lv_iconst (v := (5 : Int32)) hx hb d_Md_make_242 (by decide) ?_
          refine lv_aload_n hx hb d_Md_make_243 rfl (lv_at hl 0 rfl) ?_
          refine va_get (D := (dC, dI)) (ci := 10) (v := .int y5) (C := R_Md) (T := F_Md) (N := 34) hx hb ht i_Md hown hK hP 0 rfl rfl 16 (by decide) (ht _ tb_1078) (fun _ h9 => h9) rfl d_Md_make_244 ?_
          obtain ⟨hi50, Hf⟩ := sq_gi_e Hf
          obtain ⟨b51, eb51, Hf⟩ := sq_bd_e Hf
          refine va_iast hx hb hK hP hD hS 13 12 rfl rfl hi50 d_Md_make_247 (fun H locs hP hD hS => ?_)
          rw [← eb51] at hP hD
          replace hP : va_P (dC, dI) cl_All (ww_Md_make qt qt_block qt_blocks qt_bytes qt_checkBytes qt_data qt_fixed qt_generator qt_modes qt_modules qt_segmentLengths qt_segmentModes qt_takes qt_tells qt_words qt_tried qt_values qt_system qt_solved qt_places qt_readBytes qt_readings ct_block ct_blocks ct_bytes ct_checkBytes ct_data ct_fixed ct_generator ct_modes ct_modules ct_segmentLengths ct_segmentModes ct_takes ct_tells ct_words x1 vt_length r4 y20 (1 : Int32) y10 y5 y11 vt_readLength vt_at vt_all vt_fault vt_good b16 vt_blocks b12 vt_checkBytes vt_data b34 b17 b6 b37 b13 b14 b7 b51 b38) H := hP
          replace hD : va_D A (ww_Md_make qt qt_block qt_blocks qt_bytes qt_checkBytes qt_data qt_fixed qt_generator qt_modes qt_modules qt_segmentLengths qt_segmentModes qt_takes qt_tells qt_words qt_tried qt_values qt_system qt_solved qt_places qt_readBytes qt_readings ct_block ct_blocks ct_bytes ct_checkBytes ct_data ct_fixed ct_generator ct_modes ct_modules ct_segmentLengths ct_segmentModes ct_takes ct_tells ct_words x1 vt_length r4 y20 (1 : Int32) y10 y5 y11 vt_readLength vt_at vt_all vt_fault vt_good b16 vt_blocks b12 vt_checkBytes vt_data b34 b17 b6 b37 b13 b14 b7 b51 b38) := hD
          refine lv_iload hx hb d_Md_make_248 (lv_at hl 2 rfl) ?_
          obtain ⟨rfl, rfl, rfl, rfl, rfl, rfl, rfl, rfl, rfl, rfl, rfl, rfl, rfl, rfl, rfl, rfl, rfl, rfl, rfl⟩ := sq_so19 Hf
          exact W.iret hx hb hr (fun t ht hW => ⟨⟨_, (), rfl, rfl, by rw [ht]; exact hP, hD⟩, hS.F ht⟩) hS.2.2 d_Md_make_250
        have L1 : ∀ (m1 : Nat), ∀ (x52 : Int32) (x53 : Int32) (x54 : Int32) (b55 : Nat → Int32) (b56 : Nat → Int32) (b57 : Nat → Int32), fn_Md_make_L1 p1 p3 n0 y20 r24 k31 m1 x52 x53 x54 b55 b56 b57 = some (r0, nvt_thrown, nvt_version, nvt_side, nvt_made, nvt_segments, nvt_bits, nvt_filled, nvt_block, nvt_bytes, nvt_fixed, nvt_generator, nvt_modes, nvt_modules, nvt_segmentLengths, nvt_segmentModes, nvt_takes, nvt_tells, nvt_words) → ∀ (H : Heap) (locs : List Loc), va_P (dC, dI) cl_All (ww_Md_make qt qt_block qt_blocks qt_bytes qt_checkBytes qt_data qt_fixed qt_generator qt_modes qt_modules qt_segmentLengths qt_segmentModes qt_takes qt_tells qt_words qt_tried qt_values qt_system qt_solved qt_places qt_readBytes qt_readings ct_block ct_blocks ct_bytes ct_checkBytes ct_data ct_fixed ct_generator ct_modes ct_modules ct_segmentLengths ct_segmentModes ct_takes ct_tells ct_words x1 vt_length r4 y20 vt_made y10 y5 y11 vt_readLength vt_at vt_all vt_fault vt_good b16 vt_blocks b12 vt_checkBytes vt_data b55 b17 b6 b56 b13 b14 b7 vt_tells b57) H → va_D A (ww_Md_make qt qt_block qt_blocks qt_bytes qt_checkBytes qt_data qt_fixed qt_generator qt_modes qt_modules qt_segmentLengths qt_segmentModes qt_takes qt_tells qt_words qt_tried qt_values qt_system qt_solved qt_places qt_readBytes qt_readings ct_block ct_blocks ct_bytes ct_checkBytes ct_data ct_fixed ct_generator ct_modes ct_modules ct_segmentLengths ct_segmentModes ct_takes ct_tells ct_words x1 vt_length r4 y20 vt_made y10 y5 y11 vt_readLength vt_at vt_all vt_fault vt_good b16 vt_blocks b12 vt_checkBytes vt_data b55 b17 b6 b56 b13 b14 b7 vt_tells b57) → va_S A s.heap H locs → ∀ ls : Array Slot, lv_has ls 10 [(0, .ref qt), (1, .int p1), (3, .int p3), (4, .int r4), (5, .int r24), (6, .int x52), (7, .int x53), (8, .int x54)] → W p l e (headSpec w_Md_make rm_Md_make).room s m (([.ref qt, .int p1, .int p2, .int p3] : List Value).toArray) below meth c H locs 0 0 (MQ below (qc_Md_make dC dI A r0 qt qt_block qt_blocks qt_bytes qt_checkBytes qt_data qt_fixed qt_generator qt_modes qt_modules qt_segmentLengths qt_segmentModes qt_takes qt_tells qt_words qt_tried qt_values qt_system qt_solved qt_places qt_readBytes qt_readings ct_block ct_blocks ct_bytes ct_checkBytes ct_data ct_fixed ct_generator ct_modes ct_modules ct_segmentLengths ct_segmentModes ct_takes ct_tells ct_words nvt_thrown vt_length nvt_version nvt_side nvt_made nvt_segments nvt_bits nvt_filled vt_readLength vt_at vt_all vt_fault vt_good nvt_block vt_blocks nvt_bytes vt_checkBytes vt_data nvt_fixed nvt_generator nvt_modes nvt_modules nvt_segmentLengths nvt_segmentModes nvt_takes nvt_tells nvt_words) (([.ref qt, .int p1, .int p2, .int p3] : List Value).toArray) s 0 0 A) (F0 m 105 ls []) := by
          intro m1
          induction m1 with
          | zero => intro x52 x53 x54 b55 b56 b57 Hf; exact sq_none Hf
          | succ m1 ih1 =>
            intro x52 x53 x54 b55 b56 b57 Hf H locs  hP hD hS ls hl
            replace Hf := (fn_Md_make_L1_s p1 p3 n0 y20 r24 k31 m1 x52 x53 x54 b55 b56 b57).symm.trans Hf
            refine lv_iload hx hb d_Md_make_105 (lv_at hl 7 rfl) ?_
            refine lv_bipush (v := (8 : Int32)) hx hb d_Md_make_107 (by decide) ?_
            refine lv_icmp_ge (tgt := 173) hx hb d_Md_make_109 (by decide) (fun c58 => ?_) (fun c58 => ?_)
            · replace Hf := sq_ite_t Hf c58
              exact Jk31 x52 x53 b55 b56 b57 Hf _ _  hP hD hS _ (lv_sub hl [0, 1, 3, 4, 5, 6] rfl)
            · replace Hf := sq_ite_f Hf c58
              refine lv_iload_n hx hb d_Md_make_112 rfl (lv_at hl 2 rfl) ?_
              obtain ⟨k64, hk64, Hf⟩ := sq_jn_e Hf
              have Jk64 : ∀ (x59 : Int32) (x60 : Int32) (b61 : Nat → Int32) (b62 : Nat → Int32) (b63 : Nat → Int32), k64 x59 x60 b61 b62 b63 = some (r0, nvt_thrown, nvt_version, nvt_side, nvt_made, nvt_segments, nvt_bits, nvt_filled, nvt_block, nvt_bytes, nvt_fixed, nvt_generator, nvt_modes, nvt_modules, nvt_segmentLengths, nvt_segmentModes, nvt_takes, nvt_tells, nvt_words) → ∀ (H : Heap) (locs : List Loc), va_P (dC, dI) cl_All (ww_Md_make qt qt_block qt_blocks qt_bytes qt_checkBytes qt_data qt_fixed qt_generator qt_modes qt_modules qt_segmentLengths qt_segmentModes qt_takes qt_tells qt_words qt_tried qt_values qt_system qt_solved qt_places qt_readBytes qt_readings ct_block ct_blocks ct_bytes ct_checkBytes ct_data ct_fixed ct_generator ct_modes ct_modules ct_segmentLengths ct_segmentModes ct_takes ct_tells ct_words x1 vt_length r4 y20 vt_made y10 y5 y11 vt_readLength vt_at vt_all vt_fault vt_good b16 vt_blocks b12 vt_checkBytes vt_data b61 b17 b6 b62 b13 b14 b7 vt_tells b63) H → va_D A (ww_Md_make qt qt_block qt_blocks qt_bytes qt_checkBytes qt_data qt_fixed qt_generator qt_modes qt_modules qt_segmentLengths qt_segmentModes qt_takes qt_tells qt_words qt_tried qt_values qt_system qt_solved qt_places qt_readBytes qt_readings ct_block ct_blocks ct_bytes ct_checkBytes ct_data ct_fixed ct_generator ct_modes ct_modules ct_segmentLengths ct_segmentModes ct_takes ct_tells ct_words x1 vt_length r4 y20 vt_made y10 y5 y11 vt_readLength vt_at vt_all vt_fault vt_good b16 vt_blocks b12 vt_checkBytes vt_data b61 b17 b6 b62 b13 b14 b7 vt_tells b63) → va_S A s.heap H locs → ∀ ls : Array Slot, lv_has ls 10 [(0, .ref qt), (1, .int p1), (3, .int p3), (4, .int r4), (5, .int r24), (6, .int x59), (7, .int x60), (8, .int x54)] → W p l e (headSpec w_Md_make rm_Md_make).room s m (([.ref qt, .int p1, .int p2, .int p3] : List Value).toArray) below meth c H locs 0 0 (MQ below (qc_Md_make dC dI A r0 qt qt_block qt_blocks qt_bytes qt_checkBytes qt_data qt_fixed qt_generator qt_modes qt_modules qt_segmentLengths qt_segmentModes qt_takes qt_tells qt_words qt_tried qt_values qt_system qt_solved qt_places qt_readBytes qt_readings ct_block ct_blocks ct_bytes ct_checkBytes ct_data ct_fixed ct_generator ct_modes ct_modules ct_segmentLengths ct_segmentModes ct_takes ct_tells ct_words nvt_thrown vt_length nvt_version nvt_side nvt_made nvt_segments nvt_bits nvt_filled vt_readLength vt_at vt_all vt_fault vt_good nvt_block vt_blocks nvt_bytes vt_checkBytes vt_data nvt_fixed nvt_generator nvt_modes nvt_modules nvt_segmentLengths nvt_segmentModes nvt_takes nvt_tells nvt_words) (([.ref qt, .int p1, .int p2, .int p3] : List Value).toArray) s 0 0 A) (F0 m 167 ls []) := by
                intro x59 x60 b61 b62 b63 Hf H locs  hP hD hS ls hl
                rw [hk64] at Hf
                obtain ⟨x65, ex65, Hf⟩ := sq_bd_e Hf
                refine lv_iinc (v := x65) (lv' := [(8, .int x65), (0, .ref qt), (1, .int p1), (3, .int p3), (4, .int r4), (5, .int r24), (6, .int x59), (7, .int x60)]) hx hb d_Md_make_167 hl (k := 7) rfl (by rw [ex65]; rfl) (by decide) rfl (fun ls hl => ?_)
                refine lv_goto (tgt := 105) hx hb d_Md_make_170 (by decide) ?_
                exact ih1 x59 x60 x65 b61 b62 b63 Hf _ _  hP hD hS _ (lv_sub hl [1, 2, 3, 4, 5, 6, 7, 0] rfl)
              obtain ⟨k66, hk66, Hf⟩ := sq_jn_e Hf
              have Jk66 : ∀ (_u : Unit), k66 _u = some (r0, nvt_thrown, nvt_version, nvt_side, nvt_made, nvt_segments, nvt_bits, nvt_filled, nvt_block, nvt_bytes, nvt_fixed, nvt_generator, nvt_modes, nvt_modules, nvt_segmentLengths, nvt_segmentModes, nvt_takes, nvt_tells, nvt_words) → ∀ (H : Heap) (locs : List Loc), va_P (dC, dI) cl_All (ww_Md_make qt qt_block qt_blocks qt_bytes qt_checkBytes qt_data qt_fixed qt_generator qt_modes qt_modules qt_segmentLengths qt_segmentModes qt_takes qt_tells qt_words qt_tried qt_values qt_system qt_solved qt_places qt_readBytes qt_readings ct_block ct_blocks ct_bytes ct_checkBytes ct_data ct_fixed ct_generator ct_modes ct_modules ct_segmentLengths ct_segmentModes ct_takes ct_tells ct_words x1 vt_length r4 y20 vt_made y10 y5 y11 vt_readLength vt_at vt_all vt_fault vt_good b16 vt_blocks b12 vt_checkBytes vt_data b55 b17 b6 b56 b13 b14 b7 vt_tells b57) H → va_D A (ww_Md_make qt qt_block qt_blocks qt_bytes qt_checkBytes qt_data qt_fixed qt_generator qt_modes qt_modules qt_segmentLengths qt_segmentModes qt_takes qt_tells qt_words qt_tried qt_values qt_system qt_solved qt_places qt_readBytes qt_readings ct_block ct_blocks ct_bytes ct_checkBytes ct_data ct_fixed ct_generator ct_modes ct_modules ct_segmentLengths ct_segmentModes ct_takes ct_tells ct_words x1 vt_length r4 y20 vt_made y10 y5 y11 vt_readLength vt_at vt_all vt_fault vt_good b16 vt_blocks b12 vt_checkBytes vt_data b55 b17 b6 b56 b13 b14 b7 vt_tells b57) → va_S A s.heap H locs → ∀ ls : Array Slot, lv_has ls 10 [(0, .ref qt), (1, .int p1), (3, .int p3), (4, .int r4), (5, .int r24), (6, .int x52), (7, .int x53), (8, .int x54)] → W p l e (headSpec w_Md_make rm_Md_make).room s m (([.ref qt, .int p1, .int p2, .int p3] : List Value).toArray) below meth c H locs 0 0 (MQ below (qc_Md_make dC dI A r0 qt qt_block qt_blocks qt_bytes qt_checkBytes qt_data qt_fixed qt_generator qt_modes qt_modules qt_segmentLengths qt_segmentModes qt_takes qt_tells qt_words qt_tried qt_values qt_system qt_solved qt_places qt_readBytes qt_readings ct_block ct_blocks ct_bytes ct_checkBytes ct_data ct_fixed ct_generator ct_modes ct_modules ct_segmentLengths ct_segmentModes ct_takes ct_tells ct_words nvt_thrown vt_length nvt_version nvt_side nvt_made nvt_segments nvt_bits nvt_filled vt_readLength vt_at vt_all vt_fault vt_good nvt_block vt_blocks nvt_bytes vt_checkBytes vt_data nvt_fixed nvt_generator nvt_modes nvt_modules nvt_segmentLengths nvt_segmentModes nvt_takes nvt_tells nvt_words) (([.ref qt, .int p1, .int p2, .int p3] : List Value).toArray) s 0 0 A) (F0 m 122 ls []) := by
                intro _u Hf H locs  hP hD hS ls hl
                rw [hk66] at Hf
                refine lv_aload_n hx hb d_Md_make_122 rfl (lv_at hl 0 rfl) ?_
                refine lv_iload_n hx hb d_Md_make_123 rfl (lv_at hl 1 rfl) ?_
                refine lv_iload hx hb d_Md_make_124 (lv_at hl 7 rfl) ?_
                obtain ⟨r67, hc68, Hf⟩ := sq_cb1_e Hf
                refine sq_roi (va_runS (As := [.int p1, .int x54]) (rest := [.ref qt]) ⟨hx, hb, hml, hown, ht⟩ (kt_Md_formNumber l dC dI p1 x54 r67 hc68) (va_cwS 2 ht (sq_gS tb_1326 tb_1327 tb_11 tb_1328) rfl rfl rfl (by decide +kernel) ⟨Nat.le_of_ble_eq_true rfl, Nat.le_of_ble_eq_true rfl⟩) (sq_roS (hP.sub (ws' := ([] : va_W)) [] rfl) (hK.sub (tys' := []) [] rfl)) rfl rfl hl.1 rfl (lv_room (Nat.le_of_ble_eq_true rfl)) d_Md_make_126 ⟨Nat.le_of_ble_eq_true rfl, Nat.le_of_ble_eq_true rfl⟩) ?_
                obtain ⟨b69, b70, hc71, Hf⟩ := sq_cb2_e Hf
                refine sq_rwv (wn := (ww_Md_make qt qt_block qt_blocks qt_bytes qt_checkBytes qt_data qt_fixed qt_generator qt_modes qt_modules qt_segmentLengths qt_segmentModes qt_takes qt_tells qt_words qt_tried qt_values qt_system qt_solved qt_places qt_readBytes qt_readings ct_block ct_blocks ct_bytes ct_checkBytes ct_data ct_fixed ct_generator ct_modes ct_modules ct_segmentLengths ct_segmentModes ct_takes ct_tells ct_words x1 vt_length r4 y20 vt_made y10 y5 y11 vt_readLength vt_at vt_all vt_fault vt_good b16 vt_blocks b12 vt_checkBytes vt_data b69 b17 b6 b70 b13 b14 b7 vt_tells b57)) (va_runV (As := [.int r67]) (rest := []) ⟨hx, hb, hml, hown, ht⟩ (kt_Md_layForm l dC dI qt qt_fixed qt_modules qt_checkBytes qt_blocks qt_data qt_tells qt_segmentModes qt_segmentLengths qt_modes qt_takes qt_bytes qt_words qt_block qt_tried qt_values qt_system qt_solved qt_places qt_generator qt_readBytes qt_readings ct_fixed ct_modules x1 vt_length r4 y20 vt_made y10 y5 y11 vt_readLength vt_at vt_all vt_fault vt_good b55 b56 r67 H.size n0 b69 b70 hc71) (cwV 1 ht (sq_gV tb_1310 tb_1312 sl_51 tb_11 tb_1313) rfl rfl rfl (by decide +kernel) ⟨Nat.le_of_ble_eq_true rfl, Nat.le_of_ble_eq_true rfl⟩) (sq_rwV (hP.sub (ws' := (ww_Md_layForm qt qt_fixed qt_modules qt_checkBytes qt_blocks qt_data qt_tells qt_segmentModes qt_segmentLengths qt_modes qt_takes qt_bytes qt_words qt_block qt_tried qt_values qt_system qt_solved qt_places qt_generator qt_readBytes qt_readings ct_fixed ct_modules x1 vt_length r4 y20 vt_made y10 y5 y11 vt_readLength vt_at vt_all vt_fault vt_good b55 b56)) [0, 6, 9] rfl) (hK.sub (tys' := [(ct_fixed, .int), (ct_modules, .int)]) [5, 8] rfl) (hD.sub (ws' := (ww_Md_layForm qt qt_fixed qt_modules qt_checkBytes qt_blocks qt_data qt_tells qt_segmentModes qt_segmentLengths qt_modes qt_takes qt_bytes qt_words qt_block qt_tried qt_values qt_system qt_solved qt_places qt_generator qt_readBytes qt_readings ct_fixed ct_modules x1 vt_length r4 y20 vt_made y10 y5 y11 vt_readLength vt_at vt_all vt_fault vt_good b55 b56)) [0, 6, 9] (by decide) rfl) (va_recv hK hP (ci := 10) (q0 := 0) rfl rfl)) rfl rfl hl.1 rfl (lv_room (Nat.le_of_ble_eq_true rfl)) d_Md_make_129 ⟨Nat.le_of_ble_eq_true rfl, Nat.le_of_ble_eq_true rfl⟩) hP hD hS hA [0, 6, 9] [1, 2, 3, 4, 5, 7, 8, 10, 11, 12, 13, 14] [12, 0, 1, 2, 3, 4, 13, 5, 6, 14, 7, 8, 9, 10, 11] rfl rfl (by decide) (by decide) rfl (by decide) (fun H locs hP hD hS => ?_)
                refine lv_aload_n hx hb d_Md_make_132 rfl (lv_at hl 0 rfl) ?_
                refine lv_iload hx hb d_Md_make_133 (lv_at hl 7 rfl) ?_
                refine lv_iconst (v := (0 : Int32)) hx hb d_Md_make_135 (by decide) ?_
                refine lv_iload hx hb d_Md_make_136 (lv_at hl 4 rfl) ?_
                obtain ⟨b72, b73, hc74, Hf⟩ := sq_cb2_e Hf
                refine sq_rwv (wn := (ww_Md_make qt qt_block qt_blocks qt_bytes qt_checkBytes qt_data qt_fixed qt_generator qt_modes qt_modules qt_segmentLengths qt_segmentModes qt_takes qt_tells qt_words qt_tried qt_values qt_system qt_solved qt_places qt_readBytes qt_readings ct_block ct_blocks ct_bytes ct_checkBytes ct_data ct_fixed ct_generator ct_modes ct_modules ct_segmentLengths ct_segmentModes ct_takes ct_tells ct_words x1 vt_length r4 y20 vt_made y10 y5 y11 vt_readLength vt_at vt_all vt_fault vt_good b16 vt_blocks b12 vt_checkBytes vt_data b69 b17 b6 b72 b13 b14 b7 vt_tells b73)) (va_runV (As := [.int x54, .int (0 : Int32), .int r24]) (rest := []) ⟨hx, hb, hml, hown, ht⟩ (kt_Md_goThrough l dC dI qt qt_fixed qt_modules qt_words qt_checkBytes qt_blocks qt_data qt_tells qt_segmentModes qt_segmentLengths qt_modes qt_takes qt_bytes qt_block qt_tried qt_values qt_system qt_solved qt_places qt_generator qt_readBytes qt_readings ct_fixed ct_modules ct_words x1 vt_length r4 y20 vt_made y10 y5 y11 vt_readLength vt_at vt_all vt_fault vt_good b69 b70 b57 x54 (0 : Int32) r24 H.size n0 b72 b73 hc74) (cwV 3 ht (sq_gV tb_1329 tb_1331 sl_52 tb_11 tb_1332) rfl rfl rfl (by decide +kernel) ⟨Nat.le_of_ble_eq_true rfl, Nat.le_of_ble_eq_true rfl⟩) (sq_rwV (hP.sub (ws' := (ww_Md_goThrough qt qt_fixed qt_modules qt_words qt_checkBytes qt_blocks qt_data qt_tells qt_segmentModes qt_segmentLengths qt_modes qt_takes qt_bytes qt_block qt_tried qt_values qt_system qt_solved qt_places qt_generator qt_readBytes qt_readings ct_fixed ct_modules ct_words x1 vt_length r4 y20 vt_made y10 y5 y11 vt_readLength vt_at vt_all vt_fault vt_good b69 b70 b57)) [0, 6, 9, 14] rfl) (hK.sub (tys' := [(ct_fixed, .int), (ct_modules, .int), (ct_words, .int)]) [5, 8, 13] rfl) (hD.sub (ws' := (ww_Md_goThrough qt qt_fixed qt_modules qt_words qt_checkBytes qt_blocks qt_data qt_tells qt_segmentModes qt_segmentLengths qt_modes qt_takes qt_bytes qt_block qt_tried qt_values qt_system qt_solved qt_places qt_generator qt_readBytes qt_readings ct_fixed ct_modules ct_words x1 vt_length r4 y20 vt_made y10 y5 y11 vt_readLength vt_at vt_all vt_fault vt_good b69 b70 b57)) [0, 6, 9, 14] (by decide) rfl) (va_recv hK hP (ci := 10) (q0 := 0) rfl rfl)) rfl rfl hl.1 rfl (lv_room (Nat.le_of_ble_eq_true rfl)) d_Md_make_138 ⟨Nat.le_of_ble_eq_true rfl, Nat.le_of_ble_eq_true rfl⟩) hP hD hS hA [0, 6, 9, 14] [1, 2, 3, 4, 5, 7, 8, 10, 11, 12, 13] [11, 0, 1, 2, 3, 4, 12, 5, 6, 13, 7, 8, 9, 10, 14] rfl rfl (by decide) (by decide) rfl (by decide) (fun H locs hP hD hS => ?_)
                refine lv_aload_n hx hb d_Md_make_141 rfl (lv_at hl 0 rfl) ?_
                obtain ⟨r75, hc76, Hf⟩ := sq_cb1_e Hf
                refine sq_roi (va_runV (As := []) (rest := []) ⟨hx, hb, hml, hown, ht⟩ (kt_Md_penalty l dC dI qt qt_modules qt_checkBytes qt_blocks qt_data qt_fixed qt_tells qt_segmentModes qt_segmentLengths qt_modes qt_takes qt_bytes qt_words qt_block qt_tried qt_values qt_system qt_solved qt_places qt_generator qt_readBytes qt_readings ct_modules x1 vt_length r4 y20 vt_made y10 y5 y11 vt_readLength vt_at vt_all vt_fault vt_good b72 n0 r75 hc76) (cwV 0 ht (sq_gV tb_1336 tb_1338 sl_53 tb_11 tb_1339) rfl rfl rfl (by decide +kernel) ⟨Nat.le_of_ble_eq_true rfl, Nat.le_of_ble_eq_true rfl⟩) (sq_roV (hP.sub (ws' := (ww_Md_penalty qt qt_modules qt_checkBytes qt_blocks qt_data qt_fixed qt_tells qt_segmentModes qt_segmentLengths qt_modes qt_takes qt_bytes qt_words qt_block qt_tried qt_values qt_system qt_solved qt_places qt_generator qt_readBytes qt_readings ct_modules x1 vt_length r4 y20 vt_made y10 y5 y11 vt_readLength vt_at vt_all vt_fault vt_good b72)) [0, 9] rfl) (hK.sub (tys' := [(ct_modules, .int)]) [8] rfl) (va_recv hK hP (ci := 10) (q0 := 0) rfl rfl)) rfl rfl hl.1 rfl (lv_room (Nat.le_of_ble_eq_true rfl)) d_Md_make_142 ⟨Nat.le_of_ble_eq_true rfl, Nat.le_of_ble_eq_true rfl⟩) ?_
                refine lv_istore (lv' := [(9, .int r75), (0, .ref qt), (1, .int p1), (3, .int p3), (4, .int r4), (5, .int r24), (6, .int x52), (7, .int x53), (8, .int x54)]) hx hb d_Md_make_145 hl (by decide) rfl (fun ls hl => ?_)
                refine lv_iload hx hb d_Md_make_147 (lv_at hl 7 rfl) ?_
                obtain ⟨k77, hk77, Hf⟩ := sq_jn_e Hf
                have Jk77 : ∀ (_u : Unit), k77 _u = some (r0, nvt_thrown, nvt_version, nvt_side, nvt_made, nvt_segments, nvt_bits, nvt_filled, nvt_block, nvt_bytes, nvt_fixed, nvt_generator, nvt_modes, nvt_modules, nvt_segmentLengths, nvt_segmentModes, nvt_takes, nvt_tells, nvt_words) → ∀ (H : Heap) (locs : List Loc), va_P (dC, dI) cl_All (ww_Md_make qt qt_block qt_blocks qt_bytes qt_checkBytes qt_data qt_fixed qt_generator qt_modes qt_modules qt_segmentLengths qt_segmentModes qt_takes qt_tells qt_words qt_tried qt_values qt_system qt_solved qt_places qt_readBytes qt_readings ct_block ct_blocks ct_bytes ct_checkBytes ct_data ct_fixed ct_generator ct_modes ct_modules ct_segmentLengths ct_segmentModes ct_takes ct_tells ct_words x1 vt_length r4 y20 vt_made y10 y5 y11 vt_readLength vt_at vt_all vt_fault vt_good b16 vt_blocks b12 vt_checkBytes vt_data b69 b17 b6 b72 b13 b14 b7 vt_tells b73) H → va_D A (ww_Md_make qt qt_block qt_blocks qt_bytes qt_checkBytes qt_data qt_fixed qt_generator qt_modes qt_modules qt_segmentLengths qt_segmentModes qt_takes qt_tells qt_words qt_tried qt_values qt_system qt_solved qt_places qt_readBytes qt_readings ct_block ct_blocks ct_bytes ct_checkBytes ct_data ct_fixed ct_generator ct_modes ct_modules ct_segmentLengths ct_segmentModes ct_takes ct_tells ct_words x1 vt_length r4 y20 vt_made y10 y5 y11 vt_readLength vt_at vt_all vt_fault vt_good b16 vt_blocks b12 vt_checkBytes vt_data b69 b17 b6 b72 b13 b14 b7 vt_tells b73) → va_S A s.heap H locs → ∀ ls : Array Slot, lv_has ls 10 [(0, .ref qt), (1, .int p1), (3, .int p3), (4, .int r4), (5, .int r24), (8, .int x54), (9, .int r75)] → W p l e (headSpec w_Md_make rm_Md_make).room s m (([.ref qt, .int p1, .int p2, .int p3] : List Value).toArray) below meth c H locs 0 0 (MQ below (qc_Md_make dC dI A r0 qt qt_block qt_blocks qt_bytes qt_checkBytes qt_data qt_fixed qt_generator qt_modes qt_modules qt_segmentLengths qt_segmentModes qt_takes qt_tells qt_words qt_tried qt_values qt_system qt_solved qt_places qt_readBytes qt_readings ct_block ct_blocks ct_bytes ct_checkBytes ct_data ct_fixed ct_generator ct_modes ct_modules ct_segmentLengths ct_segmentModes ct_takes ct_tells ct_words nvt_thrown vt_length nvt_version nvt_side nvt_made nvt_segments nvt_bits nvt_filled vt_readLength vt_at vt_all vt_fault vt_good nvt_block vt_blocks nvt_bytes vt_checkBytes vt_data nvt_fixed nvt_generator nvt_modes nvt_modules nvt_segmentLengths nvt_segmentModes nvt_takes nvt_tells nvt_words) (([.ref qt, .int p1, .int p2, .int p3] : List Value).toArray) s 0 0 A) (F0 m 159 ls []) := by
                  intro _u Hf H locs  hP hD hS ls hl
                  rw [hk77] at Hf
                  refine lv_iload hx hb d_Md_make_159 (lv_at hl 6 rfl) ?_
                  refine lv_istore (lv' := [(7, .int r75), (0, .ref qt), (1, .int p1), (3, .int p3), (4, .int r4), (5, .int r24), (8, .int x54), (9, .int r75)]) hx hb d_Md_make_161 hl (by decide) rfl (fun ls hl => ?_)
                  refine lv_iload hx hb d_Md_make_163 (lv_at hl 6 rfl) ?_
                  refine lv_istore (lv' := [(6, .int x54), (7, .int r75), (0, .ref qt), (1, .int p1), (3, .int p3), (4, .int r4), (5, .int r24), (8, .int x54), (9, .int r75)]) hx hb d_Md_make_165 hl (by decide) rfl (fun ls hl => ?_)
                  exact Jk64 x54 r75 b69 b72 b73 Hf _ _  hP hD hS _ (lv_sub hl [2, 3, 4, 5, 6, 0, 1, 7] rfl)
                refine lv_if_lt (tgt := 159) hx hb d_Md_make_149 (by decide) (fun c78 => ?_) (fun c78 => ?_)
                · replace Hf := sq_ite_t Hf c78
                  exact Jk77 () Hf _ _  hP hD hS _ (lv_sub hl [1, 2, 3, 4, 5, 8, 0] rfl)
                · replace Hf := sq_ite_f Hf c78
                  refine lv_iload hx hb d_Md_make_152 (lv_at hl 0 rfl) ?_
                  refine lv_iload hx hb d_Md_make_154 (lv_at hl 7 rfl) ?_
                  refine lv_icmp_ge (tgt := 167) hx hb d_Md_make_156 (by decide) (fun c79 => ?_) (fun c79 => ?_)
                  · replace Hf := sq_ite_t Hf c79
                    exact Jk64 x52 x53 b69 b72 b73 Hf _ _  hP hD hS _ (lv_sub hl [1, 2, 3, 4, 5, 6, 7, 8] rfl)
                  · replace Hf := sq_ite_f Hf c79
                    exact Jk77 () Hf _ _  hP hD hS _ (lv_sub hl [1, 2, 3, 4, 5, 8, 0] rfl)
              refine lv_if_lt (tgt := 122) hx hb d_Md_make_113 (by decide) (fun c80 => ?_) (fun c80 => ?_)
              · replace Hf := sq_ite_t Hf c80
                exact Jk66 () Hf _ _  hP hD hS _ (lv_sub hl [0, 1, 2, 3, 4, 5, 6, 7] rfl)
              · replace Hf := sq_ite_f Hf c80
                refine lv_iload_n hx hb d_Md_make_116 rfl (lv_at hl 2 rfl) ?_
                refine lv_iload hx hb d_Md_make_117 (lv_at hl 7 rfl) ?_
                refine lv_icmp_ne (tgt := 167) hx hb d_Md_make_119 (by decide) (fun c81 => ?_) (fun c81 => ?_)
                · replace Hf := sq_ite_f Hf c81
                  exact Jk64 x52 x53 b55 b56 b57 Hf _ _  hP hD hS _ (lv_sub hl [0, 1, 2, 3, 4, 5, 6, 7] rfl)
                · replace Hf := sq_ite_t Hf c81
                  exact Jk66 () Hf _ _  hP hD hS _ (lv_sub hl [0, 1, 2, 3, 4, 5, 6, 7] rfl)
        exact L1 n0 p3 (-1 : Int32) (0 : Int32) b21 b22 b18 Hf _ _  hP hD hS _ (lv_sub hl [5, 6, 8, 4, 3, 2, 1, 0] rfl)
      · replace Hf := sq_ite_f Hf c9
        refine lv_iconst (v := (-1 : Int32)) hx hb d_Md_make_61 (by decide) ?_
        obtain ⟨rfl, rfl, rfl, rfl, rfl, rfl, rfl, rfl, rfl, rfl, rfl, rfl, rfl, rfl, rfl, rfl, rfl, rfl, rfl⟩ := sq_so19 Hf
        exact W.iret hx hb hr (fun t ht hW => ⟨⟨_, (), rfl, rfl, by rw [ht]; exact hP, hD⟩, hS.F ht⟩) hS.2.2 d_Md_make_62
    · replace Hf := sq_ite_f Hf c3
      refine lv_iconst (v := (0 : Int32)) hx hb d_Md_make_46 (by decide) ?_
      obtain ⟨rfl, rfl, rfl, rfl, rfl, rfl, rfl, rfl, rfl, rfl, rfl, rfl, rfl, rfl, rfl, rfl, rfl, rfl, rfl⟩ := sq_so19 Hf
      exact W.iret hx hb hr (fun t ht hW => ⟨⟨_, (), rfl, rfl, by rw [ht]; exact hP, hD⟩, hS.F ht⟩) hS.2.2 d_Md_make_47
  obtain ⟨k82, hk82, Hf⟩ := sq_jn_e Hf
  have Jk82 : ∀ (_u : Unit), k82 _u = some (r0, nvt_thrown, nvt_version, nvt_side, nvt_made, nvt_segments, nvt_bits, nvt_filled, nvt_block, nvt_bytes, nvt_fixed, nvt_generator, nvt_modes, nvt_modules, nvt_segmentLengths, nvt_segmentModes, nvt_takes, nvt_tells, nvt_words) → ∀ (H : Heap) (locs : List Loc), va_P (dC, dI) cl_All (ww_Md_make qt qt_block qt_blocks qt_bytes qt_checkBytes qt_data qt_fixed qt_generator qt_modes qt_modules qt_segmentLengths qt_segmentModes qt_takes qt_tells qt_words qt_tried qt_values qt_system qt_solved qt_places qt_readBytes qt_readings ct_block ct_blocks ct_bytes ct_checkBytes ct_data ct_fixed ct_generator ct_modes ct_modules ct_segmentLengths ct_segmentModes ct_takes ct_tells ct_words vt_thrown vt_length vt_version vt_side vt_made vt_segments vt_bits vt_filled vt_readLength vt_at vt_all vt_fault vt_good vt_block vt_blocks vt_bytes vt_checkBytes vt_data vt_fixed vt_generator vt_modes vt_modules vt_segmentLengths vt_segmentModes vt_takes vt_tells vt_words) H → va_D A (ww_Md_make qt qt_block qt_blocks qt_bytes qt_checkBytes qt_data qt_fixed qt_generator qt_modes qt_modules qt_segmentLengths qt_segmentModes qt_takes qt_tells qt_words qt_tried qt_values qt_system qt_solved qt_places qt_readBytes qt_readings ct_block ct_blocks ct_bytes ct_checkBytes ct_data ct_fixed ct_generator ct_modes ct_modules ct_segmentLengths ct_segmentModes ct_takes ct_tells ct_words vt_thrown vt_length vt_version vt_side vt_made vt_segments vt_bits vt_filled vt_readLength vt_at vt_all vt_fault vt_good vt_block vt_blocks vt_bytes vt_checkBytes vt_data vt_fixed vt_generator vt_modes vt_modules vt_segmentLengths vt_segmentModes vt_takes vt_tells vt_words) → va_S A s.heap H locs → ∀ ls : Array Slot, lv_has ls 10 [(0, .ref qt), (1, .int p1), (2, .int p2), (3, .int p3)] → W p l e (headSpec w_Md_make rm_Md_make).room s m (([.ref qt, .int p1, .int p2, .int p3] : List Value).toArray) below meth c H locs 0 0 (MQ below (qc_Md_make dC dI A r0 qt qt_block qt_blocks qt_bytes qt_checkBytes qt_data qt_fixed qt_generator qt_modes qt_modules qt_segmentLengths qt_segmentModes qt_takes qt_tells qt_words qt_tried qt_values qt_system qt_solved qt_places qt_readBytes qt_readings ct_block ct_blocks ct_bytes ct_checkBytes ct_data ct_fixed ct_generator ct_modes ct_modules ct_segmentLengths ct_segmentModes ct_takes ct_tells ct_words nvt_thrown vt_length nvt_version nvt_side nvt_made nvt_segments nvt_bits nvt_filled vt_readLength vt_at vt_all vt_fault vt_good nvt_block vt_blocks nvt_bytes vt_checkBytes vt_data nvt_fixed nvt_generator nvt_modes nvt_modules nvt_segmentLengths nvt_segmentModes nvt_takes nvt_tells nvt_words) (([.ref qt, .int p1, .int p2, .int p3] : List Value).toArray) s 0 0 A) (F0 m 31 ls [.ref qt]) := by
    intro _u Hf H locs  hP hD hS ls hl
    rw [hk82] at Hf
    refine lv_iconst (v := (1 : Int32)) hx hb d_Md_make_31 (by decide) ?_
    refine lv_goto (tgt := 36) hx hb d_Md_make_32 (by decide) ?_
    exact Jk2 (1 : Int32) Hf _ _  hP hD hS _ (lv_sub hl [0, 1, 2, 3] rfl)
  refine lv_if_lt (tgt := 31) hx hb d_Md_make_2 (by decide) (fun c83 => ?_) (fun c83 => ?_)
  · replace Hf := sq_ite_t Hf c83
    exact Jk82 () Hf _ _  hP hD hS _ (lv_sub hl [0, 1, 2, 3] rfl)
  · replace Hf := sq_ite_f Hf c83
    refine lv_iload_n hx hb d_Md_make_5 rfl (lv_at hl 1 rfl) ?_
    refine lv_iconst (v := (3 : Int32)) hx hb d_Md_make_6 (by decide) ?_
    refine lv_icmp_gt (tgt := 31) hx hb d_Md_make_7 (by decide) (fun c84 => ?_) (fun c84 => ?_)
    · replace Hf := sq_ite_t Hf c84
      exact Jk82 () Hf _ _  hP hD hS _ (lv_sub hl [0, 1, 2, 3] rfl)
    · replace Hf := sq_ite_f Hf c84
      refine lv_iload_n hx hb d_Md_make_10 rfl (lv_at hl 2 rfl) ?_
      refine lv_if_lt (tgt := 31) hx hb d_Md_make_11 (by decide) (fun c85 => ?_) (fun c85 => ?_)
      · replace Hf := sq_ite_t Hf c85
        exact Jk82 () Hf _ _  hP hD hS _ (lv_sub hl [0, 1, 2, 3] rfl)
      · replace Hf := sq_ite_f Hf c85
        refine lv_iload_n hx hb d_Md_make_14 rfl (lv_at hl 2 rfl) ?_
        refine lv_bipush (v := (40 : Int32)) hx hb d_Md_make_15 (by decide) ?_
        refine lv_icmp_gt (tgt := 31) hx hb d_Md_make_17 (by decide) (fun c86 => ?_) (fun c86 => ?_)
        · replace Hf := sq_ite_t Hf c86
          exact Jk82 () Hf _ _  hP hD hS _ (lv_sub hl [0, 1, 2, 3] rfl)
        · replace Hf := sq_ite_f Hf c86
          refine lv_iload_n hx hb d_Md_make_20 rfl (lv_at hl 3 rfl) ?_
          refine lv_iconst (v := (-1 : Int32)) hx hb d_Md_make_21 (by decide) ?_
          refine lv_icmp_lt (tgt := 31) hx hb d_Md_make_22 (by decide) (fun c87 => ?_) (fun c87 => ?_)
          · replace Hf := sq_ite_t Hf c87
            exact Jk82 () Hf _ _  hP hD hS _ (lv_sub hl [0, 1, 2, 3] rfl)
          · replace Hf := sq_ite_f Hf c87
            refine lv_iload_n hx hb d_Md_make_25 rfl (lv_at hl 3 rfl) ?_
            refine lv_bipush (v := (7 : Int32)) hx hb d_Md_make_26 (by decide) ?_
            refine lv_icmp_le (tgt := 35) hx hb d_Md_make_28 (by decide) (fun c88 => ?_) (fun c88 => ?_)
            · replace Hf := sq_ite_t Hf c88
              refine lv_iconst (v := (0 : Int32)) hx hb d_Md_make_35 (by decide) ?_
              exact Jk2 (0 : Int32) Hf _ _  hP hD hS _ (lv_sub hl [0, 1, 2, 3] rfl)
            · replace Hf := sq_ite_f Hf c88
              exact Jk82 () Hf _ _  hP hD hS _ (lv_sub hl [0, 1, 2, 3] rfl)

def fn_Md_blank_L1 (k9 : (Nat → Int32) → Option (Int32 × Int32 × Int32 × Int32 × Int32 × (Nat → Int32) × (Nat → Int32))) : Nat → Int32 → (Nat → Int32) → Option (Int32 × Int32 × Int32 × Int32 × Int32 × (Nat → Int32) × (Nat → Int32))
  | 0, _, _ => none
  | m1 + 1, x10, b11 => if (31329 : Int32) ≤ x10 then (k9 b11) else (sq_gi x10 31329 <| sq_bd (upd b11 x10.toNatClampNeg (0 : Int32)) fun b14 => sq_bd (x10 + (1 : Int32)) fun x15 => fn_Md_blank_L1 k9 m1 x15 b14)
theorem fn_Md_blank_L1_s (k9 : (Nat → Int32) → Option (Int32 × Int32 × Int32 × Int32 × Int32 × (Nat → Int32) × (Nat → Int32))) (m1 : Nat) (x10 : Int32) (b11 : Nat → Int32) : fn_Md_blank_L1 k9 (m1 + 1) x10 b11 = if (31329 : Int32) ≤ x10 then (k9 b11) else (sq_gi x10 31329 <| sq_bd (upd b11 x10.toNatClampNeg (0 : Int32)) fun b14 => sq_bd (x10 + (1 : Int32)) fun x15 => fn_Md_blank_L1 k9 m1 x15 b14) := rfl
def fn_Md_blank (n0 : Nat) (p1 : Int32) (vt_thrown : Int32) (vt_version : Int32) (vt_side : Int32) (vt_made : Int32) (vt_fixed : Nat → Int32) (vt_modules : Nat → Int32) : Option (Int32 × Int32 × Int32 × Int32 × Int32 × (Nat → Int32) × (Nat → Int32)) :=
  sq_jn (fun (x1 : Int32) => if x1 ≤ 0 then (sq_cb3 (fn_Md_frame n0 p1 vt_side vt_fixed vt_modules) fun y4 b5 b6 => sq_jn (fun (b8 : Nat → Int32) => some (y4, x1, p1, y4, (0 : Int32), b5, b8)) fun k9 => fn_Md_blank_L1 k9 n0 (0 : Int32) b6) else (some ((0 : Int32), x1, vt_version, vt_side, vt_made, vt_fixed, vt_modules))) fun k2 => sq_jn (fun (_ : Unit) => k2 (1 : Int32)) fun k16 => if p1 < (1 : Int32) then (k16 ()) else (if p1 ≤ (40 : Int32) then (k2 (0 : Int32)) else (k16 ()))
abbrev ww_Md_blank (qt qt_fixed qt_modules qt_checkBytes qt_blocks qt_data qt_tells qt_segmentModes qt_segmentLengths qt_modes qt_takes qt_bytes qt_words qt_block qt_tried qt_values qt_system qt_solved qt_places qt_generator qt_readBytes qt_readings : Nat) (ct_fixed ct_modules : ClassId) (vt_thrown : Int32) (vt_length : Int32) (vt_version : Int32) (vt_side : Int32) (vt_made : Int32) (vt_segments : Int32) (vt_bits : Int32) (vt_filled : Int32) (vt_readLength : Int32) (vt_at : Int32) (vt_all : Int32) (vt_fault : Int32) (vt_good : Int32) (vt_fixed : Nat → Int32) (vt_modules : Nat → Int32) : va_W := [(qt, .inr (10, [.int vt_thrown, .ref qt_checkBytes, .ref qt_blocks, .ref qt_data, .int vt_length, .ref qt_modules, .ref qt_fixed, .int vt_version, .int vt_side, .int vt_made, .ref qt_tells, .ref qt_segmentModes, .ref qt_segmentLengths, .int vt_segments, .ref qt_modes, .ref qt_takes, .int vt_bits, .ref qt_bytes, .ref qt_words, .int vt_filled, .ref qt_block, .ref qt_tried, .ref qt_values, .ref qt_system, .ref qt_solved, .ref qt_places, .ref qt_generator, .ref qt_readBytes, .int vt_readLength, .int vt_at, .int vt_all, .int vt_fault, .int vt_good, .ref qt_readings])), (qt_fixed, .inl (ct_fixed, 31329, .inl vt_fixed)), (qt_modules, .inl (ct_modules, 31329, .inl vt_modules))]

def rm_Md_blank : Room := { frames := 4, cells := 0, slots := 0, locals := 97 }
abbrev qc_Md_blank (dC : Nat → ClassId) (dI : Nat → Nat → Nat) (A : Nat → Prop) (r0 : Int32) (qt qt_fixed qt_modules qt_checkBytes qt_blocks qt_data qt_tells qt_segmentModes qt_segmentLengths qt_modes qt_takes qt_bytes qt_words qt_block qt_tried qt_values qt_system qt_solved qt_places qt_generator qt_readBytes qt_readings : Nat) (ct_fixed ct_modules : ClassId) (vt_thrown : Int32) (vt_length : Int32) (vt_version : Int32) (vt_side : Int32) (vt_made : Int32) (vt_segments : Int32) (vt_bits : Int32) (vt_filled : Int32) (vt_readLength : Int32) (vt_at : Int32) (vt_all : Int32) (vt_fault : Int32) (vt_good : Int32) (vt_fixed : Nat → Int32) (vt_modules : Nat → Int32) : Array Value → State → Outcome → State → Prop := va_Qi (fun r (_ : Unit) => r = r0) (fun _ t => va_P (dC, dI) cl_All (ww_Md_blank qt qt_fixed qt_modules qt_checkBytes qt_blocks qt_data qt_tells qt_segmentModes qt_segmentLengths qt_modes qt_takes qt_bytes qt_words qt_block qt_tried qt_values qt_system qt_solved qt_places qt_generator qt_readBytes qt_readings ct_fixed ct_modules vt_thrown vt_length vt_version vt_side vt_made vt_segments vt_bits vt_filled vt_readLength vt_at vt_all vt_fault vt_good vt_fixed vt_modules) t.heap ∧ va_D A (ww_Md_blank qt qt_fixed qt_modules qt_checkBytes qt_blocks qt_data qt_tells qt_segmentModes qt_segmentLengths qt_modes qt_takes qt_bytes qt_words qt_block qt_tried qt_values qt_system qt_solved qt_places qt_generator qt_readBytes qt_readings ct_fixed ct_modules vt_thrown vt_length vt_version vt_side vt_made vt_segments vt_bits vt_filled vt_readLength vt_at vt_all vt_fault vt_good vt_fixed vt_modules)) A

set_option maxHeartbeats 4000000 in
set_option maxRecDepth 100000 in
theorem kt_Md_blank (l : Launch) (dC : Nat → ClassId) (dI : Nat → Nat → Nat) (qt qt_fixed qt_modules qt_checkBytes qt_blocks qt_data qt_tells qt_segmentModes qt_segmentLengths qt_modes qt_takes qt_bytes qt_words qt_block qt_tried qt_values qt_system qt_solved qt_places qt_generator qt_readBytes qt_readings : Nat) (ct_fixed ct_modules : ClassId) (vt_thrown : Int32) (vt_length : Int32) (vt_version : Int32) (vt_side : Int32) (vt_made : Int32) (vt_segments : Int32) (vt_bits : Int32) (vt_filled : Int32) (vt_readLength : Int32) (vt_at : Int32) (vt_all : Int32) (vt_fault : Int32) (vt_good : Int32) (vt_fixed : Nat → Int32) (vt_modules : Nat → Int32) (p1 : Int32) (sz : Nat) (n0 : Nat) (r0 : Int32) (nvt_thrown : Int32) (nvt_version : Int32) (nvt_side : Int32) (nvt_made : Int32) (nvt_fixed : Nat → Int32) (nvt_modules : Nat → Int32) (Hf : fn_Md_blank n0 p1 vt_thrown vt_version vt_side vt_made vt_fixed vt_modules = some (r0, nvt_thrown, nvt_version, nvt_side, nvt_made, nvt_fixed, nvt_modules)) : Met l y_Md_blank w_Md_blank rm_Md_blank (va_Pc [.ref qt, .int p1] (fun U => U.heap.size = sz ∧ va_P (dC, dI) cl_All (ww_Md_blank qt qt_fixed qt_modules qt_checkBytes qt_blocks qt_data qt_tells qt_segmentModes qt_segmentLengths qt_modes qt_takes qt_bytes qt_words qt_block qt_tried qt_values qt_system qt_solved qt_places qt_generator qt_readBytes qt_readings ct_fixed ct_modules vt_thrown vt_length vt_version vt_side vt_made vt_segments vt_bits vt_filled vt_readLength vt_at vt_all vt_fault vt_good vt_fixed vt_modules) U.heap ∧ va_K (dC, dI) cl_All [(ct_fixed, .int), (ct_modules, .int)] U ∧ va_D (fun _ => True) (ww_Md_blank qt qt_fixed qt_modules qt_checkBytes qt_blocks qt_data qt_tells qt_segmentModes qt_segmentLengths qt_modes qt_takes qt_bytes qt_words qt_block qt_tried qt_values qt_system qt_solved qt_places qt_generator qt_readBytes qt_readings ct_fixed ct_modules vt_thrown vt_length vt_version vt_side vt_made vt_segments vt_bits vt_filled vt_readLength vt_at vt_all vt_fault vt_good vt_fixed vt_modules))) (qc_Md_blank dC dI (va_A (ww_Md_blank qt qt_fixed qt_modules qt_checkBytes qt_blocks qt_data qt_tells qt_segmentModes qt_segmentLengths qt_modes qt_takes qt_bytes qt_words qt_block qt_tried qt_values qt_system qt_solved qt_places qt_generator qt_readBytes qt_readings ct_fixed ct_modules vt_thrown vt_length vt_version vt_side vt_made vt_segments vt_bits vt_filled vt_readLength vt_at vt_all vt_fault vt_good vt_fixed vt_modules) sz) r0 qt qt_fixed qt_modules qt_checkBytes qt_blocks qt_data qt_tells qt_segmentModes qt_segmentLengths qt_modes qt_takes qt_bytes qt_words qt_block qt_tried qt_values qt_system qt_solved qt_places qt_generator qt_readBytes qt_readings ct_fixed ct_modules nvt_thrown vt_length nvt_version nvt_side nvt_made vt_segments vt_bits vt_filled vt_readLength vt_at vt_all vt_fault vt_good nvt_fixed nvt_modules) 0 0 (va_A (ww_Md_blank qt qt_fixed qt_modules qt_checkBytes qt_blocks qt_data qt_tells qt_segmentModes qt_segmentLengths qt_modes qt_takes qt_bytes qt_words qt_block qt_tried qt_values qt_system qt_solved qt_places qt_generator qt_readBytes qt_readings ct_fixed ct_modules vt_thrown vt_length vt_version vt_side vt_made vt_segments vt_bits vt_filled vt_readLength vt_at vt_all vt_fault vt_good vt_fixed vt_modules) sz) := by
  refine Met.ofW (cc := prog_14_method_53_code) (maxL := 3) (ret := (some .int)) (by decide) rfl ?_
  intro p e s m args below meth c s₁ B hml hv
  obtain ⟨rfl, hsz, hP, hK, hD0⟩ := hv
  have hx := B.exec; have hb := B.bytes; have hr := B.returns; have hlocks := B.notSynchronized
  have ht : ∀ w ∈ lw_g, w.before _ s = true := fun w h => atoms_spec (ws := w_Md_blank) B.pre w (List.mem_cons_of_mem _ h)
  have hown : s.vm.findClass "SquareSymbolsModel" = some m.cls := findClass_of_methodNamed B.named
  subst hsz
  have hD := hD0.self (sz := s.heap.size)
  generalize hAe : va_A (ww_Md_blank qt qt_fixed qt_modules qt_checkBytes qt_blocks qt_data qt_tells qt_segmentModes qt_segmentLengths qt_modes qt_takes qt_bytes qt_words qt_block qt_tried qt_values qt_system qt_solved qt_places qt_generator qt_readBytes qt_readings ct_fixed ct_modules vt_thrown vt_length vt_version vt_side vt_made vt_segments vt_bits vt_filled vt_readLength vt_at vt_all vt_fault vt_good vt_fixed vt_modules) s.heap.size = A at hD ⊢
  have hA : ∀ q : Nat, s.heap.size ≤ q → A q := fun q h => by rw [← hAe]; exact Or.inr h
  have hS : va_S A s.heap s.heap [] := va_S.rf
  have hl := lv_entry ([.ref qt, .int p1]) (n := 3) (Nat.le_of_ble_eq_true rfl)
  rw [lg_entry_eq]
  generalize (lg_sl ([.ref qt, .int p1]) ++ List.replicate (3 - (lg_sl ([.ref qt, .int p1])).length) Slot.unset).toArray = ls at hl ⊢
  have hl : lv_has ls 3 [(0, .ref qt), (1, .int p1)] := hl
  refine lv_aload_n hx hb d_Md_blank_0 rfl (lv_at hl 0 rfl) ?_
  refine lv_iload_n hx hb d_Md_blank_1 rfl (lv_at hl 1 rfl) ?_
  refine lv_iconst (v := (1 : Int32)) hx hb d_Md_blank_2 (by decide) ?_
  obtain ⟨k2, hk2, Hf⟩ := sq_jn_e Hf
  have Jk2 : ∀ (x1 : Int32), k2 x1 = some (r0, nvt_thrown, nvt_version, nvt_side, nvt_made, nvt_fixed, nvt_modules) → ∀ (H : Heap) (locs : List Loc), va_P (dC, dI) cl_All (ww_Md_blank qt qt_fixed qt_modules qt_checkBytes qt_blocks qt_data qt_tells qt_segmentModes qt_segmentLengths qt_modes qt_takes qt_bytes qt_words qt_block qt_tried qt_values qt_system qt_solved qt_places qt_generator qt_readBytes qt_readings ct_fixed ct_modules vt_thrown vt_length vt_version vt_side vt_made vt_segments vt_bits vt_filled vt_readLength vt_at vt_all vt_fault vt_good vt_fixed vt_modules) H → va_D A (ww_Md_blank qt qt_fixed qt_modules qt_checkBytes qt_blocks qt_data qt_tells qt_segmentModes qt_segmentLengths qt_modes qt_takes qt_bytes qt_words qt_block qt_tried qt_values qt_system qt_solved qt_places qt_generator qt_readBytes qt_readings ct_fixed ct_modules vt_thrown vt_length vt_version vt_side vt_made vt_segments vt_bits vt_filled vt_readLength vt_at vt_all vt_fault vt_good vt_fixed vt_modules) → va_S A s.heap H locs → ∀ ls : Array Slot, lv_has ls 3 [(0, .ref qt), (1, .int p1)] → W p l e (headSpec w_Md_blank rm_Md_blank).room s m (([.ref qt, .int p1] : List Value).toArray) below meth c H locs 0 0 (MQ below (qc_Md_blank dC dI A r0 qt qt_fixed qt_modules qt_checkBytes qt_blocks qt_data qt_tells qt_segmentModes qt_segmentLengths qt_modes qt_takes qt_bytes qt_words qt_block qt_tried qt_values qt_system qt_solved qt_places qt_generator qt_readBytes qt_readings ct_fixed ct_modules nvt_thrown vt_length nvt_version nvt_side nvt_made vt_segments vt_bits vt_filled vt_readLength vt_at vt_all vt_fault vt_good nvt_fixed nvt_modules) (([.ref qt, .int p1] : List Value).toArray) s 0 0 A) (F0 m 17 ls [.int x1, .ref qt]) := by
    intro x1 Hf H locs  hP hD hS ls hl
    rw [hk2] at Hf
    refine va_put (D := (dC, dI)) (ci := 10) (v := .int x1) (ty := .int) (C := R_Md) (T := F_Md) (N := 34) hx hb ht i_Md t_Md t_Md_ok n_Md hown hK hP hD hS 0 rfl rfl 0 (by decide) (ht _ tb_1062) (fun _ h9 => h9) rfl (by decide +kernel) rfl rfl (Nat.le_of_ble_eq_true rfl) d_Md_blank_17 (fun H locs hP hD hS => ?_)
    replace hP : va_P (dC, dI) cl_All (ww_Md_blank qt qt_fixed qt_modules qt_checkBytes qt_blocks qt_data qt_tells qt_segmentModes qt_segmentLengths qt_modes qt_takes qt_bytes qt_words qt_block qt_tried qt_values qt_system qt_solved qt_places qt_generator qt_readBytes qt_readings ct_fixed ct_modules x1 vt_length vt_version vt_side vt_made vt_segments vt_bits vt_filled vt_readLength vt_at vt_all vt_fault vt_good vt_fixed vt_modules) H := hP
    replace hD : va_D A (ww_Md_blank qt qt_fixed qt_modules qt_checkBytes qt_blocks qt_data qt_tells qt_segmentModes qt_segmentLengths qt_modes qt_takes qt_bytes qt_words qt_block qt_tried qt_values qt_system qt_solved qt_places qt_generator qt_readBytes qt_readings ct_fixed ct_modules x1 vt_length vt_version vt_side vt_made vt_segments vt_bits vt_filled vt_readLength vt_at vt_all vt_fault vt_good vt_fixed vt_modules) := hD
    refine lv_aload_n hx hb d_Md_blank_20 rfl (lv_at hl 0 rfl) ?_
    refine va_get (D := (dC, dI)) (ci := 10) (v := .int x1) (C := R_Md) (T := F_Md) (N := 34) hx hb ht i_Md hown hK hP 0 rfl rfl 0 (by decide) (ht _ tb_1062) (fun _ h9 => h9) rfl d_Md_blank_21 ?_
    refine lv_if_le (tgt := 29) hx hb d_Md_blank_24 (by decide) (fun c3 => ?_) (fun c3 => ?_)
    · replace Hf := sq_ite_t Hf c3
      refine lv_aload_n hx hb d_Md_blank_29 rfl (lv_at hl 0 rfl) ?_
      refine lv_iload_n hx hb d_Md_blank_30 rfl (lv_at hl 1 rfl) ?_
      refine va_put (D := (dC, dI)) (ci := 10) (v := .int p1) (ty := .int) (C := R_Md) (T := F_Md) (N := 34) hx hb ht i_Md t_Md t_Md_ok n_Md hown hK hP hD hS 0 rfl rfl 7 (by decide) (ht _ tb_1069) (fun _ h9 => h9) rfl (by decide +kernel) rfl rfl (Nat.le_of_ble_eq_true rfl) d_Md_blank_31 (fun H locs hP hD hS => ?_)
      replace hP : va_P (dC, dI) cl_All (ww_Md_blank qt qt_fixed qt_modules qt_checkBytes qt_blocks qt_data qt_tells qt_segmentModes qt_segmentLengths qt_modes qt_takes qt_bytes qt_words qt_block qt_tried qt_values qt_system qt_solved qt_places qt_generator qt_readBytes qt_readings ct_fixed ct_modules x1 vt_length p1 vt_side vt_made vt_segments vt_bits vt_filled vt_readLength vt_at vt_all vt_fault vt_good vt_fixed vt_modules) H := hP
      replace hD : va_D A (ww_Md_blank qt qt_fixed qt_modules qt_checkBytes qt_blocks qt_data qt_tells qt_segmentModes qt_segmentLengths qt_modes qt_takes qt_bytes qt_words qt_block qt_tried qt_values qt_system qt_solved qt_places qt_generator qt_readBytes qt_readings ct_fixed ct_modules x1 vt_length p1 vt_side vt_made vt_segments vt_bits vt_filled vt_readLength vt_at vt_all vt_fault vt_good vt_fixed vt_modules) := hD
      refine lv_aload_n hx hb d_Md_blank_34 rfl (lv_at hl 0 rfl) ?_
      refine lv_iload_n hx hb d_Md_blank_35 rfl (lv_at hl 1 rfl) ?_
      obtain ⟨y4, b5, b6, hc7, Hf⟩ := sq_cb3_e Hf
      refine sq_rwv (wn := (ww_Md_blank qt qt_fixed qt_modules qt_checkBytes qt_blocks qt_data qt_tells qt_segmentModes qt_segmentLengths qt_modes qt_takes qt_bytes qt_words qt_block qt_tried qt_values qt_system qt_solved qt_places qt_generator qt_readBytes qt_readings ct_fixed ct_modules x1 vt_length p1 y4 vt_made vt_segments vt_bits vt_filled vt_readLength vt_at vt_all vt_fault vt_good b5 b6)) (va_runV (As := [.int p1]) (rest := []) ⟨hx, hb, hml, hown, ht⟩ (kt_Md_frame l dC dI qt qt_fixed qt_modules qt_checkBytes qt_blocks qt_data qt_tells qt_segmentModes qt_segmentLengths qt_modes qt_takes qt_bytes qt_words qt_block qt_tried qt_values qt_system qt_solved qt_places qt_generator qt_readBytes qt_readings ct_fixed ct_modules x1 vt_length p1 vt_side vt_made vt_segments vt_bits vt_filled vt_readLength vt_at vt_all vt_fault vt_good vt_fixed vt_modules p1 H.size n0 y4 b5 b6 hc7) (cwV 1 ht (sq_gV tb_1285 tb_1287 sl_47 tb_11 tb_1288) rfl rfl rfl (by decide +kernel) ⟨Nat.le_of_ble_eq_true rfl, Nat.le_of_ble_eq_true rfl⟩) (sq_rwV (hP.sub (ws' := (ww_Md_frame qt qt_fixed qt_modules qt_checkBytes qt_blocks qt_data qt_tells qt_segmentModes qt_segmentLengths qt_modes qt_takes qt_bytes qt_words qt_block qt_tried qt_values qt_system qt_solved qt_places qt_generator qt_readBytes qt_readings ct_fixed ct_modules x1 vt_length p1 vt_side vt_made vt_segments vt_bits vt_filled vt_readLength vt_at vt_all vt_fault vt_good vt_fixed vt_modules)) [0, 1, 2] rfl) (hK.sub (tys' := [(ct_fixed, .int), (ct_modules, .int)]) [0, 1] rfl) (hD.sub (ws' := (ww_Md_frame qt qt_fixed qt_modules qt_checkBytes qt_blocks qt_data qt_tells qt_segmentModes qt_segmentLengths qt_modes qt_takes qt_bytes qt_words qt_block qt_tried qt_values qt_system qt_solved qt_places qt_generator qt_readBytes qt_readings ct_fixed ct_modules x1 vt_length p1 vt_side vt_made vt_segments vt_bits vt_filled vt_readLength vt_at vt_all vt_fault vt_good vt_fixed vt_modules)) [0, 1, 2] (by decide) rfl) (va_recv hK hP (ci := 10) (q0 := 0) rfl rfl)) rfl rfl hl.1 rfl (lv_room (Nat.le_of_ble_eq_true rfl)) d_Md_blank_36 ⟨Nat.le_of_ble_eq_true rfl, Nat.le_of_ble_eq_true rfl⟩) hP hD hS hA [0, 1, 2] [] [0, 1, 2] rfl rfl (by decide) (by decide) rfl (by decide) (fun H locs hP hD hS => ?_)
      refine lv_iconst (v := (0 : Int32)) hx hb d_Md_blank_39 (by decide) ?_
      refine lv_istore_n (lv' := [(2, .int (0 : Int32)), (0, .ref qt), (1, .int p1)]) hx hb d_Md_blank_40 rfl hl (by decide) rfl (fun ls hl => ?_)
      obtain ⟨k9, hk9, Hf⟩ := sq_jn_e Hf
      have Jk9 : ∀ (b8 : Nat → Int32), k9 b8 = some (r0, nvt_thrown, nvt_version, nvt_side, nvt_made, nvt_fixed, nvt_modules) → ∀ (H : Heap) (locs : List Loc), va_P (dC, dI) cl_All (ww_Md_blank qt qt_fixed qt_modules qt_checkBytes qt_blocks qt_data qt_tells qt_segmentModes qt_segmentLengths qt_modes qt_takes qt_bytes qt_words qt_block qt_tried qt_values qt_system qt_solved qt_places qt_generator qt_readBytes qt_readings ct_fixed ct_modules x1 vt_length p1 y4 vt_made vt_segments vt_bits vt_filled vt_readLength vt_at vt_all vt_fault vt_good b5 b8) H → va_D A (ww_Md_blank qt qt_fixed qt_modules qt_checkBytes qt_blocks qt_data qt_tells qt_segmentModes qt_segmentLengths qt_modes qt_takes qt_bytes qt_words qt_block qt_tried qt_values qt_system qt_solved qt_places qt_generator qt_readBytes qt_readings ct_fixed ct_modules x1 vt_length p1 y4 vt_made vt_segments vt_bits vt_filled vt_readLength vt_at vt_all vt_fault vt_good b5 b8) → va_S A s.heap H locs → ∀ ls : Array Slot, lv_has ls 3 [(0, .ref qt)] → W p l e (headSpec w_Md_blank rm_Md_blank).room s m (([.ref qt, .int p1] : List Value).toArray) below meth c H locs 0 0 (MQ below (qc_Md_blank dC dI A r0 qt qt_fixed qt_modules qt_checkBytes qt_blocks qt_data qt_tells qt_segmentModes qt_segmentLengths qt_modes qt_takes qt_bytes qt_words qt_block qt_tried qt_values qt_system qt_solved qt_places qt_generator qt_readBytes qt_readings ct_fixed ct_modules nvt_thrown vt_length nvt_version nvt_side nvt_made vt_segments vt_bits vt_filled vt_readLength vt_at vt_all vt_fault vt_good nvt_fixed nvt_modules) (([.ref qt, .int p1] : List Value).toArray) s 0 0 A) (F0 m 63 ls []) := by
        intro b8 Hf H locs  hP hD hS ls hl
        rw [hk9] at Hf
        refine lv_aload_n hx hb d_Md_blank_63 rfl (lv_at hl 0 rfl) ?_
        refine lv_iconst (v := (0 : Int32)) hx hb d_Md_blank_64 (by decide) ?_
        refine va_put (D := (dC, dI)) (ci := 10) (v := .int (0 : Int32)) (ty := .boolean) (C := R_Md) (T := F_Md) (N := 34) hx hb ht i_Md t_Md t_Md_ok n_Md hown hK hP hD hS 0 rfl rfl 9 (by decide) (ht _ tb_1071) (fun _ h9 => h9) rfl (by decide +kernel) rfl rfl (Nat.le_of_ble_eq_true rfl) d_Md_blank_65 (fun H locs hP hD hS => ?_)
        replace hP : va_P (dC, dI) cl_All (ww_Md_blank qt qt_fixed qt_modules qt_checkBytes qt_blocks qt_data qt_tells qt_segmentModes qt_segmentLengths qt_modes qt_takes qt_bytes qt_words qt_block qt_tried qt_values qt_system qt_solved qt_places qt_generator qt_readBytes qt_readings ct_fixed ct_modules x1 vt_length p1 y4 (0 : Int32) vt_segments vt_bits vt_filled vt_readLength vt_at vt_all vt_fault vt_good b5 b8) H := hP
        replace hD : va_D A (ww_Md_blank qt qt_fixed qt_modules qt_checkBytes qt_blocks qt_data qt_tells qt_segmentModes qt_segmentLengths qt_modes qt_takes qt_bytes qt_words qt_block qt_tried qt_values qt_system qt_solved qt_places qt_generator qt_readBytes qt_readings ct_fixed ct_modules x1 vt_length p1 y4 (0 : Int32) vt_segments vt_bits vt_filled vt_readLength vt_at vt_all vt_fault vt_good b5 b8) := hD
        refine lv_aload_n hx hb d_Md_blank_68 rfl (lv_at hl 0 rfl) ?_
        refine va_get (D := (dC, dI)) (ci := 10) (v := .int y4) (C := R_Md) (T := F_Md) (N := 34) hx hb ht i_Md hown hK hP 0 rfl rfl 8 (by decide) (ht _ tb_1070) (fun _ h9 => h9) rfl d_Md_blank_69 ?_
        obtain ⟨rfl, rfl, rfl, rfl, rfl, rfl, rfl⟩ := sq_so7 Hf
        exact W.iret hx hb hr (fun t ht hW => ⟨⟨_, (), rfl, rfl, by rw [ht]; exact hP, hD⟩, hS.F ht⟩) hS.2.2 d_Md_blank_72
      have L1 : ∀ (m1 : Nat), ∀ (x10 : Int32) (b11 : Nat → Int32), fn_Md_blank_L1 k9 m1 x10 b11 = some (r0, nvt_thrown, nvt_version, nvt_side, nvt_made, nvt_fixed, nvt_modules) → ∀ (H : Heap) (locs : List Loc), va_P (dC, dI) cl_All (ww_Md_blank qt qt_fixed qt_modules qt_checkBytes qt_blocks qt_data qt_tells qt_segmentModes qt_segmentLengths qt_modes qt_takes qt_bytes qt_words qt_block qt_tried qt_values qt_system qt_solved qt_places qt_generator qt_readBytes qt_readings ct_fixed ct_modules x1 vt_length p1 y4 vt_made vt_segments vt_bits vt_filled vt_readLength vt_at vt_all vt_fault vt_good b5 b11) H → va_D A (ww_Md_blank qt qt_fixed qt_modules qt_checkBytes qt_blocks qt_data qt_tells qt_segmentModes qt_segmentLengths qt_modes qt_takes qt_bytes qt_words qt_block qt_tried qt_values qt_system qt_solved qt_places qt_generator qt_readBytes qt_readings ct_fixed ct_modules x1 vt_length p1 y4 vt_made vt_segments vt_bits vt_filled vt_readLength vt_at vt_all vt_fault vt_good b5 b11) → va_S A s.heap H locs → ∀ ls : Array Slot, lv_has ls 3 [(0, .ref qt), (2, .int x10)] → W p l e (headSpec w_Md_blank rm_Md_blank).room s m (([.ref qt, .int p1] : List Value).toArray) below meth c H locs 0 0 (MQ below (qc_Md_blank dC dI A r0 qt qt_fixed qt_modules qt_checkBytes qt_blocks qt_data qt_tells qt_segmentModes qt_segmentLengths qt_modes qt_takes qt_bytes qt_words qt_block qt_tried qt_values qt_system qt_solved qt_places qt_generator qt_readBytes qt_readings ct_fixed ct_modules nvt_thrown vt_length nvt_version nvt_side nvt_made vt_segments vt_bits vt_filled vt_readLength vt_at vt_all vt_fault vt_good nvt_fixed nvt_modules) (([.ref qt, .int p1] : List Value).toArray) s 0 0 A) (F0 m 41 ls []) := by
        intro m1
        induction m1 with
        | zero => intro x10 b11 Hf; exact sq_none Hf
        | succ m1 ih1 =>
          intro x10 b11 Hf H locs  hP hD hS ls hl
          replace Hf := (fn_Md_blank_L1_s k9 m1 x10 b11).symm.trans Hf
          refine lv_iload_n hx hb d_Md_blank_41 rfl (lv_at hl 1 rfl) ?_
          refine lv_aload_n hx hb d_Md_blank_42 rfl (lv_at hl 0 rfl) ?_
          refine va_get (D := (dC, dI)) (ci := 10) (v := .ref qt_modules) (C := R_Md) (T := F_Md) (N := 34) hx hb ht i_Md hown hK hP 0 rfl rfl 5 (by decide) (ht _ tb_1067) (fun _ h9 => h9) rfl d_Md_blank_43 ?_
          refine va_alen hx hb hK hP 2 1 rfl rfl (v := (31329 : Int32)) rfl d_Md_blank_46 ?_
          refine lv_icmp_ge (tgt := 63) hx hb d_Md_blank_47 (by decide) (fun c12 => ?_) (fun c12 => ?_)
          · replace Hf := sq_ite_t Hf c12
            exact Jk9 b11 Hf _ _  hP hD hS _ (lv_sub hl [0] rfl)
          · replace Hf := sq_ite_f Hf c12
            refine lv_aload_n hx hb d_Md_blank_50 rfl (lv_at hl 0 rfl) ?_
            refine va_get (D := (dC, dI)) (ci := 10) (v := .ref qt_modules) (C := R_Md) (T := F_Md) (N := 34) hx hb ht i_Md hown hK hP 0 rfl rfl 5 (by decide) (ht _ tb_1067) (fun _ h9 => h9) rfl d_Md_blank_51 ?_
            refine lv_iload_n hx hb d_Md_blank_54 rfl (lv_at hl 1 rfl) ?_
            refine lv_iconst (v := (0 : Int32)) hx hb d_Md_blank_55 (by decide) ?_
            obtain ⟨hi13, Hf⟩ := sq_gi_e Hf
            obtain ⟨b14, eb14, Hf⟩ := sq_bd_e Hf
            refine va_iast hx hb hK hP hD hS 2 1 rfl rfl hi13 d_Md_blank_56 (fun H locs hP hD hS => ?_)
            rw [← eb14] at hP hD
            replace hP : va_P (dC, dI) cl_All (ww_Md_blank qt qt_fixed qt_modules qt_checkBytes qt_blocks qt_data qt_tells qt_segmentModes qt_segmentLengths qt_modes qt_takes qt_bytes qt_words qt_block qt_tried qt_values qt_system qt_solved qt_places qt_generator qt_readBytes qt_readings ct_fixed ct_modules x1 vt_length p1 y4 vt_made vt_segments vt_bits vt_filled vt_readLength vt_at vt_all vt_fault vt_good b5 b14) H := hP
            replace hD : va_D A (ww_Md_blank qt qt_fixed qt_modules qt_checkBytes qt_blocks qt_data qt_tells qt_segmentModes qt_segmentLengths qt_modes qt_takes qt_bytes qt_words qt_block qt_tried qt_values qt_system qt_solved qt_places qt_generator qt_readBytes qt_readings ct_fixed ct_modules x1 vt_length p1 y4 vt_made vt_segments vt_bits vt_filled vt_readLength vt_at vt_all vt_fault vt_good b5 b14) := hD
            obtain ⟨x15, ex15, Hf⟩ := sq_bd_e Hf
            refine lv_iinc (v := x15) (lv' := [(2, .int x15), (0, .ref qt)]) hx hb d_Md_blank_57 hl (k := 1) rfl (by rw [ex15]; rfl) (by decide) rfl (fun ls hl => ?_)
            refine lv_goto (tgt := 41) hx hb d_Md_blank_60 (by decide) ?_
            exact ih1 x15 b14 Hf _ _  hP hD hS _ (lv_sub hl [1, 0] rfl)
      exact L1 n0 (0 : Int32) b6 Hf _ _  hP hD hS _ (lv_sub hl [1, 0] rfl)
    · replace Hf := sq_ite_f Hf c3
      refine lv_iconst (v := (0 : Int32)) hx hb d_Md_blank_27 (by decide) ?_
      obtain ⟨rfl, rfl, rfl, rfl, rfl, rfl, rfl⟩ := sq_so7 Hf
      exact W.iret hx hb hr (fun t ht hW => ⟨⟨_, (), rfl, rfl, by rw [ht]; exact hP, hD⟩, hS.F ht⟩) hS.2.2 d_Md_blank_28
  obtain ⟨k16, hk16, Hf⟩ := sq_jn_e Hf
  have Jk16 : ∀ (_u : Unit), k16 _u = some (r0, nvt_thrown, nvt_version, nvt_side, nvt_made, nvt_fixed, nvt_modules) → ∀ (H : Heap) (locs : List Loc), va_P (dC, dI) cl_All (ww_Md_blank qt qt_fixed qt_modules qt_checkBytes qt_blocks qt_data qt_tells qt_segmentModes qt_segmentLengths qt_modes qt_takes qt_bytes qt_words qt_block qt_tried qt_values qt_system qt_solved qt_places qt_generator qt_readBytes qt_readings ct_fixed ct_modules vt_thrown vt_length vt_version vt_side vt_made vt_segments vt_bits vt_filled vt_readLength vt_at vt_all vt_fault vt_good vt_fixed vt_modules) H → va_D A (ww_Md_blank qt qt_fixed qt_modules qt_checkBytes qt_blocks qt_data qt_tells qt_segmentModes qt_segmentLengths qt_modes qt_takes qt_bytes qt_words qt_block qt_tried qt_values qt_system qt_solved qt_places qt_generator qt_readBytes qt_readings ct_fixed ct_modules vt_thrown vt_length vt_version vt_side vt_made vt_segments vt_bits vt_filled vt_readLength vt_at vt_all vt_fault vt_good vt_fixed vt_modules) → va_S A s.heap H locs → ∀ ls : Array Slot, lv_has ls 3 [(0, .ref qt), (1, .int p1)] → W p l e (headSpec w_Md_blank rm_Md_blank).room s m (([.ref qt, .int p1] : List Value).toArray) below meth c H locs 0 0 (MQ below (qc_Md_blank dC dI A r0 qt qt_fixed qt_modules qt_checkBytes qt_blocks qt_data qt_tells qt_segmentModes qt_segmentLengths qt_modes qt_takes qt_bytes qt_words qt_block qt_tried qt_values qt_system qt_solved qt_places qt_generator qt_readBytes qt_readings ct_fixed ct_modules nvt_thrown vt_length nvt_version nvt_side nvt_made vt_segments vt_bits vt_filled vt_readLength vt_at vt_all vt_fault vt_good nvt_fixed nvt_modules) (([.ref qt, .int p1] : List Value).toArray) s 0 0 A) (F0 m 12 ls [.ref qt]) := by
    intro _u Hf H locs  hP hD hS ls hl
    rw [hk16] at Hf
    refine lv_iconst (v := (1 : Int32)) hx hb d_Md_blank_12 (by decide) ?_
    refine lv_goto (tgt := 17) hx hb d_Md_blank_13 (by decide) ?_
    exact Jk2 (1 : Int32) Hf _ _  hP hD hS _ (lv_sub hl [0, 1] rfl)
  refine lv_icmp_lt (tgt := 12) hx hb d_Md_blank_3 (by decide) (fun c17 => ?_) (fun c17 => ?_)
  · replace Hf := sq_ite_t Hf c17
    exact Jk16 () Hf _ _  hP hD hS _ (lv_sub hl [0, 1] rfl)
  · replace Hf := sq_ite_f Hf c17
    refine lv_iload_n hx hb d_Md_blank_6 rfl (lv_at hl 1 rfl) ?_
    refine lv_bipush (v := (40 : Int32)) hx hb d_Md_blank_7 (by decide) ?_
    refine lv_icmp_le (tgt := 16) hx hb d_Md_blank_9 (by decide) (fun c18 => ?_) (fun c18 => ?_)
    · replace Hf := sq_ite_t Hf c18
      refine lv_iconst (v := (0 : Int32)) hx hb d_Md_blank_16 (by decide) ?_
      exact Jk2 (0 : Int32) Hf _ _  hP hD hS _ (lv_sub hl [0, 1] rfl)
    · replace Hf := sq_ite_f Hf c18
      exact Jk16 () Hf _ _  hP hD hS _ (lv_sub hl [0, 1] rfl)

def fn_Md_told (p1 : Int32) (vt_thrown : Int32) (vt_made : Int32) (vt_tells : Nat → Int32) : Option (Int32 × Int32) :=
  sq_jn (fun (x1 : Int32) => if x1 ≤ 0 then (if vt_made = 0 then (some ((-1 : Int32), x1)) else (sq_gi p1 6 <| sq_bd (vt_tells p1.toNatClampNeg) fun x6 => some (x6, x1))) else (some ((0 : Int32), x1))) fun k2 => sq_jn (fun (_ : Unit) => k2 (1 : Int32)) fun k7 => if p1 < 0 then (k7 ()) else (if p1 ≤ (5 : Int32) then (k2 (0 : Int32)) else (k7 ()))
abbrev ww_Md_told (qt qt_tells qt_checkBytes qt_blocks qt_data qt_modules qt_fixed qt_segmentModes qt_segmentLengths qt_modes qt_takes qt_bytes qt_words qt_block qt_tried qt_values qt_system qt_solved qt_places qt_generator qt_readBytes qt_readings : Nat) (ct_tells : ClassId) (vt_thrown : Int32) (vt_length : Int32) (vt_version : Int32) (vt_side : Int32) (vt_made : Int32) (vt_segments : Int32) (vt_bits : Int32) (vt_filled : Int32) (vt_readLength : Int32) (vt_at : Int32) (vt_all : Int32) (vt_fault : Int32) (vt_good : Int32) (vt_tells : Nat → Int32) : va_W := [(qt, .inr (10, [.int vt_thrown, .ref qt_checkBytes, .ref qt_blocks, .ref qt_data, .int vt_length, .ref qt_modules, .ref qt_fixed, .int vt_version, .int vt_side, .int vt_made, .ref qt_tells, .ref qt_segmentModes, .ref qt_segmentLengths, .int vt_segments, .ref qt_modes, .ref qt_takes, .int vt_bits, .ref qt_bytes, .ref qt_words, .int vt_filled, .ref qt_block, .ref qt_tried, .ref qt_values, .ref qt_system, .ref qt_solved, .ref qt_places, .ref qt_generator, .ref qt_readBytes, .int vt_readLength, .int vt_at, .int vt_all, .int vt_fault, .int vt_good, .ref qt_readings])), (qt_tells, .inl (ct_tells, 6, .inl vt_tells))]

def rm_Md_told : Room := { frames := 0, cells := 0, slots := 0, locals := 0 }
abbrev qc_Md_told (dC : Nat → ClassId) (dI : Nat → Nat → Nat) (A : Nat → Prop) (r0 : Int32) (qt qt_tells qt_checkBytes qt_blocks qt_data qt_modules qt_fixed qt_segmentModes qt_segmentLengths qt_modes qt_takes qt_bytes qt_words qt_block qt_tried qt_values qt_system qt_solved qt_places qt_generator qt_readBytes qt_readings : Nat) (ct_tells : ClassId) (vt_thrown : Int32) (vt_length : Int32) (vt_version : Int32) (vt_side : Int32) (vt_made : Int32) (vt_segments : Int32) (vt_bits : Int32) (vt_filled : Int32) (vt_readLength : Int32) (vt_at : Int32) (vt_all : Int32) (vt_fault : Int32) (vt_good : Int32) (vt_tells : Nat → Int32) : Array Value → State → Outcome → State → Prop := va_Qi (fun r (_ : Unit) => r = r0) (fun _ t => va_P (dC, dI) cl_All (ww_Md_told qt qt_tells qt_checkBytes qt_blocks qt_data qt_modules qt_fixed qt_segmentModes qt_segmentLengths qt_modes qt_takes qt_bytes qt_words qt_block qt_tried qt_values qt_system qt_solved qt_places qt_generator qt_readBytes qt_readings ct_tells vt_thrown vt_length vt_version vt_side vt_made vt_segments vt_bits vt_filled vt_readLength vt_at vt_all vt_fault vt_good vt_tells) t.heap ∧ va_D A (ww_Md_told qt qt_tells qt_checkBytes qt_blocks qt_data qt_modules qt_fixed qt_segmentModes qt_segmentLengths qt_modes qt_takes qt_bytes qt_words qt_block qt_tried qt_values qt_system qt_solved qt_places qt_generator qt_readBytes qt_readings ct_tells vt_thrown vt_length vt_version vt_side vt_made vt_segments vt_bits vt_filled vt_readLength vt_at vt_all vt_fault vt_good vt_tells)) A

set_option maxHeartbeats 4000000 in
set_option maxRecDepth 100000 in
theorem kt_Md_told (l : Launch) (dC : Nat → ClassId) (dI : Nat → Nat → Nat) (qt qt_tells qt_checkBytes qt_blocks qt_data qt_modules qt_fixed qt_segmentModes qt_segmentLengths qt_modes qt_takes qt_bytes qt_words qt_block qt_tried qt_values qt_system qt_solved qt_places qt_generator qt_readBytes qt_readings : Nat) (ct_tells : ClassId) (vt_thrown : Int32) (vt_length : Int32) (vt_version : Int32) (vt_side : Int32) (vt_made : Int32) (vt_segments : Int32) (vt_bits : Int32) (vt_filled : Int32) (vt_readLength : Int32) (vt_at : Int32) (vt_all : Int32) (vt_fault : Int32) (vt_good : Int32) (vt_tells : Nat → Int32) (p1 : Int32) (sz : Nat) (r0 : Int32) (nvt_thrown : Int32) (Hf : fn_Md_told p1 vt_thrown vt_made vt_tells = some (r0, nvt_thrown)) : Met l y_Md_told w_Md_told rm_Md_told (va_Pc [.ref qt, .int p1] (fun U => U.heap.size = sz ∧ va_P (dC, dI) cl_All (ww_Md_told qt qt_tells qt_checkBytes qt_blocks qt_data qt_modules qt_fixed qt_segmentModes qt_segmentLengths qt_modes qt_takes qt_bytes qt_words qt_block qt_tried qt_values qt_system qt_solved qt_places qt_generator qt_readBytes qt_readings ct_tells vt_thrown vt_length vt_version vt_side vt_made vt_segments vt_bits vt_filled vt_readLength vt_at vt_all vt_fault vt_good vt_tells) U.heap ∧ va_K (dC, dI) cl_All [(ct_tells, .int)] U ∧ va_D (fun _ => True) (ww_Md_told qt qt_tells qt_checkBytes qt_blocks qt_data qt_modules qt_fixed qt_segmentModes qt_segmentLengths qt_modes qt_takes qt_bytes qt_words qt_block qt_tried qt_values qt_system qt_solved qt_places qt_generator qt_readBytes qt_readings ct_tells vt_thrown vt_length vt_version vt_side vt_made vt_segments vt_bits vt_filled vt_readLength vt_at vt_all vt_fault vt_good vt_tells))) (qc_Md_told dC dI (va_A (ww_Md_told qt qt_tells qt_checkBytes qt_blocks qt_data qt_modules qt_fixed qt_segmentModes qt_segmentLengths qt_modes qt_takes qt_bytes qt_words qt_block qt_tried qt_values qt_system qt_solved qt_places qt_generator qt_readBytes qt_readings ct_tells vt_thrown vt_length vt_version vt_side vt_made vt_segments vt_bits vt_filled vt_readLength vt_at vt_all vt_fault vt_good vt_tells) sz) r0 qt qt_tells qt_checkBytes qt_blocks qt_data qt_modules qt_fixed qt_segmentModes qt_segmentLengths qt_modes qt_takes qt_bytes qt_words qt_block qt_tried qt_values qt_system qt_solved qt_places qt_generator qt_readBytes qt_readings ct_tells nvt_thrown vt_length vt_version vt_side vt_made vt_segments vt_bits vt_filled vt_readLength vt_at vt_all vt_fault vt_good vt_tells) 0 0 (va_A (ww_Md_told qt qt_tells qt_checkBytes qt_blocks qt_data qt_modules qt_fixed qt_segmentModes qt_segmentLengths qt_modes qt_takes qt_bytes qt_words qt_block qt_tried qt_values qt_system qt_solved qt_places qt_generator qt_readBytes qt_readings ct_tells vt_thrown vt_length vt_version vt_side vt_made vt_segments vt_bits vt_filled vt_readLength vt_at vt_all vt_fault vt_good vt_tells) sz) := by
  refine Met.ofW (cc := prog_14_method_54_code) (maxL := 2) (ret := (some .int)) (by decide) rfl ?_
  intro p e s m args below meth c s₁ B hml hv
  obtain ⟨rfl, hsz, hP, hK, hD0⟩ := hv
  have hx := B.exec; have hb := B.bytes; have hr := B.returns; have hlocks := B.notSynchronized
  have ht : ∀ w ∈ lw_g, w.before _ s = true := fun w h => atoms_spec (ws := w_Md_told) B.pre w (List.mem_cons_of_mem _ h)
  have hown : s.vm.findClass "SquareSymbolsModel" = some m.cls := findClass_of_methodNamed B.named
  subst hsz
  have hD := hD0.self (sz := s.heap.size)
  generalize hAe : va_A (ww_Md_told qt qt_tells qt_checkBytes qt_blocks qt_data qt_modules qt_fixed qt_segmentModes qt_segmentLengths qt_modes qt_takes qt_bytes qt_words qt_block qt_tried qt_values qt_system qt_solved qt_places qt_generator qt_readBytes qt_readings ct_tells vt_thrown vt_length vt_version vt_side vt_made vt_segments vt_bits vt_filled vt_readLength vt_at vt_all vt_fault vt_good vt_tells) s.heap.size = A at hD ⊢
  have hA : ∀ q : Nat, s.heap.size ≤ q → A q := fun q h => by rw [← hAe]; exact Or.inr h
  have hS : va_S A s.heap s.heap [] := va_S.rf
  have hl := lv_entry ([.ref qt, .int p1]) (n := 2) (Nat.le_of_ble_eq_true rfl)
  rw [lg_entry_eq]
  generalize (lg_sl ([.ref qt, .int p1]) ++ List.replicate (2 - (lg_sl ([.ref qt, .int p1])).length) Slot.unset).toArray = ls at hl ⊢
  have hl : lv_has ls 2 [(0, .ref qt), (1, .int p1)] := hl
  refine lv_aload_n hx hb d_Md_told_0 rfl (lv_at hl 0 rfl) ?_
  refine lv_iload_n hx hb d_Md_told_1 rfl (lv_at hl 1 rfl) ?_
  obtain ⟨k2, hk2, Hf⟩ := sq_jn_e Hf
  have Jk2 : ∀ (x1 : Int32), k2 x1 = some (r0, nvt_thrown) → ∀ (H : Heap) (locs : List Loc), va_P (dC, dI) cl_All (ww_Md_told qt qt_tells qt_checkBytes qt_blocks qt_data qt_modules qt_fixed qt_segmentModes qt_segmentLengths qt_modes qt_takes qt_bytes qt_words qt_block qt_tried qt_values qt_system qt_solved qt_places qt_generator qt_readBytes qt_readings ct_tells vt_thrown vt_length vt_version vt_side vt_made vt_segments vt_bits vt_filled vt_readLength vt_at vt_all vt_fault vt_good vt_tells) H → va_D A (ww_Md_told qt qt_tells qt_checkBytes qt_blocks qt_data qt_modules qt_fixed qt_segmentModes qt_segmentLengths qt_modes qt_takes qt_bytes qt_words qt_block qt_tried qt_values qt_system qt_solved qt_places qt_generator qt_readBytes qt_readings ct_tells vt_thrown vt_length vt_version vt_side vt_made vt_segments vt_bits vt_filled vt_readLength vt_at vt_all vt_fault vt_good vt_tells) → va_S A s.heap H locs → ∀ ls : Array Slot, lv_has ls 2 [(0, .ref qt), (1, .int p1)] → W p l e (headSpec w_Md_told rm_Md_told).room s m (([.ref qt, .int p1] : List Value).toArray) below meth c H locs 0 0 (MQ below (qc_Md_told dC dI A r0 qt qt_tells qt_checkBytes qt_blocks qt_data qt_modules qt_fixed qt_segmentModes qt_segmentLengths qt_modes qt_takes qt_bytes qt_words qt_block qt_tried qt_values qt_system qt_solved qt_places qt_generator qt_readBytes qt_readings ct_tells nvt_thrown vt_length vt_version vt_side vt_made vt_segments vt_bits vt_filled vt_readLength vt_at vt_all vt_fault vt_good vt_tells) (([.ref qt, .int p1] : List Value).toArray) s 0 0 A) (F0 m 15 ls [.int x1, .ref qt]) := by
    intro x1 Hf H locs  hP hD hS ls hl
    rw [hk2] at Hf
    refine va_put (D := (dC, dI)) (ci := 10) (v := .int x1) (ty := .int) (C := R_Md) (T := F_Md) (N := 34) hx hb ht i_Md t_Md t_Md_ok n_Md hown hK hP hD hS 0 rfl rfl 0 (by decide) (ht _ tb_1062) (fun _ h9 => h9) rfl (by decide +kernel) rfl rfl (Nat.le_of_ble_eq_true rfl) d_Md_told_15 (fun H locs hP hD hS => ?_)
    replace hP : va_P (dC, dI) cl_All (ww_Md_told qt qt_tells qt_checkBytes qt_blocks qt_data qt_modules qt_fixed qt_segmentModes qt_segmentLengths qt_modes qt_takes qt_bytes qt_words qt_block qt_tried qt_values qt_system qt_solved qt_places qt_generator qt_readBytes qt_readings ct_tells x1 vt_length vt_version vt_side vt_made vt_segments vt_bits vt_filled vt_readLength vt_at vt_all vt_fault vt_good vt_tells) H := hP
    replace hD : va_D A (ww_Md_told qt qt_tells qt_checkBytes qt_blocks qt_data qt_modules qt_fixed qt_segmentModes qt_segmentLengths qt_modes qt_takes qt_bytes qt_words qt_block qt_tried qt_values qt_system qt_solved qt_places qt_generator qt_readBytes qt_readings ct_tells x1 vt_length vt_version vt_side vt_made vt_segments vt_bits vt_filled vt_readLength vt_at vt_all vt_fault vt_good vt_tells) := hD
    refine lv_aload_n hx hb d_Md_told_18 rfl (lv_at hl 0 rfl) ?_
    refine va_get (D := (dC, dI)) (ci := 10) (v := .int x1) (C := R_Md) (T := F_Md) (N := 34) hx hb ht i_Md hown hK hP 0 rfl rfl 0 (by decide) (ht _ tb_1062) (fun _ h9 => h9) rfl d_Md_told_19 ?_
    refine lv_if_le (tgt := 29) hx hb d_Md_told_22 (by decide) (fun c3 => ?_) (fun c3 => ?_)
    · replace Hf := sq_ite_t Hf c3
      refine lv_aload_n hx hb d_Md_told_29 rfl (lv_at hl 0 rfl) ?_
      refine va_get (D := (dC, dI)) (ci := 10) (v := .int vt_made) (C := R_Md) (T := F_Md) (N := 34) hx hb ht i_Md hown hK hP 0 rfl rfl 9 (by decide) (ht _ tb_1071) (fun _ h9 => h9) rfl d_Md_told_30 ?_
      refine lv_if_eq (tgt := 45) hx hb d_Md_told_33 (by decide) (fun c4 => ?_) (fun c4 => ?_)
      · replace Hf := sq_ite_t Hf c4
        refine lv_iconst (v := (-1 : Int32)) hx hb d_Md_told_45 (by decide) ?_
        obtain ⟨rfl, rfl⟩ := sq_so2 Hf
        exact W.iret hx hb hr (fun t ht hW => ⟨⟨_, (), rfl, rfl, by rw [ht]; exact hP, hD⟩, hS.F ht⟩) hS.2.2 d_Md_told_46
      · replace Hf := sq_ite_f Hf c4
        refine lv_aload_n hx hb d_Md_told_36 rfl (lv_at hl 0 rfl) ?_
        refine va_get (D := (dC, dI)) (ci := 10) (v := .ref qt_tells) (C := R_Md) (T := F_Md) (N := 34) hx hb ht i_Md hown hK hP 0 rfl rfl 10 (by decide) (ht _ tb_1072) (fun _ h9 => h9) rfl d_Md_told_37 ?_
        refine lv_iload_n hx hb d_Md_told_40 rfl (lv_at hl 1 rfl) ?_
        obtain ⟨hi5, Hf⟩ := sq_gi_e Hf
        refine va_iald hx hb hK hP 1 0 rfl rfl hi5 d_Md_told_41 ?_
        obtain ⟨x6, ex6, Hf⟩ := sq_bd_e Hf
        refine sq_top ex6 ?_
        refine lv_goto (tgt := 46) hx hb d_Md_told_42 (by decide) ?_
        obtain ⟨rfl, rfl⟩ := sq_so2 Hf
        exact W.iret hx hb hr (fun t ht hW => ⟨⟨_, (), rfl, rfl, by rw [ht]; exact hP, hD⟩, hS.F ht⟩) hS.2.2 d_Md_told_46
    · replace Hf := sq_ite_f Hf c3
      refine lv_iconst (v := (0 : Int32)) hx hb d_Md_told_25 (by decide) ?_
      refine lv_goto (tgt := 46) hx hb d_Md_told_26 (by decide) ?_
      obtain ⟨rfl, rfl⟩ := sq_so2 Hf
      exact W.iret hx hb hr (fun t ht hW => ⟨⟨_, (), rfl, rfl, by rw [ht]; exact hP, hD⟩, hS.F ht⟩) hS.2.2 d_Md_told_46
  obtain ⟨k7, hk7, Hf⟩ := sq_jn_e Hf
  have Jk7 : ∀ (_u : Unit), k7 _u = some (r0, nvt_thrown) → ∀ (H : Heap) (locs : List Loc), va_P (dC, dI) cl_All (ww_Md_told qt qt_tells qt_checkBytes qt_blocks qt_data qt_modules qt_fixed qt_segmentModes qt_segmentLengths qt_modes qt_takes qt_bytes qt_words qt_block qt_tried qt_values qt_system qt_solved qt_places qt_generator qt_readBytes qt_readings ct_tells vt_thrown vt_length vt_version vt_side vt_made vt_segments vt_bits vt_filled vt_readLength vt_at vt_all vt_fault vt_good vt_tells) H → va_D A (ww_Md_told qt qt_tells qt_checkBytes qt_blocks qt_data qt_modules qt_fixed qt_segmentModes qt_segmentLengths qt_modes qt_takes qt_bytes qt_words qt_block qt_tried qt_values qt_system qt_solved qt_places qt_generator qt_readBytes qt_readings ct_tells vt_thrown vt_length vt_version vt_side vt_made vt_segments vt_bits vt_filled vt_readLength vt_at vt_all vt_fault vt_good vt_tells) → va_S A s.heap H locs → ∀ ls : Array Slot, lv_has ls 2 [(0, .ref qt), (1, .int p1)] → W p l e (headSpec w_Md_told rm_Md_told).room s m (([.ref qt, .int p1] : List Value).toArray) below meth c H locs 0 0 (MQ below (qc_Md_told dC dI A r0 qt qt_tells qt_checkBytes qt_blocks qt_data qt_modules qt_fixed qt_segmentModes qt_segmentLengths qt_modes qt_takes qt_bytes qt_words qt_block qt_tried qt_values qt_system qt_solved qt_places qt_generator qt_readBytes qt_readings ct_tells nvt_thrown vt_length vt_version vt_side vt_made vt_segments vt_bits vt_filled vt_readLength vt_at vt_all vt_fault vt_good vt_tells) (([.ref qt, .int p1] : List Value).toArray) s 0 0 A) (F0 m 10 ls [.ref qt]) := by
    intro _u Hf H locs  hP hD hS ls hl
    rw [hk7] at Hf
    refine lv_iconst (v := (1 : Int32)) hx hb d_Md_told_10 (by decide) ?_
    refine lv_goto (tgt := 15) hx hb d_Md_told_11 (by decide) ?_
    exact Jk2 (1 : Int32) Hf _ _  hP hD hS _ (lv_sub hl [0, 1] rfl)
  refine lv_if_lt (tgt := 10) hx hb d_Md_told_2 (by decide) (fun c8 => ?_) (fun c8 => ?_)
  · replace Hf := sq_ite_t Hf c8
    exact Jk7 () Hf _ _  hP hD hS _ (lv_sub hl [0, 1] rfl)
  · replace Hf := sq_ite_f Hf c8
    refine lv_iload_n hx hb d_Md_told_5 rfl (lv_at hl 1 rfl) ?_
    refine lv_iconst (v := (5 : Int32)) hx hb d_Md_told_6 (by decide) ?_
    refine lv_icmp_le (tgt := 14) hx hb d_Md_told_7 (by decide) (fun c9 => ?_) (fun c9 => ?_)
    · replace Hf := sq_ite_t Hf c9
      refine lv_iconst (v := (0 : Int32)) hx hb d_Md_told_14 (by decide) ?_
      exact Jk2 (0 : Int32) Hf _ _  hP hD hS _ (lv_sub hl [0, 1] rfl)
    · replace Hf := sq_ite_f Hf c9
      exact Jk7 () Hf _ _  hP hD hS _ (lv_sub hl [0, 1] rfl)

def fn_Md_segment (p1 : Int32) (p2 : Int32) (vt_thrown : Int32) (vt_made : Int32) (vt_segments : Int32) (vt_segmentLengths : Nat → Int32) (vt_segmentModes : Nat → Int32) : Option (Int32 × Int32) :=
  sq_jn (fun (x1 : Int32) => if x1 ≤ 0 then (if vt_made = 0 then (some ((-1 : Int32), x1)) else (if p1 < 0 then (some ((-1 : Int32), x1)) else (if p1 < vt_segments then (if p2 = 0 then (sq_gi p1 3000 <| sq_bd (vt_segmentModes p1.toNatClampNeg) fun x11 => some (x11, x1)) else (sq_gi p1 3000 <| sq_bd (vt_segmentLengths p1.toNatClampNeg) fun x9 => some (x9, x1))) else (some ((-1 : Int32), x1))))) else (some ((0 : Int32), x1))) fun k2 => sq_jn (fun (_ : Unit) => k2 (1 : Int32)) fun k12 => if p2 < 0 then (k12 ()) else (if p2 ≤ (1 : Int32) then (k2 (0 : Int32)) else (k12 ()))
abbrev ww_Md_segment (qt qt_segmentLengths qt_segmentModes qt_checkBytes qt_blocks qt_data qt_modules qt_fixed qt_tells qt_modes qt_takes qt_bytes qt_words qt_block qt_tried qt_values qt_system qt_solved qt_places qt_generator qt_readBytes qt_readings : Nat) (ct_segmentLengths ct_segmentModes : ClassId) (vt_thrown : Int32) (vt_length : Int32) (vt_version : Int32) (vt_side : Int32) (vt_made : Int32) (vt_segments : Int32) (vt_bits : Int32) (vt_filled : Int32) (vt_readLength : Int32) (vt_at : Int32) (vt_all : Int32) (vt_fault : Int32) (vt_good : Int32) (vt_segmentLengths : Nat → Int32) (vt_segmentModes : Nat → Int32) : va_W := [(qt, .inr (10, [.int vt_thrown, .ref qt_checkBytes, .ref qt_blocks, .ref qt_data, .int vt_length, .ref qt_modules, .ref qt_fixed, .int vt_version, .int vt_side, .int vt_made, .ref qt_tells, .ref qt_segmentModes, .ref qt_segmentLengths, .int vt_segments, .ref qt_modes, .ref qt_takes, .int vt_bits, .ref qt_bytes, .ref qt_words, .int vt_filled, .ref qt_block, .ref qt_tried, .ref qt_values, .ref qt_system, .ref qt_solved, .ref qt_places, .ref qt_generator, .ref qt_readBytes, .int vt_readLength, .int vt_at, .int vt_all, .int vt_fault, .int vt_good, .ref qt_readings])), (qt_segmentLengths, .inl (ct_segmentLengths, 3000, .inl vt_segmentLengths)), (qt_segmentModes, .inl (ct_segmentModes, 3000, .inl vt_segmentModes))]

def rm_Md_segment : Room := { frames := 0, cells := 0, slots := 0, locals := 0 }
abbrev qc_Md_segment (dC : Nat → ClassId) (dI : Nat → Nat → Nat) (A : Nat → Prop) (r0 : Int32) (qt qt_segmentLengths qt_segmentModes qt_checkBytes qt_blocks qt_data qt_modules qt_fixed qt_tells qt_modes qt_takes qt_bytes qt_words qt_block qt_tried qt_values qt_system qt_solved qt_places qt_generator qt_readBytes qt_readings : Nat) (ct_segmentLengths ct_segmentModes : ClassId) (vt_thrown : Int32) (vt_length : Int32) (vt_version : Int32) (vt_side : Int32) (vt_made : Int32) (vt_segments : Int32) (vt_bits : Int32) (vt_filled : Int32) (vt_readLength : Int32) (vt_at : Int32) (vt_all : Int32) (vt_fault : Int32) (vt_good : Int32) (vt_segmentLengths : Nat → Int32) (vt_segmentModes : Nat → Int32) : Array Value → State → Outcome → State → Prop := va_Qi (fun r (_ : Unit) => r = r0) (fun _ t => va_P (dC, dI) cl_All (ww_Md_segment qt qt_segmentLengths qt_segmentModes qt_checkBytes qt_blocks qt_data qt_modules qt_fixed qt_tells qt_modes qt_takes qt_bytes qt_words qt_block qt_tried qt_values qt_system qt_solved qt_places qt_generator qt_readBytes qt_readings ct_segmentLengths ct_segmentModes vt_thrown vt_length vt_version vt_side vt_made vt_segments vt_bits vt_filled vt_readLength vt_at vt_all vt_fault vt_good vt_segmentLengths vt_segmentModes) t.heap ∧ va_D A (ww_Md_segment qt qt_segmentLengths qt_segmentModes qt_checkBytes qt_blocks qt_data qt_modules qt_fixed qt_tells qt_modes qt_takes qt_bytes qt_words qt_block qt_tried qt_values qt_system qt_solved qt_places qt_generator qt_readBytes qt_readings ct_segmentLengths ct_segmentModes vt_thrown vt_length vt_version vt_side vt_made vt_segments vt_bits vt_filled vt_readLength vt_at vt_all vt_fault vt_good vt_segmentLengths vt_segmentModes)) A

set_option maxHeartbeats 4000000 in
set_option maxRecDepth 100000 in
theorem kt_Md_segment (l : Launch) (dC : Nat → ClassId) (dI : Nat → Nat → Nat) (qt qt_segmentLengths qt_segmentModes qt_checkBytes qt_blocks qt_data qt_modules qt_fixed qt_tells qt_modes qt_takes qt_bytes qt_words qt_block qt_tried qt_values qt_system qt_solved qt_places qt_generator qt_readBytes qt_readings : Nat) (ct_segmentLengths ct_segmentModes : ClassId) (vt_thrown : Int32) (vt_length : Int32) (vt_version : Int32) (vt_side : Int32) (vt_made : Int32) (vt_segments : Int32) (vt_bits : Int32) (vt_filled : Int32) (vt_readLength : Int32) (vt_at : Int32) (vt_all : Int32) (vt_fault : Int32) (vt_good : Int32) (vt_segmentLengths : Nat → Int32) (vt_segmentModes : Nat → Int32) (p1 : Int32) (p2 : Int32) (sz : Nat) (r0 : Int32) (nvt_thrown : Int32) (Hf : fn_Md_segment p1 p2 vt_thrown vt_made vt_segments vt_segmentLengths vt_segmentModes = some (r0, nvt_thrown)) : Met l y_Md_segment w_Md_segment rm_Md_segment (va_Pc [.ref qt, .int p1, .int p2] (fun U => U.heap.size = sz ∧ va_P (dC, dI) cl_All (ww_Md_segment qt qt_segmentLengths qt_segmentModes qt_checkBytes qt_blocks qt_data qt_modules qt_fixed qt_tells qt_modes qt_takes qt_bytes qt_words qt_block qt_tried qt_values qt_system qt_solved qt_places qt_generator qt_readBytes qt_readings ct_segmentLengths ct_segmentModes vt_thrown vt_length vt_version vt_side vt_made vt_segments vt_bits vt_filled vt_readLength vt_at vt_all vt_fault vt_good vt_segmentLengths vt_segmentModes) U.heap ∧ va_K (dC, dI) cl_All [(ct_segmentLengths, .int), (ct_segmentModes, .int)] U ∧ va_D (fun _ => True) (ww_Md_segment qt qt_segmentLengths qt_segmentModes qt_checkBytes qt_blocks qt_data qt_modules qt_fixed qt_tells qt_modes qt_takes qt_bytes qt_words qt_block qt_tried qt_values qt_system qt_solved qt_places qt_generator qt_readBytes qt_readings ct_segmentLengths ct_segmentModes vt_thrown vt_length vt_version vt_side vt_made vt_segments vt_bits vt_filled vt_readLength vt_at vt_all vt_fault vt_good vt_segmentLengths vt_segmentModes))) (qc_Md_segment dC dI (va_A (ww_Md_segment qt qt_segmentLengths qt_segmentModes qt_checkBytes qt_blocks qt_data qt_modules qt_fixed qt_tells qt_modes qt_takes qt_bytes qt_words qt_block qt_tried qt_values qt_system qt_solved qt_places qt_generator qt_readBytes qt_readings ct_segmentLengths ct_segmentModes vt_thrown vt_length vt_version vt_side vt_made vt_segments vt_bits vt_filled vt_readLength vt_at vt_all vt_fault vt_good vt_segmentLengths vt_segmentModes) sz) r0 qt qt_segmentLengths qt_segmentModes qt_checkBytes qt_blocks qt_data qt_modules qt_fixed qt_tells qt_modes qt_takes qt_bytes qt_words qt_block qt_tried qt_values qt_system qt_solved qt_places qt_generator qt_readBytes qt_readings ct_segmentLengths ct_segmentModes nvt_thrown vt_length vt_version vt_side vt_made vt_segments vt_bits vt_filled vt_readLength vt_at vt_all vt_fault vt_good vt_segmentLengths vt_segmentModes) 0 0 (va_A (ww_Md_segment qt qt_segmentLengths qt_segmentModes qt_checkBytes qt_blocks qt_data qt_modules qt_fixed qt_tells qt_modes qt_takes qt_bytes qt_words qt_block qt_tried qt_values qt_system qt_solved qt_places qt_generator qt_readBytes qt_readings ct_segmentLengths ct_segmentModes vt_thrown vt_length vt_version vt_side vt_made vt_segments vt_bits vt_filled vt_readLength vt_at vt_all vt_fault vt_good vt_segmentLengths vt_segmentModes) sz) := by
  refine Met.ofW (cc := prog_14_method_55_code) (maxL := 3) (ret := (some .int)) (by decide) rfl ?_
  intro p e s m args below meth c s₁ B hml hv
  obtain ⟨rfl, hsz, hP, hK, hD0⟩ := hv
  have hx := B.exec; have hb := B.bytes; have hr := B.returns; have hlocks := B.notSynchronized
  have ht : ∀ w ∈ lw_g, w.before _ s = true := fun w h => atoms_spec (ws := w_Md_segment) B.pre w (List.mem_cons_of_mem _ h)
  have hown : s.vm.findClass "SquareSymbolsModel" = some m.cls := findClass_of_methodNamed B.named
  subst hsz
  have hD := hD0.self (sz := s.heap.size)
  generalize hAe : va_A (ww_Md_segment qt qt_segmentLengths qt_segmentModes qt_checkBytes qt_blocks qt_data qt_modules qt_fixed qt_tells qt_modes qt_takes qt_bytes qt_words qt_block qt_tried qt_values qt_system qt_solved qt_places qt_generator qt_readBytes qt_readings ct_segmentLengths ct_segmentModes vt_thrown vt_length vt_version vt_side vt_made vt_segments vt_bits vt_filled vt_readLength vt_at vt_all vt_fault vt_good vt_segmentLengths vt_segmentModes) s.heap.size = A at hD ⊢
  have hA : ∀ q : Nat, s.heap.size ≤ q → A q := fun q h => by rw [← hAe]; exact Or.inr h
  have hS : va_S A s.heap s.heap [] := va_S.rf
  have hl := lv_entry ([.ref qt, .int p1, .int p2]) (n := 3) (Nat.le_of_ble_eq_true rfl)
  rw [lg_entry_eq]
  generalize (lg_sl ([.ref qt, .int p1, .int p2]) ++ List.replicate (3 - (lg_sl ([.ref qt, .int p1, .int p2])).length) Slot.unset).toArray = ls at hl ⊢
  have hl : lv_has ls 3 [(0, .ref qt), (1, .int p1), (2, .int p2)] := hl
  refine lv_aload_n hx hb d_Md_segment_0 rfl (lv_at hl 0 rfl) ?_
  refine lv_iload_n hx hb d_Md_segment_1 rfl (lv_at hl 2 rfl) ?_
  obtain ⟨k2, hk2, Hf⟩ := sq_jn_e Hf
  have Jk2 : ∀ (x1 : Int32), k2 x1 = some (r0, nvt_thrown) → ∀ (H : Heap) (locs : List Loc), va_P (dC, dI) cl_All (ww_Md_segment qt qt_segmentLengths qt_segmentModes qt_checkBytes qt_blocks qt_data qt_modules qt_fixed qt_tells qt_modes qt_takes qt_bytes qt_words qt_block qt_tried qt_values qt_system qt_solved qt_places qt_generator qt_readBytes qt_readings ct_segmentLengths ct_segmentModes vt_thrown vt_length vt_version vt_side vt_made vt_segments vt_bits vt_filled vt_readLength vt_at vt_all vt_fault vt_good vt_segmentLengths vt_segmentModes) H → va_D A (ww_Md_segment qt qt_segmentLengths qt_segmentModes qt_checkBytes qt_blocks qt_data qt_modules qt_fixed qt_tells qt_modes qt_takes qt_bytes qt_words qt_block qt_tried qt_values qt_system qt_solved qt_places qt_generator qt_readBytes qt_readings ct_segmentLengths ct_segmentModes vt_thrown vt_length vt_version vt_side vt_made vt_segments vt_bits vt_filled vt_readLength vt_at vt_all vt_fault vt_good vt_segmentLengths vt_segmentModes) → va_S A s.heap H locs → ∀ ls : Array Slot, lv_has ls 3 [(0, .ref qt), (1, .int p1), (2, .int p2)] → W p l e (headSpec w_Md_segment rm_Md_segment).room s m (([.ref qt, .int p1, .int p2] : List Value).toArray) below meth c H locs 0 0 (MQ below (qc_Md_segment dC dI A r0 qt qt_segmentLengths qt_segmentModes qt_checkBytes qt_blocks qt_data qt_modules qt_fixed qt_tells qt_modes qt_takes qt_bytes qt_words qt_block qt_tried qt_values qt_system qt_solved qt_places qt_generator qt_readBytes qt_readings ct_segmentLengths ct_segmentModes nvt_thrown vt_length vt_version vt_side vt_made vt_segments vt_bits vt_filled vt_readLength vt_at vt_all vt_fault vt_good vt_segmentLengths vt_segmentModes) (([.ref qt, .int p1, .int p2] : List Value).toArray) s 0 0 A) (F0 m 15 ls [.int x1, .ref qt]) := by
    intro x1 Hf H locs  hP hD hS ls hl
    rw [hk2] at Hf
    refine va_put (D := (dC, dI)) (ci := 10) (v := .int x1) (ty := .int) (C := R_Md) (T := F_Md) (N := 34) hx hb ht i_Md t_Md t_Md_ok n_Md hown hK hP hD hS 0 rfl rfl 0 (by decide) (ht _ tb_1062) (fun _ h9 => h9) rfl (by decide +kernel) rfl rfl (Nat.le_of_ble_eq_true rfl) d_Md_segment_15 (fun H locs hP hD hS => ?_)
    replace hP : va_P (dC, dI) cl_All (ww_Md_segment qt qt_segmentLengths qt_segmentModes qt_checkBytes qt_blocks qt_data qt_modules qt_fixed qt_tells qt_modes qt_takes qt_bytes qt_words qt_block qt_tried qt_values qt_system qt_solved qt_places qt_generator qt_readBytes qt_readings ct_segmentLengths ct_segmentModes x1 vt_length vt_version vt_side vt_made vt_segments vt_bits vt_filled vt_readLength vt_at vt_all vt_fault vt_good vt_segmentLengths vt_segmentModes) H := hP
    replace hD : va_D A (ww_Md_segment qt qt_segmentLengths qt_segmentModes qt_checkBytes qt_blocks qt_data qt_modules qt_fixed qt_tells qt_modes qt_takes qt_bytes qt_words qt_block qt_tried qt_values qt_system qt_solved qt_places qt_generator qt_readBytes qt_readings ct_segmentLengths ct_segmentModes x1 vt_length vt_version vt_side vt_made vt_segments vt_bits vt_filled vt_readLength vt_at vt_all vt_fault vt_good vt_segmentLengths vt_segmentModes) := hD
    refine lv_aload_n hx hb d_Md_segment_18 rfl (lv_at hl 0 rfl) ?_
    refine va_get (D := (dC, dI)) (ci := 10) (v := .int x1) (C := R_Md) (T := F_Md) (N := 34) hx hb ht i_Md hown hK hP 0 rfl rfl 0 (by decide) (ht _ tb_1062) (fun _ h9 => h9) rfl d_Md_segment_19 ?_
    refine lv_if_le (tgt := 27) hx hb d_Md_segment_22 (by decide) (fun c3 => ?_) (fun c3 => ?_)
    · replace Hf := sq_ite_t Hf c3
      refine lv_aload_n hx hb d_Md_segment_27 rfl (lv_at hl 0 rfl) ?_
      refine va_get (D := (dC, dI)) (ci := 10) (v := .int vt_made) (C := R_Md) (T := F_Md) (N := 34) hx hb ht i_Md hown hK hP 0 rfl rfl 9 (by decide) (ht _ tb_1071) (fun _ h9 => h9) rfl d_Md_segment_28 ?_
      refine lv_if_eq (tgt := 46) hx hb d_Md_segment_31 (by decide) (fun c4 => ?_) (fun c4 => ?_)
      · replace Hf := sq_ite_t Hf c4
        refine lv_iconst (v := (-1 : Int32)) hx hb d_Md_segment_46 (by decide) ?_
        refine lv_goto (tgt := 69) hx hb d_Md_segment_47 (by decide) ?_
        obtain ⟨rfl, rfl⟩ := sq_so2 Hf
        exact W.iret hx hb hr (fun t ht hW => ⟨⟨_, (), rfl, rfl, by rw [ht]; exact hP, hD⟩, hS.F ht⟩) hS.2.2 d_Md_segment_69
      · replace Hf := sq_ite_f Hf c4
        refine lv_iload_n hx hb d_Md_segment_34 rfl (lv_at hl 1 rfl) ?_
        refine lv_if_lt (tgt := 46) hx hb d_Md_segment_35 (by decide) (fun c5 => ?_) (fun c5 => ?_)
        · replace Hf := sq_ite_t Hf c5
          refine lv_iconst (v := (-1 : Int32)) hx hb d_Md_segment_46 (by decide) ?_
          refine lv_goto (tgt := 69) hx hb d_Md_segment_47 (by decide) ?_
          obtain ⟨rfl, rfl⟩ := sq_so2 Hf
          exact W.iret hx hb hr (fun t ht hW => ⟨⟨_, (), rfl, rfl, by rw [ht]; exact hP, hD⟩, hS.F ht⟩) hS.2.2 d_Md_segment_69
        · replace Hf := sq_ite_f Hf c5
          refine lv_iload_n hx hb d_Md_segment_38 rfl (lv_at hl 1 rfl) ?_
          refine lv_aload_n hx hb d_Md_segment_39 rfl (lv_at hl 0 rfl) ?_
          refine va_get (D := (dC, dI)) (ci := 10) (v := .int vt_segments) (C := R_Md) (T := F_Md) (N := 34) hx hb ht i_Md hown hK hP 0 rfl rfl 13 (by decide) (ht _ tb_1075) (fun _ h9 => h9) rfl d_Md_segment_40 ?_
          refine lv_icmp_lt (tgt := 50) hx hb d_Md_segment_43 (by decide) (fun c6 => ?_) (fun c6 => ?_)
          · replace Hf := sq_ite_t Hf c6
            refine lv_iload_n hx hb d_Md_segment_50 rfl (lv_at hl 2 rfl) ?_
            refine lv_if_ne (tgt := 63) hx hb d_Md_segment_51 (by decide) (fun c7 => ?_) (fun c7 => ?_)
            · replace Hf := sq_ite_f Hf c7
              refine lv_aload_n hx hb d_Md_segment_63 rfl (lv_at hl 0 rfl) ?_
              refine va_get (D := (dC, dI)) (ci := 10) (v := .ref qt_segmentLengths) (C := R_Md) (T := F_Md) (N := 34) hx hb ht i_Md hown hK hP 0 rfl rfl 12 (by decide) (ht _ tb_1074) (fun _ h9 => h9) rfl d_Md_segment_64 ?_
              refine lv_iload_n hx hb d_Md_segment_67 rfl (lv_at hl 1 rfl) ?_
              obtain ⟨hi8, Hf⟩ := sq_gi_e Hf
              refine va_iald hx hb hK hP 1 0 rfl rfl hi8 d_Md_segment_68 ?_
              obtain ⟨x9, ex9, Hf⟩ := sq_bd_e Hf
              refine sq_top ex9 ?_
              obtain ⟨rfl, rfl⟩ := sq_so2 Hf
              exact W.iret hx hb hr (fun t ht hW => ⟨⟨_, (), rfl, rfl, by rw [ht]; exact hP, hD⟩, hS.F ht⟩) hS.2.2 d_Md_segment_69
            · replace Hf := sq_ite_t Hf c7
              refine lv_aload_n hx hb d_Md_segment_54 rfl (lv_at hl 0 rfl) ?_
              refine va_get (D := (dC, dI)) (ci := 10) (v := .ref qt_segmentModes) (C := R_Md) (T := F_Md) (N := 34) hx hb ht i_Md hown hK hP 0 rfl rfl 11 (by decide) (ht _ tb_1073) (fun _ h9 => h9) rfl d_Md_segment_55 ?_
              refine lv_iload_n hx hb d_Md_segment_58 rfl (lv_at hl 1 rfl) ?_
              obtain ⟨hi10, Hf⟩ := sq_gi_e Hf
              refine va_iald hx hb hK hP 2 1 rfl rfl hi10 d_Md_segment_59 ?_
              obtain ⟨x11, ex11, Hf⟩ := sq_bd_e Hf
              refine sq_top ex11 ?_
              refine lv_goto (tgt := 69) hx hb d_Md_segment_60 (by decide) ?_
              obtain ⟨rfl, rfl⟩ := sq_so2 Hf
              exact W.iret hx hb hr (fun t ht hW => ⟨⟨_, (), rfl, rfl, by rw [ht]; exact hP, hD⟩, hS.F ht⟩) hS.2.2 d_Md_segment_69
          · replace Hf := sq_ite_f Hf c6
            refine lv_iconst (v := (-1 : Int32)) hx hb d_Md_segment_46 (by decide) ?_
            refine lv_goto (tgt := 69) hx hb d_Md_segment_47 (by decide) ?_
            obtain ⟨rfl, rfl⟩ := sq_so2 Hf
            exact W.iret hx hb hr (fun t ht hW => ⟨⟨_, (), rfl, rfl, by rw [ht]; exact hP, hD⟩, hS.F ht⟩) hS.2.2 d_Md_segment_69
    · replace Hf := sq_ite_f Hf c3
      refine lv_iconst (v := (0 : Int32)) hx hb d_Md_segment_25 (by decide) ?_
      obtain ⟨rfl, rfl⟩ := sq_so2 Hf
      exact W.iret hx hb hr (fun t ht hW => ⟨⟨_, (), rfl, rfl, by rw [ht]; exact hP, hD⟩, hS.F ht⟩) hS.2.2 d_Md_segment_26
  obtain ⟨k12, hk12, Hf⟩ := sq_jn_e Hf
  have Jk12 : ∀ (_u : Unit), k12 _u = some (r0, nvt_thrown) → ∀ (H : Heap) (locs : List Loc), va_P (dC, dI) cl_All (ww_Md_segment qt qt_segmentLengths qt_segmentModes qt_checkBytes qt_blocks qt_data qt_modules qt_fixed qt_tells qt_modes qt_takes qt_bytes qt_words qt_block qt_tried qt_values qt_system qt_solved qt_places qt_generator qt_readBytes qt_readings ct_segmentLengths ct_segmentModes vt_thrown vt_length vt_version vt_side vt_made vt_segments vt_bits vt_filled vt_readLength vt_at vt_all vt_fault vt_good vt_segmentLengths vt_segmentModes) H → va_D A (ww_Md_segment qt qt_segmentLengths qt_segmentModes qt_checkBytes qt_blocks qt_data qt_modules qt_fixed qt_tells qt_modes qt_takes qt_bytes qt_words qt_block qt_tried qt_values qt_system qt_solved qt_places qt_generator qt_readBytes qt_readings ct_segmentLengths ct_segmentModes vt_thrown vt_length vt_version vt_side vt_made vt_segments vt_bits vt_filled vt_readLength vt_at vt_all vt_fault vt_good vt_segmentLengths vt_segmentModes) → va_S A s.heap H locs → ∀ ls : Array Slot, lv_has ls 3 [(0, .ref qt), (1, .int p1), (2, .int p2)] → W p l e (headSpec w_Md_segment rm_Md_segment).room s m (([.ref qt, .int p1, .int p2] : List Value).toArray) below meth c H locs 0 0 (MQ below (qc_Md_segment dC dI A r0 qt qt_segmentLengths qt_segmentModes qt_checkBytes qt_blocks qt_data qt_modules qt_fixed qt_tells qt_modes qt_takes qt_bytes qt_words qt_block qt_tried qt_values qt_system qt_solved qt_places qt_generator qt_readBytes qt_readings ct_segmentLengths ct_segmentModes nvt_thrown vt_length vt_version vt_side vt_made vt_segments vt_bits vt_filled vt_readLength vt_at vt_all vt_fault vt_good vt_segmentLengths vt_segmentModes) (([.ref qt, .int p1, .int p2] : List Value).toArray) s 0 0 A) (F0 m 10 ls [.ref qt]) := by
    intro _u Hf H locs  hP hD hS ls hl
    rw [hk12] at Hf
    refine lv_iconst (v := (1 : Int32)) hx hb d_Md_segment_10 (by decide) ?_
    refine lv_goto (tgt := 15) hx hb d_Md_segment_11 (by decide) ?_
    exact Jk2 (1 : Int32) Hf _ _  hP hD hS _ (lv_sub hl [0, 1, 2] rfl)
  refine lv_if_lt (tgt := 10) hx hb d_Md_segment_2 (by decide) (fun c13 => ?_) (fun c13 => ?_)
  · replace Hf := sq_ite_t Hf c13
    exact Jk12 () Hf _ _  hP hD hS _ (lv_sub hl [0, 1, 2] rfl)
  · replace Hf := sq_ite_f Hf c13
    refine lv_iload_n hx hb d_Md_segment_5 rfl (lv_at hl 2 rfl) ?_
    refine lv_iconst (v := (1 : Int32)) hx hb d_Md_segment_6 (by decide) ?_
    refine lv_icmp_le (tgt := 14) hx hb d_Md_segment_7 (by decide) (fun c14 => ?_) (fun c14 => ?_)
    · replace Hf := sq_ite_t Hf c14
      refine lv_iconst (v := (0 : Int32)) hx hb d_Md_segment_14 (by decide) ?_
      exact Jk2 (0 : Int32) Hf _ _  hP hD hS _ (lv_sub hl [0, 1, 2] rfl)
    · replace Hf := sq_ite_f Hf c14
      exact Jk12 () Hf _ _  hP hD hS _ (lv_sub hl [0, 1, 2] rfl)

def fn_Md_row_L1 (p1 : Int32) (p2 : Int32) (vt_version : Int32) (vt_side : Int32) (vt_modules : Nat → Int32) : Nat → Int64 → Int32 → Option (Int64 × Int32)
  | 0, _, _ => none
  | m1 + 1, w1, x2 => if (64 : Int32) ≤ x2 then (some (w1, (0 : Int32))) else (sq_bd (sq_i2l p1) fun w4 => sq_bd (sq_i2l x2) fun w5 => sq_bd (w4 + w5) fun w6 => sq_jn (fun (x7 : Int32) => sq_jn (fun (w9 : Int64) => sq_bd (x2 + (1 : Int32)) fun x11 => fn_Md_row_L1 p1 p2 vt_version vt_side vt_modules m1 w9 x11) fun k10 => sq_jn (fun (_ : Unit) => k10 w1) fun k12 => if x7 = 0 then (k12 ()) else (sq_bd (sq_l2i w6) fun x14 => sq_cb1 (fn_Md_moduleAt x14 p2) fun r15 => sq_gi r15 31329 <| sq_bd (vt_modules r15.toNatClampNeg) fun x18 => if x18 = (1 : Int32) then (sq_bd (sq_lshl (1 : Int64) x2) fun w20 => k10 (w1 ||| w20)) else (k12 ()))) fun k8 => sq_jn (fun (_ : Unit) => k8 (0 : Int32)) fun k21 => if vt_version ≤ 0 then (k21 ()) else (if p2 < 0 then (k21 ()) else (if vt_side ≤ p2 then (k21 ()) else (sq_bd (sq_lcmp w6 (0 : Int64)) fun x25 => if x25 < 0 then (k21 ()) else (sq_bd (sq_i2l vt_side) fun w27 => sq_bd (sq_lcmp w6 w27) fun x28 => if 0 ≤ x28 then (k21 ()) else (k8 (1 : Int32)))))))
theorem fn_Md_row_L1_s (p1 : Int32) (p2 : Int32) (vt_version : Int32) (vt_side : Int32) (vt_modules : Nat → Int32) (m1 : Nat) (w1 : Int64) (x2 : Int32) : fn_Md_row_L1 p1 p2 vt_version vt_side vt_modules (m1 + 1) w1 x2 = if (64 : Int32) ≤ x2 then (some (w1, (0 : Int32))) else (sq_bd (sq_i2l p1) fun w4 => sq_bd (sq_i2l x2) fun w5 => sq_bd (w4 + w5) fun w6 => sq_jn (fun (x7 : Int32) => sq_jn (fun (w9 : Int64) => sq_bd (x2 + (1 : Int32)) fun x11 => fn_Md_row_L1 p1 p2 vt_version vt_side vt_modules m1 w9 x11) fun k10 => sq_jn (fun (_ : Unit) => k10 w1) fun k12 => if x7 = 0 then (k12 ()) else (sq_bd (sq_l2i w6) fun x14 => sq_cb1 (fn_Md_moduleAt x14 p2) fun r15 => sq_gi r15 31329 <| sq_bd (vt_modules r15.toNatClampNeg) fun x18 => if x18 = (1 : Int32) then (sq_bd (sq_lshl (1 : Int64) x2) fun w20 => k10 (w1 ||| w20)) else (k12 ()))) fun k8 => sq_jn (fun (_ : Unit) => k8 (0 : Int32)) fun k21 => if vt_version ≤ 0 then (k21 ()) else (if p2 < 0 then (k21 ()) else (if vt_side ≤ p2 then (k21 ()) else (sq_bd (sq_lcmp w6 (0 : Int64)) fun x25 => if x25 < 0 then (k21 ()) else (sq_bd (sq_i2l vt_side) fun w27 => sq_bd (sq_lcmp w6 w27) fun x28 => if 0 ≤ x28 then (k21 ()) else (k8 (1 : Int32))))))) := rfl
def fn_Md_row (n0 : Nat) (p1 : Int32) (p2 : Int32) (vt_thrown : Int32) (vt_version : Int32) (vt_side : Int32) (vt_modules : Nat → Int32) : Option (Int64 × Int32) :=
  fn_Md_row_L1 p1 p2 vt_version vt_side vt_modules n0 (0 : Int64) (0 : Int32)
abbrev ww_Md_row (qt qt_modules qt_checkBytes qt_blocks qt_data qt_fixed qt_tells qt_segmentModes qt_segmentLengths qt_modes qt_takes qt_bytes qt_words qt_block qt_tried qt_values qt_system qt_solved qt_places qt_generator qt_readBytes qt_readings : Nat) (ct_modules : ClassId) (vt_thrown : Int32) (vt_length : Int32) (vt_version : Int32) (vt_side : Int32) (vt_made : Int32) (vt_segments : Int32) (vt_bits : Int32) (vt_filled : Int32) (vt_readLength : Int32) (vt_at : Int32) (vt_all : Int32) (vt_fault : Int32) (vt_good : Int32) (vt_modules : Nat → Int32) : va_W := [(qt, .inr (10, [.int vt_thrown, .ref qt_checkBytes, .ref qt_blocks, .ref qt_data, .int vt_length, .ref qt_modules, .ref qt_fixed, .int vt_version, .int vt_side, .int vt_made, .ref qt_tells, .ref qt_segmentModes, .ref qt_segmentLengths, .int vt_segments, .ref qt_modes, .ref qt_takes, .int vt_bits, .ref qt_bytes, .ref qt_words, .int vt_filled, .ref qt_block, .ref qt_tried, .ref qt_values, .ref qt_system, .ref qt_solved, .ref qt_places, .ref qt_generator, .ref qt_readBytes, .int vt_readLength, .int vt_at, .int vt_all, .int vt_fault, .int vt_good, .ref qt_readings])), (qt_modules, .inl (ct_modules, 31329, .inl vt_modules))]

def rm_Md_row : Room := { frames := 1, cells := 0, slots := 0, locals := 22 }
abbrev qc_Md_row (dC : Nat → ClassId) (dI : Nat → Nat → Nat) (A : Nat → Prop) (r0 : Int64) (qt qt_modules qt_checkBytes qt_blocks qt_data qt_fixed qt_tells qt_segmentModes qt_segmentLengths qt_modes qt_takes qt_bytes qt_words qt_block qt_tried qt_values qt_system qt_solved qt_places qt_generator qt_readBytes qt_readings : Nat) (ct_modules : ClassId) (vt_thrown : Int32) (vt_length : Int32) (vt_version : Int32) (vt_side : Int32) (vt_made : Int32) (vt_segments : Int32) (vt_bits : Int32) (vt_filled : Int32) (vt_readLength : Int32) (vt_at : Int32) (vt_all : Int32) (vt_fault : Int32) (vt_good : Int32) (vt_modules : Nat → Int32) : Array Value → State → Outcome → State → Prop := va_Ql (fun r (_ : Unit) => r = r0) (fun _ t => va_P (dC, dI) cl_All (ww_Md_row qt qt_modules qt_checkBytes qt_blocks qt_data qt_fixed qt_tells qt_segmentModes qt_segmentLengths qt_modes qt_takes qt_bytes qt_words qt_block qt_tried qt_values qt_system qt_solved qt_places qt_generator qt_readBytes qt_readings ct_modules vt_thrown vt_length vt_version vt_side vt_made vt_segments vt_bits vt_filled vt_readLength vt_at vt_all vt_fault vt_good vt_modules) t.heap ∧ va_D A (ww_Md_row qt qt_modules qt_checkBytes qt_blocks qt_data qt_fixed qt_tells qt_segmentModes qt_segmentLengths qt_modes qt_takes qt_bytes qt_words qt_block qt_tried qt_values qt_system qt_solved qt_places qt_generator qt_readBytes qt_readings ct_modules vt_thrown vt_length vt_version vt_side vt_made vt_segments vt_bits vt_filled vt_readLength vt_at vt_all vt_fault vt_good vt_modules)) A

set_option maxHeartbeats 4000000 in
set_option maxRecDepth 100000 in
theorem kt_Md_row (l : Launch) (dC : Nat → ClassId) (dI : Nat → Nat → Nat) (qt qt_modules qt_checkBytes qt_blocks qt_data qt_fixed qt_tells qt_segmentModes qt_segmentLengths qt_modes qt_takes qt_bytes qt_words qt_block qt_tried qt_values qt_system qt_solved qt_places qt_generator qt_readBytes qt_readings : Nat) (ct_modules : ClassId) (vt_thrown : Int32) (vt_length : Int32) (vt_version : Int32) (vt_side : Int32) (vt_made : Int32) (vt_segments : Int32) (vt_bits : Int32) (vt_filled : Int32) (vt_readLength : Int32) (vt_at : Int32) (vt_all : Int32) (vt_fault : Int32) (vt_good : Int32) (vt_modules : Nat → Int32) (p1 : Int32) (p2 : Int32) (sz : Nat) (n0 : Nat) (r0 : Int64) (nvt_thrown : Int32) (Hf : fn_Md_row n0 p1 p2 vt_thrown vt_version vt_side vt_modules = some (r0, nvt_thrown)) : Met l y_Md_row w_Md_row rm_Md_row (va_Pc [.ref qt, .int p1, .int p2] (fun U => U.heap.size = sz ∧ va_P (dC, dI) cl_All (ww_Md_row qt qt_modules qt_checkBytes qt_blocks qt_data qt_fixed qt_tells qt_segmentModes qt_segmentLengths qt_modes qt_takes qt_bytes qt_words qt_block qt_tried qt_values qt_system qt_solved qt_places qt_generator qt_readBytes qt_readings ct_modules vt_thrown vt_length vt_version vt_side vt_made vt_segments vt_bits vt_filled vt_readLength vt_at vt_all vt_fault vt_good vt_modules) U.heap ∧ va_K (dC, dI) cl_All [(ct_modules, .int)] U ∧ va_D (fun _ => True) (ww_Md_row qt qt_modules qt_checkBytes qt_blocks qt_data qt_fixed qt_tells qt_segmentModes qt_segmentLengths qt_modes qt_takes qt_bytes qt_words qt_block qt_tried qt_values qt_system qt_solved qt_places qt_generator qt_readBytes qt_readings ct_modules vt_thrown vt_length vt_version vt_side vt_made vt_segments vt_bits vt_filled vt_readLength vt_at vt_all vt_fault vt_good vt_modules))) (qc_Md_row dC dI (va_A (ww_Md_row qt qt_modules qt_checkBytes qt_blocks qt_data qt_fixed qt_tells qt_segmentModes qt_segmentLengths qt_modes qt_takes qt_bytes qt_words qt_block qt_tried qt_values qt_system qt_solved qt_places qt_generator qt_readBytes qt_readings ct_modules vt_thrown vt_length vt_version vt_side vt_made vt_segments vt_bits vt_filled vt_readLength vt_at vt_all vt_fault vt_good vt_modules) sz) r0 qt qt_modules qt_checkBytes qt_blocks qt_data qt_fixed qt_tells qt_segmentModes qt_segmentLengths qt_modes qt_takes qt_bytes qt_words qt_block qt_tried qt_values qt_system qt_solved qt_places qt_generator qt_readBytes qt_readings ct_modules nvt_thrown vt_length vt_version vt_side vt_made vt_segments vt_bits vt_filled vt_readLength vt_at vt_all vt_fault vt_good vt_modules) 0 0 (va_A (ww_Md_row qt qt_modules qt_checkBytes qt_blocks qt_data qt_fixed qt_tells qt_segmentModes qt_segmentLengths qt_modes qt_takes qt_bytes qt_words qt_block qt_tried qt_values qt_system qt_solved qt_places qt_generator qt_readBytes qt_readings ct_modules vt_thrown vt_length vt_version vt_side vt_made vt_segments vt_bits vt_filled vt_readLength vt_at vt_all vt_fault vt_good vt_modules) sz) := by
  refine Met.ofW (cc := prog_14_method_56_code) (maxL := 9) (ret := (some .long)) (by decide) rfl ?_
  intro p e s m args below meth c s₁ B hml hv
  obtain ⟨rfl, hsz, hP, hK, hD0⟩ := hv
  have hx := B.exec; have hb := B.bytes; have hr := B.returns; have hlocks := B.notSynchronized
  have ht : ∀ w ∈ lw_g, w.before _ s = true := fun w h => atoms_spec (ws := w_Md_row) B.pre w (List.mem_cons_of_mem _ h)
  have hown : s.vm.findClass "SquareSymbolsModel" = some m.cls := findClass_of_methodNamed B.named
  subst hsz
  have hD := hD0.self (sz := s.heap.size)
  generalize hAe : va_A (ww_Md_row qt qt_modules qt_checkBytes qt_blocks qt_data qt_fixed qt_tells qt_segmentModes qt_segmentLengths qt_modes qt_takes qt_bytes qt_words qt_block qt_tried qt_values qt_system qt_solved qt_places qt_generator qt_readBytes qt_readings ct_modules vt_thrown vt_length vt_version vt_side vt_made vt_segments vt_bits vt_filled vt_readLength vt_at vt_all vt_fault vt_good vt_modules) s.heap.size = A at hD ⊢
  have hA : ∀ q : Nat, s.heap.size ≤ q → A q := fun q h => by rw [← hAe]; exact Or.inr h
  have hS : va_S A s.heap s.heap [] := va_S.rf
  have hl := lv_entry ([.ref qt, .int p1, .int p2]) (n := 9) (Nat.le_of_ble_eq_true rfl)
  rw [lg_entry_eq]
  generalize (lg_sl ([.ref qt, .int p1, .int p2]) ++ List.replicate (9 - (lg_sl ([.ref qt, .int p1, .int p2])).length) Slot.unset).toArray = ls at hl ⊢
  have hl : lv_has ls 9 [(0, .ref qt), (1, .int p1), (2, .int p2)] := hl
  refine lv_aload_n hx hb d_Md_row_0 rfl (lv_at hl 0 rfl) ?_
  refine lv_iconst (v := (0 : Int32)) hx hb d_Md_row_1 (by decide) ?_
  refine va_put (D := (dC, dI)) (ci := 10) (v := .int (0 : Int32)) (ty := .int) (C := R_Md) (T := F_Md) (N := 34) hx hb ht i_Md t_Md t_Md_ok n_Md hown hK hP hD hS 0 rfl rfl 0 (by decide) (ht _ tb_1062) (fun _ h9 => h9) rfl (by decide +kernel) rfl rfl (Nat.le_of_ble_eq_true rfl) d_Md_row_2 (fun H locs hP hD hS => ?_)
  replace hP : va_P (dC, dI) cl_All (ww_Md_row qt qt_modules qt_checkBytes qt_blocks qt_data qt_fixed qt_tells qt_segmentModes qt_segmentLengths qt_modes qt_takes qt_bytes qt_words qt_block qt_tried qt_values qt_system qt_solved qt_places qt_generator qt_readBytes qt_readings ct_modules (0 : Int32) vt_length vt_version vt_side vt_made vt_segments vt_bits vt_filled vt_readLength vt_at vt_all vt_fault vt_good vt_modules) H := hP
  replace hD : va_D A (ww_Md_row qt qt_modules qt_checkBytes qt_blocks qt_data qt_fixed qt_tells qt_segmentModes qt_segmentLengths qt_modes qt_takes qt_bytes qt_words qt_block qt_tried qt_values qt_system qt_solved qt_places qt_generator qt_readBytes qt_readings ct_modules (0 : Int32) vt_length vt_version vt_side vt_made vt_segments vt_bits vt_filled vt_readLength vt_at vt_all vt_fault vt_good vt_modules) := hD
  refine lv_lconst (v := (0 : Int64)) hx hb d_Md_row_5 (by decide) ?_
  refine lv_lstore_n (lv' := [(3, .long (0 : Int64)), (0, .ref qt), (1, .int p1), (2, .int p2)]) hx hb d_Md_row_6 rfl hl (by decide) rfl (fun ls hl => ?_)
  refine lv_iconst (v := (0 : Int32)) hx hb d_Md_row_7 (by decide) ?_
  refine lv_istore (lv' := [(5, .int (0 : Int32)), (3, .long (0 : Int64)), (0, .ref qt), (1, .int p1), (2, .int p2)]) hx hb d_Md_row_8 hl (by decide) rfl (fun ls hl => ?_)
  have L1 : ∀ (m1 : Nat), ∀ (w1 : Int64) (x2 : Int32), fn_Md_row_L1 p1 p2 vt_version vt_side vt_modules m1 w1 x2 = some (r0, nvt_thrown) → ∀ (H : Heap) (locs : List Loc), va_P (dC, dI) cl_All (ww_Md_row qt qt_modules qt_checkBytes qt_blocks qt_data qt_fixed qt_tells qt_segmentModes qt_segmentLengths qt_modes qt_takes qt_bytes qt_words qt_block qt_tried qt_values qt_system qt_solved qt_places qt_generator qt_readBytes qt_readings ct_modules (0 : Int32) vt_length vt_version vt_side vt_made vt_segments vt_bits vt_filled vt_readLength vt_at vt_all vt_fault vt_good vt_modules) H → va_D A (ww_Md_row qt qt_modules qt_checkBytes qt_blocks qt_data qt_fixed qt_tells qt_segmentModes qt_segmentLengths qt_modes qt_takes qt_bytes qt_words qt_block qt_tried qt_values qt_system qt_solved qt_places qt_generator qt_readBytes qt_readings ct_modules (0 : Int32) vt_length vt_version vt_side vt_made vt_segments vt_bits vt_filled vt_readLength vt_at vt_all vt_fault vt_good vt_modules) → va_S A s.heap H locs → ∀ ls : Array Slot, lv_has ls 9 [(0, .ref qt), (1, .int p1), (2, .int p2), (3, .long w1), (5, .int x2)] → W p l e (headSpec w_Md_row rm_Md_row).room s m (([.ref qt, .int p1, .int p2] : List Value).toArray) below meth c H locs 0 0 (MQ below (qc_Md_row dC dI A r0 qt qt_modules qt_checkBytes qt_blocks qt_data qt_fixed qt_tells qt_segmentModes qt_segmentLengths qt_modes qt_takes qt_bytes qt_words qt_block qt_tried qt_values qt_system qt_solved qt_places qt_generator qt_readBytes qt_readings ct_modules nvt_thrown vt_length vt_version vt_side vt_made vt_segments vt_bits vt_filled vt_readLength vt_at vt_all vt_fault vt_good vt_modules) (([.ref qt, .int p1, .int p2] : List Value).toArray) s 0 0 A) (F0 m 10 ls []) := by
    intro m1
    induction m1 with
    | zero => intro w1 x2 Hf; exact sq_none Hf
    | succ m1 ih1 =>
      intro w1 x2 Hf H locs  hP hD hS ls hl
      replace Hf := (fn_Md_row_L1_s p1 p2 vt_version vt_side vt_modules m1 w1 x2).symm.trans Hf
      refine lv_iload hx hb d_Md_row_10 (lv_at hl 4 rfl) ?_
      refine lv_bipush (v := (64 : Int32)) hx hb d_Md_row_12 (by decide) ?_
      refine lv_icmp_ge (tgt := 108) hx hb d_Md_row_14 (by decide) (fun c3 => ?_) (fun c3 => ?_)
      · replace Hf := sq_ite_t Hf c3
        refine lv_lload_n hx hb d_Md_row_108 rfl (lv_at hl 3 rfl) ?_
        obtain ⟨rfl, rfl⟩ := sq_so2 Hf
        exact W.lret hx hb hr (fun t ht hW => ⟨⟨_, (), rfl, rfl, by rw [ht]; exact hP, hD⟩, hS.F ht⟩) hS.2.2 d_Md_row_109
      · replace Hf := sq_ite_f Hf c3
        refine lv_iload_n hx hb d_Md_row_17 rfl (lv_at hl 1 rfl) ?_
        refine lv_i2l hx hb d_Md_row_18 rfl ?_
        obtain ⟨w4, ew4, Hf⟩ := sq_bd_e Hf
        refine sq_topl ew4 ?_
        refine lv_iload hx hb d_Md_row_19 (lv_at hl 4 rfl) ?_
        refine lv_i2l hx hb d_Md_row_21 rfl ?_
        obtain ⟨w5, ew5, Hf⟩ := sq_bd_e Hf
        refine sq_topl ew5 ?_
        refine lv_ladd hx hb d_Md_row_22 ?_
        obtain ⟨w6, ew6, Hf⟩ := sq_bd_e Hf
        refine sq_topl ew6 ?_
        refine lv_lstore (lv' := [(6, .long w6), (0, .ref qt), (1, .int p1), (2, .int p2), (3, .long w1), (5, .int x2)]) hx hb d_Md_row_23 hl (by decide) rfl (fun ls hl => ?_)
        refine lv_aload_n hx hb d_Md_row_25 rfl (lv_at hl 1 rfl) ?_
        refine va_get (D := (dC, dI)) (ci := 10) (v := .int vt_version) (C := R_Md) (T := F_Md) (N := 34) hx hb ht i_Md hown hK hP 0 rfl rfl 7 (by decide) (ht _ tb_1069) (fun _ h9 => h9) rfl d_Md_row_26 ?_
        obtain ⟨k8, hk8, Hf⟩ := sq_jn_e Hf
        have Jk8 : ∀ (x7 : Int32), k8 x7 = some (r0, nvt_thrown) → ∀ (H : Heap) (locs : List Loc), va_P (dC, dI) cl_All (ww_Md_row qt qt_modules qt_checkBytes qt_blocks qt_data qt_fixed qt_tells qt_segmentModes qt_segmentLengths qt_modes qt_takes qt_bytes qt_words qt_block qt_tried qt_values qt_system qt_solved qt_places qt_generator qt_readBytes qt_readings ct_modules (0 : Int32) vt_length vt_version vt_side vt_made vt_segments vt_bits vt_filled vt_readLength vt_at vt_all vt_fault vt_good vt_modules) H → va_D A (ww_Md_row qt qt_modules qt_checkBytes qt_blocks qt_data qt_fixed qt_tells qt_segmentModes qt_segmentLengths qt_modes qt_takes qt_bytes qt_words qt_block qt_tried qt_values qt_system qt_solved qt_places qt_generator qt_readBytes qt_readings ct_modules (0 : Int32) vt_length vt_version vt_side vt_made vt_segments vt_bits vt_filled vt_readLength vt_at vt_all vt_fault vt_good vt_modules) → va_S A s.heap H locs → ∀ ls : Array Slot, lv_has ls 9 [(0, .ref qt), (1, .int p1), (2, .int p2), (3, .long w1), (5, .int x2), (6, .long w6)] → W p l e (headSpec w_Md_row rm_Md_row).room s m (([.ref qt, .int p1, .int p2] : List Value).toArray) below meth c H locs 0 0 (MQ below (qc_Md_row dC dI A r0 qt qt_modules qt_checkBytes qt_blocks qt_data qt_fixed qt_tells qt_segmentModes qt_segmentLengths qt_modes qt_takes qt_bytes qt_words qt_block qt_tried qt_values qt_system qt_solved qt_places qt_generator qt_readBytes qt_readings ct_modules nvt_thrown vt_length vt_version vt_side vt_made vt_segments vt_bits vt_filled vt_readLength vt_at vt_all vt_fault vt_good vt_modules) (([.ref qt, .int p1, .int p2] : List Value).toArray) s 0 0 A) (F0 m 67 ls [.int x7]) := by
          intro x7 Hf H locs  hP hD hS ls hl
          rw [hk8] at Hf
          refine lv_istore (lv' := [(8, .int x7), (0, .ref qt), (1, .int p1), (2, .int p2), (3, .long w1), (5, .int x2), (6, .long w6)]) hx hb d_Md_row_67 hl (by decide) rfl (fun ls hl => ?_)
          refine lv_iload hx hb d_Md_row_69 (lv_at hl 0 rfl) ?_
          obtain ⟨k10, hk10, Hf⟩ := sq_jn_e Hf
          have Jk10 : ∀ (w9 : Int64), k10 w9 = some (r0, nvt_thrown) → ∀ (H : Heap) (locs : List Loc), va_P (dC, dI) cl_All (ww_Md_row qt qt_modules qt_checkBytes qt_blocks qt_data qt_fixed qt_tells qt_segmentModes qt_segmentLengths qt_modes qt_takes qt_bytes qt_words qt_block qt_tried qt_values qt_system qt_solved qt_places qt_generator qt_readBytes qt_readings ct_modules (0 : Int32) vt_length vt_version vt_side vt_made vt_segments vt_bits vt_filled vt_readLength vt_at vt_all vt_fault vt_good vt_modules) H → va_D A (ww_Md_row qt qt_modules qt_checkBytes qt_blocks qt_data qt_fixed qt_tells qt_segmentModes qt_segmentLengths qt_modes qt_takes qt_bytes qt_words qt_block qt_tried qt_values qt_system qt_solved qt_places qt_generator qt_readBytes qt_readings ct_modules (0 : Int32) vt_length vt_version vt_side vt_made vt_segments vt_bits vt_filled vt_readLength vt_at vt_all vt_fault vt_good vt_modules) → va_S A s.heap H locs → ∀ ls : Array Slot, lv_has ls 9 [(0, .ref qt), (1, .int p1), (2, .int p2), (5, .int x2)] → W p l e (headSpec w_Md_row rm_Md_row).room s m (([.ref qt, .int p1, .int p2] : List Value).toArray) below meth c H locs 0 0 (MQ below (qc_Md_row dC dI A r0 qt qt_modules qt_checkBytes qt_blocks qt_data qt_fixed qt_tells qt_segmentModes qt_segmentLengths qt_modes qt_takes qt_bytes qt_words qt_block qt_tried qt_values qt_system qt_solved qt_places qt_generator qt_readBytes qt_readings ct_modules nvt_thrown vt_length vt_version vt_side vt_made vt_segments vt_bits vt_filled vt_readLength vt_at vt_all vt_fault vt_good vt_modules) (([.ref qt, .int p1, .int p2] : List Value).toArray) s 0 0 A) (F0 m 101 ls [.long w9]) := by
            intro w9 Hf H locs  hP hD hS ls hl
            rw [hk10] at Hf
            refine lv_lstore_n (lv' := [(3, .long w9), (0, .ref qt), (1, .int p1), (2, .int p2), (5, .int x2)]) hx hb d_Md_row_101 rfl hl (by decide) rfl (fun ls hl => ?_)
            obtain ⟨x11, ex11, Hf⟩ := sq_bd_e Hf
            refine lv_iinc (v := x11) (lv' := [(5, .int x11), (3, .long w9), (0, .ref qt), (1, .int p1), (2, .int p2)]) hx hb d_Md_row_102 hl (k := 4) rfl (by rw [ex11]; rfl) (by decide) rfl (fun ls hl => ?_)
            refine lv_goto (tgt := 10) hx hb d_Md_row_105 (by decide) ?_
            exact ih1 w9 x11 Hf _ _  hP hD hS _ (lv_sub hl [2, 3, 4, 1, 0] rfl)
          obtain ⟨k12, hk12, Hf⟩ := sq_jn_e Hf
          have Jk12 : ∀ (_u : Unit), k12 _u = some (r0, nvt_thrown) → ∀ (H : Heap) (locs : List Loc), va_P (dC, dI) cl_All (ww_Md_row qt qt_modules qt_checkBytes qt_blocks qt_data qt_fixed qt_tells qt_segmentModes qt_segmentLengths qt_modes qt_takes qt_bytes qt_words qt_block qt_tried qt_values qt_system qt_solved qt_places qt_generator qt_readBytes qt_readings ct_modules (0 : Int32) vt_length vt_version vt_side vt_made vt_segments vt_bits vt_filled vt_readLength vt_at vt_all vt_fault vt_good vt_modules) H → va_D A (ww_Md_row qt qt_modules qt_checkBytes qt_blocks qt_data qt_fixed qt_tells qt_segmentModes qt_segmentLengths qt_modes qt_takes qt_bytes qt_words qt_block qt_tried qt_values qt_system qt_solved qt_places qt_generator qt_readBytes qt_readings ct_modules (0 : Int32) vt_length vt_version vt_side vt_made vt_segments vt_bits vt_filled vt_readLength vt_at vt_all vt_fault vt_good vt_modules) → va_S A s.heap H locs → ∀ ls : Array Slot, lv_has ls 9 [(0, .ref qt), (1, .int p1), (2, .int p2), (3, .long w1), (5, .int x2)] → W p l e (headSpec w_Md_row rm_Md_row).room s m (([.ref qt, .int p1, .int p2] : List Value).toArray) below meth c H locs 0 0 (MQ below (qc_Md_row dC dI A r0 qt qt_modules qt_checkBytes qt_blocks qt_data qt_fixed qt_tells qt_segmentModes qt_segmentLengths qt_modes qt_takes qt_bytes qt_words qt_block qt_tried qt_values qt_system qt_solved qt_places qt_generator qt_readBytes qt_readings ct_modules nvt_thrown vt_length vt_version vt_side vt_made vt_segments vt_bits vt_filled vt_readLength vt_at vt_all vt_fault vt_good vt_modules) (([.ref qt, .int p1, .int p2] : List Value).toArray) s 0 0 A) (F0 m 100 ls []) := by
            intro _u Hf H locs  hP hD hS ls hl
            rw [hk12] at Hf
            refine lv_lload_n hx hb d_Md_row_100 rfl (lv_at hl 3 rfl) ?_
            exact Jk10 w1 Hf _ _  hP hD hS _ (lv_sub hl [0, 1, 2, 4] rfl)
          refine lv_if_eq (tgt := 100) hx hb d_Md_row_71 (by decide) (fun c13 => ?_) (fun c13 => ?_)
          · replace Hf := sq_ite_t Hf c13
            exact Jk12 () Hf _ _  hP hD hS _ (lv_sub hl [1, 2, 3, 4, 5] rfl)
          · replace Hf := sq_ite_f Hf c13
            refine lv_aload_n hx hb d_Md_row_74 rfl (lv_at hl 1 rfl) ?_
            refine va_get (D := (dC, dI)) (ci := 10) (v := .ref qt_modules) (C := R_Md) (T := F_Md) (N := 34) hx hb ht i_Md hown hK hP 0 rfl rfl 5 (by decide) (ht _ tb_1067) (fun _ h9 => h9) rfl d_Md_row_75 ?_
            refine lv_aload_n hx hb d_Md_row_78 rfl (lv_at hl 1 rfl) ?_
            refine lv_lload hx hb d_Md_row_79 (lv_at hl 6 rfl) ?_
            refine lv_l2i hx hb d_Md_row_81 rfl ?_
            obtain ⟨x14, ex14, Hf⟩ := sq_bd_e Hf
            refine sq_top ex14 ?_
            refine lv_iload_n hx hb d_Md_row_82 rfl (lv_at hl 3 rfl) ?_
            obtain ⟨r15, hc16, Hf⟩ := sq_cb1_e Hf
            refine sq_roi (va_runV (As := [.int x14, .int p2]) (rest := [.ref qt_modules]) ⟨hx, hb, hml, hown, ht⟩ (kt_Md_moduleAt l dC dI qt qt_checkBytes qt_blocks qt_data qt_modules qt_fixed qt_tells qt_segmentModes qt_segmentLengths qt_modes qt_takes qt_bytes qt_words qt_block qt_tried qt_values qt_system qt_solved qt_places qt_generator qt_readBytes qt_readings (0 : Int32) vt_length vt_version vt_side vt_made vt_segments vt_bits vt_filled vt_readLength vt_at vt_all vt_fault vt_good x14 p2 r15 hc16) (cwV 2 ht (sq_gV tb_1296 tb_1298 sl_49 tb_11 tb_1299) rfl rfl rfl (by decide +kernel) ⟨Nat.le_of_ble_eq_true rfl, Nat.le_of_ble_eq_true rfl⟩) (sq_roV (hP.sub (ws' := (ww_Md_moduleAt qt qt_checkBytes qt_blocks qt_data qt_modules qt_fixed qt_tells qt_segmentModes qt_segmentLengths qt_modes qt_takes qt_bytes qt_words qt_block qt_tried qt_values qt_system qt_solved qt_places qt_generator qt_readBytes qt_readings (0 : Int32) vt_length vt_version vt_side vt_made vt_segments vt_bits vt_filled vt_readLength vt_at vt_all vt_fault vt_good)) [0] rfl) (hK.sub (tys' := []) [] rfl) (va_recv hK hP (ci := 10) (q0 := 0) rfl rfl)) rfl rfl hl.1 rfl (lv_room (Nat.le_of_ble_eq_true rfl)) d_Md_row_83 ⟨Nat.le_of_ble_eq_true rfl, Nat.le_of_ble_eq_true rfl⟩) ?_
            obtain ⟨hi17, Hf⟩ := sq_gi_e Hf
            refine va_iald hx hb hK hP 1 0 rfl rfl hi17 d_Md_row_86 ?_
            obtain ⟨x18, ex18, Hf⟩ := sq_bd_e Hf
            refine sq_top ex18 ?_
            refine lv_iconst (v := (1 : Int32)) hx hb d_Md_row_87 (by decide) ?_
            refine lv_icmp_ne (tgt := 100) hx hb d_Md_row_88 (by decide) (fun c19 => ?_) (fun c19 => ?_)
            · replace Hf := sq_ite_f Hf c19
              exact Jk12 () Hf _ _  hP hD hS _ (lv_sub hl [1, 2, 3, 4, 5] rfl)
            · replace Hf := sq_ite_t Hf c19
              refine lv_lload_n hx hb d_Md_row_91 rfl (lv_at hl 4 rfl) ?_
              refine lv_lconst (v := (1 : Int64)) hx hb d_Md_row_92 (by decide) ?_
              refine lv_iload hx hb d_Md_row_93 (lv_at hl 5 rfl) ?_
              refine lv_lshl hx hb d_Md_row_95 rfl ?_
              obtain ⟨w20, ew20, Hf⟩ := sq_bd_e Hf
              refine sq_topl ew20 ?_
              refine lv_lor hx hb d_Md_row_96 ?_
              refine lv_goto (tgt := 101) hx hb d_Md_row_97 (by decide) ?_
              exact Jk10 (w1 ||| w20) Hf _ _  hP hD hS _ (lv_sub hl [1, 2, 3, 5] rfl)
        obtain ⟨k21, hk21, Hf⟩ := sq_jn_e Hf
        have Jk21 : ∀ (_u : Unit), k21 _u = some (r0, nvt_thrown) → ∀ (H : Heap) (locs : List Loc), va_P (dC, dI) cl_All (ww_Md_row qt qt_modules qt_checkBytes qt_blocks qt_data qt_fixed qt_tells qt_segmentModes qt_segmentLengths qt_modes qt_takes qt_bytes qt_words qt_block qt_tried qt_values qt_system qt_solved qt_places qt_generator qt_readBytes qt_readings ct_modules (0 : Int32) vt_length vt_version vt_side vt_made vt_segments vt_bits vt_filled vt_readLength vt_at vt_all vt_fault vt_good vt_modules) H → va_D A (ww_Md_row qt qt_modules qt_checkBytes qt_blocks qt_data qt_fixed qt_tells qt_segmentModes qt_segmentLengths qt_modes qt_takes qt_bytes qt_words qt_block qt_tried qt_values qt_system qt_solved qt_places qt_generator qt_readBytes qt_readings ct_modules (0 : Int32) vt_length vt_version vt_side vt_made vt_segments vt_bits vt_filled vt_readLength vt_at vt_all vt_fault vt_good vt_modules) → va_S A s.heap H locs → ∀ ls : Array Slot, lv_has ls 9 [(0, .ref qt), (1, .int p1), (2, .int p2), (3, .long w1), (5, .int x2), (6, .long w6)] → W p l e (headSpec w_Md_row rm_Md_row).room s m (([.ref qt, .int p1, .int p2] : List Value).toArray) below meth c H locs 0 0 (MQ below (qc_Md_row dC dI A r0 qt qt_modules qt_checkBytes qt_blocks qt_data qt_fixed qt_tells qt_segmentModes qt_segmentLengths qt_modes qt_takes qt_bytes qt_words qt_block qt_tried qt_values qt_system qt_solved qt_places qt_generator qt_readBytes qt_readings ct_modules nvt_thrown vt_length vt_version vt_side vt_made vt_segments vt_bits vt_filled vt_readLength vt_at vt_all vt_fault vt_good vt_modules) (([.ref qt, .int p1, .int p2] : List Value).toArray) s 0 0 A) (F0 m 66 ls []) := by
          intro _u Hf H locs  hP hD hS ls hl
          rw [hk21] at Hf
          refine lv_iconst (v := (0 : Int32)) hx hb d_Md_row_66 (by decide) ?_
          exact Jk8 (0 : Int32) Hf _ _  hP hD hS _ (lv_sub hl [0, 1, 2, 3, 4, 5] rfl)
        refine lv_if_le (tgt := 66) hx hb d_Md_row_29 (by decide) (fun c22 => ?_) (fun c22 => ?_)
        · replace Hf := sq_ite_t Hf c22
          exact Jk21 () Hf _ _  hP hD hS _ (lv_sub hl [1, 2, 3, 4, 5, 0] rfl)
        · replace Hf := sq_ite_f Hf c22
          refine lv_iload_n hx hb d_Md_row_32 rfl (lv_at hl 3 rfl) ?_
          refine lv_if_lt (tgt := 66) hx hb d_Md_row_33 (by decide) (fun c23 => ?_) (fun c23 => ?_)
          · replace Hf := sq_ite_t Hf c23
            exact Jk21 () Hf _ _  hP hD hS _ (lv_sub hl [1, 2, 3, 4, 5, 0] rfl)
          · replace Hf := sq_ite_f Hf c23
            refine lv_iload_n hx hb d_Md_row_36 rfl (lv_at hl 3 rfl) ?_
            refine lv_aload_n hx hb d_Md_row_37 rfl (lv_at hl 1 rfl) ?_
            refine va_get (D := (dC, dI)) (ci := 10) (v := .int vt_side) (C := R_Md) (T := F_Md) (N := 34) hx hb ht i_Md hown hK hP 0 rfl rfl 8 (by decide) (ht _ tb_1070) (fun _ h9 => h9) rfl d_Md_row_38 ?_
            refine lv_icmp_ge (tgt := 66) hx hb d_Md_row_41 (by decide) (fun c24 => ?_) (fun c24 => ?_)
            · replace Hf := sq_ite_t Hf c24
              exact Jk21 () Hf _ _  hP hD hS _ (lv_sub hl [1, 2, 3, 4, 5, 0] rfl)
            · replace Hf := sq_ite_f Hf c24
              refine lv_lload hx hb d_Md_row_44 (lv_at hl 0 rfl) ?_
              refine lv_lconst (v := (0 : Int64)) hx hb d_Md_row_46 (by decide) ?_
              refine W.lcmp hx hb d_Md_row_47 ?_
              obtain ⟨x25, ex25, Hf⟩ := sq_bd_e Hf
              refine sq_top ex25 ?_
              refine lv_if_lt (tgt := 66) hx hb d_Md_row_48 (by decide) (fun c26 => ?_) (fun c26 => ?_)
              · replace Hf := sq_ite_t Hf c26
                exact Jk21 () Hf _ _  hP hD hS _ (lv_sub hl [1, 2, 3, 4, 5, 0] rfl)
              · replace Hf := sq_ite_f Hf c26
                refine lv_lload hx hb d_Md_row_51 (lv_at hl 0 rfl) ?_
                refine lv_aload_n hx hb d_Md_row_53 rfl (lv_at hl 1 rfl) ?_
                refine va_get (D := (dC, dI)) (ci := 10) (v := .int vt_side) (C := R_Md) (T := F_Md) (N := 34) hx hb ht i_Md hown hK hP 0 rfl rfl 8 (by decide) (ht _ tb_1070) (fun _ h9 => h9) rfl d_Md_row_54 ?_
                refine lv_i2l hx hb d_Md_row_57 rfl ?_
                obtain ⟨w27, ew27, Hf⟩ := sq_bd_e Hf
                refine sq_topl ew27 ?_
                refine W.lcmp hx hb d_Md_row_58 ?_
                obtain ⟨x28, ex28, Hf⟩ := sq_bd_e Hf
                refine sq_top ex28 ?_
                refine lv_if_ge (tgt := 66) hx hb d_Md_row_59 (by decide) (fun c29 => ?_) (fun c29 => ?_)
                · replace Hf := sq_ite_t Hf c29
                  exact Jk21 () Hf _ _  hP hD hS _ (lv_sub hl [1, 2, 3, 4, 5, 0] rfl)
                · replace Hf := sq_ite_f Hf c29
                  refine lv_iconst (v := (1 : Int32)) hx hb d_Md_row_62 (by decide) ?_
                  refine lv_goto (tgt := 67) hx hb d_Md_row_63 (by decide) ?_
                  exact Jk8 (1 : Int32) Hf _ _  hP hD hS _ (lv_sub hl [1, 2, 3, 4, 5, 0] rfl)
  exact L1 n0 (0 : Int64) (0 : Int32) Hf _ _  hP hD hS _ (lv_sub hl [2, 3, 4, 1, 0] rfl)

def fn_Md_spoil_L1 (p1 : Int32) (p2 : Int32) (p3 : Int64) (vt_version : Int32) (vt_side : Int32) : Nat → Int32 → Int32 → (Nat → Int32) → Option (Int32 × Int32 × (Nat → Int32))
  | 0, _, _, _ => none
  | m1 + 1, x1, x2, b3 => if (64 : Int32) ≤ x2 then (some (x1, (0 : Int32), b3)) else (sq_bd (sq_i2l p1) fun w5 => sq_bd (sq_i2l x2) fun w6 => sq_bd (w5 + w6) fun w7 => sq_jn (fun (x8 : Int32) => sq_jn (fun (x10 : Int32) (b11 : Nat → Int32) => sq_bd (x2 + (1 : Int32)) fun x13 => fn_Md_spoil_L1 p1 p2 p3 vt_version vt_side m1 x10 x13 b11) fun k12 => if x8 = 0 then (k12 x1 b3) else (sq_bd (sq_lshr p3 x2) fun w15 => sq_bd (sq_lcmp (w15 &&& (1 : Int64)) (1 : Int64)) fun x16 => if x16 = 0 then (sq_bd (sq_l2i w7) fun x18 => sq_cb1 (fn_Md_moduleAt x18 p2) fun r19 => sq_bd (sq_l2i w7) fun x21 => sq_cb1 (fn_Md_moduleAt x21 p2) fun r22 => sq_gi r22 31329 <| sq_bd (b3 r22.toNatClampNeg) fun x25 => sq_bd ((1 : Int32) - x25) fun x26 => sq_gi r19 31329 <| sq_bd (upd b3 r19.toNatClampNeg x26) fun b28 => sq_bd (x1 + (1 : Int32)) fun x29 => k12 x29 b28) else (k12 x1 b3))) fun k9 => sq_jn (fun (_ : Unit) => k9 (0 : Int32)) fun k30 => if vt_version ≤ 0 then (k30 ()) else (if p2 < 0 then (k30 ()) else (if vt_side ≤ p2 then (k30 ()) else (sq_bd (sq_lcmp w7 (0 : Int64)) fun x34 => if x34 < 0 then (k30 ()) else (sq_bd (sq_i2l vt_side) fun w36 => sq_bd (sq_lcmp w7 w36) fun x37 => if 0 ≤ x37 then (k30 ()) else (k9 (1 : Int32)))))))
theorem fn_Md_spoil_L1_s (p1 : Int32) (p2 : Int32) (p3 : Int64) (vt_version : Int32) (vt_side : Int32) (m1 : Nat) (x1 : Int32) (x2 : Int32) (b3 : Nat → Int32) : fn_Md_spoil_L1 p1 p2 p3 vt_version vt_side (m1 + 1) x1 x2 b3 = if (64 : Int32) ≤ x2 then (some (x1, (0 : Int32), b3)) else (sq_bd (sq_i2l p1) fun w5 => sq_bd (sq_i2l x2) fun w6 => sq_bd (w5 + w6) fun w7 => sq_jn (fun (x8 : Int32) => sq_jn (fun (x10 : Int32) (b11 : Nat → Int32) => sq_bd (x2 + (1 : Int32)) fun x13 => fn_Md_spoil_L1 p1 p2 p3 vt_version vt_side m1 x10 x13 b11) fun k12 => if x8 = 0 then (k12 x1 b3) else (sq_bd (sq_lshr p3 x2) fun w15 => sq_bd (sq_lcmp (w15 &&& (1 : Int64)) (1 : Int64)) fun x16 => if x16 = 0 then (sq_bd (sq_l2i w7) fun x18 => sq_cb1 (fn_Md_moduleAt x18 p2) fun r19 => sq_bd (sq_l2i w7) fun x21 => sq_cb1 (fn_Md_moduleAt x21 p2) fun r22 => sq_gi r22 31329 <| sq_bd (b3 r22.toNatClampNeg) fun x25 => sq_bd ((1 : Int32) - x25) fun x26 => sq_gi r19 31329 <| sq_bd (upd b3 r19.toNatClampNeg x26) fun b28 => sq_bd (x1 + (1 : Int32)) fun x29 => k12 x29 b28) else (k12 x1 b3))) fun k9 => sq_jn (fun (_ : Unit) => k9 (0 : Int32)) fun k30 => if vt_version ≤ 0 then (k30 ()) else (if p2 < 0 then (k30 ()) else (if vt_side ≤ p2 then (k30 ()) else (sq_bd (sq_lcmp w7 (0 : Int64)) fun x34 => if x34 < 0 then (k30 ()) else (sq_bd (sq_i2l vt_side) fun w36 => sq_bd (sq_lcmp w7 w36) fun x37 => if 0 ≤ x37 then (k30 ()) else (k9 (1 : Int32))))))) := rfl
def fn_Md_spoil (n0 : Nat) (p1 : Int32) (p2 : Int32) (p3 : Int64) (vt_thrown : Int32) (vt_version : Int32) (vt_side : Int32) (vt_modules : Nat → Int32) : Option (Int32 × Int32 × (Nat → Int32)) :=
  fn_Md_spoil_L1 p1 p2 p3 vt_version vt_side n0 (0 : Int32) (0 : Int32) vt_modules
abbrev ww_Md_spoil (qt qt_modules qt_checkBytes qt_blocks qt_data qt_fixed qt_tells qt_segmentModes qt_segmentLengths qt_modes qt_takes qt_bytes qt_words qt_block qt_tried qt_values qt_system qt_solved qt_places qt_generator qt_readBytes qt_readings : Nat) (ct_modules : ClassId) (vt_thrown : Int32) (vt_length : Int32) (vt_version : Int32) (vt_side : Int32) (vt_made : Int32) (vt_segments : Int32) (vt_bits : Int32) (vt_filled : Int32) (vt_readLength : Int32) (vt_at : Int32) (vt_all : Int32) (vt_fault : Int32) (vt_good : Int32) (vt_modules : Nat → Int32) : va_W := [(qt, .inr (10, [.int vt_thrown, .ref qt_checkBytes, .ref qt_blocks, .ref qt_data, .int vt_length, .ref qt_modules, .ref qt_fixed, .int vt_version, .int vt_side, .int vt_made, .ref qt_tells, .ref qt_segmentModes, .ref qt_segmentLengths, .int vt_segments, .ref qt_modes, .ref qt_takes, .int vt_bits, .ref qt_bytes, .ref qt_words, .int vt_filled, .ref qt_block, .ref qt_tried, .ref qt_values, .ref qt_system, .ref qt_solved, .ref qt_places, .ref qt_generator, .ref qt_readBytes, .int vt_readLength, .int vt_at, .int vt_all, .int vt_fault, .int vt_good, .ref qt_readings])), (qt_modules, .inl (ct_modules, 31329, .inl vt_modules))]

def rm_Md_spoil : Room := { frames := 1, cells := 0, slots := 0, locals := 22 }
abbrev qc_Md_spoil (dC : Nat → ClassId) (dI : Nat → Nat → Nat) (A : Nat → Prop) (r0 : Int32) (qt qt_modules qt_checkBytes qt_blocks qt_data qt_fixed qt_tells qt_segmentModes qt_segmentLengths qt_modes qt_takes qt_bytes qt_words qt_block qt_tried qt_values qt_system qt_solved qt_places qt_generator qt_readBytes qt_readings : Nat) (ct_modules : ClassId) (vt_thrown : Int32) (vt_length : Int32) (vt_version : Int32) (vt_side : Int32) (vt_made : Int32) (vt_segments : Int32) (vt_bits : Int32) (vt_filled : Int32) (vt_readLength : Int32) (vt_at : Int32) (vt_all : Int32) (vt_fault : Int32) (vt_good : Int32) (vt_modules : Nat → Int32) : Array Value → State → Outcome → State → Prop := va_Qi (fun r (_ : Unit) => r = r0) (fun _ t => va_P (dC, dI) cl_All (ww_Md_spoil qt qt_modules qt_checkBytes qt_blocks qt_data qt_fixed qt_tells qt_segmentModes qt_segmentLengths qt_modes qt_takes qt_bytes qt_words qt_block qt_tried qt_values qt_system qt_solved qt_places qt_generator qt_readBytes qt_readings ct_modules vt_thrown vt_length vt_version vt_side vt_made vt_segments vt_bits vt_filled vt_readLength vt_at vt_all vt_fault vt_good vt_modules) t.heap ∧ va_D A (ww_Md_spoil qt qt_modules qt_checkBytes qt_blocks qt_data qt_fixed qt_tells qt_segmentModes qt_segmentLengths qt_modes qt_takes qt_bytes qt_words qt_block qt_tried qt_values qt_system qt_solved qt_places qt_generator qt_readBytes qt_readings ct_modules vt_thrown vt_length vt_version vt_side vt_made vt_segments vt_bits vt_filled vt_readLength vt_at vt_all vt_fault vt_good vt_modules)) A

set_option maxHeartbeats 4000000 in
set_option maxRecDepth 100000 in
theorem kt_Md_spoil (l : Launch) (dC : Nat → ClassId) (dI : Nat → Nat → Nat) (qt qt_modules qt_checkBytes qt_blocks qt_data qt_fixed qt_tells qt_segmentModes qt_segmentLengths qt_modes qt_takes qt_bytes qt_words qt_block qt_tried qt_values qt_system qt_solved qt_places qt_generator qt_readBytes qt_readings : Nat) (ct_modules : ClassId) (vt_thrown : Int32) (vt_length : Int32) (vt_version : Int32) (vt_side : Int32) (vt_made : Int32) (vt_segments : Int32) (vt_bits : Int32) (vt_filled : Int32) (vt_readLength : Int32) (vt_at : Int32) (vt_all : Int32) (vt_fault : Int32) (vt_good : Int32) (vt_modules : Nat → Int32) (p1 : Int32) (p2 : Int32) (p3 : Int64) (sz : Nat) (n0 : Nat) (r0 : Int32) (nvt_thrown : Int32) (nvt_modules : Nat → Int32) (Hf : fn_Md_spoil n0 p1 p2 p3 vt_thrown vt_version vt_side vt_modules = some (r0, nvt_thrown, nvt_modules)) : Met l y_Md_spoil w_Md_spoil rm_Md_spoil (va_Pc [.ref qt, .int p1, .int p2, .long p3] (fun U => U.heap.size = sz ∧ va_P (dC, dI) cl_All (ww_Md_spoil qt qt_modules qt_checkBytes qt_blocks qt_data qt_fixed qt_tells qt_segmentModes qt_segmentLengths qt_modes qt_takes qt_bytes qt_words qt_block qt_tried qt_values qt_system qt_solved qt_places qt_generator qt_readBytes qt_readings ct_modules vt_thrown vt_length vt_version vt_side vt_made vt_segments vt_bits vt_filled vt_readLength vt_at vt_all vt_fault vt_good vt_modules) U.heap ∧ va_K (dC, dI) cl_All [(ct_modules, .int)] U ∧ va_D (fun _ => True) (ww_Md_spoil qt qt_modules qt_checkBytes qt_blocks qt_data qt_fixed qt_tells qt_segmentModes qt_segmentLengths qt_modes qt_takes qt_bytes qt_words qt_block qt_tried qt_values qt_system qt_solved qt_places qt_generator qt_readBytes qt_readings ct_modules vt_thrown vt_length vt_version vt_side vt_made vt_segments vt_bits vt_filled vt_readLength vt_at vt_all vt_fault vt_good vt_modules))) (qc_Md_spoil dC dI (va_A (ww_Md_spoil qt qt_modules qt_checkBytes qt_blocks qt_data qt_fixed qt_tells qt_segmentModes qt_segmentLengths qt_modes qt_takes qt_bytes qt_words qt_block qt_tried qt_values qt_system qt_solved qt_places qt_generator qt_readBytes qt_readings ct_modules vt_thrown vt_length vt_version vt_side vt_made vt_segments vt_bits vt_filled vt_readLength vt_at vt_all vt_fault vt_good vt_modules) sz) r0 qt qt_modules qt_checkBytes qt_blocks qt_data qt_fixed qt_tells qt_segmentModes qt_segmentLengths qt_modes qt_takes qt_bytes qt_words qt_block qt_tried qt_values qt_system qt_solved qt_places qt_generator qt_readBytes qt_readings ct_modules nvt_thrown vt_length vt_version vt_side vt_made vt_segments vt_bits vt_filled vt_readLength vt_at vt_all vt_fault vt_good nvt_modules) 0 0 (va_A (ww_Md_spoil qt qt_modules qt_checkBytes qt_blocks qt_data qt_fixed qt_tells qt_segmentModes qt_segmentLengths qt_modes qt_takes qt_bytes qt_words qt_block qt_tried qt_values qt_system qt_solved qt_places qt_generator qt_readBytes qt_readings ct_modules vt_thrown vt_length vt_version vt_side vt_made vt_segments vt_bits vt_filled vt_readLength vt_at vt_all vt_fault vt_good vt_modules) sz) := by
  refine Met.ofW (cc := prog_14_method_57_code) (maxL := 10) (ret := (some .int)) (by decide) rfl ?_
  intro p e s m args below meth c s₁ B hml hv
  obtain ⟨rfl, hsz, hP, hK, hD0⟩ := hv
  have hx := B.exec; have hb := B.bytes; have hr := B.returns; have hlocks := B.notSynchronized
  have ht : ∀ w ∈ lw_g, w.before _ s = true := fun w h => atoms_spec (ws := w_Md_spoil) B.pre w (List.mem_cons_of_mem _ h)
  have hown : s.vm.findClass "SquareSymbolsModel" = some m.cls := findClass_of_methodNamed B.named
  subst hsz
  have hD := hD0.self (sz := s.heap.size)
  generalize hAe : va_A (ww_Md_spoil qt qt_modules qt_checkBytes qt_blocks qt_data qt_fixed qt_tells qt_segmentModes qt_segmentLengths qt_modes qt_takes qt_bytes qt_words qt_block qt_tried qt_values qt_system qt_solved qt_places qt_generator qt_readBytes qt_readings ct_modules vt_thrown vt_length vt_version vt_side vt_made vt_segments vt_bits vt_filled vt_readLength vt_at vt_all vt_fault vt_good vt_modules) s.heap.size = A at hD ⊢
  have hA : ∀ q : Nat, s.heap.size ≤ q → A q := fun q h => by rw [← hAe]; exact Or.inr h
  have hS : va_S A s.heap s.heap [] := va_S.rf
  have hl := lv_entry ([.ref qt, .int p1, .int p2, .long p3]) (n := 10) (Nat.le_of_ble_eq_true rfl)
  rw [lg_entry_eq]
  generalize (lg_sl ([.ref qt, .int p1, .int p2, .long p3]) ++ List.replicate (10 - (lg_sl ([.ref qt, .int p1, .int p2, .long p3])).length) Slot.unset).toArray = ls at hl ⊢
  have hl : lv_has ls 10 [(0, .ref qt), (1, .int p1), (2, .int p2), (3, .long p3)] := hl
  refine lv_aload_n hx hb d_Md_spoil_0 rfl (lv_at hl 0 rfl) ?_
  refine lv_iconst (v := (0 : Int32)) hx hb d_Md_spoil_1 (by decide) ?_
  refine va_put (D := (dC, dI)) (ci := 10) (v := .int (0 : Int32)) (ty := .int) (C := R_Md) (T := F_Md) (N := 34) hx hb ht i_Md t_Md t_Md_ok n_Md hown hK hP hD hS 0 rfl rfl 0 (by decide) (ht _ tb_1062) (fun _ h9 => h9) rfl (by decide +kernel) rfl rfl (Nat.le_of_ble_eq_true rfl) d_Md_spoil_2 (fun H locs hP hD hS => ?_)
  replace hP : va_P (dC, dI) cl_All (ww_Md_spoil qt qt_modules qt_checkBytes qt_blocks qt_data qt_fixed qt_tells qt_segmentModes qt_segmentLengths qt_modes qt_takes qt_bytes qt_words qt_block qt_tried qt_values qt_system qt_solved qt_places qt_generator qt_readBytes qt_readings ct_modules (0 : Int32) vt_length vt_version vt_side vt_made vt_segments vt_bits vt_filled vt_readLength vt_at vt_all vt_fault vt_good vt_modules) H := hP
  replace hD : va_D A (ww_Md_spoil qt qt_modules qt_checkBytes qt_blocks qt_data qt_fixed qt_tells qt_segmentModes qt_segmentLengths qt_modes qt_takes qt_bytes qt_words qt_block qt_tried qt_values qt_system qt_solved qt_places qt_generator qt_readBytes qt_readings ct_modules (0 : Int32) vt_length vt_version vt_side vt_made vt_segments vt_bits vt_filled vt_readLength vt_at vt_all vt_fault vt_good vt_modules) := hD
  refine lv_iconst (v := (0 : Int32)) hx hb d_Md_spoil_5 (by decide) ?_
  refine lv_istore (lv' := [(5, .int (0 : Int32)), (0, .ref qt), (1, .int p1), (2, .int p2), (3, .long p3)]) hx hb d_Md_spoil_6 hl (by decide) rfl (fun ls hl => ?_)
  refine lv_iconst (v := (0 : Int32)) hx hb d_Md_spoil_8 (by decide) ?_
  refine lv_istore (lv' := [(6, .int (0 : Int32)), (5, .int (0 : Int32)), (0, .ref qt), (1, .int p1), (2, .int p2), (3, .long p3)]) hx hb d_Md_spoil_9 hl (by decide) rfl (fun ls hl => ?_)
  have L1 : ∀ (m1 : Nat), ∀ (x1 : Int32) (x2 : Int32) (b3 : Nat → Int32), fn_Md_spoil_L1 p1 p2 p3 vt_version vt_side m1 x1 x2 b3 = some (r0, nvt_thrown, nvt_modules) → ∀ (H : Heap) (locs : List Loc), va_P (dC, dI) cl_All (ww_Md_spoil qt qt_modules qt_checkBytes qt_blocks qt_data qt_fixed qt_tells qt_segmentModes qt_segmentLengths qt_modes qt_takes qt_bytes qt_words qt_block qt_tried qt_values qt_system qt_solved qt_places qt_generator qt_readBytes qt_readings ct_modules (0 : Int32) vt_length vt_version vt_side vt_made vt_segments vt_bits vt_filled vt_readLength vt_at vt_all vt_fault vt_good b3) H → va_D A (ww_Md_spoil qt qt_modules qt_checkBytes qt_blocks qt_data qt_fixed qt_tells qt_segmentModes qt_segmentLengths qt_modes qt_takes qt_bytes qt_words qt_block qt_tried qt_values qt_system qt_solved qt_places qt_generator qt_readBytes qt_readings ct_modules (0 : Int32) vt_length vt_version vt_side vt_made vt_segments vt_bits vt_filled vt_readLength vt_at vt_all vt_fault vt_good b3) → va_S A s.heap H locs → ∀ ls : Array Slot, lv_has ls 10 [(0, .ref qt), (1, .int p1), (2, .int p2), (3, .long p3), (5, .int x1), (6, .int x2)] → W p l e (headSpec w_Md_spoil rm_Md_spoil).room s m (([.ref qt, .int p1, .int p2, .long p3] : List Value).toArray) below meth c H locs 0 0 (MQ below (qc_Md_spoil dC dI A r0 qt qt_modules qt_checkBytes qt_blocks qt_data qt_fixed qt_tells qt_segmentModes qt_segmentLengths qt_modes qt_takes qt_bytes qt_words qt_block qt_tried qt_values qt_system qt_solved qt_places qt_generator qt_readBytes qt_readings ct_modules nvt_thrown vt_length vt_version vt_side vt_made vt_segments vt_bits vt_filled vt_readLength vt_at vt_all vt_fault vt_good nvt_modules) (([.ref qt, .int p1, .int p2, .long p3] : List Value).toArray) s 0 0 A) (F0 m 11 ls []) := by
    intro m1
    induction m1 with
    | zero => intro x1 x2 b3 Hf; exact sq_none Hf
    | succ m1 ih1 =>
      intro x1 x2 b3 Hf H locs  hP hD hS ls hl
      replace Hf := (fn_Md_spoil_L1_s p1 p2 p3 vt_version vt_side m1 x1 x2 b3).symm.trans Hf
      refine lv_iload hx hb d_Md_spoil_11 (lv_at hl 5 rfl) ?_
      refine lv_bipush (v := (64 : Int32)) hx hb d_Md_spoil_13 (by decide) ?_
      refine lv_icmp_ge (tgt := 123) hx hb d_Md_spoil_15 (by decide) (fun c4 => ?_) (fun c4 => ?_)
      · replace Hf := sq_ite_t Hf c4
        refine lv_iload hx hb d_Md_spoil_123 (lv_at hl 4 rfl) ?_
        obtain ⟨rfl, rfl, rfl⟩ := sq_so3 Hf
        exact W.iret hx hb hr (fun t ht hW => ⟨⟨_, (), rfl, rfl, by rw [ht]; exact hP, hD⟩, hS.F ht⟩) hS.2.2 d_Md_spoil_125
      · replace Hf := sq_ite_f Hf c4
        refine lv_iload_n hx hb d_Md_spoil_18 rfl (lv_at hl 1 rfl) ?_
        refine lv_i2l hx hb d_Md_spoil_19 rfl ?_
        obtain ⟨w5, ew5, Hf⟩ := sq_bd_e Hf
        refine sq_topl ew5 ?_
        refine lv_iload hx hb d_Md_spoil_20 (lv_at hl 5 rfl) ?_
        refine lv_i2l hx hb d_Md_spoil_22 rfl ?_
        obtain ⟨w6, ew6, Hf⟩ := sq_bd_e Hf
        refine sq_topl ew6 ?_
        refine lv_ladd hx hb d_Md_spoil_23 ?_
        obtain ⟨w7, ew7, Hf⟩ := sq_bd_e Hf
        refine sq_topl ew7 ?_
        refine lv_lstore (lv' := [(7, .long w7), (0, .ref qt), (1, .int p1), (2, .int p2), (3, .long p3), (5, .int x1), (6, .int x2)]) hx hb d_Md_spoil_24 hl (by decide) rfl (fun ls hl => ?_)
        refine lv_aload_n hx hb d_Md_spoil_26 rfl (lv_at hl 1 rfl) ?_
        refine va_get (D := (dC, dI)) (ci := 10) (v := .int vt_version) (C := R_Md) (T := F_Md) (N := 34) hx hb ht i_Md hown hK hP 0 rfl rfl 7 (by decide) (ht _ tb_1069) (fun _ h9 => h9) rfl d_Md_spoil_27 ?_
        obtain ⟨k9, hk9, Hf⟩ := sq_jn_e Hf
        have Jk9 : ∀ (x8 : Int32), k9 x8 = some (r0, nvt_thrown, nvt_modules) → ∀ (H : Heap) (locs : List Loc), va_P (dC, dI) cl_All (ww_Md_spoil qt qt_modules qt_checkBytes qt_blocks qt_data qt_fixed qt_tells qt_segmentModes qt_segmentLengths qt_modes qt_takes qt_bytes qt_words qt_block qt_tried qt_values qt_system qt_solved qt_places qt_generator qt_readBytes qt_readings ct_modules (0 : Int32) vt_length vt_version vt_side vt_made vt_segments vt_bits vt_filled vt_readLength vt_at vt_all vt_fault vt_good b3) H → va_D A (ww_Md_spoil qt qt_modules qt_checkBytes qt_blocks qt_data qt_fixed qt_tells qt_segmentModes qt_segmentLengths qt_modes qt_takes qt_bytes qt_words qt_block qt_tried qt_values qt_system qt_solved qt_places qt_generator qt_readBytes qt_readings ct_modules (0 : Int32) vt_length vt_version vt_side vt_made vt_segments vt_bits vt_filled vt_readLength vt_at vt_all vt_fault vt_good b3) → va_S A s.heap H locs → ∀ ls : Array Slot, lv_has ls 10 [(0, .ref qt), (1, .int p1), (2, .int p2), (3, .long p3), (5, .int x1), (6, .int x2), (7, .long w7)] → W p l e (headSpec w_Md_spoil rm_Md_spoil).room s m (([.ref qt, .int p1, .int p2, .long p3] : List Value).toArray) below meth c H locs 0 0 (MQ below (qc_Md_spoil dC dI A r0 qt qt_modules qt_checkBytes qt_blocks qt_data qt_fixed qt_tells qt_segmentModes qt_segmentLengths qt_modes qt_takes qt_bytes qt_words qt_block qt_tried qt_values qt_system qt_solved qt_places qt_generator qt_readBytes qt_readings ct_modules nvt_thrown vt_length vt_version vt_side vt_made vt_segments vt_bits vt_filled vt_readLength vt_at vt_all vt_fault vt_good nvt_modules) (([.ref qt, .int p1, .int p2, .long p3] : List Value).toArray) s 0 0 A) (F0 m 68 ls [.int x8]) := by
          intro x8 Hf H locs  hP hD hS ls hl
          rw [hk9] at Hf
          refine lv_istore (lv' := [(9, .int x8), (0, .ref qt), (1, .int p1), (2, .int p2), (3, .long p3), (5, .int x1), (6, .int x2), (7, .long w7)]) hx hb d_Md_spoil_68 hl (by decide) rfl (fun ls hl => ?_)
          refine lv_iload hx hb d_Md_spoil_70 (lv_at hl 0 rfl) ?_
          obtain ⟨k12, hk12, Hf⟩ := sq_jn_e Hf
          have Jk12 : ∀ (x10 : Int32) (b11 : Nat → Int32), k12 x10 b11 = some (r0, nvt_thrown, nvt_modules) → ∀ (H : Heap) (locs : List Loc), va_P (dC, dI) cl_All (ww_Md_spoil qt qt_modules qt_checkBytes qt_blocks qt_data qt_fixed qt_tells qt_segmentModes qt_segmentLengths qt_modes qt_takes qt_bytes qt_words qt_block qt_tried qt_values qt_system qt_solved qt_places qt_generator qt_readBytes qt_readings ct_modules (0 : Int32) vt_length vt_version vt_side vt_made vt_segments vt_bits vt_filled vt_readLength vt_at vt_all vt_fault vt_good b11) H → va_D A (ww_Md_spoil qt qt_modules qt_checkBytes qt_blocks qt_data qt_fixed qt_tells qt_segmentModes qt_segmentLengths qt_modes qt_takes qt_bytes qt_words qt_block qt_tried qt_values qt_system qt_solved qt_places qt_generator qt_readBytes qt_readings ct_modules (0 : Int32) vt_length vt_version vt_side vt_made vt_segments vt_bits vt_filled vt_readLength vt_at vt_all vt_fault vt_good b11) → va_S A s.heap H locs → ∀ ls : Array Slot, lv_has ls 10 [(0, .ref qt), (1, .int p1), (2, .int p2), (3, .long p3), (5, .int x10), (6, .int x2)] → W p l e (headSpec w_Md_spoil rm_Md_spoil).room s m (([.ref qt, .int p1, .int p2, .long p3] : List Value).toArray) below meth c H locs 0 0 (MQ below (qc_Md_spoil dC dI A r0 qt qt_modules qt_checkBytes qt_blocks qt_data qt_fixed qt_tells qt_segmentModes qt_segmentLengths qt_modes qt_takes qt_bytes qt_words qt_block qt_tried qt_values qt_system qt_solved qt_places qt_generator qt_readBytes qt_readings ct_modules nvt_thrown vt_length vt_version vt_side vt_made vt_segments vt_bits vt_filled vt_readLength vt_at vt_all vt_fault vt_good nvt_modules) (([.ref qt, .int p1, .int p2, .long p3] : List Value).toArray) s 0 0 A) (F0 m 117 ls []) := by
            intro x10 b11 Hf H locs  hP hD hS ls hl
            rw [hk12] at Hf
            obtain ⟨x13, ex13, Hf⟩ := sq_bd_e Hf
            refine lv_iinc (v := x13) (lv' := [(6, .int x13), (0, .ref qt), (1, .int p1), (2, .int p2), (3, .long p3), (5, .int x10)]) hx hb d_Md_spoil_117 hl (k := 5) rfl (by rw [ex13]; rfl) (by decide) rfl (fun ls hl => ?_)
            refine lv_goto (tgt := 11) hx hb d_Md_spoil_120 (by decide) ?_
            exact ih1 x10 x13 b11 Hf _ _  hP hD hS _ (lv_sub hl [1, 2, 3, 4, 5, 0] rfl)
          refine lv_if_eq (tgt := 117) hx hb d_Md_spoil_72 (by decide) (fun c14 => ?_) (fun c14 => ?_)
          · replace Hf := sq_ite_t Hf c14
            exact Jk12 x1 b3 Hf _ _  hP hD hS _ (lv_sub hl [1, 2, 3, 4, 5, 6] rfl)
          · replace Hf := sq_ite_f Hf c14
            refine lv_lload_n hx hb d_Md_spoil_75 rfl (lv_at hl 4 rfl) ?_
            refine lv_iload hx hb d_Md_spoil_76 (lv_at hl 6 rfl) ?_
            refine lv_lshr hx hb d_Md_spoil_78 rfl ?_
            obtain ⟨w15, ew15, Hf⟩ := sq_bd_e Hf
            refine sq_topl ew15 ?_
            refine lv_lconst (v := (1 : Int64)) hx hb d_Md_spoil_79 (by decide) ?_
            refine lv_land hx hb d_Md_spoil_80 ?_
            refine lv_lconst (v := (1 : Int64)) hx hb d_Md_spoil_81 (by decide) ?_
            refine W.lcmp hx hb d_Md_spoil_82 ?_
            obtain ⟨x16, ex16, Hf⟩ := sq_bd_e Hf
            refine sq_top ex16 ?_
            refine lv_if_ne (tgt := 117) hx hb d_Md_spoil_83 (by decide) (fun c17 => ?_) (fun c17 => ?_)
            · replace Hf := sq_ite_f Hf c17
              exact Jk12 x1 b3 Hf _ _  hP hD hS _ (lv_sub hl [1, 2, 3, 4, 5, 6] rfl)
            · replace Hf := sq_ite_t Hf c17
              refine lv_aload_n hx hb d_Md_spoil_86 rfl (lv_at hl 1 rfl) ?_
              refine va_get (D := (dC, dI)) (ci := 10) (v := .ref qt_modules) (C := R_Md) (T := F_Md) (N := 34) hx hb ht i_Md hown hK hP 0 rfl rfl 5 (by decide) (ht _ tb_1067) (fun _ h9 => h9) rfl d_Md_spoil_87 ?_
              refine lv_aload_n hx hb d_Md_spoil_90 rfl (lv_at hl 1 rfl) ?_
              refine lv_lload hx hb d_Md_spoil_91 (lv_at hl 7 rfl) ?_
              refine lv_l2i hx hb d_Md_spoil_93 rfl ?_
              obtain ⟨x18, ex18, Hf⟩ := sq_bd_e Hf
              refine sq_top ex18 ?_
              refine lv_iload_n hx hb d_Md_spoil_94 rfl (lv_at hl 3 rfl) ?_
              obtain ⟨r19, hc20, Hf⟩ := sq_cb1_e Hf
              refine sq_roi (va_runV (As := [.int x18, .int p2]) (rest := [.ref qt_modules]) ⟨hx, hb, hml, hown, ht⟩ (kt_Md_moduleAt l dC dI qt qt_checkBytes qt_blocks qt_data qt_modules qt_fixed qt_tells qt_segmentModes qt_segmentLengths qt_modes qt_takes qt_bytes qt_words qt_block qt_tried qt_values qt_system qt_solved qt_places qt_generator qt_readBytes qt_readings (0 : Int32) vt_length vt_version vt_side vt_made vt_segments vt_bits vt_filled vt_readLength vt_at vt_all vt_fault vt_good x18 p2 r19 hc20) (cwV 2 ht (sq_gV tb_1296 tb_1298 sl_49 tb_11 tb_1299) rfl rfl rfl (by decide +kernel) ⟨Nat.le_of_ble_eq_true rfl, Nat.le_of_ble_eq_true rfl⟩) (sq_roV (hP.sub (ws' := (ww_Md_moduleAt qt qt_checkBytes qt_blocks qt_data qt_modules qt_fixed qt_tells qt_segmentModes qt_segmentLengths qt_modes qt_takes qt_bytes qt_words qt_block qt_tried qt_values qt_system qt_solved qt_places qt_generator qt_readBytes qt_readings (0 : Int32) vt_length vt_version vt_side vt_made vt_segments vt_bits vt_filled vt_readLength vt_at vt_all vt_fault vt_good)) [0] rfl) (hK.sub (tys' := []) [] rfl) (va_recv hK hP (ci := 10) (q0 := 0) rfl rfl)) rfl rfl hl.1 rfl (lv_room (Nat.le_of_ble_eq_true rfl)) d_Md_spoil_95 ⟨Nat.le_of_ble_eq_true rfl, Nat.le_of_ble_eq_true rfl⟩) ?_
              refine lv_iconst (v := (1 : Int32)) hx hb d_Md_spoil_98 (by decide) ?_
              refine lv_aload_n hx hb d_Md_spoil_99 rfl (lv_at hl 1 rfl) ?_
              refine va_get (D := (dC, dI)) (ci := 10) (v := .ref qt_modules) (C := R_Md) (T := F_Md) (N := 34) hx hb ht i_Md hown hK hP 0 rfl rfl 5 (by decide) (ht _ tb_1067) (fun _ h9 => h9) rfl d_Md_spoil_100 ?_
              refine lv_aload_n hx hb d_Md_spoil_103 rfl (lv_at hl 1 rfl) ?_
              refine lv_lload hx hb d_Md_spoil_104 (lv_at hl 7 rfl) ?_
              refine lv_l2i hx hb d_Md_spoil_106 rfl ?_
              obtain ⟨x21, ex21, Hf⟩ := sq_bd_e Hf
              refine sq_top ex21 ?_
              refine lv_iload_n hx hb d_Md_spoil_107 rfl (lv_at hl 3 rfl) ?_
              obtain ⟨r22, hc23, Hf⟩ := sq_cb1_e Hf
              refine sq_roi (va_runV (As := [.int x21, .int p2]) (rest := [.ref qt_modules, .int (1 : Int32), .int r19, .ref qt_modules]) ⟨hx, hb, hml, hown, ht⟩ (kt_Md_moduleAt l dC dI qt qt_checkBytes qt_blocks qt_data qt_modules qt_fixed qt_tells qt_segmentModes qt_segmentLengths qt_modes qt_takes qt_bytes qt_words qt_block qt_tried qt_values qt_system qt_solved qt_places qt_generator qt_readBytes qt_readings (0 : Int32) vt_length vt_version vt_side vt_made vt_segments vt_bits vt_filled vt_readLength vt_at vt_all vt_fault vt_good x21 p2 r22 hc23) (cwV 2 ht (sq_gV tb_1296 tb_1298 sl_49 tb_11 tb_1299) rfl rfl rfl (by decide +kernel) ⟨Nat.le_of_ble_eq_true rfl, Nat.le_of_ble_eq_true rfl⟩) (sq_roV (hP.sub (ws' := (ww_Md_moduleAt qt qt_checkBytes qt_blocks qt_data qt_modules qt_fixed qt_tells qt_segmentModes qt_segmentLengths qt_modes qt_takes qt_bytes qt_words qt_block qt_tried qt_values qt_system qt_solved qt_places qt_generator qt_readBytes qt_readings (0 : Int32) vt_length vt_version vt_side vt_made vt_segments vt_bits vt_filled vt_readLength vt_at vt_all vt_fault vt_good)) [0] rfl) (hK.sub (tys' := []) [] rfl) (va_recv hK hP (ci := 10) (q0 := 0) rfl rfl)) rfl rfl hl.1 rfl (lv_room (Nat.le_of_ble_eq_true rfl)) d_Md_spoil_108 ⟨Nat.le_of_ble_eq_true rfl, Nat.le_of_ble_eq_true rfl⟩) ?_
              obtain ⟨hi24, Hf⟩ := sq_gi_e Hf
              refine va_iald hx hb hK hP 1 0 rfl rfl hi24 d_Md_spoil_111 ?_
              obtain ⟨x25, ex25, Hf⟩ := sq_bd_e Hf
              refine sq_top ex25 ?_
              refine lv_isub hx hb d_Md_spoil_112 ?_
              obtain ⟨x26, ex26, Hf⟩ := sq_bd_e Hf
              refine sq_top ex26 ?_
              obtain ⟨hi27, Hf⟩ := sq_gi_e Hf
              obtain ⟨b28, eb28, Hf⟩ := sq_bd_e Hf
              refine va_iast hx hb hK hP hD hS 1 0 rfl rfl hi27 d_Md_spoil_113 (fun H locs hP hD hS => ?_)
              rw [← eb28] at hP hD
              replace hP : va_P (dC, dI) cl_All (ww_Md_spoil qt qt_modules qt_checkBytes qt_blocks qt_data qt_fixed qt_tells qt_segmentModes qt_segmentLengths qt_modes qt_takes qt_bytes qt_words qt_block qt_tried qt_values qt_system qt_solved qt_places qt_generator qt_readBytes qt_readings ct_modules (0 : Int32) vt_length vt_version vt_side vt_made vt_segments vt_bits vt_filled vt_readLength vt_at vt_all vt_fault vt_good b28) H := hP
              replace hD : va_D A (ww_Md_spoil qt qt_modules qt_checkBytes qt_blocks qt_data qt_fixed qt_tells qt_segmentModes qt_segmentLengths qt_modes qt_takes qt_bytes qt_words qt_block qt_tried qt_values qt_system qt_solved qt_places qt_generator qt_readBytes qt_readings ct_modules (0 : Int32) vt_length vt_version vt_side vt_made vt_segments vt_bits vt_filled vt_readLength vt_at vt_all vt_fault vt_good b28) := hD
              obtain ⟨x29, ex29, Hf⟩ := sq_bd_e Hf
              refine lv_iinc (v := x29) (lv' := [(5, .int x29), (9, .int x8), (0, .ref qt), (1, .int p1), (2, .int p2), (3, .long p3), (6, .int x2), (7, .long w7)]) hx hb d_Md_spoil_114 hl (k := 5) rfl (by rw [ex29]; rfl) (by decide) rfl (fun ls hl => ?_)
              exact Jk12 x29 b28 Hf _ _  hP hD hS _ (lv_sub hl [2, 3, 4, 5, 0, 6] rfl)
        obtain ⟨k30, hk30, Hf⟩ := sq_jn_e Hf
        have Jk30 : ∀ (_u : Unit), k30 _u = some (r0, nvt_thrown, nvt_modules) → ∀ (H : Heap) (locs : List Loc), va_P (dC, dI) cl_All (ww_Md_spoil qt qt_modules qt_checkBytes qt_blocks qt_data qt_fixed qt_tells qt_segmentModes qt_segmentLengths qt_modes qt_takes qt_bytes qt_words qt_block qt_tried qt_values qt_system qt_solved qt_places qt_generator qt_readBytes qt_readings ct_modules (0 : Int32) vt_length vt_version vt_side vt_made vt_segments vt_bits vt_filled vt_readLength vt_at vt_all vt_fault vt_good b3) H → va_D A (ww_Md_spoil qt qt_modules qt_checkBytes qt_blocks qt_data qt_fixed qt_tells qt_segmentModes qt_segmentLengths qt_modes qt_takes qt_bytes qt_words qt_block qt_tried qt_values qt_system qt_solved qt_places qt_generator qt_readBytes qt_readings ct_modules (0 : Int32) vt_length vt_version vt_side vt_made vt_segments vt_bits vt_filled vt_readLength vt_at vt_all vt_fault vt_good b3) → va_S A s.heap H locs → ∀ ls : Array Slot, lv_has ls 10 [(0, .ref qt), (1, .int p1), (2, .int p2), (3, .long p3), (5, .int x1), (6, .int x2), (7, .long w7)] → W p l e (headSpec w_Md_spoil rm_Md_spoil).room s m (([.ref qt, .int p1, .int p2, .long p3] : List Value).toArray) below meth c H locs 0 0 (MQ below (qc_Md_spoil dC dI A r0 qt qt_modules qt_checkBytes qt_blocks qt_data qt_fixed qt_tells qt_segmentModes qt_segmentLengths qt_modes qt_takes qt_bytes qt_words qt_block qt_tried qt_values qt_system qt_solved qt_places qt_generator qt_readBytes qt_readings ct_modules nvt_thrown vt_length vt_version vt_side vt_made vt_segments vt_bits vt_filled vt_readLength vt_at vt_all vt_fault vt_good nvt_modules) (([.ref qt, .int p1, .int p2, .long p3] : List Value).toArray) s 0 0 A) (F0 m 67 ls []) := by
          intro _u Hf H locs  hP hD hS ls hl
          rw [hk30] at Hf
          refine lv_iconst (v := (0 : Int32)) hx hb d_Md_spoil_67 (by decide) ?_
          exact Jk9 (0 : Int32) Hf _ _  hP hD hS _ (lv_sub hl [0, 1, 2, 3, 4, 5, 6] rfl)
        refine lv_if_le (tgt := 67) hx hb d_Md_spoil_30 (by decide) (fun c31 => ?_) (fun c31 => ?_)
        · replace Hf := sq_ite_t Hf c31
          exact Jk30 () Hf _ _  hP hD hS _ (lv_sub hl [1, 2, 3, 4, 5, 6, 0] rfl)
        · replace Hf := sq_ite_f Hf c31
          refine lv_iload_n hx hb d_Md_spoil_33 rfl (lv_at hl 3 rfl) ?_
          refine lv_if_lt (tgt := 67) hx hb d_Md_spoil_34 (by decide) (fun c32 => ?_) (fun c32 => ?_)
          · replace Hf := sq_ite_t Hf c32
            exact Jk30 () Hf _ _  hP hD hS _ (lv_sub hl [1, 2, 3, 4, 5, 6, 0] rfl)
          · replace Hf := sq_ite_f Hf c32
            refine lv_iload_n hx hb d_Md_spoil_37 rfl (lv_at hl 3 rfl) ?_
            refine lv_aload_n hx hb d_Md_spoil_38 rfl (lv_at hl 1 rfl) ?_
            refine va_get (D := (dC, dI)) (ci := 10) (v := .int vt_side) (C := R_Md) (T := F_Md) (N := 34) hx hb ht i_Md hown hK hP 0 rfl rfl 8 (by decide) (ht _ tb_1070) (fun _ h9 => h9) rfl d_Md_spoil_39 ?_
            refine lv_icmp_ge (tgt := 67) hx hb d_Md_spoil_42 (by decide) (fun c33 => ?_) (fun c33 => ?_)
            · replace Hf := sq_ite_t Hf c33
              exact Jk30 () Hf _ _  hP hD hS _ (lv_sub hl [1, 2, 3, 4, 5, 6, 0] rfl)
            · replace Hf := sq_ite_f Hf c33
              refine lv_lload hx hb d_Md_spoil_45 (lv_at hl 0 rfl) ?_
              refine lv_lconst (v := (0 : Int64)) hx hb d_Md_spoil_47 (by decide) ?_
              refine W.lcmp hx hb d_Md_spoil_48 ?_
              obtain ⟨x34, ex34, Hf⟩ := sq_bd_e Hf
              refine sq_top ex34 ?_
              refine lv_if_lt (tgt := 67) hx hb d_Md_spoil_49 (by decide) (fun c35 => ?_) (fun c35 => ?_)
              · replace Hf := sq_ite_t Hf c35
                exact Jk30 () Hf _ _  hP hD hS _ (lv_sub hl [1, 2, 3, 4, 5, 6, 0] rfl)
              · replace Hf := sq_ite_f Hf c35
                refine lv_lload hx hb d_Md_spoil_52 (lv_at hl 0 rfl) ?_
                refine lv_aload_n hx hb d_Md_spoil_54 rfl (lv_at hl 1 rfl) ?_
                refine va_get (D := (dC, dI)) (ci := 10) (v := .int vt_side) (C := R_Md) (T := F_Md) (N := 34) hx hb ht i_Md hown hK hP 0 rfl rfl 8 (by decide) (ht _ tb_1070) (fun _ h9 => h9) rfl d_Md_spoil_55 ?_
                refine lv_i2l hx hb d_Md_spoil_58 rfl ?_
                obtain ⟨w36, ew36, Hf⟩ := sq_bd_e Hf
                refine sq_topl ew36 ?_
                refine W.lcmp hx hb d_Md_spoil_59 ?_
                obtain ⟨x37, ex37, Hf⟩ := sq_bd_e Hf
                refine sq_top ex37 ?_
                refine lv_if_ge (tgt := 67) hx hb d_Md_spoil_60 (by decide) (fun c38 => ?_) (fun c38 => ?_)
                · replace Hf := sq_ite_t Hf c38
                  exact Jk30 () Hf _ _  hP hD hS _ (lv_sub hl [1, 2, 3, 4, 5, 6, 0] rfl)
                · replace Hf := sq_ite_f Hf c38
                  refine lv_iconst (v := (1 : Int32)) hx hb d_Md_spoil_63 (by decide) ?_
                  refine lv_goto (tgt := 68) hx hb d_Md_spoil_64 (by decide) ?_
                  exact Jk9 (1 : Int32) Hf _ _  hP hD hS _ (lv_sub hl [1, 2, 3, 4, 5, 6, 0] rfl)
  exact L1 n0 (0 : Int32) (0 : Int32) vt_modules Hf _ _  hP hD hS _ (lv_sub hl [2, 3, 4, 5, 1, 0] rfl)

def fn_Md_formBits_L1 (p1 : Int32) (vt_side : Int32) (vt_modules : Nat → Int32) : Nat → Int32 → Int32 → Option (Int32)
  | 0, _, _ => none
  | m1 + 1, x1, x2 => if (15 : Int32) ≤ x2 then (some (x1)) else (sq_cb1 (fn_Md_formX x2 p1 vt_side) fun r4 => sq_cb1 (fn_Md_formY x2 p1 vt_side) fun r6 => sq_cb1 (fn_Md_moduleAt r4 r6) fun r8 => sq_gi r8 31329 <| sq_bd (vt_modules r8.toNatClampNeg) fun x11 => sq_bd (x1 ||| (x11 <<< (x2 &&& 31))) fun x12 => sq_bd (x2 + (1 : Int32)) fun x13 => fn_Md_formBits_L1 p1 vt_side vt_modules m1 x12 x13)
theorem fn_Md_formBits_L1_s (p1 : Int32) (vt_side : Int32) (vt_modules : Nat → Int32) (m1 : Nat) (x1 : Int32) (x2 : Int32) : fn_Md_formBits_L1 p1 vt_side vt_modules (m1 + 1) x1 x2 = if (15 : Int32) ≤ x2 then (some (x1)) else (sq_cb1 (fn_Md_formX x2 p1 vt_side) fun r4 => sq_cb1 (fn_Md_formY x2 p1 vt_side) fun r6 => sq_cb1 (fn_Md_moduleAt r4 r6) fun r8 => sq_gi r8 31329 <| sq_bd (vt_modules r8.toNatClampNeg) fun x11 => sq_bd (x1 ||| (x11 <<< (x2 &&& 31))) fun x12 => sq_bd (x2 + (1 : Int32)) fun x13 => fn_Md_formBits_L1 p1 vt_side vt_modules m1 x12 x13) := rfl
def fn_Md_formBits (n0 : Nat) (p1 : Int32) (vt_side : Int32) (vt_modules : Nat → Int32) : Option (Int32) :=
  fn_Md_formBits_L1 p1 vt_side vt_modules n0 (0 : Int32) (0 : Int32)
abbrev ww_Md_formBits (qt qt_modules qt_checkBytes qt_blocks qt_data qt_fixed qt_tells qt_segmentModes qt_segmentLengths qt_modes qt_takes qt_bytes qt_words qt_block qt_tried qt_values qt_system qt_solved qt_places qt_generator qt_readBytes qt_readings : Nat) (ct_modules : ClassId) (vt_thrown : Int32) (vt_length : Int32) (vt_version : Int32) (vt_side : Int32) (vt_made : Int32) (vt_segments : Int32) (vt_bits : Int32) (vt_filled : Int32) (vt_readLength : Int32) (vt_at : Int32) (vt_all : Int32) (vt_fault : Int32) (vt_good : Int32) (vt_modules : Nat → Int32) : va_W := [(qt, .inr (10, [.int vt_thrown, .ref qt_checkBytes, .ref qt_blocks, .ref qt_data, .int vt_length, .ref qt_modules, .ref qt_fixed, .int vt_version, .int vt_side, .int vt_made, .ref qt_tells, .ref qt_segmentModes, .ref qt_segmentLengths, .int vt_segments, .ref qt_modes, .ref qt_takes, .int vt_bits, .ref qt_bytes, .ref qt_words, .int vt_filled, .ref qt_block, .ref qt_tried, .ref qt_values, .ref qt_system, .ref qt_solved, .ref qt_places, .ref qt_generator, .ref qt_readBytes, .int vt_readLength, .int vt_at, .int vt_all, .int vt_fault, .int vt_good, .ref qt_readings])), (qt_modules, .inl (ct_modules, 31329, .inl vt_modules))]

def rm_Md_formBits : Room := { frames := 1, cells := 0, slots := 0, locals := 22 }
abbrev qc_Md_formBits (r0 : Int32) : Array Value → State → Outcome → State → Prop := vp_Si (fun r => r = r0)

set_option maxHeartbeats 4000000 in
set_option maxRecDepth 100000 in
theorem kt_Md_formBits (l : Launch) (dC : Nat → ClassId) (dI : Nat → Nat → Nat) (qt qt_modules qt_checkBytes qt_blocks qt_data qt_fixed qt_tells qt_segmentModes qt_segmentLengths qt_modes qt_takes qt_bytes qt_words qt_block qt_tried qt_values qt_system qt_solved qt_places qt_generator qt_readBytes qt_readings : Nat) (ct_modules : ClassId) (vt_thrown : Int32) (vt_length : Int32) (vt_version : Int32) (vt_side : Int32) (vt_made : Int32) (vt_segments : Int32) (vt_bits : Int32) (vt_filled : Int32) (vt_readLength : Int32) (vt_at : Int32) (vt_all : Int32) (vt_fault : Int32) (vt_good : Int32) (vt_modules : Nat → Int32) (p1 : Int32) (n0 : Nat) (r0 : Int32) (Hf : fn_Md_formBits n0 p1 vt_side vt_modules = some r0) : Met l y_Md_formBits w_Md_formBits rm_Md_formBits (va_Pc [.ref qt, .int p1] (fun U => va_P (dC, dI) cl_All (ww_Md_formBits qt qt_modules qt_checkBytes qt_blocks qt_data qt_fixed qt_tells qt_segmentModes qt_segmentLengths qt_modes qt_takes qt_bytes qt_words qt_block qt_tried qt_values qt_system qt_solved qt_places qt_generator qt_readBytes qt_readings ct_modules vt_thrown vt_length vt_version vt_side vt_made vt_segments vt_bits vt_filled vt_readLength vt_at vt_all vt_fault vt_good vt_modules) U.heap ∧ va_K (dC, dI) cl_All [(ct_modules, .int)] U)) (qc_Md_formBits r0) 0 0 (fun _ => False) := by
  refine Met.ofW (cc := prog_14_method_64_code) (maxL := 4) (ret := (some .int)) (by decide) rfl ?_
  intro p e s m args below meth c s₁ B hml hv
  obtain ⟨rfl, hP, hK⟩ := hv
  have hx := B.exec; have hb := B.bytes; have hr := B.returns; have hlocks := B.notSynchronized
  have ht : ∀ w ∈ lw_g, w.before _ s = true := fun w h => atoms_spec (ws := w_Md_formBits) B.pre w (List.mem_cons_of_mem _ h)
  have hown : s.vm.findClass "SquareSymbolsModel" = some m.cls := findClass_of_methodNamed B.named
  have hl := lv_entry ([.ref qt, .int p1]) (n := 4) (Nat.le_of_ble_eq_true rfl)
  rw [lg_entry_eq]
  generalize (lg_sl ([.ref qt, .int p1]) ++ List.replicate (4 - (lg_sl ([.ref qt, .int p1])).length) Slot.unset).toArray = ls at hl ⊢
  have hl : lv_has ls 4 [(0, .ref qt), (1, .int p1)] := hl
  refine lv_iconst (v := (0 : Int32)) hx hb d_Md_formBits_0 (by decide) ?_
  refine lv_istore_n (lv' := [(2, .int (0 : Int32)), (0, .ref qt), (1, .int p1)]) hx hb d_Md_formBits_1 rfl hl (by decide) rfl (fun ls hl => ?_)
  refine lv_iconst (v := (0 : Int32)) hx hb d_Md_formBits_2 (by decide) ?_
  refine lv_istore_n (lv' := [(3, .int (0 : Int32)), (2, .int (0 : Int32)), (0, .ref qt), (1, .int p1)]) hx hb d_Md_formBits_3 rfl hl (by decide) rfl (fun ls hl => ?_)
  have L1 : ∀ (m1 : Nat), ∀ (x1 : Int32) (x2 : Int32), fn_Md_formBits_L1 p1 vt_side vt_modules m1 x1 x2 = some r0 → ∀ ls : Array Slot, lv_has ls 4 [(0, .ref qt), (1, .int p1), (2, .int x1), (3, .int x2)] → W p l e (headSpec w_Md_formBits rm_Md_formBits).room s m (([.ref qt, .int p1] : List Value).toArray) below meth c s.heap [] 0 0 (MQ below (qc_Md_formBits r0) (([.ref qt, .int p1] : List Value).toArray) s 0 0 (fun _ => False)) (F0 m 4 ls []) := by
    intro m1
    induction m1 with
    | zero => intro x1 x2 Hf; exact sq_none Hf
    | succ m1 ih1 =>
      intro x1 x2 Hf ls hl
      replace Hf := (fn_Md_formBits_L1_s p1 vt_side vt_modules m1 x1 x2).symm.trans Hf
      refine lv_iload_n hx hb d_Md_formBits_4 rfl (lv_at hl 3 rfl) ?_
      refine lv_bipush (v := (15 : Int32)) hx hb d_Md_formBits_5 (by decide) ?_
      refine lv_icmp_ge (tgt := 48) hx hb d_Md_formBits_7 (by decide) (fun c3 => ?_) (fun c3 => ?_)
      · replace Hf := sq_ite_t Hf c3
        refine lv_iload_n hx hb d_Md_formBits_48 rfl (lv_at hl 2 rfl) ?_
        have er := Option.some.inj Hf
        exact W.iret hx hb hr (fun t ht hW => ⟨_, rfl, er, ht⟩) (fun q h => by cases h) d_Md_formBits_49
      · replace Hf := sq_ite_f Hf c3
        refine lv_iload_n hx hb d_Md_formBits_10 rfl (lv_at hl 2 rfl) ?_
        refine lv_aload_n hx hb d_Md_formBits_11 rfl (lv_at hl 0 rfl) ?_
        refine va_get (D := (dC, dI)) (ci := 10) (v := .ref qt_modules) (C := R_Md) (T := F_Md) (N := 34) hx hb ht i_Md hown hK hP 0 rfl rfl 5 (by decide) (ht _ tb_1067) (fun _ h9 => h9) rfl d_Md_formBits_12 ?_
        refine lv_aload_n hx hb d_Md_formBits_15 rfl (lv_at hl 0 rfl) ?_
        refine lv_iload_n hx hb d_Md_formBits_16 rfl (lv_at hl 3 rfl) ?_
        refine lv_iload_n hx hb d_Md_formBits_17 rfl (lv_at hl 1 rfl) ?_
        refine lv_aload_n hx hb d_Md_formBits_18 rfl (lv_at hl 0 rfl) ?_
        refine va_get (D := (dC, dI)) (ci := 10) (v := .int vt_side) (C := R_Md) (T := F_Md) (N := 34) hx hb ht i_Md hown hK hP 0 rfl rfl 8 (by decide) (ht _ tb_1070) (fun _ h9 => h9) rfl d_Md_formBits_19 ?_
        obtain ⟨r4, hc5, Hf⟩ := sq_cb1_e Hf
        refine sq_roi (va_runS (As := [.int x2, .int p1, .int vt_side]) (rest := [.ref qt, .ref qt_modules, .int x1]) ⟨hx, hb, hml, hown, ht⟩ (kt_Md_formX l dC dI x2 p1 vt_side r4 hc5) (va_cwS 3 ht (sq_gS tb_1320 tb_1321 tb_11 tb_1322) rfl rfl rfl (by decide +kernel) ⟨Nat.le_of_ble_eq_true rfl, Nat.le_of_ble_eq_true rfl⟩) (sq_roS (hP.sub (ws' := ([] : va_W)) [] rfl) (hK.sub (tys' := []) [] rfl)) rfl rfl hl.1 rfl (lv_room (Nat.le_of_ble_eq_true rfl)) d_Md_formBits_22 ⟨Nat.le_of_ble_eq_true rfl, Nat.le_of_ble_eq_true rfl⟩) ?_
        refine lv_iload_n hx hb d_Md_formBits_25 rfl (lv_at hl 3 rfl) ?_
        refine lv_iload_n hx hb d_Md_formBits_26 rfl (lv_at hl 1 rfl) ?_
        refine lv_aload_n hx hb d_Md_formBits_27 rfl (lv_at hl 0 rfl) ?_
        refine va_get (D := (dC, dI)) (ci := 10) (v := .int vt_side) (C := R_Md) (T := F_Md) (N := 34) hx hb ht i_Md hown hK hP 0 rfl rfl 8 (by decide) (ht _ tb_1070) (fun _ h9 => h9) rfl d_Md_formBits_28 ?_
        obtain ⟨r6, hc7, Hf⟩ := sq_cb1_e Hf
        refine sq_roi (va_runS (As := [.int x2, .int p1, .int vt_side]) (rest := [.int r4, .ref qt, .ref qt_modules, .int x1]) ⟨hx, hb, hml, hown, ht⟩ (kt_Md_formY l dC dI x2 p1 vt_side r6 hc7) (va_cwS 3 ht (sq_gS tb_1323 tb_1324 tb_11 tb_1325) rfl rfl rfl (by decide +kernel) ⟨Nat.le_of_ble_eq_true rfl, Nat.le_of_ble_eq_true rfl⟩) (sq_roS (hP.sub (ws' := ([] : va_W)) [] rfl) (hK.sub (tys' := []) [] rfl)) rfl rfl hl.1 rfl (lv_room (Nat.le_of_ble_eq_true rfl)) d_Md_formBits_31 ⟨Nat.le_of_ble_eq_true rfl, Nat.le_of_ble_eq_true rfl⟩) ?_
        obtain ⟨r8, hc9, Hf⟩ := sq_cb1_e Hf
        refine sq_roi (va_runV (As := [.int r4, .int r6]) (rest := [.ref qt_modules, .int x1]) ⟨hx, hb, hml, hown, ht⟩ (kt_Md_moduleAt l dC dI qt qt_checkBytes qt_blocks qt_data qt_modules qt_fixed qt_tells qt_segmentModes qt_segmentLengths qt_modes qt_takes qt_bytes qt_words qt_block qt_tried qt_values qt_system qt_solved qt_places qt_generator qt_readBytes qt_readings vt_thrown vt_length vt_version vt_side vt_made vt_segments vt_bits vt_filled vt_readLength vt_at vt_all vt_fault vt_good r4 r6 r8 hc9) (cwV 2 ht (sq_gV tb_1296 tb_1298 sl_49 tb_11 tb_1299) rfl rfl rfl (by decide +kernel) ⟨Nat.le_of_ble_eq_true rfl, Nat.le_of_ble_eq_true rfl⟩) (sq_roV (hP.sub (ws' := (ww_Md_moduleAt qt qt_checkBytes qt_blocks qt_data qt_modules qt_fixed qt_tells qt_segmentModes qt_segmentLengths qt_modes qt_takes qt_bytes qt_words qt_block qt_tried qt_values qt_system qt_solved qt_places qt_generator qt_readBytes qt_readings vt_thrown vt_length vt_version vt_side vt_made vt_segments vt_bits vt_filled vt_readLength vt_at vt_all vt_fault vt_good)) [0] rfl) (hK.sub (tys' := []) [] rfl) (va_recv hK hP (ci := 10) (q0 := 0) rfl rfl)) rfl rfl hl.1 rfl (lv_room (Nat.le_of_ble_eq_true rfl)) d_Md_formBits_34 ⟨Nat.le_of_ble_eq_true rfl, Nat.le_of_ble_eq_true rfl⟩) ?_
        obtain ⟨hi10, Hf⟩ := sq_gi_e Hf
        refine va_iald hx hb hK hP 1 0 rfl rfl hi10 d_Md_formBits_37 ?_
        obtain ⟨x11, ex11, Hf⟩ := sq_bd_e Hf
        refine sq_top ex11 ?_
        refine lv_iload_n hx hb d_Md_formBits_38 rfl (lv_at hl 3 rfl) ?_
        refine lv_ishl hx hb d_Md_formBits_39 ?_
        refine lv_ior hx hb d_Md_formBits_40 ?_
        obtain ⟨x12, ex12, Hf⟩ := sq_bd_e Hf
        refine sq_top ex12 ?_
        refine lv_istore_n (lv' := [(2, .int x12), (0, .ref qt), (1, .int p1), (3, .int x2)]) hx hb d_Md_formBits_41 rfl hl (by decide) rfl (fun ls hl => ?_)
        obtain ⟨x13, ex13, Hf⟩ := sq_bd_e Hf
        refine lv_iinc (v := x13) (lv' := [(3, .int x13), (2, .int x12), (0, .ref qt), (1, .int p1)]) hx hb d_Md_formBits_42 hl (k := 3) rfl (by rw [ex13]; rfl) (by decide) rfl (fun ls hl => ?_)
        refine lv_goto (tgt := 4) hx hb d_Md_formBits_45 (by decide) ?_
        exact ih1 x12 x13 Hf _ (lv_sub hl [2, 3, 1, 0] rfl)
  exact L1 n0 (0 : Int32) (0 : Int32) Hf _ (lv_sub hl [2, 3, 1, 0] rfl)

def fn_Md_ones_L1 (p1 : Int32) : Nat → Int32 → Int32 → Option (Int32)
  | 0, _, _ => none
  | m1 + 1, x1, x2 => if (15 : Int32) ≤ x2 then (some (x1)) else (sq_bd (x1 + ((p1 >>> (x2 &&& 31)) &&& (1 : Int32))) fun x4 => sq_bd (x2 + (1 : Int32)) fun x5 => fn_Md_ones_L1 p1 m1 x4 x5)
theorem fn_Md_ones_L1_s (p1 : Int32) (m1 : Nat) (x1 : Int32) (x2 : Int32) : fn_Md_ones_L1 p1 (m1 + 1) x1 x2 = if (15 : Int32) ≤ x2 then (some (x1)) else (sq_bd (x1 + ((p1 >>> (x2 &&& 31)) &&& (1 : Int32))) fun x4 => sq_bd (x2 + (1 : Int32)) fun x5 => fn_Md_ones_L1 p1 m1 x4 x5) := rfl
def fn_Md_ones (n0 : Nat) (p1 : Int32) : Option (Int32) :=
  fn_Md_ones_L1 p1 n0 (0 : Int32) (0 : Int32)
def rm_Md_ones : Room := { frames := 0, cells := 0, slots := 0, locals := 0 }
abbrev qc_Md_ones (r0 : Int32) : Array Value → State → Outcome → State → Prop := vp_Si (fun r => r = r0)

set_option maxHeartbeats 4000000 in
set_option maxRecDepth 100000 in
theorem kt_Md_ones (l : Launch) (dC : Nat → ClassId) (dI : Nat → Nat → Nat) (p1 : Int32) (n0 : Nat) (r0 : Int32) (Hf : fn_Md_ones n0 p1 = some r0) : Met l y_Md_ones w_Md_ones rm_Md_ones (va_Pc [.int p1] (fun U => va_P (dC, dI) cl_All ([] : va_W) U.heap ∧ va_K (dC, dI) cl_All [] U)) (qc_Md_ones r0) 0 0 (fun _ => False) := by
  refine Met.ofW (cc := prog_14_method_65_code) (maxL := 3) (ret := (some .int)) (by decide) rfl ?_
  intro p e s m args below meth c s₁ B hml hv
  obtain ⟨rfl, hP, hK⟩ := hv
  have hx := B.exec; have hb := B.bytes; have hr := B.returns; have hlocks := B.notSynchronized
  have ht : ∀ w ∈ lw_g, w.before _ s = true := fun w h => atoms_spec (ws := w_Md_ones) B.pre w (List.mem_cons_of_mem _ h)
  have hown : s.vm.findClass "SquareSymbolsModel" = some m.cls := findClass_of_methodNamed B.named
  have hl := lv_entry ([.int p1]) (n := 3) (Nat.le_of_ble_eq_true rfl)
  rw [lg_entry_eq]
  generalize (lg_sl ([.int p1]) ++ List.replicate (3 - (lg_sl ([.int p1])).length) Slot.unset).toArray = ls at hl ⊢
  have hl : lv_has ls 3 [(0, .int p1)] := hl
  refine lv_iconst (v := (0 : Int32)) hx hb d_Md_ones_0 (by decide) ?_
  refine lv_istore_n (lv' := [(1, .int (0 : Int32)), (0, .int p1)]) hx hb d_Md_ones_1 rfl hl (by decide) rfl (fun ls hl => ?_)
  refine lv_iconst (v := (0 : Int32)) hx hb d_Md_ones_2 (by decide) ?_
  refine lv_istore_n (lv' := [(2, .int (0 : Int32)), (1, .int (0 : Int32)), (0, .int p1)]) hx hb d_Md_ones_3 rfl hl (by decide) rfl (fun ls hl => ?_)
  have L1 : ∀ (m1 : Nat), ∀ (x1 : Int32) (x2 : Int32), fn_Md_ones_L1 p1 m1 x1 x2 = some r0 → ∀ ls : Array Slot, lv_has ls 3 [(0, .int p1), (1, .int x1), (2, .int x2)] → W p l e (headSpec w_Md_ones rm_Md_ones).room s m (([.int p1] : List Value).toArray) below meth c s.heap [] 0 0 (MQ below (qc_Md_ones r0) (([.int p1] : List Value).toArray) s 0 0 (fun _ => False)) (F0 m 4 ls []) := by
    intro m1
    induction m1 with
    | zero => intro x1 x2 Hf; exact sq_none Hf
    | succ m1 ih1 =>
      intro x1 x2 Hf ls hl
      replace Hf := (fn_Md_ones_L1_s p1 m1 x1 x2).symm.trans Hf
      refine lv_iload_n hx hb d_Md_ones_4 rfl (lv_at hl 2 rfl) ?_
      refine lv_bipush (v := (15 : Int32)) hx hb d_Md_ones_5 (by decide) ?_
      refine lv_icmp_ge (tgt := 24) hx hb d_Md_ones_7 (by decide) (fun c3 => ?_) (fun c3 => ?_)
      · replace Hf := sq_ite_t Hf c3
        refine lv_iload_n hx hb d_Md_ones_24 rfl (lv_at hl 1 rfl) ?_
        have er := Option.some.inj Hf
        exact W.iret hx hb hr (fun t ht hW => ⟨_, rfl, er, ht⟩) (fun q h => by cases h) d_Md_ones_25
      · replace Hf := sq_ite_f Hf c3
        refine lv_iload_n hx hb d_Md_ones_10 rfl (lv_at hl 1 rfl) ?_
        refine lv_iload_n hx hb d_Md_ones_11 rfl (lv_at hl 0 rfl) ?_
        refine lv_iload_n hx hb d_Md_ones_12 rfl (lv_at hl 2 rfl) ?_
        refine lv_ishr hx hb d_Md_ones_13 ?_
        refine lv_iconst (v := (1 : Int32)) hx hb d_Md_ones_14 (by decide) ?_
        refine lv_iand hx hb d_Md_ones_15 ?_
        refine lv_iadd hx hb d_Md_ones_16 ?_
        obtain ⟨x4, ex4, Hf⟩ := sq_bd_e Hf
        refine sq_top ex4 ?_
        refine lv_istore_n (lv' := [(1, .int x4), (0, .int p1), (2, .int x2)]) hx hb d_Md_ones_17 rfl hl (by decide) rfl (fun ls hl => ?_)
        obtain ⟨x5, ex5, Hf⟩ := sq_bd_e Hf
        refine lv_iinc (v := x5) (lv' := [(2, .int x5), (1, .int x4), (0, .int p1)]) hx hb d_Md_ones_18 hl (k := 2) rfl (by rw [ex5]; rfl) (by decide) rfl (fun ls hl => ?_)
        refine lv_goto (tgt := 4) hx hb d_Md_ones_21 (by decide) ?_
        exact ih1 x4 x5 Hf _ (lv_sub hl [2, 1, 0] rfl)
  exact L1 n0 (0 : Int32) (0 : Int32) Hf _ (lv_sub hl [2, 1, 0] rfl)

def fn_Md_formNumberRead_L2 (n0 : Nat) (r5 : Int32) (k7 : Unit → Option (Int32)) : Nat → Int32 → Option (Int32)
  | 0, _ => none
  | m2 + 1, x9 => if (32 : Int32) ≤ x9 then (k7 ()) else (sq_cb1 (fn_Md_formWord n0 x9) fun r11 => sq_cb1 (fn_Md_ones n0 (r5 ^^^ r11)) fun r13 => if (3 : Int32) < r13 then (sq_bd (x9 + (1 : Int32)) fun x16 => fn_Md_formNumberRead_L2 n0 r5 k7 m2 x16) else (some (x9)))
theorem fn_Md_formNumberRead_L2_s (n0 : Nat) (r5 : Int32) (k7 : Unit → Option (Int32)) (m2 : Nat) (x9 : Int32) : fn_Md_formNumberRead_L2 n0 r5 k7 (m2 + 1) x9 = if (32 : Int32) ≤ x9 then (k7 ()) else (sq_cb1 (fn_Md_formWord n0 x9) fun r11 => sq_cb1 (fn_Md_ones n0 (r5 ^^^ r11)) fun r13 => if (3 : Int32) < r13 then (sq_bd (x9 + (1 : Int32)) fun x16 => fn_Md_formNumberRead_L2 n0 r5 k7 m2 x16) else (some (x9))) := rfl
def fn_Md_formNumberRead_L1 (n0 : Nat) (vt_side : Int32) (vt_modules : Nat → Int32) : Nat → Int32 → Option (Int32)
  | 0, _ => none
  | m1 + 1, x1 => if (2 : Int32) ≤ x1 then (some ((-1 : Int32))) else (sq_jn (fun (x3 : Int32) => sq_cb1 (fn_Md_formBits n0 x3 vt_side vt_modules) fun r5 => sq_jn (fun (_ : Unit) => sq_bd (x1 + (1 : Int32)) fun x8 => fn_Md_formNumberRead_L1 n0 vt_side vt_modules m1 x8) fun k7 => fn_Md_formNumberRead_L2 n0 r5 k7 n0 (0 : Int32)) fun k4 => if x1 = (1 : Int32) then (k4 (1 : Int32)) else (k4 (0 : Int32)))
theorem fn_Md_formNumberRead_L1_s (n0 : Nat) (vt_side : Int32) (vt_modules : Nat → Int32) (m1 : Nat) (x1 : Int32) : fn_Md_formNumberRead_L1 n0 vt_side vt_modules (m1 + 1) x1 = if (2 : Int32) ≤ x1 then (some ((-1 : Int32))) else (sq_jn (fun (x3 : Int32) => sq_cb1 (fn_Md_formBits n0 x3 vt_side vt_modules) fun r5 => sq_jn (fun (_ : Unit) => sq_bd (x1 + (1 : Int32)) fun x8 => fn_Md_formNumberRead_L1 n0 vt_side vt_modules m1 x8) fun k7 => fn_Md_formNumberRead_L2 n0 r5 k7 n0 (0 : Int32)) fun k4 => if x1 = (1 : Int32) then (k4 (1 : Int32)) else (k4 (0 : Int32))) := rfl
def fn_Md_formNumberRead (n0 : Nat) (vt_side : Int32) (vt_modules : Nat → Int32) : Option (Int32) :=
  fn_Md_formNumberRead_L1 n0 vt_side vt_modules n0 (0 : Int32)
abbrev ww_Md_formNumberRead (qt qt_modules qt_checkBytes qt_blocks qt_data qt_fixed qt_tells qt_segmentModes qt_segmentLengths qt_modes qt_takes qt_bytes qt_words qt_block qt_tried qt_values qt_system qt_solved qt_places qt_generator qt_readBytes qt_readings : Nat) (ct_modules : ClassId) (vt_thrown : Int32) (vt_length : Int32) (vt_version : Int32) (vt_side : Int32) (vt_made : Int32) (vt_segments : Int32) (vt_bits : Int32) (vt_filled : Int32) (vt_readLength : Int32) (vt_at : Int32) (vt_all : Int32) (vt_fault : Int32) (vt_good : Int32) (vt_modules : Nat → Int32) : va_W := [(qt, .inr (10, [.int vt_thrown, .ref qt_checkBytes, .ref qt_blocks, .ref qt_data, .int vt_length, .ref qt_modules, .ref qt_fixed, .int vt_version, .int vt_side, .int vt_made, .ref qt_tells, .ref qt_segmentModes, .ref qt_segmentLengths, .int vt_segments, .ref qt_modes, .ref qt_takes, .int vt_bits, .ref qt_bytes, .ref qt_words, .int vt_filled, .ref qt_block, .ref qt_tried, .ref qt_values, .ref qt_system, .ref qt_solved, .ref qt_places, .ref qt_generator, .ref qt_readBytes, .int vt_readLength, .int vt_at, .int vt_all, .int vt_fault, .int vt_good, .ref qt_readings])), (qt_modules, .inl (ct_modules, 31329, .inl vt_modules))]

def rm_Md_formNumberRead : Room := { frames := 2, cells := 0, slots := 0, locals := 45 }
abbrev qc_Md_formNumberRead (r0 : Int32) : Array Value → State → Outcome → State → Prop := vp_Si (fun r => r = r0)

set_option maxHeartbeats 4000000 in
set_option maxRecDepth 100000 in
theorem kt_Md_formNumberRead (l : Launch) (dC : Nat → ClassId) (dI : Nat → Nat → Nat) (qt qt_modules qt_checkBytes qt_blocks qt_data qt_fixed qt_tells qt_segmentModes qt_segmentLengths qt_modes qt_takes qt_bytes qt_words qt_block qt_tried qt_values qt_system qt_solved qt_places qt_generator qt_readBytes qt_readings : Nat) (ct_modules : ClassId) (vt_thrown : Int32) (vt_length : Int32) (vt_version : Int32) (vt_side : Int32) (vt_made : Int32) (vt_segments : Int32) (vt_bits : Int32) (vt_filled : Int32) (vt_readLength : Int32) (vt_at : Int32) (vt_all : Int32) (vt_fault : Int32) (vt_good : Int32) (vt_modules : Nat → Int32) (n0 : Nat) (r0 : Int32) (Hf : fn_Md_formNumberRead n0 vt_side vt_modules = some r0) : Met l y_Md_formNumberRead w_Md_formNumberRead rm_Md_formNumberRead (va_Pc [.ref qt] (fun U => va_P (dC, dI) cl_All (ww_Md_formNumberRead qt qt_modules qt_checkBytes qt_blocks qt_data qt_fixed qt_tells qt_segmentModes qt_segmentLengths qt_modes qt_takes qt_bytes qt_words qt_block qt_tried qt_values qt_system qt_solved qt_places qt_generator qt_readBytes qt_readings ct_modules vt_thrown vt_length vt_version vt_side vt_made vt_segments vt_bits vt_filled vt_readLength vt_at vt_all vt_fault vt_good vt_modules) U.heap ∧ va_K (dC, dI) cl_All [(ct_modules, .int)] U)) (qc_Md_formNumberRead r0) 0 0 (fun _ => False) := by
  refine Met.ofW (cc := prog_14_method_66_code) (maxL := 4) (ret := (some .int)) (by decide) rfl ?_
  intro p e s m args below meth c s₁ B hml hv
  obtain ⟨rfl, hP, hK⟩ := hv
  have hx := B.exec; have hb := B.bytes; have hr := B.returns; have hlocks := B.notSynchronized
  have ht : ∀ w ∈ lw_g, w.before _ s = true := fun w h => atoms_spec (ws := w_Md_formNumberRead) B.pre w (List.mem_cons_of_mem _ h)
  have hown : s.vm.findClass "SquareSymbolsModel" = some m.cls := findClass_of_methodNamed B.named
  have hl := lv_entry ([.ref qt]) (n := 4) (Nat.le_of_ble_eq_true rfl)
  rw [lg_entry_eq]
  generalize (lg_sl ([.ref qt]) ++ List.replicate (4 - (lg_sl ([.ref qt])).length) Slot.unset).toArray = ls at hl ⊢
  have hl : lv_has ls 4 [(0, .ref qt)] := hl
  refine lv_iconst (v := (0 : Int32)) hx hb d_Md_formNumberRead_0 (by decide) ?_
  refine lv_istore_n (lv' := [(1, .int (0 : Int32)), (0, .ref qt)]) hx hb d_Md_formNumberRead_1 rfl hl (by decide) rfl (fun ls hl => ?_)
  have L1 : ∀ (m1 : Nat), ∀ (x1 : Int32), fn_Md_formNumberRead_L1 n0 vt_side vt_modules m1 x1 = some r0 → ∀ ls : Array Slot, lv_has ls 4 [(0, .ref qt), (1, .int x1)] → W p l e (headSpec w_Md_formNumberRead rm_Md_formNumberRead).room s m (([.ref qt] : List Value).toArray) below meth c s.heap [] 0 0 (MQ below (qc_Md_formNumberRead r0) (([.ref qt] : List Value).toArray) s 0 0 (fun _ => False)) (F0 m 2 ls []) := by
    intro m1
    induction m1 with
    | zero => intro x1 Hf; exact sq_none Hf
    | succ m1 ih1 =>
      intro x1 Hf ls hl
      replace Hf := (fn_Md_formNumberRead_L1_s n0 vt_side vt_modules m1 x1).symm.trans Hf
      refine lv_iload_n hx hb d_Md_formNumberRead_2 rfl (lv_at hl 1 rfl) ?_
      refine lv_iconst (v := (2 : Int32)) hx hb d_Md_formNumberRead_3 (by decide) ?_
      refine lv_icmp_ge (tgt := 57) hx hb d_Md_formNumberRead_4 (by decide) (fun c2 => ?_) (fun c2 => ?_)
      · replace Hf := sq_ite_t Hf c2
        refine lv_iconst (v := (-1 : Int32)) hx hb d_Md_formNumberRead_57 (by decide) ?_
        have er := Option.some.inj Hf
        exact W.iret hx hb hr (fun t ht hW => ⟨_, rfl, er, ht⟩) (fun q h => by cases h) d_Md_formNumberRead_58
      · replace Hf := sq_ite_f Hf c2
        refine lv_aload_n hx hb d_Md_formNumberRead_7 rfl (lv_at hl 0 rfl) ?_
        refine lv_iload_n hx hb d_Md_formNumberRead_8 rfl (lv_at hl 1 rfl) ?_
        refine lv_iconst (v := (1 : Int32)) hx hb d_Md_formNumberRead_9 (by decide) ?_
        obtain ⟨k4, hk4, Hf⟩ := sq_jn_e Hf
        have Jk4 : ∀ (x3 : Int32), k4 x3 = some r0 → ∀ ls : Array Slot, lv_has ls 4 [(0, .ref qt), (1, .int x1)] → W p l e (headSpec w_Md_formNumberRead rm_Md_formNumberRead).room s m (([.ref qt] : List Value).toArray) below meth c s.heap [] 0 0 (MQ below (qc_Md_formNumberRead r0) (([.ref qt] : List Value).toArray) s 0 0 (fun _ => False)) (F0 m 18 ls [.int x3, .ref qt]) := by
          intro x3 Hf ls hl
          rw [hk4] at Hf
          obtain ⟨r5, hc6, Hf⟩ := sq_cb1_e Hf
          refine sq_roi (va_runV (As := [.int x3]) (rest := []) ⟨hx, hb, hml, hown, ht⟩ (kt_Md_formBits l dC dI qt qt_modules qt_checkBytes qt_blocks qt_data qt_fixed qt_tells qt_segmentModes qt_segmentLengths qt_modes qt_takes qt_bytes qt_words qt_block qt_tried qt_values qt_system qt_solved qt_places qt_generator qt_readBytes qt_readings ct_modules vt_thrown vt_length vt_version vt_side vt_made vt_segments vt_bits vt_filled vt_readLength vt_at vt_all vt_fault vt_good vt_modules x3 n0 r5 hc6) (cwV 1 ht (sq_gV tb_1376 tb_1378 sl_57 tb_11 tb_1379) rfl rfl rfl (by decide +kernel) ⟨Nat.le_of_ble_eq_true rfl, Nat.le_of_ble_eq_true rfl⟩) (sq_roV (hP.sub (ws' := (ww_Md_formBits qt qt_modules qt_checkBytes qt_blocks qt_data qt_fixed qt_tells qt_segmentModes qt_segmentLengths qt_modes qt_takes qt_bytes qt_words qt_block qt_tried qt_values qt_system qt_solved qt_places qt_generator qt_readBytes qt_readings ct_modules vt_thrown vt_length vt_version vt_side vt_made vt_segments vt_bits vt_filled vt_readLength vt_at vt_all vt_fault vt_good vt_modules)) [0, 1] rfl) (hK.sub (tys' := [(ct_modules, .int)]) [0] rfl) (va_recv hK hP (ci := 10) (q0 := 0) rfl rfl)) rfl rfl hl.1 rfl (lv_room (Nat.le_of_ble_eq_true rfl)) d_Md_formNumberRead_18 ⟨Nat.le_of_ble_eq_true rfl, Nat.le_of_ble_eq_true rfl⟩) ?_
          refine lv_istore_n (lv' := [(2, .int r5), (0, .ref qt), (1, .int x1)]) hx hb d_Md_formNumberRead_21 rfl hl (by decide) rfl (fun ls hl => ?_)
          refine lv_iconst (v := (0 : Int32)) hx hb d_Md_formNumberRead_22 (by decide) ?_
          refine lv_istore_n (lv' := [(3, .int (0 : Int32)), (2, .int r5), (0, .ref qt), (1, .int x1)]) hx hb d_Md_formNumberRead_23 rfl hl (by decide) rfl (fun ls hl => ?_)
          obtain ⟨k7, hk7, Hf⟩ := sq_jn_e Hf
          have Jk7 : ∀ (_u : Unit), k7 _u = some r0 → ∀ ls : Array Slot, lv_has ls 4 [(0, .ref qt), (1, .int x1)] → W p l e (headSpec w_Md_formNumberRead rm_Md_formNumberRead).room s m (([.ref qt] : List Value).toArray) below meth c s.heap [] 0 0 (MQ below (qc_Md_formNumberRead r0) (([.ref qt] : List Value).toArray) s 0 0 (fun _ => False)) (F0 m 51 ls []) := by
            intro _u Hf ls hl
            rw [hk7] at Hf
            obtain ⟨x8, ex8, Hf⟩ := sq_bd_e Hf
            refine lv_iinc (v := x8) (lv' := [(1, .int x8), (0, .ref qt)]) hx hb d_Md_formNumberRead_51 hl (k := 1) rfl (by rw [ex8]; rfl) (by decide) rfl (fun ls hl => ?_)
            refine lv_goto (tgt := 2) hx hb d_Md_formNumberRead_54 (by decide) ?_
            exact ih1 x8 Hf _ (lv_sub hl [1, 0] rfl)
          have L2 : ∀ (m2 : Nat), ∀ (x9 : Int32), fn_Md_formNumberRead_L2 n0 r5 k7 m2 x9 = some r0 → ∀ ls : Array Slot, lv_has ls 4 [(0, .ref qt), (1, .int x1), (2, .int r5), (3, .int x9)] → W p l e (headSpec w_Md_formNumberRead rm_Md_formNumberRead).room s m (([.ref qt] : List Value).toArray) below meth c s.heap [] 0 0 (MQ below (qc_Md_formNumberRead r0) (([.ref qt] : List Value).toArray) s 0 0 (fun _ => False)) (F0 m 24 ls []) := by
            intro m2
            induction m2 with
            | zero => intro x9 Hf; exact sq_none Hf
            | succ m2 ih2 =>
              intro x9 Hf ls hl
              replace Hf := (fn_Md_formNumberRead_L2_s n0 r5 k7 m2 x9).symm.trans Hf
              refine lv_iload_n hx hb d_Md_formNumberRead_24 rfl (lv_at hl 3 rfl) ?_
              refine lv_bipush (v := (32 : Int32)) hx hb d_Md_formNumberRead_25 (by decide) ?_
              refine lv_icmp_ge (tgt := 51) hx hb d_Md_formNumberRead_27 (by decide) (fun c10 => ?_) (fun c10 => ?_)
              · replace Hf := sq_ite_t Hf c10
                exact Jk7 () Hf _ (lv_sub hl [0, 1] rfl)
              · replace Hf := sq_ite_f Hf c10
                refine lv_iload_n hx hb d_Md_formNumberRead_30 rfl (lv_at hl 2 rfl) ?_
                refine lv_iload_n hx hb d_Md_formNumberRead_31 rfl (lv_at hl 3 rfl) ?_
                obtain ⟨r11, hc12, Hf⟩ := sq_cb1_e Hf
                refine sq_roi (va_runS (As := [.int x9]) (rest := [.int r5]) ⟨hx, hb, hml, hown, ht⟩ (kt_Md_formWord l dC dI x9 n0 r11 hc12) (va_cwS 1 ht (sq_gS tb_1314 tb_1315 tb_11 tb_1316) rfl rfl rfl (by decide +kernel) ⟨Nat.le_of_ble_eq_true rfl, Nat.le_of_ble_eq_true rfl⟩) (sq_roS (hP.sub (ws' := ([] : va_W)) [] rfl) (hK.sub (tys' := []) [] rfl)) rfl rfl hl.1 rfl (lv_room (Nat.le_of_ble_eq_true rfl)) d_Md_formNumberRead_32 ⟨Nat.le_of_ble_eq_true rfl, Nat.le_of_ble_eq_true rfl⟩) ?_
                refine lv_ixor hx hb d_Md_formNumberRead_35 ?_
                obtain ⟨r13, hc14, Hf⟩ := sq_cb1_e Hf
                refine sq_roi (va_runS (As := [.int (r5 ^^^ r11)]) (rest := []) ⟨hx, hb, hml, hown, ht⟩ (kt_Md_ones l dC dI (r5 ^^^ r11) n0 r13 hc14) (va_cwS 1 ht (sq_gS tb_1380 tb_1381 tb_11 tb_1382) rfl rfl rfl (by decide +kernel) ⟨Nat.le_of_ble_eq_true rfl, Nat.le_of_ble_eq_true rfl⟩) (sq_roS (hP.sub (ws' := ([] : va_W)) [] rfl) (hK.sub (tys' := []) [] rfl)) rfl rfl hl.1 rfl (lv_room (Nat.le_of_ble_eq_true rfl)) d_Md_formNumberRead_36 ⟨Nat.le_of_ble_eq_true rfl, Nat.le_of_ble_eq_true rfl⟩) ?_
                refine lv_iconst (v := (3 : Int32)) hx hb d_Md_formNumberRead_39 (by decide) ?_
                refine lv_icmp_gt (tgt := 45) hx hb d_Md_formNumberRead_40 (by decide) (fun c15 => ?_) (fun c15 => ?_)
                · replace Hf := sq_ite_t Hf c15
                  obtain ⟨x16, ex16, Hf⟩ := sq_bd_e Hf
                  refine lv_iinc (v := x16) (lv' := [(3, .int x16), (0, .ref qt), (1, .int x1), (2, .int r5)]) hx hb d_Md_formNumberRead_45 hl (k := 3) rfl (by rw [ex16]; rfl) (by decide) rfl (fun ls hl => ?_)
                  refine lv_goto (tgt := 24) hx hb d_Md_formNumberRead_48 (by decide) ?_
                  exact ih2 x16 Hf _ (lv_sub hl [1, 2, 3, 0] rfl)
                · replace Hf := sq_ite_f Hf c15
                  refine lv_iload_n hx hb d_Md_formNumberRead_43 rfl (lv_at hl 3 rfl) ?_
                  have er := Option.some.inj Hf
                  exact W.iret hx hb hr (fun t ht hW => ⟨_, rfl, er, ht⟩) (fun q h => by cases h) d_Md_formNumberRead_44
          exact L2 n0 (0 : Int32) Hf _ (lv_sub hl [2, 3, 1, 0] rfl)
        refine lv_icmp_ne (tgt := 17) hx hb d_Md_formNumberRead_10 (by decide) (fun c17 => ?_) (fun c17 => ?_)
        · replace Hf := sq_ite_f Hf c17
          refine lv_iconst (v := (0 : Int32)) hx hb d_Md_formNumberRead_17 (by decide) ?_
          exact Jk4 (0 : Int32) Hf _ (lv_sub hl [0, 1] rfl)
        · replace Hf := sq_ite_t Hf c17
          refine lv_iconst (v := (1 : Int32)) hx hb d_Md_formNumberRead_13 (by decide) ?_
          refine lv_goto (tgt := 18) hx hb d_Md_formNumberRead_14 (by decide) ?_
          exact Jk4 (1 : Int32) Hf _ (lv_sub hl [0, 1] rfl)
  exact L1 n0 (0 : Int32) Hf _ (lv_sub hl [1, 0] rfl)

def fn_Md_spared (p1 : Int32) (p2 : Int32) : Option (Int32) :=
  if p1 = (1 : Int32) then (if p2 = 0 then (some ((3 : Int32))) else (if p2 = (1 : Int32) then (some ((2 : Int32))) else (some ((1 : Int32))))) else (if p2 ≤ 0 then (if p1 = (2 : Int32) then (some ((2 : Int32))) else (if p1 = (3 : Int32) then (some ((1 : Int32))) else (some ((0 : Int32))))) else (some ((0 : Int32))))
def rm_Md_spared : Room := { frames := 0, cells := 0, slots := 0, locals := 0 }
abbrev qc_Md_spared (r0 : Int32) : Array Value → State → Outcome → State → Prop := vp_Si (fun r => r = r0)

set_option maxHeartbeats 4000000 in
set_option maxRecDepth 100000 in
theorem kt_Md_spared (l : Launch) (dC : Nat → ClassId) (dI : Nat → Nat → Nat) (p1 : Int32) (p2 : Int32) (r0 : Int32) (Hf : fn_Md_spared p1 p2 = some r0) : Met l y_Md_spared w_Md_spared rm_Md_spared (va_Pc [.int p1, .int p2] (fun U => va_P (dC, dI) cl_All ([] : va_W) U.heap ∧ va_K (dC, dI) cl_All [] U)) (qc_Md_spared r0) 0 0 (fun _ => False) := by
  refine Met.ofW (cc := prog_14_method_67_code) (maxL := 2) (ret := (some .int)) (by decide) rfl ?_
  intro p e s m args below meth c s₁ B hml hv
  obtain ⟨rfl, hP, hK⟩ := hv
  have hx := B.exec; have hb := B.bytes; have hr := B.returns; have hlocks := B.notSynchronized
  have ht : ∀ w ∈ lw_g, w.before _ s = true := fun w h => atoms_spec (ws := w_Md_spared) B.pre w (List.mem_cons_of_mem _ h)
  have hown : s.vm.findClass "SquareSymbolsModel" = some m.cls := findClass_of_methodNamed B.named
  have hl := lv_entry ([.int p1, .int p2]) (n := 2) (Nat.le_of_ble_eq_true rfl)
  rw [lg_entry_eq]
  generalize (lg_sl ([.int p1, .int p2]) ++ List.replicate (2 - (lg_sl ([.int p1, .int p2])).length) Slot.unset).toArray = ls at hl ⊢
  have hl : lv_has ls 2 [(0, .int p1), (1, .int p2)] := hl
  refine lv_iload_n hx hb d_Md_spared_0 rfl (lv_at hl 0 rfl) ?_
  refine lv_iconst (v := (1 : Int32)) hx hb d_Md_spared_1 (by decide) ?_
  refine lv_icmp_ne (tgt := 24) hx hb d_Md_spared_2 (by decide) (fun c1 => ?_) (fun c1 => ?_)
  · replace Hf := sq_ite_f Hf c1
    refine lv_iload_n hx hb d_Md_spared_24 rfl (lv_at hl 1 rfl) ?_
    refine lv_if_le (tgt := 32) hx hb d_Md_spared_25 (by decide) (fun c2 => ?_) (fun c2 => ?_)
    · replace Hf := sq_ite_t Hf c2
      refine lv_iload_n hx hb d_Md_spared_32 rfl (lv_at hl 0 rfl) ?_
      refine lv_iconst (v := (2 : Int32)) hx hb d_Md_spared_33 (by decide) ?_
      refine lv_icmp_ne (tgt := 41) hx hb d_Md_spared_34 (by decide) (fun c3 => ?_) (fun c3 => ?_)
      · replace Hf := sq_ite_f Hf c3
        refine lv_iload_n hx hb d_Md_spared_41 rfl (lv_at hl 0 rfl) ?_
        refine lv_iconst (v := (3 : Int32)) hx hb d_Md_spared_42 (by decide) ?_
        refine lv_icmp_ne (tgt := 50) hx hb d_Md_spared_43 (by decide) (fun c4 => ?_) (fun c4 => ?_)
        · replace Hf := sq_ite_f Hf c4
          refine lv_iconst (v := (0 : Int32)) hx hb d_Md_spared_50 (by decide) ?_
          have er := Option.some.inj Hf
          exact W.iret hx hb hr (fun t ht hW => ⟨_, rfl, er, ht⟩) (fun q h => by cases h) d_Md_spared_51
        · replace Hf := sq_ite_t Hf c4
          refine lv_iconst (v := (1 : Int32)) hx hb d_Md_spared_46 (by decide) ?_
          refine lv_goto (tgt := 51) hx hb d_Md_spared_47 (by decide) ?_
          have er := Option.some.inj Hf
          exact W.iret hx hb hr (fun t ht hW => ⟨_, rfl, er, ht⟩) (fun q h => by cases h) d_Md_spared_51
      · replace Hf := sq_ite_t Hf c3
        refine lv_iconst (v := (2 : Int32)) hx hb d_Md_spared_37 (by decide) ?_
        refine lv_goto (tgt := 51) hx hb d_Md_spared_38 (by decide) ?_
        have er := Option.some.inj Hf
        exact W.iret hx hb hr (fun t ht hW => ⟨_, rfl, er, ht⟩) (fun q h => by cases h) d_Md_spared_51
    · replace Hf := sq_ite_f Hf c2
      refine lv_iconst (v := (0 : Int32)) hx hb d_Md_spared_28 (by decide) ?_
      refine lv_goto (tgt := 51) hx hb d_Md_spared_29 (by decide) ?_
      have er := Option.some.inj Hf
      exact W.iret hx hb hr (fun t ht hW => ⟨_, rfl, er, ht⟩) (fun q h => by cases h) d_Md_spared_51
  · replace Hf := sq_ite_t Hf c1
    refine lv_iload_n hx hb d_Md_spared_5 rfl (lv_at hl 1 rfl) ?_
    refine lv_if_ne (tgt := 13) hx hb d_Md_spared_6 (by decide) (fun c5 => ?_) (fun c5 => ?_)
    · replace Hf := sq_ite_f Hf c5
      refine lv_iload_n hx hb d_Md_spared_13 rfl (lv_at hl 1 rfl) ?_
      refine lv_iconst (v := (1 : Int32)) hx hb d_Md_spared_14 (by decide) ?_
      refine lv_icmp_ne (tgt := 22) hx hb d_Md_spared_15 (by decide) (fun c6 => ?_) (fun c6 => ?_)
      · replace Hf := sq_ite_f Hf c6
        refine lv_iconst (v := (1 : Int32)) hx hb d_Md_spared_22 (by decide) ?_
        have er := Option.some.inj Hf
        exact W.iret hx hb hr (fun t ht hW => ⟨_, rfl, er, ht⟩) (fun q h => by cases h) d_Md_spared_23
      · replace Hf := sq_ite_t Hf c6
        refine lv_iconst (v := (2 : Int32)) hx hb d_Md_spared_18 (by decide) ?_
        refine lv_goto (tgt := 23) hx hb d_Md_spared_19 (by decide) ?_
        have er := Option.some.inj Hf
        exact W.iret hx hb hr (fun t ht hW => ⟨_, rfl, er, ht⟩) (fun q h => by cases h) d_Md_spared_23
    · replace Hf := sq_ite_t Hf c5
      refine lv_iconst (v := (3 : Int32)) hx hb d_Md_spared_9 (by decide) ?_
      refine lv_goto (tgt := 23) hx hb d_Md_spared_10 (by decide) ?_
      have er := Option.some.inj Hf
      exact W.iret hx hb hr (fun t ht hW => ⟨_, rfl, er, ht⟩) (fun q h => by cases h) d_Md_spared_23

def fn_Md_isZero_L2 (p2 : Int32) (n0 : Nat) (lenp1 : Nat) (vp1 : Nat → Int32) (r6 : Int32) (k9 : Int32 → Option (Int32 × (Nat → Int32))) : Nat → Int32 → Int32 → Option (Int32 × (Nat → Int32))
  | 0, _, _ => none
  | m2 + 1, x18, x19 => if p2 ≤ x19 then (k9 x18) else (sq_cb1 (fn_Md_times n0 x18 r6) fun r21 => sq_gi x19 lenp1 <| sq_bd (vp1 x19.toNatClampNeg) fun x24 => sq_bd (r21 ^^^ x24) fun x25 => sq_bd (x19 + (1 : Int32)) fun x26 => fn_Md_isZero_L2 p2 n0 lenp1 vp1 r6 k9 m2 x25 x26)
theorem fn_Md_isZero_L2_s (p2 : Int32) (n0 : Nat) (lenp1 : Nat) (vp1 : Nat → Int32) (r6 : Int32) (k9 : Int32 → Option (Int32 × (Nat → Int32))) (m2 : Nat) (x18 : Int32) (x19 : Int32) : fn_Md_isZero_L2 p2 n0 lenp1 vp1 r6 k9 (m2 + 1) x18 x19 = if p2 ≤ x19 then (k9 x18) else (sq_cb1 (fn_Md_times n0 x18 r6) fun r21 => sq_gi x19 lenp1 <| sq_bd (vp1 x19.toNatClampNeg) fun x24 => sq_bd (r21 ^^^ x24) fun x25 => sq_bd (x19 + (1 : Int32)) fun x26 => fn_Md_isZero_L2 p2 n0 lenp1 vp1 r6 k9 m2 x25 x26) := rfl
def fn_Md_isZero_L1 (p2 : Int32) (p3 : Int32) (n0 : Nat) (lenp1 : Nat) (vp1 : Nat → Int32) : Nat → Int32 → Int32 → (Nat → Int32) → Option (Int32 × (Nat → Int32))
  | 0, _, _, _ => none
  | m1 + 1, x1, x2, b3 => if p3 ≤ x2 then (sq_gb x1 <| some (x1, b3)) else (sq_cb1 (fn_Md_two n0 x2) fun r6 => sq_jn (fun (x8 : Int32) => sq_gi x2 32 <| sq_bd (upd b3 x2.toNatClampNeg x8) fun b11 => sq_jn (fun (x12 : Int32) => sq_bd (x2 + (1 : Int32)) fun x14 => fn_Md_isZero_L1 p2 p3 n0 lenp1 vp1 m1 x12 x14 b11) fun k13 => sq_jn (fun (_ : Unit) => k13 (0 : Int32)) fun k15 => if x1 = 0 then (k15 ()) else (if x8 = 0 then (k13 (1 : Int32)) else (k15 ()))) fun k9 => fn_Md_isZero_L2 p2 n0 lenp1 vp1 r6 k9 n0 (0 : Int32) (0 : Int32))
theorem fn_Md_isZero_L1_s (p2 : Int32) (p3 : Int32) (n0 : Nat) (lenp1 : Nat) (vp1 : Nat → Int32) (m1 : Nat) (x1 : Int32) (x2 : Int32) (b3 : Nat → Int32) : fn_Md_isZero_L1 p2 p3 n0 lenp1 vp1 (m1 + 1) x1 x2 b3 = if p3 ≤ x2 then (sq_gb x1 <| some (x1, b3)) else (sq_cb1 (fn_Md_two n0 x2) fun r6 => sq_jn (fun (x8 : Int32) => sq_gi x2 32 <| sq_bd (upd b3 x2.toNatClampNeg x8) fun b11 => sq_jn (fun (x12 : Int32) => sq_bd (x2 + (1 : Int32)) fun x14 => fn_Md_isZero_L1 p2 p3 n0 lenp1 vp1 m1 x12 x14 b11) fun k13 => sq_jn (fun (_ : Unit) => k13 (0 : Int32)) fun k15 => if x1 = 0 then (k15 ()) else (if x8 = 0 then (k13 (1 : Int32)) else (k15 ()))) fun k9 => fn_Md_isZero_L2 p2 n0 lenp1 vp1 r6 k9 n0 (0 : Int32) (0 : Int32)) := rfl
def fn_Md_isZero (n0 : Nat) (p2 : Int32) (p3 : Int32) (lenp1 : Nat) (vp1 : Nat → Int32) (vt_values : Nat → Int32) : Option (Int32 × (Nat → Int32)) :=
  fn_Md_isZero_L1 p2 p3 n0 lenp1 vp1 n0 (1 : Int32) (0 : Int32) vt_values
abbrev ww_Md_isZero (qp1 qt qt_values qt_checkBytes qt_blocks qt_data qt_modules qt_fixed qt_tells qt_segmentModes qt_segmentLengths qt_modes qt_takes qt_bytes qt_words qt_block qt_tried qt_system qt_solved qt_places qt_generator qt_readBytes qt_readings : Nat) (cp1 ct_values : ClassId) (lenp1 : Nat) (vp1 : Nat → Int32) (vt_thrown : Int32) (vt_length : Int32) (vt_version : Int32) (vt_side : Int32) (vt_made : Int32) (vt_segments : Int32) (vt_bits : Int32) (vt_filled : Int32) (vt_readLength : Int32) (vt_at : Int32) (vt_all : Int32) (vt_fault : Int32) (vt_good : Int32) (vt_values : Nat → Int32) : va_W := [(qp1, .inl (cp1, lenp1, .inl vp1)), (qt, .inr (10, [.int vt_thrown, .ref qt_checkBytes, .ref qt_blocks, .ref qt_data, .int vt_length, .ref qt_modules, .ref qt_fixed, .int vt_version, .int vt_side, .int vt_made, .ref qt_tells, .ref qt_segmentModes, .ref qt_segmentLengths, .int vt_segments, .ref qt_modes, .ref qt_takes, .int vt_bits, .ref qt_bytes, .ref qt_words, .int vt_filled, .ref qt_block, .ref qt_tried, .ref qt_values, .ref qt_system, .ref qt_solved, .ref qt_places, .ref qt_generator, .ref qt_readBytes, .int vt_readLength, .int vt_at, .int vt_all, .int vt_fault, .int vt_good, .ref qt_readings])), (qt_values, .inl (ct_values, 32, .inl vt_values))]

def rm_Md_isZero : Room := { frames := 1, cells := 0, slots := 0, locals := 24 }
abbrev qc_Md_isZero (dC : Nat → ClassId) (dI : Nat → Nat → Nat) (A : Nat → Prop) (r0 : Int32) (qp1 qt qt_values qt_checkBytes qt_blocks qt_data qt_modules qt_fixed qt_tells qt_segmentModes qt_segmentLengths qt_modes qt_takes qt_bytes qt_words qt_block qt_tried qt_system qt_solved qt_places qt_generator qt_readBytes qt_readings : Nat) (cp1 ct_values : ClassId) (lenp1 : Nat) (vp1 : Nat → Int32) (vt_thrown : Int32) (vt_length : Int32) (vt_version : Int32) (vt_side : Int32) (vt_made : Int32) (vt_segments : Int32) (vt_bits : Int32) (vt_filled : Int32) (vt_readLength : Int32) (vt_at : Int32) (vt_all : Int32) (vt_fault : Int32) (vt_good : Int32) (vt_values : Nat → Int32) : Array Value → State → Outcome → State → Prop := va_Qi (fun r (_ : Unit) => r = r0) (fun _ t => va_P (dC, dI) cl_All (ww_Md_isZero qp1 qt qt_values qt_checkBytes qt_blocks qt_data qt_modules qt_fixed qt_tells qt_segmentModes qt_segmentLengths qt_modes qt_takes qt_bytes qt_words qt_block qt_tried qt_system qt_solved qt_places qt_generator qt_readBytes qt_readings cp1 ct_values lenp1 vp1 vt_thrown vt_length vt_version vt_side vt_made vt_segments vt_bits vt_filled vt_readLength vt_at vt_all vt_fault vt_good vt_values) t.heap ∧ va_D A (ww_Md_isZero qp1 qt qt_values qt_checkBytes qt_blocks qt_data qt_modules qt_fixed qt_tells qt_segmentModes qt_segmentLengths qt_modes qt_takes qt_bytes qt_words qt_block qt_tried qt_system qt_solved qt_places qt_generator qt_readBytes qt_readings cp1 ct_values lenp1 vp1 vt_thrown vt_length vt_version vt_side vt_made vt_segments vt_bits vt_filled vt_readLength vt_at vt_all vt_fault vt_good vt_values)) A

set_option maxHeartbeats 4000000 in
set_option maxRecDepth 100000 in
theorem kt_Md_isZero (l : Launch) (dC : Nat → ClassId) (dI : Nat → Nat → Nat) (qp1 qt qt_values qt_checkBytes qt_blocks qt_data qt_modules qt_fixed qt_tells qt_segmentModes qt_segmentLengths qt_modes qt_takes qt_bytes qt_words qt_block qt_tried qt_system qt_solved qt_places qt_generator qt_readBytes qt_readings : Nat) (cp1 ct_values : ClassId) (lenp1 : Nat) (vp1 : Nat → Int32) (vt_thrown : Int32) (vt_length : Int32) (vt_version : Int32) (vt_side : Int32) (vt_made : Int32) (vt_segments : Int32) (vt_bits : Int32) (vt_filled : Int32) (vt_readLength : Int32) (vt_at : Int32) (vt_all : Int32) (vt_fault : Int32) (vt_good : Int32) (vt_values : Nat → Int32) (p2 : Int32) (p3 : Int32) (sz : Nat) (n0 : Nat) (r0 : Int32) (nvt_values : Nat → Int32) (Hf : fn_Md_isZero n0 p2 p3 lenp1 vp1 vt_values = some (r0, nvt_values)) : Met l y_Md_isZero w_Md_isZero rm_Md_isZero (va_Pc [.ref qt, .ref qp1, .int p2, .int p3] (fun U => U.heap.size = sz ∧ va_P (dC, dI) cl_All (ww_Md_isZero qp1 qt qt_values qt_checkBytes qt_blocks qt_data qt_modules qt_fixed qt_tells qt_segmentModes qt_segmentLengths qt_modes qt_takes qt_bytes qt_words qt_block qt_tried qt_system qt_solved qt_places qt_generator qt_readBytes qt_readings cp1 ct_values lenp1 vp1 vt_thrown vt_length vt_version vt_side vt_made vt_segments vt_bits vt_filled vt_readLength vt_at vt_all vt_fault vt_good vt_values) U.heap ∧ va_K (dC, dI) cl_All [(cp1, .int), (ct_values, .int)] U ∧ va_D (fun _ => True) (ww_Md_isZero qp1 qt qt_values qt_checkBytes qt_blocks qt_data qt_modules qt_fixed qt_tells qt_segmentModes qt_segmentLengths qt_modes qt_takes qt_bytes qt_words qt_block qt_tried qt_system qt_solved qt_places qt_generator qt_readBytes qt_readings cp1 ct_values lenp1 vp1 vt_thrown vt_length vt_version vt_side vt_made vt_segments vt_bits vt_filled vt_readLength vt_at vt_all vt_fault vt_good vt_values))) (qc_Md_isZero dC dI (va_A (ww_Md_isZero qp1 qt qt_values qt_checkBytes qt_blocks qt_data qt_modules qt_fixed qt_tells qt_segmentModes qt_segmentLengths qt_modes qt_takes qt_bytes qt_words qt_block qt_tried qt_system qt_solved qt_places qt_generator qt_readBytes qt_readings cp1 ct_values lenp1 vp1 vt_thrown vt_length vt_version vt_side vt_made vt_segments vt_bits vt_filled vt_readLength vt_at vt_all vt_fault vt_good vt_values) sz) r0 qp1 qt qt_values qt_checkBytes qt_blocks qt_data qt_modules qt_fixed qt_tells qt_segmentModes qt_segmentLengths qt_modes qt_takes qt_bytes qt_words qt_block qt_tried qt_system qt_solved qt_places qt_generator qt_readBytes qt_readings cp1 ct_values lenp1 vp1 vt_thrown vt_length vt_version vt_side vt_made vt_segments vt_bits vt_filled vt_readLength vt_at vt_all vt_fault vt_good nvt_values) 0 0 (va_A (ww_Md_isZero qp1 qt qt_values qt_checkBytes qt_blocks qt_data qt_modules qt_fixed qt_tells qt_segmentModes qt_segmentLengths qt_modes qt_takes qt_bytes qt_words qt_block qt_tried qt_system qt_solved qt_places qt_generator qt_readBytes qt_readings cp1 ct_values lenp1 vp1 vt_thrown vt_length vt_version vt_side vt_made vt_segments vt_bits vt_filled vt_readLength vt_at vt_all vt_fault vt_good vt_values) sz) := by
  refine Met.ofW (cc := prog_14_method_58_code) (maxL := 9) (ret := (some .boolean)) (by decide) rfl ?_
  intro p e s m args below meth c s₁ B hml hv
  obtain ⟨rfl, hsz, hP, hK, hD0⟩ := hv
  have hx := B.exec; have hb := B.bytes; have hr := B.returns; have hlocks := B.notSynchronized
  have ht : ∀ w ∈ lw_g, w.before _ s = true := fun w h => atoms_spec (ws := w_Md_isZero) B.pre w (List.mem_cons_of_mem _ h)
  have hown : s.vm.findClass "SquareSymbolsModel" = some m.cls := findClass_of_methodNamed B.named
  subst hsz
  have hD := hD0.self (sz := s.heap.size)
  generalize hAe : va_A (ww_Md_isZero qp1 qt qt_values qt_checkBytes qt_blocks qt_data qt_modules qt_fixed qt_tells qt_segmentModes qt_segmentLengths qt_modes qt_takes qt_bytes qt_words qt_block qt_tried qt_system qt_solved qt_places qt_generator qt_readBytes qt_readings cp1 ct_values lenp1 vp1 vt_thrown vt_length vt_version vt_side vt_made vt_segments vt_bits vt_filled vt_readLength vt_at vt_all vt_fault vt_good vt_values) s.heap.size = A at hD ⊢
  have hA : ∀ q : Nat, s.heap.size ≤ q → A q := fun q h => by rw [← hAe]; exact Or.inr h
  have hS : va_S A s.heap s.heap [] := va_S.rf
  have hl := lv_entry ([.ref qt, .ref qp1, .int p2, .int p3]) (n := 9) (Nat.le_of_ble_eq_true rfl)
  rw [lg_entry_eq]
  generalize (lg_sl ([.ref qt, .ref qp1, .int p2, .int p3]) ++ List.replicate (9 - (lg_sl ([.ref qt, .ref qp1, .int p2, .int p3])).length) Slot.unset).toArray = ls at hl ⊢
  have hl : lv_has ls 9 [(0, .ref qt), (1, .ref qp1), (2, .int p2), (3, .int p3)] := hl
  refine lv_iconst (v := (1 : Int32)) hx hb d_Md_isZero_0 (by decide) ?_
  refine lv_istore (lv' := [(4, .int (1 : Int32)), (0, .ref qt), (1, .ref qp1), (2, .int p2), (3, .int p3)]) hx hb d_Md_isZero_1 hl (by decide) rfl (fun ls hl => ?_)
  refine lv_iconst (v := (0 : Int32)) hx hb d_Md_isZero_3 (by decide) ?_
  refine lv_istore (lv' := [(5, .int (0 : Int32)), (4, .int (1 : Int32)), (0, .ref qt), (1, .ref qp1), (2, .int p2), (3, .int p3)]) hx hb d_Md_isZero_4 hl (by decide) rfl (fun ls hl => ?_)
  have L1 : ∀ (m1 : Nat), ∀ (x1 : Int32) (x2 : Int32) (b3 : Nat → Int32), fn_Md_isZero_L1 p2 p3 n0 lenp1 vp1 m1 x1 x2 b3 = some (r0, nvt_values) → ∀ (H : Heap) (locs : List Loc), va_P (dC, dI) cl_All (ww_Md_isZero qp1 qt qt_values qt_checkBytes qt_blocks qt_data qt_modules qt_fixed qt_tells qt_segmentModes qt_segmentLengths qt_modes qt_takes qt_bytes qt_words qt_block qt_tried qt_system qt_solved qt_places qt_generator qt_readBytes qt_readings cp1 ct_values lenp1 vp1 vt_thrown vt_length vt_version vt_side vt_made vt_segments vt_bits vt_filled vt_readLength vt_at vt_all vt_fault vt_good b3) H → va_D A (ww_Md_isZero qp1 qt qt_values qt_checkBytes qt_blocks qt_data qt_modules qt_fixed qt_tells qt_segmentModes qt_segmentLengths qt_modes qt_takes qt_bytes qt_words qt_block qt_tried qt_system qt_solved qt_places qt_generator qt_readBytes qt_readings cp1 ct_values lenp1 vp1 vt_thrown vt_length vt_version vt_side vt_made vt_segments vt_bits vt_filled vt_readLength vt_at vt_all vt_fault vt_good b3) → va_S A s.heap H locs → ∀ ls : Array Slot, lv_has ls 9 [(0, .ref qt), (1, .ref qp1), (2, .int p2), (3, .int p3), (4, .int x1), (5, .int x2)] → W p l e (headSpec w_Md_isZero rm_Md_isZero).room s m (([.ref qt, .ref qp1, .int p2, .int p3] : List Value).toArray) below meth c H locs 0 0 (MQ below (qc_Md_isZero dC dI A r0 qp1 qt qt_values qt_checkBytes qt_blocks qt_data qt_modules qt_fixed qt_tells qt_segmentModes qt_segmentLengths qt_modes qt_takes qt_bytes qt_words qt_block qt_tried qt_system qt_solved qt_places qt_generator qt_readBytes qt_readings cp1 ct_values lenp1 vp1 vt_thrown vt_length vt_version vt_side vt_made vt_segments vt_bits vt_filled vt_readLength vt_at vt_all vt_fault vt_good nvt_values) (([.ref qt, .ref qp1, .int p2, .int p3] : List Value).toArray) s 0 0 A) (F0 m 6 ls []) := by
    intro m1
    induction m1 with
    | zero => intro x1 x2 b3 Hf; exact sq_none Hf
    | succ m1 ih1 =>
      intro x1 x2 b3 Hf H locs  hP hD hS ls hl
      replace Hf := (fn_Md_isZero_L1_s p2 p3 n0 lenp1 vp1 m1 x1 x2 b3).symm.trans Hf
      refine lv_iload hx hb d_Md_isZero_6 (lv_at hl 5 rfl) ?_
      refine lv_iload_n hx hb d_Md_isZero_8 rfl (lv_at hl 3 rfl) ?_
      refine lv_icmp_ge (tgt := 83) hx hb d_Md_isZero_9 (by decide) (fun c4 => ?_) (fun c4 => ?_)
      · replace Hf := sq_ite_t Hf c4
        refine lv_iload hx hb d_Md_isZero_83 (lv_at hl 4 rfl) ?_
        obtain ⟨hb5, Hf⟩ := sq_gb_e Hf
        obtain ⟨rfl, rfl⟩ := sq_so2 Hf
        exact W.zret hx hb hr (sq_nb hb5) (fun t ht hW => ⟨⟨_, (), rfl, rfl, by rw [ht]; exact hP, hD⟩, hS.F ht⟩) hS.2.2 d_Md_isZero_85
      · replace Hf := sq_ite_f Hf c4
        refine lv_iload hx hb d_Md_isZero_12 (lv_at hl 5 rfl) ?_
        obtain ⟨r6, hc7, Hf⟩ := sq_cb1_e Hf
        refine sq_roi (va_runS (As := [.int x2]) (rest := []) ⟨hx, hb, hml, hown, ht⟩ (kt_Md_two l dC dI x2 n0 r6 hc7) (va_cwS 1 ht (sq_gS tb_1267 tb_1268 tb_11 tb_1269) rfl rfl rfl (by decide +kernel) ⟨Nat.le_of_ble_eq_true rfl, Nat.le_of_ble_eq_true rfl⟩) (sq_roS (hP.sub (ws' := ([] : va_W)) [] rfl) (hK.sub (tys' := []) [] rfl)) rfl rfl hl.1 rfl (lv_room (Nat.le_of_ble_eq_true rfl)) d_Md_isZero_14 ⟨Nat.le_of_ble_eq_true rfl, Nat.le_of_ble_eq_true rfl⟩) ?_
        refine lv_istore (lv' := [(6, .int r6), (0, .ref qt), (1, .ref qp1), (2, .int p2), (3, .int p3), (4, .int x1), (5, .int x2)]) hx hb d_Md_isZero_17 hl (by decide) rfl (fun ls hl => ?_)
        refine lv_iconst (v := (0 : Int32)) hx hb d_Md_isZero_19 (by decide) ?_
        refine lv_istore (lv' := [(7, .int (0 : Int32)), (6, .int r6), (0, .ref qt), (1, .ref qp1), (2, .int p2), (3, .int p3), (4, .int x1), (5, .int x2)]) hx hb d_Md_isZero_20 hl (by decide) rfl (fun ls hl => ?_)
        refine lv_iconst (v := (0 : Int32)) hx hb d_Md_isZero_22 (by decide) ?_
        refine lv_istore (lv' := [(8, .int (0 : Int32)), (7, .int (0 : Int32)), (6, .int r6), (0, .ref qt), (1, .ref qp1), (2, .int p2), (3, .int p3), (4, .int x1), (5, .int x2)]) hx hb d_Md_isZero_23 hl (by decide) rfl (fun ls hl => ?_)
        obtain ⟨k9, hk9, Hf⟩ := sq_jn_e Hf
        have Jk9 : ∀ (x8 : Int32), k9 x8 = some (r0, nvt_values) → ∀ (H : Heap) (locs : List Loc), va_P (dC, dI) cl_All (ww_Md_isZero qp1 qt qt_values qt_checkBytes qt_blocks qt_data qt_modules qt_fixed qt_tells qt_segmentModes qt_segmentLengths qt_modes qt_takes qt_bytes qt_words qt_block qt_tried qt_system qt_solved qt_places qt_generator qt_readBytes qt_readings cp1 ct_values lenp1 vp1 vt_thrown vt_length vt_version vt_side vt_made vt_segments vt_bits vt_filled vt_readLength vt_at vt_all vt_fault vt_good b3) H → va_D A (ww_Md_isZero qp1 qt qt_values qt_checkBytes qt_blocks qt_data qt_modules qt_fixed qt_tells qt_segmentModes qt_segmentLengths qt_modes qt_takes qt_bytes qt_words qt_block qt_tried qt_system qt_solved qt_places qt_generator qt_readBytes qt_readings cp1 ct_values lenp1 vp1 vt_thrown vt_length vt_version vt_side vt_made vt_segments vt_bits vt_filled vt_readLength vt_at vt_all vt_fault vt_good b3) → va_S A s.heap H locs → ∀ ls : Array Slot, lv_has ls 9 [(0, .ref qt), (1, .ref qp1), (2, .int p2), (3, .int p3), (4, .int x1), (5, .int x2), (7, .int x8)] → W p l e (headSpec w_Md_isZero rm_Md_isZero).room s m (([.ref qt, .ref qp1, .int p2, .int p3] : List Value).toArray) below meth c H locs 0 0 (MQ below (qc_Md_isZero dC dI A r0 qp1 qt qt_values qt_checkBytes qt_blocks qt_data qt_modules qt_fixed qt_tells qt_segmentModes qt_segmentLengths qt_modes qt_takes qt_bytes qt_words qt_block qt_tried qt_system qt_solved qt_places qt_generator qt_readBytes qt_readings cp1 ct_values lenp1 vp1 vt_thrown vt_length vt_version vt_side vt_made vt_segments vt_bits vt_filled vt_readLength vt_at vt_all vt_fault vt_good nvt_values) (([.ref qt, .ref qp1, .int p2, .int p3] : List Value).toArray) s 0 0 A) (F0 m 51 ls []) := by
          intro x8 Hf H locs  hP hD hS ls hl
          rw [hk9] at Hf
          refine lv_aload_n hx hb d_Md_isZero_51 rfl (lv_at hl 0 rfl) ?_
          refine va_get (D := (dC, dI)) (ci := 10) (v := .ref qt_values) (C := R_Md) (T := F_Md) (N := 34) hx hb ht i_Md hown hK hP 1 rfl rfl 22 (by decide) (ht _ tb_1084) (fun _ h9 => h9) rfl d_Md_isZero_52 ?_
          refine lv_iload hx hb d_Md_isZero_55 (lv_at hl 5 rfl) ?_
          refine lv_iload hx hb d_Md_isZero_57 (lv_at hl 6 rfl) ?_
          obtain ⟨hi10, Hf⟩ := sq_gi_e Hf
          obtain ⟨b11, eb11, Hf⟩ := sq_bd_e Hf
          refine va_iast hx hb hK hP hD hS 2 1 rfl rfl hi10 d_Md_isZero_59 (fun H locs hP hD hS => ?_)
          rw [← eb11] at hP hD
          replace hP : va_P (dC, dI) cl_All (ww_Md_isZero qp1 qt qt_values qt_checkBytes qt_blocks qt_data qt_modules qt_fixed qt_tells qt_segmentModes qt_segmentLengths qt_modes qt_takes qt_bytes qt_words qt_block qt_tried qt_system qt_solved qt_places qt_generator qt_readBytes qt_readings cp1 ct_values lenp1 vp1 vt_thrown vt_length vt_version vt_side vt_made vt_segments vt_bits vt_filled vt_readLength vt_at vt_all vt_fault vt_good b11) H := hP
          replace hD : va_D A (ww_Md_isZero qp1 qt qt_values qt_checkBytes qt_blocks qt_data qt_modules qt_fixed qt_tells qt_segmentModes qt_segmentLengths qt_modes qt_takes qt_bytes qt_words qt_block qt_tried qt_system qt_solved qt_places qt_generator qt_readBytes qt_readings cp1 ct_values lenp1 vp1 vt_thrown vt_length vt_version vt_side vt_made vt_segments vt_bits vt_filled vt_readLength vt_at vt_all vt_fault vt_good b11) := hD
          refine lv_iload hx hb d_Md_isZero_60 (lv_at hl 4 rfl) ?_
          obtain ⟨k13, hk13, Hf⟩ := sq_jn_e Hf
          have Jk13 : ∀ (x12 : Int32), k13 x12 = some (r0, nvt_values) → ∀ (H : Heap) (locs : List Loc), va_P (dC, dI) cl_All (ww_Md_isZero qp1 qt qt_values qt_checkBytes qt_blocks qt_data qt_modules qt_fixed qt_tells qt_segmentModes qt_segmentLengths qt_modes qt_takes qt_bytes qt_words qt_block qt_tried qt_system qt_solved qt_places qt_generator qt_readBytes qt_readings cp1 ct_values lenp1 vp1 vt_thrown vt_length vt_version vt_side vt_made vt_segments vt_bits vt_filled vt_readLength vt_at vt_all vt_fault vt_good b11) H → va_D A (ww_Md_isZero qp1 qt qt_values qt_checkBytes qt_blocks qt_data qt_modules qt_fixed qt_tells qt_segmentModes qt_segmentLengths qt_modes qt_takes qt_bytes qt_words qt_block qt_tried qt_system qt_solved qt_places qt_generator qt_readBytes qt_readings cp1 ct_values lenp1 vp1 vt_thrown vt_length vt_version vt_side vt_made vt_segments vt_bits vt_filled vt_readLength vt_at vt_all vt_fault vt_good b11) → va_S A s.heap H locs → ∀ ls : Array Slot, lv_has ls 9 [(0, .ref qt), (1, .ref qp1), (2, .int p2), (3, .int p3), (5, .int x2)] → W p l e (headSpec w_Md_isZero rm_Md_isZero).room s m (([.ref qt, .ref qp1, .int p2, .int p3] : List Value).toArray) below meth c H locs 0 0 (MQ below (qc_Md_isZero dC dI A r0 qp1 qt qt_values qt_checkBytes qt_blocks qt_data qt_modules qt_fixed qt_tells qt_segmentModes qt_segmentLengths qt_modes qt_takes qt_bytes qt_words qt_block qt_tried qt_system qt_solved qt_places qt_generator qt_readBytes qt_readings cp1 ct_values lenp1 vp1 vt_thrown vt_length vt_version vt_side vt_made vt_segments vt_bits vt_filled vt_readLength vt_at vt_all vt_fault vt_good nvt_values) (([.ref qt, .ref qp1, .int p2, .int p3] : List Value).toArray) s 0 0 A) (F0 m 75 ls [.int x12]) := by
            intro x12 Hf H locs  hP hD hS ls hl
            rw [hk13] at Hf
            refine lv_istore (lv' := [(4, .int x12), (0, .ref qt), (1, .ref qp1), (2, .int p2), (3, .int p3), (5, .int x2)]) hx hb d_Md_isZero_75 hl (by decide) rfl (fun ls hl => ?_)
            obtain ⟨x14, ex14, Hf⟩ := sq_bd_e Hf
            refine lv_iinc (v := x14) (lv' := [(5, .int x14), (4, .int x12), (0, .ref qt), (1, .ref qp1), (2, .int p2), (3, .int p3)]) hx hb d_Md_isZero_77 hl (k := 5) rfl (by rw [ex14]; rfl) (by decide) rfl (fun ls hl => ?_)
            refine lv_goto (tgt := 6) hx hb d_Md_isZero_80 (by decide) ?_
            exact ih1 x12 x14 b11 Hf _ _  hP hD hS _ (lv_sub hl [2, 3, 4, 5, 1, 0] rfl)
          obtain ⟨k15, hk15, Hf⟩ := sq_jn_e Hf
          have Jk15 : ∀ (_u : Unit), k15 _u = some (r0, nvt_values) → ∀ (H : Heap) (locs : List Loc), va_P (dC, dI) cl_All (ww_Md_isZero qp1 qt qt_values qt_checkBytes qt_blocks qt_data qt_modules qt_fixed qt_tells qt_segmentModes qt_segmentLengths qt_modes qt_takes qt_bytes qt_words qt_block qt_tried qt_system qt_solved qt_places qt_generator qt_readBytes qt_readings cp1 ct_values lenp1 vp1 vt_thrown vt_length vt_version vt_side vt_made vt_segments vt_bits vt_filled vt_readLength vt_at vt_all vt_fault vt_good b11) H → va_D A (ww_Md_isZero qp1 qt qt_values qt_checkBytes qt_blocks qt_data qt_modules qt_fixed qt_tells qt_segmentModes qt_segmentLengths qt_modes qt_takes qt_bytes qt_words qt_block qt_tried qt_system qt_solved qt_places qt_generator qt_readBytes qt_readings cp1 ct_values lenp1 vp1 vt_thrown vt_length vt_version vt_side vt_made vt_segments vt_bits vt_filled vt_readLength vt_at vt_all vt_fault vt_good b11) → va_S A s.heap H locs → ∀ ls : Array Slot, lv_has ls 9 [(0, .ref qt), (1, .ref qp1), (2, .int p2), (3, .int p3), (5, .int x2)] → W p l e (headSpec w_Md_isZero rm_Md_isZero).room s m (([.ref qt, .ref qp1, .int p2, .int p3] : List Value).toArray) below meth c H locs 0 0 (MQ below (qc_Md_isZero dC dI A r0 qp1 qt qt_values qt_checkBytes qt_blocks qt_data qt_modules qt_fixed qt_tells qt_segmentModes qt_segmentLengths qt_modes qt_takes qt_bytes qt_words qt_block qt_tried qt_system qt_solved qt_places qt_generator qt_readBytes qt_readings cp1 ct_values lenp1 vp1 vt_thrown vt_length vt_version vt_side vt_made vt_segments vt_bits vt_filled vt_readLength vt_at vt_all vt_fault vt_good nvt_values) (([.ref qt, .ref qp1, .int p2, .int p3] : List Value).toArray) s 0 0 A) (F0 m 74 ls []) := by
            intro _u Hf H locs  hP hD hS ls hl
            rw [hk15] at Hf
            refine lv_iconst (v := (0 : Int32)) hx hb d_Md_isZero_74 (by decide) ?_
            exact Jk13 (0 : Int32) Hf _ _  hP hD hS _ (lv_sub hl [0, 1, 2, 3, 4] rfl)
          refine lv_if_eq (tgt := 74) hx hb d_Md_isZero_62 (by decide) (fun c16 => ?_) (fun c16 => ?_)
          · replace Hf := sq_ite_t Hf c16
            exact Jk15 () Hf _ _  hP hD hS _ (lv_sub hl [0, 1, 2, 3, 5] rfl)
          · replace Hf := sq_ite_f Hf c16
            refine lv_iload hx hb d_Md_isZero_65 (lv_at hl 6 rfl) ?_
            refine lv_if_ne (tgt := 74) hx hb d_Md_isZero_67 (by decide) (fun c17 => ?_) (fun c17 => ?_)
            · replace Hf := sq_ite_f Hf c17
              exact Jk15 () Hf _ _  hP hD hS _ (lv_sub hl [0, 1, 2, 3, 5] rfl)
            · replace Hf := sq_ite_t Hf c17
              refine lv_iconst (v := (1 : Int32)) hx hb d_Md_isZero_70 (by decide) ?_
              refine lv_goto (tgt := 75) hx hb d_Md_isZero_71 (by decide) ?_
              exact Jk13 (1 : Int32) Hf _ _  hP hD hS _ (lv_sub hl [0, 1, 2, 3, 5] rfl)
        have L2 : ∀ (m2 : Nat), ∀ (x18 : Int32) (x19 : Int32), fn_Md_isZero_L2 p2 n0 lenp1 vp1 r6 k9 m2 x18 x19 = some (r0, nvt_values) → ∀ (H : Heap) (locs : List Loc), va_P (dC, dI) cl_All (ww_Md_isZero qp1 qt qt_values qt_checkBytes qt_blocks qt_data qt_modules qt_fixed qt_tells qt_segmentModes qt_segmentLengths qt_modes qt_takes qt_bytes qt_words qt_block qt_tried qt_system qt_solved qt_places qt_generator qt_readBytes qt_readings cp1 ct_values lenp1 vp1 vt_thrown vt_length vt_version vt_side vt_made vt_segments vt_bits vt_filled vt_readLength vt_at vt_all vt_fault vt_good b3) H → va_D A (ww_Md_isZero qp1 qt qt_values qt_checkBytes qt_blocks qt_data qt_modules qt_fixed qt_tells qt_segmentModes qt_segmentLengths qt_modes qt_takes qt_bytes qt_words qt_block qt_tried qt_system qt_solved qt_places qt_generator qt_readBytes qt_readings cp1 ct_values lenp1 vp1 vt_thrown vt_length vt_version vt_side vt_made vt_segments vt_bits vt_filled vt_readLength vt_at vt_all vt_fault vt_good b3) → va_S A s.heap H locs → ∀ ls : Array Slot, lv_has ls 9 [(0, .ref qt), (1, .ref qp1), (2, .int p2), (3, .int p3), (4, .int x1), (5, .int x2), (6, .int r6), (7, .int x18), (8, .int x19)] → W p l e (headSpec w_Md_isZero rm_Md_isZero).room s m (([.ref qt, .ref qp1, .int p2, .int p3] : List Value).toArray) below meth c H locs 0 0 (MQ below (qc_Md_isZero dC dI A r0 qp1 qt qt_values qt_checkBytes qt_blocks qt_data qt_modules qt_fixed qt_tells qt_segmentModes qt_segmentLengths qt_modes qt_takes qt_bytes qt_words qt_block qt_tried qt_system qt_solved qt_places qt_generator qt_readBytes qt_readings cp1 ct_values lenp1 vp1 vt_thrown vt_length vt_version vt_side vt_made vt_segments vt_bits vt_filled vt_readLength vt_at vt_all vt_fault vt_good nvt_values) (([.ref qt, .ref qp1, .int p2, .int p3] : List Value).toArray) s 0 0 A) (F0 m 25 ls []) := by
          intro m2
          induction m2 with
          | zero => intro x18 x19 Hf; exact sq_none Hf
          | succ m2 ih2 =>
            intro x18 x19 Hf H locs  hP hD hS ls hl
            replace Hf := (fn_Md_isZero_L2_s p2 n0 lenp1 vp1 r6 k9 m2 x18 x19).symm.trans Hf
            refine lv_iload hx hb d_Md_isZero_25 (lv_at hl 8 rfl) ?_
            refine lv_iload_n hx hb d_Md_isZero_27 rfl (lv_at hl 2 rfl) ?_
            refine lv_icmp_ge (tgt := 51) hx hb d_Md_isZero_28 (by decide) (fun c20 => ?_) (fun c20 => ?_)
            · replace Hf := sq_ite_t Hf c20
              exact Jk9 x18 Hf _ _  hP hD hS _ (lv_sub hl [0, 1, 2, 3, 4, 5, 7] rfl)
            · replace Hf := sq_ite_f Hf c20
              refine lv_iload hx hb d_Md_isZero_31 (lv_at hl 7 rfl) ?_
              refine lv_iload hx hb d_Md_isZero_33 (lv_at hl 6 rfl) ?_
              obtain ⟨r21, hc22, Hf⟩ := sq_cb1_e Hf
              refine sq_roi (va_runS (As := [.int x18, .int r6]) (rest := []) ⟨hx, hb, hml, hown, ht⟩ (kt_Md_times l dC dI x18 r6 n0 r21 hc22) (va_cwS 2 ht (sq_gS tb_1270 tb_1271 tb_11 tb_1272) rfl rfl rfl (by decide +kernel) ⟨Nat.le_of_ble_eq_true rfl, Nat.le_of_ble_eq_true rfl⟩) (sq_roS (hP.sub (ws' := ([] : va_W)) [] rfl) (hK.sub (tys' := []) [] rfl)) rfl rfl hl.1 rfl (lv_room (Nat.le_of_ble_eq_true rfl)) d_Md_isZero_35 ⟨Nat.le_of_ble_eq_true rfl, Nat.le_of_ble_eq_true rfl⟩) ?_
              refine lv_aload_n hx hb d_Md_isZero_38 rfl (lv_at hl 1 rfl) ?_
              refine lv_iload hx hb d_Md_isZero_39 (lv_at hl 8 rfl) ?_
              obtain ⟨hi23, Hf⟩ := sq_gi_e Hf
              refine va_iald hx hb hK hP 0 0 rfl rfl hi23 d_Md_isZero_41 ?_
              obtain ⟨x24, ex24, Hf⟩ := sq_bd_e Hf
              refine sq_top ex24 ?_
              refine lv_ixor hx hb d_Md_isZero_42 ?_
              obtain ⟨x25, ex25, Hf⟩ := sq_bd_e Hf
              refine sq_top ex25 ?_
              refine lv_istore (lv' := [(7, .int x25), (0, .ref qt), (1, .ref qp1), (2, .int p2), (3, .int p3), (4, .int x1), (5, .int x2), (6, .int r6), (8, .int x19)]) hx hb d_Md_isZero_43 hl (by decide) rfl (fun ls hl => ?_)
              obtain ⟨x26, ex26, Hf⟩ := sq_bd_e Hf
              refine lv_iinc (v := x26) (lv' := [(8, .int x26), (7, .int x25), (0, .ref qt), (1, .ref qp1), (2, .int p2), (3, .int p3), (4, .int x1), (5, .int x2), (6, .int r6)]) hx hb d_Md_isZero_45 hl (k := 8) rfl (by rw [ex26]; rfl) (by decide) rfl (fun ls hl => ?_)
              refine lv_goto (tgt := 25) hx hb d_Md_isZero_48 (by decide) ?_
              exact ih2 x25 x26 Hf _ _  hP hD hS _ (lv_sub hl [2, 3, 4, 5, 6, 7, 8, 1, 0] rfl)
        exact L2 n0 (0 : Int32) (0 : Int32) Hf _ _  hP hD hS _ (lv_sub hl [3, 4, 5, 6, 7, 8, 2, 1, 0] rfl)
  exact L1 n0 (1 : Int32) (0 : Int32) vt_values Hf _ _  hP hD hS _ (lv_sub hl [2, 3, 4, 5, 1, 0] rfl)

