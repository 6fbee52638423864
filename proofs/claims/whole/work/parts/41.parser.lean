def fn_Parser_take (p1 : Int32) (vt_next : Int32) (vt_words_holds : Int32) (vt_words_bytes : Nat → Int32) : Option (Int32 × Int32) :=
  sq_cb1 (fn_Codewords_holds vt_words_holds) fun r1 => if (vt_next + p1) ≤ ((8 : Int32) * r1) then (sq_bd (vt_next >>> ((3 : Int32) &&& 31)) fun x4 => sq_cb1 (fn_Codewords_get x4 vt_words_bytes) fun r5 => sq_cb1 (fn_Codewords_get (x4 + (1 : Int32)) vt_words_bytes) fun r7 => sq_cb1 (fn_Codewords_get (x4 + (2 : Int32)) vt_words_bytes) fun r9 => sq_bd (((r5 <<< ((16 : Int32) &&& 31)) ||| (r7 <<< ((8 : Int32) &&& 31))) ||| r9) fun x11 => sq_bd (((24 : Int32) - (vt_next &&& (7 : Int32))) - p1) fun x12 => sq_bd (vt_next + p1) fun x13 => some ((x11 >>> (x12 &&& 31)) &&& (((1 : Int32) <<< (p1 &&& 31)) - (1 : Int32)), x13)) else (some ((-1 : Int32), vt_next))
abbrev ww_Parser_take (qt qt_words qt_words_bytes qt_words_field qt_words_generator qt_words_rest : Nat) (ct_words_bytes : ClassId) (vt_target : Value) (vt_version : Int32) (vt_next : Int32) (vt_size : Int32) (vt_segments : Int32) (vt_words_version : Int32) (vt_words_total : Int32) (vt_words_holds : Int32) (vt_words_blocks : Int32) (vt_words_checks : Int32) (vt_words_shortLength : Int32) (vt_words_shortBlocks : Int32) (vt_words_filled : Int32) (vt_words_waiting : Int32) (vt_words_waitingBits : Int32) (vt_words_bytes : Nat → Int32) : va_W := [(qt, .inr (5, [.ref qt_words, vt_target, .int vt_version, .int vt_next, .int vt_size, .int vt_segments])), (qt_words, .inr (3, [.ref qt_words_field, .ref qt_words_bytes, .ref qt_words_generator, .ref qt_words_rest, .int vt_words_version, .int vt_words_total, .int vt_words_holds, .int vt_words_blocks, .int vt_words_checks, .int vt_words_shortLength, .int vt_words_shortBlocks, .int vt_words_filled, .int vt_words_waiting, .int vt_words_waitingBits])), (qt_words_bytes, .inl (ct_words_bytes, 3706, .inl vt_words_bytes))]

def rm_Parser_take : Room := { frames := 1, cells := 0, slots := 0, locals := 21 }
abbrev qc_Parser_take (dC : Nat → ClassId) (dI : Nat → Nat → Nat) (A : Nat → Prop) (r0 : Int32) (qt qt_words qt_words_bytes qt_words_field qt_words_generator qt_words_rest : Nat) (ct_words_bytes : ClassId) (vt_target : Value) (vt_version : Int32) (vt_next : Int32) (vt_size : Int32) (vt_segments : Int32) (vt_words_version : Int32) (vt_words_total : Int32) (vt_words_holds : Int32) (vt_words_blocks : Int32) (vt_words_checks : Int32) (vt_words_shortLength : Int32) (vt_words_shortBlocks : Int32) (vt_words_filled : Int32) (vt_words_waiting : Int32) (vt_words_waitingBits : Int32) (vt_words_bytes : Nat → Int32) : Array Value → State → Outcome → State → Prop := va_Qi (fun r (_ : Unit) => r = r0) (fun _ t => va_P (dC, dI) cl_All (ww_Parser_take qt qt_words qt_words_bytes qt_words_field qt_words_generator qt_words_rest ct_words_bytes vt_target vt_version vt_next vt_size vt_segments vt_words_version vt_words_total vt_words_holds vt_words_blocks vt_words_checks vt_words_shortLength vt_words_shortBlocks vt_words_filled vt_words_waiting vt_words_waitingBits vt_words_bytes) t.heap ∧ va_D A (ww_Parser_take qt qt_words qt_words_bytes qt_words_field qt_words_generator qt_words_rest ct_words_bytes vt_target vt_version vt_next vt_size vt_segments vt_words_version vt_words_total vt_words_holds vt_words_blocks vt_words_checks vt_words_shortLength vt_words_shortBlocks vt_words_filled vt_words_waiting vt_words_waitingBits vt_words_bytes)) A

set_option maxHeartbeats 4000000 in
set_option maxRecDepth 100000 in
theorem kt_Parser_take (l : Launch) (dC : Nat → ClassId) (dI : Nat → Nat → Nat) (qt qt_words qt_words_bytes qt_words_field qt_words_generator qt_words_rest : Nat) (ct_words_bytes : ClassId) (vt_target : Value) (vt_version : Int32) (vt_next : Int32) (vt_size : Int32) (vt_segments : Int32) (vt_words_version : Int32) (vt_words_total : Int32) (vt_words_holds : Int32) (vt_words_blocks : Int32) (vt_words_checks : Int32) (vt_words_shortLength : Int32) (vt_words_shortBlocks : Int32) (vt_words_filled : Int32) (vt_words_waiting : Int32) (vt_words_waitingBits : Int32) (vt_words_bytes : Nat → Int32) (p1 : Int32) (sz : Nat) (r0 : Int32) (nvt_next : Int32) (Hf : fn_Parser_take p1 vt_next vt_words_holds vt_words_bytes = some (r0, nvt_next)) : Met l y_Parser_take w_Parser_take rm_Parser_take (va_Pc [.ref qt, .int p1] (fun U => U.heap.size = sz ∧ va_P (dC, dI) cl_All (ww_Parser_take qt qt_words qt_words_bytes qt_words_field qt_words_generator qt_words_rest ct_words_bytes vt_target vt_version vt_next vt_size vt_segments vt_words_version vt_words_total vt_words_holds vt_words_blocks vt_words_checks vt_words_shortLength vt_words_shortBlocks vt_words_filled vt_words_waiting vt_words_waitingBits vt_words_bytes) U.heap ∧ va_K (dC, dI) cl_All [(ct_words_bytes, .byte)] U ∧ va_D (fun _ => True) (ww_Parser_take qt qt_words qt_words_bytes qt_words_field qt_words_generator qt_words_rest ct_words_bytes vt_target vt_version vt_next vt_size vt_segments vt_words_version vt_words_total vt_words_holds vt_words_blocks vt_words_checks vt_words_shortLength vt_words_shortBlocks vt_words_filled vt_words_waiting vt_words_waitingBits vt_words_bytes))) (qc_Parser_take dC dI (va_A (ww_Parser_take qt qt_words qt_words_bytes qt_words_field qt_words_generator qt_words_rest ct_words_bytes vt_target vt_version vt_next vt_size vt_segments vt_words_version vt_words_total vt_words_holds vt_words_blocks vt_words_checks vt_words_shortLength vt_words_shortBlocks vt_words_filled vt_words_waiting vt_words_waitingBits vt_words_bytes) sz) r0 qt qt_words qt_words_bytes qt_words_field qt_words_generator qt_words_rest ct_words_bytes vt_target vt_version nvt_next vt_size vt_segments vt_words_version vt_words_total vt_words_holds vt_words_blocks vt_words_checks vt_words_shortLength vt_words_shortBlocks vt_words_filled vt_words_waiting vt_words_waitingBits vt_words_bytes) 0 0 (va_A (ww_Parser_take qt qt_words qt_words_bytes qt_words_field qt_words_generator qt_words_rest ct_words_bytes vt_target vt_version vt_next vt_size vt_segments vt_words_version vt_words_total vt_words_holds vt_words_blocks vt_words_checks vt_words_shortLength vt_words_shortBlocks vt_words_filled vt_words_waiting vt_words_waitingBits vt_words_bytes) sz) := by
  refine Met.ofW (cc := prog_10_method_4_code) (maxL := 5) (ret := (some .int)) (by decide) rfl ?_
  intro p e s m args below meth c s₁ B hml hv
  obtain ⟨rfl, hsz, hP, hK, hD0⟩ := hv
  have hx := B.exec; have hb := B.bytes; have hr := B.returns; have hlocks := B.notSynchronized
  have ht : ∀ w ∈ lw_g, w.before _ s = true := fun w h => atoms_spec (ws := w_Parser_take) B.pre w (List.mem_cons_of_mem _ h)
  have hown : s.vm.findClass "SquareSymbols$Parser" = some m.cls := findClass_of_methodNamed B.named
  subst hsz
  have hD := hD0.self (sz := s.heap.size)
  generalize hAe : va_A (ww_Parser_take qt qt_words qt_words_bytes qt_words_field qt_words_generator qt_words_rest ct_words_bytes vt_target vt_version vt_next vt_size vt_segments vt_words_version vt_words_total vt_words_holds vt_words_blocks vt_words_checks vt_words_shortLength vt_words_shortBlocks vt_words_filled vt_words_waiting vt_words_waitingBits vt_words_bytes) s.heap.size = A at hD ⊢
  have hA : ∀ q : Nat, s.heap.size ≤ q → A q := fun q h => by rw [← hAe]; exact Or.inr h
  have hS : va_S A s.heap s.heap [] := va_S.rf
  have hl := lv_entry ([.ref qt, .int p1]) (n := 5) (Nat.le_of_ble_eq_true rfl)
  rw [lg_entry_eq]
  generalize (lg_sl ([.ref qt, .int p1]) ++ List.replicate (5 - (lg_sl ([.ref qt, .int p1])).length) Slot.unset).toArray = ls at hl ⊢
  have hl : lv_has ls 5 [(0, .ref qt), (1, .int p1)] := hl
  refine lv_aload_n hx hb d_Parser_take_0 rfl (lv_at hl 0 rfl) ?_
  refine va_get (D := (dC, dI)) (ci := 5) (v := .int vt_next) (C := R_Parser) (T := F_Parser) (N := 6) hx hb ht i_Parser hown hK hP 0 rfl rfl 3 (by decide) (ht _ tb_187) (fun _ h9 => h9) rfl d_Parser_take_1 ?_
  refine lv_iload_n hx hb d_Parser_take_4 rfl (lv_at hl 1 rfl) ?_
  refine lv_iadd hx hb d_Parser_take_5 ?_
  refine lv_bipush (v := (8 : Int32)) hx hb d_Parser_take_6 (by decide) ?_
  refine lv_aload_n hx hb d_Parser_take_8 rfl (lv_at hl 0 rfl) ?_
  refine va_get (D := (dC, dI)) (ci := 5) (v := .ref qt_words) (C := R_Parser) (T := F_Parser) (N := 6) hx hb ht i_Parser hown hK hP 0 rfl rfl 0 (by decide) (ht _ tb_184) (fun _ h9 => h9) rfl d_Parser_take_9 ?_
  obtain ⟨r1, hc2, Hf⟩ := sq_cb1_e Hf
  refine sq_roi (va_runV (As := []) (rest := [.int (8 : Int32), .int (vt_next + p1)]) ⟨hx, hb, hml, hown, ht⟩ (kt_Codewords_holds l dC dI qt_words qt_words_field qt_words_bytes qt_words_generator qt_words_rest vt_words_version vt_words_total vt_words_holds vt_words_blocks vt_words_checks vt_words_shortLength vt_words_shortBlocks vt_words_filled vt_words_waiting vt_words_waitingBits r1 hc2) (cwV 0 ht (sq_gV tb_600 tb_601 tb_602 tb_5 tb_603) rfl rfl rfl (by decide +kernel) ⟨Nat.le_of_ble_eq_true rfl, Nat.le_of_ble_eq_true rfl⟩) (sq_roV (hP.sub (ws' := (ww_Codewords_holds qt_words qt_words_field qt_words_bytes qt_words_generator qt_words_rest vt_words_version vt_words_total vt_words_holds vt_words_blocks vt_words_checks vt_words_shortLength vt_words_shortBlocks vt_words_filled vt_words_waiting vt_words_waitingBits)) [1] rfl) (hK.sub (tys' := []) [] rfl) (va_recv hK hP (ci := 3) (q0 := 1) rfl rfl)) rfl rfl hl.1 rfl (lv_room (Nat.le_of_ble_eq_true rfl)) d_Parser_take_12 ⟨Nat.le_of_ble_eq_true rfl, Nat.le_of_ble_eq_true rfl⟩) ?_
  refine lv_imul hx hb d_Parser_take_15 ?_
  refine lv_icmp_le (tgt := 21) hx hb d_Parser_take_16 (by decide) (fun c3 => ?_) (fun c3 => ?_)
  · replace Hf := sq_ite_t Hf c3
    refine lv_aload_n hx hb d_Parser_take_21 rfl (lv_at hl 0 rfl) ?_
    refine va_get (D := (dC, dI)) (ci := 5) (v := .int vt_next) (C := R_Parser) (T := F_Parser) (N := 6) hx hb ht i_Parser hown hK hP 0 rfl rfl 3 (by decide) (ht _ tb_187) (fun _ h9 => h9) rfl d_Parser_take_22 ?_
    refine lv_iconst (v := (3 : Int32)) hx hb d_Parser_take_25 (by decide) ?_
    refine lv_ishr hx hb d_Parser_take_26 ?_
    obtain ⟨x4, ex4, Hf⟩ := sq_bd_e Hf
    refine sq_top ex4 ?_
    refine lv_istore_n (lv' := [(2, .int x4), (0, .ref qt), (1, .int p1)]) hx hb d_Parser_take_27 rfl hl (by decide) rfl (fun ls hl => ?_)
    refine lv_aload_n hx hb d_Parser_take_28 rfl (lv_at hl 1 rfl) ?_
    refine va_get (D := (dC, dI)) (ci := 5) (v := .ref qt_words) (C := R_Parser) (T := F_Parser) (N := 6) hx hb ht i_Parser hown hK hP 0 rfl rfl 0 (by decide) (ht _ tb_184) (fun _ h9 => h9) rfl d_Parser_take_29 ?_
    refine lv_iload_n hx hb d_Parser_take_32 rfl (lv_at hl 0 rfl) ?_
    obtain ⟨r5, hc6, Hf⟩ := sq_cb1_e Hf
    refine sq_roi (va_runV (As := [.int x4]) (rest := []) ⟨hx, hb, hml, hown, ht⟩ (kt_Codewords_get l dC dI qt_words qt_words_bytes qt_words_field qt_words_generator qt_words_rest ct_words_bytes vt_words_version vt_words_total vt_words_holds vt_words_blocks vt_words_checks vt_words_shortLength vt_words_shortBlocks vt_words_filled vt_words_waiting vt_words_waitingBits vt_words_bytes x4 r5 hc6) (cwV 1 ht (sq_gV tb_608 tb_540 tb_541 tb_5 tb_542) rfl rfl rfl (by decide +kernel) ⟨Nat.le_of_ble_eq_true rfl, Nat.le_of_ble_eq_true rfl⟩) (sq_roV (hP.sub (ws' := (ww_Codewords_get qt_words qt_words_bytes qt_words_field qt_words_generator qt_words_rest ct_words_bytes vt_words_version vt_words_total vt_words_holds vt_words_blocks vt_words_checks vt_words_shortLength vt_words_shortBlocks vt_words_filled vt_words_waiting vt_words_waitingBits vt_words_bytes)) [1, 2] rfl) (hK.sub (tys' := [(ct_words_bytes, .byte)]) [0] rfl) (va_recv hK hP (ci := 3) (q0 := 1) rfl rfl)) rfl rfl hl.1 rfl (lv_room (Nat.le_of_ble_eq_true rfl)) d_Parser_take_33 ⟨Nat.le_of_ble_eq_true rfl, Nat.le_of_ble_eq_true rfl⟩) ?_
    refine lv_bipush (v := (16 : Int32)) hx hb d_Parser_take_36 (by decide) ?_
    refine lv_ishl hx hb d_Parser_take_38 ?_
    refine lv_aload_n hx hb d_Parser_take_39 rfl (lv_at hl 1 rfl) ?_
    refine va_get (D := (dC, dI)) (ci := 5) (v := .ref qt_words) (C := R_Parser) (T := F_Parser) (N := 6) hx hb ht i_Parser hown hK hP 0 rfl rfl 0 (by decide) (ht _ tb_184) (fun _ h9 => h9) rfl d_Parser_take_40 ?_
    refine lv_iload_n hx hb d_Parser_take_43 rfl (lv_at hl 0 rfl) ?_
    refine lv_iconst (v := (1 : Int32)) hx hb d_Parser_take_44 (by decide) ?_
    refine lv_iadd hx hb d_Parser_take_45 ?_
    obtain ⟨r7, hc8, Hf⟩ := sq_cb1_e Hf
    refine sq_roi (va_runV (As := [.int (x4 + (1 : Int32))]) (rest := [.int (r5 <<< ((16 : Int32) &&& 31))]) ⟨hx, hb, hml, hown, ht⟩ (kt_Codewords_get l dC dI qt_words qt_words_bytes qt_words_field qt_words_generator qt_words_rest ct_words_bytes vt_words_version vt_words_total vt_words_holds vt_words_blocks vt_words_checks vt_words_shortLength vt_words_shortBlocks vt_words_filled vt_words_waiting vt_words_waitingBits vt_words_bytes (x4 + (1 : Int32)) r7 hc8) (cwV 1 ht (sq_gV tb_608 tb_540 tb_541 tb_5 tb_542) rfl rfl rfl (by decide +kernel) ⟨Nat.le_of_ble_eq_true rfl, Nat.le_of_ble_eq_true rfl⟩) (sq_roV (hP.sub (ws' := (ww_Codewords_get qt_words qt_words_bytes qt_words_field qt_words_generator qt_words_rest ct_words_bytes vt_words_version vt_words_total vt_words_holds vt_words_blocks vt_words_checks vt_words_shortLength vt_words_shortBlocks vt_words_filled vt_words_waiting vt_words_waitingBits vt_words_bytes)) [1, 2] rfl) (hK.sub (tys' := [(ct_words_bytes, .byte)]) [0] rfl) (va_recv hK hP (ci := 3) (q0 := 1) rfl rfl)) rfl rfl hl.1 rfl (lv_room (Nat.le_of_ble_eq_true rfl)) d_Parser_take_46 ⟨Nat.le_of_ble_eq_true rfl, Nat.le_of_ble_eq_true rfl⟩) ?_
    refine lv_bipush (v := (8 : Int32)) hx hb d_Parser_take_49 (by decide) ?_
    refine lv_ishl hx hb d_Parser_take_51 ?_
    refine lv_ior hx hb d_Parser_take_52 ?_
    refine lv_aload_n hx hb d_Parser_take_53 rfl (lv_at hl 1 rfl) ?_
    refine va_get (D := (dC, dI)) (ci := 5) (v := .ref qt_words) (C := R_Parser) (T := F_Parser) (N := 6) hx hb ht i_Parser hown hK hP 0 rfl rfl 0 (by decide) (ht _ tb_184) (fun _ h9 => h9) rfl d_Parser_take_54 ?_
    refine lv_iload_n hx hb d_Parser_take_57 rfl (lv_at hl 0 rfl) ?_
    refine lv_iconst (v := (2 : Int32)) hx hb d_Parser_take_58 (by decide) ?_
    refine lv_iadd hx hb d_Parser_take_59 ?_
    obtain ⟨r9, hc10, Hf⟩ := sq_cb1_e Hf
    refine sq_roi (va_runV (As := [.int (x4 + (2 : Int32))]) (rest := [.int ((r5 <<< ((16 : Int32) &&& 31)) ||| (r7 <<< ((8 : Int32) &&& 31)))]) ⟨hx, hb, hml, hown, ht⟩ (kt_Codewords_get l dC dI qt_words qt_words_bytes qt_words_field qt_words_generator qt_words_rest ct_words_bytes vt_words_version vt_words_total vt_words_holds vt_words_blocks vt_words_checks vt_words_shortLength vt_words_shortBlocks vt_words_filled vt_words_waiting vt_words_waitingBits vt_words_bytes (x4 + (2 : Int32)) r9 hc10) (cwV 1 ht (sq_gV tb_608 tb_540 tb_541 tb_5 tb_542) rfl rfl rfl (by decide +kernel) ⟨Nat.le_of_ble_eq_true rfl, Nat.le_of_ble_eq_true rfl⟩) (sq_roV (hP.sub (ws' := (ww_Codewords_get qt_words qt_words_bytes qt_words_field qt_words_generator qt_words_rest ct_words_bytes vt_words_version vt_words_total vt_words_holds vt_words_blocks vt_words_checks vt_words_shortLength vt_words_shortBlocks vt_words_filled vt_words_waiting vt_words_waitingBits vt_words_bytes)) [1, 2] rfl) (hK.sub (tys' := [(ct_words_bytes, .byte)]) [0] rfl) (va_recv hK hP (ci := 3) (q0 := 1) rfl rfl)) rfl rfl hl.1 rfl (lv_room (Nat.le_of_ble_eq_true rfl)) d_Parser_take_60 ⟨Nat.le_of_ble_eq_true rfl, Nat.le_of_ble_eq_true rfl⟩) ?_
    refine lv_ior hx hb d_Parser_take_63 ?_
    obtain ⟨x11, ex11, Hf⟩ := sq_bd_e Hf
    refine sq_top ex11 ?_
    refine lv_istore_n (lv' := [(3, .int x11), (2, .int x4), (0, .ref qt), (1, .int p1)]) hx hb d_Parser_take_64 rfl hl (by decide) rfl (fun ls hl => ?_)
    refine lv_bipush (v := (24 : Int32)) hx hb d_Parser_take_65 (by decide) ?_
    refine lv_aload_n hx hb d_Parser_take_67 rfl (lv_at hl 2 rfl) ?_
    refine va_get (D := (dC, dI)) (ci := 5) (v := .int vt_next) (C := R_Parser) (T := F_Parser) (N := 6) hx hb ht i_Parser hown hK hP 0 rfl rfl 3 (by decide) (ht _ tb_187) (fun _ h9 => h9) rfl d_Parser_take_68 ?_
    refine lv_bipush (v := (7 : Int32)) hx hb d_Parser_take_71 (by decide) ?_
    refine lv_iand hx hb d_Parser_take_73 ?_
    refine lv_isub hx hb d_Parser_take_74 ?_
    refine lv_iload_n hx hb d_Parser_take_75 rfl (lv_at hl 3 rfl) ?_
    refine lv_isub hx hb d_Parser_take_76 ?_
    obtain ⟨x12, ex12, Hf⟩ := sq_bd_e Hf
    refine sq_top ex12 ?_
    refine lv_istore (lv' := [(4, .int x12), (3, .int x11), (2, .int x4), (0, .ref qt), (1, .int p1)]) hx hb d_Parser_take_77 hl (by decide) rfl (fun ls hl => ?_)
    refine lv_aload_n hx hb d_Parser_take_79 rfl (lv_at hl 3 rfl) ?_
    refine lv_dup hx hb d_Parser_take_80 rfl ?_
    refine va_get (D := (dC, dI)) (ci := 5) (v := .int vt_next) (C := R_Parser) (T := F_Parser) (N := 6) hx hb ht i_Parser hown hK hP 0 rfl rfl 3 (by decide) (ht _ tb_187) (fun _ h9 => h9) rfl d_Parser_take_81 ?_
    refine lv_iload_n hx hb d_Parser_take_84 rfl (lv_at hl 4 rfl) ?_
    refine lv_iadd hx hb d_Parser_take_85 ?_
    obtain ⟨x13, ex13, Hf⟩ := sq_bd_e Hf
    refine sq_top ex13 ?_
    refine va_put (D := (dC, dI)) (ci := 5) (v := .int x13) (ty := .int) (C := R_Parser) (T := F_Parser) (N := 6) hx hb ht i_Parser t_Parser t_Parser_ok n_Parser hown hK hP hD hS 0 rfl rfl 3 (by decide) (ht _ tb_187) (fun _ h9 => h9) rfl (by decide +kernel) rfl rfl (Nat.le_of_ble_eq_true rfl) d_Parser_take_86 (fun H locs hP hD hS => ?_)
    replace hP : va_P (dC, dI) cl_All (ww_Parser_take qt qt_words qt_words_bytes qt_words_field qt_words_generator qt_words_rest ct_words_bytes vt_target vt_version x13 vt_size vt_segments vt_words_version vt_words_total vt_words_holds vt_words_blocks vt_words_checks vt_words_shortLength vt_words_shortBlocks vt_words_filled vt_words_waiting vt_words_waitingBits vt_words_bytes) H := hP
    replace hD : va_D A (ww_Parser_take qt qt_words qt_words_bytes qt_words_field qt_words_generator qt_words_rest ct_words_bytes vt_target vt_version x13 vt_size vt_segments vt_words_version vt_words_total vt_words_holds vt_words_blocks vt_words_checks vt_words_shortLength vt_words_shortBlocks vt_words_filled vt_words_waiting vt_words_waitingBits vt_words_bytes) := hD
    refine lv_iload_n hx hb d_Parser_take_89 rfl (lv_at hl 1 rfl) ?_
    refine lv_iload hx hb d_Parser_take_90 (lv_at hl 0 rfl) ?_
    refine lv_ishr hx hb d_Parser_take_92 ?_
    refine lv_iconst (v := (1 : Int32)) hx hb d_Parser_take_93 (by decide) ?_
    refine lv_iload_n hx hb d_Parser_take_94 rfl (lv_at hl 4 rfl) ?_
    refine lv_ishl hx hb d_Parser_take_95 ?_
    refine lv_iconst (v := (1 : Int32)) hx hb d_Parser_take_96 (by decide) ?_
    refine lv_isub hx hb d_Parser_take_97 ?_
    refine lv_iand hx hb d_Parser_take_98 ?_
    obtain ⟨rfl, rfl⟩ := sq_so2 Hf
    exact W.iret hx hb hr (fun t ht hW => ⟨⟨_, (), rfl, rfl, by rw [ht]; exact hP, hD⟩, hS.F ht⟩) hS.2.2 d_Parser_take_99
  · replace Hf := sq_ite_f Hf c3
    refine lv_iconst (v := (-1 : Int32)) hx hb d_Parser_take_19 (by decide) ?_
    obtain ⟨rfl, rfl⟩ := sq_so2 Hf
    exact W.iret hx hb hr (fun t ht hW => ⟨⟨_, (), rfl, rfl, by rw [ht]; exact hP, hD⟩, hS.F ht⟩) hS.2.2 d_Parser_take_20

def fn_Parser_segments (vt_segments : Int32) : Option (Int32) :=
  some (vt_segments)
abbrev ww_Parser_segments (qt qt_words : Nat) (vt_target : Value) (vt_version : Int32) (vt_next : Int32) (vt_size : Int32) (vt_segments : Int32) : va_W := [(qt, .inr (5, [.ref qt_words, vt_target, .int vt_version, .int vt_next, .int vt_size, .int vt_segments]))]

def rm_Parser_segments : Room := { frames := 0, cells := 0, slots := 0, locals := 0 }
abbrev qc_Parser_segments (r0 : Int32) : Array Value → State → Outcome → State → Prop := vp_Si (fun r => r = r0)

set_option maxHeartbeats 4000000 in
set_option maxRecDepth 100000 in
theorem kt_Parser_segments (l : Launch) (dC : Nat → ClassId) (dI : Nat → Nat → Nat) (qt qt_words : Nat) (vt_target : Value) (vt_version : Int32) (vt_next : Int32) (vt_size : Int32) (vt_segments : Int32) (r0 : Int32) (Hf : fn_Parser_segments vt_segments = some r0) : Met l y_Parser_segments w_Parser_segments rm_Parser_segments (va_Pc [.ref qt] (fun U => va_P (dC, dI) cl_All (ww_Parser_segments qt qt_words vt_target vt_version vt_next vt_size vt_segments) U.heap ∧ va_K (dC, dI) cl_All [] U)) (qc_Parser_segments r0) 0 0 (fun _ => False) := by
  refine Met.ofW (cc := prog_10_method_2_code) (maxL := 1) (ret := (some .int)) (by decide) rfl ?_
  intro p e s m args below meth c s₁ B hml hv
  obtain ⟨rfl, hP, hK⟩ := hv
  have hx := B.exec; have hb := B.bytes; have hr := B.returns; have hlocks := B.notSynchronized
  have ht : ∀ w ∈ lw_g, w.before _ s = true := fun w h => atoms_spec (ws := w_Parser_segments) B.pre w (List.mem_cons_of_mem _ h)
  have hown : s.vm.findClass "SquareSymbols$Parser" = some m.cls := findClass_of_methodNamed B.named
  have hl := lv_entry ([.ref qt]) (n := 1) (Nat.le_of_ble_eq_true rfl)
  rw [lg_entry_eq]
  generalize (lg_sl ([.ref qt]) ++ List.replicate (1 - (lg_sl ([.ref qt])).length) Slot.unset).toArray = ls at hl ⊢
  have hl : lv_has ls 1 [(0, .ref qt)] := hl
  refine lv_aload_n hx hb d_Parser_segments_0 rfl (lv_at hl 0 rfl) ?_
  refine va_get (D := (dC, dI)) (ci := 5) (v := .int vt_segments) (C := R_Parser) (T := F_Parser) (N := 6) hx hb ht i_Parser hown hK hP 0 rfl rfl 5 (by decide) (ht _ tb_189) (fun _ h9 => h9) rfl d_Parser_segments_1 ?_
  have er := Option.some.inj Hf
  exact W.iret hx hb hr (fun t ht hW => ⟨_, rfl, er, ht⟩) (fun q h => by cases h) d_Parser_segments_4

